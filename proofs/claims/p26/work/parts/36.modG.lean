/-! THE REFERENCE: what is remembered, and some counts -/
def mh_push (h : List (List mq_K × Int)) (x : List mq_K × Int) : List (List mq_K × Int) := (if h.length = 6 then h.drop 1 else h) ++ [x]
def mf_rol (q : List mq_K) (a b c : Int) : List mq_K × Int := if c % (b - a + 1) = 0 then (q, 0) else mq_mov q a.toNat (c % (b - a + 1)).toNat (b + 1 - c % (b - a + 1)).toNat
theorem mf_tmod (v n : Int) (h : 0 < n) : (0 ≤ v.tmod n → v.tmod n = v % n) ∧ (v.tmod n < 0 → v.tmod n + n = v % n) ∧ -n < v.tmod n ∧ v.tmod n < n ∧ 0 ≤ v % n ∧ v % n < n := by
  have h1 := Int.emod_nonneg v (b := n) (by omega)
  have h2 := Int.emod_lt_of_pos v h
  have e := Int.tmod_eq_emod (a := v) (b := n)
  split at e <;> omega
