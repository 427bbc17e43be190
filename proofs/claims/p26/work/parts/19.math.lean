/-! THE ERRORS OF CHANGES, BY THE CHUNKS -/
def mq_n (q : List mq_K) : Int := (mq_flat q).length
abbrev mq_pl (q : List mq_K) (p : Int) : Prop := 0 ≤ p ∧ p < mq_n q
abbrev mq_vl (v : Int) : Prop := -999 ≤ v ∧ v ≤ 999
def mq_eSpan (q : List mq_K) (a b : Int) : Int := if mq_pl q a then (if mq_pl q b then (if b < a then -2 else 0) else -1) else -1
def mq_ePut (q : List mq_K) (p v : Int) : Int := if 0 ≤ p ∧ p ≤ mq_n q then (if mq_vl v then (if mq_n q = 60 then -4 else 0) else -2) else -1
def mq_eCut (q : List mq_K) (p : Int) : Int := if mq_pl q p then 0 else -1
def mq_eSet (q : List mq_K) (p v : Int) : Int := if mq_pl q p then (if mq_vl v then 0 else -2) else -1
def mq_eBy (q : List mq_K) (a b v : Int) : Int := if mq_eSpan q a b = 0 then (if mq_vl v then 0 else -2) else mq_eSpan q a b
def mq_sp (q : List mq_K) (a b : Int) : List Int := ((mq_all q).drop a.toNat).take (b + 1 - a).toNat
def mq_fits (v : Int) (l : List Int) : Bool := l.all (fun x => decide (-99999 ≤ x + v ∧ x + v ≤ 99999))
def mq_eAdd (q : List mq_K) (a b v : Int) : Int := if mq_eBy q a b v = 0 then (if mq_fits v (mq_sp q a b) = true then 0 else -5) else mq_eBy q a b v
def mq_eMove (q : List mq_K) (a b p : Int) : Int := if mq_eSpan q a b = 0 then (if 0 ≤ p ∧ p ≤ mq_n q - (b - a + 1) then 0 else -2) else mq_eSpan q a b
theorem mq_eSpan_0 {q : List mq_K} {a b : Int} (h : mq_eSpan q a b = 0) : 0 ≤ a ∧ a ≤ b ∧ b < mq_n q := by
  unfold mq_eSpan mq_pl at h
  split at h
  · split at h
    · split at h
      · omega
      · omega
    · omega
  · omega
theorem mq_eSpan_in (q : List mq_K) (a b : Int) : mq_eSpan q a b = 0 ∨ mq_eSpan q a b = -1 ∨ mq_eSpan q a b = -2 := by
  unfold mq_eSpan
  split
  · split
    · split <;> simp
    · simp
  · simp
theorem mq_eBy_in (q : List mq_K) (a b v : Int) : mq_eBy q a b v = 0 ∨ mq_eBy q a b v = -1 ∨ mq_eBy q a b v = -2 := by
  unfold mq_eBy
  split
  · split <;> simp
  · exact mq_eSpan_in q a b
theorem mq_eBy_0 {q : List mq_K} {a b v : Int} (h : mq_eBy q a b v = 0) : mq_eSpan q a b = 0 ∧ mq_vl v := by
  unfold mq_eBy at h
  split at h
  · next h1 =>
    split at h
    · next h2 => exact ⟨h1, h2⟩
    · omega
  · next h1 => exact absurd h h1
theorem mq_sp_at {q : List mq_K} {a p : Int} {b : Int} (h0 : 0 ≤ a) (h1 : a ≤ p) (h2 : p ≤ b) (h3 : b < mq_n q) : ∃ x, (mq_all q)[p.toNat]? = some x ∧ mq_sp q a b = mq_sp q a (p - 1) ++ x :: mq_sp q (p + 1) b := by
  have hl : p.toNat < (mq_all q).length := by rw [mq_all_len]; unfold mq_n at h3; omega
  refine ⟨(mq_all q)[p.toNat], List.getElem?_eq_getElem hl, ?_⟩
  unfold mq_sp
  rw [show (b + 1 - a).toNat = (p - 1 + 1 - a).toNat + (1 + (b + 1 - (p + 1)).toNat) by omega, List.take_add, List.drop_drop, show a.toNat + (p - 1 + 1 - a).toNat = p.toNat by omega, List.drop_eq_getElem_cons hl, Nat.add_comm 1, List.take_succ_cons, show (p + 1).toNat = p.toNat + 1 by omega]
theorem mq_sp_nil (q : List mq_K) (p b : Int) (h : b < p) : mq_sp q p b = [] := by
  unfold mq_sp
  rw [show (b + 1 - p).toNat = 0 by omega]; rfl
theorem mq_sp_cons {q : List mq_K} {p b : Int} (h0 : 0 ≤ p) (h2 : p ≤ b) (h3 : b < mq_n q) : ∃ x, (mq_all q)[p.toNat]? = some x ∧ mq_sp q p b = x :: mq_sp q (p + 1) b := by
  obtain ⟨x, h, e⟩ := mq_sp_at h0 (Int.le_refl p) h2 h3
  rw [mq_sp_nil q p (p - 1) (by omega)] at e
  exact ⟨x, h, e⟩
theorem mq_all_in {q : List mq_K} (hW : mq_W q) : ∀ x ∈ mq_all q, -99999 ≤ x ∧ x ≤ 99999 := fun x hx => by
  obtain ⟨k, hk, hx⟩ := List.mem_flatMap.mp hx
  exact (hW.1 k hk).2.2.2 x hx

