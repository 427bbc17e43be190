/-! THE ROW AS LISTS: a chunk: what is kept, whether a turn waits (1), the sum that waits -/
abbrev mq_K : Type := List Int × Int × Int
def mq_row (k : mq_K) : List Int := (if k.2.1 = 1 then k.1.reverse else k.1).map (fun x => x + k.2.2)
def mq_len (k : mq_K) : Int := k.1.length
def mq_flat (q : List mq_K) : List Int := q.flatMap (fun k => k.1)
def mq_all (q : List mq_K) : List Int := q.flatMap mq_row
def mq_cost (k : mq_K) : Int := if k.2.1 = 0 ∧ k.2.2 = 0 then 0 else k.1.length
/-- a row's list -/
def mq_al (f : Int → Int) (l : List Int) : Prop := ∀ (i : Nat) (x : Int), l[i]? = some x → f i = x
/-- an object of the class holds the chunks q -/
def mq_R (r : rw_T) (q : List mq_K) : Prop := mq_al r.1 (mq_flat q) ∧ mq_al r.2.1 (q.map mq_len) ∧ mq_al r.2.2.1 (q.map (fun k => k.2.1)) ∧ mq_al r.2.2.2.1 (q.map (fun k => k.2.2)) ∧ r.2.2.2.2.1 = (mq_flat q).length ∧ r.2.2.2.2.2.1 = q.length
/-- a chunk as it may be -/
def mq_ok (k : mq_K) : Prop := 0 < k.1.length ∧ (k.2.1 = 0 ∨ k.2.1 = 1) ∧ (∀ x ∈ k.1, -99999 ≤ x ∧ x ≤ 99999) ∧ (∀ x ∈ mq_row k, -99999 ≤ x ∧ x ≤ 99999)
def mq_W (q : List mq_K) : Prop := (∀ k ∈ q, mq_ok k) ∧ (mq_flat q).length ≤ 60
theorem mq_flat_app (a b : List mq_K) : mq_flat (a ++ b) = mq_flat a ++ mq_flat b := List.flatMap_append
theorem mq_flat_cons (k : mq_K) (b : List mq_K) : mq_flat (k :: b) = k.1 ++ mq_flat b := List.flatMap_cons
theorem mq_all_app (a b : List mq_K) : mq_all (a ++ b) = mq_all a ++ mq_all b := List.flatMap_append
theorem mq_all_cons (k : mq_K) (b : List mq_K) : mq_all (k :: b) = mq_row k ++ mq_all b := List.flatMap_cons
theorem mq_row_len (k : mq_K) : (mq_row k).length = k.1.length := by
  unfold mq_row
  rw [List.length_map]
  split
  · exact List.length_reverse
  · rfl
theorem mq_all_len : ∀ q : List mq_K, (mq_all q).length = (mq_flat q).length
  | [] => rfl
  | k :: q => by rw [mq_all_cons, mq_flat_cons, List.length_append, List.length_append, mq_row_len, mq_all_len q]
theorem mq_row_done (l : List Int) : mq_row (l, 0, 0) = l := by
  unfold mq_row
  rw [if_neg (show ¬ ((0 : Int) = 1) by decide)]
  simp
theorem mq_cost_0 {k : mq_K} (h : k.2.1 = 0) (h2 : k.2.2 = 0) : mq_row k = k.1 ∧ mq_cost k = 0 ∧ k = (mq_row k, 0, 0) := by
  obtain ⟨l, t, u⟩ := k
  dsimp only at h h2
  subst h; subst h2
  rw [mq_row_done]
  exact ⟨rfl, by unfold mq_cost; rw [if_pos ⟨rfl, rfl⟩], rfl⟩
theorem mq_flat_pos : ∀ {q : List mq_K}, (∀ k ∈ q, mq_ok k) → q.length ≤ (mq_flat q).length
  | [], _ => Nat.le_refl 0
  | k :: q, h => by
    have h1 := (h k List.mem_cons_self).1
    have h2 := mq_flat_pos (q := q) (fun k hk => h k (List.mem_cons_of_mem _ hk))
    rw [mq_flat_cons, List.length_append, List.length_cons]
    omega
theorem mq_W.chunks {q : List mq_K} (h : mq_W q) : q.length ≤ 60 := Nat.le_trans (mq_flat_pos h.1) h.2
theorem mq_take_succ {q : List mq_K} {c : Nat} {k : mq_K} (h : q[c]? = some k) : (mq_flat (q.take (c + 1))).length = (mq_flat (q.take c)).length + k.1.length := by
  rw [List.take_succ, h, mq_flat_app, List.length_append]
  congr 1
  show (mq_flat [k]).length = _
  rw [mq_flat_cons, List.length_append]
  simp [mq_flat]
theorem mq_take_le (q : List mq_K) (c : Nat) : (mq_flat (q.take c)).length ≤ (mq_flat q).length := by
  conv => rhs; rw [← List.take_append_drop c q]
  rw [mq_flat_app, List.length_append]
  omega
/-- q at a chunk -/
theorem mq_split {q : List mq_K} {c : Nat} (h : c < q.length) : ∃ k, q[c]? = some k ∧ q = q.take c ++ k :: q.drop (c + 1) := by
  refine ⟨q[c], List.getElem?_eq_getElem h, ?_⟩
  conv => lhs; rw [← List.take_append_drop c q]
  rw [List.drop_eq_getElem_cons h]
theorem mq_R.len {r : rw_T} {q : List mq_K} (h : mq_R r q) {c : Nat} {k : mq_K} (hc : q[c]? = some k) : r.2.1 c = k.1.length := h.2.1 c _ (by rw [List.getElem?_map, hc]; rfl)
theorem mq_R.turn {r : rw_T} {q : List mq_K} (h : mq_R r q) {c : Nat} {k : mq_K} (hc : q[c]? = some k) : r.2.2.1 c = k.2.1 := h.2.2.1 c _ (by rw [List.getElem?_map, hc]; rfl)
theorem mq_R.sum {r : rw_T} {q : List mq_K} (h : mq_R r q) {c : Nat} {k : mq_K} (hc : q[c]? = some k) : r.2.2.2.1 c = k.2.2 := h.2.2.2.1 c _ (by rw [List.getElem?_map, hc]; rfl)
theorem mq_app_at {A B : List Int} {j : Nat} {x : Int} (h : B[j]? = some x) : (A ++ B)[A.length + j]? = some x := by
  rw [List.getElem?_append_right (by omega)]
  rw [show A.length + j - A.length = j by omega]
  exact h
/-- where a chunk's numbers are kept -/
theorem mq_R.kept {r : rw_T} {A B : List mq_K} {k : mq_K} (h : mq_R r (A ++ k :: B)) {j : Nat} {x : Int} (hj : k.1[j]? = some x) : r.1 ((mq_flat A).length + j : Nat) = x := by
  refine h.1 _ x ?_
  rw [mq_flat_app, mq_flat_cons]
  refine mq_app_at ?_
  rw [List.getElem?_append_left (List.getElem?_eq_some_iff.mp hj).1]
  exact hj
theorem mq_row_at {k : mq_K} {j : Nat} {x : Int} (hx : (mq_row k)[j]? = some x) : ∃ y, k.1[if k.2.1 = 1 then k.1.length - 1 - j else j]? = some y ∧ x = y + k.2.2 := by
  unfold mq_row at hx
  rw [List.getElem?_map] at hx
  split at hx
  · next e =>
    rw [if_pos e]
    cases hy : k.1.reverse[j]? with
    | none => rw [hy] at hx; cases hx
    | some y =>
      rw [hy] at hx
      have hl := (List.getElem?_eq_some_iff.mp hy).1
      rw [List.length_reverse] at hl
      rw [List.getElem?_reverse hl] at hy
      exact ⟨y, hy, (Option.some.inj hx).symm⟩
  · next e =>
    rw [if_neg e]
    cases hy : k.1[j]? with
    | none => rw [hy] at hx; cases hx
    | some y =>
      rw [hy] at hx
      exact ⟨y, rfl, (Option.some.inj hx).symm⟩
/-- the chunk in which a place lies -/
theorem mq_hold : ∀ {q : List mq_K} {p : Nat}, p < (mq_flat q).length → ∃ (A : List mq_K) (k : mq_K) (B : List mq_K), q = A ++ k :: B ∧ (mq_flat A).length ≤ p ∧ p < (mq_flat A).length + k.1.length
  | [], p, h => by cases h
  | k :: q, p, h => by
    rw [mq_flat_cons, List.length_append] at h
    by_cases h1 : p < k.1.length
    · exact ⟨[], k, q, rfl, Nat.zero_le _, by simp [mq_flat]; exact h1⟩
    · obtain ⟨A, k', B, e, h2, h3⟩ := mq_hold (q := q) (p := p - k.1.length) (by omega)
      refine ⟨k :: A, k', B, by rw [e]; rfl, ?_, ?_⟩ <;> rw [mq_flat_cons, List.length_append] <;> omega
theorem mq_take_app (A : List mq_K) (k : mq_K) (B : List mq_K) : (A ++ k :: B).take A.length = A := by simp
theorem mq_at_app (A : List mq_K) (k : mq_K) (B : List mq_K) : (A ++ k :: B)[A.length]? = some k := by simp
def mq_mir (f : Int → Int) (lo hi : Int) : Int → Int := fun j => if lo ≤ j ∧ j < hi then f (lo + hi - 1 - j) else f j
def mq_ins (f : Int → Int) (n k x : Int) : Int → Int := fun j => if j = k then x else if k < j ∧ j ≤ n then f (j - 1) else f j
def mq_del (f : Int → Int) (n k : Int) : Int → Int := fun j => if k ≤ j ∧ j < n - 1 then f (j + 1) else f j

