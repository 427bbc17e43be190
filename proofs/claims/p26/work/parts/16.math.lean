/-! SPANS -/
theorem mq_cut_app : ∀ {A : List mq_K} {B : List mq_K} {d : Nat}, (∀ k ∈ A, mq_ok k) → mq_cut (A ++ B) ((mq_flat A).length + d) = (A ++ (mq_cut B d).1, (mq_cut B d).2)
  | [], B, d, _ => by simp [mq_flat]
  | k :: A, B, d, h => by
    have hk := (h k List.mem_cons_self).1
    have ih := mq_cut_app (A := A) (B := B) (d := d) (fun x hx => h x (List.mem_cons_of_mem _ hx))
    rw [mq_flat_cons, List.length_append, List.cons_append]
    conv => lhs; unfold mq_cut
    rw [if_neg (by omega), if_neg (by omega), show k.1.length + (mq_flat A).length + d - k.1.length = (mq_flat A).length + d by omega, ih]
    rfl
theorem mq_cut_0 (B : List mq_K) : mq_cut B 0 = ([], B, 0) := by
  cases B with
  | nil => rfl
  | cons k B => unfold mq_cut; rw [if_pos rfl]
theorem mq_cut_at {A B : List mq_K} (h : ∀ k ∈ A, mq_ok k) : mq_cut (A ++ B) (mq_flat A).length = (A, B, 0) := by
  have := mq_cut_app (B := B) (d := 0) h
  rw [mq_cut_0, Nat.add_zero, List.append_nil] at this
  exact this
theorem mq_cut_left : ∀ {A C : List mq_K} {d : Nat}, (∀ k ∈ A, mq_ok k) → d ≤ (mq_flat A).length → mq_cut (A ++ C) d = ((mq_cut A d).1, (mq_cut A d).2.1 ++ C, (mq_cut A d).2.2)
  | [], C, d, _, hd => by
    have : d = 0 := by simpa [mq_flat] using hd
    subst this
    rw [List.nil_append, mq_cut_0, mq_cut_0]
    rfl
  | k :: A, C, d, h, hd => by
    have hk := (h k List.mem_cons_self).1
    rw [mq_flat_cons, List.length_append] at hd
    rw [List.cons_append]
    unfold mq_cut
    split
    · rfl
    · split
      · rfl
      · rw [mq_cut_left (fun x hx => h x (List.mem_cons_of_mem _ hx)) (by omega)]
theorem mq_cut_1 {B : List mq_K} (h : ∀ k ∈ B, mq_ok k) (h0 : 0 < (mq_flat B).length) : ∃ k, (mq_cut B 1).1 = [k] ∧ k.1.length = 1 := by
  cases B with
  | nil => simp [mq_flat] at h0
  | cons k B =>
    have hk := (h k List.mem_cons_self).1
    unfold mq_cut
    rw [if_neg (by omega)]
    split
    · next e => exact ⟨_, rfl, by simp [mq_row_len]; omega⟩
    · next e =>
      have e1 : 1 - k.1.length = 0 := by omega
      rw [e1, mq_cut_0]
      exact ⟨k, rfl, by omega⟩
theorem mq_R_put {K L T S : Int → Int} {n c w w' : Int} {A B : List mq_K} {v : Int} (h : mq_R (K, L, T, S, n, c, w) (A ++ B)) :
    mq_R (mq_ins K n (mq_flat A).length v, mq_ins L c A.length 1, mq_ins T c A.length 0, mq_ins S c A.length 0, n + 1, c + 1, w') (A ++ ([v], 0, 0) :: B) := by
  obtain ⟨r1, r2, r3, r4, r5, r6⟩ := h
  dsimp only at r1 r2 r3 r4 r5 r6
  rw [List.map_append] at r2 r3 r4
  rw [mq_flat_app] at r1 r5
  rw [List.length_append] at r5 r6
  refine ⟨?_, ?_, ?_, ?_, ?_, ?_⟩ <;> dsimp only
  · rw [mq_flat_mid]
    show mq_al _ (mq_flat A ++ v :: mq_flat B)
    exact mq_al_ins r1 (by omega) rfl
  · rw [mq_map_mid]
    exact mq_al_ins r2 (by simp; omega) (by simp)
  · rw [mq_map_mid]
    exact mq_al_ins r3 (by simp; omega) (by simp)
  · rw [mq_map_mid]
    exact mq_al_ins r4 (by simp; omega) (by simp)
  · rw [r5, mq_flat_mid]; simp; omega
  · rw [r6]; simp; omega
theorem mq_R_take {K L T S : Int → Int} {n c w w' : Int} {A B : List mq_K} {k : mq_K} (h : mq_R (K, L, T, S, n, c, w) (A ++ k :: B)) (hk : k.1.length = 1) :
    mq_R (mq_del K n (mq_flat A).length, mq_del L c A.length, mq_del T c A.length, mq_del S c A.length, n - 1, c - 1, w') (A ++ B) := by
  obtain ⟨r1, r2, r3, r4, r5, r6⟩ := h
  dsimp only at r1 r2 r3 r4 r5 r6
  rw [mq_map_mid] at r2 r3 r4
  rw [mq_flat_mid] at r1 r5
  rw [List.length_append, List.length_append] at r5
  rw [List.length_append, List.length_cons] at r6
  obtain ⟨x, hx⟩ := List.length_eq_one_iff.mp hk
  rw [hx] at r1
  refine ⟨?_, ?_, ?_, ?_, ?_, ?_⟩ <;> dsimp only
  · rw [mq_flat_app]
    exact mq_al_del r1 (by omega) rfl
  · rw [List.map_append]
    exact mq_al_del r2 (by simp; omega) (by simp)
  · rw [List.map_append]
    exact mq_al_del r3 (by simp; omega) (by simp)
  · rw [List.map_append]
    exact mq_al_del r4 (by simp; omega) (by simp)
  · rw [r5, mq_flat_app]; simp; omega
  · rw [r6]; simp; omega
/-- a number is set -/
def mq_set : List mq_K → Nat → Int → List mq_K × Int
  | [], _, _ => ([], 0)
  | k :: q, d, v => if d < k.1.length then (((mq_row k).set d v, 0, 0) :: q, mq_cost k + 1) else (k :: (mq_set q (d - k.1.length) v).1, (mq_set q (d - k.1.length) v).2)
theorem mq_set_app : ∀ {A : List mq_K} {k : mq_K} {B : List mq_K} {d : Nat} {v : Int}, d < k.1.length → mq_set (A ++ k :: B) ((mq_flat A).length + d) v = (A ++ ((mq_row k).set d v, 0, 0) :: B, mq_cost k + 1)
  | [], k, B, d, v, h => by
    simp only [mq_flat, List.flatMap_nil, List.length_nil, Nat.zero_add, List.nil_append]
    unfold mq_set
    rw [if_pos h]
  | a :: A, k, B, d, v, h => by
    have ih := mq_set_app (A := A) (B := B) (v := v) h
    rw [mq_flat_cons, List.length_append, List.cons_append]
    conv => lhs; unfold mq_set
    rw [if_neg (by omega), show a.1.length + (mq_flat A).length + d - a.1.length = (mq_flat A).length + d by omega, ih]
    rfl
/-- a span: what is ahead, the span, what is behind, the work -/
def mq_span (q : List mq_K) (f n : Nat) : List mq_K × List mq_K × List mq_K × Int := ((mq_cut q f).1, (mq_cut (mq_cut q f).2.1 n).1, (mq_cut (mq_cut q f).2.1 n).2.1, (mq_cut q f).2.2 + (mq_cut (mq_cut q f).2.1 n).2.2)
def mq_flip (k : mq_K) : mq_K := (k.1, 1 - k.2.1, k.2.2)
def mq_addk (v : Int) (k : mq_K) : mq_K := (k.1, k.2.1, k.2.2 + v)
def mq_put (q : List mq_K) (d : Nat) (v : Int) : List mq_K × Int := ((mq_cut q d).1 ++ ([v], 0, 0) :: (mq_cut q d).2.1, (mq_cut q d).2.2 + 1)
def mq_tak (q : List mq_K) (d : Nat) : List mq_K × Int := ((mq_span q d 1).1 ++ (mq_span q d 1).2.2.1, (mq_span q d 1).2.2.2)
def mq_trn (q : List mq_K) (f n : Nat) : List mq_K × Int := ((mq_span q f n).1 ++ ((mq_span q f n).2.1.reverse.map mq_flip ++ (mq_span q f n).2.2.1), (mq_span q f n).2.2.2)
def mq_add (q : List mq_K) (f n : Nat) (v : Int) : List mq_K × Int := ((mq_span q f n).1 ++ ((mq_span q f n).2.1.map (mq_addk v) ++ (mq_span q f n).2.2.1), (mq_span q f n).2.2.2)
def mq_mov (q : List mq_K) (f n p : Nat) : List mq_K × Int := ((mq_cut ((mq_span q f n).1 ++ (mq_span q f n).2.2.1) p).1 ++ ((mq_span q f n).2.1 ++ (mq_cut ((mq_span q f n).1 ++ (mq_span q f n).2.2.1) p).2.1), (mq_span q f n).2.2.2 + (mq_cut ((mq_span q f n).1 ++ (mq_span q f n).2.2.1) p).2.2)
/-- what a span is -/
theorem mq_span_in {q : List mq_K} {f n : Nat} (hW : mq_W q) (hfn : f + n ≤ (mq_flat q).length) : (mq_flat (mq_span q f n).1).length = f ∧ (mq_flat (mq_span q f n).2.1).length = n ∧ (mq_flat (mq_span q f n).2.2.1).length = (mq_flat q).length - f - n ∧ (∀ k ∈ (mq_span q f n).1, mq_ok k) ∧ (∀ k ∈ (mq_span q f n).2.1, mq_ok k) ∧ (∀ k ∈ (mq_span q f n).2.2.1, mq_ok k) ∧
    mq_all (mq_span q f n).1 ++ (mq_all (mq_span q f n).2.1 ++ mq_all (mq_span q f n).2.2.1) = mq_all q := by
  obtain ⟨a1, a2⟩ := mq_cut_len (q := q) (d := f) (by omega)
  obtain ⟨b1, b2⟩ := mq_cut_ok (d := f) hW.1
  obtain ⟨c1, c2⟩ := mq_cut_len (q := (mq_cut q f).2.1) (d := n) (by omega)
  obtain ⟨d1, d2⟩ := mq_cut_ok (d := n) b2
  refine ⟨a1, c1, by unfold mq_span; dsimp only; omega, b1, d1, d2, ?_⟩
  unfold mq_span
  dsimp only
  rw [mq_cut_all, mq_cut_all]
theorem mq_span_W {q : List mq_K} {f n : Nat} (hW : mq_W q) (hfn : f + n ≤ (mq_flat q).length) : mq_W ((mq_span q f n).1 ++ ((mq_span q f n).2.1 ++ (mq_span q f n).2.2.1)) := by
  obtain ⟨-, -, -, o1, o2, o3, h⟩ := mq_span_in hW hfn
  refine mq_W_all hW (fun k hk => ?_) (by rw [mq_all_app, mq_all_app]; exact h)
  rcases List.mem_append.mp hk with hk | hk
  · exact o1 k hk
  · rcases List.mem_append.mp hk with hk | hk
    · exact o2 k hk
    · exact o3 k hk
theorem mq_al_mir {f : Int → Int} {X Y Z : List Int} {a b : Int} (h : mq_al f (X ++ (Y ++ Z))) (ha : a = X.length) (hb : b = X.length + Y.length) : mq_al (mq_mir f a b) (X ++ (Y.reverse ++ Z)) := by
  refine mq_al_mid h List.length_reverse (fun j hj => ?_) (fun j hj => ?_) (fun j x hj => ?_)
  · unfold mq_mir; rw [if_neg (by omega)]
  · unfold mq_mir; rw [if_neg (by omega)]
  · have hl := (List.getElem?_eq_some_iff.mp hj).1
    rw [List.length_reverse] at hl
    rw [List.getElem?_reverse hl] at hj
    have h1 := (mq_al_app.mp (mq_al_app.mp h).2).1 _ _ hj
    unfold mq_mir
    rw [if_pos (by omega), ← h1]
    dsimp only
    congr 1
    omega
def mq_rv (k : mq_K) : mq_K := (k.1.reverse, k.2.1, k.2.2)
theorem mq_flat_rv : ∀ M : List mq_K, (mq_flat M).reverse = mq_flat (M.reverse.map mq_rv)
  | [] => rfl
  | k :: M => by
    rw [mq_flat_cons, List.reverse_append, mq_flat_rv M, List.reverse_cons, List.map_append, mq_flat_app]
    congr 1
    show k.1.reverse = mq_flat [mq_rv k]
    rw [mq_flat_cons]
    simp [mq_flat, mq_rv]
theorem mq_flat_rv_len : ∀ M : List mq_K, (mq_flat (M.map mq_rv)).length = (mq_flat M).length
  | [] => rfl
  | k :: M => by
    rw [List.map_cons, mq_flat_cons, mq_flat_cons, List.length_append, List.length_append, mq_flat_rv_len M]
    simp [mq_rv]
theorem mq_al_mir_map {g : mq_K → Int} {f : Int → Int} {A M B : List mq_K} {a b : Int} (h : mq_al f ((A ++ (M ++ B)).map g)) (ha : a = A.length) (hb : b = A.length + M.length) : mq_al (mq_mir f a b) ((A ++ (M.reverse ++ B)).map g) := by
  rw [List.map_append, List.map_append] at h ⊢
  rw [List.map_reverse]
  exact mq_al_mir h (by simp; omega) (by simp; omega)
theorem mq_row_rv {k : mq_K} {x : Int} (h : x ∈ mq_row (mq_rv k)) : x ∈ mq_row k := by
  obtain ⟨l, t, u⟩ := k
  unfold mq_row at h ⊢
  by_cases e : t = 1
  · simp [mq_rv, e] at h ⊢; exact h
  · simp [mq_rv, e] at h ⊢; exact h
def mq_lg : List mq_K → Int → Int
  | [], m => m
  | k :: q, m => mq_lg q (if m < k.1.length then k.1.length else m)
def mq_wt : List mq_K → Int → Int
  | [], m => m
  | k :: q, m => mq_wt q (m + k.2.1)
def mq_ws : List mq_K → Int → Int
  | [], m => m
  | k :: q, m => mq_ws q (if k.2.2 = 0 then m else m + 1)
theorem mq_ok.sum {k : mq_K} (hok : mq_ok k) : -200000 ≤ k.2.2 ∧ k.2.2 ≤ 200000 := by
  have hl0 : 0 < (mq_row k).length := by rw [mq_row_len]; exact hok.1
  have hx : (mq_row k)[0]? = some (mq_row k)[0] := List.getElem?_eq_getElem hl0
  obtain ⟨y, hy, e⟩ := mq_row_at hx
  have h1 := hok.2.2.2 _ (List.mem_of_getElem? hx)
  have h2 := hok.2.2.1 _ (List.mem_of_getElem? hy)
  omega

