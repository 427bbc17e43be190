/-! LISTS IN ARRAYS -/
theorem mq_al_app {f : Int → Int} {X Y : List Int} : mq_al f (X ++ Y) ↔ mq_al f X ∧ mq_al (fun j => f (X.length + j)) Y := by
  constructor
  · intro h
    refine ⟨fun i x hi => h i x ?_, fun i x hi => ?_⟩
    · rw [List.getElem?_append_left (List.getElem?_eq_some_iff.mp hi).1]; exact hi
    · have := h (X.length + i) x (mq_app_at hi)
      rw [Int.natCast_add] at this
      exact this
  · rintro ⟨h1, h2⟩ i x hi
    by_cases hl : i < X.length
    · rw [List.getElem?_append_left hl] at hi
      exact h1 i x hi
    · rw [List.getElem?_append_right (by omega)] at hi
      have := h2 _ x hi
      dsimp only at this
      rw [show (X.length : Int) + ((i - X.length : Nat) : Int) = i by omega] at this
      exact this
theorem mq_al_cons {f : Int → Int} {x : Int} {Y : List Int} : mq_al f (x :: Y) ↔ f 0 = x ∧ mq_al (fun j => f (1 + j)) Y := by
  have h := mq_al_app (f := f) (X := [x]) (Y := Y)
  rw [show x :: Y = [x] ++ Y from rfl, h]
  constructor
  · rintro ⟨h1, h2⟩; exact ⟨h1 0 x rfl, h2⟩
  · rintro ⟨h1, h2⟩
    refine ⟨fun i y hi => ?_, h2⟩
    match i with
    | 0 => cases hi; exact h1
    | i + 1 => cases hi
theorem mq_al.eq {f g : Int → Int} {l : List Int} (h : mq_al f l) (e : ∀ i : Nat, i < l.length → g i = f i) : mq_al g l := fun i x hi => by
  rw [e i (List.getElem?_eq_some_iff.mp hi).1]; exact h i x hi
theorem mq_al_nil (f : Int → Int) : mq_al f [] := fun i x hi => by cases hi
theorem mq_al_up {f : Int → Int} {X Z : List Int} {y x : Int} (h : mq_al f (X ++ y :: Z)) : mq_al (ab_up f X.length x) (X ++ x :: Z) := by
  obtain ⟨h1, h2⟩ := mq_al_app.mp h
  obtain ⟨h3, h4⟩ := mq_al_cons.mp h2
  refine mq_al_app.mpr ⟨h1.eq (fun i hi => ?_), mq_al_cons.mpr ⟨?_, h4.eq (fun i hi => ?_)⟩⟩
  · unfold ab_up; rw [if_neg (by omega)]
  · unfold ab_up; rw [if_pos (by omega)]
  · unfold ab_up; rw [if_neg (by omega)]
theorem mq_al_ins {f : Int → Int} {X Z : List Int} {x n k : Int} (h : mq_al f (X ++ Z)) (hn : n = X.length + Z.length) (hk : k = X.length) : mq_al (mq_ins f n k x) (X ++ x :: Z) := by
  subst hk
  obtain ⟨h1, h2⟩ := mq_al_app.mp h
  refine mq_al_app.mpr ⟨h1.eq (fun i hi => ?_), mq_al_cons.mpr ⟨?_, h2.eq (fun i hi => ?_)⟩⟩
  · unfold mq_ins; rw [if_neg (by omega), if_neg (by omega)]
  · unfold mq_ins; rw [if_pos (by omega)]
  · unfold mq_ins
    rw [if_neg (by omega), if_pos (by omega)]
    congr 1; omega
theorem mq_al_del {f : Int → Int} {X Z : List Int} {y n k : Int} (h : mq_al f (X ++ y :: Z)) (hn : n = X.length + 1 + Z.length) (hk : k = X.length) : mq_al (mq_del f n k) (X ++ Z) := by
  subst hk
  obtain ⟨h1, h2⟩ := mq_al_app.mp h
  obtain ⟨h3, h4⟩ := mq_al_cons.mp h2
  refine mq_al_app.mpr ⟨h1.eq (fun i hi => ?_), h4.eq (fun i hi => ?_)⟩
  · unfold mq_del; rw [if_neg (by omega)]
  · unfold mq_del
    rw [if_pos (by omega)]
    congr 1; omega
/-- other numbers are kept in a chunk, as many -/
theorem mq_al_mid {f g : Int → Int} {X Y Y' Z : List Int} (h : mq_al f (X ++ (Y ++ Z))) (hl : Y'.length = Y.length) (h1 : ∀ j : Int, j < X.length → g j = f j) (h2 : ∀ j : Int, (X.length : Int) + Y.length ≤ j → g j = f j) (h3 : ∀ (j : Nat) (x : Int), Y'[j]? = some x → g (X.length + j) = x) : mq_al g (X ++ (Y' ++ Z)) := by
  obtain ⟨a1, a2⟩ := mq_al_app.mp h
  obtain ⟨a3, a4⟩ := mq_al_app.mp a2
  refine mq_al_app.mpr ⟨a1.eq (fun i hi => h1 _ (by omega)), mq_al_app.mpr ⟨fun j x hj => h3 j x hj, a4.eq (fun i hi => ?_)⟩⟩
  show g ((X.length : Int) + ((Y'.length : Int) + i)) = f ((X.length : Int) + ((Y.length : Int) + i))
  rw [hl, h2 _ (by omega)]
theorem mq_map_mid {α : Type} (g : mq_K → α) (A : List mq_K) (k : mq_K) (B : List mq_K) : (A ++ k :: B).map g = A.map g ++ g k :: B.map g := by
  rw [List.map_append, List.map_cons]
theorem mq_flat_mid (A : List mq_K) (k : mq_K) (B : List mq_K) : mq_flat (A ++ k :: B) = mq_flat A ++ (k.1 ++ mq_flat B) := by
  rw [mq_flat_app, mq_flat_cons]
/-- a chunk in which nothing waits any more -/
theorem mq_R_settle {K L T S K' : Int → Int} {n c w w' : Int} {A : List mq_K} {k : mq_K} {B : List mq_K} (h : mq_R (K, L, T, S, n, c, w) (A ++ k :: B)) (h1 : ∀ j : Int, j < (mq_flat A).length → K' j = K j) (h2 : ∀ j : Int, ((mq_flat A).length : Int) + k.1.length ≤ j → K' j = K j) (h3 : ∀ (j : Nat) (x : Int), (mq_row k)[j]? = some x → K' ((mq_flat A).length + j) = x) :
    mq_R (K', L, ab_up T A.length 0, ab_up S A.length 0, n, c, w') (A ++ (mq_row k, 0, 0) :: B) := by
  obtain ⟨r1, r2, r3, r4, r5, r6⟩ := h
  dsimp only at r1 r2 r3 r4 r5 r6
  refine ⟨?_, ?_, ?_, ?_, ?_, ?_⟩ <;> dsimp only
  · rw [mq_flat_mid] at r1 ⊢
    exact mq_al_mid r1 (mq_row_len k) h1 h2 h3
  · rw [mq_map_mid] at r2 ⊢
    rw [show mq_len (mq_row k, 0, 0) = mq_len k by unfold mq_len; rw [mq_row_len]]
    exact r2
  · rw [mq_map_mid] at r3 ⊢
    have := mq_al_up (x := 0) r3
    rwa [List.length_map] at this
  · rw [mq_map_mid] at r4 ⊢
    have := mq_al_up (x := 0) r4
    rwa [List.length_map] at this
  · rw [r5, mq_flat_mid, mq_flat_mid]
    simp [mq_row_len]
  · rw [r6]; simp
theorem mq_R_part {K L T S : Int → Int} {n c w w' : Int} {A : List mq_K} {l : List Int} {B : List mq_K} {f : Nat} (h : mq_R (K, L, T, S, n, c, w) (A ++ (l, 0, 0) :: B)) (hf : f ≤ l.length) :
    mq_R (K, mq_ins (ab_up L A.length f) c (A.length + 1) ((l.length : Int) - f), mq_ins T c (A.length + 1) 0, mq_ins S c (A.length + 1) 0, n, c + 1, w') (A ++ (l.take f, 0, 0) :: (l.drop f, 0, 0) :: B) := by
  obtain ⟨r1, r2, r3, r4, r5, r6⟩ := h
  dsimp only at r1 r2 r3 r4 r5 r6
  have hc : c = (A.length : Int) + 1 + B.length := by rw [r6]; simp; omega
  refine ⟨?_, ?_, ?_, ?_, ?_, ?_⟩ <;> dsimp only
  · rw [mq_flat_mid] at r1 ⊢
    rw [mq_flat_cons, ← List.append_assoc (l.take f), List.take_append_drop]
    exact r1
  · rw [mq_map_mid] at r2 ⊢
    have h1 := mq_al_up (x := (f : Int)) r2
    rw [List.length_map] at h1
    rw [List.map_cons, show mq_len (l.take f, 0, 0) = (f : Int) by unfold mq_len; dsimp only; rw [List.length_take]; omega, show mq_len (l.drop f, 0, 0) = (l.length : Int) - f by unfold mq_len; dsimp only; rw [List.length_drop]; omega]
    have h2 := mq_al_ins (X := A.map mq_len ++ [(f : Int)]) (Z := B.map mq_len) (x := (l.length : Int) - f) (n := c) (k := A.length + 1) (by rw [List.append_assoc]; exact h1) (by simp; omega) (by simp)
    rwa [List.append_assoc] at h2
  · rw [mq_map_mid] at r3 ⊢
    rw [List.map_cons]
    have h2 := mq_al_ins (X := A.map (fun k => k.2.1) ++ [0]) (Z := B.map (fun k => k.2.1)) (x := 0) (n := c) (k := A.length + 1) (by rw [List.append_assoc]; exact r3) (by simp; omega) (by simp)
    rwa [List.append_assoc] at h2
  · rw [mq_map_mid] at r4 ⊢
    rw [List.map_cons]
    have h2 := mq_al_ins (X := A.map (fun k => k.2.2) ++ [0]) (Z := B.map (fun k => k.2.2)) (x := 0) (n := c) (k := A.length + 1) (by rw [List.append_assoc]; exact r4) (by simp; omega) (by simp)
    rwa [List.append_assoc] at h2
  · rw [r5, mq_flat_mid, mq_flat_mid, mq_flat_cons]
    simp
    omega
  · rw [r6]; simp; omega
/-- the chunks, cut at a place: those ahead, those behind, the work -/
def mq_cut : List mq_K → Nat → List mq_K × List mq_K × Int
  | [], _ => ([], [], 0)
  | k :: q, d => if d = 0 then ([], k :: q, 0) else if d < k.1.length then ([((mq_row k).take d, 0, 0)], ((mq_row k).drop d, 0, 0) :: q, mq_cost k + ((k.1.length : Int) - d)) else
    (k :: (mq_cut q (d - k.1.length)).1, (mq_cut q (d - k.1.length)).2)
theorem mq_ok_done {l : List Int} (h0 : 0 < l.length) (h : ∀ x ∈ l, -99999 ≤ x ∧ x ≤ 99999) : mq_ok (l, 0, 0) := ⟨h0, Or.inl rfl, h, by rw [mq_row_done]; exact h⟩
theorem mq_ok_row {k : mq_K} (h : mq_ok k) : mq_ok (mq_row k, 0, 0) := mq_ok_done (by rw [mq_row_len]; exact h.1) h.2.2.2
theorem mq_cut_ok : ∀ {q : List mq_K} {d : Nat}, (∀ k ∈ q, mq_ok k) → (∀ k ∈ (mq_cut q d).1, mq_ok k) ∧ (∀ k ∈ (mq_cut q d).2.1, mq_ok k)
  | [], d, h => ⟨fun k hk => (by cases hk), fun k hk => (by cases hk)⟩
  | k :: q, d, h => by
    have hk := h k List.mem_cons_self
    have hq : ∀ x ∈ q, mq_ok x := fun x hx => h x (List.mem_cons_of_mem _ hx)
    unfold mq_cut
    split
    · exact ⟨fun k hk => (by cases hk), h⟩
    · split
      · refine ⟨fun x hx => ?_, fun x hx => ?_⟩
        · rw [List.mem_singleton.mp hx]
          exact mq_ok_done (by rw [List.length_take, mq_row_len]; omega) (fun y hy => hk.2.2.2 y (List.mem_of_mem_take hy))
        · rcases List.mem_cons.mp hx with rfl | hx
          · exact mq_ok_done (by rw [List.length_drop, mq_row_len]; omega) (fun y hy => hk.2.2.2 y (List.mem_of_mem_drop hy))
          · exact hq x hx
      · obtain ⟨h1, h2⟩ := mq_cut_ok (q := q) (d := d - k.1.length) hq
        refine ⟨fun x hx => ?_, h2⟩
        rcases List.mem_cons.mp hx with rfl | hx
        · exact hk
        · exact h1 x hx
theorem mq_cut_len : ∀ {q : List mq_K} {d : Nat}, d ≤ (mq_flat q).length → (mq_flat (mq_cut q d).1).length = d ∧ (mq_flat (mq_cut q d).2.1).length = (mq_flat q).length - d
  | [], d, h => by
    have : d = 0 := by simpa [mq_flat] using h
    subst this
    exact ⟨rfl, rfl⟩
  | k :: q, d, h => by
    rw [mq_flat_cons, List.length_append] at h ⊢
    unfold mq_cut
    split
    · next e => subst e; exact ⟨rfl, by rw [mq_flat_cons, List.length_append]; rfl⟩
    · split
      · rw [mq_flat_cons, mq_flat_cons, List.length_append, List.length_append, List.length_take, List.length_drop, mq_row_len]
        refine ⟨?_, by omega⟩
        simp [mq_flat]; omega
      · obtain ⟨h1, h2⟩ := mq_cut_len (q := q) (d := d - k.1.length) (by omega)
        dsimp only
        rw [mq_flat_cons, List.length_append]
        omega
/-- the numbers of the row stay -/
theorem mq_cut_all : ∀ (q : List mq_K) (d : Nat), mq_all (mq_cut q d).1 ++ mq_all (mq_cut q d).2.1 = mq_all q
  | [], _ => rfl
  | k :: q, d => by
    unfold mq_cut
    split
    · rfl
    · split
      · rw [mq_all_cons, mq_all_cons, mq_all_cons, mq_row_done, mq_row_done]
        simp [mq_all]
        rw [← List.append_assoc, List.take_append_drop]
      · dsimp only
        rw [mq_all_cons, List.append_assoc, mq_cut_all, mq_all_cons]
theorem mq_cut_W {q : List mq_K} {d : Nat} (h : mq_W q) (hd : d ≤ (mq_flat q).length) : mq_W ((mq_cut q d).1 ++ (mq_cut q d).2.1) := by
  obtain ⟨h1, h2⟩ := mq_cut_ok (d := d) h.1
  obtain ⟨h3, h4⟩ := mq_cut_len hd
  refine ⟨fun k hk => (List.mem_append.mp hk).elim (h1 k) (h2 k), ?_⟩
  rw [mq_flat_app, List.length_append, h3, h4]
  have := h.2
  omega
theorem mq_W_settle {A : List mq_K} {k : mq_K} {B : List mq_K} (h : mq_W (A ++ k :: B)) : mq_W (A ++ (mq_row k, 0, 0) :: B) := by
  refine ⟨fun x hx => ?_, ?_⟩
  · rcases List.mem_append.mp hx with hx | hx
    · exact h.1 x (List.mem_append_left _ hx)
    · rcases List.mem_cons.mp hx with rfl | hx
      · exact mq_ok_row (h.1 k (by simp))
      · exact h.1 x (List.mem_append_right _ (List.mem_cons_of_mem _ hx))
  · have := h.2
    rw [mq_flat_mid] at this ⊢
    simp [mq_row_len] at this ⊢
    exact this

