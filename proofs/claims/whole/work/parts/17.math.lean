/-! THE REFERENCE'S ROW, SEEN AS THE CLASS'S -/
def md_v (s : Int → Int) : rw_T := (fun j => s (3 + j), fun c => s (63 + c), fun c => s (127 + c), fun c => s (191 + c), s 0, s 1, s 2)
theorem mq_R_ext {r r' : rw_T} {q : List mq_K} (h : mq_R r q) (hW : mq_W q) (h1 : ∀ j : Int, 0 ≤ j → j < 60 → r'.1 j = r.1 j) (h2 : ∀ c : Int, 0 ≤ c → c < q.length → r'.2.1 c = r.2.1 c) (h3 : ∀ c : Int, 0 ≤ c → c < q.length → r'.2.2.1 c = r.2.2.1 c) (h4 : ∀ c : Int, 0 ≤ c → c < q.length → r'.2.2.2.1 c = r.2.2.2.1 c) (h5 : r'.2.2.2.2.1 = r.2.2.2.2.1) (h6 : r'.2.2.2.2.2.1 = r.2.2.2.2.2.1) : mq_R r' q := by
  obtain ⟨r1, r2, r3, r4, r5, r6⟩ := h
  have hf := hW.2
  refine ⟨r1.eq (fun i hi => h1 _ (by omega) (by omega)), r2.eq (fun i hi => h2 _ (by omega) ?_), r3.eq (fun i hi => h3 _ (by omega) ?_), r4.eq (fun i hi => h4 _ (by omega) ?_), h5.trans r5, h6.trans r6⟩
  · rw [List.length_map] at hi; omega
  · rw [List.length_map] at hi; omega
  · rw [List.length_map] at hi; omega
theorem mq_cut_end {q : List mq_K} (h : ∀ k ∈ q, mq_ok k) : mq_cut q (mq_flat q).length = (q, [], 0) := by
  have := mq_cut_at (B := []) h
  rwa [List.append_nil] at this
theorem mq_W_part {A : List mq_K} {l : List Int} {B : List mq_K} {f : Nat} (hW : mq_W (A ++ (l, 0, 0) :: B)) (h0 : 0 < f) (h1 : f < l.length) : mq_W (A ++ (l.take f, 0, 0) :: (l.drop f, 0, 0) :: B) := by
  have ho := hW.1 (l, 0, 0) (by simp)
  refine mq_W_all hW (fun y hy => ?_) ?_
  · rcases List.mem_append.mp hy with hy | hy
    · exact hW.1 y (List.mem_append_left _ hy)
    · rcases List.mem_cons.mp hy with rfl | hy
      · exact mq_ok_done (by rw [List.length_take]; omega) (fun z hz => ho.2.2.1 z (List.mem_of_mem_take hz))
      · rcases List.mem_cons.mp hy with rfl | hy
        · exact mq_ok_done (by rw [List.length_drop]; omega) (fun z hz => ho.2.2.1 z (List.mem_of_mem_drop hz))
        · exact hW.1 y (List.mem_append_right _ (List.mem_cons_of_mem _ hy))
  · rw [mq_all_app, mq_all_app, mq_all_cons, mq_all_cons, mq_all_cons, mq_row_done, mq_row_done, mq_row_done, ← List.append_assoc (l.take f), List.take_append_drop]
theorem ab_up_ne {f : Int → Int} {i x j : Int} (h : j ≠ i) : ab_up f i x j = f j := by unfold ab_up; rw [if_neg h]
theorem ab_up_eq {f : Int → Int} {i x j : Int} (h : j = i) : ab_up f i x j = x := by unfold ab_up; rw [if_pos h]
