/-! CHANGES LEAVE THE CHUNKS WELL FORMED -/
theorem mq_cut_tk {q : List mq_K} {d : Nat} (hd : d ≤ (mq_flat q).length) : mq_all (mq_cut q d).1 = (mq_all q).take d ∧ mq_all (mq_cut q d).2.1 = (mq_all q).drop d := by
  have h := mq_cut_all q d
  have hl : (mq_all (mq_cut q d).1).length = d := by rw [mq_all_len]; exact (mq_cut_len hd).1
  constructor
  · rw [← h, List.take_left' hl]
  · rw [← h, List.drop_left' hl]
theorem mq_span_tk {q : List mq_K} {f n : Nat} (hW : mq_W q) (hfn : f + n ≤ (mq_flat q).length) : mq_all (mq_span q f n).2.1 = ((mq_all q).drop f).take n := by
  obtain ⟨a1, a2⟩ := mq_cut_len (q := q) (d := f) (by omega)
  have h1 := (mq_cut_tk (q := q) (d := f) (by omega)).2
  have h2 := (mq_cut_tk (q := (mq_cut q f).2.1) (d := n) (by omega)).1
  rw [h1] at h2
  exact h2
theorem mq_row_flip {k : mq_K} (h : k.2.1 = 0 ∨ k.2.1 = 1) : mq_row (mq_flip k) = (mq_row k).reverse := by
  obtain ⟨l, t, s⟩ := k
  dsimp only at h
  unfold mq_row mq_flip
  dsimp only
  rcases h with rfl | rfl <;> simp
theorem mq_row_addk (v : Int) (k : mq_K) : mq_row (mq_addk v k) = (mq_row k).map (fun x => x + v) := by
  unfold mq_row mq_addk
  simp only [List.map_map]
  congr 1
  funext x
  simp only [Function.comp]
  omega
theorem mq_ok_flip {k : mq_K} (h : mq_ok k) : mq_ok (mq_flip k) := by
  refine ⟨h.1, ?_, h.2.2.1, fun x hx => ?_⟩
  · have := h.2.1
    unfold mq_flip
    dsimp only
    omega
  · rw [mq_row_flip h.2.1] at hx
    exact h.2.2.2 x (List.mem_reverse.mp hx)
theorem mq_W_put {q : List mq_K} {d : Nat} {v : Int} (hW : mq_W q) (hd : d ≤ (mq_flat q).length) (hl : (mq_flat q).length < 60) (hv : -99999 ≤ v ∧ v ≤ 99999) : mq_W (mq_put q d v).1 := by
  obtain ⟨a1, a2⟩ := mq_cut_len hd
  obtain ⟨b1, b2⟩ := mq_cut_ok (d := d) hW.1
  refine ⟨fun k hk => ?_, ?_⟩
  · rcases List.mem_append.mp hk with hk | hk
    · exact b1 k hk
    · rcases List.mem_cons.mp hk with rfl | hk
      · exact mq_ok_done (by simp) (fun x hx => by rw [List.mem_singleton.mp hx]; exact hv)
      · exact b2 k hk
  · unfold mq_put
    dsimp only
    rw [mq_flat_mid]
    simp only [List.length_append, List.length_cons, List.length_nil]
    omega
theorem mq_W_tak {q : List mq_K} {d : Nat} (hW : mq_W q) (hd : d < (mq_flat q).length) : mq_W (mq_tak q d).1 := by
  obtain ⟨a1, a2, a3, a4, a5, a6, a7⟩ := mq_span_in (f := d) (n := 1) hW (by omega)
  have hf := hW.2
  refine ⟨fun k hk => ?_, ?_⟩
  · rcases List.mem_append.mp hk with hk | hk
    · exact a4 k hk
    · exact a6 k hk
  · unfold mq_tak
    dsimp only
    rw [mq_flat_app, List.length_append]
    omega
theorem mq_W_set {q : List mq_K} {d : Nat} {v : Int} (hW : mq_W q) (hd : d < (mq_flat q).length) (hv : -99999 ≤ v ∧ v ≤ 99999) : mq_W (mq_set q d v).1 := by
  obtain ⟨A, k, B, rfl, h1, h2⟩ := mq_hold hd
  have hs := mq_set_app (A := A) (k := k) (B := B) (d := d - (mq_flat A).length) (v := v) (by omega)
  rw [show (mq_flat A).length + (d - (mq_flat A).length) = d by omega] at hs
  rw [hs]
  have ho := hW.1 k (by simp)
  have hf := hW.2
  rw [mq_flat_mid, List.length_append, List.length_append] at hf
  refine ⟨fun y hy => ?_, ?_⟩
  · rcases List.mem_append.mp hy with hy | hy
    · exact hW.1 y (List.mem_append_left _ hy)
    · rcases List.mem_cons.mp hy with rfl | hy
      · refine mq_ok_done (by rw [List.length_set, mq_row_len]; exact ho.1) (fun x hx => ?_)
        rcases List.mem_or_eq_of_mem_set hx with hx | rfl
        · exact ho.2.2.2 x hx
        · exact hv
      · exact hW.1 y (by simp [hy])
  · dsimp only
    rw [mq_flat_mid]
    simp only [List.length_append, List.length_set, mq_row_len]
    omega
theorem mq_flat_map_len {g : mq_K → mq_K} (hg : ∀ k, (g k).1.length = k.1.length) : ∀ M : List mq_K, (mq_flat (M.map g)).length = (mq_flat M).length
  | [] => rfl
  | k :: M => by
    rw [List.map_cons, mq_flat_cons, mq_flat_cons, List.length_append, List.length_append, hg, mq_flat_map_len hg M]
theorem mq_W_trn {q : List mq_K} {f n : Nat} (hW : mq_W q) (hfn : f + n ≤ (mq_flat q).length) : mq_W (mq_trn q f n).1 := by
  obtain ⟨a1, a2, a3, a4, a5, a6, a7⟩ := mq_span_in hW hfn
  have hf := hW.2
  refine ⟨fun k hk => ?_, ?_⟩
  · rcases List.mem_append.mp hk with hk | hk
    · exact a4 k hk
    · rcases List.mem_append.mp hk with hk | hk
      · obtain ⟨k0, h0, rfl⟩ := List.mem_map.mp hk
        exact mq_ok_flip (a5 k0 (List.mem_reverse.mp h0))
      · exact a6 k hk
  · unfold mq_trn
    dsimp only
    have e : (mq_flat (mq_span q f n).2.1.reverse).length = (mq_flat (mq_span q f n).2.1).length := by
      rw [← mq_flat_rv_len (mq_span q f n).2.1.reverse, ← mq_flat_rv, List.length_reverse]
    rw [mq_flat_app, mq_flat_app, List.length_append, List.length_append, mq_flat_map_len (g := mq_flip) (fun k => rfl), e]
    omega
theorem mq_W_add {q : List mq_K} {f n : Nat} {v : Int} (hW : mq_W q) (hfn : f + n ≤ (mq_flat q).length) (hv : ∀ x ∈ ((mq_all q).drop f).take n, -99999 ≤ x + v ∧ x + v ≤ 99999) : mq_W (mq_add q f n v).1 := by
  obtain ⟨a1, a2, a3, a4, a5, a6, a7⟩ := mq_span_in hW hfn
  have hf := hW.2
  rw [← mq_span_tk hW hfn] at hv
  refine ⟨fun k hk => ?_, ?_⟩
  · rcases List.mem_append.mp hk with hk | hk
    · exact a4 k hk
    · rcases List.mem_append.mp hk with hk | hk
      · obtain ⟨k0, h0, rfl⟩ := List.mem_map.mp hk
        have o := a5 k0 h0
        refine ⟨o.1, o.2.1, o.2.2.1, fun x hx => ?_⟩
        rw [mq_row_addk] at hx
        obtain ⟨y, hy, rfl⟩ := List.mem_map.mp hx
        exact hv y (List.mem_flatMap.mpr ⟨k0, h0, hy⟩)
      · exact a6 k hk
  · unfold mq_add
    dsimp only
    rw [mq_flat_app, mq_flat_app, List.length_append, List.length_append, mq_flat_map_len (g := mq_addk v) (fun k => rfl)]
    omega
theorem mq_W_mov {q : List mq_K} {f n p : Nat} (hW : mq_W q) (hfn : f + n ≤ (mq_flat q).length) (hp : p + n ≤ (mq_flat q).length) : mq_W (mq_mov q f n p).1 := by
  obtain ⟨a1, a2, a3, a4, a5, a6, a7⟩ := mq_span_in hW hfn
  have hf := hW.2
  have o : ∀ k ∈ (mq_span q f n).1 ++ (mq_span q f n).2.2.1, mq_ok k := fun k hk => (List.mem_append.mp hk).elim (a4 k) (a6 k)
  obtain ⟨b1, b2⟩ := mq_cut_ok (d := p) o
  obtain ⟨c1, c2⟩ := mq_cut_len (q := (mq_span q f n).1 ++ (mq_span q f n).2.2.1) (d := p) (by rw [mq_flat_app, List.length_append]; omega)
  refine ⟨fun k hk => ?_, ?_⟩
  · rcases List.mem_append.mp hk with hk | hk
    · exact b1 k hk
    · rcases List.mem_append.mp hk with hk | hk
      · exact a5 k hk
      · exact b2 k hk
  · unfold mq_mov
    dsimp only
    rw [mq_flat_app, List.length_append] at c2
    rw [mq_flat_app, mq_flat_app, List.length_append, List.length_append, c1, c2]
    omega
theorem mq_R_ext2 {r r' : rw_T} {q : List mq_K} (h : mq_R r q) (h1 : ∀ j : Int, 0 ≤ j → j < (mq_flat q).length → r'.1 j = r.1 j) (h2 : ∀ c : Int, 0 ≤ c → c < q.length → r'.2.1 c = r.2.1 c) (h3 : ∀ c : Int, 0 ≤ c → c < q.length → r'.2.2.1 c = r.2.2.1 c) (h4 : ∀ c : Int, 0 ≤ c → c < q.length → r'.2.2.2.1 c = r.2.2.2.1 c) (h5 : r'.2.2.2.2.1 = r.2.2.2.2.1) (h6 : r'.2.2.2.2.2.1 = r.2.2.2.2.2.1) : mq_R r' q := by
  obtain ⟨r1, r2, r3, r4, r5, r6⟩ := h
  refine ⟨r1.eq (fun i hi => h1 _ (by omega) (by omega)), r2.eq (fun i hi => h2 _ (by omega) ?_), r3.eq (fun i hi => h3 _ (by omega) ?_), r4.eq (fun i hi => h4 _ (by omega) ?_), h5.trans r5, h6.trans r6⟩
  · rw [List.length_map] at hi; omega
  · rw [List.length_map] at hi; omega
  · rw [List.length_map] at hi; omega
theorem mq_R_pt {s : Int → Int} {q : List mq_K} (hK : mq_al (fun j => s (3 + j)) (mq_flat q)) (hc : ∀ (i : Nat) (k : mq_K), q[i]? = some k → s (63 + (i : Int)) = k.1.length ∧ s (127 + (i : Int)) = k.2.1 ∧ s (191 + (i : Int)) = k.2.2) (h0 : s 0 = ((mq_flat q).length : Nat)) (h1 : s 1 = (q.length : Nat)) : mq_R (md_v s) q := by
  refine ⟨hK, fun i x hx => ?_, fun i x hx => ?_, fun i x hx => ?_, h0, h1⟩
  · rw [List.getElem?_map] at hx
    obtain ⟨k, hk, rfl⟩ := Option.map_eq_some_iff.mp hx
    exact (hc i k hk).1
  · rw [List.getElem?_map] at hx
    obtain ⟨k, hk, rfl⟩ := Option.map_eq_some_iff.mp hx
    exact (hc i k hk).2.1
  · rw [List.getElem?_map] at hx
    obtain ⟨k, hk, rfl⟩ := Option.map_eq_some_iff.mp hx
    exact (hc i k hk).2.2
theorem mq_midmap (g : mq_K → mq_K) (A M B : List mq_K) (i : Nat) : (A ++ (M.map g ++ B))[i]? = if A.length ≤ i ∧ i < A.length + M.length then (A ++ (M ++ B))[i]?.map g else (A ++ (M ++ B))[i]? := by
  simp only [List.getElem?_append, List.length_map, List.getElem?_map]
  by_cases h1 : i < A.length
  · rw [if_pos h1, if_neg (by omega), if_pos h1]
  · rw [if_neg h1, if_neg h1]
    by_cases h2 : i - A.length < M.length
    · rw [if_pos h2, if_pos h2, if_pos (by omega)]
    · rw [if_neg h2, if_neg h2, if_neg (by omega)]
theorem mq_flat_midmap {g : mq_K → mq_K} (hg : ∀ k, (g k).1 = k.1) (A M B : List mq_K) : mq_flat (A ++ (M.map g ++ B)) = mq_flat (A ++ (M ++ B)) := by
  simp only [mq_flat_app]
  congr 2
  unfold mq_flat
  rw [List.flatMap_map]
  congr 1
  funext k
  exact hg k
/-- two cuts around a span -/
theorem mq_two {q : List mq_K} {f n : Nat} (hW : mq_W q) (hfn : f + n ≤ (mq_flat q).length) : ∃ (A M B : List mq_K) (w1 w2 : Int), mq_span q f n = (A, M, B, w1 + w2) ∧ (mq_cut q f).2.2 = w1 ∧ mq_W ((mq_cut q f).1 ++ (mq_cut q f).2.1) ∧ (mq_flat ((mq_cut q f).1 ++ (mq_cut q f).2.1)).length = (mq_flat q).length ∧ mq_cut ((mq_cut q f).1 ++ (mq_cut q f).2.1) (f + n) = (A ++ M, B, w2) ∧ mq_W (A ++ (M ++ B)) ∧ (mq_flat A).length = f ∧ (mq_flat M).length = n ∧ (mq_flat B).length = (mq_flat q).length - f - n := by
  obtain ⟨a1, a2, a3, -, -, -, -⟩ := mq_span_in hW hfn
  obtain ⟨z1, z2⟩ := mq_cut_len (q := q) (d := f) (by omega)
  obtain ⟨o1, o2⟩ := mq_cut_ok (d := f) hW.1
  have hc2 := mq_cut_app (B := (mq_cut q f).2.1) (d := n) o1
  rw [z1] at hc2
  exact ⟨(mq_span q f n).1, (mq_span q f n).2.1, (mq_span q f n).2.2.1, _, _, rfl, rfl, mq_cut_W hW (by omega), by rw [mq_flat_app, List.length_append]; omega, hc2, mq_span_W hW hfn, a1, a2, a3⟩
theorem mq_R_set {K L T S : Int → Int} {n c w w' : Int} {A : List mq_K} {l : List Int} {B : List mq_K} {d : Nat} {v : Int} (h : mq_R (K, L, T, S, n, c, w) (A ++ (l, 0, 0) :: B)) (hd : d < l.length) : mq_R (ab_up K ((mq_flat A).length + d) v, L, T, S, n, c, w') (A ++ (l.set d v, 0, 0) :: B) := by
  obtain ⟨r1, r3, r4, r5, r6, r7⟩ := h
  refine ⟨?_, ?_, ?_, ?_, ?_, ?_⟩
  · dsimp only at r1 ⊢
    rw [mq_flat_mid] at r1 ⊢
    refine mq_al_mid r1 (by simp) (fun j hj => ?_) (fun j hj => ?_) (fun j x hj => ?_)
    · unfold ab_up; rw [if_neg (by omega)]
    · dsimp only at hj
      unfold ab_up; rw [if_neg (by omega)]
    · dsimp only at hj
      rw [List.getElem?_set] at hj
      unfold ab_up
      by_cases z : d = j
      · rw [if_pos z, if_pos hd] at hj
        rw [if_pos (by omega)]
        exact Option.some.inj hj
      · rw [if_neg z] at hj
        rw [if_neg (by omega)]
        exact (mq_al_app.mp (mq_al_app.mp r1).2).1 j x hj
  · dsimp only at r3 ⊢
    rw [mq_map_mid] at r3 ⊢
    rw [show mq_len (l.set d v, 0, 0) = mq_len (l, 0, 0) by unfold mq_len; simp]
    exact r3
  · dsimp only at r4 ⊢
    rw [mq_map_mid] at r4 ⊢
    exact r4
  · dsimp only at r5 ⊢
    rw [mq_map_mid] at r5 ⊢
    exact r5
  · dsimp only at r6 ⊢
    rw [r6, mq_flat_mid, mq_flat_mid]
    simp
  · dsimp only at r7 ⊢
    rw [r7]; simp
