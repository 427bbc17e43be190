/-! CHANGES LEAVE THE CHUNKS WELL FORMED -/
theorem mq_cut_tk {q : List mq_K} {d : Nat} (hd : d ≤ (mq_flat q).length) : mq_all (mq_cut q d).1 = (mq_all q).take d ∧ mq_all (mq_cut q d).2.1 = (mq_all q).drop d := by
  have h := mq_cut_all q d
  have hl : (mq_all (mq_cut q d).1).length = d := by rw [mq_all_len]; exact (mq_cut_len hd).1
  constructor
  · rw [← h, List.take_left' hl]
  · rw [← h, List.drop_left' hl]
theorem mq_span_tk {q : List mq_K} {f n : Nat} (hW : mq_W q) (hfn : f + n ≤ (mq_flat q).length) : mq_all (mq_span q f n).2.1 = ((mq_all q).drop f).take n := by
  obtain ⟨a1, a2⟩ := mq_cut_len (q := q) (d := f) (by omega)
  have h1 := (mq_cut_tk (q := q) (d := f) (by omega)).2
  have h2 := (mq_cut_tk (q := (mq_cut q f).2.1) (d := n) (by omega)).1
  rw [h1] at h2
  exact h2
theorem mq_row_flip {k : mq_K} (h : k.2.1 = 0 ∨ k.2.1 = 1) : mq_row (mq_flip k) = (mq_row k).reverse := by
  obtain ⟨l, t, s⟩ := k
  dsimp only at h
  unfold mq_row mq_flip
  dsimp only
  rcases h with rfl | rfl <;> simp
theorem mq_row_addk (v : Int) (k : mq_K) : mq_row (mq_addk v k) = (mq_row k).map (fun x => x + v) := by
  unfold mq_row mq_addk
  simp only [List.map_map]
  congr 1
  funext x
  simp only [Function.comp]
  omega
theorem mq_ok_flip {k : mq_K} (h : mq_ok k) : mq_ok (mq_flip k) := by
  refine ⟨h.1, ?_, h.2.2.1, fun x hx => ?_⟩
  · have := h.2.1
    unfold mq_flip
    dsimp only
    omega
  · rw [mq_row_flip h.2.1] at hx
    exact h.2.2.2 x (List.mem_reverse.mp hx)
theorem mq_W_put {q : List mq_K} {d : Nat} {v : Int} (hW : mq_W q) (hd : d ≤ (mq_flat q).length) (hl : (mq_flat q).length < 60) (hv : -99999 ≤ v ∧ v ≤ 99999) : mq_W (mq_put q d v).1 := by
  obtain ⟨a1, a2⟩ := mq_cut_len hd
  obtain ⟨b1, b2⟩ := mq_cut_ok (d := d) hW.1
  refine ⟨fun k hk => ?_, ?_⟩
  · rcases List.mem_append.mp hk with hk | hk
    · exact b1 k hk
    · rcases List.mem_cons.mp hk with rfl | hk
      · exact mq_ok_done (by simp) (fun x hx => by rw [List.mem_singleton.mp hx]; exact hv)
      · exact b2 k hk
  · unfold mq_put
    dsimp only
    rw [mq_flat_mid]
    simp only [List.length_append, List.length_cons, List.length_nil]
    omega
theorem mq_W_tak {q : List mq_K} {d : Nat} (hW : mq_W q) (hd : d < (mq_flat q).length) : mq_W (mq_tak q d).1 := by
  obtain ⟨a1, a2, a3, a4, a5, a6, a7⟩ := mq_span_in (f := d) (n := 1) hW (by omega)
  have hf := hW.2
  refine ⟨fun k hk => ?_, ?_⟩
  · rcases List.mem_append.mp hk with hk | hk
    · exact a4 k hk
    · exact a6 k hk
  · unfold mq_tak
    dsimp only
    rw [mq_flat_app, List.length_append]
    omega
theorem mq_W_set {q : List mq_K} {d : Nat} {v : Int} (hW : mq_W q) (hd : d < (mq_flat q).length) (hv : -99999 ≤ v ∧ v ≤ 99999) : mq_W (mq_set q d v).1 := by
  obtain ⟨A, k, B, rfl, h1, h2⟩ := mq_hold hd
  have hs := mq_set_app (A := A) (k := k) (B := B) (d := d - (mq_flat A).length) (v := v) (by omega)
  rw [show (mq_flat A).length + (d - (mq_flat A).length) = d by omega] at hs
  rw [hs]
  have ho := hW.1 k (by simp)
  have hf := hW.2
  rw [mq_flat_mid, List.length_append, List.length_append] at hf
  refine ⟨fun y hy => ?_, ?_⟩
  · rcases List.mem_append.mp hy with hy | hy
    · exact hW.1 y (List.mem_append_left _ hy)
    · rcases List.mem_cons.mp hy with rfl | hy
      · refine mq_ok_done (by rw [List.length_set, mq_row_len]; exact ho.1) (fun x hx => ?_)
        rcases List.mem_or_eq_of_mem_set hx with hx | rfl
        · exact ho.2.2.2 x hx
        · exact hv
      · exact hW.1 y (by simp [hy])
  · dsimp only
    rw [mq_flat_mid]
    simp only [List.length_append, List.length_set, mq_row_len]
    omega
theorem mq_flat_map_len {g : mq_K → mq_K} (hg : ∀ k, (g k).1.length = k.1.length) : ∀ M : List mq_K, (mq_flat (M.map g)).length = (mq_flat M).length
  | [] => rfl
  | k :: M => by
    rw [List.map_cons, mq_flat_cons, mq_flat_cons, List.length_append, List.length_append, hg, mq_flat_map_len hg M]
theorem mq_W_trn {q : List mq_K} {f n : Nat} (hW : mq_W q) (hfn : f + n ≤ (mq_flat q).length) : mq_W (mq_trn q f n).1 := by
  obtain ⟨a1, a2, a3, a4, a5, a6, a7⟩ := mq_span_in hW hfn
  have hf := hW.2
  refine ⟨fun k hk => ?_, ?_⟩
  · rcases List.mem_append.mp hk with hk | hk
    · exact a4 k hk
    · rcases List.mem_append.mp hk with hk | hk
      · obtain ⟨k0, h0, rfl⟩ := List.mem_map.mp hk
        exact mq_ok_flip (a5 k0 (List.mem_reverse.mp h0))
      · exact a6 k hk
  · unfold mq_trn
    dsimp only
    have e : (mq_flat (mq_span q f n).2.1.reverse).length = (mq_flat (mq_span q f n).2.1).length := by
      rw [← mq_flat_rv_len (mq_span q f n).2.1.reverse, ← mq_flat_rv, List.length_reverse]
    rw [mq_flat_app, mq_flat_app, List.length_append, List.length_append, mq_flat_map_len (g := mq_flip) (fun k => rfl), e]
    omega
theorem mq_W_add {q : List mq_K} {f n : Nat} {v : Int} (hW : mq_W q) (hfn : f + n ≤ (mq_flat q).length) (hv : ∀ x ∈ ((mq_all q).drop f).take n, -99999 ≤ x + v ∧ x + v ≤ 99999) : mq_W (mq_add q f n v).1 := by
  obtain ⟨a1, a2, a3, a4, a5, a6, a7⟩ := mq_span_in hW hfn
  have hf := hW.2
  rw [← mq_span_tk hW hfn] at hv
  refine ⟨fun k hk => ?_, ?_⟩
  · rcases List.mem_append.mp hk with hk | hk
    · exact a4 k hk
    · rcases List.mem_append.mp hk with hk | hk
      · obtain ⟨k0, h0, rfl⟩ := List.mem_map.mp hk
        have o := a5 k0 h0
        refine ⟨o.1, o.2.1, o.2.2.1, fun x hx => ?_⟩
        rw [mq_row_addk] at hx
        obtain ⟨y, hy, rfl⟩ := List.mem_map.mp hx
        exact hv y (List.mem_flatMap.mpr ⟨k0, h0, hy⟩)
      · exact a6 k hk
  · unfold mq_add
    dsimp only
    rw [mq_flat_app, mq_flat_app, List.length_append, List.length_append, mq_flat_map_len (g := mq_addk v) (fun k => rfl)]
    omega
theorem mq_W_mov {q : List mq_K} {f n p : Nat} (hW : mq_W q) (hfn : f + n ≤ (mq_flat q).length) (hp : p + n ≤ (mq_flat q).length) : mq_W (mq_mov q f n p).1 := by
  obtain ⟨a1, a2, a3, a4, a5, a6, a7⟩ := mq_span_in hW hfn
  have hf := hW.2
  have o : ∀ k ∈ (mq_span q f n).1 ++ (mq_span q f n).2.2.1, mq_ok k := fun k hk => (List.mem_append.mp hk).elim (a4 k) (a6 k)
  obtain ⟨b1, b2⟩ := mq_cut_ok (d := p) o
  obtain ⟨c1, c2⟩ := mq_cut_len (q := (mq_span q f n).1 ++ (mq_span q f n).2.2.1) (d := p) (by rw [mq_flat_app, List.length_append]; omega)
  refine ⟨fun k hk => ?_, ?_⟩
  · rcases List.mem_append.mp hk with hk | hk
    · exact b1 k hk
    · rcases List.mem_append.mp hk with hk | hk
      · exact a5 k hk
      · exact b2 k hk
  · unfold mq_mov
    dsimp only
    rw [mq_flat_app, List.length_append] at c2
    rw [mq_flat_app, mq_flat_app, List.length_append, List.length_append, c1, c2]
    omega
