/-! EVENED OUT: no chunk longer than twice the root, no two neighbours that could be one; and how much that costs -/
def me_pr (t : Nat) : mq_K → List mq_K → Prop
  | _, [] => True
  | k, k2 :: q => t < k.1.length + k2.1.length ∧ me_pr t k2 q
def me_ps (t : Nat) : List mq_K → Prop
  | [] => True
  | k :: q => me_pr t k q
def me_E (q : List mq_K) : Prop := (∀ k ∈ q, k.1.length ≤ 2 * mq_rt (mq_flat q).length) ∧ me_ps (mq_rt (mq_flat q).length) q
theorem me_jn (t : Nat) : ∀ (q : List mq_K) (k : mq_K), k.1.length ≤ 2 * t → (∀ x ∈ q, x.1.length ≤ 2 * t) → (∀ x ∈ (mq_jn t k q).1, x.1.length ≤ 2 * t) ∧ ∃ k' q', (mq_jn t k q).1 = k' :: q' ∧ k.1.length ≤ k'.1.length ∧ me_pr t k' q'
  | [], k, hk, _ => ⟨fun x hx => by rw [List.mem_singleton.mp hx]; exact hk, k, [], rfl, Nat.le_refl _, trivial⟩
  | k2 :: q, k, hk, h => by
    have h2 := h k2 List.mem_cons_self
    have hq : ∀ x ∈ q, x.1.length ≤ 2 * t := fun x hx => h x (List.mem_cons_of_mem _ hx)
    unfold mq_jn
    split
    · next e =>
      have hl : (mq_row k ++ mq_row k2, (0 : Int), (0 : Int)).1.length = k.1.length + k2.1.length := by
        dsimp only
        rw [List.length_append, mq_row_len, mq_row_len]
      obtain ⟨i1, k', q', i2, i3, i4⟩ := me_jn t q (mq_row k ++ mq_row k2, 0, 0) (by omega) hq
      exact ⟨i1, k', q', i2, by omega, i4⟩
    · next e =>
      obtain ⟨i1, k', q', i2, i3, i4⟩ := me_jn t q k2 h2 hq
      refine ⟨fun x hx => ?_, k, (mq_jn t k2 q).1, rfl, Nat.le_refl _, ?_⟩
      · rcases List.mem_cons.mp hx with rfl | hx
        · exact hk
        · exact i1 x hx
      · rw [i2]
        exact ⟨by omega, i4⟩
theorem me_pt (t : Nat) (ht : 0 < t) : ∀ (n : Nat) (q : List mq_K), (∀ k ∈ q, mq_ok k) → (mq_flat q).length ≤ n → ∀ x ∈ (mq_pt t n q).1, x.1.length ≤ 2 * t
  | 0, [], _, _ => fun x hx => by cases hx
  | 0, k :: q, h, hn => by
    have := (h k List.mem_cons_self).1
    rw [mq_flat_cons, List.length_append] at hn
    omega
  | _ + 1, [], _, _ => fun x hx => by cases hx
  | n + 1, k :: q, h, hn => by
    have hk := h k List.mem_cons_self
    have hk0 := hk.1
    have hq : ∀ x ∈ q, mq_ok x := fun x hx => h x (List.mem_cons_of_mem _ hx)
    rw [mq_flat_cons, List.length_append] at hn
    unfold mq_pt
    split
    · next e =>
      intro x hx
      rcases List.mem_cons.mp hx with rfl | hx
      · dsimp only
        rw [List.length_take]
        omega
      · refine me_pt t ht n _ (fun y hy => ?_) ?_ x hx
        · rcases List.mem_cons.mp hy with rfl | hy
          · exact mq_ok_done (by rw [List.length_drop, mq_row_len]; omega) (fun y hy => hk.2.2.2 y (List.mem_of_mem_drop hy))
          · exact hq y hy
        · rw [mq_flat_cons, List.length_append, List.length_drop, mq_row_len]
          omega
    · next e =>
      intro x hx
      rcases List.mem_cons.mp hx with rfl | hx
      · omega
      · exact me_pt t ht n q hq (by omega) x hx
theorem me_js (t : Nat) : ∀ (q : List mq_K), (∀ x ∈ q, x.1.length ≤ 2 * t) → (∀ x ∈ (mq_js t q).1, x.1.length ≤ 2 * t) ∧ me_ps t (mq_js t q).1
  | [], _ => ⟨fun x hx => (by cases hx), trivial⟩
  | k :: q, h => by
    obtain ⟨i1, k', q', i2, -, i4⟩ := me_jn t q k (h k List.mem_cons_self) (fun x hx => h x (List.mem_cons_of_mem _ hx))
    refine ⟨i1, ?_⟩
    show me_ps t (mq_jn t k q).1
    rw [i2]
    exact i4
theorem me_ev_all (q : List mq_K) : mq_all (mq_ev q).1 = mq_all q := by
  unfold mq_ev
  rw [mq_js_all, mq_pt_all]
theorem me_ev {q : List mq_K} (hW : mq_W q) : me_E (mq_ev q).1 := by
  have e : (mq_flat (mq_ev q).1).length = (mq_flat q).length := by rw [← mq_all_len, me_ev_all, mq_all_len]
  unfold me_E
  rw [e]
  exact me_js _ _ (me_pt _ (mq_rt_in _).1 60 q hW.1 hW.2)
/-! the work -/
theorem me_cost (k : mq_K) : 0 ≤ mq_cost k ∧ mq_cost k ≤ k.1.length := by
  unfold mq_cost
  split <;> omega
theorem me_cut_c : ∀ (q : List mq_K) (d : Nat), 0 ≤ (mq_cut q d).2.2 ∧ (mq_cut q d).2.2 ≤ 2 * ((mq_flat q).length : Int)
  | [], d => ⟨Int.le_refl 0, Int.le_refl 0⟩
  | k :: q, d => by
    have hc := me_cost k
    rw [mq_flat_cons, List.length_append]
    unfold mq_cut
    split
    · exact ⟨Int.le_refl 0, by dsimp only; omega⟩
    · split
      · dsimp only
        omega
      · have ih := me_cut_c q (d - k.1.length)
        dsimp only
        omega
theorem me_set_c : ∀ (q : List mq_K) (d : Nat) (v : Int), 0 ≤ (mq_set q d v).2 ∧ (mq_set q d v).2 ≤ ((mq_flat q).length : Int) + 1
  | [], d, v => ⟨Int.le_refl 0, by show (0 : Int) ≤ _; omega⟩
  | k :: q, d, v => by
    have hc := me_cost k
    rw [mq_flat_cons, List.length_append]
    unfold mq_set
    split
    · dsimp only
      omega
    · have ih := me_set_c q (d - k.1.length) v
      dsimp only
      omega
theorem me_pt_c (t : Nat) : ∀ (n : Nat) (q : List mq_K), (mq_flat q).length ≤ 60 → 0 ≤ (mq_pt t n q).2 ∧ (mq_pt t n q).2 ≤ 120 * (n : Int)
  | 0, q, _ => ⟨Int.le_refl 0, Int.le_refl 0⟩
  | n + 1, [], _ => ⟨Int.le_refl 0, by show (0 : Int) ≤ _; omega⟩
  | n + 1, k :: q, h => by
    have hc := me_cost k
    rw [mq_flat_cons, List.length_append] at h
    unfold mq_pt
    split
    · next e =>
      have ih := me_pt_c t n (((mq_row k).drop t, 0, 0) :: q) (by rw [mq_flat_cons, List.length_append, List.length_drop, mq_row_len]; omega)
      dsimp only
      omega
    · have ih := me_pt_c t n q (by omega)
      dsimp only
      omega
theorem me_jn_c (t : Nat) : ∀ (q : List mq_K) (k : mq_K), k.1.length + (mq_flat q).length ≤ 60 → 0 ≤ (mq_jn t k q).2 ∧ (mq_jn t k q).2 ≤ 180 * (q.length : Int)
  | [], k, _ => ⟨Int.le_refl 0, Int.le_refl 0⟩
  | k2 :: q, k, h => by
    have hc := me_cost k
    have hc2 := me_cost k2
    rw [mq_flat_cons, List.length_append] at h
    rw [List.length_cons]
    unfold mq_jn
    split
    · have ih := me_jn_c t q (mq_row k ++ mq_row k2, 0, 0) (by dsimp only; rw [List.length_append, mq_row_len, mq_row_len]; omega)
      dsimp only
      omega
    · have ih := me_jn_c t q k2 (by omega)
      dsimp only
      omega
theorem me_js_c (t : Nat) (q : List mq_K) (hW : mq_W q) : 0 ≤ (mq_js t q).2 ∧ (mq_js t q).2 ≤ 10800 := by
  cases q with
  | nil => exact ⟨Int.le_refl 0, by show (0 : Int) ≤ _; omega⟩
  | cons k q =>
    have h1 := hW.chunks
    have h2 := hW.2
    rw [mq_flat_cons, List.length_append] at h2
    rw [List.length_cons] at h1
    have h3 := me_jn_c t q k h2
    show 0 ≤ (mq_jn t k q).2 ∧ (mq_jn t k q).2 ≤ 10800
    omega
theorem me_ev_c {q : List mq_K} (hW : mq_W q) : 0 ≤ (mq_ev q).2 ∧ (mq_ev q).2 ≤ 18000 := by
  have h1 := me_pt_c (mq_rt (mq_flat q).length) 60 q hW.2
  have h2 := me_js_c (mq_rt (mq_flat q).length) (mq_pt (mq_rt (mq_flat q).length) 60 q).1 (mq_pt_W (mq_rt_in _).1 hW)
  unfold mq_ev
  dsimp only
  omega
theorem me_span_c {q : List mq_K} (f n : Nat) (hW : mq_W q) (hf : f ≤ (mq_flat q).length) : 0 ≤ (mq_span q f n).2.2.2 ∧ (mq_span q f n).2.2.2 ≤ 240 := by
  have h0 := hW.2
  have h1 := me_cut_c q f
  have h2 := me_cut_c (mq_cut q f).2.1 n
  have h3 := (mq_cut_len hf).2
  unfold mq_span
  dsimp only
  omega
theorem me_mov {q : List mq_K} {f n p : Nat} (hW : mq_W q) (hfn : f + n ≤ (mq_flat q).length) : 0 ≤ (mq_mov q f n p).2 ∧ (mq_mov q f n p).2 ≤ 400 := by
  have h0 := hW.2
  have h1 := me_span_c f n hW (by omega)
  obtain ⟨a1, a2, a3, -, -, -, -⟩ := mq_span_in hW hfn
  have h2 := me_cut_c ((mq_span q f n).1 ++ (mq_span q f n).2.2.1) p
  rw [mq_flat_app, List.length_append, a1, a3] at h2
  unfold mq_mov
  dsimp only
  omega
/-- a change is some chunks, evened out -/
def me_is (x : mS_X) : Prop := ∃ r : mS_X, x = mf_ch r ∧ mq_W r.1 ∧ 0 ≤ r.2 ∧ r.2 ≤ 400
theorem me_rol {q : List mq_K} {a b c : Int} (hW : mq_W q) (h : mq_eBy q a b c = 0) : 0 ≤ (mf_rol q a b c).2 ∧ (mf_rol q a b c).2 ≤ 400 := by
  have h1 := mq_eSpan_0 (mq_eBy_0 h).1
  unfold mq_n at h1
  obtain ⟨-, -, -, -, t5, t6⟩ := mf_tmod c (b - a + 1) (by omega)
  have h0 := hW.2
  unfold mf_rol
  split
  · exact ⟨Int.le_refl 0, by show (0 : Int) ≤ 400; omega⟩
  · exact me_mov hW (by omega)
theorem me_do {k : Int} {q : List mq_K} {a b c : Int} (hW : mq_W q) (h : mf_err k q a b c = 0) : me_is (mf_do k q a b c) := by
  have h0 := hW.2
  unfold mf_do
  unfold mf_err at h
  by_cases k1 : k = 112
  · rw [if_pos k1] at h ⊢
    obtain ⟨e1, e2, e3, e4⟩ := mq_ePut_0 hW h
    unfold mq_n at e2 e3
    unfold mq_vl at e4
    have h1 := me_cut_c q a.toNat
    exact ⟨_, rfl, mq_W_put hW (by omega) (by omega) (by omega), by unfold mq_put; dsimp only; omega, by unfold mq_put; dsimp only; omega⟩
  rw [if_neg k1] at h ⊢
  by_cases k2 : k = 99
  · rw [if_pos k2] at h ⊢
    have e := mq_eCut_0 h
    unfold mq_pl mq_n at e
    have h1 := me_span_c a.toNat 1 hW (by omega)
    exact ⟨_, rfl, mq_W_tak hW (by omega), by unfold mq_tak; dsimp only; omega, by unfold mq_tak; dsimp only; omega⟩
  rw [if_neg k2] at h ⊢
  by_cases k3 : k = 115
  · rw [if_pos k3] at h ⊢
    obtain ⟨e, e2⟩ := mq_eSet_0 h
    unfold mq_pl mq_n at e
    unfold mq_vl at e2
    have h1 := me_set_c q a.toNat b
    exact ⟨_, rfl, mq_W_set hW (by omega) (by omega), by omega, by omega⟩
  rw [if_neg k3] at h ⊢
  by_cases k4 : k = 116
  · rw [if_pos k4] at h ⊢
    have e := mq_eSpan_0 h
    unfold mq_n at e
    have h1 := me_span_c a.toNat (b + 1 - a).toNat hW (by omega)
    exact ⟨_, rfl, mq_W_trn hW (by omega), by unfold mq_trn; dsimp only; omega, by unfold mq_trn; dsimp only; omega⟩
  rw [if_neg k4] at h ⊢
  by_cases k5 : k = 97
  · rw [if_pos k5] at h ⊢
    obtain ⟨e0, e1⟩ := mq_eAdd_0 h
    have e := mq_eSpan_0 e0
    unfold mq_n at e
    have h1 := me_span_c a.toNat (b + 1 - a).toNat hW (by omega)
    exact ⟨_, rfl, mq_W_add hW (by omega) e1, by unfold mq_add; dsimp only; omega, by unfold mq_add; dsimp only; omega⟩
  rw [if_neg k5] at h ⊢
  by_cases k6 : k = 109
  · rw [if_pos k6] at h ⊢
    obtain ⟨e0, e1, e2⟩ := mq_eMove_0 h
    have e := mq_eSpan_0 e0
    unfold mq_n at e e2
    have h1 := me_mov (p := c.toNat) hW (show a.toNat + (b + 1 - a).toNat ≤ (mq_flat q).length by omega)
    exact ⟨_, rfl, mq_W_mov hW (by omega) (by omega), h1.1, h1.2⟩
  rw [if_neg k6] at h ⊢
  exact ⟨_, rfl, mf_rol_W hW h, (me_rol hW h).1, (me_rol hW h).2⟩
theorem me_is_E {x : mS_X} (h : me_is x) : me_E x.1 ∧ 0 ≤ x.2 ∧ x.2 ≤ 20000 := by
  obtain ⟨r, rfl, h1, h2, h3⟩ := h
  have h4 := me_ev_c h1
  refine ⟨me_ev h1, ?_, ?_⟩
  · show 0 ≤ r.2 + (mq_ev r.1).2
    omega
  · show r.2 + (mq_ev r.1).2 ≤ 20000
    omega
