/-! THE CLASS'S PAD -/
def sp_X0_next : ab_Sp := fun av cs Q => ∃ (P V : Int → Int) (pl pp pk : Int) (l : List Int), av = [.inr (.inl (some 0))] ∧ cs = pd_cs (P, V, pl, pp, pk) ∧ mh_P P pl l ∧ 0 ≤ pp ∧ pp ≤ 100000 ∧ Q (some (.inl (mp_nx l pp))) (pd_cs (P, V, pl, pp, pk))
def sp_X0_skip : ab_Sp := fun av cs Q => ∃ (P V : Int → Int) (pl pp pk : Int) (l : List Int) (c : Int), av = [.inr (.inl (some 0)), .inl c] ∧ cs = pd_cs (P, V, pl, pp, pk) ∧ mh_P P pl l ∧ 0 ≤ pp ∧ pp ≤ 100000 ∧ ab_r c ∧ Q (some (.inl (mp_ch l c (pp, 1)).2)) (pd_cs (P, V, pl, (mp_ch l c (pp, 1)).1, pk))
def sp_X0_append : ab_Sp := fun av cs Q => ∃ (P V : Int → Int) (pl pp pk : Int) (l : List Int) (c : Int), av = [.inr (.inl (some 0)), .inl c] ∧ cs = pd_cs (P, V, pl, pp, pk) ∧ mh_P P pl l ∧ l.length < 80 ∧ 33 ≤ c ∧ c ≤ 126 ∧ ∀ P', mh_P P' (pl + 1) (l ++ [c]) → Q none (pd_cs (P', V, pl + 1, pp, pk))
-- ===== RootChunks$Pad.next
def P_X0_next : List ab_I := [(0, .aload_n 0, 1, []), (1, .getfield 19, 4, []), (4, .aload_n 0, 5, []), (5, .getfield 15, 8, []), (8, .if_icmp .ge 15, 11, [((0 : Int), 23)]), (11, .aload_n 0, 12, []), (12, .getfield 9, 15, []), (15, .aload_n 0, 16, []), (16, .getfield 19, 19, []), (19, .caload, 20, []), (20, .goto 4, 23, [((0 : Int), 24)]), (23, .iconst 0, 24, []), (24, .ireturn, 25, [])]
def E_X0_next : ab_E := (T_X0, [], [], 1)
def M_X0_next : List (Nat × ab_MI) := []
def mi_X0_next : ab_MI := (yX0_next, cX0_next, 1, ab_rty 1, 1, 70)
theorem pk_X0_next : P_X0_next.all (ab_okI cX0_next) = true := by decide +kernel
theorem ck_X0_next : P_X0_next.all (ab_okC1 "RootChunks$Pad" M_X0_next E_X0_next (1, 70)) = true := by decide +kernel
set_option maxRecDepth 100000 in
theorem b_X0_next_0 {Q : ab_Q} {pP : Int → Int} {pV : Int → Int} {ppl : Int} {ppp : Int} {ppk : Int} (l1 : ppl ≤ ppp → Q (some (.inl 0)) (pd_cs (pP, pV, ppl, ppp, ppk))) (l2 : ppp < ppl → Q (some (.inl (pP ppp))) (pd_cs (pP, pV, ppl, ppp, ppk))) (p1 : (ab_r ppp ∧ ab_r ppl) := by intros; (try unfold ab_r); omega) (p2 : ppl ≤ ppp → (0 ≤ (0 : Int) ∧ (0 : Int) < 65536) := by intros; (try unfold ab_r); omega) (p3 : ppp < ppl → (0 ≤ ppp ∧ ppp < 80) := by intros; (try unfold ab_r); omega) (p4 : ppp < ppl → (0 ≤ (pP ppp) ∧ (pP ppp) < 65536) := by intros; (try unfold ab_r); omega) : ab_R E_X0_next P_X0_next Q 0 [some (.inr (.inl (some 0)))] [] (pd_cs (pP, pV, ppl, ppp, ppk)) :=
  ab_R.steps [] 13 (show ((ab_r ppp ∧ ab_r ppl) ∧ ((ppl ≤ ppp → ((0 ≤ (0 : Int) ∧ (0 : Int) < 65536) ∧ Q (some (.inl 0)) (pd_cs (pP, pV, ppl, ppp, ppk)))) ∧ (ppp < ppl → ((0 ≤ ppp ∧ ppp < 80) ∧ ((0 ≤ (pP ppp) ∧ (pP ppp) < 65536) ∧ Q (some (.inl (pP ppp))) (pd_cs (pP, pV, ppl, ppp, ppk))))))) from ⟨p1, ⟨fun h1 => ⟨(p2 h1), (l1 h1)⟩, fun h2 => ⟨(p3 h2), ⟨(p4 h2), (l2 h2)⟩⟩⟩⟩)
-- ===== RootChunks$Pad.skip
def P_X0_skip : List ab_I := [(0, .aload_n 0, 1, []), (1, .invokevirtual 38, 4, []), (4, .iload_n 1, 5, []), (5, .if_icmp .eq 5, 8, [((0 : Int), 10)]), (8, .iconst 0, 9, []), (9, .ireturn, 10, []), (10, .aload_n 0, 11, []), (11, .dup, 12, []), (12, .getfield 19, 15, []), (15, .iconst 1, 16, []), (16, .iadd, 17, []), (17, .putfield 19, 20, []), (20, .iconst 1, 21, []), (21, .ireturn, 22, [])]
def E_X0_skip : ab_E := (T_X0, [(1, (1, 0, [], 0, sp_X0_next))], [], 2)
def M_X0_skip : List (Nat × ab_MI) := [(1, mi_X0_next)]
def mi_X0_skip : ab_MI := (yX0_skip, cX0_skip, 2, ab_rty 2, 2, 90)
theorem pk_X0_skip : P_X0_skip.all (ab_okI cX0_skip) = true := by decide +kernel
theorem ck_X0_skip : P_X0_skip.all (ab_okC1 "RootChunks$Pad" M_X0_skip E_X0_skip (2, 90)) = true := by decide +kernel
set_option maxRecDepth 100000 in
theorem b_X0_skip_0 {Q : ab_Q} {c : Int} {pP : Int → Int} {pV : Int → Int} {ppl : Int} {ppp : Int} {ppk : Int} (l1 : sp_X0_next [.inr (.inl (some 0))] (pd_cs (pP, pV, ppl, ppp, ppk)) (fun r_ k_ => ∃ (x_ : Int), r_ = some (.inl x_) ∧ k_ = (pd_cs (pP, pV, ppl, ppp, ppk)) ∧ ab_R E_X0_skip P_X0_skip Q 4 [some (.inr (.inl (some 0))), some (.inl c)] [.inl x_] (pd_cs (pP, pV, ppl, ppp, ppk))))  : ab_R E_X0_skip P_X0_skip Q 0 [some (.inr (.inl (some 0))), some (.inl c)] [] (pd_cs (pP, pV, ppl, ppp, ppk)) :=
  ab_R.steps [4] 3 (show ab_cl sp_X0_next [.inr (.inl (some 0))] (pd_cs (pP, pV, ppl, ppp, ppk)) (fun r_ k_ => k_.length = ((pd_cs (pP, pV, ppl, ppp, ppk))).length → ab_R E_X0_skip P_X0_skip Q 4 [some (.inr (.inl (some 0))), some (.inl c)] (ab_ret r_ []) k_) from ⟨_, l1, fun r_ k_ hz _ => by obtain ⟨x_, rfl, rfl, hR⟩ := hz; exact hR⟩)
set_option maxRecDepth 100000 in
theorem b_X0_skip_4 {Q : ab_Q} {c : Int} {t0 : Int} {pP : Int → Int} {pV : Int → Int} {ppl : Int} {ppp : Int} {ppk : Int} (l1 : t0 = c → Q (some (.inl 1)) (pd_cs (pP, pV, ppl, (ppp + 1), ppk))) (l2 : ¬ t0 = c → Q (some (.inl 0)) (pd_cs (pP, pV, ppl, ppp, ppk))) (p1 : (ab_r t0 ∧ ab_r c) := by intros; (try unfold ab_r); omega) (p2 : t0 = c → ((1 : Int) = 0 ∨ (1 : Int) = 1) := by intros; (try unfold ab_r); omega) (p3 : ¬ t0 = c → ((0 : Int) = 0 ∨ (0 : Int) = 1) := by intros; (try unfold ab_r); omega) : ab_R E_X0_skip P_X0_skip Q 4 [some (.inr (.inl (some 0))), some (.inl c)] [.inl t0] (pd_cs (pP, pV, ppl, ppp, ppk)) :=
  ab_R.steps [4] 11 (show ((ab_r t0 ∧ ab_r c) ∧ ((t0 = c → (((1 : Int) = 0 ∨ (1 : Int) = 1) ∧ Q (some (.inl 1)) (pd_cs (pP, pV, ppl, (ppp + 1), ppk)))) ∧ (¬ t0 = c → (((0 : Int) = 0 ∨ (0 : Int) = 1) ∧ Q (some (.inl 0)) (pd_cs (pP, pV, ppl, ppp, ppk)))))) from ⟨p1, ⟨fun h1 => ⟨(p2 h1), (l1 h1)⟩, fun h2 => ⟨(p3 h2), (l2 h2)⟩⟩⟩)
-- ===== RootChunks$Pad.append
def P_X0_append : List ab_I := [(0, .aload_n 0, 1, []), (1, .getfield 15, 4, []), (4, .bipush 80, 6, []), (6, .if_icmp .ge 23, 9, [((0 : Int), 29)]), (9, .aload_n 0, 10, []), (10, .getfield 9, 13, []), (13, .aload_n 0, 14, []), (14, .getfield 15, 17, []), (17, .iload_n 1, 18, []), (18, .castore, 19, []), (19, .aload_n 0, 20, []), (20, .dup, 21, []), (21, .getfield 15, 24, []), (24, .iconst 1, 25, []), (25, .iadd, 26, []), (26, .putfield 15, 29, []), (29, .return_, 30, [])]
def E_X0_append : ab_E := (T_X0, [], [], 9)
def M_X0_append : List (Nat × ab_MI) := []
def mi_X0_append : ab_MI := (yX0_append, cX0_append, 2, ab_rty 9, 1, 70)
theorem pk_X0_append : P_X0_append.all (ab_okI cX0_append) = true := by decide +kernel
theorem ck_X0_append : P_X0_append.all (ab_okC1 "RootChunks$Pad" M_X0_append E_X0_append (1, 70)) = true := by decide +kernel
set_option maxRecDepth 100000 in
theorem b_X0_append_0 {Q : ab_Q} {c : Int} {pP : Int → Int} {pV : Int → Int} {ppl : Int} {ppp : Int} {ppk : Int} (l1 : (80 : Int) ≤ ppl → Q none (pd_cs (pP, pV, ppl, ppp, ppk))) (l2 : ppl < (80 : Int) → Q none (pd_cs ((ab_up pP ppl c), pV, (ppl + 1), ppp, ppk))) (p1 : (ab_r ppl ∧ ab_r 80) := by intros; (try unfold ab_r); omega) (p2 : ppl < (80 : Int) → (0 ≤ ppl ∧ ppl < 80 ∧ 0 ≤ c ∧ c < 65536) := by intros; (try unfold ab_r); omega) : ab_R E_X0_append P_X0_append Q 0 [some (.inr (.inl (some 0))), some (.inl c)] [] (pd_cs (pP, pV, ppl, ppp, ppk)) :=
  ab_R.steps [] 18 (show ((ab_r ppl ∧ ab_r 80) ∧ (((80 : Int) ≤ ppl → Q none (pd_cs (pP, pV, ppl, ppp, ppk))) ∧ (ppl < (80 : Int) → ((0 ≤ ppl ∧ ppl < 80 ∧ 0 ≤ c ∧ c < 65536) ∧ Q none (pd_cs ((ab_up pP ppl c), pV, (ppl + 1), ppp, ppk)))))) from ⟨p1, ⟨fun h1 => (l1 h1), fun h2 => ⟨(p2 h2), (l2 h2)⟩⟩⟩)
theorem vc_X0_next {av : List ab_V} {cs : List ab_C} {Q : ab_Q} (h : sp_X0_next av cs Q) : (ab_lv0 av).length ≤ 1 ∧ ab_R E_X0_next P_X0_next Q 0 (ab_ent av 1) [] cs := by
  obtain ⟨P, V, pl, pp, pk, l, rfl, rfl, hP, h0, h1, hQ⟩ := h
  refine ⟨Nat.le_of_ble_eq_true rfl, ?_⟩
  obtain ⟨n1, n2, n3, n4⟩ := mp_nx_in hP pp h0
  have hl := hP.2.1
  have hl2 := hP.2.2.1
  refine b_X0_next_0 (fun h => ?_) (fun h => ?_) (p4 := fun h => by have := n3 h; omega)
  · rwa [n4 h] at hQ
  · rwa [(n3 h).1] at hQ
theorem mt_X0_next (l : Launch) : ab_MT l mi_X0_next sp_X0_next := ab_MT.of (own := "RootChunks$Pad") (E := E_X0_next) (P := P_X0_next) (M := M_X0_next) (nL := 1) (ty := 1) (by decide) rfl rfl tk_X0 pk_X0_next ck_X0_next ab_CT'.nil (fun av cs Q h => vc_X0_next h)
theorem vc_X0_skip {av : List ab_V} {cs : List ab_C} {Q : ab_Q} (h : sp_X0_skip av cs Q) : (ab_lv0 av).length ≤ 2 ∧ ab_R E_X0_skip P_X0_skip Q 0 (ab_ent av 2) [] cs := by
  obtain ⟨P, V, pl, pp, pk, l, c, rfl, rfl, hP, h0, h1, hc, hQ⟩ := h
  refine ⟨Nat.le_of_ble_eq_true rfl, ?_⟩
  obtain ⟨n1, n2, n3, n4⟩ := mp_nx_in hP pp h0
  refine b_X0_skip_0 ⟨_, _, _, _, _, l, rfl, rfl, hP, h0, h1, _, rfl, rfl, ?_⟩
  unfold mp_ch at hQ
  dsimp only at hQ
  refine b_X0_skip_4 (fun h => ?_) (fun h => ?_) (p1 := ⟨by unfold ab_r; omega, hc⟩)
  · rw [if_pos ⟨rfl, h⟩] at hQ
    exact hQ
  · rw [if_neg (fun e => h e.2)] at hQ
    exact hQ
theorem mt_X0_skip (l : Launch) : ab_MT l mi_X0_skip sp_X0_skip := ab_MT.of (own := "RootChunks$Pad") (E := E_X0_skip) (P := P_X0_skip) (M := M_X0_skip) (nL := 2) (ty := 2) (by decide) rfl rfl tk_X0 pk_X0_skip ck_X0_skip (ab_CT'.cons (mt_X0_next l) ab_CT'.nil) (fun av cs Q h => vc_X0_skip h)
theorem vc_X0_append {av : List ab_V} {cs : List ab_C} {Q : ab_Q} (h : sp_X0_append av cs Q) : (ab_lv0 av).length ≤ 2 ∧ ab_R E_X0_append P_X0_append Q 0 (ab_ent av 2) [] cs := by
  obtain ⟨P, V, pl, pp, pk, l, c, rfl, rfl, ⟨h1, h2, h3, h4⟩, h5, h6, h7, hQ⟩ := h
  refine ⟨Nat.le_of_ble_eq_true rfl, ?_⟩
  refine b_X0_append_0 (fun h => by omega) (fun _ => hQ _ ⟨mq_al_snoc h1 h2, by rw [List.length_append, List.length_singleton]; omega, by rw [List.length_append, List.length_singleton]; omega, fun x hx => ?_⟩)
  rcases List.mem_append.mp hx with hx | hx
  · exact h4 x hx
  · rw [List.mem_singleton.mp hx]; exact ⟨h6, h7⟩
theorem mt_X0_append (l : Launch) : ab_MT l mi_X0_append sp_X0_append := ab_MT.of (own := "RootChunks$Pad") (E := E_X0_append) (P := P_X0_append) (M := M_X0_append) (nL := 2) (ty := 9) (by decide) rfl rfl tk_X0 pk_X0_append ck_X0_append ab_CT'.nil (fun av cs Q h => vc_X0_append h)
