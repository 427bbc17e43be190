/-! TEXTS OF THE CLASS: the fault, and carried out -/
def sp_X0_firstFault : ab_Sp := fun av cs Q => ∃ (P V : Int → Int) (pl pp pk : Int) (l : List Int), av = [.inr (.inl (some 0))] ∧ cs = pd_cs (P, V, pl, pp, pk) ∧ mh_P P pl l ∧ mx_V V ∧
  ∀ (V' : Int → Int) (pp' pk' : Int), mx_V V' → 0 ≤ pp' → pp' ≤ 1000 → Q (some (.inl (mp_all l 80 0).1)) (pd_cs (P, V', pl, pp', pk'))
def sp_X2_fault : ab_Sp := mx_in0 (fun S => ((mp_all S.2.2.2 80 0).1, S))
def sp_X2_carryOut : ab_Sp := mx_in0 mf_out
-- ===== RootChunks$Pad.firstFault
def P_X0_firstFault : List ab_I := [(0, .aload_n 0, 1, []), (1, .iconst 0, 2, []), (2, .putfield 19, 5, []), (5, .iconst 0, 6, []), (6, .istore_n 1, 7, []), (7, .iload_n 1, 8, []), (8, .bipush 80, 10, []), (10, .if_icmp .ge 49, 13, [((0 : Int), 59)]), (13, .aload_n 0, 14, []), (14, .invokevirtual 30, 17, []), (17, .ifCond .ne 8, 20, [((0 : Int), 25)]), (20, .aload_n 0, 21, []), (21, .getfield 19, 24, []), (24, .ireturn, 25, []), (25, .aload_n 0, 26, []), (26, .getfield 19, 29, []), (29, .aload_n 0, 30, []), (30, .getfield 15, 33, []), (33, .if_icmp .lt 6, 36, [((0 : Int), 39)]), (36, .bipush (-6), 38, []), (38, .ireturn, 39, []), (39, .aload_n 0, 40, []), (40, .bipush 59, 42, []), (42, .invokevirtual 34, 45, []), (45, .ifCond .ne 8, 48, [((0 : Int), 53)]), (48, .aload_n 0, 49, []), (49, .getfield 19, 52, []), (52, .ireturn, 53, []), (53, .iinc 1 1, 56, []), (56, .goto (-49), 59, [((0 : Int), 7)]), (59, .aload_n 0, 60, []), (60, .getfield 19, 63, []), (63, .ireturn, 64, [])]
def E_X0_firstFault : ab_E := (T_X0, [(14, (1, 0, [], 0, sp_X0_readOrder)), (42, (2, 0, [], 0, sp_X0_skip))], [], 0)
def M_X0_firstFault : List (Nat × ab_MI) := [(14, mi_X0_readOrder), (42, mi_X0_skip)]
def mi_X0_firstFault : ab_MI := (yX0_firstFault, cX0_firstFault, 2, ab_rty 0, 7, 175)
theorem pk_X0_firstFault : P_X0_firstFault.all (ab_okI cX0_firstFault) = true := by decide +kernel
theorem ck_X0_firstFault : P_X0_firstFault.all (ab_okC1 "RootChunks$Pad" M_X0_firstFault E_X0_firstFault (7, 175)) = true := by decide +kernel
set_option maxRecDepth 100000 in
theorem b_X0_firstFault_0 {Q : ab_Q} {pP : Int → Int} {pV : Int → Int} {ppl : Int} {ppp : Int} {ppk : Int} (l1 : ab_R E_X0_firstFault P_X0_firstFault Q 7 [some (.inr (.inl (some 0))), some (.inl 0)] [] (pd_cs (pP, pV, ppl, 0, ppk)))  : ab_R E_X0_firstFault P_X0_firstFault Q 0 [some (.inr (.inl (some 0))), none] [] (pd_cs (pP, pV, ppl, ppp, ppk)) :=
  ab_R.steps [7, 17, 45] 7 (show ab_R E_X0_firstFault P_X0_firstFault Q 7 [some (.inr (.inl (some 0))), some (.inl 0)] [] (pd_cs (pP, pV, ppl, 0, ppk)) from l1)
set_option maxRecDepth 100000 in
theorem b_X0_firstFault_7 {Q : ab_Q} {od : Int} {pP : Int → Int} {pV : Int → Int} {ppl : Int} {ppp : Int} {ppk : Int} (l1 : (80 : Int) ≤ od → Q (some (.inl ppp)) (pd_cs (pP, pV, ppl, ppp, ppk))) (l2 : od < (80 : Int) → sp_X0_readOrder [.inr (.inl (some 0))] (pd_cs (pP, pV, ppl, ppp, ppk)) (fun r_ k_ => ∃ (x_ : Int), ∃ (p' : pd_T), r_ = some (.inl x_) ∧ k_ = (pd_cs p') ∧ ab_R E_X0_firstFault P_X0_firstFault Q 17 [some (.inr (.inl (some 0))), some (.inl od)] [.inl x_] (pd_cs p'))) (p1 : (ab_r od ∧ ab_r 80) := by intros; (try unfold ab_r); omega) : ab_R E_X0_firstFault P_X0_firstFault Q 7 [some (.inr (.inl (some 0))), some (.inl od)] [] (pd_cs (pP, pV, ppl, ppp, ppk)) :=
  ab_R.steps [7, 17, 45] 7 (show ((ab_r od ∧ ab_r 80) ∧ (((80 : Int) ≤ od → Q (some (.inl ppp)) (pd_cs (pP, pV, ppl, ppp, ppk))) ∧ (od < (80 : Int) → ab_cl sp_X0_readOrder [.inr (.inl (some 0))] (pd_cs (pP, pV, ppl, ppp, ppk)) (fun r_ k_ => k_.length = ((pd_cs (pP, pV, ppl, ppp, ppk))).length → ab_R E_X0_firstFault P_X0_firstFault Q 17 [some (.inr (.inl (some 0))), some (.inl od)] (ab_ret r_ []) k_)))) from ⟨p1, ⟨fun h1 => (l1 h1), fun h2 => ⟨_, (l2 h2), fun r_ k_ hz _ => by obtain ⟨x_, p', rfl, rfl, hR⟩ := hz; exact hR⟩⟩⟩)
set_option maxRecDepth 100000 in
theorem b_X0_firstFault_17 {Q : ab_Q} {od : Int} {t0 : Int} {pP : Int → Int} {pV : Int → Int} {ppl : Int} {ppp : Int} {ppk : Int} (l1 : ¬ t0 = (0 : Int) → ppp < ppl → sp_X0_skip [.inr (.inl (some 0)), .inl 59] (pd_cs (pP, pV, ppl, ppp, ppk)) (fun r_ k_ => ∃ (x_ : Int), ∃ (p' : pd_T), r_ = some (.inl x_) ∧ k_ = (pd_cs p') ∧ ab_R E_X0_firstFault P_X0_firstFault Q 45 [some (.inr (.inl (some 0))), some (.inl od)] [.inl x_] (pd_cs p'))) (l2 : ¬ t0 = (0 : Int) → ppl ≤ ppp → Q (some (.inl (-6))) (pd_cs (pP, pV, ppl, ppp, ppk))) (l3 : t0 = (0 : Int) → Q (some (.inl ppp)) (pd_cs (pP, pV, ppl, ppp, ppk))) (p1 : ab_r t0 := by intros; (try unfold ab_r); omega) (p2 : ¬ t0 = (0 : Int) → (ab_r ppp ∧ ab_r ppl) := by intros; (try unfold ab_r); omega) : ab_R E_X0_firstFault P_X0_firstFault Q 17 [some (.inr (.inl (some 0))), some (.inl od)] [.inl t0] (pd_cs (pP, pV, ppl, ppp, ppk)) :=
  ab_R.steps [7, 17, 45] 10 (show (ab_r t0 ∧ ((¬ t0 = (0 : Int) → ((ab_r ppp ∧ ab_r ppl) ∧ ((ppp < ppl → ab_cl sp_X0_skip [.inr (.inl (some 0)), .inl 59] (pd_cs (pP, pV, ppl, ppp, ppk)) (fun r_ k_ => k_.length = ((pd_cs (pP, pV, ppl, ppp, ppk))).length → ab_R E_X0_firstFault P_X0_firstFault Q 45 [some (.inr (.inl (some 0))), some (.inl od)] (ab_ret r_ []) k_)) ∧ (ppl ≤ ppp → Q (some (.inl (-6))) (pd_cs (pP, pV, ppl, ppp, ppk)))))) ∧ (t0 = (0 : Int) → Q (some (.inl ppp)) (pd_cs (pP, pV, ppl, ppp, ppk))))) from ⟨p1, ⟨fun h1 => ⟨(p2 h1), ⟨fun h2 => ⟨_, (l1 h1 h2), fun r_ k_ hz _ => by obtain ⟨x_, p', rfl, rfl, hR⟩ := hz; exact hR⟩, fun h3 => (l2 h1 h3)⟩⟩, fun h4 => (l3 h4)⟩⟩)
set_option maxRecDepth 100000 in
theorem b_X0_firstFault_45 {Q : ab_Q} {od : Int} {t0 : Int} {pP : Int → Int} {pV : Int → Int} {ppl : Int} {ppp : Int} {ppk : Int} (l1 : ¬ t0 = (0 : Int) → ab_R E_X0_firstFault P_X0_firstFault Q 7 [some (.inr (.inl (some 0))), some (.inl (od + 1))] [] (pd_cs (pP, pV, ppl, ppp, ppk))) (l2 : t0 = (0 : Int) → Q (some (.inl ppp)) (pd_cs (pP, pV, ppl, ppp, ppk))) (p1 : ab_r t0 := by intros; (try unfold ab_r); omega) : ab_R E_X0_firstFault P_X0_firstFault Q 45 [some (.inr (.inl (some 0))), some (.inl od)] [.inl t0] (pd_cs (pP, pV, ppl, ppp, ppk)) :=
  ab_R.steps [7, 17, 45] 5 (show (ab_r t0 ∧ ((¬ t0 = (0 : Int) → ab_R E_X0_firstFault P_X0_firstFault Q 7 [some (.inr (.inl (some 0))), some (.inl (od + 1))] [] (pd_cs (pP, pV, ppl, ppp, ppk))) ∧ (t0 = (0 : Int) → Q (some (.inl ppp)) (pd_cs (pP, pV, ppl, ppp, ppk))))) from ⟨p1, ⟨fun h1 => (l1 h1), fun h2 => (l2 h2)⟩⟩)
-- ===== RootChunks.fault
def P_X2_fault : List ab_I := [(0, .aload_n 0, 1, []), (1, .getfield 41, 4, []), (4, .invokevirtual 141, 7, []), (7, .ireturn, 8, [])]
def E_X2_fault : ab_E := (T_X2, [(4, (1, 0, [54, 55, 56], 3, sp_X0_firstFault))], [], 0)
def M_X2_fault : List (Nat × ab_MI) := [(4, mi_X0_firstFault)]
def mi_X2_fault : ab_MI := (yX2_fault, cX2_fault, 1, ab_rty 0, 8, 196)
theorem pk_X2_fault : P_X2_fault.all (ab_okI cX2_fault) = true := by decide +kernel
theorem ck_X2_fault : P_X2_fault.all (ab_okC1 "RootChunks" M_X2_fault E_X2_fault (8, 196)) = true := by decide +kernel
set_option maxRecDepth 100000 in
theorem b_X2_fault_0 {Q : ab_Q} {u : Int} {r : rw_T} {q : rw_T} {o : List (Option Nat)} {h0 : rw_T} {h1 : rw_T} {h2 : rw_T} {h3 : rw_T} {h4 : rw_T} {h5 : rw_T} {s0 : rw_T} {s1 : rw_T} {z : Int → Int} {p : pd_T} {f : Int → Int} (l1 : sp_X0_firstFault [.inr (.inl (some 0))] (pd_cs p) (fun r_ k_ => ∃ (x_ : Int), ∃ (p' : pd_T), r_ = some (.inl x_) ∧ k_ = (pd_cs p') ∧ ab_R E_X2_fault P_X2_fault Q 7 [some (.inr (.inl (some 0)))] [.inl x_] (xz_cs u r q o h0 h1 h2 h3 h4 h5 s0 s1 z p' f)))  : ab_R E_X2_fault P_X2_fault Q 0 [some (.inr (.inl (some 0)))] [] (xz_cs u r q o h0 h1 h2 h3 h4 h5 s0 s1 z p f) :=
  ab_R.steps [7] 4 (show ab_cl sp_X0_firstFault [.inr (.inl (some 0))] (pd_cs p) (fun r_ k_ => k_.length = 3 → ab_R E_X2_fault P_X2_fault Q 7 [some (.inr (.inl (some 0)))] (ab_ret (r_.map (ab_reV [54, 55, 56])) []) (ab_back [54, 55, 56] [54, 55, 56] k_ (xz_cs u r q o h0 h1 h2 h3 h4 h5 s0 s1 z p f))) from ⟨_, l1, fun r_ k_ hz _ => by obtain ⟨x_, p', rfl, rfl, hR⟩ := hz; exact hR⟩)
set_option maxRecDepth 100000 in
theorem b_X2_fault_7 {Q : ab_Q} {t0 : Int} {u : Int} {r : rw_T} {q : rw_T} {o : List (Option Nat)} {h0 : rw_T} {h1 : rw_T} {h2 : rw_T} {h3 : rw_T} {h4 : rw_T} {h5 : rw_T} {s0 : rw_T} {s1 : rw_T} {z : Int → Int} {p : pd_T} {f : Int → Int} (l1 : Q (some (.inl t0)) (xz_cs u r q o h0 h1 h2 h3 h4 h5 s0 s1 z p f))  : ab_R E_X2_fault P_X2_fault Q 7 [some (.inr (.inl (some 0)))] [.inl t0] (xz_cs u r q o h0 h1 h2 h3 h4 h5 s0 s1 z p f) :=
  ab_R.steps [7] 2 (show Q (some (.inl t0)) (xz_cs u r q o h0 h1 h2 h3 h4 h5 s0 s1 z p f) from l1)
-- ===== RootChunks.carryOut
def P_X2_carryOut : List ab_I := [(0, .aload_n 0, 1, []), (1, .getfield 41, 4, []), (4, .invokevirtual 141, 7, []), (7, .bipush (-6), 9, []), (9, .if_icmp .eq 6, 12, [((0 : Int), 15)]), (12, .bipush (-3), 14, []), (14, .ireturn, 15, []), (15, .aload_n 0, 16, []), (16, .invokevirtual 144, 19, []), (19, .iconst 0, 20, []), (20, .istore_n 1, 21, []), (21, .aload_n 0, 22, []), (22, .getfield 41, 25, []), (25, .iconst 0, 26, []), (26, .putfield 147, 29, []), (29, .iconst 0, 30, []), (30, .istore_n 2, 31, []), (31, .iload_n 2, 32, []), (32, .bipush 80, 34, []), (34, .if_icmp .ge 120, 37, [((0 : Int), 154)]), (37, .aload_n 0, 38, []), (38, .getfield 41, 41, []), (41, .invokevirtual 150, 44, []), (44, .ifCond .eq 110, 47, [((0 : Int), 154)]), (47, .aload_n 0, 48, []), (48, .aload_n 0, 49, []), (49, .getfield 41, 52, []), (52, .getfield 154, 55, []), (55, .aload_n 0, 56, []), (56, .getfield 41, 59, []), (59, .getfield 158, 62, []), (62, .iconst 0, 63, []), (63, .iaload, 64, []), (64, .aload_n 0, 65, []), (65, .getfield 41, 68, []), (68, .getfield 158, 71, []), (71, .iconst 1, 72, []), (72, .iaload, 73, []), (73, .aload_n 0, 74, []), (74, .getfield 41, 77, []), (77, .getfield 158, 80, []), (80, .iconst 2, 81, []), (81, .iaload, 82, []), (82, .invokevirtual 161, 85, []), (85, .ifCond .eq 6, 88, [((0 : Int), 91)]), (88, .goto 66, 91, [((0 : Int), 154)]), (91, .aload_n 0, 92, []), (92, .aload_n 0, 93, []), (93, .getfield 41, 96, []), (96, .getfield 154, 99, []), (99, .aload_n 0, 100, []), (100, .getfield 41, 103, []), (103, .getfield 158, 106, []), (106, .iconst 0, 107, []), (107, .iaload, 108, []), (108, .aload_n 0, 109, []), (109, .getfield 41, 112, []), (112, .getfield 158, 115, []), (115, .iconst 1, 116, []), (116, .iaload, 117, []), (117, .aload_n 0, 118, []), (118, .getfield 41, 121, []), (121, .getfield 158, 124, []), (124, .iconst 2, 125, []), (125, .iaload, 126, []), (126, .invokevirtual 164, 129, []), (129, .pop, 130, []), (130, .iinc 1 1, 133, []), (133, .aload_n 0, 134, []), (134, .getfield 41, 137, []), (137, .bipush 59, 139, []), (139, .invokevirtual 167, 142, []), (142, .ifCond .ne 6, 145, [((0 : Int), 148)]), (145, .goto 9, 148, [((0 : Int), 154)]), (148, .iinc 2 1, 151, []), (151, .goto (-120), 154, [((0 : Int), 31)]), (154, .aload_n 0, 155, []), (155, .getfield 41, 158, []), (158, .iconst 0, 159, []), (159, .putfield 96, 162, []), (162, .iload_n 1, 163, []), (163, .ireturn, 164, [])]
def E_X2_carryOut : ab_E := (T_X2, [(4, (1, 0, [54, 55, 56], 3, sp_X0_firstFault)), (16, (1, 2, [], 0, sp_X2_remember)), (41, (1, 0, [54, 55, 56], 3, sp_X0_readOrder)), (82, (5, 2, [0, 1, 2, 3, 4, 5, 57, 6, 11, 42, 53, 54], 7, sp_X2_errorOf)), (126, (5, 2, [0, 1, 2, 3, 4, 5, 6, 11, 42, 53, 54, 57], 6, sp_X2_apply)), (139, (2, 0, [54, 55, 56], 3, sp_X0_skip))], [], 0)
def M_X2_carryOut : List (Nat × ab_MI) := [(4, mi_X0_firstFault), (16, mi_X2_remember), (41, mi_X0_readOrder), (82, mi_X2_errorOf), (126, mi_X2_apply), (139, mi_X0_skip)]
def mi_X2_carryOut : ab_MI := (yX2_carryOut, cX2_carryOut, 3, ab_rty 0, 8, 196)
theorem pk_X2_carryOut : P_X2_carryOut.all (ab_okI cX2_carryOut) = true := by decide +kernel
theorem ck_X2_carryOut : P_X2_carryOut.all (ab_okC1 "RootChunks" M_X2_carryOut E_X2_carryOut (8, 196)) = true := by decide +kernel
set_option maxRecDepth 100000 in
theorem b_X2_carryOut_0 {Q : ab_Q} {u : Int} {r : rw_T} {q : rw_T} {o : List (Option Nat)} {h0 : rw_T} {h1 : rw_T} {h2 : rw_T} {h3 : rw_T} {h4 : rw_T} {h5 : rw_T} {s0 : rw_T} {s1 : rw_T} {z : Int → Int} {pP : Int → Int} {pV : Int → Int} {ppl : Int} {ppp : Int} {ppk : Int} {f : Int → Int} (l1 : sp_X0_firstFault [.inr (.inl (some 0))] (pd_cs (pP, pV, ppl, ppp, ppk)) (fun r_ k_ => ∃ (x_ : Int), ∃ (p' : pd_T), r_ = some (.inl x_) ∧ k_ = (pd_cs p') ∧ ab_R E_X2_carryOut P_X2_carryOut Q 7 [some (.inr (.inl (some 0))), none, none] [.inl x_] (xz_cs u r q o h0 h1 h2 h3 h4 h5 s0 s1 z p' f)))  : ab_R E_X2_carryOut P_X2_carryOut Q 0 [some (.inr (.inl (some 0))), none, none] [] (xz_cs u r q o h0 h1 h2 h3 h4 h5 s0 s1 z (pP, pV, ppl, ppp, ppk) f) :=
  ab_R.steps [7, 19, 31, 44, 85, 129, 142] 4 (show ab_cl sp_X0_firstFault [.inr (.inl (some 0))] (pd_cs (pP, pV, ppl, ppp, ppk)) (fun r_ k_ => k_.length = 3 → ab_R E_X2_carryOut P_X2_carryOut Q 7 [some (.inr (.inl (some 0))), none, none] (ab_ret (r_.map (ab_reV [54, 55, 56])) []) (ab_back [54, 55, 56] [54, 55, 56] k_ (xz_cs u r q o h0 h1 h2 h3 h4 h5 s0 s1 z (pP, pV, ppl, ppp, ppk) f))) from ⟨_, l1, fun r_ k_ hz _ => by obtain ⟨x_, p', rfl, rfl, hR⟩ := hz; exact hR⟩)
set_option maxRecDepth 100000 in
theorem b_X2_carryOut_7 {Q : ab_Q} {t0 : Int} {u : Int} {r : rw_T} {q : rw_T} {o : List (Option Nat)} {h0 : rw_T} {h1 : rw_T} {h2 : rw_T} {h3 : rw_T} {h4 : rw_T} {h5 : rw_T} {s0 : rw_T} {s1 : rw_T} {z : Int → Int} {pP : Int → Int} {pV : Int → Int} {ppl : Int} {ppp : Int} {ppk : Int} {f : Int → Int} (l1 : t0 = ((-6) : Int) → sp_X2_remember [.inr (.inl (some 0))] (xz_cs u r q o h0 h1 h2 h3 h4 h5 s0 s1 z (pP, pV, ppl, ppp, ppk) f) (fun r_ k_ => ∃ (u' : Int), ∃ (r' : rw_T), ∃ (q' : rw_T), ∃ (o' : List (Option Nat)), ∃ (h0' : rw_T), ∃ (h1' : rw_T), ∃ (h2' : rw_T), ∃ (h3' : rw_T), ∃ (h4' : rw_T), ∃ (h5' : rw_T), ∃ (s0' : rw_T), ∃ (s1' : rw_T), ∃ (z' : Int → Int), ∃ (p' : pd_T), ∃ (f' : Int → Int), r_ = none ∧ k_ = (xz_cs (u') r' q' (o') h0' h1' h2' h3' h4' h5' s0' s1' (z') p' (f')) ∧ ab_R E_X2_carryOut P_X2_carryOut Q 19 [some (.inr (.inl (some 0))), none, none] [] (xz_cs (u') r' q' (o') h0' h1' h2' h3' h4' h5' s0' s1' (z') p' (f')))) (l2 : ¬ t0 = ((-6) : Int) → Q (some (.inl (-3))) (xz_cs u r q o h0 h1 h2 h3 h4 h5 s0 s1 z (pP, pV, ppl, ppp, ppk) f)) (p1 : (ab_r t0 ∧ ab_r (-6)) := by intros; (try unfold ab_r); omega) : ab_R E_X2_carryOut P_X2_carryOut Q 7 [some (.inr (.inl (some 0))), none, none] [.inl t0] (xz_cs u r q o h0 h1 h2 h3 h4 h5 s0 s1 z (pP, pV, ppl, ppp, ppk) f) :=
  ab_R.steps [7, 19, 31, 44, 85, 129, 142] 5 (show ((ab_r t0 ∧ ab_r (-6)) ∧ ((t0 = ((-6) : Int) → ab_cl sp_X2_remember [.inr (.inl (some 0))] (xz_cs u r q o h0 h1 h2 h3 h4 h5 s0 s1 z (pP, pV, ppl, ppp, ppk) f) (fun r_ k_ => k_.length = ((xz_cs u r q o h0 h1 h2 h3 h4 h5 s0 s1 z (pP, pV, ppl, ppp, ppk) f)).length → ab_R E_X2_carryOut P_X2_carryOut Q 19 [some (.inr (.inl (some 0))), none, none] (ab_ret r_ []) k_)) ∧ (¬ t0 = ((-6) : Int) → Q (some (.inl (-3))) (xz_cs u r q o h0 h1 h2 h3 h4 h5 s0 s1 z (pP, pV, ppl, ppp, ppk) f)))) from ⟨p1, ⟨fun h1 => ⟨_, (l1 h1), fun r_ k_ hz _ => by obtain ⟨u', r', q', o', h0', h1', h2', h3', h4', h5', s0', s1', z', p', f', rfl, rfl, hR⟩ := hz; exact hR⟩, fun h2 => (l2 h2)⟩⟩)
set_option maxRecDepth 100000 in
theorem b_X2_carryOut_19 {Q : ab_Q} {u : Int} {r : rw_T} {q : rw_T} {o : List (Option Nat)} {h0 : rw_T} {h1 : rw_T} {h2 : rw_T} {h3 : rw_T} {h4 : rw_T} {h5 : rw_T} {s0 : rw_T} {s1 : rw_T} {z : Int → Int} {pP : Int → Int} {pV : Int → Int} {ppl : Int} {ppp : Int} {ppk : Int} {f : Int → Int} (l1 : ab_R E_X2_carryOut P_X2_carryOut Q 31 [some (.inr (.inl (some 0))), some (.inl 0), some (.inl 0)] [] (xz_cs u r q o h0 h1 h2 h3 h4 h5 s0 s1 z (pP, pV, ppl, 0, ppk) f))  : ab_R E_X2_carryOut P_X2_carryOut Q 19 [some (.inr (.inl (some 0))), none, none] [] (xz_cs u r q o h0 h1 h2 h3 h4 h5 s0 s1 z (pP, pV, ppl, ppp, ppk) f) :=
  ab_R.steps [7, 19, 31, 44, 85, 129, 142] 10 (show ab_R E_X2_carryOut P_X2_carryOut Q 31 [some (.inr (.inl (some 0))), some (.inl 0), some (.inl 0)] [] (xz_cs u r q o h0 h1 h2 h3 h4 h5 s0 s1 z (pP, pV, ppl, 0, ppk) f) from l1)
set_option maxRecDepth 100000 in
theorem b_X2_carryOut_31 {Q : ab_Q} {n : Int} {od : Int} {u : Int} {r : rw_T} {q : rw_T} {o : List (Option Nat)} {h0 : rw_T} {h1 : rw_T} {h2 : rw_T} {h3 : rw_T} {h4 : rw_T} {h5 : rw_T} {s0 : rw_T} {s1 : rw_T} {z : Int → Int} {pP : Int → Int} {pV : Int → Int} {ppl : Int} {ppp : Int} {ppk : Int} {f : Int → Int} (l1 : (80 : Int) ≤ od → Q (some (.inl n)) (xz_cs u r q o h0 h1 h2 h3 h4 h5 s0 s1 z (pP, pV, 0, ppp, ppk) f)) (l2 : od < (80 : Int) → sp_X0_readOrder [.inr (.inl (some 0))] (pd_cs (pP, pV, ppl, ppp, ppk)) (fun r_ k_ => ∃ (x_ : Int), ∃ (p' : pd_T), r_ = some (.inl x_) ∧ k_ = (pd_cs p') ∧ ab_R E_X2_carryOut P_X2_carryOut Q 44 [some (.inr (.inl (some 0))), some (.inl n), some (.inl od)] [.inl x_] (xz_cs u r q o h0 h1 h2 h3 h4 h5 s0 s1 z p' f))) (p1 : (ab_r od ∧ ab_r 80) := by intros; (try unfold ab_r); omega) : ab_R E_X2_carryOut P_X2_carryOut Q 31 [some (.inr (.inl (some 0))), some (.inl n), some (.inl od)] [] (xz_cs u r q o h0 h1 h2 h3 h4 h5 s0 s1 z (pP, pV, ppl, ppp, ppk) f) :=
  ab_R.steps [7, 19, 31, 44, 85, 129, 142] 10 (show ((ab_r od ∧ ab_r 80) ∧ (((80 : Int) ≤ od → Q (some (.inl n)) (xz_cs u r q o h0 h1 h2 h3 h4 h5 s0 s1 z (pP, pV, 0, ppp, ppk) f)) ∧ (od < (80 : Int) → ab_cl sp_X0_readOrder [.inr (.inl (some 0))] (pd_cs (pP, pV, ppl, ppp, ppk)) (fun r_ k_ => k_.length = 3 → ab_R E_X2_carryOut P_X2_carryOut Q 44 [some (.inr (.inl (some 0))), some (.inl n), some (.inl od)] (ab_ret (r_.map (ab_reV [54, 55, 56])) []) (ab_back [54, 55, 56] [54, 55, 56] k_ (xz_cs u r q o h0 h1 h2 h3 h4 h5 s0 s1 z (pP, pV, ppl, ppp, ppk) f)))))) from ⟨p1, ⟨fun h1 => (l1 h1), fun h2 => ⟨_, (l2 h2), fun r_ k_ hz _ => by obtain ⟨x_, p', rfl, rfl, hR⟩ := hz; exact hR⟩⟩⟩)
set_option maxRecDepth 100000 in
theorem b_X2_carryOut_44 {Q : ab_Q} {n : Int} {od : Int} {t0 : Int} {u : Int} {r : rw_T} {q : rw_T} {o : List (Option Nat)} {h0 : rw_T} {h1 : rw_T} {h2 : rw_T} {h3 : rw_T} {h4 : rw_T} {h5 : rw_T} {s0 : rw_T} {s1 : rw_T} {z : Int → Int} {pP : Int → Int} {pV : Int → Int} {ppl : Int} {ppp : Int} {ppk : Int} {f : Int → Int} (l1 : t0 = (0 : Int) → Q (some (.inl n)) (xz_cs u r q o h0 h1 h2 h3 h4 h5 s0 s1 z (pP, pV, 0, ppp, ppk) f)) (l2 : ¬ t0 = (0 : Int) → sp_X2_errorOf [.inr (.inl (some 0)), .inl ppk, .inl (pV 0), .inl (pV 1), .inl (pV 2)] (xrs_cs u r f) (fun r_ k_ => ∃ (x_ : Int), ∃ (u' : Int), ∃ (r' : rw_T), ∃ (f' : Int → Int), r_ = some (.inl x_) ∧ k_ = (xrs_cs (u') r' (f')) ∧ ab_R E_X2_carryOut P_X2_carryOut Q 85 [some (.inr (.inl (some 0))), some (.inl n), some (.inl od)] [.inl x_] (xz_cs (u') r' q o h0 h1 h2 h3 h4 h5 s0 s1 z (pP, pV, ppl, ppp, ppk) (f')))) (p1 : ab_r t0 := by intros; (try unfold ab_r); omega) (p2 : ¬ t0 = (0 : Int) → (0 ≤ (0 : Int) ∧ (0 : Int) < 3) := by intros; (try unfold ab_r); omega) (p3 : ¬ t0 = (0 : Int) → (0 ≤ (1 : Int) ∧ (1 : Int) < 3) := by intros; (try unfold ab_r); omega) (p4 : ¬ t0 = (0 : Int) → (0 ≤ (2 : Int) ∧ (2 : Int) < 3) := by intros; (try unfold ab_r); omega) : ab_R E_X2_carryOut P_X2_carryOut Q 44 [some (.inr (.inl (some 0))), some (.inl n), some (.inl od)] [.inl t0] (xz_cs u r q o h0 h1 h2 h3 h4 h5 s0 s1 z (pP, pV, ppl, ppp, ppk) f) :=
  ab_R.steps [7, 19, 31, 44, 85, 129, 142] 22 (show (ab_r t0 ∧ ((t0 = (0 : Int) → Q (some (.inl n)) (xz_cs u r q o h0 h1 h2 h3 h4 h5 s0 s1 z (pP, pV, 0, ppp, ppk) f)) ∧ (¬ t0 = (0 : Int) → ((0 ≤ (0 : Int) ∧ (0 : Int) < 3) ∧ ((0 ≤ (1 : Int) ∧ (1 : Int) < 3) ∧ ((0 ≤ (2 : Int) ∧ (2 : Int) < 3) ∧ ab_cl sp_X2_errorOf [.inr (.inl (some 0)), .inl ppk, .inl (pV 0), .inl (pV 1), .inl (pV 2)] (xrs_cs u r f) (fun r_ k_ => k_.length = 7 → ab_R E_X2_carryOut P_X2_carryOut Q 85 [some (.inr (.inl (some 0))), some (.inl n), some (.inl od)] (ab_ret (r_.map (ab_reV [0, 1, 2, 3, 4, 5, 57, 6, 11, 42, 53, 54])) []) (ab_back [0, 1, 2, 3, 4, 5, 57, 6, 11, 42, 53, 54] [0, 1, 2, 3, 4, 5, 57] k_ (xz_cs u r q o h0 h1 h2 h3 h4 h5 s0 s1 z (pP, pV, ppl, ppp, ppk) f))))))))) from ⟨p1, ⟨fun h1 => (l1 h1), fun h2 => ⟨(p2 h2), ⟨(p3 h2), ⟨(p4 h2), ⟨_, (l2 h2), fun r_ k_ hz _ => by obtain ⟨x_, u', r', f', rfl, rfl, hR⟩ := hz; exact hR⟩⟩⟩⟩⟩⟩)
set_option maxRecDepth 100000 in
theorem b_X2_carryOut_85 {Q : ab_Q} {n : Int} {od : Int} {t0 : Int} {u : Int} {r : rw_T} {q : rw_T} {o : List (Option Nat)} {h0 : rw_T} {h1 : rw_T} {h2 : rw_T} {h3 : rw_T} {h4 : rw_T} {h5 : rw_T} {s0 : rw_T} {s1 : rw_T} {z : Int → Int} {pP : Int → Int} {pV : Int → Int} {ppl : Int} {ppp : Int} {ppk : Int} {f : Int → Int} (l1 : t0 = (0 : Int) → sp_X2_apply [.inr (.inl (some 0)), .inl ppk, .inl (pV 0), .inl (pV 1), .inl (pV 2)] (xr_cs u r) (fun r_ k_ => ∃ (x_ : Int), ∃ (u' : Int), ∃ (r' : rw_T), r_ = some (.inl x_) ∧ k_ = (xr_cs (u') r') ∧ ab_R E_X2_carryOut P_X2_carryOut Q 129 [some (.inr (.inl (some 0))), some (.inl n), some (.inl od)] [.inl x_] (xz_cs (u') r' q o h0 h1 h2 h3 h4 h5 s0 s1 z (pP, pV, ppl, ppp, ppk) f))) (l2 : ¬ t0 = (0 : Int) → Q (some (.inl n)) (xz_cs u r q o h0 h1 h2 h3 h4 h5 s0 s1 z (pP, pV, 0, ppp, ppk) f)) (p1 : ab_r t0 := by intros; (try unfold ab_r); omega) (p2 : t0 = (0 : Int) → (0 ≤ (0 : Int) ∧ (0 : Int) < 3) := by intros; (try unfold ab_r); omega) (p3 : t0 = (0 : Int) → (0 ≤ (1 : Int) ∧ (1 : Int) < 3) := by intros; (try unfold ab_r); omega) (p4 : t0 = (0 : Int) → (0 ≤ (2 : Int) ∧ (2 : Int) < 3) := by intros; (try unfold ab_r); omega) : ab_R E_X2_carryOut P_X2_carryOut Q 85 [some (.inr (.inl (some 0))), some (.inl n), some (.inl od)] [.inl t0] (xz_cs u r q o h0 h1 h2 h3 h4 h5 s0 s1 z (pP, pV, ppl, ppp, ppk) f) :=
  ab_R.steps [7, 19, 31, 44, 85, 129, 142] 22 (show (ab_r t0 ∧ ((t0 = (0 : Int) → ((0 ≤ (0 : Int) ∧ (0 : Int) < 3) ∧ ((0 ≤ (1 : Int) ∧ (1 : Int) < 3) ∧ ((0 ≤ (2 : Int) ∧ (2 : Int) < 3) ∧ ab_cl sp_X2_apply [.inr (.inl (some 0)), .inl ppk, .inl (pV 0), .inl (pV 1), .inl (pV 2)] (xr_cs u r) (fun r_ k_ => k_.length = 6 → ab_R E_X2_carryOut P_X2_carryOut Q 129 [some (.inr (.inl (some 0))), some (.inl n), some (.inl od)] (ab_ret (r_.map (ab_reV [0, 1, 2, 3, 4, 5, 6, 11, 42, 53, 54, 57])) []) (ab_back [0, 1, 2, 3, 4, 5, 6, 11, 42, 53, 54, 57] [0, 1, 2, 3, 4, 5] k_ (xz_cs u r q o h0 h1 h2 h3 h4 h5 s0 s1 z (pP, pV, ppl, ppp, ppk) f))))))) ∧ (¬ t0 = (0 : Int) → Q (some (.inl n)) (xz_cs u r q o h0 h1 h2 h3 h4 h5 s0 s1 z (pP, pV, 0, ppp, ppk) f)))) from ⟨p1, ⟨fun h1 => ⟨(p2 h1), ⟨(p3 h1), ⟨(p4 h1), ⟨_, (l1 h1), fun r_ k_ hz _ => by obtain ⟨x_, u', r', rfl, rfl, hR⟩ := hz; exact hR⟩⟩⟩⟩, fun h2 => (l2 h2)⟩⟩)
set_option maxRecDepth 100000 in
theorem b_X2_carryOut_129 {Q : ab_Q} {n : Int} {od : Int} {t0 : Int} {u : Int} {r : rw_T} {q : rw_T} {o : List (Option Nat)} {h0 : rw_T} {h1 : rw_T} {h2 : rw_T} {h3 : rw_T} {h4 : rw_T} {h5 : rw_T} {s0 : rw_T} {s1 : rw_T} {z : Int → Int} {pP : Int → Int} {pV : Int → Int} {ppl : Int} {ppp : Int} {ppk : Int} {f : Int → Int} (l1 : sp_X0_skip [.inr (.inl (some 0)), .inl 59] (pd_cs (pP, pV, ppl, ppp, ppk)) (fun r_ k_ => ∃ (x_ : Int), ∃ (p' : pd_T), r_ = some (.inl x_) ∧ k_ = (pd_cs p') ∧ ab_R E_X2_carryOut P_X2_carryOut Q 142 [some (.inr (.inl (some 0))), some (.inl (n + 1)), some (.inl od)] [.inl x_] (xz_cs u r q o h0 h1 h2 h3 h4 h5 s0 s1 z p' f)))  : ab_R E_X2_carryOut P_X2_carryOut Q 129 [some (.inr (.inl (some 0))), some (.inl n), some (.inl od)] [.inl t0] (xz_cs u r q o h0 h1 h2 h3 h4 h5 s0 s1 z (pP, pV, ppl, ppp, ppk) f) :=
  ab_R.steps [7, 19, 31, 44, 85, 129, 142] 7 (show ab_cl sp_X0_skip [.inr (.inl (some 0)), .inl 59] (pd_cs (pP, pV, ppl, ppp, ppk)) (fun r_ k_ => k_.length = 3 → ab_R E_X2_carryOut P_X2_carryOut Q 142 [some (.inr (.inl (some 0))), some (.inl (n + 1)), some (.inl od)] (ab_ret (r_.map (ab_reV [54, 55, 56])) []) (ab_back [54, 55, 56] [54, 55, 56] k_ (xz_cs u r q o h0 h1 h2 h3 h4 h5 s0 s1 z (pP, pV, ppl, ppp, ppk) f))) from ⟨_, l1, fun r_ k_ hz _ => by obtain ⟨x_, p', rfl, rfl, hR⟩ := hz; exact hR⟩)
set_option maxRecDepth 100000 in
theorem b_X2_carryOut_142 {Q : ab_Q} {n : Int} {od : Int} {t0 : Int} {u : Int} {r : rw_T} {q : rw_T} {o : List (Option Nat)} {h0 : rw_T} {h1 : rw_T} {h2 : rw_T} {h3 : rw_T} {h4 : rw_T} {h5 : rw_T} {s0 : rw_T} {s1 : rw_T} {z : Int → Int} {pP : Int → Int} {pV : Int → Int} {ppl : Int} {ppp : Int} {ppk : Int} {f : Int → Int} (l1 : ¬ t0 = (0 : Int) → ab_R E_X2_carryOut P_X2_carryOut Q 31 [some (.inr (.inl (some 0))), some (.inl n), some (.inl (od + 1))] [] (xz_cs u r q o h0 h1 h2 h3 h4 h5 s0 s1 z (pP, pV, ppl, ppp, ppk) f)) (l2 : t0 = (0 : Int) → Q (some (.inl n)) (xz_cs u r q o h0 h1 h2 h3 h4 h5 s0 s1 z (pP, pV, 0, ppp, ppk) f)) (p1 : ab_r t0 := by intros; (try unfold ab_r); omega) : ab_R E_X2_carryOut P_X2_carryOut Q 142 [some (.inr (.inl (some 0))), some (.inl n), some (.inl od)] [.inl t0] (xz_cs u r q o h0 h1 h2 h3 h4 h5 s0 s1 z (pP, pV, ppl, ppp, ppk) f) :=
  ab_R.steps [7, 19, 31, 44, 85, 129, 142] 9 (show (ab_r t0 ∧ ((¬ t0 = (0 : Int) → ab_R E_X2_carryOut P_X2_carryOut Q 31 [some (.inr (.inl (some 0))), some (.inl n), some (.inl (od + 1))] [] (xz_cs u r q o h0 h1 h2 h3 h4 h5 s0 s1 z (pP, pV, ppl, ppp, ppk) f)) ∧ (t0 = (0 : Int) → Q (some (.inl n)) (xz_cs u r q o h0 h1 h2 h3 h4 h5 s0 s1 z (pP, pV, 0, ppp, ppk) f)))) from ⟨p1, ⟨fun h1 => (l1 h1), fun h2 => (l2 h2)⟩⟩)
theorem mf_irr {k : Int} {q : List mq_K} {a b c b' c' : Int} (hk : mp_is k) (hb : ¬ k = 99 → b = b') (hc : k = 97 ∨ k = 109 ∨ k = 114 → c = c') : mf_err k q a b c = mf_err k q a b' c' ∧ mf_do k q a b c = mf_do k q a b' c' := by
  unfold mp_is at hk
  rcases hk with rfl | rfl | rfl | rfl | rfl | rfl | rfl
  · obtain rfl := hb (by decide)
    exact ⟨rfl, rfl⟩
  · exact ⟨rfl, rfl⟩
  · obtain rfl := hb (by decide)
    exact ⟨rfl, rfl⟩
  · obtain rfl := hb (by decide)
    exact ⟨rfl, rfl⟩
  · obtain rfl := hb (by decide)
    obtain rfl := hc (by decide)
    exact ⟨rfl, rfl⟩
  · obtain rfl := hb (by decide)
    obtain rfl := hc (by decide)
    exact ⟨rfl, rfl⟩
  · obtain rfl := hb (by decide)
    obtain rfl := hc (by decide)
    exact ⟨rfl, rfl⟩
theorem vc_X0_firstFault {av : List ab_V} {cs : List ab_C} {Q : ab_Q} (h : sp_X0_firstFault av cs Q) : (ab_lv0 av).length ≤ 2 ∧ ab_R E_X0_firstFault P_X0_firstFault Q 0 (ab_ent av 2) [] cs := by
  obtain ⟨P, V, pl, pp, pk, l, rfl, rfl, hP, hV, hQ⟩ := h
  refine ⟨Nat.le_of_ble_eq_true rfl, ?_⟩
  have hln := hP.2.1
  have hl80 := hP.2.2.1
  generalize hw : mp_all l 80 0 = W at hQ
  have main : ∀ (n : Nat) (i od : Int) (V1 : Int → Int) (pk1 : Int), mx_V V1 → (od + n = 80 ∧ 0 ≤ od) → 0 ≤ i → i ≤ 80 → W.1 = (mp_all l n i).1 → ab_R E_X0_firstFault P_X0_firstFault Q 7 [some (.inr (.inl (some 0))), some (.inl od)] [] (pd_cs (P, V1, pl, i, pk1)) := by
    intro n
    induction n with
    | zero =>
      intro i od V1 pk1 g0 g1 g2 g3 g4
      refine b_X0_firstFault_7 (fun _ => ?_) (fun h => by omega)
      have := hQ V1 i pk1 g0 g2 (by omega)
      rw [g4] at this
      exact this
    | succ n ih =>
      intro i od V1 pk1 g0 g1 g2 g3 g4
      have ho := mp_ord_in (p := l) g2 (by omega)
      unfold mp_all at g4
      refine b_X0_firstFault_7 (fun h => by omega) (fun _ => ⟨P, V1, pl, i, pk1, l, rfl, rfl, hP, g0, g2, by omega, fun hn V2 pk2 hV2 => ⟨_, _, rfl, rfl, ?_⟩, fun hy V2 hV2 _ => ⟨_, _, rfl, rfl, ?_⟩⟩)
      · rw [if_neg hn] at g4
        refine b_X0_firstFault_17 (fun h => absurd rfl h) (fun h => absurd rfl h) (fun _ => ?_)
        have := hQ V2 (mp_ord l i).1.1 pk2 hV2 (by omega) (by omega)
        rw [g4] at this
        exact this
      · rw [if_pos hy] at g4
        refine b_X0_firstFault_17 (fun _ hlt => ?_) (fun _ hle => ?_) (fun h => by omega) (p2 := fun _ => by unfold ab_r; omega)
        · rw [if_pos (by omega)] at g4
          refine ⟨P, V2, pl, (mp_ord l i).1.1, _, l, _, rfl, rfl, hP, by omega, by omega, by unfold ab_r; omega, _, _, rfl, rfl, ?_⟩
          by_cases hc : mp_nx l (mp_ord l i).1.1 = 59
          · rw [if_pos hc] at g4
            have e : mp_ch l 59 ((mp_ord l i).1.1, 1) = ((mp_ord l i).1.1 + 1, 1) := by unfold mp_ch; rw [if_pos ⟨rfl, hc⟩]
            rw [e]
            exact b_X0_firstFault_45 (fun _ => ih _ _ V2 _ hV2 (by omega) (by dsimp only; omega) (by dsimp only; omega) g4) (fun h => absurd h rx_10)
          · rw [if_neg hc] at g4
            have e : mp_ch l 59 ((mp_ord l i).1.1, 1) = ((mp_ord l i).1.1, 0) := by unfold mp_ch; rw [if_neg (fun h => hc h.2)]
            rw [e]
            refine b_X0_firstFault_45 (fun h => absurd rfl h) (fun _ => ?_)
            have := hQ V2 (mp_ord l i).1.1 (mp_ord l i).2.1 hV2 (by omega) (by omega)
            rw [g4] at this
            exact this
        · rw [if_neg (by omega)] at g4
          have := hQ V2 (mp_ord l i).1.1 (mp_ord l i).2.1 hV2 (by omega) (by omega)
          rw [g4] at this
          exact this
  exact b_X0_firstFault_0 (main 80 0 0 V pk hV ⟨by omega, by omega⟩ (by omega) (by omega) (by rw [hw]))
theorem mt_X0_firstFault (l : Launch) : ab_MT l mi_X0_firstFault sp_X0_firstFault := ab_MT.of (own := "RootChunks$Pad") (E := E_X0_firstFault) (P := P_X0_firstFault) (M := M_X0_firstFault) (nL := 2) (ty := 0) (by decide) rfl rfl tk_X0 pk_X0_firstFault ck_X0_firstFault (ab_CT'.cons (mt_X0_readOrder l) (ab_CT'.cons (mt_X0_skip l) ab_CT'.nil)) (fun av cs Q h => vc_X0_firstFault h)
theorem vc_X2_fault {av : List ab_V} {cs : List ab_C} {Q : ab_Q} (h : sp_X2_fault av cs Q) : (ab_lv0 av).length ≤ 1 ∧ ab_R E_X2_fault P_X2_fault Q 0 (ab_ent av 1) [] cs := by
  obtain ⟨⟨u, r, q, o, hy, s0, s1, z, ⟨P, V, pl, pp, pk⟩, f⟩, S, rfl, rfl, hI, hQ⟩ := h
  refine ⟨Nat.le_of_ble_eq_true rfl, ?_⟩
  show ab_R E_X2_fault P_X2_fault Q 0 [some (.inr (.inl (some 0)))] [] (xz_cs u r q o (hy 0) (hy 1) (hy 2) (hy 3) (hy 4) (hy 5) s0 s1 z (P, V, pl, pp, pk) f)
  have hP : mx_P (P, V, pl, pp, pk) S.2.2.2 := hI.2.2.2
  have hPP : mh_P P pl S.2.2.2 := hP.1
  have hV : mx_V V := hP.2.1
  exact b_X2_fault_0 ⟨P, V, pl, pp, pk, S.2.2.2, rfl, rfl, hPP, hV, fun V' pp' pk' hV' h0 h1 => ⟨_, _, rfl, rfl, b_X2_fault_7 (hQ (u, r, q, o, hy, s0, s1, z, (P, V', pl, pp', pk'), f) ⟨hI.1, hI.2.1, hI.2.2.1, hPP, hV', h0, h1⟩)⟩⟩
theorem mt_X2_fault (l : Launch) : ab_MT l mi_X2_fault sp_X2_fault := ab_MT.of (own := "RootChunks") (E := E_X2_fault) (P := P_X2_fault) (M := M_X2_fault) (nL := 1) (ty := 0) (by decide) rfl rfl tk_X2 pk_X2_fault ck_X2_fault (ab_CT'.cons (mt_X0_firstFault l) ab_CT'.nil) (fun av cs Q h => vc_X2_fault h)
theorem vc_X2_carryOut {av : List ab_V} {cs : List ab_C} {Q : ab_Q} (h : sp_X2_carryOut av cs Q) : (ab_lv0 av).length ≤ 3 ∧ ab_R E_X2_carryOut P_X2_carryOut Q 0 (ab_ent av 3) [] cs := by
  obtain ⟨⟨u, r, q, o, hy, s0, s1, z, ⟨P, V, pl, pp, pk⟩, f⟩, S, rfl, rfl, hI, hQ⟩ := h
  refine ⟨Nat.le_of_ble_eq_true rfl, ?_⟩
  show ab_R E_X2_carryOut P_X2_carryOut Q 0 [some (.inr (.inl (some 0))), none, none] [] (xz_cs u r q o (hy 0) (hy 1) (hy 2) (hy 3) (hy 4) (hy 5) s0 s1 z (P, V, pl, pp, pk) f)
  have hst : mx_st r S.1 := hI.1
  have hH : mx_H u o hy S.2.1 := hI.2.1
  have hP : mx_P (P, V, pl, pp, pk) S.2.2.2 := hI.2.2.2
  have hPP : mh_P P pl S.2.2.2 := hP.1
  have hV : mx_V V := hP.2.1
  have hln : pl = (S.2.2.2.length : Nat) := hPP.2.1
  have hl80 := hPP.2.2.1
  unfold mf_out at hQ
  have bound : ∀ (n : Nat) (i : Int), 0 ≤ i → i ≤ 81 → -6 ≤ (mp_all S.2.2.2 n i).1 ∧ (mp_all S.2.2.2 n i).1 ≤ 200 := by
    intro n
    induction n with
    | zero => intro i h0 h1; unfold mp_all; dsimp only; omega
    | succ n ih =>
      intro i h0 h1
      have ho := mp_ord_in (p := S.2.2.2) h0 (by omega)
      unfold mp_all
      split
      · split
        · split
          · exact ih _ (by omega) (by omega)
          · dsimp only; omega
        · dsimp only; omega
      · dsimp only; omega
  have hb0 := bound 80 0 (by omega) (by omega)
  refine b_X2_carryOut_0 ⟨P, V, pl, pp, pk, S.2.2.2, rfl, rfl, hPP, hV, fun V1 pp1 pk1 hV1 h0 h1 => ⟨_, _, rfl, rfl, ?_⟩⟩
  refine b_X2_carryOut_7 (fun h6 => ?_) (fun h6 => ?_) (p1 := ⟨by unfold ab_r; omega, by unfold ab_r; omega⟩)
  · rw [if_pos h6] at hQ
    refine ⟨u, r, q, o, hy, s0, s1, z, (P, V1, pl, pp1, pk1), f, S.1, S.2.1, rfl, rfl, hst, hH, fun u' o' h' hH' => ⟨_, _, _, _, _, _, _, _, _, _, _, _, _, _, _, rfl, rfl, ?_⟩⟩
    refine b_X2_carryOut_19 ?_
    have fin : ∀ (n : Int) (x : mS_X) (r2 : rw_T) (f2 : Int → Int) (P2 V2 : Int → Int) (pp2 pk2 : Int), mf_ex (mp_all S.2.2.2 80 0).2 S.1 0 = (n, x) → mx_st r2 x → mx_V V2 → 0 ≤ pp2 → pp2 ≤ 1000 → Q (some (.inl n)) (xz_cs u' r2 q o' (h' 0) (h' 1) (h' 2) (h' 3) (h' 4) (h' 5) s0 s1 z (P2, V2, 0, pp2, pk2) f2) := by
      intro n x r2 f2 P2 V2 pp2 pk2 e1 e2 e3 e4 e5
      rw [e1] at hQ
      exact hQ (u', r2, q, o', h', s0, s1, z, (P2, V2, 0, pp2, pk2), f2) ⟨e2, hH', hI.2.2.1, ⟨mq_al_nil _, rfl, by simp, fun x hx => by simp at hx⟩, e3, e4, e5⟩
    have loop : ∀ (m : Nat) (i od n : Int) (x : mS_X) (r2 : rw_T) (f2 V2 : Int → Int) (pk2 : Int), od + m = 80 → 0 ≤ i → i ≤ 80 → 0 ≤ n → n ≤ od → (mp_all S.2.2.2 m i).1 = -6 → mx_st r2 x → mx_V V2 → mf_ex (mp_all S.2.2.2 80 0).2 S.1 0 = mf_ex (mp_all S.2.2.2 m i).2 x n →
        ab_R E_X2_carryOut P_X2_carryOut Q 31 [some (.inr (.inl (some 0))), some (.inl n), some (.inl od)] [] (xz_cs u' r2 q o' (h' 0) (h' 1) (h' 2) (h' 3) (h' 4) (h' 5) s0 s1 z (P, V2, pl, i, pk2) f2) := by
      intro m
      induction m with
      | zero =>
        intro i od n x r2 f2 V2 pk2 g0 g1 g2 g3 g3' g4
        have : (mp_all S.2.2.2 0 i).1 = i := rfl
        omega
      | succ m ih =>
        intro i od n x r2 f2 V2 pk2 g0 g1 g2 g3 g3' g4 g5 g6 g7
        have ho := mp_ord_in (p := S.2.2.2) g1 (by omega)
        unfold mp_all at g4 g7
        refine b_X2_carryOut_31 (fun h => by omega) (fun _ => ⟨P, V2, pl, i, pk2, S.2.2.2, rfl, rfl, hPP, g6, g1, by omega, fun hn => ?_, fun hok V3 hV3 hmo => ⟨_, _, rfl, rfl, ?_⟩⟩)
        · rw [if_neg hn] at g4
          dsimp only at g4
          omega
        · rw [if_pos hok] at g4 g7
          have ho2 := ho.2.2.2 hok
          have hoko := mp_ord_ok (p := S.2.2.2) (i := i) hok
          -- what the list begins with
          have hlist : ∃ rest, (if (mp_ord S.2.2.2 i).1.1 < (S.2.2.2.length : Nat) then (if mp_nx S.2.2.2 (mp_ord S.2.2.2 i).1.1 = 59 then ((mp_all S.2.2.2 m ((mp_ord S.2.2.2 i).1.1 + 1)).1, (mp_ord S.2.2.2 i).2 :: (mp_all S.2.2.2 m ((mp_ord S.2.2.2 i).1.1 + 1)).2) else ((mp_ord S.2.2.2 i).1.1, [(mp_ord S.2.2.2 i).2])) else (-6, [(mp_ord S.2.2.2 i).2])).2 = (mp_ord S.2.2.2 i).2 :: rest ∧ (((mp_ord S.2.2.2 i).1.1 < (S.2.2.2.length : Nat) ∧ mp_nx S.2.2.2 (mp_ord S.2.2.2 i).1.1 = 59 ∧ (mp_all S.2.2.2 m ((mp_ord S.2.2.2 i).1.1 + 1)).1 = -6 ∧ rest = (mp_all S.2.2.2 m ((mp_ord S.2.2.2 i).1.1 + 1)).2) ∨ ((S.2.2.2.length : Nat) ≤ (mp_ord S.2.2.2 i).1.1 ∧ rest = [])) := by
            by_cases c1 : (mp_ord S.2.2.2 i).1.1 < (S.2.2.2.length : Nat)
            · rw [if_pos c1] at g4 ⊢
              by_cases c2 : mp_nx S.2.2.2 (mp_ord S.2.2.2 i).1.1 = 59
              · rw [if_pos c2] at g4 ⊢
                exact ⟨_, rfl, Or.inl ⟨c1, c2, g4, rfl⟩⟩
              · rw [if_neg c2] at g4
                dsimp only at g4
                omega
            · rw [if_neg c1]
              exact ⟨[], rfl, Or.inr ⟨by omega, rfl⟩⟩
          obtain ⟨rest, hr1, hr2⟩ := hlist
          rw [hr1] at g7
          generalize hoo : (mp_ord S.2.2.2 i).2 = oo at *
          obtain ⟨k, a, b, v⟩ := oo
          obtain ⟨m1, m2, m3⟩ := hmo
          dsimp only at m1 m2 m3 ho2 hoko
          obtain ⟨k1, k2, k3, k4⟩ := hoko
          dsimp only at k1 k2 k3 k4
          have hirr : mf_err k x.1 (V3 0) (V3 1) (V3 2) = mo_err x.1 (k, a, b, v) ∧ mf_do k x.1 (V3 0) (V3 1) (V3 2) = mo_do x.1 (k, a, b, v) := by
            rw [m1]
            exact mf_irr k1 m2 m3
          have her := mf_err_in k x.1 a (mo_b k b v) v
          have her2 : mo_err x.1 (k, a, b, v) = mf_err k x.1 a (mo_b k b v) v := rfl
          have ex1 : mf_ex ((k, a, b, v) :: rest) x n = if mo_err x.1 (k, a, b, v) = 0 then mf_ex rest ((mo_do x.1 (k, a, b, v)).1, x.2 + (mo_do x.1 (k, a, b, v)).2) (n + 1) else (n, x) := by
            conv => lhs; unfold mf_ex
          rw [ex1] at g7
          refine b_X2_carryOut_44 (fun h => absurd h rx_10) (fun _ => ?_)
          refine ⟨u', r2, f2, x.1, k, _, _, _, rfl, rfl, g5.1, g5.2.1, k1, hV3.1, hV3.2.1, hV3.2.2, fun f3 => ⟨_, _, _, _, rfl, rfl, ?_⟩⟩
          rw [hirr.1]
          refine b_X2_carryOut_85 (fun h0 => ?_) (fun h0 => ?_) (p1 := by rw [her2]; unfold ab_r; omega)
          · rw [if_pos h0] at g7
            refine ⟨u', r2, x.1, k, _, _, _, rfl, rfl, g5.1, g5.2.1, k1, hV3.1, hV3.2.1, hV3.2.2, hirr.1.trans h0, fun r3 e1 e2 => ⟨_, _, _, rfl, rfl, ?_⟩⟩
            rw [hirr.2] at e1 e2
            have hst3 : mx_st r3 ((mo_do x.1 (k, a, b, v)).1, x.2 + (mo_do x.1 (k, a, b, v)).2) := ⟨e1, mf_do_W g5.2.1 h0, by rw [e2, g5.2.2]⟩
            refine b_X2_carryOut_129 ⟨P, V3, pl, (mp_ord S.2.2.2 i).1.1, k, S.2.2.2, 59, rfl, rfl, hPP, by omega, by omega, by unfold ab_r; omega, _, _, rfl, rfl, ?_⟩
            rcases hr2 with ⟨c1, c2, c3, c4⟩ | ⟨c1, c2⟩
            · have e : mp_ch S.2.2.2 59 ((mp_ord S.2.2.2 i).1.1, 1) = ((mp_ord S.2.2.2 i).1.1 + 1, 1) := by unfold mp_ch; rw [if_pos ⟨rfl, c2⟩]
              rw [e]
              rw [c4] at g7
              exact b_X2_carryOut_142 (fun _ => ih _ _ _ _ r3 f3 V3 k (by omega) (by dsimp only; omega) (by dsimp only; omega) (by omega) (by omega) c3 hst3 hV3 g7) (fun h => absurd h rx_10)
            · have hnx := (mp_nx_in hPP (mp_ord S.2.2.2 i).1.1 (by omega)).2.2.2 (by omega)
              have e : mp_ch S.2.2.2 59 ((mp_ord S.2.2.2 i).1.1, 1) = ((mp_ord S.2.2.2 i).1.1, 0) := by unfold mp_ch; rw [if_neg (fun h => by have := h.2; dsimp only at this; omega)]
              rw [e]
              rw [c2] at g7
              refine b_X2_carryOut_142 (fun h => absurd rfl h) (fun _ => ?_)
              exact fin (n + 1) _ r3 f3 P V3 _ k g7 hst3 hV3 (by dsimp only; omega) (by dsimp only; omega)
          · rw [if_neg h0] at g7
            exact fin n x r2 f3 P V3 _ k g7 g5 hV3 (by omega) (by omega)
    exact loop 80 0 0 0 S.1 r f V1 pk1 rfl (by omega) (by omega) (by omega) (by omega) h6 hst hV1 rfl
  · rw [if_neg h6] at hQ
    exact hQ (u, r, q, o, hy, s0, s1, z, (P, V1, pl, pp1, pk1), f) ⟨hI.1, hI.2.1, hI.2.2.1, hPP, hV1, h0, h1⟩
theorem mt_X2_carryOut (l : Launch) : ab_MT l mi_X2_carryOut sp_X2_carryOut := ab_MT.of (own := "RootChunks") (E := E_X2_carryOut) (P := P_X2_carryOut) (M := M_X2_carryOut) (nL := 3) (ty := 0) (by decide) rfl rfl tk_X2 pk_X2_carryOut ck_X2_carryOut (ab_CT'.cons (mt_X0_firstFault l) (ab_CT'.cons (mt_X2_remember l) (ab_CT'.cons (mt_X0_readOrder l) (ab_CT'.cons (mt_X2_errorOf l) (ab_CT'.cons (mt_X2_apply l) (ab_CT'.cons (mt_X0_skip l) ab_CT'.nil)))))) (fun av cs Q h => vc_X2_carryOut h)
