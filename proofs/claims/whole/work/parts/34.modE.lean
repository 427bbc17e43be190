def sp_X3_shifts : ab_Sp := fun av cs Q => ∃ (s : Int → Int) (z : mc_T) (g : mg_T) (q : List mq_K) (f n d : Nat) (x y p : Int), av = [.inr (.inl (some 0)), .inl x, .inl y, .inl p] ∧ cs = md_cs s z g ∧ mq_R (md_v s) q ∧ mq_W q ∧ x = f ∧ y + 1 = x + n ∧ f + n ≤ (mq_flat q).length ∧ p = d ∧ d + n ≤ (mq_flat q).length ∧ 0 < n ∧
  ∀ (s' : Int → Int) (z' : mc_T), mq_R (md_v s') (mq_mov q f n d).1 → s' 2 = s 2 + (mq_mov q f n d).2 → Q none (md_cs s' z' g)
-- ===== RootChunksModel.shifts
def P_X3_shifts : List ab_I := [(0, .aload_n 0, 1, []), (1, .iload_n 1, 2, []), (2, .invokevirtual 79, 5, []), (5, .aload_n 0, 6, []), (6, .iload_n 2, 7, []), (7, .iconst 1, 8, []), (8, .iadd, 9, []), (9, .invokevirtual 79, 12, []), (12, .aload_n 0, 13, []), (13, .iload_n 1, 14, []), (14, .invokevirtual 82, 17, []), (17, .istore 4, 19, []), (19, .aload_n 0, 20, []), (20, .iload_n 2, 21, []), (21, .iconst 1, 22, []), (22, .iadd, 23, []), (23, .invokevirtual 82, 26, []), (26, .istore 5, 28, []), (28, .iload 5, 30, []), (30, .iload 4, 32, []), (32, .isub, 33, []), (33, .istore 6, 35, []), (35, .aload_n 0, 36, []), (36, .getfield 7, 39, []), (39, .iconst 1, 40, []), (40, .iaload, 41, []), (41, .iload 6, 43, []), (43, .isub, 44, []), (44, .istore 7, 46, []), (46, .iconst 0, 47, []), (47, .istore 8, 49, []), (49, .iload 8, 51, []), (51, .iload 7, 53, []), (53, .if_icmp .ge 33, 56, [((0 : Int), 86)]), (56, .aload_n 0, 57, []), (57, .getfield 29, 60, []), (60, .iload 8, 62, []), (62, .iload 8, 64, []), (64, .iload 4, 66, []), (66, .if_icmp .ge 8, 69, [((0 : Int), 74)]), (69, .iload 8, 71, []), (71, .goto 8, 74, [((0 : Int), 79)]), (74, .iload 8, 76, []), (76, .iload 6, 78, []), (78, .iadd, 79, []), (79, .iastore, 80, []), (80, .iinc 8 1, 83, []), (83, .goto (-34), 86, [((0 : Int), 49)]), (86, .iconst 0, 87, []), (87, .istore 8, 89, []), (89, .iload 8, 91, []), (91, .iload 6, 93, []), (93, .if_icmp .ge 24, 96, [((0 : Int), 117)]), (96, .aload_n 0, 97, []), (97, .getfield 29, 100, []), (100, .iload 7, 102, []), (102, .iload 8, 104, []), (104, .iadd, 105, []), (105, .iload 4, 107, []), (107, .iload 8, 109, []), (109, .iadd, 110, []), (110, .iastore, 111, []), (111, .iinc 8 1, 114, []), (114, .goto (-25), 117, [((0 : Int), 89)]), (117, .aload_n 0, 118, []), (118, .invokevirtual 88, 121, []), (121, .aload_n 0, 122, []), (122, .getfield 7, 125, []), (125, .iconst 0, 126, []), (126, .iaload, 127, []), (127, .iload_n 2, 128, []), (128, .iload_n 1, 129, []), (129, .isub, 130, []), (130, .iconst 1, 131, []), (131, .iadd, 132, []), (132, .isub, 133, []), (133, .istore 8, 135, []), (135, .iload_n 3, 136, []), (136, .iload 8, 138, []), (138, .if_icmp .ge 8, 141, [((0 : Int), 146)]), (141, .aload_n 0, 142, []), (142, .iload_n 3, 143, []), (143, .invokevirtual 79, 146, []), (146, .aload_n 0, 147, []), (147, .getfield 7, 150, []), (150, .iconst 1, 151, []), (151, .iaload, 152, []), (152, .iload 6, 154, []), (154, .isub, 155, []), (155, .istore 7, 157, []), (157, .iload_n 3, 158, []), (158, .iload 8, 160, []), (160, .if_icmp .ne 8, 163, [((0 : Int), 168)]), (163, .iload 7, 165, []), (165, .goto 8, 168, [((0 : Int), 173)]), (168, .aload_n 0, 169, []), (169, .iload_n 3, 170, []), (170, .invokevirtual 82, 173, []), (173, .istore 9, 175, []), (175, .iconst 0, 176, []), (176, .istore 10, 178, []), (178, .iload 10, 180, []), (180, .aload_n 0, 181, []), (181, .getfield 7, 184, []), (184, .iconst 1, 185, []), (185, .iaload, 186, []), (186, .if_icmp .ge 54, 189, [((0 : Int), 240)]), (189, .aload_n 0, 190, []), (190, .getfield 29, 193, []), (193, .iload 10, 195, []), (195, .iload 10, 197, []), (197, .iload 9, 199, []), (199, .if_icmp .ge 8, 202, [((0 : Int), 207)]), (202, .iload 10, 204, []), (204, .goto 29, 207, [((0 : Int), 233)]), (207, .iload 10, 209, []), (209, .iload 9, 211, []), (211, .iload 6, 213, []), (213, .iadd, 214, []), (214, .if_icmp .ge 14, 217, [((0 : Int), 228)]), (217, .iload 7, 219, []), (219, .iload 10, 221, []), (221, .iadd, 222, []), (222, .iload 9, 224, []), (224, .isub, 225, []), (225, .goto 8, 228, [((0 : Int), 233)]), (228, .iload 10, 230, []), (230, .iload 6, 232, []), (232, .isub, 233, []), (233, .iastore, 234, []), (234, .iinc 10 1, 237, []), (237, .goto (-59), 240, [((0 : Int), 178)]), (240, .aload_n 0, 241, []), (241, .invokevirtual 88, 244, []), (244, .return_, 245, [])]
def E_X3_shifts : ab_E := (T_X3, [(2, (2, 3, [], 0, sp_X3_cuts)), (9, (2, 3, [], 0, sp_X3_cuts)), (14, (2, 3, [], 0, sp_X3_chunkFrom)), (23, (2, 3, [], 0, sp_X3_chunkFrom)), (118, (1, 3, [], 0, sp_X3_reorders)), (143, (2, 3, [], 0, sp_X3_cuts)), (170, (2, 3, [], 0, sp_X3_chunkFrom)), (241, (1, 3, [], 0, sp_X3_reorders))], [], 9)
def M_X3_shifts : List (Nat × ab_MI) := [(2, mi_X3_cuts), (9, mi_X3_cuts), (14, mi_X3_chunkFrom), (23, mi_X3_chunkFrom), (118, mi_X3_reorders), (143, mi_X3_cuts), (170, mi_X3_chunkFrom), (241, mi_X3_reorders)]
def mi_X3_shifts : ab_MI := (yX3_shifts, cX3_shifts, 11, ab_rty 9, 5, 164)
theorem pk_X3_shifts : P_X3_shifts.all (ab_okI cX3_shifts) = true := by decide +kernel
theorem ck_X3_shifts : P_X3_shifts.all (ab_okC1 "RootChunksModel" M_X3_shifts E_X3_shifts (5, 164)) = true := by decide +kernel
set_option maxRecDepth 100000 in
theorem b_X3_shifts_0 {Q : ab_Q} {fr : Int} {to : Int} {p : Int} {s_ : Int → Int} {z_od : Int → Int} {z_nk : Int → Int} {z_nl : Int → Int} {z_nt : Int → Int} {z_ns : Int → Int} {g_ : mg_T} (l1 : sp_X3_cuts [.inr (.inl (some 0)), .inl fr] (md_cs s_ (z_od, z_nk, z_nl, z_nt, z_ns) g_) (fun r_ k_ => ∃ (s_' : Int → Int), ∃ (z_' : mc_T), ∃ (g_' : mg_T), r_ = none ∧ k_ = (md_cs (s_') z_' g_') ∧ ab_R E_X3_shifts P_X3_shifts Q 5 [some (.inr (.inl (some 0))), some (.inl fr), some (.inl to), some (.inl p), none, none, none, none, none, none, none] [] (md_cs (s_') z_' g_')))  : ab_R E_X3_shifts P_X3_shifts Q 0 [some (.inr (.inl (some 0))), some (.inl fr), some (.inl to), some (.inl p), none, none, none, none, none, none, none] [] (md_cs s_ (z_od, z_nk, z_nl, z_nt, z_ns) g_) :=
  ab_R.steps [5, 12, 17, 26, 49, 89, 121, 146, 173, 178, 244] 4 (show ab_cl sp_X3_cuts [.inr (.inl (some 0)), .inl fr] (md_cs s_ (z_od, z_nk, z_nl, z_nt, z_ns) g_) (fun r_ k_ => k_.length = ((md_cs s_ (z_od, z_nk, z_nl, z_nt, z_ns) g_)).length → ab_R E_X3_shifts P_X3_shifts Q 5 [some (.inr (.inl (some 0))), some (.inl fr), some (.inl to), some (.inl p), none, none, none, none, none, none, none] (ab_ret r_ []) k_) from ⟨_, l1, fun r_ k_ hz _ => by obtain ⟨s_', z_', g_', rfl, rfl, hR⟩ := hz; exact hR⟩)
set_option maxRecDepth 100000 in
theorem b_X3_shifts_5 {Q : ab_Q} {fr : Int} {to : Int} {p : Int} {s_ : Int → Int} {z_od : Int → Int} {z_nk : Int → Int} {z_nl : Int → Int} {z_nt : Int → Int} {z_ns : Int → Int} {g_ : mg_T} (l1 : sp_X3_cuts [.inr (.inl (some 0)), .inl (to + 1)] (md_cs s_ (z_od, z_nk, z_nl, z_nt, z_ns) g_) (fun r_ k_ => ∃ (s_' : Int → Int), ∃ (z_' : mc_T), ∃ (g_' : mg_T), r_ = none ∧ k_ = (md_cs (s_') z_' g_') ∧ ab_R E_X3_shifts P_X3_shifts Q 12 [some (.inr (.inl (some 0))), some (.inl fr), some (.inl to), some (.inl p), none, none, none, none, none, none, none] [] (md_cs (s_') z_' g_')))  : ab_R E_X3_shifts P_X3_shifts Q 5 [some (.inr (.inl (some 0))), some (.inl fr), some (.inl to), some (.inl p), none, none, none, none, none, none, none] [] (md_cs s_ (z_od, z_nk, z_nl, z_nt, z_ns) g_) :=
  ab_R.steps [5, 12, 17, 26, 49, 89, 121, 146, 173, 178, 244] 6 (show ab_cl sp_X3_cuts [.inr (.inl (some 0)), .inl (to + 1)] (md_cs s_ (z_od, z_nk, z_nl, z_nt, z_ns) g_) (fun r_ k_ => k_.length = ((md_cs s_ (z_od, z_nk, z_nl, z_nt, z_ns) g_)).length → ab_R E_X3_shifts P_X3_shifts Q 12 [some (.inr (.inl (some 0))), some (.inl fr), some (.inl to), some (.inl p), none, none, none, none, none, none, none] (ab_ret r_ []) k_) from ⟨_, l1, fun r_ k_ hz _ => by obtain ⟨s_', z_', g_', rfl, rfl, hR⟩ := hz; exact hR⟩)
set_option maxRecDepth 100000 in
theorem b_X3_shifts_12 {Q : ab_Q} {fr : Int} {to : Int} {p : Int} {s_ : Int → Int} {z_od : Int → Int} {z_nk : Int → Int} {z_nl : Int → Int} {z_nt : Int → Int} {z_ns : Int → Int} {g_ : mg_T} (l1 : sp_X3_chunkFrom [.inr (.inl (some 0)), .inl fr] (md_cs s_ (z_od, z_nk, z_nl, z_nt, z_ns) g_) (fun r_ k_ => ∃ (x_ : Int), r_ = some (.inl x_) ∧ k_ = (md_cs s_ (z_od, z_nk, z_nl, z_nt, z_ns) g_) ∧ ab_R E_X3_shifts P_X3_shifts Q 17 [some (.inr (.inl (some 0))), some (.inl fr), some (.inl to), some (.inl p), none, none, none, none, none, none, none] [.inl x_] (md_cs s_ (z_od, z_nk, z_nl, z_nt, z_ns) g_)))  : ab_R E_X3_shifts P_X3_shifts Q 12 [some (.inr (.inl (some 0))), some (.inl fr), some (.inl to), some (.inl p), none, none, none, none, none, none, none] [] (md_cs s_ (z_od, z_nk, z_nl, z_nt, z_ns) g_) :=
  ab_R.steps [5, 12, 17, 26, 49, 89, 121, 146, 173, 178, 244] 4 (show ab_cl sp_X3_chunkFrom [.inr (.inl (some 0)), .inl fr] (md_cs s_ (z_od, z_nk, z_nl, z_nt, z_ns) g_) (fun r_ k_ => k_.length = ((md_cs s_ (z_od, z_nk, z_nl, z_nt, z_ns) g_)).length → ab_R E_X3_shifts P_X3_shifts Q 17 [some (.inr (.inl (some 0))), some (.inl fr), some (.inl to), some (.inl p), none, none, none, none, none, none, none] (ab_ret r_ []) k_) from ⟨_, l1, fun r_ k_ hz _ => by obtain ⟨x_, rfl, rfl, hR⟩ := hz; exact hR⟩)
set_option maxRecDepth 100000 in
theorem b_X3_shifts_17 {Q : ab_Q} {fr : Int} {to : Int} {p : Int} {t0 : Int} {s_ : Int → Int} {z_od : Int → Int} {z_nk : Int → Int} {z_nl : Int → Int} {z_nt : Int → Int} {z_ns : Int → Int} {g_ : mg_T} (l1 : sp_X3_chunkFrom [.inr (.inl (some 0)), .inl (to + 1)] (md_cs s_ (z_od, z_nk, z_nl, z_nt, z_ns) g_) (fun r_ k_ => ∃ (x_ : Int), r_ = some (.inl x_) ∧ k_ = (md_cs s_ (z_od, z_nk, z_nl, z_nt, z_ns) g_) ∧ ab_R E_X3_shifts P_X3_shifts Q 26 [some (.inr (.inl (some 0))), some (.inl fr), some (.inl to), some (.inl p), some (.inl t0), none, none, none, none, none, none] [.inl x_] (md_cs s_ (z_od, z_nk, z_nl, z_nt, z_ns) g_)))  : ab_R E_X3_shifts P_X3_shifts Q 17 [some (.inr (.inl (some 0))), some (.inl fr), some (.inl to), some (.inl p), none, none, none, none, none, none, none] [.inl t0] (md_cs s_ (z_od, z_nk, z_nl, z_nt, z_ns) g_) :=
  ab_R.steps [5, 12, 17, 26, 49, 89, 121, 146, 173, 178, 244] 7 (show ab_cl sp_X3_chunkFrom [.inr (.inl (some 0)), .inl (to + 1)] (md_cs s_ (z_od, z_nk, z_nl, z_nt, z_ns) g_) (fun r_ k_ => k_.length = ((md_cs s_ (z_od, z_nk, z_nl, z_nt, z_ns) g_)).length → ab_R E_X3_shifts P_X3_shifts Q 26 [some (.inr (.inl (some 0))), some (.inl fr), some (.inl to), some (.inl p), some (.inl t0), none, none, none, none, none, none] (ab_ret r_ []) k_) from ⟨_, l1, fun r_ k_ hz _ => by obtain ⟨x_, rfl, rfl, hR⟩ := hz; exact hR⟩)
set_option maxRecDepth 100000 in
theorem b_X3_shifts_26 {Q : ab_Q} {fr : Int} {to : Int} {p : Int} {a : Int} {t0 : Int} {s_ : Int → Int} {z_od : Int → Int} {z_nk : Int → Int} {z_nl : Int → Int} {z_nt : Int → Int} {z_ns : Int → Int} {g_ : mg_T} (l1 : ab_R E_X3_shifts P_X3_shifts Q 49 [some (.inr (.inl (some 0))), some (.inl fr), some (.inl to), some (.inl p), some (.inl a), some (.inl t0), some (.inl (t0 - a)), some (.inl ((s_ 1) - (t0 - a))), some (.inl 0), none, none] [] (md_cs s_ (z_od, z_nk, z_nl, z_nt, z_ns) g_)) (p1 : (0 ≤ (1 : Int) ∧ (1 : Int) < 255) := by intros; (try unfold ab_r); omega) : ab_R E_X3_shifts P_X3_shifts Q 26 [some (.inr (.inl (some 0))), some (.inl fr), some (.inl to), some (.inl p), some (.inl a), none, none, none, none, none, none] [.inl t0] (md_cs s_ (z_od, z_nk, z_nl, z_nt, z_ns) g_) :=
  ab_R.steps [5, 12, 17, 26, 49, 89, 121, 146, 173, 178, 244] 16 (show ((0 ≤ (1 : Int) ∧ (1 : Int) < 255) ∧ ab_R E_X3_shifts P_X3_shifts Q 49 [some (.inr (.inl (some 0))), some (.inl fr), some (.inl to), some (.inl p), some (.inl a), some (.inl t0), some (.inl (t0 - a)), some (.inl ((s_ 1) - (t0 - a))), some (.inl 0), none, none] [] (md_cs s_ (z_od, z_nk, z_nl, z_nt, z_ns) g_)) from ⟨p1, l1⟩)
set_option maxRecDepth 100000 in
theorem b_X3_shifts_49 {Q : ab_Q} {fr : Int} {to : Int} {p : Int} {a : Int} {en : Int} {mn : Int} {ot : Int} {lf : Int} {s_ : Int → Int} {z_od : Int → Int} {z_nk : Int → Int} {z_nl : Int → Int} {z_nt : Int → Int} {z_ns : Int → Int} {g_ : mg_T} (l1 : ot ≤ lf → ab_R E_X3_shifts P_X3_shifts Q 89 [some (.inr (.inl (some 0))), some (.inl fr), some (.inl to), some (.inl p), some (.inl a), some (.inl en), some (.inl mn), some (.inl ot), some (.inl 0), none, none] [] (md_cs s_ (z_od, z_nk, z_nl, z_nt, z_ns) g_)) (l2 : lf < ot → a ≤ lf → ab_R E_X3_shifts P_X3_shifts Q 49 [some (.inr (.inl (some 0))), some (.inl fr), some (.inl to), some (.inl p), some (.inl a), some (.inl en), some (.inl mn), some (.inl ot), some (.inl (lf + 1)), none, none] [] (md_cs s_ ((ab_up z_od lf (lf + mn)), z_nk, z_nl, z_nt, z_ns) g_)) (l3 : lf < ot → lf < a → ab_R E_X3_shifts P_X3_shifts Q 49 [some (.inr (.inl (some 0))), some (.inl fr), some (.inl to), some (.inl p), some (.inl a), some (.inl en), some (.inl mn), some (.inl ot), some (.inl (lf + 1)), none, none] [] (md_cs s_ ((ab_up z_od lf lf), z_nk, z_nl, z_nt, z_ns) g_)) (p1 : (ab_r lf ∧ ab_r ot) := by intros; (try unfold ab_r); omega) (p2 : lf < ot → (ab_r lf ∧ ab_r a) := by intros; (try unfold ab_r); omega) (p3 : lf < ot → a ≤ lf → (0 ≤ lf ∧ lf < 64) := by intros; (try unfold ab_r); omega) (p4 : lf < ot → lf < a → (0 ≤ lf ∧ lf < 64) := by intros; (try unfold ab_r); omega) : ab_R E_X3_shifts P_X3_shifts Q 49 [some (.inr (.inl (some 0))), some (.inl fr), some (.inl to), some (.inl p), some (.inl a), some (.inl en), some (.inl mn), some (.inl ot), some (.inl lf), none, none] [] (md_cs s_ (z_od, z_nk, z_nl, z_nt, z_ns) g_) :=
  ab_R.steps [5, 12, 17, 26, 49, 89, 121, 146, 173, 178, 244] 17 (show ((ab_r lf ∧ ab_r ot) ∧ ((ot ≤ lf → ab_R E_X3_shifts P_X3_shifts Q 89 [some (.inr (.inl (some 0))), some (.inl fr), some (.inl to), some (.inl p), some (.inl a), some (.inl en), some (.inl mn), some (.inl ot), some (.inl 0), none, none] [] (md_cs s_ (z_od, z_nk, z_nl, z_nt, z_ns) g_)) ∧ (lf < ot → ((ab_r lf ∧ ab_r a) ∧ ((a ≤ lf → ((0 ≤ lf ∧ lf < 64) ∧ ab_R E_X3_shifts P_X3_shifts Q 49 [some (.inr (.inl (some 0))), some (.inl fr), some (.inl to), some (.inl p), some (.inl a), some (.inl en), some (.inl mn), some (.inl ot), some (.inl (lf + 1)), none, none] [] (md_cs s_ ((ab_up z_od lf (lf + mn)), z_nk, z_nl, z_nt, z_ns) g_))) ∧ (lf < a → ((0 ≤ lf ∧ lf < 64) ∧ ab_R E_X3_shifts P_X3_shifts Q 49 [some (.inr (.inl (some 0))), some (.inl fr), some (.inl to), some (.inl p), some (.inl a), some (.inl en), some (.inl mn), some (.inl ot), some (.inl (lf + 1)), none, none] [] (md_cs s_ ((ab_up z_od lf lf), z_nk, z_nl, z_nt, z_ns) g_)))))))) from ⟨p1, ⟨fun h1 => (l1 h1), fun h2 => ⟨(p2 h2), ⟨fun h3 => ⟨(p3 h2 h3), (l2 h2 h3)⟩, fun h4 => ⟨(p4 h2 h4), (l3 h2 h4)⟩⟩⟩⟩⟩)
set_option maxRecDepth 100000 in
theorem b_X3_shifts_89 {Q : ab_Q} {fr : Int} {to : Int} {p : Int} {a : Int} {en : Int} {mn : Int} {ot : Int} {lf : Int} {s_ : Int → Int} {z_od : Int → Int} {z_nk : Int → Int} {z_nl : Int → Int} {z_nt : Int → Int} {z_ns : Int → Int} {g_ : mg_T} (l1 : mn ≤ lf → sp_X3_reorders [.inr (.inl (some 0))] (md_cs s_ (z_od, z_nk, z_nl, z_nt, z_ns) g_) (fun r_ k_ => ∃ (s_' : Int → Int), ∃ (z_' : mc_T), ∃ (g_' : mg_T), r_ = none ∧ k_ = (md_cs (s_') z_' g_') ∧ ab_R E_X3_shifts P_X3_shifts Q 121 [some (.inr (.inl (some 0))), some (.inl fr), some (.inl to), some (.inl p), some (.inl a), some (.inl en), some (.inl mn), some (.inl ot), some (.inl lf), none, none] [] (md_cs (s_') z_' g_'))) (l2 : lf < mn → ab_R E_X3_shifts P_X3_shifts Q 89 [some (.inr (.inl (some 0))), some (.inl fr), some (.inl to), some (.inl p), some (.inl a), some (.inl en), some (.inl mn), some (.inl ot), some (.inl (lf + 1)), none, none] [] (md_cs s_ ((ab_up z_od (ot + lf) (a + lf)), z_nk, z_nl, z_nt, z_ns) g_)) (p1 : (ab_r lf ∧ ab_r mn) := by intros; (try unfold ab_r); omega) (p2 : lf < mn → (0 ≤ (ot + lf) ∧ (ot + lf) < 64) := by intros; (try unfold ab_r); omega) : ab_R E_X3_shifts P_X3_shifts Q 89 [some (.inr (.inl (some 0))), some (.inl fr), some (.inl to), some (.inl p), some (.inl a), some (.inl en), some (.inl mn), some (.inl ot), some (.inl lf), none, none] [] (md_cs s_ (z_od, z_nk, z_nl, z_nt, z_ns) g_) :=
  ab_R.steps [5, 12, 17, 26, 49, 89, 121, 146, 173, 178, 244] 16 (show ((ab_r lf ∧ ab_r mn) ∧ ((mn ≤ lf → ab_cl sp_X3_reorders [.inr (.inl (some 0))] (md_cs s_ (z_od, z_nk, z_nl, z_nt, z_ns) g_) (fun r_ k_ => k_.length = ((md_cs s_ (z_od, z_nk, z_nl, z_nt, z_ns) g_)).length → ab_R E_X3_shifts P_X3_shifts Q 121 [some (.inr (.inl (some 0))), some (.inl fr), some (.inl to), some (.inl p), some (.inl a), some (.inl en), some (.inl mn), some (.inl ot), some (.inl lf), none, none] (ab_ret r_ []) k_)) ∧ (lf < mn → ((0 ≤ (ot + lf) ∧ (ot + lf) < 64) ∧ ab_R E_X3_shifts P_X3_shifts Q 89 [some (.inr (.inl (some 0))), some (.inl fr), some (.inl to), some (.inl p), some (.inl a), some (.inl en), some (.inl mn), some (.inl ot), some (.inl (lf + 1)), none, none] [] (md_cs s_ ((ab_up z_od (ot + lf) (a + lf)), z_nk, z_nl, z_nt, z_ns) g_))))) from ⟨p1, ⟨fun h1 => ⟨_, (l1 h1), fun r_ k_ hz _ => by obtain ⟨s_', z_', g_', rfl, rfl, hR⟩ := hz; exact hR⟩, fun h2 => ⟨(p2 h2), (l2 h2)⟩⟩⟩)
set_option maxRecDepth 100000 in
theorem b_X3_shifts_121 {Q : ab_Q} {fr : Int} {to : Int} {p : Int} {a : Int} {en : Int} {mn : Int} {ot : Int} {lf : Int} {s_ : Int → Int} {z_od : Int → Int} {z_nk : Int → Int} {z_nl : Int → Int} {z_nt : Int → Int} {z_ns : Int → Int} {g_ : mg_T} (l1 : ((s_ 0) - ((to - fr) + 1)) ≤ p → ab_R E_X3_shifts P_X3_shifts Q 146 [some (.inr (.inl (some 0))), some (.inl fr), some (.inl to), some (.inl p), some (.inl a), some (.inl en), some (.inl mn), some (.inl ot), some (.inl ((s_ 0) - ((to - fr) + 1))), none, none] [] (md_cs s_ (z_od, z_nk, z_nl, z_nt, z_ns) g_)) (l2 : p < ((s_ 0) - ((to - fr) + 1)) → sp_X3_cuts [.inr (.inl (some 0)), .inl p] (md_cs s_ (z_od, z_nk, z_nl, z_nt, z_ns) g_) (fun r_ k_ => ∃ (s_' : Int → Int), ∃ (z_' : mc_T), ∃ (g_' : mg_T), r_ = none ∧ k_ = (md_cs (s_') z_' g_') ∧ ab_R E_X3_shifts P_X3_shifts Q 146 [some (.inr (.inl (some 0))), some (.inl fr), some (.inl to), some (.inl p), some (.inl a), some (.inl en), some (.inl mn), some (.inl ot), some (.inl ((s_ 0) - ((to - fr) + 1))), none, none] [] (md_cs (s_') z_' g_'))) (p1 : (0 ≤ (0 : Int) ∧ (0 : Int) < 255) := by intros; (try unfold ab_r); omega) (p2 : (ab_r p ∧ ab_r ((s_ 0) - ((to - fr) + 1))) := by intros; (try unfold ab_r); omega) : ab_R E_X3_shifts P_X3_shifts Q 121 [some (.inr (.inl (some 0))), some (.inl fr), some (.inl to), some (.inl p), some (.inl a), some (.inl en), some (.inl mn), some (.inl ot), some (.inl lf), none, none] [] (md_cs s_ (z_od, z_nk, z_nl, z_nt, z_ns) g_) :=
  ab_R.steps [5, 12, 17, 26, 49, 89, 121, 146, 173, 178, 244] 18 (show ((0 ≤ (0 : Int) ∧ (0 : Int) < 255) ∧ ((ab_r p ∧ ab_r ((s_ 0) - ((to - fr) + 1))) ∧ ((((s_ 0) - ((to - fr) + 1)) ≤ p → ab_R E_X3_shifts P_X3_shifts Q 146 [some (.inr (.inl (some 0))), some (.inl fr), some (.inl to), some (.inl p), some (.inl a), some (.inl en), some (.inl mn), some (.inl ot), some (.inl ((s_ 0) - ((to - fr) + 1))), none, none] [] (md_cs s_ (z_od, z_nk, z_nl, z_nt, z_ns) g_)) ∧ (p < ((s_ 0) - ((to - fr) + 1)) → ab_cl sp_X3_cuts [.inr (.inl (some 0)), .inl p] (md_cs s_ (z_od, z_nk, z_nl, z_nt, z_ns) g_) (fun r_ k_ => k_.length = ((md_cs s_ (z_od, z_nk, z_nl, z_nt, z_ns) g_)).length → ab_R E_X3_shifts P_X3_shifts Q 146 [some (.inr (.inl (some 0))), some (.inl fr), some (.inl to), some (.inl p), some (.inl a), some (.inl en), some (.inl mn), some (.inl ot), some (.inl ((s_ 0) - ((to - fr) + 1))), none, none] (ab_ret r_ []) k_))))) from ⟨p1, ⟨p2, ⟨fun h1 => (l1 h1), fun h2 => ⟨_, (l2 h2), fun r_ k_ hz _ => by obtain ⟨s_', z_', g_', rfl, rfl, hR⟩ := hz; exact hR⟩⟩⟩⟩)
set_option maxRecDepth 100000 in
theorem b_X3_shifts_146 {Q : ab_Q} {fr : Int} {to : Int} {p : Int} {a : Int} {en : Int} {mn : Int} {ot : Int} {lf : Int} {s_ : Int → Int} {z_od : Int → Int} {z_nk : Int → Int} {z_nl : Int → Int} {z_nt : Int → Int} {z_ns : Int → Int} {g_ : mg_T} (l1 : ¬ p = lf → sp_X3_chunkFrom [.inr (.inl (some 0)), .inl p] (md_cs s_ (z_od, z_nk, z_nl, z_nt, z_ns) g_) (fun r_ k_ => ∃ (x_ : Int), r_ = some (.inl x_) ∧ k_ = (md_cs s_ (z_od, z_nk, z_nl, z_nt, z_ns) g_) ∧ ab_R E_X3_shifts P_X3_shifts Q 173 [some (.inr (.inl (some 0))), some (.inl fr), some (.inl to), some (.inl p), some (.inl a), some (.inl en), some (.inl mn), some (.inl ((s_ 1) - mn)), some (.inl lf), none, none] [.inl x_] (md_cs s_ (z_od, z_nk, z_nl, z_nt, z_ns) g_))) (l2 : p = lf → ab_R E_X3_shifts P_X3_shifts Q 173 [some (.inr (.inl (some 0))), some (.inl fr), some (.inl to), some (.inl p), some (.inl a), some (.inl en), some (.inl mn), some (.inl ((s_ 1) - mn)), some (.inl lf), none, none] [.inl ((s_ 1) - mn)] (md_cs s_ (z_od, z_nk, z_nl, z_nt, z_ns) g_)) (p1 : (0 ≤ (1 : Int) ∧ (1 : Int) < 255) := by intros; (try unfold ab_r); omega) (p2 : (ab_r p ∧ ab_r lf) := by intros; (try unfold ab_r); omega) : ab_R E_X3_shifts P_X3_shifts Q 146 [some (.inr (.inl (some 0))), some (.inl fr), some (.inl to), some (.inl p), some (.inl a), some (.inl en), some (.inl mn), some (.inl ot), some (.inl lf), none, none] [] (md_cs s_ (z_od, z_nk, z_nl, z_nt, z_ns) g_) :=
  ab_R.steps [5, 12, 17, 26, 49, 89, 121, 146, 173, 178, 244] 14 (show ((0 ≤ (1 : Int) ∧ (1 : Int) < 255) ∧ ((ab_r p ∧ ab_r lf) ∧ ((¬ p = lf → ab_cl sp_X3_chunkFrom [.inr (.inl (some 0)), .inl p] (md_cs s_ (z_od, z_nk, z_nl, z_nt, z_ns) g_) (fun r_ k_ => k_.length = ((md_cs s_ (z_od, z_nk, z_nl, z_nt, z_ns) g_)).length → ab_R E_X3_shifts P_X3_shifts Q 173 [some (.inr (.inl (some 0))), some (.inl fr), some (.inl to), some (.inl p), some (.inl a), some (.inl en), some (.inl mn), some (.inl ((s_ 1) - mn)), some (.inl lf), none, none] (ab_ret r_ []) k_)) ∧ (p = lf → ab_R E_X3_shifts P_X3_shifts Q 173 [some (.inr (.inl (some 0))), some (.inl fr), some (.inl to), some (.inl p), some (.inl a), some (.inl en), some (.inl mn), some (.inl ((s_ 1) - mn)), some (.inl lf), none, none] [.inl ((s_ 1) - mn)] (md_cs s_ (z_od, z_nk, z_nl, z_nt, z_ns) g_))))) from ⟨p1, ⟨p2, ⟨fun h1 => ⟨_, (l1 h1), fun r_ k_ hz _ => by obtain ⟨x_, rfl, rfl, hR⟩ := hz; exact hR⟩, fun h2 => (l2 h2)⟩⟩⟩)
set_option maxRecDepth 100000 in
theorem b_X3_shifts_173 {Q : ab_Q} {fr : Int} {to : Int} {p : Int} {a : Int} {en : Int} {mn : Int} {ot : Int} {lf : Int} {t0 : Int} {s_ : Int → Int} {z_od : Int → Int} {z_nk : Int → Int} {z_nl : Int → Int} {z_nt : Int → Int} {z_ns : Int → Int} {g_ : mg_T} (l1 : ab_R E_X3_shifts P_X3_shifts Q 178 [some (.inr (.inl (some 0))), some (.inl fr), some (.inl to), some (.inl p), some (.inl a), some (.inl en), some (.inl mn), some (.inl ot), some (.inl lf), some (.inl t0), some (.inl 0)] [] (md_cs s_ (z_od, z_nk, z_nl, z_nt, z_ns) g_))  : ab_R E_X3_shifts P_X3_shifts Q 173 [some (.inr (.inl (some 0))), some (.inl fr), some (.inl to), some (.inl p), some (.inl a), some (.inl en), some (.inl mn), some (.inl ot), some (.inl lf), none, none] [.inl t0] (md_cs s_ (z_od, z_nk, z_nl, z_nt, z_ns) g_) :=
  ab_R.steps [5, 12, 17, 26, 49, 89, 121, 146, 173, 178, 244] 5 (show ab_R E_X3_shifts P_X3_shifts Q 178 [some (.inr (.inl (some 0))), some (.inl fr), some (.inl to), some (.inl p), some (.inl a), some (.inl en), some (.inl mn), some (.inl ot), some (.inl lf), some (.inl t0), some (.inl 0)] [] (md_cs s_ (z_od, z_nk, z_nl, z_nt, z_ns) g_) from l1)
set_option maxRecDepth 100000 in
theorem b_X3_shifts_178 {Q : ab_Q} {fr : Int} {to : Int} {p : Int} {a : Int} {en : Int} {mn : Int} {ot : Int} {lf : Int} {ah : Int} {v10 : Int} {s_ : Int → Int} {z_od : Int → Int} {z_nk : Int → Int} {z_nl : Int → Int} {z_nt : Int → Int} {z_ns : Int → Int} {g_ : mg_T} (l1 : (s_ 1) ≤ v10 → sp_X3_reorders [.inr (.inl (some 0))] (md_cs s_ (z_od, z_nk, z_nl, z_nt, z_ns) g_) (fun r_ k_ => ∃ (s_' : Int → Int), ∃ (z_' : mc_T), ∃ (g_' : mg_T), r_ = none ∧ k_ = (md_cs (s_') z_' g_') ∧ ab_R E_X3_shifts P_X3_shifts Q 244 [some (.inr (.inl (some 0))), some (.inl fr), some (.inl to), some (.inl p), some (.inl a), some (.inl en), some (.inl mn), some (.inl ot), some (.inl lf), some (.inl ah), some (.inl v10)] [] (md_cs (s_') z_' g_'))) (l2 : v10 < (s_ 1) → ah ≤ v10 → (ah + mn) ≤ v10 → ab_R E_X3_shifts P_X3_shifts Q 178 [some (.inr (.inl (some 0))), some (.inl fr), some (.inl to), some (.inl p), some (.inl a), some (.inl en), some (.inl mn), some (.inl ot), some (.inl lf), some (.inl ah), some (.inl (v10 + 1))] [] (md_cs s_ ((ab_up z_od v10 (v10 - mn)), z_nk, z_nl, z_nt, z_ns) g_)) (l3 : v10 < (s_ 1) → ah ≤ v10 → v10 < (ah + mn) → ab_R E_X3_shifts P_X3_shifts Q 178 [some (.inr (.inl (some 0))), some (.inl fr), some (.inl to), some (.inl p), some (.inl a), some (.inl en), some (.inl mn), some (.inl ot), some (.inl lf), some (.inl ah), some (.inl (v10 + 1))] [] (md_cs s_ ((ab_up z_od v10 ((ot + v10) - ah)), z_nk, z_nl, z_nt, z_ns) g_)) (l4 : v10 < (s_ 1) → v10 < ah → ab_R E_X3_shifts P_X3_shifts Q 178 [some (.inr (.inl (some 0))), some (.inl fr), some (.inl to), some (.inl p), some (.inl a), some (.inl en), some (.inl mn), some (.inl ot), some (.inl lf), some (.inl ah), some (.inl (v10 + 1))] [] (md_cs s_ ((ab_up z_od v10 v10), z_nk, z_nl, z_nt, z_ns) g_)) (p1 : (0 ≤ (1 : Int) ∧ (1 : Int) < 255) := by intros; (try unfold ab_r); omega) (p2 : (ab_r v10 ∧ ab_r (s_ 1)) := by intros; (try unfold ab_r); omega) (p3 : v10 < (s_ 1) → (ab_r v10 ∧ ab_r ah) := by intros; (try unfold ab_r); omega) (p4 : v10 < (s_ 1) → ah ≤ v10 → (ab_r v10 ∧ ab_r (ah + mn)) := by intros; (try unfold ab_r); omega) (p5 : v10 < (s_ 1) → ah ≤ v10 → (ah + mn) ≤ v10 → (0 ≤ v10 ∧ v10 < 64) := by intros; (try unfold ab_r); omega) (p6 : v10 < (s_ 1) → ah ≤ v10 → v10 < (ah + mn) → (0 ≤ v10 ∧ v10 < 64) := by intros; (try unfold ab_r); omega) (p7 : v10 < (s_ 1) → v10 < ah → (0 ≤ v10 ∧ v10 < 64) := by intros; (try unfold ab_r); omega) : ab_R E_X3_shifts P_X3_shifts Q 178 [some (.inr (.inl (some 0))), some (.inl fr), some (.inl to), some (.inl p), some (.inl a), some (.inl en), some (.inl mn), some (.inl ot), some (.inl lf), some (.inl ah), some (.inl v10)] [] (md_cs s_ (z_od, z_nk, z_nl, z_nt, z_ns) g_) :=
  ab_R.steps [5, 12, 17, 26, 49, 89, 121, 146, 173, 178, 244] 28 (show ((0 ≤ (1 : Int) ∧ (1 : Int) < 255) ∧ ((ab_r v10 ∧ ab_r (s_ 1)) ∧ (((s_ 1) ≤ v10 → ab_cl sp_X3_reorders [.inr (.inl (some 0))] (md_cs s_ (z_od, z_nk, z_nl, z_nt, z_ns) g_) (fun r_ k_ => k_.length = ((md_cs s_ (z_od, z_nk, z_nl, z_nt, z_ns) g_)).length → ab_R E_X3_shifts P_X3_shifts Q 244 [some (.inr (.inl (some 0))), some (.inl fr), some (.inl to), some (.inl p), some (.inl a), some (.inl en), some (.inl mn), some (.inl ot), some (.inl lf), some (.inl ah), some (.inl v10)] (ab_ret r_ []) k_)) ∧ (v10 < (s_ 1) → ((ab_r v10 ∧ ab_r ah) ∧ ((ah ≤ v10 → ((ab_r v10 ∧ ab_r (ah + mn)) ∧ (((ah + mn) ≤ v10 → ((0 ≤ v10 ∧ v10 < 64) ∧ ab_R E_X3_shifts P_X3_shifts Q 178 [some (.inr (.inl (some 0))), some (.inl fr), some (.inl to), some (.inl p), some (.inl a), some (.inl en), some (.inl mn), some (.inl ot), some (.inl lf), some (.inl ah), some (.inl (v10 + 1))] [] (md_cs s_ ((ab_up z_od v10 (v10 - mn)), z_nk, z_nl, z_nt, z_ns) g_))) ∧ (v10 < (ah + mn) → ((0 ≤ v10 ∧ v10 < 64) ∧ ab_R E_X3_shifts P_X3_shifts Q 178 [some (.inr (.inl (some 0))), some (.inl fr), some (.inl to), some (.inl p), some (.inl a), some (.inl en), some (.inl mn), some (.inl ot), some (.inl lf), some (.inl ah), some (.inl (v10 + 1))] [] (md_cs s_ ((ab_up z_od v10 ((ot + v10) - ah)), z_nk, z_nl, z_nt, z_ns) g_)))))) ∧ (v10 < ah → ((0 ≤ v10 ∧ v10 < 64) ∧ ab_R E_X3_shifts P_X3_shifts Q 178 [some (.inr (.inl (some 0))), some (.inl fr), some (.inl to), some (.inl p), some (.inl a), some (.inl en), some (.inl mn), some (.inl ot), some (.inl lf), some (.inl ah), some (.inl (v10 + 1))] [] (md_cs s_ ((ab_up z_od v10 v10), z_nk, z_nl, z_nt, z_ns) g_))))))))) from ⟨p1, ⟨p2, ⟨fun h1 => ⟨_, (l1 h1), fun r_ k_ hz _ => by obtain ⟨s_', z_', g_', rfl, rfl, hR⟩ := hz; exact hR⟩, fun h2 => ⟨(p3 h2), ⟨fun h3 => ⟨(p4 h2 h3), ⟨fun h4 => ⟨(p5 h2 h3 h4), (l2 h2 h3 h4)⟩, fun h5 => ⟨(p6 h2 h3 h5), (l3 h2 h3 h5)⟩⟩⟩, fun h6 => ⟨(p7 h2 h6), (l4 h2 h6)⟩⟩⟩⟩⟩⟩)
set_option maxRecDepth 100000 in
theorem b_X3_shifts_244 {Q : ab_Q} {fr : Int} {to : Int} {p : Int} {a : Int} {en : Int} {mn : Int} {ot : Int} {lf : Int} {ah : Int} {v10 : Int} {s_ : Int → Int} {z_od : Int → Int} {z_nk : Int → Int} {z_nl : Int → Int} {z_nt : Int → Int} {z_ns : Int → Int} {g_ : mg_T} (l1 : Q none (md_cs s_ (z_od, z_nk, z_nl, z_nt, z_ns) g_))  : ab_R E_X3_shifts P_X3_shifts Q 244 [some (.inr (.inl (some 0))), some (.inl fr), some (.inl to), some (.inl p), some (.inl a), some (.inl en), some (.inl mn), some (.inl ot), some (.inl lf), some (.inl ah), some (.inl v10)] [] (md_cs s_ (z_od, z_nk, z_nl, z_nt, z_ns) g_) :=
  ab_R.steps [5, 12, 17, 26, 49, 89, 121, 146, 173, 178, 244] 2 (show Q none (md_cs s_ (z_od, z_nk, z_nl, z_nt, z_ns) g_) from l1)
theorem vc_X3_shifts {av : List ab_V} {cs : List ab_C} {Q : ab_Q} (h : sp_X3_shifts av cs Q) : (ab_lv0 av).length ≤ 11 ∧ ab_R E_X3_shifts P_X3_shifts Q 0 (ab_ent av 11) [] cs := by
  obtain ⟨s, ⟨od, nk, nl, nt, ns⟩, g, q, f, n, d, x, y, p, rfl, rfl, hR, hW, hx, hy, hfn, hp, hd, hn, hQ⟩ := h
  refine ⟨Nat.le_of_ble_eq_true rfl, ?_⟩
  obtain ⟨A, M, B, w1, w2, t1, t2, t3, t4, t5, t6, t7, t8, t9⟩ := mq_two hW hfn
  obtain ⟨C, D, w3, hcd⟩ : ∃ C D w3, mq_cut (A ++ B) d = (C, D, w3) := ⟨_, _, _, rfl⟩
  have hpq : mq_mov q f n d = (C ++ (M ++ D), w1 + w2 + w3) := by unfold mq_mov; rw [t1]; dsimp only; rw [hcd]
  rw [hpq] at hQ
  dsimp only at hQ
  have hfl := hW.2
  have hcl := t6.chunks
  have oAB : ∀ k ∈ A ++ B, mq_ok k := fun k hk => t6.1 k (by rcases List.mem_append.mp hk with hk | hk <;> simp [hk])
  have lAB : (mq_flat (A ++ B)).length = (mq_flat q).length - n := by rw [mq_flat_app, List.length_append]; omega
  obtain ⟨yc1, yc2⟩ := mq_cut_len (q := A ++ B) (d := d) (by omega)
  obtain ⟨oc1, oc2⟩ := mq_cut_ok (d := d) oAB
  rw [hcd] at yc1 yc2 oc1 oc2
  dsimp only at yc1 yc2 oc1 oc2
  have oM : ∀ k ∈ M, mq_ok k := fun k hk => t6.1 k (by simp [hk])
  have hWABM : mq_W (A ++ (B ++ M)) := mq_W_perm t6 (fun k hk => by simp only [List.mem_append] at hk ⊢; rcases hk with h | h | h <;> simp [h]) (by simp only [mq_flat_app, List.length_append]; omega)
  have hWCDM : mq_W (C ++ (D ++ M)) := ⟨fun k hk => by
    rcases List.mem_append.mp hk with h | h
    · exact oc1 k h
    · rcases List.mem_append.mp h with h | h
      · exact oc2 k h
      · exact oM k h, by simp only [mq_flat_app, List.length_append]; omega⟩
  have hWCMD : mq_W (C ++ (M ++ D)) := mq_W_perm hWCDM (fun k hk => by simp only [List.mem_append] at hk ⊢; rcases hk with h | h | h <;> simp [h]) (by simp only [mq_flat_app, List.length_append]; omega)
  have hcl4 := hWCDM.chunks
  refine b_X3_shifts_0 ⟨_, _, _, q, f, _, rfl, rfl, hR, hW, hx, by omega, fun s1 z1 hr1 hw1 => ⟨_, z1, g, rfl, rfl, ?_⟩⟩
  obtain ⟨od1, nk1, nl1, nt1, ns1⟩ := z1
  refine b_X3_shifts_5 ⟨_, _, _, _, f + n, _, rfl, rfl, hr1, t3, by omega, by omega, fun s2 z2 hr2 hw2 => ⟨_, z2, g, rfl, rfl, ?_⟩⟩
  obtain ⟨od2, nk2, nl2, nt2, ns2⟩ := z2
  rw [t5] at hr2 hw2
  rw [t2] at hw1
  dsimp only at hr2 hw2
  have hr2' : mq_R (md_v s2) (A ++ (M ++ B)) := by simpa using hr2
  have t6' : mq_W ((A ++ M) ++ B) := by simpa using t6
  refine b_X3_shifts_12 ⟨_, _, _, A, M ++ B, _, rfl, rfl, hr2', t6, by omega, _, rfl, rfl, ?_⟩
  refine b_X3_shifts_17 ⟨_, _, _, A ++ M, B, _, rfl, rfl, hr2, t6', by rw [mq_flat_app, List.length_append]; omega, _, rfl, rfl, ?_⟩
  refine b_X3_shifts_26 ?_
  have c2 : s2 1 = ((A ++ (M ++ B)).length : Nat) := hr2'.2.2.2.2.2
  simp only [List.length_append] at c2 hcl hcl4 ⊢
  generalize ha : (A.length : Int) = a
  generalize hb : ((A.length + M.length : Nat) : Int) = b
  rw [show s2 1 - (b - a) = ((A.length + B.length : Nat) : Int) by omega, show b - a = (M.length : Int) by omega]
  generalize hmn : (M.length : Int) = mn
  generalize hot : ((A.length + B.length : Nat) : Int) = ot
  -- the last order: the span goes behind what is ahead
  have fifth : ∀ (s5 : Int → Int) (nk nl nt ns : Int → Int) (lf ot5 ah : Int), mq_R (md_v s5) (C ++ (D ++ M)) → s5 2 = s2 2 + w3 → ah = C.length → ot5 = C.length + D.length → ∀ (m : Nat) (c : Int) (od3 : Int → Int), c + m = s5 1 → 0 ≤ c → (∀ i : Int, 0 ≤ i → i < c → od3 i = if i < ah then i else if i < ah + mn then ot5 + i - ah else i - mn) →
      ab_R E_X3_shifts P_X3_shifts Q 178 [some (.inr (.inl (some 0))), some (.inl x), some (.inl y), some (.inl p), some (.inl a), some (.inl b), some (.inl mn), some (.inl ot5), some (.inl lf), some (.inl ah), some (.inl c)] [] (md_cs s5 (od3, nk, nl, nt, ns) g) := by
    intro s5 nk nl nt ns lf ot5 ah hr5 hw5 hah hot5 m
    have c5 : s5 1 = ((C ++ (D ++ M)).length : Nat) := hr5.2.2.2.2.2
    simp only [List.length_append] at c5
    induction m with
    | zero =>
      intro c od3 g1 g2 g3
      refine b_X3_shifts_178 (fun _ => ⟨s5, od3, _, _, _, _, _, C ++ (D ++ M), C ++ (M ++ D), rfl, rfl, hr5, hWCDM, by simp; omega, by simp only [mq_flat_app, List.length_append]; omega, fun i hi => ?_, fun s6 z6 hr6 hw6 => ⟨s6, z6, g, rfl, rfl, ?_⟩⟩) (fun _ _ _ => by omega) (fun _ _ _ => by omega) (fun _ _ => by omega)
      · simp only [List.length_append] at hi
        by_cases y1 : i < C.length
        · refine ⟨i, ?_, by simp only [List.length_append]; omega, ?_⟩
          · rw [g3 i (by omega) (by omega), if_pos (by omega)]
          · rw [List.getElem?_append_left y1, List.getElem?_append_left y1]
        · by_cases y2 : i < C.length + M.length
          · refine ⟨D.length + i, ?_, by simp only [List.length_append]; omega, ?_⟩
            · rw [g3 i (by omega) (by omega), if_neg (by omega), if_pos (by omega)]; omega
            · rw [List.getElem?_append_right (by omega), List.getElem?_append_left (by omega), List.getElem?_append_right (by omega), List.getElem?_append_right (by omega)]
              congr 1; omega
          · refine ⟨i - M.length, ?_, by simp only [List.length_append]; omega, ?_⟩
            · rw [g3 i (by omega) (by omega), if_neg (by omega), if_neg (by omega)]; omega
            · rw [List.getElem?_append_right (by omega), List.getElem?_append_right (by omega), List.getElem?_append_right (by omega), List.getElem?_append_left (by omega)]
              congr 1; omega
      · obtain ⟨od6, nk6, nl6, nt6, ns6⟩ := z6
        exact b_X3_shifts_244 (hQ s6 _ hr6 (by omega))
    | succ m ih =>
      intro c od3 g1 g2 g3
      refine b_X3_shifts_178 (fun _ => by omega) (fun _ _ _ => ih _ _ (by omega) (by omega) (fun i i1 i2 => ?_)) (fun _ _ _ => ih _ _ (by omega) (by omega) (fun i i1 i2 => ?_)) (fun _ _ => ih _ _ (by omega) (by omega) (fun i i1 i2 => ?_))
      · by_cases y1 : i = c
        · rw [ab_up_eq y1, if_neg (by omega), if_neg (by omega), y1]
        · rw [ab_up_ne y1]; exact g3 i i1 (by omega)
      · by_cases y1 : i = c
        · rw [ab_up_eq y1, if_neg (by omega), if_pos (by omega), y1]
        · rw [ab_up_ne y1]; exact g3 i i1 (by omega)
      · by_cases y1 : i = c
        · rw [ab_up_eq y1, if_pos (by omega), y1]
        · rw [ab_up_ne y1]; exact g3 i i1 (by omega)
  have fourth : ∀ (s3 : Int → Int) (z3 : mc_T) (lf : Int), mq_R (md_v s3) (A ++ (B ++ M)) → s3 2 = s2 2 → ab_R E_X3_shifts P_X3_shifts Q 121 [some (.inr (.inl (some 0))), some (.inl x), some (.inl y), some (.inl p), some (.inl a), some (.inl b), some (.inl mn), some (.inl ot), some (.inl lf), none, none] [] (md_cs s3 z3 g) := by
    intro s3 z3 lf hr3 hw3
    obtain ⟨od3, nk3, nl3, nt3, ns3⟩ := z3
    have n3 : s3 0 = ((mq_flat (A ++ (B ++ M))).length : Nat) := hr3.2.2.2.2.1
    have c3 : s3 1 = ((A ++ (B ++ M)).length : Nat) := hr3.2.2.2.2.2
    simp only [List.length_append, mq_flat_app] at n3 c3
    have hlf : s3 0 - (y - x + 1) = (((mq_flat q).length - n : Nat) : Int) := by omega
    refine b_X3_shifts_121 (fun hc => ?_) (fun hc => ?_)
    · -- the place is behind all the others
      have hde : d = (mq_flat (A ++ B)).length := by omega
      have hce := mq_cut_end oAB
      rw [← hde, hcd] at hce
      obtain ⟨rfl, rfl, rfl⟩ : C = A ++ B ∧ D = [] ∧ w3 = 0 := by
        injection hce with e1 e2
        injection e2 with e2 e3
        exact ⟨e1, e2, e3⟩
      refine b_X3_shifts_146 (fun hc2 => by omega) (fun hc2 => ?_)
      refine b_X3_shifts_173 (fifth s3 _ _ _ _ _ _ _ (by simpa using hr3) (by omega) (by rw [List.length_append]; omega) (by rw [List.length_append, List.length_nil]; omega) (s3 1).toNat 0 _ (by omega) (by omega) (fun i i1 i2 => by omega))
    · have hr3' : mq_R (md_v s3) ((A ++ B) ++ M) := by simpa using hr3
      have hW3' : mq_W ((A ++ B) ++ M) := by simpa using hWABM
      have hcl3 := mq_cut_left (C := M) (d := d) oAB (by omega)
      rw [hcd] at hcl3
      dsimp only at hcl3
      refine ⟨_, _, _, (A ++ B) ++ M, d, _, rfl, rfl, hr3', hW3', hp, by rw [mq_flat_app, List.length_append]; omega, fun s4 z4 hr4 hw4 => ⟨s4, z4, g, rfl, rfl, ?_⟩⟩
      rw [hcl3] at hr4 hw4
      dsimp only at hr4 hw4
      obtain ⟨od4, nk4, nl4, nt4, ns4⟩ := z4
      have c4 : s4 1 = ((C ++ (D ++ M)).length : Nat) := hr4.2.2.2.2.2
      simp only [List.length_append] at c4
      refine b_X3_shifts_146 (fun hc2 => ?_) (fun hc2 => by omega)
      refine ⟨_, _, _, C, D ++ M, _, rfl, rfl, hr4, hWCDM, by omega, _, rfl, rfl, ?_⟩
      exact b_X3_shifts_173 (fifth s4 _ _ _ _ _ _ _ hr4 (by omega) rfl (by omega) (s4 1).toNat 0 _ (by omega) (by omega) (fun i i1 i2 => by omega))
  have third : ∀ (m : Nat) (c : Int) (od3 : Int → Int), c + m = mn → 0 ≤ c → (∀ i : Int, 0 ≤ i → i < ot + c → od3 i = if i < a then i else if i < ot then i + mn else a + (i - ot)) →
      ab_R E_X3_shifts P_X3_shifts Q 89 [some (.inr (.inl (some 0))), some (.inl x), some (.inl y), some (.inl p), some (.inl a), some (.inl b), some (.inl mn), some (.inl ot), some (.inl c), none, none] [] (md_cs s2 (od3, nk2, nl2, nt2, ns2) g) := by
    intro m
    induction m with
    | zero =>
      intro c od3 g1 g2 g3
      refine b_X3_shifts_89 (fun _ => ⟨s2, od3, _, _, _, _, _, A ++ (M ++ B), A ++ (B ++ M), rfl, rfl, hr2', t6, by simp; omega, by simp only [mq_flat_app, List.length_append]; omega, fun i hi => ?_, fun s3 z3 hr3 hw3 => ⟨s3, z3, g, rfl, rfl, ?_⟩⟩) (fun _ => by omega)
      · simp only [List.length_append] at hi
        by_cases y1 : i < A.length
        · refine ⟨i, ?_, by simp only [List.length_append]; omega, ?_⟩
          · rw [g3 i (by omega) (by omega), if_pos (by omega)]
          · rw [List.getElem?_append_left y1, List.getElem?_append_left y1]
        · by_cases y2 : i < A.length + B.length
          · refine ⟨M.length + i, ?_, by simp only [List.length_append]; omega, ?_⟩
            · rw [g3 i (by omega) (by omega), if_neg (by omega), if_pos (by omega)]; omega
            · rw [List.getElem?_append_right (by omega), List.getElem?_append_left (by omega), List.getElem?_append_right (by omega), List.getElem?_append_right (by omega)]
              congr 1; omega
          · refine ⟨i - B.length, ?_, by simp only [List.length_append]; omega, ?_⟩
            · rw [g3 i (by omega) (by omega), if_neg (by omega), if_neg (by omega)]; omega
            · rw [List.getElem?_append_right (by omega), List.getElem?_append_right (by omega), List.getElem?_append_right (by omega), List.getElem?_append_left (by omega)]
              congr 1; omega
      · obtain ⟨od4, nk4, nl4, nt4, ns4⟩ := z3
        exact fourth s3 _ c hr3 hw3
    | succ m ih =>
      intro c od3 g1 g2 g3
      refine b_X3_shifts_89 (fun _ => by omega) (fun _ => ih _ _ (by omega) (by omega) (fun i i1 i2 => ?_))
      by_cases y1 : i = ot + c
      · rw [ab_up_eq y1, if_neg (by omega), if_neg (by omega)]; omega
      · rw [ab_up_ne y1]; exact g3 i i1 (by omega)
  have first : ∀ (m : Nat) (c : Int) (od3 : Int → Int), c + m = ot → 0 ≤ c → (∀ i : Int, 0 ≤ i → i < c → od3 i = if i < a then i else i + mn) →
      ab_R E_X3_shifts P_X3_shifts Q 49 [some (.inr (.inl (some 0))), some (.inl x), some (.inl y), some (.inl p), some (.inl a), some (.inl b), some (.inl mn), some (.inl ot), some (.inl c), none, none] [] (md_cs s2 (od3, nk2, nl2, nt2, ns2) g) := by
    intro m
    induction m with
    | zero =>
      intro c od3 g1 g2 g3
      refine b_X3_shifts_49 (fun _ => third M.length 0 od3 (by omega) (by omega) (fun i i1 i2 => ?_)) (fun _ _ => by omega) (fun _ _ => by omega)
      rw [g3 i i1 (by omega)]
      by_cases y1 : i < a
      · rw [if_pos y1, if_pos y1]
      · rw [if_neg y1, if_neg y1, if_pos (by omega)]
    | succ m ih =>
      intro c od3 g1 g2 g3
      refine b_X3_shifts_49 (fun _ => by omega) (fun _ _ => ih _ _ (by omega) (by omega) (fun i i1 i2 => ?_)) (fun _ _ => ih _ _ (by omega) (by omega) (fun i i1 i2 => ?_))
      · by_cases y1 : i = c
        · rw [ab_up_eq y1, if_neg (by omega), y1]
        · rw [ab_up_ne y1]; exact g3 i i1 (by omega)
      · by_cases y1 : i = c
        · rw [ab_up_eq y1, if_pos (by omega), y1]
        · rw [ab_up_ne y1]; exact g3 i i1 (by omega)
  exact first (A.length + B.length) 0 od2 (by omega) (by omega) (fun i i1 i2 => by omega)
theorem mt_X3_shifts (l : Launch) : ab_MT l mi_X3_shifts sp_X3_shifts := ab_MT.of (own := "RootChunksModel") (E := E_X3_shifts) (P := P_X3_shifts) (M := M_X3_shifts) (nL := 11) (ty := 9) (by decide) rfl rfl tk_X3 pk_X3_shifts ck_X3_shifts (ab_CT'.cons (mt_X3_cuts l) (ab_CT'.cons (mt_X3_cuts l) (ab_CT'.cons (mt_X3_chunkFrom l) (ab_CT'.cons (mt_X3_chunkFrom l) (ab_CT'.cons (mt_X3_reorders l) (ab_CT'.cons (mt_X3_cuts l) (ab_CT'.cons (mt_X3_chunkFrom l) (ab_CT'.cons (mt_X3_reorders l) ab_CT'.nil)))))))) (fun av cs Q h => vc_X3_shifts h)
