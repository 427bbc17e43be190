/-! THE REFERENCE: reordered, evened out, changed -/
def sp_X3_reorders : ab_Sp := fun av cs Q => ∃ (s : Int → Int) (od nk nl nt ns : Int → Int) (g : mg_T) (q q' : List mq_K), av = [.inr (.inl (some 0))] ∧ cs = md_cs s (od, nk, nl, nt, ns) g ∧ mq_R (md_v s) q ∧ mq_W q ∧ q'.length = q.length ∧ (mq_flat q').length = (mq_flat q).length ∧ (∀ i : Nat, i < q.length → ∃ c : Nat, od i = c ∧ c < q.length ∧ q'[i]? = q[c]?) ∧
  ∀ (s' : Int → Int) (z' : mc_T), mq_R (md_v s') q' → s' 2 = s 2 → Q none (md_cs s' z' g)
def sp_X3_evens : ab_Sp := fun av cs Q => ∃ (s : Int → Int) (z : mc_T) (g : mg_T) (q : List mq_K), av = [.inr (.inl (some 0))] ∧ cs = md_cs s z g ∧ mq_R (md_v s) q ∧ mq_W q ∧
  ∀ (s' : Int → Int) (z' : mc_T), mq_R (md_v s') (mq_ev q).1 → s' 2 = s 2 + (mq_ev q).2 → Q none (md_cs s' z' g)
-- ===== RootChunksModel.reorders
def P_X3_reorders : List ab_I := [(0, .iconst 0, 1, []), (1, .istore_n 1, 2, []), (2, .iconst 0, 3, []), (3, .istore_n 2, 4, []), (4, .iload_n 2, 5, []), (5, .aload_n 0, 6, []), (6, .getfield 7, 9, []), (9, .iconst 1, 10, []), (10, .iaload, 11, []), (11, .if_icmp .ge 113, 14, [((0 : Int), 124)]), (14, .aload_n 0, 15, []), (15, .getfield 29, 18, []), (18, .iload_n 2, 19, []), (19, .iaload, 20, []), (20, .istore_n 3, 21, []), (21, .aload_n 0, 22, []), (22, .iload_n 3, 23, []), (23, .invokevirtual 58, 26, []), (26, .istore 4, 28, []), (28, .iconst 0, 29, []), (29, .istore 5, 31, []), (31, .iload 5, 33, []), (33, .aload_n 0, 34, []), (34, .getfield 7, 37, []), (37, .bipush 63, 39, []), (39, .iload_n 3, 40, []), (40, .iadd, 41, []), (41, .iaload, 42, []), (42, .if_icmp .ge 30, 45, [((0 : Int), 72)]), (45, .aload_n 0, 46, []), (46, .getfield 32, 49, []), (49, .iload_n 1, 50, []), (50, .aload_n 0, 51, []), (51, .getfield 7, 54, []), (54, .iconst 3, 55, []), (55, .iload 4, 57, []), (57, .iadd, 58, []), (58, .iload 5, 60, []), (60, .iadd, 61, []), (61, .iaload, 62, []), (62, .iastore, 63, []), (63, .iinc 1 1, 66, []), (66, .iinc 5 1, 69, []), (69, .goto (-38), 72, [((0 : Int), 31)]), (72, .aload_n 0, 73, []), (73, .getfield 35, 76, []), (76, .iload_n 2, 77, []), (77, .aload_n 0, 78, []), (78, .getfield 7, 81, []), (81, .bipush 63, 83, []), (83, .iload_n 3, 84, []), (84, .iadd, 85, []), (85, .iaload, 86, []), (86, .iastore, 87, []), (87, .aload_n 0, 88, []), (88, .getfield 38, 91, []), (91, .iload_n 2, 92, []), (92, .aload_n 0, 93, []), (93, .getfield 7, 96, []), (96, .bipush 127, 98, []), (98, .iload_n 3, 99, []), (99, .iadd, 100, []), (100, .iaload, 101, []), (101, .iastore, 102, []), (102, .aload_n 0, 103, []), (103, .getfield 41, 106, []), (106, .iload_n 2, 107, []), (107, .aload_n 0, 108, []), (108, .getfield 7, 111, []), (111, .sipush 191, 114, []), (114, .iload_n 3, 115, []), (115, .iadd, 116, []), (116, .iaload, 117, []), (117, .iastore, 118, []), (118, .iinc 2 1, 121, []), (121, .goto (-117), 124, [((0 : Int), 4)]), (124, .iconst 0, 125, []), (125, .istore_n 2, 126, []), (126, .iload_n 2, 127, []), (127, .iload_n 1, 128, []), (128, .if_icmp .ge 23, 131, [((0 : Int), 151)]), (131, .aload_n 0, 132, []), (132, .getfield 7, 135, []), (135, .iconst 3, 136, []), (136, .iload_n 2, 137, []), (137, .iadd, 138, []), (138, .aload_n 0, 139, []), (139, .getfield 32, 142, []), (142, .iload_n 2, 143, []), (143, .iaload, 144, []), (144, .iastore, 145, []), (145, .iinc 2 1, 148, []), (148, .goto (-22), 151, [((0 : Int), 126)]), (151, .iconst 0, 152, []), (152, .istore_n 2, 153, []), (153, .iload_n 2, 154, []), (154, .aload_n 0, 155, []), (155, .getfield 7, 158, []), (158, .iconst 1, 159, []), (159, .iaload, 160, []), (160, .if_icmp .ge 55, 163, [((0 : Int), 215)]), (163, .aload_n 0, 164, []), (164, .getfield 7, 167, []), (167, .bipush 63, 169, []), (169, .iload_n 2, 170, []), (170, .iadd, 171, []), (171, .aload_n 0, 172, []), (172, .getfield 35, 175, []), (175, .iload_n 2, 176, []), (176, .iaload, 177, []), (177, .iastore, 178, []), (178, .aload_n 0, 179, []), (179, .getfield 7, 182, []), (182, .bipush 127, 184, []), (184, .iload_n 2, 185, []), (185, .iadd, 186, []), (186, .aload_n 0, 187, []), (187, .getfield 38, 190, []), (190, .iload_n 2, 191, []), (191, .iaload, 192, []), (192, .iastore, 193, []), (193, .aload_n 0, 194, []), (194, .getfield 7, 197, []), (197, .sipush 191, 200, []), (200, .iload_n 2, 201, []), (201, .iadd, 202, []), (202, .aload_n 0, 203, []), (203, .getfield 41, 206, []), (206, .iload_n 2, 207, []), (207, .iaload, 208, []), (208, .iastore, 209, []), (209, .iinc 2 1, 212, []), (212, .goto (-59), 215, [((0 : Int), 153)]), (215, .return_, 216, [])]
def E_X3_reorders : ab_E := (T_X3, [(23, (2, 3, [], 0, sp_X3_startOf))], [], 9)
def M_X3_reorders : List (Nat × ab_MI) := [(23, mi_X3_startOf)]
def mi_X3_reorders : ab_MI := (yX3_reorders, cX3_reorders, 6, ab_rty 9, 2, 93)
theorem pk_X3_reorders : P_X3_reorders.all (ab_okI cX3_reorders) = true := by decide +kernel
theorem ck_X3_reorders : P_X3_reorders.all (ab_okC1 "RootChunksModel" M_X3_reorders E_X3_reorders (2, 93)) = true := by decide +kernel
set_option maxRecDepth 100000 in
theorem b_X3_reorders_0 {Q : ab_Q} {s_ : Int → Int} {z_od : Int → Int} {z_nk : Int → Int} {z_nl : Int → Int} {z_nt : Int → Int} {z_ns : Int → Int} {g_ : mg_T} (l1 : ab_R E_X3_reorders P_X3_reorders Q 4 [some (.inr (.inl (some 0))), some (.inl 0), some (.inl 0), none, none, none] [] (md_cs s_ (z_od, z_nk, z_nl, z_nt, z_ns) g_))  : ab_R E_X3_reorders P_X3_reorders Q 0 [some (.inr (.inl (some 0))), none, none, none, none, none] [] (md_cs s_ (z_od, z_nk, z_nl, z_nt, z_ns) g_) :=
  ab_R.steps [4, 26, 31, 126, 153] 6 (show ab_R E_X3_reorders P_X3_reorders Q 4 [some (.inr (.inl (some 0))), some (.inl 0), some (.inl 0), none, none, none] [] (md_cs s_ (z_od, z_nk, z_nl, z_nt, z_ns) g_) from l1)
set_option maxRecDepth 100000 in
theorem b_X3_reorders_4 {Q : ab_Q} {to : Int} {k : Int} {s_ : Int → Int} {z_od : Int → Int} {z_nk : Int → Int} {z_nl : Int → Int} {z_nt : Int → Int} {z_ns : Int → Int} {g_ : mg_T} (l1 : (s_ 1) ≤ k → ab_R E_X3_reorders P_X3_reorders Q 126 [some (.inr (.inl (some 0))), some (.inl to), some (.inl 0), none, none, none] [] (md_cs s_ (z_od, z_nk, z_nl, z_nt, z_ns) g_)) (l2 : k < (s_ 1) → sp_X3_startOf [.inr (.inl (some 0)), .inl (z_od k)] (md_cs s_ (z_od, z_nk, z_nl, z_nt, z_ns) g_) (fun r_ k_ => ∃ (x_ : Int), r_ = some (.inl x_) ∧ k_ = (md_cs s_ (z_od, z_nk, z_nl, z_nt, z_ns) g_) ∧ ab_R E_X3_reorders P_X3_reorders Q 26 [some (.inr (.inl (some 0))), some (.inl to), some (.inl k), some (.inl (z_od k)), none, none] [.inl x_] (md_cs s_ (z_od, z_nk, z_nl, z_nt, z_ns) g_))) (p1 : (0 ≤ (1 : Int) ∧ (1 : Int) < 255) := by intros; (try unfold ab_r); omega) (p2 : (ab_r k ∧ ab_r (s_ 1)) := by intros; (try unfold ab_r); omega) (p3 : k < (s_ 1) → (0 ≤ k ∧ k < 64) := by intros; (try unfold ab_r); omega) : ab_R E_X3_reorders P_X3_reorders Q 4 [some (.inr (.inl (some 0))), some (.inl to), some (.inl k), none, none, none] [] (md_cs s_ (z_od, z_nk, z_nl, z_nt, z_ns) g_) :=
  ab_R.steps [4, 26, 31, 126, 153] 15 (show ((0 ≤ (1 : Int) ∧ (1 : Int) < 255) ∧ ((ab_r k ∧ ab_r (s_ 1)) ∧ (((s_ 1) ≤ k → ab_R E_X3_reorders P_X3_reorders Q 126 [some (.inr (.inl (some 0))), some (.inl to), some (.inl 0), none, none, none] [] (md_cs s_ (z_od, z_nk, z_nl, z_nt, z_ns) g_)) ∧ (k < (s_ 1) → ((0 ≤ k ∧ k < 64) ∧ ab_cl sp_X3_startOf [.inr (.inl (some 0)), .inl (z_od k)] (md_cs s_ (z_od, z_nk, z_nl, z_nt, z_ns) g_) (fun r_ k_ => k_.length = ((md_cs s_ (z_od, z_nk, z_nl, z_nt, z_ns) g_)).length → ab_R E_X3_reorders P_X3_reorders Q 26 [some (.inr (.inl (some 0))), some (.inl to), some (.inl k), some (.inl (z_od k)), none, none] (ab_ret r_ []) k_)))))) from ⟨p1, ⟨p2, ⟨fun h1 => (l1 h1), fun h2 => ⟨(p3 h2), ⟨_, (l2 h2), fun r_ k_ hz _ => by obtain ⟨x_, rfl, rfl, hR⟩ := hz; exact hR⟩⟩⟩⟩⟩)
set_option maxRecDepth 100000 in
theorem b_X3_reorders_26 {Q : ab_Q} {to : Int} {k : Int} {c : Int} {t0 : Int} {s_ : Int → Int} {z_od : Int → Int} {z_nk : Int → Int} {z_nl : Int → Int} {z_nt : Int → Int} {z_ns : Int → Int} {g_ : mg_T} (l1 : ab_R E_X3_reorders P_X3_reorders Q 31 [some (.inr (.inl (some 0))), some (.inl to), some (.inl k), some (.inl c), some (.inl t0), some (.inl 0)] [] (md_cs s_ (z_od, z_nk, z_nl, z_nt, z_ns) g_))  : ab_R E_X3_reorders P_X3_reorders Q 26 [some (.inr (.inl (some 0))), some (.inl to), some (.inl k), some (.inl c), none, none] [.inl t0] (md_cs s_ (z_od, z_nk, z_nl, z_nt, z_ns) g_) :=
  ab_R.steps [4, 26, 31, 126, 153] 5 (show ab_R E_X3_reorders P_X3_reorders Q 31 [some (.inr (.inl (some 0))), some (.inl to), some (.inl k), some (.inl c), some (.inl t0), some (.inl 0)] [] (md_cs s_ (z_od, z_nk, z_nl, z_nt, z_ns) g_) from l1)
set_option maxRecDepth 100000 in
theorem b_X3_reorders_31 {Q : ab_Q} {to : Int} {k : Int} {c : Int} {st : Int} {i : Int} {s_ : Int → Int} {z_od : Int → Int} {z_nk : Int → Int} {z_nl : Int → Int} {z_nt : Int → Int} {z_ns : Int → Int} {g_ : mg_T} (l1 : (s_ (63 + c)) ≤ i → ab_R E_X3_reorders P_X3_reorders Q 4 [some (.inr (.inl (some 0))), some (.inl to), some (.inl (k + 1)), none, none, none] [] (md_cs s_ (z_od, z_nk, (ab_up z_nl k (s_ (63 + c))), (ab_up z_nt k (s_ (127 + c))), (ab_up z_ns k (s_ (191 + c)))) g_)) (l2 : i < (s_ (63 + c)) → ab_R E_X3_reorders P_X3_reorders Q 31 [some (.inr (.inl (some 0))), some (.inl (to + 1)), some (.inl k), some (.inl c), some (.inl st), some (.inl (i + 1))] [] (md_cs s_ (z_od, (ab_up z_nk to (s_ ((3 + st) + i))), z_nl, z_nt, z_ns) g_)) (p1 : (0 ≤ (63 + c) ∧ (63 + c) < 255) := by intros; (try unfold ab_r); omega) (p2 : (ab_r i ∧ ab_r (s_ (63 + c))) := by intros; (try unfold ab_r); omega) (p3 : (s_ (63 + c)) ≤ i → (0 ≤ (63 + c) ∧ (63 + c) < 255) := by intros; (try unfold ab_r); omega) (p4 : (s_ (63 + c)) ≤ i → (0 ≤ k ∧ k < 64) := by intros; (try unfold ab_r); omega) (p5 : (s_ (63 + c)) ≤ i → (0 ≤ (127 + c) ∧ (127 + c) < 255) := by intros; (try unfold ab_r); omega) (p6 : (s_ (63 + c)) ≤ i → (0 ≤ (191 + c) ∧ (191 + c) < 255) := by intros; (try unfold ab_r); omega) (p7 : i < (s_ (63 + c)) → (0 ≤ ((3 + st) + i) ∧ ((3 + st) + i) < 255) := by intros; (try unfold ab_r); omega) (p8 : i < (s_ (63 + c)) → (0 ≤ to ∧ to < 64) := by intros; (try unfold ab_r); omega) : ab_R E_X3_reorders P_X3_reorders Q 31 [some (.inr (.inl (some 0))), some (.inl to), some (.inl k), some (.inl c), some (.inl st), some (.inl i)] [] (md_cs s_ (z_od, z_nk, z_nl, z_nt, z_ns) g_) :=
  ab_R.steps [4, 26, 31, 126, 153] 42 (show ((0 ≤ (63 + c) ∧ (63 + c) < 255) ∧ ((ab_r i ∧ ab_r (s_ (63 + c))) ∧ (((s_ (63 + c)) ≤ i → ((0 ≤ (63 + c) ∧ (63 + c) < 255) ∧ ((0 ≤ k ∧ k < 64) ∧ ((0 ≤ (127 + c) ∧ (127 + c) < 255) ∧ ((0 ≤ k ∧ k < 64) ∧ ((0 ≤ (191 + c) ∧ (191 + c) < 255) ∧ ((0 ≤ k ∧ k < 64) ∧ ab_R E_X3_reorders P_X3_reorders Q 4 [some (.inr (.inl (some 0))), some (.inl to), some (.inl (k + 1)), some (.inl c), some (.inl st), some (.inl i)] [] (md_cs s_ (z_od, z_nk, (ab_up z_nl k (s_ (63 + c))), (ab_up z_nt k (s_ (127 + c))), (ab_up z_ns k (s_ (191 + c)))) g_)))))))) ∧ (i < (s_ (63 + c)) → ((0 ≤ ((3 + st) + i) ∧ ((3 + st) + i) < 255) ∧ ((0 ≤ to ∧ to < 64) ∧ ab_R E_X3_reorders P_X3_reorders Q 31 [some (.inr (.inl (some 0))), some (.inl (to + 1)), some (.inl k), some (.inl c), some (.inl st), some (.inl (i + 1))] [] (md_cs s_ (z_od, (ab_up z_nk to (s_ ((3 + st) + i))), z_nl, z_nt, z_ns) g_))))))) from ⟨p1, ⟨p2, ⟨fun h1 => ⟨(p3 h1), ⟨(p4 h1), ⟨(p5 h1), ⟨(p4 h1), ⟨(p6 h1), ⟨(p4 h1), (ab_R.fg 3 rfl (ab_R.fg 4 rfl (ab_R.fg 5 rfl (l1 h1))))⟩⟩⟩⟩⟩⟩, fun h2 => ⟨(p7 h2), ⟨(p8 h2), (l2 h2)⟩⟩⟩⟩⟩)
set_option maxRecDepth 100000 in
theorem b_X3_reorders_126 {Q : ab_Q} {to : Int} {k : Int} {s_ : Int → Int} {z_od : Int → Int} {z_nk : Int → Int} {z_nl : Int → Int} {z_nt : Int → Int} {z_ns : Int → Int} {g_ : mg_T} (l1 : to ≤ k → ab_R E_X3_reorders P_X3_reorders Q 153 [some (.inr (.inl (some 0))), some (.inl to), some (.inl 0), none, none, none] [] (md_cs s_ (z_od, z_nk, z_nl, z_nt, z_ns) g_)) (l2 : k < to → ab_R E_X3_reorders P_X3_reorders Q 126 [some (.inr (.inl (some 0))), some (.inl to), some (.inl (k + 1)), none, none, none] [] (md_cs ((ab_up s_ (3 + k) (z_nk k))) (z_od, z_nk, z_nl, z_nt, z_ns) g_)) (p1 : (ab_r k ∧ ab_r to) := by intros; (try unfold ab_r); omega) (p2 : k < to → (0 ≤ k ∧ k < 64) := by intros; (try unfold ab_r); omega) (p3 : k < to → (0 ≤ (3 + k) ∧ (3 + k) < 255) := by intros; (try unfold ab_r); omega) : ab_R E_X3_reorders P_X3_reorders Q 126 [some (.inr (.inl (some 0))), some (.inl to), some (.inl k), none, none, none] [] (md_cs s_ (z_od, z_nk, z_nl, z_nt, z_ns) g_) :=
  ab_R.steps [4, 26, 31, 126, 153] 17 (show ((ab_r k ∧ ab_r to) ∧ ((to ≤ k → ab_R E_X3_reorders P_X3_reorders Q 153 [some (.inr (.inl (some 0))), some (.inl to), some (.inl 0), none, none, none] [] (md_cs s_ (z_od, z_nk, z_nl, z_nt, z_ns) g_)) ∧ (k < to → ((0 ≤ k ∧ k < 64) ∧ ((0 ≤ (3 + k) ∧ (3 + k) < 255) ∧ ab_R E_X3_reorders P_X3_reorders Q 126 [some (.inr (.inl (some 0))), some (.inl to), some (.inl (k + 1)), none, none, none] [] (md_cs ((ab_up s_ (3 + k) (z_nk k))) (z_od, z_nk, z_nl, z_nt, z_ns) g_)))))) from ⟨p1, ⟨fun h1 => (l1 h1), fun h2 => ⟨(p2 h2), ⟨(p3 h2), (l2 h2)⟩⟩⟩⟩)
set_option maxRecDepth 100000 in
theorem b_X3_reorders_153 {Q : ab_Q} {to : Int} {k : Int} {s_ : Int → Int} {z_od : Int → Int} {z_nk : Int → Int} {z_nl : Int → Int} {z_nt : Int → Int} {z_ns : Int → Int} {g_ : mg_T} (l1 : (s_ 1) ≤ k → Q none (md_cs s_ (z_od, z_nk, z_nl, z_nt, z_ns) g_)) (l2 : k < (s_ 1) → ab_R E_X3_reorders P_X3_reorders Q 153 [some (.inr (.inl (some 0))), some (.inl to), some (.inl (k + 1)), none, none, none] [] (md_cs ((ab_up (ab_up (ab_up s_ (63 + k) (z_nl k)) (127 + k) (z_nt k)) (191 + k) (z_ns k))) (z_od, z_nk, z_nl, z_nt, z_ns) g_)) (p1 : (0 ≤ (1 : Int) ∧ (1 : Int) < 255) := by intros; (try unfold ab_r); omega) (p2 : (ab_r k ∧ ab_r (s_ 1)) := by intros; (try unfold ab_r); omega) (p3 : k < (s_ 1) → (0 ≤ k ∧ k < 64) := by intros; (try unfold ab_r); omega) (p4 : k < (s_ 1) → (0 ≤ (63 + k) ∧ (63 + k) < 255) := by intros; (try unfold ab_r); omega) (p5 : k < (s_ 1) → (0 ≤ (127 + k) ∧ (127 + k) < 255) := by intros; (try unfold ab_r); omega) (p6 : k < (s_ 1) → (0 ≤ (191 + k) ∧ (191 + k) < 255) := by intros; (try unfold ab_r); omega) : ab_R E_X3_reorders P_X3_reorders Q 153 [some (.inr (.inl (some 0))), some (.inl to), some (.inl k), none, none, none] [] (md_cs s_ (z_od, z_nk, z_nl, z_nt, z_ns) g_) :=
  ab_R.steps [4, 26, 31, 126, 153] 40 (show ((0 ≤ (1 : Int) ∧ (1 : Int) < 255) ∧ ((ab_r k ∧ ab_r (s_ 1)) ∧ (((s_ 1) ≤ k → Q none (md_cs s_ (z_od, z_nk, z_nl, z_nt, z_ns) g_)) ∧ (k < (s_ 1) → ((0 ≤ k ∧ k < 64) ∧ ((0 ≤ (63 + k) ∧ (63 + k) < 255) ∧ ((0 ≤ k ∧ k < 64) ∧ ((0 ≤ (127 + k) ∧ (127 + k) < 255) ∧ ((0 ≤ k ∧ k < 64) ∧ ((0 ≤ (191 + k) ∧ (191 + k) < 255) ∧ ab_R E_X3_reorders P_X3_reorders Q 153 [some (.inr (.inl (some 0))), some (.inl to), some (.inl (k + 1)), none, none, none] [] (md_cs ((ab_up (ab_up (ab_up s_ (63 + k) (z_nl k)) (127 + k) (z_nt k)) (191 + k) (z_ns k))) (z_od, z_nk, z_nl, z_nt, z_ns) g_))))))))))) from ⟨p1, ⟨p2, ⟨fun h1 => (l1 h1), fun h2 => ⟨(p3 h2), ⟨(p4 h2), ⟨(p3 h2), ⟨(p5 h2), ⟨(p3 h2), ⟨(p6 h2), (l2 h2)⟩⟩⟩⟩⟩⟩⟩⟩⟩)
-- ===== RootChunksModel.evens
def P_X3_evens : List ab_I := [(0, .aload_n 0, 1, []), (1, .invokevirtual 72, 4, []), (4, .istore_n 1, 5, []), (5, .iconst 0, 6, []), (6, .istore_n 2, 7, []), (7, .iload_n 2, 8, []), (8, .aload_n 0, 9, []), (9, .getfield 7, 12, []), (12, .iconst 1, 13, []), (13, .iaload, 14, []), (14, .if_icmp .ge 35, 17, [((0 : Int), 49)]), (17, .aload_n 0, 18, []), (18, .getfield 7, 21, []), (21, .bipush 63, 23, []), (23, .iload_n 2, 24, []), (24, .iadd, 25, []), (25, .iaload, 26, []), (26, .iconst 2, 27, []), (27, .iload_n 1, 28, []), (28, .imul, 29, []), (29, .if_icmp .le 14, 32, [((0 : Int), 43)]), (32, .aload_n 0, 33, []), (33, .iload_n 2, 34, []), (34, .invokevirtual 64, 37, []), (37, .aload_n 0, 38, []), (38, .iload_n 2, 39, []), (39, .iload_n 1, 40, []), (40, .invokevirtual 68, 43, []), (43, .iinc 2 1, 46, []), (46, .goto (-39), 49, [((0 : Int), 7)]), (49, .iconst 0, 50, []), (50, .istore_n 2, 51, []), (51, .iload_n 2, 52, []), (52, .aload_n 0, 53, []), (53, .getfield 7, 56, []), (56, .iconst 1, 57, []), (57, .iaload, 58, []), (58, .iconst 1, 59, []), (59, .isub, 60, []), (60, .if_icmp .ge 108, 63, [((0 : Int), 168)]), (63, .aload_n 0, 64, []), (64, .getfield 7, 67, []), (67, .bipush 63, 69, []), (69, .iload_n 2, 70, []), (70, .iadd, 71, []), (71, .iaload, 72, []), (72, .aload_n 0, 73, []), (73, .getfield 7, 76, []), (76, .bipush 63, 78, []), (78, .iload_n 2, 79, []), (79, .iadd, 80, []), (80, .iconst 1, 81, []), (81, .iadd, 82, []), (82, .iaload, 83, []), (83, .iadd, 84, []), (84, .iload_n 1, 85, []), (85, .if_icmp .gt 77, 88, [((0 : Int), 162)]), (88, .aload_n 0, 89, []), (89, .iload_n 2, 90, []), (90, .invokevirtual 64, 93, []), (93, .aload_n 0, 94, []), (94, .iload_n 2, 95, []), (95, .iconst 1, 96, []), (96, .iadd, 97, []), (97, .invokevirtual 64, 100, []), (100, .aload_n 0, 101, []), (101, .getfield 7, 104, []), (104, .iconst 2, 105, []), (105, .dup2, 106, []), (106, .iaload, 107, []), (107, .aload_n 0, 108, []), (108, .getfield 7, 111, []), (111, .bipush 63, 113, []), (113, .iload_n 2, 114, []), (114, .iadd, 115, []), (115, .iconst 1, 116, []), (116, .iadd, 117, []), (117, .iaload, 118, []), (118, .iadd, 119, []), (119, .iastore, 120, []), (120, .aload_n 0, 121, []), (121, .getfield 7, 124, []), (124, .bipush 63, 126, []), (126, .iload_n 2, 127, []), (127, .iadd, 128, []), (128, .iaload, 129, []), (129, .aload_n 0, 130, []), (130, .getfield 7, 133, []), (133, .bipush 63, 135, []), (135, .iload_n 2, 136, []), (136, .iadd, 137, []), (137, .iconst 1, 138, []), (138, .iadd, 139, []), (139, .iaload, 140, []), (140, .iadd, 141, []), (141, .istore_n 3, 142, []), (142, .aload_n 0, 143, []), (143, .iload_n 2, 144, []), (144, .iconst 1, 145, []), (145, .iadd, 146, []), (146, .invokevirtual 76, 149, []), (149, .aload_n 0, 150, []), (150, .getfield 7, 153, []), (153, .bipush 63, 155, []), (155, .iload_n 2, 156, []), (156, .iadd, 157, []), (157, .iload_n 3, 158, []), (158, .iastore, 159, []), (159, .goto (-108), 162, [((0 : Int), 51)]), (162, .iinc 2 1, 165, []), (165, .goto (-114), 168, [((0 : Int), 51)]), (168, .return_, 169, [])]
def E_X3_evens : ab_E := (T_X3, [(1, (1, 3, [], 0, sp_X3_root)), (34, (2, 3, [], 0, sp_X3_carries)), (40, (3, 3, [], 0, sp_X3_parts)), (90, (2, 3, [], 0, sp_X3_carries)), (97, (2, 3, [], 0, sp_X3_carries)), (146, (2, 3, [], 0, sp_X3_closes))], [], 9)
def M_X3_evens : List (Nat × ab_MI) := [(1, mi_X3_root), (34, mi_X3_carries), (40, mi_X3_parts), (90, mi_X3_carries), (97, mi_X3_carries), (146, mi_X3_closes)]
def mi_X3_evens : ab_MI := (yX3_evens, cX3_evens, 4, ab_rty 9, 4, 141)
theorem pk_X3_evens : P_X3_evens.all (ab_okI cX3_evens) = true := by decide +kernel
theorem ck_X3_evens : P_X3_evens.all (ab_okC1 "RootChunksModel" M_X3_evens E_X3_evens (4, 141)) = true := by decide +kernel
set_option maxRecDepth 100000 in
theorem b_X3_evens_0 {Q : ab_Q} {s_ : Int → Int} {z_ : mc_T} {g_ : mg_T} (l1 : sp_X3_root [.inr (.inl (some 0))] (md_cs s_ z_ g_) (fun r_ k_ => ∃ (x_ : Int), r_ = some (.inl x_) ∧ k_ = (md_cs s_ z_ g_) ∧ ab_R E_X3_evens P_X3_evens Q 4 [some (.inr (.inl (some 0))), none, none, none] [.inl x_] (md_cs s_ z_ g_)))  : ab_R E_X3_evens P_X3_evens Q 0 [some (.inr (.inl (some 0))), none, none, none] [] (md_cs s_ z_ g_) :=
  ab_R.steps [4, 7, 37, 43, 51, 93, 100, 149] 3 (show ab_cl sp_X3_root [.inr (.inl (some 0))] (md_cs s_ z_ g_) (fun r_ k_ => k_.length = ((md_cs s_ z_ g_)).length → ab_R E_X3_evens P_X3_evens Q 4 [some (.inr (.inl (some 0))), none, none, none] (ab_ret r_ []) k_) from ⟨_, l1, fun r_ k_ hz _ => by obtain ⟨x_, rfl, rfl, hR⟩ := hz; exact hR⟩)
set_option maxRecDepth 100000 in
theorem b_X3_evens_4 {Q : ab_Q} {t0 : Int} {s_ : Int → Int} {z_ : mc_T} {g_ : mg_T} (l1 : ab_R E_X3_evens P_X3_evens Q 7 [some (.inr (.inl (some 0))), some (.inl t0), some (.inl 0), none] [] (md_cs s_ z_ g_))  : ab_R E_X3_evens P_X3_evens Q 4 [some (.inr (.inl (some 0))), none, none, none] [.inl t0] (md_cs s_ z_ g_) :=
  ab_R.steps [4, 7, 37, 43, 51, 93, 100, 149] 5 (show ab_R E_X3_evens P_X3_evens Q 7 [some (.inr (.inl (some 0))), some (.inl t0), some (.inl 0), none] [] (md_cs s_ z_ g_) from l1)
set_option maxRecDepth 100000 in
theorem b_X3_evens_7 {Q : ab_Q} {rt : Int} {c : Int} {s_ : Int → Int} {z_ : mc_T} {g_ : mg_T} (l1 : (s_ 1) ≤ c → ab_R E_X3_evens P_X3_evens Q 51 [some (.inr (.inl (some 0))), some (.inl rt), some (.inl 0), none] [] (md_cs s_ z_ g_)) (l2 : c < (s_ 1) → (s_ (63 + c)) ≤ (2 * rt) → ab_R E_X3_evens P_X3_evens Q 43 [some (.inr (.inl (some 0))), some (.inl rt), some (.inl c), none] [] (md_cs s_ z_ g_)) (l3 : c < (s_ 1) → (2 * rt) < (s_ (63 + c)) → sp_X3_carries [.inr (.inl (some 0)), .inl c] (md_cs s_ z_ g_) (fun r_ k_ => ∃ (s_' : Int → Int), ∃ (z_' : mc_T), ∃ (g_' : mg_T), r_ = none ∧ k_ = (md_cs (s_') z_' g_') ∧ ab_R E_X3_evens P_X3_evens Q 37 [some (.inr (.inl (some 0))), some (.inl rt), some (.inl c), none] [] (md_cs (s_') z_' g_'))) (p1 : (0 ≤ (1 : Int) ∧ (1 : Int) < 255) := by intros; (try unfold ab_r); omega) (p2 : (ab_r c ∧ ab_r (s_ 1)) := by intros; (try unfold ab_r); omega) (p3 : c < (s_ 1) → (0 ≤ (63 + c) ∧ (63 + c) < 255) := by intros; (try unfold ab_r); omega) (p4 : c < (s_ 1) → (ab_r (s_ (63 + c)) ∧ ab_r (2 * rt)) := by intros; (try unfold ab_r); omega) : ab_R E_X3_evens P_X3_evens Q 7 [some (.inr (.inl (some 0))), some (.inl rt), some (.inl c), none] [] (md_cs s_ z_ g_) :=
  ab_R.steps [4, 7, 37, 43, 51, 93, 100, 149] 20 (show ((0 ≤ (1 : Int) ∧ (1 : Int) < 255) ∧ ((ab_r c ∧ ab_r (s_ 1)) ∧ (((s_ 1) ≤ c → ab_R E_X3_evens P_X3_evens Q 51 [some (.inr (.inl (some 0))), some (.inl rt), some (.inl 0), none] [] (md_cs s_ z_ g_)) ∧ (c < (s_ 1) → ((0 ≤ (63 + c) ∧ (63 + c) < 255) ∧ ((ab_r (s_ (63 + c)) ∧ ab_r (2 * rt)) ∧ (((s_ (63 + c)) ≤ (2 * rt) → ab_R E_X3_evens P_X3_evens Q 43 [some (.inr (.inl (some 0))), some (.inl rt), some (.inl c), none] [] (md_cs s_ z_ g_)) ∧ ((2 * rt) < (s_ (63 + c)) → ab_cl sp_X3_carries [.inr (.inl (some 0)), .inl c] (md_cs s_ z_ g_) (fun r_ k_ => k_.length = ((md_cs s_ z_ g_)).length → ab_R E_X3_evens P_X3_evens Q 37 [some (.inr (.inl (some 0))), some (.inl rt), some (.inl c), none] (ab_ret r_ []) k_))))))))) from ⟨p1, ⟨p2, ⟨fun h1 => (l1 h1), fun h2 => ⟨(p3 h2), ⟨(p4 h2), ⟨fun h3 => (l2 h2 h3), fun h4 => ⟨_, (l3 h2 h4), fun r_ k_ hz _ => by obtain ⟨s_', z_', g_', rfl, rfl, hR⟩ := hz; exact hR⟩⟩⟩⟩⟩⟩⟩)
set_option maxRecDepth 100000 in
theorem b_X3_evens_37 {Q : ab_Q} {rt : Int} {c : Int} {s_ : Int → Int} {z_ : mc_T} {g_ : mg_T} (l1 : sp_X3_parts [.inr (.inl (some 0)), .inl c, .inl rt] (md_cs s_ z_ g_) (fun r_ k_ => ∃ (s_' : Int → Int), ∃ (z_' : mc_T), ∃ (g_' : mg_T), r_ = none ∧ k_ = (md_cs (s_') z_' g_') ∧ ab_R E_X3_evens P_X3_evens Q 43 [some (.inr (.inl (some 0))), some (.inl rt), some (.inl c), none] [] (md_cs (s_') z_' g_')))  : ab_R E_X3_evens P_X3_evens Q 37 [some (.inr (.inl (some 0))), some (.inl rt), some (.inl c), none] [] (md_cs s_ z_ g_) :=
  ab_R.steps [4, 7, 37, 43, 51, 93, 100, 149] 5 (show ab_cl sp_X3_parts [.inr (.inl (some 0)), .inl c, .inl rt] (md_cs s_ z_ g_) (fun r_ k_ => k_.length = ((md_cs s_ z_ g_)).length → ab_R E_X3_evens P_X3_evens Q 43 [some (.inr (.inl (some 0))), some (.inl rt), some (.inl c), none] (ab_ret r_ []) k_) from ⟨_, l1, fun r_ k_ hz _ => by obtain ⟨s_', z_', g_', rfl, rfl, hR⟩ := hz; exact hR⟩)
set_option maxRecDepth 100000 in
theorem b_X3_evens_43 {Q : ab_Q} {rt : Int} {c : Int} {s_ : Int → Int} {z_ : mc_T} {g_ : mg_T} (l1 : ab_R E_X3_evens P_X3_evens Q 7 [some (.inr (.inl (some 0))), some (.inl rt), some (.inl (c + 1)), none] [] (md_cs s_ z_ g_))  : ab_R E_X3_evens P_X3_evens Q 43 [some (.inr (.inl (some 0))), some (.inl rt), some (.inl c), none] [] (md_cs s_ z_ g_) :=
  ab_R.steps [4, 7, 37, 43, 51, 93, 100, 149] 4 (show ab_R E_X3_evens P_X3_evens Q 7 [some (.inr (.inl (some 0))), some (.inl rt), some (.inl (c + 1)), none] [] (md_cs s_ z_ g_) from l1)
set_option maxRecDepth 100000 in
theorem b_X3_evens_51 {Q : ab_Q} {rt : Int} {c : Int} {s_ : Int → Int} {z_ : mc_T} {g_ : mg_T} (l1 : ((s_ 1) - 1) ≤ c → Q none (md_cs s_ z_ g_)) (l2 : c < ((s_ 1) - 1) → rt < ((s_ (63 + c)) + (s_ ((63 + c) + 1))) → ab_R E_X3_evens P_X3_evens Q 51 [some (.inr (.inl (some 0))), some (.inl rt), some (.inl (c + 1)), none] [] (md_cs s_ z_ g_)) (l3 : c < ((s_ 1) - 1) → ((s_ (63 + c)) + (s_ ((63 + c) + 1))) ≤ rt → sp_X3_carries [.inr (.inl (some 0)), .inl c] (md_cs s_ z_ g_) (fun r_ k_ => ∃ (s_' : Int → Int), ∃ (z_' : mc_T), ∃ (g_' : mg_T), r_ = none ∧ k_ = (md_cs (s_') z_' g_') ∧ ab_R E_X3_evens P_X3_evens Q 93 [some (.inr (.inl (some 0))), some (.inl rt), some (.inl c), none] [] (md_cs (s_') z_' g_'))) (p1 : (0 ≤ (1 : Int) ∧ (1 : Int) < 255) := by intros; (try unfold ab_r); omega) (p2 : (ab_r c ∧ ab_r ((s_ 1) - 1)) := by intros; (try unfold ab_r); omega) (p3 : c < ((s_ 1) - 1) → (0 ≤ (63 + c) ∧ (63 + c) < 255) := by intros; (try unfold ab_r); omega) (p4 : c < ((s_ 1) - 1) → (0 ≤ ((63 + c) + 1) ∧ ((63 + c) + 1) < 255) := by intros; (try unfold ab_r); omega) (p5 : c < ((s_ 1) - 1) → (ab_r ((s_ (63 + c)) + (s_ ((63 + c) + 1))) ∧ ab_r rt) := by intros; (try unfold ab_r); omega) : ab_R E_X3_evens P_X3_evens Q 51 [some (.inr (.inl (some 0))), some (.inl rt), some (.inl c), none] [] (md_cs s_ z_ g_) :=
  ab_R.steps [4, 7, 37, 43, 51, 93, 100, 149] 29 (show ((0 ≤ (1 : Int) ∧ (1 : Int) < 255) ∧ ((ab_r c ∧ ab_r ((s_ 1) - 1)) ∧ ((((s_ 1) - 1) ≤ c → Q none (md_cs s_ z_ g_)) ∧ (c < ((s_ 1) - 1) → ((0 ≤ (63 + c) ∧ (63 + c) < 255) ∧ ((0 ≤ ((63 + c) + 1) ∧ ((63 + c) + 1) < 255) ∧ ((ab_r ((s_ (63 + c)) + (s_ ((63 + c) + 1))) ∧ ab_r rt) ∧ ((rt < ((s_ (63 + c)) + (s_ ((63 + c) + 1))) → ab_R E_X3_evens P_X3_evens Q 51 [some (.inr (.inl (some 0))), some (.inl rt), some (.inl (c + 1)), none] [] (md_cs s_ z_ g_)) ∧ (((s_ (63 + c)) + (s_ ((63 + c) + 1))) ≤ rt → ab_cl sp_X3_carries [.inr (.inl (some 0)), .inl c] (md_cs s_ z_ g_) (fun r_ k_ => k_.length = ((md_cs s_ z_ g_)).length → ab_R E_X3_evens P_X3_evens Q 93 [some (.inr (.inl (some 0))), some (.inl rt), some (.inl c), none] (ab_ret r_ []) k_)))))))))) from ⟨p1, ⟨p2, ⟨fun h1 => (l1 h1), fun h2 => ⟨(p3 h2), ⟨(p4 h2), ⟨(p5 h2), ⟨fun h3 => (l2 h2 h3), fun h4 => ⟨_, (l3 h2 h4), fun r_ k_ hz _ => by obtain ⟨s_', z_', g_', rfl, rfl, hR⟩ := hz; exact hR⟩⟩⟩⟩⟩⟩⟩⟩)
set_option maxRecDepth 100000 in
theorem b_X3_evens_93 {Q : ab_Q} {rt : Int} {c : Int} {s_ : Int → Int} {z_ : mc_T} {g_ : mg_T} (l1 : sp_X3_carries [.inr (.inl (some 0)), .inl (c + 1)] (md_cs s_ z_ g_) (fun r_ k_ => ∃ (s_' : Int → Int), ∃ (z_' : mc_T), ∃ (g_' : mg_T), r_ = none ∧ k_ = (md_cs (s_') z_' g_') ∧ ab_R E_X3_evens P_X3_evens Q 100 [some (.inr (.inl (some 0))), some (.inl rt), some (.inl c), none] [] (md_cs (s_') z_' g_')))  : ab_R E_X3_evens P_X3_evens Q 93 [some (.inr (.inl (some 0))), some (.inl rt), some (.inl c), none] [] (md_cs s_ z_ g_) :=
  ab_R.steps [4, 7, 37, 43, 51, 93, 100, 149] 6 (show ab_cl sp_X3_carries [.inr (.inl (some 0)), .inl (c + 1)] (md_cs s_ z_ g_) (fun r_ k_ => k_.length = ((md_cs s_ z_ g_)).length → ab_R E_X3_evens P_X3_evens Q 100 [some (.inr (.inl (some 0))), some (.inl rt), some (.inl c), none] (ab_ret r_ []) k_) from ⟨_, l1, fun r_ k_ hz _ => by obtain ⟨s_', z_', g_', rfl, rfl, hR⟩ := hz; exact hR⟩)
set_option maxRecDepth 100000 in
theorem b_X3_evens_100 {Q : ab_Q} {rt : Int} {c : Int} {s_ : Int → Int} {z_ : mc_T} {g_ : mg_T} (l1 : sp_X3_closes [.inr (.inl (some 0)), .inl (c + 1)] (md_cs ((ab_up s_ 2 ((s_ 2) + (s_ ((63 + c) + 1))))) z_ g_) (fun r_ k_ => ∃ (s_' : Int → Int), ∃ (z_' : mc_T), ∃ (g_' : mg_T), r_ = none ∧ k_ = (md_cs (s_') z_' g_') ∧ ab_R E_X3_evens P_X3_evens Q 149 [some (.inr (.inl (some 0))), some (.inl rt), some (.inl c), some (.inl (((ab_up s_ 2 ((s_ 2) + (s_ ((63 + c) + 1)))) (63 + c)) + ((ab_up s_ 2 ((s_ 2) + (s_ ((63 + c) + 1)))) ((63 + c) + 1))))] [] (md_cs (s_') z_' g_'))) (p1 : (0 ≤ (2 : Int) ∧ (2 : Int) < 255) := by intros; (try unfold ab_r); omega) (p2 : (0 ≤ ((63 + c) + 1) ∧ ((63 + c) + 1) < 255) := by intros; (try unfold ab_r); omega) (p3 : (0 ≤ (63 + c) ∧ (63 + c) < 255) := by intros; (try unfold ab_r); omega) : ab_R E_X3_evens P_X3_evens Q 100 [some (.inr (.inl (some 0))), some (.inl rt), some (.inl c), none] [] (md_cs s_ z_ g_) :=
  ab_R.steps [4, 7, 37, 43, 51, 93, 100, 149] 37 (show ((0 ≤ (2 : Int) ∧ (2 : Int) < 255) ∧ ((0 ≤ ((63 + c) + 1) ∧ ((63 + c) + 1) < 255) ∧ ((0 ≤ (2 : Int) ∧ (2 : Int) < 255) ∧ ((0 ≤ (63 + c) ∧ (63 + c) < 255) ∧ ((0 ≤ ((63 + c) + 1) ∧ ((63 + c) + 1) < 255) ∧ ab_cl sp_X3_closes [.inr (.inl (some 0)), .inl (c + 1)] (md_cs ((ab_up s_ 2 ((s_ 2) + (s_ ((63 + c) + 1))))) z_ g_) (fun r_ k_ => k_.length = ((md_cs ((ab_up s_ 2 ((s_ 2) + (s_ ((63 + c) + 1))))) z_ g_)).length → ab_R E_X3_evens P_X3_evens Q 149 [some (.inr (.inl (some 0))), some (.inl rt), some (.inl c), some (.inl (((ab_up s_ 2 ((s_ 2) + (s_ ((63 + c) + 1)))) (63 + c)) + ((ab_up s_ 2 ((s_ 2) + (s_ ((63 + c) + 1)))) ((63 + c) + 1))))] (ab_ret r_ []) k_)))))) from ⟨p1, ⟨p2, ⟨p1, ⟨p3, ⟨p2, ⟨_, l1, fun r_ k_ hz _ => by obtain ⟨s_', z_', g_', rfl, rfl, hR⟩ := hz; exact hR⟩⟩⟩⟩⟩⟩)
set_option maxRecDepth 100000 in
theorem b_X3_evens_149 {Q : ab_Q} {rt : Int} {c : Int} {bo : Int} {s_ : Int → Int} {z_ : mc_T} {g_ : mg_T} (l1 : ab_R E_X3_evens P_X3_evens Q 51 [some (.inr (.inl (some 0))), some (.inl rt), some (.inl c), none] [] (md_cs ((ab_up s_ (63 + c) bo)) z_ g_)) (p1 : (0 ≤ (63 + c) ∧ (63 + c) < 255) := by intros; (try unfold ab_r); omega) : ab_R E_X3_evens P_X3_evens Q 149 [some (.inr (.inl (some 0))), some (.inl rt), some (.inl c), some (.inl bo)] [] (md_cs s_ z_ g_) :=
  ab_R.steps [4, 7, 37, 43, 51, 93, 100, 149] 10 (show ((0 ≤ (63 + c) ∧ (63 + c) < 255) ∧ ab_R E_X3_evens P_X3_evens Q 51 [some (.inr (.inl (some 0))), some (.inl rt), some (.inl c), some (.inl bo)] [] (md_cs ((ab_up s_ (63 + c) bo)) z_ g_)) from ⟨p1, (ab_R.fg 3 rfl l1)⟩)
theorem mq_al_snoc {f : Int → Int} {X : List Int} {x n : Int} (h : mq_al f X) (hn : n = X.length) : mq_al (ab_up f n x) (X ++ [x]) :=
  mq_al_app.mpr ⟨h.eq (fun i hi => ab_up_ne (by omega)), fun i y hy => by
    match i with
    | 0 =>
      have := Option.some.inj hy
      show ab_up f n x ((X.length : Int) + ((0 : Nat) : Int)) = y
      rw [ab_up_eq (by omega)]; exact this
    | i + 1 => cases hy⟩
theorem vc_X3_reorders {av : List ab_V} {cs : List ab_C} {Q : ab_Q} (h : sp_X3_reorders av cs Q) : (ab_lv0 av).length ≤ 6 ∧ ab_R E_X3_reorders P_X3_reorders Q 0 (ab_ent av 6) [] cs := by
  obtain ⟨s, od, nk, nl, nt, ns, g, q, q', rfl, rfl, hR, hW, hl, hfl, hod, hQ⟩ := h
  refine ⟨Nat.le_of_ble_eq_true rfl, ?_⟩
  have hcl := hW.chunks
  have hf := hW.2
  have hs1 : s 1 = (q.length : Nat) := hR.2.2.2.2.2
  -- the rows of chunks are laid
  have third : ∀ (nk nl nt ns : Int → Int) (to : Int), to = (mq_flat q').length → mq_al nk (mq_flat q') → mq_al nl (q'.map mq_len) → mq_al nt (q'.map (fun k => k.2.1)) → mq_al ns (q'.map (fun k => k.2.2)) →
      ∀ (m : Nat) (k : Int) (s' : Int → Int), q.length - k = m → 0 ≤ k → (∀ j : Int, s' j = if 3 ≤ j ∧ j < 3 + to then nk (j - 3) else if 63 ≤ j ∧ j < 63 + k then nl (j - 63) else if 127 ≤ j ∧ j < 127 + k then nt (j - 127) else if 191 ≤ j ∧ j < 191 + k then ns (j - 191) else s j) →
      ab_R E_X3_reorders P_X3_reorders Q 153 [some (.inr (.inl (some 0))), some (.inl to), some (.inl k), none, none, none] [] (md_cs s' (od, nk, nl, nt, ns) g) := by
    intro nk nl nt ns to t0 t1 t2 t3 t4 m
    induction m with
    | zero =>
      intro k s' g1 g2 g3
      have o1 : s' 1 = s 1 := by rw [g3, if_neg (by omega), if_neg (by omega), if_neg (by omega), if_neg (by omega)]
      have o0 : s' 0 = s 0 := by rw [g3, if_neg (by omega), if_neg (by omega), if_neg (by omega), if_neg (by omega)]
      have o2 : s' 2 = s 2 := by rw [g3, if_neg (by omega), if_neg (by omega), if_neg (by omega), if_neg (by omega)]
      refine b_X3_reorders_153 (fun _ => hQ _ _ ⟨?_, ?_, ?_, ?_, ?_, ?_⟩ o2) (fun _ => by omega)
      · refine t1.eq (fun i hi => ?_)
        show s' (3 + (i : Int)) = _
        rw [g3, if_pos (by omega)]; congr 1; omega
      · refine t2.eq (fun i hi => ?_)
        rw [List.length_map] at hi
        show s' (63 + (i : Int)) = _
        rw [g3, if_neg (by omega), if_pos (by omega)]; congr 1; omega
      · refine t3.eq (fun i hi => ?_)
        rw [List.length_map] at hi
        show s' (127 + (i : Int)) = _
        rw [g3, if_neg (by omega), if_neg (by omega), if_pos (by omega)]; congr 1; omega
      · refine t4.eq (fun i hi => ?_)
        rw [List.length_map] at hi
        show s' (191 + (i : Int)) = _
        rw [g3, if_neg (by omega), if_neg (by omega), if_neg (by omega), if_pos (by omega)]; congr 1; omega
      · show s' 0 = _
        rw [o0, hfl]; exact hR.2.2.2.2.1
      · show s' 1 = _
        rw [o1, hl]; exact hs1
    | succ m ih =>
      intro k s' g1 g2 g3
      have o1 : s' 1 = s 1 := by rw [g3, if_neg (by omega), if_neg (by omega), if_neg (by omega), if_neg (by omega)]
      refine b_X3_reorders_153 (fun _ => by omega) (fun _ => ih (k + 1) _ (by omega) (by omega) (fun j => ?_))
      by_cases y1 : j = 191 + k
      · rw [ab_up_eq y1, if_neg (by omega), if_neg (by omega), if_neg (by omega), if_pos (by omega)]; congr 1; omega
      · rw [ab_up_ne y1]
        by_cases y2 : j = 127 + k
        · rw [ab_up_eq y2, if_neg (by omega), if_neg (by omega), if_pos (by omega)]; congr 1; omega
        · rw [ab_up_ne y2]
          by_cases y3 : j = 63 + k
          · rw [ab_up_eq y3, if_neg (by omega), if_pos (by omega)]; congr 1; omega
          · rw [ab_up_ne y3, g3]
            by_cases z1 : 3 ≤ j ∧ j < 3 + to
            · rw [if_pos z1, if_pos z1]
            · rw [if_neg z1, if_neg z1]
              by_cases z2 : 63 ≤ j ∧ j < 63 + k
              · rw [if_pos z2, if_pos (show 63 ≤ j ∧ j < 63 + (k + 1) by omega)]
              · rw [if_neg z2, if_neg (show ¬ (63 ≤ j ∧ j < 63 + (k + 1)) by omega)]
                by_cases z3 : 127 ≤ j ∧ j < 127 + k
                · rw [if_pos z3, if_pos (show 127 ≤ j ∧ j < 127 + (k + 1) by omega)]
                · rw [if_neg z3, if_neg (show ¬ (127 ≤ j ∧ j < 127 + (k + 1)) by omega)]
                  by_cases z4 : 191 ≤ j ∧ j < 191 + k
                  · rw [if_pos z4, if_pos (show 191 ≤ j ∧ j < 191 + (k + 1) by omega)]
                  · rw [if_neg z4, if_neg (show ¬ (191 ≤ j ∧ j < 191 + (k + 1)) by omega)]
  have second : ∀ (nk nl nt ns : Int → Int) (to : Int), to = (mq_flat q').length → mq_al nk (mq_flat q') → mq_al nl (q'.map mq_len) → mq_al nt (q'.map (fun k => k.2.1)) → mq_al ns (q'.map (fun k => k.2.2)) →
      ∀ (m : Nat) (k : Int) (s' : Int → Int), to - k = m → 0 ≤ k → (∀ j : Int, s' j = if 3 ≤ j ∧ j < 3 + k then nk (j - 3) else s j) →
      ab_R E_X3_reorders P_X3_reorders Q 126 [some (.inr (.inl (some 0))), some (.inl to), some (.inl k), none, none, none] [] (md_cs s' (od, nk, nl, nt, ns) g) := by
    intro nk nl nt ns to t0 t1 t2 t3 t4 m
    induction m with
    | zero =>
      intro k s' g1 g2 g3
      refine b_X3_reorders_126 (fun _ => third nk nl nt ns to t0 t1 t2 t3 t4 q.length 0 s' (by omega) (by omega) (fun j => ?_)) (fun _ => by omega)
      rw [g3, if_neg (show ¬ (63 ≤ j ∧ j < 63 + 0) by omega), if_neg (show ¬ (127 ≤ j ∧ j < 127 + 0) by omega), if_neg (show ¬ (191 ≤ j ∧ j < 191 + 0) by omega), show to = k by omega]
    | succ m ih =>
      intro k s' g1 g2 g3
      refine b_X3_reorders_126 (fun _ => by omega) (fun _ => ih (k + 1) _ (by omega) (by omega) (fun j => ?_))
      by_cases y : j = 3 + k
      · rw [ab_up_eq y, if_pos (by omega)]; congr 1; omega
      · rw [ab_up_ne y, g3]
        by_cases z : 3 ≤ j ∧ j < 3 + k
        · rw [if_pos z, if_pos (by omega)]
        · rw [if_neg z, if_neg (by omega)]
  have first : ∀ (B A : List mq_K) (nk nl nt ns : Int → Int) (to k : Int), q' = A ++ B → k = A.length → to = (mq_flat A).length → mq_al nk (mq_flat A) → mq_al nl (A.map mq_len) → mq_al nt (A.map (fun k => k.2.1)) → mq_al ns (A.map (fun k => k.2.2)) →
      ab_R E_X3_reorders P_X3_reorders Q 4 [some (.inr (.inl (some 0))), some (.inl to), some (.inl k), none, none, none] [] (md_cs s (od, nk, nl, nt, ns) g) := by
    intro B
    induction B with
    | nil =>
      intro A nk nl nt ns to k g1 g2 g3 t1 t2 t3 t4
      rw [List.append_nil] at g1; subst g1
      exact b_X3_reorders_4 (fun _ => second nk nl nt ns to g3 t1 t2 t3 t4 to.toNat 0 s (by omega) (by omega) (fun j => by rw [if_neg (by omega)])) (fun _ => by omega)
    | cons kk B ih =>
      intro A nk nl nt ns to k g1 g2 g3 t1 t2 t3 t4
      have hlen : A.length + (B.length + 1) = q.length := by rw [← hl, g1]; simp
      obtain ⟨c, c1, c2, c3⟩ := hod A.length (by omega)
      rw [g1, mq_at_app] at c3
      have c3 := c3.symm
      rw [← g2] at c1
      refine b_X3_reorders_4 (fun _ => by omega) (fun _ => ⟨_, _, _, q, c, _, rfl, rfl, hR, hW, c1, by omega, _, rfl, rfl, ?_⟩)
      refine b_X3_reorders_26 ?_
      rw [c1]
      have e1 : s (63 + (c : Int)) = _ := hR.len c3
      have e2 : s (127 + (c : Int)) = _ := hR.turn c3
      have e3 : s (191 + (c : Int)) = _ := hR.sum c3
      have hk1 := mq_take_succ c3
      have hk2 := mq_take_le q (c + 1)
      obtain ⟨k2, k3, k4⟩ := mq_split c2
      have : k2 = kk := by rw [k3] at c3; exact Option.some.inj c3
      subst this
      have hft : (mq_flat A).length + k2.1.length ≤ 60 := by
        have : (mq_flat q').length = (mq_flat A).length + (k2.1.length + (mq_flat B).length) := by rw [g1, mq_flat_mid]; simp
        omega
      have hk : ∀ (j : Nat) (x : Int), k2.1[j]? = some x → s (3 + (((mq_flat (q.take c)).length + j : Nat) : Int)) = x := fun j x hj => by
        have h0 := hR
        rw [k4] at h0
        exact h0.kept hj
      have inner : ∀ (m : Nat) (i to' : Int) (nk' : Int → Int), k2.1.length - i = m → 0 ≤ i → to' = (mq_flat A).length + i → mq_al nk' (mq_flat A ++ k2.1.take i.toNat) →
          ab_R E_X3_reorders P_X3_reorders Q 31 [some (.inr (.inl (some 0))), some (.inl to'), some (.inl k), some (.inl (c : Int)), some (.inl ((mq_flat (q.take c)).length : Int)), some (.inl i)] [] (md_cs s (od, nk', nl, nt, ns) g) := by
        intro m
        induction m with
        | zero =>
          intro i to' nk' q1 q2 q3 q4
          refine b_X3_reorders_31 (fun _ => ?_) (fun _ => by omega)
          rw [List.take_of_length_le (by omega)] at q4
          refine ih (A ++ [k2]) nk' _ _ _ _ _ (by simpa using g1) (by simp; omega) ?_ ?_ ?_ ?_ ?_
          · rw [mq_flat_app, mq_flat_cons]; simp [mq_flat]; simp [mq_flat] at q3; omega
          · rw [mq_flat_app, mq_flat_cons]; simpa [mq_flat] using q4
          · rw [List.map_append, e1]; exact mq_al_snoc t2 (by simp; omega)
          · rw [List.map_append, e2]; exact mq_al_snoc t3 (by simp; omega)
          · rw [List.map_append, e3]; exact mq_al_snoc t4 (by simp; omega)
        | succ m ihm =>
          intro i to' nk' q1 q2 q3 q4
          have hj : i.toNat < k2.1.length := by omega
          have hx : k2.1[i.toNat]? = some k2.1[i.toNat] := List.getElem?_eq_getElem hj
          refine b_X3_reorders_31 (fun _ => by omega) (fun _ => ihm (i + 1) _ _ (by omega) (by omega) (by omega) ?_)
          have hv := hk _ _ hx
          rw [show 3 + (((mq_flat (q.take c)).length + i.toNat : Nat) : Int) = 3 + ((mq_flat (q.take c)).length : Int) + i by omega] at hv
          rw [hv, show (i + 1).toNat = i.toNat + 1 by omega, List.take_succ, hx, ← List.append_assoc]
          exact mq_al_snoc q4 (by rw [List.length_append, List.length_take]; omega)
      exact inner k2.1.length 0 to nk (by omega) (by omega) (by omega) (by simpa using t1)
  exact b_X3_reorders_0 (first q' [] nk nl nt ns 0 0 rfl rfl rfl (mq_al_nil _) (mq_al_nil _) (mq_al_nil _) (mq_al_nil _))
theorem mt_X3_reorders (l : Launch) : ab_MT l mi_X3_reorders sp_X3_reorders := ab_MT.of (own := "RootChunksModel") (E := E_X3_reorders) (P := P_X3_reorders) (M := M_X3_reorders) (nL := 6) (ty := 9) (by decide) rfl rfl tk_X3 pk_X3_reorders ck_X3_reorders (ab_CT'.cons (mt_X3_startOf l) ab_CT'.nil) (fun av cs Q h => vc_X3_reorders h)
theorem vc_X3_evens {av : List ab_V} {cs : List ab_C} {Q : ab_Q} (h : sp_X3_evens av cs Q) : (ab_lv0 av).length ≤ 4 ∧ ab_R E_X3_evens P_X3_evens Q 0 (ab_ent av 4) [] cs := by
  obtain ⟨s, z, g, q, rfl, rfl, hR, hW, hQ⟩ := h
  refine ⟨Nat.le_of_ble_eq_true rfl, ?_⟩
  have hrt := mq_rt_in (mq_flat q).length
  refine b_X3_evens_0 ⟨_, _, _, q, rfl, rfl, hR, hW, _, rfl, rfl, ?_⟩
  refine b_X3_evens_4 ?_
  have hev : mq_ev q = ((mq_js (mq_rt (mq_flat q).length) (mq_pt (mq_rt (mq_flat q).length) 60 q).1).1, (mq_pt (mq_rt (mq_flat q).length) 60 q).2 + (mq_js (mq_rt (mq_flat q).length) (mq_pt (mq_rt (mq_flat q).length) 60 q).1).2) := rfl
  rw [hev] at hQ
  clear hev
  generalize mq_rt (mq_flat q).length = t at hrt hQ ⊢
  generalize hx : (t : Int) = x
  have part : ∀ (m : Nat) (A B : List mq_K) (s1 : Int → Int) (z1 : mc_T) (c : Int), m + A.length = 60 → mq_R (md_v s1) (A ++ B) → mq_W (A ++ B) → c = A.length →
      (∀ (s' : Int → Int) (z' : mc_T), mq_R (md_v s') (A ++ (mq_pt t m B).1) → s' 2 = s1 2 + (mq_pt t m B).2 → ab_R E_X3_evens P_X3_evens Q 51 [some (.inr (.inl (some 0))), some (.inl x), some (.inl 0), none] [] (md_cs s' z' g)) →
      ab_R E_X3_evens P_X3_evens Q 7 [some (.inr (.inl (some 0))), some (.inl x), some (.inl c), none] [] (md_cs s1 z1 g) := by
    intro m
    induction m with
    | zero =>
      intro A B s1 z1 c g0 g1 g2 g3 g5
      have hcc : s1 1 = ((A ++ B).length : Nat) := g1.2.2.2.2.2
      have hcl := g2.chunks
      refine b_X3_evens_7 (fun _ => g5 _ _ g1 ?_) (fun _ _ => by omega) (fun _ _ => by omega) (p3 := fun _ => by omega) (p4 := fun _ => by omega)
      show s1 2 = s1 2 + 0; omega
    | succ m ih =>
      intro A B s1 z1 c g0 g1 g2 g3 g5
      have hcc : s1 1 = ((A ++ B).length : Nat) := g1.2.2.2.2.2
      have hcl := g2.chunks
      have hfl := g2.2
      rw [List.length_append] at hcc hcl
      cases B with
      | nil =>
        rw [List.length_nil] at hcc
        refine b_X3_evens_7 (fun _ => g5 _ _ g1 ?_) (fun _ _ => by omega) (fun _ _ => by omega) (p3 := fun _ => by omega) (p4 := fun _ => by omega)
        show s1 2 = s1 2 + 0; omega
      | cons k B =>
        rw [List.length_cons] at hcc hcl
        have e1 : s1 (63 + (A.length : Int)) = _ := g1.len (mq_at_app A k B)
        rw [← g3] at e1
        rw [mq_flat_mid, List.length_append, List.length_append] at hfl
        refine b_X3_evens_7 (fun _ => by omega) (fun _ hs => ?_) (fun _ hs => ?_)
        · refine b_X3_evens_43 (ih (A ++ [k]) B _ _ _ (by simp; omega) (by simpa using g1) (by simpa using g2) (by simp; omega) (fun s' z' q1 q2 => g5 s' z' ?_ ?_))
          · unfold mq_pt
            rw [if_neg (by omega)]
            simpa using q1
          · unfold mq_pt
            rw [if_neg (by omega)]
            exact q2
        · refine ⟨_, _, _, A, k, B, _, rfl, rfl, g1, g2, g3, fun s2 z2 hr2 hw2 => ⟨s2, z2, g, rfl, rfl, ?_⟩⟩
          have W2 := mq_W_settle g2
          refine b_X3_evens_37 ⟨_, _, _, A, mq_row k, B, t, _, _, rfl, rfl, hr2, W2, g3, hx.symm, by omega, by rw [mq_row_len]; omega, fun s3 hr3 hw3 => ⟨s3, z2, g, rfl, rfl, ?_⟩⟩
          have W3 := mq_W_part (f := t) W2 (by omega) (by rw [mq_row_len]; omega)
          rw [mq_row_len] at hw3
          refine b_X3_evens_43 (ih (A ++ [((mq_row k).take t, 0, 0)]) (((mq_row k).drop t, 0, 0) :: B) _ _ _ (by simp; omega) (by simpa using hr3) (by simpa using W3) (by simp; omega) (fun s' z' q1 q2 => g5 s' z' ?_ ?_))
          · unfold mq_pt
            rw [if_pos (by omega)]
            simpa using q1
          · unfold mq_pt
            rw [if_pos (by omega)]
            dsimp only at q2 ⊢
            omega
  have join : ∀ (B A : List mq_K) (k : mq_K) (s1 : Int → Int) (z1 : mc_T) (c : Int), mq_R (md_v s1) (A ++ k :: B) → mq_W (A ++ k :: B) → c = A.length →
      (∀ (s' : Int → Int) (z' : mc_T), mq_R (md_v s') (A ++ (mq_jn t k B).1) → s' 2 = s1 2 + (mq_jn t k B).2 → Q none (md_cs s' z' g)) →
      ab_R E_X3_evens P_X3_evens Q 51 [some (.inr (.inl (some 0))), some (.inl x), some (.inl c), none] [] (md_cs s1 z1 g) := by
    intro B
    induction B with
    | nil =>
      intro A k s1 z1 c g1 g2 g3 g5
      have hcc : s1 1 = ((A ++ [k]).length : Nat) := g1.2.2.2.2.2
      have hcl := g2.chunks
      rw [List.length_append] at hcc hcl
      simp at hcc hcl
      refine b_X3_evens_51 (fun _ => g5 _ _ g1 ?_) (fun _ _ => by omega) (fun _ _ => by omega) (p3 := fun _ => by omega) (p4 := fun _ => by omega) (p5 := fun _ => by omega)
      show s1 2 = s1 2 + 0; omega
    | cons k2 B ih =>
      intro A k s1 z1 c g1 g2 g3 g5
      have hcc : s1 1 = ((A ++ k :: k2 :: B).length : Nat) := g1.2.2.2.2.2
      have hcl := g2.chunks
      have hfl := g2.2
      rw [List.length_append] at hcc hcl
      rw [List.length_cons, List.length_cons] at hcc hcl
      rw [mq_flat_mid, mq_flat_cons, List.length_append, List.length_append, List.length_append] at hfl
      have e1 : s1 (63 + (A.length : Int)) = _ := g1.len (mq_at_app A k (k2 :: B))
      have e2 : s1 (63 + ((A.length + 1 : Nat) : Int)) = _ := g1.len (c := A.length + 1) (k := k2) (by rw [List.getElem?_append_right (by omega), show A.length + 1 - A.length = 1 by omega]; rfl)
      rw [← g3] at e1
      rw [show 63 + (((A.length + 1 : Nat)) : Int) = 63 + c + 1 by omega] at e2
      refine b_X3_evens_51 (fun _ => by omega) (fun _ hs => ?_) (fun _ hs => ?_)
      · refine ih (A ++ [k]) k2 _ _ _ (by simpa using g1) (by simpa using g2) (by simp; omega) (fun s' z' q1 q2 => g5 s' z' ?_ ?_)
        · unfold mq_jn
          rw [if_neg (by omega)]
          simpa using q1
        · unfold mq_jn
          rw [if_neg (by omega)]
          exact q2
      · refine ⟨_, _, _, A, k, k2 :: B, _, rfl, rfl, g1, g2, g3, fun s2 z2 hr2 hw2 => ⟨s2, z2, g, rfl, rfl, ?_⟩⟩
        have W2 := mq_W_settle g2
        have hr2' : mq_R (md_v s2) ((A ++ [(mq_row k, 0, 0)]) ++ k2 :: B) := by simpa using hr2
        have W2' : mq_W ((A ++ [(mq_row k, 0, 0)]) ++ k2 :: B) := by simpa using W2
        refine b_X3_evens_93 ⟨_, _, _, A ++ [(mq_row k, 0, 0)], k2, B, _, rfl, rfl, hr2', W2', by simp; omega, fun s3 z3 hr3 hw3 => ⟨s3, z3, g, rfl, rfl, ?_⟩⟩
        have W3 := mq_W_settle W2'
        have hr3' : mq_R (md_v s3) (A ++ (mq_row k, 0, 0) :: (mq_row k2, 0, 0) :: B) := by simpa using hr3
        have W3' : mq_W (A ++ (mq_row k, 0, 0) :: (mq_row k2, 0, 0) :: B) := by simpa using W3
        have hc3 : s3 1 = ((A ++ (mq_row k, 0, 0) :: (mq_row k2, 0, 0) :: B).length : Nat) := hr3'.2.2.2.2.2
        rw [List.length_append] at hc3
        rw [List.length_cons, List.length_cons] at hc3
        have e4 : s3 (63 + (A.length : Int)) = _ := hr3'.len (mq_at_app A _ _)
        have e5 : s3 (63 + ((A.length + 1 : Nat) : Int)) = _ := hr3'.len (c := A.length + 1) (k := (mq_row k2, 0, 0)) (by rw [List.getElem?_append_right (by omega), show A.length + 1 - A.length = 1 by omega]; rfl)
        rw [← g3, mq_row_len] at e4
        rw [show 63 + (((A.length + 1 : Nat)) : Int) = 63 + c + 1 by omega, mq_row_len] at e5
        refine b_X3_evens_100 ⟨_, _, _, _, rfl, rfl, by omega, ?_, ?_, fun s4 f0 f1 f2 f3 f4 => ⟨s4, z3, g, rfl, rfl, ?_⟩⟩
        · rw [ab_up_ne (by omega)]; omega
        · rw [ab_up_ne (by omega)]; omega
        rw [ab_up_ne (show (63 : Int) + c ≠ 2 by omega), ab_up_ne (show (63 : Int) + c + 1 ≠ 2 by omega)]
        rw [ab_up_ne (show (0 : Int) ≠ 2 by omega)] at f0
        rw [ab_up_ne (show (1 : Int) ≠ 2 by omega)] at f1 f4
        rw [ab_up_eq rfl] at f2
        have W4 : mq_W (A ++ (mq_row k ++ mq_row k2, 0, 0) :: B) := by
          have o1 := g2.1 k (by simp)
          have o2 := g2.1 k2 (by simp)
          refine mq_W_all g2 (fun y hy => ?_) ?_
          · rcases List.mem_append.mp hy with hy | hy
            · exact g2.1 y (List.mem_append_left _ hy)
            · rcases List.mem_cons.mp hy with rfl | hy
              · refine mq_ok_done (by rw [List.length_append, mq_row_len, mq_row_len]; have := o1.1; omega) (fun z hz => ?_)
                rcases List.mem_append.mp hz with hz | hz
                · exact o1.2.2.2 z hz
                · exact o2.2.2.2 z hz
              · exact g2.1 y (by simp [hy])
          · rw [mq_all_app, mq_all_app, mq_all_cons, mq_all_cons, mq_all_cons, mq_row_done, List.append_assoc]
        have hj := mq_R_join (w' := 0) hr3'
        rw [mq_row_len, mq_row_len] at hj
        have hj2 : mq_R (md_v (ab_up s4 (63 + c) (s3 (63 + c) + s3 (63 + c + 1)))) (A ++ (mq_row k ++ mq_row k2, 0, 0) :: B) := by
          refine mq_R_ext hj W4 (fun j j1 j2 => ?_) (fun j j1 j2 => ?_) (fun j j1 j2 => ?_) (fun j j1 j2 => ?_) ?_ ?_
          · show ab_up _ _ _ (3 + j) = s3 (3 + j)
            rw [ab_up_ne (by omega), f3 j j1 j2, ab_up_ne (by omega)]
          · simp only [List.length_append, List.length_cons] at j2
            show ab_up _ _ _ (63 + j) = mq_del (ab_up (fun c => s3 (63 + c)) A.length _) (s3 1) (A.length + 1) j
            rw [← g3]
            by_cases y : j = c
            · rw [ab_up_eq (by omega)]
              unfold mq_del
              rw [if_neg (by omega), ab_up_eq y, e4, e5]
            · rw [ab_up_ne (by omega), (f4 j j1 (by omega)).1]
              unfold mq_del
              by_cases y2 : c + 1 ≤ j ∧ j < s3 1 - 1
              · rw [if_pos y2, if_pos y2]; dsimp only; rw [ab_up_ne (by omega), ab_up_ne (by omega)]
              · rw [if_neg y2, if_neg y2]; dsimp only; rw [ab_up_ne (by omega), ab_up_ne (by omega)]
          · simp only [List.length_append, List.length_cons] at j2
            show ab_up _ _ _ (127 + j) = mq_del (fun c => s3 (127 + c)) (s3 1) (A.length + 1) j
            rw [← g3, ab_up_ne (by omega), (f4 j j1 (by omega)).2.1]
            unfold mq_del
            by_cases y2 : c + 1 ≤ j ∧ j < s3 1 - 1
            · rw [if_pos y2, if_pos y2]; dsimp only; rw [ab_up_ne (by omega)]
            · rw [if_neg y2, if_neg y2]; dsimp only; rw [ab_up_ne (by omega)]
          · simp only [List.length_append, List.length_cons] at j2
            show ab_up _ _ _ (191 + j) = mq_del (fun c => s3 (191 + c)) (s3 1) (A.length + 1) j
            rw [← g3, ab_up_ne (by omega), (f4 j j1 (by omega)).2.2]
            unfold mq_del
            by_cases y2 : c + 1 ≤ j ∧ j < s3 1 - 1
            · rw [if_pos y2, if_pos y2]; dsimp only; rw [ab_up_ne (by omega)]
            · rw [if_neg y2, if_neg y2]; dsimp only; rw [ab_up_ne (by omega)]
          · show ab_up _ _ _ 0 = s3 0
            rw [ab_up_ne (by omega), f0]
          · show ab_up _ _ _ 1 = s3 1 - 1
            rw [ab_up_ne (by omega), f1]
        refine b_X3_evens_149 (ih A (mq_row k ++ mq_row k2, 0, 0) _ _ _ hj2 W4 g3 (fun s' z' q1 q2 => g5 s' z' ?_ ?_))
        · unfold mq_jn
          rw [if_pos (by omega)]
          exact q1
        · unfold mq_jn
          rw [if_pos (by omega)]
          rw [ab_up_ne (by omega)] at q2
          dsimp only at q2 ⊢
          omega
  refine part 60 [] q s z 0 rfl hR hW rfl (fun s2 z2 hr2 hw2 => ?_)
  have W2 : mq_W (mq_pt t 60 q).1 := mq_pt_W hrt.1 hW
  rw [List.nil_append] at hr2
  dsimp only at hQ
  have hw3 : ∀ (s' : Int → Int) (z' : mc_T), mq_R (md_v s') (mq_js t (mq_pt t 60 q).1).1 → s' 2 = s2 2 + (mq_js t (mq_pt t 60 q).1).2 → Q none (md_cs s' z' g) := fun s' z' q1 q2 => hQ s' z' q1 (by omega)
  generalize (mq_pt t 60 q).1 = q2 at hr2 W2 hw3
  cases q2 with
  | nil =>
    have hcc : s2 1 = 0 := hr2.2.2.2.2.2
    refine b_X3_evens_51 (fun _ => hw3 _ _ hr2 ?_) (fun _ _ => by omega) (fun _ _ => by omega) (p3 := fun _ => by omega) (p4 := fun _ => by omega) (p5 := fun _ => by omega)
    show s2 2 = s2 2 + 0; omega
  | cons k B => exact join B [] k s2 z2 0 hr2 W2 rfl hw3
theorem mt_X3_evens (l : Launch) : ab_MT l mi_X3_evens sp_X3_evens := ab_MT.of (own := "RootChunksModel") (E := E_X3_evens) (P := P_X3_evens) (M := M_X3_evens) (nL := 4) (ty := 9) (by decide) rfl rfl tk_X3 pk_X3_evens ck_X3_evens (ab_CT'.cons (mt_X3_root l) (ab_CT'.cons (mt_X3_carries l) (ab_CT'.cons (mt_X3_parts l) (ab_CT'.cons (mt_X3_carries l) (ab_CT'.cons (mt_X3_carries l) (ab_CT'.cons (mt_X3_closes l) ab_CT'.nil)))))) (fun av cs Q h => vc_X3_evens h)
