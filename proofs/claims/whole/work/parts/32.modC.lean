/-! THE REFERENCE'S CHANGES -/
def sp_X3_puts : ab_Sp := fun av cs Q => ∃ (s : Int → Int) (z : mc_T) (g : mg_T) (q : List mq_K) (d : Nat) (p v : Int), av = [.inr (.inl (some 0)), .inl p, .inl v] ∧ cs = md_cs s z g ∧ mq_R (md_v s) q ∧ mq_W q ∧ p = d ∧ d ≤ (mq_flat q).length ∧ (mq_flat q).length < 60 ∧ -99999 ≤ v ∧ v ≤ 99999 ∧
  ∀ (s' : Int → Int) (z' : mc_T), mq_R (md_v s') (mq_ev (mq_put q d v).1).1 → s' 2 = s 2 + (mq_put q d v).2 + (mq_ev (mq_put q d v).1).2 → Q none (md_cs s' z' g)
def sp_X3_takes : ab_Sp := fun av cs Q => ∃ (s : Int → Int) (z : mc_T) (g : mg_T) (q : List mq_K) (d : Nat) (p : Int), av = [.inr (.inl (some 0)), .inl p] ∧ cs = md_cs s z g ∧ mq_R (md_v s) q ∧ mq_W q ∧ p = d ∧ d < (mq_flat q).length ∧
  ∀ (s' : Int → Int) (z' : mc_T), mq_R (md_v s') (mq_ev (mq_tak q d).1).1 → s' 2 = s 2 + (mq_tak q d).2 + (mq_ev (mq_tak q d).1).2 → Q none (md_cs s' z' g)
def sp_X3_sets : ab_Sp := fun av cs Q => ∃ (s : Int → Int) (z : mc_T) (g : mg_T) (q : List mq_K) (d : Nat) (p v : Int), av = [.inr (.inl (some 0)), .inl p, .inl v] ∧ cs = md_cs s z g ∧ mq_R (md_v s) q ∧ mq_W q ∧ p = d ∧ d < (mq_flat q).length ∧ -99999 ≤ v ∧ v ≤ 99999 ∧
  ∀ (s' : Int → Int) (z' : mc_T), mq_R (md_v s') (mq_ev (mq_set q d v).1).1 → s' 2 = s 2 + (mq_set q d v).2 + (mq_ev (mq_set q d v).1).2 → Q none (md_cs s' z' g)
-- ===== RootChunksModel.puts
def P_X3_puts : List ab_I := [(0, .aload_n 0, 1, []), (1, .iload_n 1, 2, []), (2, .invokevirtual 79, 5, []), (5, .aload_n 0, 6, []), (6, .iload_n 1, 7, []), (7, .invokevirtual 82, 10, []), (10, .istore_n 3, 11, []), (11, .aload_n 0, 12, []), (12, .getfield 7, 15, []), (15, .iconst 0, 16, []), (16, .iaload, 17, []), (17, .istore 4, 19, []), (19, .iload 4, 21, []), (21, .iload_n 1, 22, []), (22, .if_icmp .le 29, 25, [((0 : Int), 51)]), (25, .aload_n 0, 26, []), (26, .getfield 7, 29, []), (29, .iconst 3, 30, []), (30, .iload 4, 32, []), (32, .iadd, 33, []), (33, .aload_n 0, 34, []), (34, .getfield 7, 37, []), (37, .iconst 3, 38, []), (38, .iload 4, 40, []), (40, .iadd, 41, []), (41, .iconst 1, 42, []), (42, .isub, 43, []), (43, .iaload, 44, []), (44, .iastore, 45, []), (45, .iinc 4 (-1), 48, []), (48, .goto (-29), 51, [((0 : Int), 19)]), (51, .aload_n 0, 52, []), (52, .getfield 7, 55, []), (55, .iconst 1, 56, []), (56, .iaload, 57, []), (57, .istore 4, 59, []), (59, .iload 4, 61, []), (61, .iload_n 3, 62, []), (62, .if_icmp .le 77, 65, [((0 : Int), 139)]), (65, .aload_n 0, 66, []), (66, .getfield 7, 69, []), (69, .bipush 63, 71, []), (71, .iload 4, 73, []), (73, .iadd, 74, []), (74, .aload_n 0, 75, []), (75, .getfield 7, 78, []), (78, .bipush 63, 80, []), (80, .iload 4, 82, []), (82, .iadd, 83, []), (83, .iconst 1, 84, []), (84, .isub, 85, []), (85, .iaload, 86, []), (86, .iastore, 87, []), (87, .aload_n 0, 88, []), (88, .getfield 7, 91, []), (91, .bipush 127, 93, []), (93, .iload 4, 95, []), (95, .iadd, 96, []), (96, .aload_n 0, 97, []), (97, .getfield 7, 100, []), (100, .bipush 127, 102, []), (102, .iload 4, 104, []), (104, .iadd, 105, []), (105, .iconst 1, 106, []), (106, .isub, 107, []), (107, .iaload, 108, []), (108, .iastore, 109, []), (109, .aload_n 0, 110, []), (110, .getfield 7, 113, []), (113, .sipush 191, 116, []), (116, .iload 4, 118, []), (118, .iadd, 119, []), (119, .aload_n 0, 120, []), (120, .getfield 7, 123, []), (123, .sipush 191, 126, []), (126, .iload 4, 128, []), (128, .iadd, 129, []), (129, .iconst 1, 130, []), (130, .isub, 131, []), (131, .iaload, 132, []), (132, .iastore, 133, []), (133, .iinc 4 (-1), 136, []), (136, .goto (-77), 139, [((0 : Int), 59)]), (139, .aload_n 0, 140, []), (140, .getfield 7, 143, []), (143, .iconst 3, 144, []), (144, .iload_n 1, 145, []), (145, .iadd, 146, []), (146, .iload_n 2, 147, []), (147, .iastore, 148, []), (148, .aload_n 0, 149, []), (149, .getfield 7, 152, []), (152, .bipush 63, 154, []), (154, .iload_n 3, 155, []), (155, .iadd, 156, []), (156, .iconst 1, 157, []), (157, .iastore, 158, []), (158, .aload_n 0, 159, []), (159, .getfield 7, 162, []), (162, .bipush 127, 164, []), (164, .iload_n 3, 165, []), (165, .iadd, 166, []), (166, .iconst 0, 167, []), (167, .iastore, 168, []), (168, .aload_n 0, 169, []), (169, .getfield 7, 172, []), (172, .sipush 191, 175, []), (175, .iload_n 3, 176, []), (176, .iadd, 177, []), (177, .iconst 0, 178, []), (178, .iastore, 179, []), (179, .aload_n 0, 180, []), (180, .getfield 7, 183, []), (183, .iconst 1, 184, []), (184, .dup2, 185, []), (185, .iaload, 186, []), (186, .iconst 1, 187, []), (187, .iadd, 188, []), (188, .iastore, 189, []), (189, .aload_n 0, 190, []), (190, .getfield 7, 193, []), (193, .iconst 0, 194, []), (194, .dup2, 195, []), (195, .iaload, 196, []), (196, .iconst 1, 197, []), (197, .iadd, 198, []), (198, .iastore, 199, []), (199, .aload_n 0, 200, []), (200, .getfield 7, 203, []), (203, .iconst 2, 204, []), (204, .dup2, 205, []), (205, .iaload, 206, []), (206, .iconst 1, 207, []), (207, .iadd, 208, []), (208, .iastore, 209, []), (209, .aload_n 0, 210, []), (210, .invokevirtual 85, 213, []), (213, .return_, 214, [])]
def E_X3_puts : ab_E := (T_X3, [(2, (2, 3, [], 0, sp_X3_cuts)), (7, (2, 3, [], 0, sp_X3_chunkFrom)), (210, (1, 3, [], 0, sp_X3_evens))], [], 9)
def M_X3_puts : List (Nat × ab_MI) := [(2, mi_X3_cuts), (7, mi_X3_chunkFrom), (210, mi_X3_evens)]
def mi_X3_puts : ab_MI := (yX3_puts, cX3_puts, 5, ab_rty 9, 5, 164)
theorem pk_X3_puts : P_X3_puts.all (ab_okI cX3_puts) = true := by decide +kernel
theorem ck_X3_puts : P_X3_puts.all (ab_okC1 "RootChunksModel" M_X3_puts E_X3_puts (5, 164)) = true := by decide +kernel
set_option maxRecDepth 100000 in
theorem b_X3_puts_0 {Q : ab_Q} {p : Int} {v : Int} {s_ : Int → Int} {z_ : mc_T} {g_ : mg_T} (l1 : sp_X3_cuts [.inr (.inl (some 0)), .inl p] (md_cs s_ z_ g_) (fun r_ k_ => ∃ (s_' : Int → Int), ∃ (z_' : mc_T), ∃ (g_' : mg_T), r_ = none ∧ k_ = (md_cs (s_') z_' g_') ∧ ab_R E_X3_puts P_X3_puts Q 5 [some (.inr (.inl (some 0))), some (.inl p), some (.inl v), none, none] [] (md_cs (s_') z_' g_')))  : ab_R E_X3_puts P_X3_puts Q 0 [some (.inr (.inl (some 0))), some (.inl p), some (.inl v), none, none] [] (md_cs s_ z_ g_) :=
  ab_R.steps [5, 10, 19, 59, 213] 4 (show ab_cl sp_X3_cuts [.inr (.inl (some 0)), .inl p] (md_cs s_ z_ g_) (fun r_ k_ => k_.length = ((md_cs s_ z_ g_)).length → ab_R E_X3_puts P_X3_puts Q 5 [some (.inr (.inl (some 0))), some (.inl p), some (.inl v), none, none] (ab_ret r_ []) k_) from ⟨_, l1, fun r_ k_ hz _ => by obtain ⟨s_', z_', g_', rfl, rfl, hR⟩ := hz; exact hR⟩)
set_option maxRecDepth 100000 in
theorem b_X3_puts_5 {Q : ab_Q} {p : Int} {v : Int} {s_ : Int → Int} {z_ : mc_T} {g_ : mg_T} (l1 : sp_X3_chunkFrom [.inr (.inl (some 0)), .inl p] (md_cs s_ z_ g_) (fun r_ k_ => ∃ (x_ : Int), r_ = some (.inl x_) ∧ k_ = (md_cs s_ z_ g_) ∧ ab_R E_X3_puts P_X3_puts Q 10 [some (.inr (.inl (some 0))), some (.inl p), some (.inl v), none, none] [.inl x_] (md_cs s_ z_ g_)))  : ab_R E_X3_puts P_X3_puts Q 5 [some (.inr (.inl (some 0))), some (.inl p), some (.inl v), none, none] [] (md_cs s_ z_ g_) :=
  ab_R.steps [5, 10, 19, 59, 213] 4 (show ab_cl sp_X3_chunkFrom [.inr (.inl (some 0)), .inl p] (md_cs s_ z_ g_) (fun r_ k_ => k_.length = ((md_cs s_ z_ g_)).length → ab_R E_X3_puts P_X3_puts Q 10 [some (.inr (.inl (some 0))), some (.inl p), some (.inl v), none, none] (ab_ret r_ []) k_) from ⟨_, l1, fun r_ k_ hz _ => by obtain ⟨x_, rfl, rfl, hR⟩ := hz; exact hR⟩)
set_option maxRecDepth 100000 in
theorem b_X3_puts_10 {Q : ab_Q} {p : Int} {v : Int} {t0 : Int} {s_ : Int → Int} {z_ : mc_T} {g_ : mg_T} (l1 : ab_R E_X3_puts P_X3_puts Q 19 [some (.inr (.inl (some 0))), some (.inl p), some (.inl v), some (.inl t0), some (.inl (s_ 0))] [] (md_cs s_ z_ g_)) (p1 : (0 ≤ (0 : Int) ∧ (0 : Int) < 255) := by intros; (try unfold ab_r); omega) : ab_R E_X3_puts P_X3_puts Q 10 [some (.inr (.inl (some 0))), some (.inl p), some (.inl v), none, none] [.inl t0] (md_cs s_ z_ g_) :=
  ab_R.steps [5, 10, 19, 59, 213] 8 (show ((0 ≤ (0 : Int) ∧ (0 : Int) < 255) ∧ ab_R E_X3_puts P_X3_puts Q 19 [some (.inr (.inl (some 0))), some (.inl p), some (.inl v), some (.inl t0), some (.inl (s_ 0))] [] (md_cs s_ z_ g_)) from ⟨p1, l1⟩)
set_option maxRecDepth 100000 in
theorem b_X3_puts_19 {Q : ab_Q} {p : Int} {v : Int} {c : Int} {k : Int} {s_ : Int → Int} {z_ : mc_T} {g_ : mg_T} (l1 : k ≤ p → ab_R E_X3_puts P_X3_puts Q 59 [some (.inr (.inl (some 0))), some (.inl p), some (.inl v), some (.inl c), some (.inl (s_ 1))] [] (md_cs s_ z_ g_)) (l2 : p < k → ab_R E_X3_puts P_X3_puts Q 19 [some (.inr (.inl (some 0))), some (.inl p), some (.inl v), some (.inl c), some (.inl (k + (-1)))] [] (md_cs ((ab_up s_ (3 + k) (s_ ((3 + k) - 1)))) z_ g_)) (p1 : (ab_r k ∧ ab_r p) := by intros; (try unfold ab_r); omega) (p2 : k ≤ p → (0 ≤ (1 : Int) ∧ (1 : Int) < 255) := by intros; (try unfold ab_r); omega) (p3 : p < k → (0 ≤ ((3 + k) - 1) ∧ ((3 + k) - 1) < 255) := by intros; (try unfold ab_r); omega) (p4 : p < k → (0 ≤ (3 + k) ∧ (3 + k) < 255) := by intros; (try unfold ab_r); omega) : ab_R E_X3_puts P_X3_puts Q 19 [some (.inr (.inl (some 0))), some (.inl p), some (.inl v), some (.inl c), some (.inl k)] [] (md_cs s_ z_ g_) :=
  ab_R.steps [5, 10, 19, 59, 213] 21 (show ((ab_r k ∧ ab_r p) ∧ ((k ≤ p → ((0 ≤ (1 : Int) ∧ (1 : Int) < 255) ∧ ab_R E_X3_puts P_X3_puts Q 59 [some (.inr (.inl (some 0))), some (.inl p), some (.inl v), some (.inl c), some (.inl (s_ 1))] [] (md_cs s_ z_ g_))) ∧ (p < k → ((0 ≤ ((3 + k) - 1) ∧ ((3 + k) - 1) < 255) ∧ ((0 ≤ (3 + k) ∧ (3 + k) < 255) ∧ ab_R E_X3_puts P_X3_puts Q 19 [some (.inr (.inl (some 0))), some (.inl p), some (.inl v), some (.inl c), some (.inl (k + (-1)))] [] (md_cs ((ab_up s_ (3 + k) (s_ ((3 + k) - 1)))) z_ g_)))))) from ⟨p1, ⟨fun h1 => ⟨(p2 h1), (l1 h1)⟩, fun h2 => ⟨(p3 h2), ⟨(p4 h2), (l2 h2)⟩⟩⟩⟩)
set_option maxRecDepth 100000 in
theorem b_X3_puts_59 {Q : ab_Q} {p : Int} {v : Int} {c : Int} {k : Int} {s_ : Int → Int} {z_ : mc_T} {g_ : mg_T} (l1 : k ≤ c → sp_X3_evens [.inr (.inl (some 0))] (md_cs ((ab_up (ab_up (ab_up (ab_up (ab_up (ab_up (ab_up s_ (3 + p) v) (63 + c) 1) (127 + c) 0) (191 + c) 0) 1 (((ab_up (ab_up (ab_up (ab_up s_ (3 + p) v) (63 + c) 1) (127 + c) 0) (191 + c) 0) 1) + 1)) 0 (((ab_up (ab_up (ab_up (ab_up (ab_up s_ (3 + p) v) (63 + c) 1) (127 + c) 0) (191 + c) 0) 1 (((ab_up (ab_up (ab_up (ab_up s_ (3 + p) v) (63 + c) 1) (127 + c) 0) (191 + c) 0) 1) + 1)) 0) + 1)) 2 (((ab_up (ab_up (ab_up (ab_up (ab_up (ab_up s_ (3 + p) v) (63 + c) 1) (127 + c) 0) (191 + c) 0) 1 (((ab_up (ab_up (ab_up (ab_up s_ (3 + p) v) (63 + c) 1) (127 + c) 0) (191 + c) 0) 1) + 1)) 0 (((ab_up (ab_up (ab_up (ab_up (ab_up s_ (3 + p) v) (63 + c) 1) (127 + c) 0) (191 + c) 0) 1 (((ab_up (ab_up (ab_up (ab_up s_ (3 + p) v) (63 + c) 1) (127 + c) 0) (191 + c) 0) 1) + 1)) 0) + 1)) 2) + 1))) z_ g_) (fun r_ k_ => ∃ (s_' : Int → Int), ∃ (z_' : mc_T), ∃ (g_' : mg_T), r_ = none ∧ k_ = (md_cs (s_') z_' g_') ∧ ab_R E_X3_puts P_X3_puts Q 213 [some (.inr (.inl (some 0))), some (.inl p), some (.inl v), some (.inl c), some (.inl k)] [] (md_cs (s_') z_' g_'))) (l2 : c < k → ab_R E_X3_puts P_X3_puts Q 59 [some (.inr (.inl (some 0))), some (.inl p), some (.inl v), some (.inl c), some (.inl (k + (-1)))] [] (md_cs ((ab_up (ab_up (ab_up s_ (63 + k) (s_ ((63 + k) - 1))) (127 + k) ((ab_up s_ (63 + k) (s_ ((63 + k) - 1))) ((127 + k) - 1))) (191 + k) ((ab_up (ab_up s_ (63 + k) (s_ ((63 + k) - 1))) (127 + k) ((ab_up s_ (63 + k) (s_ ((63 + k) - 1))) ((127 + k) - 1))) ((191 + k) - 1)))) z_ g_)) (p1 : (ab_r k ∧ ab_r c) := by intros; (try unfold ab_r); omega) (p2 : k ≤ c → (0 ≤ (3 + p) ∧ (3 + p) < 255) := by intros; (try unfold ab_r); omega) (p3 : k ≤ c → (0 ≤ (63 + c) ∧ (63 + c) < 255) := by intros; (try unfold ab_r); omega) (p4 : k ≤ c → (0 ≤ (127 + c) ∧ (127 + c) < 255) := by intros; (try unfold ab_r); omega) (p5 : k ≤ c → (0 ≤ (191 + c) ∧ (191 + c) < 255) := by intros; (try unfold ab_r); omega) (p6 : k ≤ c → (0 ≤ (1 : Int) ∧ (1 : Int) < 255) := by intros; (try unfold ab_r); omega) (p7 : k ≤ c → (0 ≤ (0 : Int) ∧ (0 : Int) < 255) := by intros; (try unfold ab_r); omega) (p8 : k ≤ c → (0 ≤ (2 : Int) ∧ (2 : Int) < 255) := by intros; (try unfold ab_r); omega) (p9 : c < k → (0 ≤ ((63 + k) - 1) ∧ ((63 + k) - 1) < 255) := by intros; (try unfold ab_r); omega) (p10 : c < k → (0 ≤ (63 + k) ∧ (63 + k) < 255) := by intros; (try unfold ab_r); omega) (p11 : c < k → (0 ≤ ((127 + k) - 1) ∧ ((127 + k) - 1) < 255) := by intros; (try unfold ab_r); omega) (p12 : c < k → (0 ≤ (127 + k) ∧ (127 + k) < 255) := by intros; (try unfold ab_r); omega) (p13 : c < k → (0 ≤ ((191 + k) - 1) ∧ ((191 + k) - 1) < 255) := by intros; (try unfold ab_r); omega) (p14 : c < k → (0 ≤ (191 + k) ∧ (191 + k) < 255) := by intros; (try unfold ab_r); omega) : ab_R E_X3_puts P_X3_puts Q 59 [some (.inr (.inl (some 0))), some (.inl p), some (.inl v), some (.inl c), some (.inl k)] [] (md_cs s_ z_ g_) :=
  ab_R.steps [5, 10, 19, 59, 213] 58 (show ((ab_r k ∧ ab_r c) ∧ ((k ≤ c → ((0 ≤ (3 + p) ∧ (3 + p) < 255) ∧ ((0 ≤ (63 + c) ∧ (63 + c) < 255) ∧ ((0 ≤ (127 + c) ∧ (127 + c) < 255) ∧ ((0 ≤ (191 + c) ∧ (191 + c) < 255) ∧ ((0 ≤ (1 : Int) ∧ (1 : Int) < 255) ∧ ((0 ≤ (1 : Int) ∧ (1 : Int) < 255) ∧ ((0 ≤ (0 : Int) ∧ (0 : Int) < 255) ∧ ((0 ≤ (0 : Int) ∧ (0 : Int) < 255) ∧ ((0 ≤ (2 : Int) ∧ (2 : Int) < 255) ∧ ((0 ≤ (2 : Int) ∧ (2 : Int) < 255) ∧ ab_cl sp_X3_evens [.inr (.inl (some 0))] (md_cs ((ab_up (ab_up (ab_up (ab_up (ab_up (ab_up (ab_up s_ (3 + p) v) (63 + c) 1) (127 + c) 0) (191 + c) 0) 1 (((ab_up (ab_up (ab_up (ab_up s_ (3 + p) v) (63 + c) 1) (127 + c) 0) (191 + c) 0) 1) + 1)) 0 (((ab_up (ab_up (ab_up (ab_up (ab_up s_ (3 + p) v) (63 + c) 1) (127 + c) 0) (191 + c) 0) 1 (((ab_up (ab_up (ab_up (ab_up s_ (3 + p) v) (63 + c) 1) (127 + c) 0) (191 + c) 0) 1) + 1)) 0) + 1)) 2 (((ab_up (ab_up (ab_up (ab_up (ab_up (ab_up s_ (3 + p) v) (63 + c) 1) (127 + c) 0) (191 + c) 0) 1 (((ab_up (ab_up (ab_up (ab_up s_ (3 + p) v) (63 + c) 1) (127 + c) 0) (191 + c) 0) 1) + 1)) 0 (((ab_up (ab_up (ab_up (ab_up (ab_up s_ (3 + p) v) (63 + c) 1) (127 + c) 0) (191 + c) 0) 1 (((ab_up (ab_up (ab_up (ab_up s_ (3 + p) v) (63 + c) 1) (127 + c) 0) (191 + c) 0) 1) + 1)) 0) + 1)) 2) + 1))) z_ g_) (fun r_ k_ => k_.length = ((md_cs ((ab_up (ab_up (ab_up (ab_up (ab_up (ab_up (ab_up s_ (3 + p) v) (63 + c) 1) (127 + c) 0) (191 + c) 0) 1 (((ab_up (ab_up (ab_up (ab_up s_ (3 + p) v) (63 + c) 1) (127 + c) 0) (191 + c) 0) 1) + 1)) 0 (((ab_up (ab_up (ab_up (ab_up (ab_up s_ (3 + p) v) (63 + c) 1) (127 + c) 0) (191 + c) 0) 1 (((ab_up (ab_up (ab_up (ab_up s_ (3 + p) v) (63 + c) 1) (127 + c) 0) (191 + c) 0) 1) + 1)) 0) + 1)) 2 (((ab_up (ab_up (ab_up (ab_up (ab_up (ab_up s_ (3 + p) v) (63 + c) 1) (127 + c) 0) (191 + c) 0) 1 (((ab_up (ab_up (ab_up (ab_up s_ (3 + p) v) (63 + c) 1) (127 + c) 0) (191 + c) 0) 1) + 1)) 0 (((ab_up (ab_up (ab_up (ab_up (ab_up s_ (3 + p) v) (63 + c) 1) (127 + c) 0) (191 + c) 0) 1 (((ab_up (ab_up (ab_up (ab_up s_ (3 + p) v) (63 + c) 1) (127 + c) 0) (191 + c) 0) 1) + 1)) 0) + 1)) 2) + 1))) z_ g_)).length → ab_R E_X3_puts P_X3_puts Q 213 [some (.inr (.inl (some 0))), some (.inl p), some (.inl v), some (.inl c), some (.inl k)] (ab_ret r_ []) k_)))))))))))) ∧ (c < k → ((0 ≤ ((63 + k) - 1) ∧ ((63 + k) - 1) < 255) ∧ ((0 ≤ (63 + k) ∧ (63 + k) < 255) ∧ ((0 ≤ ((127 + k) - 1) ∧ ((127 + k) - 1) < 255) ∧ ((0 ≤ (127 + k) ∧ (127 + k) < 255) ∧ ((0 ≤ ((191 + k) - 1) ∧ ((191 + k) - 1) < 255) ∧ ((0 ≤ (191 + k) ∧ (191 + k) < 255) ∧ ab_R E_X3_puts P_X3_puts Q 59 [some (.inr (.inl (some 0))), some (.inl p), some (.inl v), some (.inl c), some (.inl (k + (-1)))] [] (md_cs ((ab_up (ab_up (ab_up s_ (63 + k) (s_ ((63 + k) - 1))) (127 + k) ((ab_up s_ (63 + k) (s_ ((63 + k) - 1))) ((127 + k) - 1))) (191 + k) ((ab_up (ab_up s_ (63 + k) (s_ ((63 + k) - 1))) (127 + k) ((ab_up s_ (63 + k) (s_ ((63 + k) - 1))) ((127 + k) - 1))) ((191 + k) - 1)))) z_ g_)))))))))) from ⟨p1, ⟨fun h1 => ⟨(p2 h1), ⟨(p3 h1), ⟨(p4 h1), ⟨(p5 h1), ⟨(p6 h1), ⟨(p6 h1), ⟨(p7 h1), ⟨(p7 h1), ⟨(p8 h1), ⟨(p8 h1), ⟨_, (l1 h1), fun r_ k_ hz _ => by obtain ⟨s_', z_', g_', rfl, rfl, hR⟩ := hz; exact hR⟩⟩⟩⟩⟩⟩⟩⟩⟩⟩⟩, fun h2 => ⟨(p9 h2), ⟨(p10 h2), ⟨(p11 h2), ⟨(p12 h2), ⟨(p13 h2), ⟨(p14 h2), (l2 h2)⟩⟩⟩⟩⟩⟩⟩⟩)
set_option maxRecDepth 100000 in
theorem b_X3_puts_213 {Q : ab_Q} {p : Int} {v : Int} {c : Int} {k : Int} {s_ : Int → Int} {z_ : mc_T} {g_ : mg_T} (l1 : Q none (md_cs s_ z_ g_))  : ab_R E_X3_puts P_X3_puts Q 213 [some (.inr (.inl (some 0))), some (.inl p), some (.inl v), some (.inl c), some (.inl k)] [] (md_cs s_ z_ g_) :=
  ab_R.steps [5, 10, 19, 59, 213] 2 (show Q none (md_cs s_ z_ g_) from l1)
-- ===== RootChunksModel.takes
def P_X3_takes : List ab_I := [(0, .aload_n 0, 1, []), (1, .iload_n 1, 2, []), (2, .invokevirtual 79, 5, []), (5, .aload_n 0, 6, []), (6, .iload_n 1, 7, []), (7, .iconst 1, 8, []), (8, .iadd, 9, []), (9, .invokevirtual 79, 12, []), (12, .aload_n 0, 13, []), (13, .iload_n 1, 14, []), (14, .invokevirtual 82, 17, []), (17, .istore_n 2, 18, []), (18, .iload_n 1, 19, []), (19, .istore_n 3, 20, []), (20, .iload_n 3, 21, []), (21, .aload_n 0, 22, []), (22, .getfield 7, 25, []), (25, .iconst 0, 26, []), (26, .iaload, 27, []), (27, .iconst 1, 28, []), (28, .isub, 29, []), (29, .if_icmp .ge 27, 32, [((0 : Int), 56)]), (32, .aload_n 0, 33, []), (33, .getfield 7, 36, []), (36, .iconst 3, 37, []), (37, .iload_n 3, 38, []), (38, .iadd, 39, []), (39, .aload_n 0, 40, []), (40, .getfield 7, 43, []), (43, .iconst 3, 44, []), (44, .iload_n 3, 45, []), (45, .iadd, 46, []), (46, .iconst 1, 47, []), (47, .iadd, 48, []), (48, .iaload, 49, []), (49, .iastore, 50, []), (50, .iinc 3 1, 53, []), (53, .goto (-33), 56, [((0 : Int), 20)]), (56, .aload_n 0, 57, []), (57, .getfield 7, 60, []), (60, .iconst 0, 61, []), (61, .dup2, 62, []), (62, .iaload, 63, []), (63, .iconst 1, 64, []), (64, .isub, 65, []), (65, .iastore, 66, []), (66, .aload_n 0, 67, []), (67, .getfield 7, 70, []), (70, .iconst 3, 71, []), (71, .aload_n 0, 72, []), (72, .getfield 7, 75, []), (75, .iconst 0, 76, []), (76, .iaload, 77, []), (77, .iadd, 78, []), (78, .iconst 0, 79, []), (79, .iastore, 80, []), (80, .aload_n 0, 81, []), (81, .iload_n 2, 82, []), (82, .invokevirtual 76, 85, []), (85, .aload_n 0, 86, []), (86, .invokevirtual 85, 89, []), (89, .return_, 90, [])]
def E_X3_takes : ab_E := (T_X3, [(2, (2, 3, [], 0, sp_X3_cuts)), (9, (2, 3, [], 0, sp_X3_cuts)), (14, (2, 3, [], 0, sp_X3_chunkFrom)), (82, (2, 3, [], 0, sp_X3_closes)), (86, (1, 3, [], 0, sp_X3_evens))], [], 9)
def M_X3_takes : List (Nat × ab_MI) := [(2, mi_X3_cuts), (9, mi_X3_cuts), (14, mi_X3_chunkFrom), (82, mi_X3_closes), (86, mi_X3_evens)]
def mi_X3_takes : ab_MI := (yX3_takes, cX3_takes, 4, ab_rty 9, 5, 164)
theorem pk_X3_takes : P_X3_takes.all (ab_okI cX3_takes) = true := by decide +kernel
theorem ck_X3_takes : P_X3_takes.all (ab_okC1 "RootChunksModel" M_X3_takes E_X3_takes (5, 164)) = true := by decide +kernel
set_option maxRecDepth 100000 in
theorem b_X3_takes_0 {Q : ab_Q} {p : Int} {s_ : Int → Int} {z_ : mc_T} {g_ : mg_T} (l1 : sp_X3_cuts [.inr (.inl (some 0)), .inl p] (md_cs s_ z_ g_) (fun r_ k_ => ∃ (s_' : Int → Int), ∃ (z_' : mc_T), ∃ (g_' : mg_T), r_ = none ∧ k_ = (md_cs (s_') z_' g_') ∧ ab_R E_X3_takes P_X3_takes Q 5 [some (.inr (.inl (some 0))), some (.inl p), none, none] [] (md_cs (s_') z_' g_')))  : ab_R E_X3_takes P_X3_takes Q 0 [some (.inr (.inl (some 0))), some (.inl p), none, none] [] (md_cs s_ z_ g_) :=
  ab_R.steps [5, 12, 17, 20, 85, 89] 4 (show ab_cl sp_X3_cuts [.inr (.inl (some 0)), .inl p] (md_cs s_ z_ g_) (fun r_ k_ => k_.length = ((md_cs s_ z_ g_)).length → ab_R E_X3_takes P_X3_takes Q 5 [some (.inr (.inl (some 0))), some (.inl p), none, none] (ab_ret r_ []) k_) from ⟨_, l1, fun r_ k_ hz _ => by obtain ⟨s_', z_', g_', rfl, rfl, hR⟩ := hz; exact hR⟩)
set_option maxRecDepth 100000 in
theorem b_X3_takes_5 {Q : ab_Q} {p : Int} {s_ : Int → Int} {z_ : mc_T} {g_ : mg_T} (l1 : sp_X3_cuts [.inr (.inl (some 0)), .inl (p + 1)] (md_cs s_ z_ g_) (fun r_ k_ => ∃ (s_' : Int → Int), ∃ (z_' : mc_T), ∃ (g_' : mg_T), r_ = none ∧ k_ = (md_cs (s_') z_' g_') ∧ ab_R E_X3_takes P_X3_takes Q 12 [some (.inr (.inl (some 0))), some (.inl p), none, none] [] (md_cs (s_') z_' g_')))  : ab_R E_X3_takes P_X3_takes Q 5 [some (.inr (.inl (some 0))), some (.inl p), none, none] [] (md_cs s_ z_ g_) :=
  ab_R.steps [5, 12, 17, 20, 85, 89] 6 (show ab_cl sp_X3_cuts [.inr (.inl (some 0)), .inl (p + 1)] (md_cs s_ z_ g_) (fun r_ k_ => k_.length = ((md_cs s_ z_ g_)).length → ab_R E_X3_takes P_X3_takes Q 12 [some (.inr (.inl (some 0))), some (.inl p), none, none] (ab_ret r_ []) k_) from ⟨_, l1, fun r_ k_ hz _ => by obtain ⟨s_', z_', g_', rfl, rfl, hR⟩ := hz; exact hR⟩)
set_option maxRecDepth 100000 in
theorem b_X3_takes_12 {Q : ab_Q} {p : Int} {s_ : Int → Int} {z_ : mc_T} {g_ : mg_T} (l1 : sp_X3_chunkFrom [.inr (.inl (some 0)), .inl p] (md_cs s_ z_ g_) (fun r_ k_ => ∃ (x_ : Int), r_ = some (.inl x_) ∧ k_ = (md_cs s_ z_ g_) ∧ ab_R E_X3_takes P_X3_takes Q 17 [some (.inr (.inl (some 0))), some (.inl p), none, none] [.inl x_] (md_cs s_ z_ g_)))  : ab_R E_X3_takes P_X3_takes Q 12 [some (.inr (.inl (some 0))), some (.inl p), none, none] [] (md_cs s_ z_ g_) :=
  ab_R.steps [5, 12, 17, 20, 85, 89] 4 (show ab_cl sp_X3_chunkFrom [.inr (.inl (some 0)), .inl p] (md_cs s_ z_ g_) (fun r_ k_ => k_.length = ((md_cs s_ z_ g_)).length → ab_R E_X3_takes P_X3_takes Q 17 [some (.inr (.inl (some 0))), some (.inl p), none, none] (ab_ret r_ []) k_) from ⟨_, l1, fun r_ k_ hz _ => by obtain ⟨x_, rfl, rfl, hR⟩ := hz; exact hR⟩)
set_option maxRecDepth 100000 in
theorem b_X3_takes_17 {Q : ab_Q} {p : Int} {t0 : Int} {s_ : Int → Int} {z_ : mc_T} {g_ : mg_T} (l1 : ab_R E_X3_takes P_X3_takes Q 20 [some (.inr (.inl (some 0))), some (.inl p), some (.inl t0), some (.inl p)] [] (md_cs s_ z_ g_))  : ab_R E_X3_takes P_X3_takes Q 17 [some (.inr (.inl (some 0))), some (.inl p), none, none] [.inl t0] (md_cs s_ z_ g_) :=
  ab_R.steps [5, 12, 17, 20, 85, 89] 5 (show ab_R E_X3_takes P_X3_takes Q 20 [some (.inr (.inl (some 0))), some (.inl p), some (.inl t0), some (.inl p)] [] (md_cs s_ z_ g_) from l1)
set_option maxRecDepth 100000 in
theorem b_X3_takes_20 {Q : ab_Q} {p : Int} {c : Int} {k : Int} {s_ : Int → Int} {z_ : mc_T} {g_ : mg_T} (l1 : ((s_ 0) - 1) ≤ k → sp_X3_closes [.inr (.inl (some 0)), .inl c] (md_cs ((ab_up (ab_up s_ 0 ((s_ 0) - 1)) (3 + ((ab_up s_ 0 ((s_ 0) - 1)) 0)) 0)) z_ g_) (fun r_ k_ => ∃ (s_' : Int → Int), ∃ (z_' : mc_T), ∃ (g_' : mg_T), r_ = none ∧ k_ = (md_cs (s_') z_' g_') ∧ ab_R E_X3_takes P_X3_takes Q 85 [some (.inr (.inl (some 0))), some (.inl p), some (.inl c), some (.inl k)] [] (md_cs (s_') z_' g_'))) (l2 : k < ((s_ 0) - 1) → ab_R E_X3_takes P_X3_takes Q 20 [some (.inr (.inl (some 0))), some (.inl p), some (.inl c), some (.inl (k + 1))] [] (md_cs ((ab_up s_ (3 + k) (s_ ((3 + k) + 1)))) z_ g_)) (p1 : (0 ≤ (0 : Int) ∧ (0 : Int) < 255) := by intros; (try unfold ab_r); omega) (p2 : (ab_r k ∧ ab_r ((s_ 0) - 1)) := by intros; (try unfold ab_r); omega) (p3 : ((s_ 0) - 1) ≤ k → (0 ≤ (0 : Int) ∧ (0 : Int) < 255) := by intros; (try unfold ab_r); omega) (p4 : ((s_ 0) - 1) ≤ k → (0 ≤ (3 + ((ab_up s_ 0 ((s_ 0) - 1)) 0)) ∧ (3 + ((ab_up s_ 0 ((s_ 0) - 1)) 0)) < 255) := by intros; (try unfold ab_r); omega) (p5 : k < ((s_ 0) - 1) → (0 ≤ ((3 + k) + 1) ∧ ((3 + k) + 1) < 255) := by intros; (try unfold ab_r); omega) (p6 : k < ((s_ 0) - 1) → (0 ≤ (3 + k) ∧ (3 + k) < 255) := by intros; (try unfold ab_r); omega) : ab_R E_X3_takes P_X3_takes Q 20 [some (.inr (.inl (some 0))), some (.inl p), some (.inl c), some (.inl k)] [] (md_cs s_ z_ g_) :=
  ab_R.steps [5, 12, 17, 20, 85, 89] 30 (show ((0 ≤ (0 : Int) ∧ (0 : Int) < 255) ∧ ((ab_r k ∧ ab_r ((s_ 0) - 1)) ∧ ((((s_ 0) - 1) ≤ k → ((0 ≤ (0 : Int) ∧ (0 : Int) < 255) ∧ ((0 ≤ (0 : Int) ∧ (0 : Int) < 255) ∧ ((0 ≤ (0 : Int) ∧ (0 : Int) < 255) ∧ ((0 ≤ (3 + ((ab_up s_ 0 ((s_ 0) - 1)) 0)) ∧ (3 + ((ab_up s_ 0 ((s_ 0) - 1)) 0)) < 255) ∧ ab_cl sp_X3_closes [.inr (.inl (some 0)), .inl c] (md_cs ((ab_up (ab_up s_ 0 ((s_ 0) - 1)) (3 + ((ab_up s_ 0 ((s_ 0) - 1)) 0)) 0)) z_ g_) (fun r_ k_ => k_.length = ((md_cs ((ab_up (ab_up s_ 0 ((s_ 0) - 1)) (3 + ((ab_up s_ 0 ((s_ 0) - 1)) 0)) 0)) z_ g_)).length → ab_R E_X3_takes P_X3_takes Q 85 [some (.inr (.inl (some 0))), some (.inl p), some (.inl c), some (.inl k)] (ab_ret r_ []) k_)))))) ∧ (k < ((s_ 0) - 1) → ((0 ≤ ((3 + k) + 1) ∧ ((3 + k) + 1) < 255) ∧ ((0 ≤ (3 + k) ∧ (3 + k) < 255) ∧ ab_R E_X3_takes P_X3_takes Q 20 [some (.inr (.inl (some 0))), some (.inl p), some (.inl c), some (.inl (k + 1))] [] (md_cs ((ab_up s_ (3 + k) (s_ ((3 + k) + 1)))) z_ g_))))))) from ⟨p1, ⟨p2, ⟨fun h1 => ⟨(p3 h1), ⟨(p3 h1), ⟨(p3 h1), ⟨(p4 h1), ⟨_, (l1 h1), fun r_ k_ hz _ => by obtain ⟨s_', z_', g_', rfl, rfl, hR⟩ := hz; exact hR⟩⟩⟩⟩⟩, fun h2 => ⟨(p5 h2), ⟨(p6 h2), (l2 h2)⟩⟩⟩⟩⟩)
set_option maxRecDepth 100000 in
theorem b_X3_takes_85 {Q : ab_Q} {p : Int} {c : Int} {k : Int} {s_ : Int → Int} {z_ : mc_T} {g_ : mg_T} (l1 : sp_X3_evens [.inr (.inl (some 0))] (md_cs s_ z_ g_) (fun r_ k_ => ∃ (s_' : Int → Int), ∃ (z_' : mc_T), ∃ (g_' : mg_T), r_ = none ∧ k_ = (md_cs (s_') z_' g_') ∧ ab_R E_X3_takes P_X3_takes Q 89 [some (.inr (.inl (some 0))), some (.inl p), some (.inl c), some (.inl k)] [] (md_cs (s_') z_' g_')))  : ab_R E_X3_takes P_X3_takes Q 85 [some (.inr (.inl (some 0))), some (.inl p), some (.inl c), some (.inl k)] [] (md_cs s_ z_ g_) :=
  ab_R.steps [5, 12, 17, 20, 85, 89] 3 (show ab_cl sp_X3_evens [.inr (.inl (some 0))] (md_cs s_ z_ g_) (fun r_ k_ => k_.length = ((md_cs s_ z_ g_)).length → ab_R E_X3_takes P_X3_takes Q 89 [some (.inr (.inl (some 0))), some (.inl p), some (.inl c), some (.inl k)] (ab_ret r_ []) k_) from ⟨_, l1, fun r_ k_ hz _ => by obtain ⟨s_', z_', g_', rfl, rfl, hR⟩ := hz; exact hR⟩)
set_option maxRecDepth 100000 in
theorem b_X3_takes_89 {Q : ab_Q} {p : Int} {c : Int} {k : Int} {s_ : Int → Int} {z_ : mc_T} {g_ : mg_T} (l1 : Q none (md_cs s_ z_ g_))  : ab_R E_X3_takes P_X3_takes Q 89 [some (.inr (.inl (some 0))), some (.inl p), some (.inl c), some (.inl k)] [] (md_cs s_ z_ g_) :=
  ab_R.steps [5, 12, 17, 20, 85, 89] 2 (show Q none (md_cs s_ z_ g_) from l1)
-- ===== RootChunksModel.sets
def P_X3_sets : List ab_I := [(0, .aload_n 0, 1, []), (1, .aload_n 0, 2, []), (2, .iload_n 1, 3, []), (3, .invokevirtual 54, 6, []), (6, .invokevirtual 64, 9, []), (9, .aload_n 0, 10, []), (10, .getfield 7, 13, []), (13, .iconst 3, 14, []), (14, .iload_n 1, 15, []), (15, .iadd, 16, []), (16, .iload_n 2, 17, []), (17, .iastore, 18, []), (18, .aload_n 0, 19, []), (19, .getfield 7, 22, []), (22, .iconst 2, 23, []), (23, .dup2, 24, []), (24, .iaload, 25, []), (25, .iconst 1, 26, []), (26, .iadd, 27, []), (27, .iastore, 28, []), (28, .aload_n 0, 29, []), (29, .invokevirtual 85, 32, []), (32, .return_, 33, [])]
def E_X3_sets : ab_E := (T_X3, [(3, (2, 3, [], 0, sp_X3_chunkAt)), (6, (2, 3, [], 0, sp_X3_carries)), (29, (1, 3, [], 0, sp_X3_evens))], [], 9)
def M_X3_sets : List (Nat × ab_MI) := [(3, mi_X3_chunkAt), (6, mi_X3_carries), (29, mi_X3_evens)]
def mi_X3_sets : ab_MI := (yX3_sets, cX3_sets, 3, ab_rty 9, 5, 164)
theorem pk_X3_sets : P_X3_sets.all (ab_okI cX3_sets) = true := by decide +kernel
theorem ck_X3_sets : P_X3_sets.all (ab_okC1 "RootChunksModel" M_X3_sets E_X3_sets (5, 164)) = true := by decide +kernel
set_option maxRecDepth 100000 in
theorem b_X3_sets_0 {Q : ab_Q} {p : Int} {v : Int} {s_ : Int → Int} {z_ : mc_T} {g_ : mg_T} (l1 : sp_X3_chunkAt [.inr (.inl (some 0)), .inl p] (md_cs s_ z_ g_) (fun r_ k_ => ∃ (x_ : Int), r_ = some (.inl x_) ∧ k_ = (md_cs s_ z_ g_) ∧ ab_R E_X3_sets P_X3_sets Q 6 [some (.inr (.inl (some 0))), some (.inl p), some (.inl v)] [.inl x_, .inr (.inl (some 0))] (md_cs s_ z_ g_)))  : ab_R E_X3_sets P_X3_sets Q 0 [some (.inr (.inl (some 0))), some (.inl p), some (.inl v)] [] (md_cs s_ z_ g_) :=
  ab_R.steps [6, 9, 32] 5 (show ab_cl sp_X3_chunkAt [.inr (.inl (some 0)), .inl p] (md_cs s_ z_ g_) (fun r_ k_ => k_.length = ((md_cs s_ z_ g_)).length → ab_R E_X3_sets P_X3_sets Q 6 [some (.inr (.inl (some 0))), some (.inl p), some (.inl v)] (ab_ret r_ [.inr (.inl (some 0))]) k_) from ⟨_, l1, fun r_ k_ hz _ => by obtain ⟨x_, rfl, rfl, hR⟩ := hz; exact hR⟩)
set_option maxRecDepth 100000 in
theorem b_X3_sets_6 {Q : ab_Q} {p : Int} {v : Int} {t0 : Int} {s_ : Int → Int} {z_ : mc_T} {g_ : mg_T} (l1 : sp_X3_carries [.inr (.inl (some 0)), .inl t0] (md_cs s_ z_ g_) (fun r_ k_ => ∃ (s_' : Int → Int), ∃ (z_' : mc_T), ∃ (g_' : mg_T), r_ = none ∧ k_ = (md_cs (s_') z_' g_') ∧ ab_R E_X3_sets P_X3_sets Q 9 [some (.inr (.inl (some 0))), some (.inl p), some (.inl v)] [] (md_cs (s_') z_' g_')))  : ab_R E_X3_sets P_X3_sets Q 6 [some (.inr (.inl (some 0))), some (.inl p), some (.inl v)] [.inl t0, .inr (.inl (some 0))] (md_cs s_ z_ g_) :=
  ab_R.steps [6, 9, 32] 2 (show ab_cl sp_X3_carries [.inr (.inl (some 0)), .inl t0] (md_cs s_ z_ g_) (fun r_ k_ => k_.length = ((md_cs s_ z_ g_)).length → ab_R E_X3_sets P_X3_sets Q 9 [some (.inr (.inl (some 0))), some (.inl p), some (.inl v)] (ab_ret r_ []) k_) from ⟨_, l1, fun r_ k_ hz _ => by obtain ⟨s_', z_', g_', rfl, rfl, hR⟩ := hz; exact hR⟩)
set_option maxRecDepth 100000 in
theorem b_X3_sets_9 {Q : ab_Q} {p : Int} {v : Int} {s_ : Int → Int} {z_ : mc_T} {g_ : mg_T} (l1 : sp_X3_evens [.inr (.inl (some 0))] (md_cs ((ab_up (ab_up s_ (3 + p) v) 2 (((ab_up s_ (3 + p) v) 2) + 1))) z_ g_) (fun r_ k_ => ∃ (s_' : Int → Int), ∃ (z_' : mc_T), ∃ (g_' : mg_T), r_ = none ∧ k_ = (md_cs (s_') z_' g_') ∧ ab_R E_X3_sets P_X3_sets Q 32 [some (.inr (.inl (some 0))), some (.inl p), some (.inl v)] [] (md_cs (s_') z_' g_'))) (p1 : (0 ≤ (3 + p) ∧ (3 + p) < 255) := by intros; (try unfold ab_r); omega) (p2 : (0 ≤ (2 : Int) ∧ (2 : Int) < 255) := by intros; (try unfold ab_r); omega) : ab_R E_X3_sets P_X3_sets Q 9 [some (.inr (.inl (some 0))), some (.inl p), some (.inl v)] [] (md_cs s_ z_ g_) :=
  ab_R.steps [6, 9, 32] 18 (show ((0 ≤ (3 + p) ∧ (3 + p) < 255) ∧ ((0 ≤ (2 : Int) ∧ (2 : Int) < 255) ∧ ((0 ≤ (2 : Int) ∧ (2 : Int) < 255) ∧ ab_cl sp_X3_evens [.inr (.inl (some 0))] (md_cs ((ab_up (ab_up s_ (3 + p) v) 2 (((ab_up s_ (3 + p) v) 2) + 1))) z_ g_) (fun r_ k_ => k_.length = ((md_cs ((ab_up (ab_up s_ (3 + p) v) 2 (((ab_up s_ (3 + p) v) 2) + 1))) z_ g_)).length → ab_R E_X3_sets P_X3_sets Q 32 [some (.inr (.inl (some 0))), some (.inl p), some (.inl v)] (ab_ret r_ []) k_)))) from ⟨p1, ⟨p2, ⟨p2, ⟨_, l1, fun r_ k_ hz _ => by obtain ⟨s_', z_', g_', rfl, rfl, hR⟩ := hz; exact hR⟩⟩⟩⟩)
set_option maxRecDepth 100000 in
theorem b_X3_sets_32 {Q : ab_Q} {p : Int} {v : Int} {s_ : Int → Int} {z_ : mc_T} {g_ : mg_T} (l1 : Q none (md_cs s_ z_ g_))  : ab_R E_X3_sets P_X3_sets Q 32 [some (.inr (.inl (some 0))), some (.inl p), some (.inl v)] [] (md_cs s_ z_ g_) :=
  ab_R.steps [6, 9, 32] 2 (show Q none (md_cs s_ z_ g_) from l1)
theorem vc_X3_puts {av : List ab_V} {cs : List ab_C} {Q : ab_Q} (h : sp_X3_puts av cs Q) : (ab_lv0 av).length ≤ 5 ∧ ab_R E_X3_puts P_X3_puts Q 0 (ab_ent av 5) [] cs := by
  obtain ⟨s, z, g, q, d, p, v, rfl, rfl, hR, hW, hp, hd, hl, hv1, hv2, hQ⟩ := h
  refine ⟨Nat.le_of_ble_eq_true rfl, ?_⟩
  have hW2 := mq_W_put (v := v) hW hd hl ⟨hv1, hv2⟩
  refine b_X3_puts_0 ⟨_, _, _, q, d, _, rfl, rfl, hR, hW, hp, hd, fun s1 z1 hr1 hw1 => ⟨_, z1, g, rfl, rfl, ?_⟩⟩
  have hW1 := mq_cut_W hW hd
  obtain ⟨y1, y2⟩ := mq_cut_len hd
  obtain ⟨A, B, w, hc⟩ : ∃ A B w, mq_cut q d = (A, B, w) := ⟨_, _, _, rfl⟩
  have hpq : mq_put q d v = (A ++ ([v], 0, 0) :: B, w + 1) := by unfold mq_put; rw [hc]
  rw [hc] at hr1 hw1 hW1 y1 y2
  rw [hpq] at hQ hW2
  dsimp only at hr1 hw1 hW1 y1 y2 hQ hW2
  have n1 : s1 0 = ((mq_flat (A ++ B)).length : Nat) := hr1.2.2.2.2.1
  have c1 : s1 1 = ((A ++ B).length : Nat) := hr1.2.2.2.2.2
  have hpos := mq_flat_pos hW1.1
  rw [mq_flat_app, List.length_append] at n1 hpos
  rw [List.length_append] at c1 hpos
  refine b_X3_puts_5 ⟨_, _, _, A, B, _, rfl, rfl, hr1, hW1, by omega, _, rfl, rfl, ?_⟩
  refine b_X3_puts_10 ?_
  have second : ∀ (s2 : Int → Int), (∀ j : Int, s2 j = if 3 + p < j ∧ j ≤ 3 + s1 0 then s1 (j - 1) else s1 j) → ∀ (m : Nat) (k : Int) (s3 : Int → Int), k = A.length + m → k ≤ s1 1 → (∀ j : Int, s3 j = if (63 + k < j ∧ j ≤ 63 + s1 1) ∨ (127 + k < j ∧ j ≤ 127 + s1 1) ∨ (191 + k < j ∧ j ≤ 191 + s1 1) then s2 (j - 1) else s2 j) →
      ab_R E_X3_puts P_X3_puts Q 59 [some (.inr (.inl (some 0))), some (.inl p), some (.inl v), some (.inl (A.length : Int)), some (.inl k)] [] (md_cs s3 z1 g) := by
    intro s2 g0 m
    induction m with
    | zero =>
      intro k s3 g1 g2 g3
      refine b_X3_puts_59 (fun _ => ?_) (fun _ => by omega)
      have o : ∀ j : Int, j ≤ 3 + s1 0 → s3 j = if 3 + p < j then s1 (j - 1) else s1 j := fun j hj => by
        rw [g3, if_neg (by omega), g0]
        by_cases y : 3 + p < j
        · rw [if_pos y, if_pos ⟨y, hj⟩]
        · rw [if_neg y, if_neg (by omega)]
      have o2 : ∀ j : Int, 63 ≤ j → s3 j = if (63 + k < j ∧ j ≤ 63 + s1 1) ∨ (127 + k < j ∧ j ≤ 127 + s1 1) ∨ (191 + k < j ∧ j ≤ 191 + s1 1) then s1 (j - 1) else s1 j := fun j hj => by
        rw [g3]
        by_cases y : (63 + k < j ∧ j ≤ 63 + s1 1) ∨ (127 + k < j ∧ j ≤ 127 + s1 1) ∨ (191 + k < j ∧ j ≤ 191 + s1 1)
        · rw [if_pos y, if_pos y, g0, if_neg (by omega)]
        · rw [if_neg y, if_neg y, g0, if_neg (by omega)]
      have o0 := o 0 (by omega)
      have o1 := o 1 (by omega)
      have ow := o 2 (by omega)
      rw [if_neg (by omega)] at o0 o1 ow
      have hput := mq_R_put (w' := 0) (v := v) hr1
      refine ⟨_, _, _, A ++ ([v], 0, 0) :: B, rfl, rfl, mq_R_ext2 hput (fun j j1 j2 => ?_) (fun j j1 j2 => ?_) (fun j j1 j2 => ?_) (fun j j1 j2 => ?_) ?_ ?_, hW2, fun s' z' q1 q2 => ⟨s', z', g, rfl, rfl, b_X3_puts_213 (hQ s' z' q1 ?_)⟩⟩
      · have : (mq_flat (A ++ ([v], 0, 0) :: B)).length = (mq_flat A).length + (1 + (mq_flat B).length) := by rw [mq_flat_mid]; simp; omega
        show ab_up _ _ _ (3 + j) = mq_ins (fun j => s1 (3 + j)) (s1 0) (mq_flat A).length v j
        unfold mq_ins
        by_cases y : j = p
        · rw [if_pos (by omega)]
          repeat (first | rw [ab_up_ne (by omega)] | rw [ab_up_eq (by omega)])
        · rw [if_neg (by omega)]
          repeat rw [ab_up_ne (by omega)]
          rw [o _ (by omega)]
          by_cases y3 : p < j
          · rw [if_pos (by omega), if_pos (by omega)]
            congr 1; omega
          · rw [if_neg (by omega), if_neg (by omega)]
      · rw [List.length_append, List.length_cons] at j2
        show ab_up _ _ _ (63 + j) = mq_ins (fun c => s1 (63 + c)) (s1 1) A.length 1 j
        unfold mq_ins
        by_cases y : j = A.length
        · rw [if_pos y]
          repeat (first | rw [ab_up_ne (by omega)] | rw [ab_up_eq (by omega)])
        · rw [if_neg y]
          repeat rw [ab_up_ne (by omega)]
          rw [o2 _ (by omega)]
          by_cases y3 : (A.length : Int) < j
          · rw [if_pos (by omega), if_pos (by omega)]
            congr 1; omega
          · rw [if_neg (by omega), if_neg (by omega)]
      · rw [List.length_append, List.length_cons] at j2
        show ab_up _ _ _ (127 + j) = mq_ins (fun c => s1 (127 + c)) (s1 1) A.length 0 j
        unfold mq_ins
        by_cases y : j = A.length
        · rw [if_pos y]
          repeat (first | rw [ab_up_ne (by omega)] | rw [ab_up_eq (by omega)])
        · rw [if_neg y]
          repeat rw [ab_up_ne (by omega)]
          rw [o2 _ (by omega)]
          by_cases y3 : (A.length : Int) < j
          · rw [if_pos (by omega), if_pos (by omega)]
            congr 1; omega
          · rw [if_neg (by omega), if_neg (by omega)]
      · rw [List.length_append, List.length_cons] at j2
        show ab_up _ _ _ (191 + j) = mq_ins (fun c => s1 (191 + c)) (s1 1) A.length 0 j
        unfold mq_ins
        by_cases y : j = A.length
        · rw [if_pos y]
          repeat (first | rw [ab_up_ne (by omega)] | rw [ab_up_eq (by omega)])
        · rw [if_neg y]
          repeat rw [ab_up_ne (by omega)]
          rw [o2 _ (by omega)]
          by_cases y3 : (A.length : Int) < j
          · rw [if_pos (by omega), if_pos (by omega)]
            congr 1; omega
          · rw [if_neg (by omega), if_neg (by omega)]
      · dsimp only [md_v]
        repeat (first | rw [ab_up_ne (by omega)] | rw [ab_up_eq (by omega)])
        omega
      · dsimp only [md_v]
        repeat (first | rw [ab_up_ne (by omega)] | rw [ab_up_eq (by omega)])
        omega
      · have e2 : ∀ f : Int → Int, ∀ x : Int, ab_up f 2 x 2 = x := fun f x => ab_up_eq rfl
        rw [e2] at q2
        rw [q2]
        repeat rw [ab_up_ne (by omega)]
        omega
    | succ m ih =>
      intro k s3 g1 g2 g3
      refine b_X3_puts_59 (fun _ => by omega) (fun _ => ih _ _ (by omega) (by omega) (fun j => ?_))
      have o : ∀ j : Int, (j = 63 + k - 1 ∨ j = 127 + k - 1 ∨ j = 191 + k - 1) → s3 j = s2 j := fun j hj => by rw [g3, if_neg (by omega)]
      rw [ab_up_ne (show 127 + k - 1 ≠ 63 + k by omega), ab_up_ne (show 191 + k - 1 ≠ 127 + k by omega), ab_up_ne (show 191 + k - 1 ≠ 63 + k by omega), o (63 + k - 1) (by omega), o (127 + k - 1) (by omega), o (191 + k - 1) (by omega)]
      by_cases y1 : j = 191 + k
      · rw [ab_up_eq y1, if_pos (by omega), y1]
      · rw [ab_up_ne y1]
        by_cases y2 : j = 127 + k
        · rw [ab_up_eq y2, if_pos (by omega), y2]
        · rw [ab_up_ne y2]
          by_cases y3 : j = 63 + k
          · rw [ab_up_eq y3, if_pos (by omega), y3]
          · rw [ab_up_ne y3, g3]
            by_cases y4 : (63 + k < j ∧ j ≤ 63 + s1 1) ∨ (127 + k < j ∧ j ≤ 127 + s1 1) ∨ (191 + k < j ∧ j ≤ 191 + s1 1)
            · rw [if_pos y4, if_pos (by omega)]
            · rw [if_neg y4, if_neg (by omega)]
  have first : ∀ (m : Nat) (k : Int) (s2 : Int → Int), k = p + m → k ≤ s1 0 → (∀ j : Int, s2 j = if 3 + k < j ∧ j ≤ 3 + s1 0 then s1 (j - 1) else s1 j) →
      ab_R E_X3_puts P_X3_puts Q 19 [some (.inr (.inl (some 0))), some (.inl p), some (.inl v), some (.inl (A.length : Int)), some (.inl k)] [] (md_cs s2 z1 g) := by
    intro m
    induction m with
    | zero =>
      intro k s2 g1 g2 g3
      have o1 : s2 1 = s1 1 := by rw [g3, if_neg (by omega)]
      refine b_X3_puts_19 (fun _ => ?_) (fun _ => by omega)
      rw [o1]
      exact second s2 (fun j => by rw [g3, show k = p by omega]) B.length (s1 1) s2 (by omega) (by omega) (fun j => by rw [if_neg (by omega)])
    | succ m ih =>
      intro k s2 g1 g2 g3
      refine b_X3_puts_19 (fun _ => by omega) (fun _ => ih _ _ (by omega) (by omega) (fun j => ?_))
      have o : s2 (3 + k - 1) = s1 (3 + k - 1) := by rw [g3, if_neg (by omega)]
      rw [o]
      by_cases y : j = 3 + k
      · rw [ab_up_eq y, if_pos (by omega), y]
      · rw [ab_up_ne y, g3]
        by_cases y2 : 3 + k < j ∧ j ≤ 3 + s1 0
        · rw [if_pos y2, if_pos (by omega)]
        · rw [if_neg y2, if_neg (by omega)]
  exact first ((mq_flat q).length - d) (s1 0) s1 (by omega) (by omega) (fun j => by rw [if_neg (by omega)])
theorem mt_X3_puts (l : Launch) : ab_MT l mi_X3_puts sp_X3_puts := ab_MT.of (own := "RootChunksModel") (E := E_X3_puts) (P := P_X3_puts) (M := M_X3_puts) (nL := 5) (ty := 9) (by decide) rfl rfl tk_X3 pk_X3_puts ck_X3_puts (ab_CT'.cons (mt_X3_cuts l) (ab_CT'.cons (mt_X3_chunkFrom l) (ab_CT'.cons (mt_X3_evens l) ab_CT'.nil))) (fun av cs Q h => vc_X3_puts h)
theorem vc_X3_takes {av : List ab_V} {cs : List ab_C} {Q : ab_Q} (h : sp_X3_takes av cs Q) : (ab_lv0 av).length ≤ 4 ∧ ab_R E_X3_takes P_X3_takes Q 0 (ab_ent av 4) [] cs := by
  obtain ⟨s, z, g, q, d, p, rfl, rfl, hR, hW, hp, hd, hQ⟩ := h
  refine ⟨Nat.le_of_ble_eq_true rfl, ?_⟩
  have hWt := mq_W_tak hW hd
  obtain ⟨A, M, B, w1, w2, t1, t2, t3, t4, t5, t6, t7, t8, t9⟩ := mq_two (f := d) (n := 1) hW (by omega)
  have hpq : mq_tak q d = (A ++ B, w1 + w2) := by unfold mq_tak; rw [t1]
  rw [hpq] at hQ hWt
  dsimp only at hQ hWt
  have hfl := hW.2
  have hcl := t6.chunks
  refine b_X3_takes_0 ⟨_, _, _, q, d, _, rfl, rfl, hR, hW, hp, by omega, fun s1 z1 hr1 hw1 => ⟨_, z1, g, rfl, rfl, ?_⟩⟩
  refine b_X3_takes_5 ⟨_, _, _, _, d + 1, _, rfl, rfl, hr1, t3, by omega, by omega, fun s2 z2 hr2 hw2 => ⟨_, z2, g, rfl, rfl, ?_⟩⟩
  rw [t5] at hr2 hw2
  rw [t2] at hw1
  dsimp only at hr2 hw2
  have hr2' : mq_R (md_v s2) (A ++ (M ++ B)) := by simpa using hr2
  refine b_X3_takes_12 ⟨_, _, _, A, M ++ B, _, rfl, rfl, hr2', t6, by omega, _, rfl, rfl, ?_⟩
  obtain ⟨k, hM⟩ : ∃ k, M = [k] := by
    have := mq_flat_pos (q := M) (fun k hk => t6.1 k (by simp [hk]))
    match M, t8, this with
    | [], t8, _ => simp [mq_flat] at t8
    | [k], _, _ => exact ⟨k, rfl⟩
    | k :: k2 :: M, t8, h => simp at h; omega
  subst hM
  have hk1 : k.1.length = 1 := by simpa [mq_flat] using t8
  have n2 : s2 0 = ((mq_flat (A ++ ([k] ++ B))).length : Nat) := hr2'.2.2.2.2.1
  have c2 : s2 1 = ((A ++ ([k] ++ B)).length : Nat) := hr2'.2.2.2.2.2
  simp only [mq_flat_app, List.length_append, List.length_cons, List.length_nil] at n2 c2 hcl
  refine b_X3_takes_17 ?_
  have loop : ∀ (m : Nat) (i : Int) (s3 : Int → Int), s2 0 - 1 - i = m → p ≤ i → (∀ j : Int, s3 j = if 3 + p ≤ j ∧ j < 3 + i then s2 (j + 1) else s2 j) →
      ab_R E_X3_takes P_X3_takes Q 20 [some (.inr (.inl (some 0))), some (.inl p), some (.inl (A.length : Int)), some (.inl i)] [] (md_cs s3 z2 g) := by
    intro m
    induction m with
    | zero =>
      intro i s3 g1 g2 g3
      have o0 : s3 0 = s2 0 := by rw [g3, if_neg (by omega)]
      have o1 : s3 1 = s2 1 := by rw [g3, if_neg (by omega)]
      have ow : s3 2 = s2 2 := by rw [g3, if_neg (by omega)]
      have x0 : ab_up s3 0 (s3 0 - 1) 0 = s2 0 - 1 := by rw [ab_up_eq rfl, o0]
      refine b_X3_takes_20 (fun _ => ?_) (fun _ => by omega) (p4 := fun _ => by rw [x0]; omega)
      rw [x0]
      generalize hF : ab_up (ab_up s3 0 (s3 0 - 1)) (3 + (s2 0 - 1)) 0 = F
      have F0 : F 0 = s2 0 - 1 := by rw [← hF, ab_up_ne (by omega), x0]
      have F1 : F 1 = s2 1 := by rw [← hF, ab_up_ne (by omega), ab_up_ne (by omega), o1]
      have F2 : F 2 = s2 2 := by rw [← hF, ab_up_ne (by omega), ab_up_ne (by omega), ow]
      have FK : ∀ j : Int, 3 ≤ j → j < 3 + (s2 0 - 1) → F j = s3 j := fun j j1 j2 => by rw [← hF, ab_up_ne (by omega), ab_up_ne (by omega)]
      have FC : ∀ j : Int, 63 ≤ j → F j = s2 j := fun j j1 => by rw [← hF, ab_up_ne (by omega), ab_up_ne (by omega), g3, if_neg (by omega)]
      refine ⟨_, _, _, _, rfl, rfl, by omega, by omega, by omega, fun s4 f0 f1 f2 f3 f4 => ⟨s4, z2, g, rfl, rfl, ?_⟩⟩
      have htk := mq_R_take (w' := 0) (show mq_R (md_v s2) (A ++ k :: B) from hr2') hk1
      refine b_X3_takes_85 ⟨_, _, _, A ++ B, rfl, rfl, mq_R_ext2 htk (fun j j1 j2 => ?_) (fun j j1 j2 => ?_) (fun j j1 j2 => ?_) (fun j j1 j2 => ?_) ?_ ?_, hWt, fun s' z' q1 q2 => ⟨s', z', g, rfl, rfl, b_X3_takes_89 (hQ s' z' q1 (by omega))⟩⟩
      · rw [mq_flat_app, List.length_append] at j2
        show s4 (3 + j) = mq_del (fun j => s2 (3 + j)) (s2 0) (mq_flat A).length j
        unfold mq_del
        rw [f3 j j1 (by omega), FK _ (by omega) (by omega), g3]
        by_cases y : 3 + p ≤ 3 + j ∧ 3 + j < 3 + i
        · rw [if_pos y, if_pos (by omega)]
          congr 1; omega
        · rw [if_neg y, if_neg (by omega)]
      · rw [List.length_append] at j2
        show s4 (63 + j) = mq_del (fun c => s2 (63 + c)) (s2 1) A.length j
        rw [(f4 j j1 (by omega)).1, F1]
        unfold mq_del
        dsimp only
        rw [FC (63 + j) (by omega), FC (63 + (j + 1)) (by omega)]
      · rw [List.length_append] at j2
        show s4 (127 + j) = mq_del (fun c => s2 (127 + c)) (s2 1) A.length j
        rw [(f4 j j1 (by omega)).2.1, F1]
        unfold mq_del
        dsimp only
        rw [FC (127 + j) (by omega), FC (127 + (j + 1)) (by omega)]
      · rw [List.length_append] at j2
        show s4 (191 + j) = mq_del (fun c => s2 (191 + c)) (s2 1) A.length j
        rw [(f4 j j1 (by omega)).2.2, F1]
        unfold mq_del
        dsimp only
        rw [FC (191 + j) (by omega), FC (191 + (j + 1)) (by omega)]
      · show s4 0 = s2 0 - 1
        omega
      · show s4 1 = s2 1 - 1
        omega
    | succ m ih =>
      intro i s3 g1 g2 g3
      have o0 : s3 0 = s2 0 := by rw [g3, if_neg (by omega)]
      refine b_X3_takes_20 (fun _ => by omega) (fun _ => ih _ _ (by omega) (by omega) (fun j => ?_)) (p4 := fun _ => by omega)
      have o : s3 (3 + i + 1) = s2 (3 + i + 1) := by rw [g3, if_neg (by omega)]
      rw [o]
      by_cases y : j = 3 + i
      · rw [ab_up_eq y, if_pos (by omega), y]
      · rw [ab_up_ne y, g3]
        by_cases y2 : 3 + p ≤ j ∧ j < 3 + i
        · rw [if_pos y2, if_pos (by omega)]
        · rw [if_neg y2, if_neg (by omega)]
  exact loop (s2 0 - 1 - p).toNat p s2 (by omega) (by omega) (fun j => by rw [if_neg (by omega)])
theorem mt_X3_takes (l : Launch) : ab_MT l mi_X3_takes sp_X3_takes := ab_MT.of (own := "RootChunksModel") (E := E_X3_takes) (P := P_X3_takes) (M := M_X3_takes) (nL := 4) (ty := 9) (by decide) rfl rfl tk_X3 pk_X3_takes ck_X3_takes (ab_CT'.cons (mt_X3_cuts l) (ab_CT'.cons (mt_X3_cuts l) (ab_CT'.cons (mt_X3_chunkFrom l) (ab_CT'.cons (mt_X3_closes l) (ab_CT'.cons (mt_X3_evens l) ab_CT'.nil))))) (fun av cs Q h => vc_X3_takes h)
theorem vc_X3_sets {av : List ab_V} {cs : List ab_C} {Q : ab_Q} (h : sp_X3_sets av cs Q) : (ab_lv0 av).length ≤ 3 ∧ ab_R E_X3_sets P_X3_sets Q 0 (ab_ent av 3) [] cs := by
  obtain ⟨s, z, g, q, d, p, v, rfl, rfl, hR, hW, hp, hd, hv1, hv2, hQ⟩ := h
  refine ⟨Nat.le_of_ble_eq_true rfl, ?_⟩
  have hWt := mq_W_set (v := v) hW hd ⟨hv1, hv2⟩
  obtain ⟨A, k, B, rfl, h1, h2⟩ := mq_hold hd
  have hfl := hW.2
  have hcl := hW.chunks
  rw [mq_flat_mid, List.length_append, List.length_append] at hfl
  have hs := mq_set_app (A := A) (k := k) (B := B) (d := d - (mq_flat A).length) (v := v) (by omega)
  rw [show (mq_flat A).length + (d - (mq_flat A).length) = d by omega] at hs
  rw [hs] at hQ hWt
  dsimp only at hQ hWt
  refine b_X3_sets_0 ⟨_, _, _, A, k, B, _, rfl, rfl, hR, hW, by omega, by omega, _, rfl, rfl, ?_⟩
  refine b_X3_sets_6 ⟨_, _, _, A, k, B, _, rfl, rfl, hR, hW, rfl, fun s1 z1 hr1 hw1 => ⟨s1, z1, g, rfl, rfl, ?_⟩⟩
  have hset := mq_R_set (w' := 0) (d := d - (mq_flat A).length) (v := v) hr1 (by rw [mq_row_len]; omega)
  rw [show ((mq_flat A).length : Int) + ((d - (mq_flat A).length : Nat) : Int) = p by omega] at hset
  refine b_X3_sets_9 ⟨_, _, _, A ++ ((mq_row k).set (d - (mq_flat A).length) v, 0, 0) :: B, rfl, rfl, mq_R_ext2 hset (fun j j1 j2 => ?_) (fun j j1 j2 => ?_) (fun j j1 j2 => ?_) (fun j j1 j2 => ?_) ?_ ?_, hWt, fun s' z' q1 q2 => ⟨s', z', g, rfl, rfl, b_X3_sets_32 (hQ s' z' q1 ?_)⟩⟩
  · show ab_up _ _ _ (3 + j) = ab_up (fun j => s1 (3 + j)) p v j
    by_cases y : j = p
    · rw [ab_up_eq y, ab_up_ne (by omega), ab_up_eq (by omega)]
    · rw [ab_up_ne y, ab_up_ne (by omega), ab_up_ne (by omega)]
  · show ab_up _ _ _ (63 + j) = s1 (63 + j)
    repeat rw [ab_up_ne (by omega)]
  · show ab_up _ _ _ (127 + j) = s1 (127 + j)
    repeat rw [ab_up_ne (by omega)]
  · show ab_up _ _ _ (191 + j) = s1 (191 + j)
    repeat rw [ab_up_ne (by omega)]
  · dsimp only [md_v]
    repeat rw [ab_up_ne (by omega)]
  · dsimp only [md_v]
    repeat rw [ab_up_ne (by omega)]
  · rw [ab_up_eq rfl, ab_up_ne (by omega)] at q2
    omega
theorem mt_X3_sets (l : Launch) : ab_MT l mi_X3_sets sp_X3_sets := ab_MT.of (own := "RootChunksModel") (E := E_X3_sets) (P := P_X3_sets) (M := M_X3_sets) (nL := 3) (ty := 9) (by decide) rfl rfl tk_X3 pk_X3_sets ck_X3_sets (ab_CT'.cons (mt_X3_chunkAt l) (ab_CT'.cons (mt_X3_carries l) (ab_CT'.cons (mt_X3_evens l) ab_CT'.nil))) (fun av cs Q h => vc_X3_sets h)
