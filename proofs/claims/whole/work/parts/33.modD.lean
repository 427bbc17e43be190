def sp_X3_turns : ab_Sp := fun av cs Q => ∃ (s : Int → Int) (z : mc_T) (g : mg_T) (q : List mq_K) (f n : Nat) (x y : Int), av = [.inr (.inl (some 0)), .inl x, .inl y] ∧ cs = md_cs s z g ∧ mq_R (md_v s) q ∧ mq_W q ∧ x = f ∧ y + 1 = x + n ∧ f + n ≤ (mq_flat q).length ∧
  ∀ (s' : Int → Int) (z' : mc_T), mq_R (md_v s') (mq_ev (mq_trn q f n).1).1 → s' 2 = s 2 + (mq_trn q f n).2 + (mq_ev (mq_trn q f n).1).2 → Q none (md_cs s' z' g)
def sp_X3_addsTo : ab_Sp := fun av cs Q => ∃ (s : Int → Int) (z : mc_T) (g : mg_T) (q : List mq_K) (f n : Nat) (x y v : Int), av = [.inr (.inl (some 0)), .inl x, .inl y, .inl v] ∧ cs = md_cs s z g ∧ mq_R (md_v s) q ∧ mq_W q ∧ x = f ∧ y + 1 = x + n ∧ f + n ≤ (mq_flat q).length ∧ (∀ x ∈ ((mq_all q).drop f).take n, -99999 ≤ x + v ∧ x + v ≤ 99999) ∧
  ∀ (s' : Int → Int) (z' : mc_T), mq_R (md_v s') (mq_ev (mq_add q f n v).1).1 → s' 2 = s 2 + (mq_add q f n v).2 + (mq_ev (mq_add q f n v).1).2 → Q none (md_cs s' z' g)
-- ===== RootChunksModel.turns
def P_X3_turns : List ab_I := [(0, .aload_n 0, 1, []), (1, .iload_n 1, 2, []), (2, .invokevirtual 79, 5, []), (5, .aload_n 0, 6, []), (6, .iload_n 2, 7, []), (7, .iconst 1, 8, []), (8, .iadd, 9, []), (9, .invokevirtual 79, 12, []), (12, .aload_n 0, 13, []), (13, .iload_n 1, 14, []), (14, .invokevirtual 82, 17, []), (17, .istore_n 3, 18, []), (18, .aload_n 0, 19, []), (19, .iload_n 2, 20, []), (20, .iconst 1, 21, []), (21, .iadd, 22, []), (22, .invokevirtual 82, 25, []), (25, .istore 4, 27, []), (27, .iconst 0, 28, []), (28, .istore 5, 30, []), (30, .iload 5, 32, []), (32, .aload_n 0, 33, []), (33, .getfield 7, 36, []), (36, .iconst 1, 37, []), (37, .iaload, 38, []), (38, .if_icmp .ge 43, 41, [((0 : Int), 81)]), (41, .aload_n 0, 42, []), (42, .getfield 29, 45, []), (45, .iload 5, 47, []), (47, .iload 5, 49, []), (49, .iload_n 3, 50, []), (50, .if_icmp .lt 10, 53, [((0 : Int), 60)]), (53, .iload 5, 55, []), (55, .iload 4, 57, []), (57, .if_icmp .lt 8, 60, [((0 : Int), 65)]), (60, .iload 5, 62, []), (62, .goto 12, 65, [((0 : Int), 74)]), (65, .iload_n 3, 66, []), (66, .iload 4, 68, []), (68, .iadd, 69, []), (69, .iconst 1, 70, []), (70, .isub, 71, []), (71, .iload 5, 73, []), (73, .isub, 74, []), (74, .iastore, 75, []), (75, .iinc 5 1, 78, []), (78, .goto (-48), 81, [((0 : Int), 30)]), (81, .aload_n 0, 82, []), (82, .invokevirtual 88, 85, []), (85, .iload_n 3, 86, []), (86, .istore 5, 88, []), (88, .iload 5, 90, []), (90, .iload 4, 92, []), (92, .if_icmp .ge 31, 95, [((0 : Int), 123)]), (95, .aload_n 0, 96, []), (96, .getfield 7, 99, []), (99, .bipush 127, 101, []), (101, .iload 5, 103, []), (103, .iadd, 104, []), (104, .iconst 1, 105, []), (105, .aload_n 0, 106, []), (106, .getfield 7, 109, []), (109, .bipush 127, 111, []), (111, .iload 5, 113, []), (113, .iadd, 114, []), (114, .iaload, 115, []), (115, .isub, 116, []), (116, .iastore, 117, []), (117, .iinc 5 1, 120, []), (120, .goto (-32), 123, [((0 : Int), 88)]), (123, .aload_n 0, 124, []), (124, .invokevirtual 85, 127, []), (127, .return_, 128, [])]
def E_X3_turns : ab_E := (T_X3, [(2, (2, 3, [], 0, sp_X3_cuts)), (9, (2, 3, [], 0, sp_X3_cuts)), (14, (2, 3, [], 0, sp_X3_chunkFrom)), (22, (2, 3, [], 0, sp_X3_chunkFrom)), (82, (1, 3, [], 0, sp_X3_reorders)), (124, (1, 3, [], 0, sp_X3_evens))], [], 9)
def M_X3_turns : List (Nat × ab_MI) := [(2, mi_X3_cuts), (9, mi_X3_cuts), (14, mi_X3_chunkFrom), (22, mi_X3_chunkFrom), (82, mi_X3_reorders), (124, mi_X3_evens)]
def mi_X3_turns : ab_MI := (yX3_turns, cX3_turns, 6, ab_rty 9, 5, 164)
theorem pk_X3_turns : P_X3_turns.all (ab_okI cX3_turns) = true := by decide +kernel
theorem ck_X3_turns : P_X3_turns.all (ab_okC1 "RootChunksModel" M_X3_turns E_X3_turns (5, 164)) = true := by decide +kernel
set_option maxRecDepth 100000 in
theorem b_X3_turns_0 {Q : ab_Q} {fr : Int} {to : Int} {s_ : Int → Int} {z_od : Int → Int} {z_nk : Int → Int} {z_nl : Int → Int} {z_nt : Int → Int} {z_ns : Int → Int} {g_ : mg_T} (l1 : sp_X3_cuts [.inr (.inl (some 0)), .inl fr] (md_cs s_ (z_od, z_nk, z_nl, z_nt, z_ns) g_) (fun r_ k_ => ∃ (s_' : Int → Int), ∃ (z_' : mc_T), ∃ (g_' : mg_T), r_ = none ∧ k_ = (md_cs (s_') z_' g_') ∧ ab_R E_X3_turns P_X3_turns Q 5 [some (.inr (.inl (some 0))), some (.inl fr), some (.inl to), none, none, none] [] (md_cs (s_') z_' g_')))  : ab_R E_X3_turns P_X3_turns Q 0 [some (.inr (.inl (some 0))), some (.inl fr), some (.inl to), none, none, none] [] (md_cs s_ (z_od, z_nk, z_nl, z_nt, z_ns) g_) :=
  ab_R.steps [5, 12, 17, 25, 30, 85, 88, 127] 4 (show ab_cl sp_X3_cuts [.inr (.inl (some 0)), .inl fr] (md_cs s_ (z_od, z_nk, z_nl, z_nt, z_ns) g_) (fun r_ k_ => k_.length = ((md_cs s_ (z_od, z_nk, z_nl, z_nt, z_ns) g_)).length → ab_R E_X3_turns P_X3_turns Q 5 [some (.inr (.inl (some 0))), some (.inl fr), some (.inl to), none, none, none] (ab_ret r_ []) k_) from ⟨_, l1, fun r_ k_ hz _ => by obtain ⟨s_', z_', g_', rfl, rfl, hR⟩ := hz; exact hR⟩)
set_option maxRecDepth 100000 in
theorem b_X3_turns_5 {Q : ab_Q} {fr : Int} {to : Int} {s_ : Int → Int} {z_od : Int → Int} {z_nk : Int → Int} {z_nl : Int → Int} {z_nt : Int → Int} {z_ns : Int → Int} {g_ : mg_T} (l1 : sp_X3_cuts [.inr (.inl (some 0)), .inl (to + 1)] (md_cs s_ (z_od, z_nk, z_nl, z_nt, z_ns) g_) (fun r_ k_ => ∃ (s_' : Int → Int), ∃ (z_' : mc_T), ∃ (g_' : mg_T), r_ = none ∧ k_ = (md_cs (s_') z_' g_') ∧ ab_R E_X3_turns P_X3_turns Q 12 [some (.inr (.inl (some 0))), some (.inl fr), some (.inl to), none, none, none] [] (md_cs (s_') z_' g_')))  : ab_R E_X3_turns P_X3_turns Q 5 [some (.inr (.inl (some 0))), some (.inl fr), some (.inl to), none, none, none] [] (md_cs s_ (z_od, z_nk, z_nl, z_nt, z_ns) g_) :=
  ab_R.steps [5, 12, 17, 25, 30, 85, 88, 127] 6 (show ab_cl sp_X3_cuts [.inr (.inl (some 0)), .inl (to + 1)] (md_cs s_ (z_od, z_nk, z_nl, z_nt, z_ns) g_) (fun r_ k_ => k_.length = ((md_cs s_ (z_od, z_nk, z_nl, z_nt, z_ns) g_)).length → ab_R E_X3_turns P_X3_turns Q 12 [some (.inr (.inl (some 0))), some (.inl fr), some (.inl to), none, none, none] (ab_ret r_ []) k_) from ⟨_, l1, fun r_ k_ hz _ => by obtain ⟨s_', z_', g_', rfl, rfl, hR⟩ := hz; exact hR⟩)
set_option maxRecDepth 100000 in
theorem b_X3_turns_12 {Q : ab_Q} {fr : Int} {to : Int} {s_ : Int → Int} {z_od : Int → Int} {z_nk : Int → Int} {z_nl : Int → Int} {z_nt : Int → Int} {z_ns : Int → Int} {g_ : mg_T} (l1 : sp_X3_chunkFrom [.inr (.inl (some 0)), .inl fr] (md_cs s_ (z_od, z_nk, z_nl, z_nt, z_ns) g_) (fun r_ k_ => ∃ (x_ : Int), r_ = some (.inl x_) ∧ k_ = (md_cs s_ (z_od, z_nk, z_nl, z_nt, z_ns) g_) ∧ ab_R E_X3_turns P_X3_turns Q 17 [some (.inr (.inl (some 0))), some (.inl fr), some (.inl to), none, none, none] [.inl x_] (md_cs s_ (z_od, z_nk, z_nl, z_nt, z_ns) g_)))  : ab_R E_X3_turns P_X3_turns Q 12 [some (.inr (.inl (some 0))), some (.inl fr), some (.inl to), none, none, none] [] (md_cs s_ (z_od, z_nk, z_nl, z_nt, z_ns) g_) :=
  ab_R.steps [5, 12, 17, 25, 30, 85, 88, 127] 4 (show ab_cl sp_X3_chunkFrom [.inr (.inl (some 0)), .inl fr] (md_cs s_ (z_od, z_nk, z_nl, z_nt, z_ns) g_) (fun r_ k_ => k_.length = ((md_cs s_ (z_od, z_nk, z_nl, z_nt, z_ns) g_)).length → ab_R E_X3_turns P_X3_turns Q 17 [some (.inr (.inl (some 0))), some (.inl fr), some (.inl to), none, none, none] (ab_ret r_ []) k_) from ⟨_, l1, fun r_ k_ hz _ => by obtain ⟨x_, rfl, rfl, hR⟩ := hz; exact hR⟩)
set_option maxRecDepth 100000 in
theorem b_X3_turns_17 {Q : ab_Q} {fr : Int} {to : Int} {t0 : Int} {s_ : Int → Int} {z_od : Int → Int} {z_nk : Int → Int} {z_nl : Int → Int} {z_nt : Int → Int} {z_ns : Int → Int} {g_ : mg_T} (l1 : sp_X3_chunkFrom [.inr (.inl (some 0)), .inl (to + 1)] (md_cs s_ (z_od, z_nk, z_nl, z_nt, z_ns) g_) (fun r_ k_ => ∃ (x_ : Int), r_ = some (.inl x_) ∧ k_ = (md_cs s_ (z_od, z_nk, z_nl, z_nt, z_ns) g_) ∧ ab_R E_X3_turns P_X3_turns Q 25 [some (.inr (.inl (some 0))), some (.inl fr), some (.inl to), some (.inl t0), none, none] [.inl x_] (md_cs s_ (z_od, z_nk, z_nl, z_nt, z_ns) g_)))  : ab_R E_X3_turns P_X3_turns Q 17 [some (.inr (.inl (some 0))), some (.inl fr), some (.inl to), none, none, none] [.inl t0] (md_cs s_ (z_od, z_nk, z_nl, z_nt, z_ns) g_) :=
  ab_R.steps [5, 12, 17, 25, 30, 85, 88, 127] 7 (show ab_cl sp_X3_chunkFrom [.inr (.inl (some 0)), .inl (to + 1)] (md_cs s_ (z_od, z_nk, z_nl, z_nt, z_ns) g_) (fun r_ k_ => k_.length = ((md_cs s_ (z_od, z_nk, z_nl, z_nt, z_ns) g_)).length → ab_R E_X3_turns P_X3_turns Q 25 [some (.inr (.inl (some 0))), some (.inl fr), some (.inl to), some (.inl t0), none, none] (ab_ret r_ []) k_) from ⟨_, l1, fun r_ k_ hz _ => by obtain ⟨x_, rfl, rfl, hR⟩ := hz; exact hR⟩)
set_option maxRecDepth 100000 in
theorem b_X3_turns_25 {Q : ab_Q} {fr : Int} {to : Int} {a : Int} {t0 : Int} {s_ : Int → Int} {z_od : Int → Int} {z_nk : Int → Int} {z_nl : Int → Int} {z_nt : Int → Int} {z_ns : Int → Int} {g_ : mg_T} (l1 : ab_R E_X3_turns P_X3_turns Q 30 [some (.inr (.inl (some 0))), some (.inl fr), some (.inl to), some (.inl a), some (.inl t0), some (.inl 0)] [] (md_cs s_ (z_od, z_nk, z_nl, z_nt, z_ns) g_))  : ab_R E_X3_turns P_X3_turns Q 25 [some (.inr (.inl (some 0))), some (.inl fr), some (.inl to), some (.inl a), none, none] [.inl t0] (md_cs s_ (z_od, z_nk, z_nl, z_nt, z_ns) g_) :=
  ab_R.steps [5, 12, 17, 25, 30, 85, 88, 127] 5 (show ab_R E_X3_turns P_X3_turns Q 30 [some (.inr (.inl (some 0))), some (.inl fr), some (.inl to), some (.inl a), some (.inl t0), some (.inl 0)] [] (md_cs s_ (z_od, z_nk, z_nl, z_nt, z_ns) g_) from l1)
set_option maxRecDepth 100000 in
theorem b_X3_turns_30 {Q : ab_Q} {fr : Int} {to : Int} {a : Int} {b : Int} {c : Int} {s_ : Int → Int} {z_od : Int → Int} {z_nk : Int → Int} {z_nl : Int → Int} {z_nt : Int → Int} {z_ns : Int → Int} {g_ : mg_T} (l1 : (s_ 1) ≤ c → sp_X3_reorders [.inr (.inl (some 0))] (md_cs s_ (z_od, z_nk, z_nl, z_nt, z_ns) g_) (fun r_ k_ => ∃ (s_' : Int → Int), ∃ (z_' : mc_T), ∃ (g_' : mg_T), r_ = none ∧ k_ = (md_cs (s_') z_' g_') ∧ ab_R E_X3_turns P_X3_turns Q 85 [some (.inr (.inl (some 0))), some (.inl fr), some (.inl to), some (.inl a), some (.inl b), some (.inl c)] [] (md_cs (s_') z_' g_'))) (l2 : c < (s_ 1) → c < a → ab_R E_X3_turns P_X3_turns Q 30 [some (.inr (.inl (some 0))), some (.inl fr), some (.inl to), some (.inl a), some (.inl b), some (.inl (c + 1))] [] (md_cs s_ ((ab_up z_od c c), z_nk, z_nl, z_nt, z_ns) g_)) (l3 : c < (s_ 1) → a ≤ c → c < b → ab_R E_X3_turns P_X3_turns Q 30 [some (.inr (.inl (some 0))), some (.inl fr), some (.inl to), some (.inl a), some (.inl b), some (.inl (c + 1))] [] (md_cs s_ ((ab_up z_od c (((a + b) - 1) - c)), z_nk, z_nl, z_nt, z_ns) g_)) (l4 : c < (s_ 1) → a ≤ c → b ≤ c → ab_R E_X3_turns P_X3_turns Q 30 [some (.inr (.inl (some 0))), some (.inl fr), some (.inl to), some (.inl a), some (.inl b), some (.inl (c + 1))] [] (md_cs s_ ((ab_up z_od c c), z_nk, z_nl, z_nt, z_ns) g_)) (p1 : (0 ≤ (1 : Int) ∧ (1 : Int) < 255) := by intros; (try unfold ab_r); omega) (p2 : (ab_r c ∧ ab_r (s_ 1)) := by intros; (try unfold ab_r); omega) (p3 : c < (s_ 1) → (ab_r c ∧ ab_r a) := by intros; (try unfold ab_r); omega) (p4 : c < (s_ 1) → c < a → (0 ≤ c ∧ c < 64) := by intros; (try unfold ab_r); omega) (p5 : c < (s_ 1) → a ≤ c → (ab_r c ∧ ab_r b) := by intros; (try unfold ab_r); omega) (p6 : c < (s_ 1) → a ≤ c → c < b → (0 ≤ c ∧ c < 64) := by intros; (try unfold ab_r); omega) (p7 : c < (s_ 1) → a ≤ c → b ≤ c → (0 ≤ c ∧ c < 64) := by intros; (try unfold ab_r); omega) : ab_R E_X3_turns P_X3_turns Q 30 [some (.inr (.inl (some 0))), some (.inl fr), some (.inl to), some (.inl a), some (.inl b), some (.inl c)] [] (md_cs s_ (z_od, z_nk, z_nl, z_nt, z_ns) g_) :=
  ab_R.steps [5, 12, 17, 25, 30, 85, 88, 127] 27 (show ((0 ≤ (1 : Int) ∧ (1 : Int) < 255) ∧ ((ab_r c ∧ ab_r (s_ 1)) ∧ (((s_ 1) ≤ c → ab_cl sp_X3_reorders [.inr (.inl (some 0))] (md_cs s_ (z_od, z_nk, z_nl, z_nt, z_ns) g_) (fun r_ k_ => k_.length = ((md_cs s_ (z_od, z_nk, z_nl, z_nt, z_ns) g_)).length → ab_R E_X3_turns P_X3_turns Q 85 [some (.inr (.inl (some 0))), some (.inl fr), some (.inl to), some (.inl a), some (.inl b), some (.inl c)] (ab_ret r_ []) k_)) ∧ (c < (s_ 1) → ((ab_r c ∧ ab_r a) ∧ ((c < a → ((0 ≤ c ∧ c < 64) ∧ ab_R E_X3_turns P_X3_turns Q 30 [some (.inr (.inl (some 0))), some (.inl fr), some (.inl to), some (.inl a), some (.inl b), some (.inl (c + 1))] [] (md_cs s_ ((ab_up z_od c c), z_nk, z_nl, z_nt, z_ns) g_))) ∧ (a ≤ c → ((ab_r c ∧ ab_r b) ∧ ((c < b → ((0 ≤ c ∧ c < 64) ∧ ab_R E_X3_turns P_X3_turns Q 30 [some (.inr (.inl (some 0))), some (.inl fr), some (.inl to), some (.inl a), some (.inl b), some (.inl (c + 1))] [] (md_cs s_ ((ab_up z_od c (((a + b) - 1) - c)), z_nk, z_nl, z_nt, z_ns) g_))) ∧ (b ≤ c → ((0 ≤ c ∧ c < 64) ∧ ab_R E_X3_turns P_X3_turns Q 30 [some (.inr (.inl (some 0))), some (.inl fr), some (.inl to), some (.inl a), some (.inl b), some (.inl (c + 1))] [] (md_cs s_ ((ab_up z_od c c), z_nk, z_nl, z_nt, z_ns) g_)))))))))))) from ⟨p1, ⟨p2, ⟨fun h1 => ⟨_, (l1 h1), fun r_ k_ hz _ => by obtain ⟨s_', z_', g_', rfl, rfl, hR⟩ := hz; exact hR⟩, fun h2 => ⟨(p3 h2), ⟨fun h3 => ⟨(p4 h2 h3), (l2 h2 h3)⟩, fun h4 => ⟨(p5 h2 h4), ⟨fun h5 => ⟨(p6 h2 h4 h5), (l3 h2 h4 h5)⟩, fun h6 => ⟨(p7 h2 h4 h6), (l4 h2 h4 h6)⟩⟩⟩⟩⟩⟩⟩⟩)
set_option maxRecDepth 100000 in
theorem b_X3_turns_85 {Q : ab_Q} {fr : Int} {to : Int} {a : Int} {b : Int} {c : Int} {s_ : Int → Int} {z_od : Int → Int} {z_nk : Int → Int} {z_nl : Int → Int} {z_nt : Int → Int} {z_ns : Int → Int} {g_ : mg_T} (l1 : ab_R E_X3_turns P_X3_turns Q 88 [some (.inr (.inl (some 0))), some (.inl fr), some (.inl to), some (.inl a), some (.inl b), some (.inl a)] [] (md_cs s_ (z_od, z_nk, z_nl, z_nt, z_ns) g_))  : ab_R E_X3_turns P_X3_turns Q 85 [some (.inr (.inl (some 0))), some (.inl fr), some (.inl to), some (.inl a), some (.inl b), some (.inl c)] [] (md_cs s_ (z_od, z_nk, z_nl, z_nt, z_ns) g_) :=
  ab_R.steps [5, 12, 17, 25, 30, 85, 88, 127] 4 (show ab_R E_X3_turns P_X3_turns Q 88 [some (.inr (.inl (some 0))), some (.inl fr), some (.inl to), some (.inl a), some (.inl b), some (.inl a)] [] (md_cs s_ (z_od, z_nk, z_nl, z_nt, z_ns) g_) from l1)
set_option maxRecDepth 100000 in
theorem b_X3_turns_88 {Q : ab_Q} {fr : Int} {to : Int} {a : Int} {b : Int} {c : Int} {s_ : Int → Int} {z_od : Int → Int} {z_nk : Int → Int} {z_nl : Int → Int} {z_nt : Int → Int} {z_ns : Int → Int} {g_ : mg_T} (l1 : b ≤ c → sp_X3_evens [.inr (.inl (some 0))] (md_cs s_ (z_od, z_nk, z_nl, z_nt, z_ns) g_) (fun r_ k_ => ∃ (s_' : Int → Int), ∃ (z_' : mc_T), ∃ (g_' : mg_T), r_ = none ∧ k_ = (md_cs (s_') z_' g_') ∧ ab_R E_X3_turns P_X3_turns Q 127 [some (.inr (.inl (some 0))), some (.inl fr), some (.inl to), some (.inl a), some (.inl b), some (.inl c)] [] (md_cs (s_') z_' g_'))) (l2 : c < b → ab_R E_X3_turns P_X3_turns Q 88 [some (.inr (.inl (some 0))), some (.inl fr), some (.inl to), some (.inl a), some (.inl b), some (.inl (c + 1))] [] (md_cs ((ab_up s_ (127 + c) (1 - (s_ (127 + c))))) (z_od, z_nk, z_nl, z_nt, z_ns) g_)) (p1 : (ab_r c ∧ ab_r b) := by intros; (try unfold ab_r); omega) (p2 : c < b → (0 ≤ (127 + c) ∧ (127 + c) < 255) := by intros; (try unfold ab_r); omega) : ab_R E_X3_turns P_X3_turns Q 88 [some (.inr (.inl (some 0))), some (.inl fr), some (.inl to), some (.inl a), some (.inl b), some (.inl c)] [] (md_cs s_ (z_od, z_nk, z_nl, z_nt, z_ns) g_) :=
  ab_R.steps [5, 12, 17, 25, 30, 85, 88, 127] 21 (show ((ab_r c ∧ ab_r b) ∧ ((b ≤ c → ab_cl sp_X3_evens [.inr (.inl (some 0))] (md_cs s_ (z_od, z_nk, z_nl, z_nt, z_ns) g_) (fun r_ k_ => k_.length = ((md_cs s_ (z_od, z_nk, z_nl, z_nt, z_ns) g_)).length → ab_R E_X3_turns P_X3_turns Q 127 [some (.inr (.inl (some 0))), some (.inl fr), some (.inl to), some (.inl a), some (.inl b), some (.inl c)] (ab_ret r_ []) k_)) ∧ (c < b → ((0 ≤ (127 + c) ∧ (127 + c) < 255) ∧ ((0 ≤ (127 + c) ∧ (127 + c) < 255) ∧ ab_R E_X3_turns P_X3_turns Q 88 [some (.inr (.inl (some 0))), some (.inl fr), some (.inl to), some (.inl a), some (.inl b), some (.inl (c + 1))] [] (md_cs ((ab_up s_ (127 + c) (1 - (s_ (127 + c))))) (z_od, z_nk, z_nl, z_nt, z_ns) g_)))))) from ⟨p1, ⟨fun h1 => ⟨_, (l1 h1), fun r_ k_ hz _ => by obtain ⟨s_', z_', g_', rfl, rfl, hR⟩ := hz; exact hR⟩, fun h2 => ⟨(p2 h2), ⟨(p2 h2), (l2 h2)⟩⟩⟩⟩)
set_option maxRecDepth 100000 in
theorem b_X3_turns_127 {Q : ab_Q} {fr : Int} {to : Int} {a : Int} {b : Int} {c : Int} {s_ : Int → Int} {z_od : Int → Int} {z_nk : Int → Int} {z_nl : Int → Int} {z_nt : Int → Int} {z_ns : Int → Int} {g_ : mg_T} (l1 : Q none (md_cs s_ (z_od, z_nk, z_nl, z_nt, z_ns) g_))  : ab_R E_X3_turns P_X3_turns Q 127 [some (.inr (.inl (some 0))), some (.inl fr), some (.inl to), some (.inl a), some (.inl b), some (.inl c)] [] (md_cs s_ (z_od, z_nk, z_nl, z_nt, z_ns) g_) :=
  ab_R.steps [5, 12, 17, 25, 30, 85, 88, 127] 2 (show Q none (md_cs s_ (z_od, z_nk, z_nl, z_nt, z_ns) g_) from l1)
-- ===== RootChunksModel.addsTo
def P_X3_addsTo : List ab_I := [(0, .aload_n 0, 1, []), (1, .iload_n 1, 2, []), (2, .invokevirtual 79, 5, []), (5, .aload_n 0, 6, []), (6, .iload_n 2, 7, []), (7, .iconst 1, 8, []), (8, .iadd, 9, []), (9, .invokevirtual 79, 12, []), (12, .aload_n 0, 13, []), (13, .iload_n 2, 14, []), (14, .iconst 1, 15, []), (15, .iadd, 16, []), (16, .invokevirtual 82, 19, []), (19, .istore 4, 21, []), (21, .aload_n 0, 22, []), (22, .iload_n 1, 23, []), (23, .invokevirtual 82, 26, []), (26, .istore 5, 28, []), (28, .iload 5, 30, []), (30, .iload 4, 32, []), (32, .if_icmp .ge 24, 35, [((0 : Int), 56)]), (35, .aload_n 0, 36, []), (36, .getfield 7, 39, []), (39, .sipush 191, 42, []), (42, .iload 5, 44, []), (44, .iadd, 45, []), (45, .dup2, 46, []), (46, .iaload, 47, []), (47, .iload_n 3, 48, []), (48, .iadd, 49, []), (49, .iastore, 50, []), (50, .iinc 5 1, 53, []), (53, .goto (-25), 56, [((0 : Int), 28)]), (56, .aload_n 0, 57, []), (57, .invokevirtual 85, 60, []), (60, .return_, 61, [])]
def E_X3_addsTo : ab_E := (T_X3, [(2, (2, 3, [], 0, sp_X3_cuts)), (9, (2, 3, [], 0, sp_X3_cuts)), (16, (2, 3, [], 0, sp_X3_chunkFrom)), (23, (2, 3, [], 0, sp_X3_chunkFrom)), (57, (1, 3, [], 0, sp_X3_evens))], [], 9)
def M_X3_addsTo : List (Nat × ab_MI) := [(2, mi_X3_cuts), (9, mi_X3_cuts), (16, mi_X3_chunkFrom), (23, mi_X3_chunkFrom), (57, mi_X3_evens)]
def mi_X3_addsTo : ab_MI := (yX3_addsTo, cX3_addsTo, 6, ab_rty 9, 5, 164)
theorem pk_X3_addsTo : P_X3_addsTo.all (ab_okI cX3_addsTo) = true := by decide +kernel
theorem ck_X3_addsTo : P_X3_addsTo.all (ab_okC1 "RootChunksModel" M_X3_addsTo E_X3_addsTo (5, 164)) = true := by decide +kernel
set_option maxRecDepth 100000 in
theorem b_X3_addsTo_0 {Q : ab_Q} {fr : Int} {to : Int} {bb : Int} {s_ : Int → Int} {z_ : mc_T} {g_ : mg_T} (l1 : sp_X3_cuts [.inr (.inl (some 0)), .inl fr] (md_cs s_ z_ g_) (fun r_ k_ => ∃ (s_' : Int → Int), ∃ (z_' : mc_T), ∃ (g_' : mg_T), r_ = none ∧ k_ = (md_cs (s_') z_' g_') ∧ ab_R E_X3_addsTo P_X3_addsTo Q 5 [some (.inr (.inl (some 0))), some (.inl fr), some (.inl to), some (.inl bb), none, none] [] (md_cs (s_') z_' g_')))  : ab_R E_X3_addsTo P_X3_addsTo Q 0 [some (.inr (.inl (some 0))), some (.inl fr), some (.inl to), some (.inl bb), none, none] [] (md_cs s_ z_ g_) :=
  ab_R.steps [5, 12, 19, 26, 28, 60] 4 (show ab_cl sp_X3_cuts [.inr (.inl (some 0)), .inl fr] (md_cs s_ z_ g_) (fun r_ k_ => k_.length = ((md_cs s_ z_ g_)).length → ab_R E_X3_addsTo P_X3_addsTo Q 5 [some (.inr (.inl (some 0))), some (.inl fr), some (.inl to), some (.inl bb), none, none] (ab_ret r_ []) k_) from ⟨_, l1, fun r_ k_ hz _ => by obtain ⟨s_', z_', g_', rfl, rfl, hR⟩ := hz; exact hR⟩)
set_option maxRecDepth 100000 in
theorem b_X3_addsTo_5 {Q : ab_Q} {fr : Int} {to : Int} {bb : Int} {s_ : Int → Int} {z_ : mc_T} {g_ : mg_T} (l1 : sp_X3_cuts [.inr (.inl (some 0)), .inl (to + 1)] (md_cs s_ z_ g_) (fun r_ k_ => ∃ (s_' : Int → Int), ∃ (z_' : mc_T), ∃ (g_' : mg_T), r_ = none ∧ k_ = (md_cs (s_') z_' g_') ∧ ab_R E_X3_addsTo P_X3_addsTo Q 12 [some (.inr (.inl (some 0))), some (.inl fr), some (.inl to), some (.inl bb), none, none] [] (md_cs (s_') z_' g_')))  : ab_R E_X3_addsTo P_X3_addsTo Q 5 [some (.inr (.inl (some 0))), some (.inl fr), some (.inl to), some (.inl bb), none, none] [] (md_cs s_ z_ g_) :=
  ab_R.steps [5, 12, 19, 26, 28, 60] 6 (show ab_cl sp_X3_cuts [.inr (.inl (some 0)), .inl (to + 1)] (md_cs s_ z_ g_) (fun r_ k_ => k_.length = ((md_cs s_ z_ g_)).length → ab_R E_X3_addsTo P_X3_addsTo Q 12 [some (.inr (.inl (some 0))), some (.inl fr), some (.inl to), some (.inl bb), none, none] (ab_ret r_ []) k_) from ⟨_, l1, fun r_ k_ hz _ => by obtain ⟨s_', z_', g_', rfl, rfl, hR⟩ := hz; exact hR⟩)
set_option maxRecDepth 100000 in
theorem b_X3_addsTo_12 {Q : ab_Q} {fr : Int} {to : Int} {bb : Int} {s_ : Int → Int} {z_ : mc_T} {g_ : mg_T} (l1 : sp_X3_chunkFrom [.inr (.inl (some 0)), .inl (to + 1)] (md_cs s_ z_ g_) (fun r_ k_ => ∃ (x_ : Int), r_ = some (.inl x_) ∧ k_ = (md_cs s_ z_ g_) ∧ ab_R E_X3_addsTo P_X3_addsTo Q 19 [some (.inr (.inl (some 0))), some (.inl fr), some (.inl to), some (.inl bb), none, none] [.inl x_] (md_cs s_ z_ g_)))  : ab_R E_X3_addsTo P_X3_addsTo Q 12 [some (.inr (.inl (some 0))), some (.inl fr), some (.inl to), some (.inl bb), none, none] [] (md_cs s_ z_ g_) :=
  ab_R.steps [5, 12, 19, 26, 28, 60] 6 (show ab_cl sp_X3_chunkFrom [.inr (.inl (some 0)), .inl (to + 1)] (md_cs s_ z_ g_) (fun r_ k_ => k_.length = ((md_cs s_ z_ g_)).length → ab_R E_X3_addsTo P_X3_addsTo Q 19 [some (.inr (.inl (some 0))), some (.inl fr), some (.inl to), some (.inl bb), none, none] (ab_ret r_ []) k_) from ⟨_, l1, fun r_ k_ hz _ => by obtain ⟨x_, rfl, rfl, hR⟩ := hz; exact hR⟩)
set_option maxRecDepth 100000 in
theorem b_X3_addsTo_19 {Q : ab_Q} {fr : Int} {to : Int} {bb : Int} {t0 : Int} {s_ : Int → Int} {z_ : mc_T} {g_ : mg_T} (l1 : sp_X3_chunkFrom [.inr (.inl (some 0)), .inl fr] (md_cs s_ z_ g_) (fun r_ k_ => ∃ (x_ : Int), r_ = some (.inl x_) ∧ k_ = (md_cs s_ z_ g_) ∧ ab_R E_X3_addsTo P_X3_addsTo Q 26 [some (.inr (.inl (some 0))), some (.inl fr), some (.inl to), some (.inl bb), some (.inl t0), none] [.inl x_] (md_cs s_ z_ g_)))  : ab_R E_X3_addsTo P_X3_addsTo Q 19 [some (.inr (.inl (some 0))), some (.inl fr), some (.inl to), some (.inl bb), none, none] [.inl t0] (md_cs s_ z_ g_) :=
  ab_R.steps [5, 12, 19, 26, 28, 60] 5 (show ab_cl sp_X3_chunkFrom [.inr (.inl (some 0)), .inl fr] (md_cs s_ z_ g_) (fun r_ k_ => k_.length = ((md_cs s_ z_ g_)).length → ab_R E_X3_addsTo P_X3_addsTo Q 26 [some (.inr (.inl (some 0))), some (.inl fr), some (.inl to), some (.inl bb), some (.inl t0), none] (ab_ret r_ []) k_) from ⟨_, l1, fun r_ k_ hz _ => by obtain ⟨x_, rfl, rfl, hR⟩ := hz; exact hR⟩)
set_option maxRecDepth 100000 in
theorem b_X3_addsTo_26 {Q : ab_Q} {fr : Int} {to : Int} {bb : Int} {en : Int} {t0 : Int} {s_ : Int → Int} {z_ : mc_T} {g_ : mg_T} (l1 : ab_R E_X3_addsTo P_X3_addsTo Q 28 [some (.inr (.inl (some 0))), some (.inl fr), some (.inl to), some (.inl bb), some (.inl en), some (.inl t0)] [] (md_cs s_ z_ g_))  : ab_R E_X3_addsTo P_X3_addsTo Q 26 [some (.inr (.inl (some 0))), some (.inl fr), some (.inl to), some (.inl bb), some (.inl en), none] [.inl t0] (md_cs s_ z_ g_) :=
  ab_R.steps [5, 12, 19, 26, 28, 60] 3 (show ab_R E_X3_addsTo P_X3_addsTo Q 28 [some (.inr (.inl (some 0))), some (.inl fr), some (.inl to), some (.inl bb), some (.inl en), some (.inl t0)] [] (md_cs s_ z_ g_) from l1)
set_option maxRecDepth 100000 in
theorem b_X3_addsTo_28 {Q : ab_Q} {fr : Int} {to : Int} {bb : Int} {en : Int} {c : Int} {s_ : Int → Int} {z_ : mc_T} {g_ : mg_T} (l1 : en ≤ c → sp_X3_evens [.inr (.inl (some 0))] (md_cs s_ z_ g_) (fun r_ k_ => ∃ (s_' : Int → Int), ∃ (z_' : mc_T), ∃ (g_' : mg_T), r_ = none ∧ k_ = (md_cs (s_') z_' g_') ∧ ab_R E_X3_addsTo P_X3_addsTo Q 60 [some (.inr (.inl (some 0))), some (.inl fr), some (.inl to), some (.inl bb), some (.inl en), some (.inl c)] [] (md_cs (s_') z_' g_'))) (l2 : c < en → ab_R E_X3_addsTo P_X3_addsTo Q 28 [some (.inr (.inl (some 0))), some (.inl fr), some (.inl to), some (.inl bb), some (.inl en), some (.inl (c + 1))] [] (md_cs ((ab_up s_ (191 + c) ((s_ (191 + c)) + bb))) z_ g_)) (p1 : (ab_r c ∧ ab_r en) := by intros; (try unfold ab_r); omega) (p2 : c < en → (0 ≤ (191 + c) ∧ (191 + c) < 255) := by intros; (try unfold ab_r); omega) : ab_R E_X3_addsTo P_X3_addsTo Q 28 [some (.inr (.inl (some 0))), some (.inl fr), some (.inl to), some (.inl bb), some (.inl en), some (.inl c)] [] (md_cs s_ z_ g_) :=
  ab_R.steps [5, 12, 19, 26, 28, 60] 17 (show ((ab_r c ∧ ab_r en) ∧ ((en ≤ c → ab_cl sp_X3_evens [.inr (.inl (some 0))] (md_cs s_ z_ g_) (fun r_ k_ => k_.length = ((md_cs s_ z_ g_)).length → ab_R E_X3_addsTo P_X3_addsTo Q 60 [some (.inr (.inl (some 0))), some (.inl fr), some (.inl to), some (.inl bb), some (.inl en), some (.inl c)] (ab_ret r_ []) k_)) ∧ (c < en → ((0 ≤ (191 + c) ∧ (191 + c) < 255) ∧ ((0 ≤ (191 + c) ∧ (191 + c) < 255) ∧ ab_R E_X3_addsTo P_X3_addsTo Q 28 [some (.inr (.inl (some 0))), some (.inl fr), some (.inl to), some (.inl bb), some (.inl en), some (.inl (c + 1))] [] (md_cs ((ab_up s_ (191 + c) ((s_ (191 + c)) + bb))) z_ g_)))))) from ⟨p1, ⟨fun h1 => ⟨_, (l1 h1), fun r_ k_ hz _ => by obtain ⟨s_', z_', g_', rfl, rfl, hR⟩ := hz; exact hR⟩, fun h2 => ⟨(p2 h2), ⟨(p2 h2), (l2 h2)⟩⟩⟩⟩)
set_option maxRecDepth 100000 in
theorem b_X3_addsTo_60 {Q : ab_Q} {fr : Int} {to : Int} {bb : Int} {en : Int} {c : Int} {s_ : Int → Int} {z_ : mc_T} {g_ : mg_T} (l1 : Q none (md_cs s_ z_ g_))  : ab_R E_X3_addsTo P_X3_addsTo Q 60 [some (.inr (.inl (some 0))), some (.inl fr), some (.inl to), some (.inl bb), some (.inl en), some (.inl c)] [] (md_cs s_ z_ g_) :=
  ab_R.steps [5, 12, 19, 26, 28, 60] 2 (show Q none (md_cs s_ z_ g_) from l1)
theorem mq_R_mid {s s' : Int → Int} {A M B : List mq_K} {g : mq_K → mq_K} (hR : mq_R (md_v s) (A ++ (M ++ B))) (hW : mq_W (A ++ (M ++ B))) (hg : ∀ k, (g k).1 = k.1) (h0 : ∀ j : Int, j < 127 → s' j = s j) (h1 : ∀ i : Int, 0 ≤ i → i < (A ++ (M ++ B)).length → (i < A.length ∨ (A.length : Int) + M.length ≤ i) → s' (127 + i) = s (127 + i) ∧ s' (191 + i) = s (191 + i)) (h2 : ∀ (i : Nat) (k : mq_K), A.length ≤ i → i < A.length + M.length → (A ++ (M ++ B))[i]? = some k → s' (127 + (i : Int)) = (g k).2.1 ∧ s' (191 + (i : Int)) = (g k).2.2) : mq_R (md_v s') (A ++ (M.map g ++ B)) := by
  have hcl := hW.chunks
  have hfl := hW.2
  refine mq_R_pt ?_ (fun i k hk => ?_) ?_ ?_
  · rw [mq_flat_midmap hg]
    exact mq_al.eq hR.1 (fun i hi => by
      show s' (3 + (i : Int)) = s (3 + (i : Int))
      exact h0 _ (by omega))
  · rw [mq_midmap] at hk
    by_cases y : A.length ≤ i ∧ i < A.length + M.length
    · rw [if_pos y] at hk
      obtain ⟨k0, hk0, rfl⟩ := Option.map_eq_some_iff.mp hk
      obtain ⟨e1, e2⟩ := h2 i k0 y.1 y.2 hk0
      refine ⟨?_, e1, e2⟩
      rw [hg, h0 _ (by have := (List.getElem?_eq_some_iff.mp hk0).1; omega)]
      exact hR.len hk0
    · rw [if_neg y] at hk
      have hi := (List.getElem?_eq_some_iff.mp hk).1
      obtain ⟨e1, e2⟩ := h1 i (by omega) (by omega) (by omega)
      refine ⟨?_, e1.trans (hR.turn hk), e2.trans (hR.sum hk)⟩
      rw [h0 _ (by omega)]
      exact hR.len hk
  · rw [mq_flat_midmap hg, h0 0 (by omega)]
    exact hR.2.2.2.2.1
  · rw [h0 1 (by omega)]
    have h := hR.2.2.2.2.2
    rw [show (A ++ (M.map g ++ B)).length = (A ++ (M ++ B)).length by simp]
    exact h
theorem vc_X3_turns {av : List ab_V} {cs : List ab_C} {Q : ab_Q} (h : sp_X3_turns av cs Q) : (ab_lv0 av).length ≤ 6 ∧ ab_R E_X3_turns P_X3_turns Q 0 (ab_ent av 6) [] cs := by
  obtain ⟨s, ⟨od, nk, nl, nt, ns⟩, g, q, f, n, x, y, rfl, rfl, hR, hW, hx, hy, hfn, hQ⟩ := h
  refine ⟨Nat.le_of_ble_eq_true rfl, ?_⟩
  have hWt := mq_W_trn hW hfn
  obtain ⟨A, M, B, w1, w2, t1, t2, t3, t4, t5, t6, t7, t8, t9⟩ := mq_two hW hfn
  have hpq : mq_trn q f n = (A ++ (M.reverse.map mq_flip ++ B), w1 + w2) := by unfold mq_trn; rw [t1]
  rw [hpq] at hQ hWt
  dsimp only at hQ hWt
  have hfl := hW.2
  have hcl := t6.chunks
  refine b_X3_turns_0 ⟨_, _, _, q, f, _, rfl, rfl, hR, hW, hx, by omega, fun s1 z1 hr1 hw1 => ⟨_, z1, g, rfl, rfl, ?_⟩⟩
  obtain ⟨od1, nk1, nl1, nt1, ns1⟩ := z1
  refine b_X3_turns_5 ⟨_, _, _, _, f + n, _, rfl, rfl, hr1, t3, by omega, by omega, fun s2 z2 hr2 hw2 => ⟨_, z2, g, rfl, rfl, ?_⟩⟩
  obtain ⟨od2, nk2, nl2, nt2, ns2⟩ := z2
  rw [t5] at hr2 hw2
  rw [t2] at hw1
  dsimp only at hr2 hw2
  have hr2' : mq_R (md_v s2) (A ++ (M ++ B)) := by simpa using hr2
  have t6' : mq_W ((A ++ M) ++ B) := by simpa using t6
  refine b_X3_turns_12 ⟨_, _, _, A, M ++ B, _, rfl, rfl, hr2', t6, by omega, _, rfl, rfl, ?_⟩
  refine b_X3_turns_17 ⟨_, _, _, A ++ M, B, _, rfl, rfl, hr2, t6', by rw [mq_flat_app, List.length_append]; omega, _, rfl, rfl, ?_⟩
  refine b_X3_turns_25 ?_
  have c2 : s2 1 = ((A ++ (M ++ B)).length : Nat) := hr2'.2.2.2.2.2
  simp only [List.length_append] at c2 hcl ⊢
  generalize ha : (A.length : Int) = a
  generalize hb : ((A.length + M.length : Nat) : Int) = b
  have third : ∀ (z3 : mc_T) (s3 : Int → Int), mq_R (md_v s3) (A ++ (M.reverse ++ B)) → mq_W (A ++ (M.reverse ++ B)) → s3 2 = s2 2 → ∀ (m : Nat) (c : Int) (s4 : Int → Int), c + m = b → a ≤ c → (∀ j : Int, s4 j = if 127 + a ≤ j ∧ j < 127 + c then 1 - s3 j else s3 j) →
      ab_R E_X3_turns P_X3_turns Q 88 [some (.inr (.inl (some 0))), some (.inl x), some (.inl y), some (.inl a), some (.inl b), some (.inl c)] [] (md_cs s4 z3 g) := by
    intro z3 s3 hr3 hW3 hw3 m
    obtain ⟨od3, nk3, nl3, nt3, ns3⟩ := z3
    induction m with
    | zero =>
      intro c s4 g1 g2 g3
      have hm : mq_R (md_v s4) (A ++ (M.reverse.map mq_flip ++ B)) := by
        refine mq_R_mid hr3 hW3 (fun k => rfl) (fun j hj => by rw [g3, if_neg (by omega)]) (fun i i1 i2 i3 => ⟨?_, ?_⟩) (fun i k i1 i2 hk => ⟨?_, ?_⟩)
        · rw [List.length_reverse] at i3
          rw [g3, if_neg (by omega)]
        · simp only [List.length_append, List.length_reverse] at i2
          rw [g3, if_neg (by omega)]
        · rw [List.length_reverse] at i2
          rw [g3, if_pos (by omega)]
          have e : s3 (127 + (i : Int)) = _ := hr3.turn hk
          rw [e]; rfl
        · rw [List.length_reverse] at i2
          rw [g3, if_neg (by omega)]
          have e : s3 (191 + (i : Int)) = _ := hr3.sum hk
          rw [e]; rfl
      have o2 : s4 2 = s3 2 := by rw [g3, if_neg (by omega)]
      refine b_X3_turns_88 (fun _ => ⟨_, _, _, _, rfl, rfl, hm, hWt, fun s' z' q1 q2 => ⟨s', z', g, rfl, rfl, ?_⟩⟩) (fun _ => by omega)
      obtain ⟨od5, nk5, nl5, nt5, ns5⟩ := z'
      exact b_X3_turns_127 (hQ s' _ q1 (by omega))
    | succ m ih =>
      intro c s4 g1 g2 g3
      refine b_X3_turns_88 (fun _ => by omega) (fun _ => ih _ _ (by omega) (by omega) (fun j => ?_))
      have o : s4 (127 + c) = s3 (127 + c) := by rw [g3, if_neg (by omega)]
      rw [o]
      by_cases y1 : j = 127 + c
      · rw [ab_up_eq y1, if_pos (by omega), y1]
      · rw [ab_up_ne y1, g3]
        by_cases y2 : 127 + a ≤ j ∧ j < 127 + c
        · rw [if_pos y2, if_pos (by omega)]
        · rw [if_neg y2, if_neg (by omega)]
  have first : ∀ (m : Nat) (c : Int) (od3 : Int → Int), c + m = s2 1 → 0 ≤ c → (∀ i : Int, 0 ≤ i → i < c → od3 i = if a ≤ i ∧ i < b then a + b - 1 - i else i) →
      ab_R E_X3_turns P_X3_turns Q 30 [some (.inr (.inl (some 0))), some (.inl x), some (.inl y), some (.inl a), some (.inl b), some (.inl c)] [] (md_cs s2 (od3, nk2, nl2, nt2, ns2) g) := by
    intro m
    induction m with
    | zero =>
      intro c od3 g1 g2 g3
      have hW3 : mq_W (A ++ (M.reverse ++ B)) := mq_W_perm t6 (fun k hk => by simpa using hk) (by simp only [mq_flat_app, List.length_append, mq_flat_rev])
      refine b_X3_turns_30 (fun _ => ⟨s2, od3, _, _, _, _, _, A ++ (M ++ B), A ++ (M.reverse ++ B), rfl, rfl, hr2', t6, by simp, by simp only [mq_flat_app, List.length_append, mq_flat_rev], fun i hi => ?_, fun s3 z3 hr3 hw3 => ⟨s3, z3, g, rfl, rfl, ?_⟩⟩) (fun _ _ => by omega) (fun _ _ _ => by omega) (fun _ _ _ => by omega)
      · simp only [List.length_append] at hi
        by_cases y1 : a ≤ i ∧ (i : Int) < b
        · refine ⟨A.length + (A.length + M.length) - 1 - i, ?_, by simp only [List.length_append]; omega, ?_⟩
          · rw [g3 i (by omega) (by omega), if_pos y1]; omega
          · rw [List.getElem?_append_right (by omega), List.getElem?_append_left (by rw [List.length_reverse]; omega), List.getElem?_reverse (by omega), List.getElem?_append_right (by omega), List.getElem?_append_left (by omega)]
            congr 1; omega
        · refine ⟨i, ?_, by simp only [List.length_append]; omega, ?_⟩
          · rw [g3 i (by omega) (by omega), if_neg y1]
          · by_cases y2 : i < A.length
            · rw [List.getElem?_append_left y2, List.getElem?_append_left y2]
            · rw [List.getElem?_append_right (by omega), List.getElem?_append_right (by rw [List.length_reverse]; omega), List.getElem?_append_right (by omega), List.getElem?_append_right (by omega), List.length_reverse]
      · obtain ⟨od4, nk4, nl4, nt4, ns4⟩ := z3
        exact b_X3_turns_85 (third _ s3 hr3 hW3 hw3 M.length a s3 (by omega) (by omega) (fun j => by rw [if_neg (by omega)]))
    | succ m ih =>
      intro c od3 g1 g2 g3
      refine b_X3_turns_30 (fun _ => by omega) (fun _ _ => ih _ _ (by omega) (by omega) (fun i i1 i2 => ?_)) (fun _ _ _ => ih _ _ (by omega) (by omega) (fun i i1 i2 => ?_)) (fun _ _ _ => ih _ _ (by omega) (by omega) (fun i i1 i2 => ?_))
      · by_cases y1 : i = c
        · rw [ab_up_eq y1, if_neg (by omega), y1]
        · rw [ab_up_ne y1]; exact g3 i i1 (by omega)
      · by_cases y1 : i = c
        · rw [ab_up_eq y1, if_pos (by omega), y1]
        · rw [ab_up_ne y1]; exact g3 i i1 (by omega)
      · by_cases y1 : i = c
        · rw [ab_up_eq y1, if_neg (by omega), y1]
        · rw [ab_up_ne y1]; exact g3 i i1 (by omega)
  exact first (A.length + (M.length + B.length)) 0 od2 (by omega) (by omega) (fun i i1 i2 => by omega)
theorem mt_X3_turns (l : Launch) : ab_MT l mi_X3_turns sp_X3_turns := ab_MT.of (own := "RootChunksModel") (E := E_X3_turns) (P := P_X3_turns) (M := M_X3_turns) (nL := 6) (ty := 9) (by decide) rfl rfl tk_X3 pk_X3_turns ck_X3_turns (ab_CT'.cons (mt_X3_cuts l) (ab_CT'.cons (mt_X3_cuts l) (ab_CT'.cons (mt_X3_chunkFrom l) (ab_CT'.cons (mt_X3_chunkFrom l) (ab_CT'.cons (mt_X3_reorders l) (ab_CT'.cons (mt_X3_evens l) ab_CT'.nil)))))) (fun av cs Q h => vc_X3_turns h)
theorem vc_X3_addsTo {av : List ab_V} {cs : List ab_C} {Q : ab_Q} (h : sp_X3_addsTo av cs Q) : (ab_lv0 av).length ≤ 6 ∧ ab_R E_X3_addsTo P_X3_addsTo Q 0 (ab_ent av 6) [] cs := by
  obtain ⟨s, z, g, q, f, n, x, y, v, rfl, rfl, hR, hW, hx, hy, hfn, hv, hQ⟩ := h
  refine ⟨Nat.le_of_ble_eq_true rfl, ?_⟩
  have hWt := mq_W_add hW hfn hv
  obtain ⟨A, M, B, w1, w2, t1, t2, t3, t4, t5, t6, t7, t8, t9⟩ := mq_two hW hfn
  have hpq : mq_add q f n v = (A ++ (M.map (mq_addk v) ++ B), w1 + w2) := by unfold mq_add; rw [t1]
  rw [hpq] at hQ hWt
  dsimp only at hQ hWt
  have hfl := hW.2
  have hcl := t6.chunks
  refine b_X3_addsTo_0 ⟨_, _, _, q, f, _, rfl, rfl, hR, hW, hx, by omega, fun s1 z1 hr1 hw1 => ⟨_, z1, g, rfl, rfl, ?_⟩⟩
  refine b_X3_addsTo_5 ⟨_, _, _, _, f + n, _, rfl, rfl, hr1, t3, by omega, by omega, fun s2 z2 hr2 hw2 => ⟨_, z2, g, rfl, rfl, ?_⟩⟩
  rw [t5] at hr2 hw2
  rw [t2] at hw1
  dsimp only at hr2 hw2
  have hr2' : mq_R (md_v s2) (A ++ (M ++ B)) := by simpa using hr2
  have t6' : mq_W ((A ++ M) ++ B) := by simpa using t6
  refine b_X3_addsTo_12 ⟨_, _, _, A ++ M, B, _, rfl, rfl, hr2, t6', by rw [mq_flat_app, List.length_append]; omega, _, rfl, rfl, ?_⟩
  refine b_X3_addsTo_19 ⟨_, _, _, A, M ++ B, _, rfl, rfl, hr2', t6, by omega, _, rfl, rfl, ?_⟩
  refine b_X3_addsTo_26 ?_
  simp only [List.length_append] at hcl ⊢
  generalize ha : (A.length : Int) = a
  generalize hb : ((A.length + M.length : Nat) : Int) = b
  have loop : ∀ (m : Nat) (c : Int) (s4 : Int → Int), c + m = b → a ≤ c → (∀ j : Int, s4 j = if 191 + a ≤ j ∧ j < 191 + c then s2 j + v else s2 j) →
      ab_R E_X3_addsTo P_X3_addsTo Q 28 [some (.inr (.inl (some 0))), some (.inl x), some (.inl y), some (.inl v), some (.inl b), some (.inl c)] [] (md_cs s4 z2 g) := by
    intro m
    induction m with
    | zero =>
      intro c s4 g1 g2 g3
      have hm : mq_R (md_v s4) (A ++ (M.map (mq_addk v) ++ B)) := by
        refine mq_R_mid hr2' t6 (fun k => rfl) (fun j hj => by rw [g3, if_neg (by omega)]) (fun i i1 i2 i3 => ⟨?_, ?_⟩) (fun i k i1 i2 hk => ⟨?_, ?_⟩)
        · simp only [List.length_append] at i2
          rw [g3, if_neg (by omega)]
        · rw [g3, if_neg (by omega)]
        · rw [g3, if_neg (by omega)]
          have e : s2 (127 + (i : Int)) = _ := hr2'.turn hk
          rw [e]; rfl
        · rw [g3, if_pos (by omega)]
          have e : s2 (191 + (i : Int)) = _ := hr2'.sum hk
          rw [e]; rfl
      have o2 : s4 2 = s2 2 := by rw [g3, if_neg (by omega)]
      exact b_X3_addsTo_28 (fun _ => ⟨_, _, _, _, rfl, rfl, hm, hWt, fun s' z' q1 q2 => ⟨s', z', g, rfl, rfl, b_X3_addsTo_60 (hQ s' _ q1 (by omega))⟩⟩) (fun _ => by omega)
    | succ m ih =>
      intro c s4 g1 g2 g3
      refine b_X3_addsTo_28 (fun _ => by omega) (fun _ => ih _ _ (by omega) (by omega) (fun j => ?_))
      have o : s4 (191 + c) = s2 (191 + c) := by rw [g3, if_neg (by omega)]
      rw [o]
      by_cases y1 : j = 191 + c
      · rw [ab_up_eq y1, if_pos (by omega), y1]
      · rw [ab_up_ne y1, g3]
        by_cases y2 : 191 + a ≤ j ∧ j < 191 + c
        · rw [if_pos y2, if_pos (by omega)]
        · rw [if_neg y2, if_neg (by omega)]
  exact loop M.length a s2 (by omega) (by omega) (fun j => by rw [if_neg (by omega)])
theorem mt_X3_addsTo (l : Launch) : ab_MT l mi_X3_addsTo sp_X3_addsTo := ab_MT.of (own := "RootChunksModel") (E := E_X3_addsTo) (P := P_X3_addsTo) (M := M_X3_addsTo) (nL := 6) (ty := 9) (by decide) rfl rfl tk_X3 pk_X3_addsTo ck_X3_addsTo (ab_CT'.cons (mt_X3_cuts l) (ab_CT'.cons (mt_X3_cuts l) (ab_CT'.cons (mt_X3_chunkFrom l) (ab_CT'.cons (mt_X3_chunkFrom l) (ab_CT'.cons (mt_X3_evens l) ab_CT'.nil))))) (fun av cs Q h => vc_X3_addsTo h)
