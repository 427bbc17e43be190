def sp_X1_rootOfLength : ab_Sp := fun av cs Q => ∃ (r : rw_T) (q : List mq_K), av = [.inr (.inl (some 0))] ∧ cs = rw_cs r ∧ mq_R r q ∧ mq_W q ∧ Q (some (.inl (mq_rt (mq_flat q).length : Int))) (rw_cs r)
def sp_X1_partLongChunks : ab_Sp := fun av cs Q => ∃ (r : rw_T) (q : List mq_K) (t : Nat) (x : Int), av = [.inr (.inl (some 0)), .inl x] ∧ cs = rw_cs r ∧ mq_R r q ∧ mq_W q ∧ x = t ∧ 0 < t ∧ t ≤ 7 ∧
  ∀ r' : rw_T, mq_R r' (mq_pt t 60 q).1 → r'.2.2.2.2.2.2 = r.2.2.2.2.2.2 + (mq_pt t 60 q).2 → Q none (rw_cs r')
def sp_X1_joinShortChunks : ab_Sp := fun av cs Q => ∃ (r : rw_T) (q : List mq_K) (t : Nat) (x : Int), av = [.inr (.inl (some 0)), .inl x] ∧ cs = rw_cs r ∧ mq_R r q ∧ mq_W q ∧ x = t ∧ 0 < t ∧ t ≤ 7 ∧
  ∀ r' : rw_T, mq_R r' (mq_js t q).1 → r'.2.2.2.2.2.2 = r.2.2.2.2.2.2 + (mq_js t q).2 → Q none (rw_cs r')
def sp_X1_evenOut : ab_Sp := fun av cs Q => ∃ (r : rw_T) (q : List mq_K), av = [.inr (.inl (some 0))] ∧ cs = rw_cs r ∧ mq_R r q ∧ mq_W q ∧
  ∀ r' : rw_T, mq_R r' (mq_ev q).1 → r'.2.2.2.2.2.2 = r.2.2.2.2.2.2 + (mq_ev q).2 → Q none (rw_cs r')
def P_X1_rootOfLength : List ab_I := [(0, .iconst 1, 1, []), (1, .istore_n 1, 2, []), (2, .iload_n 1, 3, []), (3, .bipush 60, 5, []), (5, .if_icmp .ge 23, 8, [((0 : Int), 28)]), (8, .iload_n 1, 9, []), (9, .iconst 1, 10, []), (10, .iadd, 11, []), (11, .iload_n 1, 12, []), (12, .iconst 1, 13, []), (13, .iadd, 14, []), (14, .imul, 15, []), (15, .aload_n 0, 16, []), (16, .getfield 24, 19, []), (19, .if_icmp .gt 9, 22, [((0 : Int), 28)]), (22, .iinc 1 1, 25, []), (25, .goto (-23), 28, [((0 : Int), 2)]), (28, .iload_n 1, 29, []), (29, .ireturn, 30, [])]
def E_X1_rootOfLength : ab_E := (T_X1, [], [], 0)
def M_X1_rootOfLength : List (Nat × ab_MI) := []
def mi_X1_rootOfLength : ab_MI := (yX1_rootOfLength, cX1_rootOfLength, 2, ab_rty 0, 1, 70)
theorem pk_X1_rootOfLength : P_X1_rootOfLength.all (ab_okI cX1_rootOfLength) = true := by decide +kernel
theorem ck_X1_rootOfLength : P_X1_rootOfLength.all (ab_okC1 "RootChunks$Row" M_X1_rootOfLength E_X1_rootOfLength (1, 70)) = true := by decide +kernel
set_option maxRecDepth 100000 in
theorem b_X1_rootOfLength_0 {Q : ab_Q} {rK : Int → Int} {rL : Int → Int} {rT : Int → Int} {rS : Int → Int} {rn : Int} {rc : Int} {rw : Int} (l1 : ab_R E_X1_rootOfLength P_X1_rootOfLength Q 2 [some (.inr (.inl (some 0))), some (.inl 1)] [] (rw_cs (rK, rL, rT, rS, rn, rc, rw)))  : ab_R E_X1_rootOfLength P_X1_rootOfLength Q 0 [some (.inr (.inl (some 0))), none] [] (rw_cs (rK, rL, rT, rS, rn, rc, rw)) :=
  ab_R.steps [2] 4 (show ab_R E_X1_rootOfLength P_X1_rootOfLength Q 2 [some (.inr (.inl (some 0))), some (.inl 1)] [] (rw_cs (rK, rL, rT, rS, rn, rc, rw)) from l1)
set_option maxRecDepth 100000 in
theorem b_X1_rootOfLength_2 {Q : ab_Q} {rt : Int} {rK : Int → Int} {rL : Int → Int} {rT : Int → Int} {rS : Int → Int} {rn : Int} {rc : Int} {rw : Int} (l1 : (60 : Int) ≤ rt → Q (some (.inl rt)) (rw_cs (rK, rL, rT, rS, rn, rc, rw))) (l2 : rt < (60 : Int) → rn < ((rt + 1) * (rt + 1)) → Q (some (.inl rt)) (rw_cs (rK, rL, rT, rS, rn, rc, rw))) (l3 : rt < (60 : Int) → ((rt + 1) * (rt + 1)) ≤ rn → ab_R E_X1_rootOfLength P_X1_rootOfLength Q 2 [some (.inr (.inl (some 0))), some (.inl (rt + 1))] [] (rw_cs (rK, rL, rT, rS, rn, rc, rw))) (p1 : (ab_r rt ∧ ab_r 60) := by intros; (try unfold ab_r); omega) (p2 : rt < (60 : Int) → (ab_r ((rt + 1) * (rt + 1)) ∧ ab_r rn) := by intros; (try unfold ab_r); omega) : ab_R E_X1_rootOfLength P_X1_rootOfLength Q 2 [some (.inr (.inl (some 0))), some (.inl rt)] [] (rw_cs (rK, rL, rT, rS, rn, rc, rw)) :=
  ab_R.steps [2] 17 (show ((ab_r rt ∧ ab_r 60) ∧ (((60 : Int) ≤ rt → Q (some (.inl rt)) (rw_cs (rK, rL, rT, rS, rn, rc, rw))) ∧ (rt < (60 : Int) → ((ab_r ((rt + 1) * (rt + 1)) ∧ ab_r rn) ∧ ((rn < ((rt + 1) * (rt + 1)) → Q (some (.inl rt)) (rw_cs (rK, rL, rT, rS, rn, rc, rw))) ∧ (((rt + 1) * (rt + 1)) ≤ rn → ab_R E_X1_rootOfLength P_X1_rootOfLength Q 2 [some (.inr (.inl (some 0))), some (.inl (rt + 1))] [] (rw_cs (rK, rL, rT, rS, rn, rc, rw)))))))) from ⟨p1, ⟨fun h1 => (l1 h1), fun h2 => ⟨(p2 h2), ⟨fun h3 => (l2 h2 h3), fun h4 => (l3 h2 h4)⟩⟩⟩⟩)
def P_X1_partLongChunks : List ab_I := [(0, .iconst 0, 1, []), (1, .istore_n 2, 2, []), (2, .iconst 0, 3, []), (3, .istore_n 3, 4, []), (4, .iload_n 3, 5, []), (5, .aload_n 0, 6, []), (6, .getfield 28, 9, []), (9, .if_icmp .ge 48, 12, [((0 : Int), 57)]), (12, .iload_n 3, 13, []), (13, .bipush 60, 15, []), (15, .if_icmp .ge 42, 18, [((0 : Int), 57)]), (18, .aload_n 0, 19, []), (19, .getfield 15, 22, []), (22, .iload_n 3, 23, []), (23, .iaload, 24, []), (24, .iconst 2, 25, []), (25, .iload_n 1, 26, []), (26, .imul, 27, []), (27, .if_icmp .le 15, 30, [((0 : Int), 42)]), (30, .aload_n 0, 31, []), (31, .iload_n 3, 32, []), (32, .iload_n 2, 33, []), (33, .invokevirtual 64, 36, []), (36, .aload_n 0, 37, []), (37, .iload_n 3, 38, []), (38, .iload_n 1, 39, []), (39, .invokevirtual 74, 42, []), (42, .iload_n 2, 43, []), (43, .aload_n 0, 44, []), (44, .getfield 15, 47, []), (47, .iload_n 3, 48, []), (48, .iaload, 49, []), (49, .iadd, 50, []), (50, .istore_n 2, 51, []), (51, .iinc 3 1, 54, []), (54, .goto (-50), 57, [((0 : Int), 4)]), (57, .return_, 58, [])]
def E_X1_partLongChunks : ab_E := (T_X1, [(33, (3, 1, [], 0, sp_X1_settle)), (39, (3, 1, [], 0, sp_X1_part))], [], 9)
def M_X1_partLongChunks : List (Nat × ab_MI) := [(33, mi_X1_settle), (39, mi_X1_part)]
def mi_X1_partLongChunks : ab_MI := (yX1_partLongChunks, cX1_partLongChunks, 4, ab_rty 9, 3, 119)
theorem pk_X1_partLongChunks : P_X1_partLongChunks.all (ab_okI cX1_partLongChunks) = true := by decide +kernel
theorem ck_X1_partLongChunks : P_X1_partLongChunks.all (ab_okC1 "RootChunks$Row" M_X1_partLongChunks E_X1_partLongChunks (3, 119)) = true := by decide +kernel
set_option maxRecDepth 100000 in
theorem b_X1_partLongChunks_0 {Q : ab_Q} {rt : Int} {rK : Int → Int} {rL : Int → Int} {rT : Int → Int} {rS : Int → Int} {rn : Int} {rc : Int} {rw : Int} (l1 : ab_R E_X1_partLongChunks P_X1_partLongChunks Q 4 [some (.inr (.inl (some 0))), some (.inl rt), some (.inl 0), some (.inl 0)] [] (rw_cs (rK, rL, rT, rS, rn, rc, rw)))  : ab_R E_X1_partLongChunks P_X1_partLongChunks Q 0 [some (.inr (.inl (some 0))), some (.inl rt), none, none] [] (rw_cs (rK, rL, rT, rS, rn, rc, rw)) :=
  ab_R.steps [4, 36, 42] 6 (show ab_R E_X1_partLongChunks P_X1_partLongChunks Q 4 [some (.inr (.inl (some 0))), some (.inl rt), some (.inl 0), some (.inl 0)] [] (rw_cs (rK, rL, rT, rS, rn, rc, rw)) from l1)
set_option maxRecDepth 100000 in
theorem b_X1_partLongChunks_4 {Q : ab_Q} {rt : Int} {st : Int} {c : Int} {rK : Int → Int} {rL : Int → Int} {rT : Int → Int} {rS : Int → Int} {rn : Int} {rc : Int} {rw : Int} (l1 : rc ≤ c → Q none (rw_cs (rK, rL, rT, rS, rn, rc, rw))) (l2 : c < rc → (60 : Int) ≤ c → Q none (rw_cs (rK, rL, rT, rS, rn, rc, rw))) (l3 : c < rc → c < (60 : Int) → (rL c) ≤ (2 * rt) → ab_R E_X1_partLongChunks P_X1_partLongChunks Q 42 [some (.inr (.inl (some 0))), some (.inl rt), some (.inl st), some (.inl c)] [] (rw_cs (rK, rL, rT, rS, rn, rc, rw))) (l4 : c < rc → c < (60 : Int) → (2 * rt) < (rL c) → sp_X1_settle [.inr (.inl (some 0)), .inl c, .inl st] (rw_cs (rK, rL, rT, rS, rn, rc, rw)) (fun r_ k_ => ∃ (r' : rw_T), r_ = none ∧ k_ = (rw_cs r') ∧ ab_R E_X1_partLongChunks P_X1_partLongChunks Q 36 [some (.inr (.inl (some 0))), some (.inl rt), some (.inl st), some (.inl c)] [] (rw_cs r'))) (p1 : (ab_r c ∧ ab_r rc) := by intros; (try unfold ab_r); omega) (p2 : c < rc → (ab_r c ∧ ab_r 60) := by intros; (try unfold ab_r); omega) (p3 : c < rc → c < (60 : Int) → (0 ≤ c ∧ c < 60) := by intros; (try unfold ab_r); omega) (p4 : c < rc → c < (60 : Int) → (ab_r (rL c) ∧ ab_r (2 * rt)) := by intros; (try unfold ab_r); omega) : ab_R E_X1_partLongChunks P_X1_partLongChunks Q 4 [some (.inr (.inl (some 0))), some (.inl rt), some (.inl st), some (.inl c)] [] (rw_cs (rK, rL, rT, rS, rn, rc, rw)) :=
  ab_R.steps [4, 36, 42] 20 (show ((ab_r c ∧ ab_r rc) ∧ ((rc ≤ c → Q none (rw_cs (rK, rL, rT, rS, rn, rc, rw))) ∧ (c < rc → ((ab_r c ∧ ab_r 60) ∧ (((60 : Int) ≤ c → Q none (rw_cs (rK, rL, rT, rS, rn, rc, rw))) ∧ (c < (60 : Int) → ((0 ≤ c ∧ c < 60) ∧ ((ab_r (rL c) ∧ ab_r (2 * rt)) ∧ (((rL c) ≤ (2 * rt) → ab_R E_X1_partLongChunks P_X1_partLongChunks Q 42 [some (.inr (.inl (some 0))), some (.inl rt), some (.inl st), some (.inl c)] [] (rw_cs (rK, rL, rT, rS, rn, rc, rw))) ∧ ((2 * rt) < (rL c) → ab_cl sp_X1_settle [.inr (.inl (some 0)), .inl c, .inl st] (rw_cs (rK, rL, rT, rS, rn, rc, rw)) (fun r_ k_ => k_.length = ((rw_cs (rK, rL, rT, rS, rn, rc, rw))).length → ab_R E_X1_partLongChunks P_X1_partLongChunks Q 36 [some (.inr (.inl (some 0))), some (.inl rt), some (.inl st), some (.inl c)] (ab_ret r_ []) k_))))))))))) from ⟨p1, ⟨fun h1 => (l1 h1), fun h2 => ⟨(p2 h2), ⟨fun h3 => (l2 h2 h3), fun h4 => ⟨(p3 h2 h4), ⟨(p4 h2 h4), ⟨fun h5 => (l3 h2 h4 h5), fun h6 => ⟨_, (l4 h2 h4 h6), fun r_ k_ hz _ => by obtain ⟨r', rfl, rfl, hR⟩ := hz; exact hR⟩⟩⟩⟩⟩⟩⟩⟩)
set_option maxRecDepth 100000 in
theorem b_X1_partLongChunks_36 {Q : ab_Q} {rt : Int} {st : Int} {c : Int} {rK : Int → Int} {rL : Int → Int} {rT : Int → Int} {rS : Int → Int} {rn : Int} {rc : Int} {rw : Int} (l1 : sp_X1_part [.inr (.inl (some 0)), .inl c, .inl rt] (rw_cs (rK, rL, rT, rS, rn, rc, rw)) (fun r_ k_ => ∃ (r' : rw_T), r_ = none ∧ k_ = (rw_cs r') ∧ ab_R E_X1_partLongChunks P_X1_partLongChunks Q 42 [some (.inr (.inl (some 0))), some (.inl rt), some (.inl st), some (.inl c)] [] (rw_cs r')))  : ab_R E_X1_partLongChunks P_X1_partLongChunks Q 36 [some (.inr (.inl (some 0))), some (.inl rt), some (.inl st), some (.inl c)] [] (rw_cs (rK, rL, rT, rS, rn, rc, rw)) :=
  ab_R.steps [4, 36, 42] 5 (show ab_cl sp_X1_part [.inr (.inl (some 0)), .inl c, .inl rt] (rw_cs (rK, rL, rT, rS, rn, rc, rw)) (fun r_ k_ => k_.length = ((rw_cs (rK, rL, rT, rS, rn, rc, rw))).length → ab_R E_X1_partLongChunks P_X1_partLongChunks Q 42 [some (.inr (.inl (some 0))), some (.inl rt), some (.inl st), some (.inl c)] (ab_ret r_ []) k_) from ⟨_, l1, fun r_ k_ hz _ => by obtain ⟨r', rfl, rfl, hR⟩ := hz; exact hR⟩)
set_option maxRecDepth 100000 in
theorem b_X1_partLongChunks_42 {Q : ab_Q} {rt : Int} {st : Int} {c : Int} {rK : Int → Int} {rL : Int → Int} {rT : Int → Int} {rS : Int → Int} {rn : Int} {rc : Int} {rw : Int} (l1 : ab_R E_X1_partLongChunks P_X1_partLongChunks Q 4 [some (.inr (.inl (some 0))), some (.inl rt), some (.inl (st + (rL c))), some (.inl (c + 1))] [] (rw_cs (rK, rL, rT, rS, rn, rc, rw))) (p1 : (0 ≤ c ∧ c < 60) := by intros; (try unfold ab_r); omega) : ab_R E_X1_partLongChunks P_X1_partLongChunks Q 42 [some (.inr (.inl (some 0))), some (.inl rt), some (.inl st), some (.inl c)] [] (rw_cs (rK, rL, rT, rS, rn, rc, rw)) :=
  ab_R.steps [4, 36, 42] 11 (show ((0 ≤ c ∧ c < 60) ∧ ab_R E_X1_partLongChunks P_X1_partLongChunks Q 4 [some (.inr (.inl (some 0))), some (.inl rt), some (.inl (st + (rL c))), some (.inl (c + 1))] [] (rw_cs (rK, rL, rT, rS, rn, rc, rw))) from ⟨p1, l1⟩)
def P_X1_joinShortChunks : List ab_I := [(0, .iconst 0, 1, []), (1, .istore_n 2, 2, []), (2, .iconst 0, 3, []), (3, .istore_n 3, 4, []), (4, .iconst 0, 5, []), (5, .istore 4, 7, []), (7, .iload 4, 9, []), (9, .bipush 60, 11, []), (11, .if_icmp .ge 115, 14, [((0 : Int), 126)]), (14, .iload_n 3, 15, []), (15, .iconst 1, 16, []), (16, .iadd, 17, []), (17, .aload_n 0, 18, []), (18, .getfield 28, 21, []), (21, .if_icmp .ge 105, 24, [((0 : Int), 126)]), (24, .aload_n 0, 25, []), (25, .getfield 15, 28, []), (28, .iload_n 3, 29, []), (29, .iaload, 30, []), (30, .aload_n 0, 31, []), (31, .getfield 15, 34, []), (34, .iload_n 3, 35, []), (35, .iconst 1, 36, []), (36, .iadd, 37, []), (37, .iaload, 38, []), (38, .iadd, 39, []), (39, .iload_n 1, 40, []), (40, .if_icmp .gt 68, 43, [((0 : Int), 108)]), (43, .aload_n 0, 44, []), (44, .iload_n 3, 45, []), (45, .iload_n 2, 46, []), (46, .invokevirtual 64, 49, []), (49, .aload_n 0, 50, []), (50, .iload_n 3, 51, []), (51, .iconst 1, 52, []), (52, .iadd, 53, []), (53, .iload_n 2, 54, []), (54, .aload_n 0, 55, []), (55, .getfield 15, 58, []), (58, .iload_n 3, 59, []), (59, .iaload, 60, []), (60, .iadd, 61, []), (61, .invokevirtual 64, 64, []), (64, .aload_n 0, 65, []), (65, .dup, 66, []), (66, .getfield 31, 69, []), (69, .aload_n 0, 70, []), (70, .getfield 15, 73, []), (73, .iload_n 3, 74, []), (74, .iconst 1, 75, []), (75, .iadd, 76, []), (76, .iaload, 77, []), (77, .iadd, 78, []), (78, .putfield 31, 81, []), (81, .aload_n 0, 82, []), (82, .getfield 15, 85, []), (85, .iload_n 3, 86, []), (86, .dup2, 87, []), (87, .iaload, 88, []), (88, .aload_n 0, 89, []), (89, .getfield 15, 92, []), (92, .iload_n 3, 93, []), (93, .iconst 1, 94, []), (94, .iadd, 95, []), (95, .iaload, 96, []), (96, .iadd, 97, []), (97, .iastore, 98, []), (98, .aload_n 0, 99, []), (99, .iload_n 3, 100, []), (100, .iconst 1, 101, []), (101, .iadd, 102, []), (102, .invokevirtual 60, 105, []), (105, .goto 15, 108, [((0 : Int), 120)]), (108, .iload_n 2, 109, []), (109, .aload_n 0, 110, []), (110, .getfield 15, 113, []), (113, .iload_n 3, 114, []), (114, .iaload, 115, []), (115, .iadd, 116, []), (116, .istore_n 2, 117, []), (117, .iinc 3 1, 120, []), (120, .iinc 4 1, 123, []), (123, .goto (-116), 126, [((0 : Int), 7)]), (126, .return_, 127, [])]
def E_X1_joinShortChunks : ab_E := (T_X1, [(46, (3, 1, [], 0, sp_X1_settle)), (61, (3, 1, [], 0, sp_X1_settle)), (102, (2, 1, [], 0, sp_X1_closeChunk))], [], 9)
def M_X1_joinShortChunks : List (Nat × ab_MI) := [(46, mi_X1_settle), (61, mi_X1_settle), (102, mi_X1_closeChunk)]
def mi_X1_joinShortChunks : ab_MI := (yX1_joinShortChunks, cX1_joinShortChunks, 5, ab_rty 9, 3, 119)
theorem pk_X1_joinShortChunks : P_X1_joinShortChunks.all (ab_okI cX1_joinShortChunks) = true := by decide +kernel
theorem ck_X1_joinShortChunks : P_X1_joinShortChunks.all (ab_okC1 "RootChunks$Row" M_X1_joinShortChunks E_X1_joinShortChunks (3, 119)) = true := by decide +kernel
set_option maxRecDepth 100000 in
theorem b_X1_joinShortChunks_0 {Q : ab_Q} {rt : Int} {rK : Int → Int} {rL : Int → Int} {rT : Int → Int} {rS : Int → Int} {rn : Int} {rc : Int} {rw : Int} (l1 : ab_R E_X1_joinShortChunks P_X1_joinShortChunks Q 7 [some (.inr (.inl (some 0))), some (.inl rt), some (.inl 0), some (.inl 0), some (.inl 0)] [] (rw_cs (rK, rL, rT, rS, rn, rc, rw)))  : ab_R E_X1_joinShortChunks P_X1_joinShortChunks Q 0 [some (.inr (.inl (some 0))), some (.inl rt), none, none, none] [] (rw_cs (rK, rL, rT, rS, rn, rc, rw)) :=
  ab_R.steps [7, 49, 64, 105] 8 (show ab_R E_X1_joinShortChunks P_X1_joinShortChunks Q 7 [some (.inr (.inl (some 0))), some (.inl rt), some (.inl 0), some (.inl 0), some (.inl 0)] [] (rw_cs (rK, rL, rT, rS, rn, rc, rw)) from l1)
set_option maxRecDepth 100000 in
theorem b_X1_joinShortChunks_7 {Q : ab_Q} {rt : Int} {st : Int} {c : Int} {sp : Int} {rK : Int → Int} {rL : Int → Int} {rT : Int → Int} {rS : Int → Int} {rn : Int} {rc : Int} {rw : Int} (l1 : (60 : Int) ≤ sp → Q none (rw_cs (rK, rL, rT, rS, rn, rc, rw))) (l2 : sp < (60 : Int) → rc ≤ (c + 1) → Q none (rw_cs (rK, rL, rT, rS, rn, rc, rw))) (l3 : sp < (60 : Int) → (c + 1) < rc → rt < ((rL c) + (rL (c + 1))) → ab_R E_X1_joinShortChunks P_X1_joinShortChunks Q 7 [some (.inr (.inl (some 0))), some (.inl rt), some (.inl (st + (rL c))), some (.inl (c + 1)), some (.inl (sp + 1))] [] (rw_cs (rK, rL, rT, rS, rn, rc, rw))) (l4 : sp < (60 : Int) → (c + 1) < rc → ((rL c) + (rL (c + 1))) ≤ rt → sp_X1_settle [.inr (.inl (some 0)), .inl c, .inl st] (rw_cs (rK, rL, rT, rS, rn, rc, rw)) (fun r_ k_ => ∃ (r' : rw_T), r_ = none ∧ k_ = (rw_cs r') ∧ ab_R E_X1_joinShortChunks P_X1_joinShortChunks Q 49 [some (.inr (.inl (some 0))), some (.inl rt), some (.inl st), some (.inl c), some (.inl sp)] [] (rw_cs r'))) (p1 : (ab_r sp ∧ ab_r 60) := by intros; (try unfold ab_r); omega) (p2 : sp < (60 : Int) → (ab_r (c + 1) ∧ ab_r rc) := by intros; (try unfold ab_r); omega) (p3 : sp < (60 : Int) → (c + 1) < rc → (0 ≤ c ∧ c < 60) := by intros; (try unfold ab_r); omega) (p4 : sp < (60 : Int) → (c + 1) < rc → (0 ≤ (c + 1) ∧ (c + 1) < 60) := by intros; (try unfold ab_r); omega) (p5 : sp < (60 : Int) → (c + 1) < rc → (ab_r ((rL c) + (rL (c + 1))) ∧ ab_r rt) := by intros; (try unfold ab_r); omega) (p6 : sp < (60 : Int) → (c + 1) < rc → rt < ((rL c) + (rL (c + 1))) → (0 ≤ c ∧ c < 60) := by intros; (try unfold ab_r); omega) : ab_R E_X1_joinShortChunks P_X1_joinShortChunks Q 7 [some (.inr (.inl (some 0))), some (.inl rt), some (.inl st), some (.inl c), some (.inl sp)] [] (rw_cs (rK, rL, rT, rS, rn, rc, rw)) :=
  ab_R.steps [7, 49, 64, 105] 34 (show ((ab_r sp ∧ ab_r 60) ∧ (((60 : Int) ≤ sp → Q none (rw_cs (rK, rL, rT, rS, rn, rc, rw))) ∧ (sp < (60 : Int) → ((ab_r (c + 1) ∧ ab_r rc) ∧ ((rc ≤ (c + 1) → Q none (rw_cs (rK, rL, rT, rS, rn, rc, rw))) ∧ ((c + 1) < rc → ((0 ≤ c ∧ c < 60) ∧ ((0 ≤ (c + 1) ∧ (c + 1) < 60) ∧ ((ab_r ((rL c) + (rL (c + 1))) ∧ ab_r rt) ∧ ((rt < ((rL c) + (rL (c + 1))) → ((0 ≤ c ∧ c < 60) ∧ ab_R E_X1_joinShortChunks P_X1_joinShortChunks Q 7 [some (.inr (.inl (some 0))), some (.inl rt), some (.inl (st + (rL c))), some (.inl (c + 1)), some (.inl (sp + 1))] [] (rw_cs (rK, rL, rT, rS, rn, rc, rw)))) ∧ (((rL c) + (rL (c + 1))) ≤ rt → ab_cl sp_X1_settle [.inr (.inl (some 0)), .inl c, .inl st] (rw_cs (rK, rL, rT, rS, rn, rc, rw)) (fun r_ k_ => k_.length = ((rw_cs (rK, rL, rT, rS, rn, rc, rw))).length → ab_R E_X1_joinShortChunks P_X1_joinShortChunks Q 49 [some (.inr (.inl (some 0))), some (.inl rt), some (.inl st), some (.inl c), some (.inl sp)] (ab_ret r_ []) k_)))))))))))) from ⟨p1, ⟨fun h1 => (l1 h1), fun h2 => ⟨(p2 h2), ⟨fun h3 => (l2 h2 h3), fun h4 => ⟨(p3 h2 h4), ⟨(p4 h2 h4), ⟨(p5 h2 h4), ⟨fun h5 => ⟨(p6 h2 h4 h5), (l3 h2 h4 h5)⟩, fun h6 => ⟨_, (l4 h2 h4 h6), fun r_ k_ hz _ => by obtain ⟨r', rfl, rfl, hR⟩ := hz; exact hR⟩⟩⟩⟩⟩⟩⟩⟩⟩)
set_option maxRecDepth 100000 in
theorem b_X1_joinShortChunks_49 {Q : ab_Q} {rt : Int} {st : Int} {c : Int} {sp : Int} {rK : Int → Int} {rL : Int → Int} {rT : Int → Int} {rS : Int → Int} {rn : Int} {rc : Int} {rw : Int} (l1 : sp_X1_settle [.inr (.inl (some 0)), .inl (c + 1), .inl (st + (rL c))] (rw_cs (rK, rL, rT, rS, rn, rc, rw)) (fun r_ k_ => ∃ (r' : rw_T), r_ = none ∧ k_ = (rw_cs r') ∧ ab_R E_X1_joinShortChunks P_X1_joinShortChunks Q 64 [some (.inr (.inl (some 0))), some (.inl rt), some (.inl st), some (.inl c), some (.inl sp)] [] (rw_cs r'))) (p1 : (0 ≤ c ∧ c < 60) := by intros; (try unfold ab_r); omega) : ab_R E_X1_joinShortChunks P_X1_joinShortChunks Q 49 [some (.inr (.inl (some 0))), some (.inl rt), some (.inl st), some (.inl c), some (.inl sp)] [] (rw_cs (rK, rL, rT, rS, rn, rc, rw)) :=
  ab_R.steps [7, 49, 64, 105] 12 (show ((0 ≤ c ∧ c < 60) ∧ ab_cl sp_X1_settle [.inr (.inl (some 0)), .inl (c + 1), .inl (st + (rL c))] (rw_cs (rK, rL, rT, rS, rn, rc, rw)) (fun r_ k_ => k_.length = ((rw_cs (rK, rL, rT, rS, rn, rc, rw))).length → ab_R E_X1_joinShortChunks P_X1_joinShortChunks Q 64 [some (.inr (.inl (some 0))), some (.inl rt), some (.inl st), some (.inl c), some (.inl sp)] (ab_ret r_ []) k_)) from ⟨p1, ⟨_, l1, fun r_ k_ hz _ => by obtain ⟨r', rfl, rfl, hR⟩ := hz; exact hR⟩⟩)
set_option maxRecDepth 100000 in
theorem b_X1_joinShortChunks_64 {Q : ab_Q} {rt : Int} {st : Int} {c : Int} {sp : Int} {rK : Int → Int} {rL : Int → Int} {rT : Int → Int} {rS : Int → Int} {rn : Int} {rc : Int} {rw : Int} (l1 : sp_X1_closeChunk [.inr (.inl (some 0)), .inl (c + 1)] (rw_cs (rK, (ab_up rL c ((rL c) + (rL (c + 1)))), rT, rS, rn, rc, (rw + (rL (c + 1))))) (fun r_ k_ => ∃ (r' : rw_T), r_ = none ∧ k_ = (rw_cs r') ∧ ab_R E_X1_joinShortChunks P_X1_joinShortChunks Q 105 [some (.inr (.inl (some 0))), some (.inl rt), some (.inl st), some (.inl c), some (.inl sp)] [] (rw_cs r'))) (p1 : (0 ≤ (c + 1) ∧ (c + 1) < 60) := by intros; (try unfold ab_r); omega) (p2 : (0 ≤ c ∧ c < 60) := by intros; (try unfold ab_r); omega) : ab_R E_X1_joinShortChunks P_X1_joinShortChunks Q 64 [some (.inr (.inl (some 0))), some (.inl rt), some (.inl st), some (.inl c), some (.inl sp)] [] (rw_cs (rK, rL, rT, rS, rn, rc, rw)) :=
  ab_R.steps [7, 49, 64, 105] 30 (show ((0 ≤ (c + 1) ∧ (c + 1) < 60) ∧ ((0 ≤ c ∧ c < 60) ∧ ((0 ≤ (c + 1) ∧ (c + 1) < 60) ∧ ((0 ≤ c ∧ c < 60) ∧ ab_cl sp_X1_closeChunk [.inr (.inl (some 0)), .inl (c + 1)] (rw_cs (rK, (ab_up rL c ((rL c) + (rL (c + 1)))), rT, rS, rn, rc, (rw + (rL (c + 1))))) (fun r_ k_ => k_.length = ((rw_cs (rK, (ab_up rL c ((rL c) + (rL (c + 1)))), rT, rS, rn, rc, (rw + (rL (c + 1)))))).length → ab_R E_X1_joinShortChunks P_X1_joinShortChunks Q 105 [some (.inr (.inl (some 0))), some (.inl rt), some (.inl st), some (.inl c), some (.inl sp)] (ab_ret r_ []) k_))))) from ⟨p1, ⟨p2, ⟨p1, ⟨p2, ⟨_, l1, fun r_ k_ hz _ => by obtain ⟨r', rfl, rfl, hR⟩ := hz; exact hR⟩⟩⟩⟩⟩)
set_option maxRecDepth 100000 in
theorem b_X1_joinShortChunks_105 {Q : ab_Q} {rt : Int} {st : Int} {c : Int} {sp : Int} {rK : Int → Int} {rL : Int → Int} {rT : Int → Int} {rS : Int → Int} {rn : Int} {rc : Int} {rw : Int} (l1 : ab_R E_X1_joinShortChunks P_X1_joinShortChunks Q 7 [some (.inr (.inl (some 0))), some (.inl rt), some (.inl st), some (.inl c), some (.inl (sp + 1))] [] (rw_cs (rK, rL, rT, rS, rn, rc, rw)))  : ab_R E_X1_joinShortChunks P_X1_joinShortChunks Q 105 [some (.inr (.inl (some 0))), some (.inl rt), some (.inl st), some (.inl c), some (.inl sp)] [] (rw_cs (rK, rL, rT, rS, rn, rc, rw)) :=
  ab_R.steps [7, 49, 64, 105] 5 (show ab_R E_X1_joinShortChunks P_X1_joinShortChunks Q 7 [some (.inr (.inl (some 0))), some (.inl rt), some (.inl st), some (.inl c), some (.inl (sp + 1))] [] (rw_cs (rK, rL, rT, rS, rn, rc, rw)) from l1)
def P_X1_evenOut : List ab_I := [(0, .aload_n 0, 1, []), (1, .invokevirtual 81, 4, []), (4, .istore_n 1, 5, []), (5, .aload_n 0, 6, []), (6, .iload_n 1, 7, []), (7, .invokevirtual 85, 10, []), (10, .aload_n 0, 11, []), (11, .iload_n 1, 12, []), (12, .invokevirtual 88, 15, []), (15, .return_, 16, [])]
def E_X1_evenOut : ab_E := (T_X1, [(1, (1, 1, [], 0, sp_X1_rootOfLength)), (7, (2, 1, [], 0, sp_X1_partLongChunks)), (12, (2, 1, [], 0, sp_X1_joinShortChunks))], [], 9)
def M_X1_evenOut : List (Nat × ab_MI) := [(1, mi_X1_rootOfLength), (7, mi_X1_partLongChunks), (12, mi_X1_joinShortChunks)]
def mi_X1_evenOut : ab_MI := (yX1_evenOut, cX1_evenOut, 2, ab_rty 9, 4, 143)
theorem pk_X1_evenOut : P_X1_evenOut.all (ab_okI cX1_evenOut) = true := by decide +kernel
theorem ck_X1_evenOut : P_X1_evenOut.all (ab_okC1 "RootChunks$Row" M_X1_evenOut E_X1_evenOut (4, 143)) = true := by decide +kernel
set_option maxRecDepth 100000 in
theorem b_X1_evenOut_0 {Q : ab_Q} {rK : Int → Int} {rL : Int → Int} {rT : Int → Int} {rS : Int → Int} {rn : Int} {rc : Int} {rw : Int} (l1 : sp_X1_rootOfLength [.inr (.inl (some 0))] (rw_cs (rK, rL, rT, rS, rn, rc, rw)) (fun r_ k_ => ∃ (x_ : Int), r_ = some (.inl x_) ∧ k_ = (rw_cs (rK, rL, rT, rS, rn, rc, rw)) ∧ ab_R E_X1_evenOut P_X1_evenOut Q 4 [some (.inr (.inl (some 0))), none] [.inl x_] (rw_cs (rK, rL, rT, rS, rn, rc, rw))))  : ab_R E_X1_evenOut P_X1_evenOut Q 0 [some (.inr (.inl (some 0))), none] [] (rw_cs (rK, rL, rT, rS, rn, rc, rw)) :=
  ab_R.steps [4, 10, 15] 3 (show ab_cl sp_X1_rootOfLength [.inr (.inl (some 0))] (rw_cs (rK, rL, rT, rS, rn, rc, rw)) (fun r_ k_ => k_.length = ((rw_cs (rK, rL, rT, rS, rn, rc, rw))).length → ab_R E_X1_evenOut P_X1_evenOut Q 4 [some (.inr (.inl (some 0))), none] (ab_ret r_ []) k_) from ⟨_, l1, fun r_ k_ hz _ => by obtain ⟨x_, rfl, rfl, hR⟩ := hz; exact hR⟩)
set_option maxRecDepth 100000 in
theorem b_X1_evenOut_4 {Q : ab_Q} {t0 : Int} {rK : Int → Int} {rL : Int → Int} {rT : Int → Int} {rS : Int → Int} {rn : Int} {rc : Int} {rw : Int} (l1 : sp_X1_partLongChunks [.inr (.inl (some 0)), .inl t0] (rw_cs (rK, rL, rT, rS, rn, rc, rw)) (fun r_ k_ => ∃ (r' : rw_T), r_ = none ∧ k_ = (rw_cs r') ∧ ab_R E_X1_evenOut P_X1_evenOut Q 10 [some (.inr (.inl (some 0))), some (.inl t0)] [] (rw_cs r')))  : ab_R E_X1_evenOut P_X1_evenOut Q 4 [some (.inr (.inl (some 0))), none] [.inl t0] (rw_cs (rK, rL, rT, rS, rn, rc, rw)) :=
  ab_R.steps [4, 10, 15] 5 (show ab_cl sp_X1_partLongChunks [.inr (.inl (some 0)), .inl t0] (rw_cs (rK, rL, rT, rS, rn, rc, rw)) (fun r_ k_ => k_.length = ((rw_cs (rK, rL, rT, rS, rn, rc, rw))).length → ab_R E_X1_evenOut P_X1_evenOut Q 10 [some (.inr (.inl (some 0))), some (.inl t0)] (ab_ret r_ []) k_) from ⟨_, l1, fun r_ k_ hz _ => by obtain ⟨r', rfl, rfl, hR⟩ := hz; exact hR⟩)
set_option maxRecDepth 100000 in
theorem b_X1_evenOut_10 {Q : ab_Q} {rt : Int} {rK : Int → Int} {rL : Int → Int} {rT : Int → Int} {rS : Int → Int} {rn : Int} {rc : Int} {rw : Int} (l1 : sp_X1_joinShortChunks [.inr (.inl (some 0)), .inl rt] (rw_cs (rK, rL, rT, rS, rn, rc, rw)) (fun r_ k_ => ∃ (r' : rw_T), r_ = none ∧ k_ = (rw_cs r') ∧ ab_R E_X1_evenOut P_X1_evenOut Q 15 [some (.inr (.inl (some 0))), some (.inl rt)] [] (rw_cs r')))  : ab_R E_X1_evenOut P_X1_evenOut Q 10 [some (.inr (.inl (some 0))), some (.inl rt)] [] (rw_cs (rK, rL, rT, rS, rn, rc, rw)) :=
  ab_R.steps [4, 10, 15] 4 (show ab_cl sp_X1_joinShortChunks [.inr (.inl (some 0)), .inl rt] (rw_cs (rK, rL, rT, rS, rn, rc, rw)) (fun r_ k_ => k_.length = ((rw_cs (rK, rL, rT, rS, rn, rc, rw))).length → ab_R E_X1_evenOut P_X1_evenOut Q 15 [some (.inr (.inl (some 0))), some (.inl rt)] (ab_ret r_ []) k_) from ⟨_, l1, fun r_ k_ hz _ => by obtain ⟨r', rfl, rfl, hR⟩ := hz; exact hR⟩)
set_option maxRecDepth 100000 in
theorem b_X1_evenOut_15 {Q : ab_Q} {rt : Int} {rK : Int → Int} {rL : Int → Int} {rT : Int → Int} {rS : Int → Int} {rn : Int} {rc : Int} {rw : Int} (l1 : Q none (rw_cs (rK, rL, rT, rS, rn, rc, rw)))  : ab_R E_X1_evenOut P_X1_evenOut Q 15 [some (.inr (.inl (some 0))), some (.inl rt)] [] (rw_cs (rK, rL, rT, rS, rn, rc, rw)) :=
  ab_R.steps [4, 10, 15] 2 (show Q none (rw_cs (rK, rL, rT, rS, rn, rc, rw)) from l1)
theorem vc_X1_rootOfLength {av : List ab_V} {cs : List ab_C} {Q : ab_Q} (h : sp_X1_rootOfLength av cs Q) : (ab_lv0 av).length ≤ 2 ∧ ab_R E_X1_rootOfLength P_X1_rootOfLength Q 0 (ab_ent av 2) [] cs := by
  obtain ⟨⟨K, L, T, S, n, cc, w⟩, q, rfl, rfl, hR, hW, hQ⟩ := h
  refine ⟨Nat.le_of_ble_eq_true rfl, ?_⟩
  have hfl := hW.2
  have hn : n = ((mq_flat q).length : Nat) := hR.2.2.2.2.1
  generalize (mq_flat q).length = z at hfl hn hQ
  have fin : ∀ x : Int, x = (mq_rt z : Int) → Q (some (.inl x)) (rw_cs (K, L, T, S, n, cc, w)) := fun x e => by rw [e]; exact hQ
  have f7 : ∀ x : Int, x = 7 → 49 ≤ z → ab_R E_X1_rootOfLength P_X1_rootOfLength Q 2 [some (.inr (.inl (some 0))), some (.inl x)] [] (rw_cs (K, L, T, S, n, cc, w)) := by
    intro x e g; subst e
    exact b_X1_rootOfLength_2 (fun _ => by omega) (fun _ _ => fin _ (mq_rt_is (by omega))) (fun _ _ => by omega)
  have f6 : ∀ x : Int, x = 6 → 36 ≤ z → ab_R E_X1_rootOfLength P_X1_rootOfLength Q 2 [some (.inr (.inl (some 0))), some (.inl x)] [] (rw_cs (K, L, T, S, n, cc, w)) := by
    intro x e g; subst e
    exact b_X1_rootOfLength_2 (fun _ => by omega) (fun _ _ => fin _ (mq_rt_is (by omega))) (fun _ _ => f7 _ (by omega) (by omega))
  have f5 : ∀ x : Int, x = 5 → 25 ≤ z → ab_R E_X1_rootOfLength P_X1_rootOfLength Q 2 [some (.inr (.inl (some 0))), some (.inl x)] [] (rw_cs (K, L, T, S, n, cc, w)) := by
    intro x e g; subst e
    exact b_X1_rootOfLength_2 (fun _ => by omega) (fun _ _ => fin _ (mq_rt_is (by omega))) (fun _ _ => f6 _ (by omega) (by omega))
  have f4 : ∀ x : Int, x = 4 → 16 ≤ z → ab_R E_X1_rootOfLength P_X1_rootOfLength Q 2 [some (.inr (.inl (some 0))), some (.inl x)] [] (rw_cs (K, L, T, S, n, cc, w)) := by
    intro x e g; subst e
    exact b_X1_rootOfLength_2 (fun _ => by omega) (fun _ _ => fin _ (mq_rt_is (by omega))) (fun _ _ => f5 _ (by omega) (by omega))
  have f3 : ∀ x : Int, x = 3 → 9 ≤ z → ab_R E_X1_rootOfLength P_X1_rootOfLength Q 2 [some (.inr (.inl (some 0))), some (.inl x)] [] (rw_cs (K, L, T, S, n, cc, w)) := by
    intro x e g; subst e
    exact b_X1_rootOfLength_2 (fun _ => by omega) (fun _ _ => fin _ (mq_rt_is (by omega))) (fun _ _ => f4 _ (by omega) (by omega))
  have f2 : ∀ x : Int, x = 2 → 4 ≤ z → ab_R E_X1_rootOfLength P_X1_rootOfLength Q 2 [some (.inr (.inl (some 0))), some (.inl x)] [] (rw_cs (K, L, T, S, n, cc, w)) := by
    intro x e g; subst e
    exact b_X1_rootOfLength_2 (fun _ => by omega) (fun _ _ => fin _ (mq_rt_is (by omega))) (fun _ _ => f3 _ (by omega) (by omega))
  refine b_X1_rootOfLength_0 ?_
  exact b_X1_rootOfLength_2 (fun _ => by omega) (fun _ _ => fin _ (mq_rt_is (by omega))) (fun _ _ => f2 _ (by omega) (by omega))
theorem mt_X1_rootOfLength (l : Launch) : ab_MT l mi_X1_rootOfLength sp_X1_rootOfLength := ab_MT.of (own := "RootChunks$Row") (E := E_X1_rootOfLength) (P := P_X1_rootOfLength) (M := M_X1_rootOfLength) (nL := 2) (ty := 0) (by decide) rfl rfl tk_X1 pk_X1_rootOfLength ck_X1_rootOfLength ab_CT'.nil (fun av cs Q h => vc_X1_rootOfLength h)
theorem vc_X1_partLongChunks {av : List ab_V} {cs : List ab_C} {Q : ab_Q} (h : sp_X1_partLongChunks av cs Q) : (ab_lv0 av).length ≤ 4 ∧ ab_R E_X1_partLongChunks P_X1_partLongChunks Q 0 (ab_ent av 4) [] cs := by
  obtain ⟨r, q, t, x, rfl, rfl, hR, hW, hx, h0, h7, hQ⟩ := h
  refine ⟨Nat.le_of_ble_eq_true rfl, ?_⟩
  have loop : ∀ (m : Nat) (A B : List mq_K) (r1 : rw_T) (c st : Int), m + A.length = 60 → mq_R r1 (A ++ B) → mq_W (A ++ B) → c = A.length → st = (mq_flat A).length →
      (∀ r' : rw_T, mq_R r' (A ++ (mq_pt t m B).1) → r'.2.2.2.2.2.2 = r1.2.2.2.2.2.2 + (mq_pt t m B).2 → Q none (rw_cs r')) →
      ab_R E_X1_partLongChunks P_X1_partLongChunks Q 4 [some (.inr (.inl (some 0))), some (.inl x), some (.inl st), some (.inl c)] [] (rw_cs r1) := by
    intro m
    induction m with
    | zero =>
      intro A B r1 c st g0 g1 g2 g3 g4 g5
      obtain ⟨K, L, T, S, n, cc, w⟩ := r1
      have hcc : cc = ((A ++ B).length : Nat) := g1.2.2.2.2.2
      have hcl := g2.chunks
      refine b_X1_partLongChunks_4 (fun _ => g5 _ g1 ?_) (fun _ _ => g5 _ g1 ?_) (fun _ _ _ => by omega) (fun _ _ _ => by omega)
      · show w = w + 0; omega
      · show w = w + 0; omega
    | succ m ih =>
      intro A B r1 c st g0 g1 g2 g3 g4 g5
      obtain ⟨K, L, T, S, n, cc, w⟩ := r1
      have hcc : cc = ((A ++ B).length : Nat) := g1.2.2.2.2.2
      have hcl := g2.chunks
      have hfl := g2.2
      rw [List.length_append] at hcc hcl
      cases B with
      | nil =>
        rw [List.length_nil] at hcc
        refine b_X1_partLongChunks_4 (fun _ => g5 _ g1 ?_) (fun _ _ => by omega) (fun _ _ _ => by omega) (fun _ _ _ => by omega)
        show w = w + 0; omega
      | cons k B =>
        rw [List.length_cons] at hcc hcl
        have e1 := g1.len (mq_at_app A k B)
        dsimp only at e1
        rw [← g3] at e1
        rw [mq_flat_mid, List.length_append, List.length_append] at hfl
        refine b_X1_partLongChunks_4 (fun _ => by omega) (fun _ _ => by omega) (fun _ _ hs => ?_) (fun _ _ hs => ?_)
        · refine b_X1_partLongChunks_42 (ih (A ++ [k]) B _ _ _ (by simp; omega) (by simpa using g1) (by simpa using g2) (by simp; omega) ?_ (fun r' q1 q2 => g5 r' ?_ ?_))
          · rw [mq_flat_app, mq_flat_cons]; simp [mq_flat]; simp [mq_flat] at g4; omega
          · unfold mq_pt
            rw [if_neg (by omega)]
            simpa using q1
          · unfold mq_pt
            rw [if_neg (by omega)]
            exact q2
        · refine ⟨_, A, k, B, _, _, rfl, rfl, g1, g2, g3, g4, fun r2 hr2 hw2 => ⟨r2, rfl, rfl, ?_⟩⟩
          obtain ⟨K2, L2, T2, S2, n2, c2, w2⟩ := r2
          have W2 := mq_W_settle g2
          refine b_X1_partLongChunks_36 ⟨_, A, mq_row k, B, t, _, _, rfl, rfl, hr2, W2, g3, hx, by omega, by rw [mq_row_len]; omega, fun r3 hr3 hw3 => ⟨r3, rfl, rfl, ?_⟩⟩
          obtain ⟨K3, L3, T3, S3, n3, c3, w3⟩ := r3
          have e3 := hr3.len (mq_at_app A _ _)
          dsimp only at e3 hw2 hw3
          rw [← g3, List.length_take, mq_row_len] at e3
          rw [mq_row_len] at hw3
          have W3 : mq_W (A ++ ((mq_row k).take t, 0, 0) :: ((mq_row k).drop t, 0, 0) :: B) := by
            have ho := g2.1 k (by simp)
            refine mq_W_all g2 (fun y hy => ?_) ?_
            · rcases List.mem_append.mp hy with hy | hy
              · exact g2.1 y (List.mem_append_left _ hy)
              · rcases List.mem_cons.mp hy with rfl | hy
                · exact mq_ok_done (by rw [List.length_take, mq_row_len]; omega) (fun z hz => ho.2.2.2 z (List.mem_of_mem_take hz))
                · rcases List.mem_cons.mp hy with rfl | hy
                  · exact mq_ok_done (by rw [List.length_drop, mq_row_len]; omega) (fun z hz => ho.2.2.2 z (List.mem_of_mem_drop hz))
                  · exact g2.1 y (List.mem_append_right _ (List.mem_cons_of_mem _ hy))
            · rw [mq_all_app, mq_all_app, mq_all_cons, mq_all_cons, mq_all_cons, mq_row_done, mq_row_done, ← List.append_assoc ((mq_row k).take t), List.take_append_drop]
          refine b_X1_partLongChunks_42 (ih (A ++ [((mq_row k).take t, 0, 0)]) (((mq_row k).drop t, 0, 0) :: B) _ _ _ (by simp; omega) (by simpa using hr3) (by simpa using W3) (by simp; omega) ?_ (fun r' q1 q2 => g5 r' ?_ ?_))
          · rw [mq_flat_app, mq_flat_cons]; simp [mq_flat, mq_row_len]; simp [mq_flat] at g4; omega
          · unfold mq_pt
            rw [if_pos (by omega)]
            simpa using q1
          · unfold mq_pt
            rw [if_pos (by omega)]
            dsimp only at q2 ⊢
            omega
  obtain ⟨K, L, T, S, n, cc, w⟩ := r
  exact b_X1_partLongChunks_0 (loop 60 [] q _ 0 0 rfl hR hW rfl rfl hQ)
theorem mt_X1_partLongChunks (l : Launch) : ab_MT l mi_X1_partLongChunks sp_X1_partLongChunks := ab_MT.of (own := "RootChunks$Row") (E := E_X1_partLongChunks) (P := P_X1_partLongChunks) (M := M_X1_partLongChunks) (nL := 4) (ty := 9) (by decide) rfl rfl tk_X1 pk_X1_partLongChunks ck_X1_partLongChunks (ab_CT'.cons (mt_X1_settle l) (ab_CT'.cons (mt_X1_part l) ab_CT'.nil)) (fun av cs Q h => vc_X1_partLongChunks h)
theorem vc_X1_joinShortChunks {av : List ab_V} {cs : List ab_C} {Q : ab_Q} (h : sp_X1_joinShortChunks av cs Q) : (ab_lv0 av).length ≤ 5 ∧ ab_R E_X1_joinShortChunks P_X1_joinShortChunks Q 0 (ab_ent av 5) [] cs := by
  obtain ⟨r, q, t, x, rfl, rfl, hR, hW, hx, h0, h7, hQ⟩ := h
  refine ⟨Nat.le_of_ble_eq_true rfl, ?_⟩
  have loop : ∀ (B A : List mq_K) (k : mq_K) (r1 : rw_T) (c st sp : Int), sp + B.length < 60 → 0 ≤ sp → mq_R r1 (A ++ k :: B) → mq_W (A ++ k :: B) → c = A.length → st = (mq_flat A).length →
      (∀ r' : rw_T, mq_R r' (A ++ (mq_jn t k B).1) → r'.2.2.2.2.2.2 = r1.2.2.2.2.2.2 + (mq_jn t k B).2 → Q none (rw_cs r')) →
      ab_R E_X1_joinShortChunks P_X1_joinShortChunks Q 7 [some (.inr (.inl (some 0))), some (.inl x), some (.inl st), some (.inl c), some (.inl sp)] [] (rw_cs r1) := by
    intro B
    induction B with
    | nil =>
      intro A k r1 c st sp g0 g01 g1 g2 g3 g4 g5
      obtain ⟨K, L, T, S, n, cc, w⟩ := r1
      have hcc : cc = ((A ++ [k]).length : Nat) := g1.2.2.2.2.2
      have hcl := g2.chunks
      rw [List.length_append] at hcc hcl
      simp at hcc hcl g0
      refine b_X1_joinShortChunks_7 (fun _ => by omega) (fun _ _ => g5 _ g1 ?_) (fun _ _ _ => by omega) (fun _ _ _ => by omega)
      show w = w + 0; omega
    | cons k2 B ih =>
      intro A k r1 c st sp g0 g01 g1 g2 g3 g4 g5
      obtain ⟨K, L, T, S, n, cc, w⟩ := r1
      have hcc : cc = ((A ++ k :: k2 :: B).length : Nat) := g1.2.2.2.2.2
      have hcl := g2.chunks
      have hfl := g2.2
      rw [List.length_append] at hcc hcl
      rw [List.length_cons, List.length_cons] at hcc hcl
      rw [List.length_cons] at g0
      rw [mq_flat_mid, mq_flat_cons, List.length_append, List.length_append, List.length_append] at hfl
      have e1 := g1.len (mq_at_app A k (k2 :: B))
      have e2 := g1.len (c := A.length + 1) (k := k2) (by rw [List.getElem?_append_right (by omega), show A.length + 1 - A.length = 1 by omega]; rfl)
      dsimp only at e1 e2
      rw [← g3] at e1
      rw [show (((A.length + 1 : Nat)) : Int) = c + 1 by omega] at e2
      refine b_X1_joinShortChunks_7 (fun _ => by omega) (fun _ _ => by omega) (fun _ _ hs => ?_) (fun _ _ hs => ?_)
      · refine ih (A ++ [k]) k2 _ _ _ _ (by omega) (by omega) (by simpa using g1) (by simpa using g2) (by simp; omega) ?_ (fun r' q1 q2 => g5 r' ?_ ?_)
        · rw [mq_flat_app, mq_flat_cons]; simp [mq_flat]; simp [mq_flat] at g4; omega
        · unfold mq_jn
          rw [if_neg (by omega)]
          simpa using q1
        · unfold mq_jn
          rw [if_neg (by omega)]
          exact q2
      · refine ⟨_, A, k, k2 :: B, _, _, rfl, rfl, g1, g2, g3, g4, fun r2 hr2 hw2 => ⟨r2, rfl, rfl, ?_⟩⟩
        obtain ⟨K2, L2, T2, S2, n2, c2, w2⟩ := r2
        have W2 := mq_W_settle g2
        have hr2' : mq_R (K2, L2, T2, S2, n2, c2, w2) ((A ++ [(mq_row k, 0, 0)]) ++ k2 :: B) := by simpa using hr2
        have W2' : mq_W ((A ++ [(mq_row k, 0, 0)]) ++ k2 :: B) := by simpa using W2
        have e3 := hr2.len (mq_at_app A _ _)
        dsimp only at e3 hw2
        rw [← g3, mq_row_len] at e3
        refine b_X1_joinShortChunks_49 ⟨_, A ++ [(mq_row k, 0, 0)], k2, B, _, _, rfl, rfl, hr2', W2', by simp; omega, ?_, fun r3 hr3 hw3 => ⟨r3, rfl, rfl, ?_⟩⟩
        · rw [mq_flat_app, mq_flat_cons]; simp [mq_flat, mq_row_len]; simp [mq_flat] at g4; omega
        obtain ⟨K3, L3, T3, S3, n3, c3, w3⟩ := r3
        have W3 := mq_W_settle W2'
        have hr3' : mq_R (K3, L3, T3, S3, n3, c3, w3) (A ++ (mq_row k, 0, 0) :: (mq_row k2, 0, 0) :: B) := by simpa using hr3
        have W3' : mq_W (A ++ (mq_row k, 0, 0) :: (mq_row k2, 0, 0) :: B) := by simpa using W3
        have hc3 : c3 = ((A ++ (mq_row k, 0, 0) :: (mq_row k2, 0, 0) :: B).length : Nat) := hr3'.2.2.2.2.2
        rw [List.length_append] at hc3
        rw [List.length_cons, List.length_cons] at hc3
        have e4 := hr3'.len (mq_at_app A _ _)
        have e5 := hr3'.len (c := A.length + 1) (k := (mq_row k2, 0, 0)) (by rw [List.getElem?_append_right (by omega), show A.length + 1 - A.length = 1 by omega]; rfl)
        dsimp only at e4 e5 hw3
        rw [← g3, mq_row_len] at e4
        rw [show (((A.length + 1 : Nat)) : Int) = c + 1 by omega, mq_row_len] at e5
        refine b_X1_joinShortChunks_64 ⟨_, _, _, _, _, _, _, _, rfl, rfl, by omega, by omega, by omega, _, rfl, rfl, ?_⟩
        have hj := mq_R_join (w' := w3 + L3 (c + 1)) hr3'
        rw [mq_row_len, mq_row_len, ← g3, ← e4, ← e5] at hj
        have W4 : mq_W (A ++ (mq_row k ++ mq_row k2, 0, 0) :: B) := by
          have o1 := g2.1 k (by simp)
          have o2 := g2.1 k2 (by simp)
          refine mq_W_all g2 (fun y hy => ?_) ?_
          · rcases List.mem_append.mp hy with hy | hy
            · exact g2.1 y (List.mem_append_left _ hy)
            · rcases List.mem_cons.mp hy with rfl | hy
              · refine mq_ok_done (by rw [List.length_append, mq_row_len, mq_row_len]; have := o1.1; omega) (fun z hz => ?_)
                rcases List.mem_append.mp hz with hz | hz
                · exact o1.2.2.2 z hz
                · exact o2.2.2.2 z hz
              · exact g2.1 y (by simp [hy])
          · rw [mq_all_app, mq_all_app, mq_all_cons, mq_all_cons, mq_all_cons, mq_row_done, List.append_assoc]
        refine b_X1_joinShortChunks_105 (ih A (mq_row k ++ mq_row k2, 0, 0) _ _ _ _ (by omega) (by omega) hj W4 g3 g4 (fun r' q1 q2 => g5 r' ?_ ?_))
        · unfold mq_jn
          rw [if_pos (by omega)]
          exact q1
        · unfold mq_jn
          rw [if_pos (by omega)]
          dsimp only at q2 ⊢
          omega
  obtain ⟨K, L, T, S, n, cc, w⟩ := r
  refine b_X1_joinShortChunks_0 ?_
  have hcl := hW.chunks
  cases q with
  | nil =>
    have hcc : cc = 0 := hR.2.2.2.2.2
    refine b_X1_joinShortChunks_7 (fun _ => by omega) (fun _ _ => hQ _ hR ?_) (fun _ _ _ => by omega) (fun _ _ _ => by omega)
    show w = w + 0; omega
  | cons k q =>
    rw [List.length_cons] at hcl
    exact loop q [] k _ 0 0 0 (by omega) (by omega) hR hW rfl rfl hQ
theorem mt_X1_joinShortChunks (l : Launch) : ab_MT l mi_X1_joinShortChunks sp_X1_joinShortChunks := ab_MT.of (own := "RootChunks$Row") (E := E_X1_joinShortChunks) (P := P_X1_joinShortChunks) (M := M_X1_joinShortChunks) (nL := 5) (ty := 9) (by decide) rfl rfl tk_X1 pk_X1_joinShortChunks ck_X1_joinShortChunks (ab_CT'.cons (mt_X1_settle l) (ab_CT'.cons (mt_X1_settle l) (ab_CT'.cons (mt_X1_closeChunk l) ab_CT'.nil))) (fun av cs Q h => vc_X1_joinShortChunks h)
theorem vc_X1_evenOut {av : List ab_V} {cs : List ab_C} {Q : ab_Q} (h : sp_X1_evenOut av cs Q) : (ab_lv0 av).length ≤ 2 ∧ ab_R E_X1_evenOut P_X1_evenOut Q 0 (ab_ent av 2) [] cs := by
  obtain ⟨⟨K, L, T, S, n, cc, w⟩, q, rfl, rfl, hR, hW, hQ⟩ := h
  refine ⟨Nat.le_of_ble_eq_true rfl, ?_⟩
  have hrt := mq_rt_in (mq_flat q).length
  refine b_X1_evenOut_0 ⟨_, q, rfl, rfl, hR, hW, _, rfl, rfl, ?_⟩
  refine b_X1_evenOut_4 ⟨_, q, mq_rt (mq_flat q).length, _, rfl, rfl, hR, hW, rfl, hrt.1, hrt.2, fun r2 hr2 hw2 => ⟨r2, rfl, rfl, ?_⟩⟩
  obtain ⟨K2, L2, T2, S2, n2, c2, w2⟩ := r2
  refine b_X1_evenOut_10 ⟨_, _, mq_rt (mq_flat q).length, _, rfl, rfl, hr2, mq_pt_W hrt.1 hW, rfl, hrt.1, hrt.2, fun r3 hr3 hw3 => ⟨r3, rfl, rfl, ?_⟩⟩
  obtain ⟨K3, L3, T3, S3, n3, c3, w3⟩ := r3
  refine b_X1_evenOut_15 (hQ _ hr3 ?_)
  dsimp only at hw2 hw3 ⊢
  unfold mq_ev
  dsimp only
  omega
theorem mt_X1_evenOut (l : Launch) : ab_MT l mi_X1_evenOut sp_X1_evenOut := ab_MT.of (own := "RootChunks$Row") (E := E_X1_evenOut) (P := P_X1_evenOut) (M := M_X1_evenOut) (nL := 2) (ty := 9) (by decide) rfl rfl tk_X1 pk_X1_evenOut ck_X1_evenOut (ab_CT'.cons (mt_X1_rootOfLength l) (ab_CT'.cons (mt_X1_partLongChunks l) (ab_CT'.cons (mt_X1_joinShortChunks l) ab_CT'.nil))) (fun av cs Q h => vc_X1_evenOut h)

