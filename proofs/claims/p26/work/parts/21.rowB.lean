def sp_X1_settle : ab_Sp := fun av cs Q => ∃ (r : rw_T) (A : List mq_K) (k : mq_K) (B : List mq_K) (c st : Int), av = [.inr (.inl (some 0)), .inl c, .inl st] ∧ cs = rw_cs r ∧ mq_R r (A ++ k :: B) ∧ mq_W (A ++ k :: B) ∧ c = A.length ∧ st = (mq_flat A).length ∧
  ∀ r' : rw_T, mq_R r' (A ++ (mq_row k, 0, 0) :: B) → r'.2.2.2.2.2.2 = r.2.2.2.2.2.2 + mq_cost k → Q none (rw_cs r')
def sp_X1_part : ab_Sp := fun av cs Q => ∃ (r : rw_T) (A : List mq_K) (l : List Int) (B : List mq_K) (f : Nat) (c x : Int), av = [.inr (.inl (some 0)), .inl c, .inl x] ∧ cs = rw_cs r ∧ mq_R r (A ++ (l, 0, 0) :: B) ∧ mq_W (A ++ (l, 0, 0) :: B) ∧ c = A.length ∧ x = f ∧ 0 < f ∧ f < l.length ∧
  ∀ r' : rw_T, mq_R r' (A ++ (l.take f, 0, 0) :: (l.drop f, 0, 0) :: B) → r'.2.2.2.2.2.2 = r.2.2.2.2.2.2 + ((l.length : Int) - f) → Q none (rw_cs r')
def sp_X1_cutAt : ab_Sp := fun av cs Q => ∃ (r : rw_T) (q : List mq_K) (d : Nat) (p : Int), av = [.inr (.inl (some 0)), .inl p] ∧ cs = rw_cs r ∧ mq_R r q ∧ mq_W q ∧ p = d ∧ d ≤ (mq_flat q).length ∧
  ∀ r' : rw_T, mq_R r' ((mq_cut q d).1 ++ (mq_cut q d).2.1) → r'.2.2.2.2.2.2 = r.2.2.2.2.2.2 + (mq_cut q d).2.2 → Q (some (.inl ((mq_cut q d).1.length : Int))) (rw_cs r')
def P_X1_settle : List ab_I := [(0, .aload_n 0, 1, []), (1, .getfield 18, 4, []), (4, .iload_n 1, 5, []), (5, .iaload, 6, []), (6, .ifCond .ne 13, 9, [((0 : Int), 19)]), (9, .aload_n 0, 10, []), (10, .getfield 21, 13, []), (13, .iload_n 1, 14, []), (14, .iaload, 15, []), (15, .ifCond .ne 4, 18, [((0 : Int), 19)]), (18, .return_, 19, []), (19, .iload_n 2, 20, []), (20, .aload_n 0, 21, []), (21, .getfield 15, 24, []), (24, .iload_n 1, 25, []), (25, .iaload, 26, []), (26, .iadd, 27, []), (27, .istore_n 3, 28, []), (28, .aload_n 0, 29, []), (29, .getfield 18, 32, []), (32, .iload_n 1, 33, []), (33, .iaload, 34, []), (34, .iconst 1, 35, []), (35, .if_icmp .ne 12, 38, [((0 : Int), 47)]), (38, .aload_n 0, 39, []), (39, .getfield 9, 42, []), (42, .iload_n 2, 43, []), (43, .iload_n 3, 44, []), (44, .invokestatic 77, 47, []), (47, .iload_n 2, 48, []), (48, .istore 4, 50, []), (50, .iload 4, 52, []), (52, .iload_n 3, 53, []), (53, .if_icmp .ge 25, 56, [((0 : Int), 78)]), (56, .aload_n 0, 57, []), (57, .getfield 9, 60, []), (60, .iload 4, 62, []), (62, .dup2, 63, []), (63, .iaload, 64, []), (64, .aload_n 0, 65, []), (65, .getfield 21, 68, []), (68, .iload_n 1, 69, []), (69, .iaload, 70, []), (70, .iadd, 71, []), (71, .iastore, 72, []), (72, .iinc 4 1, 75, []), (75, .goto (-25), 78, [((0 : Int), 50)]), (78, .aload_n 0, 79, []), (79, .getfield 18, 82, []), (82, .iload_n 1, 83, []), (83, .iconst 0, 84, []), (84, .iastore, 85, []), (85, .aload_n 0, 86, []), (86, .getfield 21, 89, []), (89, .iload_n 1, 90, []), (90, .iconst 0, 91, []), (91, .iastore, 92, []), (92, .aload_n 0, 93, []), (93, .dup, 94, []), (94, .getfield 31, 97, []), (97, .aload_n 0, 98, []), (98, .getfield 15, 101, []), (101, .iload_n 1, 102, []), (102, .iaload, 103, []), (103, .iadd, 104, []), (104, .putfield 31, 107, []), (107, .return_, 108, [])]
def E_X1_settle : ab_E := (T_X1, [(44, (3, 99, [1], 1, sp_X1_mirror))], [], 9)
def M_X1_settle : List (Nat × ab_MI) := [(44, mi_X1_mirror)]
def mi_X1_settle : ab_MI := (yX1_settle, cX1_settle, 5, ab_rty 9, 2, 95)
theorem pk_X1_settle : P_X1_settle.all (ab_okI cX1_settle) = true := by decide +kernel
theorem ck_X1_settle : P_X1_settle.all (ab_okC1 "RootChunks$Row" M_X1_settle E_X1_settle (2, 95)) = true := by decide +kernel
set_option maxRecDepth 100000 in
theorem b_X1_settle_0 {Q : ab_Q} {k : Int} {st : Int} {rK : Int → Int} {rL : Int → Int} {rT : Int → Int} {rS : Int → Int} {rn : Int} {rc : Int} {rw : Int} (l1 : ¬ (rT k) = (0 : Int) → ¬ (rT k) = (1 : Int) → ab_R E_X1_settle P_X1_settle Q 47 [some (.inr (.inl (some 0))), some (.inl k), some (.inl st), some (.inl (st + (rL k))), none] [] (rw_cs (rK, rL, rT, rS, rn, rc, rw))) (l2 : ¬ (rT k) = (0 : Int) → (rT k) = (1 : Int) → sp_X1_mirror [.inr (.inl (some 0)), .inl st, .inl (st + (rL k))] (ar_cs rK) (fun r_ k_ => ∃ (f' : Int → Int), r_ = none ∧ k_ = (ar_cs (f')) ∧ ab_R E_X1_settle P_X1_settle Q 47 [some (.inr (.inl (some 0))), some (.inl k), some (.inl st), some (.inl (st + (rL k))), none] [] (rw_cs (f', rL, rT, rS, rn, rc, rw)))) (l3 : (rT k) = (0 : Int) → ¬ (rS k) = (0 : Int) → ¬ (rT k) = (1 : Int) → ab_R E_X1_settle P_X1_settle Q 47 [some (.inr (.inl (some 0))), some (.inl k), some (.inl st), some (.inl (st + (rL k))), none] [] (rw_cs (rK, rL, rT, rS, rn, rc, rw))) (l4 : (rT k) = (0 : Int) → ¬ (rS k) = (0 : Int) → (rT k) = (1 : Int) → sp_X1_mirror [.inr (.inl (some 0)), .inl st, .inl (st + (rL k))] (ar_cs rK) (fun r_ k_ => ∃ (f' : Int → Int), r_ = none ∧ k_ = (ar_cs (f')) ∧ ab_R E_X1_settle P_X1_settle Q 47 [some (.inr (.inl (some 0))), some (.inl k), some (.inl st), some (.inl (st + (rL k))), none] [] (rw_cs (f', rL, rT, rS, rn, rc, rw)))) (l5 : (rT k) = (0 : Int) → (rS k) = (0 : Int) → Q none (rw_cs (rK, rL, rT, rS, rn, rc, rw))) (p1 : (0 ≤ k ∧ k < 60) := by intros; (try unfold ab_r); omega) (p2 : ab_r (rT k) := by intros; (try unfold ab_r); omega) (p3 : ¬ (rT k) = (0 : Int) → (0 ≤ k ∧ k < 60) := by intros; (try unfold ab_r); omega) (p4 : ¬ (rT k) = (0 : Int) → (ab_r (rT k) ∧ ab_r 1) := by intros; (try unfold ab_r); omega) (p5 : (rT k) = (0 : Int) → (0 ≤ k ∧ k < 60) := by intros; (try unfold ab_r); omega) (p6 : (rT k) = (0 : Int) → ab_r (rS k) := by intros; (try unfold ab_r); omega) (p7 : (rT k) = (0 : Int) → ¬ (rS k) = (0 : Int) → (0 ≤ k ∧ k < 60) := by intros; (try unfold ab_r); omega) (p8 : (rT k) = (0 : Int) → ¬ (rS k) = (0 : Int) → (ab_r (rT k) ∧ ab_r 1) := by intros; (try unfold ab_r); omega) : ab_R E_X1_settle P_X1_settle Q 0 [some (.inr (.inl (some 0))), some (.inl k), some (.inl st), none, none] [] (rw_cs (rK, rL, rT, rS, rn, rc, rw)) :=
  ab_R.steps [47, 50] 29 (show ((0 ≤ k ∧ k < 60) ∧ (ab_r (rT k) ∧ ((¬ (rT k) = (0 : Int) → ((0 ≤ k ∧ k < 60) ∧ ((0 ≤ k ∧ k < 60) ∧ ((ab_r (rT k) ∧ ab_r 1) ∧ ((¬ (rT k) = (1 : Int) → ab_R E_X1_settle P_X1_settle Q 47 [some (.inr (.inl (some 0))), some (.inl k), some (.inl st), some (.inl (st + (rL k))), none] [] (rw_cs (rK, rL, rT, rS, rn, rc, rw))) ∧ ((rT k) = (1 : Int) → ab_cl sp_X1_mirror [.inr (.inl (some 0)), .inl st, .inl (st + (rL k))] (ar_cs rK) (fun r_ k_ => k_.length = 1 → ab_R E_X1_settle P_X1_settle Q 47 [some (.inr (.inl (some 0))), some (.inl k), some (.inl st), some (.inl (st + (rL k))), none] (ab_ret (r_.map (ab_reV [1])) []) (ab_back [1] [1] k_ (rw_cs (rK, rL, rT, rS, rn, rc, rw)))))))))) ∧ ((rT k) = (0 : Int) → ((0 ≤ k ∧ k < 60) ∧ (ab_r (rS k) ∧ ((¬ (rS k) = (0 : Int) → ((0 ≤ k ∧ k < 60) ∧ ((0 ≤ k ∧ k < 60) ∧ ((ab_r (rT k) ∧ ab_r 1) ∧ ((¬ (rT k) = (1 : Int) → ab_R E_X1_settle P_X1_settle Q 47 [some (.inr (.inl (some 0))), some (.inl k), some (.inl st), some (.inl (st + (rL k))), none] [] (rw_cs (rK, rL, rT, rS, rn, rc, rw))) ∧ ((rT k) = (1 : Int) → ab_cl sp_X1_mirror [.inr (.inl (some 0)), .inl st, .inl (st + (rL k))] (ar_cs rK) (fun r_ k_ => k_.length = 1 → ab_R E_X1_settle P_X1_settle Q 47 [some (.inr (.inl (some 0))), some (.inl k), some (.inl st), some (.inl (st + (rL k))), none] (ab_ret (r_.map (ab_reV [1])) []) (ab_back [1] [1] k_ (rw_cs (rK, rL, rT, rS, rn, rc, rw)))))))))) ∧ ((rS k) = (0 : Int) → Q none (rw_cs (rK, rL, rT, rS, rn, rc, rw)))))))))) from ⟨p1, ⟨p2, ⟨fun h1 => ⟨(p3 h1), ⟨(p3 h1), ⟨(p4 h1), ⟨fun h2 => (l1 h1 h2), fun h3 => ⟨_, (l2 h1 h3), fun r_ k_ hz _ => by obtain ⟨f', rfl, rfl, hR⟩ := hz; exact hR⟩⟩⟩⟩⟩, fun h4 => ⟨(p5 h4), ⟨(p6 h4), ⟨fun h5 => ⟨(p7 h4 h5), ⟨(p7 h4 h5), ⟨(p8 h4 h5), ⟨fun h6 => (l3 h4 h5 h6), fun h7 => ⟨_, (l4 h4 h5 h7), fun r_ k_ hz _ => by obtain ⟨f', rfl, rfl, hR⟩ := hz; exact hR⟩⟩⟩⟩⟩, fun h8 => (l5 h4 h8)⟩⟩⟩⟩⟩⟩)
set_option maxRecDepth 100000 in
theorem b_X1_settle_47 {Q : ab_Q} {k : Int} {st : Int} {bh : Int} {rK : Int → Int} {rL : Int → Int} {rT : Int → Int} {rS : Int → Int} {rn : Int} {rc : Int} {rw : Int} (l1 : ab_R E_X1_settle P_X1_settle Q 50 [some (.inr (.inl (some 0))), some (.inl k), some (.inl st), some (.inl bh), some (.inl st)] [] (rw_cs (rK, rL, rT, rS, rn, rc, rw)))  : ab_R E_X1_settle P_X1_settle Q 47 [some (.inr (.inl (some 0))), some (.inl k), some (.inl st), some (.inl bh), none] [] (rw_cs (rK, rL, rT, rS, rn, rc, rw)) :=
  ab_R.steps [47, 50] 4 (show ab_R E_X1_settle P_X1_settle Q 50 [some (.inr (.inl (some 0))), some (.inl k), some (.inl st), some (.inl bh), some (.inl st)] [] (rw_cs (rK, rL, rT, rS, rn, rc, rw)) from l1)
set_option maxRecDepth 100000 in
theorem b_X1_settle_50 {Q : ab_Q} {k : Int} {st : Int} {bh : Int} {i : Int} {rK : Int → Int} {rL : Int → Int} {rT : Int → Int} {rS : Int → Int} {rn : Int} {rc : Int} {rw : Int} (l1 : bh ≤ i → Q none (rw_cs (rK, rL, (ab_up rT k 0), (ab_up rS k 0), rn, rc, (rw + (rL k))))) (l2 : i < bh → ab_R E_X1_settle P_X1_settle Q 50 [some (.inr (.inl (some 0))), some (.inl k), some (.inl st), some (.inl bh), some (.inl (i + 1))] [] (rw_cs ((ab_up rK i ((rK i) + (rS k))), rL, rT, rS, rn, rc, rw))) (p1 : (ab_r i ∧ ab_r bh) := by intros; (try unfold ab_r); omega) (p2 : bh ≤ i → (0 ≤ k ∧ k < 60) := by intros; (try unfold ab_r); omega) (p3 : i < bh → (0 ≤ i ∧ i < 60) := by intros; (try unfold ab_r); omega) (p4 : i < bh → (0 ≤ k ∧ k < 60) := by intros; (try unfold ab_r); omega) : ab_R E_X1_settle P_X1_settle Q 50 [some (.inr (.inl (some 0))), some (.inl k), some (.inl st), some (.inl bh), some (.inl i)] [] (rw_cs (rK, rL, rT, rS, rn, rc, rw)) :=
  ab_R.steps [47, 50] 24 (show ((ab_r i ∧ ab_r bh) ∧ ((bh ≤ i → ((0 ≤ k ∧ k < 60) ∧ ((0 ≤ k ∧ k < 60) ∧ ((0 ≤ k ∧ k < 60) ∧ Q none (rw_cs (rK, rL, (ab_up rT k 0), (ab_up rS k 0), rn, rc, (rw + (rL k)))))))) ∧ (i < bh → ((0 ≤ i ∧ i < 60) ∧ ((0 ≤ k ∧ k < 60) ∧ ((0 ≤ i ∧ i < 60) ∧ ab_R E_X1_settle P_X1_settle Q 50 [some (.inr (.inl (some 0))), some (.inl k), some (.inl st), some (.inl bh), some (.inl (i + 1))] [] (rw_cs ((ab_up rK i ((rK i) + (rS k))), rL, rT, rS, rn, rc, rw)))))))) from ⟨p1, ⟨fun h1 => ⟨(p2 h1), ⟨(p2 h1), ⟨(p2 h1), (l1 h1)⟩⟩⟩, fun h2 => ⟨(p3 h2), ⟨(p4 h2), ⟨(p3 h2), (l2 h2)⟩⟩⟩⟩⟩)
def P_X1_part : List ab_I := [(0, .aload_n 0, 1, []), (1, .getfield 15, 4, []), (4, .iload_n 1, 5, []), (5, .iaload, 6, []), (6, .iload_n 2, 7, []), (7, .isub, 8, []), (8, .istore_n 3, 9, []), (9, .aload_n 0, 10, []), (10, .getfield 15, 13, []), (13, .iload_n 1, 14, []), (14, .iload_n 2, 15, []), (15, .iastore, 16, []), (16, .aload_n 0, 17, []), (17, .iload_n 1, 18, []), (18, .iconst 1, 19, []), (19, .iadd, 20, []), (20, .iload_n 3, 21, []), (21, .invokevirtual 56, 24, []), (24, .aload_n 0, 25, []), (25, .dup, 26, []), (26, .getfield 31, 29, []), (29, .iload_n 3, 30, []), (30, .iadd, 31, []), (31, .putfield 31, 34, []), (34, .return_, 35, [])]
def E_X1_part : ab_E := (T_X1, [(21, (3, 1, [], 0, sp_X1_openChunk))], [], 9)
def M_X1_part : List (Nat × ab_MI) := [(21, mi_X1_openChunk)]
def mi_X1_part : ab_MI := (yX1_part, cX1_part, 4, ab_rty 9, 2, 93)
theorem pk_X1_part : P_X1_part.all (ab_okI cX1_part) = true := by decide +kernel
theorem ck_X1_part : P_X1_part.all (ab_okC1 "RootChunks$Row" M_X1_part E_X1_part (2, 93)) = true := by decide +kernel
set_option maxRecDepth 100000 in
theorem b_X1_part_0 {Q : ab_Q} {k : Int} {fi : Int} {rK : Int → Int} {rL : Int → Int} {rT : Int → Int} {rS : Int → Int} {rn : Int} {rc : Int} {rw : Int} (l1 : sp_X1_openChunk [.inr (.inl (some 0)), .inl (k + 1), .inl ((rL k) - fi)] (rw_cs (rK, (ab_up rL k fi), rT, rS, rn, rc, rw)) (fun r_ k_ => ∃ (r' : rw_T), r_ = none ∧ k_ = (rw_cs r') ∧ ab_R E_X1_part P_X1_part Q 24 [some (.inr (.inl (some 0))), some (.inl k), some (.inl fi), some (.inl ((rL k) - fi))] [] (rw_cs r'))) (p1 : (0 ≤ k ∧ k < 60) := by intros; (try unfold ab_r); omega) : ab_R E_X1_part P_X1_part Q 0 [some (.inr (.inl (some 0))), some (.inl k), some (.inl fi), none] [] (rw_cs (rK, rL, rT, rS, rn, rc, rw)) :=
  ab_R.steps [24] 19 (show ((0 ≤ k ∧ k < 60) ∧ ((0 ≤ k ∧ k < 60) ∧ ab_cl sp_X1_openChunk [.inr (.inl (some 0)), .inl (k + 1), .inl ((rL k) - fi)] (rw_cs (rK, (ab_up rL k fi), rT, rS, rn, rc, rw)) (fun r_ k_ => k_.length = ((rw_cs (rK, (ab_up rL k fi), rT, rS, rn, rc, rw))).length → ab_R E_X1_part P_X1_part Q 24 [some (.inr (.inl (some 0))), some (.inl k), some (.inl fi), some (.inl ((rL k) - fi))] (ab_ret r_ []) k_))) from ⟨p1, ⟨p1, ⟨_, l1, fun r_ k_ hz _ => by obtain ⟨r', rfl, rfl, hR⟩ := hz; exact hR⟩⟩⟩)
set_option maxRecDepth 100000 in
theorem b_X1_part_24 {Q : ab_Q} {k : Int} {fi : Int} {se : Int} {rK : Int → Int} {rL : Int → Int} {rT : Int → Int} {rS : Int → Int} {rn : Int} {rc : Int} {rw : Int} (l1 : Q none (rw_cs (rK, rL, rT, rS, rn, rc, (rw + se))))  : ab_R E_X1_part P_X1_part Q 24 [some (.inr (.inl (some 0))), some (.inl k), some (.inl fi), some (.inl se)] [] (rw_cs (rK, rL, rT, rS, rn, rc, rw)) :=
  ab_R.steps [24] 8 (show Q none (rw_cs (rK, rL, rT, rS, rn, rc, (rw + se))) from l1)
def P_X1_cutAt : List ab_I := [(0, .iconst 0, 1, []), (1, .istore_n 2, 2, []), (2, .iconst 0, 3, []), (3, .istore_n 3, 4, []), (4, .iload_n 3, 5, []), (5, .aload_n 0, 6, []), (6, .getfield 28, 9, []), (9, .if_icmp .ge 55, 12, [((0 : Int), 64)]), (12, .iload_n 1, 13, []), (13, .iload_n 2, 14, []), (14, .if_icmp .gt 5, 17, [((0 : Int), 19)]), (17, .iload_n 3, 18, []), (18, .ireturn, 19, []), (19, .iload_n 1, 20, []), (20, .iload_n 2, 21, []), (21, .aload_n 0, 22, []), (22, .getfield 15, 25, []), (25, .iload_n 3, 26, []), (26, .iaload, 27, []), (27, .iadd, 28, []), (28, .if_icmp .ge 21, 31, [((0 : Int), 49)]), (31, .aload_n 0, 32, []), (32, .iload_n 3, 33, []), (33, .iload_n 2, 34, []), (34, .invokevirtual 64, 37, []), (37, .aload_n 0, 38, []), (38, .iload_n 3, 39, []), (39, .iload_n 1, 40, []), (40, .iload_n 2, 41, []), (41, .isub, 42, []), (42, .invokevirtual 74, 45, []), (45, .iload_n 3, 46, []), (46, .iconst 1, 47, []), (47, .iadd, 48, []), (48, .ireturn, 49, []), (49, .iload_n 2, 50, []), (50, .aload_n 0, 51, []), (51, .getfield 15, 54, []), (54, .iload_n 3, 55, []), (55, .iaload, 56, []), (56, .iadd, 57, []), (57, .istore_n 2, 58, []), (58, .iinc 3 1, 61, []), (61, .goto (-57), 64, [((0 : Int), 4)]), (64, .aload_n 0, 65, []), (65, .getfield 28, 68, []), (68, .ireturn, 69, [])]
def E_X1_cutAt : ab_E := (T_X1, [(34, (3, 1, [], 0, sp_X1_settle)), (42, (3, 1, [], 0, sp_X1_part))], [], 0)
def M_X1_cutAt : List (Nat × ab_MI) := [(34, mi_X1_settle), (42, mi_X1_part)]
def mi_X1_cutAt : ab_MI := (yX1_cutAt, cX1_cutAt, 4, ab_rty 0, 3, 119)
theorem pk_X1_cutAt : P_X1_cutAt.all (ab_okI cX1_cutAt) = true := by decide +kernel
theorem ck_X1_cutAt : P_X1_cutAt.all (ab_okC1 "RootChunks$Row" M_X1_cutAt E_X1_cutAt (3, 119)) = true := by decide +kernel
set_option maxRecDepth 100000 in
theorem b_X1_cutAt_0 {Q : ab_Q} {p : Int} {rK : Int → Int} {rL : Int → Int} {rT : Int → Int} {rS : Int → Int} {rn : Int} {rc : Int} {rw : Int} (l1 : ab_R E_X1_cutAt P_X1_cutAt Q 4 [some (.inr (.inl (some 0))), some (.inl p), some (.inl 0), some (.inl 0)] [] (rw_cs (rK, rL, rT, rS, rn, rc, rw)))  : ab_R E_X1_cutAt P_X1_cutAt Q 0 [some (.inr (.inl (some 0))), some (.inl p), none, none] [] (rw_cs (rK, rL, rT, rS, rn, rc, rw)) :=
  ab_R.steps [4, 37, 45] 6 (show ab_R E_X1_cutAt P_X1_cutAt Q 4 [some (.inr (.inl (some 0))), some (.inl p), some (.inl 0), some (.inl 0)] [] (rw_cs (rK, rL, rT, rS, rn, rc, rw)) from l1)
set_option maxRecDepth 100000 in
theorem b_X1_cutAt_4 {Q : ab_Q} {p : Int} {st : Int} {c : Int} {rK : Int → Int} {rL : Int → Int} {rT : Int → Int} {rS : Int → Int} {rn : Int} {rc : Int} {rw : Int} (l1 : rc ≤ c → Q (some (.inl rc)) (rw_cs (rK, rL, rT, rS, rn, rc, rw))) (l2 : c < rc → st < p → (st + (rL c)) ≤ p → ab_R E_X1_cutAt P_X1_cutAt Q 4 [some (.inr (.inl (some 0))), some (.inl p), some (.inl (st + (rL c))), some (.inl (c + 1))] [] (rw_cs (rK, rL, rT, rS, rn, rc, rw))) (l3 : c < rc → st < p → p < (st + (rL c)) → sp_X1_settle [.inr (.inl (some 0)), .inl c, .inl st] (rw_cs (rK, rL, rT, rS, rn, rc, rw)) (fun r_ k_ => ∃ (r' : rw_T), r_ = none ∧ k_ = (rw_cs r') ∧ ab_R E_X1_cutAt P_X1_cutAt Q 37 [some (.inr (.inl (some 0))), some (.inl p), some (.inl st), some (.inl c)] [] (rw_cs r'))) (l4 : c < rc → p ≤ st → Q (some (.inl c)) (rw_cs (rK, rL, rT, rS, rn, rc, rw))) (p1 : (ab_r c ∧ ab_r rc) := by intros; (try unfold ab_r); omega) (p2 : c < rc → (ab_r p ∧ ab_r st) := by intros; (try unfold ab_r); omega) (p3 : c < rc → st < p → (0 ≤ c ∧ c < 60) := by intros; (try unfold ab_r); omega) (p4 : c < rc → st < p → (ab_r p ∧ ab_r (st + (rL c))) := by intros; (try unfold ab_r); omega) (p5 : c < rc → st < p → (st + (rL c)) ≤ p → (0 ≤ c ∧ c < 60) := by intros; (try unfold ab_r); omega) : ab_R E_X1_cutAt P_X1_cutAt Q 4 [some (.inr (.inl (some 0))), some (.inl p), some (.inl st), some (.inl c)] [] (rw_cs (rK, rL, rT, rS, rn, rc, rw)) :=
  ab_R.steps [4, 37, 45] 26 (show ((ab_r c ∧ ab_r rc) ∧ ((rc ≤ c → Q (some (.inl rc)) (rw_cs (rK, rL, rT, rS, rn, rc, rw))) ∧ (c < rc → ((ab_r p ∧ ab_r st) ∧ ((st < p → ((0 ≤ c ∧ c < 60) ∧ ((ab_r p ∧ ab_r (st + (rL c))) ∧ (((st + (rL c)) ≤ p → ((0 ≤ c ∧ c < 60) ∧ ab_R E_X1_cutAt P_X1_cutAt Q 4 [some (.inr (.inl (some 0))), some (.inl p), some (.inl (st + (rL c))), some (.inl (c + 1))] [] (rw_cs (rK, rL, rT, rS, rn, rc, rw)))) ∧ (p < (st + (rL c)) → ab_cl sp_X1_settle [.inr (.inl (some 0)), .inl c, .inl st] (rw_cs (rK, rL, rT, rS, rn, rc, rw)) (fun r_ k_ => k_.length = ((rw_cs (rK, rL, rT, rS, rn, rc, rw))).length → ab_R E_X1_cutAt P_X1_cutAt Q 37 [some (.inr (.inl (some 0))), some (.inl p), some (.inl st), some (.inl c)] (ab_ret r_ []) k_)))))) ∧ (p ≤ st → Q (some (.inl c)) (rw_cs (rK, rL, rT, rS, rn, rc, rw)))))))) from ⟨p1, ⟨fun h1 => (l1 h1), fun h2 => ⟨(p2 h2), ⟨fun h3 => ⟨(p3 h2 h3), ⟨(p4 h2 h3), ⟨fun h4 => ⟨(p5 h2 h3 h4), (l2 h2 h3 h4)⟩, fun h5 => ⟨_, (l3 h2 h3 h5), fun r_ k_ hz _ => by obtain ⟨r', rfl, rfl, hR⟩ := hz; exact hR⟩⟩⟩⟩, fun h6 => (l4 h2 h6)⟩⟩⟩⟩)
set_option maxRecDepth 100000 in
theorem b_X1_cutAt_37 {Q : ab_Q} {p : Int} {st : Int} {c : Int} {rK : Int → Int} {rL : Int → Int} {rT : Int → Int} {rS : Int → Int} {rn : Int} {rc : Int} {rw : Int} (l1 : sp_X1_part [.inr (.inl (some 0)), .inl c, .inl (p - st)] (rw_cs (rK, rL, rT, rS, rn, rc, rw)) (fun r_ k_ => ∃ (r' : rw_T), r_ = none ∧ k_ = (rw_cs r') ∧ ab_R E_X1_cutAt P_X1_cutAt Q 45 [some (.inr (.inl (some 0))), some (.inl p), some (.inl st), some (.inl c)] [] (rw_cs r')))  : ab_R E_X1_cutAt P_X1_cutAt Q 37 [some (.inr (.inl (some 0))), some (.inl p), some (.inl st), some (.inl c)] [] (rw_cs (rK, rL, rT, rS, rn, rc, rw)) :=
  ab_R.steps [4, 37, 45] 7 (show ab_cl sp_X1_part [.inr (.inl (some 0)), .inl c, .inl (p - st)] (rw_cs (rK, rL, rT, rS, rn, rc, rw)) (fun r_ k_ => k_.length = ((rw_cs (rK, rL, rT, rS, rn, rc, rw))).length → ab_R E_X1_cutAt P_X1_cutAt Q 45 [some (.inr (.inl (some 0))), some (.inl p), some (.inl st), some (.inl c)] (ab_ret r_ []) k_) from ⟨_, l1, fun r_ k_ hz _ => by obtain ⟨r', rfl, rfl, hR⟩ := hz; exact hR⟩)
set_option maxRecDepth 100000 in
theorem b_X1_cutAt_45 {Q : ab_Q} {p : Int} {st : Int} {c : Int} {rK : Int → Int} {rL : Int → Int} {rT : Int → Int} {rS : Int → Int} {rn : Int} {rc : Int} {rw : Int} (l1 : Q (some (.inl (c + 1))) (rw_cs (rK, rL, rT, rS, rn, rc, rw)))  : ab_R E_X1_cutAt P_X1_cutAt Q 45 [some (.inr (.inl (some 0))), some (.inl p), some (.inl st), some (.inl c)] [] (rw_cs (rK, rL, rT, rS, rn, rc, rw)) :=
  ab_R.steps [4, 37, 45] 5 (show Q (some (.inl (c + 1))) (rw_cs (rK, rL, rT, rS, rn, rc, rw)) from l1)
theorem vc_X1_settle {av : List ab_V} {cs : List ab_C} {Q : ab_Q} (h : sp_X1_settle av cs Q) : (ab_lv0 av).length ≤ 5 ∧ ab_R E_X1_settle P_X1_settle Q 0 (ab_ent av 5) [] cs := by
  obtain ⟨⟨K, L, T, S, n, cc, w⟩, A, k, B, c, st, rfl, rfl, hR, hW, hc, hst, hQ⟩ := h
  refine ⟨Nat.le_of_ble_eq_true rfl, ?_⟩
  have hcl := hW.chunks
  have hfl := hW.2
  rw [List.length_append, List.length_cons] at hcl
  have hA : (mq_flat A).length + k.1.length ≤ 60 := by
    rw [mq_flat_mid, List.length_append, List.length_append] at hfl
    omega
  have e1 := hR.len (mq_at_app A k B)
  have e2 := hR.turn (mq_at_app A k B)
  have e3 := hR.sum (mq_at_app A k B)
  have ek := fun {j : Nat} {x : Int} (hj : k.1[j]? = some x) => hR.kept hj
  dsimp only at e1 e2 e3 ek
  rw [← hc] at e1 e2 e3
  have hok := hW.1 k (by simp)
  have ht := hok.2.1
  have hsb : -200000 ≤ k.2.2 ∧ k.2.2 ≤ 200000 := by
    have h0 := hok.1
    have hl0 : 0 < (mq_row k).length := by rw [mq_row_len]; exact h0
    have hx : (mq_row k)[0]? = some (mq_row k)[0] := List.getElem?_eq_getElem hl0
    obtain ⟨y, hy, e⟩ := mq_row_at hx
    have h1 := hok.2.2.2 _ (List.mem_of_getElem? hx)
    have h2 := hok.2.2.1 _ (List.mem_of_getElem? hy)
    omega
  -- behind the turn
  have fin : ∀ (K1 : Int → Int), ¬ (k.2.1 = 0 ∧ k.2.2 = 0) → (∀ j : Int, K1 j = if k.2.1 = 1 ∧ st ≤ j ∧ j < st + k.1.length then K (st + (st + k.1.length) - 1 - j) else K j) →
      ab_R E_X1_settle P_X1_settle Q 47 [some (.inr (.inl (some 0))), some (.inl c), some (.inl st), some (.inl (st + L c)), none] [] (rw_cs (K1, L, T, S, n, cc, w)) := by
    intro K1 hwt hK1
    have loop : ∀ (d : Nat) (i : Int) (K2 : Int → Int), st + k.1.length - i = d → st ≤ i → (∀ j : Int, K2 j = if st ≤ j ∧ j < i then K1 j + k.2.2 else K1 j) →
        ab_R E_X1_settle P_X1_settle Q 50 [some (.inr (.inl (some 0))), some (.inl c), some (.inl st), some (.inl (st + L c)), some (.inl i)] [] (rw_cs (K2, L, T, S, n, cc, w)) := by
      intro d
      induction d with
      | zero =>
        intro i K2 g1 g2 g3
        refine b_X1_settle_50 (fun _ => ?_) (fun _ => by omega)
        have hr := mq_R_settle (K' := K2) (w' := w + L c) hR (fun j hj => ?_) (fun j hj => ?_) (fun j x hj => ?_)
        · rw [← hc] at hr
          refine hQ _ hr ?_
          show w + L c = w + mq_cost k
          unfold mq_cost
          rw [if_neg hwt, e1]
        · rw [g3, if_neg (by omega), hK1, if_neg (by omega)]
        · rw [g3, if_neg (by omega), hK1, if_neg (by omega)]
        · obtain ⟨y, hy, rfl⟩ := mq_row_at hj
          have hjl := (List.getElem?_eq_some_iff.mp hj).1
          rw [mq_row_len] at hjl
          have e4 := ek hy
          rw [g3, if_pos (by omega), hK1]
          by_cases z : k.2.1 = 1
          · rw [if_pos (by omega)]
            rw [if_pos z] at e4
            rw [← e4]
            congr 2
            omega
          · rw [if_neg (by omega)]
            rw [if_neg z] at e4
            rw [← e4]
            congr 2
      | succ d ih =>
        intro i K2 g1 g2 g3
        refine b_X1_settle_50 (fun _ => by omega) (fun _ => ih (i + 1) _ (by omega) (by omega) (fun j => ?_))
        unfold ab_up
        by_cases z : j = i
        · rw [if_pos z, if_pos (by omega), e3, z, g3, if_neg (by omega)]
        · rw [if_neg z, g3]
          by_cases z2 : st ≤ j ∧ j < i
          · rw [if_pos z2, if_pos (by omega)]
          · rw [if_neg z2, if_neg (by omega)]
    exact b_X1_settle_47 (loop k.1.length st K1 (by omega) (by omega) (fun j => by rw [if_neg (by omega)]))
  have mir : ¬ (k.2.1 = 0 ∧ k.2.2 = 0) → T c = 1 → sp_X1_mirror [.inr (.inl (some 0)), .inl st, .inl (st + L c)] (ar_cs K) (fun r_ k_ => ∃ (f' : Int → Int), r_ = none ∧ k_ = (ar_cs (f')) ∧ ab_R E_X1_settle P_X1_settle Q 47 [some (.inr (.inl (some 0))), some (.inl c), some (.inl st), some (.inl (st + L c)), none] [] (rw_cs (f', L, T, S, n, cc, w))) := by
    intro h1 h2
    refine ⟨K, st, st + L c, rfl, rfl, by omega, by omega, by omega, _, rfl, rfl, fin _ h1 (fun j => ?_)⟩
    unfold mq_mir
    rw [e1]
    by_cases z : st ≤ j ∧ j < st + k.1.length
    · rw [if_pos z, if_pos (by omega)]
    · rw [if_neg z, if_neg (by omega)]
  have pl : ¬ (k.2.1 = 0 ∧ k.2.2 = 0) → ¬ T c = 1 → ab_R E_X1_settle P_X1_settle Q 47 [some (.inr (.inl (some 0))), some (.inl c), some (.inl st), some (.inl (st + L c)), none] [] (rw_cs (K, L, T, S, n, cc, w)) := by
    intro h1 h2
    exact fin K h1 (fun j => by rw [if_neg (by omega)])
  refine b_X1_settle_0 (fun h1 h2 => pl (by omega) h2) (fun h1 h2 => mir (by omega) h2) (fun h1 h2 h3 => pl (by omega) h3) (fun h1 h2 h3 => mir (by omega) h3) (fun h1 h2 => ?_)
  obtain ⟨c1, c2, c3⟩ := mq_cost_0 (k := k) (by omega) (by omega)
  refine hQ _ (by rw [← c3]; exact hR) ?_
  rw [c2]
  show w = w + 0
  omega
theorem mt_X1_settle (l : Launch) : ab_MT l mi_X1_settle sp_X1_settle := ab_MT.of (own := "RootChunks$Row") (E := E_X1_settle) (P := P_X1_settle) (M := M_X1_settle) (nL := 5) (ty := 9) (by decide) rfl rfl tk_X1 pk_X1_settle ck_X1_settle (ab_CT'.cons (mt_X1_mirror l) ab_CT'.nil) (fun av cs Q h => vc_X1_settle h)
theorem vc_X1_part {av : List ab_V} {cs : List ab_C} {Q : ab_Q} (h : sp_X1_part av cs Q) : (ab_lv0 av).length ≤ 4 ∧ ab_R E_X1_part P_X1_part Q 0 (ab_ent av 4) [] cs := by
  obtain ⟨⟨K, L, T, S, n, cc, w⟩, A, l, B, f, c, x, rfl, rfl, hR, hW, hc, hx, h0, h1, hQ⟩ := h
  refine ⟨Nat.le_of_ble_eq_true rfl, ?_⟩
  have hfl := hW.2
  have hpos := mq_flat_pos hW.1
  have hcc : cc = ((A ++ (l, 0, 0) :: B).length : Nat) := hR.2.2.2.2.2
  have hlt : (A ++ (l, 0, 0) :: B).length < 60 := by
    have h2 := mq_flat_pos (q := A) (fun k hk => hW.1 k (by simp [hk]))
    have h3 := mq_flat_pos (q := B) (fun k hk => hW.1 k (by simp [hk]))
    rw [mq_flat_mid] at hfl
    simp at hfl ⊢
    omega
  have hcl : (A ++ (l, 0, 0) :: B).length = A.length + (B.length + 1) := by simp
  have e1 := hR.len (mq_at_app A (l, 0, 0) B)
  dsimp only at e1
  rw [← hc] at e1
  refine b_X1_part_0 ⟨_, _, _, _, _, _, _, _, _, rfl, rfl, by omega, by omega, by omega, _, rfl, rfl, ?_⟩
  refine b_X1_part_24 ?_
  have hr := mq_R_part (w' := w + (L c - x)) hR (f := f) (by omega)
  rw [← hc, ← hx, ← e1] at hr
  refine hQ _ hr ?_
  show w + (L c - x) = w + ((l.length : Int) - f)
  omega
theorem mt_X1_part (l : Launch) : ab_MT l mi_X1_part sp_X1_part := ab_MT.of (own := "RootChunks$Row") (E := E_X1_part) (P := P_X1_part) (M := M_X1_part) (nL := 4) (ty := 9) (by decide) rfl rfl tk_X1 pk_X1_part ck_X1_part (ab_CT'.cons (mt_X1_openChunk l) ab_CT'.nil) (fun av cs Q h => vc_X1_part h)
theorem vc_X1_cutAt {av : List ab_V} {cs : List ab_C} {Q : ab_Q} (h : sp_X1_cutAt av cs Q) : (ab_lv0 av).length ≤ 4 ∧ ab_R E_X1_cutAt P_X1_cutAt Q 0 (ab_ent av 4) [] cs := by
  obtain ⟨⟨K, L, T, S, n, cc, w⟩, q, d, p, rfl, rfl, hR, hW, hp, hd, hQ⟩ := h
  refine ⟨Nat.le_of_ble_eq_true rfl, ?_⟩
  have hcl := hW.chunks
  have hfl := hW.2
  have hcc : cc = (q.length : Nat) := hR.2.2.2.2.2
  have loop : ∀ (B A : List mq_K) (d' : Nat) (c st : Int), q = A ++ B → c = A.length → st = (mq_flat A).length → d = (mq_flat A).length + d' → mq_cut q d = (A ++ (mq_cut B d').1, (mq_cut B d').2) →
      ab_R E_X1_cutAt P_X1_cutAt Q 4 [some (.inr (.inl (some 0))), some (.inl p), some (.inl st), some (.inl c)] [] (rw_cs (K, L, T, S, n, cc, w)) := by
    intro B
    induction B with
    | nil =>
      intro A d' c st g1 g2 g3 g4 g5
      rw [List.append_nil] at g1
      subst g1
      refine b_X1_cutAt_4 (fun _ => ?_) (fun _ _ _ => by omega) (fun _ _ _ => by omega) (fun _ _ => by omega)
      rw [g5] at hQ
      have h1 := hQ (K, L, T, S, n, cc, w) (by simpa [mq_cut] using hR) (by show w = w + 0; omega)
      have h2 : Q (some (.inl ((q.length : Nat) : Int))) (rw_cs (K, L, T, S, n, cc, w)) := by simpa [mq_cut] using h1
      rwa [← hcc] at h2
    | cons k B ih =>
      intro A d' c st g1 g2 g3 g4 g5
      subst g1
      have e1 := hR.len (mq_at_app A k B)
      dsimp only at e1
      rw [← g2] at e1
      rw [mq_flat_mid, List.length_append, List.length_append] at hd hfl
      rw [List.length_append, List.length_cons] at hcl hcc
      have hk0 := (hW.1 k (by simp)).1
      refine b_X1_cutAt_4 (fun _ => by omega) (fun _ h2 h3 => ?_) (fun _ h2 h3 => ?_) (fun _ h2 => ?_)
      · refine ih (A ++ [k]) (d' - k.1.length) (c + 1) (st + L c) (by simp) (by simp; omega) ?_ ?_ ?_
        · rw [mq_flat_app, mq_flat_cons]; simp [mq_flat]; simp [mq_flat] at g3; omega
        · rw [mq_flat_app, mq_flat_cons]; simp [mq_flat]; simp [mq_flat] at g4 g3; omega
        · rw [g5]
          conv => lhs; unfold mq_cut
          rw [if_neg (by omega), if_neg (by omega)]
          simp
      · have g6 : mq_cut (A ++ k :: B) d = (A ++ [((mq_row k).take d', 0, 0)], ((mq_row k).drop d', 0, 0) :: B, mq_cost k + ((k.1.length : Int) - d')) := by
          rw [g5]
          conv => lhs; unfold mq_cut
          rw [if_neg (by omega), if_pos (by omega)]
        refine ⟨_, A, k, B, _, _, rfl, rfl, hR, hW, g2, g3, fun r' hr' hw' => ⟨r', rfl, rfl, ?_⟩⟩
        obtain ⟨K1, L1, T1, S1, n1, c1, w1⟩ := r'
        refine b_X1_cutAt_37 ⟨_, A, mq_row k, B, d', _, _, rfl, rfl, hr', mq_W_settle hW, g2, by omega, by omega, by rw [mq_row_len]; omega, fun r'' hr'' hw'' => ⟨r'', rfl, rfl, ?_⟩⟩
        obtain ⟨K2, L2, T2, S2, n2, c2, w2⟩ := r''
        refine b_X1_cutAt_45 ?_
        rw [g6] at hQ
        have h1 := hQ (K2, L2, T2, S2, n2, c2, w2) (by simpa using hr'') (by
          dsimp only at hw' hw'' ⊢
          rw [hw'', hw', mq_row_len]
          omega)
        dsimp only at h1
        rw [List.length_append] at h1
        rw [g2]
        exact h1
      · have g6 : mq_cut (A ++ k :: B) d = (A, k :: B, 0) := by
          rw [g5]
          conv => lhs; unfold mq_cut
          rw [if_pos (by omega)]
          simp
        rw [g6] at hQ
        rw [g2]
        exact hQ (K, L, T, S, n, cc, w) hR (by show w = w + 0; omega)
  exact b_X1_cutAt_0 (loop q [] d 0 0 rfl rfl rfl (by simp [mq_flat]) rfl)
theorem mt_X1_cutAt (l : Launch) : ab_MT l mi_X1_cutAt sp_X1_cutAt := ab_MT.of (own := "RootChunks$Row") (E := E_X1_cutAt) (P := P_X1_cutAt) (M := M_X1_cutAt) (nL := 4) (ty := 0) (by decide) rfl rfl tk_X1 pk_X1_cutAt ck_X1_cutAt (ab_CT'.cons (mt_X1_settle l) (ab_CT'.cons (mt_X1_part l) ab_CT'.nil)) (fun av cs Q h => vc_X1_cutAt h)

