/-! THE CLASS Row: what its methods do, in chunks -/
def sp_X1_has : ab_Sp := fun av cs Q => ∃ (r : rw_T) (q : List mq_K) (p : Int), av = [.inr (.inl (some 0)), .inl p] ∧ cs = rw_cs r ∧ mq_R r q ∧ mq_W q ∧ ab_r p ∧ Q (some (.inl (if 0 ≤ p ∧ p < (mq_flat q).length then 1 else 0))) (rw_cs r)
def sp_X1_startOf : ab_Sp := fun av cs Q => ∃ (r : rw_T) (q : List mq_K) (c : Nat) (k : Int), av = [.inr (.inl (some 0)), .inl k] ∧ cs = rw_cs r ∧ mq_R r q ∧ mq_W q ∧ k = (c : Int) ∧ c ≤ q.length ∧ Q (some (.inl ((mq_flat (q.take c)).length : Int))) (rw_cs r)
def sp_X1_chunkHolding : ab_Sp := fun av cs Q => ∃ (r : rw_T) (A : List mq_K) (k : mq_K) (B : List mq_K) (p : Int), av = [.inr (.inl (some 0)), .inl p] ∧ cs = rw_cs r ∧ mq_R r (A ++ k :: B) ∧ mq_W (A ++ k :: B) ∧ (mq_flat A).length ≤ p ∧ p < (mq_flat A).length + k.1.length ∧ Q (some (.inl (A.length : Int))) (rw_cs r)
def sp_X1_numberAt : ab_Sp := fun av cs Q => ∃ (r : rw_T) (q : List mq_K) (p : Int) (i : Nat) (x : Int), av = [.inr (.inl (some 0)), .inl p] ∧ cs = rw_cs r ∧ mq_R r q ∧ mq_W q ∧ p = (i : Int) ∧ (mq_all q)[i]? = some x ∧ Q (some (.inl x)) (rw_cs r)
def sp_X1_mirror : ab_Sp := fun av cs Q => ∃ (f : Int → Int) (lo hi : Int), av = [.inr (.inl (some 0)), .inl lo, .inl hi] ∧ cs = ar_cs f ∧ 0 ≤ lo ∧ lo ≤ hi ∧ hi ≤ 60 ∧ Q none (ar_cs (mq_mir f lo hi))
def sp_X1_openChunk : ab_Sp := fun av cs Q => ∃ (K L T S : Int → Int) (n c w k sz : Int), av = [.inr (.inl (some 0)), .inl k, .inl sz] ∧ cs = rw_cs (K, L, T, S, n, c, w) ∧ 0 ≤ k ∧ k ≤ c ∧ c < 60 ∧ Q none (rw_cs (K, mq_ins L c k sz, mq_ins T c k 0, mq_ins S c k 0, n, c + 1, w))
def sp_X1_closeChunk : ab_Sp := fun av cs Q => ∃ (K L T S : Int → Int) (n c w k : Int), av = [.inr (.inl (some 0)), .inl k] ∧ cs = rw_cs (K, L, T, S, n, c, w) ∧ 0 ≤ k ∧ k < c ∧ c ≤ 60 ∧ Q none (rw_cs (K, mq_del L c k, mq_del T c k, mq_del S c k, n, c - 1, w))
def P_X1_has : List ab_I := [(0, .iload_n 1, 1, []), (1, .ifCond .lt 15, 4, [((0 : Int), 16)]), (4, .iload_n 1, 5, []), (5, .aload_n 0, 6, []), (6, .getfield 24, 9, []), (9, .if_icmp .ge 7, 12, [((0 : Int), 16)]), (12, .iconst 1, 13, []), (13, .goto 4, 16, [((0 : Int), 17)]), (16, .iconst 0, 17, []), (17, .ireturn, 18, [])]
def E_X1_has : ab_E := (T_X1, [], [], 2)
def M_X1_has : List (Nat × ab_MI) := []
def mi_X1_has : ab_MI := (yX1_has, cX1_has, 2, ab_rty 2, 1, 70)
theorem pk_X1_has : P_X1_has.all (ab_okI cX1_has) = true := by decide +kernel
theorem ck_X1_has : P_X1_has.all (ab_okC1 "RootChunks$Row" M_X1_has E_X1_has (1, 70)) = true := by decide +kernel
set_option maxRecDepth 100000 in
theorem b_X1_has_0 {Q : ab_Q} {p : Int} {rK : Int → Int} {rL : Int → Int} {rT : Int → Int} {rS : Int → Int} {rn : Int} {rc : Int} {rw : Int} (l1 : p < (0 : Int) → Q (some (.inl 0)) (rw_cs (rK, rL, rT, rS, rn, rc, rw))) (l2 : (0 : Int) ≤ p → rn ≤ p → Q (some (.inl 0)) (rw_cs (rK, rL, rT, rS, rn, rc, rw))) (l3 : (0 : Int) ≤ p → p < rn → Q (some (.inl 1)) (rw_cs (rK, rL, rT, rS, rn, rc, rw))) (p1 : ab_r p := by intros; (try unfold ab_r); omega) (p2 : p < (0 : Int) → ((0 : Int) = 0 ∨ (0 : Int) = 1) := by intros; (try unfold ab_r); omega) (p3 : (0 : Int) ≤ p → (ab_r p ∧ ab_r rn) := by intros; (try unfold ab_r); omega) (p4 : (0 : Int) ≤ p → rn ≤ p → ((0 : Int) = 0 ∨ (0 : Int) = 1) := by intros; (try unfold ab_r); omega) (p5 : (0 : Int) ≤ p → p < rn → ((1 : Int) = 0 ∨ (1 : Int) = 1) := by intros; (try unfold ab_r); omega) : ab_R E_X1_has P_X1_has Q 0 [some (.inr (.inl (some 0))), some (.inl p)] [] (rw_cs (rK, rL, rT, rS, rn, rc, rw)) :=
  ab_R.steps [] 10 (show (ab_r p ∧ ((p < (0 : Int) → (((0 : Int) = 0 ∨ (0 : Int) = 1) ∧ Q (some (.inl 0)) (rw_cs (rK, rL, rT, rS, rn, rc, rw)))) ∧ ((0 : Int) ≤ p → ((ab_r p ∧ ab_r rn) ∧ ((rn ≤ p → (((0 : Int) = 0 ∨ (0 : Int) = 1) ∧ Q (some (.inl 0)) (rw_cs (rK, rL, rT, rS, rn, rc, rw)))) ∧ (p < rn → (((1 : Int) = 0 ∨ (1 : Int) = 1) ∧ Q (some (.inl 1)) (rw_cs (rK, rL, rT, rS, rn, rc, rw))))))))) from ⟨p1, ⟨fun h1 => ⟨(p2 h1), (l1 h1)⟩, fun h2 => ⟨(p3 h2), ⟨fun h3 => ⟨(p4 h2 h3), (l2 h2 h3)⟩, fun h4 => ⟨(p5 h2 h4), (l3 h2 h4)⟩⟩⟩⟩⟩)
def P_X1_startOf : List ab_I := [(0, .iconst 0, 1, []), (1, .istore_n 2, 2, []), (2, .iconst 0, 3, []), (3, .istore_n 3, 4, []), (4, .iload_n 3, 5, []), (5, .iload_n 1, 6, []), (6, .if_icmp .ge 26, 9, [((0 : Int), 32)]), (9, .iload_n 3, 10, []), (10, .aload_n 0, 11, []), (11, .getfield 28, 14, []), (14, .if_icmp .ge 18, 17, [((0 : Int), 32)]), (17, .iload_n 2, 18, []), (18, .aload_n 0, 19, []), (19, .getfield 15, 22, []), (22, .iload_n 3, 23, []), (23, .iaload, 24, []), (24, .iadd, 25, []), (25, .istore_n 2, 26, []), (26, .iinc 3 1, 29, []), (29, .goto (-25), 32, [((0 : Int), 4)]), (32, .iload_n 2, 33, []), (33, .ireturn, 34, [])]
def E_X1_startOf : ab_E := (T_X1, [], [], 0)
def M_X1_startOf : List (Nat × ab_MI) := []
def mi_X1_startOf : ab_MI := (yX1_startOf, cX1_startOf, 4, ab_rty 0, 1, 70)
theorem pk_X1_startOf : P_X1_startOf.all (ab_okI cX1_startOf) = true := by decide +kernel
theorem ck_X1_startOf : P_X1_startOf.all (ab_okC1 "RootChunks$Row" M_X1_startOf E_X1_startOf (1, 70)) = true := by decide +kernel
set_option maxRecDepth 100000 in
theorem b_X1_startOf_0 {Q : ab_Q} {k : Int} {rK : Int → Int} {rL : Int → Int} {rT : Int → Int} {rS : Int → Int} {rn : Int} {rc : Int} {rw : Int} (l1 : ab_R E_X1_startOf P_X1_startOf Q 4 [some (.inr (.inl (some 0))), some (.inl k), some (.inl 0), some (.inl 0)] [] (rw_cs (rK, rL, rT, rS, rn, rc, rw)))  : ab_R E_X1_startOf P_X1_startOf Q 0 [some (.inr (.inl (some 0))), some (.inl k), none, none] [] (rw_cs (rK, rL, rT, rS, rn, rc, rw)) :=
  ab_R.steps [4] 6 (show ab_R E_X1_startOf P_X1_startOf Q 4 [some (.inr (.inl (some 0))), some (.inl k), some (.inl 0), some (.inl 0)] [] (rw_cs (rK, rL, rT, rS, rn, rc, rw)) from l1)
set_option maxRecDepth 100000 in
theorem b_X1_startOf_4 {Q : ab_Q} {k : Int} {st : Int} {c : Int} {rK : Int → Int} {rL : Int → Int} {rT : Int → Int} {rS : Int → Int} {rn : Int} {rc : Int} {rw : Int} (l1 : k ≤ c → Q (some (.inl st)) (rw_cs (rK, rL, rT, rS, rn, rc, rw))) (l2 : c < k → rc ≤ c → Q (some (.inl st)) (rw_cs (rK, rL, rT, rS, rn, rc, rw))) (l3 : c < k → c < rc → ab_R E_X1_startOf P_X1_startOf Q 4 [some (.inr (.inl (some 0))), some (.inl k), some (.inl (st + (rL c))), some (.inl (c + 1))] [] (rw_cs (rK, rL, rT, rS, rn, rc, rw))) (p1 : (ab_r c ∧ ab_r k) := by intros; (try unfold ab_r); omega) (p2 : c < k → (ab_r c ∧ ab_r rc) := by intros; (try unfold ab_r); omega) (p3 : c < k → c < rc → (0 ≤ c ∧ c < 60) := by intros; (try unfold ab_r); omega) : ab_R E_X1_startOf P_X1_startOf Q 4 [some (.inr (.inl (some 0))), some (.inl k), some (.inl st), some (.inl c)] [] (rw_cs (rK, rL, rT, rS, rn, rc, rw)) :=
  ab_R.steps [4] 18 (show ((ab_r c ∧ ab_r k) ∧ ((k ≤ c → Q (some (.inl st)) (rw_cs (rK, rL, rT, rS, rn, rc, rw))) ∧ (c < k → ((ab_r c ∧ ab_r rc) ∧ ((rc ≤ c → Q (some (.inl st)) (rw_cs (rK, rL, rT, rS, rn, rc, rw))) ∧ (c < rc → ((0 ≤ c ∧ c < 60) ∧ ab_R E_X1_startOf P_X1_startOf Q 4 [some (.inr (.inl (some 0))), some (.inl k), some (.inl (st + (rL c))), some (.inl (c + 1))] [] (rw_cs (rK, rL, rT, rS, rn, rc, rw))))))))) from ⟨p1, ⟨fun h1 => (l1 h1), fun h2 => ⟨(p2 h2), ⟨fun h3 => (l2 h2 h3), fun h4 => ⟨(p3 h2 h4), (l3 h2 h4)⟩⟩⟩⟩⟩)
def P_X1_chunkHolding : List ab_I := [(0, .iconst 0, 1, []), (1, .istore_n 2, 2, []), (2, .iconst 0, 3, []), (3, .istore_n 3, 4, []), (4, .iload_n 3, 5, []), (5, .aload_n 0, 6, []), (6, .getfield 28, 9, []), (9, .if_icmp .ge 25, 12, [((0 : Int), 34)]), (12, .iload_n 2, 13, []), (13, .aload_n 0, 14, []), (14, .getfield 15, 17, []), (17, .iload_n 3, 18, []), (18, .iaload, 19, []), (19, .iadd, 20, []), (20, .istore_n 2, 21, []), (21, .iload_n 1, 22, []), (22, .iload_n 2, 23, []), (23, .if_icmp .ge 5, 26, [((0 : Int), 28)]), (26, .iload_n 3, 27, []), (27, .ireturn, 28, []), (28, .iinc 3 1, 31, []), (31, .goto (-27), 34, [((0 : Int), 4)]), (34, .aload_n 0, 35, []), (35, .getfield 28, 38, []), (38, .ireturn, 39, [])]
def E_X1_chunkHolding : ab_E := (T_X1, [], [], 0)
def M_X1_chunkHolding : List (Nat × ab_MI) := []
def mi_X1_chunkHolding : ab_MI := (yX1_chunkHolding, cX1_chunkHolding, 4, ab_rty 0, 1, 70)
theorem pk_X1_chunkHolding : P_X1_chunkHolding.all (ab_okI cX1_chunkHolding) = true := by decide +kernel
theorem ck_X1_chunkHolding : P_X1_chunkHolding.all (ab_okC1 "RootChunks$Row" M_X1_chunkHolding E_X1_chunkHolding (1, 70)) = true := by decide +kernel
set_option maxRecDepth 100000 in
theorem b_X1_chunkHolding_0 {Q : ab_Q} {p : Int} {rK : Int → Int} {rL : Int → Int} {rT : Int → Int} {rS : Int → Int} {rn : Int} {rc : Int} {rw : Int} (l1 : ab_R E_X1_chunkHolding P_X1_chunkHolding Q 4 [some (.inr (.inl (some 0))), some (.inl p), some (.inl 0), some (.inl 0)] [] (rw_cs (rK, rL, rT, rS, rn, rc, rw)))  : ab_R E_X1_chunkHolding P_X1_chunkHolding Q 0 [some (.inr (.inl (some 0))), some (.inl p), none, none] [] (rw_cs (rK, rL, rT, rS, rn, rc, rw)) :=
  ab_R.steps [4] 6 (show ab_R E_X1_chunkHolding P_X1_chunkHolding Q 4 [some (.inr (.inl (some 0))), some (.inl p), some (.inl 0), some (.inl 0)] [] (rw_cs (rK, rL, rT, rS, rn, rc, rw)) from l1)
set_option maxRecDepth 100000 in
theorem b_X1_chunkHolding_4 {Q : ab_Q} {p : Int} {bh : Int} {c : Int} {rK : Int → Int} {rL : Int → Int} {rT : Int → Int} {rS : Int → Int} {rn : Int} {rc : Int} {rw : Int} (l1 : rc ≤ c → Q (some (.inl rc)) (rw_cs (rK, rL, rT, rS, rn, rc, rw))) (l2 : c < rc → (bh + (rL c)) ≤ p → ab_R E_X1_chunkHolding P_X1_chunkHolding Q 4 [some (.inr (.inl (some 0))), some (.inl p), some (.inl (bh + (rL c))), some (.inl (c + 1))] [] (rw_cs (rK, rL, rT, rS, rn, rc, rw))) (l3 : c < rc → p < (bh + (rL c)) → Q (some (.inl c)) (rw_cs (rK, rL, rT, rS, rn, rc, rw))) (p1 : (ab_r c ∧ ab_r rc) := by intros; (try unfold ab_r); omega) (p2 : c < rc → (0 ≤ c ∧ c < 60) := by intros; (try unfold ab_r); omega) (p3 : c < rc → (ab_r p ∧ ab_r (bh + (rL c))) := by intros; (try unfold ab_r); omega) : ab_R E_X1_chunkHolding P_X1_chunkHolding Q 4 [some (.inr (.inl (some 0))), some (.inl p), some (.inl bh), some (.inl c)] [] (rw_cs (rK, rL, rT, rS, rn, rc, rw)) :=
  ab_R.steps [4] 18 (show ((ab_r c ∧ ab_r rc) ∧ ((rc ≤ c → Q (some (.inl rc)) (rw_cs (rK, rL, rT, rS, rn, rc, rw))) ∧ (c < rc → ((0 ≤ c ∧ c < 60) ∧ ((ab_r p ∧ ab_r (bh + (rL c))) ∧ (((bh + (rL c)) ≤ p → ab_R E_X1_chunkHolding P_X1_chunkHolding Q 4 [some (.inr (.inl (some 0))), some (.inl p), some (.inl (bh + (rL c))), some (.inl (c + 1))] [] (rw_cs (rK, rL, rT, rS, rn, rc, rw))) ∧ (p < (bh + (rL c)) → Q (some (.inl c)) (rw_cs (rK, rL, rT, rS, rn, rc, rw))))))))) from ⟨p1, ⟨fun h1 => (l1 h1), fun h2 => ⟨(p2 h2), ⟨(p3 h2), ⟨fun h3 => (l2 h2 h3), fun h4 => (l3 h2 h4)⟩⟩⟩⟩⟩)
def P_X1_numberAt : List ab_I := [(0, .aload_n 0, 1, []), (1, .iload_n 1, 2, []), (2, .invokevirtual 40, 5, []), (5, .istore_n 2, 6, []), (6, .iload_n 1, 7, []), (7, .ifCond .lt 11, 10, [((0 : Int), 18)]), (10, .iload_n 2, 11, []), (11, .aload_n 0, 12, []), (12, .getfield 28, 15, []), (15, .if_icmp .lt 5, 18, [((0 : Int), 20)]), (18, .iconst 0, 19, []), (19, .ireturn, 20, []), (20, .aload_n 0, 21, []), (21, .iload_n 2, 22, []), (22, .invokevirtual 44, 25, []), (25, .istore_n 3, 26, []), (26, .aload_n 0, 27, []), (27, .getfield 18, 30, []), (30, .iload_n 2, 31, []), (31, .iaload, 32, []), (32, .iconst 1, 33, []), (33, .if_icmp .ne 20, 36, [((0 : Int), 53)]), (36, .iload_n 3, 37, []), (37, .iload_n 3, 38, []), (38, .iadd, 39, []), (39, .aload_n 0, 40, []), (40, .getfield 15, 43, []), (43, .iload_n 2, 44, []), (44, .iaload, 45, []), (45, .iadd, 46, []), (46, .iconst 1, 47, []), (47, .isub, 48, []), (48, .iload_n 1, 49, []), (49, .isub, 50, []), (50, .goto 4, 53, [((0 : Int), 54)]), (53, .iload_n 1, 54, []), (54, .istore 4, 56, []), (56, .aload_n 0, 57, []), (57, .getfield 9, 60, []), (60, .iload 4, 62, []), (62, .iaload, 63, []), (63, .aload_n 0, 64, []), (64, .getfield 21, 67, []), (67, .iload_n 2, 68, []), (68, .iaload, 69, []), (69, .iadd, 70, []), (70, .ireturn, 71, [])]
def E_X1_numberAt : ab_E := (T_X1, [(2, (2, 1, [], 0, sp_X1_chunkHolding)), (22, (2, 1, [], 0, sp_X1_startOf))], [], 0)
def M_X1_numberAt : List (Nat × ab_MI) := [(2, mi_X1_chunkHolding), (22, mi_X1_startOf)]
def mi_X1_numberAt : ab_MI := (yX1_numberAt, cX1_numberAt, 5, ab_rty 0, 2, 93)
theorem pk_X1_numberAt : P_X1_numberAt.all (ab_okI cX1_numberAt) = true := by decide +kernel
theorem ck_X1_numberAt : P_X1_numberAt.all (ab_okC1 "RootChunks$Row" M_X1_numberAt E_X1_numberAt (2, 93)) = true := by decide +kernel
set_option maxRecDepth 100000 in
theorem b_X1_numberAt_0 {Q : ab_Q} {p : Int} {rK : Int → Int} {rL : Int → Int} {rT : Int → Int} {rS : Int → Int} {rn : Int} {rc : Int} {rw : Int} (l1 : sp_X1_chunkHolding [.inr (.inl (some 0)), .inl p] (rw_cs (rK, rL, rT, rS, rn, rc, rw)) (fun r_ k_ => ∃ (x_ : Int), r_ = some (.inl x_) ∧ k_ = (rw_cs (rK, rL, rT, rS, rn, rc, rw)) ∧ ab_R E_X1_numberAt P_X1_numberAt Q 5 [some (.inr (.inl (some 0))), some (.inl p), none, none, none] [.inl x_] (rw_cs (rK, rL, rT, rS, rn, rc, rw))))  : ab_R E_X1_numberAt P_X1_numberAt Q 0 [some (.inr (.inl (some 0))), some (.inl p), none, none, none] [] (rw_cs (rK, rL, rT, rS, rn, rc, rw)) :=
  ab_R.steps [5, 25] 4 (show ab_cl sp_X1_chunkHolding [.inr (.inl (some 0)), .inl p] (rw_cs (rK, rL, rT, rS, rn, rc, rw)) (fun r_ k_ => k_.length = ((rw_cs (rK, rL, rT, rS, rn, rc, rw))).length → ab_R E_X1_numberAt P_X1_numberAt Q 5 [some (.inr (.inl (some 0))), some (.inl p), none, none, none] (ab_ret r_ []) k_) from ⟨_, l1, fun r_ k_ hz _ => by obtain ⟨x_, rfl, rfl, hR⟩ := hz; exact hR⟩)
set_option maxRecDepth 100000 in
theorem b_X1_numberAt_5 {Q : ab_Q} {p : Int} {t0 : Int} {rK : Int → Int} {rL : Int → Int} {rT : Int → Int} {rS : Int → Int} {rn : Int} {rc : Int} {rw : Int} (l1 : p < (0 : Int) → Q (some (.inl 0)) (rw_cs (rK, rL, rT, rS, rn, rc, rw))) (l2 : (0 : Int) ≤ p → t0 < rc → sp_X1_startOf [.inr (.inl (some 0)), .inl t0] (rw_cs (rK, rL, rT, rS, rn, rc, rw)) (fun r_ k_ => ∃ (x_ : Int), r_ = some (.inl x_) ∧ k_ = (rw_cs (rK, rL, rT, rS, rn, rc, rw)) ∧ ab_R E_X1_numberAt P_X1_numberAt Q 25 [some (.inr (.inl (some 0))), some (.inl p), some (.inl t0), none, none] [.inl x_] (rw_cs (rK, rL, rT, rS, rn, rc, rw)))) (l3 : (0 : Int) ≤ p → rc ≤ t0 → Q (some (.inl 0)) (rw_cs (rK, rL, rT, rS, rn, rc, rw))) (p1 : ab_r p := by intros; (try unfold ab_r); omega) (p2 : (0 : Int) ≤ p → (ab_r t0 ∧ ab_r rc) := by intros; (try unfold ab_r); omega) : ab_R E_X1_numberAt P_X1_numberAt Q 5 [some (.inr (.inl (some 0))), some (.inl p), none, none, none] [.inl t0] (rw_cs (rK, rL, rT, rS, rn, rc, rw)) :=
  ab_R.steps [5, 25] 11 (show (ab_r p ∧ ((p < (0 : Int) → Q (some (.inl 0)) (rw_cs (rK, rL, rT, rS, rn, rc, rw))) ∧ ((0 : Int) ≤ p → ((ab_r t0 ∧ ab_r rc) ∧ ((t0 < rc → ab_cl sp_X1_startOf [.inr (.inl (some 0)), .inl t0] (rw_cs (rK, rL, rT, rS, rn, rc, rw)) (fun r_ k_ => k_.length = ((rw_cs (rK, rL, rT, rS, rn, rc, rw))).length → ab_R E_X1_numberAt P_X1_numberAt Q 25 [some (.inr (.inl (some 0))), some (.inl p), some (.inl t0), none, none] (ab_ret r_ []) k_)) ∧ (rc ≤ t0 → Q (some (.inl 0)) (rw_cs (rK, rL, rT, rS, rn, rc, rw)))))))) from ⟨p1, ⟨fun h1 => (l1 h1), fun h2 => ⟨(p2 h2), ⟨fun h3 => ⟨_, (l2 h2 h3), fun r_ k_ hz _ => by obtain ⟨x_, rfl, rfl, hR⟩ := hz; exact hR⟩, fun h4 => (l3 h2 h4)⟩⟩⟩⟩)
set_option maxRecDepth 100000 in
theorem b_X1_numberAt_25 {Q : ab_Q} {p : Int} {k : Int} {t0 : Int} {rK : Int → Int} {rL : Int → Int} {rT : Int → Int} {rS : Int → Int} {rn : Int} {rc : Int} {rw : Int} (l1 : ¬ (rT k) = (1 : Int) → Q (some (.inl ((rK p) + (rS k)))) (rw_cs (rK, rL, rT, rS, rn, rc, rw))) (l2 : (rT k) = (1 : Int) → Q (some (.inl ((rK ((((t0 + t0) + (rL k)) - 1) - p)) + (rS k)))) (rw_cs (rK, rL, rT, rS, rn, rc, rw))) (p1 : (0 ≤ k ∧ k < 60) := by intros; (try unfold ab_r); omega) (p2 : (ab_r (rT k) ∧ ab_r 1) := by intros; (try unfold ab_r); omega) (p3 : ¬ (rT k) = (1 : Int) → (0 ≤ p ∧ p < 60) := by intros; (try unfold ab_r); omega) (p4 : ¬ (rT k) = (1 : Int) → (0 ≤ k ∧ k < 60) := by intros; (try unfold ab_r); omega) (p5 : (rT k) = (1 : Int) → (0 ≤ k ∧ k < 60) := by intros; (try unfold ab_r); omega) (p6 : (rT k) = (1 : Int) → (0 ≤ ((((t0 + t0) + (rL k)) - 1) - p) ∧ ((((t0 + t0) + (rL k)) - 1) - p) < 60) := by intros; (try unfold ab_r); omega) : ab_R E_X1_numberAt P_X1_numberAt Q 25 [some (.inr (.inl (some 0))), some (.inl p), some (.inl k), none, none] [.inl t0] (rw_cs (rK, rL, rT, rS, rn, rc, rw)) :=
  ab_R.steps [5, 25] 32 (show ((0 ≤ k ∧ k < 60) ∧ ((ab_r (rT k) ∧ ab_r 1) ∧ ((¬ (rT k) = (1 : Int) → ((0 ≤ p ∧ p < 60) ∧ ((0 ≤ k ∧ k < 60) ∧ Q (some (.inl ((rK p) + (rS k)))) (rw_cs (rK, rL, rT, rS, rn, rc, rw))))) ∧ ((rT k) = (1 : Int) → ((0 ≤ k ∧ k < 60) ∧ ((0 ≤ ((((t0 + t0) + (rL k)) - 1) - p) ∧ ((((t0 + t0) + (rL k)) - 1) - p) < 60) ∧ ((0 ≤ k ∧ k < 60) ∧ Q (some (.inl ((rK ((((t0 + t0) + (rL k)) - 1) - p)) + (rS k)))) (rw_cs (rK, rL, rT, rS, rn, rc, rw))))))))) from ⟨p1, ⟨p2, ⟨fun h1 => ⟨(p3 h1), ⟨(p4 h1), (l1 h1)⟩⟩, fun h2 => ⟨(p5 h2), ⟨(p6 h2), ⟨(p5 h2), (l2 h2)⟩⟩⟩⟩⟩⟩)
def P_X1_mirror : List ab_I := [(0, .iload_n 1, 1, []), (1, .istore_n 3, 2, []), (2, .iload_n 2, 3, []), (3, .iconst 1, 4, []), (4, .isub, 5, []), (5, .istore 4, 7, []), (7, .iload_n 3, 8, []), (8, .iload 4, 10, []), (10, .if_icmp .ge 30, 13, [((0 : Int), 40)]), (13, .aload_n 0, 14, []), (14, .iload_n 3, 15, []), (15, .iaload, 16, []), (16, .istore 5, 18, []), (18, .aload_n 0, 19, []), (19, .iload_n 3, 20, []), (20, .aload_n 0, 21, []), (21, .iload 4, 23, []), (23, .iaload, 24, []), (24, .iastore, 25, []), (25, .aload_n 0, 26, []), (26, .iload 4, 28, []), (28, .iload 5, 30, []), (30, .iastore, 31, []), (31, .iinc 3 1, 34, []), (34, .iinc 4 (-1), 37, []), (37, .goto (-30), 40, [((0 : Int), 7)]), (40, .return_, 41, [])]
def E_X1_mirror : ab_E := (T_X1, [], [], 9)
def M_X1_mirror : List (Nat × ab_MI) := []
def mi_X1_mirror : ab_MI := (yX1_mirror, cX1_mirror, 6, ab_rty 9, 1, 70)
theorem pk_X1_mirror : P_X1_mirror.all (ab_okI cX1_mirror) = true := by decide +kernel
theorem ck_X1_mirror : P_X1_mirror.all (ab_okC1 "RootChunks$Row" M_X1_mirror E_X1_mirror (1, 70)) = true := by decide +kernel
set_option maxRecDepth 100000 in
theorem b_X1_mirror_0 {Q : ab_Q} {lo0 : Int} {hi0 : Int} {f : Int → Int} (l1 : ab_R E_X1_mirror P_X1_mirror Q 7 [some (.inr (.inl (some 0))), some (.inl lo0), some (.inl hi0), some (.inl lo0), some (.inl (hi0 - 1)), none] [] (ar_cs f))  : ab_R E_X1_mirror P_X1_mirror Q 0 [some (.inr (.inl (some 0))), some (.inl lo0), some (.inl hi0), none, none, none] [] (ar_cs f) :=
  ab_R.steps [7] 8 (show ab_R E_X1_mirror P_X1_mirror Q 7 [some (.inr (.inl (some 0))), some (.inl lo0), some (.inl hi0), some (.inl lo0), some (.inl (hi0 - 1)), none] [] (ar_cs f) from l1)
set_option maxRecDepth 100000 in
theorem b_X1_mirror_7 {Q : ab_Q} {lo0 : Int} {hi0 : Int} {lo : Int} {hi : Int} {f : Int → Int} (l1 : hi ≤ lo → Q none (ar_cs f)) (l2 : lo < hi → ab_R E_X1_mirror P_X1_mirror Q 7 [some (.inr (.inl (some 0))), some (.inl lo0), some (.inl hi0), some (.inl (lo + 1)), some (.inl (hi + (-1))), none] [] (ar_cs ((ab_up (ab_up f lo (f hi)) hi (f lo))))) (p1 : (ab_r lo ∧ ab_r hi) := by intros; (try unfold ab_r); omega) (p2 : lo < hi → (0 ≤ lo ∧ lo < 60) := by intros; (try unfold ab_r); omega) (p3 : lo < hi → (0 ≤ hi ∧ hi < 60) := by intros; (try unfold ab_r); omega) : ab_R E_X1_mirror P_X1_mirror Q 7 [some (.inr (.inl (some 0))), some (.inl lo0), some (.inl hi0), some (.inl lo), some (.inl hi), none] [] (ar_cs f) :=
  ab_R.steps [7] 22 (show ((ab_r lo ∧ ab_r hi) ∧ ((hi ≤ lo → Q none (ar_cs f)) ∧ (lo < hi → ((0 ≤ lo ∧ lo < 60) ∧ ((0 ≤ hi ∧ hi < 60) ∧ ((0 ≤ lo ∧ lo < 60) ∧ ((0 ≤ hi ∧ hi < 60) ∧ ab_R E_X1_mirror P_X1_mirror Q 7 [some (.inr (.inl (some 0))), some (.inl lo0), some (.inl hi0), some (.inl (lo + 1)), some (.inl (hi + (-1))), some (.inl (f lo))] [] (ar_cs ((ab_up (ab_up f lo (f hi)) hi (f lo))))))))))) from ⟨p1, ⟨fun h1 => (l1 h1), fun h2 => ⟨(p2 h2), ⟨(p3 h2), ⟨(p2 h2), ⟨(p3 h2), (ab_R.fg 5 rfl (l2 h2))⟩⟩⟩⟩⟩⟩)
def P_X1_openChunk : List ab_I := [(0, .aload_n 0, 1, []), (1, .getfield 28, 4, []), (4, .bipush 60, 6, []), (6, .if_icmp .lt 4, 9, [((0 : Int), 10)]), (9, .return_, 10, []), (10, .aload_n 0, 11, []), (11, .getfield 28, 14, []), (14, .istore_n 3, 15, []), (15, .iload_n 3, 16, []), (16, .iload_n 1, 17, []), (17, .if_icmp .le 51, 20, [((0 : Int), 68)]), (20, .aload_n 0, 21, []), (21, .getfield 15, 24, []), (24, .iload_n 3, 25, []), (25, .aload_n 0, 26, []), (26, .getfield 15, 29, []), (29, .iload_n 3, 30, []), (30, .iconst 1, 31, []), (31, .isub, 32, []), (32, .iaload, 33, []), (33, .iastore, 34, []), (34, .aload_n 0, 35, []), (35, .getfield 18, 38, []), (38, .iload_n 3, 39, []), (39, .aload_n 0, 40, []), (40, .getfield 18, 43, []), (43, .iload_n 3, 44, []), (44, .iconst 1, 45, []), (45, .isub, 46, []), (46, .iaload, 47, []), (47, .iastore, 48, []), (48, .aload_n 0, 49, []), (49, .getfield 21, 52, []), (52, .iload_n 3, 53, []), (53, .aload_n 0, 54, []), (54, .getfield 21, 57, []), (57, .iload_n 3, 58, []), (58, .iconst 1, 59, []), (59, .isub, 60, []), (60, .iaload, 61, []), (61, .iastore, 62, []), (62, .iinc 3 (-1), 65, []), (65, .goto (-50), 68, [((0 : Int), 15)]), (68, .aload_n 0, 69, []), (69, .dup, 70, []), (70, .getfield 28, 73, []), (73, .iconst 1, 74, []), (74, .iadd, 75, []), (75, .putfield 28, 78, []), (78, .aload_n 0, 79, []), (79, .getfield 15, 82, []), (82, .iload_n 1, 83, []), (83, .iload_n 2, 84, []), (84, .iastore, 85, []), (85, .aload_n 0, 86, []), (86, .getfield 18, 89, []), (89, .iload_n 1, 90, []), (90, .iconst 0, 91, []), (91, .iastore, 92, []), (92, .aload_n 0, 93, []), (93, .getfield 21, 96, []), (96, .iload_n 1, 97, []), (97, .iconst 0, 98, []), (98, .iastore, 99, []), (99, .return_, 100, [])]
def E_X1_openChunk : ab_E := (T_X1, [], [], 9)
def M_X1_openChunk : List (Nat × ab_MI) := []
def mi_X1_openChunk : ab_MI := (yX1_openChunk, cX1_openChunk, 4, ab_rty 9, 1, 70)
theorem pk_X1_openChunk : P_X1_openChunk.all (ab_okI cX1_openChunk) = true := by decide +kernel
theorem ck_X1_openChunk : P_X1_openChunk.all (ab_okC1 "RootChunks$Row" M_X1_openChunk E_X1_openChunk (1, 70)) = true := by decide +kernel
set_option maxRecDepth 100000 in
theorem b_X1_openChunk_0 {Q : ab_Q} {k : Int} {sz : Int} {rK : Int → Int} {rL : Int → Int} {rT : Int → Int} {rS : Int → Int} {rn : Int} {rc : Int} {rw : Int} (l1 : rc < (60 : Int) → ab_R E_X1_openChunk P_X1_openChunk Q 15 [some (.inr (.inl (some 0))), some (.inl k), some (.inl sz), some (.inl rc)] [] (rw_cs (rK, rL, rT, rS, rn, rc, rw))) (l2 : (60 : Int) ≤ rc → Q none (rw_cs (rK, rL, rT, rS, rn, rc, rw))) (p1 : (ab_r rc ∧ ab_r 60) := by intros; (try unfold ab_r); omega) : ab_R E_X1_openChunk P_X1_openChunk Q 0 [some (.inr (.inl (some 0))), some (.inl k), some (.inl sz), none] [] (rw_cs (rK, rL, rT, rS, rn, rc, rw)) :=
  ab_R.steps [15] 9 (show ((ab_r rc ∧ ab_r 60) ∧ ((rc < (60 : Int) → ab_R E_X1_openChunk P_X1_openChunk Q 15 [some (.inr (.inl (some 0))), some (.inl k), some (.inl sz), some (.inl rc)] [] (rw_cs (rK, rL, rT, rS, rn, rc, rw))) ∧ ((60 : Int) ≤ rc → Q none (rw_cs (rK, rL, rT, rS, rn, rc, rw))))) from ⟨p1, ⟨fun h1 => (l1 h1), fun h2 => (l2 h2)⟩⟩)
set_option maxRecDepth 100000 in
theorem b_X1_openChunk_15 {Q : ab_Q} {k : Int} {sz : Int} {c : Int} {rK : Int → Int} {rL : Int → Int} {rT : Int → Int} {rS : Int → Int} {rn : Int} {rc : Int} {rw : Int} (l1 : c ≤ k → Q none (rw_cs (rK, (ab_up rL k sz), (ab_up rT k 0), (ab_up rS k 0), rn, (rc + 1), rw))) (l2 : k < c → ab_R E_X1_openChunk P_X1_openChunk Q 15 [some (.inr (.inl (some 0))), some (.inl k), some (.inl sz), some (.inl (c + (-1)))] [] (rw_cs (rK, (ab_up rL c (rL (c - 1))), (ab_up rT c (rT (c - 1))), (ab_up rS c (rS (c - 1))), rn, rc, rw))) (p1 : (ab_r c ∧ ab_r k) := by intros; (try unfold ab_r); omega) (p2 : c ≤ k → (0 ≤ k ∧ k < 60) := by intros; (try unfold ab_r); omega) (p3 : k < c → (0 ≤ (c - 1) ∧ (c - 1) < 60) := by intros; (try unfold ab_r); omega) (p4 : k < c → (0 ≤ c ∧ c < 60) := by intros; (try unfold ab_r); omega) : ab_R E_X1_openChunk P_X1_openChunk Q 15 [some (.inr (.inl (some 0))), some (.inl k), some (.inl sz), some (.inl c)] [] (rw_cs (rK, rL, rT, rS, rn, rc, rw)) :=
  ab_R.steps [15] 37 (show ((ab_r c ∧ ab_r k) ∧ ((c ≤ k → ((0 ≤ k ∧ k < 60) ∧ ((0 ≤ k ∧ k < 60) ∧ ((0 ≤ k ∧ k < 60) ∧ Q none (rw_cs (rK, (ab_up rL k sz), (ab_up rT k 0), (ab_up rS k 0), rn, (rc + 1), rw)))))) ∧ (k < c → ((0 ≤ (c - 1) ∧ (c - 1) < 60) ∧ ((0 ≤ c ∧ c < 60) ∧ ((0 ≤ (c - 1) ∧ (c - 1) < 60) ∧ ((0 ≤ c ∧ c < 60) ∧ ((0 ≤ (c - 1) ∧ (c - 1) < 60) ∧ ((0 ≤ c ∧ c < 60) ∧ ab_R E_X1_openChunk P_X1_openChunk Q 15 [some (.inr (.inl (some 0))), some (.inl k), some (.inl sz), some (.inl (c + (-1)))] [] (rw_cs (rK, (ab_up rL c (rL (c - 1))), (ab_up rT c (rT (c - 1))), (ab_up rS c (rS (c - 1))), rn, rc, rw))))))))))) from ⟨p1, ⟨fun h1 => ⟨(p2 h1), ⟨(p2 h1), ⟨(p2 h1), (l1 h1)⟩⟩⟩, fun h2 => ⟨(p3 h2), ⟨(p4 h2), ⟨(p3 h2), ⟨(p4 h2), ⟨(p3 h2), ⟨(p4 h2), (l2 h2)⟩⟩⟩⟩⟩⟩⟩⟩)
def P_X1_closeChunk : List ab_I := [(0, .iload_n 1, 1, []), (1, .iconst 1, 2, []), (2, .iadd, 3, []), (3, .istore_n 2, 4, []), (4, .iload_n 2, 5, []), (5, .aload_n 0, 6, []), (6, .getfield 28, 9, []), (9, .if_icmp .ge 51, 12, [((0 : Int), 60)]), (12, .aload_n 0, 13, []), (13, .getfield 15, 16, []), (16, .iload_n 2, 17, []), (17, .iconst 1, 18, []), (18, .isub, 19, []), (19, .aload_n 0, 20, []), (20, .getfield 15, 23, []), (23, .iload_n 2, 24, []), (24, .iaload, 25, []), (25, .iastore, 26, []), (26, .aload_n 0, 27, []), (27, .getfield 18, 30, []), (30, .iload_n 2, 31, []), (31, .iconst 1, 32, []), (32, .isub, 33, []), (33, .aload_n 0, 34, []), (34, .getfield 18, 37, []), (37, .iload_n 2, 38, []), (38, .iaload, 39, []), (39, .iastore, 40, []), (40, .aload_n 0, 41, []), (41, .getfield 21, 44, []), (44, .iload_n 2, 45, []), (45, .iconst 1, 46, []), (46, .isub, 47, []), (47, .aload_n 0, 48, []), (48, .getfield 21, 51, []), (51, .iload_n 2, 52, []), (52, .iaload, 53, []), (53, .iastore, 54, []), (54, .iinc 2 1, 57, []), (57, .goto (-53), 60, [((0 : Int), 4)]), (60, .aload_n 0, 61, []), (61, .dup, 62, []), (62, .getfield 28, 65, []), (65, .iconst 1, 66, []), (66, .isub, 67, []), (67, .putfield 28, 70, []), (70, .return_, 71, [])]
def E_X1_closeChunk : ab_E := (T_X1, [], [], 9)
def M_X1_closeChunk : List (Nat × ab_MI) := []
def mi_X1_closeChunk : ab_MI := (yX1_closeChunk, cX1_closeChunk, 3, ab_rty 9, 1, 70)
theorem pk_X1_closeChunk : P_X1_closeChunk.all (ab_okI cX1_closeChunk) = true := by decide +kernel
theorem ck_X1_closeChunk : P_X1_closeChunk.all (ab_okC1 "RootChunks$Row" M_X1_closeChunk E_X1_closeChunk (1, 70)) = true := by decide +kernel
set_option maxRecDepth 100000 in
theorem b_X1_closeChunk_0 {Q : ab_Q} {k : Int} {rK : Int → Int} {rL : Int → Int} {rT : Int → Int} {rS : Int → Int} {rn : Int} {rc : Int} {rw : Int} (l1 : ab_R E_X1_closeChunk P_X1_closeChunk Q 4 [some (.inr (.inl (some 0))), some (.inl k), some (.inl (k + 1))] [] (rw_cs (rK, rL, rT, rS, rn, rc, rw)))  : ab_R E_X1_closeChunk P_X1_closeChunk Q 0 [some (.inr (.inl (some 0))), some (.inl k), none] [] (rw_cs (rK, rL, rT, rS, rn, rc, rw)) :=
  ab_R.steps [4] 6 (show ab_R E_X1_closeChunk P_X1_closeChunk Q 4 [some (.inr (.inl (some 0))), some (.inl k), some (.inl (k + 1))] [] (rw_cs (rK, rL, rT, rS, rn, rc, rw)) from l1)
set_option maxRecDepth 100000 in
theorem b_X1_closeChunk_4 {Q : ab_Q} {k : Int} {c : Int} {rK : Int → Int} {rL : Int → Int} {rT : Int → Int} {rS : Int → Int} {rn : Int} {rc : Int} {rw : Int} (l1 : rc ≤ c → Q none (rw_cs (rK, rL, rT, rS, rn, (rc - 1), rw))) (l2 : c < rc → ab_R E_X1_closeChunk P_X1_closeChunk Q 4 [some (.inr (.inl (some 0))), some (.inl k), some (.inl (c + 1))] [] (rw_cs (rK, (ab_up rL (c - 1) (rL c)), (ab_up rT (c - 1) (rT c)), (ab_up rS (c - 1) (rS c)), rn, rc, rw))) (p1 : (ab_r c ∧ ab_r rc) := by intros; (try unfold ab_r); omega) (p2 : c < rc → (0 ≤ c ∧ c < 60) := by intros; (try unfold ab_r); omega) (p3 : c < rc → (0 ≤ (c - 1) ∧ (c - 1) < 60) := by intros; (try unfold ab_r); omega) : ab_R E_X1_closeChunk P_X1_closeChunk Q 4 [some (.inr (.inl (some 0))), some (.inl k), some (.inl c)] [] (rw_cs (rK, rL, rT, rS, rn, rc, rw)) :=
  ab_R.steps [4] 38 (show ((ab_r c ∧ ab_r rc) ∧ ((rc ≤ c → Q none (rw_cs (rK, rL, rT, rS, rn, (rc - 1), rw))) ∧ (c < rc → ((0 ≤ c ∧ c < 60) ∧ ((0 ≤ (c - 1) ∧ (c - 1) < 60) ∧ ((0 ≤ c ∧ c < 60) ∧ ((0 ≤ (c - 1) ∧ (c - 1) < 60) ∧ ((0 ≤ c ∧ c < 60) ∧ ((0 ≤ (c - 1) ∧ (c - 1) < 60) ∧ ab_R E_X1_closeChunk P_X1_closeChunk Q 4 [some (.inr (.inl (some 0))), some (.inl k), some (.inl (c + 1))] [] (rw_cs (rK, (ab_up rL (c - 1) (rL c)), (ab_up rT (c - 1) (rT c)), (ab_up rS (c - 1) (rS c)), rn, rc, rw))))))))))) from ⟨p1, ⟨fun h1 => (l1 h1), fun h2 => ⟨(p2 h2), ⟨(p3 h2), ⟨(p2 h2), ⟨(p3 h2), ⟨(p2 h2), ⟨(p3 h2), (l2 h2)⟩⟩⟩⟩⟩⟩⟩⟩)
theorem vc_X1_has {av : List ab_V} {cs : List ab_C} {Q : ab_Q} (h : sp_X1_has av cs Q) : (ab_lv0 av).length ≤ 2 ∧ ab_R E_X1_has P_X1_has Q 0 (ab_ent av 2) [] cs := by
  obtain ⟨⟨rK, rL, rT, rS, rn, rc, rw⟩, q, p, rfl, rfl, hR, hW, ⟨hp1, hp2⟩, hQ⟩ := h
  refine ⟨Nat.le_of_ble_eq_true rfl, ?_⟩
  have hn : rn = (mq_flat q).length := hR.2.2.2.2.1
  have hw := hW.2
  refine b_X1_has_0 (fun h => ?_) (fun h1 h2 => ?_) (fun h1 h2 => ?_)
  · rw [if_neg (by omega)] at hQ; exact hQ
  · rw [if_neg (by omega)] at hQ; exact hQ
  · rw [if_pos (by omega)] at hQ; exact hQ
theorem mt_X1_has (l : Launch) : ab_MT l mi_X1_has sp_X1_has := ab_MT.of (own := "RootChunks$Row") (E := E_X1_has) (P := P_X1_has) (M := M_X1_has) (nL := 2) (ty := 2) (by decide) rfl rfl tk_X1 pk_X1_has ck_X1_has ab_CT'.nil (fun av cs Q h => vc_X1_has h)
theorem vc_X1_startOf {av : List ab_V} {cs : List ab_C} {Q : ab_Q} (h : sp_X1_startOf av cs Q) : (ab_lv0 av).length ≤ 4 ∧ ab_R E_X1_startOf P_X1_startOf Q 0 (ab_ent av 4) [] cs := by
  obtain ⟨⟨rK, rL, rT, rS, rn, rc, rw⟩, q, c, k, rfl, rfl, hR, hW, hk, hc, hQ⟩ := h
  refine ⟨Nat.le_of_ble_eq_true rfl, ?_⟩
  have hcl := hW.chunks
  have hrc : rc = q.length := hR.2.2.2.2.2
  have loop : ∀ (d i : Nat) (x st : Int), d + i = c → x = i → st = (mq_flat (q.take i)).length → ab_R E_X1_startOf P_X1_startOf Q 4 [some (.inr (.inl (some 0))), some (.inl k), some (.inl st), some (.inl x)] [] (rw_cs (rK, rL, rT, rS, rn, rc, rw)) := by
    intro d
    induction d with
    | zero =>
      intro i x st h1 h2 h3
      have e : i = c := by omega
      subst e
      subst h3
      exact b_X1_startOf_4 (fun _ => hQ) (fun _ _ => hQ) (fun _ _ => by omega)
    | succ d ih =>
      intro i x st h1 h2 h3
      obtain ⟨kk, hkk, -⟩ := mq_split (q := q) (c := i) (by omega)
      have e1 := hR.len hkk
      have e2 := mq_take_succ hkk
      rw [← h2] at e1
      dsimp only at e1
      exact b_X1_startOf_4 (fun _ => by omega) (fun _ _ => by omega) (fun _ _ => ih (i + 1) _ _ (by omega) (by omega) (by omega))
  exact b_X1_startOf_0 (loop c 0 0 0 (by omega) rfl rfl)
theorem mt_X1_startOf (l : Launch) : ab_MT l mi_X1_startOf sp_X1_startOf := ab_MT.of (own := "RootChunks$Row") (E := E_X1_startOf) (P := P_X1_startOf) (M := M_X1_startOf) (nL := 4) (ty := 0) (by decide) rfl rfl tk_X1 pk_X1_startOf ck_X1_startOf ab_CT'.nil (fun av cs Q h => vc_X1_startOf h)
theorem vc_X1_chunkHolding {av : List ab_V} {cs : List ab_C} {Q : ab_Q} (h : sp_X1_chunkHolding av cs Q) : (ab_lv0 av).length ≤ 4 ∧ ab_R E_X1_chunkHolding P_X1_chunkHolding Q 0 (ab_ent av 4) [] cs := by
  obtain ⟨⟨rK, rL, rT, rS, rn, rc, rw⟩, A, k, B, p, rfl, rfl, hR, hW, hp1, hp2, hQ⟩ := h
  refine ⟨Nat.le_of_ble_eq_true rfl, ?_⟩
  have hcl := hW.chunks
  have hfl := hW.2
  have hrc : rc = (A ++ k :: B).length := hR.2.2.2.2.2
  rw [List.length_append, List.length_cons] at hcl hrc
  have hA : (mq_flat A).length + k.1.length ≤ 60 := by
    rw [mq_flat_app, mq_flat_cons, List.length_append, List.length_append] at hfl
    omega
  have loop : ∀ (d i : Nat) (x bh : Int), d + i = A.length → x = i → bh = (mq_flat ((A ++ k :: B).take i)).length → ab_R E_X1_chunkHolding P_X1_chunkHolding Q 4 [some (.inr (.inl (some 0))), some (.inl p), some (.inl bh), some (.inl x)] [] (rw_cs (rK, rL, rT, rS, rn, rc, rw)) := by
    intro d
    induction d with
    | zero =>
      intro i x bh h1 h2 h3
      have e : i = A.length := by omega
      subst e
      rw [mq_take_app] at h3
      have e1 := hR.len (mq_at_app A k B)
      rw [← h2] at e1
      dsimp only at e1
      refine b_X1_chunkHolding_4 (fun _ => by omega) (fun _ _ => by omega) (fun _ _ => ?_)
      rw [h2]
      exact hQ
    | succ d ih =>
      intro i x bh h1 h2 h3
      obtain ⟨kk, hkk, -⟩ := mq_split (q := A ++ k :: B) (c := i) (by rw [List.length_append]; omega)
      have e1 := hR.len hkk
      have e2 := mq_take_succ hkk
      rw [← h2] at e1
      dsimp only at e1
      have e3 : (mq_flat ((A ++ k :: B).take (i + 1))).length ≤ (mq_flat A).length := by
        rw [List.take_append_of_le_length (by omega)]
        exact mq_take_le A (i + 1)
      exact b_X1_chunkHolding_4 (fun _ => by omega) (fun _ _ => ih (i + 1) _ _ (by omega) (by omega) (by omega)) (fun _ _ => by omega)
  exact b_X1_chunkHolding_0 (loop A.length 0 0 0 (by omega) rfl rfl)
theorem mt_X1_chunkHolding (l : Launch) : ab_MT l mi_X1_chunkHolding sp_X1_chunkHolding := ab_MT.of (own := "RootChunks$Row") (E := E_X1_chunkHolding) (P := P_X1_chunkHolding) (M := M_X1_chunkHolding) (nL := 4) (ty := 0) (by decide) rfl rfl tk_X1 pk_X1_chunkHolding ck_X1_chunkHolding ab_CT'.nil (fun av cs Q h => vc_X1_chunkHolding h)
theorem vc_X1_numberAt {av : List ab_V} {cs : List ab_C} {Q : ab_Q} (h : sp_X1_numberAt av cs Q) : (ab_lv0 av).length ≤ 5 ∧ ab_R E_X1_numberAt P_X1_numberAt Q 0 (ab_ent av 5) [] cs := by
  obtain ⟨⟨rK, rL, rT, rS, rn, rc, rw⟩, q, p, i, x, rfl, rfl, hR, hW, hp, hx, hQ⟩ := h
  refine ⟨Nat.le_of_ble_eq_true rfl, ?_⟩
  have hil := (List.getElem?_eq_some_iff.mp hx).1
  rw [mq_all_len] at hil
  obtain ⟨A, k, B, rfl, h1, h2⟩ := mq_hold hil
  have hcl := hW.chunks
  have hfl := hW.2
  have hrc : rc = (A ++ k :: B).length := hR.2.2.2.2.2
  rw [List.length_append, List.length_cons] at hcl hrc
  have hA : (mq_flat A).length + k.1.length ≤ 60 := by
    rw [mq_flat_app, mq_flat_cons, List.length_append, List.length_append] at hfl
    omega
  have hrow : (mq_row k)[i - (mq_flat A).length]? = some x := by
    rw [mq_all_app, mq_all_cons, List.getElem?_append_right (by rw [mq_all_len]; exact h1), mq_all_len] at hx
    rwa [List.getElem?_append_left (by rw [mq_row_len]; omega)] at hx
  obtain ⟨y, hy, rfl⟩ := mq_row_at hrow
  have e1 := hR.len (mq_at_app A k B)
  have e2 := hR.turn (mq_at_app A k B)
  have e3 := hR.sum (mq_at_app A k B)
  have e4 := hR.kept hy
  dsimp only at e1 e2 e3 e4
  refine b_X1_numberAt_0 ⟨_, A, k, B, p, rfl, rfl, hR, hW, by omega, by omega, _, rfl, rfl, ?_⟩
  refine b_X1_numberAt_5 (fun _ => by omega) (fun _ _ => ?_) (fun _ _ => by omega)
  refine ⟨_, A ++ k :: B, A.length, _, rfl, rfl, hR, hW, rfl, by rw [List.length_append]; omega, _, rfl, rfl, ?_⟩
  rw [mq_take_app]
  refine b_X1_numberAt_25 (fun ht => ?_) (fun ht => ?_) (p2 := ?_)
  · rw [if_neg (by rw [← e2]; exact ht)] at e4
    rw [show p = (((mq_flat A).length + (i - (mq_flat A).length) : Nat) : Int) by omega, e4, e3]
    exact hQ
  · rw [if_pos (by rw [← e2]; exact ht)] at e4
    rw [show ((((mq_flat A).length : Int) + ((mq_flat A).length : Int)) + rL (A.length : Int)) - 1 - p = (((mq_flat A).length + (k.1.length - 1 - (i - (mq_flat A).length)) : Nat) : Int) by omega, e4, e3]
    exact hQ
  · have := (hW.1 k (by simp)).2.1
    unfold ab_r
    omega
theorem mt_X1_numberAt (l : Launch) : ab_MT l mi_X1_numberAt sp_X1_numberAt := ab_MT.of (own := "RootChunks$Row") (E := E_X1_numberAt) (P := P_X1_numberAt) (M := M_X1_numberAt) (nL := 5) (ty := 0) (by decide) rfl rfl tk_X1 pk_X1_numberAt ck_X1_numberAt (ab_CT'.cons (mt_X1_chunkHolding l) (ab_CT'.cons (mt_X1_startOf l) ab_CT'.nil)) (fun av cs Q h => vc_X1_numberAt h)
theorem vc_X1_mirror {av : List ab_V} {cs : List ab_C} {Q : ab_Q} (h : sp_X1_mirror av cs Q) : (ab_lv0 av).length ≤ 6 ∧ ab_R E_X1_mirror P_X1_mirror Q 0 (ab_ent av 6) [] cs := by
  obtain ⟨f, lo0, hi0, rfl, rfl, h0, h1, h3, hQ⟩ := h
  refine ⟨Nat.le_of_ble_eq_true rfl, ?_⟩
  have loop : ∀ (d : Nat) (lo hi : Int) (g : Int → Int), hi - lo ≤ d → (lo + hi = lo0 + hi0 - 1 ∧ lo ≤ hi + 1) → lo0 ≤ lo → hi < hi0 → (∀ j, g j = if (lo0 ≤ j ∧ j < lo) ∨ (hi < j ∧ j < hi0) then f (lo0 + hi0 - 1 - j) else f j) →
      ab_R E_X1_mirror P_X1_mirror Q 7 [some (.inr (.inl (some 0))), some (.inl lo0), some (.inl hi0), some (.inl lo), some (.inl hi), none] [] (ar_cs g) := by
    intro d
    induction d with
    | zero =>
      intro lo hi g g1 g2 g3 g4 g5
      refine b_X1_mirror_7 (fun _ => ?_) (fun _ => by omega)
      have e : g = mq_mir f lo0 hi0 := by
        funext j
        rw [g5]
        unfold mq_mir
        by_cases z : lo0 ≤ j ∧ j < hi0
        · rw [if_pos z]
          by_cases z2 : j = lo ∧ lo = hi
          · rw [if_neg (by omega)]; congr 1; omega
          · rw [if_pos (by omega)]
        · rw [if_neg z, if_neg (by omega)]
      rw [e]; exact hQ
    | succ d ih =>
      intro lo hi g g1 g2 g3 g4 g5
      by_cases z : hi ≤ lo
      · refine b_X1_mirror_7 (fun _ => ?_) (fun _ => by omega)
        have e : g = mq_mir f lo0 hi0 := by
          funext j
          rw [g5]
          unfold mq_mir
          by_cases z : lo0 ≤ j ∧ j < hi0
          · rw [if_pos z]
            by_cases z2 : j = lo ∧ lo = hi
            · rw [if_neg (by omega)]; congr 1; omega
            · rw [if_pos (by omega)]
          · rw [if_neg z, if_neg (by omega)]
        rw [e]; exact hQ
      · refine b_X1_mirror_7 (fun _ => by omega) (fun _ => ih (lo + 1) (hi + (-1)) _ (by omega) (by omega) (by omega) (by omega) (fun j => ?_))
        have e1 := g5 hi
        have e2 := g5 lo
        rw [if_neg (by omega)] at e1 e2
        unfold ab_up
        rw [e1, e2]
        by_cases z1 : j = hi
        · rw [if_pos z1, if_pos (by omega)]; congr 1; omega
        · rw [if_neg z1]
          by_cases z2 : j = lo
          · rw [if_pos z2, if_pos (by omega)]; congr 1; omega
          · rw [if_neg z2, g5 j]
            by_cases z3 : (lo0 ≤ j ∧ j < lo) ∨ (hi < j ∧ j < hi0)
            · rw [if_pos z3, if_pos (by omega)]
            · rw [if_neg z3, if_neg (by omega)]
  refine b_X1_mirror_0 (loop 100 lo0 (hi0 - 1) f (by omega) (by omega) (by omega) (by omega) (fun j => ?_))
  rw [if_neg (by omega)]
theorem mt_X1_mirror (l : Launch) : ab_MT l mi_X1_mirror sp_X1_mirror := ab_MT.of (own := "RootChunks$Row") (E := E_X1_mirror) (P := P_X1_mirror) (M := M_X1_mirror) (nL := 6) (ty := 9) (by decide) rfl rfl tk_X1 pk_X1_mirror ck_X1_mirror ab_CT'.nil (fun av cs Q h => vc_X1_mirror h)
theorem vc_X1_openChunk {av : List ab_V} {cs : List ab_C} {Q : ab_Q} (h : sp_X1_openChunk av cs Q) : (ab_lv0 av).length ≤ 4 ∧ ab_R E_X1_openChunk P_X1_openChunk Q 0 (ab_ent av 4) [] cs := by
  obtain ⟨K, L, T, S, n, c, w, k, sz, rfl, rfl, h0, h1, h2, hQ⟩ := h
  refine ⟨Nat.le_of_ble_eq_true rfl, ?_⟩
  have loop : ∀ (d : Nat) (x : Int) (L' T' S' : Int → Int), x - k = d → x ≤ c → (∀ j, L' j = if x < j ∧ j ≤ c then L (j - 1) else L j) → (∀ j, T' j = if x < j ∧ j ≤ c then T (j - 1) else T j) → (∀ j, S' j = if x < j ∧ j ≤ c then S (j - 1) else S j) →
      ab_R E_X1_openChunk P_X1_openChunk Q 15 [some (.inr (.inl (some 0))), some (.inl k), some (.inl sz), some (.inl x)] [] (rw_cs (K, L', T', S', n, c, w)) := by
    intro d
    induction d with
    | zero =>
      intro x L' T' S' g1 g2 gL gT gS
      have e : x = k := by omega
      subst e
      refine b_X1_openChunk_15 (fun _ => ?_) (fun _ => by omega)
      have eL : ab_up L' x sz = mq_ins L c x sz := by funext j; unfold ab_up mq_ins; rw [gL]
      have eT : ab_up T' x 0 = mq_ins T c x 0 := by funext j; unfold ab_up mq_ins; rw [gT]
      have eS : ab_up S' x 0 = mq_ins S c x 0 := by funext j; unfold ab_up mq_ins; rw [gS]
      rw [eL, eT, eS]
      exact hQ
    | succ d ih =>
      intro x L' T' S' g1 g2 gL gT gS
      have st : ∀ (f g : Int → Int), (∀ j, g j = if x < j ∧ j ≤ c then f (j - 1) else f j) → ∀ j, ab_up g x (g (x - 1)) j = if x + (-1) < j ∧ j ≤ c then f (j - 1) else f j := by
        intro f g hg j
        unfold ab_up
        by_cases z : j = x
        · subst z
          rw [if_pos rfl, if_pos (by omega), hg, if_neg (by omega)]
        · rw [if_neg z, hg]
          by_cases z2 : x < j ∧ j ≤ c
          · rw [if_pos z2, if_pos (by omega)]
          · rw [if_neg z2, if_neg (by omega)]
      exact b_X1_openChunk_15 (fun _ => by omega) (fun _ => ih _ _ _ _ (by omega) (by omega) (st L L' gL) (st T T' gT) (st S S' gS))
  have st0 : ∀ (f : Int → Int), ∀ j, f j = if c < j ∧ j ≤ c then f (j - 1) else f j := fun f j => by rw [if_neg (by omega)]
  exact b_X1_openChunk_0 (fun _ => loop (c - k).toNat c L T S (by omega) (by omega) (st0 L) (st0 T) (st0 S)) (fun _ => by omega)
theorem mt_X1_openChunk (l : Launch) : ab_MT l mi_X1_openChunk sp_X1_openChunk := ab_MT.of (own := "RootChunks$Row") (E := E_X1_openChunk) (P := P_X1_openChunk) (M := M_X1_openChunk) (nL := 4) (ty := 9) (by decide) rfl rfl tk_X1 pk_X1_openChunk ck_X1_openChunk ab_CT'.nil (fun av cs Q h => vc_X1_openChunk h)
theorem vc_X1_closeChunk {av : List ab_V} {cs : List ab_C} {Q : ab_Q} (h : sp_X1_closeChunk av cs Q) : (ab_lv0 av).length ≤ 3 ∧ ab_R E_X1_closeChunk P_X1_closeChunk Q 0 (ab_ent av 3) [] cs := by
  obtain ⟨K, L, T, S, n, c, w, k, rfl, rfl, h0, h1, h2, hQ⟩ := h
  refine ⟨Nat.le_of_ble_eq_true rfl, ?_⟩
  have loop : ∀ (d : Nat) (x : Int) (L' T' S' : Int → Int), c - x = d → k < x → (∀ j, L' j = if k ≤ j ∧ j < x - 1 then L (j + 1) else L j) → (∀ j, T' j = if k ≤ j ∧ j < x - 1 then T (j + 1) else T j) → (∀ j, S' j = if k ≤ j ∧ j < x - 1 then S (j + 1) else S j) →
      ab_R E_X1_closeChunk P_X1_closeChunk Q 4 [some (.inr (.inl (some 0))), some (.inl k), some (.inl x)] [] (rw_cs (K, L', T', S', n, c, w)) := by
    intro d
    induction d with
    | zero =>
      intro x L' T' S' g1 g2 gL gT gS
      have e : x = c := by omega
      subst e
      refine b_X1_closeChunk_4 (fun _ => ?_) (fun _ => by omega)
      have eL : L' = mq_del L x k := by funext j; unfold mq_del; rw [gL]
      have eT : T' = mq_del T x k := by funext j; unfold mq_del; rw [gT]
      have eS : S' = mq_del S x k := by funext j; unfold mq_del; rw [gS]
      rw [eL, eT, eS]
      exact hQ
    | succ d ih =>
      intro x L' T' S' g1 g2 gL gT gS
      have st : ∀ (f g : Int → Int), (∀ j, g j = if k ≤ j ∧ j < x - 1 then f (j + 1) else f j) → ∀ j, ab_up g (x - 1) (g x) j = if k ≤ j ∧ j < x + 1 - 1 then f (j + 1) else f j := by
        intro f g hg j
        unfold ab_up
        by_cases z : j = x - 1
        · rw [if_pos z, if_pos (by omega), hg, if_neg (by omega)]; congr 1; omega
        · rw [if_neg z, hg]
          by_cases z2 : k ≤ j ∧ j < x - 1
          · rw [if_pos z2, if_pos (by omega)]
          · rw [if_neg z2, if_neg (by omega)]
      exact b_X1_closeChunk_4 (fun _ => by omega) (fun _ => ih _ _ _ _ (by omega) (by omega) (st L L' gL) (st T T' gT) (st S S' gS))
  have st0 : ∀ (f : Int → Int), ∀ j, f j = if k ≤ j ∧ j < k + 1 - 1 then f (j + 1) else f j := fun f j => by rw [if_neg (by omega)]
  exact b_X1_closeChunk_0 (loop (c - (k + 1)).toNat (k + 1) L T S (by omega) (by omega) (st0 L) (st0 T) (st0 S))
theorem mt_X1_closeChunk (l : Launch) : ab_MT l mi_X1_closeChunk sp_X1_closeChunk := ab_MT.of (own := "RootChunks$Row") (E := E_X1_closeChunk) (P := P_X1_closeChunk) (M := M_X1_closeChunk) (nL := 3) (ty := 9) (by decide) rfl rfl tk_X1 pk_X1_closeChunk ck_X1_closeChunk ab_CT'.nil (fun av cs Q h => vc_X1_closeChunk h)

