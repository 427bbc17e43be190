/-! THE REFERENCE: what its methods do to its row -/
def sp_X3_startOf : ab_Sp := fun av cs Q => ∃ (s : Int → Int) (z : mc_T) (g : mg_T) (q : List mq_K) (c : Nat) (k : Int), av = [.inr (.inl (some 0)), .inl k] ∧ cs = md_cs s z g ∧ mq_R (md_v s) q ∧ mq_W q ∧ k = (c : Int) ∧ c ≤ q.length ∧ Q (some (.inl ((mq_flat (q.take c)).length : Int))) (md_cs s z g)
def sp_X3_chunkAt : ab_Sp := fun av cs Q => ∃ (s : Int → Int) (z : mc_T) (g : mg_T) (A : List mq_K) (k : mq_K) (B : List mq_K) (p : Int), av = [.inr (.inl (some 0)), .inl p] ∧ cs = md_cs s z g ∧ mq_R (md_v s) (A ++ k :: B) ∧ mq_W (A ++ k :: B) ∧ (mq_flat A).length ≤ p ∧ p < (mq_flat A).length + k.1.length ∧ Q (some (.inl (A.length : Int))) (md_cs s z g)
def sp_X3_valueAt : ab_Sp := fun av cs Q => ∃ (s : Int → Int) (z : mc_T) (g : mg_T) (q : List mq_K) (p : Int) (i : Nat) (x : Int), av = [.inr (.inl (some 0)), .inl p] ∧ cs = md_cs s z g ∧ mq_R (md_v s) q ∧ mq_W q ∧ p = (i : Int) ∧ (mq_all q)[i]? = some x ∧ Q (some (.inl x)) (md_cs s z g)
def sp_X3_carries : ab_Sp := fun av cs Q => ∃ (s : Int → Int) (z : mc_T) (g : mg_T) (A : List mq_K) (k : mq_K) (B : List mq_K) (c : Int), av = [.inr (.inl (some 0)), .inl c] ∧ cs = md_cs s z g ∧ mq_R (md_v s) (A ++ k :: B) ∧ mq_W (A ++ k :: B) ∧ c = A.length ∧
  ∀ (s' : Int → Int) (z' : mc_T), mq_R (md_v s') (A ++ (mq_row k, 0, 0) :: B) → s' 2 = s 2 + mq_cost k → Q none (md_cs s' z' g)
def sp_X3_parts : ab_Sp := fun av cs Q => ∃ (s : Int → Int) (z : mc_T) (g : mg_T) (A : List mq_K) (l : List Int) (B : List mq_K) (f : Nat) (c x : Int), av = [.inr (.inl (some 0)), .inl c, .inl x] ∧ cs = md_cs s z g ∧ mq_R (md_v s) (A ++ (l, 0, 0) :: B) ∧ mq_W (A ++ (l, 0, 0) :: B) ∧ c = A.length ∧ x = f ∧ 0 < f ∧ f < l.length ∧
  ∀ (s' : Int → Int), mq_R (md_v s') (A ++ (l.take f, 0, 0) :: (l.drop f, 0, 0) :: B) → s' 2 = s 2 + ((l.length : Int) - f) → Q none (md_cs s' z g)
def sp_X3_closes : ab_Sp := fun av cs Q => ∃ (s : Int → Int) (z : mc_T) (g : mg_T) (k : Int), av = [.inr (.inl (some 0)), .inl k] ∧ cs = md_cs s z g ∧ 0 ≤ k ∧ k < s 1 ∧ s 1 ≤ 60 ∧
  ∀ (s' : Int → Int), s' 0 = s 0 → s' 1 = s 1 - 1 → s' 2 = s 2 → (∀ j : Int, 0 ≤ j → j < 60 → s' (3 + j) = s (3 + j)) → (∀ c : Int, 0 ≤ c → c < s 1 - 1 → s' (63 + c) = mq_del (fun c => s (63 + c)) (s 1) k c ∧ s' (127 + c) = mq_del (fun c => s (127 + c)) (s 1) k c ∧ s' (191 + c) = mq_del (fun c => s (191 + c)) (s 1) k c) → Q none (md_cs s' z g)
def sp_X3_cuts : ab_Sp := fun av cs Q => ∃ (s : Int → Int) (z : mc_T) (g : mg_T) (q : List mq_K) (d : Nat) (p : Int), av = [.inr (.inl (some 0)), .inl p] ∧ cs = md_cs s z g ∧ mq_R (md_v s) q ∧ mq_W q ∧ p = d ∧ d ≤ (mq_flat q).length ∧
  ∀ (s' : Int → Int) (z' : mc_T), mq_R (md_v s') ((mq_cut q d).1 ++ (mq_cut q d).2.1) → s' 2 = s 2 + (mq_cut q d).2.2 → Q none (md_cs s' z' g)
def sp_X3_chunkFrom : ab_Sp := fun av cs Q => ∃ (s : Int → Int) (z : mc_T) (g : mg_T) (A B : List mq_K) (p : Int), av = [.inr (.inl (some 0)), .inl p] ∧ cs = md_cs s z g ∧ mq_R (md_v s) (A ++ B) ∧ mq_W (A ++ B) ∧ p = (mq_flat A).length ∧ Q (some (.inl (A.length : Int))) (md_cs s z g)
def sp_X3_root : ab_Sp := fun av cs Q => ∃ (s : Int → Int) (z : mc_T) (g : mg_T) (q : List mq_K), av = [.inr (.inl (some 0))] ∧ cs = md_cs s z g ∧ mq_R (md_v s) q ∧ mq_W q ∧ Q (some (.inl (mq_rt (mq_flat q).length : Int))) (md_cs s z g)
-- ===== RootChunksModel.startOf
def P_X3_startOf : List ab_I := [(0, .iconst 0, 1, []), (1, .istore_n 2, 2, []), (2, .iconst 0, 3, []), (3, .istore_n 3, 4, []), (4, .iload_n 3, 5, []), (5, .iload_n 1, 6, []), (6, .if_icmp .ge 21, 9, [((0 : Int), 27)]), (9, .iload_n 2, 10, []), (10, .aload_n 0, 11, []), (11, .getfield 7, 14, []), (14, .bipush 63, 16, []), (16, .iload_n 3, 17, []), (17, .iadd, 18, []), (18, .iaload, 19, []), (19, .iadd, 20, []), (20, .istore_n 2, 21, []), (21, .iinc 3 1, 24, []), (24, .goto (-20), 27, [((0 : Int), 4)]), (27, .iload_n 2, 28, []), (28, .ireturn, 29, [])]
def E_X3_startOf : ab_E := (T_X3, [], [], 0)
def M_X3_startOf : List (Nat × ab_MI) := []
def mi_X3_startOf : ab_MI := (yX3_startOf, cX3_startOf, 4, ab_rty 0, 1, 70)
theorem pk_X3_startOf : P_X3_startOf.all (ab_okI cX3_startOf) = true := by decide +kernel
theorem ck_X3_startOf : P_X3_startOf.all (ab_okC1 "RootChunksModel" M_X3_startOf E_X3_startOf (1, 70)) = true := by decide +kernel
set_option maxRecDepth 100000 in
theorem b_X3_startOf_0 {Q : ab_Q} {k : Int} {s_ : Int → Int} {z_ : mc_T} {g_ : mg_T} (l1 : ab_R E_X3_startOf P_X3_startOf Q 4 [some (.inr (.inl (some 0))), some (.inl k), some (.inl 0), some (.inl 0)] [] (md_cs s_ z_ g_))  : ab_R E_X3_startOf P_X3_startOf Q 0 [some (.inr (.inl (some 0))), some (.inl k), none, none] [] (md_cs s_ z_ g_) :=
  ab_R.steps [4] 6 (show ab_R E_X3_startOf P_X3_startOf Q 4 [some (.inr (.inl (some 0))), some (.inl k), some (.inl 0), some (.inl 0)] [] (md_cs s_ z_ g_) from l1)
set_option maxRecDepth 100000 in
theorem b_X3_startOf_4 {Q : ab_Q} {k : Int} {st : Int} {c : Int} {s_ : Int → Int} {z_ : mc_T} {g_ : mg_T} (l1 : k ≤ c → Q (some (.inl st)) (md_cs s_ z_ g_)) (l2 : c < k → ab_R E_X3_startOf P_X3_startOf Q 4 [some (.inr (.inl (some 0))), some (.inl k), some (.inl (st + (s_ (63 + c)))), some (.inl (c + 1))] [] (md_cs s_ z_ g_)) (p1 : (ab_r c ∧ ab_r k) := by intros; (try unfold ab_r); omega) (p2 : c < k → (0 ≤ (63 + c) ∧ (63 + c) < 255) := by intros; (try unfold ab_r); omega) : ab_R E_X3_startOf P_X3_startOf Q 4 [some (.inr (.inl (some 0))), some (.inl k), some (.inl st), some (.inl c)] [] (md_cs s_ z_ g_) :=
  ab_R.steps [4] 16 (show ((ab_r c ∧ ab_r k) ∧ ((k ≤ c → Q (some (.inl st)) (md_cs s_ z_ g_)) ∧ (c < k → ((0 ≤ (63 + c) ∧ (63 + c) < 255) ∧ ab_R E_X3_startOf P_X3_startOf Q 4 [some (.inr (.inl (some 0))), some (.inl k), some (.inl (st + (s_ (63 + c)))), some (.inl (c + 1))] [] (md_cs s_ z_ g_))))) from ⟨p1, ⟨fun h1 => (l1 h1), fun h2 => ⟨(p2 h2), (l2 h2)⟩⟩⟩)
-- ===== RootChunksModel.chunkAt
def P_X3_chunkAt : List ab_I := [(0, .iconst 0, 1, []), (1, .istore_n 2, 2, []), (2, .aload_n 0, 3, []), (3, .getfield 7, 6, []), (6, .bipush 63, 8, []), (8, .iaload, 9, []), (9, .istore_n 3, 10, []), (10, .iload_n 3, 11, []), (11, .iload_n 1, 12, []), (12, .if_icmp .gt 21, 15, [((0 : Int), 33)]), (15, .iinc 2 1, 18, []), (18, .iload_n 3, 19, []), (19, .aload_n 0, 20, []), (20, .getfield 7, 23, []), (23, .bipush 63, 25, []), (25, .iload_n 2, 26, []), (26, .iadd, 27, []), (27, .iaload, 28, []), (28, .iadd, 29, []), (29, .istore_n 3, 30, []), (30, .goto (-20), 33, [((0 : Int), 10)]), (33, .iload_n 2, 34, []), (34, .ireturn, 35, [])]
def E_X3_chunkAt : ab_E := (T_X3, [], [], 0)
def M_X3_chunkAt : List (Nat × ab_MI) := []
def mi_X3_chunkAt : ab_MI := (yX3_chunkAt, cX3_chunkAt, 4, ab_rty 0, 1, 70)
theorem pk_X3_chunkAt : P_X3_chunkAt.all (ab_okI cX3_chunkAt) = true := by decide +kernel
theorem ck_X3_chunkAt : P_X3_chunkAt.all (ab_okC1 "RootChunksModel" M_X3_chunkAt E_X3_chunkAt (1, 70)) = true := by decide +kernel
set_option maxRecDepth 100000 in
theorem b_X3_chunkAt_0 {Q : ab_Q} {p : Int} {s_ : Int → Int} {z_ : mc_T} {g_ : mg_T} (l1 : ab_R E_X3_chunkAt P_X3_chunkAt Q 10 [some (.inr (.inl (some 0))), some (.inl p), some (.inl 0), some (.inl (s_ 63))] [] (md_cs s_ z_ g_)) (p1 : (0 ≤ (63 : Int) ∧ (63 : Int) < 255) := by intros; (try unfold ab_r); omega) : ab_R E_X3_chunkAt P_X3_chunkAt Q 0 [some (.inr (.inl (some 0))), some (.inl p), none, none] [] (md_cs s_ z_ g_) :=
  ab_R.steps [10] 9 (show ((0 ≤ (63 : Int) ∧ (63 : Int) < 255) ∧ ab_R E_X3_chunkAt P_X3_chunkAt Q 10 [some (.inr (.inl (some 0))), some (.inl p), some (.inl 0), some (.inl (s_ 63))] [] (md_cs s_ z_ g_)) from ⟨p1, l1⟩)
set_option maxRecDepth 100000 in
theorem b_X3_chunkAt_10 {Q : ab_Q} {p : Int} {c : Int} {en : Int} {s_ : Int → Int} {z_ : mc_T} {g_ : mg_T} (l1 : p < en → Q (some (.inl c)) (md_cs s_ z_ g_)) (l2 : en ≤ p → ab_R E_X3_chunkAt P_X3_chunkAt Q 10 [some (.inr (.inl (some 0))), some (.inl p), some (.inl (c + 1)), some (.inl (en + (s_ (63 + (c + 1)))))] [] (md_cs s_ z_ g_)) (p1 : (ab_r en ∧ ab_r p) := by intros; (try unfold ab_r); omega) (p2 : en ≤ p → (0 ≤ (63 + (c + 1)) ∧ (63 + (c + 1)) < 255) := by intros; (try unfold ab_r); omega) : ab_R E_X3_chunkAt P_X3_chunkAt Q 10 [some (.inr (.inl (some 0))), some (.inl p), some (.inl c), some (.inl en)] [] (md_cs s_ z_ g_) :=
  ab_R.steps [10] 16 (show ((ab_r en ∧ ab_r p) ∧ ((p < en → Q (some (.inl c)) (md_cs s_ z_ g_)) ∧ (en ≤ p → ((0 ≤ (63 + (c + 1)) ∧ (63 + (c + 1)) < 255) ∧ ab_R E_X3_chunkAt P_X3_chunkAt Q 10 [some (.inr (.inl (some 0))), some (.inl p), some (.inl (c + 1)), some (.inl (en + (s_ (63 + (c + 1)))))] [] (md_cs s_ z_ g_))))) from ⟨p1, ⟨fun h1 => (l1 h1), fun h2 => ⟨(p2 h2), (l2 h2)⟩⟩⟩)
-- ===== RootChunksModel.valueAt
def P_X3_valueAt : List ab_I := [(0, .aload_n 0, 1, []), (1, .iload_n 1, 2, []), (2, .invokevirtual 54, 5, []), (5, .istore_n 2, 6, []), (6, .aload_n 0, 7, []), (7, .iload_n 2, 8, []), (8, .invokevirtual 58, 11, []), (11, .istore_n 3, 12, []), (12, .aload_n 0, 13, []), (13, .getfield 7, 16, []), (16, .bipush 127, 18, []), (18, .iload_n 2, 19, []), (19, .iadd, 20, []), (20, .iaload, 21, []), (21, .iconst 1, 22, []), (22, .if_icmp .ne 23, 25, [((0 : Int), 45)]), (25, .iconst 2, 26, []), (26, .iload_n 3, 27, []), (27, .imul, 28, []), (28, .aload_n 0, 29, []), (29, .getfield 7, 32, []), (32, .bipush 63, 34, []), (34, .iload_n 2, 35, []), (35, .iadd, 36, []), (36, .iaload, 37, []), (37, .iadd, 38, []), (38, .iconst 1, 39, []), (39, .isub, 40, []), (40, .iload_n 1, 41, []), (41, .isub, 42, []), (42, .goto 4, 45, [((0 : Int), 46)]), (45, .iload_n 1, 46, []), (46, .istore 4, 48, []), (48, .aload_n 0, 49, []), (49, .getfield 7, 52, []), (52, .iconst 3, 53, []), (53, .iload 4, 55, []), (55, .iadd, 56, []), (56, .iaload, 57, []), (57, .aload_n 0, 58, []), (58, .getfield 7, 61, []), (61, .sipush 191, 64, []), (64, .iload_n 2, 65, []), (65, .iadd, 66, []), (66, .iaload, 67, []), (67, .iadd, 68, []), (68, .ireturn, 69, [])]
def E_X3_valueAt : ab_E := (T_X3, [(2, (2, 3, [], 0, sp_X3_chunkAt)), (8, (2, 3, [], 0, sp_X3_startOf))], [], 0)
def M_X3_valueAt : List (Nat × ab_MI) := [(2, mi_X3_chunkAt), (8, mi_X3_startOf)]
def mi_X3_valueAt : ab_MI := (yX3_valueAt, cX3_valueAt, 5, ab_rty 0, 2, 93)
theorem pk_X3_valueAt : P_X3_valueAt.all (ab_okI cX3_valueAt) = true := by decide +kernel
theorem ck_X3_valueAt : P_X3_valueAt.all (ab_okC1 "RootChunksModel" M_X3_valueAt E_X3_valueAt (2, 93)) = true := by decide +kernel
set_option maxRecDepth 100000 in
theorem b_X3_valueAt_0 {Q : ab_Q} {p : Int} {s_ : Int → Int} {z_ : mc_T} {g_ : mg_T} (l1 : sp_X3_chunkAt [.inr (.inl (some 0)), .inl p] (md_cs s_ z_ g_) (fun r_ k_ => ∃ (x_ : Int), r_ = some (.inl x_) ∧ k_ = (md_cs s_ z_ g_) ∧ ab_R E_X3_valueAt P_X3_valueAt Q 5 [some (.inr (.inl (some 0))), some (.inl p), none, none, none] [.inl x_] (md_cs s_ z_ g_)))  : ab_R E_X3_valueAt P_X3_valueAt Q 0 [some (.inr (.inl (some 0))), some (.inl p), none, none, none] [] (md_cs s_ z_ g_) :=
  ab_R.steps [5, 11] 4 (show ab_cl sp_X3_chunkAt [.inr (.inl (some 0)), .inl p] (md_cs s_ z_ g_) (fun r_ k_ => k_.length = ((md_cs s_ z_ g_)).length → ab_R E_X3_valueAt P_X3_valueAt Q 5 [some (.inr (.inl (some 0))), some (.inl p), none, none, none] (ab_ret r_ []) k_) from ⟨_, l1, fun r_ k_ hz _ => by obtain ⟨x_, rfl, rfl, hR⟩ := hz; exact hR⟩)
set_option maxRecDepth 100000 in
theorem b_X3_valueAt_5 {Q : ab_Q} {p : Int} {t0 : Int} {s_ : Int → Int} {z_ : mc_T} {g_ : mg_T} (l1 : sp_X3_startOf [.inr (.inl (some 0)), .inl t0] (md_cs s_ z_ g_) (fun r_ k_ => ∃ (x_ : Int), r_ = some (.inl x_) ∧ k_ = (md_cs s_ z_ g_) ∧ ab_R E_X3_valueAt P_X3_valueAt Q 11 [some (.inr (.inl (some 0))), some (.inl p), some (.inl t0), none, none] [.inl x_] (md_cs s_ z_ g_)))  : ab_R E_X3_valueAt P_X3_valueAt Q 5 [some (.inr (.inl (some 0))), some (.inl p), none, none, none] [.inl t0] (md_cs s_ z_ g_) :=
  ab_R.steps [5, 11] 5 (show ab_cl sp_X3_startOf [.inr (.inl (some 0)), .inl t0] (md_cs s_ z_ g_) (fun r_ k_ => k_.length = ((md_cs s_ z_ g_)).length → ab_R E_X3_valueAt P_X3_valueAt Q 11 [some (.inr (.inl (some 0))), some (.inl p), some (.inl t0), none, none] (ab_ret r_ []) k_) from ⟨_, l1, fun r_ k_ hz _ => by obtain ⟨x_, rfl, rfl, hR⟩ := hz; exact hR⟩)
set_option maxRecDepth 100000 in
theorem b_X3_valueAt_11 {Q : ab_Q} {p : Int} {c : Int} {t0 : Int} {s_ : Int → Int} {z_ : mc_T} {g_ : mg_T} (l1 : ¬ (s_ (127 + c)) = (1 : Int) → Q (some (.inl ((s_ (3 + p)) + (s_ (191 + c))))) (md_cs s_ z_ g_)) (l2 : (s_ (127 + c)) = (1 : Int) → Q (some (.inl ((s_ (3 + ((((2 * t0) + (s_ (63 + c))) - 1) - p))) + (s_ (191 + c))))) (md_cs s_ z_ g_)) (p1 : (0 ≤ (127 + c) ∧ (127 + c) < 255) := by intros; (try unfold ab_r); omega) (p2 : (ab_r (s_ (127 + c)) ∧ ab_r 1) := by intros; (try unfold ab_r); omega) (p3 : ¬ (s_ (127 + c)) = (1 : Int) → (0 ≤ (3 + p) ∧ (3 + p) < 255) := by intros; (try unfold ab_r); omega) (p4 : ¬ (s_ (127 + c)) = (1 : Int) → (0 ≤ (191 + c) ∧ (191 + c) < 255) := by intros; (try unfold ab_r); omega) (p5 : (s_ (127 + c)) = (1 : Int) → (0 ≤ (63 + c) ∧ (63 + c) < 255) := by intros; (try unfold ab_r); omega) (p6 : (s_ (127 + c)) = (1 : Int) → (0 ≤ (3 + ((((2 * t0) + (s_ (63 + c))) - 1) - p)) ∧ (3 + ((((2 * t0) + (s_ (63 + c))) - 1) - p)) < 255) := by intros; (try unfold ab_r); omega) (p7 : (s_ (127 + c)) = (1 : Int) → (0 ≤ (191 + c) ∧ (191 + c) < 255) := by intros; (try unfold ab_r); omega) : ab_R E_X3_valueAt P_X3_valueAt Q 11 [some (.inr (.inl (some 0))), some (.inl p), some (.inl c), none, none] [.inl t0] (md_cs s_ z_ g_) :=
  ab_R.steps [5, 11] 40 (show ((0 ≤ (127 + c) ∧ (127 + c) < 255) ∧ ((ab_r (s_ (127 + c)) ∧ ab_r 1) ∧ ((¬ (s_ (127 + c)) = (1 : Int) → ((0 ≤ (3 + p) ∧ (3 + p) < 255) ∧ ((0 ≤ (191 + c) ∧ (191 + c) < 255) ∧ Q (some (.inl ((s_ (3 + p)) + (s_ (191 + c))))) (md_cs s_ z_ g_)))) ∧ ((s_ (127 + c)) = (1 : Int) → ((0 ≤ (63 + c) ∧ (63 + c) < 255) ∧ ((0 ≤ (3 + ((((2 * t0) + (s_ (63 + c))) - 1) - p)) ∧ (3 + ((((2 * t0) + (s_ (63 + c))) - 1) - p)) < 255) ∧ ((0 ≤ (191 + c) ∧ (191 + c) < 255) ∧ Q (some (.inl ((s_ (3 + ((((2 * t0) + (s_ (63 + c))) - 1) - p))) + (s_ (191 + c))))) (md_cs s_ z_ g_)))))))) from ⟨p1, ⟨p2, ⟨fun h1 => ⟨(p3 h1), ⟨(p4 h1), (l1 h1)⟩⟩, fun h2 => ⟨(p5 h2), ⟨(p6 h2), ⟨(p7 h2), (l2 h2)⟩⟩⟩⟩⟩⟩)
-- ===== RootChunksModel.carries
def P_X3_carries : List ab_I := [(0, .aload_n 0, 1, []), (1, .getfield 7, 4, []), (4, .bipush 127, 6, []), (6, .iload_n 1, 7, []), (7, .iadd, 8, []), (8, .iaload, 9, []), (9, .ifCond .ne 17, 12, [((0 : Int), 26)]), (12, .aload_n 0, 13, []), (13, .getfield 7, 16, []), (16, .sipush 191, 19, []), (19, .iload_n 1, 20, []), (20, .iadd, 21, []), (21, .iaload, 22, []), (22, .ifCond .ne 4, 25, [((0 : Int), 26)]), (25, .return_, 26, []), (26, .aload_n 0, 27, []), (27, .iload_n 1, 28, []), (28, .invokevirtual 58, 31, []), (31, .istore_n 2, 32, []), (32, .aload_n 0, 33, []), (33, .getfield 7, 36, []), (36, .bipush 63, 38, []), (38, .iload_n 1, 39, []), (39, .iadd, 40, []), (40, .iaload, 41, []), (41, .istore_n 3, 42, []), (42, .iconst 0, 43, []), (43, .istore 4, 45, []), (45, .iload 4, 47, []), (47, .iload_n 3, 48, []), (48, .if_icmp .ge 24, 51, [((0 : Int), 72)]), (51, .aload_n 0, 52, []), (52, .getfield 32, 55, []), (55, .iload 4, 57, []), (57, .aload_n 0, 58, []), (58, .iload_n 2, 59, []), (59, .iload 4, 61, []), (61, .iadd, 62, []), (62, .invokevirtual 61, 65, []), (65, .iastore, 66, []), (66, .iinc 4 1, 69, []), (69, .goto (-24), 72, [((0 : Int), 45)]), (72, .iconst 0, 73, []), (73, .istore 4, 75, []), (75, .iload 4, 77, []), (77, .iload_n 3, 78, []), (78, .if_icmp .ge 27, 81, [((0 : Int), 105)]), (81, .aload_n 0, 82, []), (82, .getfield 7, 85, []), (85, .iconst 3, 86, []), (86, .iload_n 2, 87, []), (87, .iadd, 88, []), (88, .iload 4, 90, []), (90, .iadd, 91, []), (91, .aload_n 0, 92, []), (92, .getfield 32, 95, []), (95, .iload 4, 97, []), (97, .iaload, 98, []), (98, .iastore, 99, []), (99, .iinc 4 1, 102, []), (102, .goto (-27), 105, [((0 : Int), 75)]), (105, .aload_n 0, 106, []), (106, .getfield 7, 109, []), (109, .bipush 127, 111, []), (111, .iload_n 1, 112, []), (112, .iadd, 113, []), (113, .iconst 0, 114, []), (114, .iastore, 115, []), (115, .aload_n 0, 116, []), (116, .getfield 7, 119, []), (119, .sipush 191, 122, []), (122, .iload_n 1, 123, []), (123, .iadd, 124, []), (124, .iconst 0, 125, []), (125, .iastore, 126, []), (126, .aload_n 0, 127, []), (127, .getfield 7, 130, []), (130, .iconst 2, 131, []), (131, .dup2, 132, []), (132, .iaload, 133, []), (133, .iload_n 3, 134, []), (134, .iadd, 135, []), (135, .iastore, 136, []), (136, .return_, 137, [])]
def E_X3_carries : ab_E := (T_X3, [(28, (2, 3, [], 0, sp_X3_startOf)), (62, (2, 3, [], 0, sp_X3_valueAt))], [], 9)
def M_X3_carries : List (Nat × ab_MI) := [(28, mi_X3_startOf), (62, mi_X3_valueAt)]
def mi_X3_carries : ab_MI := (yX3_carries, cX3_carries, 5, ab_rty 9, 3, 117)
theorem pk_X3_carries : P_X3_carries.all (ab_okI cX3_carries) = true := by decide +kernel
theorem ck_X3_carries : P_X3_carries.all (ab_okC1 "RootChunksModel" M_X3_carries E_X3_carries (3, 117)) = true := by decide +kernel
set_option maxRecDepth 100000 in
theorem b_X3_carries_0 {Q : ab_Q} {c : Int} {s_ : Int → Int} {z_od : Int → Int} {z_nk : Int → Int} {z_nl : Int → Int} {z_nt : Int → Int} {z_ns : Int → Int} {g_ : mg_T} (l1 : ¬ (s_ (127 + c)) = (0 : Int) → sp_X3_startOf [.inr (.inl (some 0)), .inl c] (md_cs s_ (z_od, z_nk, z_nl, z_nt, z_ns) g_) (fun r_ k_ => ∃ (x_ : Int), r_ = some (.inl x_) ∧ k_ = (md_cs s_ (z_od, z_nk, z_nl, z_nt, z_ns) g_) ∧ ab_R E_X3_carries P_X3_carries Q 31 [some (.inr (.inl (some 0))), some (.inl c), none, none, none] [.inl x_] (md_cs s_ (z_od, z_nk, z_nl, z_nt, z_ns) g_))) (l2 : (s_ (127 + c)) = (0 : Int) → ¬ (s_ (191 + c)) = (0 : Int) → sp_X3_startOf [.inr (.inl (some 0)), .inl c] (md_cs s_ (z_od, z_nk, z_nl, z_nt, z_ns) g_) (fun r_ k_ => ∃ (x_ : Int), r_ = some (.inl x_) ∧ k_ = (md_cs s_ (z_od, z_nk, z_nl, z_nt, z_ns) g_) ∧ ab_R E_X3_carries P_X3_carries Q 31 [some (.inr (.inl (some 0))), some (.inl c), none, none, none] [.inl x_] (md_cs s_ (z_od, z_nk, z_nl, z_nt, z_ns) g_))) (l3 : (s_ (127 + c)) = (0 : Int) → (s_ (191 + c)) = (0 : Int) → Q none (md_cs s_ (z_od, z_nk, z_nl, z_nt, z_ns) g_)) (p1 : (0 ≤ (127 + c) ∧ (127 + c) < 255) := by intros; (try unfold ab_r); omega) (p2 : ab_r (s_ (127 + c)) := by intros; (try unfold ab_r); omega) (p3 : (s_ (127 + c)) = (0 : Int) → (0 ≤ (191 + c) ∧ (191 + c) < 255) := by intros; (try unfold ab_r); omega) (p4 : (s_ (127 + c)) = (0 : Int) → ab_r (s_ (191 + c)) := by intros; (try unfold ab_r); omega) : ab_R E_X3_carries P_X3_carries Q 0 [some (.inr (.inl (some 0))), some (.inl c), none, none, none] [] (md_cs s_ (z_od, z_nk, z_nl, z_nt, z_ns) g_) :=
  ab_R.steps [31, 45, 65, 75] 18 (show ((0 ≤ (127 + c) ∧ (127 + c) < 255) ∧ (ab_r (s_ (127 + c)) ∧ ((¬ (s_ (127 + c)) = (0 : Int) → ab_cl sp_X3_startOf [.inr (.inl (some 0)), .inl c] (md_cs s_ (z_od, z_nk, z_nl, z_nt, z_ns) g_) (fun r_ k_ => k_.length = ((md_cs s_ (z_od, z_nk, z_nl, z_nt, z_ns) g_)).length → ab_R E_X3_carries P_X3_carries Q 31 [some (.inr (.inl (some 0))), some (.inl c), none, none, none] (ab_ret r_ []) k_)) ∧ ((s_ (127 + c)) = (0 : Int) → ((0 ≤ (191 + c) ∧ (191 + c) < 255) ∧ (ab_r (s_ (191 + c)) ∧ ((¬ (s_ (191 + c)) = (0 : Int) → ab_cl sp_X3_startOf [.inr (.inl (some 0)), .inl c] (md_cs s_ (z_od, z_nk, z_nl, z_nt, z_ns) g_) (fun r_ k_ => k_.length = ((md_cs s_ (z_od, z_nk, z_nl, z_nt, z_ns) g_)).length → ab_R E_X3_carries P_X3_carries Q 31 [some (.inr (.inl (some 0))), some (.inl c), none, none, none] (ab_ret r_ []) k_)) ∧ ((s_ (191 + c)) = (0 : Int) → Q none (md_cs s_ (z_od, z_nk, z_nl, z_nt, z_ns) g_))))))))) from ⟨p1, ⟨p2, ⟨fun h1 => ⟨_, (l1 h1), fun r_ k_ hz _ => by obtain ⟨x_, rfl, rfl, hR⟩ := hz; exact hR⟩, fun h2 => ⟨(p3 h2), ⟨(p4 h2), ⟨fun h3 => ⟨_, (l2 h2 h3), fun r_ k_ hz _ => by obtain ⟨x_, rfl, rfl, hR⟩ := hz; exact hR⟩, fun h4 => (l3 h2 h4)⟩⟩⟩⟩⟩⟩)
set_option maxRecDepth 100000 in
theorem b_X3_carries_31 {Q : ab_Q} {c : Int} {t0 : Int} {s_ : Int → Int} {z_od : Int → Int} {z_nk : Int → Int} {z_nl : Int → Int} {z_nt : Int → Int} {z_ns : Int → Int} {g_ : mg_T} (l1 : ab_R E_X3_carries P_X3_carries Q 45 [some (.inr (.inl (some 0))), some (.inl c), some (.inl t0), some (.inl (s_ (63 + c))), some (.inl 0)] [] (md_cs s_ (z_od, z_nk, z_nl, z_nt, z_ns) g_)) (p1 : (0 ≤ (63 + c) ∧ (63 + c) < 255) := by intros; (try unfold ab_r); omega) : ab_R E_X3_carries P_X3_carries Q 31 [some (.inr (.inl (some 0))), some (.inl c), none, none, none] [.inl t0] (md_cs s_ (z_od, z_nk, z_nl, z_nt, z_ns) g_) :=
  ab_R.steps [31, 45, 65, 75] 12 (show ((0 ≤ (63 + c) ∧ (63 + c) < 255) ∧ ab_R E_X3_carries P_X3_carries Q 45 [some (.inr (.inl (some 0))), some (.inl c), some (.inl t0), some (.inl (s_ (63 + c))), some (.inl 0)] [] (md_cs s_ (z_od, z_nk, z_nl, z_nt, z_ns) g_)) from ⟨p1, l1⟩)
set_option maxRecDepth 100000 in
theorem b_X3_carries_45 {Q : ab_Q} {c : Int} {st : Int} {n : Int} {k : Int} {s_ : Int → Int} {z_od : Int → Int} {z_nk : Int → Int} {z_nl : Int → Int} {z_nt : Int → Int} {z_ns : Int → Int} {g_ : mg_T} (l1 : n ≤ k → ab_R E_X3_carries P_X3_carries Q 75 [some (.inr (.inl (some 0))), some (.inl c), some (.inl st), some (.inl n), some (.inl 0)] [] (md_cs s_ (z_od, z_nk, z_nl, z_nt, z_ns) g_)) (l2 : k < n → sp_X3_valueAt [.inr (.inl (some 0)), .inl (st + k)] (md_cs s_ (z_od, z_nk, z_nl, z_nt, z_ns) g_) (fun r_ k_ => ∃ (x_ : Int), r_ = some (.inl x_) ∧ k_ = (md_cs s_ (z_od, z_nk, z_nl, z_nt, z_ns) g_) ∧ ab_R E_X3_carries P_X3_carries Q 65 [some (.inr (.inl (some 0))), some (.inl c), some (.inl st), some (.inl n), some (.inl k)] [.inl x_, .inl k, .inr (.inl (some 8))] (md_cs s_ (z_od, z_nk, z_nl, z_nt, z_ns) g_))) (p1 : (ab_r k ∧ ab_r n) := by intros; (try unfold ab_r); omega) : ab_R E_X3_carries P_X3_carries Q 45 [some (.inr (.inl (some 0))), some (.inl c), some (.inl st), some (.inl n), some (.inl k)] [] (md_cs s_ (z_od, z_nk, z_nl, z_nt, z_ns) g_) :=
  ab_R.steps [31, 45, 65, 75] 12 (show ((ab_r k ∧ ab_r n) ∧ ((n ≤ k → ab_R E_X3_carries P_X3_carries Q 75 [some (.inr (.inl (some 0))), some (.inl c), some (.inl st), some (.inl n), some (.inl 0)] [] (md_cs s_ (z_od, z_nk, z_nl, z_nt, z_ns) g_)) ∧ (k < n → ab_cl sp_X3_valueAt [.inr (.inl (some 0)), .inl (st + k)] (md_cs s_ (z_od, z_nk, z_nl, z_nt, z_ns) g_) (fun r_ k_ => k_.length = ((md_cs s_ (z_od, z_nk, z_nl, z_nt, z_ns) g_)).length → ab_R E_X3_carries P_X3_carries Q 65 [some (.inr (.inl (some 0))), some (.inl c), some (.inl st), some (.inl n), some (.inl k)] (ab_ret r_ [.inl k, .inr (.inl (some 8))]) k_)))) from ⟨p1, ⟨fun h1 => (l1 h1), fun h2 => ⟨_, (l2 h2), fun r_ k_ hz _ => by obtain ⟨x_, rfl, rfl, hR⟩ := hz; exact hR⟩⟩⟩)
set_option maxRecDepth 100000 in
theorem b_X3_carries_65 {Q : ab_Q} {c : Int} {st : Int} {n : Int} {k : Int} {t0 : Int} {t1 : Int} {s_ : Int → Int} {z_od : Int → Int} {z_nk : Int → Int} {z_nl : Int → Int} {z_nt : Int → Int} {z_ns : Int → Int} {g_ : mg_T} (l1 : ab_R E_X3_carries P_X3_carries Q 45 [some (.inr (.inl (some 0))), some (.inl c), some (.inl st), some (.inl n), some (.inl (k + 1))] [] (md_cs s_ (z_od, (ab_up z_nk t1 t0), z_nl, z_nt, z_ns) g_)) (p1 : (0 ≤ t1 ∧ t1 < 64) := by intros; (try unfold ab_r); omega) : ab_R E_X3_carries P_X3_carries Q 65 [some (.inr (.inl (some 0))), some (.inl c), some (.inl st), some (.inl n), some (.inl k)] [.inl t0, .inl t1, .inr (.inl (some 8))] (md_cs s_ (z_od, z_nk, z_nl, z_nt, z_ns) g_) :=
  ab_R.steps [31, 45, 65, 75] 5 (show ((0 ≤ t1 ∧ t1 < 64) ∧ ab_R E_X3_carries P_X3_carries Q 45 [some (.inr (.inl (some 0))), some (.inl c), some (.inl st), some (.inl n), some (.inl (k + 1))] [] (md_cs s_ (z_od, (ab_up z_nk t1 t0), z_nl, z_nt, z_ns) g_)) from ⟨p1, l1⟩)
set_option maxRecDepth 100000 in
theorem b_X3_carries_75 {Q : ab_Q} {c : Int} {st : Int} {n : Int} {k : Int} {s_ : Int → Int} {z_od : Int → Int} {z_nk : Int → Int} {z_nl : Int → Int} {z_nt : Int → Int} {z_ns : Int → Int} {g_ : mg_T} (l1 : n ≤ k → Q none (md_cs ((ab_up (ab_up (ab_up s_ (127 + c) 0) (191 + c) 0) 2 (((ab_up (ab_up s_ (127 + c) 0) (191 + c) 0) 2) + n))) (z_od, z_nk, z_nl, z_nt, z_ns) g_)) (l2 : k < n → ab_R E_X3_carries P_X3_carries Q 75 [some (.inr (.inl (some 0))), some (.inl c), some (.inl st), some (.inl n), some (.inl (k + 1))] [] (md_cs ((ab_up s_ ((3 + st) + k) (z_nk k))) (z_od, z_nk, z_nl, z_nt, z_ns) g_)) (p1 : (ab_r k ∧ ab_r n) := by intros; (try unfold ab_r); omega) (p2 : n ≤ k → (0 ≤ (127 + c) ∧ (127 + c) < 255) := by intros; (try unfold ab_r); omega) (p3 : n ≤ k → (0 ≤ (191 + c) ∧ (191 + c) < 255) := by intros; (try unfold ab_r); omega) (p4 : n ≤ k → (0 ≤ (2 : Int) ∧ (2 : Int) < 255) := by intros; (try unfold ab_r); omega) (p5 : k < n → (0 ≤ k ∧ k < 64) := by intros; (try unfold ab_r); omega) (p6 : k < n → (0 ≤ ((3 + st) + k) ∧ ((3 + st) + k) < 255) := by intros; (try unfold ab_r); omega) : ab_R E_X3_carries P_X3_carries Q 75 [some (.inr (.inl (some 0))), some (.inl c), some (.inl st), some (.inl n), some (.inl k)] [] (md_cs s_ (z_od, z_nk, z_nl, z_nt, z_ns) g_) :=
  ab_R.steps [31, 45, 65, 75] 27 (show ((ab_r k ∧ ab_r n) ∧ ((n ≤ k → ((0 ≤ (127 + c) ∧ (127 + c) < 255) ∧ ((0 ≤ (191 + c) ∧ (191 + c) < 255) ∧ ((0 ≤ (2 : Int) ∧ (2 : Int) < 255) ∧ ((0 ≤ (2 : Int) ∧ (2 : Int) < 255) ∧ Q none (md_cs ((ab_up (ab_up (ab_up s_ (127 + c) 0) (191 + c) 0) 2 (((ab_up (ab_up s_ (127 + c) 0) (191 + c) 0) 2) + n))) (z_od, z_nk, z_nl, z_nt, z_ns) g_)))))) ∧ (k < n → ((0 ≤ k ∧ k < 64) ∧ ((0 ≤ ((3 + st) + k) ∧ ((3 + st) + k) < 255) ∧ ab_R E_X3_carries P_X3_carries Q 75 [some (.inr (.inl (some 0))), some (.inl c), some (.inl st), some (.inl n), some (.inl (k + 1))] [] (md_cs ((ab_up s_ ((3 + st) + k) (z_nk k))) (z_od, z_nk, z_nl, z_nt, z_ns) g_)))))) from ⟨p1, ⟨fun h1 => ⟨(p2 h1), ⟨(p3 h1), ⟨(p4 h1), ⟨(p4 h1), (l1 h1)⟩⟩⟩⟩, fun h2 => ⟨(p5 h2), ⟨(p6 h2), (l2 h2)⟩⟩⟩⟩)
-- ===== RootChunksModel.parts
def P_X3_parts : List ab_I := [(0, .aload_n 0, 1, []), (1, .getfield 7, 4, []), (4, .iconst 1, 5, []), (5, .iaload, 6, []), (6, .istore_n 3, 7, []), (7, .iload_n 3, 8, []), (8, .iload_n 1, 9, []), (9, .iconst 1, 10, []), (10, .iadd, 11, []), (11, .if_icmp .le 71, 14, [((0 : Int), 82)]), (14, .aload_n 0, 15, []), (15, .getfield 7, 18, []), (18, .bipush 63, 20, []), (20, .iload_n 3, 21, []), (21, .iadd, 22, []), (22, .aload_n 0, 23, []), (23, .getfield 7, 26, []), (26, .bipush 63, 28, []), (28, .iload_n 3, 29, []), (29, .iadd, 30, []), (30, .iconst 1, 31, []), (31, .isub, 32, []), (32, .iaload, 33, []), (33, .iastore, 34, []), (34, .aload_n 0, 35, []), (35, .getfield 7, 38, []), (38, .bipush 127, 40, []), (40, .iload_n 3, 41, []), (41, .iadd, 42, []), (42, .aload_n 0, 43, []), (43, .getfield 7, 46, []), (46, .bipush 127, 48, []), (48, .iload_n 3, 49, []), (49, .iadd, 50, []), (50, .iconst 1, 51, []), (51, .isub, 52, []), (52, .iaload, 53, []), (53, .iastore, 54, []), (54, .aload_n 0, 55, []), (55, .getfield 7, 58, []), (58, .sipush 191, 61, []), (61, .iload_n 3, 62, []), (62, .iadd, 63, []), (63, .aload_n 0, 64, []), (64, .getfield 7, 67, []), (67, .sipush 191, 70, []), (70, .iload_n 3, 71, []), (71, .iadd, 72, []), (72, .iconst 1, 73, []), (73, .isub, 74, []), (74, .iaload, 75, []), (75, .iastore, 76, []), (76, .iinc 3 (-1), 79, []), (79, .goto (-72), 82, [((0 : Int), 7)]), (82, .aload_n 0, 83, []), (83, .getfield 7, 86, []), (86, .bipush 63, 88, []), (88, .iload_n 1, 89, []), (89, .iadd, 90, []), (90, .iconst 1, 91, []), (91, .iadd, 92, []), (92, .aload_n 0, 93, []), (93, .getfield 7, 96, []), (96, .bipush 63, 98, []), (98, .iload_n 1, 99, []), (99, .iadd, 100, []), (100, .iaload, 101, []), (101, .iload_n 2, 102, []), (102, .isub, 103, []), (103, .iastore, 104, []), (104, .aload_n 0, 105, []), (105, .getfield 7, 108, []), (108, .bipush 63, 110, []), (110, .iload_n 1, 111, []), (111, .iadd, 112, []), (112, .iload_n 2, 113, []), (113, .iastore, 114, []), (114, .aload_n 0, 115, []), (115, .getfield 7, 118, []), (118, .bipush 127, 120, []), (120, .iload_n 1, 121, []), (121, .iadd, 122, []), (122, .iconst 1, 123, []), (123, .iadd, 124, []), (124, .iconst 0, 125, []), (125, .iastore, 126, []), (126, .aload_n 0, 127, []), (127, .getfield 7, 130, []), (130, .sipush 191, 133, []), (133, .iload_n 1, 134, []), (134, .iadd, 135, []), (135, .iconst 1, 136, []), (136, .iadd, 137, []), (137, .iconst 0, 138, []), (138, .iastore, 139, []), (139, .aload_n 0, 140, []), (140, .getfield 7, 143, []), (143, .iconst 1, 144, []), (144, .dup2, 145, []), (145, .iaload, 146, []), (146, .iconst 1, 147, []), (147, .iadd, 148, []), (148, .iastore, 149, []), (149, .aload_n 0, 150, []), (150, .getfield 7, 153, []), (153, .iconst 2, 154, []), (154, .dup2, 155, []), (155, .iaload, 156, []), (156, .aload_n 0, 157, []), (157, .getfield 7, 160, []), (160, .bipush 63, 162, []), (162, .iload_n 1, 163, []), (163, .iadd, 164, []), (164, .iconst 1, 165, []), (165, .iadd, 166, []), (166, .iaload, 167, []), (167, .iadd, 168, []), (168, .iastore, 169, []), (169, .return_, 170, [])]
def E_X3_parts : ab_E := (T_X3, [], [], 9)
def M_X3_parts : List (Nat × ab_MI) := []
def mi_X3_parts : ab_MI := (yX3_parts, cX3_parts, 4, ab_rty 9, 1, 70)
theorem pk_X3_parts : P_X3_parts.all (ab_okI cX3_parts) = true := by decide +kernel
theorem ck_X3_parts : P_X3_parts.all (ab_okC1 "RootChunksModel" M_X3_parts E_X3_parts (1, 70)) = true := by decide +kernel
set_option maxRecDepth 100000 in
theorem b_X3_parts_0 {Q : ab_Q} {c : Int} {fi : Int} {s_ : Int → Int} {z_ : mc_T} {g_ : mg_T} (l1 : ab_R E_X3_parts P_X3_parts Q 7 [some (.inr (.inl (some 0))), some (.inl c), some (.inl fi), some (.inl (s_ 1))] [] (md_cs s_ z_ g_)) (p1 : (0 ≤ (1 : Int) ∧ (1 : Int) < 255) := by intros; (try unfold ab_r); omega) : ab_R E_X3_parts P_X3_parts Q 0 [some (.inr (.inl (some 0))), some (.inl c), some (.inl fi), none] [] (md_cs s_ z_ g_) :=
  ab_R.steps [7] 7 (show ((0 ≤ (1 : Int) ∧ (1 : Int) < 255) ∧ ab_R E_X3_parts P_X3_parts Q 7 [some (.inr (.inl (some 0))), some (.inl c), some (.inl fi), some (.inl (s_ 1))] [] (md_cs s_ z_ g_)) from ⟨p1, l1⟩)
set_option maxRecDepth 100000 in
theorem b_X3_parts_7 {Q : ab_Q} {c : Int} {fi : Int} {k : Int} {s_ : Int → Int} {z_ : mc_T} {g_ : mg_T} (l1 : k ≤ (c + 1) → Q none (md_cs ((ab_up (ab_up (ab_up (ab_up (ab_up (ab_up s_ ((63 + c) + 1) ((s_ (63 + c)) - fi)) (63 + c) fi) ((127 + c) + 1) 0) ((191 + c) + 1) 0) 1 (((ab_up (ab_up (ab_up (ab_up s_ ((63 + c) + 1) ((s_ (63 + c)) - fi)) (63 + c) fi) ((127 + c) + 1) 0) ((191 + c) + 1) 0) 1) + 1)) 2 (((ab_up (ab_up (ab_up (ab_up (ab_up s_ ((63 + c) + 1) ((s_ (63 + c)) - fi)) (63 + c) fi) ((127 + c) + 1) 0) ((191 + c) + 1) 0) 1 (((ab_up (ab_up (ab_up (ab_up s_ ((63 + c) + 1) ((s_ (63 + c)) - fi)) (63 + c) fi) ((127 + c) + 1) 0) ((191 + c) + 1) 0) 1) + 1)) 2) + ((ab_up (ab_up (ab_up (ab_up (ab_up s_ ((63 + c) + 1) ((s_ (63 + c)) - fi)) (63 + c) fi) ((127 + c) + 1) 0) ((191 + c) + 1) 0) 1 (((ab_up (ab_up (ab_up (ab_up s_ ((63 + c) + 1) ((s_ (63 + c)) - fi)) (63 + c) fi) ((127 + c) + 1) 0) ((191 + c) + 1) 0) 1) + 1)) ((63 + c) + 1))))) z_ g_)) (l2 : (c + 1) < k → ab_R E_X3_parts P_X3_parts Q 7 [some (.inr (.inl (some 0))), some (.inl c), some (.inl fi), some (.inl (k + (-1)))] [] (md_cs ((ab_up (ab_up (ab_up s_ (63 + k) (s_ ((63 + k) - 1))) (127 + k) ((ab_up s_ (63 + k) (s_ ((63 + k) - 1))) ((127 + k) - 1))) (191 + k) ((ab_up (ab_up s_ (63 + k) (s_ ((63 + k) - 1))) (127 + k) ((ab_up s_ (63 + k) (s_ ((63 + k) - 1))) ((127 + k) - 1))) ((191 + k) - 1)))) z_ g_)) (p1 : (ab_r k ∧ ab_r (c + 1)) := by intros; (try unfold ab_r); omega) (p2 : k ≤ (c + 1) → (0 ≤ (63 + c) ∧ (63 + c) < 255) := by intros; (try unfold ab_r); omega) (p3 : k ≤ (c + 1) → (0 ≤ ((63 + c) + 1) ∧ ((63 + c) + 1) < 255) := by intros; (try unfold ab_r); omega) (p4 : k ≤ (c + 1) → (0 ≤ ((127 + c) + 1) ∧ ((127 + c) + 1) < 255) := by intros; (try unfold ab_r); omega) (p5 : k ≤ (c + 1) → (0 ≤ ((191 + c) + 1) ∧ ((191 + c) + 1) < 255) := by intros; (try unfold ab_r); omega) (p6 : k ≤ (c + 1) → (0 ≤ (1 : Int) ∧ (1 : Int) < 255) := by intros; (try unfold ab_r); omega) (p7 : k ≤ (c + 1) → (0 ≤ (2 : Int) ∧ (2 : Int) < 255) := by intros; (try unfold ab_r); omega) (p8 : (c + 1) < k → (0 ≤ ((63 + k) - 1) ∧ ((63 + k) - 1) < 255) := by intros; (try unfold ab_r); omega) (p9 : (c + 1) < k → (0 ≤ (63 + k) ∧ (63 + k) < 255) := by intros; (try unfold ab_r); omega) (p10 : (c + 1) < k → (0 ≤ ((127 + k) - 1) ∧ ((127 + k) - 1) < 255) := by intros; (try unfold ab_r); omega) (p11 : (c + 1) < k → (0 ≤ (127 + k) ∧ (127 + k) < 255) := by intros; (try unfold ab_r); omega) (p12 : (c + 1) < k → (0 ≤ ((191 + k) - 1) ∧ ((191 + k) - 1) < 255) := by intros; (try unfold ab_r); omega) (p13 : (c + 1) < k → (0 ≤ (191 + k) ∧ (191 + k) < 255) := by intros; (try unfold ab_r); omega) : ab_R E_X3_parts P_X3_parts Q 7 [some (.inr (.inl (some 0))), some (.inl c), some (.inl fi), some (.inl k)] [] (md_cs s_ z_ g_) :=
  ab_R.steps [7] 71 (show ((ab_r k ∧ ab_r (c + 1)) ∧ ((k ≤ (c + 1) → ((0 ≤ (63 + c) ∧ (63 + c) < 255) ∧ ((0 ≤ ((63 + c) + 1) ∧ ((63 + c) + 1) < 255) ∧ ((0 ≤ (63 + c) ∧ (63 + c) < 255) ∧ ((0 ≤ ((127 + c) + 1) ∧ ((127 + c) + 1) < 255) ∧ ((0 ≤ ((191 + c) + 1) ∧ ((191 + c) + 1) < 255) ∧ ((0 ≤ (1 : Int) ∧ (1 : Int) < 255) ∧ ((0 ≤ (1 : Int) ∧ (1 : Int) < 255) ∧ ((0 ≤ (2 : Int) ∧ (2 : Int) < 255) ∧ ((0 ≤ ((63 + c) + 1) ∧ ((63 + c) + 1) < 255) ∧ ((0 ≤ (2 : Int) ∧ (2 : Int) < 255) ∧ Q none (md_cs ((ab_up (ab_up (ab_up (ab_up (ab_up (ab_up s_ ((63 + c) + 1) ((s_ (63 + c)) - fi)) (63 + c) fi) ((127 + c) + 1) 0) ((191 + c) + 1) 0) 1 (((ab_up (ab_up (ab_up (ab_up s_ ((63 + c) + 1) ((s_ (63 + c)) - fi)) (63 + c) fi) ((127 + c) + 1) 0) ((191 + c) + 1) 0) 1) + 1)) 2 (((ab_up (ab_up (ab_up (ab_up (ab_up s_ ((63 + c) + 1) ((s_ (63 + c)) - fi)) (63 + c) fi) ((127 + c) + 1) 0) ((191 + c) + 1) 0) 1 (((ab_up (ab_up (ab_up (ab_up s_ ((63 + c) + 1) ((s_ (63 + c)) - fi)) (63 + c) fi) ((127 + c) + 1) 0) ((191 + c) + 1) 0) 1) + 1)) 2) + ((ab_up (ab_up (ab_up (ab_up (ab_up s_ ((63 + c) + 1) ((s_ (63 + c)) - fi)) (63 + c) fi) ((127 + c) + 1) 0) ((191 + c) + 1) 0) 1 (((ab_up (ab_up (ab_up (ab_up s_ ((63 + c) + 1) ((s_ (63 + c)) - fi)) (63 + c) fi) ((127 + c) + 1) 0) ((191 + c) + 1) 0) 1) + 1)) ((63 + c) + 1))))) z_ g_)))))))))))) ∧ ((c + 1) < k → ((0 ≤ ((63 + k) - 1) ∧ ((63 + k) - 1) < 255) ∧ ((0 ≤ (63 + k) ∧ (63 + k) < 255) ∧ ((0 ≤ ((127 + k) - 1) ∧ ((127 + k) - 1) < 255) ∧ ((0 ≤ (127 + k) ∧ (127 + k) < 255) ∧ ((0 ≤ ((191 + k) - 1) ∧ ((191 + k) - 1) < 255) ∧ ((0 ≤ (191 + k) ∧ (191 + k) < 255) ∧ ab_R E_X3_parts P_X3_parts Q 7 [some (.inr (.inl (some 0))), some (.inl c), some (.inl fi), some (.inl (k + (-1)))] [] (md_cs ((ab_up (ab_up (ab_up s_ (63 + k) (s_ ((63 + k) - 1))) (127 + k) ((ab_up s_ (63 + k) (s_ ((63 + k) - 1))) ((127 + k) - 1))) (191 + k) ((ab_up (ab_up s_ (63 + k) (s_ ((63 + k) - 1))) (127 + k) ((ab_up s_ (63 + k) (s_ ((63 + k) - 1))) ((127 + k) - 1))) ((191 + k) - 1)))) z_ g_)))))))))) from ⟨p1, ⟨fun h1 => ⟨(p2 h1), ⟨(p3 h1), ⟨(p2 h1), ⟨(p4 h1), ⟨(p5 h1), ⟨(p6 h1), ⟨(p6 h1), ⟨(p7 h1), ⟨(p3 h1), ⟨(p7 h1), (l1 h1)⟩⟩⟩⟩⟩⟩⟩⟩⟩⟩, fun h2 => ⟨(p8 h2), ⟨(p9 h2), ⟨(p10 h2), ⟨(p11 h2), ⟨(p12 h2), ⟨(p13 h2), (l2 h2)⟩⟩⟩⟩⟩⟩⟩⟩)
-- ===== RootChunksModel.closes
def P_X3_closes : List ab_I := [(0, .iload_n 1, 1, []), (1, .istore_n 2, 2, []), (2, .iload_n 2, 3, []), (3, .aload_n 0, 4, []), (4, .getfield 7, 7, []), (7, .iconst 1, 8, []), (8, .iaload, 9, []), (9, .iconst 1, 10, []), (10, .isub, 11, []), (11, .if_icmp .ge 71, 14, [((0 : Int), 82)]), (14, .aload_n 0, 15, []), (15, .getfield 7, 18, []), (18, .bipush 63, 20, []), (20, .iload_n 2, 21, []), (21, .iadd, 22, []), (22, .aload_n 0, 23, []), (23, .getfield 7, 26, []), (26, .bipush 63, 28, []), (28, .iload_n 2, 29, []), (29, .iadd, 30, []), (30, .iconst 1, 31, []), (31, .iadd, 32, []), (32, .iaload, 33, []), (33, .iastore, 34, []), (34, .aload_n 0, 35, []), (35, .getfield 7, 38, []), (38, .bipush 127, 40, []), (40, .iload_n 2, 41, []), (41, .iadd, 42, []), (42, .aload_n 0, 43, []), (43, .getfield 7, 46, []), (46, .bipush 127, 48, []), (48, .iload_n 2, 49, []), (49, .iadd, 50, []), (50, .iconst 1, 51, []), (51, .iadd, 52, []), (52, .iaload, 53, []), (53, .iastore, 54, []), (54, .aload_n 0, 55, []), (55, .getfield 7, 58, []), (58, .sipush 191, 61, []), (61, .iload_n 2, 62, []), (62, .iadd, 63, []), (63, .aload_n 0, 64, []), (64, .getfield 7, 67, []), (67, .sipush 191, 70, []), (70, .iload_n 2, 71, []), (71, .iadd, 72, []), (72, .iconst 1, 73, []), (73, .iadd, 74, []), (74, .iaload, 75, []), (75, .iastore, 76, []), (76, .iinc 2 1, 79, []), (79, .goto (-77), 82, [((0 : Int), 2)]), (82, .aload_n 0, 83, []), (83, .getfield 7, 86, []), (86, .iconst 1, 87, []), (87, .dup2, 88, []), (88, .iaload, 89, []), (89, .iconst 1, 90, []), (90, .isub, 91, []), (91, .iastore, 92, []), (92, .aload_n 0, 93, []), (93, .getfield 7, 96, []), (96, .bipush 63, 98, []), (98, .aload_n 0, 99, []), (99, .getfield 7, 102, []), (102, .iconst 1, 103, []), (103, .iaload, 104, []), (104, .iadd, 105, []), (105, .iconst 0, 106, []), (106, .iastore, 107, []), (107, .aload_n 0, 108, []), (108, .getfield 7, 111, []), (111, .bipush 127, 113, []), (113, .aload_n 0, 114, []), (114, .getfield 7, 117, []), (117, .iconst 1, 118, []), (118, .iaload, 119, []), (119, .iadd, 120, []), (120, .iconst 0, 121, []), (121, .iastore, 122, []), (122, .aload_n 0, 123, []), (123, .getfield 7, 126, []), (126, .sipush 191, 129, []), (129, .aload_n 0, 130, []), (130, .getfield 7, 133, []), (133, .iconst 1, 134, []), (134, .iaload, 135, []), (135, .iadd, 136, []), (136, .iconst 0, 137, []), (137, .iastore, 138, []), (138, .return_, 139, [])]
def E_X3_closes : ab_E := (T_X3, [], [], 9)
def M_X3_closes : List (Nat × ab_MI) := []
def mi_X3_closes : ab_MI := (yX3_closes, cX3_closes, 3, ab_rty 9, 1, 70)
theorem pk_X3_closes : P_X3_closes.all (ab_okI cX3_closes) = true := by decide +kernel
theorem ck_X3_closes : P_X3_closes.all (ab_okC1 "RootChunksModel" M_X3_closes E_X3_closes (1, 70)) = true := by decide +kernel
set_option maxRecDepth 100000 in
theorem b_X3_closes_0 {Q : ab_Q} {c : Int} {s_ : Int → Int} {z_ : mc_T} {g_ : mg_T} (l1 : ab_R E_X3_closes P_X3_closes Q 2 [some (.inr (.inl (some 0))), some (.inl c), some (.inl c)] [] (md_cs s_ z_ g_))  : ab_R E_X3_closes P_X3_closes Q 0 [some (.inr (.inl (some 0))), some (.inl c), none] [] (md_cs s_ z_ g_) :=
  ab_R.steps [2] 4 (show ab_R E_X3_closes P_X3_closes Q 2 [some (.inr (.inl (some 0))), some (.inl c), some (.inl c)] [] (md_cs s_ z_ g_) from l1)
set_option maxRecDepth 100000 in
theorem b_X3_closes_2 {Q : ab_Q} {c : Int} {k : Int} {s_ : Int → Int} {z_ : mc_T} {g_ : mg_T} (l1 : ((s_ 1) - 1) ≤ k → Q none (md_cs ((ab_up (ab_up (ab_up (ab_up s_ 1 ((s_ 1) - 1)) (63 + ((ab_up s_ 1 ((s_ 1) - 1)) 1)) 0) (127 + ((ab_up (ab_up s_ 1 ((s_ 1) - 1)) (63 + ((ab_up s_ 1 ((s_ 1) - 1)) 1)) 0) 1)) 0) (191 + ((ab_up (ab_up (ab_up s_ 1 ((s_ 1) - 1)) (63 + ((ab_up s_ 1 ((s_ 1) - 1)) 1)) 0) (127 + ((ab_up (ab_up s_ 1 ((s_ 1) - 1)) (63 + ((ab_up s_ 1 ((s_ 1) - 1)) 1)) 0) 1)) 0) 1)) 0)) z_ g_)) (l2 : k < ((s_ 1) - 1) → ab_R E_X3_closes P_X3_closes Q 2 [some (.inr (.inl (some 0))), some (.inl c), some (.inl (k + 1))] [] (md_cs ((ab_up (ab_up (ab_up s_ (63 + k) (s_ ((63 + k) + 1))) (127 + k) ((ab_up s_ (63 + k) (s_ ((63 + k) + 1))) ((127 + k) + 1))) (191 + k) ((ab_up (ab_up s_ (63 + k) (s_ ((63 + k) + 1))) (127 + k) ((ab_up s_ (63 + k) (s_ ((63 + k) + 1))) ((127 + k) + 1))) ((191 + k) + 1)))) z_ g_)) (p1 : (0 ≤ (1 : Int) ∧ (1 : Int) < 255) := by intros; (try unfold ab_r); omega) (p2 : (ab_r k ∧ ab_r ((s_ 1) - 1)) := by intros; (try unfold ab_r); omega) (p3 : ((s_ 1) - 1) ≤ k → (0 ≤ (1 : Int) ∧ (1 : Int) < 255) := by intros; (try unfold ab_r); omega) (p4 : ((s_ 1) - 1) ≤ k → (0 ≤ (63 + ((ab_up s_ 1 ((s_ 1) - 1)) 1)) ∧ (63 + ((ab_up s_ 1 ((s_ 1) - 1)) 1)) < 255) := by intros; (try unfold ab_r); omega) (p5 : ((s_ 1) - 1) ≤ k → (0 ≤ (127 + ((ab_up (ab_up s_ 1 ((s_ 1) - 1)) (63 + ((ab_up s_ 1 ((s_ 1) - 1)) 1)) 0) 1)) ∧ (127 + ((ab_up (ab_up s_ 1 ((s_ 1) - 1)) (63 + ((ab_up s_ 1 ((s_ 1) - 1)) 1)) 0) 1)) < 255) := by intros; (try unfold ab_r); omega) (p6 : ((s_ 1) - 1) ≤ k → (0 ≤ (191 + ((ab_up (ab_up (ab_up s_ 1 ((s_ 1) - 1)) (63 + ((ab_up s_ 1 ((s_ 1) - 1)) 1)) 0) (127 + ((ab_up (ab_up s_ 1 ((s_ 1) - 1)) (63 + ((ab_up s_ 1 ((s_ 1) - 1)) 1)) 0) 1)) 0) 1)) ∧ (191 + ((ab_up (ab_up (ab_up s_ 1 ((s_ 1) - 1)) (63 + ((ab_up s_ 1 ((s_ 1) - 1)) 1)) 0) (127 + ((ab_up (ab_up s_ 1 ((s_ 1) - 1)) (63 + ((ab_up s_ 1 ((s_ 1) - 1)) 1)) 0) 1)) 0) 1)) < 255) := by intros; (try unfold ab_r); omega) (p7 : k < ((s_ 1) - 1) → (0 ≤ ((63 + k) + 1) ∧ ((63 + k) + 1) < 255) := by intros; (try unfold ab_r); omega) (p8 : k < ((s_ 1) - 1) → (0 ≤ (63 + k) ∧ (63 + k) < 255) := by intros; (try unfold ab_r); omega) (p9 : k < ((s_ 1) - 1) → (0 ≤ ((127 + k) + 1) ∧ ((127 + k) + 1) < 255) := by intros; (try unfold ab_r); omega) (p10 : k < ((s_ 1) - 1) → (0 ≤ (127 + k) ∧ (127 + k) < 255) := by intros; (try unfold ab_r); omega) (p11 : k < ((s_ 1) - 1) → (0 ≤ ((191 + k) + 1) ∧ ((191 + k) + 1) < 255) := by intros; (try unfold ab_r); omega) (p12 : k < ((s_ 1) - 1) → (0 ≤ (191 + k) ∧ (191 + k) < 255) := by intros; (try unfold ab_r); omega) : ab_R E_X3_closes P_X3_closes Q 2 [some (.inr (.inl (some 0))), some (.inl c), some (.inl k)] [] (md_cs s_ z_ g_) :=
  ab_R.steps [2] 54 (show ((0 ≤ (1 : Int) ∧ (1 : Int) < 255) ∧ ((ab_r k ∧ ab_r ((s_ 1) - 1)) ∧ ((((s_ 1) - 1) ≤ k → ((0 ≤ (1 : Int) ∧ (1 : Int) < 255) ∧ ((0 ≤ (1 : Int) ∧ (1 : Int) < 255) ∧ ((0 ≤ (1 : Int) ∧ (1 : Int) < 255) ∧ ((0 ≤ (63 + ((ab_up s_ 1 ((s_ 1) - 1)) 1)) ∧ (63 + ((ab_up s_ 1 ((s_ 1) - 1)) 1)) < 255) ∧ ((0 ≤ (1 : Int) ∧ (1 : Int) < 255) ∧ ((0 ≤ (127 + ((ab_up (ab_up s_ 1 ((s_ 1) - 1)) (63 + ((ab_up s_ 1 ((s_ 1) - 1)) 1)) 0) 1)) ∧ (127 + ((ab_up (ab_up s_ 1 ((s_ 1) - 1)) (63 + ((ab_up s_ 1 ((s_ 1) - 1)) 1)) 0) 1)) < 255) ∧ ((0 ≤ (1 : Int) ∧ (1 : Int) < 255) ∧ ((0 ≤ (191 + ((ab_up (ab_up (ab_up s_ 1 ((s_ 1) - 1)) (63 + ((ab_up s_ 1 ((s_ 1) - 1)) 1)) 0) (127 + ((ab_up (ab_up s_ 1 ((s_ 1) - 1)) (63 + ((ab_up s_ 1 ((s_ 1) - 1)) 1)) 0) 1)) 0) 1)) ∧ (191 + ((ab_up (ab_up (ab_up s_ 1 ((s_ 1) - 1)) (63 + ((ab_up s_ 1 ((s_ 1) - 1)) 1)) 0) (127 + ((ab_up (ab_up s_ 1 ((s_ 1) - 1)) (63 + ((ab_up s_ 1 ((s_ 1) - 1)) 1)) 0) 1)) 0) 1)) < 255) ∧ Q none (md_cs ((ab_up (ab_up (ab_up (ab_up s_ 1 ((s_ 1) - 1)) (63 + ((ab_up s_ 1 ((s_ 1) - 1)) 1)) 0) (127 + ((ab_up (ab_up s_ 1 ((s_ 1) - 1)) (63 + ((ab_up s_ 1 ((s_ 1) - 1)) 1)) 0) 1)) 0) (191 + ((ab_up (ab_up (ab_up s_ 1 ((s_ 1) - 1)) (63 + ((ab_up s_ 1 ((s_ 1) - 1)) 1)) 0) (127 + ((ab_up (ab_up s_ 1 ((s_ 1) - 1)) (63 + ((ab_up s_ 1 ((s_ 1) - 1)) 1)) 0) 1)) 0) 1)) 0)) z_ g_)))))))))) ∧ (k < ((s_ 1) - 1) → ((0 ≤ ((63 + k) + 1) ∧ ((63 + k) + 1) < 255) ∧ ((0 ≤ (63 + k) ∧ (63 + k) < 255) ∧ ((0 ≤ ((127 + k) + 1) ∧ ((127 + k) + 1) < 255) ∧ ((0 ≤ (127 + k) ∧ (127 + k) < 255) ∧ ((0 ≤ ((191 + k) + 1) ∧ ((191 + k) + 1) < 255) ∧ ((0 ≤ (191 + k) ∧ (191 + k) < 255) ∧ ab_R E_X3_closes P_X3_closes Q 2 [some (.inr (.inl (some 0))), some (.inl c), some (.inl (k + 1))] [] (md_cs ((ab_up (ab_up (ab_up s_ (63 + k) (s_ ((63 + k) + 1))) (127 + k) ((ab_up s_ (63 + k) (s_ ((63 + k) + 1))) ((127 + k) + 1))) (191 + k) ((ab_up (ab_up s_ (63 + k) (s_ ((63 + k) + 1))) (127 + k) ((ab_up s_ (63 + k) (s_ ((63 + k) + 1))) ((127 + k) + 1))) ((191 + k) + 1)))) z_ g_))))))))))) from ⟨p1, ⟨p2, ⟨fun h1 => ⟨(p3 h1), ⟨(p3 h1), ⟨(p3 h1), ⟨(p4 h1), ⟨(p3 h1), ⟨(p5 h1), ⟨(p3 h1), ⟨(p6 h1), (l1 h1)⟩⟩⟩⟩⟩⟩⟩⟩, fun h2 => ⟨(p7 h2), ⟨(p8 h2), ⟨(p9 h2), ⟨(p10 h2), ⟨(p11 h2), ⟨(p12 h2), (l2 h2)⟩⟩⟩⟩⟩⟩⟩⟩⟩)
-- ===== RootChunksModel.cuts
def P_X3_cuts : List ab_I := [(0, .iload_n 1, 1, []), (1, .ifCond .eq 13, 4, [((0 : Int), 14)]), (4, .iload_n 1, 5, []), (5, .aload_n 0, 6, []), (6, .getfield 7, 9, []), (9, .iconst 0, 10, []), (10, .iaload, 11, []), (11, .if_icmp .lt 4, 14, [((0 : Int), 15)]), (14, .return_, 15, []), (15, .aload_n 0, 16, []), (16, .iload_n 1, 17, []), (17, .invokevirtual 54, 20, []), (20, .istore_n 2, 21, []), (21, .aload_n 0, 22, []), (22, .iload_n 2, 23, []), (23, .invokevirtual 58, 26, []), (26, .istore_n 3, 27, []), (27, .iload_n 3, 28, []), (28, .iload_n 1, 29, []), (29, .if_icmp .ge 16, 32, [((0 : Int), 45)]), (32, .aload_n 0, 33, []), (33, .iload_n 2, 34, []), (34, .invokevirtual 64, 37, []), (37, .aload_n 0, 38, []), (38, .iload_n 2, 39, []), (39, .iload_n 1, 40, []), (40, .iload_n 3, 41, []), (41, .isub, 42, []), (42, .invokevirtual 68, 45, []), (45, .return_, 46, [])]
def E_X3_cuts : ab_E := (T_X3, [(17, (2, 3, [], 0, sp_X3_chunkAt)), (23, (2, 3, [], 0, sp_X3_startOf)), (34, (2, 3, [], 0, sp_X3_carries)), (42, (3, 3, [], 0, sp_X3_parts))], [], 9)
def M_X3_cuts : List (Nat × ab_MI) := [(17, mi_X3_chunkAt), (23, mi_X3_startOf), (34, mi_X3_carries), (42, mi_X3_parts)]
def mi_X3_cuts : ab_MI := (yX3_cuts, cX3_cuts, 4, ab_rty 9, 4, 141)
theorem pk_X3_cuts : P_X3_cuts.all (ab_okI cX3_cuts) = true := by decide +kernel
theorem ck_X3_cuts : P_X3_cuts.all (ab_okC1 "RootChunksModel" M_X3_cuts E_X3_cuts (4, 141)) = true := by decide +kernel
set_option maxRecDepth 100000 in
theorem b_X3_cuts_0 {Q : ab_Q} {p : Int} {s_ : Int → Int} {z_ : mc_T} {g_ : mg_T} (l1 : p = (0 : Int) → Q none (md_cs s_ z_ g_)) (l2 : ¬ p = (0 : Int) → p < (s_ 0) → sp_X3_chunkAt [.inr (.inl (some 0)), .inl p] (md_cs s_ z_ g_) (fun r_ k_ => ∃ (x_ : Int), r_ = some (.inl x_) ∧ k_ = (md_cs s_ z_ g_) ∧ ab_R E_X3_cuts P_X3_cuts Q 20 [some (.inr (.inl (some 0))), some (.inl p), none, none] [.inl x_] (md_cs s_ z_ g_))) (l3 : ¬ p = (0 : Int) → (s_ 0) ≤ p → Q none (md_cs s_ z_ g_)) (p1 : ab_r p := by intros; (try unfold ab_r); omega) (p2 : ¬ p = (0 : Int) → (0 ≤ (0 : Int) ∧ (0 : Int) < 255) := by intros; (try unfold ab_r); omega) (p3 : ¬ p = (0 : Int) → (ab_r p ∧ ab_r (s_ 0)) := by intros; (try unfold ab_r); omega) : ab_R E_X3_cuts P_X3_cuts Q 0 [some (.inr (.inl (some 0))), some (.inl p), none, none] [] (md_cs s_ z_ g_) :=
  ab_R.steps [20, 26, 37, 45] 12 (show (ab_r p ∧ ((p = (0 : Int) → Q none (md_cs s_ z_ g_)) ∧ (¬ p = (0 : Int) → ((0 ≤ (0 : Int) ∧ (0 : Int) < 255) ∧ ((ab_r p ∧ ab_r (s_ 0)) ∧ ((p < (s_ 0) → ab_cl sp_X3_chunkAt [.inr (.inl (some 0)), .inl p] (md_cs s_ z_ g_) (fun r_ k_ => k_.length = ((md_cs s_ z_ g_)).length → ab_R E_X3_cuts P_X3_cuts Q 20 [some (.inr (.inl (some 0))), some (.inl p), none, none] (ab_ret r_ []) k_)) ∧ ((s_ 0) ≤ p → Q none (md_cs s_ z_ g_)))))))) from ⟨p1, ⟨fun h1 => (l1 h1), fun h2 => ⟨(p2 h2), ⟨(p3 h2), ⟨fun h3 => ⟨_, (l2 h2 h3), fun r_ k_ hz _ => by obtain ⟨x_, rfl, rfl, hR⟩ := hz; exact hR⟩, fun h4 => (l3 h2 h4)⟩⟩⟩⟩⟩)
set_option maxRecDepth 100000 in
theorem b_X3_cuts_20 {Q : ab_Q} {p : Int} {t0 : Int} {s_ : Int → Int} {z_ : mc_T} {g_ : mg_T} (l1 : sp_X3_startOf [.inr (.inl (some 0)), .inl t0] (md_cs s_ z_ g_) (fun r_ k_ => ∃ (x_ : Int), r_ = some (.inl x_) ∧ k_ = (md_cs s_ z_ g_) ∧ ab_R E_X3_cuts P_X3_cuts Q 26 [some (.inr (.inl (some 0))), some (.inl p), some (.inl t0), none] [.inl x_] (md_cs s_ z_ g_)))  : ab_R E_X3_cuts P_X3_cuts Q 20 [some (.inr (.inl (some 0))), some (.inl p), none, none] [.inl t0] (md_cs s_ z_ g_) :=
  ab_R.steps [20, 26, 37, 45] 5 (show ab_cl sp_X3_startOf [.inr (.inl (some 0)), .inl t0] (md_cs s_ z_ g_) (fun r_ k_ => k_.length = ((md_cs s_ z_ g_)).length → ab_R E_X3_cuts P_X3_cuts Q 26 [some (.inr (.inl (some 0))), some (.inl p), some (.inl t0), none] (ab_ret r_ []) k_) from ⟨_, l1, fun r_ k_ hz _ => by obtain ⟨x_, rfl, rfl, hR⟩ := hz; exact hR⟩)
set_option maxRecDepth 100000 in
theorem b_X3_cuts_26 {Q : ab_Q} {p : Int} {c : Int} {t0 : Int} {s_ : Int → Int} {z_ : mc_T} {g_ : mg_T} (l1 : p ≤ t0 → ab_R E_X3_cuts P_X3_cuts Q 45 [some (.inr (.inl (some 0))), some (.inl p), some (.inl c), some (.inl t0)] [] (md_cs s_ z_ g_)) (l2 : t0 < p → sp_X3_carries [.inr (.inl (some 0)), .inl c] (md_cs s_ z_ g_) (fun r_ k_ => ∃ (s_' : Int → Int), ∃ (z_' : mc_T), ∃ (g_' : mg_T), r_ = none ∧ k_ = (md_cs (s_') z_' g_') ∧ ab_R E_X3_cuts P_X3_cuts Q 37 [some (.inr (.inl (some 0))), some (.inl p), some (.inl c), some (.inl t0)] [] (md_cs (s_') z_' g_'))) (p1 : (ab_r t0 ∧ ab_r p) := by intros; (try unfold ab_r); omega) : ab_R E_X3_cuts P_X3_cuts Q 26 [some (.inr (.inl (some 0))), some (.inl p), some (.inl c), none] [.inl t0] (md_cs s_ z_ g_) :=
  ab_R.steps [20, 26, 37, 45] 8 (show ((ab_r t0 ∧ ab_r p) ∧ ((p ≤ t0 → ab_R E_X3_cuts P_X3_cuts Q 45 [some (.inr (.inl (some 0))), some (.inl p), some (.inl c), some (.inl t0)] [] (md_cs s_ z_ g_)) ∧ (t0 < p → ab_cl sp_X3_carries [.inr (.inl (some 0)), .inl c] (md_cs s_ z_ g_) (fun r_ k_ => k_.length = ((md_cs s_ z_ g_)).length → ab_R E_X3_cuts P_X3_cuts Q 37 [some (.inr (.inl (some 0))), some (.inl p), some (.inl c), some (.inl t0)] (ab_ret r_ []) k_)))) from ⟨p1, ⟨fun h1 => (l1 h1), fun h2 => ⟨_, (l2 h2), fun r_ k_ hz _ => by obtain ⟨s_', z_', g_', rfl, rfl, hR⟩ := hz; exact hR⟩⟩⟩)
set_option maxRecDepth 100000 in
theorem b_X3_cuts_37 {Q : ab_Q} {p : Int} {c : Int} {st : Int} {s_ : Int → Int} {z_ : mc_T} {g_ : mg_T} (l1 : sp_X3_parts [.inr (.inl (some 0)), .inl c, .inl (p - st)] (md_cs s_ z_ g_) (fun r_ k_ => ∃ (s_' : Int → Int), ∃ (z_' : mc_T), ∃ (g_' : mg_T), r_ = none ∧ k_ = (md_cs (s_') z_' g_') ∧ ab_R E_X3_cuts P_X3_cuts Q 45 [some (.inr (.inl (some 0))), some (.inl p), some (.inl c), some (.inl st)] [] (md_cs (s_') z_' g_')))  : ab_R E_X3_cuts P_X3_cuts Q 37 [some (.inr (.inl (some 0))), some (.inl p), some (.inl c), some (.inl st)] [] (md_cs s_ z_ g_) :=
  ab_R.steps [20, 26, 37, 45] 7 (show ab_cl sp_X3_parts [.inr (.inl (some 0)), .inl c, .inl (p - st)] (md_cs s_ z_ g_) (fun r_ k_ => k_.length = ((md_cs s_ z_ g_)).length → ab_R E_X3_cuts P_X3_cuts Q 45 [some (.inr (.inl (some 0))), some (.inl p), some (.inl c), some (.inl st)] (ab_ret r_ []) k_) from ⟨_, l1, fun r_ k_ hz _ => by obtain ⟨s_', z_', g_', rfl, rfl, hR⟩ := hz; exact hR⟩)
set_option maxRecDepth 100000 in
theorem b_X3_cuts_45 {Q : ab_Q} {p : Int} {c : Int} {st : Int} {s_ : Int → Int} {z_ : mc_T} {g_ : mg_T} (l1 : Q none (md_cs s_ z_ g_))  : ab_R E_X3_cuts P_X3_cuts Q 45 [some (.inr (.inl (some 0))), some (.inl p), some (.inl c), some (.inl st)] [] (md_cs s_ z_ g_) :=
  ab_R.steps [20, 26, 37, 45] 2 (show Q none (md_cs s_ z_ g_) from l1)
-- ===== RootChunksModel.chunkFrom
def P_X3_chunkFrom : List ab_I := [(0, .iconst 0, 1, []), (1, .istore_n 2, 2, []), (2, .iload_n 2, 3, []), (3, .aload_n 0, 4, []), (4, .getfield 7, 7, []), (7, .iconst 1, 8, []), (8, .iaload, 9, []), (9, .if_icmp .ge 18, 12, [((0 : Int), 27)]), (12, .aload_n 0, 13, []), (13, .iload_n 2, 14, []), (14, .invokevirtual 58, 17, []), (17, .iload_n 1, 18, []), (18, .if_icmp .ge 9, 21, [((0 : Int), 27)]), (21, .iinc 2 1, 24, []), (24, .goto (-22), 27, [((0 : Int), 2)]), (27, .iload_n 2, 28, []), (28, .ireturn, 29, [])]
def E_X3_chunkFrom : ab_E := (T_X3, [(14, (2, 3, [], 0, sp_X3_startOf))], [], 0)
def M_X3_chunkFrom : List (Nat × ab_MI) := [(14, mi_X3_startOf)]
def mi_X3_chunkFrom : ab_MI := (yX3_chunkFrom, cX3_chunkFrom, 3, ab_rty 0, 2, 93)
theorem pk_X3_chunkFrom : P_X3_chunkFrom.all (ab_okI cX3_chunkFrom) = true := by decide +kernel
theorem ck_X3_chunkFrom : P_X3_chunkFrom.all (ab_okC1 "RootChunksModel" M_X3_chunkFrom E_X3_chunkFrom (2, 93)) = true := by decide +kernel
set_option maxRecDepth 100000 in
theorem b_X3_chunkFrom_0 {Q : ab_Q} {p : Int} {s_ : Int → Int} {z_ : mc_T} {g_ : mg_T} (l1 : ab_R E_X3_chunkFrom P_X3_chunkFrom Q 2 [some (.inr (.inl (some 0))), some (.inl p), some (.inl 0)] [] (md_cs s_ z_ g_))  : ab_R E_X3_chunkFrom P_X3_chunkFrom Q 0 [some (.inr (.inl (some 0))), some (.inl p), none] [] (md_cs s_ z_ g_) :=
  ab_R.steps [2, 17] 4 (show ab_R E_X3_chunkFrom P_X3_chunkFrom Q 2 [some (.inr (.inl (some 0))), some (.inl p), some (.inl 0)] [] (md_cs s_ z_ g_) from l1)
set_option maxRecDepth 100000 in
theorem b_X3_chunkFrom_2 {Q : ab_Q} {p : Int} {c : Int} {s_ : Int → Int} {z_ : mc_T} {g_ : mg_T} (l1 : (s_ 1) ≤ c → Q (some (.inl c)) (md_cs s_ z_ g_)) (l2 : c < (s_ 1) → sp_X3_startOf [.inr (.inl (some 0)), .inl c] (md_cs s_ z_ g_) (fun r_ k_ => ∃ (x_ : Int), r_ = some (.inl x_) ∧ k_ = (md_cs s_ z_ g_) ∧ ab_R E_X3_chunkFrom P_X3_chunkFrom Q 17 [some (.inr (.inl (some 0))), some (.inl p), some (.inl c)] [.inl x_] (md_cs s_ z_ g_))) (p1 : (0 ≤ (1 : Int) ∧ (1 : Int) < 255) := by intros; (try unfold ab_r); omega) (p2 : (ab_r c ∧ ab_r (s_ 1)) := by intros; (try unfold ab_r); omega) : ab_R E_X3_chunkFrom P_X3_chunkFrom Q 2 [some (.inr (.inl (some 0))), some (.inl p), some (.inl c)] [] (md_cs s_ z_ g_) :=
  ab_R.steps [2, 17] 10 (show ((0 ≤ (1 : Int) ∧ (1 : Int) < 255) ∧ ((ab_r c ∧ ab_r (s_ 1)) ∧ (((s_ 1) ≤ c → Q (some (.inl c)) (md_cs s_ z_ g_)) ∧ (c < (s_ 1) → ab_cl sp_X3_startOf [.inr (.inl (some 0)), .inl c] (md_cs s_ z_ g_) (fun r_ k_ => k_.length = ((md_cs s_ z_ g_)).length → ab_R E_X3_chunkFrom P_X3_chunkFrom Q 17 [some (.inr (.inl (some 0))), some (.inl p), some (.inl c)] (ab_ret r_ []) k_))))) from ⟨p1, ⟨p2, ⟨fun h1 => (l1 h1), fun h2 => ⟨_, (l2 h2), fun r_ k_ hz _ => by obtain ⟨x_, rfl, rfl, hR⟩ := hz; exact hR⟩⟩⟩⟩)
set_option maxRecDepth 100000 in
theorem b_X3_chunkFrom_17 {Q : ab_Q} {p : Int} {c : Int} {t0 : Int} {s_ : Int → Int} {z_ : mc_T} {g_ : mg_T} (l1 : p ≤ t0 → Q (some (.inl c)) (md_cs s_ z_ g_)) (l2 : t0 < p → ab_R E_X3_chunkFrom P_X3_chunkFrom Q 2 [some (.inr (.inl (some 0))), some (.inl p), some (.inl (c + 1))] [] (md_cs s_ z_ g_)) (p1 : (ab_r t0 ∧ ab_r p) := by intros; (try unfold ab_r); omega) : ab_R E_X3_chunkFrom P_X3_chunkFrom Q 17 [some (.inr (.inl (some 0))), some (.inl p), some (.inl c)] [.inl t0] (md_cs s_ z_ g_) :=
  ab_R.steps [2, 17] 6 (show ((ab_r t0 ∧ ab_r p) ∧ ((p ≤ t0 → Q (some (.inl c)) (md_cs s_ z_ g_)) ∧ (t0 < p → ab_R E_X3_chunkFrom P_X3_chunkFrom Q 2 [some (.inr (.inl (some 0))), some (.inl p), some (.inl (c + 1))] [] (md_cs s_ z_ g_)))) from ⟨p1, ⟨fun h1 => (l1 h1), fun h2 => (l2 h2)⟩⟩)
-- ===== RootChunksModel.root
def P_X3_root : List ab_I := [(0, .iconst 1, 1, []), (1, .istore_n 1, 2, []), (2, .iload_n 1, 3, []), (3, .iconst 1, 4, []), (4, .iadd, 5, []), (5, .iload_n 1, 6, []), (6, .iconst 1, 7, []), (7, .iadd, 8, []), (8, .imul, 9, []), (9, .aload_n 0, 10, []), (10, .getfield 7, 13, []), (13, .iconst 0, 14, []), (14, .iaload, 15, []), (15, .if_icmp .gt 9, 18, [((0 : Int), 24)]), (18, .iinc 1 1, 21, []), (21, .goto (-19), 24, [((0 : Int), 2)]), (24, .iload_n 1, 25, []), (25, .ireturn, 26, [])]
def E_X3_root : ab_E := (T_X3, [], [], 0)
def M_X3_root : List (Nat × ab_MI) := []
def mi_X3_root : ab_MI := (yX3_root, cX3_root, 2, ab_rty 0, 1, 70)
theorem pk_X3_root : P_X3_root.all (ab_okI cX3_root) = true := by decide +kernel
theorem ck_X3_root : P_X3_root.all (ab_okC1 "RootChunksModel" M_X3_root E_X3_root (1, 70)) = true := by decide +kernel
set_option maxRecDepth 100000 in
theorem b_X3_root_0 {Q : ab_Q} {s_ : Int → Int} {z_ : mc_T} {g_ : mg_T} (l1 : ab_R E_X3_root P_X3_root Q 2 [some (.inr (.inl (some 0))), some (.inl 1)] [] (md_cs s_ z_ g_))  : ab_R E_X3_root P_X3_root Q 0 [some (.inr (.inl (some 0))), none] [] (md_cs s_ z_ g_) :=
  ab_R.steps [2] 4 (show ab_R E_X3_root P_X3_root Q 2 [some (.inr (.inl (some 0))), some (.inl 1)] [] (md_cs s_ z_ g_) from l1)
set_option maxRecDepth 100000 in
theorem b_X3_root_2 {Q : ab_Q} {rt : Int} {s_ : Int → Int} {z_ : mc_T} {g_ : mg_T} (l1 : (s_ 0) < ((rt + 1) * (rt + 1)) → Q (some (.inl rt)) (md_cs s_ z_ g_)) (l2 : ((rt + 1) * (rt + 1)) ≤ (s_ 0) → ab_R E_X3_root P_X3_root Q 2 [some (.inr (.inl (some 0))), some (.inl (rt + 1))] [] (md_cs s_ z_ g_)) (p1 : (0 ≤ (0 : Int) ∧ (0 : Int) < 255) := by intros; (try unfold ab_r); omega) (p2 : (ab_r ((rt + 1) * (rt + 1)) ∧ ab_r (s_ 0)) := by intros; (try unfold ab_r); omega) : ab_R E_X3_root P_X3_root Q 2 [some (.inr (.inl (some 0))), some (.inl rt)] [] (md_cs s_ z_ g_) :=
  ab_R.steps [2] 16 (show ((0 ≤ (0 : Int) ∧ (0 : Int) < 255) ∧ ((ab_r ((rt + 1) * (rt + 1)) ∧ ab_r (s_ 0)) ∧ (((s_ 0) < ((rt + 1) * (rt + 1)) → Q (some (.inl rt)) (md_cs s_ z_ g_)) ∧ (((rt + 1) * (rt + 1)) ≤ (s_ 0) → ab_R E_X3_root P_X3_root Q 2 [some (.inr (.inl (some 0))), some (.inl (rt + 1))] [] (md_cs s_ z_ g_))))) from ⟨p1, ⟨p2, ⟨fun h1 => (l1 h1), fun h2 => (l2 h2)⟩⟩⟩)
theorem vc_X3_startOf {av : List ab_V} {cs : List ab_C} {Q : ab_Q} (h : sp_X3_startOf av cs Q) : (ab_lv0 av).length ≤ 4 ∧ ab_R E_X3_startOf P_X3_startOf Q 0 (ab_ent av 4) [] cs := by
  obtain ⟨s, z, g, q, c, k, rfl, rfl, hR, hW, hk, hc, hQ⟩ := h
  refine ⟨Nat.le_of_ble_eq_true rfl, ?_⟩
  have hcl := hW.chunks
  have loop : ∀ (d i : Nat) (x st : Int), d + i = c → x = i → st = (mq_flat (q.take i)).length → ab_R E_X3_startOf P_X3_startOf Q 4 [some (.inr (.inl (some 0))), some (.inl k), some (.inl st), some (.inl x)] [] (md_cs s z g) := by
    intro d
    induction d with
    | zero =>
      intro i x st h1 h2 h3
      have e : i = c := by omega
      subst e
      subst h3
      exact b_X3_startOf_4 (fun _ => hQ) (fun _ => by omega)
    | succ d ih =>
      intro i x st h1 h2 h3
      obtain ⟨kk, hkk, -⟩ := mq_split (q := q) (c := i) (by omega)
      have e1 : s (63 + (i : Int)) = _ := hR.len hkk
      have e2 := mq_take_succ hkk
      rw [← h2] at e1
      exact b_X3_startOf_4 (fun _ => by omega) (fun _ => ih (i + 1) _ _ (by omega) (by omega) (by omega))
  exact b_X3_startOf_0 (loop c 0 0 0 (by omega) rfl rfl)
theorem mt_X3_startOf (l : Launch) : ab_MT l mi_X3_startOf sp_X3_startOf := ab_MT.of (own := "RootChunksModel") (E := E_X3_startOf) (P := P_X3_startOf) (M := M_X3_startOf) (nL := 4) (ty := 0) (by decide) rfl rfl tk_X3 pk_X3_startOf ck_X3_startOf ab_CT'.nil (fun av cs Q h => vc_X3_startOf h)
theorem vc_X3_chunkAt {av : List ab_V} {cs : List ab_C} {Q : ab_Q} (h : sp_X3_chunkAt av cs Q) : (ab_lv0 av).length ≤ 4 ∧ ab_R E_X3_chunkAt P_X3_chunkAt Q 0 (ab_ent av 4) [] cs := by
  obtain ⟨s, z, g, A, k, B, p, rfl, rfl, hR, hW, hp1, hp2, hQ⟩ := h
  refine ⟨Nat.le_of_ble_eq_true rfl, ?_⟩
  have hcl := hW.chunks
  have hfl := hW.2
  rw [List.length_append, List.length_cons] at hcl
  have hA : (mq_flat A).length + k.1.length ≤ 60 := by
    rw [mq_flat_app, mq_flat_cons, List.length_append, List.length_append] at hfl
    omega
  have loop : ∀ (d i : Nat) (x en : Int), d + i = A.length → x = i → en = (mq_flat ((A ++ k :: B).take (i + 1))).length → ab_R E_X3_chunkAt P_X3_chunkAt Q 10 [some (.inr (.inl (some 0))), some (.inl p), some (.inl x), some (.inl en)] [] (md_cs s z g) := by
    intro d
    induction d with
    | zero =>
      intro i x en h1 h2 h3
      have e : i = A.length := by omega
      subst e
      rw [mq_take_succ (mq_at_app A k B), mq_take_app] at h3
      refine b_X3_chunkAt_10 (fun _ => ?_) (fun _ => by omega)
      rw [h2]
      exact hQ
    | succ d ih =>
      intro i x en h1 h2 h3
      have e3 : (mq_flat ((A ++ k :: B).take (i + 1))).length ≤ (mq_flat A).length := by
        rw [List.take_append_of_le_length (by omega)]
        exact mq_take_le A (i + 1)
      obtain ⟨kk, hkk, -⟩ := mq_split (q := A ++ k :: B) (c := i + 1) (by rw [List.length_append]; simp; omega)
      have e1 : s (63 + ((i + 1 : Nat) : Int)) = _ := hR.len hkk
      have e2 := mq_take_succ hkk
      rw [show (((i + 1 : Nat)) : Int) = x + 1 by omega] at e1
      exact b_X3_chunkAt_10 (fun _ => by omega) (fun _ => ih (i + 1) _ _ (by omega) (by omega) (by omega))
  refine b_X3_chunkAt_0 (loop A.length 0 0 _ (by omega) rfl ?_)
  obtain ⟨kk, hkk, -⟩ := mq_split (q := A ++ k :: B) (c := 0) (by simp; omega)
  have e1 : s (63 + ((0 : Nat) : Int)) = _ := hR.len hkk
  have e2 := mq_take_succ hkk
  rw [show (63 : Int) + ((0 : Nat) : Int) = 63 by omega] at e1
  simp [mq_flat] at e2
  simp [mq_flat]
  omega
theorem mt_X3_chunkAt (l : Launch) : ab_MT l mi_X3_chunkAt sp_X3_chunkAt := ab_MT.of (own := "RootChunksModel") (E := E_X3_chunkAt) (P := P_X3_chunkAt) (M := M_X3_chunkAt) (nL := 4) (ty := 0) (by decide) rfl rfl tk_X3 pk_X3_chunkAt ck_X3_chunkAt ab_CT'.nil (fun av cs Q h => vc_X3_chunkAt h)
theorem vc_X3_valueAt {av : List ab_V} {cs : List ab_C} {Q : ab_Q} (h : sp_X3_valueAt av cs Q) : (ab_lv0 av).length ≤ 5 ∧ ab_R E_X3_valueAt P_X3_valueAt Q 0 (ab_ent av 5) [] cs := by
  obtain ⟨s, z, g, q, p, i, x, rfl, rfl, hR, hW, hp, hx, hQ⟩ := h
  refine ⟨Nat.le_of_ble_eq_true rfl, ?_⟩
  have hil := (List.getElem?_eq_some_iff.mp hx).1
  rw [mq_all_len] at hil
  obtain ⟨A, k, B, rfl, h1, h2⟩ := mq_hold hil
  have hcl := hW.chunks
  have hfl := hW.2
  rw [List.length_append, List.length_cons] at hcl
  have hA : (mq_flat A).length + k.1.length ≤ 60 := by
    rw [mq_flat_app, mq_flat_cons, List.length_append, List.length_append] at hfl
    omega
  have hrow : (mq_row k)[i - (mq_flat A).length]? = some x := by
    rw [mq_all_app, mq_all_cons, List.getElem?_append_right (by rw [mq_all_len]; exact h1), mq_all_len] at hx
    rwa [List.getElem?_append_left (by rw [mq_row_len]; omega)] at hx
  obtain ⟨y, hy, rfl⟩ := mq_row_at hrow
  have e1 : s (63 + (A.length : Int)) = _ := hR.len (mq_at_app A k B)
  have e2 : s (127 + (A.length : Int)) = _ := hR.turn (mq_at_app A k B)
  have e3 : s (191 + (A.length : Int)) = _ := hR.sum (mq_at_app A k B)
  have e4 : s (3 + (((mq_flat A).length + _ : Nat) : Int)) = _ := hR.kept hy
  have ht := (hW.1 k (by simp)).2.1
  refine b_X3_valueAt_0 ⟨_, _, _, A, k, B, p, rfl, rfl, hR, hW, by omega, by omega, _, rfl, rfl, ?_⟩
  refine b_X3_valueAt_5 ⟨_, _, _, A ++ k :: B, A.length, _, rfl, rfl, hR, hW, rfl, by rw [List.length_append]; omega, _, rfl, rfl, ?_⟩
  rw [mq_take_app]
  refine b_X3_valueAt_11 (fun ht => ?_) (fun ht => ?_) (p2 := ?_)
  · rw [if_neg (by rw [← e2]; exact ht)] at e4
    rw [show (((mq_flat A).length + (i - (mq_flat A).length) : Nat) : Int) = p by omega] at e4
    rw [e4, e3]
    exact hQ
  · rw [if_pos (by rw [← e2]; exact ht)] at e4
    rw [show 3 + (((mq_flat A).length + (k.1.length - 1 - (i - (mq_flat A).length)) : Nat) : Int) = 3 + (2 * ((mq_flat A).length : Int) + s (63 + (A.length : Int)) - 1 - p) by omega] at e4
    rw [e4, e3]
    exact hQ
  · unfold ab_r
    omega
theorem mt_X3_valueAt (l : Launch) : ab_MT l mi_X3_valueAt sp_X3_valueAt := ab_MT.of (own := "RootChunksModel") (E := E_X3_valueAt) (P := P_X3_valueAt) (M := M_X3_valueAt) (nL := 5) (ty := 0) (by decide) rfl rfl tk_X3 pk_X3_valueAt ck_X3_valueAt (ab_CT'.cons (mt_X3_chunkAt l) (ab_CT'.cons (mt_X3_startOf l) ab_CT'.nil)) (fun av cs Q h => vc_X3_valueAt h)
theorem vc_X3_carries {av : List ab_V} {cs : List ab_C} {Q : ab_Q} (h : sp_X3_carries av cs Q) : (ab_lv0 av).length ≤ 5 ∧ ab_R E_X3_carries P_X3_carries Q 0 (ab_ent av 5) [] cs := by
  obtain ⟨s, ⟨od, nk, nl, nt, ns⟩, g, A, k, B, c, rfl, rfl, hR, hW, hc, hQ⟩ := h
  refine ⟨Nat.le_of_ble_eq_true rfl, ?_⟩
  have hcl := hW.chunks
  have hfl := hW.2
  rw [List.length_append, List.length_cons] at hcl
  have hA : (mq_flat A).length + k.1.length ≤ 60 := by
    rw [mq_flat_app, mq_flat_cons, List.length_append, List.length_append] at hfl
    omega
  have e1 : s (63 + (A.length : Int)) = _ := hR.len (mq_at_app A k B)
  have e2 : s (127 + (A.length : Int)) = _ := hR.turn (mq_at_app A k B)
  have e3 : s (191 + (A.length : Int)) = _ := hR.sum (mq_at_app A k B)
  rw [← hc] at e1 e2 e3
  have hok := hW.1 k (by simp)
  have ht := hok.2.1
  have hsb := hok.sum
  have main : ¬ (k.2.1 = 0 ∧ k.2.2 = 0) → sp_X3_startOf [.inr (.inl (some 0)), .inl c] (md_cs s (od, nk, nl, nt, ns) g) (fun r_ k_ => ∃ (x_ : Int), r_ = some (.inl x_) ∧ k_ = (md_cs s (od, nk, nl, nt, ns) g) ∧ ab_R E_X3_carries P_X3_carries Q 31 [some (.inr (.inl (some 0))), some (.inl c), none, none, none] [.inl x_] (md_cs s (od, nk, nl, nt, ns) g)) := by
    intro hwt
    refine ⟨_, _, _, _, A.length, _, rfl, rfl, hR, hW, hc, by simp, _, rfl, rfl, ?_⟩
    rw [mq_take_app]
    generalize hst : ((mq_flat A).length : Int) = st
    have second : ∀ (nk' : Int → Int), (∀ (j : Nat) (x : Int), (mq_row k)[j]? = some x → nk' j = x) → ∀ (m : Nat) (i : Int) (s' : Int → Int), (k.1.length : Int) - i = m → 0 ≤ i → (∀ j : Int, s' j = if 3 + st ≤ j ∧ j < 3 + st + i then nk' (j - (3 + st)) else s j) →
        ab_R E_X3_carries P_X3_carries Q 75 [some (.inr (.inl (some 0))), some (.inl c), some (.inl st), some (.inl (s (63 + c))), some (.inl i)] [] (md_cs s' (od, nk', nl, nt, ns) g) := by
      intro nk' hnk m
      induction m with
      | zero =>
        intro i s' g1 g2 g3
        refine b_X3_carries_75 (fun _ => ?_) (fun _ => by omega)
        refine hQ _ _ ?_ ?_
        · have h0 := mq_R_settle (K' := fun j => s' (3 + j)) (w' := 0) hR (fun j hj => ?_) (fun j hj => ?_) (fun j x hj => ?_)
          · rw [← hc] at h0
            refine mq_R_ext h0 (mq_W_settle hW) (fun j j1 j2 => ?_) (fun j j1 j2 => ?_) (fun j j1 j2 => ?_) (fun j j1 j2 => ?_) ?_ ?_
            · show ab_up _ _ _ (3 + j) = s' (3 + j)
              unfold ab_up
              rw [if_neg (by omega), if_neg (by omega), if_neg (by omega)]
            · simp only [List.length_append, List.length_cons] at j2
              show ab_up _ _ _ (63 + j) = s (63 + j)
              unfold ab_up
              rw [if_neg (by omega), if_neg (by omega), if_neg (by omega), g3, if_neg (by omega)]
            · simp only [List.length_append, List.length_cons] at j2
              show ab_up _ _ _ (127 + j) = ab_up (fun c => s (127 + c)) c 0 j
              unfold ab_up
              rw [if_neg (by omega), if_neg (by omega)]
              by_cases y : j = c
              · rw [if_pos (by omega), if_pos y]
              · rw [if_neg (by omega), if_neg y, g3, if_neg (by omega)]
            · simp only [List.length_append, List.length_cons] at j2
              show ab_up _ _ _ (191 + j) = ab_up (fun c => s (191 + c)) c 0 j
              unfold ab_up
              rw [if_neg (by omega)]
              by_cases y : j = c
              · rw [if_pos (by omega), if_pos y]
              · rw [if_neg (by omega), if_neg (by omega), if_neg y, g3, if_neg (by omega)]
            · show ab_up _ _ _ 0 = s 0
              repeat rw [ab_up_ne (by omega)]
              rw [g3, if_neg (by omega)]
            · show ab_up _ _ _ 1 = s 1
              repeat rw [ab_up_ne (by omega)]
              rw [g3, if_neg (by omega)]
          · show s' (3 + j) = s (3 + j)
            rw [g3, if_neg (by omega)]
          · show s' (3 + j) = s (3 + j)
            rw [g3, if_neg (by omega)]
          · have hjl := (List.getElem?_eq_some_iff.mp hj).1
            rw [mq_row_len] at hjl
            show s' (3 + (((mq_flat A).length : Int) + j)) = x
            rw [g3, if_pos (by omega), show 3 + (((mq_flat A).length : Int) + j) - (3 + st) = j by omega]
            exact hnk j x hj
        · unfold ab_up
          rw [if_pos rfl, if_neg (by omega), if_neg (by omega), g3, if_neg (by omega), e1]
          unfold mq_cost
          rw [if_neg hwt]
      | succ m ih =>
        intro i s' g1 g2 g3
        refine b_X3_carries_75 (fun _ => by omega) (fun _ => ih (i + 1) _ (by omega) (by omega) (fun j => ?_))
        unfold ab_up
        by_cases y : j = 3 + st + i
        · rw [if_pos y, if_pos (by omega), show j - (3 + st) = i by omega]
        · rw [if_neg y, g3]
          by_cases y2 : 3 + st ≤ j ∧ j < 3 + st + i
          · rw [if_pos y2, if_pos (by omega)]
          · rw [if_neg y2, if_neg (by omega)]
    have first : ∀ (m : Nat) (i : Int) (nk' : Int → Int), (k.1.length : Int) - i = m → 0 ≤ i → (∀ (j : Nat) (x : Int), (j : Int) < i → (mq_row k)[j]? = some x → nk' j = x) →
        ab_R E_X3_carries P_X3_carries Q 45 [some (.inr (.inl (some 0))), some (.inl c), some (.inl st), some (.inl (s (63 + c))), some (.inl i)] [] (md_cs s (od, nk', nl, nt, ns) g) := by
      intro m
      induction m with
      | zero =>
        intro i nk' g1 g2 g3
        refine b_X3_carries_45 (fun _ => second nk' (fun j x hj => g3 j x ?_ hj) k.1.length 0 s (by omega) (by omega) (fun j => by rw [if_neg (by omega)])) (fun _ => by omega)
        have hjl := (List.getElem?_eq_some_iff.mp hj).1
        rw [mq_row_len] at hjl
        omega
      | succ m ih =>
        intro i nk' g1 g2 g3
        have hj : i.toNat < (mq_row k).length := by rw [mq_row_len]; omega
        have hx : (mq_row k)[i.toNat]? = some (mq_row k)[i.toNat] := List.getElem?_eq_getElem hj
        refine b_X3_carries_45 (fun _ => by omega) (fun _ => ⟨_, _, _, A ++ k :: B, _, (mq_flat A).length + i.toNat, (mq_row k)[i.toNat], rfl, rfl, hR, hW, by omega, ?_, _, rfl, rfl, ?_⟩)
        · rw [mq_all_app, mq_all_cons, List.getElem?_append_right (by rw [mq_all_len]; omega), mq_all_len, show (mq_flat A).length + i.toNat - (mq_flat A).length = i.toNat by omega, List.getElem?_append_left hj]
          exact hx
        · refine b_X3_carries_65 (ih (i + 1) _ (by omega) (by omega) (fun j x j1 j2 => ?_))
          unfold ab_up
          by_cases y : (j : Int) = i
          · rw [if_pos y]
            have : j = i.toNat := by omega
            subst this
            rw [hx] at j2
            exact Option.some.inj j2
          · rw [if_neg y]
            exact g3 j x (by omega) j2
    exact b_X3_carries_31 (first k.1.length 0 nk (by omega) (by omega) (fun j x j1 _ => by omega))
  refine b_X3_carries_0 (fun h1 => main (by omega)) (fun h1 h2 => main (by omega)) (fun h1 h2 => ?_)
  obtain ⟨c1, c2, c3⟩ := mq_cost_0 (k := k) (by omega) (by omega)
  refine hQ _ _ (by rw [← c3]; exact hR) ?_
  rw [c2]
  omega
theorem mt_X3_carries (l : Launch) : ab_MT l mi_X3_carries sp_X3_carries := ab_MT.of (own := "RootChunksModel") (E := E_X3_carries) (P := P_X3_carries) (M := M_X3_carries) (nL := 5) (ty := 9) (by decide) rfl rfl tk_X3 pk_X3_carries ck_X3_carries (ab_CT'.cons (mt_X3_startOf l) (ab_CT'.cons (mt_X3_valueAt l) ab_CT'.nil)) (fun av cs Q h => vc_X3_carries h)
theorem vc_X3_parts {av : List ab_V} {cs : List ab_C} {Q : ab_Q} (h : sp_X3_parts av cs Q) : (ab_lv0 av).length ≤ 4 ∧ ab_R E_X3_parts P_X3_parts Q 0 (ab_ent av 4) [] cs := by
  obtain ⟨s, z, g, A, l, B, f, c, x, rfl, rfl, hR, hW, hc, hx, h0, h1, hQ⟩ := h
  refine ⟨Nat.le_of_ble_eq_true rfl, ?_⟩
  have W2 := mq_W_part hW h0 h1
  have hcl := W2.chunks
  rw [List.length_append, List.length_cons, List.length_cons] at hcl
  have hn : s 1 = ((A ++ (l, 0, 0) :: B).length : Nat) := hR.2.2.2.2.2
  rw [List.length_append, List.length_cons] at hn
  have e1 : s (63 + (A.length : Int)) = _ := hR.len (mq_at_app A (l, 0, 0) B)
  dsimp only at e1
  rw [← hc] at e1
  have loop : ∀ (m : Nat) (k : Int) (s' : Int → Int), k - (c + 1) = m → k ≤ s 1 → (∀ j : Int, s' j = if (63 + k < j ∧ j ≤ 63 + s 1) ∨ (127 + k < j ∧ j ≤ 127 + s 1) ∨ (191 + k < j ∧ j ≤ 191 + s 1) then s (j - 1) else s j) →
      ab_R E_X3_parts P_X3_parts Q 7 [some (.inr (.inl (some 0))), some (.inl c), some (.inl x), some (.inl k)] [] (md_cs s' z g) := by
    intro m
    induction m with
    | zero =>
      intro k s' g1 g2 g3
      have ek : k = c + 1 := by omega
      subst ek
      refine b_X3_parts_7 (fun _ => ?_) (fun _ => by omega)
      have o : ∀ j : Int, (j < 63 ∨ j = 63 + c) → s' j = s j := fun j hj => by rw [g3, if_neg (by omega)]
      have hr := mq_R_part (w' := 0) hR (f := f) (by omega)
      rw [← hc, ← hx] at hr
      refine hQ _ (mq_R_ext hr W2 (fun j j1 j2 => ?_) (fun j j1 j2 => ?_) (fun j j1 j2 => ?_) (fun j j1 j2 => ?_) ?_ ?_) ?_
      · show ab_up _ _ _ (3 + j) = s (3 + j)
        rw [ab_up_ne (by omega), ab_up_ne (by omega), ab_up_ne (by omega), ab_up_ne (by omega), ab_up_ne (by omega), ab_up_ne (by omega), o _ (by omega)]
      · simp only [List.length_append, List.length_cons] at j2
        show ab_up _ _ _ (63 + j) = mq_ins (ab_up (fun c => s (63 + c)) c x) (s 1) (c + 1) ((l.length : Int) - x) j
        rw [ab_up_ne (by omega), ab_up_ne (by omega), ab_up_ne (by omega), ab_up_ne (by omega)]
        unfold mq_ins
        by_cases y : j = c + 1
        · rw [ab_up_ne (by omega), ab_up_eq (by omega), if_pos y, o (63 + c) (by omega), e1]
        · rw [if_neg y]
          by_cases y2 : j = c
          · rw [ab_up_eq (by omega), if_neg (by omega), ab_up_eq y2]
          · rw [ab_up_ne (by omega), ab_up_ne (by omega), g3]
            by_cases y3 : c + 1 < j ∧ j ≤ s 1
            · rw [if_pos y3, if_pos (by omega), ab_up_ne (by omega)]
              show s (63 + j - 1) = s (63 + (j - 1))
              congr 1; omega
            · rw [if_neg y3, if_neg (by omega), ab_up_ne (by omega)]
      · simp only [List.length_append, List.length_cons] at j2
        show ab_up _ _ _ (127 + j) = mq_ins (fun c => s (127 + c)) (s 1) (c + 1) 0 j
        rw [ab_up_ne (by omega), ab_up_ne (by omega), ab_up_ne (by omega)]
        unfold mq_ins
        by_cases y : j = c + 1
        · rw [ab_up_eq (by omega), if_pos y]
        · rw [ab_up_ne (by omega), ab_up_ne (by omega), ab_up_ne (by omega), if_neg y, g3]
          by_cases y3 : c + 1 < j ∧ j ≤ s 1
          · rw [if_pos y3, if_pos (by omega)]
            show s (127 + j - 1) = s (127 + (j - 1))
            congr 1; omega
          · rw [if_neg y3, if_neg (by omega)]
      · simp only [List.length_append, List.length_cons] at j2
        show ab_up _ _ _ (191 + j) = mq_ins (fun c => s (191 + c)) (s 1) (c + 1) 0 j
        rw [ab_up_ne (by omega), ab_up_ne (by omega)]
        unfold mq_ins
        by_cases y : j = c + 1
        · rw [ab_up_eq (by omega), if_pos y]
        · rw [ab_up_ne (by omega), ab_up_ne (by omega), ab_up_ne (by omega), ab_up_ne (by omega), if_neg y, g3]
          by_cases y3 : c + 1 < j ∧ j ≤ s 1
          · rw [if_pos y3, if_pos (by omega)]
            show s (191 + j - 1) = s (191 + (j - 1))
            congr 1; omega
          · rw [if_neg y3, if_neg (by omega)]
      · show ab_up _ _ _ 0 = s 0
        repeat rw [ab_up_ne (by omega)]
        exact o _ (by omega)
      · show ab_up _ _ _ 1 + 1 = s 1 + 1
        repeat rw [ab_up_ne (by omega)]
        rw [o _ (by omega)]
      · rw [ab_up_eq rfl]
        rw [ab_up_ne (show (2 : Int) ≠ 1 by omega), ab_up_ne (show (2 : Int) ≠ 191 + c + 1 by omega), ab_up_ne (show (2 : Int) ≠ 127 + c + 1 by omega), ab_up_ne (show (2 : Int) ≠ 63 + c by omega), ab_up_ne (show (2 : Int) ≠ 63 + c + 1 by omega), o 2 (by omega)]
        rw [ab_up_ne (show (63 : Int) + c + 1 ≠ 1 by omega), ab_up_ne (show (63 : Int) + c + 1 ≠ 191 + c + 1 by omega), ab_up_ne (show (63 : Int) + c + 1 ≠ 127 + c + 1 by omega), ab_up_ne (show (63 : Int) + c + 1 ≠ 63 + c by omega), ab_up_eq rfl, o (63 + c) (by omega), e1]
        omega
    | succ m ih =>
      intro k s' g1 g2 g3
      refine b_X3_parts_7 (fun _ => by omega) (fun _ => ih _ _ (by omega) (by omega) (fun j => ?_))
      have o : ∀ j : Int, (j = 63 + k - 1 ∨ j = 127 + k - 1 ∨ j = 191 + k - 1) → s' j = s j := fun j hj => by rw [g3, if_neg (by omega)]
      rw [ab_up_ne (show 127 + k - 1 ≠ 63 + k by omega), ab_up_ne (show 191 + k - 1 ≠ 127 + k by omega), ab_up_ne (show 191 + k - 1 ≠ 63 + k by omega), o (63 + k - 1) (by omega), o (127 + k - 1) (by omega), o (191 + k - 1) (by omega)]
      by_cases y1 : j = 191 + k
      · rw [ab_up_eq y1, if_pos (by omega), y1]
      · rw [ab_up_ne y1]
        by_cases y2 : j = 127 + k
        · rw [ab_up_eq y2, if_pos (by omega), y2]
        · rw [ab_up_ne y2]
          by_cases y3 : j = 63 + k
          · rw [ab_up_eq y3, if_pos (by omega), y3]
          · rw [ab_up_ne y3, g3]
            by_cases y4 : (63 + k < j ∧ j ≤ 63 + s 1) ∨ (127 + k < j ∧ j ≤ 127 + s 1) ∨ (191 + k < j ∧ j ≤ 191 + s 1)
            · rw [if_pos y4, if_pos (by omega)]
            · rw [if_neg y4, if_neg (by omega)]
  exact b_X3_parts_0 (loop B.length (s 1) s (by omega) (by omega) (fun j => by rw [if_neg (by omega)]))
theorem mt_X3_parts (l : Launch) : ab_MT l mi_X3_parts sp_X3_parts := ab_MT.of (own := "RootChunksModel") (E := E_X3_parts) (P := P_X3_parts) (M := M_X3_parts) (nL := 4) (ty := 9) (by decide) rfl rfl tk_X3 pk_X3_parts ck_X3_parts ab_CT'.nil (fun av cs Q h => vc_X3_parts h)
theorem vc_X3_closes {av : List ab_V} {cs : List ab_C} {Q : ab_Q} (h : sp_X3_closes av cs Q) : (ab_lv0 av).length ≤ 3 ∧ ab_R E_X3_closes P_X3_closes Q 0 (ab_ent av 3) [] cs := by
  obtain ⟨s, z, g, c, rfl, rfl, h0, h1, h2, hQ⟩ := h
  refine ⟨Nat.le_of_ble_eq_true rfl, ?_⟩
  have loop : ∀ (m : Nat) (k : Int) (s' : Int → Int), s 1 - 1 - k = m → c ≤ k → (∀ j : Int, s' j = if (63 + c ≤ j ∧ j < 63 + k) ∨ (127 + c ≤ j ∧ j < 127 + k) ∨ (191 + c ≤ j ∧ j < 191 + k) then s (j + 1) else s j) →
      ab_R E_X3_closes P_X3_closes Q 2 [some (.inr (.inl (some 0))), some (.inl c), some (.inl k)] [] (md_cs s' z g) := by
    intro m
    induction m with
    | zero =>
      intro k s' g1 g2 g3
      have o : ∀ j : Int, j < 63 → s' j = s j := fun j hj => by rw [g3, if_neg (by omega)]
      have o1 := o 1 (by omega)
      have f1 : ab_up s' 1 (s' 1 - 1) 1 = s 1 - 1 := by rw [ab_up_eq rfl, o1]
      have f2 : ab_up (ab_up s' 1 (s' 1 - 1)) (63 + ab_up s' 1 (s' 1 - 1) 1) 0 1 = s 1 - 1 := by rw [ab_up_ne (by omega), f1]
      have f3 : ab_up (ab_up (ab_up s' 1 (s' 1 - 1)) (63 + ab_up s' 1 (s' 1 - 1) 1) 0) (127 + ab_up (ab_up s' 1 (s' 1 - 1)) (63 + ab_up s' 1 (s' 1 - 1) 1) 0 1) 0 1 = s 1 - 1 := by rw [ab_up_ne (by omega), f2]
      refine b_X3_closes_2 (fun _ => ?_) (fun _ => by omega)
      rw [f3, f2, f1]
      refine hQ _ ?_ ?_ ?_ (fun j j1 j2 => ?_) (fun j j1 j2 => ⟨?_, ?_, ?_⟩)
      · rw [ab_up_ne (by omega), ab_up_ne (by omega), ab_up_ne (by omega), ab_up_ne (by omega), o _ (by omega)]
      · rw [ab_up_ne (by omega), ab_up_ne (by omega), ab_up_ne (by omega), ab_up_eq rfl, o1]
      · rw [ab_up_ne (by omega), ab_up_ne (by omega), ab_up_ne (by omega), ab_up_ne (by omega), o _ (by omega)]
      · rw [ab_up_ne (by omega), ab_up_ne (by omega), ab_up_ne (by omega), ab_up_ne (by omega), o _ (by omega)]
      · rw [ab_up_ne (by omega), ab_up_ne (by omega), ab_up_ne (by omega), ab_up_ne (by omega), g3]
        unfold mq_del
        by_cases y : c ≤ j ∧ j < s 1 - 1
        · rw [if_pos y, if_pos (by omega)]
          congr 1; omega
        · rw [if_neg y, if_neg (by omega)]
      · rw [ab_up_ne (by omega), ab_up_ne (by omega), ab_up_ne (by omega), ab_up_ne (by omega), g3]
        unfold mq_del
        by_cases y : c ≤ j ∧ j < s 1 - 1
        · rw [if_pos y, if_pos (by omega)]
          congr 1; omega
        · rw [if_neg y, if_neg (by omega)]
      · rw [ab_up_ne (by omega), ab_up_ne (by omega), ab_up_ne (by omega), ab_up_ne (by omega), g3]
        unfold mq_del
        by_cases y : c ≤ j ∧ j < s 1 - 1
        · rw [if_pos y, if_pos (by omega)]
          congr 1; omega
        · rw [if_neg y, if_neg (by omega)]
    | succ m ih =>
      intro k s' g1 g2 g3
      have o : ∀ j : Int, j < 63 → s' j = s j := fun j hj => by rw [g3, if_neg (by omega)]
      have o1 := o 1 (by omega)
      refine b_X3_closes_2 (fun _ => by omega) (fun _ => ih _ _ (by omega) (by omega) (fun j => ?_)) (p4 := fun _ => by omega) (p5 := fun _ => by omega) (p6 := fun _ => by omega)
      have o2 : ∀ j : Int, (j = 63 + k + 1 ∨ j = 127 + k + 1 ∨ j = 191 + k + 1) → s' j = s j := fun j hj => by rw [g3, if_neg (by omega)]
      rw [ab_up_ne (show 127 + k + 1 ≠ 63 + k by omega), ab_up_ne (show 191 + k + 1 ≠ 127 + k by omega), ab_up_ne (show 191 + k + 1 ≠ 63 + k by omega), o2 (63 + k + 1) (by omega), o2 (127 + k + 1) (by omega), o2 (191 + k + 1) (by omega)]
      by_cases y1 : j = 191 + k
      · rw [ab_up_eq y1, if_pos (by omega), y1]
      · rw [ab_up_ne y1]
        by_cases y2 : j = 127 + k
        · rw [ab_up_eq y2, if_pos (by omega), y2]
        · rw [ab_up_ne y2]
          by_cases y3 : j = 63 + k
          · rw [ab_up_eq y3, if_pos (by omega), y3]
          · rw [ab_up_ne y3, g3]
            by_cases y4 : (63 + c ≤ j ∧ j < 63 + k) ∨ (127 + c ≤ j ∧ j < 127 + k) ∨ (191 + c ≤ j ∧ j < 191 + k)
            · rw [if_pos y4, if_pos (by omega)]
            · rw [if_neg y4, if_neg (by omega)]
  exact b_X3_closes_0 (loop (s 1 - 1 - c).toNat c s (by omega) (by omega) (fun j => by rw [if_neg (by omega)]))
theorem mt_X3_closes (l : Launch) : ab_MT l mi_X3_closes sp_X3_closes := ab_MT.of (own := "RootChunksModel") (E := E_X3_closes) (P := P_X3_closes) (M := M_X3_closes) (nL := 3) (ty := 9) (by decide) rfl rfl tk_X3 pk_X3_closes ck_X3_closes ab_CT'.nil (fun av cs Q h => vc_X3_closes h)
theorem vc_X3_cuts {av : List ab_V} {cs : List ab_C} {Q : ab_Q} (h : sp_X3_cuts av cs Q) : (ab_lv0 av).length ≤ 4 ∧ ab_R E_X3_cuts P_X3_cuts Q 0 (ab_ent av 4) [] cs := by
  obtain ⟨s, z, g, q, d, p, rfl, rfl, hR, hW, hp, hd, hQ⟩ := h
  refine ⟨Nat.le_of_ble_eq_true rfl, ?_⟩
  have hfl := hW.2
  have hn : s 0 = ((mq_flat q).length : Nat) := hR.2.2.2.2.1
  refine b_X3_cuts_0 (fun h1 => ?_) (fun h1 h2 => ?_) (fun h1 h2 => ?_)
  · have : d = 0 := by omega
    subst this
    rw [mq_cut_0] at hQ
    exact hQ s z hR (by show s 2 = s 2 + 0; omega)
  · obtain ⟨A, k, B, rfl, a1, a2⟩ := mq_hold (q := q) (p := d) (by omega)
    have ho := hW.1
    refine ⟨_, _, _, A, k, B, _, rfl, rfl, hR, hW, by omega, by omega, _, rfl, rfl, ?_⟩
    refine b_X3_cuts_20 ⟨_, _, _, _, A.length, _, rfl, rfl, hR, hW, rfl, by simp, _, rfl, rfl, ?_⟩
    rw [mq_take_app]
    have hcut := mq_cut_app (A := A) (B := k :: B) (d := d - (mq_flat A).length) (fun k hk => ho k (by simp [hk]))
    rw [show (mq_flat A).length + (d - (mq_flat A).length) = d by omega] at hcut
    rw [mq_flat_mid, List.length_append, List.length_append] at hfl
    refine b_X3_cuts_26 (fun h3 => ?_) (fun h3 => ?_)
    · refine b_X3_cuts_45 ?_
      rw [hcut, show d - (mq_flat A).length = 0 by omega, mq_cut_0, List.append_nil] at hQ
      exact hQ s z hR (by show s 2 = s 2 + 0; omega)
    · have hcut2 : mq_cut (A ++ k :: B) d = (A ++ [((mq_row k).take (d - (mq_flat A).length), 0, 0)], ((mq_row k).drop (d - (mq_flat A).length), 0, 0) :: B, mq_cost k + ((k.1.length : Int) - (d - (mq_flat A).length : Nat))) := by
        rw [hcut]
        conv => lhs; unfold mq_cut
        rw [if_neg (by omega), if_pos (by omega)]
      rw [hcut2] at hQ
      refine ⟨_, _, _, A, k, B, _, rfl, rfl, hR, hW, rfl, fun s1 z1 hr1 hw1 => ⟨s1, z1, g, rfl, rfl, ?_⟩⟩
      refine b_X3_cuts_37 ⟨_, _, _, A, mq_row k, B, d - (mq_flat A).length, _, _, rfl, rfl, hr1, mq_W_settle hW, rfl, by omega, by omega, by rw [mq_row_len]; omega, fun s2 hr2 hw2 => ⟨s2, z1, g, rfl, rfl, ?_⟩⟩
      refine b_X3_cuts_45 (hQ s2 z1 (by simpa using hr2) ?_)
      rw [mq_row_len] at hw2
      dsimp only
      omega
  · have : d = (mq_flat q).length := by omega
    subst this
    rw [mq_cut_end hW.1] at hQ
    exact hQ s z (by simpa using hR) (by show s 2 = s 2 + 0; omega)
theorem mt_X3_cuts (l : Launch) : ab_MT l mi_X3_cuts sp_X3_cuts := ab_MT.of (own := "RootChunksModel") (E := E_X3_cuts) (P := P_X3_cuts) (M := M_X3_cuts) (nL := 4) (ty := 9) (by decide) rfl rfl tk_X3 pk_X3_cuts ck_X3_cuts (ab_CT'.cons (mt_X3_chunkAt l) (ab_CT'.cons (mt_X3_startOf l) (ab_CT'.cons (mt_X3_carries l) (ab_CT'.cons (mt_X3_parts l) ab_CT'.nil)))) (fun av cs Q h => vc_X3_cuts h)
theorem vc_X3_chunkFrom {av : List ab_V} {cs : List ab_C} {Q : ab_Q} (h : sp_X3_chunkFrom av cs Q) : (ab_lv0 av).length ≤ 3 ∧ ab_R E_X3_chunkFrom P_X3_chunkFrom Q 0 (ab_ent av 3) [] cs := by
  obtain ⟨s, z, g, A, B, p, rfl, rfl, hR, hW, hp, hQ⟩ := h
  refine ⟨Nat.le_of_ble_eq_true rfl, ?_⟩
  have hcl := hW.chunks
  have hfl := hW.2
  have hn : s 1 = ((A ++ B).length : Nat) := hR.2.2.2.2.2
  rw [List.length_append] at hcl hn
  rw [mq_flat_app, List.length_append] at hfl
  have loop : ∀ (d i : Nat) (x : Int), d + i = A.length → x = i → ab_R E_X3_chunkFrom P_X3_chunkFrom Q 2 [some (.inr (.inl (some 0))), some (.inl p), some (.inl x)] [] (md_cs s z g) := by
    intro d
    induction d with
    | zero =>
      intro i x h1 h2
      have e : i = A.length := by omega
      subst e
      refine b_X3_chunkFrom_2 (fun _ => ?_) (fun _ => ?_)
      · rw [h2]; exact hQ
      · refine ⟨_, _, _, _, A.length, _, rfl, rfl, hR, hW, h2, by simp, _, rfl, rfl, ?_⟩
        rw [List.take_left]
        refine b_X3_chunkFrom_17 (fun _ => ?_) (fun _ => by omega)
        rw [h2]; exact hQ
    | succ d ih =>
      intro i x h1 h2
      refine b_X3_chunkFrom_2 (fun _ => by omega) (fun _ => ?_)
      refine ⟨_, _, _, _, i, _, rfl, rfl, hR, hW, h2, by simp; omega, _, rfl, rfl, ?_⟩
      have e3 : (mq_flat ((A ++ B).take i)).length < (mq_flat A).length := by
        rw [List.take_append_of_le_length (by omega)]
        obtain ⟨kk, hkk, e⟩ := mq_split (q := A) (c := i) (by omega)
        have e2 := mq_take_succ hkk
        have h0 := (hW.1 kk (List.mem_append_left _ (List.mem_of_getElem? hkk))).1
        have := mq_take_le A (i + 1)
        omega
      exact b_X3_chunkFrom_17 (fun _ => by omega) (fun _ => ih (i + 1) _ (by omega) (by omega))
  exact b_X3_chunkFrom_0 (loop A.length 0 0 (by omega) rfl)
theorem mt_X3_chunkFrom (l : Launch) : ab_MT l mi_X3_chunkFrom sp_X3_chunkFrom := ab_MT.of (own := "RootChunksModel") (E := E_X3_chunkFrom) (P := P_X3_chunkFrom) (M := M_X3_chunkFrom) (nL := 3) (ty := 0) (by decide) rfl rfl tk_X3 pk_X3_chunkFrom ck_X3_chunkFrom (ab_CT'.cons (mt_X3_startOf l) ab_CT'.nil) (fun av cs Q h => vc_X3_chunkFrom h)
theorem vc_X3_root {av : List ab_V} {cs : List ab_C} {Q : ab_Q} (h : sp_X3_root av cs Q) : (ab_lv0 av).length ≤ 2 ∧ ab_R E_X3_root P_X3_root Q 0 (ab_ent av 2) [] cs := by
  obtain ⟨s, z, g, q, rfl, rfl, hR, hW, hQ⟩ := h
  refine ⟨Nat.le_of_ble_eq_true rfl, ?_⟩
  have hfl := hW.2
  have hn : s 0 = ((mq_flat q).length : Nat) := hR.2.2.2.2.1
  generalize (mq_flat q).length = y at hfl hn hQ
  have fin : ∀ x : Int, x = (mq_rt y : Int) → Q (some (.inl x)) (md_cs s z g) := fun x e => by rw [e]; exact hQ
  have f7 : ∀ x : Int, x = 7 → 49 ≤ y → ab_R E_X3_root P_X3_root Q 2 [some (.inr (.inl (some 0))), some (.inl x)] [] (md_cs s z g) := by
    intro x e g; subst e
    exact b_X3_root_2 (fun _ => fin _ (mq_rt_is (by omega))) (fun _ => by omega)
  have f6 : ∀ x : Int, x = 6 → 36 ≤ y → ab_R E_X3_root P_X3_root Q 2 [some (.inr (.inl (some 0))), some (.inl x)] [] (md_cs s z g) := by
    intro x e g; subst e
    exact b_X3_root_2 (fun _ => fin _ (mq_rt_is (by omega))) (fun _ => f7 _ (by omega) (by omega))
  have f5 : ∀ x : Int, x = 5 → 25 ≤ y → ab_R E_X3_root P_X3_root Q 2 [some (.inr (.inl (some 0))), some (.inl x)] [] (md_cs s z g) := by
    intro x e g; subst e
    exact b_X3_root_2 (fun _ => fin _ (mq_rt_is (by omega))) (fun _ => f6 _ (by omega) (by omega))
  have f4 : ∀ x : Int, x = 4 → 16 ≤ y → ab_R E_X3_root P_X3_root Q 2 [some (.inr (.inl (some 0))), some (.inl x)] [] (md_cs s z g) := by
    intro x e g; subst e
    exact b_X3_root_2 (fun _ => fin _ (mq_rt_is (by omega))) (fun _ => f5 _ (by omega) (by omega))
  have f3 : ∀ x : Int, x = 3 → 9 ≤ y → ab_R E_X3_root P_X3_root Q 2 [some (.inr (.inl (some 0))), some (.inl x)] [] (md_cs s z g) := by
    intro x e g; subst e
    exact b_X3_root_2 (fun _ => fin _ (mq_rt_is (by omega))) (fun _ => f4 _ (by omega) (by omega))
  have f2 : ∀ x : Int, x = 2 → 4 ≤ y → ab_R E_X3_root P_X3_root Q 2 [some (.inr (.inl (some 0))), some (.inl x)] [] (md_cs s z g) := by
    intro x e g; subst e
    exact b_X3_root_2 (fun _ => fin _ (mq_rt_is (by omega))) (fun _ => f3 _ (by omega) (by omega))
  refine b_X3_root_0 ?_
  exact b_X3_root_2 (fun _ => fin _ (mq_rt_is (by omega))) (fun _ => f2 _ (by omega) (by omega))
theorem mt_X3_root (l : Launch) : ab_MT l mi_X3_root sp_X3_root := ab_MT.of (own := "RootChunksModel") (E := E_X3_root) (P := P_X3_root) (M := M_X3_root) (nL := 2) (ty := 0) (by decide) rfl rfl tk_X3 pk_X3_root ck_X3_root ab_CT'.nil (fun av cs Q h => vc_X3_root h)
