/-! THE REFERENCE'S ERRORS -/
def sp_X3_in : ab_Sp := fun av cs Q => ∃ (v a b : Int), av = [.inl v, .inl a, .inl b] ∧ ab_r v ∧ ab_r a ∧ ab_r b ∧ Q (some (.inl (if a ≤ v ∧ v ≤ b then 1 else 0))) cs
def sp_X3_isValue : ab_Sp := fun av cs Q => ∃ (v : Int), av = [.inl v] ∧ ab_r v ∧ Q (some (.inl (if mq_vl v then 1 else 0))) cs
def sp_X3_isPlace : ab_Sp := fun av cs Q => ∃ (s : Int → Int) (z : mc_T) (g : mg_T) (q : List mq_K) (p : Int), av = [.inr (.inl (some 0)), .inl p] ∧ cs = md_cs s z g ∧ mq_R (md_v s) q ∧ mq_W q ∧ ab_r p ∧ Q (some (.inl (if mq_pl q p then 1 else 0))) (md_cs s z g)
def sp_X3_refusesSpan : ab_Sp := fun av cs Q => ∃ (s : Int → Int) (z : mc_T) (g : mg_T) (q : List mq_K) (a b : Int), av = [.inr (.inl (some 0)), .inl a, .inl b] ∧ cs = md_cs s z g ∧ mq_R (md_v s) q ∧ mq_W q ∧ ab_r a ∧ ab_r b ∧ Q (some (.inl (mq_eSpan q a b))) (md_cs s z g)
def sp_X3_refusesPut : ab_Sp := fun av cs Q => ∃ (s : Int → Int) (z : mc_T) (g : mg_T) (q : List mq_K) (p v : Int), av = [.inr (.inl (some 0)), .inl p, .inl v] ∧ cs = md_cs s z g ∧ mq_R (md_v s) q ∧ mq_W q ∧ ab_r p ∧ ab_r v ∧ Q (some (.inl (mq_ePut q p v))) (md_cs s z g)
def sp_X3_refusesSet : ab_Sp := fun av cs Q => ∃ (s : Int → Int) (z : mc_T) (g : mg_T) (q : List mq_K) (p v : Int), av = [.inr (.inl (some 0)), .inl p, .inl v] ∧ cs = md_cs s z g ∧ mq_R (md_v s) q ∧ mq_W q ∧ ab_r p ∧ ab_r v ∧ Q (some (.inl (mq_eSet q p v))) (md_cs s z g)
def sp_X3_refusesBy : ab_Sp := fun av cs Q => ∃ (s : Int → Int) (z : mc_T) (g : mg_T) (q : List mq_K) (a b v : Int), av = [.inr (.inl (some 0)), .inl a, .inl b, .inl v] ∧ cs = md_cs s z g ∧ mq_R (md_v s) q ∧ mq_W q ∧ ab_r a ∧ ab_r b ∧ ab_r v ∧ Q (some (.inl (mq_eBy q a b v))) (md_cs s z g)
def sp_X3_refusesAdd : ab_Sp := fun av cs Q => ∃ (s : Int → Int) (z : mc_T) (g : mg_T) (q : List mq_K) (a b v : Int), av = [.inr (.inl (some 0)), .inl a, .inl b, .inl v] ∧ cs = md_cs s z g ∧ mq_R (md_v s) q ∧ mq_W q ∧ ab_r a ∧ ab_r b ∧ ab_r v ∧ Q (some (.inl (mq_eAdd q a b v))) (md_cs s z g)
def sp_X3_refusesMove : ab_Sp := fun av cs Q => ∃ (s : Int → Int) (z : mc_T) (g : mg_T) (q : List mq_K) (a b p : Int), av = [.inr (.inl (some 0)), .inl a, .inl b, .inl p] ∧ cs = md_cs s z g ∧ mq_R (md_v s) q ∧ mq_W q ∧ ab_r a ∧ ab_r b ∧ ab_r p ∧ Q (some (.inl (mq_eMove q a b p))) (md_cs s z g)
-- ===== RootChunksModel.in
def P_X3_in : List ab_I := [(0, .iload_n 0, 1, []), (1, .iload_n 1, 2, []), (2, .if_icmp .lt 12, 5, [((0 : Int), 14)]), (5, .iload_n 0, 6, []), (6, .iload_n 2, 7, []), (7, .if_icmp .gt 7, 10, [((0 : Int), 14)]), (10, .iconst 1, 11, []), (11, .goto 4, 14, [((0 : Int), 15)]), (14, .iconst 0, 15, []), (15, .ireturn, 16, [])]
def E_X3_in : ab_E := (T_X3, [], [], 2)
def M_X3_in : List (Nat × ab_MI) := []
def mi_X3_in : ab_MI := (yX3_in, cX3_in, 3, ab_rty 2, 1, 70)
theorem pk_X3_in : P_X3_in.all (ab_okI cX3_in) = true := by decide +kernel
theorem ck_X3_in : P_X3_in.all (ab_okC1 "RootChunksModel" M_X3_in E_X3_in (1, 70)) = true := by decide +kernel
set_option maxRecDepth 100000 in
theorem b_X3_in_0 {Q : ab_Q} {v : Int} {a : Int} {b : Int} {cs : List ab_C} (l1 : v < a → Q (some (.inl 0)) cs) (l2 : a ≤ v → b < v → Q (some (.inl 0)) cs) (l3 : a ≤ v → v ≤ b → Q (some (.inl 1)) cs) (p1 : (ab_r v ∧ ab_r a) := by intros; (try unfold ab_r); omega) (p2 : v < a → ((0 : Int) = 0 ∨ (0 : Int) = 1) := by intros; (try unfold ab_r); omega) (p3 : a ≤ v → (ab_r v ∧ ab_r b) := by intros; (try unfold ab_r); omega) (p4 : a ≤ v → b < v → ((0 : Int) = 0 ∨ (0 : Int) = 1) := by intros; (try unfold ab_r); omega) (p5 : a ≤ v → v ≤ b → ((1 : Int) = 0 ∨ (1 : Int) = 1) := by intros; (try unfold ab_r); omega) : ab_R E_X3_in P_X3_in Q 0 [some (.inl v), some (.inl a), some (.inl b)] [] cs :=
  ab_R.steps [] 10 (show ((ab_r v ∧ ab_r a) ∧ ((v < a → (((0 : Int) = 0 ∨ (0 : Int) = 1) ∧ Q (some (.inl 0)) cs)) ∧ (a ≤ v → ((ab_r v ∧ ab_r b) ∧ ((b < v → (((0 : Int) = 0 ∨ (0 : Int) = 1) ∧ Q (some (.inl 0)) cs)) ∧ (v ≤ b → (((1 : Int) = 0 ∨ (1 : Int) = 1) ∧ Q (some (.inl 1)) cs))))))) from ⟨p1, ⟨fun h1 => ⟨(p2 h1), (l1 h1)⟩, fun h2 => ⟨(p3 h2), ⟨fun h3 => ⟨(p4 h2 h3), (l2 h2 h3)⟩, fun h4 => ⟨(p5 h2 h4), (l3 h2 h4)⟩⟩⟩⟩⟩)
-- ===== RootChunksModel.isValue
def P_X3_isValue : List ab_I := [(0, .iload_n 0, 1, []), (1, .sipush (-999), 4, []), (4, .sipush 999, 7, []), (7, .invokestatic 91, 10, []), (10, .ireturn, 11, [])]
def E_X3_isValue : ab_E := (T_X3, [(7, (3, 99, [], 0, sp_X3_in))], [], 2)
def M_X3_isValue : List (Nat × ab_MI) := [(7, mi_X3_in)]
def mi_X3_isValue : ab_MI := (yX3_isValue, cX3_isValue, 1, ab_rty 2, 2, 92)
theorem pk_X3_isValue : P_X3_isValue.all (ab_okI cX3_isValue) = true := by decide +kernel
theorem ck_X3_isValue : P_X3_isValue.all (ab_okC1 "RootChunksModel" M_X3_isValue E_X3_isValue (2, 92)) = true := by decide +kernel
set_option maxRecDepth 100000 in
theorem b_X3_isValue_0 {Q : ab_Q} {v : Int} {cs : List ab_C} (l1 : sp_X3_in [.inl v, .inl (-999), .inl 999] cs (fun r_ k_ => ∃ (x_ : Int), r_ = some (.inl x_) ∧ k_ = cs ∧ ab_R E_X3_isValue P_X3_isValue Q 10 [some (.inl v)] [.inl x_] cs))  : ab_R E_X3_isValue P_X3_isValue Q 0 [some (.inl v)] [] cs :=
  ab_R.steps [10] 5 (show ab_cl sp_X3_in [.inl v, .inl (-999), .inl 999] cs (fun r_ k_ => k_.length = (cs).length → ab_R E_X3_isValue P_X3_isValue Q 10 [some (.inl v)] (ab_ret r_ []) k_) from ⟨_, l1, fun r_ k_ hz _ => by obtain ⟨x_, rfl, rfl, hR⟩ := hz; exact hR⟩)
set_option maxRecDepth 100000 in
theorem b_X3_isValue_10 {Q : ab_Q} {v : Int} {t0 : Int} {cs : List ab_C} (l1 : Q (some (.inl t0)) cs) (p1 : (t0 = 0 ∨ t0 = 1) := by intros; (try unfold ab_r); omega) : ab_R E_X3_isValue P_X3_isValue Q 10 [some (.inl v)] [.inl t0] cs :=
  ab_R.steps [10] 2 (show ((t0 = 0 ∨ t0 = 1) ∧ Q (some (.inl t0)) cs) from ⟨p1, l1⟩)
-- ===== RootChunksModel.isPlace
def P_X3_isPlace : List ab_I := [(0, .iload_n 1, 1, []), (1, .iconst 0, 2, []), (2, .aload_n 0, 3, []), (3, .getfield 7, 6, []), (6, .iconst 0, 7, []), (7, .iaload, 8, []), (8, .iconst 1, 9, []), (9, .isub, 10, []), (10, .invokestatic 91, 13, []), (13, .ireturn, 14, [])]
def E_X3_isPlace : ab_E := (T_X3, [(10, (3, 99, [], 0, sp_X3_in))], [], 2)
def M_X3_isPlace : List (Nat × ab_MI) := [(10, mi_X3_in)]
def mi_X3_isPlace : ab_MI := (yX3_isPlace, cX3_isPlace, 2, ab_rty 2, 2, 92)
theorem pk_X3_isPlace : P_X3_isPlace.all (ab_okI cX3_isPlace) = true := by decide +kernel
theorem ck_X3_isPlace : P_X3_isPlace.all (ab_okC1 "RootChunksModel" M_X3_isPlace E_X3_isPlace (2, 92)) = true := by decide +kernel
set_option maxRecDepth 100000 in
theorem b_X3_isPlace_0 {Q : ab_Q} {p : Int} {s_ : Int → Int} {z_ : mc_T} {g_ : mg_T} (l1 : sp_X3_in [.inl p, .inl 0, .inl ((s_ 0) - 1)] (md_cs s_ z_ g_) (fun r_ k_ => ∃ (x_ : Int), r_ = some (.inl x_) ∧ k_ = (md_cs s_ z_ g_) ∧ ab_R E_X3_isPlace P_X3_isPlace Q 13 [some (.inr (.inl (some 0))), some (.inl p)] [.inl x_] (md_cs s_ z_ g_))) (p1 : (0 ≤ (0 : Int) ∧ (0 : Int) < 255) := by intros; (try unfold ab_r); omega) : ab_R E_X3_isPlace P_X3_isPlace Q 0 [some (.inr (.inl (some 0))), some (.inl p)] [] (md_cs s_ z_ g_) :=
  ab_R.steps [13] 10 (show ((0 ≤ (0 : Int) ∧ (0 : Int) < 255) ∧ ab_cl sp_X3_in [.inl p, .inl 0, .inl ((s_ 0) - 1)] (md_cs s_ z_ g_) (fun r_ k_ => k_.length = ((md_cs s_ z_ g_)).length → ab_R E_X3_isPlace P_X3_isPlace Q 13 [some (.inr (.inl (some 0))), some (.inl p)] (ab_ret r_ []) k_)) from ⟨p1, ⟨_, l1, fun r_ k_ hz _ => by obtain ⟨x_, rfl, rfl, hR⟩ := hz; exact hR⟩⟩)
set_option maxRecDepth 100000 in
theorem b_X3_isPlace_13 {Q : ab_Q} {p : Int} {t0 : Int} {s_ : Int → Int} {z_ : mc_T} {g_ : mg_T} (l1 : Q (some (.inl t0)) (md_cs s_ z_ g_)) (p1 : (t0 = 0 ∨ t0 = 1) := by intros; (try unfold ab_r); omega) : ab_R E_X3_isPlace P_X3_isPlace Q 13 [some (.inr (.inl (some 0))), some (.inl p)] [.inl t0] (md_cs s_ z_ g_) :=
  ab_R.steps [13] 2 (show ((t0 = 0 ∨ t0 = 1) ∧ Q (some (.inl t0)) (md_cs s_ z_ g_)) from ⟨p1, l1⟩)
-- ===== RootChunksModel.refusesSpan
def P_X3_refusesSpan : List ab_I := [(0, .aload_n 0, 1, []), (1, .iload_n 1, 2, []), (2, .invokevirtual 95, 5, []), (5, .ifCond .eq 11, 8, [((0 : Int), 16)]), (8, .aload_n 0, 9, []), (9, .iload_n 2, 10, []), (10, .invokevirtual 95, 13, []), (13, .ifCond .ne 5, 16, [((0 : Int), 18)]), (16, .iconst (-1), 17, []), (17, .ireturn, 18, []), (18, .iload_n 2, 19, []), (19, .iload_n 1, 20, []), (20, .if_icmp .ge 8, 23, [((0 : Int), 28)]), (23, .bipush (-2), 25, []), (25, .goto 4, 28, [((0 : Int), 29)]), (28, .iconst 0, 29, []), (29, .ireturn, 30, [])]
def E_X3_refusesSpan : ab_E := (T_X3, [(2, (2, 3, [], 0, sp_X3_isPlace)), (10, (2, 3, [], 0, sp_X3_isPlace))], [], 0)
def M_X3_refusesSpan : List (Nat × ab_MI) := [(2, mi_X3_isPlace), (10, mi_X3_isPlace)]
def mi_X3_refusesSpan : ab_MI := (yX3_refusesSpan, cX3_refusesSpan, 3, ab_rty 0, 3, 113)
theorem pk_X3_refusesSpan : P_X3_refusesSpan.all (ab_okI cX3_refusesSpan) = true := by decide +kernel
theorem ck_X3_refusesSpan : P_X3_refusesSpan.all (ab_okC1 "RootChunksModel" M_X3_refusesSpan E_X3_refusesSpan (3, 113)) = true := by decide +kernel
set_option maxRecDepth 100000 in
theorem b_X3_refusesSpan_0 {Q : ab_Q} {a : Int} {b : Int} {s_ : Int → Int} {z_ : mc_T} {g_ : mg_T} (l1 : sp_X3_isPlace [.inr (.inl (some 0)), .inl a] (md_cs s_ z_ g_) (fun r_ k_ => ∃ (x_ : Int), r_ = some (.inl x_) ∧ k_ = (md_cs s_ z_ g_) ∧ ab_R E_X3_refusesSpan P_X3_refusesSpan Q 5 [some (.inr (.inl (some 0))), some (.inl a), some (.inl b)] [.inl x_] (md_cs s_ z_ g_)))  : ab_R E_X3_refusesSpan P_X3_refusesSpan Q 0 [some (.inr (.inl (some 0))), some (.inl a), some (.inl b)] [] (md_cs s_ z_ g_) :=
  ab_R.steps [5, 13] 4 (show ab_cl sp_X3_isPlace [.inr (.inl (some 0)), .inl a] (md_cs s_ z_ g_) (fun r_ k_ => k_.length = ((md_cs s_ z_ g_)).length → ab_R E_X3_refusesSpan P_X3_refusesSpan Q 5 [some (.inr (.inl (some 0))), some (.inl a), some (.inl b)] (ab_ret r_ []) k_) from ⟨_, l1, fun r_ k_ hz _ => by obtain ⟨x_, rfl, rfl, hR⟩ := hz; exact hR⟩)
set_option maxRecDepth 100000 in
theorem b_X3_refusesSpan_5 {Q : ab_Q} {a : Int} {b : Int} {t0 : Int} {s_ : Int → Int} {z_ : mc_T} {g_ : mg_T} (l1 : t0 = (0 : Int) → Q (some (.inl (-1))) (md_cs s_ z_ g_)) (l2 : ¬ t0 = (0 : Int) → sp_X3_isPlace [.inr (.inl (some 0)), .inl b] (md_cs s_ z_ g_) (fun r_ k_ => ∃ (x_ : Int), r_ = some (.inl x_) ∧ k_ = (md_cs s_ z_ g_) ∧ ab_R E_X3_refusesSpan P_X3_refusesSpan Q 13 [some (.inr (.inl (some 0))), some (.inl a), some (.inl b)] [.inl x_] (md_cs s_ z_ g_))) (p1 : ab_r t0 := by intros; (try unfold ab_r); omega) : ab_R E_X3_refusesSpan P_X3_refusesSpan Q 5 [some (.inr (.inl (some 0))), some (.inl a), some (.inl b)] [.inl t0] (md_cs s_ z_ g_) :=
  ab_R.steps [5, 13] 5 (show (ab_r t0 ∧ ((t0 = (0 : Int) → Q (some (.inl (-1))) (md_cs s_ z_ g_)) ∧ (¬ t0 = (0 : Int) → ab_cl sp_X3_isPlace [.inr (.inl (some 0)), .inl b] (md_cs s_ z_ g_) (fun r_ k_ => k_.length = ((md_cs s_ z_ g_)).length → ab_R E_X3_refusesSpan P_X3_refusesSpan Q 13 [some (.inr (.inl (some 0))), some (.inl a), some (.inl b)] (ab_ret r_ []) k_)))) from ⟨p1, ⟨fun h1 => (l1 h1), fun h2 => ⟨_, (l2 h2), fun r_ k_ hz _ => by obtain ⟨x_, rfl, rfl, hR⟩ := hz; exact hR⟩⟩⟩)
set_option maxRecDepth 100000 in
theorem b_X3_refusesSpan_13 {Q : ab_Q} {a : Int} {b : Int} {t0 : Int} {s_ : Int → Int} {z_ : mc_T} {g_ : mg_T} (l1 : ¬ t0 = (0 : Int) → a ≤ b → Q (some (.inl 0)) (md_cs s_ z_ g_)) (l2 : ¬ t0 = (0 : Int) → b < a → Q (some (.inl (-2))) (md_cs s_ z_ g_)) (l3 : t0 = (0 : Int) → Q (some (.inl (-1))) (md_cs s_ z_ g_)) (p1 : ab_r t0 := by intros; (try unfold ab_r); omega) (p2 : ¬ t0 = (0 : Int) → (ab_r b ∧ ab_r a) := by intros; (try unfold ab_r); omega) : ab_R E_X3_refusesSpan P_X3_refusesSpan Q 13 [some (.inr (.inl (some 0))), some (.inl a), some (.inl b)] [.inl t0] (md_cs s_ z_ g_) :=
  ab_R.steps [5, 13] 8 (show (ab_r t0 ∧ ((¬ t0 = (0 : Int) → ((ab_r b ∧ ab_r a) ∧ ((a ≤ b → Q (some (.inl 0)) (md_cs s_ z_ g_)) ∧ (b < a → Q (some (.inl (-2))) (md_cs s_ z_ g_))))) ∧ (t0 = (0 : Int) → Q (some (.inl (-1))) (md_cs s_ z_ g_)))) from ⟨p1, ⟨fun h1 => ⟨(p2 h1), ⟨fun h2 => (l1 h1 h2), fun h3 => (l2 h1 h3)⟩⟩, fun h4 => (l3 h4)⟩⟩)
-- ===== RootChunksModel.refusesPut
def P_X3_refusesPut : List ab_I := [(0, .iload_n 1, 1, []), (1, .iconst 0, 2, []), (2, .aload_n 0, 3, []), (3, .getfield 7, 6, []), (6, .iconst 0, 7, []), (7, .iaload, 8, []), (8, .invokestatic 91, 11, []), (11, .ifCond .ne 5, 14, [((0 : Int), 16)]), (14, .iconst (-1), 15, []), (15, .ireturn, 16, []), (16, .iload_n 2, 17, []), (17, .invokestatic 99, 20, []), (20, .ifCond .ne 6, 23, [((0 : Int), 26)]), (23, .bipush (-2), 25, []), (25, .ireturn, 26, []), (26, .aload_n 0, 27, []), (27, .getfield 7, 30, []), (30, .iconst 0, 31, []), (31, .iaload, 32, []), (32, .bipush 60, 34, []), (34, .if_icmp .ne 8, 37, [((0 : Int), 42)]), (37, .bipush (-4), 39, []), (39, .goto 4, 42, [((0 : Int), 43)]), (42, .iconst 0, 43, []), (43, .ireturn, 44, [])]
def E_X3_refusesPut : ab_E := (T_X3, [(8, (3, 99, [], 0, sp_X3_in)), (17, (1, 99, [], 0, sp_X3_isValue))], [], 0)
def M_X3_refusesPut : List (Nat × ab_MI) := [(8, mi_X3_in), (17, mi_X3_isValue)]
def mi_X3_refusesPut : ab_MI := (yX3_refusesPut, cX3_refusesPut, 3, ab_rty 0, 3, 112)
theorem pk_X3_refusesPut : P_X3_refusesPut.all (ab_okI cX3_refusesPut) = true := by decide +kernel
theorem ck_X3_refusesPut : P_X3_refusesPut.all (ab_okC1 "RootChunksModel" M_X3_refusesPut E_X3_refusesPut (3, 112)) = true := by decide +kernel
set_option maxRecDepth 100000 in
theorem b_X3_refusesPut_0 {Q : ab_Q} {p : Int} {v : Int} {s_ : Int → Int} {z_ : mc_T} {g_ : mg_T} (l1 : sp_X3_in [.inl p, .inl 0, .inl (s_ 0)] (md_cs s_ z_ g_) (fun r_ k_ => ∃ (x_ : Int), r_ = some (.inl x_) ∧ k_ = (md_cs s_ z_ g_) ∧ ab_R E_X3_refusesPut P_X3_refusesPut Q 11 [some (.inr (.inl (some 0))), some (.inl p), some (.inl v)] [.inl x_] (md_cs s_ z_ g_))) (p1 : (0 ≤ (0 : Int) ∧ (0 : Int) < 255) := by intros; (try unfold ab_r); omega) : ab_R E_X3_refusesPut P_X3_refusesPut Q 0 [some (.inr (.inl (some 0))), some (.inl p), some (.inl v)] [] (md_cs s_ z_ g_) :=
  ab_R.steps [11, 20] 8 (show ((0 ≤ (0 : Int) ∧ (0 : Int) < 255) ∧ ab_cl sp_X3_in [.inl p, .inl 0, .inl (s_ 0)] (md_cs s_ z_ g_) (fun r_ k_ => k_.length = ((md_cs s_ z_ g_)).length → ab_R E_X3_refusesPut P_X3_refusesPut Q 11 [some (.inr (.inl (some 0))), some (.inl p), some (.inl v)] (ab_ret r_ []) k_)) from ⟨p1, ⟨_, l1, fun r_ k_ hz _ => by obtain ⟨x_, rfl, rfl, hR⟩ := hz; exact hR⟩⟩)
set_option maxRecDepth 100000 in
theorem b_X3_refusesPut_11 {Q : ab_Q} {p : Int} {v : Int} {t0 : Int} {s_ : Int → Int} {z_ : mc_T} {g_ : mg_T} (l1 : ¬ t0 = (0 : Int) → sp_X3_isValue [.inl v] (md_cs s_ z_ g_) (fun r_ k_ => ∃ (x_ : Int), r_ = some (.inl x_) ∧ k_ = (md_cs s_ z_ g_) ∧ ab_R E_X3_refusesPut P_X3_refusesPut Q 20 [some (.inr (.inl (some 0))), some (.inl p), some (.inl v)] [.inl x_] (md_cs s_ z_ g_))) (l2 : t0 = (0 : Int) → Q (some (.inl (-1))) (md_cs s_ z_ g_)) (p1 : ab_r t0 := by intros; (try unfold ab_r); omega) : ab_R E_X3_refusesPut P_X3_refusesPut Q 11 [some (.inr (.inl (some 0))), some (.inl p), some (.inl v)] [.inl t0] (md_cs s_ z_ g_) :=
  ab_R.steps [11, 20] 4 (show (ab_r t0 ∧ ((¬ t0 = (0 : Int) → ab_cl sp_X3_isValue [.inl v] (md_cs s_ z_ g_) (fun r_ k_ => k_.length = ((md_cs s_ z_ g_)).length → ab_R E_X3_refusesPut P_X3_refusesPut Q 20 [some (.inr (.inl (some 0))), some (.inl p), some (.inl v)] (ab_ret r_ []) k_)) ∧ (t0 = (0 : Int) → Q (some (.inl (-1))) (md_cs s_ z_ g_)))) from ⟨p1, ⟨fun h1 => ⟨_, (l1 h1), fun r_ k_ hz _ => by obtain ⟨x_, rfl, rfl, hR⟩ := hz; exact hR⟩, fun h2 => (l2 h2)⟩⟩)
set_option maxRecDepth 100000 in
theorem b_X3_refusesPut_20 {Q : ab_Q} {p : Int} {v : Int} {t0 : Int} {s_ : Int → Int} {z_ : mc_T} {g_ : mg_T} (l1 : ¬ t0 = (0 : Int) → ¬ (s_ 0) = (60 : Int) → Q (some (.inl 0)) (md_cs s_ z_ g_)) (l2 : ¬ t0 = (0 : Int) → (s_ 0) = (60 : Int) → Q (some (.inl (-4))) (md_cs s_ z_ g_)) (l3 : t0 = (0 : Int) → Q (some (.inl (-2))) (md_cs s_ z_ g_)) (p1 : ab_r t0 := by intros; (try unfold ab_r); omega) (p2 : ¬ t0 = (0 : Int) → (0 ≤ (0 : Int) ∧ (0 : Int) < 255) := by intros; (try unfold ab_r); omega) (p3 : ¬ t0 = (0 : Int) → (ab_r (s_ 0) ∧ ab_r 60) := by intros; (try unfold ab_r); omega) : ab_R E_X3_refusesPut P_X3_refusesPut Q 20 [some (.inr (.inl (some 0))), some (.inl p), some (.inl v)] [.inl t0] (md_cs s_ z_ g_) :=
  ab_R.steps [11, 20] 11 (show (ab_r t0 ∧ ((¬ t0 = (0 : Int) → ((0 ≤ (0 : Int) ∧ (0 : Int) < 255) ∧ ((ab_r (s_ 0) ∧ ab_r 60) ∧ ((¬ (s_ 0) = (60 : Int) → Q (some (.inl 0)) (md_cs s_ z_ g_)) ∧ ((s_ 0) = (60 : Int) → Q (some (.inl (-4))) (md_cs s_ z_ g_)))))) ∧ (t0 = (0 : Int) → Q (some (.inl (-2))) (md_cs s_ z_ g_)))) from ⟨p1, ⟨fun h1 => ⟨(p2 h1), ⟨(p3 h1), ⟨fun h2 => (l1 h1 h2), fun h3 => (l2 h1 h3)⟩⟩⟩, fun h4 => (l3 h4)⟩⟩)
-- ===== RootChunksModel.refusesSet
def P_X3_refusesSet : List ab_I := [(0, .aload_n 0, 1, []), (1, .iload_n 1, 2, []), (2, .invokevirtual 95, 5, []), (5, .ifCond .ne 5, 8, [((0 : Int), 10)]), (8, .iconst (-1), 9, []), (9, .ireturn, 10, []), (10, .iload_n 2, 11, []), (11, .invokestatic 99, 14, []), (14, .ifCond .eq 7, 17, [((0 : Int), 21)]), (17, .iconst 0, 18, []), (18, .goto 5, 21, [((0 : Int), 23)]), (21, .bipush (-2), 23, []), (23, .ireturn, 24, [])]
def E_X3_refusesSet : ab_E := (T_X3, [(2, (2, 3, [], 0, sp_X3_isPlace)), (11, (1, 99, [], 0, sp_X3_isValue))], [], 0)
def M_X3_refusesSet : List (Nat × ab_MI) := [(2, mi_X3_isPlace), (11, mi_X3_isValue)]
def mi_X3_refusesSet : ab_MI := (yX3_refusesSet, cX3_refusesSet, 3, ab_rty 0, 3, 113)
theorem pk_X3_refusesSet : P_X3_refusesSet.all (ab_okI cX3_refusesSet) = true := by decide +kernel
theorem ck_X3_refusesSet : P_X3_refusesSet.all (ab_okC1 "RootChunksModel" M_X3_refusesSet E_X3_refusesSet (3, 113)) = true := by decide +kernel
set_option maxRecDepth 100000 in
theorem b_X3_refusesSet_0 {Q : ab_Q} {p : Int} {v : Int} {s_ : Int → Int} {z_ : mc_T} {g_ : mg_T} (l1 : sp_X3_isPlace [.inr (.inl (some 0)), .inl p] (md_cs s_ z_ g_) (fun r_ k_ => ∃ (x_ : Int), r_ = some (.inl x_) ∧ k_ = (md_cs s_ z_ g_) ∧ ab_R E_X3_refusesSet P_X3_refusesSet Q 5 [some (.inr (.inl (some 0))), some (.inl p), some (.inl v)] [.inl x_] (md_cs s_ z_ g_)))  : ab_R E_X3_refusesSet P_X3_refusesSet Q 0 [some (.inr (.inl (some 0))), some (.inl p), some (.inl v)] [] (md_cs s_ z_ g_) :=
  ab_R.steps [5, 14] 4 (show ab_cl sp_X3_isPlace [.inr (.inl (some 0)), .inl p] (md_cs s_ z_ g_) (fun r_ k_ => k_.length = ((md_cs s_ z_ g_)).length → ab_R E_X3_refusesSet P_X3_refusesSet Q 5 [some (.inr (.inl (some 0))), some (.inl p), some (.inl v)] (ab_ret r_ []) k_) from ⟨_, l1, fun r_ k_ hz _ => by obtain ⟨x_, rfl, rfl, hR⟩ := hz; exact hR⟩)
set_option maxRecDepth 100000 in
theorem b_X3_refusesSet_5 {Q : ab_Q} {p : Int} {v : Int} {t0 : Int} {s_ : Int → Int} {z_ : mc_T} {g_ : mg_T} (l1 : ¬ t0 = (0 : Int) → sp_X3_isValue [.inl v] (md_cs s_ z_ g_) (fun r_ k_ => ∃ (x_ : Int), r_ = some (.inl x_) ∧ k_ = (md_cs s_ z_ g_) ∧ ab_R E_X3_refusesSet P_X3_refusesSet Q 14 [some (.inr (.inl (some 0))), some (.inl p), some (.inl v)] [.inl x_] (md_cs s_ z_ g_))) (l2 : t0 = (0 : Int) → Q (some (.inl (-1))) (md_cs s_ z_ g_)) (p1 : ab_r t0 := by intros; (try unfold ab_r); omega) : ab_R E_X3_refusesSet P_X3_refusesSet Q 5 [some (.inr (.inl (some 0))), some (.inl p), some (.inl v)] [.inl t0] (md_cs s_ z_ g_) :=
  ab_R.steps [5, 14] 4 (show (ab_r t0 ∧ ((¬ t0 = (0 : Int) → ab_cl sp_X3_isValue [.inl v] (md_cs s_ z_ g_) (fun r_ k_ => k_.length = ((md_cs s_ z_ g_)).length → ab_R E_X3_refusesSet P_X3_refusesSet Q 14 [some (.inr (.inl (some 0))), some (.inl p), some (.inl v)] (ab_ret r_ []) k_)) ∧ (t0 = (0 : Int) → Q (some (.inl (-1))) (md_cs s_ z_ g_)))) from ⟨p1, ⟨fun h1 => ⟨_, (l1 h1), fun r_ k_ hz _ => by obtain ⟨x_, rfl, rfl, hR⟩ := hz; exact hR⟩, fun h2 => (l2 h2)⟩⟩)
set_option maxRecDepth 100000 in
theorem b_X3_refusesSet_14 {Q : ab_Q} {p : Int} {v : Int} {t0 : Int} {s_ : Int → Int} {z_ : mc_T} {g_ : mg_T} (l1 : t0 = (0 : Int) → Q (some (.inl (-2))) (md_cs s_ z_ g_)) (l2 : ¬ t0 = (0 : Int) → Q (some (.inl 0)) (md_cs s_ z_ g_)) (p1 : ab_r t0 := by intros; (try unfold ab_r); omega) : ab_R E_X3_refusesSet P_X3_refusesSet Q 14 [some (.inr (.inl (some 0))), some (.inl p), some (.inl v)] [.inl t0] (md_cs s_ z_ g_) :=
  ab_R.steps [5, 14] 5 (show (ab_r t0 ∧ ((t0 = (0 : Int) → Q (some (.inl (-2))) (md_cs s_ z_ g_)) ∧ (¬ t0 = (0 : Int) → Q (some (.inl 0)) (md_cs s_ z_ g_)))) from ⟨p1, ⟨fun h1 => (l1 h1), fun h2 => (l2 h2)⟩⟩)
-- ===== RootChunksModel.refusesBy
def P_X3_refusesBy : List ab_I := [(0, .aload_n 0, 1, []), (1, .iload_n 1, 2, []), (2, .iload_n 2, 3, []), (3, .invokevirtual 102, 6, []), (6, .istore 4, 8, []), (8, .iload 4, 10, []), (10, .ifCond .ne 15, 13, [((0 : Int), 25)]), (13, .iload_n 3, 14, []), (14, .invokestatic 99, 17, []), (17, .ifCond .ne 8, 20, [((0 : Int), 25)]), (20, .bipush (-2), 22, []), (22, .goto 5, 25, [((0 : Int), 27)]), (25, .iload 4, 27, []), (27, .ireturn, 28, [])]
def E_X3_refusesBy : ab_E := (T_X3, [(3, (3, 3, [], 0, sp_X3_refusesSpan)), (14, (1, 99, [], 0, sp_X3_isValue))], [], 0)
def M_X3_refusesBy : List (Nat × ab_MI) := [(3, mi_X3_refusesSpan), (14, mi_X3_isValue)]
def mi_X3_refusesBy : ab_MI := (yX3_refusesBy, cX3_refusesBy, 5, ab_rty 0, 4, 135)
theorem pk_X3_refusesBy : P_X3_refusesBy.all (ab_okI cX3_refusesBy) = true := by decide +kernel
theorem ck_X3_refusesBy : P_X3_refusesBy.all (ab_okC1 "RootChunksModel" M_X3_refusesBy E_X3_refusesBy (4, 135)) = true := by decide +kernel
set_option maxRecDepth 100000 in
theorem b_X3_refusesBy_0 {Q : ab_Q} {a : Int} {b : Int} {v : Int} {s_ : Int → Int} {z_ : mc_T} {g_ : mg_T} (l1 : sp_X3_refusesSpan [.inr (.inl (some 0)), .inl a, .inl b] (md_cs s_ z_ g_) (fun r_ k_ => ∃ (x_ : Int), r_ = some (.inl x_) ∧ k_ = (md_cs s_ z_ g_) ∧ ab_R E_X3_refusesBy P_X3_refusesBy Q 6 [some (.inr (.inl (some 0))), some (.inl a), some (.inl b), some (.inl v), none] [.inl x_] (md_cs s_ z_ g_)))  : ab_R E_X3_refusesBy P_X3_refusesBy Q 0 [some (.inr (.inl (some 0))), some (.inl a), some (.inl b), some (.inl v), none] [] (md_cs s_ z_ g_) :=
  ab_R.steps [6, 17] 5 (show ab_cl sp_X3_refusesSpan [.inr (.inl (some 0)), .inl a, .inl b] (md_cs s_ z_ g_) (fun r_ k_ => k_.length = ((md_cs s_ z_ g_)).length → ab_R E_X3_refusesBy P_X3_refusesBy Q 6 [some (.inr (.inl (some 0))), some (.inl a), some (.inl b), some (.inl v), none] (ab_ret r_ []) k_) from ⟨_, l1, fun r_ k_ hz _ => by obtain ⟨x_, rfl, rfl, hR⟩ := hz; exact hR⟩)
set_option maxRecDepth 100000 in
theorem b_X3_refusesBy_6 {Q : ab_Q} {a : Int} {b : Int} {v : Int} {t0 : Int} {s_ : Int → Int} {z_ : mc_T} {g_ : mg_T} (l1 : ¬ t0 = (0 : Int) → Q (some (.inl t0)) (md_cs s_ z_ g_)) (l2 : t0 = (0 : Int) → sp_X3_isValue [.inl v] (md_cs s_ z_ g_) (fun r_ k_ => ∃ (x_ : Int), r_ = some (.inl x_) ∧ k_ = (md_cs s_ z_ g_) ∧ ab_R E_X3_refusesBy P_X3_refusesBy Q 17 [some (.inr (.inl (some 0))), some (.inl a), some (.inl b), some (.inl v), some (.inl t0)] [.inl x_] (md_cs s_ z_ g_))) (p1 : ab_r t0 := by intros; (try unfold ab_r); omega) : ab_R E_X3_refusesBy P_X3_refusesBy Q 6 [some (.inr (.inl (some 0))), some (.inl a), some (.inl b), some (.inl v), none] [.inl t0] (md_cs s_ z_ g_) :=
  ab_R.steps [6, 17] 6 (show (ab_r t0 ∧ ((¬ t0 = (0 : Int) → Q (some (.inl t0)) (md_cs s_ z_ g_)) ∧ (t0 = (0 : Int) → ab_cl sp_X3_isValue [.inl v] (md_cs s_ z_ g_) (fun r_ k_ => k_.length = ((md_cs s_ z_ g_)).length → ab_R E_X3_refusesBy P_X3_refusesBy Q 17 [some (.inr (.inl (some 0))), some (.inl a), some (.inl b), some (.inl v), some (.inl t0)] (ab_ret r_ []) k_)))) from ⟨p1, ⟨fun h1 => (l1 h1), fun h2 => ⟨_, (l2 h2), fun r_ k_ hz _ => by obtain ⟨x_, rfl, rfl, hR⟩ := hz; exact hR⟩⟩⟩)
set_option maxRecDepth 100000 in
theorem b_X3_refusesBy_17 {Q : ab_Q} {a : Int} {b : Int} {v : Int} {e : Int} {t0 : Int} {s_ : Int → Int} {z_ : mc_T} {g_ : mg_T} (l1 : ¬ t0 = (0 : Int) → Q (some (.inl e)) (md_cs s_ z_ g_)) (l2 : t0 = (0 : Int) → Q (some (.inl (-2))) (md_cs s_ z_ g_)) (p1 : ab_r t0 := by intros; (try unfold ab_r); omega) : ab_R E_X3_refusesBy P_X3_refusesBy Q 17 [some (.inr (.inl (some 0))), some (.inl a), some (.inl b), some (.inl v), some (.inl e)] [.inl t0] (md_cs s_ z_ g_) :=
  ab_R.steps [6, 17] 5 (show (ab_r t0 ∧ ((¬ t0 = (0 : Int) → Q (some (.inl e)) (md_cs s_ z_ g_)) ∧ (t0 = (0 : Int) → Q (some (.inl (-2))) (md_cs s_ z_ g_)))) from ⟨p1, ⟨fun h1 => (l1 h1), fun h2 => (l2 h2)⟩⟩)
-- ===== RootChunksModel.refusesAdd
def P_X3_refusesAdd : List ab_I := [(0, .aload_n 0, 1, []), (1, .iload_n 1, 2, []), (2, .iload_n 2, 3, []), (3, .iload_n 3, 4, []), (4, .invokevirtual 106, 7, []), (7, .istore 4, 9, []), (9, .iload_n 1, 10, []), (10, .istore 5, 12, []), (12, .iload 5, 14, []), (14, .iload_n 2, 15, []), (15, .if_icmp .gt 40, 18, [((0 : Int), 55)]), (18, .iload 4, 20, []), (20, .ifCond .ne 35, 23, [((0 : Int), 55)]), (23, .aload_n 0, 24, []), (24, .iload 5, 26, []), (26, .invokevirtual 61, 29, []), (29, .iload_n 3, 30, []), (30, .iadd, 31, []), (31, .ldc 110, 33, []), (33, .ldc 111, 35, []), (35, .invokestatic 91, 38, []), (38, .ifCond .eq 7, 41, [((0 : Int), 45)]), (41, .iconst 0, 42, []), (42, .goto 5, 45, [((0 : Int), 47)]), (45, .bipush (-5), 47, []), (47, .istore 4, 49, []), (49, .iinc 5 1, 52, []), (52, .goto (-40), 55, [((0 : Int), 12)]), (55, .iload 4, 57, []), (57, .ireturn, 58, [])]
def E_X3_refusesAdd : ab_E := (T_X3, [(4, (4, 3, [], 0, sp_X3_refusesBy)), (26, (2, 3, [], 0, sp_X3_valueAt)), (35, (3, 99, [], 0, sp_X3_in))], [], 0)
def M_X3_refusesAdd : List (Nat × ab_MI) := [(4, mi_X3_refusesBy), (26, mi_X3_valueAt), (35, mi_X3_in)]
def mi_X3_refusesAdd : ab_MI := (yX3_refusesAdd, cX3_refusesAdd, 6, ab_rty 0, 5, 159)
theorem pk_X3_refusesAdd : P_X3_refusesAdd.all (ab_okI cX3_refusesAdd) = true := by decide +kernel
theorem ck_X3_refusesAdd : P_X3_refusesAdd.all (ab_okC1 "RootChunksModel" M_X3_refusesAdd E_X3_refusesAdd (5, 159)) = true := by decide +kernel
set_option maxRecDepth 100000 in
theorem b_X3_refusesAdd_0 {Q : ab_Q} {a : Int} {b : Int} {v : Int} {s_ : Int → Int} {z_ : mc_T} {g_ : mg_T} (l1 : sp_X3_refusesBy [.inr (.inl (some 0)), .inl a, .inl b, .inl v] (md_cs s_ z_ g_) (fun r_ k_ => ∃ (x_ : Int), r_ = some (.inl x_) ∧ k_ = (md_cs s_ z_ g_) ∧ ab_R E_X3_refusesAdd P_X3_refusesAdd Q 7 [some (.inr (.inl (some 0))), some (.inl a), some (.inl b), some (.inl v), none, none] [.inl x_] (md_cs s_ z_ g_)))  : ab_R E_X3_refusesAdd P_X3_refusesAdd Q 0 [some (.inr (.inl (some 0))), some (.inl a), some (.inl b), some (.inl v), none, none] [] (md_cs s_ z_ g_) :=
  ab_R.steps [7, 12, 29, 38] 6 (show ab_cl sp_X3_refusesBy [.inr (.inl (some 0)), .inl a, .inl b, .inl v] (md_cs s_ z_ g_) (fun r_ k_ => k_.length = ((md_cs s_ z_ g_)).length → ab_R E_X3_refusesAdd P_X3_refusesAdd Q 7 [some (.inr (.inl (some 0))), some (.inl a), some (.inl b), some (.inl v), none, none] (ab_ret r_ []) k_) from ⟨_, l1, fun r_ k_ hz _ => by obtain ⟨x_, rfl, rfl, hR⟩ := hz; exact hR⟩)
set_option maxRecDepth 100000 in
theorem b_X3_refusesAdd_7 {Q : ab_Q} {a : Int} {b : Int} {v : Int} {t0 : Int} {s_ : Int → Int} {z_ : mc_T} {g_ : mg_T} (l1 : ab_R E_X3_refusesAdd P_X3_refusesAdd Q 12 [some (.inr (.inl (some 0))), some (.inl a), some (.inl b), some (.inl v), some (.inl t0), some (.inl a)] [] (md_cs s_ z_ g_))  : ab_R E_X3_refusesAdd P_X3_refusesAdd Q 7 [some (.inr (.inl (some 0))), some (.inl a), some (.inl b), some (.inl v), none, none] [.inl t0] (md_cs s_ z_ g_) :=
  ab_R.steps [7, 12, 29, 38] 5 (show ab_R E_X3_refusesAdd P_X3_refusesAdd Q 12 [some (.inr (.inl (some 0))), some (.inl a), some (.inl b), some (.inl v), some (.inl t0), some (.inl a)] [] (md_cs s_ z_ g_) from l1)
set_option maxRecDepth 100000 in
theorem b_X3_refusesAdd_12 {Q : ab_Q} {a : Int} {b : Int} {v : Int} {e : Int} {p : Int} {s_ : Int → Int} {z_ : mc_T} {g_ : mg_T} (l1 : b < p → Q (some (.inl e)) (md_cs s_ z_ g_)) (l2 : p ≤ b → ¬ e = (0 : Int) → Q (some (.inl e)) (md_cs s_ z_ g_)) (l3 : p ≤ b → e = (0 : Int) → sp_X3_valueAt [.inr (.inl (some 0)), .inl p] (md_cs s_ z_ g_) (fun r_ k_ => ∃ (x_ : Int), r_ = some (.inl x_) ∧ k_ = (md_cs s_ z_ g_) ∧ ab_R E_X3_refusesAdd P_X3_refusesAdd Q 29 [some (.inr (.inl (some 0))), some (.inl a), some (.inl b), some (.inl v), some (.inl e), some (.inl p)] [.inl x_] (md_cs s_ z_ g_))) (p1 : (ab_r p ∧ ab_r b) := by intros; (try unfold ab_r); omega) (p2 : p ≤ b → ab_r e := by intros; (try unfold ab_r); omega) : ab_R E_X3_refusesAdd P_X3_refusesAdd Q 12 [some (.inr (.inl (some 0))), some (.inl a), some (.inl b), some (.inl v), some (.inl e), some (.inl p)] [] (md_cs s_ z_ g_) :=
  ab_R.steps [7, 12, 29, 38] 9 (show ((ab_r p ∧ ab_r b) ∧ ((b < p → Q (some (.inl e)) (md_cs s_ z_ g_)) ∧ (p ≤ b → (ab_r e ∧ ((¬ e = (0 : Int) → Q (some (.inl e)) (md_cs s_ z_ g_)) ∧ (e = (0 : Int) → ab_cl sp_X3_valueAt [.inr (.inl (some 0)), .inl p] (md_cs s_ z_ g_) (fun r_ k_ => k_.length = ((md_cs s_ z_ g_)).length → ab_R E_X3_refusesAdd P_X3_refusesAdd Q 29 [some (.inr (.inl (some 0))), some (.inl a), some (.inl b), some (.inl v), some (.inl e), some (.inl p)] (ab_ret r_ []) k_))))))) from ⟨p1, ⟨fun h1 => (l1 h1), fun h2 => ⟨(p2 h2), ⟨fun h3 => (l2 h2 h3), fun h4 => ⟨_, (l3 h2 h4), fun r_ k_ hz _ => by obtain ⟨x_, rfl, rfl, hR⟩ := hz; exact hR⟩⟩⟩⟩⟩)
set_option maxRecDepth 100000 in
theorem b_X3_refusesAdd_29 {Q : ab_Q} {a : Int} {b : Int} {v : Int} {e : Int} {p : Int} {t0 : Int} {s_ : Int → Int} {z_ : mc_T} {g_ : mg_T} (l1 : sp_X3_in [.inl (t0 + v), .inl (-99999), .inl 99999] (md_cs s_ z_ g_) (fun r_ k_ => ∃ (x_ : Int), r_ = some (.inl x_) ∧ k_ = (md_cs s_ z_ g_) ∧ ab_R E_X3_refusesAdd P_X3_refusesAdd Q 38 [some (.inr (.inl (some 0))), some (.inl a), some (.inl b), some (.inl v), some (.inl e), some (.inl p)] [.inl x_] (md_cs s_ z_ g_)))  : ab_R E_X3_refusesAdd P_X3_refusesAdd Q 29 [some (.inr (.inl (some 0))), some (.inl a), some (.inl b), some (.inl v), some (.inl e), some (.inl p)] [.inl t0] (md_cs s_ z_ g_) :=
  ab_R.steps [7, 12, 29, 38] 6 (show ab_cl sp_X3_in [.inl (t0 + v), .inl (-99999), .inl 99999] (md_cs s_ z_ g_) (fun r_ k_ => k_.length = ((md_cs s_ z_ g_)).length → ab_R E_X3_refusesAdd P_X3_refusesAdd Q 38 [some (.inr (.inl (some 0))), some (.inl a), some (.inl b), some (.inl v), some (.inl e), some (.inl p)] (ab_ret r_ []) k_) from ⟨_, l1, fun r_ k_ hz _ => by obtain ⟨x_, rfl, rfl, hR⟩ := hz; exact hR⟩)
set_option maxRecDepth 100000 in
theorem b_X3_refusesAdd_38 {Q : ab_Q} {a : Int} {b : Int} {v : Int} {e : Int} {p : Int} {t0 : Int} {s_ : Int → Int} {z_ : mc_T} {g_ : mg_T} (l1 : t0 = (0 : Int) → ab_R E_X3_refusesAdd P_X3_refusesAdd Q 12 [some (.inr (.inl (some 0))), some (.inl a), some (.inl b), some (.inl v), some (.inl (-5)), some (.inl (p + 1))] [] (md_cs s_ z_ g_)) (l2 : ¬ t0 = (0 : Int) → ab_R E_X3_refusesAdd P_X3_refusesAdd Q 12 [some (.inr (.inl (some 0))), some (.inl a), some (.inl b), some (.inl v), some (.inl 0), some (.inl (p + 1))] [] (md_cs s_ z_ g_)) (p1 : ab_r t0 := by intros; (try unfold ab_r); omega) : ab_R E_X3_refusesAdd P_X3_refusesAdd Q 38 [some (.inr (.inl (some 0))), some (.inl a), some (.inl b), some (.inl v), some (.inl e), some (.inl p)] [.inl t0] (md_cs s_ z_ g_) :=
  ab_R.steps [7, 12, 29, 38] 8 (show (ab_r t0 ∧ ((t0 = (0 : Int) → ab_R E_X3_refusesAdd P_X3_refusesAdd Q 12 [some (.inr (.inl (some 0))), some (.inl a), some (.inl b), some (.inl v), some (.inl (-5)), some (.inl (p + 1))] [] (md_cs s_ z_ g_)) ∧ (¬ t0 = (0 : Int) → ab_R E_X3_refusesAdd P_X3_refusesAdd Q 12 [some (.inr (.inl (some 0))), some (.inl a), some (.inl b), some (.inl v), some (.inl 0), some (.inl (p + 1))] [] (md_cs s_ z_ g_)))) from ⟨p1, ⟨fun h1 => (l1 h1), fun h2 => (l2 h2)⟩⟩)
-- ===== RootChunksModel.refusesMove
def P_X3_refusesMove : List ab_I := [(0, .aload_n 0, 1, []), (1, .iload_n 1, 2, []), (2, .iload_n 2, 3, []), (3, .invokevirtual 102, 6, []), (6, .istore 4, 8, []), (8, .iload 4, 10, []), (10, .ifCond .ne 28, 13, [((0 : Int), 38)]), (13, .iload_n 3, 14, []), (14, .iconst 0, 15, []), (15, .aload_n 0, 16, []), (16, .getfield 7, 19, []), (19, .iconst 0, 20, []), (20, .iaload, 21, []), (21, .iload_n 2, 22, []), (22, .iload_n 1, 23, []), (23, .isub, 24, []), (24, .iconst 1, 25, []), (25, .iadd, 26, []), (26, .isub, 27, []), (27, .invokestatic 91, 30, []), (30, .ifCond .ne 8, 33, [((0 : Int), 38)]), (33, .bipush (-2), 35, []), (35, .goto 5, 38, [((0 : Int), 40)]), (38, .iload 4, 40, []), (40, .ireturn, 41, [])]
def E_X3_refusesMove : ab_E := (T_X3, [(3, (3, 3, [], 0, sp_X3_refusesSpan)), (27, (3, 99, [], 0, sp_X3_in))], [], 0)
def M_X3_refusesMove : List (Nat × ab_MI) := [(3, mi_X3_refusesSpan), (27, mi_X3_in)]
def mi_X3_refusesMove : ab_MI := (yX3_refusesMove, cX3_refusesMove, 5, ab_rty 0, 4, 135)
theorem pk_X3_refusesMove : P_X3_refusesMove.all (ab_okI cX3_refusesMove) = true := by decide +kernel
theorem ck_X3_refusesMove : P_X3_refusesMove.all (ab_okC1 "RootChunksModel" M_X3_refusesMove E_X3_refusesMove (4, 135)) = true := by decide +kernel
set_option maxRecDepth 100000 in
theorem b_X3_refusesMove_0 {Q : ab_Q} {a : Int} {b : Int} {p : Int} {s_ : Int → Int} {z_ : mc_T} {g_ : mg_T} (l1 : sp_X3_refusesSpan [.inr (.inl (some 0)), .inl a, .inl b] (md_cs s_ z_ g_) (fun r_ k_ => ∃ (x_ : Int), r_ = some (.inl x_) ∧ k_ = (md_cs s_ z_ g_) ∧ ab_R E_X3_refusesMove P_X3_refusesMove Q 6 [some (.inr (.inl (some 0))), some (.inl a), some (.inl b), some (.inl p), none] [.inl x_] (md_cs s_ z_ g_)))  : ab_R E_X3_refusesMove P_X3_refusesMove Q 0 [some (.inr (.inl (some 0))), some (.inl a), some (.inl b), some (.inl p), none] [] (md_cs s_ z_ g_) :=
  ab_R.steps [6, 30] 5 (show ab_cl sp_X3_refusesSpan [.inr (.inl (some 0)), .inl a, .inl b] (md_cs s_ z_ g_) (fun r_ k_ => k_.length = ((md_cs s_ z_ g_)).length → ab_R E_X3_refusesMove P_X3_refusesMove Q 6 [some (.inr (.inl (some 0))), some (.inl a), some (.inl b), some (.inl p), none] (ab_ret r_ []) k_) from ⟨_, l1, fun r_ k_ hz _ => by obtain ⟨x_, rfl, rfl, hR⟩ := hz; exact hR⟩)
set_option maxRecDepth 100000 in
theorem b_X3_refusesMove_6 {Q : ab_Q} {a : Int} {b : Int} {p : Int} {t0 : Int} {s_ : Int → Int} {z_ : mc_T} {g_ : mg_T} (l1 : ¬ t0 = (0 : Int) → Q (some (.inl t0)) (md_cs s_ z_ g_)) (l2 : t0 = (0 : Int) → sp_X3_in [.inl p, .inl 0, .inl ((s_ 0) - ((b - a) + 1))] (md_cs s_ z_ g_) (fun r_ k_ => ∃ (x_ : Int), r_ = some (.inl x_) ∧ k_ = (md_cs s_ z_ g_) ∧ ab_R E_X3_refusesMove P_X3_refusesMove Q 30 [some (.inr (.inl (some 0))), some (.inl a), some (.inl b), some (.inl p), some (.inl t0)] [.inl x_] (md_cs s_ z_ g_))) (p1 : ab_r t0 := by intros; (try unfold ab_r); omega) (p2 : t0 = (0 : Int) → (0 ≤ (0 : Int) ∧ (0 : Int) < 255) := by intros; (try unfold ab_r); omega) : ab_R E_X3_refusesMove P_X3_refusesMove Q 6 [some (.inr (.inl (some 0))), some (.inl a), some (.inl b), some (.inl p), none] [.inl t0] (md_cs s_ z_ g_) :=
  ab_R.steps [6, 30] 17 (show (ab_r t0 ∧ ((¬ t0 = (0 : Int) → Q (some (.inl t0)) (md_cs s_ z_ g_)) ∧ (t0 = (0 : Int) → ((0 ≤ (0 : Int) ∧ (0 : Int) < 255) ∧ ab_cl sp_X3_in [.inl p, .inl 0, .inl ((s_ 0) - ((b - a) + 1))] (md_cs s_ z_ g_) (fun r_ k_ => k_.length = ((md_cs s_ z_ g_)).length → ab_R E_X3_refusesMove P_X3_refusesMove Q 30 [some (.inr (.inl (some 0))), some (.inl a), some (.inl b), some (.inl p), some (.inl t0)] (ab_ret r_ []) k_))))) from ⟨p1, ⟨fun h1 => (l1 h1), fun h2 => ⟨(p2 h2), ⟨_, (l2 h2), fun r_ k_ hz _ => by obtain ⟨x_, rfl, rfl, hR⟩ := hz; exact hR⟩⟩⟩⟩)
set_option maxRecDepth 100000 in
theorem b_X3_refusesMove_30 {Q : ab_Q} {a : Int} {b : Int} {p : Int} {e : Int} {t0 : Int} {s_ : Int → Int} {z_ : mc_T} {g_ : mg_T} (l1 : ¬ t0 = (0 : Int) → Q (some (.inl e)) (md_cs s_ z_ g_)) (l2 : t0 = (0 : Int) → Q (some (.inl (-2))) (md_cs s_ z_ g_)) (p1 : ab_r t0 := by intros; (try unfold ab_r); omega) : ab_R E_X3_refusesMove P_X3_refusesMove Q 30 [some (.inr (.inl (some 0))), some (.inl a), some (.inl b), some (.inl p), some (.inl e)] [.inl t0] (md_cs s_ z_ g_) :=
  ab_R.steps [6, 30] 5 (show (ab_r t0 ∧ ((¬ t0 = (0 : Int) → Q (some (.inl e)) (md_cs s_ z_ g_)) ∧ (t0 = (0 : Int) → Q (some (.inl (-2))) (md_cs s_ z_ g_)))) from ⟨p1, ⟨fun h1 => (l1 h1), fun h2 => (l2 h2)⟩⟩)
theorem vc_X3_in {av : List ab_V} {cs : List ab_C} {Q : ab_Q} (h : sp_X3_in av cs Q) : (ab_lv0 av).length ≤ 3 ∧ ab_R E_X3_in P_X3_in Q 0 (ab_ent av 3) [] cs := by
  obtain ⟨v, a, b, rfl, hv, ha, hb, hQ⟩ := h
  refine ⟨Nat.le_of_ble_eq_true rfl, ?_⟩
  unfold ab_r at hv ha hb
  refine b_X3_in_0 (fun h1 => ?_) (fun h1 h2 => ?_) (fun h1 h2 => ?_)
  · rwa [if_neg (by omega)] at hQ
  · rwa [if_neg (by omega)] at hQ
  · rwa [if_pos (by omega)] at hQ
theorem mt_X3_in (l : Launch) : ab_MT l mi_X3_in sp_X3_in := ab_MT.of (own := "RootChunksModel") (E := E_X3_in) (P := P_X3_in) (M := M_X3_in) (nL := 3) (ty := 2) (by decide) rfl rfl tk_X3 pk_X3_in ck_X3_in ab_CT'.nil (fun av cs Q h => vc_X3_in h)
theorem vc_X3_isValue {av : List ab_V} {cs : List ab_C} {Q : ab_Q} (h : sp_X3_isValue av cs Q) : (ab_lv0 av).length ≤ 1 ∧ ab_R E_X3_isValue P_X3_isValue Q 0 (ab_ent av 1) [] cs := by
  obtain ⟨v, rfl, hv, hQ⟩ := h
  refine ⟨Nat.le_of_ble_eq_true rfl, ?_⟩
  refine b_X3_isValue_0 ⟨_, _, _, rfl, hv, by unfold ab_r; omega, by unfold ab_r; omega, _, rfl, rfl, ?_⟩
  exact b_X3_isValue_10 hQ (p1 := by split <;> simp)
theorem mt_X3_isValue (l : Launch) : ab_MT l mi_X3_isValue sp_X3_isValue := ab_MT.of (own := "RootChunksModel") (E := E_X3_isValue) (P := P_X3_isValue) (M := M_X3_isValue) (nL := 1) (ty := 2) (by decide) rfl rfl tk_X3 pk_X3_isValue ck_X3_isValue (ab_CT'.cons (mt_X3_in l) ab_CT'.nil) (fun av cs Q h => vc_X3_isValue h)
theorem vc_X3_isPlace {av : List ab_V} {cs : List ab_C} {Q : ab_Q} (h : sp_X3_isPlace av cs Q) : (ab_lv0 av).length ≤ 2 ∧ ab_R E_X3_isPlace P_X3_isPlace Q 0 (ab_ent av 2) [] cs := by
  obtain ⟨s, z, g, q, p, rfl, rfl, hR, hW, hp, hQ⟩ := h
  refine ⟨Nat.le_of_ble_eq_true rfl, ?_⟩
  have hn : s 0 = ((mq_flat q).length : Nat) := hR.2.2.2.2.1
  have hfl := hW.2
  refine b_X3_isPlace_0 ⟨_, _, _, rfl, hp, by unfold ab_r; omega, by unfold ab_r; omega, _, rfl, rfl, ?_⟩
  refine b_X3_isPlace_13 ?_ (p1 := by split <;> simp)
  by_cases y : mq_pl q p
  · have y2 := y
    unfold mq_pl mq_n at y2
    rw [if_pos y] at hQ
    rwa [if_pos (by omega)]
  · have y2 := y
    unfold mq_pl mq_n at y2
    rw [if_neg y] at hQ
    rwa [if_neg (by omega)]
theorem mt_X3_isPlace (l : Launch) : ab_MT l mi_X3_isPlace sp_X3_isPlace := ab_MT.of (own := "RootChunksModel") (E := E_X3_isPlace) (P := P_X3_isPlace) (M := M_X3_isPlace) (nL := 2) (ty := 2) (by decide) rfl rfl tk_X3 pk_X3_isPlace ck_X3_isPlace (ab_CT'.cons (mt_X3_in l) ab_CT'.nil) (fun av cs Q h => vc_X3_isPlace h)
theorem vc_X3_refusesSpan {av : List ab_V} {cs : List ab_C} {Q : ab_Q} (h : sp_X3_refusesSpan av cs Q) : (ab_lv0 av).length ≤ 3 ∧ ab_R E_X3_refusesSpan P_X3_refusesSpan Q 0 (ab_ent av 3) [] cs := by
  obtain ⟨s, z, g, q, a, b, rfl, rfl, hR, hW, ha, hb, hQ⟩ := h
  refine ⟨Nat.le_of_ble_eq_true rfl, ?_⟩
  unfold mq_eSpan at hQ
  refine b_X3_refusesSpan_0 ⟨_, _, _, _, _, rfl, rfl, hR, hW, ha, _, rfl, rfl, ?_⟩
  by_cases y : mq_pl q a
  · rw [if_pos y] at hQ ⊢
    refine b_X3_refusesSpan_5 (fun h => by omega) (fun _ => ⟨_, _, _, _, _, rfl, rfl, hR, hW, hb, _, rfl, rfl, ?_⟩)
    by_cases y2 : mq_pl q b
    · rw [if_pos y2] at hQ ⊢
      refine b_X3_refusesSpan_13 (fun _ h => ?_) (fun _ h => ?_) (fun h => by omega) (p2 := fun _ => ⟨hb, ha⟩)
      · rwa [if_neg (by omega)] at hQ
      · rwa [if_pos (by omega)] at hQ
    · rw [if_neg y2] at hQ ⊢
      exact b_X3_refusesSpan_13 (fun h => absurd rfl h) (fun h => absurd rfl h) (fun _ => hQ) (p2 := fun _ => ⟨hb, ha⟩)
  · rw [if_neg y] at hQ ⊢
    exact b_X3_refusesSpan_5 (fun _ => hQ) (fun h => absurd rfl h)
theorem mt_X3_refusesSpan (l : Launch) : ab_MT l mi_X3_refusesSpan sp_X3_refusesSpan := ab_MT.of (own := "RootChunksModel") (E := E_X3_refusesSpan) (P := P_X3_refusesSpan) (M := M_X3_refusesSpan) (nL := 3) (ty := 0) (by decide) rfl rfl tk_X3 pk_X3_refusesSpan ck_X3_refusesSpan (ab_CT'.cons (mt_X3_isPlace l) (ab_CT'.cons (mt_X3_isPlace l) ab_CT'.nil)) (fun av cs Q h => vc_X3_refusesSpan h)
theorem vc_X3_refusesPut {av : List ab_V} {cs : List ab_C} {Q : ab_Q} (h : sp_X3_refusesPut av cs Q) : (ab_lv0 av).length ≤ 3 ∧ ab_R E_X3_refusesPut P_X3_refusesPut Q 0 (ab_ent av 3) [] cs := by
  obtain ⟨s, z, g, q, p, v, rfl, rfl, hR, hW, hp, hv, hQ⟩ := h
  refine ⟨Nat.le_of_ble_eq_true rfl, ?_⟩
  have hn : s 0 = ((mq_flat q).length : Nat) := hR.2.2.2.2.1
  have hfl := hW.2
  unfold mq_ePut at hQ
  have e : mq_n q = s 0 := hn.symm
  rw [e] at hQ
  refine b_X3_refusesPut_0 ⟨_, _, _, rfl, hp, by unfold ab_r; omega, by unfold ab_r; omega, _, rfl, rfl, ?_⟩
  by_cases y : 0 ≤ p ∧ p ≤ s 0
  · rw [if_pos y] at hQ ⊢
    refine b_X3_refusesPut_11 (fun _ => ⟨_, rfl, hv, _, rfl, rfl, ?_⟩) (fun h => by omega)
    by_cases y2 : mq_vl v
    · rw [if_pos y2] at hQ ⊢
      refine b_X3_refusesPut_20 (fun _ h => ?_) (fun _ h => ?_) (fun h => by omega)
      · rwa [if_neg h] at hQ
      · rwa [if_pos h] at hQ
    · rw [if_neg y2] at hQ ⊢
      exact b_X3_refusesPut_20 (fun h => absurd rfl h) (fun h => absurd rfl h) (fun _ => hQ)
  · rw [if_neg y] at hQ ⊢
    exact b_X3_refusesPut_11 (fun h => absurd rfl h) (fun _ => hQ)
theorem mt_X3_refusesPut (l : Launch) : ab_MT l mi_X3_refusesPut sp_X3_refusesPut := ab_MT.of (own := "RootChunksModel") (E := E_X3_refusesPut) (P := P_X3_refusesPut) (M := M_X3_refusesPut) (nL := 3) (ty := 0) (by decide) rfl rfl tk_X3 pk_X3_refusesPut ck_X3_refusesPut (ab_CT'.cons (mt_X3_in l) (ab_CT'.cons (mt_X3_isValue l) ab_CT'.nil)) (fun av cs Q h => vc_X3_refusesPut h)
theorem vc_X3_refusesSet {av : List ab_V} {cs : List ab_C} {Q : ab_Q} (h : sp_X3_refusesSet av cs Q) : (ab_lv0 av).length ≤ 3 ∧ ab_R E_X3_refusesSet P_X3_refusesSet Q 0 (ab_ent av 3) [] cs := by
  obtain ⟨s, z, g, q, p, v, rfl, rfl, hR, hW, hp, hv, hQ⟩ := h
  refine ⟨Nat.le_of_ble_eq_true rfl, ?_⟩
  unfold mq_eSet at hQ
  refine b_X3_refusesSet_0 ⟨_, _, _, _, _, rfl, rfl, hR, hW, hp, _, rfl, rfl, ?_⟩
  by_cases y : mq_pl q p
  · rw [if_pos y] at hQ ⊢
    refine b_X3_refusesSet_5 (fun _ => ⟨_, rfl, hv, _, rfl, rfl, ?_⟩) (fun h => by omega)
    by_cases y2 : mq_vl v
    · rw [if_pos y2] at hQ ⊢
      exact b_X3_refusesSet_14 (fun h => by omega) (fun _ => hQ)
    · rw [if_neg y2] at hQ ⊢
      exact b_X3_refusesSet_14 (fun _ => hQ) (fun h => absurd rfl h)
  · rw [if_neg y] at hQ ⊢
    exact b_X3_refusesSet_5 (fun h => absurd rfl h) (fun _ => hQ)
theorem mt_X3_refusesSet (l : Launch) : ab_MT l mi_X3_refusesSet sp_X3_refusesSet := ab_MT.of (own := "RootChunksModel") (E := E_X3_refusesSet) (P := P_X3_refusesSet) (M := M_X3_refusesSet) (nL := 3) (ty := 0) (by decide) rfl rfl tk_X3 pk_X3_refusesSet ck_X3_refusesSet (ab_CT'.cons (mt_X3_isPlace l) (ab_CT'.cons (mt_X3_isValue l) ab_CT'.nil)) (fun av cs Q h => vc_X3_refusesSet h)
theorem vc_X3_refusesBy {av : List ab_V} {cs : List ab_C} {Q : ab_Q} (h : sp_X3_refusesBy av cs Q) : (ab_lv0 av).length ≤ 5 ∧ ab_R E_X3_refusesBy P_X3_refusesBy Q 0 (ab_ent av 5) [] cs := by
  obtain ⟨s, z, g, q, a, b, v, rfl, rfl, hR, hW, ha, hb, hv, hQ⟩ := h
  refine ⟨Nat.le_of_ble_eq_true rfl, ?_⟩
  unfold mq_eBy at hQ
  have hin := mq_eSpan_in q a b
  refine b_X3_refusesBy_0 ⟨_, _, _, _, _, _, rfl, rfl, hR, hW, ha, hb, _, rfl, rfl, ?_⟩
  refine b_X3_refusesBy_6 (fun h => ?_) (fun h => ⟨_, rfl, hv, _, rfl, rfl, ?_⟩)
  · rwa [if_neg h] at hQ
  · rw [if_pos h] at hQ
    by_cases y2 : mq_vl v
    · rw [if_pos y2] at hQ ⊢
      refine b_X3_refusesBy_17 (fun _ => ?_) (fun h => by omega)
      rw [h]; exact hQ
    · rw [if_neg y2] at hQ ⊢
      exact b_X3_refusesBy_17 (fun h => absurd rfl h) (fun _ => hQ)
theorem mt_X3_refusesBy (l : Launch) : ab_MT l mi_X3_refusesBy sp_X3_refusesBy := ab_MT.of (own := "RootChunksModel") (E := E_X3_refusesBy) (P := P_X3_refusesBy) (M := M_X3_refusesBy) (nL := 5) (ty := 0) (by decide) rfl rfl tk_X3 pk_X3_refusesBy ck_X3_refusesBy (ab_CT'.cons (mt_X3_refusesSpan l) (ab_CT'.cons (mt_X3_isValue l) ab_CT'.nil)) (fun av cs Q h => vc_X3_refusesBy h)
theorem vc_X3_refusesAdd {av : List ab_V} {cs : List ab_C} {Q : ab_Q} (h : sp_X3_refusesAdd av cs Q) : (ab_lv0 av).length ≤ 6 ∧ ab_R E_X3_refusesAdd P_X3_refusesAdd Q 0 (ab_ent av 6) [] cs := by
  obtain ⟨s, z, g, q, a, b, v, rfl, rfl, hR, hW, ha, hb, hv, hQ⟩ := h
  refine ⟨Nat.le_of_ble_eq_true rfl, ?_⟩
  have hfl := hW.2
  have hin := mq_eBy_in q a b v
  refine b_X3_refusesAdd_0 ⟨_, _, _, _, _, _, _, rfl, rfl, hR, hW, ha, hb, hv, _, rfl, rfl, ?_⟩
  refine b_X3_refusesAdd_7 ?_
  unfold mq_eAdd at hQ
  by_cases y : mq_eBy q a b v = 0
  · rw [if_pos y] at hQ
    rw [y]
    obtain ⟨y1, y2⟩ := mq_eBy_0 y
    have y3 := mq_eSpan_0 y1
    unfold mq_n at y3
    unfold mq_vl at y2
    unfold ab_r at ha hb
    have loop : ∀ (m : Nat) (p : Int), b + 1 - p = m → a ≤ p → Q (some (.inl (if mq_fits v (mq_sp q p b) = true then 0 else -5))) (md_cs s z g) → ab_R E_X3_refusesAdd P_X3_refusesAdd Q 12 [some (.inr (.inl (some 0))), some (.inl a), some (.inl b), some (.inl v), some (.inl 0), some (.inl p)] [] (md_cs s z g) := by
      intro m
      induction m with
      | zero =>
        intro p g1 g2 g3
        rw [mq_sp_nil q p b (by omega)] at g3
        exact b_X3_refusesAdd_12 (fun _ => g3) (fun h => by omega) (fun h => by omega)
      | succ m ih =>
        intro p g1 g2 g3
        obtain ⟨x, hx, e⟩ := mq_sp_cons (q := q) (p := p) (b := b) (by omega) (by omega) (by unfold mq_n; omega)
        have hxin := mq_all_in hW x (List.mem_of_getElem? hx)
        rw [e] at g3
        refine b_X3_refusesAdd_12 (fun h => by omega) (fun _ h => absurd rfl h) (fun _ _ => ⟨_, _, _, q, _, p.toNat, x, rfl, rfl, hR, hW, by omega, hx, _, rfl, rfl, ?_⟩)
        refine b_X3_refusesAdd_29 ⟨_, _, _, rfl, by unfold ab_r; omega, by unfold ab_r; omega, by unfold ab_r; omega, _, rfl, rfl, ?_⟩
        by_cases w : -99999 ≤ x + v ∧ x + v ≤ 99999
        · rw [if_pos w]
          refine b_X3_refusesAdd_38 (fun h => by omega) (fun _ => ih _ (by omega) (by omega) ?_)
          have : mq_fits v (x :: mq_sp q (p + 1) b) = mq_fits v (mq_sp q (p + 1) b) := by
            unfold mq_fits
            rw [List.all_cons, decide_eq_true w, Bool.true_and]
          rwa [this] at g3
        · rw [if_neg w]
          have : mq_fits v (x :: mq_sp q (p + 1) b) = false := by
            unfold mq_fits
            rw [List.all_cons, decide_eq_false w, Bool.false_and]
          rw [this, if_neg (by simp)] at g3
          refine b_X3_refusesAdd_38 (fun _ => ?_) (fun h => absurd rfl h)
          by_cases w2 : b < p + 1
          · exact b_X3_refusesAdd_12 (fun _ => g3) (fun h => by omega) (fun h => by omega)
          · exact b_X3_refusesAdd_12 (fun h => by omega) (fun _ _ => g3) (fun _ h => by omega)
    exact loop (b + 1 - a).toNat a (by omega) (by omega) hQ
  · rw [if_neg y] at hQ
    by_cases w2 : b < a
    · exact b_X3_refusesAdd_12 (fun _ => hQ) (fun h => by omega) (fun h => by omega) (p1 := ⟨ha, hb⟩)
    · exact b_X3_refusesAdd_12 (fun h => by omega) (fun _ _ => hQ) (fun _ h => absurd h y) (p1 := ⟨ha, hb⟩)
theorem mt_X3_refusesAdd (l : Launch) : ab_MT l mi_X3_refusesAdd sp_X3_refusesAdd := ab_MT.of (own := "RootChunksModel") (E := E_X3_refusesAdd) (P := P_X3_refusesAdd) (M := M_X3_refusesAdd) (nL := 6) (ty := 0) (by decide) rfl rfl tk_X3 pk_X3_refusesAdd ck_X3_refusesAdd (ab_CT'.cons (mt_X3_refusesBy l) (ab_CT'.cons (mt_X3_valueAt l) (ab_CT'.cons (mt_X3_in l) ab_CT'.nil))) (fun av cs Q h => vc_X3_refusesAdd h)
theorem vc_X3_refusesMove {av : List ab_V} {cs : List ab_C} {Q : ab_Q} (h : sp_X3_refusesMove av cs Q) : (ab_lv0 av).length ≤ 5 ∧ ab_R E_X3_refusesMove P_X3_refusesMove Q 0 (ab_ent av 5) [] cs := by
  obtain ⟨s, z, g, q, a, b, p, rfl, rfl, hR, hW, ha, hb, hp, hQ⟩ := h
  refine ⟨Nat.le_of_ble_eq_true rfl, ?_⟩
  have hn : s 0 = ((mq_flat q).length : Nat) := hR.2.2.2.2.1
  have hfl := hW.2
  unfold mq_eMove at hQ
  have e : mq_n q = s 0 := hn.symm
  rw [e] at hQ
  have hin := mq_eSpan_in q a b
  refine b_X3_refusesMove_0 ⟨_, _, _, _, _, _, rfl, rfl, hR, hW, ha, hb, _, rfl, rfl, ?_⟩
  refine b_X3_refusesMove_6 (fun h => ?_) (fun h => ?_)
  · rwa [if_neg h] at hQ
  · rw [if_pos h] at hQ
    have y3 := mq_eSpan_0 h
    rw [e] at y3
    refine ⟨_, _, _, rfl, hp, by unfold ab_r; omega, by unfold ab_r; omega, _, rfl, rfl, ?_⟩
    by_cases y2 : 0 ≤ p ∧ p ≤ s 0 - (b - a + 1)
    · rw [if_pos y2] at hQ ⊢
      refine b_X3_refusesMove_30 (fun _ => ?_) (fun h => by omega)
      rw [h]; exact hQ
    · rw [if_neg y2] at hQ ⊢
      exact b_X3_refusesMove_30 (fun h => absurd rfl h) (fun _ => hQ)
theorem mt_X3_refusesMove (l : Launch) : ab_MT l mi_X3_refusesMove sp_X3_refusesMove := ab_MT.of (own := "RootChunksModel") (E := E_X3_refusesMove) (P := P_X3_refusesMove) (M := M_X3_refusesMove) (nL := 5) (ty := 0) (by decide) rfl rfl tk_X3 pk_X3_refusesMove ck_X3_refusesMove (ab_CT'.cons (mt_X3_refusesSpan l) (ab_CT'.cons (mt_X3_in l) ab_CT'.nil)) (fun av cs Q h => vc_X3_refusesMove h)
