/-! QUESTIONS, undone, saved -/
def mf_ul : List Int → List Int → Int
  | _, [] => 0
  | p, x :: l => (if mf_like x p = 0 then 1 else 0) + mf_ul (p ++ [x]) l
def mf_unlike (q : List mq_K) (a b : Int) : Int := if mq_eSpan q a b = 0 then mf_ul [] (mq_sp q a b) else mq_eSpan q a b
abbrev mf_kt (l : List Int) (k v : Int) : Prop := mf_less v l ≤ k ∧ k < mf_less v l + mf_like v l
def mf_kv (l : List Int) (k : Int) : Int := (l.find? (fun v => decide (mf_kt l k v))).getD 0
def mf_kth (q : List mq_K) (a b k : Int) : Int := if mq_eSpan q a b = 0 then (if 0 ≤ k ∧ k ≤ b - a then mf_kv (mq_sp q a b) k + 100000 else -2) else mq_eSpan q a b
def mf_cost (q : List mq_K) (a b : Int) : Int := if mq_eSpan q a b = 0 then (mf_do 116 q a b 0).2 else mq_eSpan q a b
def mf_undo (S : mS_T) : Int × mS_T := match S.2.1.getLast? with
  | none => (-5, S)
  | some x => (((S.2.1.length - 1 : Nat) : Int), (x, S.2.1.dropLast, S.2.2))
def mf_save (S : mS_T) (a : Int) : Int × mS_T := if a = 0 then (mq_n S.1.1, (S.1, S.2.1, (some S.1, S.2.2.1.2), S.2.2.2)) else if a = 1 then (mq_n S.1.1, (S.1, S.2.1, (S.2.2.1.1, some S.1), S.2.2.2)) else (-2, S)
def mf_rest (S : mS_T) (o : Option mS_X) : Int × mS_T := match o with
  | none => (-5, S)
  | some x => (mq_n x.1, (x, mh_push S.2.1 S.1, S.2.2))
def mf_restore (S : mS_T) (a : Int) : Int × mS_T := if a = 0 then mf_rest S S.2.2.1.1 else if a = 1 then mf_rest S S.2.2.1.2 else (-2, S)
def sp_X3_unlike : ab_Sp := mh_in2 (fun S a b => (mf_unlike S.1.1 a b, S))
def sp_X3_kth : ab_Sp := mh_in3 (fun S a b k => (mf_kth S.1.1 a b k, S))
def sp_X3_costOfTurn : ab_Sp := mh_in2 (fun S a b => (mf_cost S.1.1 a b, S))
def sp_X3_wipe : ab_Sp := mh_in0 (fun S => ((S.2.2.2.length : Nat), (S.1, S.2.1, S.2.2.1, [])))
def sp_X3_undo : ab_Sp := mh_in0 mf_undo
def sp_X3_save : ab_Sp := mh_in1 mf_save
def sp_X3_restore : ab_Sp := mh_in1 mf_restore
-- ===== RootChunksModel.unlike
def P_X3_unlike : List ab_I := [(0, .aload_n 0, 1, []), (1, .iconst 0, 2, []), (2, .putfield 47, 5, []), (5, .aload_n 0, 6, []), (6, .iload_n 1, 7, []), (7, .iload_n 2, 8, []), (8, .invokevirtual 102, 11, []), (11, .istore_n 3, 12, []), (12, .iload_n 3, 13, []), (13, .ifCond .eq 5, 16, [((0 : Int), 18)]), (16, .iload_n 3, 17, []), (17, .ireturn, 18, []), (18, .iconst 0, 19, []), (19, .istore 4, 21, []), (21, .iload_n 1, 22, []), (22, .istore 5, 24, []), (24, .iload 5, 26, []), (26, .iload_n 2, 27, []), (27, .if_icmp .gt 43, 30, [((0 : Int), 70)]), (30, .iload 4, 32, []), (32, .iload 5, 34, []), (34, .iload_n 1, 35, []), (35, .if_icmp .eq 21, 38, [((0 : Int), 56)]), (38, .aload_n 0, 39, []), (39, .iload_n 1, 40, []), (40, .iload 5, 42, []), (42, .iconst 1, 43, []), (43, .isub, 44, []), (44, .aload_n 0, 45, []), (45, .iload 5, 47, []), (47, .invokevirtual 61, 50, []), (50, .invokevirtual 162, 53, []), (53, .ifCond .ne 7, 56, [((0 : Int), 60)]), (56, .iconst 1, 57, []), (57, .goto 4, 60, [((0 : Int), 61)]), (60, .iconst 0, 61, []), (61, .iadd, 62, []), (62, .istore 4, 64, []), (64, .iinc 5 1, 67, []), (67, .goto (-43), 70, [((0 : Int), 24)]), (70, .iload 4, 72, []), (72, .ireturn, 73, [])]
def E_X3_unlike : ab_E := (T_X3, [(8, (3, 3, [], 0, sp_X3_refusesSpan)), (47, (2, 3, [], 0, sp_X3_valueAt)), (50, (4, 3, [], 0, sp_X3_alike))], [], 0)
def M_X3_unlike : List (Nat × ab_MI) := [(8, mi_X3_refusesSpan), (47, mi_X3_valueAt), (50, mi_X3_alike)]
def mi_X3_unlike : ab_MI := (yX3_unlike, cX3_unlike, 6, ab_rty 0, 4, 142)
theorem pk_X3_unlike : P_X3_unlike.all (ab_okI cX3_unlike) = true := by decide +kernel
theorem ck_X3_unlike : P_X3_unlike.all (ab_okC1 "RootChunksModel" M_X3_unlike E_X3_unlike (4, 142)) = true := by decide +kernel
set_option maxRecDepth 100000 in
theorem b_X3_unlike_0 {Q : ab_Q} {a : Int} {b : Int} {s_ : Int → Int} {z_ : mc_T} {g_th : Int} {g_as : Int → Int} {g_un : Int → Int} {g_um : Int} {g_sl : Int → Int} {g_hs : Int → Int} {g_pd : Int → Int} {g_ln : Int} {g_at : Int} {g_iw : Int} {g_os : Int → Int} {g_om : Int} (l1 : sp_X3_refusesSpan [.inr (.inl (some 0)), .inl a, .inl b] (md_cs s_ z_ (0, g_as, g_un, g_um, g_sl, g_hs, g_pd, g_ln, g_at, g_iw, g_os, g_om)) (fun r_ k_ => ∃ (x_ : Int), r_ = some (.inl x_) ∧ k_ = (md_cs s_ z_ (0, g_as, g_un, g_um, g_sl, g_hs, g_pd, g_ln, g_at, g_iw, g_os, g_om)) ∧ ab_R E_X3_unlike P_X3_unlike Q 11 [some (.inr (.inl (some 0))), some (.inl a), some (.inl b), none, none, none] [.inl x_] (md_cs s_ z_ (0, g_as, g_un, g_um, g_sl, g_hs, g_pd, g_ln, g_at, g_iw, g_os, g_om))))  : ab_R E_X3_unlike P_X3_unlike Q 0 [some (.inr (.inl (some 0))), some (.inl a), some (.inl b), none, none, none] [] (md_cs s_ z_ (g_th, g_as, g_un, g_um, g_sl, g_hs, g_pd, g_ln, g_at, g_iw, g_os, g_om)) :=
  ab_R.steps [11, 24, 50, 53] 8 (show ab_cl sp_X3_refusesSpan [.inr (.inl (some 0)), .inl a, .inl b] (md_cs s_ z_ (0, g_as, g_un, g_um, g_sl, g_hs, g_pd, g_ln, g_at, g_iw, g_os, g_om)) (fun r_ k_ => k_.length = ((md_cs s_ z_ (0, g_as, g_un, g_um, g_sl, g_hs, g_pd, g_ln, g_at, g_iw, g_os, g_om))).length → ab_R E_X3_unlike P_X3_unlike Q 11 [some (.inr (.inl (some 0))), some (.inl a), some (.inl b), none, none, none] (ab_ret r_ []) k_) from ⟨_, l1, fun r_ k_ hz _ => by obtain ⟨x_, rfl, rfl, hR⟩ := hz; exact hR⟩)
set_option maxRecDepth 100000 in
theorem b_X3_unlike_11 {Q : ab_Q} {a : Int} {b : Int} {t0 : Int} {s_ : Int → Int} {z_ : mc_T} {g_th : Int} {g_as : Int → Int} {g_un : Int → Int} {g_um : Int} {g_sl : Int → Int} {g_hs : Int → Int} {g_pd : Int → Int} {g_ln : Int} {g_at : Int} {g_iw : Int} {g_os : Int → Int} {g_om : Int} (l1 : t0 = (0 : Int) → ab_R E_X3_unlike P_X3_unlike Q 24 [some (.inr (.inl (some 0))), some (.inl a), some (.inl b), some (.inl t0), some (.inl 0), some (.inl a)] [] (md_cs s_ z_ (g_th, g_as, g_un, g_um, g_sl, g_hs, g_pd, g_ln, g_at, g_iw, g_os, g_om))) (l2 : ¬ t0 = (0 : Int) → Q (some (.inl t0)) (md_cs s_ z_ (g_th, g_as, g_un, g_um, g_sl, g_hs, g_pd, g_ln, g_at, g_iw, g_os, g_om))) (p1 : ab_r t0 := by intros; (try unfold ab_r); omega) : ab_R E_X3_unlike P_X3_unlike Q 11 [some (.inr (.inl (some 0))), some (.inl a), some (.inl b), none, none, none] [.inl t0] (md_cs s_ z_ (g_th, g_as, g_un, g_um, g_sl, g_hs, g_pd, g_ln, g_at, g_iw, g_os, g_om)) :=
  ab_R.steps [11, 24, 50, 53] 9 (show (ab_r t0 ∧ ((t0 = (0 : Int) → ab_R E_X3_unlike P_X3_unlike Q 24 [some (.inr (.inl (some 0))), some (.inl a), some (.inl b), some (.inl t0), some (.inl 0), some (.inl a)] [] (md_cs s_ z_ (g_th, g_as, g_un, g_um, g_sl, g_hs, g_pd, g_ln, g_at, g_iw, g_os, g_om))) ∧ (¬ t0 = (0 : Int) → Q (some (.inl t0)) (md_cs s_ z_ (g_th, g_as, g_un, g_um, g_sl, g_hs, g_pd, g_ln, g_at, g_iw, g_os, g_om))))) from ⟨p1, ⟨fun h1 => (l1 h1), fun h2 => (l2 h2)⟩⟩)
set_option maxRecDepth 100000 in
theorem b_X3_unlike_24 {Q : ab_Q} {a : Int} {b : Int} {e : Int} {n : Int} {p : Int} {s_ : Int → Int} {z_ : mc_T} {g_th : Int} {g_as : Int → Int} {g_un : Int → Int} {g_um : Int} {g_sl : Int → Int} {g_hs : Int → Int} {g_pd : Int → Int} {g_ln : Int} {g_at : Int} {g_iw : Int} {g_os : Int → Int} {g_om : Int} (l1 : b < p → Q (some (.inl n)) (md_cs s_ z_ (g_th, g_as, g_un, g_um, g_sl, g_hs, g_pd, g_ln, g_at, g_iw, g_os, g_om))) (l2 : p ≤ b → p = a → ab_R E_X3_unlike P_X3_unlike Q 24 [some (.inr (.inl (some 0))), some (.inl a), some (.inl b), some (.inl e), some (.inl (n + 1)), some (.inl (p + 1))] [] (md_cs s_ z_ (g_th, g_as, g_un, g_um, g_sl, g_hs, g_pd, g_ln, g_at, g_iw, g_os, g_om))) (l3 : p ≤ b → ¬ p = a → sp_X3_valueAt [.inr (.inl (some 0)), .inl p] (md_cs s_ z_ (g_th, g_as, g_un, g_um, g_sl, g_hs, g_pd, g_ln, g_at, g_iw, g_os, g_om)) (fun r_ k_ => ∃ (x_ : Int), r_ = some (.inl x_) ∧ k_ = (md_cs s_ z_ (g_th, g_as, g_un, g_um, g_sl, g_hs, g_pd, g_ln, g_at, g_iw, g_os, g_om)) ∧ ab_R E_X3_unlike P_X3_unlike Q 50 [some (.inr (.inl (some 0))), some (.inl a), some (.inl b), some (.inl e), some (.inl n), some (.inl p)] [.inl x_, .inl (p - 1), .inl a, .inr (.inl (some 0)), .inl n] (md_cs s_ z_ (g_th, g_as, g_un, g_um, g_sl, g_hs, g_pd, g_ln, g_at, g_iw, g_os, g_om)))) (p1 : (ab_r p ∧ ab_r b) := by intros; (try unfold ab_r); omega) (p2 : p ≤ b → (ab_r p ∧ ab_r a) := by intros; (try unfold ab_r); omega) : ab_R E_X3_unlike P_X3_unlike Q 24 [some (.inr (.inl (some 0))), some (.inl a), some (.inl b), some (.inl e), some (.inl n), some (.inl p)] [] (md_cs s_ z_ (g_th, g_as, g_un, g_um, g_sl, g_hs, g_pd, g_ln, g_at, g_iw, g_os, g_om)) :=
  ab_R.steps [11, 24, 50, 53] 16 (show ((ab_r p ∧ ab_r b) ∧ ((b < p → Q (some (.inl n)) (md_cs s_ z_ (g_th, g_as, g_un, g_um, g_sl, g_hs, g_pd, g_ln, g_at, g_iw, g_os, g_om))) ∧ (p ≤ b → ((ab_r p ∧ ab_r a) ∧ ((p = a → ab_R E_X3_unlike P_X3_unlike Q 24 [some (.inr (.inl (some 0))), some (.inl a), some (.inl b), some (.inl e), some (.inl (n + 1)), some (.inl (p + 1))] [] (md_cs s_ z_ (g_th, g_as, g_un, g_um, g_sl, g_hs, g_pd, g_ln, g_at, g_iw, g_os, g_om))) ∧ (¬ p = a → ab_cl sp_X3_valueAt [.inr (.inl (some 0)), .inl p] (md_cs s_ z_ (g_th, g_as, g_un, g_um, g_sl, g_hs, g_pd, g_ln, g_at, g_iw, g_os, g_om)) (fun r_ k_ => k_.length = ((md_cs s_ z_ (g_th, g_as, g_un, g_um, g_sl, g_hs, g_pd, g_ln, g_at, g_iw, g_os, g_om))).length → ab_R E_X3_unlike P_X3_unlike Q 50 [some (.inr (.inl (some 0))), some (.inl a), some (.inl b), some (.inl e), some (.inl n), some (.inl p)] (ab_ret r_ [.inl (p - 1), .inl a, .inr (.inl (some 0)), .inl n]) k_))))))) from ⟨p1, ⟨fun h1 => (l1 h1), fun h2 => ⟨(p2 h2), ⟨fun h3 => (l2 h2 h3), fun h4 => ⟨_, (l3 h2 h4), fun r_ k_ hz _ => by obtain ⟨x_, rfl, rfl, hR⟩ := hz; exact hR⟩⟩⟩⟩⟩)
set_option maxRecDepth 100000 in
theorem b_X3_unlike_50 {Q : ab_Q} {a : Int} {b : Int} {e : Int} {n : Int} {p : Int} {t0 : Int} {t1 : Int} {t2 : Int} {t4 : Int} {s_ : Int → Int} {z_ : mc_T} {g_th : Int} {g_as : Int → Int} {g_un : Int → Int} {g_um : Int} {g_sl : Int → Int} {g_hs : Int → Int} {g_pd : Int → Int} {g_ln : Int} {g_at : Int} {g_iw : Int} {g_os : Int → Int} {g_om : Int} (l1 : sp_X3_alike [.inr (.inl (some 0)), .inl t2, .inl t1, .inl t0] (md_cs s_ z_ (g_th, g_as, g_un, g_um, g_sl, g_hs, g_pd, g_ln, g_at, g_iw, g_os, g_om)) (fun r_ k_ => ∃ (x_ : Int), r_ = some (.inl x_) ∧ k_ = (md_cs s_ z_ (g_th, g_as, g_un, g_um, g_sl, g_hs, g_pd, g_ln, g_at, g_iw, g_os, g_om)) ∧ ab_R E_X3_unlike P_X3_unlike Q 53 [some (.inr (.inl (some 0))), some (.inl a), some (.inl b), some (.inl e), some (.inl n), some (.inl p)] [.inl x_, .inl t4] (md_cs s_ z_ (g_th, g_as, g_un, g_um, g_sl, g_hs, g_pd, g_ln, g_at, g_iw, g_os, g_om))))  : ab_R E_X3_unlike P_X3_unlike Q 50 [some (.inr (.inl (some 0))), some (.inl a), some (.inl b), some (.inl e), some (.inl n), some (.inl p)] [.inl t0, .inl t1, .inl t2, .inr (.inl (some 0)), .inl t4] (md_cs s_ z_ (g_th, g_as, g_un, g_um, g_sl, g_hs, g_pd, g_ln, g_at, g_iw, g_os, g_om)) :=
  ab_R.steps [11, 24, 50, 53] 2 (show ab_cl sp_X3_alike [.inr (.inl (some 0)), .inl t2, .inl t1, .inl t0] (md_cs s_ z_ (g_th, g_as, g_un, g_um, g_sl, g_hs, g_pd, g_ln, g_at, g_iw, g_os, g_om)) (fun r_ k_ => k_.length = ((md_cs s_ z_ (g_th, g_as, g_un, g_um, g_sl, g_hs, g_pd, g_ln, g_at, g_iw, g_os, g_om))).length → ab_R E_X3_unlike P_X3_unlike Q 53 [some (.inr (.inl (some 0))), some (.inl a), some (.inl b), some (.inl e), some (.inl n), some (.inl p)] (ab_ret r_ [.inl t4]) k_) from ⟨_, l1, fun r_ k_ hz _ => by obtain ⟨x_, rfl, rfl, hR⟩ := hz; exact hR⟩)
set_option maxRecDepth 100000 in
theorem b_X3_unlike_53 {Q : ab_Q} {a : Int} {b : Int} {e : Int} {n : Int} {p : Int} {t0 : Int} {t1 : Int} {s_ : Int → Int} {z_ : mc_T} {g_th : Int} {g_as : Int → Int} {g_un : Int → Int} {g_um : Int} {g_sl : Int → Int} {g_hs : Int → Int} {g_pd : Int → Int} {g_ln : Int} {g_at : Int} {g_iw : Int} {g_os : Int → Int} {g_om : Int} (l1 : ¬ t0 = (0 : Int) → ab_R E_X3_unlike P_X3_unlike Q 24 [some (.inr (.inl (some 0))), some (.inl a), some (.inl b), some (.inl e), some (.inl (t1 + 0)), some (.inl (p + 1))] [] (md_cs s_ z_ (g_th, g_as, g_un, g_um, g_sl, g_hs, g_pd, g_ln, g_at, g_iw, g_os, g_om))) (l2 : t0 = (0 : Int) → ab_R E_X3_unlike P_X3_unlike Q 24 [some (.inr (.inl (some 0))), some (.inl a), some (.inl b), some (.inl e), some (.inl (t1 + 1)), some (.inl (p + 1))] [] (md_cs s_ z_ (g_th, g_as, g_un, g_um, g_sl, g_hs, g_pd, g_ln, g_at, g_iw, g_os, g_om))) (p1 : ab_r t0 := by intros; (try unfold ab_r); omega) : ab_R E_X3_unlike P_X3_unlike Q 53 [some (.inr (.inl (some 0))), some (.inl a), some (.inl b), some (.inl e), some (.inl n), some (.inl p)] [.inl t0, .inl t1] (md_cs s_ z_ (g_th, g_as, g_un, g_um, g_sl, g_hs, g_pd, g_ln, g_at, g_iw, g_os, g_om)) :=
  ab_R.steps [11, 24, 50, 53] 9 (show (ab_r t0 ∧ ((¬ t0 = (0 : Int) → ab_R E_X3_unlike P_X3_unlike Q 24 [some (.inr (.inl (some 0))), some (.inl a), some (.inl b), some (.inl e), some (.inl (t1 + 0)), some (.inl (p + 1))] [] (md_cs s_ z_ (g_th, g_as, g_un, g_um, g_sl, g_hs, g_pd, g_ln, g_at, g_iw, g_os, g_om))) ∧ (t0 = (0 : Int) → ab_R E_X3_unlike P_X3_unlike Q 24 [some (.inr (.inl (some 0))), some (.inl a), some (.inl b), some (.inl e), some (.inl (t1 + 1)), some (.inl (p + 1))] [] (md_cs s_ z_ (g_th, g_as, g_un, g_um, g_sl, g_hs, g_pd, g_ln, g_at, g_iw, g_os, g_om))))) from ⟨p1, ⟨fun h1 => (l1 h1), fun h2 => (l2 h2)⟩⟩)
-- ===== RootChunksModel.kth
def P_X3_kth : List ab_I := [(0, .aload_n 0, 1, []), (1, .iconst 0, 2, []), (2, .putfield 47, 5, []), (5, .aload_n 0, 6, []), (6, .iload_n 1, 7, []), (7, .iload_n 2, 8, []), (8, .invokevirtual 102, 11, []), (11, .istore 4, 13, []), (13, .iload 4, 15, []), (15, .ifCond .eq 6, 18, [((0 : Int), 21)]), (18, .iload 4, 20, []), (20, .ireturn, 21, []), (21, .iload_n 3, 22, []), (22, .iconst 0, 23, []), (23, .iload_n 2, 24, []), (24, .iload_n 1, 25, []), (25, .isub, 26, []), (26, .invokestatic 91, 29, []), (29, .ifCond .ne 6, 32, [((0 : Int), 35)]), (32, .bipush (-2), 34, []), (34, .ireturn, 35, []), (35, .iconst 0, 36, []), (36, .istore 5, 38, []), (38, .iload_n 1, 39, []), (39, .istore 6, 41, []), (41, .iload 6, 43, []), (43, .iload_n 2, 44, []), (44, .if_icmp .gt 57, 47, [((0 : Int), 101)]), (47, .aload_n 0, 48, []), (48, .iload 6, 50, []), (50, .invokevirtual 61, 53, []), (53, .istore 7, 55, []), (55, .aload_n 0, 56, []), (56, .iload_n 1, 57, []), (57, .iload_n 2, 58, []), (58, .iload 7, 60, []), (60, .invokevirtual 159, 63, []), (63, .istore 8, 65, []), (65, .iload 8, 67, []), (67, .iload_n 3, 68, []), (68, .if_icmp .gt 23, 71, [((0 : Int), 91)]), (71, .iload_n 3, 72, []), (72, .iload 8, 74, []), (74, .aload_n 0, 75, []), (75, .iload_n 1, 76, []), (76, .iload_n 2, 77, []), (77, .iload 7, 79, []), (79, .invokevirtual 162, 82, []), (82, .iadd, 83, []), (83, .if_icmp .ge 8, 86, [((0 : Int), 91)]), (86, .iload 7, 88, []), (88, .goto 5, 91, [((0 : Int), 93)]), (91, .iload 5, 93, []), (93, .istore 5, 95, []), (95, .iinc 6 1, 98, []), (98, .goto (-57), 101, [((0 : Int), 41)]), (101, .iload 5, 103, []), (103, .ldc 128, 105, []), (105, .iadd, 106, []), (106, .ireturn, 107, [])]
def E_X3_kth : ab_E := (T_X3, [(8, (3, 3, [], 0, sp_X3_refusesSpan)), (26, (3, 99, [], 0, sp_X3_in)), (50, (2, 3, [], 0, sp_X3_valueAt)), (60, (4, 3, [], 0, sp_X3_lesser)), (79, (4, 3, [], 0, sp_X3_alike))], [], 0)
def M_X3_kth : List (Nat × ab_MI) := [(8, mi_X3_refusesSpan), (26, mi_X3_in), (50, mi_X3_valueAt), (60, mi_X3_lesser), (79, mi_X3_alike)]
def mi_X3_kth : ab_MI := (yX3_kth, cX3_kth, 9, ab_rty 0, 4, 142)
theorem pk_X3_kth : P_X3_kth.all (ab_okI cX3_kth) = true := by decide +kernel
theorem ck_X3_kth : P_X3_kth.all (ab_okC1 "RootChunksModel" M_X3_kth E_X3_kth (4, 142)) = true := by decide +kernel
set_option maxRecDepth 100000 in
theorem b_X3_kth_0 {Q : ab_Q} {a : Int} {b : Int} {k : Int} {s_ : Int → Int} {z_ : mc_T} {g_th : Int} {g_as : Int → Int} {g_un : Int → Int} {g_um : Int} {g_sl : Int → Int} {g_hs : Int → Int} {g_pd : Int → Int} {g_ln : Int} {g_at : Int} {g_iw : Int} {g_os : Int → Int} {g_om : Int} (l1 : sp_X3_refusesSpan [.inr (.inl (some 0)), .inl a, .inl b] (md_cs s_ z_ (0, g_as, g_un, g_um, g_sl, g_hs, g_pd, g_ln, g_at, g_iw, g_os, g_om)) (fun r_ k_ => ∃ (x_ : Int), r_ = some (.inl x_) ∧ k_ = (md_cs s_ z_ (0, g_as, g_un, g_um, g_sl, g_hs, g_pd, g_ln, g_at, g_iw, g_os, g_om)) ∧ ab_R E_X3_kth P_X3_kth Q 11 [some (.inr (.inl (some 0))), some (.inl a), some (.inl b), some (.inl k), none, none, none, none, none] [.inl x_] (md_cs s_ z_ (0, g_as, g_un, g_um, g_sl, g_hs, g_pd, g_ln, g_at, g_iw, g_os, g_om))))  : ab_R E_X3_kth P_X3_kth Q 0 [some (.inr (.inl (some 0))), some (.inl a), some (.inl b), some (.inl k), none, none, none, none, none] [] (md_cs s_ z_ (g_th, g_as, g_un, g_um, g_sl, g_hs, g_pd, g_ln, g_at, g_iw, g_os, g_om)) :=
  ab_R.steps [11, 29, 41, 53, 63, 82] 8 (show ab_cl sp_X3_refusesSpan [.inr (.inl (some 0)), .inl a, .inl b] (md_cs s_ z_ (0, g_as, g_un, g_um, g_sl, g_hs, g_pd, g_ln, g_at, g_iw, g_os, g_om)) (fun r_ k_ => k_.length = ((md_cs s_ z_ (0, g_as, g_un, g_um, g_sl, g_hs, g_pd, g_ln, g_at, g_iw, g_os, g_om))).length → ab_R E_X3_kth P_X3_kth Q 11 [some (.inr (.inl (some 0))), some (.inl a), some (.inl b), some (.inl k), none, none, none, none, none] (ab_ret r_ []) k_) from ⟨_, l1, fun r_ k_ hz _ => by obtain ⟨x_, rfl, rfl, hR⟩ := hz; exact hR⟩)
set_option maxRecDepth 100000 in
theorem b_X3_kth_11 {Q : ab_Q} {a : Int} {b : Int} {k : Int} {t0 : Int} {s_ : Int → Int} {z_ : mc_T} {g_th : Int} {g_as : Int → Int} {g_un : Int → Int} {g_um : Int} {g_sl : Int → Int} {g_hs : Int → Int} {g_pd : Int → Int} {g_ln : Int} {g_at : Int} {g_iw : Int} {g_os : Int → Int} {g_om : Int} (l1 : t0 = (0 : Int) → sp_X3_in [.inl k, .inl 0, .inl (b - a)] (md_cs s_ z_ (g_th, g_as, g_un, g_um, g_sl, g_hs, g_pd, g_ln, g_at, g_iw, g_os, g_om)) (fun r_ k_ => ∃ (x_ : Int), r_ = some (.inl x_) ∧ k_ = (md_cs s_ z_ (g_th, g_as, g_un, g_um, g_sl, g_hs, g_pd, g_ln, g_at, g_iw, g_os, g_om)) ∧ ab_R E_X3_kth P_X3_kth Q 29 [some (.inr (.inl (some 0))), some (.inl a), some (.inl b), some (.inl k), some (.inl t0), none, none, none, none] [.inl x_] (md_cs s_ z_ (g_th, g_as, g_un, g_um, g_sl, g_hs, g_pd, g_ln, g_at, g_iw, g_os, g_om)))) (l2 : ¬ t0 = (0 : Int) → Q (some (.inl t0)) (md_cs s_ z_ (g_th, g_as, g_un, g_um, g_sl, g_hs, g_pd, g_ln, g_at, g_iw, g_os, g_om))) (p1 : ab_r t0 := by intros; (try unfold ab_r); omega) : ab_R E_X3_kth P_X3_kth Q 11 [some (.inr (.inl (some 0))), some (.inl a), some (.inl b), some (.inl k), none, none, none, none, none] [.inl t0] (md_cs s_ z_ (g_th, g_as, g_un, g_um, g_sl, g_hs, g_pd, g_ln, g_at, g_iw, g_os, g_om)) :=
  ab_R.steps [11, 29, 41, 53, 63, 82] 10 (show (ab_r t0 ∧ ((t0 = (0 : Int) → ab_cl sp_X3_in [.inl k, .inl 0, .inl (b - a)] (md_cs s_ z_ (g_th, g_as, g_un, g_um, g_sl, g_hs, g_pd, g_ln, g_at, g_iw, g_os, g_om)) (fun r_ k_ => k_.length = ((md_cs s_ z_ (g_th, g_as, g_un, g_um, g_sl, g_hs, g_pd, g_ln, g_at, g_iw, g_os, g_om))).length → ab_R E_X3_kth P_X3_kth Q 29 [some (.inr (.inl (some 0))), some (.inl a), some (.inl b), some (.inl k), some (.inl t0), none, none, none, none] (ab_ret r_ []) k_)) ∧ (¬ t0 = (0 : Int) → Q (some (.inl t0)) (md_cs s_ z_ (g_th, g_as, g_un, g_um, g_sl, g_hs, g_pd, g_ln, g_at, g_iw, g_os, g_om))))) from ⟨p1, ⟨fun h1 => ⟨_, (l1 h1), fun r_ k_ hz _ => by obtain ⟨x_, rfl, rfl, hR⟩ := hz; exact hR⟩, fun h2 => (l2 h2)⟩⟩)
set_option maxRecDepth 100000 in
theorem b_X3_kth_29 {Q : ab_Q} {a : Int} {b : Int} {k : Int} {e : Int} {t0 : Int} {s_ : Int → Int} {z_ : mc_T} {g_th : Int} {g_as : Int → Int} {g_un : Int → Int} {g_um : Int} {g_sl : Int → Int} {g_hs : Int → Int} {g_pd : Int → Int} {g_ln : Int} {g_at : Int} {g_iw : Int} {g_os : Int → Int} {g_om : Int} (l1 : ¬ t0 = (0 : Int) → ab_R E_X3_kth P_X3_kth Q 41 [some (.inr (.inl (some 0))), some (.inl a), some (.inl b), some (.inl k), some (.inl e), some (.inl 0), some (.inl a), none, none] [] (md_cs s_ z_ (g_th, g_as, g_un, g_um, g_sl, g_hs, g_pd, g_ln, g_at, g_iw, g_os, g_om))) (l2 : t0 = (0 : Int) → Q (some (.inl (-2))) (md_cs s_ z_ (g_th, g_as, g_un, g_um, g_sl, g_hs, g_pd, g_ln, g_at, g_iw, g_os, g_om))) (p1 : ab_r t0 := by intros; (try unfold ab_r); omega) : ab_R E_X3_kth P_X3_kth Q 29 [some (.inr (.inl (some 0))), some (.inl a), some (.inl b), some (.inl k), some (.inl e), none, none, none, none] [.inl t0] (md_cs s_ z_ (g_th, g_as, g_un, g_um, g_sl, g_hs, g_pd, g_ln, g_at, g_iw, g_os, g_om)) :=
  ab_R.steps [11, 29, 41, 53, 63, 82] 7 (show (ab_r t0 ∧ ((¬ t0 = (0 : Int) → ab_R E_X3_kth P_X3_kth Q 41 [some (.inr (.inl (some 0))), some (.inl a), some (.inl b), some (.inl k), some (.inl e), some (.inl 0), some (.inl a), none, none] [] (md_cs s_ z_ (g_th, g_as, g_un, g_um, g_sl, g_hs, g_pd, g_ln, g_at, g_iw, g_os, g_om))) ∧ (t0 = (0 : Int) → Q (some (.inl (-2))) (md_cs s_ z_ (g_th, g_as, g_un, g_um, g_sl, g_hs, g_pd, g_ln, g_at, g_iw, g_os, g_om))))) from ⟨p1, ⟨fun h1 => (l1 h1), fun h2 => (l2 h2)⟩⟩)
set_option maxRecDepth 100000 in
theorem b_X3_kth_41 {Q : ab_Q} {a : Int} {b : Int} {k : Int} {e : Int} {fo : Int} {p : Int} {s_ : Int → Int} {z_ : mc_T} {g_th : Int} {g_as : Int → Int} {g_un : Int → Int} {g_um : Int} {g_sl : Int → Int} {g_hs : Int → Int} {g_pd : Int → Int} {g_ln : Int} {g_at : Int} {g_iw : Int} {g_os : Int → Int} {g_om : Int} (l1 : b < p → Q (some (.inl (fo + 100000))) (md_cs s_ z_ (g_th, g_as, g_un, g_um, g_sl, g_hs, g_pd, g_ln, g_at, g_iw, g_os, g_om))) (l2 : p ≤ b → sp_X3_valueAt [.inr (.inl (some 0)), .inl p] (md_cs s_ z_ (g_th, g_as, g_un, g_um, g_sl, g_hs, g_pd, g_ln, g_at, g_iw, g_os, g_om)) (fun r_ k_ => ∃ (x_ : Int), r_ = some (.inl x_) ∧ k_ = (md_cs s_ z_ (g_th, g_as, g_un, g_um, g_sl, g_hs, g_pd, g_ln, g_at, g_iw, g_os, g_om)) ∧ ab_R E_X3_kth P_X3_kth Q 53 [some (.inr (.inl (some 0))), some (.inl a), some (.inl b), some (.inl k), some (.inl e), some (.inl fo), some (.inl p), none, none] [.inl x_] (md_cs s_ z_ (g_th, g_as, g_un, g_um, g_sl, g_hs, g_pd, g_ln, g_at, g_iw, g_os, g_om)))) (p1 : (ab_r p ∧ ab_r b) := by intros; (try unfold ab_r); omega) : ab_R E_X3_kth P_X3_kth Q 41 [some (.inr (.inl (some 0))), some (.inl a), some (.inl b), some (.inl k), some (.inl e), some (.inl fo), some (.inl p), none, none] [] (md_cs s_ z_ (g_th, g_as, g_un, g_um, g_sl, g_hs, g_pd, g_ln, g_at, g_iw, g_os, g_om)) :=
  ab_R.steps [11, 29, 41, 53, 63, 82] 8 (show ((ab_r p ∧ ab_r b) ∧ ((b < p → Q (some (.inl (fo + 100000))) (md_cs s_ z_ (g_th, g_as, g_un, g_um, g_sl, g_hs, g_pd, g_ln, g_at, g_iw, g_os, g_om))) ∧ (p ≤ b → ab_cl sp_X3_valueAt [.inr (.inl (some 0)), .inl p] (md_cs s_ z_ (g_th, g_as, g_un, g_um, g_sl, g_hs, g_pd, g_ln, g_at, g_iw, g_os, g_om)) (fun r_ k_ => k_.length = ((md_cs s_ z_ (g_th, g_as, g_un, g_um, g_sl, g_hs, g_pd, g_ln, g_at, g_iw, g_os, g_om))).length → ab_R E_X3_kth P_X3_kth Q 53 [some (.inr (.inl (some 0))), some (.inl a), some (.inl b), some (.inl k), some (.inl e), some (.inl fo), some (.inl p), none, none] (ab_ret r_ []) k_)))) from ⟨p1, ⟨fun h1 => (l1 h1), fun h2 => ⟨_, (l2 h2), fun r_ k_ hz _ => by obtain ⟨x_, rfl, rfl, hR⟩ := hz; exact hR⟩⟩⟩)
set_option maxRecDepth 100000 in
theorem b_X3_kth_53 {Q : ab_Q} {a : Int} {b : Int} {k : Int} {e : Int} {fo : Int} {p : Int} {t0 : Int} {s_ : Int → Int} {z_ : mc_T} {g_th : Int} {g_as : Int → Int} {g_un : Int → Int} {g_um : Int} {g_sl : Int → Int} {g_hs : Int → Int} {g_pd : Int → Int} {g_ln : Int} {g_at : Int} {g_iw : Int} {g_os : Int → Int} {g_om : Int} (l1 : sp_X3_lesser [.inr (.inl (some 0)), .inl a, .inl b, .inl t0] (md_cs s_ z_ (g_th, g_as, g_un, g_um, g_sl, g_hs, g_pd, g_ln, g_at, g_iw, g_os, g_om)) (fun r_ k_ => ∃ (x_ : Int), r_ = some (.inl x_) ∧ k_ = (md_cs s_ z_ (g_th, g_as, g_un, g_um, g_sl, g_hs, g_pd, g_ln, g_at, g_iw, g_os, g_om)) ∧ ab_R E_X3_kth P_X3_kth Q 63 [some (.inr (.inl (some 0))), some (.inl a), some (.inl b), some (.inl k), some (.inl e), some (.inl fo), some (.inl p), some (.inl t0), none] [.inl x_] (md_cs s_ z_ (g_th, g_as, g_un, g_um, g_sl, g_hs, g_pd, g_ln, g_at, g_iw, g_os, g_om))))  : ab_R E_X3_kth P_X3_kth Q 53 [some (.inr (.inl (some 0))), some (.inl a), some (.inl b), some (.inl k), some (.inl e), some (.inl fo), some (.inl p), none, none] [.inl t0] (md_cs s_ z_ (g_th, g_as, g_un, g_um, g_sl, g_hs, g_pd, g_ln, g_at, g_iw, g_os, g_om)) :=
  ab_R.steps [11, 29, 41, 53, 63, 82] 7 (show ab_cl sp_X3_lesser [.inr (.inl (some 0)), .inl a, .inl b, .inl t0] (md_cs s_ z_ (g_th, g_as, g_un, g_um, g_sl, g_hs, g_pd, g_ln, g_at, g_iw, g_os, g_om)) (fun r_ k_ => k_.length = ((md_cs s_ z_ (g_th, g_as, g_un, g_um, g_sl, g_hs, g_pd, g_ln, g_at, g_iw, g_os, g_om))).length → ab_R E_X3_kth P_X3_kth Q 63 [some (.inr (.inl (some 0))), some (.inl a), some (.inl b), some (.inl k), some (.inl e), some (.inl fo), some (.inl p), some (.inl t0), none] (ab_ret r_ []) k_) from ⟨_, l1, fun r_ k_ hz _ => by obtain ⟨x_, rfl, rfl, hR⟩ := hz; exact hR⟩)
set_option maxRecDepth 100000 in
theorem b_X3_kth_63 {Q : ab_Q} {a : Int} {b : Int} {k : Int} {e : Int} {fo : Int} {p : Int} {v : Int} {t0 : Int} {s_ : Int → Int} {z_ : mc_T} {g_th : Int} {g_as : Int → Int} {g_un : Int → Int} {g_um : Int} {g_sl : Int → Int} {g_hs : Int → Int} {g_pd : Int → Int} {g_ln : Int} {g_at : Int} {g_iw : Int} {g_os : Int → Int} {g_om : Int} (l1 : k < t0 → ab_R E_X3_kth P_X3_kth Q 41 [some (.inr (.inl (some 0))), some (.inl a), some (.inl b), some (.inl k), some (.inl e), some (.inl fo), some (.inl (p + 1)), none, none] [] (md_cs s_ z_ (g_th, g_as, g_un, g_um, g_sl, g_hs, g_pd, g_ln, g_at, g_iw, g_os, g_om))) (l2 : t0 ≤ k → sp_X3_alike [.inr (.inl (some 0)), .inl a, .inl b, .inl v] (md_cs s_ z_ (g_th, g_as, g_un, g_um, g_sl, g_hs, g_pd, g_ln, g_at, g_iw, g_os, g_om)) (fun r_ k_ => ∃ (x_ : Int), r_ = some (.inl x_) ∧ k_ = (md_cs s_ z_ (g_th, g_as, g_un, g_um, g_sl, g_hs, g_pd, g_ln, g_at, g_iw, g_os, g_om)) ∧ ab_R E_X3_kth P_X3_kth Q 82 [some (.inr (.inl (some 0))), some (.inl a), some (.inl b), some (.inl k), some (.inl e), some (.inl fo), some (.inl p), some (.inl v), some (.inl t0)] [.inl x_, .inl t0, .inl k] (md_cs s_ z_ (g_th, g_as, g_un, g_um, g_sl, g_hs, g_pd, g_ln, g_at, g_iw, g_os, g_om)))) (p1 : (ab_r t0 ∧ ab_r k) := by intros; (try unfold ab_r); omega) : ab_R E_X3_kth P_X3_kth Q 63 [some (.inr (.inl (some 0))), some (.inl a), some (.inl b), some (.inl k), some (.inl e), some (.inl fo), some (.inl p), some (.inl v), none] [.inl t0] (md_cs s_ z_ (g_th, g_as, g_un, g_um, g_sl, g_hs, g_pd, g_ln, g_at, g_iw, g_os, g_om)) :=
  ab_R.steps [11, 29, 41, 53, 63, 82] 12 (show ((ab_r t0 ∧ ab_r k) ∧ ((k < t0 → ab_R E_X3_kth P_X3_kth Q 41 [some (.inr (.inl (some 0))), some (.inl a), some (.inl b), some (.inl k), some (.inl e), some (.inl fo), some (.inl (p + 1)), some (.inl v), some (.inl t0)] [] (md_cs s_ z_ (g_th, g_as, g_un, g_um, g_sl, g_hs, g_pd, g_ln, g_at, g_iw, g_os, g_om))) ∧ (t0 ≤ k → ab_cl sp_X3_alike [.inr (.inl (some 0)), .inl a, .inl b, .inl v] (md_cs s_ z_ (g_th, g_as, g_un, g_um, g_sl, g_hs, g_pd, g_ln, g_at, g_iw, g_os, g_om)) (fun r_ k_ => k_.length = ((md_cs s_ z_ (g_th, g_as, g_un, g_um, g_sl, g_hs, g_pd, g_ln, g_at, g_iw, g_os, g_om))).length → ab_R E_X3_kth P_X3_kth Q 82 [some (.inr (.inl (some 0))), some (.inl a), some (.inl b), some (.inl k), some (.inl e), some (.inl fo), some (.inl p), some (.inl v), some (.inl t0)] (ab_ret r_ [.inl t0, .inl k]) k_)))) from ⟨p1, ⟨fun h1 => (ab_R.fg 7 rfl (ab_R.fg 8 rfl (l1 h1))), fun h2 => ⟨_, (l2 h2), fun r_ k_ hz _ => by obtain ⟨x_, rfl, rfl, hR⟩ := hz; exact hR⟩⟩⟩)
set_option maxRecDepth 100000 in
theorem b_X3_kth_82 {Q : ab_Q} {a : Int} {b : Int} {k : Int} {e : Int} {fo : Int} {p : Int} {v : Int} {n : Int} {t0 : Int} {t1 : Int} {t2 : Int} {s_ : Int → Int} {z_ : mc_T} {g_th : Int} {g_as : Int → Int} {g_un : Int → Int} {g_um : Int} {g_sl : Int → Int} {g_hs : Int → Int} {g_pd : Int → Int} {g_ln : Int} {g_at : Int} {g_iw : Int} {g_os : Int → Int} {g_om : Int} (l1 : (t1 + t0) ≤ t2 → ab_R E_X3_kth P_X3_kth Q 41 [some (.inr (.inl (some 0))), some (.inl a), some (.inl b), some (.inl k), some (.inl e), some (.inl fo), some (.inl (p + 1)), none, none] [] (md_cs s_ z_ (g_th, g_as, g_un, g_um, g_sl, g_hs, g_pd, g_ln, g_at, g_iw, g_os, g_om))) (l2 : t2 < (t1 + t0) → ab_R E_X3_kth P_X3_kth Q 41 [some (.inr (.inl (some 0))), some (.inl a), some (.inl b), some (.inl k), some (.inl e), some (.inl v), some (.inl (p + 1)), none, none] [] (md_cs s_ z_ (g_th, g_as, g_un, g_um, g_sl, g_hs, g_pd, g_ln, g_at, g_iw, g_os, g_om))) (p1 : (ab_r t2 ∧ ab_r (t1 + t0)) := by intros; (try unfold ab_r); omega) : ab_R E_X3_kth P_X3_kth Q 82 [some (.inr (.inl (some 0))), some (.inl a), some (.inl b), some (.inl k), some (.inl e), some (.inl fo), some (.inl p), some (.inl v), some (.inl n)] [.inl t0, .inl t1, .inl t2] (md_cs s_ z_ (g_th, g_as, g_un, g_um, g_sl, g_hs, g_pd, g_ln, g_at, g_iw, g_os, g_om)) :=
  ab_R.steps [11, 29, 41, 53, 63, 82] 9 (show ((ab_r t2 ∧ ab_r (t1 + t0)) ∧ (((t1 + t0) ≤ t2 → ab_R E_X3_kth P_X3_kth Q 41 [some (.inr (.inl (some 0))), some (.inl a), some (.inl b), some (.inl k), some (.inl e), some (.inl fo), some (.inl (p + 1)), some (.inl v), some (.inl n)] [] (md_cs s_ z_ (g_th, g_as, g_un, g_um, g_sl, g_hs, g_pd, g_ln, g_at, g_iw, g_os, g_om))) ∧ (t2 < (t1 + t0) → ab_R E_X3_kth P_X3_kth Q 41 [some (.inr (.inl (some 0))), some (.inl a), some (.inl b), some (.inl k), some (.inl e), some (.inl v), some (.inl (p + 1)), some (.inl v), some (.inl n)] [] (md_cs s_ z_ (g_th, g_as, g_un, g_um, g_sl, g_hs, g_pd, g_ln, g_at, g_iw, g_os, g_om))))) from ⟨p1, ⟨fun h1 => (ab_R.fg 7 rfl (ab_R.fg 8 rfl (l1 h1))), fun h2 => (ab_R.fg 7 rfl (ab_R.fg 8 rfl (l2 h2)))⟩⟩)
-- ===== RootChunksModel.costOfTurn
def P_X3_costOfTurn : List ab_I := [(0, .aload_n 0, 1, []), (1, .iconst 0, 2, []), (2, .putfield 47, 5, []), (5, .aload_n 0, 6, []), (6, .iload_n 1, 7, []), (7, .iload_n 2, 8, []), (8, .invokevirtual 102, 11, []), (11, .istore_n 3, 12, []), (12, .iload_n 3, 13, []), (13, .ifCond .eq 5, 16, [((0 : Int), 18)]), (16, .iload_n 3, 17, []), (17, .ireturn, 18, []), (18, .iconst 0, 19, []), (19, .istore 4, 21, []), (21, .iload 4, 23, []), (23, .sipush 255, 26, []), (26, .if_icmp .ge 23, 29, [((0 : Int), 49)]), (29, .aload_n 0, 30, []), (30, .getfield 13, 33, []), (33, .iload 4, 35, []), (35, .aload_n 0, 36, []), (36, .getfield 7, 39, []), (39, .iload 4, 41, []), (41, .iaload, 42, []), (42, .iastore, 43, []), (43, .iinc 4 1, 46, []), (46, .goto (-25), 49, [((0 : Int), 21)]), (49, .aload_n 0, 50, []), (50, .getfield 7, 53, []), (53, .iconst 2, 54, []), (54, .iaload, 55, []), (55, .istore 4, 57, []), (57, .aload_n 0, 58, []), (58, .iload_n 1, 59, []), (59, .iload_n 2, 60, []), (60, .invokevirtual 135, 63, []), (63, .aload_n 0, 64, []), (64, .getfield 7, 67, []), (67, .iconst 2, 68, []), (68, .iaload, 69, []), (69, .iload 4, 71, []), (71, .isub, 72, []), (72, .istore 5, 74, []), (74, .iconst 0, 75, []), (75, .istore 6, 77, []), (77, .iload 6, 79, []), (79, .sipush 255, 82, []), (82, .if_icmp .ge 23, 85, [((0 : Int), 105)]), (85, .aload_n 0, 86, []), (86, .getfield 7, 89, []), (89, .iload 6, 91, []), (91, .aload_n 0, 92, []), (92, .getfield 13, 95, []), (95, .iload 6, 97, []), (97, .iaload, 98, []), (98, .iastore, 99, []), (99, .iinc 6 1, 102, []), (102, .goto (-25), 105, [((0 : Int), 77)]), (105, .iload 5, 107, []), (107, .ireturn, 108, [])]
def E_X3_costOfTurn : ab_E := (T_X3, [(8, (3, 3, [], 0, sp_X3_refusesSpan)), (60, (3, 3, [], 0, sp_X3_turns))], [], 0)
def M_X3_costOfTurn : List (Nat × ab_MI) := [(8, mi_X3_refusesSpan), (60, mi_X3_turns)]
def mi_X3_costOfTurn : ab_MI := (yX3_costOfTurn, cX3_costOfTurn, 7, ab_rty 0, 6, 189)
theorem pk_X3_costOfTurn : P_X3_costOfTurn.all (ab_okI cX3_costOfTurn) = true := by decide +kernel
theorem ck_X3_costOfTurn : P_X3_costOfTurn.all (ab_okC1 "RootChunksModel" M_X3_costOfTurn E_X3_costOfTurn (6, 189)) = true := by decide +kernel
set_option maxRecDepth 100000 in
theorem b_X3_costOfTurn_0 {Q : ab_Q} {a : Int} {b : Int} {s_ : Int → Int} {z_ : mc_T} {g_th : Int} {g_as : Int → Int} {g_un : Int → Int} {g_um : Int} {g_sl : Int → Int} {g_hs : Int → Int} {g_pd : Int → Int} {g_ln : Int} {g_at : Int} {g_iw : Int} {g_os : Int → Int} {g_om : Int} (l1 : sp_X3_refusesSpan [.inr (.inl (some 0)), .inl a, .inl b] (md_cs s_ z_ (0, g_as, g_un, g_um, g_sl, g_hs, g_pd, g_ln, g_at, g_iw, g_os, g_om)) (fun r_ k_ => ∃ (x_ : Int), r_ = some (.inl x_) ∧ k_ = (md_cs s_ z_ (0, g_as, g_un, g_um, g_sl, g_hs, g_pd, g_ln, g_at, g_iw, g_os, g_om)) ∧ ab_R E_X3_costOfTurn P_X3_costOfTurn Q 11 [some (.inr (.inl (some 0))), some (.inl a), some (.inl b), none, none, none, none] [.inl x_] (md_cs s_ z_ (0, g_as, g_un, g_um, g_sl, g_hs, g_pd, g_ln, g_at, g_iw, g_os, g_om))))  : ab_R E_X3_costOfTurn P_X3_costOfTurn Q 0 [some (.inr (.inl (some 0))), some (.inl a), some (.inl b), none, none, none, none] [] (md_cs s_ z_ (g_th, g_as, g_un, g_um, g_sl, g_hs, g_pd, g_ln, g_at, g_iw, g_os, g_om)) :=
  ab_R.steps [11, 21, 63, 77] 8 (show ab_cl sp_X3_refusesSpan [.inr (.inl (some 0)), .inl a, .inl b] (md_cs s_ z_ (0, g_as, g_un, g_um, g_sl, g_hs, g_pd, g_ln, g_at, g_iw, g_os, g_om)) (fun r_ k_ => k_.length = ((md_cs s_ z_ (0, g_as, g_un, g_um, g_sl, g_hs, g_pd, g_ln, g_at, g_iw, g_os, g_om))).length → ab_R E_X3_costOfTurn P_X3_costOfTurn Q 11 [some (.inr (.inl (some 0))), some (.inl a), some (.inl b), none, none, none, none] (ab_ret r_ []) k_) from ⟨_, l1, fun r_ k_ hz _ => by obtain ⟨x_, rfl, rfl, hR⟩ := hz; exact hR⟩)
set_option maxRecDepth 100000 in
theorem b_X3_costOfTurn_11 {Q : ab_Q} {a : Int} {b : Int} {t0 : Int} {s_ : Int → Int} {z_ : mc_T} {g_th : Int} {g_as : Int → Int} {g_un : Int → Int} {g_um : Int} {g_sl : Int → Int} {g_hs : Int → Int} {g_pd : Int → Int} {g_ln : Int} {g_at : Int} {g_iw : Int} {g_os : Int → Int} {g_om : Int} (l1 : t0 = (0 : Int) → ab_R E_X3_costOfTurn P_X3_costOfTurn Q 21 [some (.inr (.inl (some 0))), some (.inl a), some (.inl b), some (.inl t0), some (.inl 0), none, none] [] (md_cs s_ z_ (g_th, g_as, g_un, g_um, g_sl, g_hs, g_pd, g_ln, g_at, g_iw, g_os, g_om))) (l2 : ¬ t0 = (0 : Int) → Q (some (.inl t0)) (md_cs s_ z_ (g_th, g_as, g_un, g_um, g_sl, g_hs, g_pd, g_ln, g_at, g_iw, g_os, g_om))) (p1 : ab_r t0 := by intros; (try unfold ab_r); omega) : ab_R E_X3_costOfTurn P_X3_costOfTurn Q 11 [some (.inr (.inl (some 0))), some (.inl a), some (.inl b), none, none, none, none] [.inl t0] (md_cs s_ z_ (g_th, g_as, g_un, g_um, g_sl, g_hs, g_pd, g_ln, g_at, g_iw, g_os, g_om)) :=
  ab_R.steps [11, 21, 63, 77] 7 (show (ab_r t0 ∧ ((t0 = (0 : Int) → ab_R E_X3_costOfTurn P_X3_costOfTurn Q 21 [some (.inr (.inl (some 0))), some (.inl a), some (.inl b), some (.inl t0), some (.inl 0), none, none] [] (md_cs s_ z_ (g_th, g_as, g_un, g_um, g_sl, g_hs, g_pd, g_ln, g_at, g_iw, g_os, g_om))) ∧ (¬ t0 = (0 : Int) → Q (some (.inl t0)) (md_cs s_ z_ (g_th, g_as, g_un, g_um, g_sl, g_hs, g_pd, g_ln, g_at, g_iw, g_os, g_om))))) from ⟨p1, ⟨fun h1 => (l1 h1), fun h2 => (l2 h2)⟩⟩)
set_option maxRecDepth 100000 in
theorem b_X3_costOfTurn_21 {Q : ab_Q} {a : Int} {b : Int} {e : Int} {k : Int} {s_ : Int → Int} {z_ : mc_T} {g_th : Int} {g_as : Int → Int} {g_un : Int → Int} {g_um : Int} {g_sl : Int → Int} {g_hs : Int → Int} {g_pd : Int → Int} {g_ln : Int} {g_at : Int} {g_iw : Int} {g_os : Int → Int} {g_om : Int} (l1 : (255 : Int) ≤ k → sp_X3_turns [.inr (.inl (some 0)), .inl a, .inl b] (md_cs s_ z_ (g_th, g_as, g_un, g_um, g_sl, g_hs, g_pd, g_ln, g_at, g_iw, g_os, g_om)) (fun r_ k_ => ∃ (s_' : Int → Int), ∃ (z_' : mc_T), ∃ (g_' : mg_T), r_ = none ∧ k_ = (md_cs (s_') z_' g_') ∧ ab_R E_X3_costOfTurn P_X3_costOfTurn Q 63 [some (.inr (.inl (some 0))), some (.inl a), some (.inl b), some (.inl e), some (.inl (s_ 2)), none, none] [] (md_cs (s_') z_' g_'))) (l2 : k < (255 : Int) → ab_R E_X3_costOfTurn P_X3_costOfTurn Q 21 [some (.inr (.inl (some 0))), some (.inl a), some (.inl b), some (.inl e), some (.inl (k + 1)), none, none] [] (md_cs s_ z_ (g_th, (ab_up g_as k (s_ k)), g_un, g_um, g_sl, g_hs, g_pd, g_ln, g_at, g_iw, g_os, g_om))) (p1 : (ab_r k ∧ ab_r 255) := by intros; (try unfold ab_r); omega) (p2 : (255 : Int) ≤ k → (0 ≤ (2 : Int) ∧ (2 : Int) < 255) := by intros; (try unfold ab_r); omega) (p3 : k < (255 : Int) → (0 ≤ k ∧ k < 255) := by intros; (try unfold ab_r); omega) : ab_R E_X3_costOfTurn P_X3_costOfTurn Q 21 [some (.inr (.inl (some 0))), some (.inl a), some (.inl b), some (.inl e), some (.inl k), none, none] [] (md_cs s_ z_ (g_th, g_as, g_un, g_um, g_sl, g_hs, g_pd, g_ln, g_at, g_iw, g_os, g_om)) :=
  ab_R.steps [11, 21, 63, 77] 15 (show ((ab_r k ∧ ab_r 255) ∧ (((255 : Int) ≤ k → ((0 ≤ (2 : Int) ∧ (2 : Int) < 255) ∧ ab_cl sp_X3_turns [.inr (.inl (some 0)), .inl a, .inl b] (md_cs s_ z_ (g_th, g_as, g_un, g_um, g_sl, g_hs, g_pd, g_ln, g_at, g_iw, g_os, g_om)) (fun r_ k_ => k_.length = ((md_cs s_ z_ (g_th, g_as, g_un, g_um, g_sl, g_hs, g_pd, g_ln, g_at, g_iw, g_os, g_om))).length → ab_R E_X3_costOfTurn P_X3_costOfTurn Q 63 [some (.inr (.inl (some 0))), some (.inl a), some (.inl b), some (.inl e), some (.inl (s_ 2)), none, none] (ab_ret r_ []) k_))) ∧ (k < (255 : Int) → ((0 ≤ k ∧ k < 255) ∧ ((0 ≤ k ∧ k < 255) ∧ ab_R E_X3_costOfTurn P_X3_costOfTurn Q 21 [some (.inr (.inl (some 0))), some (.inl a), some (.inl b), some (.inl e), some (.inl (k + 1)), none, none] [] (md_cs s_ z_ (g_th, (ab_up g_as k (s_ k)), g_un, g_um, g_sl, g_hs, g_pd, g_ln, g_at, g_iw, g_os, g_om))))))) from ⟨p1, ⟨fun h1 => ⟨(p2 h1), ⟨_, (l1 h1), fun r_ k_ hz _ => by obtain ⟨s_', z_', g_', rfl, rfl, hR⟩ := hz; exact hR⟩⟩, fun h2 => ⟨(p3 h2), ⟨(p3 h2), (l2 h2)⟩⟩⟩⟩)
set_option maxRecDepth 100000 in
theorem b_X3_costOfTurn_63 {Q : ab_Q} {a : Int} {b : Int} {e : Int} {k : Int} {s_ : Int → Int} {z_ : mc_T} {g_th : Int} {g_as : Int → Int} {g_un : Int → Int} {g_um : Int} {g_sl : Int → Int} {g_hs : Int → Int} {g_pd : Int → Int} {g_ln : Int} {g_at : Int} {g_iw : Int} {g_os : Int → Int} {g_om : Int} (l1 : ab_R E_X3_costOfTurn P_X3_costOfTurn Q 77 [some (.inr (.inl (some 0))), some (.inl a), some (.inl b), some (.inl e), some (.inl k), some (.inl ((s_ 2) - k)), some (.inl 0)] [] (md_cs s_ z_ (g_th, g_as, g_un, g_um, g_sl, g_hs, g_pd, g_ln, g_at, g_iw, g_os, g_om))) (p1 : (0 ≤ (2 : Int) ∧ (2 : Int) < 255) := by intros; (try unfold ab_r); omega) : ab_R E_X3_costOfTurn P_X3_costOfTurn Q 63 [some (.inr (.inl (some 0))), some (.inl a), some (.inl b), some (.inl e), some (.inl k), none, none] [] (md_cs s_ z_ (g_th, g_as, g_un, g_um, g_sl, g_hs, g_pd, g_ln, g_at, g_iw, g_os, g_om)) :=
  ab_R.steps [11, 21, 63, 77] 11 (show ((0 ≤ (2 : Int) ∧ (2 : Int) < 255) ∧ ab_R E_X3_costOfTurn P_X3_costOfTurn Q 77 [some (.inr (.inl (some 0))), some (.inl a), some (.inl b), some (.inl e), some (.inl k), some (.inl ((s_ 2) - k)), some (.inl 0)] [] (md_cs s_ z_ (g_th, g_as, g_un, g_um, g_sl, g_hs, g_pd, g_ln, g_at, g_iw, g_os, g_om))) from ⟨p1, l1⟩)
set_option maxRecDepth 100000 in
theorem b_X3_costOfTurn_77 {Q : ab_Q} {a : Int} {b : Int} {e : Int} {k : Int} {co : Int} {j : Int} {s_ : Int → Int} {z_ : mc_T} {g_th : Int} {g_as : Int → Int} {g_un : Int → Int} {g_um : Int} {g_sl : Int → Int} {g_hs : Int → Int} {g_pd : Int → Int} {g_ln : Int} {g_at : Int} {g_iw : Int} {g_os : Int → Int} {g_om : Int} (l1 : (255 : Int) ≤ j → Q (some (.inl co)) (md_cs s_ z_ (g_th, g_as, g_un, g_um, g_sl, g_hs, g_pd, g_ln, g_at, g_iw, g_os, g_om))) (l2 : j < (255 : Int) → ab_R E_X3_costOfTurn P_X3_costOfTurn Q 77 [some (.inr (.inl (some 0))), some (.inl a), some (.inl b), some (.inl e), some (.inl k), some (.inl co), some (.inl (j + 1))] [] (md_cs ((ab_up s_ j (g_as j))) z_ (g_th, g_as, g_un, g_um, g_sl, g_hs, g_pd, g_ln, g_at, g_iw, g_os, g_om))) (p1 : (ab_r j ∧ ab_r 255) := by intros; (try unfold ab_r); omega) (p2 : j < (255 : Int) → (0 ≤ j ∧ j < 255) := by intros; (try unfold ab_r); omega) : ab_R E_X3_costOfTurn P_X3_costOfTurn Q 77 [some (.inr (.inl (some 0))), some (.inl a), some (.inl b), some (.inl e), some (.inl k), some (.inl co), some (.inl j)] [] (md_cs s_ z_ (g_th, g_as, g_un, g_um, g_sl, g_hs, g_pd, g_ln, g_at, g_iw, g_os, g_om)) :=
  ab_R.steps [11, 21, 63, 77] 15 (show ((ab_r j ∧ ab_r 255) ∧ (((255 : Int) ≤ j → Q (some (.inl co)) (md_cs s_ z_ (g_th, g_as, g_un, g_um, g_sl, g_hs, g_pd, g_ln, g_at, g_iw, g_os, g_om))) ∧ (j < (255 : Int) → ((0 ≤ j ∧ j < 255) ∧ ((0 ≤ j ∧ j < 255) ∧ ab_R E_X3_costOfTurn P_X3_costOfTurn Q 77 [some (.inr (.inl (some 0))), some (.inl a), some (.inl b), some (.inl e), some (.inl k), some (.inl co), some (.inl (j + 1))] [] (md_cs ((ab_up s_ j (g_as j))) z_ (g_th, g_as, g_un, g_um, g_sl, g_hs, g_pd, g_ln, g_at, g_iw, g_os, g_om))))))) from ⟨p1, ⟨fun h1 => (l1 h1), fun h2 => ⟨(p2 h2), ⟨(p2 h2), (l2 h2)⟩⟩⟩⟩)
-- ===== RootChunksModel.wipe
def P_X3_wipe : List ab_I := [(0, .aload_n 0, 1, []), (1, .iconst 0, 2, []), (2, .putfield 47, 5, []), (5, .aload_n 0, 6, []), (6, .getfield 156, 9, []), (9, .istore_n 1, 10, []), (10, .aload_n 0, 11, []), (11, .iconst 0, 12, []), (12, .putfield 156, 15, []), (15, .iload_n 1, 16, []), (16, .ireturn, 17, [])]
def E_X3_wipe : ab_E := (T_X3, [], [], 0)
def M_X3_wipe : List (Nat × ab_MI) := []
def mi_X3_wipe : ab_MI := (yX3_wipe, cX3_wipe, 2, ab_rty 0, 1, 70)
theorem pk_X3_wipe : P_X3_wipe.all (ab_okI cX3_wipe) = true := by decide +kernel
theorem ck_X3_wipe : P_X3_wipe.all (ab_okC1 "RootChunksModel" M_X3_wipe E_X3_wipe (1, 70)) = true := by decide +kernel
set_option maxRecDepth 100000 in
theorem b_X3_wipe_0 {Q : ab_Q} {s_ : Int → Int} {z_ : mc_T} {g_th : Int} {g_as : Int → Int} {g_un : Int → Int} {g_um : Int} {g_sl : Int → Int} {g_hs : Int → Int} {g_pd : Int → Int} {g_ln : Int} {g_at : Int} {g_iw : Int} {g_os : Int → Int} {g_om : Int} (l1 : Q (some (.inl g_ln)) (md_cs s_ z_ (0, g_as, g_un, g_um, g_sl, g_hs, g_pd, 0, g_at, g_iw, g_os, g_om)))  : ab_R E_X3_wipe P_X3_wipe Q 0 [some (.inr (.inl (some 0))), none] [] (md_cs s_ z_ (g_th, g_as, g_un, g_um, g_sl, g_hs, g_pd, g_ln, g_at, g_iw, g_os, g_om)) :=
  ab_R.steps [] 12 (show Q (some (.inl g_ln)) (md_cs s_ z_ (0, g_as, g_un, g_um, g_sl, g_hs, g_pd, 0, g_at, g_iw, g_os, g_om)) from l1)
-- ===== RootChunksModel.undo
def P_X3_undo : List ab_I := [(0, .aload_n 0, 1, []), (1, .iconst 0, 2, []), (2, .putfield 47, 5, []), (5, .aload_n 0, 6, []), (6, .getfield 51, 9, []), (9, .ifCond .ne 6, 12, [((0 : Int), 15)]), (12, .bipush (-5), 14, []), (14, .ireturn, 15, []), (15, .aload_n 0, 16, []), (16, .dup, 17, []), (17, .getfield 51, 20, []), (20, .iconst 1, 21, []), (21, .isub, 22, []), (22, .putfield 51, 25, []), (25, .iconst 0, 26, []), (26, .istore_n 1, 27, []), (27, .iload_n 1, 28, []), (28, .sipush 255, 31, []), (31, .if_icmp .ge 30, 34, [((0 : Int), 61)]), (34, .aload_n 0, 35, []), (35, .getfield 7, 38, []), (38, .iload_n 1, 39, []), (39, .aload_n 0, 40, []), (40, .getfield 16, 43, []), (43, .sipush 255, 46, []), (46, .aload_n 0, 47, []), (47, .getfield 51, 50, []), (50, .imul, 51, []), (51, .iload_n 1, 52, []), (52, .iadd, 53, []), (53, .iaload, 54, []), (54, .iastore, 55, []), (55, .iinc 1 1, 58, []), (58, .goto (-31), 61, [((0 : Int), 27)]), (61, .aload_n 0, 62, []), (62, .getfield 51, 65, []), (65, .ireturn, 66, [])]
def E_X3_undo : ab_E := (T_X3, [], [], 0)
def M_X3_undo : List (Nat × ab_MI) := []
def mi_X3_undo : ab_MI := (yX3_undo, cX3_undo, 2, ab_rty 0, 1, 70)
theorem pk_X3_undo : P_X3_undo.all (ab_okI cX3_undo) = true := by decide +kernel
theorem ck_X3_undo : P_X3_undo.all (ab_okC1 "RootChunksModel" M_X3_undo E_X3_undo (1, 70)) = true := by decide +kernel
set_option maxRecDepth 100000 in
theorem b_X3_undo_0 {Q : ab_Q} {s_ : Int → Int} {z_ : mc_T} {g_th : Int} {g_as : Int → Int} {g_un : Int → Int} {g_um : Int} {g_sl : Int → Int} {g_hs : Int → Int} {g_pd : Int → Int} {g_ln : Int} {g_at : Int} {g_iw : Int} {g_os : Int → Int} {g_om : Int} (l1 : ¬ g_um = (0 : Int) → ab_R E_X3_undo P_X3_undo Q 27 [some (.inr (.inl (some 0))), some (.inl 0)] [] (md_cs s_ z_ (0, g_as, g_un, (g_um - 1), g_sl, g_hs, g_pd, g_ln, g_at, g_iw, g_os, g_om))) (l2 : g_um = (0 : Int) → Q (some (.inl (-5))) (md_cs s_ z_ (0, g_as, g_un, g_um, g_sl, g_hs, g_pd, g_ln, g_at, g_iw, g_os, g_om))) (p1 : ab_r g_um := by intros; (try unfold ab_r); omega) : ab_R E_X3_undo P_X3_undo Q 0 [some (.inr (.inl (some 0))), none] [] (md_cs s_ z_ (g_th, g_as, g_un, g_um, g_sl, g_hs, g_pd, g_ln, g_at, g_iw, g_os, g_om)) :=
  ab_R.steps [27] 16 (show (ab_r g_um ∧ ((¬ g_um = (0 : Int) → ab_R E_X3_undo P_X3_undo Q 27 [some (.inr (.inl (some 0))), some (.inl 0)] [] (md_cs s_ z_ (0, g_as, g_un, (g_um - 1), g_sl, g_hs, g_pd, g_ln, g_at, g_iw, g_os, g_om))) ∧ (g_um = (0 : Int) → Q (some (.inl (-5))) (md_cs s_ z_ (0, g_as, g_un, g_um, g_sl, g_hs, g_pd, g_ln, g_at, g_iw, g_os, g_om))))) from ⟨p1, ⟨fun h1 => (l1 h1), fun h2 => (l2 h2)⟩⟩)
set_option maxRecDepth 100000 in
theorem b_X3_undo_27 {Q : ab_Q} {k : Int} {s_ : Int → Int} {z_ : mc_T} {g_th : Int} {g_as : Int → Int} {g_un : Int → Int} {g_um : Int} {g_sl : Int → Int} {g_hs : Int → Int} {g_pd : Int → Int} {g_ln : Int} {g_at : Int} {g_iw : Int} {g_os : Int → Int} {g_om : Int} (l1 : (255 : Int) ≤ k → Q (some (.inl g_um)) (md_cs s_ z_ (g_th, g_as, g_un, g_um, g_sl, g_hs, g_pd, g_ln, g_at, g_iw, g_os, g_om))) (l2 : k < (255 : Int) → ab_R E_X3_undo P_X3_undo Q 27 [some (.inr (.inl (some 0))), some (.inl (k + 1))] [] (md_cs ((ab_up s_ k (g_un ((255 * g_um) + k)))) z_ (g_th, g_as, g_un, g_um, g_sl, g_hs, g_pd, g_ln, g_at, g_iw, g_os, g_om))) (p1 : (ab_r k ∧ ab_r 255) := by intros; (try unfold ab_r); omega) (p2 : k < (255 : Int) → (0 ≤ ((255 * g_um) + k) ∧ ((255 * g_um) + k) < 1530) := by intros; (try unfold ab_r); omega) (p3 : k < (255 : Int) → (0 ≤ k ∧ k < 255) := by intros; (try unfold ab_r); omega) : ab_R E_X3_undo P_X3_undo Q 27 [some (.inr (.inl (some 0))), some (.inl k)] [] (md_cs s_ z_ (g_th, g_as, g_un, g_um, g_sl, g_hs, g_pd, g_ln, g_at, g_iw, g_os, g_om)) :=
  ab_R.steps [27] 20 (show ((ab_r k ∧ ab_r 255) ∧ (((255 : Int) ≤ k → Q (some (.inl g_um)) (md_cs s_ z_ (g_th, g_as, g_un, g_um, g_sl, g_hs, g_pd, g_ln, g_at, g_iw, g_os, g_om))) ∧ (k < (255 : Int) → ((0 ≤ ((255 * g_um) + k) ∧ ((255 * g_um) + k) < 1530) ∧ ((0 ≤ k ∧ k < 255) ∧ ab_R E_X3_undo P_X3_undo Q 27 [some (.inr (.inl (some 0))), some (.inl (k + 1))] [] (md_cs ((ab_up s_ k (g_un ((255 * g_um) + k)))) z_ (g_th, g_as, g_un, g_um, g_sl, g_hs, g_pd, g_ln, g_at, g_iw, g_os, g_om))))))) from ⟨p1, ⟨fun h1 => (l1 h1), fun h2 => ⟨(p2 h2), ⟨(p3 h2), (l2 h2)⟩⟩⟩⟩)
-- ===== RootChunksModel.save
def P_X3_save : List ab_I := [(0, .aload_n 0, 1, []), (1, .iconst 0, 2, []), (2, .putfield 47, 5, []), (5, .iload_n 1, 6, []), (6, .iconst 0, 7, []), (7, .iconst 1, 8, []), (8, .invokestatic 91, 11, []), (11, .ifCond .ne 6, 14, [((0 : Int), 17)]), (14, .bipush (-2), 16, []), (16, .ireturn, 17, []), (17, .iconst 0, 18, []), (18, .istore_n 2, 19, []), (19, .iload_n 2, 20, []), (20, .sipush 255, 23, []), (23, .if_icmp .ge 27, 26, [((0 : Int), 50)]), (26, .aload_n 0, 27, []), (27, .getfield 19, 30, []), (30, .sipush 255, 33, []), (33, .iload_n 1, 34, []), (34, .imul, 35, []), (35, .iload_n 2, 36, []), (36, .iadd, 37, []), (37, .aload_n 0, 38, []), (38, .getfield 7, 41, []), (41, .iload_n 2, 42, []), (42, .iaload, 43, []), (43, .iastore, 44, []), (44, .iinc 2 1, 47, []), (47, .goto (-28), 50, [((0 : Int), 19)]), (50, .aload_n 0, 51, []), (51, .getfield 22, 54, []), (54, .iload_n 1, 55, []), (55, .iconst 1, 56, []), (56, .bastore, 57, []), (57, .aload_n 0, 58, []), (58, .getfield 7, 61, []), (61, .iconst 0, 62, []), (62, .iaload, 63, []), (63, .ireturn, 64, [])]
def E_X3_save : ab_E := (T_X3, [(8, (3, 99, [], 0, sp_X3_in))], [], 0)
def M_X3_save : List (Nat × ab_MI) := [(8, mi_X3_in)]
def mi_X3_save : ab_MI := (yX3_save, cX3_save, 3, ab_rty 0, 2, 92)
theorem pk_X3_save : P_X3_save.all (ab_okI cX3_save) = true := by decide +kernel
theorem ck_X3_save : P_X3_save.all (ab_okC1 "RootChunksModel" M_X3_save E_X3_save (2, 92)) = true := by decide +kernel
set_option maxRecDepth 100000 in
theorem b_X3_save_0 {Q : ab_Q} {a : Int} {s_ : Int → Int} {z_ : mc_T} {g_th : Int} {g_as : Int → Int} {g_un : Int → Int} {g_um : Int} {g_sl : Int → Int} {g_hs : Int → Int} {g_pd : Int → Int} {g_ln : Int} {g_at : Int} {g_iw : Int} {g_os : Int → Int} {g_om : Int} (l1 : sp_X3_in [.inl a, .inl 0, .inl 1] (md_cs s_ z_ (0, g_as, g_un, g_um, g_sl, g_hs, g_pd, g_ln, g_at, g_iw, g_os, g_om)) (fun r_ k_ => ∃ (x_ : Int), r_ = some (.inl x_) ∧ k_ = (md_cs s_ z_ (0, g_as, g_un, g_um, g_sl, g_hs, g_pd, g_ln, g_at, g_iw, g_os, g_om)) ∧ ab_R E_X3_save P_X3_save Q 11 [some (.inr (.inl (some 0))), some (.inl a), none] [.inl x_] (md_cs s_ z_ (0, g_as, g_un, g_um, g_sl, g_hs, g_pd, g_ln, g_at, g_iw, g_os, g_om))))  : ab_R E_X3_save P_X3_save Q 0 [some (.inr (.inl (some 0))), some (.inl a), none] [] (md_cs s_ z_ (g_th, g_as, g_un, g_um, g_sl, g_hs, g_pd, g_ln, g_at, g_iw, g_os, g_om)) :=
  ab_R.steps [11, 19] 8 (show ab_cl sp_X3_in [.inl a, .inl 0, .inl 1] (md_cs s_ z_ (0, g_as, g_un, g_um, g_sl, g_hs, g_pd, g_ln, g_at, g_iw, g_os, g_om)) (fun r_ k_ => k_.length = ((md_cs s_ z_ (0, g_as, g_un, g_um, g_sl, g_hs, g_pd, g_ln, g_at, g_iw, g_os, g_om))).length → ab_R E_X3_save P_X3_save Q 11 [some (.inr (.inl (some 0))), some (.inl a), none] (ab_ret r_ []) k_) from ⟨_, l1, fun r_ k_ hz _ => by obtain ⟨x_, rfl, rfl, hR⟩ := hz; exact hR⟩)
set_option maxRecDepth 100000 in
theorem b_X3_save_11 {Q : ab_Q} {a : Int} {t0 : Int} {s_ : Int → Int} {z_ : mc_T} {g_th : Int} {g_as : Int → Int} {g_un : Int → Int} {g_um : Int} {g_sl : Int → Int} {g_hs : Int → Int} {g_pd : Int → Int} {g_ln : Int} {g_at : Int} {g_iw : Int} {g_os : Int → Int} {g_om : Int} (l1 : ¬ t0 = (0 : Int) → ab_R E_X3_save P_X3_save Q 19 [some (.inr (.inl (some 0))), some (.inl a), some (.inl 0)] [] (md_cs s_ z_ (g_th, g_as, g_un, g_um, g_sl, g_hs, g_pd, g_ln, g_at, g_iw, g_os, g_om))) (l2 : t0 = (0 : Int) → Q (some (.inl (-2))) (md_cs s_ z_ (g_th, g_as, g_un, g_um, g_sl, g_hs, g_pd, g_ln, g_at, g_iw, g_os, g_om))) (p1 : ab_r t0 := by intros; (try unfold ab_r); omega) : ab_R E_X3_save P_X3_save Q 11 [some (.inr (.inl (some 0))), some (.inl a), none] [.inl t0] (md_cs s_ z_ (g_th, g_as, g_un, g_um, g_sl, g_hs, g_pd, g_ln, g_at, g_iw, g_os, g_om)) :=
  ab_R.steps [11, 19] 5 (show (ab_r t0 ∧ ((¬ t0 = (0 : Int) → ab_R E_X3_save P_X3_save Q 19 [some (.inr (.inl (some 0))), some (.inl a), some (.inl 0)] [] (md_cs s_ z_ (g_th, g_as, g_un, g_um, g_sl, g_hs, g_pd, g_ln, g_at, g_iw, g_os, g_om))) ∧ (t0 = (0 : Int) → Q (some (.inl (-2))) (md_cs s_ z_ (g_th, g_as, g_un, g_um, g_sl, g_hs, g_pd, g_ln, g_at, g_iw, g_os, g_om))))) from ⟨p1, ⟨fun h1 => (l1 h1), fun h2 => (l2 h2)⟩⟩)
set_option maxRecDepth 100000 in
theorem b_X3_save_19 {Q : ab_Q} {a : Int} {k : Int} {s_ : Int → Int} {z_ : mc_T} {g_th : Int} {g_as : Int → Int} {g_un : Int → Int} {g_um : Int} {g_sl : Int → Int} {g_hs : Int → Int} {g_pd : Int → Int} {g_ln : Int} {g_at : Int} {g_iw : Int} {g_os : Int → Int} {g_om : Int} (l1 : (255 : Int) ≤ k → Q (some (.inl (s_ 0))) (md_cs s_ z_ (g_th, g_as, g_un, g_um, g_sl, (ab_up g_hs a 1), g_pd, g_ln, g_at, g_iw, g_os, g_om))) (l2 : k < (255 : Int) → ab_R E_X3_save P_X3_save Q 19 [some (.inr (.inl (some 0))), some (.inl a), some (.inl (k + 1))] [] (md_cs s_ z_ (g_th, g_as, g_un, g_um, (ab_up g_sl ((255 * a) + k) (s_ k)), g_hs, g_pd, g_ln, g_at, g_iw, g_os, g_om))) (p1 : (ab_r k ∧ ab_r 255) := by intros; (try unfold ab_r); omega) (p2 : (255 : Int) ≤ k → (0 ≤ a ∧ a < 2 ∧ ((1 : Int) = 0 ∨ (1 : Int) = 1)) := by intros; (try unfold ab_r); omega) (p3 : (255 : Int) ≤ k → (0 ≤ (0 : Int) ∧ (0 : Int) < 255) := by intros; (try unfold ab_r); omega) (p4 : k < (255 : Int) → (0 ≤ k ∧ k < 255) := by intros; (try unfold ab_r); omega) (p5 : k < (255 : Int) → (0 ≤ ((255 * a) + k) ∧ ((255 * a) + k) < 510) := by intros; (try unfold ab_r); omega) : ab_R E_X3_save P_X3_save Q 19 [some (.inr (.inl (some 0))), some (.inl a), some (.inl k)] [] (md_cs s_ z_ (g_th, g_as, g_un, g_um, g_sl, g_hs, g_pd, g_ln, g_at, g_iw, g_os, g_om)) :=
  ab_R.steps [11, 19] 19 (show ((ab_r k ∧ ab_r 255) ∧ (((255 : Int) ≤ k → ((0 ≤ a ∧ a < 2 ∧ ((1 : Int) = 0 ∨ (1 : Int) = 1)) ∧ ((0 ≤ (0 : Int) ∧ (0 : Int) < 255) ∧ Q (some (.inl (s_ 0))) (md_cs s_ z_ (g_th, g_as, g_un, g_um, g_sl, (ab_up g_hs a 1), g_pd, g_ln, g_at, g_iw, g_os, g_om))))) ∧ (k < (255 : Int) → ((0 ≤ k ∧ k < 255) ∧ ((0 ≤ ((255 * a) + k) ∧ ((255 * a) + k) < 510) ∧ ab_R E_X3_save P_X3_save Q 19 [some (.inr (.inl (some 0))), some (.inl a), some (.inl (k + 1))] [] (md_cs s_ z_ (g_th, g_as, g_un, g_um, (ab_up g_sl ((255 * a) + k) (s_ k)), g_hs, g_pd, g_ln, g_at, g_iw, g_os, g_om))))))) from ⟨p1, ⟨fun h1 => ⟨(p2 h1), ⟨(p3 h1), (l1 h1)⟩⟩, fun h2 => ⟨(p4 h2), ⟨(p5 h2), (l2 h2)⟩⟩⟩⟩)
-- ===== RootChunksModel.restore
def P_X3_restore : List ab_I := [(0, .aload_n 0, 1, []), (1, .iconst 0, 2, []), (2, .putfield 47, 5, []), (5, .iload_n 1, 6, []), (6, .iconst 0, 7, []), (7, .iconst 1, 8, []), (8, .invokestatic 91, 11, []), (11, .ifCond .ne 6, 14, [((0 : Int), 17)]), (14, .bipush (-2), 16, []), (16, .ireturn, 17, []), (17, .aload_n 0, 18, []), (18, .getfield 22, 21, []), (21, .iload_n 1, 22, []), (22, .baload, 23, []), (23, .ifCond .ne 6, 26, [((0 : Int), 29)]), (26, .bipush (-5), 28, []), (28, .ireturn, 29, []), (29, .aload_n 0, 30, []), (30, .invokevirtual 119, 33, []), (33, .iconst 0, 34, []), (34, .istore_n 2, 35, []), (35, .iload_n 2, 36, []), (36, .sipush 255, 39, []), (39, .if_icmp .ge 27, 42, [((0 : Int), 66)]), (42, .aload_n 0, 43, []), (43, .getfield 7, 46, []), (46, .iload_n 2, 47, []), (47, .aload_n 0, 48, []), (48, .getfield 19, 51, []), (51, .sipush 255, 54, []), (54, .iload_n 1, 55, []), (55, .imul, 56, []), (56, .iload_n 2, 57, []), (57, .iadd, 58, []), (58, .iaload, 59, []), (59, .iastore, 60, []), (60, .iinc 2 1, 63, []), (63, .goto (-28), 66, [((0 : Int), 35)]), (66, .aload_n 0, 67, []), (67, .getfield 7, 70, []), (70, .iconst 0, 71, []), (71, .iaload, 72, []), (72, .ireturn, 73, [])]
def E_X3_restore : ab_E := (T_X3, [(8, (3, 99, [], 0, sp_X3_in)), (30, (1, 3, [], 0, sp_X3_records))], [], 0)
def M_X3_restore : List (Nat × ab_MI) := [(8, mi_X3_in), (30, mi_X3_records)]
def mi_X3_restore : ab_MI := (yX3_restore, cX3_restore, 3, ab_rty 0, 2, 92)
theorem pk_X3_restore : P_X3_restore.all (ab_okI cX3_restore) = true := by decide +kernel
theorem ck_X3_restore : P_X3_restore.all (ab_okC1 "RootChunksModel" M_X3_restore E_X3_restore (2, 92)) = true := by decide +kernel
set_option maxRecDepth 100000 in
theorem b_X3_restore_0 {Q : ab_Q} {a : Int} {s_ : Int → Int} {z_ : mc_T} {g_th : Int} {g_as : Int → Int} {g_un : Int → Int} {g_um : Int} {g_sl : Int → Int} {g_hs : Int → Int} {g_pd : Int → Int} {g_ln : Int} {g_at : Int} {g_iw : Int} {g_os : Int → Int} {g_om : Int} (l1 : sp_X3_in [.inl a, .inl 0, .inl 1] (md_cs s_ z_ (0, g_as, g_un, g_um, g_sl, g_hs, g_pd, g_ln, g_at, g_iw, g_os, g_om)) (fun r_ k_ => ∃ (x_ : Int), r_ = some (.inl x_) ∧ k_ = (md_cs s_ z_ (0, g_as, g_un, g_um, g_sl, g_hs, g_pd, g_ln, g_at, g_iw, g_os, g_om)) ∧ ab_R E_X3_restore P_X3_restore Q 11 [some (.inr (.inl (some 0))), some (.inl a), none] [.inl x_] (md_cs s_ z_ (0, g_as, g_un, g_um, g_sl, g_hs, g_pd, g_ln, g_at, g_iw, g_os, g_om))))  : ab_R E_X3_restore P_X3_restore Q 0 [some (.inr (.inl (some 0))), some (.inl a), none] [] (md_cs s_ z_ (g_th, g_as, g_un, g_um, g_sl, g_hs, g_pd, g_ln, g_at, g_iw, g_os, g_om)) :=
  ab_R.steps [11, 33, 35] 8 (show ab_cl sp_X3_in [.inl a, .inl 0, .inl 1] (md_cs s_ z_ (0, g_as, g_un, g_um, g_sl, g_hs, g_pd, g_ln, g_at, g_iw, g_os, g_om)) (fun r_ k_ => k_.length = ((md_cs s_ z_ (0, g_as, g_un, g_um, g_sl, g_hs, g_pd, g_ln, g_at, g_iw, g_os, g_om))).length → ab_R E_X3_restore P_X3_restore Q 11 [some (.inr (.inl (some 0))), some (.inl a), none] (ab_ret r_ []) k_) from ⟨_, l1, fun r_ k_ hz _ => by obtain ⟨x_, rfl, rfl, hR⟩ := hz; exact hR⟩)
set_option maxRecDepth 100000 in
theorem b_X3_restore_11 {Q : ab_Q} {a : Int} {t0 : Int} {s_ : Int → Int} {z_ : mc_T} {g_th : Int} {g_as : Int → Int} {g_un : Int → Int} {g_um : Int} {g_sl : Int → Int} {g_hs : Int → Int} {g_pd : Int → Int} {g_ln : Int} {g_at : Int} {g_iw : Int} {g_os : Int → Int} {g_om : Int} (l1 : ¬ t0 = (0 : Int) → ¬ (g_hs a) = (0 : Int) → sp_X3_records [.inr (.inl (some 0))] (md_cs s_ z_ (g_th, g_as, g_un, g_um, g_sl, g_hs, g_pd, g_ln, g_at, g_iw, g_os, g_om)) (fun r_ k_ => ∃ (s_' : Int → Int), ∃ (z_' : mc_T), ∃ (g_' : mg_T), r_ = none ∧ k_ = (md_cs (s_') z_' g_') ∧ ab_R E_X3_restore P_X3_restore Q 33 [some (.inr (.inl (some 0))), some (.inl a), none] [] (md_cs (s_') z_' g_'))) (l2 : ¬ t0 = (0 : Int) → (g_hs a) = (0 : Int) → Q (some (.inl (-5))) (md_cs s_ z_ (g_th, g_as, g_un, g_um, g_sl, g_hs, g_pd, g_ln, g_at, g_iw, g_os, g_om))) (l3 : t0 = (0 : Int) → Q (some (.inl (-2))) (md_cs s_ z_ (g_th, g_as, g_un, g_um, g_sl, g_hs, g_pd, g_ln, g_at, g_iw, g_os, g_om))) (p1 : ab_r t0 := by intros; (try unfold ab_r); omega) (p2 : ¬ t0 = (0 : Int) → (0 ≤ a ∧ a < 2) := by intros; (try unfold ab_r); omega) (p3 : ¬ t0 = (0 : Int) → ab_r (g_hs a) := by intros; (try unfold ab_r); omega) : ab_R E_X3_restore P_X3_restore Q 11 [some (.inr (.inl (some 0))), some (.inl a), none] [.inl t0] (md_cs s_ z_ (g_th, g_as, g_un, g_um, g_sl, g_hs, g_pd, g_ln, g_at, g_iw, g_os, g_om)) :=
  ab_R.steps [11, 33, 35] 9 (show (ab_r t0 ∧ ((¬ t0 = (0 : Int) → ((0 ≤ a ∧ a < 2) ∧ (ab_r (g_hs a) ∧ ((¬ (g_hs a) = (0 : Int) → ab_cl sp_X3_records [.inr (.inl (some 0))] (md_cs s_ z_ (g_th, g_as, g_un, g_um, g_sl, g_hs, g_pd, g_ln, g_at, g_iw, g_os, g_om)) (fun r_ k_ => k_.length = ((md_cs s_ z_ (g_th, g_as, g_un, g_um, g_sl, g_hs, g_pd, g_ln, g_at, g_iw, g_os, g_om))).length → ab_R E_X3_restore P_X3_restore Q 33 [some (.inr (.inl (some 0))), some (.inl a), none] (ab_ret r_ []) k_)) ∧ ((g_hs a) = (0 : Int) → Q (some (.inl (-5))) (md_cs s_ z_ (g_th, g_as, g_un, g_um, g_sl, g_hs, g_pd, g_ln, g_at, g_iw, g_os, g_om))))))) ∧ (t0 = (0 : Int) → Q (some (.inl (-2))) (md_cs s_ z_ (g_th, g_as, g_un, g_um, g_sl, g_hs, g_pd, g_ln, g_at, g_iw, g_os, g_om))))) from ⟨p1, ⟨fun h1 => ⟨(p2 h1), ⟨(p3 h1), ⟨fun h2 => ⟨_, (l1 h1 h2), fun r_ k_ hz _ => by obtain ⟨s_', z_', g_', rfl, rfl, hR⟩ := hz; exact hR⟩, fun h3 => (l2 h1 h3)⟩⟩⟩, fun h4 => (l3 h4)⟩⟩)
set_option maxRecDepth 100000 in
theorem b_X3_restore_33 {Q : ab_Q} {a : Int} {s_ : Int → Int} {z_ : mc_T} {g_th : Int} {g_as : Int → Int} {g_un : Int → Int} {g_um : Int} {g_sl : Int → Int} {g_hs : Int → Int} {g_pd : Int → Int} {g_ln : Int} {g_at : Int} {g_iw : Int} {g_os : Int → Int} {g_om : Int} (l1 : ab_R E_X3_restore P_X3_restore Q 35 [some (.inr (.inl (some 0))), some (.inl a), some (.inl 0)] [] (md_cs s_ z_ (g_th, g_as, g_un, g_um, g_sl, g_hs, g_pd, g_ln, g_at, g_iw, g_os, g_om)))  : ab_R E_X3_restore P_X3_restore Q 33 [some (.inr (.inl (some 0))), some (.inl a), none] [] (md_cs s_ z_ (g_th, g_as, g_un, g_um, g_sl, g_hs, g_pd, g_ln, g_at, g_iw, g_os, g_om)) :=
  ab_R.steps [11, 33, 35] 4 (show ab_R E_X3_restore P_X3_restore Q 35 [some (.inr (.inl (some 0))), some (.inl a), some (.inl 0)] [] (md_cs s_ z_ (g_th, g_as, g_un, g_um, g_sl, g_hs, g_pd, g_ln, g_at, g_iw, g_os, g_om)) from l1)
set_option maxRecDepth 100000 in
theorem b_X3_restore_35 {Q : ab_Q} {a : Int} {k : Int} {s_ : Int → Int} {z_ : mc_T} {g_th : Int} {g_as : Int → Int} {g_un : Int → Int} {g_um : Int} {g_sl : Int → Int} {g_hs : Int → Int} {g_pd : Int → Int} {g_ln : Int} {g_at : Int} {g_iw : Int} {g_os : Int → Int} {g_om : Int} (l1 : (255 : Int) ≤ k → Q (some (.inl (s_ 0))) (md_cs s_ z_ (g_th, g_as, g_un, g_um, g_sl, g_hs, g_pd, g_ln, g_at, g_iw, g_os, g_om))) (l2 : k < (255 : Int) → ab_R E_X3_restore P_X3_restore Q 35 [some (.inr (.inl (some 0))), some (.inl a), some (.inl (k + 1))] [] (md_cs ((ab_up s_ k (g_sl ((255 * a) + k)))) z_ (g_th, g_as, g_un, g_um, g_sl, g_hs, g_pd, g_ln, g_at, g_iw, g_os, g_om))) (p1 : (ab_r k ∧ ab_r 255) := by intros; (try unfold ab_r); omega) (p2 : (255 : Int) ≤ k → (0 ≤ (0 : Int) ∧ (0 : Int) < 255) := by intros; (try unfold ab_r); omega) (p3 : k < (255 : Int) → (0 ≤ ((255 * a) + k) ∧ ((255 * a) + k) < 510) := by intros; (try unfold ab_r); omega) (p4 : k < (255 : Int) → (0 ≤ k ∧ k < 255) := by intros; (try unfold ab_r); omega) : ab_R E_X3_restore P_X3_restore Q 35 [some (.inr (.inl (some 0))), some (.inl a), some (.inl k)] [] (md_cs s_ z_ (g_th, g_as, g_un, g_um, g_sl, g_hs, g_pd, g_ln, g_at, g_iw, g_os, g_om)) :=
  ab_R.steps [11, 33, 35] 19 (show ((ab_r k ∧ ab_r 255) ∧ (((255 : Int) ≤ k → ((0 ≤ (0 : Int) ∧ (0 : Int) < 255) ∧ Q (some (.inl (s_ 0))) (md_cs s_ z_ (g_th, g_as, g_un, g_um, g_sl, g_hs, g_pd, g_ln, g_at, g_iw, g_os, g_om)))) ∧ (k < (255 : Int) → ((0 ≤ ((255 * a) + k) ∧ ((255 * a) + k) < 510) ∧ ((0 ≤ k ∧ k < 255) ∧ ab_R E_X3_restore P_X3_restore Q 35 [some (.inr (.inl (some 0))), some (.inl a), some (.inl (k + 1))] [] (md_cs ((ab_up s_ k (g_sl ((255 * a) + k)))) z_ (g_th, g_as, g_un, g_um, g_sl, g_hs, g_pd, g_ln, g_at, g_iw, g_os, g_om))))))) from ⟨p1, ⟨fun h1 => ⟨(p2 h1), (l1 h1)⟩, fun h2 => ⟨(p3 h2), ⟨(p4 h2), (l2 h2)⟩⟩⟩⟩)
theorem mf_less_mono {v w : Int} (h : v < w) : ∀ l : List Int, mf_less v l + mf_like v l ≤ mf_less w l
  | [] => by unfold mf_less mf_like; simp
  | x :: l => by
    have ih := mf_less_mono h l
    rw [mf_less_cons, mf_less_cons, mf_like_cons]
    split <;> split <;> split <;> omega
theorem mf_kt_uniq {l : List Int} {k v w : Int} (h1 : mf_kt l k v) (h2 : mf_kt l k w) : v = w := by
  unfold mf_kt at h1 h2
  by_cases a : v < w
  · have := mf_less_mono a l; omega
  · by_cases b : w < v
    · have := mf_less_mono b l; omega
    · omega
theorem mf_kv_is {l : List Int} {k v : Int} (hv : v ∈ l) (h : mf_kt l k v) : mf_kv l k = v := by
  unfold mf_kv
  cases hf : l.find? (fun v => decide (mf_kt l k v)) with
  | none =>
    have := List.find?_eq_none.mp hf v hv
    exact absurd (decide_eq_true h) this
  | some w =>
    have := List.find?_some hf
    exact mf_kt_uniq (of_decide_eq_true this) h
theorem mf_kv_no {l : List Int} {k : Int} (h : ∀ v ∈ l, ¬ mf_kt l k v) : mf_kv l k = 0 := by
  unfold mf_kv
  rw [List.find?_eq_none.mpr (fun v hv => by simpa using h v hv)]
  rfl
theorem mf_less_in (v : Int) (l : List Int) : 0 ≤ mf_less v l ∧ mf_less v l ≤ l.length := by
  unfold mf_less
  have := List.countP_le_length (p := fun x => decide (x < v)) (l := l)
  omega
theorem mf_like_in (v : Int) (l : List Int) : 0 ≤ mf_like v l ∧ mf_like v l ≤ l.length := by
  unfold mf_like
  have := List.countP_le_length (p := fun x => decide (x = v)) (l := l)
  omega
theorem mq_sp_len {q : List mq_K} (hW : mq_W q) (a b : Int) : (mq_sp q a b).length ≤ 60 := by
  have hfl := hW.2
  unfold mq_sp
  rw [List.length_take, List.length_drop, mq_all_len]
  omega
theorem mq_sp_snoc {q : List mq_K} {a p : Int} (h0 : 0 ≤ a) (h1 : a ≤ p) (h3 : p < mq_n q) {x : Int} (hx : (mq_all q)[p.toNat]? = some x) : mq_sp q a p = mq_sp q a (p - 1) ++ [x] := by
  obtain ⟨y, hy, e⟩ := mq_sp_at (q := q) h0 h1 (Int.le_refl p) h3
  rw [hx] at hy
  rw [e, mq_sp_nil q (p + 1) p (by omega), Option.some.inj hy]
theorem vc_X3_unlike {av : List ab_V} {cs : List ab_C} {Q : ab_Q} (h : sp_X3_unlike av cs Q) : (ab_lv0 av).length ≤ 6 ∧ ab_R E_X3_unlike P_X3_unlike Q 0 (ab_ent av 6) [] cs := by
  obtain ⟨s, z, ⟨th, as, un, um, sl, hs, pd, ln, at_, iw, os, om⟩, S, a, b, rfl, rfl, hI, ha, hb, hQ⟩ := h
  refine ⟨Nat.le_of_ble_eq_true rfl, ?_⟩
  obtain ⟨hR, hW, hw⟩ := id hI.1
  have hfl := hW.2
  have hQ := hQ s z (0, as, un, um, sl, hs, pd, ln, at_, iw, os, om) hI rfl
  dsimp only [mf_unlike] at hQ
  have hin := mq_eSpan_in S.1.1 a b
  refine b_X3_unlike_0 ⟨_, _, _, S.1.1, _, _, rfl, rfl, hR, hW, ha, hb, _, rfl, rfl, ?_⟩
  refine b_X3_unlike_11 (fun h => ?_) (fun h => ?_)
  · rw [if_pos h] at hQ
    have e := mq_eSpan_0 h
    have e' := e
    unfold mq_n at e'
    have loop : ∀ (m : Nat) (p n : Int), b + 1 - p = m → a ≤ p → n + mf_ul (mq_sp S.1.1 a (p - 1)) (mq_sp S.1.1 p b) = mf_ul [] (mq_sp S.1.1 a b) → ab_R E_X3_unlike P_X3_unlike Q 24 [some (.inr (.inl (some 0))), some (.inl a), some (.inl b), some (.inl (mq_eSpan S.1.1 a b)), some (.inl n), some (.inl p)] [] (md_cs s z (0, as, un, um, sl, hs, pd, ln, at_, iw, os, om)) := by
      intro m
      induction m with
      | zero =>
        intro p n g1 g2 g3
        rw [mq_sp_nil S.1.1 p b (by omega)] at g3
        refine b_X3_unlike_24 (fun _ => ?_) (fun h => by omega) (fun h => by omega)
        have e0 : mf_ul (mq_sp S.1.1 a (p - 1)) [] = 0 := by unfold mf_ul; rfl
        rw [show n = mf_ul [] (mq_sp S.1.1 a b) by omega]
        exact hQ
      | succ m ih =>
        intro p n g1 g2 g3
        obtain ⟨x, hx, e2⟩ := mq_sp_cons (q := S.1.1) (p := p) (b := b) (by omega) (by omega) (by omega)
        have hxin := mq_all_in hW x (List.mem_of_getElem? hx)
        have hsn := mq_sp_snoc (q := S.1.1) (a := a) (p := p) (by omega) (by omega) (by omega) hx
        have hnext : ∀ n' : Int, n' = n + (if mf_like x (mq_sp S.1.1 a (p - 1)) = 0 then 1 else 0) → n' + mf_ul (mq_sp S.1.1 a (p + 1 - 1)) (mq_sp S.1.1 (p + 1) b) = mf_ul [] (mq_sp S.1.1 a b) := by
          intro n' hn'
          have eu : mf_ul (mq_sp S.1.1 a (p - 1)) (x :: mq_sp S.1.1 (p + 1) b) = (if mf_like x (mq_sp S.1.1 a (p - 1)) = 0 then 1 else 0) + mf_ul (mq_sp S.1.1 a (p - 1) ++ [x]) (mq_sp S.1.1 (p + 1) b) := by
            conv => lhs; unfold mf_ul
          rw [e2, eu] at g3
          rw [show p + 1 - 1 = p by omega, hsn]
          omega
        refine b_X3_unlike_24 (fun h => by omega) (fun _ hpa => ih _ _ (by omega) (by omega) (hnext _ ?_)) (fun _ hpa => ?_)
        · rw [hpa, mq_sp_nil S.1.1 a (a - 1) (by omega), show mf_like x [] = 0 by unfold mf_like; simp, if_pos rfl]
        · refine ⟨_, _, _, S.1.1, _, p.toNat, x, rfl, rfl, hR, hW, by omega, hx, _, rfl, rfl, ?_⟩
          refine b_X3_unlike_50 ⟨_, _, _, S.1.1, _, _, _, rfl, rfl, hR, hW, by omega, by omega, by omega, by omega, by omega, _, rfl, rfl, ?_⟩
          have hl := mf_like_in x (mq_sp S.1.1 a (p - 1))
          have hl2 := mq_sp_len hW a (p - 1)
          refine b_X3_unlike_53 (fun hc => ih _ _ (by omega) (by omega) (hnext _ ?_)) (fun hc => ih _ _ (by omega) (by omega) (hnext _ ?_))
          · rw [if_neg hc]
          · rw [if_pos hc]
    exact loop (b + 1 - a).toNat a 0 (by omega) (by omega) (by rw [mq_sp_nil S.1.1 a (a - 1) (by omega)]; omega)
  · rwa [if_neg h] at hQ
theorem mt_X3_unlike (l : Launch) : ab_MT l mi_X3_unlike sp_X3_unlike := ab_MT.of (own := "RootChunksModel") (E := E_X3_unlike) (P := P_X3_unlike) (M := M_X3_unlike) (nL := 6) (ty := 0) (by decide) rfl rfl tk_X3 pk_X3_unlike ck_X3_unlike (ab_CT'.cons (mt_X3_refusesSpan l) (ab_CT'.cons (mt_X3_valueAt l) (ab_CT'.cons (mt_X3_alike l) ab_CT'.nil))) (fun av cs Q h => vc_X3_unlike h)
theorem vc_X3_kth {av : List ab_V} {cs : List ab_C} {Q : ab_Q} (h : sp_X3_kth av cs Q) : (ab_lv0 av).length ≤ 9 ∧ ab_R E_X3_kth P_X3_kth Q 0 (ab_ent av 9) [] cs := by
  obtain ⟨s, z, ⟨th, as, un, um, sl, hs, pd, ln, at_, iw, os, om⟩, S, a, b, k, rfl, rfl, hI, ha, hb, hk, hQ⟩ := h
  refine ⟨Nat.le_of_ble_eq_true rfl, ?_⟩
  obtain ⟨hR, hW, hw⟩ := id hI.1
  have hfl := hW.2
  have hQ := hQ s z (0, as, un, um, sl, hs, pd, ln, at_, iw, os, om) hI rfl
  dsimp only [mf_kth] at hQ
  have hin := mq_eSpan_in S.1.1 a b
  refine b_X3_kth_0 ⟨_, _, _, S.1.1, _, _, rfl, rfl, hR, hW, ha, hb, _, rfl, rfl, ?_⟩
  refine b_X3_kth_11 (fun h => ?_) (fun h => ?_)
  · rw [if_pos h] at hQ
    have e := mq_eSpan_0 h
    have e' := e
    unfold mq_n at e'
    refine ⟨_, _, _, rfl, hk, by unfold ab_r; omega, by unfold ab_r; omega, _, rfl, rfl, ?_⟩
    by_cases y : 0 ≤ k ∧ k ≤ b - a
    · rw [if_pos y] at hQ ⊢
      refine b_X3_kth_29 (fun _ => ?_) (fun h => by omega)
      have loop : ∀ (m : Nat) (p fo : Int), b + 1 - p = m → a ≤ p → ((∃ v, v ∈ mq_sp S.1.1 a b ∧ mf_kt (mq_sp S.1.1 a b) k v ∧ fo = v) ∨ ((∀ v ∈ mq_sp S.1.1 a (p - 1), ¬ mf_kt (mq_sp S.1.1 a b) k v) ∧ fo = 0)) → ab_R E_X3_kth P_X3_kth Q 41 [some (.inr (.inl (some 0))), some (.inl a), some (.inl b), some (.inl k), some (.inl (mq_eSpan S.1.1 a b)), some (.inl fo), some (.inl p), none, none] [] (md_cs s z (0, as, un, um, sl, hs, pd, ln, at_, iw, os, om)) := by
        intro m
        induction m with
        | zero =>
          intro p fo g1 g2 g3
          refine b_X3_kth_41 (fun _ => ?_) (fun h => by omega)
          have : fo = mf_kv (mq_sp S.1.1 a b) k := by
            rcases g3 with ⟨v, v1, v2, v3⟩ | ⟨v1, v2⟩
            · rw [mf_kv_is v1 v2]; exact v3
            · rw [show p - 1 = b by omega] at v1
              rw [mf_kv_no v1]; exact v2
          rw [this]; exact hQ
        | succ m ih =>
          intro p fo g1 g2 g3
          obtain ⟨x, hx, e2⟩ := mq_sp_at (q := S.1.1) (a := a) (p := p) (b := b) (by omega) (by omega) (by omega) (by omega)
          have hxin := mq_all_in hW x (List.mem_of_getElem? hx)
          have hsn := mq_sp_snoc (q := S.1.1) (a := a) (p := p) (by omega) (by omega) (by omega) hx
          have hxm : x ∈ mq_sp S.1.1 a b := by rw [e2]; simp
          have hno : ¬ mf_kt (mq_sp S.1.1 a b) k x → ((∃ v, v ∈ mq_sp S.1.1 a b ∧ mf_kt (mq_sp S.1.1 a b) k v ∧ fo = v) ∨ ((∀ v ∈ mq_sp S.1.1 a (p + 1 - 1), ¬ mf_kt (mq_sp S.1.1 a b) k v) ∧ fo = 0)) := by
            intro hn
            rcases g3 with g3 | ⟨v1, v2⟩
            · exact Or.inl g3
            · refine Or.inr ⟨fun v hv => ?_, v2⟩
              rw [show p + 1 - 1 = p by omega, hsn] at hv
              rcases List.mem_append.mp hv with hv | hv
              · exact v1 v hv
              · rw [List.mem_singleton.mp hv]; exact hn
          have l1 := mf_less_in x (mq_sp S.1.1 a b)
          have l2 := mf_like_in x (mq_sp S.1.1 a b)
          have l3 := mq_sp_len hW a b
          refine b_X3_kth_41 (fun h => by omega) (fun _ => ⟨_, _, _, S.1.1, _, p.toNat, x, rfl, rfl, hR, hW, by omega, hx, _, rfl, rfl, ?_⟩)
          refine b_X3_kth_53 ⟨_, _, _, S.1.1, _, _, _, rfl, rfl, hR, hW, by omega, by omega, by omega, by omega, by omega, _, rfl, rfl, ?_⟩
          refine b_X3_kth_63 (fun hc => ih _ _ (by omega) (by omega) (hno (fun hkt => by unfold mf_kt at hkt; omega))) (fun hc => ⟨_, _, _, S.1.1, _, _, _, rfl, rfl, hR, hW, by omega, by omega, by omega, by omega, by omega, _, rfl, rfl, ?_⟩)
          refine b_X3_kth_82 (fun hc2 => ih _ _ (by omega) (by omega) (hno (fun hkt => by unfold mf_kt at hkt; omega))) (fun hc2 => ih _ _ (by omega) (by omega) (Or.inl ⟨x, hxm, ⟨hc, hc2⟩, rfl⟩))
      exact loop (b + 1 - a).toNat a 0 (by omega) (by omega) (Or.inr ⟨fun v hv => by rw [mq_sp_nil S.1.1 a (a - 1) (by omega)] at hv; simp at hv, rfl⟩)
    · rw [if_neg y] at hQ ⊢
      exact b_X3_kth_29 (fun h => absurd rfl h) (fun _ => hQ)
  · rwa [if_neg h] at hQ
theorem mt_X3_kth (l : Launch) : ab_MT l mi_X3_kth sp_X3_kth := ab_MT.of (own := "RootChunksModel") (E := E_X3_kth) (P := P_X3_kth) (M := M_X3_kth) (nL := 9) (ty := 0) (by decide) rfl rfl tk_X3 pk_X3_kth ck_X3_kth (ab_CT'.cons (mt_X3_refusesSpan l) (ab_CT'.cons (mt_X3_in l) (ab_CT'.cons (mt_X3_valueAt l) (ab_CT'.cons (mt_X3_lesser l) (ab_CT'.cons (mt_X3_alike l) ab_CT'.nil))))) (fun av cs Q h => vc_X3_kth h)
theorem vc_X3_costOfTurn {av : List ab_V} {cs : List ab_C} {Q : ab_Q} (h : sp_X3_costOfTurn av cs Q) : (ab_lv0 av).length ≤ 7 ∧ ab_R E_X3_costOfTurn P_X3_costOfTurn Q 0 (ab_ent av 7) [] cs := by
  obtain ⟨s, z, ⟨th, as, un, um, sl, hs, pd, ln, at_, iw, os, om⟩, S, a, b, rfl, rfl, hI, ha, hb, hQ⟩ := h
  refine ⟨Nat.le_of_ble_eq_true rfl, ?_⟩
  obtain ⟨hR, hW, hw⟩ := id hI.1
  have hin := mq_eSpan_in S.1.1 a b
  refine b_X3_costOfTurn_0 ⟨_, _, _, S.1.1, _, _, rfl, rfl, hR, hW, ha, hb, _, rfl, rfl, ?_⟩
  refine b_X3_costOfTurn_11 (fun h => ?_) (fun h => ?_)
  · have e := mq_eSpan_0 h
    unfold mq_n at e
    have second : ∀ (as1 s1 : Int → Int) (z1 : mc_T) (co k : Int), (∀ j : Int, 0 ≤ j → j < 255 → as1 j = s j) → co = (mf_do 116 S.1.1 a b 0).2 → ∀ (m : Nat) (j : Int) (s2 : Int → Int), j + m = 255 → 0 ≤ j → (∀ i : Int, 0 ≤ i → i < j → s2 i = s i) →
        ab_R E_X3_costOfTurn P_X3_costOfTurn Q 77 [some (.inr (.inl (some 0))), some (.inl a), some (.inl b), some (.inl (mq_eSpan S.1.1 a b)), some (.inl k), some (.inl co), some (.inl j)] [] (md_cs s2 z1 (0, as1, un, um, sl, hs, pd, ln, at_, iw, os, om)) := by
      intro as1 s1 z1 co k q1 q2 m
      induction m with
      | zero =>
        intro j s2 g1 g2 g3
        refine b_X3_costOfTurn_77 (fun _ => ?_) (fun h => by omega)
        have hQ := hQ s2 z1 (0, as1, un, um, sl, hs, pd, ln, at_, iw, os, om) ⟨mh_st_ext hI.1 (fun i i1 i2 => g3 i i1 (by omega)), hI.2⟩ rfl
        dsimp only [mf_cost] at hQ
        rw [if_pos h] at hQ
        rw [q2]; exact hQ
      | succ m ih =>
        intro j s2 g1 g2 g3
        refine b_X3_costOfTurn_77 (fun h => by omega) (fun _ => ih _ _ (by omega) (by omega) (fun i i1 i2 => ?_))
        by_cases y : i = j
        · rw [ab_up_eq y, q1 j (by omega) (by omega), y]
        · rw [ab_up_ne y]; exact g3 i i1 (by omega)
    have first : ∀ (m : Nat) (k : Int) (as1 : Int → Int), k + m = 255 → 0 ≤ k → (∀ j : Int, 0 ≤ j → j < k → as1 j = s j) →
        ab_R E_X3_costOfTurn P_X3_costOfTurn Q 21 [some (.inr (.inl (some 0))), some (.inl a), some (.inl b), some (.inl (mq_eSpan S.1.1 a b)), some (.inl k), none, none] [] (md_cs s z (0, as1, un, um, sl, hs, pd, ln, at_, iw, os, om)) := by
      intro m
      induction m with
      | zero =>
        intro k as1 g1 g2 g3
        refine b_X3_costOfTurn_21 (fun _ => ⟨_, _, _, S.1.1, a.toNat, (b + 1 - a).toNat, _, _, rfl, rfl, hR, hW, by omega, by omega, by omega, fun s' z' q1 q2 => ⟨_, _, _, rfl, rfl, ?_⟩⟩) (fun h => by omega)
        refine b_X3_costOfTurn_63 (second as1 s' z' _ _ (fun j j1 j2 => g3 j j1 (by omega)) ?_ 255 0 s' rfl (by omega) (fun i i1 i2 => by omega))
        rw [q2]; unfold mf_do; rw [if_neg (by omega), if_neg (by omega), if_neg (by omega), if_pos rfl]; unfold mf_ch; dsimp only; omega
      | succ m ih =>
        intro k as1 g1 g2 g3
        refine b_X3_costOfTurn_21 (fun h => by omega) (fun _ => ih _ _ (by omega) (by omega) (fun j j1 j2 => ?_))
        by_cases y : j = k
        · rw [ab_up_eq y, y]
        · rw [ab_up_ne y]; exact g3 j j1 (by omega)
    exact first 255 0 as rfl (by omega) (fun j j1 j2 => by omega)
  · have hQ := hQ s z (0, as, un, um, sl, hs, pd, ln, at_, iw, os, om) hI rfl
    dsimp only [mf_cost] at hQ
    rwa [if_neg h] at hQ
theorem mt_X3_costOfTurn (l : Launch) : ab_MT l mi_X3_costOfTurn sp_X3_costOfTurn := ab_MT.of (own := "RootChunksModel") (E := E_X3_costOfTurn) (P := P_X3_costOfTurn) (M := M_X3_costOfTurn) (nL := 7) (ty := 0) (by decide) rfl rfl tk_X3 pk_X3_costOfTurn ck_X3_costOfTurn (ab_CT'.cons (mt_X3_refusesSpan l) (ab_CT'.cons (mt_X3_turns l) ab_CT'.nil)) (fun av cs Q h => vc_X3_costOfTurn h)
theorem vc_X3_wipe {av : List ab_V} {cs : List ab_C} {Q : ab_Q} (h : sp_X3_wipe av cs Q) : (ab_lv0 av).length ≤ 2 ∧ ab_R E_X3_wipe P_X3_wipe Q 0 (ab_ent av 2) [] cs := by
  obtain ⟨s, z, ⟨th, as, un, um, sl, hs, pd, ln, at_, iw, os, om⟩, S, rfl, rfl, ⟨hst, hU, hS, hP⟩, hQ⟩ := h
  refine ⟨Nat.le_of_ble_eq_true rfl, ?_⟩
  have hln : ln = (S.2.2.2.length : Nat) := hP.2.1
  have hQ := hQ s z (0, as, un, um, sl, hs, pd, 0, at_, iw, os, om) ⟨hst, hU, hS, mq_al_nil _, rfl, by simp, fun x hx => by simp at hx⟩ rfl
  dsimp only at hQ
  rw [← hln] at hQ
  exact b_X3_wipe_0 hQ
theorem mt_X3_wipe (l : Launch) : ab_MT l mi_X3_wipe sp_X3_wipe := ab_MT.of (own := "RootChunksModel") (E := E_X3_wipe) (P := P_X3_wipe) (M := M_X3_wipe) (nL := 2) (ty := 0) (by decide) rfl rfl tk_X3 pk_X3_wipe ck_X3_wipe ab_CT'.nil (fun av cs Q h => vc_X3_wipe h)
theorem vc_X3_undo {av : List ab_V} {cs : List ab_C} {Q : ab_Q} (h : sp_X3_undo av cs Q) : (ab_lv0 av).length ≤ 2 ∧ ab_R E_X3_undo P_X3_undo Q 0 (ab_ent av 2) [] cs := by
  obtain ⟨s, z, ⟨th, as, un, um, sl, hs, pd, ln, at_, iw, os, om⟩, ⟨x0, h, o, pad⟩, rfl, rfl, ⟨hst, hU, hS, hP⟩, hQ⟩ := h
  refine ⟨Nat.le_of_ble_eq_true rfl, ?_⟩
  have hum : um = (h.length : Nat) := hU.1
  have hle : h.length ≤ 6 := hU.2.1
  rcases List.eq_nil_or_concat h with rfl | ⟨L, x, hcc⟩
  · have hQ := hQ s z (0, as, un, um, sl, hs, pd, ln, at_, iw, os, om) ⟨hst, hU, hS, hP⟩ rfl
    dsimp only [mf_undo, List.getLast?_nil] at hQ
    rw [List.length_nil] at hum
    exact b_X3_undo_0 (fun h => absurd hum h) (fun _ => hQ)
  · rw [List.concat_eq_append] at hcc
    subst hcc
    rw [List.length_append, List.length_singleton] at hum hle
    have e : mf_undo (x0, L ++ [x], o, pad) = ((L.length : Int), (x, L, o, pad)) := by
      unfold mf_undo
      dsimp only
      rw [List.getLast?_concat, List.dropLast_concat, List.length_append, List.length_singleton, Nat.add_sub_cancel]
    rw [e] at hQ
    have hx : mh_st (fun k => un (255 * (L.length : Nat) + k)) x := hU.2.2 L.length x (by simp)
    have hUL : mh_U un (um - 1) L := ⟨by omega, by omega, fun i y hy => hU.2.2 i y (by
      rw [List.getElem?_append_left (List.getElem?_eq_some_iff.mp hy).1]; exact hy)⟩
    refine b_X3_undo_0 (fun _ => ?_) (fun h => by omega)
    have loop : ∀ (m : Nat) (k : Int) (s2 : Int → Int), k + m = 255 → 0 ≤ k → (∀ j : Int, 0 ≤ j → j < k → s2 j = un (255 * (um - 1) + j)) →
        ab_R E_X3_undo P_X3_undo Q 27 [some (.inr (.inl (some 0))), some (.inl k)] [] (md_cs s2 z (0, as, un, um - 1, sl, hs, pd, ln, at_, iw, os, om)) := by
      intro m
      induction m with
      | zero =>
        intro k s2 g1 g2 g3
        refine b_X3_undo_27 (fun _ => ?_) (fun h => by omega)
        have hs2 : mh_st s2 x := mh_st_ext hx (fun j j1 j2 => by rw [g3 j j1 (by omega), show um - 1 = (L.length : Int) by omega])
        have hQ := hQ s2 z (0, as, un, um - 1, sl, hs, pd, ln, at_, iw, os, om) ⟨hs2, hUL, hS, hP⟩ rfl
        rw [show um - 1 = (L.length : Int) by omega] at hQ ⊢
        exact hQ
      | succ m ih =>
        intro k s2 g1 g2 g3
        refine b_X3_undo_27 (fun h => by omega) (fun _ => ih _ _ (by omega) (by omega) (fun j j1 j2 => ?_))
        by_cases y : j = k
        · rw [ab_up_eq y, y]
        · rw [ab_up_ne y]; exact g3 j j1 (by omega)
    exact loop 255 0 s rfl (by omega) (fun j j1 j2 => by omega)
theorem mt_X3_undo (l : Launch) : ab_MT l mi_X3_undo sp_X3_undo := ab_MT.of (own := "RootChunksModel") (E := E_X3_undo) (P := P_X3_undo) (M := M_X3_undo) (nL := 2) (ty := 0) (by decide) rfl rfl tk_X3 pk_X3_undo ck_X3_undo ab_CT'.nil (fun av cs Q h => vc_X3_undo h)
theorem vc_X3_save {av : List ab_V} {cs : List ab_C} {Q : ab_Q} (h : sp_X3_save av cs Q) : (ab_lv0 av).length ≤ 3 ∧ ab_R E_X3_save P_X3_save Q 0 (ab_ent av 3) [] cs := by
  obtain ⟨s, z, ⟨th, as, un, um, sl, hs, pd, ln, at_, iw, os, om⟩, S, a, rfl, rfl, ⟨hst, hU, hS, hP⟩, ha, hQ⟩ := h
  refine ⟨Nat.le_of_ble_eq_true rfl, ?_⟩
  obtain ⟨hR, hW, hw⟩ := id hst
  have hnn : s 0 = mq_n S.1.1 := hR.2.2.2.2.1
  refine b_X3_save_0 ⟨_, _, _, rfl, ha, by unfold ab_r; omega, by unfold ab_r; omega, _, rfl, rfl, ?_⟩
  by_cases y : 0 ≤ a ∧ a ≤ 1
  · rw [if_pos y]
    refine b_X3_save_11 (fun _ => ?_) (fun h => by omega)
    have loop : ∀ (m : Nat) (k : Int) (sl2 : Int → Int), k + m = 255 → 0 ≤ k → (∀ j : Int, sl2 j = if 255 * a ≤ j ∧ j < 255 * a + k then s (j - 255 * a) else sl j) →
        ab_R E_X3_save P_X3_save Q 19 [some (.inr (.inl (some 0))), some (.inl a), some (.inl k)] [] (md_cs s z (0, as, un, um, sl2, hs, pd, ln, at_, iw, os, om)) := by
      intro m
      induction m with
      | zero =>
        intro k sl2 g1 g2 g3
        refine b_X3_save_19 (fun _ => ?_) (fun h => by omega)
        have hQ := hQ s z (0, as, un, um, sl2, ab_up hs a 1, pd, ln, at_, iw, os, om)
        rw [hnn]
        by_cases y0 : a = 0
        · subst y0
          unfold mf_save at hQ
          rw [if_pos rfl] at hQ
          refine hQ ⟨hst, hU, ⟨⟨show ab_up hs 0 1 0 = 1 from ab_up_eq rfl, mh_st_ext hst (fun j j1 j2 => ?_)⟩, ?_⟩, hP⟩ rfl
          · show sl2 j = s j
            rw [g3, if_pos (by omega)]; congr 1; omega
          · show mh_o (fun k => sl2 (255 + k)) (ab_up hs 0 1 1) S.2.2.1.2
            rw [ab_up_ne (by omega)]
            have h2 := hS.2
            unfold mh_o at h2 ⊢
            split
            · next e => rw [e] at h2; exact h2
            · next x e =>
              rw [e] at h2
              refine ⟨h2.1, mh_st_ext h2.2 (fun j j1 j2 => ?_)⟩
              show sl2 (255 + j) = sl (255 + j)
              rw [g3, if_neg (by omega)]
        · have y1 : a = 1 := by omega
          subst y1
          unfold mf_save at hQ
          rw [if_neg (by omega), if_pos rfl] at hQ
          refine hQ ⟨hst, hU, ⟨?_, ⟨show ab_up hs 1 1 1 = 1 from ab_up_eq rfl, mh_st_ext hst (fun j j1 j2 => ?_)⟩⟩, hP⟩ rfl
          · show mh_o sl2 (ab_up hs 1 1 0) S.2.2.1.1
            rw [ab_up_ne (by omega)]
            have h2 := hS.1
            unfold mh_o at h2 ⊢
            split
            · next e => rw [e] at h2; exact h2
            · next x e =>
              rw [e] at h2
              refine ⟨h2.1, mh_st_ext h2.2 (fun j j1 j2 => ?_)⟩
              show sl2 j = sl j
              rw [g3, if_neg (by omega)]
          · show sl2 (255 + j) = s j
            rw [g3, if_pos (by omega)]; congr 1; omega
      | succ m ih =>
        intro k sl2 g1 g2 g3
        refine b_X3_save_19 (fun h => by omega) (fun _ => ih _ _ (by omega) (by omega) (fun j => ?_))
        by_cases y : j = 255 * a + k
        · rw [ab_up_eq y, if_pos (by omega)]; congr 1; omega
        · rw [ab_up_ne y, g3]
          by_cases y2 : 255 * a ≤ j ∧ j < 255 * a + k
          · rw [if_pos y2, if_pos (by omega)]
          · rw [if_neg y2, if_neg (by omega)]
    exact loop 255 0 sl rfl (by omega) (fun j => by rw [if_neg (by omega)])
  · rw [if_neg y]
    unfold mf_save at hQ
    rw [if_neg (by omega), if_neg (by omega)] at hQ
    exact b_X3_save_11 (fun h => absurd rfl h) (fun _ => hQ s z (0, as, un, um, sl, hs, pd, ln, at_, iw, os, om) ⟨hst, hU, hS, hP⟩ rfl)
theorem mt_X3_save (l : Launch) : ab_MT l mi_X3_save sp_X3_save := ab_MT.of (own := "RootChunksModel") (E := E_X3_save) (P := P_X3_save) (M := M_X3_save) (nL := 3) (ty := 0) (by decide) rfl rfl tk_X3 pk_X3_save ck_X3_save (ab_CT'.cons (mt_X3_in l) ab_CT'.nil) (fun av cs Q h => vc_X3_save h)
theorem vc_X3_restore {av : List ab_V} {cs : List ab_C} {Q : ab_Q} (h : sp_X3_restore av cs Q) : (ab_lv0 av).length ≤ 3 ∧ ab_R E_X3_restore P_X3_restore Q 0 (ab_ent av 3) [] cs := by
  obtain ⟨s, z, ⟨th, as, un, um, sl, hs, pd, ln, at_, iw, os, om⟩, S, a, rfl, rfl, ⟨hst, hU, hS, hP⟩, ha, hQ⟩ := h
  refine ⟨Nat.le_of_ble_eq_true rfl, ?_⟩
  refine b_X3_restore_0 ⟨_, _, _, rfl, ha, by unfold ab_r; omega, by unfold ab_r; omega, _, rfl, rfl, ?_⟩
  by_cases y : 0 ≤ a ∧ a ≤ 1
  · rw [if_pos y]
    obtain ⟨o, ho, hF⟩ : ∃ o : Option mS_X, mh_o (fun k => sl (255 * a + k)) (hs a) o ∧ mf_restore S a = mf_rest S o := by
      by_cases y0 : a = 0
      · subst y0
        refine ⟨S.2.2.1.1, ?_, by unfold mf_restore; rw [if_pos rfl]⟩
        have h2 := hS.1
        have : (fun k => sl (255 * 0 + k)) = sl := by funext k; congr 1; omega
        rw [this]; exact h2
      · have y1 : a = 1 := by omega
        subst y1
        refine ⟨S.2.2.1.2, ?_, by unfold mf_restore; rw [if_neg (by omega), if_pos rfl]⟩
        exact hS.2
    rw [hF] at hQ
    cases o with
    | none =>
      have h0 : hs a = 0 := ho
      exact b_X3_restore_11 (fun _ h => absurd h0 h) (fun _ _ => hQ s z (0, as, un, um, sl, hs, pd, ln, at_, iw, os, om) ⟨hst, hU, hS, hP⟩ rfl) (fun h => by omega)
    | some x =>
      have h1 : hs a = 1 := ho.1
      have hx := ho.2
      refine b_X3_restore_11 (fun _ h => ?_) (fun _ h => by omega) (fun h => by omega)
      refine ⟨_, _, _, _, _, _, _, _, _, _, _, _, _, _, _, _, rfl, rfl, hst, hU, fun un' um' hU' => ⟨_, _, _, rfl, rfl, ?_⟩⟩
      refine b_X3_restore_33 ?_
      have loop : ∀ (m : Nat) (k : Int) (s2 : Int → Int), k + m = 255 → 0 ≤ k → (∀ j : Int, 0 ≤ j → j < k → s2 j = sl (255 * a + j)) →
          ab_R E_X3_restore P_X3_restore Q 35 [some (.inr (.inl (some 0))), some (.inl a), some (.inl k)] [] (md_cs s2 z (0, as, un', um', sl, hs, pd, ln, at_, iw, os, om)) := by
        intro m
        induction m with
        | zero =>
          intro k s2 g1 g2 g3
          refine b_X3_restore_35 (fun _ => ?_) (fun h => by omega)
          have hs2 : mh_st s2 x := mh_st_ext hx (fun j j1 j2 => by rw [g3 j j1 (by omega)])
          have hnn : s2 0 = mq_n x.1 := hs2.1.2.2.2.2.1
          rw [hnn]
          exact hQ s2 z (0, as, un', um', sl, hs, pd, ln, at_, iw, os, om) ⟨hs2, hU', hS, hP⟩ rfl
        | succ m ih =>
          intro k s2 g1 g2 g3
          refine b_X3_restore_35 (fun h => by omega) (fun _ => ih _ _ (by omega) (by omega) (fun j j1 j2 => ?_))
          by_cases y : j = k
          · rw [ab_up_eq y, y]
          · rw [ab_up_ne y]; exact g3 j j1 (by omega)
      exact loop 255 0 s rfl (by omega) (fun j j1 j2 => by omega)
  · rw [if_neg y]
    unfold mf_restore at hQ
    rw [if_neg (by omega), if_neg (by omega)] at hQ
    exact b_X3_restore_11 (fun h => absurd rfl h) (fun h => absurd rfl h) (fun _ => hQ s z (0, as, un, um, sl, hs, pd, ln, at_, iw, os, om) ⟨hst, hU, hS, hP⟩ rfl)
theorem mt_X3_restore (l : Launch) : ab_MT l mi_X3_restore sp_X3_restore := ab_MT.of (own := "RootChunksModel") (E := E_X3_restore) (P := P_X3_restore) (M := M_X3_restore) (nL := 3) (ty := 0) (by decide) rfl rfl tk_X3 pk_X3_restore ck_X3_restore (ab_CT'.cons (mt_X3_in l) (ab_CT'.cons (mt_X3_records l) ab_CT'.nil)) (fun av cs Q h => vc_X3_restore h)
