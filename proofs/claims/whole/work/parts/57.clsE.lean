/-! THE CLASS: questions -/
def sp_X2_countBelow : ab_Sp := fun av cs Q => ∃ (u : Int) (f : Int → Int) (q : List mq_K) (a b v : Int), av = [.inr (.inl (some 0)), .inl a, .inl b, .inl v] ∧ cs = xs_cs u f ∧ mq_al f (mq_all q) ∧ mq_W q ∧ 0 ≤ a ∧ a ≤ b ∧ b < mq_n q ∧ ab_r v ∧ Q (some (.inl (mf_less v (mq_sp q a b)))) (xs_cs u f)
def sp_X2_firstPlaceOf : ab_Sp := fun av cs Q => ∃ (u : Int) (f : Int → Int) (q : List mq_K) (v a b : Int), av = [.inr (.inl (some 0)), .inl v, .inl a, .inl b] ∧ cs = xs_cs u f ∧ mq_al f (mq_all q) ∧ mq_W q ∧ 0 ≤ a ∧ a ≤ b ∧ b ≤ mq_n q ∧ ab_r v ∧ Q (some (.inl (mf_fd v (mq_sp q a (b - 1)) a))) (xs_cs u f)
def sp_X2_below : ab_Sp := mx_in3 (fun S a b v => (mf_below S.1.1 a b v, S))
def sp_X2_sum : ab_Sp := mx_in2 (fun S a b => (mf_sum S.1.1 a b, S))
def sp_X2_unlike : ab_Sp := mx_in2 (fun S a b => (mf_unlike S.1.1 a b, S))
def sp_X2_find : ab_Sp := mx_in2 (fun S a v => (mf_find S.1.1 a v, S))
def sp_X2_kth : ab_Sp := mx_in3 (fun S a b k => (mf_kth S.1.1 a b k, S))
def sp_X2_costOfTurn : ab_Sp := mx_in2 (fun S a b => (mf_cost S.1.1 a b, S))
-- ===== RootChunks.countBelow
def P_X2_countBelow : List ab_I := [(0, .iconst 0, 1, []), (1, .istore 4, 3, []), (3, .iload_n 1, 4, []), (4, .istore 5, 6, []), (6, .iload 5, 8, []), (8, .iload_n 2, 9, []), (9, .if_icmp .gt 23, 12, [((0 : Int), 32)]), (12, .aload_n 0, 13, []), (13, .getfield 45, 16, []), (16, .iload 5, 18, []), (18, .iaload, 19, []), (19, .iload_n 3, 20, []), (20, .if_icmp .ge 6, 23, [((0 : Int), 26)]), (23, .iinc 4 1, 26, []), (26, .iinc 5 1, 29, []), (29, .goto (-23), 32, [((0 : Int), 6)]), (32, .iload 4, 34, []), (34, .ireturn, 35, [])]
def E_X2_countBelow : ab_E := (T_X2, [], [], 0)
def M_X2_countBelow : List (Nat × ab_MI) := []
def mi_X2_countBelow : ab_MI := (yX2_countBelow, cX2_countBelow, 6, ab_rty 0, 1, 70)
theorem pk_X2_countBelow : P_X2_countBelow.all (ab_okI cX2_countBelow) = true := by decide +kernel
theorem ck_X2_countBelow : P_X2_countBelow.all (ab_okC1 "RootChunks" M_X2_countBelow E_X2_countBelow (1, 70)) = true := by decide +kernel
set_option maxRecDepth 100000 in
theorem b_X2_countBelow_0 {Q : ab_Q} {a : Int} {b : Int} {v : Int} {u : Int} {f : Int → Int} (l1 : ab_R E_X2_countBelow P_X2_countBelow Q 6 [some (.inr (.inl (some 0))), some (.inl a), some (.inl b), some (.inl v), some (.inl 0), some (.inl a)] [] (xs_cs u f))  : ab_R E_X2_countBelow P_X2_countBelow Q 0 [some (.inr (.inl (some 0))), some (.inl a), some (.inl b), some (.inl v), none, none] [] (xs_cs u f) :=
  ab_R.steps [6] 6 (show ab_R E_X2_countBelow P_X2_countBelow Q 6 [some (.inr (.inl (some 0))), some (.inl a), some (.inl b), some (.inl v), some (.inl 0), some (.inl a)] [] (xs_cs u f) from l1)
set_option maxRecDepth 100000 in
theorem b_X2_countBelow_6 {Q : ab_Q} {a : Int} {b : Int} {v : Int} {n : Int} {p : Int} {u : Int} {f : Int → Int} (l1 : b < p → Q (some (.inl n)) (xs_cs u f)) (l2 : p ≤ b → v ≤ (f p) → ab_R E_X2_countBelow P_X2_countBelow Q 6 [some (.inr (.inl (some 0))), some (.inl a), some (.inl b), some (.inl v), some (.inl n), some (.inl (p + 1))] [] (xs_cs u f)) (l3 : p ≤ b → (f p) < v → ab_R E_X2_countBelow P_X2_countBelow Q 6 [some (.inr (.inl (some 0))), some (.inl a), some (.inl b), some (.inl v), some (.inl (n + 1)), some (.inl (p + 1))] [] (xs_cs u f)) (p1 : (ab_r p ∧ ab_r b) := by intros; (try unfold ab_r); omega) (p2 : p ≤ b → (0 ≤ p ∧ p < 60) := by intros; (try unfold ab_r); omega) (p3 : p ≤ b → (ab_r (f p) ∧ ab_r v) := by intros; (try unfold ab_r); omega) : ab_R E_X2_countBelow P_X2_countBelow Q 6 [some (.inr (.inl (some 0))), some (.inl a), some (.inl b), some (.inl v), some (.inl n), some (.inl p)] [] (xs_cs u f) :=
  ab_R.steps [6] 14 (show ((ab_r p ∧ ab_r b) ∧ ((b < p → Q (some (.inl n)) (xs_cs u f)) ∧ (p ≤ b → ((0 ≤ p ∧ p < 60) ∧ ((ab_r (f p) ∧ ab_r v) ∧ ((v ≤ (f p) → ab_R E_X2_countBelow P_X2_countBelow Q 6 [some (.inr (.inl (some 0))), some (.inl a), some (.inl b), some (.inl v), some (.inl n), some (.inl (p + 1))] [] (xs_cs u f)) ∧ ((f p) < v → ab_R E_X2_countBelow P_X2_countBelow Q 6 [some (.inr (.inl (some 0))), some (.inl a), some (.inl b), some (.inl v), some (.inl (n + 1)), some (.inl (p + 1))] [] (xs_cs u f)))))))) from ⟨p1, ⟨fun h1 => (l1 h1), fun h2 => ⟨(p2 h2), ⟨(p3 h2), ⟨fun h3 => (l2 h2 h3), fun h4 => (l3 h2 h4)⟩⟩⟩⟩⟩)
-- ===== RootChunks.firstPlaceOf
def P_X2_firstPlaceOf : List ab_I := [(0, .iload_n 2, 1, []), (1, .istore 4, 3, []), (3, .iload 4, 5, []), (5, .iload_n 3, 6, []), (6, .if_icmp .ge 23, 9, [((0 : Int), 29)]), (9, .aload_n 0, 10, []), (10, .getfield 45, 13, []), (13, .iload 4, 15, []), (15, .iaload, 16, []), (16, .iload_n 1, 17, []), (17, .if_icmp .ne 6, 20, [((0 : Int), 23)]), (20, .iload 4, 22, []), (22, .ireturn, 23, []), (23, .iinc 4 1, 26, []), (26, .goto (-23), 29, [((0 : Int), 3)]), (29, .bipush (-6), 31, []), (31, .ireturn, 32, [])]
def E_X2_firstPlaceOf : ab_E := (T_X2, [], [], 0)
def M_X2_firstPlaceOf : List (Nat × ab_MI) := []
def mi_X2_firstPlaceOf : ab_MI := (yX2_firstPlaceOf, cX2_firstPlaceOf, 5, ab_rty 0, 1, 70)
theorem pk_X2_firstPlaceOf : P_X2_firstPlaceOf.all (ab_okI cX2_firstPlaceOf) = true := by decide +kernel
theorem ck_X2_firstPlaceOf : P_X2_firstPlaceOf.all (ab_okC1 "RootChunks" M_X2_firstPlaceOf E_X2_firstPlaceOf (1, 70)) = true := by decide +kernel
set_option maxRecDepth 100000 in
theorem b_X2_firstPlaceOf_0 {Q : ab_Q} {v : Int} {a : Int} {bh : Int} {u : Int} {f : Int → Int} (l1 : ab_R E_X2_firstPlaceOf P_X2_firstPlaceOf Q 3 [some (.inr (.inl (some 0))), some (.inl v), some (.inl a), some (.inl bh), some (.inl a)] [] (xs_cs u f))  : ab_R E_X2_firstPlaceOf P_X2_firstPlaceOf Q 0 [some (.inr (.inl (some 0))), some (.inl v), some (.inl a), some (.inl bh), none] [] (xs_cs u f) :=
  ab_R.steps [3] 4 (show ab_R E_X2_firstPlaceOf P_X2_firstPlaceOf Q 3 [some (.inr (.inl (some 0))), some (.inl v), some (.inl a), some (.inl bh), some (.inl a)] [] (xs_cs u f) from l1)
set_option maxRecDepth 100000 in
theorem b_X2_firstPlaceOf_3 {Q : ab_Q} {v : Int} {a : Int} {bh : Int} {p : Int} {u : Int} {f : Int → Int} (l1 : bh ≤ p → Q (some (.inl (-6))) (xs_cs u f)) (l2 : p < bh → ¬ (f p) = v → ab_R E_X2_firstPlaceOf P_X2_firstPlaceOf Q 3 [some (.inr (.inl (some 0))), some (.inl v), some (.inl a), some (.inl bh), some (.inl (p + 1))] [] (xs_cs u f)) (l3 : p < bh → (f p) = v → Q (some (.inl p)) (xs_cs u f)) (p1 : (ab_r p ∧ ab_r bh) := by intros; (try unfold ab_r); omega) (p2 : p < bh → (0 ≤ p ∧ p < 60) := by intros; (try unfold ab_r); omega) (p3 : p < bh → (ab_r (f p) ∧ ab_r v) := by intros; (try unfold ab_r); omega) : ab_R E_X2_firstPlaceOf P_X2_firstPlaceOf Q 3 [some (.inr (.inl (some 0))), some (.inl v), some (.inl a), some (.inl bh), some (.inl p)] [] (xs_cs u f) :=
  ab_R.steps [3] 13 (show ((ab_r p ∧ ab_r bh) ∧ ((bh ≤ p → Q (some (.inl (-6))) (xs_cs u f)) ∧ (p < bh → ((0 ≤ p ∧ p < 60) ∧ ((ab_r (f p) ∧ ab_r v) ∧ ((¬ (f p) = v → ab_R E_X2_firstPlaceOf P_X2_firstPlaceOf Q 3 [some (.inr (.inl (some 0))), some (.inl v), some (.inl a), some (.inl bh), some (.inl (p + 1))] [] (xs_cs u f)) ∧ ((f p) = v → Q (some (.inl p)) (xs_cs u f)))))))) from ⟨p1, ⟨fun h1 => (l1 h1), fun h2 => ⟨(p2 h2), ⟨(p3 h2), ⟨fun h3 => (l2 h2 h3), fun h4 => (l3 h2 h4)⟩⟩⟩⟩⟩)
-- ===== RootChunks.below
def P_X2_below : List ab_I := [(0, .aload_n 0, 1, []), (1, .iload_n 1, 2, []), (2, .iload_n 2, 3, []), (3, .invokevirtual 97, 6, []), (6, .istore 4, 8, []), (8, .iload 4, 10, []), (10, .ifCond .eq 6, 13, [((0 : Int), 16)]), (13, .iload 4, 15, []), (15, .ireturn, 16, []), (16, .iload_n 3, 17, []), (17, .ldc 109, 19, []), (19, .invokestatic 110, 22, []), (22, .ifCond .eq 6, 25, [((0 : Int), 28)]), (25, .bipush (-2), 27, []), (27, .ireturn, 28, []), (28, .aload_n 0, 29, []), (29, .getfield 10, 32, []), (32, .aload_n 0, 33, []), (33, .getfield 45, 36, []), (36, .invokevirtual 101, 39, []), (39, .aload_n 0, 40, []), (40, .iload_n 1, 41, []), (41, .iload_n 2, 42, []), (42, .iload_n 3, 43, []), (43, .invokevirtual 105, 46, []), (46, .ireturn, 47, [])]
def E_X2_below : ab_E := (T_X2, [(3, (3, 2, [0, 1, 2, 3, 4, 5, 6, 11, 42, 53, 54, 57], 6, sp_X2_spanError)), (19, (2, 99, [], 0, sp_X2_outside)), (36, (2, 1, [1, 2, 3, 4, 5, 57], 6, sp_X1_layOut)), (43, (4, 2, [0, 57, 1, 6, 11, 42, 53, 54], 2, sp_X2_countBelow))], [], 0)
def M_X2_below : List (Nat × ab_MI) := [(3, mi_X2_spanError), (19, mi_X2_outside), (36, mi_X1_layOut), (43, mi_X2_countBelow)]
def mi_X2_below : ab_MI := (yX2_below, cX2_below, 5, ab_rty 0, 3, 113)
theorem pk_X2_below : P_X2_below.all (ab_okI cX2_below) = true := by decide +kernel
theorem ck_X2_below : P_X2_below.all (ab_okC1 "RootChunks" M_X2_below E_X2_below (3, 113)) = true := by decide +kernel
set_option maxRecDepth 100000 in
theorem b_X2_below_0 {Q : ab_Q} {a : Int} {b : Int} {v : Int} {u : Int} {r : rw_T} {q : rw_T} {o : List (Option Nat)} {h0 : rw_T} {h1 : rw_T} {h2 : rw_T} {h3 : rw_T} {h4 : rw_T} {h5 : rw_T} {s0 : rw_T} {s1 : rw_T} {z : Int → Int} {p : pd_T} {f : Int → Int} (l1 : sp_X2_spanError [.inr (.inl (some 0)), .inl a, .inl b] (xr_cs u r) (fun r_ k_ => ∃ (x_ : Int), r_ = some (.inl x_) ∧ k_ = (xr_cs u r) ∧ ab_R E_X2_below P_X2_below Q 6 [some (.inr (.inl (some 0))), some (.inl a), some (.inl b), some (.inl v), none] [.inl x_] (xz_cs u r q o h0 h1 h2 h3 h4 h5 s0 s1 z p f)))  : ab_R E_X2_below P_X2_below Q 0 [some (.inr (.inl (some 0))), some (.inl a), some (.inl b), some (.inl v), none] [] (xz_cs u r q o h0 h1 h2 h3 h4 h5 s0 s1 z p f) :=
  ab_R.steps [6, 22, 39, 46] 5 (show ab_cl sp_X2_spanError [.inr (.inl (some 0)), .inl a, .inl b] (xr_cs u r) (fun r_ k_ => k_.length = 6 → ab_R E_X2_below P_X2_below Q 6 [some (.inr (.inl (some 0))), some (.inl a), some (.inl b), some (.inl v), none] (ab_ret (r_.map (ab_reV [0, 1, 2, 3, 4, 5, 6, 11, 42, 53, 54, 57])) []) (ab_back [0, 1, 2, 3, 4, 5, 6, 11, 42, 53, 54, 57] [0, 1, 2, 3, 4, 5] k_ (xz_cs u r q o h0 h1 h2 h3 h4 h5 s0 s1 z p f))) from ⟨_, l1, fun r_ k_ hz _ => by obtain ⟨x_, rfl, rfl, hR⟩ := hz; exact hR⟩)
set_option maxRecDepth 100000 in
theorem b_X2_below_6 {Q : ab_Q} {a : Int} {b : Int} {v : Int} {t0 : Int} {u : Int} {r : rw_T} {q : rw_T} {o : List (Option Nat)} {h0 : rw_T} {h1 : rw_T} {h2 : rw_T} {h3 : rw_T} {h4 : rw_T} {h5 : rw_T} {s0 : rw_T} {s1 : rw_T} {z : Int → Int} {p : pd_T} {f : Int → Int} (l1 : t0 = (0 : Int) → sp_X2_outside [.inl v, .inl 99999] (xz_cs u r q o h0 h1 h2 h3 h4 h5 s0 s1 z p f) (fun r_ k_ => ∃ (x_ : Int), r_ = some (.inl x_) ∧ k_ = (xz_cs u r q o h0 h1 h2 h3 h4 h5 s0 s1 z p f) ∧ ab_R E_X2_below P_X2_below Q 22 [some (.inr (.inl (some 0))), some (.inl a), some (.inl b), some (.inl v), some (.inl t0)] [.inl x_] (xz_cs u r q o h0 h1 h2 h3 h4 h5 s0 s1 z p f))) (l2 : ¬ t0 = (0 : Int) → Q (some (.inl t0)) (xz_cs u r q o h0 h1 h2 h3 h4 h5 s0 s1 z p f)) (p1 : ab_r t0 := by intros; (try unfold ab_r); omega) : ab_R E_X2_below P_X2_below Q 6 [some (.inr (.inl (some 0))), some (.inl a), some (.inl b), some (.inl v), none] [.inl t0] (xz_cs u r q o h0 h1 h2 h3 h4 h5 s0 s1 z p f) :=
  ab_R.steps [6, 22, 39, 46] 7 (show (ab_r t0 ∧ ((t0 = (0 : Int) → ab_cl sp_X2_outside [.inl v, .inl 99999] (xz_cs u r q o h0 h1 h2 h3 h4 h5 s0 s1 z p f) (fun r_ k_ => k_.length = ((xz_cs u r q o h0 h1 h2 h3 h4 h5 s0 s1 z p f)).length → ab_R E_X2_below P_X2_below Q 22 [some (.inr (.inl (some 0))), some (.inl a), some (.inl b), some (.inl v), some (.inl t0)] (ab_ret r_ []) k_)) ∧ (¬ t0 = (0 : Int) → Q (some (.inl t0)) (xz_cs u r q o h0 h1 h2 h3 h4 h5 s0 s1 z p f)))) from ⟨p1, ⟨fun h1 => ⟨_, (l1 h1), fun r_ k_ hz _ => by obtain ⟨x_, rfl, rfl, hR⟩ := hz; exact hR⟩, fun h2 => (l2 h2)⟩⟩)
set_option maxRecDepth 100000 in
theorem b_X2_below_22 {Q : ab_Q} {a : Int} {b : Int} {v : Int} {e : Int} {t0 : Int} {u : Int} {r : rw_T} {q : rw_T} {o : List (Option Nat)} {h0 : rw_T} {h1 : rw_T} {h2 : rw_T} {h3 : rw_T} {h4 : rw_T} {h5 : rw_T} {s0 : rw_T} {s1 : rw_T} {z : Int → Int} {p : pd_T} {f : Int → Int} (l1 : t0 = (0 : Int) → sp_X1_layOut [.inr (.inl (some 0)), .inr (.inl (some 5))] (rwa_cs r f) (fun r_ k_ => ∃ (r' : rw_T), ∃ (f' : Int → Int), r_ = none ∧ k_ = (rwa_cs r' (f')) ∧ ab_R E_X2_below P_X2_below Q 39 [some (.inr (.inl (some 0))), some (.inl a), some (.inl b), some (.inl v), some (.inl e)] [] (xz_cs u r' q o h0 h1 h2 h3 h4 h5 s0 s1 z p (f')))) (l2 : ¬ t0 = (0 : Int) → Q (some (.inl (-2))) (xz_cs u r q o h0 h1 h2 h3 h4 h5 s0 s1 z p f)) (p1 : ab_r t0 := by intros; (try unfold ab_r); omega) : ab_R E_X2_below P_X2_below Q 22 [some (.inr (.inl (some 0))), some (.inl a), some (.inl b), some (.inl v), some (.inl e)] [.inl t0] (xz_cs u r q o h0 h1 h2 h3 h4 h5 s0 s1 z p f) :=
  ab_R.steps [6, 22, 39, 46] 7 (show (ab_r t0 ∧ ((t0 = (0 : Int) → ab_cl sp_X1_layOut [.inr (.inl (some 0)), .inr (.inl (some 5))] (rwa_cs r f) (fun r_ k_ => k_.length = 6 → ab_R E_X2_below P_X2_below Q 39 [some (.inr (.inl (some 0))), some (.inl a), some (.inl b), some (.inl v), some (.inl e)] (ab_ret (r_.map (ab_reV [1, 2, 3, 4, 5, 57])) []) (ab_back [1, 2, 3, 4, 5, 57] [1, 2, 3, 4, 5, 57] k_ (xz_cs u r q o h0 h1 h2 h3 h4 h5 s0 s1 z p f)))) ∧ (¬ t0 = (0 : Int) → Q (some (.inl (-2))) (xz_cs u r q o h0 h1 h2 h3 h4 h5 s0 s1 z p f)))) from ⟨p1, ⟨fun h1 => ⟨_, (l1 h1), fun r_ k_ hz _ => by obtain ⟨r', f', rfl, rfl, hR⟩ := hz; exact hR⟩, fun h2 => (l2 h2)⟩⟩)
set_option maxRecDepth 100000 in
theorem b_X2_below_39 {Q : ab_Q} {a : Int} {b : Int} {v : Int} {e : Int} {u : Int} {r : rw_T} {q : rw_T} {o : List (Option Nat)} {h0 : rw_T} {h1 : rw_T} {h2 : rw_T} {h3 : rw_T} {h4 : rw_T} {h5 : rw_T} {s0 : rw_T} {s1 : rw_T} {z : Int → Int} {p : pd_T} {f : Int → Int} (l1 : sp_X2_countBelow [.inr (.inl (some 0)), .inl a, .inl b, .inl v] (xs_cs u f) (fun r_ k_ => ∃ (x_ : Int), r_ = some (.inl x_) ∧ k_ = (xs_cs u f) ∧ ab_R E_X2_below P_X2_below Q 46 [some (.inr (.inl (some 0))), some (.inl a), some (.inl b), some (.inl v), some (.inl e)] [.inl x_] (xz_cs u r q o h0 h1 h2 h3 h4 h5 s0 s1 z p f)))  : ab_R E_X2_below P_X2_below Q 39 [some (.inr (.inl (some 0))), some (.inl a), some (.inl b), some (.inl v), some (.inl e)] [] (xz_cs u r q o h0 h1 h2 h3 h4 h5 s0 s1 z p f) :=
  ab_R.steps [6, 22, 39, 46] 6 (show ab_cl sp_X2_countBelow [.inr (.inl (some 0)), .inl a, .inl b, .inl v] (xs_cs u f) (fun r_ k_ => k_.length = 2 → ab_R E_X2_below P_X2_below Q 46 [some (.inr (.inl (some 0))), some (.inl a), some (.inl b), some (.inl v), some (.inl e)] (ab_ret (r_.map (ab_reV [0, 57, 1, 6, 11, 42, 53, 54])) []) (ab_back [0, 57, 1, 6, 11, 42, 53, 54] [0, 57] k_ (xz_cs u r q o h0 h1 h2 h3 h4 h5 s0 s1 z p f))) from ⟨_, l1, fun r_ k_ hz _ => by obtain ⟨x_, rfl, rfl, hR⟩ := hz; exact hR⟩)
set_option maxRecDepth 100000 in
theorem b_X2_below_46 {Q : ab_Q} {a : Int} {b : Int} {v : Int} {e : Int} {t0 : Int} {u : Int} {r : rw_T} {q : rw_T} {o : List (Option Nat)} {h0 : rw_T} {h1 : rw_T} {h2 : rw_T} {h3 : rw_T} {h4 : rw_T} {h5 : rw_T} {s0 : rw_T} {s1 : rw_T} {z : Int → Int} {p : pd_T} {f : Int → Int} (l1 : Q (some (.inl t0)) (xz_cs u r q o h0 h1 h2 h3 h4 h5 s0 s1 z p f))  : ab_R E_X2_below P_X2_below Q 46 [some (.inr (.inl (some 0))), some (.inl a), some (.inl b), some (.inl v), some (.inl e)] [.inl t0] (xz_cs u r q o h0 h1 h2 h3 h4 h5 s0 s1 z p f) :=
  ab_R.steps [6, 22, 39, 46] 2 (show Q (some (.inl t0)) (xz_cs u r q o h0 h1 h2 h3 h4 h5 s0 s1 z p f) from l1)
-- ===== RootChunks.sum
def P_X2_sum : List ab_I := [(0, .aload_n 0, 1, []), (1, .iload_n 1, 2, []), (2, .iload_n 2, 3, []), (3, .invokevirtual 97, 6, []), (6, .istore_n 3, 7, []), (7, .iload_n 3, 8, []), (8, .ifCond .eq 5, 11, [((0 : Int), 13)]), (11, .iload_n 3, 12, []), (12, .ireturn, 13, []), (13, .aload_n 0, 14, []), (14, .getfield 10, 17, []), (17, .aload_n 0, 18, []), (18, .getfield 45, 21, []), (21, .invokevirtual 101, 24, []), (24, .ldc 114, 26, []), (26, .istore 4, 28, []), (28, .iload_n 1, 29, []), (29, .istore 5, 31, []), (31, .iload 5, 33, []), (33, .iload_n 2, 34, []), (34, .if_icmp .gt 21, 37, [((0 : Int), 55)]), (37, .iload 4, 39, []), (39, .aload_n 0, 40, []), (40, .getfield 45, 43, []), (43, .iload 5, 45, []), (45, .iaload, 46, []), (46, .iadd, 47, []), (47, .istore 4, 49, []), (49, .iinc 5 1, 52, []), (52, .goto (-21), 55, [((0 : Int), 31)]), (55, .iload 4, 57, []), (57, .ireturn, 58, [])]
def E_X2_sum : ab_E := (T_X2, [(3, (3, 2, [0, 1, 2, 3, 4, 5, 6, 11, 42, 53, 54, 57], 6, sp_X2_spanError)), (21, (2, 1, [1, 2, 3, 4, 5, 57], 6, sp_X1_layOut))], [], 0)
def M_X2_sum : List (Nat × ab_MI) := [(3, mi_X2_spanError), (21, mi_X1_layOut)]
def mi_X2_sum : ab_MI := (yX2_sum, cX2_sum, 6, ab_rty 0, 3, 113)
theorem pk_X2_sum : P_X2_sum.all (ab_okI cX2_sum) = true := by decide +kernel
theorem ck_X2_sum : P_X2_sum.all (ab_okC1 "RootChunks" M_X2_sum E_X2_sum (3, 113)) = true := by decide +kernel
set_option maxRecDepth 100000 in
theorem b_X2_sum_0 {Q : ab_Q} {a : Int} {b : Int} {u : Int} {r : rw_T} {q : rw_T} {o : List (Option Nat)} {h0 : rw_T} {h1 : rw_T} {h2 : rw_T} {h3 : rw_T} {h4 : rw_T} {h5 : rw_T} {s0 : rw_T} {s1 : rw_T} {z : Int → Int} {p : pd_T} {f : Int → Int} (l1 : sp_X2_spanError [.inr (.inl (some 0)), .inl a, .inl b] (xr_cs u r) (fun r_ k_ => ∃ (x_ : Int), r_ = some (.inl x_) ∧ k_ = (xr_cs u r) ∧ ab_R E_X2_sum P_X2_sum Q 6 [some (.inr (.inl (some 0))), some (.inl a), some (.inl b), none, none, none] [.inl x_] (xz_cs u r q o h0 h1 h2 h3 h4 h5 s0 s1 z p f)))  : ab_R E_X2_sum P_X2_sum Q 0 [some (.inr (.inl (some 0))), some (.inl a), some (.inl b), none, none, none] [] (xz_cs u r q o h0 h1 h2 h3 h4 h5 s0 s1 z p f) :=
  ab_R.steps [6, 24, 31] 5 (show ab_cl sp_X2_spanError [.inr (.inl (some 0)), .inl a, .inl b] (xr_cs u r) (fun r_ k_ => k_.length = 6 → ab_R E_X2_sum P_X2_sum Q 6 [some (.inr (.inl (some 0))), some (.inl a), some (.inl b), none, none, none] (ab_ret (r_.map (ab_reV [0, 1, 2, 3, 4, 5, 6, 11, 42, 53, 54, 57])) []) (ab_back [0, 1, 2, 3, 4, 5, 6, 11, 42, 53, 54, 57] [0, 1, 2, 3, 4, 5] k_ (xz_cs u r q o h0 h1 h2 h3 h4 h5 s0 s1 z p f))) from ⟨_, l1, fun r_ k_ hz _ => by obtain ⟨x_, rfl, rfl, hR⟩ := hz; exact hR⟩)
set_option maxRecDepth 100000 in
theorem b_X2_sum_6 {Q : ab_Q} {a : Int} {b : Int} {t0 : Int} {u : Int} {r : rw_T} {q : rw_T} {o : List (Option Nat)} {h0 : rw_T} {h1 : rw_T} {h2 : rw_T} {h3 : rw_T} {h4 : rw_T} {h5 : rw_T} {s0 : rw_T} {s1 : rw_T} {z : Int → Int} {p : pd_T} {f : Int → Int} (l1 : t0 = (0 : Int) → sp_X1_layOut [.inr (.inl (some 0)), .inr (.inl (some 5))] (rwa_cs r f) (fun r_ k_ => ∃ (r' : rw_T), ∃ (f' : Int → Int), r_ = none ∧ k_ = (rwa_cs r' (f')) ∧ ab_R E_X2_sum P_X2_sum Q 24 [some (.inr (.inl (some 0))), some (.inl a), some (.inl b), some (.inl t0), none, none] [] (xz_cs u r' q o h0 h1 h2 h3 h4 h5 s0 s1 z p (f')))) (l2 : ¬ t0 = (0 : Int) → Q (some (.inl t0)) (xz_cs u r q o h0 h1 h2 h3 h4 h5 s0 s1 z p f)) (p1 : ab_r t0 := by intros; (try unfold ab_r); omega) : ab_R E_X2_sum P_X2_sum Q 6 [some (.inr (.inl (some 0))), some (.inl a), some (.inl b), none, none, none] [.inl t0] (xz_cs u r q o h0 h1 h2 h3 h4 h5 s0 s1 z p f) :=
  ab_R.steps [6, 24, 31] 9 (show (ab_r t0 ∧ ((t0 = (0 : Int) → ab_cl sp_X1_layOut [.inr (.inl (some 0)), .inr (.inl (some 5))] (rwa_cs r f) (fun r_ k_ => k_.length = 6 → ab_R E_X2_sum P_X2_sum Q 24 [some (.inr (.inl (some 0))), some (.inl a), some (.inl b), some (.inl t0), none, none] (ab_ret (r_.map (ab_reV [1, 2, 3, 4, 5, 57])) []) (ab_back [1, 2, 3, 4, 5, 57] [1, 2, 3, 4, 5, 57] k_ (xz_cs u r q o h0 h1 h2 h3 h4 h5 s0 s1 z p f)))) ∧ (¬ t0 = (0 : Int) → Q (some (.inl t0)) (xz_cs u r q o h0 h1 h2 h3 h4 h5 s0 s1 z p f)))) from ⟨p1, ⟨fun h1 => ⟨_, (l1 h1), fun r_ k_ hz _ => by obtain ⟨r', f', rfl, rfl, hR⟩ := hz; exact hR⟩, fun h2 => (l2 h2)⟩⟩)
set_option maxRecDepth 100000 in
theorem b_X2_sum_24 {Q : ab_Q} {a : Int} {b : Int} {e : Int} {u : Int} {r : rw_T} {q : rw_T} {o : List (Option Nat)} {h0 : rw_T} {h1 : rw_T} {h2 : rw_T} {h3 : rw_T} {h4 : rw_T} {h5 : rw_T} {s0 : rw_T} {s1 : rw_T} {z : Int → Int} {p : pd_T} {f : Int → Int} (l1 : ab_R E_X2_sum P_X2_sum Q 31 [some (.inr (.inl (some 0))), some (.inl a), some (.inl b), some (.inl e), some (.inl 10000000), some (.inl a)] [] (xz_cs u r q o h0 h1 h2 h3 h4 h5 s0 s1 z p f))  : ab_R E_X2_sum P_X2_sum Q 24 [some (.inr (.inl (some 0))), some (.inl a), some (.inl b), some (.inl e), none, none] [] (xz_cs u r q o h0 h1 h2 h3 h4 h5 s0 s1 z p f) :=
  ab_R.steps [6, 24, 31] 6 (show ab_R E_X2_sum P_X2_sum Q 31 [some (.inr (.inl (some 0))), some (.inl a), some (.inl b), some (.inl e), some (.inl 10000000), some (.inl a)] [] (xz_cs u r q o h0 h1 h2 h3 h4 h5 s0 s1 z p f) from l1)
set_option maxRecDepth 100000 in
theorem b_X2_sum_31 {Q : ab_Q} {a : Int} {b : Int} {e : Int} {sm : Int} {pl : Int} {u : Int} {r : rw_T} {q : rw_T} {o : List (Option Nat)} {h0 : rw_T} {h1 : rw_T} {h2 : rw_T} {h3 : rw_T} {h4 : rw_T} {h5 : rw_T} {s0 : rw_T} {s1 : rw_T} {z : Int → Int} {p : pd_T} {f : Int → Int} (l1 : b < pl → Q (some (.inl sm)) (xz_cs u r q o h0 h1 h2 h3 h4 h5 s0 s1 z p f)) (l2 : pl ≤ b → ab_R E_X2_sum P_X2_sum Q 31 [some (.inr (.inl (some 0))), some (.inl a), some (.inl b), some (.inl e), some (.inl (sm + (f pl))), some (.inl (pl + 1))] [] (xz_cs u r q o h0 h1 h2 h3 h4 h5 s0 s1 z p f)) (p1 : (ab_r pl ∧ ab_r b) := by intros; (try unfold ab_r); omega) (p2 : pl ≤ b → (0 ≤ pl ∧ pl < 60) := by intros; (try unfold ab_r); omega) : ab_R E_X2_sum P_X2_sum Q 31 [some (.inr (.inl (some 0))), some (.inl a), some (.inl b), some (.inl e), some (.inl sm), some (.inl pl)] [] (xz_cs u r q o h0 h1 h2 h3 h4 h5 s0 s1 z p f) :=
  ab_R.steps [6, 24, 31] 14 (show ((ab_r pl ∧ ab_r b) ∧ ((b < pl → Q (some (.inl sm)) (xz_cs u r q o h0 h1 h2 h3 h4 h5 s0 s1 z p f)) ∧ (pl ≤ b → ((0 ≤ pl ∧ pl < 60) ∧ ab_R E_X2_sum P_X2_sum Q 31 [some (.inr (.inl (some 0))), some (.inl a), some (.inl b), some (.inl e), some (.inl (sm + (f pl))), some (.inl (pl + 1))] [] (xz_cs u r q o h0 h1 h2 h3 h4 h5 s0 s1 z p f))))) from ⟨p1, ⟨fun h1 => (l1 h1), fun h2 => ⟨(p2 h2), (l2 h2)⟩⟩⟩)
-- ===== RootChunks.unlike
def P_X2_unlike : List ab_I := [(0, .aload_n 0, 1, []), (1, .iload_n 1, 2, []), (2, .iload_n 2, 3, []), (3, .invokevirtual 97, 6, []), (6, .istore_n 3, 7, []), (7, .iload_n 3, 8, []), (8, .ifCond .eq 5, 11, [((0 : Int), 13)]), (11, .iload_n 3, 12, []), (12, .ireturn, 13, []), (13, .aload_n 0, 14, []), (14, .getfield 10, 17, []), (17, .aload_n 0, 18, []), (18, .getfield 45, 21, []), (21, .invokevirtual 101, 24, []), (24, .iconst 0, 25, []), (25, .istore 4, 27, []), (27, .iload_n 1, 28, []), (28, .istore 5, 30, []), (30, .iload 5, 32, []), (32, .iload_n 2, 33, []), (33, .if_icmp .gt 31, 36, [((0 : Int), 64)]), (36, .aload_n 0, 37, []), (37, .aload_n 0, 38, []), (38, .getfield 45, 41, []), (41, .iload 5, 43, []), (43, .iaload, 44, []), (44, .iload_n 1, 45, []), (45, .iload 5, 47, []), (47, .invokevirtual 115, 50, []), (50, .bipush (-6), 52, []), (52, .if_icmp .ne 6, 55, [((0 : Int), 58)]), (55, .iinc 4 1, 58, []), (58, .iinc 5 1, 61, []), (61, .goto (-31), 64, [((0 : Int), 30)]), (64, .iload 4, 66, []), (66, .ireturn, 67, [])]
def E_X2_unlike : ab_E := (T_X2, [(3, (3, 2, [0, 1, 2, 3, 4, 5, 6, 11, 42, 53, 54, 57], 6, sp_X2_spanError)), (21, (2, 1, [1, 2, 3, 4, 5, 57], 6, sp_X1_layOut)), (47, (4, 2, [0, 57, 1, 6, 11, 42, 53, 54], 2, sp_X2_firstPlaceOf))], [], 0)
def M_X2_unlike : List (Nat × ab_MI) := [(3, mi_X2_spanError), (21, mi_X1_layOut), (47, mi_X2_firstPlaceOf)]
def mi_X2_unlike : ab_MI := (yX2_unlike, cX2_unlike, 6, ab_rty 0, 3, 113)
theorem pk_X2_unlike : P_X2_unlike.all (ab_okI cX2_unlike) = true := by decide +kernel
theorem ck_X2_unlike : P_X2_unlike.all (ab_okC1 "RootChunks" M_X2_unlike E_X2_unlike (3, 113)) = true := by decide +kernel
set_option maxRecDepth 100000 in
theorem b_X2_unlike_0 {Q : ab_Q} {a : Int} {b : Int} {u : Int} {r : rw_T} {q : rw_T} {o : List (Option Nat)} {h0 : rw_T} {h1 : rw_T} {h2 : rw_T} {h3 : rw_T} {h4 : rw_T} {h5 : rw_T} {s0 : rw_T} {s1 : rw_T} {z : Int → Int} {p : pd_T} {f : Int → Int} (l1 : sp_X2_spanError [.inr (.inl (some 0)), .inl a, .inl b] (xr_cs u r) (fun r_ k_ => ∃ (x_ : Int), r_ = some (.inl x_) ∧ k_ = (xr_cs u r) ∧ ab_R E_X2_unlike P_X2_unlike Q 6 [some (.inr (.inl (some 0))), some (.inl a), some (.inl b), none, none, none] [.inl x_] (xz_cs u r q o h0 h1 h2 h3 h4 h5 s0 s1 z p f)))  : ab_R E_X2_unlike P_X2_unlike Q 0 [some (.inr (.inl (some 0))), some (.inl a), some (.inl b), none, none, none] [] (xz_cs u r q o h0 h1 h2 h3 h4 h5 s0 s1 z p f) :=
  ab_R.steps [6, 24, 30, 50] 5 (show ab_cl sp_X2_spanError [.inr (.inl (some 0)), .inl a, .inl b] (xr_cs u r) (fun r_ k_ => k_.length = 6 → ab_R E_X2_unlike P_X2_unlike Q 6 [some (.inr (.inl (some 0))), some (.inl a), some (.inl b), none, none, none] (ab_ret (r_.map (ab_reV [0, 1, 2, 3, 4, 5, 6, 11, 42, 53, 54, 57])) []) (ab_back [0, 1, 2, 3, 4, 5, 6, 11, 42, 53, 54, 57] [0, 1, 2, 3, 4, 5] k_ (xz_cs u r q o h0 h1 h2 h3 h4 h5 s0 s1 z p f))) from ⟨_, l1, fun r_ k_ hz _ => by obtain ⟨x_, rfl, rfl, hR⟩ := hz; exact hR⟩)
set_option maxRecDepth 100000 in
theorem b_X2_unlike_6 {Q : ab_Q} {a : Int} {b : Int} {t0 : Int} {u : Int} {r : rw_T} {q : rw_T} {o : List (Option Nat)} {h0 : rw_T} {h1 : rw_T} {h2 : rw_T} {h3 : rw_T} {h4 : rw_T} {h5 : rw_T} {s0 : rw_T} {s1 : rw_T} {z : Int → Int} {p : pd_T} {f : Int → Int} (l1 : t0 = (0 : Int) → sp_X1_layOut [.inr (.inl (some 0)), .inr (.inl (some 5))] (rwa_cs r f) (fun r_ k_ => ∃ (r' : rw_T), ∃ (f' : Int → Int), r_ = none ∧ k_ = (rwa_cs r' (f')) ∧ ab_R E_X2_unlike P_X2_unlike Q 24 [some (.inr (.inl (some 0))), some (.inl a), some (.inl b), some (.inl t0), none, none] [] (xz_cs u r' q o h0 h1 h2 h3 h4 h5 s0 s1 z p (f')))) (l2 : ¬ t0 = (0 : Int) → Q (some (.inl t0)) (xz_cs u r q o h0 h1 h2 h3 h4 h5 s0 s1 z p f)) (p1 : ab_r t0 := by intros; (try unfold ab_r); omega) : ab_R E_X2_unlike P_X2_unlike Q 6 [some (.inr (.inl (some 0))), some (.inl a), some (.inl b), none, none, none] [.inl t0] (xz_cs u r q o h0 h1 h2 h3 h4 h5 s0 s1 z p f) :=
  ab_R.steps [6, 24, 30, 50] 9 (show (ab_r t0 ∧ ((t0 = (0 : Int) → ab_cl sp_X1_layOut [.inr (.inl (some 0)), .inr (.inl (some 5))] (rwa_cs r f) (fun r_ k_ => k_.length = 6 → ab_R E_X2_unlike P_X2_unlike Q 24 [some (.inr (.inl (some 0))), some (.inl a), some (.inl b), some (.inl t0), none, none] (ab_ret (r_.map (ab_reV [1, 2, 3, 4, 5, 57])) []) (ab_back [1, 2, 3, 4, 5, 57] [1, 2, 3, 4, 5, 57] k_ (xz_cs u r q o h0 h1 h2 h3 h4 h5 s0 s1 z p f)))) ∧ (¬ t0 = (0 : Int) → Q (some (.inl t0)) (xz_cs u r q o h0 h1 h2 h3 h4 h5 s0 s1 z p f)))) from ⟨p1, ⟨fun h1 => ⟨_, (l1 h1), fun r_ k_ hz _ => by obtain ⟨r', f', rfl, rfl, hR⟩ := hz; exact hR⟩, fun h2 => (l2 h2)⟩⟩)
set_option maxRecDepth 100000 in
theorem b_X2_unlike_24 {Q : ab_Q} {a : Int} {b : Int} {e : Int} {u : Int} {r : rw_T} {q : rw_T} {o : List (Option Nat)} {h0 : rw_T} {h1 : rw_T} {h2 : rw_T} {h3 : rw_T} {h4 : rw_T} {h5 : rw_T} {s0 : rw_T} {s1 : rw_T} {z : Int → Int} {p : pd_T} {f : Int → Int} (l1 : ab_R E_X2_unlike P_X2_unlike Q 30 [some (.inr (.inl (some 0))), some (.inl a), some (.inl b), some (.inl e), some (.inl 0), some (.inl a)] [] (xz_cs u r q o h0 h1 h2 h3 h4 h5 s0 s1 z p f))  : ab_R E_X2_unlike P_X2_unlike Q 24 [some (.inr (.inl (some 0))), some (.inl a), some (.inl b), some (.inl e), none, none] [] (xz_cs u r q o h0 h1 h2 h3 h4 h5 s0 s1 z p f) :=
  ab_R.steps [6, 24, 30, 50] 6 (show ab_R E_X2_unlike P_X2_unlike Q 30 [some (.inr (.inl (some 0))), some (.inl a), some (.inl b), some (.inl e), some (.inl 0), some (.inl a)] [] (xz_cs u r q o h0 h1 h2 h3 h4 h5 s0 s1 z p f) from l1)
set_option maxRecDepth 100000 in
theorem b_X2_unlike_30 {Q : ab_Q} {a : Int} {b : Int} {e : Int} {n : Int} {pl : Int} {u : Int} {r : rw_T} {q : rw_T} {o : List (Option Nat)} {h0 : rw_T} {h1 : rw_T} {h2 : rw_T} {h3 : rw_T} {h4 : rw_T} {h5 : rw_T} {s0 : rw_T} {s1 : rw_T} {z : Int → Int} {p : pd_T} {f : Int → Int} (l1 : b < pl → Q (some (.inl n)) (xz_cs u r q o h0 h1 h2 h3 h4 h5 s0 s1 z p f)) (l2 : pl ≤ b → sp_X2_firstPlaceOf [.inr (.inl (some 0)), .inl (f pl), .inl a, .inl pl] (xs_cs u f) (fun r_ k_ => ∃ (x_ : Int), r_ = some (.inl x_) ∧ k_ = (xs_cs u f) ∧ ab_R E_X2_unlike P_X2_unlike Q 50 [some (.inr (.inl (some 0))), some (.inl a), some (.inl b), some (.inl e), some (.inl n), some (.inl pl)] [.inl x_] (xz_cs u r q o h0 h1 h2 h3 h4 h5 s0 s1 z p f))) (p1 : (ab_r pl ∧ ab_r b) := by intros; (try unfold ab_r); omega) (p2 : pl ≤ b → (0 ≤ pl ∧ pl < 60) := by intros; (try unfold ab_r); omega) : ab_R E_X2_unlike P_X2_unlike Q 30 [some (.inr (.inl (some 0))), some (.inl a), some (.inl b), some (.inl e), some (.inl n), some (.inl pl)] [] (xz_cs u r q o h0 h1 h2 h3 h4 h5 s0 s1 z p f) :=
  ab_R.steps [6, 24, 30, 50] 12 (show ((ab_r pl ∧ ab_r b) ∧ ((b < pl → Q (some (.inl n)) (xz_cs u r q o h0 h1 h2 h3 h4 h5 s0 s1 z p f)) ∧ (pl ≤ b → ((0 ≤ pl ∧ pl < 60) ∧ ab_cl sp_X2_firstPlaceOf [.inr (.inl (some 0)), .inl (f pl), .inl a, .inl pl] (xs_cs u f) (fun r_ k_ => k_.length = 2 → ab_R E_X2_unlike P_X2_unlike Q 50 [some (.inr (.inl (some 0))), some (.inl a), some (.inl b), some (.inl e), some (.inl n), some (.inl pl)] (ab_ret (r_.map (ab_reV [0, 57, 1, 6, 11, 42, 53, 54])) []) (ab_back [0, 57, 1, 6, 11, 42, 53, 54] [0, 57] k_ (xz_cs u r q o h0 h1 h2 h3 h4 h5 s0 s1 z p f))))))) from ⟨p1, ⟨fun h1 => (l1 h1), fun h2 => ⟨(p2 h2), ⟨_, (l2 h2), fun r_ k_ hz _ => by obtain ⟨x_, rfl, rfl, hR⟩ := hz; exact hR⟩⟩⟩⟩)
set_option maxRecDepth 100000 in
theorem b_X2_unlike_50 {Q : ab_Q} {a : Int} {b : Int} {e : Int} {n : Int} {pl : Int} {t0 : Int} {u : Int} {r : rw_T} {q : rw_T} {o : List (Option Nat)} {h0 : rw_T} {h1 : rw_T} {h2 : rw_T} {h3 : rw_T} {h4 : rw_T} {h5 : rw_T} {s0 : rw_T} {s1 : rw_T} {z : Int → Int} {p : pd_T} {f : Int → Int} (l1 : ¬ t0 = ((-6) : Int) → ab_R E_X2_unlike P_X2_unlike Q 30 [some (.inr (.inl (some 0))), some (.inl a), some (.inl b), some (.inl e), some (.inl n), some (.inl (pl + 1))] [] (xz_cs u r q o h0 h1 h2 h3 h4 h5 s0 s1 z p f)) (l2 : t0 = ((-6) : Int) → ab_R E_X2_unlike P_X2_unlike Q 30 [some (.inr (.inl (some 0))), some (.inl a), some (.inl b), some (.inl e), some (.inl (n + 1)), some (.inl (pl + 1))] [] (xz_cs u r q o h0 h1 h2 h3 h4 h5 s0 s1 z p f)) (p1 : (ab_r t0 ∧ ab_r (-6)) := by intros; (try unfold ab_r); omega) : ab_R E_X2_unlike P_X2_unlike Q 50 [some (.inr (.inl (some 0))), some (.inl a), some (.inl b), some (.inl e), some (.inl n), some (.inl pl)] [.inl t0] (xz_cs u r q o h0 h1 h2 h3 h4 h5 s0 s1 z p f) :=
  ab_R.steps [6, 24, 30, 50] 7 (show ((ab_r t0 ∧ ab_r (-6)) ∧ ((¬ t0 = ((-6) : Int) → ab_R E_X2_unlike P_X2_unlike Q 30 [some (.inr (.inl (some 0))), some (.inl a), some (.inl b), some (.inl e), some (.inl n), some (.inl (pl + 1))] [] (xz_cs u r q o h0 h1 h2 h3 h4 h5 s0 s1 z p f)) ∧ (t0 = ((-6) : Int) → ab_R E_X2_unlike P_X2_unlike Q 30 [some (.inr (.inl (some 0))), some (.inl a), some (.inl b), some (.inl e), some (.inl (n + 1)), some (.inl (pl + 1))] [] (xz_cs u r q o h0 h1 h2 h3 h4 h5 s0 s1 z p f)))) from ⟨p1, ⟨fun h1 => (l1 h1), fun h2 => (l2 h2)⟩⟩)
-- ===== RootChunks.find
def P_X2_find : List ab_I := [(0, .aload_n 0, 1, []), (1, .getfield 10, 4, []), (4, .iload_n 1, 5, []), (5, .invokevirtual 53, 8, []), (8, .ifCond .ne 5, 11, [((0 : Int), 13)]), (11, .iconst (-1), 12, []), (12, .ireturn, 13, []), (13, .iload_n 2, 14, []), (14, .ldc 109, 16, []), (16, .invokestatic 110, 19, []), (19, .ifCond .eq 6, 22, [((0 : Int), 25)]), (22, .bipush (-2), 24, []), (24, .ireturn, 25, []), (25, .aload_n 0, 26, []), (26, .getfield 10, 29, []), (29, .aload_n 0, 30, []), (30, .getfield 45, 33, []), (33, .invokevirtual 101, 36, []), (36, .aload_n 0, 37, []), (37, .iload_n 2, 38, []), (38, .iload_n 1, 39, []), (39, .aload_n 0, 40, []), (40, .getfield 10, 43, []), (43, .getfield 77, 46, []), (46, .invokevirtual 115, 49, []), (49, .ireturn, 50, [])]
def E_X2_find : ab_E := (T_X2, [(5, (2, 1, [1, 2, 3, 4, 5], 5, sp_X1_has)), (16, (2, 99, [], 0, sp_X2_outside)), (33, (2, 1, [1, 2, 3, 4, 5, 57], 6, sp_X1_layOut)), (46, (4, 2, [0, 57, 1, 6, 11, 42, 53, 54], 2, sp_X2_firstPlaceOf))], [], 0)
def M_X2_find : List (Nat × ab_MI) := [(5, mi_X1_has), (16, mi_X2_outside), (33, mi_X1_layOut), (46, mi_X2_firstPlaceOf)]
def mi_X2_find : ab_MI := (yX2_find, cX2_find, 3, ab_rty 0, 2, 95)
theorem pk_X2_find : P_X2_find.all (ab_okI cX2_find) = true := by decide +kernel
theorem ck_X2_find : P_X2_find.all (ab_okC1 "RootChunks" M_X2_find E_X2_find (2, 95)) = true := by decide +kernel
set_option maxRecDepth 100000 in
theorem b_X2_find_0 {Q : ab_Q} {a : Int} {v : Int} {u : Int} {r : rw_T} {q : rw_T} {o : List (Option Nat)} {h0 : rw_T} {h1 : rw_T} {h2 : rw_T} {h3 : rw_T} {h4 : rw_T} {h5 : rw_T} {s0 : rw_T} {s1 : rw_T} {z : Int → Int} {p : pd_T} {f : Int → Int} (l1 : sp_X1_has [.inr (.inl (some 0)), .inl a] (rw_cs r) (fun r_ k_ => ∃ (x_ : Int), r_ = some (.inl x_) ∧ k_ = (rw_cs r) ∧ ab_R E_X2_find P_X2_find Q 8 [some (.inr (.inl (some 0))), some (.inl a), some (.inl v)] [.inl x_] (xz_cs u r q o h0 h1 h2 h3 h4 h5 s0 s1 z p f)))  : ab_R E_X2_find P_X2_find Q 0 [some (.inr (.inl (some 0))), some (.inl a), some (.inl v)] [] (xz_cs u r q o h0 h1 h2 h3 h4 h5 s0 s1 z p f) :=
  ab_R.steps [8, 19, 36, 49] 5 (show ab_cl sp_X1_has [.inr (.inl (some 0)), .inl a] (rw_cs r) (fun r_ k_ => k_.length = 5 → ab_R E_X2_find P_X2_find Q 8 [some (.inr (.inl (some 0))), some (.inl a), some (.inl v)] (ab_ret (r_.map (ab_reV [1, 2, 3, 4, 5])) []) (ab_back [1, 2, 3, 4, 5] [1, 2, 3, 4, 5] k_ (xz_cs u r q o h0 h1 h2 h3 h4 h5 s0 s1 z p f))) from ⟨_, l1, fun r_ k_ hz _ => by obtain ⟨x_, rfl, rfl, hR⟩ := hz; exact hR⟩)
set_option maxRecDepth 100000 in
theorem b_X2_find_8 {Q : ab_Q} {a : Int} {v : Int} {t0 : Int} {u : Int} {r : rw_T} {q : rw_T} {o : List (Option Nat)} {h0 : rw_T} {h1 : rw_T} {h2 : rw_T} {h3 : rw_T} {h4 : rw_T} {h5 : rw_T} {s0 : rw_T} {s1 : rw_T} {z : Int → Int} {p : pd_T} {f : Int → Int} (l1 : ¬ t0 = (0 : Int) → sp_X2_outside [.inl v, .inl 99999] (xz_cs u r q o h0 h1 h2 h3 h4 h5 s0 s1 z p f) (fun r_ k_ => ∃ (x_ : Int), r_ = some (.inl x_) ∧ k_ = (xz_cs u r q o h0 h1 h2 h3 h4 h5 s0 s1 z p f) ∧ ab_R E_X2_find P_X2_find Q 19 [some (.inr (.inl (some 0))), some (.inl a), some (.inl v)] [.inl x_] (xz_cs u r q o h0 h1 h2 h3 h4 h5 s0 s1 z p f))) (l2 : t0 = (0 : Int) → Q (some (.inl (-1))) (xz_cs u r q o h0 h1 h2 h3 h4 h5 s0 s1 z p f)) (p1 : ab_r t0 := by intros; (try unfold ab_r); omega) : ab_R E_X2_find P_X2_find Q 8 [some (.inr (.inl (some 0))), some (.inl a), some (.inl v)] [.inl t0] (xz_cs u r q o h0 h1 h2 h3 h4 h5 s0 s1 z p f) :=
  ab_R.steps [8, 19, 36, 49] 5 (show (ab_r t0 ∧ ((¬ t0 = (0 : Int) → ab_cl sp_X2_outside [.inl v, .inl 99999] (xz_cs u r q o h0 h1 h2 h3 h4 h5 s0 s1 z p f) (fun r_ k_ => k_.length = ((xz_cs u r q o h0 h1 h2 h3 h4 h5 s0 s1 z p f)).length → ab_R E_X2_find P_X2_find Q 19 [some (.inr (.inl (some 0))), some (.inl a), some (.inl v)] (ab_ret r_ []) k_)) ∧ (t0 = (0 : Int) → Q (some (.inl (-1))) (xz_cs u r q o h0 h1 h2 h3 h4 h5 s0 s1 z p f)))) from ⟨p1, ⟨fun h1 => ⟨_, (l1 h1), fun r_ k_ hz _ => by obtain ⟨x_, rfl, rfl, hR⟩ := hz; exact hR⟩, fun h2 => (l2 h2)⟩⟩)
set_option maxRecDepth 100000 in
theorem b_X2_find_19 {Q : ab_Q} {a : Int} {v : Int} {t0 : Int} {u : Int} {r : rw_T} {q : rw_T} {o : List (Option Nat)} {h0 : rw_T} {h1 : rw_T} {h2 : rw_T} {h3 : rw_T} {h4 : rw_T} {h5 : rw_T} {s0 : rw_T} {s1 : rw_T} {z : Int → Int} {p : pd_T} {f : Int → Int} (l1 : t0 = (0 : Int) → sp_X1_layOut [.inr (.inl (some 0)), .inr (.inl (some 5))] (rwa_cs r f) (fun r_ k_ => ∃ (r' : rw_T), ∃ (f' : Int → Int), r_ = none ∧ k_ = (rwa_cs r' (f')) ∧ ab_R E_X2_find P_X2_find Q 36 [some (.inr (.inl (some 0))), some (.inl a), some (.inl v)] [] (xz_cs u r' q o h0 h1 h2 h3 h4 h5 s0 s1 z p (f')))) (l2 : ¬ t0 = (0 : Int) → Q (some (.inl (-2))) (xz_cs u r q o h0 h1 h2 h3 h4 h5 s0 s1 z p f)) (p1 : ab_r t0 := by intros; (try unfold ab_r); omega) : ab_R E_X2_find P_X2_find Q 19 [some (.inr (.inl (some 0))), some (.inl a), some (.inl v)] [.inl t0] (xz_cs u r q o h0 h1 h2 h3 h4 h5 s0 s1 z p f) :=
  ab_R.steps [8, 19, 36, 49] 7 (show (ab_r t0 ∧ ((t0 = (0 : Int) → ab_cl sp_X1_layOut [.inr (.inl (some 0)), .inr (.inl (some 5))] (rwa_cs r f) (fun r_ k_ => k_.length = 6 → ab_R E_X2_find P_X2_find Q 36 [some (.inr (.inl (some 0))), some (.inl a), some (.inl v)] (ab_ret (r_.map (ab_reV [1, 2, 3, 4, 5, 57])) []) (ab_back [1, 2, 3, 4, 5, 57] [1, 2, 3, 4, 5, 57] k_ (xz_cs u r q o h0 h1 h2 h3 h4 h5 s0 s1 z p f)))) ∧ (¬ t0 = (0 : Int) → Q (some (.inl (-2))) (xz_cs u r q o h0 h1 h2 h3 h4 h5 s0 s1 z p f)))) from ⟨p1, ⟨fun h1 => ⟨_, (l1 h1), fun r_ k_ hz _ => by obtain ⟨r', f', rfl, rfl, hR⟩ := hz; exact hR⟩, fun h2 => (l2 h2)⟩⟩)
set_option maxRecDepth 100000 in
theorem b_X2_find_36 {Q : ab_Q} {a : Int} {v : Int} {u : Int} {r : rw_T} {q : rw_T} {o : List (Option Nat)} {h0 : rw_T} {h1 : rw_T} {h2 : rw_T} {h3 : rw_T} {h4 : rw_T} {h5 : rw_T} {s0 : rw_T} {s1 : rw_T} {z : Int → Int} {p : pd_T} {f : Int → Int} (l1 : sp_X2_firstPlaceOf [.inr (.inl (some 0)), .inl v, .inl a, .inl r.2.2.2.2.1] (xs_cs u f) (fun r_ k_ => ∃ (x_ : Int), r_ = some (.inl x_) ∧ k_ = (xs_cs u f) ∧ ab_R E_X2_find P_X2_find Q 49 [some (.inr (.inl (some 0))), some (.inl a), some (.inl v)] [.inl x_] (xz_cs u r q o h0 h1 h2 h3 h4 h5 s0 s1 z p f)))  : ab_R E_X2_find P_X2_find Q 36 [some (.inr (.inl (some 0))), some (.inl a), some (.inl v)] [] (xz_cs u r q o h0 h1 h2 h3 h4 h5 s0 s1 z p f) :=
  ab_R.steps [8, 19, 36, 49] 8 (show ab_cl sp_X2_firstPlaceOf [.inr (.inl (some 0)), .inl v, .inl a, .inl r.2.2.2.2.1] (xs_cs u f) (fun r_ k_ => k_.length = 2 → ab_R E_X2_find P_X2_find Q 49 [some (.inr (.inl (some 0))), some (.inl a), some (.inl v)] (ab_ret (r_.map (ab_reV [0, 57, 1, 6, 11, 42, 53, 54])) []) (ab_back [0, 57, 1, 6, 11, 42, 53, 54] [0, 57] k_ (xz_cs u r q o h0 h1 h2 h3 h4 h5 s0 s1 z p f))) from ⟨_, l1, fun r_ k_ hz _ => by obtain ⟨x_, rfl, rfl, hR⟩ := hz; exact hR⟩)
set_option maxRecDepth 100000 in
theorem b_X2_find_49 {Q : ab_Q} {a : Int} {v : Int} {t0 : Int} {u : Int} {r : rw_T} {q : rw_T} {o : List (Option Nat)} {h0 : rw_T} {h1 : rw_T} {h2 : rw_T} {h3 : rw_T} {h4 : rw_T} {h5 : rw_T} {s0 : rw_T} {s1 : rw_T} {z : Int → Int} {p : pd_T} {f : Int → Int} (l1 : Q (some (.inl t0)) (xz_cs u r q o h0 h1 h2 h3 h4 h5 s0 s1 z p f))  : ab_R E_X2_find P_X2_find Q 49 [some (.inr (.inl (some 0))), some (.inl a), some (.inl v)] [.inl t0] (xz_cs u r q o h0 h1 h2 h3 h4 h5 s0 s1 z p f) :=
  ab_R.steps [8, 19, 36, 49] 2 (show Q (some (.inl t0)) (xz_cs u r q o h0 h1 h2 h3 h4 h5 s0 s1 z p f) from l1)
-- ===== RootChunks.kth
def P_X2_kth : List ab_I := [(0, .aload_n 0, 1, []), (1, .iload_n 1, 2, []), (2, .iload_n 2, 3, []), (3, .invokevirtual 97, 6, []), (6, .istore 4, 8, []), (8, .iload 4, 10, []), (10, .ifCond .eq 6, 13, [((0 : Int), 16)]), (13, .iload 4, 15, []), (15, .ireturn, 16, []), (16, .iload_n 3, 17, []), (17, .ifCond .lt 10, 20, [((0 : Int), 27)]), (20, .iload_n 3, 21, []), (21, .iload_n 2, 22, []), (22, .iload_n 1, 23, []), (23, .isub, 24, []), (24, .if_icmp .le 6, 27, [((0 : Int), 30)]), (27, .bipush (-2), 29, []), (29, .ireturn, 30, []), (30, .aload_n 0, 31, []), (31, .getfield 10, 34, []), (34, .aload_n 0, 35, []), (35, .getfield 45, 38, []), (38, .invokevirtual 101, 41, []), (41, .iload_n 1, 42, []), (42, .istore 5, 44, []), (44, .iload 5, 46, []), (46, .iload_n 2, 47, []), (47, .if_icmp .ge 50, 50, [((0 : Int), 97)]), (50, .aload_n 0, 51, []), (51, .getfield 45, 54, []), (54, .iload 5, 56, []), (56, .iaload, 57, []), (57, .istore 6, 59, []), (59, .aload_n 0, 60, []), (60, .iload_n 1, 61, []), (61, .iload_n 2, 62, []), (62, .iload 6, 64, []), (64, .invokevirtual 105, 67, []), (67, .iload_n 3, 68, []), (68, .if_icmp .gt 23, 71, [((0 : Int), 91)]), (71, .aload_n 0, 72, []), (72, .iload_n 1, 73, []), (73, .iload_n 2, 74, []), (74, .iload 6, 76, []), (76, .iconst 1, 77, []), (77, .iadd, 78, []), (78, .invokevirtual 105, 81, []), (81, .iload_n 3, 82, []), (82, .if_icmp .le 9, 85, [((0 : Int), 91)]), (85, .iload 6, 87, []), (87, .ldc 61, 89, []), (89, .iadd, 90, []), (90, .ireturn, 91, []), (91, .iinc 5 1, 94, []), (94, .goto (-50), 97, [((0 : Int), 44)]), (97, .aload_n 0, 98, []), (98, .getfield 45, 101, []), (101, .iload_n 2, 102, []), (102, .iaload, 103, []), (103, .ldc 61, 105, []), (105, .iadd, 106, []), (106, .ireturn, 107, [])]
def E_X2_kth : ab_E := (T_X2, [(3, (3, 2, [0, 1, 2, 3, 4, 5, 6, 11, 42, 53, 54, 57], 6, sp_X2_spanError)), (38, (2, 1, [1, 2, 3, 4, 5, 57], 6, sp_X1_layOut)), (64, (4, 2, [0, 57, 1, 6, 11, 42, 53, 54], 2, sp_X2_countBelow)), (78, (4, 2, [0, 57, 1, 6, 11, 42, 53, 54], 2, sp_X2_countBelow))], [], 0)
def M_X2_kth : List (Nat × ab_MI) := [(3, mi_X2_spanError), (38, mi_X1_layOut), (64, mi_X2_countBelow), (78, mi_X2_countBelow)]
def mi_X2_kth : ab_MI := (yX2_kth, cX2_kth, 7, ab_rty 0, 3, 113)
theorem pk_X2_kth : P_X2_kth.all (ab_okI cX2_kth) = true := by decide +kernel
theorem ck_X2_kth : P_X2_kth.all (ab_okC1 "RootChunks" M_X2_kth E_X2_kth (3, 113)) = true := by decide +kernel
set_option maxRecDepth 100000 in
theorem b_X2_kth_0 {Q : ab_Q} {a : Int} {b : Int} {k : Int} {u : Int} {r : rw_T} {q : rw_T} {o : List (Option Nat)} {h0 : rw_T} {h1 : rw_T} {h2 : rw_T} {h3 : rw_T} {h4 : rw_T} {h5 : rw_T} {s0 : rw_T} {s1 : rw_T} {z : Int → Int} {p : pd_T} {f : Int → Int} (l1 : sp_X2_spanError [.inr (.inl (some 0)), .inl a, .inl b] (xr_cs u r) (fun r_ k_ => ∃ (x_ : Int), r_ = some (.inl x_) ∧ k_ = (xr_cs u r) ∧ ab_R E_X2_kth P_X2_kth Q 6 [some (.inr (.inl (some 0))), some (.inl a), some (.inl b), some (.inl k), none, none, none] [.inl x_] (xz_cs u r q o h0 h1 h2 h3 h4 h5 s0 s1 z p f)))  : ab_R E_X2_kth P_X2_kth Q 0 [some (.inr (.inl (some 0))), some (.inl a), some (.inl b), some (.inl k), none, none, none] [] (xz_cs u r q o h0 h1 h2 h3 h4 h5 s0 s1 z p f) :=
  ab_R.steps [6, 41, 44, 67, 81] 5 (show ab_cl sp_X2_spanError [.inr (.inl (some 0)), .inl a, .inl b] (xr_cs u r) (fun r_ k_ => k_.length = 6 → ab_R E_X2_kth P_X2_kth Q 6 [some (.inr (.inl (some 0))), some (.inl a), some (.inl b), some (.inl k), none, none, none] (ab_ret (r_.map (ab_reV [0, 1, 2, 3, 4, 5, 6, 11, 42, 53, 54, 57])) []) (ab_back [0, 1, 2, 3, 4, 5, 6, 11, 42, 53, 54, 57] [0, 1, 2, 3, 4, 5] k_ (xz_cs u r q o h0 h1 h2 h3 h4 h5 s0 s1 z p f))) from ⟨_, l1, fun r_ k_ hz _ => by obtain ⟨x_, rfl, rfl, hR⟩ := hz; exact hR⟩)
set_option maxRecDepth 100000 in
theorem b_X2_kth_6 {Q : ab_Q} {a : Int} {b : Int} {k : Int} {t0 : Int} {u : Int} {r : rw_T} {q : rw_T} {o : List (Option Nat)} {h0 : rw_T} {h1 : rw_T} {h2 : rw_T} {h3 : rw_T} {h4 : rw_T} {h5 : rw_T} {s0 : rw_T} {s1 : rw_T} {z : Int → Int} {p : pd_T} {f : Int → Int} (l1 : t0 = (0 : Int) → k < (0 : Int) → Q (some (.inl (-2))) (xz_cs u r q o h0 h1 h2 h3 h4 h5 s0 s1 z p f)) (l2 : t0 = (0 : Int) → (0 : Int) ≤ k → k ≤ (b - a) → sp_X1_layOut [.inr (.inl (some 0)), .inr (.inl (some 5))] (rwa_cs r f) (fun r_ k_ => ∃ (r' : rw_T), ∃ (f' : Int → Int), r_ = none ∧ k_ = (rwa_cs r' (f')) ∧ ab_R E_X2_kth P_X2_kth Q 41 [some (.inr (.inl (some 0))), some (.inl a), some (.inl b), some (.inl k), some (.inl t0), none, none] [] (xz_cs u r' q o h0 h1 h2 h3 h4 h5 s0 s1 z p (f')))) (l3 : t0 = (0 : Int) → (0 : Int) ≤ k → (b - a) < k → Q (some (.inl (-2))) (xz_cs u r q o h0 h1 h2 h3 h4 h5 s0 s1 z p f)) (l4 : ¬ t0 = (0 : Int) → Q (some (.inl t0)) (xz_cs u r q o h0 h1 h2 h3 h4 h5 s0 s1 z p f)) (p1 : ab_r t0 := by intros; (try unfold ab_r); omega) (p2 : t0 = (0 : Int) → ab_r k := by intros; (try unfold ab_r); omega) (p3 : t0 = (0 : Int) → (0 : Int) ≤ k → (ab_r k ∧ ab_r (b - a)) := by intros; (try unfold ab_r); omega) : ab_R E_X2_kth P_X2_kth Q 6 [some (.inr (.inl (some 0))), some (.inl a), some (.inl b), some (.inl k), none, none, none] [.inl t0] (xz_cs u r q o h0 h1 h2 h3 h4 h5 s0 s1 z p f) :=
  ab_R.steps [6, 41, 44, 67, 81] 16 (show (ab_r t0 ∧ ((t0 = (0 : Int) → (ab_r k ∧ ((k < (0 : Int) → Q (some (.inl (-2))) (xz_cs u r q o h0 h1 h2 h3 h4 h5 s0 s1 z p f)) ∧ ((0 : Int) ≤ k → ((ab_r k ∧ ab_r (b - a)) ∧ ((k ≤ (b - a) → ab_cl sp_X1_layOut [.inr (.inl (some 0)), .inr (.inl (some 5))] (rwa_cs r f) (fun r_ k_ => k_.length = 6 → ab_R E_X2_kth P_X2_kth Q 41 [some (.inr (.inl (some 0))), some (.inl a), some (.inl b), some (.inl k), some (.inl t0), none, none] (ab_ret (r_.map (ab_reV [1, 2, 3, 4, 5, 57])) []) (ab_back [1, 2, 3, 4, 5, 57] [1, 2, 3, 4, 5, 57] k_ (xz_cs u r q o h0 h1 h2 h3 h4 h5 s0 s1 z p f)))) ∧ ((b - a) < k → Q (some (.inl (-2))) (xz_cs u r q o h0 h1 h2 h3 h4 h5 s0 s1 z p f)))))))) ∧ (¬ t0 = (0 : Int) → Q (some (.inl t0)) (xz_cs u r q o h0 h1 h2 h3 h4 h5 s0 s1 z p f)))) from ⟨p1, ⟨fun h1 => ⟨(p2 h1), ⟨fun h2 => (l1 h1 h2), fun h3 => ⟨(p3 h1 h3), ⟨fun h4 => ⟨_, (l2 h1 h3 h4), fun r_ k_ hz _ => by obtain ⟨r', f', rfl, rfl, hR⟩ := hz; exact hR⟩, fun h5 => (l3 h1 h3 h5)⟩⟩⟩⟩, fun h6 => (l4 h6)⟩⟩)
set_option maxRecDepth 100000 in
theorem b_X2_kth_41 {Q : ab_Q} {a : Int} {b : Int} {k : Int} {e : Int} {u : Int} {r : rw_T} {q : rw_T} {o : List (Option Nat)} {h0 : rw_T} {h1 : rw_T} {h2 : rw_T} {h3 : rw_T} {h4 : rw_T} {h5 : rw_T} {s0 : rw_T} {s1 : rw_T} {z : Int → Int} {p : pd_T} {f : Int → Int} (l1 : ab_R E_X2_kth P_X2_kth Q 44 [some (.inr (.inl (some 0))), some (.inl a), some (.inl b), some (.inl k), some (.inl e), some (.inl a), none] [] (xz_cs u r q o h0 h1 h2 h3 h4 h5 s0 s1 z p f))  : ab_R E_X2_kth P_X2_kth Q 41 [some (.inr (.inl (some 0))), some (.inl a), some (.inl b), some (.inl k), some (.inl e), none, none] [] (xz_cs u r q o h0 h1 h2 h3 h4 h5 s0 s1 z p f) :=
  ab_R.steps [6, 41, 44, 67, 81] 4 (show ab_R E_X2_kth P_X2_kth Q 44 [some (.inr (.inl (some 0))), some (.inl a), some (.inl b), some (.inl k), some (.inl e), some (.inl a), none] [] (xz_cs u r q o h0 h1 h2 h3 h4 h5 s0 s1 z p f) from l1)
set_option maxRecDepth 100000 in
theorem b_X2_kth_44 {Q : ab_Q} {a : Int} {b : Int} {k : Int} {e : Int} {pl : Int} {u : Int} {r : rw_T} {q : rw_T} {o : List (Option Nat)} {h0 : rw_T} {h1 : rw_T} {h2 : rw_T} {h3 : rw_T} {h4 : rw_T} {h5 : rw_T} {s0 : rw_T} {s1 : rw_T} {z : Int → Int} {p : pd_T} {f : Int → Int} (l1 : b ≤ pl → Q (some (.inl ((f b) + 100000))) (xz_cs u r q o h0 h1 h2 h3 h4 h5 s0 s1 z p f)) (l2 : pl < b → sp_X2_countBelow [.inr (.inl (some 0)), .inl a, .inl b, .inl (f pl)] (xs_cs u f) (fun r_ k_ => ∃ (x_ : Int), r_ = some (.inl x_) ∧ k_ = (xs_cs u f) ∧ ab_R E_X2_kth P_X2_kth Q 67 [some (.inr (.inl (some 0))), some (.inl a), some (.inl b), some (.inl k), some (.inl e), some (.inl pl), some (.inl (f pl))] [.inl x_] (xz_cs u r q o h0 h1 h2 h3 h4 h5 s0 s1 z p f))) (p1 : (ab_r pl ∧ ab_r b) := by intros; (try unfold ab_r); omega) (p2 : b ≤ pl → (0 ≤ b ∧ b < 60) := by intros; (try unfold ab_r); omega) (p3 : pl < b → (0 ≤ pl ∧ pl < 60) := by intros; (try unfold ab_r); omega) : ab_R E_X2_kth P_X2_kth Q 44 [some (.inr (.inl (some 0))), some (.inl a), some (.inl b), some (.inl k), some (.inl e), some (.inl pl), none] [] (xz_cs u r q o h0 h1 h2 h3 h4 h5 s0 s1 z p f) :=
  ab_R.steps [6, 41, 44, 67, 81] 14 (show ((ab_r pl ∧ ab_r b) ∧ ((b ≤ pl → ((0 ≤ b ∧ b < 60) ∧ Q (some (.inl ((f b) + 100000))) (xz_cs u r q o h0 h1 h2 h3 h4 h5 s0 s1 z p f))) ∧ (pl < b → ((0 ≤ pl ∧ pl < 60) ∧ ab_cl sp_X2_countBelow [.inr (.inl (some 0)), .inl a, .inl b, .inl (f pl)] (xs_cs u f) (fun r_ k_ => k_.length = 2 → ab_R E_X2_kth P_X2_kth Q 67 [some (.inr (.inl (some 0))), some (.inl a), some (.inl b), some (.inl k), some (.inl e), some (.inl pl), some (.inl (f pl))] (ab_ret (r_.map (ab_reV [0, 57, 1, 6, 11, 42, 53, 54])) []) (ab_back [0, 57, 1, 6, 11, 42, 53, 54] [0, 57] k_ (xz_cs u r q o h0 h1 h2 h3 h4 h5 s0 s1 z p f))))))) from ⟨p1, ⟨fun h1 => ⟨(p2 h1), (l1 h1)⟩, fun h2 => ⟨(p3 h2), ⟨_, (l2 h2), fun r_ k_ hz _ => by obtain ⟨x_, rfl, rfl, hR⟩ := hz; exact hR⟩⟩⟩⟩)
set_option maxRecDepth 100000 in
theorem b_X2_kth_67 {Q : ab_Q} {a : Int} {b : Int} {k : Int} {e : Int} {pl : Int} {v : Int} {t0 : Int} {u : Int} {r : rw_T} {q : rw_T} {o : List (Option Nat)} {h0 : rw_T} {h1 : rw_T} {h2 : rw_T} {h3 : rw_T} {h4 : rw_T} {h5 : rw_T} {s0 : rw_T} {s1 : rw_T} {z : Int → Int} {p : pd_T} {f : Int → Int} (l1 : k < t0 → ab_R E_X2_kth P_X2_kth Q 44 [some (.inr (.inl (some 0))), some (.inl a), some (.inl b), some (.inl k), some (.inl e), some (.inl (pl + 1)), none] [] (xz_cs u r q o h0 h1 h2 h3 h4 h5 s0 s1 z p f)) (l2 : t0 ≤ k → sp_X2_countBelow [.inr (.inl (some 0)), .inl a, .inl b, .inl (v + 1)] (xs_cs u f) (fun r_ k_ => ∃ (x_ : Int), r_ = some (.inl x_) ∧ k_ = (xs_cs u f) ∧ ab_R E_X2_kth P_X2_kth Q 81 [some (.inr (.inl (some 0))), some (.inl a), some (.inl b), some (.inl k), some (.inl e), some (.inl pl), some (.inl v)] [.inl x_] (xz_cs u r q o h0 h1 h2 h3 h4 h5 s0 s1 z p f))) (p1 : (ab_r t0 ∧ ab_r k) := by intros; (try unfold ab_r); omega) : ab_R E_X2_kth P_X2_kth Q 67 [some (.inr (.inl (some 0))), some (.inl a), some (.inl b), some (.inl k), some (.inl e), some (.inl pl), some (.inl v)] [.inl t0] (xz_cs u r q o h0 h1 h2 h3 h4 h5 s0 s1 z p f) :=
  ab_R.steps [6, 41, 44, 67, 81] 10 (show ((ab_r t0 ∧ ab_r k) ∧ ((k < t0 → ab_R E_X2_kth P_X2_kth Q 44 [some (.inr (.inl (some 0))), some (.inl a), some (.inl b), some (.inl k), some (.inl e), some (.inl (pl + 1)), some (.inl v)] [] (xz_cs u r q o h0 h1 h2 h3 h4 h5 s0 s1 z p f)) ∧ (t0 ≤ k → ab_cl sp_X2_countBelow [.inr (.inl (some 0)), .inl a, .inl b, .inl (v + 1)] (xs_cs u f) (fun r_ k_ => k_.length = 2 → ab_R E_X2_kth P_X2_kth Q 81 [some (.inr (.inl (some 0))), some (.inl a), some (.inl b), some (.inl k), some (.inl e), some (.inl pl), some (.inl v)] (ab_ret (r_.map (ab_reV [0, 57, 1, 6, 11, 42, 53, 54])) []) (ab_back [0, 57, 1, 6, 11, 42, 53, 54] [0, 57] k_ (xz_cs u r q o h0 h1 h2 h3 h4 h5 s0 s1 z p f)))))) from ⟨p1, ⟨fun h1 => (ab_R.fg 6 rfl (l1 h1)), fun h2 => ⟨_, (l2 h2), fun r_ k_ hz _ => by obtain ⟨x_, rfl, rfl, hR⟩ := hz; exact hR⟩⟩⟩)
set_option maxRecDepth 100000 in
theorem b_X2_kth_81 {Q : ab_Q} {a : Int} {b : Int} {k : Int} {e : Int} {pl : Int} {v : Int} {t0 : Int} {u : Int} {r : rw_T} {q : rw_T} {o : List (Option Nat)} {h0 : rw_T} {h1 : rw_T} {h2 : rw_T} {h3 : rw_T} {h4 : rw_T} {h5 : rw_T} {s0 : rw_T} {s1 : rw_T} {z : Int → Int} {p : pd_T} {f : Int → Int} (l1 : t0 ≤ k → ab_R E_X2_kth P_X2_kth Q 44 [some (.inr (.inl (some 0))), some (.inl a), some (.inl b), some (.inl k), some (.inl e), some (.inl (pl + 1)), none] [] (xz_cs u r q o h0 h1 h2 h3 h4 h5 s0 s1 z p f)) (l2 : k < t0 → Q (some (.inl (v + 100000))) (xz_cs u r q o h0 h1 h2 h3 h4 h5 s0 s1 z p f)) (p1 : (ab_r t0 ∧ ab_r k) := by intros; (try unfold ab_r); omega) : ab_R E_X2_kth P_X2_kth Q 81 [some (.inr (.inl (some 0))), some (.inl a), some (.inl b), some (.inl k), some (.inl e), some (.inl pl), some (.inl v)] [.inl t0] (xz_cs u r q o h0 h1 h2 h3 h4 h5 s0 s1 z p f) :=
  ab_R.steps [6, 41, 44, 67, 81] 7 (show ((ab_r t0 ∧ ab_r k) ∧ ((t0 ≤ k → ab_R E_X2_kth P_X2_kth Q 44 [some (.inr (.inl (some 0))), some (.inl a), some (.inl b), some (.inl k), some (.inl e), some (.inl (pl + 1)), some (.inl v)] [] (xz_cs u r q o h0 h1 h2 h3 h4 h5 s0 s1 z p f)) ∧ (k < t0 → Q (some (.inl (v + 100000))) (xz_cs u r q o h0 h1 h2 h3 h4 h5 s0 s1 z p f)))) from ⟨p1, ⟨fun h1 => (ab_R.fg 6 rfl (l1 h1)), fun h2 => (l2 h2)⟩⟩)
-- ===== RootChunks.costOfTurn
def P_X2_costOfTurn : List ab_I := [(0, .aload_n 0, 1, []), (1, .iload_n 1, 2, []), (2, .iload_n 2, 3, []), (3, .invokevirtual 97, 6, []), (6, .istore_n 3, 7, []), (7, .iload_n 3, 8, []), (8, .ifCond .eq 5, 11, [((0 : Int), 13)]), (11, .iload_n 3, 12, []), (12, .ireturn, 13, []), (13, .aload_n 0, 14, []), (14, .getfield 16, 17, []), (17, .aload_n 0, 18, []), (18, .getfield 10, 21, []), (21, .invokevirtual 118, 24, []), (24, .aload_n 0, 25, []), (25, .getfield 16, 28, []), (28, .iload_n 1, 29, []), (29, .iload_n 2, 30, []), (30, .invokevirtual 122, 33, []), (33, .aload_n 0, 34, []), (34, .getfield 16, 37, []), (37, .invokevirtual 126, 40, []), (40, .aload_n 0, 41, []), (41, .getfield 16, 44, []), (44, .getfield 84, 47, []), (47, .aload_n 0, 48, []), (48, .getfield 10, 51, []), (51, .getfield 84, 54, []), (54, .isub, 55, []), (55, .ireturn, 56, [])]
def E_X2_costOfTurn : ab_E := (T_X2, [(3, (3, 2, [0, 1, 2, 3, 4, 5, 6, 11, 42, 53, 54, 57], 6, sp_X2_spanError)), (21, (2, 1, [6, 7, 8, 9, 10, 1, 2, 3, 4, 5], 10, sp_X1_copyFrom)), (30, (3, 1, [6, 7, 8, 9, 10], 5, sp_X1_turnSpan)), (37, (1, 1, [6, 7, 8, 9, 10], 5, sp_X1_evenOut))], [], 0)
def M_X2_costOfTurn : List (Nat × ab_MI) := [(3, mi_X2_spanError), (21, mi_X1_copyFrom), (30, mi_X1_turnSpan), (37, mi_X1_evenOut)]
def mi_X2_costOfTurn : ab_MI := (yX2_costOfTurn, cX2_costOfTurn, 4, ab_rty 0, 5, 167)
theorem pk_X2_costOfTurn : P_X2_costOfTurn.all (ab_okI cX2_costOfTurn) = true := by decide +kernel
theorem ck_X2_costOfTurn : P_X2_costOfTurn.all (ab_okC1 "RootChunks" M_X2_costOfTurn E_X2_costOfTurn (5, 167)) = true := by decide +kernel
set_option maxRecDepth 100000 in
theorem b_X2_costOfTurn_0 {Q : ab_Q} {a : Int} {b : Int} {u : Int} {r : rw_T} {q : rw_T} {o : List (Option Nat)} {h0 : rw_T} {h1 : rw_T} {h2 : rw_T} {h3 : rw_T} {h4 : rw_T} {h5 : rw_T} {s0 : rw_T} {s1 : rw_T} {z : Int → Int} {p : pd_T} {f : Int → Int} (l1 : sp_X2_spanError [.inr (.inl (some 0)), .inl a, .inl b] (xr_cs u r) (fun r_ k_ => ∃ (x_ : Int), r_ = some (.inl x_) ∧ k_ = (xr_cs u r) ∧ ab_R E_X2_costOfTurn P_X2_costOfTurn Q 6 [some (.inr (.inl (some 0))), some (.inl a), some (.inl b), none] [.inl x_] (xz_cs u r q o h0 h1 h2 h3 h4 h5 s0 s1 z p f)))  : ab_R E_X2_costOfTurn P_X2_costOfTurn Q 0 [some (.inr (.inl (some 0))), some (.inl a), some (.inl b), none] [] (xz_cs u r q o h0 h1 h2 h3 h4 h5 s0 s1 z p f) :=
  ab_R.steps [6, 24, 33, 40] 5 (show ab_cl sp_X2_spanError [.inr (.inl (some 0)), .inl a, .inl b] (xr_cs u r) (fun r_ k_ => k_.length = 6 → ab_R E_X2_costOfTurn P_X2_costOfTurn Q 6 [some (.inr (.inl (some 0))), some (.inl a), some (.inl b), none] (ab_ret (r_.map (ab_reV [0, 1, 2, 3, 4, 5, 6, 11, 42, 53, 54, 57])) []) (ab_back [0, 1, 2, 3, 4, 5, 6, 11, 42, 53, 54, 57] [0, 1, 2, 3, 4, 5] k_ (xz_cs u r q o h0 h1 h2 h3 h4 h5 s0 s1 z p f))) from ⟨_, l1, fun r_ k_ hz _ => by obtain ⟨x_, rfl, rfl, hR⟩ := hz; exact hR⟩)
set_option maxRecDepth 100000 in
theorem b_X2_costOfTurn_6 {Q : ab_Q} {a : Int} {b : Int} {t0 : Int} {u : Int} {r : rw_T} {q : rw_T} {o : List (Option Nat)} {h0 : rw_T} {h1 : rw_T} {h2 : rw_T} {h3 : rw_T} {h4 : rw_T} {h5 : rw_T} {s0 : rw_T} {s1 : rw_T} {z : Int → Int} {p : pd_T} {f : Int → Int} (l1 : t0 = (0 : Int) → sp_X1_copyFrom [.inr (.inl (some 0)), .inr (.inl (some 5))] (rw2_cs q r) (fun r_ k_ => ∃ (r' : rw_T), ∃ (q' : rw_T), r_ = none ∧ k_ = (rw2_cs r' q') ∧ ab_R E_X2_costOfTurn P_X2_costOfTurn Q 24 [some (.inr (.inl (some 0))), some (.inl a), some (.inl b), some (.inl t0)] [] (xz_cs u q' r' o h0 h1 h2 h3 h4 h5 s0 s1 z p f))) (l2 : ¬ t0 = (0 : Int) → Q (some (.inl t0)) (xz_cs u r q o h0 h1 h2 h3 h4 h5 s0 s1 z p f)) (p1 : ab_r t0 := by intros; (try unfold ab_r); omega) : ab_R E_X2_costOfTurn P_X2_costOfTurn Q 6 [some (.inr (.inl (some 0))), some (.inl a), some (.inl b), none] [.inl t0] (xz_cs u r q o h0 h1 h2 h3 h4 h5 s0 s1 z p f) :=
  ab_R.steps [6, 24, 33, 40] 9 (show (ab_r t0 ∧ ((t0 = (0 : Int) → ab_cl sp_X1_copyFrom [.inr (.inl (some 0)), .inr (.inl (some 5))] (rw2_cs q r) (fun r_ k_ => k_.length = 10 → ab_R E_X2_costOfTurn P_X2_costOfTurn Q 24 [some (.inr (.inl (some 0))), some (.inl a), some (.inl b), some (.inl t0)] (ab_ret (r_.map (ab_reV [6, 7, 8, 9, 10, 1, 2, 3, 4, 5])) []) (ab_back [6, 7, 8, 9, 10, 1, 2, 3, 4, 5] [6, 7, 8, 9, 10, 1, 2, 3, 4, 5] k_ (xz_cs u r q o h0 h1 h2 h3 h4 h5 s0 s1 z p f)))) ∧ (¬ t0 = (0 : Int) → Q (some (.inl t0)) (xz_cs u r q o h0 h1 h2 h3 h4 h5 s0 s1 z p f)))) from ⟨p1, ⟨fun h1 => ⟨_, (l1 h1), fun r_ k_ hz _ => by obtain ⟨r', q', rfl, rfl, hR⟩ := hz; exact hR⟩, fun h2 => (l2 h2)⟩⟩)
set_option maxRecDepth 100000 in
theorem b_X2_costOfTurn_24 {Q : ab_Q} {a : Int} {b : Int} {e : Int} {u : Int} {r : rw_T} {q : rw_T} {o : List (Option Nat)} {h0 : rw_T} {h1 : rw_T} {h2 : rw_T} {h3 : rw_T} {h4 : rw_T} {h5 : rw_T} {s0 : rw_T} {s1 : rw_T} {z : Int → Int} {p : pd_T} {f : Int → Int} (l1 : sp_X1_turnSpan [.inr (.inl (some 0)), .inl a, .inl b] (rw_cs q) (fun r_ k_ => ∃ (r' : rw_T), r_ = none ∧ k_ = (rw_cs r') ∧ ab_R E_X2_costOfTurn P_X2_costOfTurn Q 33 [some (.inr (.inl (some 0))), some (.inl a), some (.inl b), some (.inl e)] [] (xz_cs u r r' o h0 h1 h2 h3 h4 h5 s0 s1 z p f)))  : ab_R E_X2_costOfTurn P_X2_costOfTurn Q 24 [some (.inr (.inl (some 0))), some (.inl a), some (.inl b), some (.inl e)] [] (xz_cs u r q o h0 h1 h2 h3 h4 h5 s0 s1 z p f) :=
  ab_R.steps [6, 24, 33, 40] 6 (show ab_cl sp_X1_turnSpan [.inr (.inl (some 0)), .inl a, .inl b] (rw_cs q) (fun r_ k_ => k_.length = 5 → ab_R E_X2_costOfTurn P_X2_costOfTurn Q 33 [some (.inr (.inl (some 0))), some (.inl a), some (.inl b), some (.inl e)] (ab_ret (r_.map (ab_reV [6, 7, 8, 9, 10])) []) (ab_back [6, 7, 8, 9, 10] [6, 7, 8, 9, 10] k_ (xz_cs u r q o h0 h1 h2 h3 h4 h5 s0 s1 z p f))) from ⟨_, l1, fun r_ k_ hz _ => by obtain ⟨r', rfl, rfl, hR⟩ := hz; exact hR⟩)
set_option maxRecDepth 100000 in
theorem b_X2_costOfTurn_33 {Q : ab_Q} {a : Int} {b : Int} {e : Int} {u : Int} {r : rw_T} {q : rw_T} {o : List (Option Nat)} {h0 : rw_T} {h1 : rw_T} {h2 : rw_T} {h3 : rw_T} {h4 : rw_T} {h5 : rw_T} {s0 : rw_T} {s1 : rw_T} {z : Int → Int} {p : pd_T} {f : Int → Int} (l1 : sp_X1_evenOut [.inr (.inl (some 0))] (rw_cs q) (fun r_ k_ => ∃ (r' : rw_T), r_ = none ∧ k_ = (rw_cs r') ∧ ab_R E_X2_costOfTurn P_X2_costOfTurn Q 40 [some (.inr (.inl (some 0))), some (.inl a), some (.inl b), some (.inl e)] [] (xz_cs u r r' o h0 h1 h2 h3 h4 h5 s0 s1 z p f)))  : ab_R E_X2_costOfTurn P_X2_costOfTurn Q 33 [some (.inr (.inl (some 0))), some (.inl a), some (.inl b), some (.inl e)] [] (xz_cs u r q o h0 h1 h2 h3 h4 h5 s0 s1 z p f) :=
  ab_R.steps [6, 24, 33, 40] 4 (show ab_cl sp_X1_evenOut [.inr (.inl (some 0))] (rw_cs q) (fun r_ k_ => k_.length = 5 → ab_R E_X2_costOfTurn P_X2_costOfTurn Q 40 [some (.inr (.inl (some 0))), some (.inl a), some (.inl b), some (.inl e)] (ab_ret (r_.map (ab_reV [6, 7, 8, 9, 10])) []) (ab_back [6, 7, 8, 9, 10] [6, 7, 8, 9, 10] k_ (xz_cs u r q o h0 h1 h2 h3 h4 h5 s0 s1 z p f))) from ⟨_, l1, fun r_ k_ hz _ => by obtain ⟨r', rfl, rfl, hR⟩ := hz; exact hR⟩)
set_option maxRecDepth 100000 in
theorem b_X2_costOfTurn_40 {Q : ab_Q} {a : Int} {b : Int} {e : Int} {u : Int} {r : rw_T} {q : rw_T} {o : List (Option Nat)} {h0 : rw_T} {h1 : rw_T} {h2 : rw_T} {h3 : rw_T} {h4 : rw_T} {h5 : rw_T} {s0 : rw_T} {s1 : rw_T} {z : Int → Int} {p : pd_T} {f : Int → Int} (l1 : Q (some (.inl (q.2.2.2.2.2.2 - r.2.2.2.2.2.2))) (xz_cs u r q o h0 h1 h2 h3 h4 h5 s0 s1 z p f))  : ab_R E_X2_costOfTurn P_X2_costOfTurn Q 40 [some (.inr (.inl (some 0))), some (.inl a), some (.inl b), some (.inl e)] [] (xz_cs u r q o h0 h1 h2 h3 h4 h5 s0 s1 z p f) :=
  ab_R.steps [6, 24, 33, 40] 9 (show Q (some (.inl (q.2.2.2.2.2.2 - r.2.2.2.2.2.2))) (xz_cs u r q o h0 h1 h2 h3 h4 h5 s0 s1 z p f) from l1)
theorem vc_X2_countBelow {av : List ab_V} {cs : List ab_C} {Q : ab_Q} (h : sp_X2_countBelow av cs Q) : (ab_lv0 av).length ≤ 6 ∧ ab_R E_X2_countBelow P_X2_countBelow Q 0 (ab_ent av 6) [] cs := by
  obtain ⟨u, f, q, a, b, v, rfl, rfl, hf, hW, h0, h1, h2, hv, hQ⟩ := h
  refine ⟨Nat.le_of_ble_eq_true rfl, ?_⟩
  have hfl := hW.2
  have h2' := h2
  unfold mq_n at h2'
  have loop : ∀ (m : Nat) (p n : Int), b + 1 - p = m → a ≤ p → n + mf_less v (mq_sp q p b) = mf_less v (mq_sp q a b) → ab_R E_X2_countBelow P_X2_countBelow Q 6 [some (.inr (.inl (some 0))), some (.inl a), some (.inl b), some (.inl v), some (.inl n), some (.inl p)] [] (xs_cs u f) := by
    intro m
    induction m with
    | zero =>
      intro p n g1 g2 g3
      rw [mq_sp_nil q p b (by omega), show mf_less v [] = 0 from rfl] at g3
      refine b_X2_countBelow_6 (fun _ => ?_) (fun h => by omega) (fun h => by omega)
      rw [show n = mf_less v (mq_sp q a b) by omega]
      exact hQ
    | succ m ih =>
      intro p n g1 g2 g3
      obtain ⟨x, hx, e2⟩ := mq_sp_cons (q := q) (p := p) (b := b) (by omega) (by omega) (by omega)
      have hxin := mq_all_in hW x (List.mem_of_getElem? hx)
      have hfx := mx_at hf (by omega) hx
      rw [e2, mf_less_cons] at g3
      refine b_X2_countBelow_6 (fun h => by omega) (fun _ h => ih _ _ (by omega) (by omega) ?_) (fun _ h => ih _ _ (by omega) (by omega) ?_) (p3 := fun _ => ⟨by rw [hfx]; unfold ab_r; omega, hv⟩)
      · rw [if_neg (by omega)] at g3; omega
      · rw [if_pos (by omega)] at g3; omega
  exact b_X2_countBelow_0 (loop (b + 1 - a).toNat a 0 (by omega) (by omega) (by omega))
theorem mt_X2_countBelow (l : Launch) : ab_MT l mi_X2_countBelow sp_X2_countBelow := ab_MT.of (own := "RootChunks") (E := E_X2_countBelow) (P := P_X2_countBelow) (M := M_X2_countBelow) (nL := 6) (ty := 0) (by decide) rfl rfl tk_X2 pk_X2_countBelow ck_X2_countBelow ab_CT'.nil (fun av cs Q h => vc_X2_countBelow h)
theorem vc_X2_firstPlaceOf {av : List ab_V} {cs : List ab_C} {Q : ab_Q} (h : sp_X2_firstPlaceOf av cs Q) : (ab_lv0 av).length ≤ 5 ∧ ab_R E_X2_firstPlaceOf P_X2_firstPlaceOf Q 0 (ab_ent av 5) [] cs := by
  obtain ⟨u, f, q, v, a, b, rfl, rfl, hf, hW, h0, h1, h2, hv, hQ⟩ := h
  refine ⟨Nat.le_of_ble_eq_true rfl, ?_⟩
  have hfl := hW.2
  have h2' := h2
  unfold mq_n at h2'
  have loop : ∀ (m : Nat) (p : Int), b - p = m → a ≤ p → Q (some (.inl (mf_fd v (mq_sp q p (b - 1)) p))) (xs_cs u f) → ab_R E_X2_firstPlaceOf P_X2_firstPlaceOf Q 3 [some (.inr (.inl (some 0))), some (.inl v), some (.inl a), some (.inl b), some (.inl p)] [] (xs_cs u f) := by
    intro m
    induction m with
    | zero =>
      intro p g1 g2 g3
      rw [mq_sp_nil q p _ (by omega)] at g3
      exact b_X2_firstPlaceOf_3 (fun _ => g3) (fun h => by omega) (fun h => by omega)
    | succ m ih =>
      intro p g1 g2 g3
      obtain ⟨x, hx, e2⟩ := mq_sp_cons (q := q) (p := p) (b := b - 1) (by omega) (by omega) (by omega)
      have hxin := mq_all_in hW x (List.mem_of_getElem? hx)
      have hfx := mx_at hf (by omega) hx
      rw [e2] at g3
      unfold mf_fd at g3
      refine b_X2_firstPlaceOf_3 (fun h => by omega) (fun _ h => ih _ (by omega) (by omega) ?_) (fun _ h => ?_) (p3 := fun _ => ⟨by rw [hfx]; unfold ab_r; omega, hv⟩)
      · rwa [if_neg (by omega)] at g3
      · rwa [if_pos (by omega)] at g3
  exact b_X2_firstPlaceOf_0 (loop (b - a).toNat a (by omega) (by omega) hQ)
theorem mt_X2_firstPlaceOf (l : Launch) : ab_MT l mi_X2_firstPlaceOf sp_X2_firstPlaceOf := ab_MT.of (own := "RootChunks") (E := E_X2_firstPlaceOf) (P := P_X2_firstPlaceOf) (M := M_X2_firstPlaceOf) (nL := 5) (ty := 0) (by decide) rfl rfl tk_X2 pk_X2_firstPlaceOf ck_X2_firstPlaceOf ab_CT'.nil (fun av cs Q h => vc_X2_firstPlaceOf h)
theorem vc_X2_below {av : List ab_V} {cs : List ab_C} {Q : ab_Q} (h : sp_X2_below av cs Q) : (ab_lv0 av).length ≤ 5 ∧ ab_R E_X2_below P_X2_below Q 0 (ab_ent av 5) [] cs := by
  obtain ⟨⟨u, r, q, o, hy, s0, s1, z, p, f⟩, S, a, b, v, rfl, rfl, hI, ha, hb, hv, hQ⟩ := h
  refine ⟨Nat.le_of_ble_eq_true rfl, ?_⟩
  show ab_R E_X2_below P_X2_below Q 0 [some (.inr (.inl (some 0))), some (.inl a), some (.inl b), some (.inl v), none] [] (xz_cs u r q o (hy 0) (hy 1) (hy 2) (hy 3) (hy 4) (hy 5) s0 s1 z p f)
  have hR : mq_R r S.1.1 := hI.1.1
  have hW : mq_W S.1.1 := hI.1.2.1
  have hQ : ∀ f', Q (some (.inl (mf_below S.1.1 a b v))) (xz_cs u r q o (hy 0) (hy 1) (hy 2) (hy 3) (hy 4) (hy 5) s0 s1 z p f') := fun f' => hQ (u, r, q, o, hy, s0, s1, z, p, f') hI
  have hin := mq_eSpan_in S.1.1 a b
  unfold mf_below at hQ
  refine b_X2_below_0 ⟨_, _, S.1.1, _, _, rfl, rfl, hR, hW, ha, hb, _, rfl, rfl, ?_⟩
  refine b_X2_below_6 (fun h => ⟨_, _, rfl, hv, by omega, by omega, _, rfl, rfl, ?_⟩) (fun h => ?_)
  · rw [if_pos h] at hQ
    have e := mq_eSpan_0 h
    by_cases y : mq_big v
    · rw [if_pos y] at hQ
      rw [if_pos y]
      exact b_X2_below_22 (fun _ => ⟨_, S.1.1, _, rfl, rfl, hR, hW, fun f' hf => ⟨_, _, rfl, rfl, b_X2_below_39 ⟨_, _, S.1.1, _, _, _, rfl, rfl, hf, hW, by omega, by omega, by omega, hv, _, rfl, rfl, b_X2_below_46 (hQ f')⟩⟩⟩) (fun h => absurd rfl h)
    · rw [if_neg y] at hQ
      rw [if_neg y]
      exact b_X2_below_22 (fun h => by omega) (fun _ => hQ f)
  · rw [if_neg h] at hQ
    exact hQ f
theorem mt_X2_below (l : Launch) : ab_MT l mi_X2_below sp_X2_below := ab_MT.of (own := "RootChunks") (E := E_X2_below) (P := P_X2_below) (M := M_X2_below) (nL := 5) (ty := 0) (by decide) rfl rfl tk_X2 pk_X2_below ck_X2_below (ab_CT'.cons (mt_X2_spanError l) (ab_CT'.cons (mt_X2_outside l) (ab_CT'.cons (mt_X1_layOut l) (ab_CT'.cons (mt_X2_countBelow l) ab_CT'.nil)))) (fun av cs Q h => vc_X2_below h)
theorem vc_X2_sum {av : List ab_V} {cs : List ab_C} {Q : ab_Q} (h : sp_X2_sum av cs Q) : (ab_lv0 av).length ≤ 6 ∧ ab_R E_X2_sum P_X2_sum Q 0 (ab_ent av 6) [] cs := by
  obtain ⟨⟨u, r, q, o, hy, s0, s1, z, p, f⟩, S, a, b, rfl, rfl, hI, ha, hb, hQ⟩ := h
  refine ⟨Nat.le_of_ble_eq_true rfl, ?_⟩
  show ab_R E_X2_sum P_X2_sum Q 0 [some (.inr (.inl (some 0))), some (.inl a), some (.inl b), none, none, none] [] (xz_cs u r q o (hy 0) (hy 1) (hy 2) (hy 3) (hy 4) (hy 5) s0 s1 z p f)
  have hR : mq_R r S.1.1 := hI.1.1
  have hW : mq_W S.1.1 := hI.1.2.1
  have hfl := hW.2
  have hQ : ∀ f', Q (some (.inl (mf_sum S.1.1 a b))) (xz_cs u r q o (hy 0) (hy 1) (hy 2) (hy 3) (hy 4) (hy 5) s0 s1 z p f') := fun f' => hQ (u, r, q, o, hy, s0, s1, z, p, f') hI
  have hin := mq_eSpan_in S.1.1 a b
  unfold mf_sum at hQ
  refine b_X2_sum_0 ⟨_, _, S.1.1, _, _, rfl, rfl, hR, hW, ha, hb, _, rfl, rfl, ?_⟩
  refine b_X2_sum_6 (fun h => ⟨_, S.1.1, _, rfl, rfl, hR, hW, fun f' hf => ⟨_, _, rfl, rfl, b_X2_sum_24 ?_⟩⟩) (fun h => ?_)
  · rw [if_pos h] at hQ
    have e := mq_eSpan_0 h
    have e' := e
    unfold mq_n at e'
    have loop : ∀ (m : Nat) (pl n : Int), b + 1 - pl = m → a ≤ pl → Q (some (.inl (mf_sm (mq_sp S.1.1 pl b) n))) (xz_cs u r q o (hy 0) (hy 1) (hy 2) (hy 3) (hy 4) (hy 5) s0 s1 z p f') → ab_R E_X2_sum P_X2_sum Q 31 [some (.inr (.inl (some 0))), some (.inl a), some (.inl b), some (.inl (mq_eSpan S.1.1 a b)), some (.inl n), some (.inl pl)] [] (xz_cs u r q o (hy 0) (hy 1) (hy 2) (hy 3) (hy 4) (hy 5) s0 s1 z p f') := by
      intro m
      induction m with
      | zero =>
        intro pl n g1 g2 g3
        rw [mq_sp_nil S.1.1 pl b (by omega)] at g3
        exact b_X2_sum_31 (fun _ => g3) (fun h => by omega)
      | succ m ih =>
        intro pl n g1 g2 g3
        obtain ⟨x, hx, e2⟩ := mq_sp_cons (q := S.1.1) (p := pl) (b := b) (by omega) (by omega) (by omega)
        have hfx := mx_at hf (by omega) hx
        rw [e2] at g3
        refine b_X2_sum_31 (fun h => by omega) (fun _ => ?_)
        rw [hfx]
        exact ih _ _ (by omega) (by omega) g3
    exact loop (b + 1 - a).toNat a 10000000 (by omega) (by omega) (hQ f')
  · rw [if_neg h] at hQ
    exact hQ f
theorem mt_X2_sum (l : Launch) : ab_MT l mi_X2_sum sp_X2_sum := ab_MT.of (own := "RootChunks") (E := E_X2_sum) (P := P_X2_sum) (M := M_X2_sum) (nL := 6) (ty := 0) (by decide) rfl rfl tk_X2 pk_X2_sum ck_X2_sum (ab_CT'.cons (mt_X2_spanError l) (ab_CT'.cons (mt_X1_layOut l) ab_CT'.nil)) (fun av cs Q h => vc_X2_sum h)
theorem mf_fd_like (v : Int) : ∀ (l : List Int) (p : Int), 0 ≤ p → (mf_fd v l p = -6 ↔ mf_like v l = 0) ∧ (mf_fd v l p = -6 ∨ (p ≤ mf_fd v l p ∧ mf_fd v l p < p + l.length))
  | [], p, h => ⟨⟨fun _ => rfl, fun _ => rfl⟩, Or.inl rfl⟩
  | x :: l, p, h => by
    have ih := mf_fd_like v l (p + 1) (by omega)
    have hl := mf_like_in v l
    have e : mf_fd v (x :: l) p = if x = v then p else mf_fd v l (p + 1) := by conv => lhs; unfold mf_fd
    rw [e, mf_like_cons, List.length_cons]
    by_cases y : x = v
    · rw [if_pos y, if_pos y]
      omega
    · rw [if_neg y, if_neg y]
      have ih1 := ih.1
      have ih2 := ih.2
      refine ⟨⟨fun q => by have := ih1.mp q; omega, fun q => ih1.mpr (by omega)⟩, by omega⟩
theorem vc_X2_unlike {av : List ab_V} {cs : List ab_C} {Q : ab_Q} (h : sp_X2_unlike av cs Q) : (ab_lv0 av).length ≤ 6 ∧ ab_R E_X2_unlike P_X2_unlike Q 0 (ab_ent av 6) [] cs := by
  obtain ⟨⟨u, r, q, o, hy, s0, s1, z, p, f⟩, S, a, b, rfl, rfl, hI, ha, hb, hQ⟩ := h
  refine ⟨Nat.le_of_ble_eq_true rfl, ?_⟩
  show ab_R E_X2_unlike P_X2_unlike Q 0 [some (.inr (.inl (some 0))), some (.inl a), some (.inl b), none, none, none] [] (xz_cs u r q o (hy 0) (hy 1) (hy 2) (hy 3) (hy 4) (hy 5) s0 s1 z p f)
  have hR : mq_R r S.1.1 := hI.1.1
  have hW : mq_W S.1.1 := hI.1.2.1
  have hfl := hW.2
  have hQ : ∀ f', Q (some (.inl (mf_unlike S.1.1 a b))) (xz_cs u r q o (hy 0) (hy 1) (hy 2) (hy 3) (hy 4) (hy 5) s0 s1 z p f') := fun f' => hQ (u, r, q, o, hy, s0, s1, z, p, f') hI
  have hin := mq_eSpan_in S.1.1 a b
  unfold mf_unlike at hQ
  refine b_X2_unlike_0 ⟨_, _, S.1.1, _, _, rfl, rfl, hR, hW, ha, hb, _, rfl, rfl, ?_⟩
  refine b_X2_unlike_6 (fun h => ⟨_, S.1.1, _, rfl, rfl, hR, hW, fun f' hf => ⟨_, _, rfl, rfl, b_X2_unlike_24 ?_⟩⟩) (fun h => ?_)
  · rw [if_pos h] at hQ
    have e := mq_eSpan_0 h
    have e' := e
    unfold mq_n at e'
    have loop : ∀ (m : Nat) (pl n : Int), b + 1 - pl = m → a ≤ pl → n + mf_ul (mq_sp S.1.1 a (pl - 1)) (mq_sp S.1.1 pl b) = mf_ul [] (mq_sp S.1.1 a b) → ab_R E_X2_unlike P_X2_unlike Q 30 [some (.inr (.inl (some 0))), some (.inl a), some (.inl b), some (.inl (mq_eSpan S.1.1 a b)), some (.inl n), some (.inl pl)] [] (xz_cs u r q o (hy 0) (hy 1) (hy 2) (hy 3) (hy 4) (hy 5) s0 s1 z p f') := by
      intro m
      induction m with
      | zero =>
        intro pl n g1 g2 g3
        rw [mq_sp_nil S.1.1 pl b (by omega)] at g3
        refine b_X2_unlike_30 (fun _ => ?_) (fun h => by omega)
        have e0 : mf_ul (mq_sp S.1.1 a (pl - 1)) [] = 0 := by unfold mf_ul; rfl
        rw [show n = mf_ul [] (mq_sp S.1.1 a b) by omega]
        exact hQ f'
      | succ m ih =>
        intro pl n g1 g2 g3
        obtain ⟨x, hx, e2⟩ := mq_sp_cons (q := S.1.1) (p := pl) (b := b) (by omega) (by omega) (by omega)
        have hxin := mq_all_in hW x (List.mem_of_getElem? hx)
        have hfx := mx_at hf (by omega) hx
        have hsn := mq_sp_snoc (q := S.1.1) (a := a) (p := pl) (by omega) (by omega) (by omega) hx
        have hnext : ∀ n' : Int, n' = n + (if mf_like x (mq_sp S.1.1 a (pl - 1)) = 0 then 1 else 0) → n' + mf_ul (mq_sp S.1.1 a (pl + 1 - 1)) (mq_sp S.1.1 (pl + 1) b) = mf_ul [] (mq_sp S.1.1 a b) := by
          intro n' hn'
          have eu : mf_ul (mq_sp S.1.1 a (pl - 1)) (x :: mq_sp S.1.1 (pl + 1) b) = (if mf_like x (mq_sp S.1.1 a (pl - 1)) = 0 then 1 else 0) + mf_ul (mq_sp S.1.1 a (pl - 1) ++ [x]) (mq_sp S.1.1 (pl + 1) b) := by
            conv => lhs; unfold mf_ul
          rw [e2, eu] at g3
          rw [show pl + 1 - 1 = pl by omega, hsn]
          omega
        refine b_X2_unlike_30 (fun h => by omega) (fun _ => ?_)
        rw [hfx]
        have hfd := mf_fd_like x (mq_sp S.1.1 a (pl - 1)) a (by omega)
        have hl2 := mq_sp_len hW a (pl - 1)
        refine ⟨_, _, S.1.1, _, _, _, rfl, rfl, hf, hW, by omega, by omega, by omega, by unfold ab_r; omega, _, rfl, rfl, ?_⟩
        refine b_X2_unlike_50 (fun hc => ih _ _ (by omega) (by omega) (hnext _ ?_)) (fun hc => ih _ _ (by omega) (by omega) (hnext _ ?_))
        · rw [if_neg (fun q => hc (hfd.1.mpr q)), Int.add_zero]
        · rw [if_pos (hfd.1.mp hc)]
    exact loop (b + 1 - a).toNat a 0 (by omega) (by omega) (by rw [mq_sp_nil S.1.1 a (a - 1) (by omega)]; omega)
  · rw [if_neg h] at hQ
    exact hQ f
theorem mt_X2_unlike (l : Launch) : ab_MT l mi_X2_unlike sp_X2_unlike := ab_MT.of (own := "RootChunks") (E := E_X2_unlike) (P := P_X2_unlike) (M := M_X2_unlike) (nL := 6) (ty := 0) (by decide) rfl rfl tk_X2 pk_X2_unlike ck_X2_unlike (ab_CT'.cons (mt_X2_spanError l) (ab_CT'.cons (mt_X1_layOut l) (ab_CT'.cons (mt_X2_firstPlaceOf l) ab_CT'.nil))) (fun av cs Q h => vc_X2_unlike h)
theorem vc_X2_find {av : List ab_V} {cs : List ab_C} {Q : ab_Q} (h : sp_X2_find av cs Q) : (ab_lv0 av).length ≤ 3 ∧ ab_R E_X2_find P_X2_find Q 0 (ab_ent av 3) [] cs := by
  obtain ⟨⟨u, r, q, o, hy, s0, s1, z, p, f⟩, S, a, v, rfl, rfl, hI, ha, hv, hQ⟩ := h
  refine ⟨Nat.le_of_ble_eq_true rfl, ?_⟩
  show ab_R E_X2_find P_X2_find Q 0 [some (.inr (.inl (some 0))), some (.inl a), some (.inl v)] [] (xz_cs u r q o (hy 0) (hy 1) (hy 2) (hy 3) (hy 4) (hy 5) s0 s1 z p f)
  have hR : mq_R r S.1.1 := hI.1.1
  have hW : mq_W S.1.1 := hI.1.2.1
  have hnn : r.2.2.2.2.1 = mq_n S.1.1 := hR.2.2.2.2.1
  have hQ : ∀ f', Q (some (.inl (mf_find S.1.1 a v))) (xz_cs u r q o (hy 0) (hy 1) (hy 2) (hy 3) (hy 4) (hy 5) s0 s1 z p f') := fun f' => hQ (u, r, q, o, hy, s0, s1, z, p, f') hI
  unfold mf_find at hQ
  refine b_X2_find_0 ⟨_, S.1.1, _, rfl, rfl, hR, hW, ha, _, rfl, rfl, ?_⟩
  by_cases y : 0 ≤ a ∧ a < ((mq_flat S.1.1).length : Int)
  · have y2 : mq_pl S.1.1 a := y
    rw [if_pos y2] at hQ
    rw [if_pos y]
    unfold mq_pl at y2
    refine b_X2_find_8 (fun _ => ⟨_, _, rfl, hv, by omega, by omega, _, rfl, rfl, ?_⟩) (fun h => by omega)
    by_cases y3 : mq_big v
    · rw [if_pos y3] at hQ
      rw [if_pos y3]
      refine b_X2_find_19 (fun _ => ⟨_, S.1.1, _, rfl, rfl, hR, hW, fun f' hf => ⟨_, _, rfl, rfl, b_X2_find_36 ?_⟩⟩) (fun h => absurd rfl h)
      rw [hnn]
      exact ⟨_, _, S.1.1, _, _, _, rfl, rfl, hf, hW, by omega, by omega, by omega, hv, _, rfl, rfl, b_X2_find_49 (hQ f')⟩
    · rw [if_neg y3] at hQ
      rw [if_neg y3]
      exact b_X2_find_19 (fun h => by omega) (fun _ => hQ f)
  · have y2 : ¬ mq_pl S.1.1 a := y
    rw [if_neg y2] at hQ
    rw [if_neg y]
    exact b_X2_find_8 (fun h => absurd rfl h) (fun _ => hQ f)
theorem mt_X2_find (l : Launch) : ab_MT l mi_X2_find sp_X2_find := ab_MT.of (own := "RootChunks") (E := E_X2_find) (P := P_X2_find) (M := M_X2_find) (nL := 3) (ty := 0) (by decide) rfl rfl tk_X2 pk_X2_find ck_X2_find (ab_CT'.cons (mt_X1_has l) (ab_CT'.cons (mt_X2_outside l) (ab_CT'.cons (mt_X1_layOut l) (ab_CT'.cons (mt_X2_firstPlaceOf l) ab_CT'.nil)))) (fun av cs Q h => vc_X2_find h)
theorem mf_less_succ (v : Int) : ∀ l : List Int, mf_less (v + 1) l = mf_less v l + mf_like v l
  | [] => rfl
  | x :: l => by
    rw [mf_less_cons, mf_less_cons, mf_like_cons, mf_less_succ v l]
    split <;> split <;> split <;> omega
theorem mf_less_lo (v : Int) : ∀ l : List Int, (∀ x ∈ l, v ≤ x) → mf_less v l = 0
  | [], _ => rfl
  | x :: l, h => by
    have := h x List.mem_cons_self
    rw [mf_less_cons, mf_less_lo v l (fun y hy => h y (List.mem_cons_of_mem _ hy)), if_neg (by omega)]
    rfl
theorem mf_less_hi (v : Int) : ∀ l : List Int, (∀ x ∈ l, x < v) → mf_less v l = l.length
  | [], _ => rfl
  | x :: l, h => by
    have := h x List.mem_cons_self
    rw [mf_less_cons, mf_less_hi v l (fun y hy => h y (List.mem_cons_of_mem _ hy)), if_pos (by omega), List.length_cons]
    omega
theorem mf_like_mem (v : Int) : ∀ l : List Int, 0 < mf_like v l → v ∈ l
  | [], h => by
    have : mf_like v [] = 0 := rfl
    omega
  | x :: l, h => by
    rw [mf_like_cons] at h
    by_cases y : x = v
    · rw [y]; exact List.mem_cons_self
    · rw [if_neg y] at h
      exact List.mem_cons_of_mem _ (mf_like_mem v l (by omega))
theorem mf_step (l : List Int) (k : Int) : ∀ (m : Nat) (t : Int), mf_less t l ≤ k → k < mf_less (t + m) l → ∃ v, mf_less v l ≤ k ∧ k < mf_less (v + 1) l
  | 0, t, h0, h1 => by rw [show t + ((0 : Nat) : Int) = t by omega] at h1; omega
  | m + 1, t, h0, h1 => by
    by_cases y : k < mf_less (t + 1) l
    · exact ⟨t, h0, y⟩
    · exact mf_step l k m (t + 1) (by omega) (by rw [show t + 1 + (m : Int) = t + ((m + 1 : Nat) : Int) by omega]; exact h1)
/-- there is a k-th number -/
theorem mf_kt_ex {l : List Int} {k : Int} (hl : ∀ x ∈ l, -99999 ≤ x ∧ x ≤ 99999) (h0 : 0 ≤ k) (h1 : k < l.length) : ∃ v ∈ l, mf_kt l k v := by
  have e0 := mf_less_lo (-99999) l (fun x hx => (hl x hx).1)
  have e1 := mf_less_hi (-99999 + ((200000 : Nat) : Int)) l (fun x hx => by have := (hl x hx).2; omega)
  obtain ⟨v, v1, v2⟩ := mf_step l k 200000 (-99999) (by omega) (by rw [e1]; exact h1)
  have e2 := mf_less_succ v l
  refine ⟨v, mf_like_mem v l (by omega), ?_⟩
  unfold mf_kt
  omega
theorem mq_sp_size {q : List mq_K} {a b : Int} (h0 : 0 ≤ a) (h1 : a ≤ b) (h2 : b < mq_n q) : ((mq_sp q a b).length : Int) = b - a + 1 := by
  unfold mq_n at h2
  unfold mq_sp
  rw [List.length_take, List.length_drop, mq_all_len]
  omega
theorem mq_sp_in {q : List mq_K} (hW : mq_W q) (a b : Int) : ∀ x ∈ mq_sp q a b, -99999 ≤ x ∧ x ≤ 99999 := fun x hx => mq_all_in hW x (List.mem_of_mem_drop (List.mem_of_mem_take hx))
theorem vc_X2_kth {av : List ab_V} {cs : List ab_C} {Q : ab_Q} (h : sp_X2_kth av cs Q) : (ab_lv0 av).length ≤ 7 ∧ ab_R E_X2_kth P_X2_kth Q 0 (ab_ent av 7) [] cs := by
  obtain ⟨⟨u, r, q, o, hy, s0, s1, z, p, f⟩, S, a, b, k, rfl, rfl, hI, ha, hb, hk, hQ⟩ := h
  refine ⟨Nat.le_of_ble_eq_true rfl, ?_⟩
  show ab_R E_X2_kth P_X2_kth Q 0 [some (.inr (.inl (some 0))), some (.inl a), some (.inl b), some (.inl k), none, none, none] [] (xz_cs u r q o (hy 0) (hy 1) (hy 2) (hy 3) (hy 4) (hy 5) s0 s1 z p f)
  have hR : mq_R r S.1.1 := hI.1.1
  have hW : mq_W S.1.1 := hI.1.2.1
  have hfl := hW.2
  have hQ : ∀ f', Q (some (.inl (mf_kth S.1.1 a b k))) (xz_cs u r q o (hy 0) (hy 1) (hy 2) (hy 3) (hy 4) (hy 5) s0 s1 z p f') := fun f' => hQ (u, r, q, o, hy, s0, s1, z, p, f') hI
  have hin := mq_eSpan_in S.1.1 a b
  have hk' := hk
  unfold ab_r at hk'
  unfold mf_kth at hQ
  refine b_X2_kth_0 ⟨_, _, S.1.1, _, _, rfl, rfl, hR, hW, ha, hb, _, rfl, rfl, ?_⟩
  by_cases h : mq_eSpan S.1.1 a b = 0
  · rw [if_pos h] at hQ
    have e := mq_eSpan_0 h
    have e' := e
    unfold mq_n at e'
    refine b_X2_kth_6 (fun _ hk0 => ?_) (fun _ hk0 hk1 => ⟨_, S.1.1, _, rfl, rfl, hR, hW, fun f' hf => ⟨_, _, rfl, rfl, b_X2_kth_41 ?_⟩⟩) (fun _ hk0 hk1 => ?_) (fun hn => absurd h hn)
    · rw [if_neg (by omega)] at hQ
      exact hQ f
    · rw [if_pos (by omega)] at hQ
      have hQ := hQ f'
      have hsz := mq_sp_size (q := S.1.1) (a := a) (b := b) (by omega) (by omega) (by omega)
      obtain ⟨w, w1, w2⟩ := mf_kt_ex (mq_sp_in hW a b) hk0 (by omega)
      have hw := mf_kv_is w1 w2
      have loop : ∀ (m : Nat) (pl : Int), b - pl = m → a ≤ pl → (∀ y ∈ mq_sp S.1.1 a (pl - 1), ¬ mf_kt (mq_sp S.1.1 a b) k y) → ab_R E_X2_kth P_X2_kth Q 44 [some (.inr (.inl (some 0))), some (.inl a), some (.inl b), some (.inl k), some (.inl (mq_eSpan S.1.1 a b)), some (.inl pl), none] [] (xz_cs u r q o (hy 0) (hy 1) (hy 2) (hy 3) (hy 4) (hy 5) s0 s1 z p f') := by
        intro m
        induction m with
        | zero =>
          intro pl g1 g2 g3
          have epl : pl = b := by omega
          subst epl
          refine b_X2_kth_44 (fun _ => ?_) (fun h => by omega)
          obtain ⟨x, hx, -⟩ := mq_sp_cons (q := S.1.1) (p := pl) (b := pl) (by omega) (by omega) (by omega)
          have hfx := mx_at hf (by omega) hx
          have hsn := mq_sp_snoc (q := S.1.1) (a := a) (p := pl) (by omega) (by omega) (by omega) hx
          have hwx : w = x := by
            have w1' := w1
            rw [hsn] at w1'
            rcases List.mem_append.mp w1' with w3 | w3
            · exact absurd w2 (g3 w w3)
            · exact List.mem_singleton.mp w3
          rw [hfx, ← hwx, ← hw]
          exact hQ
        | succ m ih =>
          intro pl g1 g2 g3
          obtain ⟨x, hx, e2⟩ := mq_sp_at (q := S.1.1) (a := a) (p := pl) (b := b) (by omega) (by omega) (by omega) (by omega)
          have hxin := mq_all_in hW x (List.mem_of_getElem? hx)
          have hfx := mx_at hf (by omega) hx
          have hsn := mq_sp_snoc (q := S.1.1) (a := a) (p := pl) (by omega) (by omega) (by omega) hx
          have hxm : x ∈ mq_sp S.1.1 a b := by rw [e2]; simp
          have hno : ¬ mf_kt (mq_sp S.1.1 a b) k x → ∀ y ∈ mq_sp S.1.1 a (pl + 1 - 1), ¬ mf_kt (mq_sp S.1.1 a b) k y := by
            intro hn y hy
            rw [show pl + 1 - 1 = pl by omega, hsn] at hy
            rcases List.mem_append.mp hy with hy | hy
            · exact g3 y hy
            · rw [List.mem_singleton.mp hy]; exact hn
          have l1 := mf_less_in x (mq_sp S.1.1 a b)
          have l1' := mf_less_in (x + 1) (mq_sp S.1.1 a b)
          have l2 := mf_less_succ x (mq_sp S.1.1 a b)
          have l3 := mq_sp_len hW a b
          refine b_X2_kth_44 (fun h => by omega) (fun _ => ?_)
          rw [hfx]
          refine ⟨_, _, S.1.1, _, _, _, rfl, rfl, hf, hW, by omega, by omega, by omega, by unfold ab_r; omega, _, rfl, rfl, ?_⟩
          refine b_X2_kth_67 (fun hc => ih _ (by omega) (by omega) (hno (fun hkt => by unfold mf_kt at hkt; omega))) (fun hc => ⟨_, _, S.1.1, _, _, _, rfl, rfl, hf, hW, by omega, by omega, by omega, by unfold ab_r; omega, _, rfl, rfl, ?_⟩)
          refine b_X2_kth_81 (fun hc2 => ih _ (by omega) (by omega) (hno (fun hkt => by unfold mf_kt at hkt; omega))) (fun hc2 => ?_)
          have hkt : mf_kt (mq_sp S.1.1 a b) k x := ⟨hc, by omega⟩
          rw [← mf_kv_is hxm hkt]
          exact hQ
      exact loop (b - a).toNat a (by omega) (by omega) (fun y hy => by rw [mq_sp_nil S.1.1 a (a - 1) (by omega)] at hy; simp at hy)
    · rw [if_neg (by omega)] at hQ
      exact hQ f
  · rw [if_neg h] at hQ
    exact b_X2_kth_6 (fun hn => absurd hn h) (fun hn => absurd hn h) (fun hn => absurd hn h) (fun _ => hQ f)
theorem mt_X2_kth (l : Launch) : ab_MT l mi_X2_kth sp_X2_kth := ab_MT.of (own := "RootChunks") (E := E_X2_kth) (P := P_X2_kth) (M := M_X2_kth) (nL := 7) (ty := 0) (by decide) rfl rfl tk_X2 pk_X2_kth ck_X2_kth (ab_CT'.cons (mt_X2_spanError l) (ab_CT'.cons (mt_X1_layOut l) (ab_CT'.cons (mt_X2_countBelow l) (ab_CT'.cons (mt_X2_countBelow l) ab_CT'.nil)))) (fun av cs Q h => vc_X2_kth h)
theorem vc_X2_costOfTurn {av : List ab_V} {cs : List ab_C} {Q : ab_Q} (h : sp_X2_costOfTurn av cs Q) : (ab_lv0 av).length ≤ 4 ∧ ab_R E_X2_costOfTurn P_X2_costOfTurn Q 0 (ab_ent av 4) [] cs := by
  obtain ⟨⟨u, r, q, o, hy, s0, s1, z, p, f⟩, S, a, b, rfl, rfl, hI, ha, hb, hQ⟩ := h
  refine ⟨Nat.le_of_ble_eq_true rfl, ?_⟩
  show ab_R E_X2_costOfTurn P_X2_costOfTurn Q 0 [some (.inr (.inl (some 0))), some (.inl a), some (.inl b), none] [] (xz_cs u r q o (hy 0) (hy 1) (hy 2) (hy 3) (hy 4) (hy 5) s0 s1 z p f)
  have hR : mq_R r S.1.1 := hI.1.1
  have hW : mq_W S.1.1 := hI.1.2.1
  have hQ : ∀ q', Q (some (.inl (mf_cost S.1.1 a b))) (xz_cs u r q' o (hy 0) (hy 1) (hy 2) (hy 3) (hy 4) (hy 5) s0 s1 z p f) := fun q' => hQ (u, r, q', o, hy, s0, s1, z, p, f) hI
  have hin := mq_eSpan_in S.1.1 a b
  unfold mf_cost at hQ
  refine b_X2_costOfTurn_0 ⟨_, _, S.1.1, _, _, rfl, rfl, hR, hW, ha, hb, _, rfl, rfl, ?_⟩
  refine b_X2_costOfTurn_6 (fun h => ?_) (fun h => ?_)
  · rw [if_pos h] at hQ
    have e := mq_eSpan_0 h
    unfold mq_n at e
    refine ⟨q, r, S.1.1, rfl, rfl, hR, hW, fun r1 e1 e2 => ⟨_, _, rfl, rfl, ?_⟩⟩
    refine b_X2_costOfTurn_24 ⟨r1, S.1.1, a.toNat, (b + 1 - a).toNat, _, _, rfl, rfl, e1, hW, by omega, by omega, by omega, fun r2 e3 e4 => ⟨_, rfl, rfl, ?_⟩⟩
    refine b_X2_costOfTurn_33 ⟨r2, _, rfl, rfl, e3, mq_W_trn hW (by omega), fun r3 e5 e6 => ⟨_, rfl, rfl, ?_⟩⟩
    refine b_X2_costOfTurn_40 ?_
    have ec : (mf_do 116 S.1.1 a b 0).2 = r3.2.2.2.2.2.2 - r.2.2.2.2.2.2 := by
      unfold mf_do
      rw [if_neg (by omega), if_neg (by omega), if_neg (by omega), if_pos rfl]
      unfold mf_ch
      dsimp only
      omega
    have := hQ r3
    rw [ec] at this
    exact this
  · rw [if_neg h] at hQ
    exact hQ q
theorem mt_X2_costOfTurn (l : Launch) : ab_MT l mi_X2_costOfTurn sp_X2_costOfTurn := ab_MT.of (own := "RootChunks") (E := E_X2_costOfTurn) (P := P_X2_costOfTurn) (M := M_X2_costOfTurn) (nL := 4) (ty := 0) (by decide) rfl rfl tk_X2 pk_X2_costOfTurn ck_X2_costOfTurn (ab_CT'.cons (mt_X2_spanError l) (ab_CT'.cons (mt_X1_copyFrom l) (ab_CT'.cons (mt_X1_turnSpan l) (ab_CT'.cons (mt_X1_evenOut l) ab_CT'.nil)))) (fun av cs Q h => vc_X2_costOfTurn h)
