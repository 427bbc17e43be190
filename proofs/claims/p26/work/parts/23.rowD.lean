def sp_X1_insert : ab_Sp := fun av cs Q => ∃ (r : rw_T) (q : List mq_K) (d : Nat) (p v : Int), av = [.inr (.inl (some 0)), .inl p, .inl v] ∧ cs = rw_cs r ∧ mq_R r q ∧ mq_W q ∧ p = d ∧ d ≤ (mq_flat q).length ∧ (mq_flat q).length < 60 ∧
  ∀ r' : rw_T, mq_R r' (mq_put q d v).1 → r'.2.2.2.2.2.2 = r.2.2.2.2.2.2 + (mq_put q d v).2 → Q none (rw_cs r')
def sp_X1_remove : ab_Sp := fun av cs Q => ∃ (r : rw_T) (q : List mq_K) (d : Nat) (p : Int), av = [.inr (.inl (some 0)), .inl p] ∧ cs = rw_cs r ∧ mq_R r q ∧ mq_W q ∧ p = d ∧ d < (mq_flat q).length ∧
  ∀ r' : rw_T, mq_R r' (mq_tak q d).1 → r'.2.2.2.2.2.2 = r.2.2.2.2.2.2 + (mq_tak q d).2 → Q none (rw_cs r')
def sp_X1_replace : ab_Sp := fun av cs Q => ∃ (r : rw_T) (q : List mq_K) (d : Nat) (p v : Int), av = [.inr (.inl (some 0)), .inl p, .inl v] ∧ cs = rw_cs r ∧ mq_R r q ∧ mq_W q ∧ p = d ∧ d < (mq_flat q).length ∧
  ∀ r' : rw_T, mq_R r' (mq_set q d v).1 → r'.2.2.2.2.2.2 = r.2.2.2.2.2.2 + (mq_set q d v).2 → Q none (rw_cs r')
def sp_X1_reverseChunks : ab_Sp := fun av cs Q => ∃ (r : rw_T) (A M B : List mq_K) (a b : Int), av = [.inr (.inl (some 0)), .inl a, .inl b] ∧ cs = rw_cs r ∧ mq_R r (A ++ (M ++ B)) ∧ mq_W (A ++ (M ++ B)) ∧ a = A.length ∧ b = A.length + M.length ∧
  ∀ r' : rw_T, mq_R r' (A ++ (M.reverse ++ B)) → r'.2.2.2.2.2.2 = r.2.2.2.2.2.2 → Q none (rw_cs r')
def sp_X1_exchangeChunks : ab_Sp := fun av cs Q => ∃ (r : rw_T) (A M1 M2 B : List mq_K) (a m b : Int), av = [.inr (.inl (some 0)), .inl a, .inl m, .inl b] ∧ cs = rw_cs r ∧ mq_R r (A ++ (M1 ++ (M2 ++ B))) ∧ mq_W (A ++ (M1 ++ (M2 ++ B))) ∧ a = A.length ∧ m = A.length + M1.length ∧ b = A.length + M1.length + M2.length ∧
  ∀ r' : rw_T, mq_R r' (A ++ (M2 ++ (M1 ++ B))) → r'.2.2.2.2.2.2 = r.2.2.2.2.2.2 → Q none (rw_cs r')
def sp_X1_turnSpan : ab_Sp := fun av cs Q => ∃ (r : rw_T) (q : List mq_K) (f n : Nat) (x y : Int), av = [.inr (.inl (some 0)), .inl x, .inl y] ∧ cs = rw_cs r ∧ mq_R r q ∧ mq_W q ∧ x = f ∧ y + 1 = x + n ∧ f + n ≤ (mq_flat q).length ∧
  ∀ r' : rw_T, mq_R r' (mq_trn q f n).1 → r'.2.2.2.2.2.2 = r.2.2.2.2.2.2 + (mq_trn q f n).2 → Q none (rw_cs r')
def sp_X1_addToSpan : ab_Sp := fun av cs Q => ∃ (r : rw_T) (q : List mq_K) (f n : Nat) (x y v : Int), av = [.inr (.inl (some 0)), .inl x, .inl y, .inl v] ∧ cs = rw_cs r ∧ mq_R r q ∧ mq_W q ∧ x = f ∧ y + 1 = x + n ∧ f + n ≤ (mq_flat q).length ∧
  ∀ r' : rw_T, mq_R r' (mq_add q f n v).1 → r'.2.2.2.2.2.2 = r.2.2.2.2.2.2 + (mq_add q f n v).2 → Q none (rw_cs r')
def sp_X1_moveSpan : ab_Sp := fun av cs Q => ∃ (r : rw_T) (q : List mq_K) (f n d : Nat) (x y p : Int), av = [.inr (.inl (some 0)), .inl x, .inl y, .inl p] ∧ cs = rw_cs r ∧ mq_R r q ∧ mq_W q ∧ x = f ∧ y + 1 = x + n ∧ f + n ≤ (mq_flat q).length ∧ p = d ∧ d + n ≤ (mq_flat q).length ∧
  ∀ r' : rw_T, mq_R r' (mq_mov q f n d).1 → r'.2.2.2.2.2.2 = r.2.2.2.2.2.2 + (mq_mov q f n d).2 → Q none (rw_cs r')
def P_X1_insert : List ab_I := [(0, .aload_n 0, 1, []), (1, .getfield 24, 4, []), (4, .bipush 60, 6, []), (6, .if_icmp .lt 4, 9, [((0 : Int), 10)]), (9, .return_, 10, []), (10, .aload_n 0, 11, []), (11, .iload_n 1, 12, []), (12, .invokevirtual 53, 15, []), (15, .istore_n 3, 16, []), (16, .aload_n 0, 17, []), (17, .getfield 24, 20, []), (20, .istore 4, 22, []), (22, .iload 4, 24, []), (24, .iload_n 1, 25, []), (25, .if_icmp .le 25, 28, [((0 : Int), 50)]), (28, .aload_n 0, 29, []), (29, .getfield 9, 32, []), (32, .iload 4, 34, []), (34, .aload_n 0, 35, []), (35, .getfield 9, 38, []), (38, .iload 4, 40, []), (40, .iconst 1, 41, []), (41, .isub, 42, []), (42, .iaload, 43, []), (43, .iastore, 44, []), (44, .iinc 4 (-1), 47, []), (47, .goto (-25), 50, [((0 : Int), 22)]), (50, .aload_n 0, 51, []), (51, .getfield 9, 54, []), (54, .iload_n 1, 55, []), (55, .iload_n 2, 56, []), (56, .iastore, 57, []), (57, .aload_n 0, 58, []), (58, .dup, 59, []), (59, .getfield 24, 62, []), (62, .iconst 1, 63, []), (63, .iadd, 64, []), (64, .putfield 24, 67, []), (67, .aload_n 0, 68, []), (68, .iload_n 3, 69, []), (69, .iconst 1, 70, []), (70, .invokevirtual 56, 73, []), (73, .aload_n 0, 74, []), (74, .dup, 75, []), (75, .getfield 31, 78, []), (78, .iconst 1, 79, []), (79, .iadd, 80, []), (80, .putfield 31, 83, []), (83, .return_, 84, [])]
def E_X1_insert : ab_E := (T_X1, [(12, (2, 1, [], 0, sp_X1_cutAt)), (70, (3, 1, [], 0, sp_X1_openChunk))], [], 9)
def M_X1_insert : List (Nat × ab_MI) := [(12, mi_X1_cutAt), (70, mi_X1_openChunk)]
def mi_X1_insert : ab_MI := (yX1_insert, cX1_insert, 5, ab_rty 9, 4, 142)
theorem pk_X1_insert : P_X1_insert.all (ab_okI cX1_insert) = true := by decide +kernel
theorem ck_X1_insert : P_X1_insert.all (ab_okC1 "RootChunks$Row" M_X1_insert E_X1_insert (4, 142)) = true := by decide +kernel
set_option maxRecDepth 100000 in
theorem b_X1_insert_0 {Q : ab_Q} {p : Int} {v : Int} {rK : Int → Int} {rL : Int → Int} {rT : Int → Int} {rS : Int → Int} {rn : Int} {rc : Int} {rw : Int} (l1 : rn < (60 : Int) → sp_X1_cutAt [.inr (.inl (some 0)), .inl p] (rw_cs (rK, rL, rT, rS, rn, rc, rw)) (fun r_ k_ => ∃ (x_ : Int), ∃ (r' : rw_T), r_ = some (.inl x_) ∧ k_ = (rw_cs r') ∧ ab_R E_X1_insert P_X1_insert Q 15 [some (.inr (.inl (some 0))), some (.inl p), some (.inl v), none, none] [.inl x_] (rw_cs r'))) (l2 : (60 : Int) ≤ rn → Q none (rw_cs (rK, rL, rT, rS, rn, rc, rw))) (p1 : (ab_r rn ∧ ab_r 60) := by intros; (try unfold ab_r); omega) : ab_R E_X1_insert P_X1_insert Q 0 [some (.inr (.inl (some 0))), some (.inl p), some (.inl v), none, none] [] (rw_cs (rK, rL, rT, rS, rn, rc, rw)) :=
  ab_R.steps [15, 22, 73] 8 (show ((ab_r rn ∧ ab_r 60) ∧ ((rn < (60 : Int) → ab_cl sp_X1_cutAt [.inr (.inl (some 0)), .inl p] (rw_cs (rK, rL, rT, rS, rn, rc, rw)) (fun r_ k_ => k_.length = ((rw_cs (rK, rL, rT, rS, rn, rc, rw))).length → ab_R E_X1_insert P_X1_insert Q 15 [some (.inr (.inl (some 0))), some (.inl p), some (.inl v), none, none] (ab_ret r_ []) k_)) ∧ ((60 : Int) ≤ rn → Q none (rw_cs (rK, rL, rT, rS, rn, rc, rw))))) from ⟨p1, ⟨fun h1 => ⟨_, (l1 h1), fun r_ k_ hz _ => by obtain ⟨x_, r', rfl, rfl, hR⟩ := hz; exact hR⟩, fun h2 => (l2 h2)⟩⟩)
set_option maxRecDepth 100000 in
theorem b_X1_insert_15 {Q : ab_Q} {p : Int} {v : Int} {t0 : Int} {rK : Int → Int} {rL : Int → Int} {rT : Int → Int} {rS : Int → Int} {rn : Int} {rc : Int} {rw : Int} (l1 : ab_R E_X1_insert P_X1_insert Q 22 [some (.inr (.inl (some 0))), some (.inl p), some (.inl v), some (.inl t0), some (.inl rn)] [] (rw_cs (rK, rL, rT, rS, rn, rc, rw)))  : ab_R E_X1_insert P_X1_insert Q 15 [some (.inr (.inl (some 0))), some (.inl p), some (.inl v), none, none] [.inl t0] (rw_cs (rK, rL, rT, rS, rn, rc, rw)) :=
  ab_R.steps [15, 22, 73] 6 (show ab_R E_X1_insert P_X1_insert Q 22 [some (.inr (.inl (some 0))), some (.inl p), some (.inl v), some (.inl t0), some (.inl rn)] [] (rw_cs (rK, rL, rT, rS, rn, rc, rw)) from l1)
set_option maxRecDepth 100000 in
theorem b_X1_insert_22 {Q : ab_Q} {p : Int} {v : Int} {k : Int} {i : Int} {rK : Int → Int} {rL : Int → Int} {rT : Int → Int} {rS : Int → Int} {rn : Int} {rc : Int} {rw : Int} (l1 : i ≤ p → sp_X1_openChunk [.inr (.inl (some 0)), .inl k, .inl 1] (rw_cs ((ab_up rK p v), rL, rT, rS, (rn + 1), rc, rw)) (fun r_ k_ => ∃ (r' : rw_T), r_ = none ∧ k_ = (rw_cs r') ∧ ab_R E_X1_insert P_X1_insert Q 73 [some (.inr (.inl (some 0))), some (.inl p), some (.inl v), some (.inl k), some (.inl i)] [] (rw_cs r'))) (l2 : p < i → ab_R E_X1_insert P_X1_insert Q 22 [some (.inr (.inl (some 0))), some (.inl p), some (.inl v), some (.inl k), some (.inl (i + (-1)))] [] (rw_cs ((ab_up rK i (rK (i - 1))), rL, rT, rS, rn, rc, rw))) (p1 : (ab_r i ∧ ab_r p) := by intros; (try unfold ab_r); omega) (p2 : i ≤ p → (0 ≤ p ∧ p < 60) := by intros; (try unfold ab_r); omega) (p3 : p < i → (0 ≤ (i - 1) ∧ (i - 1) < 60) := by intros; (try unfold ab_r); omega) (p4 : p < i → (0 ≤ i ∧ i < 60) := by intros; (try unfold ab_r); omega) : ab_R E_X1_insert P_X1_insert Q 22 [some (.inr (.inl (some 0))), some (.inl p), some (.inl v), some (.inl k), some (.inl i)] [] (rw_cs (rK, rL, rT, rS, rn, rc, rw)) :=
  ab_R.steps [15, 22, 73] 19 (show ((ab_r i ∧ ab_r p) ∧ ((i ≤ p → ((0 ≤ p ∧ p < 60) ∧ ab_cl sp_X1_openChunk [.inr (.inl (some 0)), .inl k, .inl 1] (rw_cs ((ab_up rK p v), rL, rT, rS, (rn + 1), rc, rw)) (fun r_ k_ => k_.length = ((rw_cs ((ab_up rK p v), rL, rT, rS, (rn + 1), rc, rw))).length → ab_R E_X1_insert P_X1_insert Q 73 [some (.inr (.inl (some 0))), some (.inl p), some (.inl v), some (.inl k), some (.inl i)] (ab_ret r_ []) k_))) ∧ (p < i → ((0 ≤ (i - 1) ∧ (i - 1) < 60) ∧ ((0 ≤ i ∧ i < 60) ∧ ab_R E_X1_insert P_X1_insert Q 22 [some (.inr (.inl (some 0))), some (.inl p), some (.inl v), some (.inl k), some (.inl (i + (-1)))] [] (rw_cs ((ab_up rK i (rK (i - 1))), rL, rT, rS, rn, rc, rw))))))) from ⟨p1, ⟨fun h1 => ⟨(p2 h1), ⟨_, (l1 h1), fun r_ k_ hz _ => by obtain ⟨r', rfl, rfl, hR⟩ := hz; exact hR⟩⟩, fun h2 => ⟨(p3 h2), ⟨(p4 h2), (l2 h2)⟩⟩⟩⟩)
set_option maxRecDepth 100000 in
theorem b_X1_insert_73 {Q : ab_Q} {p : Int} {v : Int} {k : Int} {i : Int} {rK : Int → Int} {rL : Int → Int} {rT : Int → Int} {rS : Int → Int} {rn : Int} {rc : Int} {rw : Int} (l1 : Q none (rw_cs (rK, rL, rT, rS, rn, rc, (rw + 1))))  : ab_R E_X1_insert P_X1_insert Q 73 [some (.inr (.inl (some 0))), some (.inl p), some (.inl v), some (.inl k), some (.inl i)] [] (rw_cs (rK, rL, rT, rS, rn, rc, rw)) :=
  ab_R.steps [15, 22, 73] 8 (show Q none (rw_cs (rK, rL, rT, rS, rn, rc, (rw + 1))) from l1)
def P_X1_remove : List ab_I := [(0, .aload_n 0, 1, []), (1, .iload_n 1, 2, []), (2, .invokevirtual 53, 5, []), (5, .istore_n 2, 6, []), (6, .aload_n 0, 7, []), (7, .iload_n 1, 8, []), (8, .iconst 1, 9, []), (9, .iadd, 10, []), (10, .invokevirtual 53, 13, []), (13, .pop, 14, []), (14, .iload_n 1, 15, []), (15, .iconst 1, 16, []), (16, .iadd, 17, []), (17, .istore_n 3, 18, []), (18, .iload_n 3, 19, []), (19, .aload_n 0, 20, []), (20, .getfield 24, 23, []), (23, .if_icmp .ge 23, 26, [((0 : Int), 46)]), (26, .aload_n 0, 27, []), (27, .getfield 9, 30, []), (30, .iload_n 3, 31, []), (31, .iconst 1, 32, []), (32, .isub, 33, []), (33, .aload_n 0, 34, []), (34, .getfield 9, 37, []), (37, .iload_n 3, 38, []), (38, .iaload, 39, []), (39, .iastore, 40, []), (40, .iinc 3 1, 43, []), (43, .goto (-25), 46, [((0 : Int), 18)]), (46, .aload_n 0, 47, []), (47, .dup, 48, []), (48, .getfield 24, 51, []), (51, .iconst 1, 52, []), (52, .isub, 53, []), (53, .putfield 24, 56, []), (56, .aload_n 0, 57, []), (57, .iload_n 2, 58, []), (58, .invokevirtual 60, 61, []), (61, .return_, 62, [])]
def E_X1_remove : ab_E := (T_X1, [(2, (2, 1, [], 0, sp_X1_cutAt)), (10, (2, 1, [], 0, sp_X1_cutAt)), (58, (2, 1, [], 0, sp_X1_closeChunk))], [], 9)
def M_X1_remove : List (Nat × ab_MI) := [(2, mi_X1_cutAt), (10, mi_X1_cutAt), (58, mi_X1_closeChunk)]
def mi_X1_remove : ab_MI := (yX1_remove, cX1_remove, 4, ab_rty 9, 4, 142)
theorem pk_X1_remove : P_X1_remove.all (ab_okI cX1_remove) = true := by decide +kernel
theorem ck_X1_remove : P_X1_remove.all (ab_okC1 "RootChunks$Row" M_X1_remove E_X1_remove (4, 142)) = true := by decide +kernel
set_option maxRecDepth 100000 in
theorem b_X1_remove_0 {Q : ab_Q} {p : Int} {rK : Int → Int} {rL : Int → Int} {rT : Int → Int} {rS : Int → Int} {rn : Int} {rc : Int} {rw : Int} (l1 : sp_X1_cutAt [.inr (.inl (some 0)), .inl p] (rw_cs (rK, rL, rT, rS, rn, rc, rw)) (fun r_ k_ => ∃ (x_ : Int), ∃ (r' : rw_T), r_ = some (.inl x_) ∧ k_ = (rw_cs r') ∧ ab_R E_X1_remove P_X1_remove Q 5 [some (.inr (.inl (some 0))), some (.inl p), none, none] [.inl x_] (rw_cs r')))  : ab_R E_X1_remove P_X1_remove Q 0 [some (.inr (.inl (some 0))), some (.inl p), none, none] [] (rw_cs (rK, rL, rT, rS, rn, rc, rw)) :=
  ab_R.steps [5, 13, 18, 61] 4 (show ab_cl sp_X1_cutAt [.inr (.inl (some 0)), .inl p] (rw_cs (rK, rL, rT, rS, rn, rc, rw)) (fun r_ k_ => k_.length = ((rw_cs (rK, rL, rT, rS, rn, rc, rw))).length → ab_R E_X1_remove P_X1_remove Q 5 [some (.inr (.inl (some 0))), some (.inl p), none, none] (ab_ret r_ []) k_) from ⟨_, l1, fun r_ k_ hz _ => by obtain ⟨x_, r', rfl, rfl, hR⟩ := hz; exact hR⟩)
set_option maxRecDepth 100000 in
theorem b_X1_remove_5 {Q : ab_Q} {p : Int} {t0 : Int} {rK : Int → Int} {rL : Int → Int} {rT : Int → Int} {rS : Int → Int} {rn : Int} {rc : Int} {rw : Int} (l1 : sp_X1_cutAt [.inr (.inl (some 0)), .inl (p + 1)] (rw_cs (rK, rL, rT, rS, rn, rc, rw)) (fun r_ k_ => ∃ (x_ : Int), ∃ (r' : rw_T), r_ = some (.inl x_) ∧ k_ = (rw_cs r') ∧ ab_R E_X1_remove P_X1_remove Q 13 [some (.inr (.inl (some 0))), some (.inl p), some (.inl t0), none] [.inl x_] (rw_cs r')))  : ab_R E_X1_remove P_X1_remove Q 5 [some (.inr (.inl (some 0))), some (.inl p), none, none] [.inl t0] (rw_cs (rK, rL, rT, rS, rn, rc, rw)) :=
  ab_R.steps [5, 13, 18, 61] 7 (show ab_cl sp_X1_cutAt [.inr (.inl (some 0)), .inl (p + 1)] (rw_cs (rK, rL, rT, rS, rn, rc, rw)) (fun r_ k_ => k_.length = ((rw_cs (rK, rL, rT, rS, rn, rc, rw))).length → ab_R E_X1_remove P_X1_remove Q 13 [some (.inr (.inl (some 0))), some (.inl p), some (.inl t0), none] (ab_ret r_ []) k_) from ⟨_, l1, fun r_ k_ hz _ => by obtain ⟨x_, r', rfl, rfl, hR⟩ := hz; exact hR⟩)
set_option maxRecDepth 100000 in
theorem b_X1_remove_13 {Q : ab_Q} {p : Int} {k : Int} {t0 : Int} {rK : Int → Int} {rL : Int → Int} {rT : Int → Int} {rS : Int → Int} {rn : Int} {rc : Int} {rw : Int} (l1 : ab_R E_X1_remove P_X1_remove Q 18 [some (.inr (.inl (some 0))), some (.inl p), some (.inl k), some (.inl (p + 1))] [] (rw_cs (rK, rL, rT, rS, rn, rc, rw)))  : ab_R E_X1_remove P_X1_remove Q 13 [some (.inr (.inl (some 0))), some (.inl p), some (.inl k), none] [.inl t0] (rw_cs (rK, rL, rT, rS, rn, rc, rw)) :=
  ab_R.steps [5, 13, 18, 61] 7 (show ab_R E_X1_remove P_X1_remove Q 18 [some (.inr (.inl (some 0))), some (.inl p), some (.inl k), some (.inl (p + 1))] [] (rw_cs (rK, rL, rT, rS, rn, rc, rw)) from l1)
set_option maxRecDepth 100000 in
theorem b_X1_remove_18 {Q : ab_Q} {p : Int} {k : Int} {i : Int} {rK : Int → Int} {rL : Int → Int} {rT : Int → Int} {rS : Int → Int} {rn : Int} {rc : Int} {rw : Int} (l1 : rn ≤ i → sp_X1_closeChunk [.inr (.inl (some 0)), .inl k] (rw_cs (rK, rL, rT, rS, (rn - 1), rc, rw)) (fun r_ k_ => ∃ (r' : rw_T), r_ = none ∧ k_ = (rw_cs r') ∧ ab_R E_X1_remove P_X1_remove Q 61 [some (.inr (.inl (some 0))), some (.inl p), some (.inl k), some (.inl i)] [] (rw_cs r'))) (l2 : i < rn → ab_R E_X1_remove P_X1_remove Q 18 [some (.inr (.inl (some 0))), some (.inl p), some (.inl k), some (.inl (i + 1))] [] (rw_cs ((ab_up rK (i - 1) (rK i)), rL, rT, rS, rn, rc, rw))) (p1 : (ab_r i ∧ ab_r rn) := by intros; (try unfold ab_r); omega) (p2 : i < rn → (0 ≤ i ∧ i < 60) := by intros; (try unfold ab_r); omega) (p3 : i < rn → (0 ≤ (i - 1) ∧ (i - 1) < 60) := by intros; (try unfold ab_r); omega) : ab_R E_X1_remove P_X1_remove Q 18 [some (.inr (.inl (some 0))), some (.inl p), some (.inl k), some (.inl i)] [] (rw_cs (rK, rL, rT, rS, rn, rc, rw)) :=
  ab_R.steps [5, 13, 18, 61] 18 (show ((ab_r i ∧ ab_r rn) ∧ ((rn ≤ i → ab_cl sp_X1_closeChunk [.inr (.inl (some 0)), .inl k] (rw_cs (rK, rL, rT, rS, (rn - 1), rc, rw)) (fun r_ k_ => k_.length = ((rw_cs (rK, rL, rT, rS, (rn - 1), rc, rw))).length → ab_R E_X1_remove P_X1_remove Q 61 [some (.inr (.inl (some 0))), some (.inl p), some (.inl k), some (.inl i)] (ab_ret r_ []) k_)) ∧ (i < rn → ((0 ≤ i ∧ i < 60) ∧ ((0 ≤ (i - 1) ∧ (i - 1) < 60) ∧ ab_R E_X1_remove P_X1_remove Q 18 [some (.inr (.inl (some 0))), some (.inl p), some (.inl k), some (.inl (i + 1))] [] (rw_cs ((ab_up rK (i - 1) (rK i)), rL, rT, rS, rn, rc, rw))))))) from ⟨p1, ⟨fun h1 => ⟨_, (l1 h1), fun r_ k_ hz _ => by obtain ⟨r', rfl, rfl, hR⟩ := hz; exact hR⟩, fun h2 => ⟨(p2 h2), ⟨(p3 h2), (l2 h2)⟩⟩⟩⟩)
set_option maxRecDepth 100000 in
theorem b_X1_remove_61 {Q : ab_Q} {p : Int} {k : Int} {i : Int} {rK : Int → Int} {rL : Int → Int} {rT : Int → Int} {rS : Int → Int} {rn : Int} {rc : Int} {rw : Int} (l1 : Q none (rw_cs (rK, rL, rT, rS, rn, rc, rw)))  : ab_R E_X1_remove P_X1_remove Q 61 [some (.inr (.inl (some 0))), some (.inl p), some (.inl k), some (.inl i)] [] (rw_cs (rK, rL, rT, rS, rn, rc, rw)) :=
  ab_R.steps [5, 13, 18, 61] 2 (show Q none (rw_cs (rK, rL, rT, rS, rn, rc, rw)) from l1)
def P_X1_replace : List ab_I := [(0, .aload_n 0, 1, []), (1, .iload_n 1, 2, []), (2, .invokevirtual 40, 5, []), (5, .istore_n 3, 6, []), (6, .aload_n 0, 7, []), (7, .iload_n 3, 8, []), (8, .aload_n 0, 9, []), (9, .iload_n 3, 10, []), (10, .invokevirtual 44, 13, []), (13, .invokevirtual 64, 16, []), (16, .aload_n 0, 17, []), (17, .getfield 9, 20, []), (20, .iload_n 1, 21, []), (21, .iload_n 2, 22, []), (22, .iastore, 23, []), (23, .aload_n 0, 24, []), (24, .dup, 25, []), (25, .getfield 31, 28, []), (28, .iconst 1, 29, []), (29, .iadd, 30, []), (30, .putfield 31, 33, []), (33, .return_, 34, [])]
def E_X1_replace : ab_E := (T_X1, [(2, (2, 1, [], 0, sp_X1_chunkHolding)), (10, (2, 1, [], 0, sp_X1_startOf)), (13, (3, 1, [], 0, sp_X1_settle))], [], 9)
def M_X1_replace : List (Nat × ab_MI) := [(2, mi_X1_chunkHolding), (10, mi_X1_startOf), (13, mi_X1_settle)]
def mi_X1_replace : ab_MI := (yX1_replace, cX1_replace, 4, ab_rty 9, 3, 119)
theorem pk_X1_replace : P_X1_replace.all (ab_okI cX1_replace) = true := by decide +kernel
theorem ck_X1_replace : P_X1_replace.all (ab_okC1 "RootChunks$Row" M_X1_replace E_X1_replace (3, 119)) = true := by decide +kernel
set_option maxRecDepth 100000 in
theorem b_X1_replace_0 {Q : ab_Q} {p : Int} {v : Int} {rK : Int → Int} {rL : Int → Int} {rT : Int → Int} {rS : Int → Int} {rn : Int} {rc : Int} {rw : Int} (l1 : sp_X1_chunkHolding [.inr (.inl (some 0)), .inl p] (rw_cs (rK, rL, rT, rS, rn, rc, rw)) (fun r_ k_ => ∃ (x_ : Int), r_ = some (.inl x_) ∧ k_ = (rw_cs (rK, rL, rT, rS, rn, rc, rw)) ∧ ab_R E_X1_replace P_X1_replace Q 5 [some (.inr (.inl (some 0))), some (.inl p), some (.inl v), none] [.inl x_] (rw_cs (rK, rL, rT, rS, rn, rc, rw))))  : ab_R E_X1_replace P_X1_replace Q 0 [some (.inr (.inl (some 0))), some (.inl p), some (.inl v), none] [] (rw_cs (rK, rL, rT, rS, rn, rc, rw)) :=
  ab_R.steps [5, 13, 16] 4 (show ab_cl sp_X1_chunkHolding [.inr (.inl (some 0)), .inl p] (rw_cs (rK, rL, rT, rS, rn, rc, rw)) (fun r_ k_ => k_.length = ((rw_cs (rK, rL, rT, rS, rn, rc, rw))).length → ab_R E_X1_replace P_X1_replace Q 5 [some (.inr (.inl (some 0))), some (.inl p), some (.inl v), none] (ab_ret r_ []) k_) from ⟨_, l1, fun r_ k_ hz _ => by obtain ⟨x_, rfl, rfl, hR⟩ := hz; exact hR⟩)
set_option maxRecDepth 100000 in
theorem b_X1_replace_5 {Q : ab_Q} {p : Int} {v : Int} {t0 : Int} {rK : Int → Int} {rL : Int → Int} {rT : Int → Int} {rS : Int → Int} {rn : Int} {rc : Int} {rw : Int} (l1 : sp_X1_startOf [.inr (.inl (some 0)), .inl t0] (rw_cs (rK, rL, rT, rS, rn, rc, rw)) (fun r_ k_ => ∃ (x_ : Int), r_ = some (.inl x_) ∧ k_ = (rw_cs (rK, rL, rT, rS, rn, rc, rw)) ∧ ab_R E_X1_replace P_X1_replace Q 13 [some (.inr (.inl (some 0))), some (.inl p), some (.inl v), some (.inl t0)] [.inl x_, .inl t0, .inr (.inl (some 0))] (rw_cs (rK, rL, rT, rS, rn, rc, rw))))  : ab_R E_X1_replace P_X1_replace Q 5 [some (.inr (.inl (some 0))), some (.inl p), some (.inl v), none] [.inl t0] (rw_cs (rK, rL, rT, rS, rn, rc, rw)) :=
  ab_R.steps [5, 13, 16] 7 (show ab_cl sp_X1_startOf [.inr (.inl (some 0)), .inl t0] (rw_cs (rK, rL, rT, rS, rn, rc, rw)) (fun r_ k_ => k_.length = ((rw_cs (rK, rL, rT, rS, rn, rc, rw))).length → ab_R E_X1_replace P_X1_replace Q 13 [some (.inr (.inl (some 0))), some (.inl p), some (.inl v), some (.inl t0)] (ab_ret r_ [.inl t0, .inr (.inl (some 0))]) k_) from ⟨_, l1, fun r_ k_ hz _ => by obtain ⟨x_, rfl, rfl, hR⟩ := hz; exact hR⟩)
set_option maxRecDepth 100000 in
theorem b_X1_replace_13 {Q : ab_Q} {p : Int} {v : Int} {k : Int} {t0 : Int} {t1 : Int} {rK : Int → Int} {rL : Int → Int} {rT : Int → Int} {rS : Int → Int} {rn : Int} {rc : Int} {rw : Int} (l1 : sp_X1_settle [.inr (.inl (some 0)), .inl t1, .inl t0] (rw_cs (rK, rL, rT, rS, rn, rc, rw)) (fun r_ k_ => ∃ (r' : rw_T), r_ = none ∧ k_ = (rw_cs r') ∧ ab_R E_X1_replace P_X1_replace Q 16 [some (.inr (.inl (some 0))), some (.inl p), some (.inl v), some (.inl k)] [] (rw_cs r')))  : ab_R E_X1_replace P_X1_replace Q 13 [some (.inr (.inl (some 0))), some (.inl p), some (.inl v), some (.inl k)] [.inl t0, .inl t1, .inr (.inl (some 0))] (rw_cs (rK, rL, rT, rS, rn, rc, rw)) :=
  ab_R.steps [5, 13, 16] 2 (show ab_cl sp_X1_settle [.inr (.inl (some 0)), .inl t1, .inl t0] (rw_cs (rK, rL, rT, rS, rn, rc, rw)) (fun r_ k_ => k_.length = ((rw_cs (rK, rL, rT, rS, rn, rc, rw))).length → ab_R E_X1_replace P_X1_replace Q 16 [some (.inr (.inl (some 0))), some (.inl p), some (.inl v), some (.inl k)] (ab_ret r_ []) k_) from ⟨_, l1, fun r_ k_ hz _ => by obtain ⟨r', rfl, rfl, hR⟩ := hz; exact hR⟩)
set_option maxRecDepth 100000 in
theorem b_X1_replace_16 {Q : ab_Q} {p : Int} {v : Int} {k : Int} {rK : Int → Int} {rL : Int → Int} {rT : Int → Int} {rS : Int → Int} {rn : Int} {rc : Int} {rw : Int} (l1 : Q none (rw_cs ((ab_up rK p v), rL, rT, rS, rn, rc, (rw + 1)))) (p1 : (0 ≤ p ∧ p < 60) := by intros; (try unfold ab_r); omega) : ab_R E_X1_replace P_X1_replace Q 16 [some (.inr (.inl (some 0))), some (.inl p), some (.inl v), some (.inl k)] [] (rw_cs (rK, rL, rT, rS, rn, rc, rw)) :=
  ab_R.steps [5, 13, 16] 13 (show ((0 ≤ p ∧ p < 60) ∧ Q none (rw_cs ((ab_up rK p v), rL, rT, rS, rn, rc, (rw + 1)))) from ⟨p1, l1⟩)
def P_X1_reverseChunks : List ab_I := [(0, .aload_n 0, 1, []), (1, .getfield 9, 4, []), (4, .aload_n 0, 5, []), (5, .iload_n 1, 6, []), (6, .invokevirtual 44, 9, []), (9, .aload_n 0, 10, []), (10, .iload_n 2, 11, []), (11, .invokevirtual 44, 14, []), (14, .invokestatic 77, 17, []), (17, .aload_n 0, 18, []), (18, .getfield 15, 21, []), (21, .iload_n 1, 22, []), (22, .iload_n 2, 23, []), (23, .invokestatic 77, 26, []), (26, .aload_n 0, 27, []), (27, .getfield 18, 30, []), (30, .iload_n 1, 31, []), (31, .iload_n 2, 32, []), (32, .invokestatic 77, 35, []), (35, .aload_n 0, 36, []), (36, .getfield 21, 39, []), (39, .iload_n 1, 40, []), (40, .iload_n 2, 41, []), (41, .invokestatic 77, 44, []), (44, .aload_n 0, 45, []), (45, .iload_n 1, 46, []), (46, .invokevirtual 44, 49, []), (49, .istore_n 3, 50, []), (50, .iload_n 1, 51, []), (51, .istore 4, 53, []), (53, .iload 4, 55, []), (55, .iload_n 2, 56, []), (56, .if_icmp .ge 36, 59, [((0 : Int), 92)]), (59, .aload_n 0, 60, []), (60, .getfield 9, 63, []), (63, .iload_n 3, 64, []), (64, .iload_n 3, 65, []), (65, .aload_n 0, 66, []), (66, .getfield 15, 69, []), (69, .iload 4, 71, []), (71, .iaload, 72, []), (72, .iadd, 73, []), (73, .invokestatic 77, 76, []), (76, .iload_n 3, 77, []), (77, .aload_n 0, 78, []), (78, .getfield 15, 81, []), (81, .iload 4, 83, []), (83, .iaload, 84, []), (84, .iadd, 85, []), (85, .istore_n 3, 86, []), (86, .iinc 4 1, 89, []), (89, .goto (-36), 92, [((0 : Int), 53)]), (92, .return_, 93, [])]
def E_X1_reverseChunks : ab_E := (T_X1, [(6, (2, 1, [], 0, sp_X1_startOf)), (11, (2, 1, [], 0, sp_X1_startOf)), (14, (3, 99, [1], 1, sp_X1_mirror)), (23, (3, 99, [2], 1, sp_X1_mirror)), (32, (3, 99, [3], 1, sp_X1_mirror)), (41, (3, 99, [4], 1, sp_X1_mirror)), (46, (2, 1, [], 0, sp_X1_startOf)), (73, (3, 99, [1], 1, sp_X1_mirror))], [], 9)
def M_X1_reverseChunks : List (Nat × ab_MI) := [(6, mi_X1_startOf), (11, mi_X1_startOf), (14, mi_X1_mirror), (23, mi_X1_mirror), (32, mi_X1_mirror), (41, mi_X1_mirror), (46, mi_X1_startOf), (73, mi_X1_mirror)]
def mi_X1_reverseChunks : ab_MI := (yX1_reverseChunks, cX1_reverseChunks, 5, ab_rty 9, 2, 95)
theorem pk_X1_reverseChunks : P_X1_reverseChunks.all (ab_okI cX1_reverseChunks) = true := by decide +kernel
theorem ck_X1_reverseChunks : P_X1_reverseChunks.all (ab_okC1 "RootChunks$Row" M_X1_reverseChunks E_X1_reverseChunks (2, 95)) = true := by decide +kernel
set_option maxRecDepth 100000 in
theorem b_X1_reverseChunks_0 {Q : ab_Q} {a : Int} {b : Int} {rK : Int → Int} {rL : Int → Int} {rT : Int → Int} {rS : Int → Int} {rn : Int} {rc : Int} {rw : Int} (l1 : sp_X1_startOf [.inr (.inl (some 0)), .inl a] (rw_cs (rK, rL, rT, rS, rn, rc, rw)) (fun r_ k_ => ∃ (x_ : Int), r_ = some (.inl x_) ∧ k_ = (rw_cs (rK, rL, rT, rS, rn, rc, rw)) ∧ ab_R E_X1_reverseChunks P_X1_reverseChunks Q 9 [some (.inr (.inl (some 0))), some (.inl a), some (.inl b), none, none] [.inl x_, .inr (.inl (some 1))] (rw_cs (rK, rL, rT, rS, rn, rc, rw))))  : ab_R E_X1_reverseChunks P_X1_reverseChunks Q 0 [some (.inr (.inl (some 0))), some (.inl a), some (.inl b), none, none] [] (rw_cs (rK, rL, rT, rS, rn, rc, rw)) :=
  ab_R.steps [9, 14, 17, 26, 35, 44, 49, 53, 76] 6 (show ab_cl sp_X1_startOf [.inr (.inl (some 0)), .inl a] (rw_cs (rK, rL, rT, rS, rn, rc, rw)) (fun r_ k_ => k_.length = ((rw_cs (rK, rL, rT, rS, rn, rc, rw))).length → ab_R E_X1_reverseChunks P_X1_reverseChunks Q 9 [some (.inr (.inl (some 0))), some (.inl a), some (.inl b), none, none] (ab_ret r_ [.inr (.inl (some 1))]) k_) from ⟨_, l1, fun r_ k_ hz _ => by obtain ⟨x_, rfl, rfl, hR⟩ := hz; exact hR⟩)
set_option maxRecDepth 100000 in
theorem b_X1_reverseChunks_9 {Q : ab_Q} {a : Int} {b : Int} {t0 : Int} {rK : Int → Int} {rL : Int → Int} {rT : Int → Int} {rS : Int → Int} {rn : Int} {rc : Int} {rw : Int} (l1 : sp_X1_startOf [.inr (.inl (some 0)), .inl b] (rw_cs (rK, rL, rT, rS, rn, rc, rw)) (fun r_ k_ => ∃ (x_ : Int), r_ = some (.inl x_) ∧ k_ = (rw_cs (rK, rL, rT, rS, rn, rc, rw)) ∧ ab_R E_X1_reverseChunks P_X1_reverseChunks Q 14 [some (.inr (.inl (some 0))), some (.inl a), some (.inl b), none, none] [.inl x_, .inl t0, .inr (.inl (some 1))] (rw_cs (rK, rL, rT, rS, rn, rc, rw))))  : ab_R E_X1_reverseChunks P_X1_reverseChunks Q 9 [some (.inr (.inl (some 0))), some (.inl a), some (.inl b), none, none] [.inl t0, .inr (.inl (some 1))] (rw_cs (rK, rL, rT, rS, rn, rc, rw)) :=
  ab_R.steps [9, 14, 17, 26, 35, 44, 49, 53, 76] 4 (show ab_cl sp_X1_startOf [.inr (.inl (some 0)), .inl b] (rw_cs (rK, rL, rT, rS, rn, rc, rw)) (fun r_ k_ => k_.length = ((rw_cs (rK, rL, rT, rS, rn, rc, rw))).length → ab_R E_X1_reverseChunks P_X1_reverseChunks Q 14 [some (.inr (.inl (some 0))), some (.inl a), some (.inl b), none, none] (ab_ret r_ [.inl t0, .inr (.inl (some 1))]) k_) from ⟨_, l1, fun r_ k_ hz _ => by obtain ⟨x_, rfl, rfl, hR⟩ := hz; exact hR⟩)
set_option maxRecDepth 100000 in
theorem b_X1_reverseChunks_14 {Q : ab_Q} {a : Int} {b : Int} {t0 : Int} {t1 : Int} {rK : Int → Int} {rL : Int → Int} {rT : Int → Int} {rS : Int → Int} {rn : Int} {rc : Int} {rw : Int} (l1 : sp_X1_mirror [.inr (.inl (some 0)), .inl t1, .inl t0] (ar_cs rK) (fun r_ k_ => ∃ (f' : Int → Int), r_ = none ∧ k_ = (ar_cs (f')) ∧ ab_R E_X1_reverseChunks P_X1_reverseChunks Q 17 [some (.inr (.inl (some 0))), some (.inl a), some (.inl b), none, none] [] (rw_cs (f', rL, rT, rS, rn, rc, rw))))  : ab_R E_X1_reverseChunks P_X1_reverseChunks Q 14 [some (.inr (.inl (some 0))), some (.inl a), some (.inl b), none, none] [.inl t0, .inl t1, .inr (.inl (some 1))] (rw_cs (rK, rL, rT, rS, rn, rc, rw)) :=
  ab_R.steps [9, 14, 17, 26, 35, 44, 49, 53, 76] 2 (show ab_cl sp_X1_mirror [.inr (.inl (some 0)), .inl t1, .inl t0] (ar_cs rK) (fun r_ k_ => k_.length = 1 → ab_R E_X1_reverseChunks P_X1_reverseChunks Q 17 [some (.inr (.inl (some 0))), some (.inl a), some (.inl b), none, none] (ab_ret (r_.map (ab_reV [1])) []) (ab_back [1] [1] k_ (rw_cs (rK, rL, rT, rS, rn, rc, rw)))) from ⟨_, l1, fun r_ k_ hz _ => by obtain ⟨f', rfl, rfl, hR⟩ := hz; exact hR⟩)
set_option maxRecDepth 100000 in
theorem b_X1_reverseChunks_17 {Q : ab_Q} {a : Int} {b : Int} {rK : Int → Int} {rL : Int → Int} {rT : Int → Int} {rS : Int → Int} {rn : Int} {rc : Int} {rw : Int} (l1 : sp_X1_mirror [.inr (.inl (some 0)), .inl a, .inl b] (ar_cs rL) (fun r_ k_ => ∃ (f' : Int → Int), r_ = none ∧ k_ = (ar_cs (f')) ∧ ab_R E_X1_reverseChunks P_X1_reverseChunks Q 26 [some (.inr (.inl (some 0))), some (.inl a), some (.inl b), none, none] [] (rw_cs (rK, f', rT, rS, rn, rc, rw))))  : ab_R E_X1_reverseChunks P_X1_reverseChunks Q 17 [some (.inr (.inl (some 0))), some (.inl a), some (.inl b), none, none] [] (rw_cs (rK, rL, rT, rS, rn, rc, rw)) :=
  ab_R.steps [9, 14, 17, 26, 35, 44, 49, 53, 76] 6 (show ab_cl sp_X1_mirror [.inr (.inl (some 0)), .inl a, .inl b] (ar_cs rL) (fun r_ k_ => k_.length = 1 → ab_R E_X1_reverseChunks P_X1_reverseChunks Q 26 [some (.inr (.inl (some 0))), some (.inl a), some (.inl b), none, none] (ab_ret (r_.map (ab_reV [2])) []) (ab_back [2] [2] k_ (rw_cs (rK, rL, rT, rS, rn, rc, rw)))) from ⟨_, l1, fun r_ k_ hz _ => by obtain ⟨f', rfl, rfl, hR⟩ := hz; exact hR⟩)
set_option maxRecDepth 100000 in
theorem b_X1_reverseChunks_26 {Q : ab_Q} {a : Int} {b : Int} {rK : Int → Int} {rL : Int → Int} {rT : Int → Int} {rS : Int → Int} {rn : Int} {rc : Int} {rw : Int} (l1 : sp_X1_mirror [.inr (.inl (some 0)), .inl a, .inl b] (ar_cs rT) (fun r_ k_ => ∃ (f' : Int → Int), r_ = none ∧ k_ = (ar_cs (f')) ∧ ab_R E_X1_reverseChunks P_X1_reverseChunks Q 35 [some (.inr (.inl (some 0))), some (.inl a), some (.inl b), none, none] [] (rw_cs (rK, rL, f', rS, rn, rc, rw))))  : ab_R E_X1_reverseChunks P_X1_reverseChunks Q 26 [some (.inr (.inl (some 0))), some (.inl a), some (.inl b), none, none] [] (rw_cs (rK, rL, rT, rS, rn, rc, rw)) :=
  ab_R.steps [9, 14, 17, 26, 35, 44, 49, 53, 76] 6 (show ab_cl sp_X1_mirror [.inr (.inl (some 0)), .inl a, .inl b] (ar_cs rT) (fun r_ k_ => k_.length = 1 → ab_R E_X1_reverseChunks P_X1_reverseChunks Q 35 [some (.inr (.inl (some 0))), some (.inl a), some (.inl b), none, none] (ab_ret (r_.map (ab_reV [3])) []) (ab_back [3] [3] k_ (rw_cs (rK, rL, rT, rS, rn, rc, rw)))) from ⟨_, l1, fun r_ k_ hz _ => by obtain ⟨f', rfl, rfl, hR⟩ := hz; exact hR⟩)
set_option maxRecDepth 100000 in
theorem b_X1_reverseChunks_35 {Q : ab_Q} {a : Int} {b : Int} {rK : Int → Int} {rL : Int → Int} {rT : Int → Int} {rS : Int → Int} {rn : Int} {rc : Int} {rw : Int} (l1 : sp_X1_mirror [.inr (.inl (some 0)), .inl a, .inl b] (ar_cs rS) (fun r_ k_ => ∃ (f' : Int → Int), r_ = none ∧ k_ = (ar_cs (f')) ∧ ab_R E_X1_reverseChunks P_X1_reverseChunks Q 44 [some (.inr (.inl (some 0))), some (.inl a), some (.inl b), none, none] [] (rw_cs (rK, rL, rT, f', rn, rc, rw))))  : ab_R E_X1_reverseChunks P_X1_reverseChunks Q 35 [some (.inr (.inl (some 0))), some (.inl a), some (.inl b), none, none] [] (rw_cs (rK, rL, rT, rS, rn, rc, rw)) :=
  ab_R.steps [9, 14, 17, 26, 35, 44, 49, 53, 76] 6 (show ab_cl sp_X1_mirror [.inr (.inl (some 0)), .inl a, .inl b] (ar_cs rS) (fun r_ k_ => k_.length = 1 → ab_R E_X1_reverseChunks P_X1_reverseChunks Q 44 [some (.inr (.inl (some 0))), some (.inl a), some (.inl b), none, none] (ab_ret (r_.map (ab_reV [4])) []) (ab_back [4] [4] k_ (rw_cs (rK, rL, rT, rS, rn, rc, rw)))) from ⟨_, l1, fun r_ k_ hz _ => by obtain ⟨f', rfl, rfl, hR⟩ := hz; exact hR⟩)
set_option maxRecDepth 100000 in
theorem b_X1_reverseChunks_44 {Q : ab_Q} {a : Int} {b : Int} {rK : Int → Int} {rL : Int → Int} {rT : Int → Int} {rS : Int → Int} {rn : Int} {rc : Int} {rw : Int} (l1 : sp_X1_startOf [.inr (.inl (some 0)), .inl a] (rw_cs (rK, rL, rT, rS, rn, rc, rw)) (fun r_ k_ => ∃ (x_ : Int), r_ = some (.inl x_) ∧ k_ = (rw_cs (rK, rL, rT, rS, rn, rc, rw)) ∧ ab_R E_X1_reverseChunks P_X1_reverseChunks Q 49 [some (.inr (.inl (some 0))), some (.inl a), some (.inl b), none, none] [.inl x_] (rw_cs (rK, rL, rT, rS, rn, rc, rw))))  : ab_R E_X1_reverseChunks P_X1_reverseChunks Q 44 [some (.inr (.inl (some 0))), some (.inl a), some (.inl b), none, none] [] (rw_cs (rK, rL, rT, rS, rn, rc, rw)) :=
  ab_R.steps [9, 14, 17, 26, 35, 44, 49, 53, 76] 4 (show ab_cl sp_X1_startOf [.inr (.inl (some 0)), .inl a] (rw_cs (rK, rL, rT, rS, rn, rc, rw)) (fun r_ k_ => k_.length = ((rw_cs (rK, rL, rT, rS, rn, rc, rw))).length → ab_R E_X1_reverseChunks P_X1_reverseChunks Q 49 [some (.inr (.inl (some 0))), some (.inl a), some (.inl b), none, none] (ab_ret r_ []) k_) from ⟨_, l1, fun r_ k_ hz _ => by obtain ⟨x_, rfl, rfl, hR⟩ := hz; exact hR⟩)
set_option maxRecDepth 100000 in
theorem b_X1_reverseChunks_49 {Q : ab_Q} {a : Int} {b : Int} {t0 : Int} {rK : Int → Int} {rL : Int → Int} {rT : Int → Int} {rS : Int → Int} {rn : Int} {rc : Int} {rw : Int} (l1 : ab_R E_X1_reverseChunks P_X1_reverseChunks Q 53 [some (.inr (.inl (some 0))), some (.inl a), some (.inl b), some (.inl t0), some (.inl a)] [] (rw_cs (rK, rL, rT, rS, rn, rc, rw)))  : ab_R E_X1_reverseChunks P_X1_reverseChunks Q 49 [some (.inr (.inl (some 0))), some (.inl a), some (.inl b), none, none] [.inl t0] (rw_cs (rK, rL, rT, rS, rn, rc, rw)) :=
  ab_R.steps [9, 14, 17, 26, 35, 44, 49, 53, 76] 5 (show ab_R E_X1_reverseChunks P_X1_reverseChunks Q 53 [some (.inr (.inl (some 0))), some (.inl a), some (.inl b), some (.inl t0), some (.inl a)] [] (rw_cs (rK, rL, rT, rS, rn, rc, rw)) from l1)
set_option maxRecDepth 100000 in
theorem b_X1_reverseChunks_53 {Q : ab_Q} {a : Int} {b : Int} {st : Int} {c : Int} {rK : Int → Int} {rL : Int → Int} {rT : Int → Int} {rS : Int → Int} {rn : Int} {rc : Int} {rw : Int} (l1 : b ≤ c → Q none (rw_cs (rK, rL, rT, rS, rn, rc, rw))) (l2 : c < b → sp_X1_mirror [.inr (.inl (some 0)), .inl st, .inl (st + (rL c))] (ar_cs rK) (fun r_ k_ => ∃ (f' : Int → Int), r_ = none ∧ k_ = (ar_cs (f')) ∧ ab_R E_X1_reverseChunks P_X1_reverseChunks Q 76 [some (.inr (.inl (some 0))), some (.inl a), some (.inl b), some (.inl st), some (.inl c)] [] (rw_cs (f', rL, rT, rS, rn, rc, rw)))) (p1 : (ab_r c ∧ ab_r b) := by intros; (try unfold ab_r); omega) (p2 : c < b → (0 ≤ c ∧ c < 60) := by intros; (try unfold ab_r); omega) : ab_R E_X1_reverseChunks P_X1_reverseChunks Q 53 [some (.inr (.inl (some 0))), some (.inl a), some (.inl b), some (.inl st), some (.inl c)] [] (rw_cs (rK, rL, rT, rS, rn, rc, rw)) :=
  ab_R.steps [9, 14, 17, 26, 35, 44, 49, 53, 76] 14 (show ((ab_r c ∧ ab_r b) ∧ ((b ≤ c → Q none (rw_cs (rK, rL, rT, rS, rn, rc, rw))) ∧ (c < b → ((0 ≤ c ∧ c < 60) ∧ ab_cl sp_X1_mirror [.inr (.inl (some 0)), .inl st, .inl (st + (rL c))] (ar_cs rK) (fun r_ k_ => k_.length = 1 → ab_R E_X1_reverseChunks P_X1_reverseChunks Q 76 [some (.inr (.inl (some 0))), some (.inl a), some (.inl b), some (.inl st), some (.inl c)] (ab_ret (r_.map (ab_reV [1])) []) (ab_back [1] [1] k_ (rw_cs (rK, rL, rT, rS, rn, rc, rw)))))))) from ⟨p1, ⟨fun h1 => (l1 h1), fun h2 => ⟨(p2 h2), ⟨_, (l2 h2), fun r_ k_ hz _ => by obtain ⟨f', rfl, rfl, hR⟩ := hz; exact hR⟩⟩⟩⟩)
set_option maxRecDepth 100000 in
theorem b_X1_reverseChunks_76 {Q : ab_Q} {a : Int} {b : Int} {st : Int} {c : Int} {rK : Int → Int} {rL : Int → Int} {rT : Int → Int} {rS : Int → Int} {rn : Int} {rc : Int} {rw : Int} (l1 : ab_R E_X1_reverseChunks P_X1_reverseChunks Q 53 [some (.inr (.inl (some 0))), some (.inl a), some (.inl b), some (.inl (st + (rL c))), some (.inl (c + 1))] [] (rw_cs (rK, rL, rT, rS, rn, rc, rw))) (p1 : (0 ≤ c ∧ c < 60) := by intros; (try unfold ab_r); omega) : ab_R E_X1_reverseChunks P_X1_reverseChunks Q 76 [some (.inr (.inl (some 0))), some (.inl a), some (.inl b), some (.inl st), some (.inl c)] [] (rw_cs (rK, rL, rT, rS, rn, rc, rw)) :=
  ab_R.steps [9, 14, 17, 26, 35, 44, 49, 53, 76] 11 (show ((0 ≤ c ∧ c < 60) ∧ ab_R E_X1_reverseChunks P_X1_reverseChunks Q 53 [some (.inr (.inl (some 0))), some (.inl a), some (.inl b), some (.inl (st + (rL c))), some (.inl (c + 1))] [] (rw_cs (rK, rL, rT, rS, rn, rc, rw))) from ⟨p1, l1⟩)
def P_X1_exchangeChunks : List ab_I := [(0, .aload_n 0, 1, []), (1, .iload_n 1, 2, []), (2, .iload_n 2, 3, []), (3, .invokevirtual 67, 6, []), (6, .aload_n 0, 7, []), (7, .iload_n 2, 8, []), (8, .iload_n 3, 9, []), (9, .invokevirtual 67, 12, []), (12, .aload_n 0, 13, []), (13, .iload_n 1, 14, []), (14, .iload_n 3, 15, []), (15, .invokevirtual 67, 18, []), (18, .return_, 19, [])]
def E_X1_exchangeChunks : ab_E := (T_X1, [(3, (3, 1, [], 0, sp_X1_reverseChunks)), (9, (3, 1, [], 0, sp_X1_reverseChunks)), (15, (3, 1, [], 0, sp_X1_reverseChunks))], [], 9)
def M_X1_exchangeChunks : List (Nat × ab_MI) := [(3, mi_X1_reverseChunks), (9, mi_X1_reverseChunks), (15, mi_X1_reverseChunks)]
def mi_X1_exchangeChunks : ab_MI := (yX1_exchangeChunks, cX1_exchangeChunks, 4, ab_rty 9, 3, 119)
theorem pk_X1_exchangeChunks : P_X1_exchangeChunks.all (ab_okI cX1_exchangeChunks) = true := by decide +kernel
theorem ck_X1_exchangeChunks : P_X1_exchangeChunks.all (ab_okC1 "RootChunks$Row" M_X1_exchangeChunks E_X1_exchangeChunks (3, 119)) = true := by decide +kernel
set_option maxRecDepth 100000 in
theorem b_X1_exchangeChunks_0 {Q : ab_Q} {a : Int} {m : Int} {b : Int} {rK : Int → Int} {rL : Int → Int} {rT : Int → Int} {rS : Int → Int} {rn : Int} {rc : Int} {rw : Int} (l1 : sp_X1_reverseChunks [.inr (.inl (some 0)), .inl a, .inl m] (rw_cs (rK, rL, rT, rS, rn, rc, rw)) (fun r_ k_ => ∃ (r' : rw_T), r_ = none ∧ k_ = (rw_cs r') ∧ ab_R E_X1_exchangeChunks P_X1_exchangeChunks Q 6 [some (.inr (.inl (some 0))), some (.inl a), some (.inl m), some (.inl b)] [] (rw_cs r')))  : ab_R E_X1_exchangeChunks P_X1_exchangeChunks Q 0 [some (.inr (.inl (some 0))), some (.inl a), some (.inl m), some (.inl b)] [] (rw_cs (rK, rL, rT, rS, rn, rc, rw)) :=
  ab_R.steps [6, 12, 18] 5 (show ab_cl sp_X1_reverseChunks [.inr (.inl (some 0)), .inl a, .inl m] (rw_cs (rK, rL, rT, rS, rn, rc, rw)) (fun r_ k_ => k_.length = ((rw_cs (rK, rL, rT, rS, rn, rc, rw))).length → ab_R E_X1_exchangeChunks P_X1_exchangeChunks Q 6 [some (.inr (.inl (some 0))), some (.inl a), some (.inl m), some (.inl b)] (ab_ret r_ []) k_) from ⟨_, l1, fun r_ k_ hz _ => by obtain ⟨r', rfl, rfl, hR⟩ := hz; exact hR⟩)
set_option maxRecDepth 100000 in
theorem b_X1_exchangeChunks_6 {Q : ab_Q} {a : Int} {m : Int} {b : Int} {rK : Int → Int} {rL : Int → Int} {rT : Int → Int} {rS : Int → Int} {rn : Int} {rc : Int} {rw : Int} (l1 : sp_X1_reverseChunks [.inr (.inl (some 0)), .inl m, .inl b] (rw_cs (rK, rL, rT, rS, rn, rc, rw)) (fun r_ k_ => ∃ (r' : rw_T), r_ = none ∧ k_ = (rw_cs r') ∧ ab_R E_X1_exchangeChunks P_X1_exchangeChunks Q 12 [some (.inr (.inl (some 0))), some (.inl a), some (.inl m), some (.inl b)] [] (rw_cs r')))  : ab_R E_X1_exchangeChunks P_X1_exchangeChunks Q 6 [some (.inr (.inl (some 0))), some (.inl a), some (.inl m), some (.inl b)] [] (rw_cs (rK, rL, rT, rS, rn, rc, rw)) :=
  ab_R.steps [6, 12, 18] 5 (show ab_cl sp_X1_reverseChunks [.inr (.inl (some 0)), .inl m, .inl b] (rw_cs (rK, rL, rT, rS, rn, rc, rw)) (fun r_ k_ => k_.length = ((rw_cs (rK, rL, rT, rS, rn, rc, rw))).length → ab_R E_X1_exchangeChunks P_X1_exchangeChunks Q 12 [some (.inr (.inl (some 0))), some (.inl a), some (.inl m), some (.inl b)] (ab_ret r_ []) k_) from ⟨_, l1, fun r_ k_ hz _ => by obtain ⟨r', rfl, rfl, hR⟩ := hz; exact hR⟩)
set_option maxRecDepth 100000 in
theorem b_X1_exchangeChunks_12 {Q : ab_Q} {a : Int} {m : Int} {b : Int} {rK : Int → Int} {rL : Int → Int} {rT : Int → Int} {rS : Int → Int} {rn : Int} {rc : Int} {rw : Int} (l1 : sp_X1_reverseChunks [.inr (.inl (some 0)), .inl a, .inl b] (rw_cs (rK, rL, rT, rS, rn, rc, rw)) (fun r_ k_ => ∃ (r' : rw_T), r_ = none ∧ k_ = (rw_cs r') ∧ ab_R E_X1_exchangeChunks P_X1_exchangeChunks Q 18 [some (.inr (.inl (some 0))), some (.inl a), some (.inl m), some (.inl b)] [] (rw_cs r')))  : ab_R E_X1_exchangeChunks P_X1_exchangeChunks Q 12 [some (.inr (.inl (some 0))), some (.inl a), some (.inl m), some (.inl b)] [] (rw_cs (rK, rL, rT, rS, rn, rc, rw)) :=
  ab_R.steps [6, 12, 18] 5 (show ab_cl sp_X1_reverseChunks [.inr (.inl (some 0)), .inl a, .inl b] (rw_cs (rK, rL, rT, rS, rn, rc, rw)) (fun r_ k_ => k_.length = ((rw_cs (rK, rL, rT, rS, rn, rc, rw))).length → ab_R E_X1_exchangeChunks P_X1_exchangeChunks Q 18 [some (.inr (.inl (some 0))), some (.inl a), some (.inl m), some (.inl b)] (ab_ret r_ []) k_) from ⟨_, l1, fun r_ k_ hz _ => by obtain ⟨r', rfl, rfl, hR⟩ := hz; exact hR⟩)
set_option maxRecDepth 100000 in
theorem b_X1_exchangeChunks_18 {Q : ab_Q} {a : Int} {m : Int} {b : Int} {rK : Int → Int} {rL : Int → Int} {rT : Int → Int} {rS : Int → Int} {rn : Int} {rc : Int} {rw : Int} (l1 : Q none (rw_cs (rK, rL, rT, rS, rn, rc, rw)))  : ab_R E_X1_exchangeChunks P_X1_exchangeChunks Q 18 [some (.inr (.inl (some 0))), some (.inl a), some (.inl m), some (.inl b)] [] (rw_cs (rK, rL, rT, rS, rn, rc, rw)) :=
  ab_R.steps [6, 12, 18] 2 (show Q none (rw_cs (rK, rL, rT, rS, rn, rc, rw)) from l1)
def P_X1_turnSpan : List ab_I := [(0, .aload_n 0, 1, []), (1, .iload_n 1, 2, []), (2, .invokevirtual 53, 5, []), (5, .istore_n 3, 6, []), (6, .aload_n 0, 7, []), (7, .iload_n 2, 8, []), (8, .iconst 1, 9, []), (9, .iadd, 10, []), (10, .invokevirtual 53, 13, []), (13, .istore 4, 15, []), (15, .aload_n 0, 16, []), (16, .iload_n 3, 17, []), (17, .iload 4, 19, []), (19, .invokevirtual 67, 22, []), (22, .iload_n 3, 23, []), (23, .istore 5, 25, []), (25, .iload 5, 27, []), (27, .iload 4, 29, []), (29, .if_icmp .ge 25, 32, [((0 : Int), 54)]), (32, .aload_n 0, 33, []), (33, .getfield 18, 36, []), (36, .iload 5, 38, []), (38, .iconst 1, 39, []), (39, .aload_n 0, 40, []), (40, .getfield 18, 43, []), (43, .iload 5, 45, []), (45, .iaload, 46, []), (46, .isub, 47, []), (47, .iastore, 48, []), (48, .iinc 5 1, 51, []), (51, .goto (-26), 54, [((0 : Int), 25)]), (54, .return_, 55, [])]
def E_X1_turnSpan : ab_E := (T_X1, [(2, (2, 1, [], 0, sp_X1_cutAt)), (10, (2, 1, [], 0, sp_X1_cutAt)), (19, (3, 1, [], 0, sp_X1_reverseChunks))], [], 9)
def M_X1_turnSpan : List (Nat × ab_MI) := [(2, mi_X1_cutAt), (10, mi_X1_cutAt), (19, mi_X1_reverseChunks)]
def mi_X1_turnSpan : ab_MI := (yX1_turnSpan, cX1_turnSpan, 6, ab_rty 9, 4, 142)
theorem pk_X1_turnSpan : P_X1_turnSpan.all (ab_okI cX1_turnSpan) = true := by decide +kernel
theorem ck_X1_turnSpan : P_X1_turnSpan.all (ab_okC1 "RootChunks$Row" M_X1_turnSpan E_X1_turnSpan (4, 142)) = true := by decide +kernel
set_option maxRecDepth 100000 in
theorem b_X1_turnSpan_0 {Q : ab_Q} {fr : Int} {to : Int} {rK : Int → Int} {rL : Int → Int} {rT : Int → Int} {rS : Int → Int} {rn : Int} {rc : Int} {rw : Int} (l1 : sp_X1_cutAt [.inr (.inl (some 0)), .inl fr] (rw_cs (rK, rL, rT, rS, rn, rc, rw)) (fun r_ k_ => ∃ (x_ : Int), ∃ (r' : rw_T), r_ = some (.inl x_) ∧ k_ = (rw_cs r') ∧ ab_R E_X1_turnSpan P_X1_turnSpan Q 5 [some (.inr (.inl (some 0))), some (.inl fr), some (.inl to), none, none, none] [.inl x_] (rw_cs r')))  : ab_R E_X1_turnSpan P_X1_turnSpan Q 0 [some (.inr (.inl (some 0))), some (.inl fr), some (.inl to), none, none, none] [] (rw_cs (rK, rL, rT, rS, rn, rc, rw)) :=
  ab_R.steps [5, 13, 22, 25] 4 (show ab_cl sp_X1_cutAt [.inr (.inl (some 0)), .inl fr] (rw_cs (rK, rL, rT, rS, rn, rc, rw)) (fun r_ k_ => k_.length = ((rw_cs (rK, rL, rT, rS, rn, rc, rw))).length → ab_R E_X1_turnSpan P_X1_turnSpan Q 5 [some (.inr (.inl (some 0))), some (.inl fr), some (.inl to), none, none, none] (ab_ret r_ []) k_) from ⟨_, l1, fun r_ k_ hz _ => by obtain ⟨x_, r', rfl, rfl, hR⟩ := hz; exact hR⟩)
set_option maxRecDepth 100000 in
theorem b_X1_turnSpan_5 {Q : ab_Q} {fr : Int} {to : Int} {t0 : Int} {rK : Int → Int} {rL : Int → Int} {rT : Int → Int} {rS : Int → Int} {rn : Int} {rc : Int} {rw : Int} (l1 : sp_X1_cutAt [.inr (.inl (some 0)), .inl (to + 1)] (rw_cs (rK, rL, rT, rS, rn, rc, rw)) (fun r_ k_ => ∃ (x_ : Int), ∃ (r' : rw_T), r_ = some (.inl x_) ∧ k_ = (rw_cs r') ∧ ab_R E_X1_turnSpan P_X1_turnSpan Q 13 [some (.inr (.inl (some 0))), some (.inl fr), some (.inl to), some (.inl t0), none, none] [.inl x_] (rw_cs r')))  : ab_R E_X1_turnSpan P_X1_turnSpan Q 5 [some (.inr (.inl (some 0))), some (.inl fr), some (.inl to), none, none, none] [.inl t0] (rw_cs (rK, rL, rT, rS, rn, rc, rw)) :=
  ab_R.steps [5, 13, 22, 25] 7 (show ab_cl sp_X1_cutAt [.inr (.inl (some 0)), .inl (to + 1)] (rw_cs (rK, rL, rT, rS, rn, rc, rw)) (fun r_ k_ => k_.length = ((rw_cs (rK, rL, rT, rS, rn, rc, rw))).length → ab_R E_X1_turnSpan P_X1_turnSpan Q 13 [some (.inr (.inl (some 0))), some (.inl fr), some (.inl to), some (.inl t0), none, none] (ab_ret r_ []) k_) from ⟨_, l1, fun r_ k_ hz _ => by obtain ⟨x_, r', rfl, rfl, hR⟩ := hz; exact hR⟩)
set_option maxRecDepth 100000 in
theorem b_X1_turnSpan_13 {Q : ab_Q} {fr : Int} {to : Int} {a : Int} {t0 : Int} {rK : Int → Int} {rL : Int → Int} {rT : Int → Int} {rS : Int → Int} {rn : Int} {rc : Int} {rw : Int} (l1 : sp_X1_reverseChunks [.inr (.inl (some 0)), .inl a, .inl t0] (rw_cs (rK, rL, rT, rS, rn, rc, rw)) (fun r_ k_ => ∃ (r' : rw_T), r_ = none ∧ k_ = (rw_cs r') ∧ ab_R E_X1_turnSpan P_X1_turnSpan Q 22 [some (.inr (.inl (some 0))), some (.inl fr), some (.inl to), some (.inl a), some (.inl t0), none] [] (rw_cs r')))  : ab_R E_X1_turnSpan P_X1_turnSpan Q 13 [some (.inr (.inl (some 0))), some (.inl fr), some (.inl to), some (.inl a), none, none] [.inl t0] (rw_cs (rK, rL, rT, rS, rn, rc, rw)) :=
  ab_R.steps [5, 13, 22, 25] 6 (show ab_cl sp_X1_reverseChunks [.inr (.inl (some 0)), .inl a, .inl t0] (rw_cs (rK, rL, rT, rS, rn, rc, rw)) (fun r_ k_ => k_.length = ((rw_cs (rK, rL, rT, rS, rn, rc, rw))).length → ab_R E_X1_turnSpan P_X1_turnSpan Q 22 [some (.inr (.inl (some 0))), some (.inl fr), some (.inl to), some (.inl a), some (.inl t0), none] (ab_ret r_ []) k_) from ⟨_, l1, fun r_ k_ hz _ => by obtain ⟨r', rfl, rfl, hR⟩ := hz; exact hR⟩)
set_option maxRecDepth 100000 in
theorem b_X1_turnSpan_22 {Q : ab_Q} {fr : Int} {to : Int} {a : Int} {b : Int} {rK : Int → Int} {rL : Int → Int} {rT : Int → Int} {rS : Int → Int} {rn : Int} {rc : Int} {rw : Int} (l1 : ab_R E_X1_turnSpan P_X1_turnSpan Q 25 [some (.inr (.inl (some 0))), some (.inl fr), some (.inl to), some (.inl a), some (.inl b), some (.inl a)] [] (rw_cs (rK, rL, rT, rS, rn, rc, rw)))  : ab_R E_X1_turnSpan P_X1_turnSpan Q 22 [some (.inr (.inl (some 0))), some (.inl fr), some (.inl to), some (.inl a), some (.inl b), none] [] (rw_cs (rK, rL, rT, rS, rn, rc, rw)) :=
  ab_R.steps [5, 13, 22, 25] 4 (show ab_R E_X1_turnSpan P_X1_turnSpan Q 25 [some (.inr (.inl (some 0))), some (.inl fr), some (.inl to), some (.inl a), some (.inl b), some (.inl a)] [] (rw_cs (rK, rL, rT, rS, rn, rc, rw)) from l1)
set_option maxRecDepth 100000 in
theorem b_X1_turnSpan_25 {Q : ab_Q} {fr : Int} {to : Int} {a : Int} {b : Int} {c : Int} {rK : Int → Int} {rL : Int → Int} {rT : Int → Int} {rS : Int → Int} {rn : Int} {rc : Int} {rw : Int} (l1 : b ≤ c → Q none (rw_cs (rK, rL, rT, rS, rn, rc, rw))) (l2 : c < b → ab_R E_X1_turnSpan P_X1_turnSpan Q 25 [some (.inr (.inl (some 0))), some (.inl fr), some (.inl to), some (.inl a), some (.inl b), some (.inl (c + 1))] [] (rw_cs (rK, rL, (ab_up rT c (1 - (rT c))), rS, rn, rc, rw))) (p1 : (ab_r c ∧ ab_r b) := by intros; (try unfold ab_r); omega) (p2 : c < b → (0 ≤ c ∧ c < 60) := by intros; (try unfold ab_r); omega) : ab_R E_X1_turnSpan P_X1_turnSpan Q 25 [some (.inr (.inl (some 0))), some (.inl fr), some (.inl to), some (.inl a), some (.inl b), some (.inl c)] [] (rw_cs (rK, rL, rT, rS, rn, rc, rw)) :=
  ab_R.steps [5, 13, 22, 25] 17 (show ((ab_r c ∧ ab_r b) ∧ ((b ≤ c → Q none (rw_cs (rK, rL, rT, rS, rn, rc, rw))) ∧ (c < b → ((0 ≤ c ∧ c < 60) ∧ ((0 ≤ c ∧ c < 60) ∧ ab_R E_X1_turnSpan P_X1_turnSpan Q 25 [some (.inr (.inl (some 0))), some (.inl fr), some (.inl to), some (.inl a), some (.inl b), some (.inl (c + 1))] [] (rw_cs (rK, rL, (ab_up rT c (1 - (rT c))), rS, rn, rc, rw))))))) from ⟨p1, ⟨fun h1 => (l1 h1), fun h2 => ⟨(p2 h2), ⟨(p2 h2), (l2 h2)⟩⟩⟩⟩)
def P_X1_addToSpan : List ab_I := [(0, .aload_n 0, 1, []), (1, .iload_n 1, 2, []), (2, .invokevirtual 53, 5, []), (5, .istore 4, 7, []), (7, .aload_n 0, 8, []), (8, .iload_n 2, 9, []), (9, .iconst 1, 10, []), (10, .iadd, 11, []), (11, .invokevirtual 53, 14, []), (14, .istore 5, 16, []), (16, .iload 4, 18, []), (18, .istore 6, 20, []), (20, .iload 6, 22, []), (22, .iload 5, 24, []), (24, .if_icmp .ge 20, 27, [((0 : Int), 44)]), (27, .aload_n 0, 28, []), (28, .getfield 21, 31, []), (31, .iload 6, 33, []), (33, .dup2, 34, []), (34, .iaload, 35, []), (35, .iload_n 3, 36, []), (36, .iadd, 37, []), (37, .iastore, 38, []), (38, .iinc 6 1, 41, []), (41, .goto (-21), 44, [((0 : Int), 20)]), (44, .return_, 45, [])]
def E_X1_addToSpan : ab_E := (T_X1, [(2, (2, 1, [], 0, sp_X1_cutAt)), (11, (2, 1, [], 0, sp_X1_cutAt))], [], 9)
def M_X1_addToSpan : List (Nat × ab_MI) := [(2, mi_X1_cutAt), (11, mi_X1_cutAt)]
def mi_X1_addToSpan : ab_MI := (yX1_addToSpan, cX1_addToSpan, 7, ab_rty 9, 4, 142)
theorem pk_X1_addToSpan : P_X1_addToSpan.all (ab_okI cX1_addToSpan) = true := by decide +kernel
theorem ck_X1_addToSpan : P_X1_addToSpan.all (ab_okC1 "RootChunks$Row" M_X1_addToSpan E_X1_addToSpan (4, 142)) = true := by decide +kernel
set_option maxRecDepth 100000 in
theorem b_X1_addToSpan_0 {Q : ab_Q} {fr : Int} {to : Int} {bb : Int} {rK : Int → Int} {rL : Int → Int} {rT : Int → Int} {rS : Int → Int} {rn : Int} {rc : Int} {rw : Int} (l1 : sp_X1_cutAt [.inr (.inl (some 0)), .inl fr] (rw_cs (rK, rL, rT, rS, rn, rc, rw)) (fun r_ k_ => ∃ (x_ : Int), ∃ (r' : rw_T), r_ = some (.inl x_) ∧ k_ = (rw_cs r') ∧ ab_R E_X1_addToSpan P_X1_addToSpan Q 5 [some (.inr (.inl (some 0))), some (.inl fr), some (.inl to), some (.inl bb), none, none, none] [.inl x_] (rw_cs r')))  : ab_R E_X1_addToSpan P_X1_addToSpan Q 0 [some (.inr (.inl (some 0))), some (.inl fr), some (.inl to), some (.inl bb), none, none, none] [] (rw_cs (rK, rL, rT, rS, rn, rc, rw)) :=
  ab_R.steps [5, 14, 20] 4 (show ab_cl sp_X1_cutAt [.inr (.inl (some 0)), .inl fr] (rw_cs (rK, rL, rT, rS, rn, rc, rw)) (fun r_ k_ => k_.length = ((rw_cs (rK, rL, rT, rS, rn, rc, rw))).length → ab_R E_X1_addToSpan P_X1_addToSpan Q 5 [some (.inr (.inl (some 0))), some (.inl fr), some (.inl to), some (.inl bb), none, none, none] (ab_ret r_ []) k_) from ⟨_, l1, fun r_ k_ hz _ => by obtain ⟨x_, r', rfl, rfl, hR⟩ := hz; exact hR⟩)
set_option maxRecDepth 100000 in
theorem b_X1_addToSpan_5 {Q : ab_Q} {fr : Int} {to : Int} {bb : Int} {t0 : Int} {rK : Int → Int} {rL : Int → Int} {rT : Int → Int} {rS : Int → Int} {rn : Int} {rc : Int} {rw : Int} (l1 : sp_X1_cutAt [.inr (.inl (some 0)), .inl (to + 1)] (rw_cs (rK, rL, rT, rS, rn, rc, rw)) (fun r_ k_ => ∃ (x_ : Int), ∃ (r' : rw_T), r_ = some (.inl x_) ∧ k_ = (rw_cs r') ∧ ab_R E_X1_addToSpan P_X1_addToSpan Q 14 [some (.inr (.inl (some 0))), some (.inl fr), some (.inl to), some (.inl bb), some (.inl t0), none, none] [.inl x_] (rw_cs r')))  : ab_R E_X1_addToSpan P_X1_addToSpan Q 5 [some (.inr (.inl (some 0))), some (.inl fr), some (.inl to), some (.inl bb), none, none, none] [.inl t0] (rw_cs (rK, rL, rT, rS, rn, rc, rw)) :=
  ab_R.steps [5, 14, 20] 7 (show ab_cl sp_X1_cutAt [.inr (.inl (some 0)), .inl (to + 1)] (rw_cs (rK, rL, rT, rS, rn, rc, rw)) (fun r_ k_ => k_.length = ((rw_cs (rK, rL, rT, rS, rn, rc, rw))).length → ab_R E_X1_addToSpan P_X1_addToSpan Q 14 [some (.inr (.inl (some 0))), some (.inl fr), some (.inl to), some (.inl bb), some (.inl t0), none, none] (ab_ret r_ []) k_) from ⟨_, l1, fun r_ k_ hz _ => by obtain ⟨x_, r', rfl, rfl, hR⟩ := hz; exact hR⟩)
set_option maxRecDepth 100000 in
theorem b_X1_addToSpan_14 {Q : ab_Q} {fr : Int} {to : Int} {bb : Int} {a : Int} {t0 : Int} {rK : Int → Int} {rL : Int → Int} {rT : Int → Int} {rS : Int → Int} {rn : Int} {rc : Int} {rw : Int} (l1 : ab_R E_X1_addToSpan P_X1_addToSpan Q 20 [some (.inr (.inl (some 0))), some (.inl fr), some (.inl to), some (.inl bb), some (.inl a), some (.inl t0), some (.inl a)] [] (rw_cs (rK, rL, rT, rS, rn, rc, rw)))  : ab_R E_X1_addToSpan P_X1_addToSpan Q 14 [some (.inr (.inl (some 0))), some (.inl fr), some (.inl to), some (.inl bb), some (.inl a), none, none] [.inl t0] (rw_cs (rK, rL, rT, rS, rn, rc, rw)) :=
  ab_R.steps [5, 14, 20] 5 (show ab_R E_X1_addToSpan P_X1_addToSpan Q 20 [some (.inr (.inl (some 0))), some (.inl fr), some (.inl to), some (.inl bb), some (.inl a), some (.inl t0), some (.inl a)] [] (rw_cs (rK, rL, rT, rS, rn, rc, rw)) from l1)
set_option maxRecDepth 100000 in
theorem b_X1_addToSpan_20 {Q : ab_Q} {fr : Int} {to : Int} {bb : Int} {a : Int} {b : Int} {c : Int} {rK : Int → Int} {rL : Int → Int} {rT : Int → Int} {rS : Int → Int} {rn : Int} {rc : Int} {rw : Int} (l1 : b ≤ c → Q none (rw_cs (rK, rL, rT, rS, rn, rc, rw))) (l2 : c < b → ab_R E_X1_addToSpan P_X1_addToSpan Q 20 [some (.inr (.inl (some 0))), some (.inl fr), some (.inl to), some (.inl bb), some (.inl a), some (.inl b), some (.inl (c + 1))] [] (rw_cs (rK, rL, rT, (ab_up rS c ((rS c) + bb)), rn, rc, rw))) (p1 : (ab_r c ∧ ab_r b) := by intros; (try unfold ab_r); omega) (p2 : c < b → (0 ≤ c ∧ c < 60) := by intros; (try unfold ab_r); omega) : ab_R E_X1_addToSpan P_X1_addToSpan Q 20 [some (.inr (.inl (some 0))), some (.inl fr), some (.inl to), some (.inl bb), some (.inl a), some (.inl b), some (.inl c)] [] (rw_cs (rK, rL, rT, rS, rn, rc, rw)) :=
  ab_R.steps [5, 14, 20] 15 (show ((ab_r c ∧ ab_r b) ∧ ((b ≤ c → Q none (rw_cs (rK, rL, rT, rS, rn, rc, rw))) ∧ (c < b → ((0 ≤ c ∧ c < 60) ∧ ((0 ≤ c ∧ c < 60) ∧ ab_R E_X1_addToSpan P_X1_addToSpan Q 20 [some (.inr (.inl (some 0))), some (.inl fr), some (.inl to), some (.inl bb), some (.inl a), some (.inl b), some (.inl (c + 1))] [] (rw_cs (rK, rL, rT, (ab_up rS c ((rS c) + bb)), rn, rc, rw))))))) from ⟨p1, ⟨fun h1 => (l1 h1), fun h2 => ⟨(p2 h2), ⟨(p2 h2), (l2 h2)⟩⟩⟩⟩)
def P_X1_moveSpan : List ab_I := [(0, .iload_n 2, 1, []), (1, .iconst 1, 2, []), (2, .iadd, 3, []), (3, .istore 4, 5, []), (5, .aload_n 0, 6, []), (6, .iload_n 1, 7, []), (7, .invokevirtual 53, 10, []), (10, .pop, 11, []), (11, .aload_n 0, 12, []), (12, .iload 4, 14, []), (14, .invokevirtual 53, 17, []), (17, .pop, 18, []), (18, .iload_n 3, 19, []), (19, .iload_n 1, 20, []), (20, .if_icmp .gt 26, 23, [((0 : Int), 46)]), (23, .aload_n 0, 24, []), (24, .aload_n 0, 25, []), (25, .iload_n 3, 26, []), (26, .invokevirtual 53, 29, []), (29, .aload_n 0, 30, []), (30, .iload_n 1, 31, []), (31, .invokevirtual 53, 34, []), (34, .aload_n 0, 35, []), (35, .iload 4, 37, []), (37, .invokevirtual 53, 40, []), (40, .invokevirtual 70, 43, []), (43, .goto 28, 46, [((0 : Int), 71)]), (46, .aload_n 0, 47, []), (47, .aload_n 0, 48, []), (48, .iload_n 1, 49, []), (49, .invokevirtual 53, 52, []), (52, .aload_n 0, 53, []), (53, .iload 4, 55, []), (55, .invokevirtual 53, 58, []), (58, .aload_n 0, 59, []), (59, .iload_n 3, 60, []), (60, .iload 4, 62, []), (62, .iadd, 63, []), (63, .iload_n 1, 64, []), (64, .isub, 65, []), (65, .invokevirtual 53, 68, []), (68, .invokevirtual 70, 71, []), (71, .return_, 72, [])]
def E_X1_moveSpan : ab_E := (T_X1, [(7, (2, 1, [], 0, sp_X1_cutAt)), (14, (2, 1, [], 0, sp_X1_cutAt)), (26, (2, 1, [], 0, sp_X1_cutAt)), (31, (2, 1, [], 0, sp_X1_cutAt)), (37, (2, 1, [], 0, sp_X1_cutAt)), (40, (4, 1, [], 0, sp_X1_exchangeChunks)), (49, (2, 1, [], 0, sp_X1_cutAt)), (55, (2, 1, [], 0, sp_X1_cutAt)), (65, (2, 1, [], 0, sp_X1_cutAt)), (68, (4, 1, [], 0, sp_X1_exchangeChunks))], [], 9)
def M_X1_moveSpan : List (Nat × ab_MI) := [(7, mi_X1_cutAt), (14, mi_X1_cutAt), (26, mi_X1_cutAt), (31, mi_X1_cutAt), (37, mi_X1_cutAt), (40, mi_X1_exchangeChunks), (49, mi_X1_cutAt), (55, mi_X1_cutAt), (65, mi_X1_cutAt), (68, mi_X1_exchangeChunks)]
def mi_X1_moveSpan : ab_MI := (yX1_moveSpan, cX1_moveSpan, 5, ab_rty 9, 4, 142)
theorem pk_X1_moveSpan : P_X1_moveSpan.all (ab_okI cX1_moveSpan) = true := by decide +kernel
theorem ck_X1_moveSpan : P_X1_moveSpan.all (ab_okC1 "RootChunks$Row" M_X1_moveSpan E_X1_moveSpan (4, 142)) = true := by decide +kernel
set_option maxRecDepth 100000 in
theorem b_X1_moveSpan_0 {Q : ab_Q} {fr : Int} {to : Int} {p : Int} {rK : Int → Int} {rL : Int → Int} {rT : Int → Int} {rS : Int → Int} {rn : Int} {rc : Int} {rw : Int} (l1 : sp_X1_cutAt [.inr (.inl (some 0)), .inl fr] (rw_cs (rK, rL, rT, rS, rn, rc, rw)) (fun r_ k_ => ∃ (x_ : Int), ∃ (r' : rw_T), r_ = some (.inl x_) ∧ k_ = (rw_cs r') ∧ ab_R E_X1_moveSpan P_X1_moveSpan Q 10 [some (.inr (.inl (some 0))), some (.inl fr), some (.inl to), some (.inl p), some (.inl (to + 1))] [.inl x_] (rw_cs r')))  : ab_R E_X1_moveSpan P_X1_moveSpan Q 0 [some (.inr (.inl (some 0))), some (.inl fr), some (.inl to), some (.inl p), none] [] (rw_cs (rK, rL, rT, rS, rn, rc, rw)) :=
  ab_R.steps [10, 17, 29, 34, 40, 43, 52, 58, 68, 71] 8 (show ab_cl sp_X1_cutAt [.inr (.inl (some 0)), .inl fr] (rw_cs (rK, rL, rT, rS, rn, rc, rw)) (fun r_ k_ => k_.length = ((rw_cs (rK, rL, rT, rS, rn, rc, rw))).length → ab_R E_X1_moveSpan P_X1_moveSpan Q 10 [some (.inr (.inl (some 0))), some (.inl fr), some (.inl to), some (.inl p), some (.inl (to + 1))] (ab_ret r_ []) k_) from ⟨_, l1, fun r_ k_ hz _ => by obtain ⟨x_, r', rfl, rfl, hR⟩ := hz; exact hR⟩)
set_option maxRecDepth 100000 in
theorem b_X1_moveSpan_10 {Q : ab_Q} {fr : Int} {to : Int} {p : Int} {bh : Int} {t0 : Int} {rK : Int → Int} {rL : Int → Int} {rT : Int → Int} {rS : Int → Int} {rn : Int} {rc : Int} {rw : Int} (l1 : sp_X1_cutAt [.inr (.inl (some 0)), .inl bh] (rw_cs (rK, rL, rT, rS, rn, rc, rw)) (fun r_ k_ => ∃ (x_ : Int), ∃ (r' : rw_T), r_ = some (.inl x_) ∧ k_ = (rw_cs r') ∧ ab_R E_X1_moveSpan P_X1_moveSpan Q 17 [some (.inr (.inl (some 0))), some (.inl fr), some (.inl to), some (.inl p), some (.inl bh)] [.inl x_] (rw_cs r')))  : ab_R E_X1_moveSpan P_X1_moveSpan Q 10 [some (.inr (.inl (some 0))), some (.inl fr), some (.inl to), some (.inl p), some (.inl bh)] [.inl t0] (rw_cs (rK, rL, rT, rS, rn, rc, rw)) :=
  ab_R.steps [10, 17, 29, 34, 40, 43, 52, 58, 68, 71] 5 (show ab_cl sp_X1_cutAt [.inr (.inl (some 0)), .inl bh] (rw_cs (rK, rL, rT, rS, rn, rc, rw)) (fun r_ k_ => k_.length = ((rw_cs (rK, rL, rT, rS, rn, rc, rw))).length → ab_R E_X1_moveSpan P_X1_moveSpan Q 17 [some (.inr (.inl (some 0))), some (.inl fr), some (.inl to), some (.inl p), some (.inl bh)] (ab_ret r_ []) k_) from ⟨_, l1, fun r_ k_ hz _ => by obtain ⟨x_, r', rfl, rfl, hR⟩ := hz; exact hR⟩)
set_option maxRecDepth 100000 in
theorem b_X1_moveSpan_17 {Q : ab_Q} {fr : Int} {to : Int} {p : Int} {bh : Int} {t0 : Int} {rK : Int → Int} {rL : Int → Int} {rT : Int → Int} {rS : Int → Int} {rn : Int} {rc : Int} {rw : Int} (l1 : fr < p → sp_X1_cutAt [.inr (.inl (some 0)), .inl fr] (rw_cs (rK, rL, rT, rS, rn, rc, rw)) (fun r_ k_ => ∃ (x_ : Int), ∃ (r' : rw_T), r_ = some (.inl x_) ∧ k_ = (rw_cs r') ∧ ab_R E_X1_moveSpan P_X1_moveSpan Q 52 [some (.inr (.inl (some 0))), some (.inl fr), some (.inl to), some (.inl p), some (.inl bh)] [.inl x_, .inr (.inl (some 0))] (rw_cs r'))) (l2 : p ≤ fr → sp_X1_cutAt [.inr (.inl (some 0)), .inl p] (rw_cs (rK, rL, rT, rS, rn, rc, rw)) (fun r_ k_ => ∃ (x_ : Int), ∃ (r' : rw_T), r_ = some (.inl x_) ∧ k_ = (rw_cs r') ∧ ab_R E_X1_moveSpan P_X1_moveSpan Q 29 [some (.inr (.inl (some 0))), some (.inl fr), some (.inl to), some (.inl p), some (.inl bh)] [.inl x_, .inr (.inl (some 0))] (rw_cs r'))) (p1 : (ab_r p ∧ ab_r fr) := by intros; (try unfold ab_r); omega) : ab_R E_X1_moveSpan P_X1_moveSpan Q 17 [some (.inr (.inl (some 0))), some (.inl fr), some (.inl to), some (.inl p), some (.inl bh)] [.inl t0] (rw_cs (rK, rL, rT, rS, rn, rc, rw)) :=
  ab_R.steps [10, 17, 29, 34, 40, 43, 52, 58, 68, 71] 9 (show ((ab_r p ∧ ab_r fr) ∧ ((fr < p → ab_cl sp_X1_cutAt [.inr (.inl (some 0)), .inl fr] (rw_cs (rK, rL, rT, rS, rn, rc, rw)) (fun r_ k_ => k_.length = ((rw_cs (rK, rL, rT, rS, rn, rc, rw))).length → ab_R E_X1_moveSpan P_X1_moveSpan Q 52 [some (.inr (.inl (some 0))), some (.inl fr), some (.inl to), some (.inl p), some (.inl bh)] (ab_ret r_ [.inr (.inl (some 0))]) k_)) ∧ (p ≤ fr → ab_cl sp_X1_cutAt [.inr (.inl (some 0)), .inl p] (rw_cs (rK, rL, rT, rS, rn, rc, rw)) (fun r_ k_ => k_.length = ((rw_cs (rK, rL, rT, rS, rn, rc, rw))).length → ab_R E_X1_moveSpan P_X1_moveSpan Q 29 [some (.inr (.inl (some 0))), some (.inl fr), some (.inl to), some (.inl p), some (.inl bh)] (ab_ret r_ [.inr (.inl (some 0))]) k_)))) from ⟨p1, ⟨fun h1 => ⟨_, (l1 h1), fun r_ k_ hz _ => by obtain ⟨x_, r', rfl, rfl, hR⟩ := hz; exact hR⟩, fun h2 => ⟨_, (l2 h2), fun r_ k_ hz _ => by obtain ⟨x_, r', rfl, rfl, hR⟩ := hz; exact hR⟩⟩⟩)
set_option maxRecDepth 100000 in
theorem b_X1_moveSpan_29 {Q : ab_Q} {fr : Int} {to : Int} {p : Int} {bh : Int} {t0 : Int} {rK : Int → Int} {rL : Int → Int} {rT : Int → Int} {rS : Int → Int} {rn : Int} {rc : Int} {rw : Int} (l1 : sp_X1_cutAt [.inr (.inl (some 0)), .inl fr] (rw_cs (rK, rL, rT, rS, rn, rc, rw)) (fun r_ k_ => ∃ (x_ : Int), ∃ (r' : rw_T), r_ = some (.inl x_) ∧ k_ = (rw_cs r') ∧ ab_R E_X1_moveSpan P_X1_moveSpan Q 34 [some (.inr (.inl (some 0))), some (.inl fr), some (.inl to), some (.inl p), some (.inl bh)] [.inl x_, .inl t0, .inr (.inl (some 0))] (rw_cs r')))  : ab_R E_X1_moveSpan P_X1_moveSpan Q 29 [some (.inr (.inl (some 0))), some (.inl fr), some (.inl to), some (.inl p), some (.inl bh)] [.inl t0, .inr (.inl (some 0))] (rw_cs (rK, rL, rT, rS, rn, rc, rw)) :=
  ab_R.steps [10, 17, 29, 34, 40, 43, 52, 58, 68, 71] 4 (show ab_cl sp_X1_cutAt [.inr (.inl (some 0)), .inl fr] (rw_cs (rK, rL, rT, rS, rn, rc, rw)) (fun r_ k_ => k_.length = ((rw_cs (rK, rL, rT, rS, rn, rc, rw))).length → ab_R E_X1_moveSpan P_X1_moveSpan Q 34 [some (.inr (.inl (some 0))), some (.inl fr), some (.inl to), some (.inl p), some (.inl bh)] (ab_ret r_ [.inl t0, .inr (.inl (some 0))]) k_) from ⟨_, l1, fun r_ k_ hz _ => by obtain ⟨x_, r', rfl, rfl, hR⟩ := hz; exact hR⟩)
set_option maxRecDepth 100000 in
theorem b_X1_moveSpan_34 {Q : ab_Q} {fr : Int} {to : Int} {p : Int} {bh : Int} {t0 : Int} {t1 : Int} {rK : Int → Int} {rL : Int → Int} {rT : Int → Int} {rS : Int → Int} {rn : Int} {rc : Int} {rw : Int} (l1 : sp_X1_cutAt [.inr (.inl (some 0)), .inl bh] (rw_cs (rK, rL, rT, rS, rn, rc, rw)) (fun r_ k_ => ∃ (x_ : Int), ∃ (r' : rw_T), r_ = some (.inl x_) ∧ k_ = (rw_cs r') ∧ ab_R E_X1_moveSpan P_X1_moveSpan Q 40 [some (.inr (.inl (some 0))), some (.inl fr), some (.inl to), some (.inl p), some (.inl bh)] [.inl x_, .inl t0, .inl t1, .inr (.inl (some 0))] (rw_cs r')))  : ab_R E_X1_moveSpan P_X1_moveSpan Q 34 [some (.inr (.inl (some 0))), some (.inl fr), some (.inl to), some (.inl p), some (.inl bh)] [.inl t0, .inl t1, .inr (.inl (some 0))] (rw_cs (rK, rL, rT, rS, rn, rc, rw)) :=
  ab_R.steps [10, 17, 29, 34, 40, 43, 52, 58, 68, 71] 4 (show ab_cl sp_X1_cutAt [.inr (.inl (some 0)), .inl bh] (rw_cs (rK, rL, rT, rS, rn, rc, rw)) (fun r_ k_ => k_.length = ((rw_cs (rK, rL, rT, rS, rn, rc, rw))).length → ab_R E_X1_moveSpan P_X1_moveSpan Q 40 [some (.inr (.inl (some 0))), some (.inl fr), some (.inl to), some (.inl p), some (.inl bh)] (ab_ret r_ [.inl t0, .inl t1, .inr (.inl (some 0))]) k_) from ⟨_, l1, fun r_ k_ hz _ => by obtain ⟨x_, r', rfl, rfl, hR⟩ := hz; exact hR⟩)
set_option maxRecDepth 100000 in
theorem b_X1_moveSpan_40 {Q : ab_Q} {fr : Int} {to : Int} {p : Int} {bh : Int} {t0 : Int} {t1 : Int} {t2 : Int} {rK : Int → Int} {rL : Int → Int} {rT : Int → Int} {rS : Int → Int} {rn : Int} {rc : Int} {rw : Int} (l1 : sp_X1_exchangeChunks [.inr (.inl (some 0)), .inl t2, .inl t1, .inl t0] (rw_cs (rK, rL, rT, rS, rn, rc, rw)) (fun r_ k_ => ∃ (r' : rw_T), r_ = none ∧ k_ = (rw_cs r') ∧ ab_R E_X1_moveSpan P_X1_moveSpan Q 43 [some (.inr (.inl (some 0))), some (.inl fr), some (.inl to), some (.inl p), some (.inl bh)] [] (rw_cs r')))  : ab_R E_X1_moveSpan P_X1_moveSpan Q 40 [some (.inr (.inl (some 0))), some (.inl fr), some (.inl to), some (.inl p), some (.inl bh)] [.inl t0, .inl t1, .inl t2, .inr (.inl (some 0))] (rw_cs (rK, rL, rT, rS, rn, rc, rw)) :=
  ab_R.steps [10, 17, 29, 34, 40, 43, 52, 58, 68, 71] 2 (show ab_cl sp_X1_exchangeChunks [.inr (.inl (some 0)), .inl t2, .inl t1, .inl t0] (rw_cs (rK, rL, rT, rS, rn, rc, rw)) (fun r_ k_ => k_.length = ((rw_cs (rK, rL, rT, rS, rn, rc, rw))).length → ab_R E_X1_moveSpan P_X1_moveSpan Q 43 [some (.inr (.inl (some 0))), some (.inl fr), some (.inl to), some (.inl p), some (.inl bh)] (ab_ret r_ []) k_) from ⟨_, l1, fun r_ k_ hz _ => by obtain ⟨r', rfl, rfl, hR⟩ := hz; exact hR⟩)
set_option maxRecDepth 100000 in
theorem b_X1_moveSpan_43 {Q : ab_Q} {fr : Int} {to : Int} {p : Int} {bh : Int} {rK : Int → Int} {rL : Int → Int} {rT : Int → Int} {rS : Int → Int} {rn : Int} {rc : Int} {rw : Int} (l1 : ab_R E_X1_moveSpan P_X1_moveSpan Q 71 [some (.inr (.inl (some 0))), some (.inl fr), some (.inl to), some (.inl p), some (.inl bh)] [] (rw_cs (rK, rL, rT, rS, rn, rc, rw)))  : ab_R E_X1_moveSpan P_X1_moveSpan Q 43 [some (.inr (.inl (some 0))), some (.inl fr), some (.inl to), some (.inl p), some (.inl bh)] [] (rw_cs (rK, rL, rT, rS, rn, rc, rw)) :=
  ab_R.steps [10, 17, 29, 34, 40, 43, 52, 58, 68, 71] 3 (show ab_R E_X1_moveSpan P_X1_moveSpan Q 71 [some (.inr (.inl (some 0))), some (.inl fr), some (.inl to), some (.inl p), some (.inl bh)] [] (rw_cs (rK, rL, rT, rS, rn, rc, rw)) from l1)
set_option maxRecDepth 100000 in
theorem b_X1_moveSpan_52 {Q : ab_Q} {fr : Int} {to : Int} {p : Int} {bh : Int} {t0 : Int} {rK : Int → Int} {rL : Int → Int} {rT : Int → Int} {rS : Int → Int} {rn : Int} {rc : Int} {rw : Int} (l1 : sp_X1_cutAt [.inr (.inl (some 0)), .inl bh] (rw_cs (rK, rL, rT, rS, rn, rc, rw)) (fun r_ k_ => ∃ (x_ : Int), ∃ (r' : rw_T), r_ = some (.inl x_) ∧ k_ = (rw_cs r') ∧ ab_R E_X1_moveSpan P_X1_moveSpan Q 58 [some (.inr (.inl (some 0))), some (.inl fr), some (.inl to), some (.inl p), some (.inl bh)] [.inl x_, .inl t0, .inr (.inl (some 0))] (rw_cs r')))  : ab_R E_X1_moveSpan P_X1_moveSpan Q 52 [some (.inr (.inl (some 0))), some (.inl fr), some (.inl to), some (.inl p), some (.inl bh)] [.inl t0, .inr (.inl (some 0))] (rw_cs (rK, rL, rT, rS, rn, rc, rw)) :=
  ab_R.steps [10, 17, 29, 34, 40, 43, 52, 58, 68, 71] 4 (show ab_cl sp_X1_cutAt [.inr (.inl (some 0)), .inl bh] (rw_cs (rK, rL, rT, rS, rn, rc, rw)) (fun r_ k_ => k_.length = ((rw_cs (rK, rL, rT, rS, rn, rc, rw))).length → ab_R E_X1_moveSpan P_X1_moveSpan Q 58 [some (.inr (.inl (some 0))), some (.inl fr), some (.inl to), some (.inl p), some (.inl bh)] (ab_ret r_ [.inl t0, .inr (.inl (some 0))]) k_) from ⟨_, l1, fun r_ k_ hz _ => by obtain ⟨x_, r', rfl, rfl, hR⟩ := hz; exact hR⟩)
set_option maxRecDepth 100000 in
theorem b_X1_moveSpan_58 {Q : ab_Q} {fr : Int} {to : Int} {p : Int} {bh : Int} {t0 : Int} {t1 : Int} {rK : Int → Int} {rL : Int → Int} {rT : Int → Int} {rS : Int → Int} {rn : Int} {rc : Int} {rw : Int} (l1 : sp_X1_cutAt [.inr (.inl (some 0)), .inl ((p + bh) - fr)] (rw_cs (rK, rL, rT, rS, rn, rc, rw)) (fun r_ k_ => ∃ (x_ : Int), ∃ (r' : rw_T), r_ = some (.inl x_) ∧ k_ = (rw_cs r') ∧ ab_R E_X1_moveSpan P_X1_moveSpan Q 68 [some (.inr (.inl (some 0))), some (.inl fr), some (.inl to), some (.inl p), some (.inl bh)] [.inl x_, .inl t0, .inl t1, .inr (.inl (some 0))] (rw_cs r')))  : ab_R E_X1_moveSpan P_X1_moveSpan Q 58 [some (.inr (.inl (some 0))), some (.inl fr), some (.inl to), some (.inl p), some (.inl bh)] [.inl t0, .inl t1, .inr (.inl (some 0))] (rw_cs (rK, rL, rT, rS, rn, rc, rw)) :=
  ab_R.steps [10, 17, 29, 34, 40, 43, 52, 58, 68, 71] 8 (show ab_cl sp_X1_cutAt [.inr (.inl (some 0)), .inl ((p + bh) - fr)] (rw_cs (rK, rL, rT, rS, rn, rc, rw)) (fun r_ k_ => k_.length = ((rw_cs (rK, rL, rT, rS, rn, rc, rw))).length → ab_R E_X1_moveSpan P_X1_moveSpan Q 68 [some (.inr (.inl (some 0))), some (.inl fr), some (.inl to), some (.inl p), some (.inl bh)] (ab_ret r_ [.inl t0, .inl t1, .inr (.inl (some 0))]) k_) from ⟨_, l1, fun r_ k_ hz _ => by obtain ⟨x_, r', rfl, rfl, hR⟩ := hz; exact hR⟩)
set_option maxRecDepth 100000 in
theorem b_X1_moveSpan_68 {Q : ab_Q} {fr : Int} {to : Int} {p : Int} {bh : Int} {t0 : Int} {t1 : Int} {t2 : Int} {rK : Int → Int} {rL : Int → Int} {rT : Int → Int} {rS : Int → Int} {rn : Int} {rc : Int} {rw : Int} (l1 : sp_X1_exchangeChunks [.inr (.inl (some 0)), .inl t2, .inl t1, .inl t0] (rw_cs (rK, rL, rT, rS, rn, rc, rw)) (fun r_ k_ => ∃ (r' : rw_T), r_ = none ∧ k_ = (rw_cs r') ∧ ab_R E_X1_moveSpan P_X1_moveSpan Q 71 [some (.inr (.inl (some 0))), some (.inl fr), some (.inl to), some (.inl p), some (.inl bh)] [] (rw_cs r')))  : ab_R E_X1_moveSpan P_X1_moveSpan Q 68 [some (.inr (.inl (some 0))), some (.inl fr), some (.inl to), some (.inl p), some (.inl bh)] [.inl t0, .inl t1, .inl t2, .inr (.inl (some 0))] (rw_cs (rK, rL, rT, rS, rn, rc, rw)) :=
  ab_R.steps [10, 17, 29, 34, 40, 43, 52, 58, 68, 71] 2 (show ab_cl sp_X1_exchangeChunks [.inr (.inl (some 0)), .inl t2, .inl t1, .inl t0] (rw_cs (rK, rL, rT, rS, rn, rc, rw)) (fun r_ k_ => k_.length = ((rw_cs (rK, rL, rT, rS, rn, rc, rw))).length → ab_R E_X1_moveSpan P_X1_moveSpan Q 71 [some (.inr (.inl (some 0))), some (.inl fr), some (.inl to), some (.inl p), some (.inl bh)] (ab_ret r_ []) k_) from ⟨_, l1, fun r_ k_ hz _ => by obtain ⟨r', rfl, rfl, hR⟩ := hz; exact hR⟩)
set_option maxRecDepth 100000 in
theorem b_X1_moveSpan_71 {Q : ab_Q} {fr : Int} {to : Int} {p : Int} {bh : Int} {rK : Int → Int} {rL : Int → Int} {rT : Int → Int} {rS : Int → Int} {rn : Int} {rc : Int} {rw : Int} (l1 : Q none (rw_cs (rK, rL, rT, rS, rn, rc, rw)))  : ab_R E_X1_moveSpan P_X1_moveSpan Q 71 [some (.inr (.inl (some 0))), some (.inl fr), some (.inl to), some (.inl p), some (.inl bh)] [] (rw_cs (rK, rL, rT, rS, rn, rc, rw)) :=
  ab_R.steps [10, 17, 29, 34, 40, 43, 52, 58, 68, 71] 2 (show Q none (rw_cs (rK, rL, rT, rS, rn, rc, rw)) from l1)
theorem vc_X1_insert {av : List ab_V} {cs : List ab_C} {Q : ab_Q} (h : sp_X1_insert av cs Q) : (ab_lv0 av).length ≤ 5 ∧ ab_R E_X1_insert P_X1_insert Q 0 (ab_ent av 5) [] cs := by
  obtain ⟨⟨K, L, T, S, n, cc, w⟩, q, d, p, v, rfl, rfl, hR, hW, hp, hd, hl, hQ⟩ := h
  refine ⟨Nat.le_of_ble_eq_true rfl, ?_⟩
  have hn : n = ((mq_flat q).length : Nat) := hR.2.2.2.2.1
  refine b_X1_insert_0 (fun _ => ?_) (fun _ => by omega)
  refine ⟨_, q, d, _, rfl, rfl, hR, hW, hp, hd, fun r1 hr1 hw1 => ⟨_, r1, rfl, rfl, ?_⟩⟩
  obtain ⟨K1, L1, T1, S1, n1, c1, w1⟩ := r1
  have hn1 : n1 = (mq_flat ((mq_cut q d).1 ++ (mq_cut q d).2.1)).length := hr1.2.2.2.2.1
  obtain ⟨z1, z2⟩ := mq_cut_len hd
  rw [mq_flat_app, List.length_append, z1, z2] at hn1
  have hcc : c1 = (((mq_cut q d).1 ++ (mq_cut q d).2.1).length : Nat) := hr1.2.2.2.2.2
  have hW1 := mq_cut_W hW hd
  have hpos := mq_flat_pos hW1.1
  simp only [mq_flat_app, List.length_append, z1, z2] at hpos
  rw [List.length_append] at hcc
  dsimp only at hw1
  have loop : ∀ (m : Nat) (i : Int) (K2 : Int → Int), i = p + m → i ≤ n1 → (∀ j, K2 j = if i < j ∧ j ≤ n1 then K1 (j - 1) else K1 j) →
      ab_R E_X1_insert P_X1_insert Q 22 [some (.inr (.inl (some 0))), some (.inl p), some (.inl v), some (.inl ((mq_cut q d).1.length : Int)), some (.inl i)] [] (rw_cs (K2, L1, T1, S1, n1, c1, w1)) := by
    intro m
    induction m with
    | zero =>
      intro i K2 g1 g2 g3
      refine b_X1_insert_22 (fun _ => ?_) (fun _ => by omega)
      refine ⟨_, _, _, _, _, _, _, _, _, rfl, rfl, by omega, by omega, by omega, _, rfl, rfl, ?_⟩
      refine b_X1_insert_73 ?_
      have e : ab_up K2 p v = mq_ins K1 n1 (mq_flat (mq_cut q d).1).length v := by
        funext j
        unfold ab_up mq_ins
        rw [g3, z1, ← hp]
        rw [show i = p by omega]
      rw [e]
      refine hQ _ (mq_R_put hr1) ?_
      show w1 + 1 = w + ((mq_cut q d).2.2 + 1)
      omega
    | succ m ih =>
      intro i K2 g1 g2 g3
      refine b_X1_insert_22 (fun _ => by omega) (fun _ => ih _ _ (by omega) (by omega) (fun j => ?_))
      unfold ab_up
      by_cases z : j = i
      · rw [if_pos z, if_pos (by omega), g3, if_neg (by omega), z]
      · rw [if_neg z, g3]
        by_cases z2 : i < j ∧ j ≤ n1
        · rw [if_pos z2, if_pos (by omega)]
        · rw [if_neg z2, if_neg (by omega)]
  refine b_X1_insert_15 (loop ((mq_flat q).length - d) n1 K1 (by omega) (by omega) (fun j => by rw [if_neg (by omega)]))
theorem mt_X1_insert (l : Launch) : ab_MT l mi_X1_insert sp_X1_insert := ab_MT.of (own := "RootChunks$Row") (E := E_X1_insert) (P := P_X1_insert) (M := M_X1_insert) (nL := 5) (ty := 9) (by decide) rfl rfl tk_X1 pk_X1_insert ck_X1_insert (ab_CT'.cons (mt_X1_cutAt l) (ab_CT'.cons (mt_X1_openChunk l) ab_CT'.nil)) (fun av cs Q h => vc_X1_insert h)
theorem vc_X1_remove {av : List ab_V} {cs : List ab_C} {Q : ab_Q} (h : sp_X1_remove av cs Q) : (ab_lv0 av).length ≤ 4 ∧ ab_R E_X1_remove P_X1_remove Q 0 (ab_ent av 4) [] cs := by
  obtain ⟨⟨K, L, T, S, n, cc, w⟩, q, d, p, rfl, rfl, hR, hW, hp, hd, hQ⟩ := h
  refine ⟨Nat.le_of_ble_eq_true rfl, ?_⟩
  refine b_X1_remove_0 ⟨_, q, d, _, rfl, rfl, hR, hW, hp, by omega, fun r1 hr1 hw1 => ⟨_, r1, rfl, rfl, ?_⟩⟩
  obtain ⟨K1, L1, T1, S1, n1, c1, w1⟩ := r1
  have hW1 := mq_cut_W (d := d) hW (by omega)
  obtain ⟨z1, z2⟩ := mq_cut_len (q := q) (d := d) (by omega)
  obtain ⟨o1, o2⟩ := mq_cut_ok (d := d) hW.1
  have hc2 := mq_cut_app (B := (mq_cut q d).2.1) (d := 1) o1
  rw [z1] at hc2
  refine b_X1_remove_5 ⟨_, _, d + 1, _, rfl, rfl, hr1, hW1, by omega, by rw [mq_flat_app, List.length_append, z1, z2]; omega, fun r2 hr2 hw2 => ⟨_, r2, rfl, rfl, ?_⟩⟩
  obtain ⟨K2, L2, T2, S2, n2, c2, w2⟩ := r2
  rw [hc2] at hr2 hw2
  obtain ⟨sI1, sI2, sI3, sI4, sI5, sI6, sI7⟩ := mq_span_in (f := d) (n := 1) hW (by omega)
  have hWs := mq_span_W (f := d) (n := 1) hW (by omega)
  obtain ⟨k, hk1, hk2⟩ := mq_cut_1 o2 (by omega)
  have hs1 : (mq_span q d 1).2.1 = [k] := hk1
  have hr2' : mq_R (K2, L2, T2, S2, n2, c2, w2) ((mq_span q d 1).1 ++ k :: (mq_span q d 1).2.2.1) := by
    have : mq_R (K2, L2, T2, S2, n2, c2, w2) (((mq_cut q d).1 ++ (mq_cut (mq_cut q d).2.1 1).1) ++ (mq_cut (mq_cut q d).2.1 1).2.1) := hr2
    rw [hk1] at this
    show mq_R (K2, L2, T2, S2, n2, c2, w2) ((mq_cut q d).1 ++ k :: (mq_cut (mq_cut q d).2.1 1).2.1)
    simpa using this
  have hn2 : n2 = ((mq_flat ((mq_span q d 1).1 ++ k :: (mq_span q d 1).2.2.1)).length : Nat) := hr2'.2.2.2.2.1
  have hcc : c2 = (((mq_span q d 1).1 ++ k :: (mq_span q d 1).2.2.1).length : Nat) := hr2'.2.2.2.2.2
  have hcl := hWs.chunks
  rw [hs1] at hcl
  rw [mq_flat_mid, List.length_append, List.length_append, sI1, sI3, hk2] at hn2
  rw [List.length_append, List.length_cons] at hcc
  simp only [List.length_append, List.length_cons, List.length_nil] at hcl
  have hfl := hW.2
  dsimp only at hw1 hw2
  have loop : ∀ (m : Nat) (i : Int) (K3 : Int → Int), n2 - i = m → p < i → (∀ j, K3 j = if p ≤ j ∧ j < i - 1 then K2 (j + 1) else K2 j) →
      ab_R E_X1_remove P_X1_remove Q 18 [some (.inr (.inl (some 0))), some (.inl p), some (.inl ((mq_cut q d).1.length : Int)), some (.inl i)] [] (rw_cs (K3, L2, T2, S2, n2, c2, w2)) := by
    intro m
    induction m with
    | zero =>
      intro i K3 g1 g2 g3
      refine b_X1_remove_18 (fun _ => ?_) (fun _ => by omega)
      have hlen : ((mq_cut q d).1.length : Int) = ((mq_span q d 1).1.length : Nat) := rfl
      refine ⟨_, _, _, _, _, _, _, _, rfl, rfl, by omega, by omega, by omega, _, rfl, rfl, ?_⟩
      refine b_X1_remove_61 ?_
      have e : K3 = mq_del K2 n2 (mq_flat (mq_span q d 1).1).length := by
        funext j
        unfold mq_del
        rw [g3, sI1, ← hp, show i = n2 by omega]
      rw [e]
      refine hQ _ (mq_R_take hr2' hk2) ?_
      show w2 = w + ((mq_cut q d).2.2 + (mq_cut (mq_cut q d).2.1 1).2.2)
      omega
    | succ m ih =>
      intro i K3 g1 g2 g3
      refine b_X1_remove_18 (fun _ => by omega) (fun _ => ih _ _ (by omega) (by omega) (fun j => ?_))
      unfold ab_up
      by_cases z : j = i - 1
      · rw [if_pos z, if_pos (by omega), g3, if_neg (by omega)]; congr 1; omega
      · rw [if_neg z, g3]
        by_cases z2 : p ≤ j ∧ j < i - 1
        · rw [if_pos z2, if_pos (by omega)]
        · rw [if_neg z2, if_neg (by omega)]
  exact b_X1_remove_13 (loop (n2 - (p + 1)).toNat (p + 1) K2 (by omega) (by omega) (fun j => by rw [if_neg (by omega)]))
theorem mt_X1_remove (l : Launch) : ab_MT l mi_X1_remove sp_X1_remove := ab_MT.of (own := "RootChunks$Row") (E := E_X1_remove) (P := P_X1_remove) (M := M_X1_remove) (nL := 4) (ty := 9) (by decide) rfl rfl tk_X1 pk_X1_remove ck_X1_remove (ab_CT'.cons (mt_X1_cutAt l) (ab_CT'.cons (mt_X1_cutAt l) (ab_CT'.cons (mt_X1_closeChunk l) ab_CT'.nil))) (fun av cs Q h => vc_X1_remove h)
theorem vc_X1_replace {av : List ab_V} {cs : List ab_C} {Q : ab_Q} (h : sp_X1_replace av cs Q) : (ab_lv0 av).length ≤ 4 ∧ ab_R E_X1_replace P_X1_replace Q 0 (ab_ent av 4) [] cs := by
  obtain ⟨⟨K, L, T, S, n, cc, w⟩, q, d, p, v, rfl, rfl, hR, hW, hp, hd, hQ⟩ := h
  refine ⟨Nat.le_of_ble_eq_true rfl, ?_⟩
  obtain ⟨A, k, B, rfl, h1, h2⟩ := mq_hold hd
  have hfl := hW.2
  have hcl := hW.chunks
  rw [mq_flat_mid, List.length_append, List.length_append] at hfl
  refine b_X1_replace_0 ⟨_, A, k, B, _, rfl, rfl, hR, hW, by omega, by omega, _, rfl, rfl, ?_⟩
  refine b_X1_replace_5 ⟨_, _, A.length, _, rfl, rfl, hR, hW, rfl, by simp, _, rfl, rfl, ?_⟩
  rw [mq_take_app]
  refine b_X1_replace_13 ⟨_, A, k, B, _, _, rfl, rfl, hR, hW, rfl, rfl, fun r2 hr2 hw2 => ⟨r2, rfl, rfl, ?_⟩⟩
  obtain ⟨K2, L2, T2, S2, n2, c2, w2⟩ := r2
  refine b_X1_replace_16 ?_
  have hs := mq_set_app (A := A) (k := k) (B := B) (d := d - (mq_flat A).length) (v := v) (by omega)
  rw [show (mq_flat A).length + (d - (mq_flat A).length) = d by omega] at hs
  rw [hs] at hQ
  refine hQ _ ?_ ?_
  · obtain ⟨r1, r3, r4, r5, r6, r7⟩ := hr2
    refine ⟨?_, ?_, ?_, ?_, ?_, ?_⟩
    · dsimp only at r1 ⊢
      rw [mq_flat_mid] at r1 ⊢
      refine mq_al_mid r1 (by simp) (fun j hj => ?_) (fun j hj => ?_) (fun j x hj => ?_)
      · unfold ab_up; rw [if_neg (by omega)]
      · dsimp only at hj
        rw [mq_row_len] at hj
        unfold ab_up; rw [if_neg (by omega)]
      · dsimp only at hj
        rw [List.getElem?_set] at hj
        unfold ab_up
        by_cases z : d - (mq_flat A).length = j
        · rw [if_pos z, if_pos (by rw [mq_row_len]; omega)] at hj
          rw [if_pos (by omega)]
          exact Option.some.inj hj
        · rw [if_neg z] at hj
          rw [if_neg (by omega)]
          exact (mq_al_app.mp (mq_al_app.mp r1).2).1 j x hj
    · dsimp only at r3 ⊢
      rw [mq_map_mid] at r3 ⊢
      rw [show mq_len ((mq_row k).set (d - (mq_flat A).length) v, 0, 0) = mq_len (mq_row k, 0, 0) by unfold mq_len; simp]
      exact r3
    · dsimp only at r4 ⊢
      rw [mq_map_mid] at r4 ⊢
      exact r4
    · dsimp only at r5 ⊢
      rw [mq_map_mid] at r5 ⊢
      exact r5
    · dsimp only at r6 ⊢
      rw [r6, mq_flat_mid, mq_flat_mid]
      simp
    · dsimp only at r7 ⊢
      rw [r7]; simp
  · dsimp only at hw2 ⊢
    omega
theorem mt_X1_replace (l : Launch) : ab_MT l mi_X1_replace sp_X1_replace := ab_MT.of (own := "RootChunks$Row") (E := E_X1_replace) (P := P_X1_replace) (M := M_X1_replace) (nL := 4) (ty := 9) (by decide) rfl rfl tk_X1 pk_X1_replace ck_X1_replace (ab_CT'.cons (mt_X1_chunkHolding l) (ab_CT'.cons (mt_X1_startOf l) (ab_CT'.cons (mt_X1_settle l) ab_CT'.nil))) (fun av cs Q h => vc_X1_replace h)
theorem vc_X1_reverseChunks {av : List ab_V} {cs : List ab_C} {Q : ab_Q} (h : sp_X1_reverseChunks av cs Q) : (ab_lv0 av).length ≤ 5 ∧ ab_R E_X1_reverseChunks P_X1_reverseChunks Q 0 (ab_ent av 5) [] cs := by
  obtain ⟨⟨K, L, T, S, n, cc, w⟩, A, M, B, a, b, rfl, rfl, hR, hW, ha, hb, hQ⟩ := h
  refine ⟨Nat.le_of_ble_eq_true rfl, ?_⟩
  obtain ⟨r1, r2, r3, r4, r5, r6⟩ := id hR
  dsimp only at r1 r2 r3 r4 r5 r6
  have hfl := hW.2
  have hcl := hW.chunks
  simp only [mq_flat_app, List.length_append] at hfl hcl
  have t1 : (A ++ (M ++ B)).take A.length = A := by simp
  have t2 : (A ++ (M ++ B)).take (A.length + M.length) = A ++ M := by rw [← List.append_assoc]; exact List.take_left' List.length_append
  refine b_X1_reverseChunks_0 ⟨_, _, A.length, _, rfl, rfl, hR, hW, ha, by simp, _, rfl, rfl, ?_⟩
  rw [t1]
  refine b_X1_reverseChunks_9 ⟨_, _, A.length + M.length, _, rfl, rfl, hR, hW, by omega, by simp, _, rfl, rfl, ?_⟩
  rw [t2, mq_flat_app, List.length_append]
  refine b_X1_reverseChunks_14 ⟨_, _, _, rfl, rfl, by omega, by omega, by omega, _, rfl, rfl, ?_⟩
  refine b_X1_reverseChunks_17 ⟨_, _, _, rfl, rfl, by omega, by omega, by omega, _, rfl, rfl, ?_⟩
  refine b_X1_reverseChunks_26 ⟨_, _, _, rfl, rfl, by omega, by omega, by omega, _, rfl, rfl, ?_⟩
  refine b_X1_reverseChunks_35 ⟨_, _, _, rfl, rfl, by omega, by omega, by omega, _, rfl, rfl, ?_⟩
  have mL := mq_al_mir_map r2 ha hb
  have mT := mq_al_mir_map r3 ha hb
  have mS := mq_al_mir_map r4 ha hb
  rw [mq_flat_app, mq_flat_app] at r1
  have mK := mq_al_mir (a := (mq_flat A).length) (b := (((mq_flat A).length + (mq_flat M).length : Nat) : Int)) r1 rfl (by omega)
  rw [mq_flat_rv] at mK
  generalize mq_mir K _ _ = K1 at mK ⊢
  generalize mq_mir L _ _ = L1 at mL ⊢
  generalize mq_mir T _ _ = T1 at mT ⊢
  generalize mq_mir S _ _ = S1 at mS ⊢
  -- the first chunks' start: it reads lengths ahead of the span alone
  have loop : ∀ (M2 M1 : List mq_K) (c st : Int) (K2 : Int → Int), M.reverse = M1 ++ M2 → c = A.length + M1.length → st = ((mq_flat A).length : Int) + (mq_flat M1).length → mq_al K2 (mq_flat A ++ (mq_flat M1 ++ (mq_flat (M2.map mq_rv) ++ mq_flat B))) →
      ab_R E_X1_reverseChunks P_X1_reverseChunks Q 53 [some (.inr (.inl (some 0))), some (.inl a), some (.inl b), some (.inl st), some (.inl c)] [] (rw_cs (K2, L1, T1, S1, n, cc, w)) := by
    intro M2
    induction M2 with
    | nil =>
      intro M1 c st K2 g1 g2 g3 g4
      rw [List.append_nil] at g1
      have hlen : M1.length = M.length := by rw [← g1, List.length_reverse]
      refine b_X1_reverseChunks_53 (fun _ => ?_) (fun _ => by omega)
      refine hQ _ ⟨?_, mL, mT, mS, ?_, ?_⟩ rfl
      · dsimp only
        rw [g1, mq_flat_app, mq_flat_app]
        simpa [mq_flat] using g4
      · dsimp only
        rw [r5]
        simp only [mq_flat_app, List.length_append]
        have : (mq_flat M.reverse).length = (mq_flat M).length := by
          rw [← mq_flat_rv_len M.reverse, ← mq_flat_rv, List.length_reverse]
        omega
      · dsimp only
        rw [r6]; simp
    | cons k M2 ih =>
      intro M1 c st K2 g1 g2 g3 g4
      have hlen : M1.length + (M2.length + 1) = M.length := by
        have := congrArg List.length g1
        simp at this
        omega
      have hkl : L1 c = k.1.length := by
        have e := mL (A.length + M1.length) (mq_len k) (by
          rw [g1]
          simp)
        rw [show ((A.length + M1.length : Nat) : Int) = c by omega] at e
        exact e
      have hfm : (mq_flat M).length = (mq_flat M1).length + (k.1.length + (mq_flat M2).length) := by
        have : (mq_flat M.reverse).length = (mq_flat M).length := by
          rw [← mq_flat_rv_len M.reverse, ← mq_flat_rv, List.length_reverse]
        rw [← this, g1, mq_flat_mid]
        simp
      refine b_X1_reverseChunks_53 (fun _ => by omega) (fun _ => ?_)
      refine ⟨_, _, _, rfl, rfl, by omega, by omega, by omega, _, rfl, rfl, ?_⟩
      refine b_X1_reverseChunks_76 (ih (M1 ++ [k]) _ _ _ (by simpa using g1) (by simp; omega) ?_ ?_)
      · rw [mq_flat_app, mq_flat_cons]; simp [mq_flat]; simp [mq_flat] at g3; omega
      · rw [List.map_cons, mq_flat_cons] at g4
        have g5 := mq_al_mir (X := mq_flat A ++ mq_flat M1) (Y := (mq_rv k).1) (Z := mq_flat (M2.map mq_rv) ++ mq_flat B) (a := st) (b := st + L1 c) (f := K2) (by simpa using g4) (by simp; omega) (by simp [mq_rv]; omega)
        have e : mq_flat (M1 ++ [k]) = mq_flat M1 ++ k.1 := by rw [mq_flat_app, mq_flat_cons]; simp [mq_flat]
        rw [e]
        simpa [mq_rv] using g5
  -- the start is read once more: the lengths ahead of the span are the old ones
  have hRA : ∃ K3 : Int → Int, mq_R (K1, L1, T1, S1, n, cc, w) (A ++ (M.reverse.map mq_rv ++ B)) := by
    refine ⟨K1, ?_, ?_, ?_, ?_, ?_, ?_⟩ <;> dsimp only
    · rw [mq_flat_app, mq_flat_app]; exact mK
    · have : (A ++ (M.reverse.map mq_rv ++ B)).map mq_len = (A ++ (M.reverse ++ B)).map mq_len := by
        rw [List.map_append, List.map_append, List.map_append, List.map_append, List.map_map]
        congr 2
        refine List.map_congr_left (fun k _ => ?_)
        simp [mq_rv, mq_len]
      rw [this]; exact mL
    · have : (A ++ (M.reverse.map mq_rv ++ B)).map (fun k => k.2.1) = (A ++ (M.reverse ++ B)).map (fun k => k.2.1) := by
        rw [List.map_append, List.map_append, List.map_append, List.map_append, List.map_map]
        rfl
      rw [this]; exact mT
    · have : (A ++ (M.reverse.map mq_rv ++ B)).map (fun k => k.2.2) = (A ++ (M.reverse ++ B)).map (fun k => k.2.2) := by
        rw [List.map_append, List.map_append, List.map_append, List.map_append, List.map_map]
        rfl
      rw [this]; exact mS
    · rw [r5, mq_flat_app, mq_flat_app, mq_flat_app, mq_flat_app, ← mq_flat_rv]
      simp
    · rw [r6]; simp
  obtain ⟨-, hRA⟩ := hRA
  have hWA : mq_W (A ++ (M.reverse.map mq_rv ++ B)) := by
    refine ⟨fun k hk => ?_, ?_⟩
    · rcases List.mem_append.mp hk with hk | hk
      · exact hW.1 k (by simp [hk])
      · rcases List.mem_append.mp hk with hk | hk
        · obtain ⟨k0, hk0, rfl⟩ := List.mem_map.mp hk
          have o := hW.1 k0 (by have := List.mem_reverse.mp hk0; simp [this])
          refine ⟨by simpa [mq_rv] using o.1, o.2.1, fun x hx => o.2.2.1 x (by simpa [mq_rv] using hx), fun x hx => o.2.2.2 x ?_⟩
          exact mq_row_rv hx
        · exact hW.1 k (by simp [hk])
    · rw [mq_flat_app, mq_flat_app, ← mq_flat_rv]
      simp only [List.length_append, List.length_reverse]
      omega
  refine b_X1_reverseChunks_44 ⟨_, _, A.length, _, rfl, rfl, hRA, hWA, ha, by simp, _, rfl, rfl, ?_⟩
  rw [show (A ++ (M.reverse.map mq_rv ++ B)).take A.length = A by simp]
  exact b_X1_reverseChunks_49 (loop M.reverse [] _ _ K1 rfl (by simp; omega) (by simp [mq_flat]) (by simpa [mq_flat] using mK))
theorem mt_X1_reverseChunks (l : Launch) : ab_MT l mi_X1_reverseChunks sp_X1_reverseChunks := ab_MT.of (own := "RootChunks$Row") (E := E_X1_reverseChunks) (P := P_X1_reverseChunks) (M := M_X1_reverseChunks) (nL := 5) (ty := 9) (by decide) rfl rfl tk_X1 pk_X1_reverseChunks ck_X1_reverseChunks (ab_CT'.cons (mt_X1_startOf l) (ab_CT'.cons (mt_X1_startOf l) (ab_CT'.cons (mt_X1_mirror l) (ab_CT'.cons (mt_X1_mirror l) (ab_CT'.cons (mt_X1_mirror l) (ab_CT'.cons (mt_X1_mirror l) (ab_CT'.cons (mt_X1_startOf l) (ab_CT'.cons (mt_X1_mirror l) ab_CT'.nil)))))))) (fun av cs Q h => vc_X1_reverseChunks h)
theorem mq_W_perm {q q' : List mq_K} (hW : mq_W q) (h : ∀ k ∈ q', k ∈ q) (hl : (mq_flat q').length = (mq_flat q).length) : mq_W q' := ⟨fun k hk => hW.1 k (h k hk), by rw [hl]; exact hW.2⟩
theorem mq_flat_rev (M : List mq_K) : (mq_flat M.reverse).length = (mq_flat M).length := by
  rw [← mq_flat_rv_len M.reverse, ← mq_flat_rv, List.length_reverse]
theorem vc_X1_exchangeChunks {av : List ab_V} {cs : List ab_C} {Q : ab_Q} (h : sp_X1_exchangeChunks av cs Q) : (ab_lv0 av).length ≤ 4 ∧ ab_R E_X1_exchangeChunks P_X1_exchangeChunks Q 0 (ab_ent av 4) [] cs := by
  obtain ⟨⟨K, L, T, S, n, cc, w⟩, A, M1, M2, B, a, m, b, rfl, rfl, hR, hW, ha, hm, hb, hQ⟩ := h
  refine ⟨Nat.le_of_ble_eq_true rfl, ?_⟩
  refine b_X1_exchangeChunks_0 ⟨_, A, M1, M2 ++ B, _, _, rfl, rfl, hR, hW, ha, by omega, fun r1 hr1 hw1 => ⟨r1, rfl, rfl, ?_⟩⟩
  obtain ⟨K1, L1, T1, S1, n1, c1, w1⟩ := r1
  have W1 : mq_W (A ++ (M1.reverse ++ (M2 ++ B))) := mq_W_perm hW (fun k hk => by simpa using hk) (by simp only [mq_flat_app, List.length_append, mq_flat_rev])
  refine b_X1_exchangeChunks_6 ⟨_, A ++ M1.reverse, M2, B, _, _, rfl, rfl, by simpa using hr1, by simpa using W1, by simp; omega, by simp; omega, fun r2 hr2 hw2 => ⟨r2, rfl, rfl, ?_⟩⟩
  obtain ⟨K2, L2, T2, S2, n2, c2, w2⟩ := r2
  have W2 : mq_W (A ++ ((M1.reverse ++ M2.reverse) ++ B)) := mq_W_perm hW (fun k hk => by simpa [or_assoc] using hk) (by simp only [mq_flat_app, List.length_append, mq_flat_rev]; omega)
  refine b_X1_exchangeChunks_12 ⟨_, A, M1.reverse ++ M2.reverse, B, _, _, rfl, rfl, by simpa using hr2, W2, ha, by simp; omega, fun r3 hr3 hw3 => ⟨r3, rfl, rfl, ?_⟩⟩
  obtain ⟨K3, L3, T3, S3, n3, c3, w3⟩ := r3
  refine b_X1_exchangeChunks_18 (hQ _ (by simpa using hr3) ?_)
  dsimp only at hw1 hw2 hw3 ⊢
  omega
theorem mt_X1_exchangeChunks (l : Launch) : ab_MT l mi_X1_exchangeChunks sp_X1_exchangeChunks := ab_MT.of (own := "RootChunks$Row") (E := E_X1_exchangeChunks) (P := P_X1_exchangeChunks) (M := M_X1_exchangeChunks) (nL := 4) (ty := 9) (by decide) rfl rfl tk_X1 pk_X1_exchangeChunks ck_X1_exchangeChunks (ab_CT'.cons (mt_X1_reverseChunks l) (ab_CT'.cons (mt_X1_reverseChunks l) (ab_CT'.cons (mt_X1_reverseChunks l) ab_CT'.nil))) (fun av cs Q h => vc_X1_exchangeChunks h)
theorem vc_X1_turnSpan {av : List ab_V} {cs : List ab_C} {Q : ab_Q} (h : sp_X1_turnSpan av cs Q) : (ab_lv0 av).length ≤ 6 ∧ ab_R E_X1_turnSpan P_X1_turnSpan Q 0 (ab_ent av 6) [] cs := by
  obtain ⟨⟨K, L, T, S, n, cc, w⟩, q, f, m, x, y, rfl, rfl, hR, hW, hx, hy, hfm, hQ⟩ := h
  refine ⟨Nat.le_of_ble_eq_true rfl, ?_⟩
  refine b_X1_turnSpan_0 ⟨_, q, f, _, rfl, rfl, hR, hW, hx, by omega, fun r1 hr1 hw1 => ⟨_, r1, rfl, rfl, ?_⟩⟩
  obtain ⟨K1, L1, T1, S1, n1, c1, w1⟩ := r1
  have hW1 := mq_cut_W (d := f) hW (by omega)
  obtain ⟨z1, z2⟩ := mq_cut_len (q := q) (d := f) (by omega)
  obtain ⟨o1, o2⟩ := mq_cut_ok (d := f) hW.1
  have hc2 := mq_cut_app (B := (mq_cut q f).2.1) (d := m) o1
  rw [z1] at hc2
  refine b_X1_turnSpan_5 ⟨_, _, f + m, _, rfl, rfl, hr1, hW1, by omega, by rw [mq_flat_app, List.length_append, z1, z2]; omega, fun r2 hr2 hw2 => ⟨_, r2, rfl, rfl, ?_⟩⟩
  obtain ⟨K2, L2, T2, S2, n2, c2, w2⟩ := r2
  rw [hc2] at hr2 hw2 ⊢
  have hWs := mq_span_W (f := f) (n := m) hW hfm
  have hr2' : mq_R (K2, L2, T2, S2, n2, c2, w2) ((mq_span q f m).1 ++ ((mq_span q f m).2.1 ++ (mq_span q f m).2.2.1)) := by
    have : mq_R (K2, L2, T2, S2, n2, c2, w2) (((mq_cut q f).1 ++ (mq_cut (mq_cut q f).2.1 m).1) ++ (mq_cut (mq_cut q f).2.1 m).2.1) := hr2
    rw [List.append_assoc] at this
    exact this
  have hb : (((mq_cut q f).1 ++ (mq_cut (mq_cut q f).2.1 m).1).length : Int) = ((mq_span q f m).1.length : Int) + (mq_span q f m).2.1.length := by rw [List.length_append]; exact Int.natCast_add _ _
  refine b_X1_turnSpan_13 ⟨_, (mq_span q f m).1, (mq_span q f m).2.1, (mq_span q f m).2.2.1, _, _, rfl, rfl, hr2', hWs, rfl, hb, fun r3 hr3 hw3 => ⟨r3, rfl, rfl, ?_⟩⟩
  obtain ⟨K3, L3, T3, S3, n3, c3, w3⟩ := r3
  rw [hb]
  have hcl := hWs.chunks
  simp only [List.length_append] at hcl
  have loop : ∀ (M2 M1 : List mq_K) (c : Int) (T4 : Int → Int), (mq_span q f m).2.1.reverse = M1 ++ M2 → c = ((mq_span q f m).1.length : Int) + M1.length → mq_al T4 ((mq_span q f m).1.map (fun k => k.2.1) ++ ((M1.map mq_flip).map (fun k => k.2.1) ++ (M2.map (fun k => k.2.1) ++ (mq_span q f m).2.2.1.map (fun k => k.2.1)))) →
      ab_R E_X1_turnSpan P_X1_turnSpan Q 25 [some (.inr (.inl (some 0))), some (.inl x), some (.inl y), some (.inl ((mq_span q f m).1.length : Int)), some (.inl (((mq_span q f m).1.length : Int) + (mq_span q f m).2.1.length)), some (.inl c)] [] (rw_cs (K3, L3, T4, S3, n3, c3, w3)) := by
    intro M2
    induction M2 with
    | nil =>
      intro M1 c T4 g1 g2 g3
      rw [List.append_nil] at g1
      have hlen : M1.length = (mq_span q f m).2.1.length := by rw [← g1, List.length_reverse]
      refine b_X1_turnSpan_25 (fun _ => ?_) (fun _ => by omega)
      obtain ⟨q1, q2, q3, q4, q5, q6⟩ := hr3
      refine hQ _ ⟨?_, ?_, ?_, ?_, ?_, ?_⟩ ?_
      · have e : mq_flat (mq_trn q f m).1 = mq_flat ((mq_span q f m).1 ++ ((mq_span q f m).2.1.reverse ++ (mq_span q f m).2.2.1)) := by
          unfold mq_trn
          dsimp only
          simp only [mq_flat_app]
          congr 2
          unfold mq_flat
          rw [List.flatMap_map]
          rfl
        rw [e]; exact q1
      · have e : (mq_trn q f m).1.map mq_len = ((mq_span q f m).1 ++ ((mq_span q f m).2.1.reverse ++ (mq_span q f m).2.2.1)).map mq_len := by
          unfold mq_trn
          dsimp only
          simp only [List.map_append, List.map_map]
          rfl
        rw [e]; exact q2
      · have e : (mq_trn q f m).1.map (fun k => k.2.1) = (mq_span q f m).1.map (fun k => k.2.1) ++ ((M1.map mq_flip).map (fun k => k.2.1) ++ (mq_span q f m).2.2.1.map (fun k => k.2.1)) := by
          unfold mq_trn
          dsimp only
          rw [g1]
          simp only [List.map_append]
        rw [e]
        simpa using g3
      · have e : (mq_trn q f m).1.map (fun k => k.2.2) = ((mq_span q f m).1 ++ ((mq_span q f m).2.1.reverse ++ (mq_span q f m).2.2.1)).map (fun k => k.2.2) := by
          unfold mq_trn
          dsimp only
          simp only [List.map_append, List.map_map]
          rfl
        rw [e]; exact q4
      · have e : mq_flat (mq_trn q f m).1 = mq_flat ((mq_span q f m).1 ++ ((mq_span q f m).2.1.reverse ++ (mq_span q f m).2.2.1)) := by
          unfold mq_trn
          dsimp only
          simp only [mq_flat_app]
          congr 2
          unfold mq_flat
          rw [List.flatMap_map]
          rfl
        rw [e]; exact q5
      · have e : (mq_trn q f m).1.length = ((mq_span q f m).1 ++ ((mq_span q f m).2.1.reverse ++ (mq_span q f m).2.2.1)).length := by
          unfold mq_trn
          dsimp only
          simp only [List.length_append, List.length_map]
        rw [e]; exact q6
      · dsimp only at hw1 hw2 hw3 ⊢
        unfold mq_trn mq_span
        dsimp only
        omega
    | cons k M2 ih =>
      intro M1 c T4 g1 g2 g3
      have hlen : M1.length + (M2.length + 1) = (mq_span q f m).2.1.length := by
        have := congrArg List.length g1
        simp at this
        omega
      refine b_X1_turnSpan_25 (fun _ => by omega) (fun _ => ih (M1 ++ [k]) _ _ (by simpa using g1) (by simp; omega) ?_)
      have e1 : T4 c = k.2.1 := by
        have := g3 ((mq_span q f m).1.length + M1.length) k.2.1 (by simp)
        rw [show (((mq_span q f m).1.length + M1.length : Nat) : Int) = c by omega] at this
        exact this
      have g4 := mq_al_up (X := (mq_span q f m).1.map (fun k => k.2.1) ++ (M1.map mq_flip).map (fun k => k.2.1)) (y := k.2.1) (Z := M2.map (fun k => k.2.1) ++ (mq_span q f m).2.2.1.map (fun k => k.2.1)) (x := 1 - T4 c) (f := T4) (by simpa using g3)
      rw [show (((mq_span q f m).1.map (fun k => k.2.1) ++ (M1.map mq_flip).map (fun k => k.2.1)).length : Int) = c by simp; omega] at g4
      rw [e1] at g4 ⊢
      simpa [mq_flip] using g4
  refine b_X1_turnSpan_22 (loop (mq_span q f m).2.1.reverse [] _ T3 rfl (by show ((mq_span q f m).1.length : Int) = ((mq_span q f m).1.length : Int) + (([] : List mq_K).length : Int); simp) ?_)
  have := hr3.2.2.1
  simpa using this
theorem mt_X1_turnSpan (l : Launch) : ab_MT l mi_X1_turnSpan sp_X1_turnSpan := ab_MT.of (own := "RootChunks$Row") (E := E_X1_turnSpan) (P := P_X1_turnSpan) (M := M_X1_turnSpan) (nL := 6) (ty := 9) (by decide) rfl rfl tk_X1 pk_X1_turnSpan ck_X1_turnSpan (ab_CT'.cons (mt_X1_cutAt l) (ab_CT'.cons (mt_X1_cutAt l) (ab_CT'.cons (mt_X1_reverseChunks l) ab_CT'.nil))) (fun av cs Q h => vc_X1_turnSpan h)

