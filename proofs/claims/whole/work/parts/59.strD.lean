/-! AN ORDER IS READ BY THE CLASS'S PAD -/
def mo_V (V : Int → Int) (o : mo_T) : Prop := V 0 = o.2.1 ∧ (¬ o.1 = 99 → V 1 = mo_b o.1 o.2.2.1 o.2.2.2) ∧ (o.1 = 97 ∨ o.1 = 109 ∨ o.1 = 114 → V 2 = o.2.2.2)
def sp_X0_readOrder : ab_Sp := fun av cs Q => ∃ (P V : Int → Int) (pl pp pk : Int) (l : List Int), av = [.inr (.inl (some 0))] ∧ cs = pd_cs (P, V, pl, pp, pk) ∧ mh_P P pl l ∧ mx_V V ∧ 0 ≤ pp ∧ pp ≤ 100 ∧
  (¬ (mp_ord l pp).1.2 = 1 → ∀ (V' : Int → Int) (pk' : Int), mx_V V' → Q (some (.inl 0)) (pd_cs (P, V', pl, (mp_ord l pp).1.1, pk'))) ∧
  ((mp_ord l pp).1.2 = 1 → ∀ V' : Int → Int, mx_V V' → mo_V V' (mp_ord l pp).2 → Q (some (.inl 1)) (pd_cs (P, V', pl, (mp_ord l pp).1.1, (mp_ord l pp).2.1)))
-- ===== RootChunks$Pad.readOrder
def P_X0_readOrder : List ab_I := [(0, .aload_n 0, 1, []), (1, .aload_n 0, 2, []), (2, .invokevirtual 38, 5, []), (5, .putfield 22, 8, []), (8, .aload_n 0, 9, []), (9, .getfield 22, 12, []), (12, .invokestatic 42, 15, []), (15, .astore_n 1, 16, []), (16, .iconst 0, 17, []), (17, .istore_n 2, 18, []), (18, .iconst 0, 19, []), (19, .istore_n 3, 20, []), (20, .iload_n 3, 21, []), (21, .aload_n 1, 22, []), (22, .invokevirtual 46, 25, []), (25, .if_icmp .ge 69, 28, [((0 : Int), 94)]), (28, .aload_n 1, 29, []), (29, .iload_n 3, 30, []), (30, .invokevirtual 51, 33, []), (33, .istore 4, 35, []), (35, .iload 4, 37, []), (37, .bipush 35, 39, []), (39, .if_icmp .eq 10, 42, [((0 : Int), 49)]), (42, .iload 4, 44, []), (44, .bipush 64, 46, []), (46, .if_icmp .ne 31, 49, [((0 : Int), 77)]), (49, .aload_n 0, 50, []), (50, .iload_n 2, 51, []), (51, .iload 4, 53, []), (53, .bipush 64, 55, []), (55, .if_icmp .ne 7, 58, [((0 : Int), 62)]), (58, .iconst 1, 59, []), (59, .goto 4, 62, [((0 : Int), 63)]), (62, .iconst 0, 63, []), (63, .invokevirtual 55, 66, []), (66, .ifCond .ne 5, 69, [((0 : Int), 71)]), (69, .iconst 0, 70, []), (70, .ireturn, 71, []), (71, .iinc 2 1, 74, []), (74, .goto 14, 77, [((0 : Int), 88)]), (77, .aload_n 0, 78, []), (78, .iload 4, 80, []), (80, .invokevirtual 34, 83, []), (83, .ifCond .ne 5, 86, [((0 : Int), 88)]), (86, .iconst 0, 87, []), (87, .ireturn, 88, []), (88, .iinc 3 1, 91, []), (91, .goto (-71), 94, [((0 : Int), 20)]), (94, .aload_n 1, 95, []), (95, .invokevirtual 59, 98, []), (98, .ifCond .ne 7, 101, [((0 : Int), 105)]), (101, .iconst 1, 102, []), (102, .goto 4, 105, [((0 : Int), 106)]), (105, .iconst 0, 106, []), (106, .ireturn, 107, [])]
def E_X0_readOrder : ab_E := (T_X0, [(2, (1, 0, [], 0, sp_X0_next)), (63, (3, 0, [], 0, sp_X0_readNumber)), (80, (2, 0, [], 0, sp_X0_skip))], [], 2)
def M_X0_readOrder : List (Nat × ab_MI) := [(2, mi_X0_next), (63, mi_X0_readNumber), (80, mi_X0_skip)]
def mi_X0_readOrder : ab_MI := (yX0_readOrder, cX0_readOrder, 5, ab_rty 2, 6, 151)
theorem pk_X0_readOrder : P_X0_readOrder.all (ab_okI cX0_readOrder) = true := by decide +kernel
theorem ck_X0_readOrder : (P_X0_readOrder.filter (fun q => !rx_sp q.1)).all (ab_okC1 "RootChunks$Pad" M_X0_readOrder E_X0_readOrder (6, 151)) = true := by decide +kernel
set_option maxRecDepth 100000 in
theorem b_X0_readOrder_0 {Q : ab_Q} {pP : Int → Int} {pV : Int → Int} {ppl : Int} {ppp : Int} {ppk : Int} (l1 : sp_X0_next [.inr (.inl (some 0))] (pd_cs (pP, pV, ppl, ppp, ppk)) (fun r_ k_ => ∃ (x_ : Int), r_ = some (.inl x_) ∧ k_ = (pd_cs (pP, pV, ppl, ppp, ppk)) ∧ rx_R E_X0_readOrder P_X0_readOrder Q 5 [some (.inr (.inl (some 0))), none, none, none, none] [.inl x_, .inr (.inl (some 0))] (pd_cs (pP, pV, ppl, ppp, ppk))))  : rx_R E_X0_readOrder P_X0_readOrder Q 0 [some (.inr (.inl (some 0))), none, none, none, none] [] (pd_cs (pP, pV, ppl, ppp, ppk)) :=
  rx_R.steps [5, 35, 66, 83] 4 (show ab_cl sp_X0_next [.inr (.inl (some 0))] (pd_cs (pP, pV, ppl, ppp, ppk)) (fun r_ k_ => k_.length = ((pd_cs (pP, pV, ppl, ppp, ppk))).length → rx_R E_X0_readOrder P_X0_readOrder Q 5 [some (.inr (.inl (some 0))), none, none, none, none] (ab_ret r_ [.inr (.inl (some 0))]) k_) from ⟨_, l1, fun r_ k_ hz _ => by obtain ⟨x_, rfl, rfl, hR⟩ := hz; exact hR⟩)
set_option maxRecDepth 100000 in
theorem b_X0_readOrder_5 {Q : ab_Q} {t0 : Int} {pP : Int → Int} {pV : Int → Int} {ppl : Int} {ppp : Int} {ppk : Int} (l1 : ((ab_sl.getD ((1000 + rx_shape t0) - 1000) 0 : Nat) : Int) ≤ (0 : Int) → ¬ (if ab_sl.getD ((1000 + rx_shape t0) - 1000) 0 = 0 then 1 else 0) = (0 : Int) → Q (some (.inl 0)) (pd_cs (pP, pV, ppl, ppp, t0))) (l2 : ((ab_sl.getD ((1000 + rx_shape t0) - 1000) 0 : Nat) : Int) ≤ (0 : Int) → (if ab_sl.getD ((1000 + rx_shape t0) - 1000) 0 = 0 then 1 else 0) = (0 : Int) → Q (some (.inl 1)) (pd_cs (pP, pV, ppl, ppp, t0))) (l3 : (0 : Int) < ((ab_sl.getD ((1000 + rx_shape t0) - 1000) 0 : Nat) : Int) → rx_R E_X0_readOrder P_X0_readOrder Q 35 [some (.inr (.inl (some 0))), some (.inr (.inl (some (1000 + rx_shape t0)))), some (.inl 0), some (.inl 0), some (.inl (rx_c ((1000 + rx_shape t0) - 1000) 0))] [] (pd_cs (pP, pV, ppl, ppp, t0))) (p1 : (0 ≤ t0 ∧ t0 < 65536) := by intros; (try unfold ab_r); omega) (p2 : ab_r t0 := by intros; (try unfold ab_r); omega) (p3 : (1000 ≤ (1000 + rx_shape t0) ∧ (1000 + rx_shape t0) < 1008) := by intros; (try unfold ab_r); omega) (p4 : (ab_r 0 ∧ ab_r ((ab_sl.getD ((1000 + rx_shape t0) - 1000) 0 : Nat) : Int)) := by intros; (try unfold ab_r); omega) (p5 : ((ab_sl.getD ((1000 + rx_shape t0) - 1000) 0 : Nat) : Int) ≤ (0 : Int) → (1000 ≤ (1000 + rx_shape t0) ∧ (1000 + rx_shape t0) < 1008) := by intros; (try unfold ab_r); omega) (p6 : ((ab_sl.getD ((1000 + rx_shape t0) - 1000) 0 : Nat) : Int) ≤ (0 : Int) → ab_r (if ab_sl.getD ((1000 + rx_shape t0) - 1000) 0 = 0 then 1 else 0) := by intros; (try unfold ab_r); omega) (p7 : ((ab_sl.getD ((1000 + rx_shape t0) - 1000) 0 : Nat) : Int) ≤ (0 : Int) → ¬ (if ab_sl.getD ((1000 + rx_shape t0) - 1000) 0 = 0 then 1 else 0) = (0 : Int) → ((0 : Int) = 0 ∨ (0 : Int) = 1) := by intros; (try unfold ab_r); omega) (p8 : ((ab_sl.getD ((1000 + rx_shape t0) - 1000) 0 : Nat) : Int) ≤ (0 : Int) → (if ab_sl.getD ((1000 + rx_shape t0) - 1000) 0 = 0 then 1 else 0) = (0 : Int) → ((1 : Int) = 0 ∨ (1 : Int) = 1) := by intros; (try unfold ab_r); omega) (p9 : (0 : Int) < ((ab_sl.getD ((1000 + rx_shape t0) - 1000) 0 : Nat) : Int) → (1000 ≤ (1000 + rx_shape t0) ∧ (1000 + rx_shape t0) < 1008 ∧ 0 ≤ (0 : Int) ∧ (0 : Int) < ((ab_sl.getD ((1000 + rx_shape t0) - 1000) 0 : Nat) : Int)) := by intros; (try unfold ab_r); omega) : rx_R E_X0_readOrder P_X0_readOrder Q 5 [some (.inr (.inl (some 0))), none, none, none, none] [.inl t0, .inr (.inl (some 0))] (pd_cs (pP, pV, ppl, ppp, ppk)) :=
  rx_R.steps [5, 35, 66, 83] 20 (show ((0 ≤ t0 ∧ t0 < 65536) ∧ (ab_r t0 ∧ ((1000 ≤ (1000 + rx_shape t0) ∧ (1000 + rx_shape t0) < 1008) ∧ ((ab_r 0 ∧ ab_r ((ab_sl.getD ((1000 + rx_shape t0) - 1000) 0 : Nat) : Int)) ∧ ((((ab_sl.getD ((1000 + rx_shape t0) - 1000) 0 : Nat) : Int) ≤ (0 : Int) → ((1000 ≤ (1000 + rx_shape t0) ∧ (1000 + rx_shape t0) < 1008) ∧ (ab_r (if ab_sl.getD ((1000 + rx_shape t0) - 1000) 0 = 0 then 1 else 0) ∧ ((¬ (if ab_sl.getD ((1000 + rx_shape t0) - 1000) 0 = 0 then 1 else 0) = (0 : Int) → (((0 : Int) = 0 ∨ (0 : Int) = 1) ∧ Q (some (.inl 0)) (pd_cs (pP, pV, ppl, ppp, t0)))) ∧ ((if ab_sl.getD ((1000 + rx_shape t0) - 1000) 0 = 0 then 1 else 0) = (0 : Int) → (((1 : Int) = 0 ∨ (1 : Int) = 1) ∧ Q (some (.inl 1)) (pd_cs (pP, pV, ppl, ppp, t0)))))))) ∧ ((0 : Int) < ((ab_sl.getD ((1000 + rx_shape t0) - 1000) 0 : Nat) : Int) → ((1000 ≤ (1000 + rx_shape t0) ∧ (1000 + rx_shape t0) < 1008 ∧ 0 ≤ (0 : Int) ∧ (0 : Int) < ((ab_sl.getD ((1000 + rx_shape t0) - 1000) 0 : Nat) : Int)) ∧ rx_R E_X0_readOrder P_X0_readOrder Q 35 [some (.inr (.inl (some 0))), some (.inr (.inl (some (1000 + rx_shape t0)))), some (.inl 0), some (.inl 0), some (.inl (rx_c ((1000 + rx_shape t0) - 1000) 0))] [] (pd_cs (pP, pV, ppl, ppp, t0))))))))) from ⟨p1, ⟨p2, ⟨p3, ⟨p4, ⟨fun h1 => ⟨(p5 h1), ⟨(p6 h1), ⟨fun h2 => ⟨(p7 h1 h2), (l1 h1 h2)⟩, fun h3 => ⟨(p8 h1 h3), (l2 h1 h3)⟩⟩⟩⟩, fun h4 => ⟨(p9 h4), (l3 h4)⟩⟩⟩⟩⟩⟩)
set_option maxRecDepth 100000 in
theorem b_X0_readOrder_35 {Q : ab_Q} {w1 : Nat} {nu : Int} {i : Int} {ch : Int} {pP : Int → Int} {pV : Int → Int} {ppl : Int} {ppp : Int} {ppk : Int} (l1 : ch = (35 : Int) → ¬ ch = (64 : Int) → sp_X0_readNumber [.inr (.inl (some 0)), .inl nu, .inl 0] (pd_cs (pP, pV, ppl, ppp, ppk)) (fun r_ k_ => ∃ (x_ : Int), ∃ (p' : pd_T), r_ = some (.inl x_) ∧ k_ = (pd_cs p') ∧ rx_R E_X0_readOrder P_X0_readOrder Q 66 [some (.inr (.inl (some 0))), some (.inr (.inl (some w1))), some (.inl nu), some (.inl i), some (.inl ch)] [.inl x_] (pd_cs p'))) (l2 : ch = (35 : Int) → ch = (64 : Int) → sp_X0_readNumber [.inr (.inl (some 0)), .inl nu, .inl 1] (pd_cs (pP, pV, ppl, ppp, ppk)) (fun r_ k_ => ∃ (x_ : Int), ∃ (p' : pd_T), r_ = some (.inl x_) ∧ k_ = (pd_cs p') ∧ rx_R E_X0_readOrder P_X0_readOrder Q 66 [some (.inr (.inl (some 0))), some (.inr (.inl (some w1))), some (.inl nu), some (.inl i), some (.inl ch)] [.inl x_] (pd_cs p'))) (l3 : ¬ ch = (35 : Int) → ¬ ch = (64 : Int) → sp_X0_skip [.inr (.inl (some 0)), .inl ch] (pd_cs (pP, pV, ppl, ppp, ppk)) (fun r_ k_ => ∃ (x_ : Int), ∃ (p' : pd_T), r_ = some (.inl x_) ∧ k_ = (pd_cs p') ∧ rx_R E_X0_readOrder P_X0_readOrder Q 83 [some (.inr (.inl (some 0))), some (.inr (.inl (some w1))), some (.inl nu), some (.inl i), some (.inl ch)] [.inl x_] (pd_cs p'))) (l4 : ¬ ch = (35 : Int) → ch = (64 : Int) → ¬ ch = (64 : Int) → sp_X0_readNumber [.inr (.inl (some 0)), .inl nu, .inl 0] (pd_cs (pP, pV, ppl, ppp, ppk)) (fun r_ k_ => ∃ (x_ : Int), ∃ (p' : pd_T), r_ = some (.inl x_) ∧ k_ = (pd_cs p') ∧ rx_R E_X0_readOrder P_X0_readOrder Q 66 [some (.inr (.inl (some 0))), some (.inr (.inl (some w1))), some (.inl nu), some (.inl i), some (.inl ch)] [.inl x_] (pd_cs p'))) (l5 : ¬ ch = (35 : Int) → ch = (64 : Int) → ch = (64 : Int) → sp_X0_readNumber [.inr (.inl (some 0)), .inl nu, .inl 1] (pd_cs (pP, pV, ppl, ppp, ppk)) (fun r_ k_ => ∃ (x_ : Int), ∃ (p' : pd_T), r_ = some (.inl x_) ∧ k_ = (pd_cs p') ∧ rx_R E_X0_readOrder P_X0_readOrder Q 66 [some (.inr (.inl (some 0))), some (.inr (.inl (some w1))), some (.inl nu), some (.inl i), some (.inl ch)] [.inl x_] (pd_cs p'))) (p1 : (ab_r ch ∧ ab_r 35) := by intros; (try unfold ab_r); omega) (p2 : ch = (35 : Int) → (ab_r ch ∧ ab_r 64) := by intros; (try unfold ab_r); omega) (p3 : ¬ ch = (35 : Int) → (ab_r ch ∧ ab_r 64) := by intros; (try unfold ab_r); omega) (p4 : ¬ ch = (35 : Int) → ch = (64 : Int) → (ab_r ch ∧ ab_r 64) := by intros; (try unfold ab_r); omega) : rx_R E_X0_readOrder P_X0_readOrder Q 35 [some (.inr (.inl (some 0))), some (.inr (.inl (some w1))), some (.inl nu), some (.inl i), some (.inl ch)] [] (pd_cs (pP, pV, ppl, ppp, ppk)) :=
  rx_R.steps [5, 35, 66, 83] 15 (show ((ab_r ch ∧ ab_r 35) ∧ ((ch = (35 : Int) → ((ab_r ch ∧ ab_r 64) ∧ ((¬ ch = (64 : Int) → ab_cl sp_X0_readNumber [.inr (.inl (some 0)), .inl nu, .inl 0] (pd_cs (pP, pV, ppl, ppp, ppk)) (fun r_ k_ => k_.length = ((pd_cs (pP, pV, ppl, ppp, ppk))).length → rx_R E_X0_readOrder P_X0_readOrder Q 66 [some (.inr (.inl (some 0))), some (.inr (.inl (some w1))), some (.inl nu), some (.inl i), some (.inl ch)] (ab_ret r_ []) k_)) ∧ (ch = (64 : Int) → ab_cl sp_X0_readNumber [.inr (.inl (some 0)), .inl nu, .inl 1] (pd_cs (pP, pV, ppl, ppp, ppk)) (fun r_ k_ => k_.length = ((pd_cs (pP, pV, ppl, ppp, ppk))).length → rx_R E_X0_readOrder P_X0_readOrder Q 66 [some (.inr (.inl (some 0))), some (.inr (.inl (some w1))), some (.inl nu), some (.inl i), some (.inl ch)] (ab_ret r_ []) k_))))) ∧ (¬ ch = (35 : Int) → ((ab_r ch ∧ ab_r 64) ∧ ((¬ ch = (64 : Int) → ab_cl sp_X0_skip [.inr (.inl (some 0)), .inl ch] (pd_cs (pP, pV, ppl, ppp, ppk)) (fun r_ k_ => k_.length = ((pd_cs (pP, pV, ppl, ppp, ppk))).length → rx_R E_X0_readOrder P_X0_readOrder Q 83 [some (.inr (.inl (some 0))), some (.inr (.inl (some w1))), some (.inl nu), some (.inl i), some (.inl ch)] (ab_ret r_ []) k_)) ∧ (ch = (64 : Int) → ((ab_r ch ∧ ab_r 64) ∧ ((¬ ch = (64 : Int) → ab_cl sp_X0_readNumber [.inr (.inl (some 0)), .inl nu, .inl 0] (pd_cs (pP, pV, ppl, ppp, ppk)) (fun r_ k_ => k_.length = ((pd_cs (pP, pV, ppl, ppp, ppk))).length → rx_R E_X0_readOrder P_X0_readOrder Q 66 [some (.inr (.inl (some 0))), some (.inr (.inl (some w1))), some (.inl nu), some (.inl i), some (.inl ch)] (ab_ret r_ []) k_)) ∧ (ch = (64 : Int) → ab_cl sp_X0_readNumber [.inr (.inl (some 0)), .inl nu, .inl 1] (pd_cs (pP, pV, ppl, ppp, ppk)) (fun r_ k_ => k_.length = ((pd_cs (pP, pV, ppl, ppp, ppk))).length → rx_R E_X0_readOrder P_X0_readOrder Q 66 [some (.inr (.inl (some 0))), some (.inr (.inl (some w1))), some (.inl nu), some (.inl i), some (.inl ch)] (ab_ret r_ []) k_)))))))))) from ⟨p1, ⟨fun h1 => ⟨(p2 h1), ⟨fun h2 => ⟨_, (l1 h1 h2), fun r_ k_ hz _ => by obtain ⟨x_, p', rfl, rfl, hR⟩ := hz; exact hR⟩, fun h3 => ⟨_, (l2 h1 h3), fun r_ k_ hz _ => by obtain ⟨x_, p', rfl, rfl, hR⟩ := hz; exact hR⟩⟩⟩, fun h4 => ⟨(p3 h4), ⟨fun h5 => ⟨_, (l3 h4 h5), fun r_ k_ hz _ => by obtain ⟨x_, p', rfl, rfl, hR⟩ := hz; exact hR⟩, fun h6 => ⟨(p4 h4 h6), ⟨fun h7 => ⟨_, (l4 h4 h6 h7), fun r_ k_ hz _ => by obtain ⟨x_, p', rfl, rfl, hR⟩ := hz; exact hR⟩, fun h8 => ⟨_, (l5 h4 h6 h8), fun r_ k_ hz _ => by obtain ⟨x_, p', rfl, rfl, hR⟩ := hz; exact hR⟩⟩⟩⟩⟩⟩⟩)
set_option maxRecDepth 100000 in
theorem b_X0_readOrder_66 {Q : ab_Q} {w1 : Nat} {nu : Int} {i : Int} {ch : Int} {t0 : Int} {pP : Int → Int} {pV : Int → Int} {ppl : Int} {ppp : Int} {ppk : Int} (l1 : ¬ t0 = (0 : Int) → ((ab_sl.getD (w1 - 1000) 0 : Nat) : Int) ≤ (i + 1) → ¬ (if ab_sl.getD (w1 - 1000) 0 = 0 then 1 else 0) = (0 : Int) → Q (some (.inl 0)) (pd_cs (pP, pV, ppl, ppp, ppk))) (l2 : ¬ t0 = (0 : Int) → ((ab_sl.getD (w1 - 1000) 0 : Nat) : Int) ≤ (i + 1) → (if ab_sl.getD (w1 - 1000) 0 = 0 then 1 else 0) = (0 : Int) → Q (some (.inl 1)) (pd_cs (pP, pV, ppl, ppp, ppk))) (l3 : ¬ t0 = (0 : Int) → (i + 1) < ((ab_sl.getD (w1 - 1000) 0 : Nat) : Int) → rx_R E_X0_readOrder P_X0_readOrder Q 35 [some (.inr (.inl (some 0))), some (.inr (.inl (some w1))), some (.inl (nu + 1)), some (.inl (i + 1)), some (.inl (rx_c (w1 - 1000) (i + 1)))] [] (pd_cs (pP, pV, ppl, ppp, ppk))) (l4 : t0 = (0 : Int) → Q (some (.inl 0)) (pd_cs (pP, pV, ppl, ppp, ppk))) (p1 : ab_r t0 := by intros; (try unfold ab_r); omega) (p2 : ¬ t0 = (0 : Int) → (1000 ≤ w1 ∧ w1 < 1008) := by intros; (try unfold ab_r); omega) (p3 : ¬ t0 = (0 : Int) → (ab_r (i + 1) ∧ ab_r ((ab_sl.getD (w1 - 1000) 0 : Nat) : Int)) := by intros; (try unfold ab_r); omega) (p4 : ¬ t0 = (0 : Int) → ((ab_sl.getD (w1 - 1000) 0 : Nat) : Int) ≤ (i + 1) → (1000 ≤ w1 ∧ w1 < 1008) := by intros; (try unfold ab_r); omega) (p5 : ¬ t0 = (0 : Int) → ((ab_sl.getD (w1 - 1000) 0 : Nat) : Int) ≤ (i + 1) → ab_r (if ab_sl.getD (w1 - 1000) 0 = 0 then 1 else 0) := by intros; (try unfold ab_r); omega) (p6 : ¬ t0 = (0 : Int) → ((ab_sl.getD (w1 - 1000) 0 : Nat) : Int) ≤ (i + 1) → ¬ (if ab_sl.getD (w1 - 1000) 0 = 0 then 1 else 0) = (0 : Int) → ((0 : Int) = 0 ∨ (0 : Int) = 1) := by intros; (try unfold ab_r); omega) (p7 : ¬ t0 = (0 : Int) → ((ab_sl.getD (w1 - 1000) 0 : Nat) : Int) ≤ (i + 1) → (if ab_sl.getD (w1 - 1000) 0 = 0 then 1 else 0) = (0 : Int) → ((1 : Int) = 0 ∨ (1 : Int) = 1) := by intros; (try unfold ab_r); omega) (p8 : ¬ t0 = (0 : Int) → (i + 1) < ((ab_sl.getD (w1 - 1000) 0 : Nat) : Int) → (1000 ≤ w1 ∧ w1 < 1008 ∧ 0 ≤ (i + 1) ∧ (i + 1) < ((ab_sl.getD (w1 - 1000) 0 : Nat) : Int)) := by intros; (try unfold ab_r); omega) (p9 : t0 = (0 : Int) → ((0 : Int) = 0 ∨ (0 : Int) = 1) := by intros; (try unfold ab_r); omega) : rx_R E_X0_readOrder P_X0_readOrder Q 66 [some (.inr (.inl (some 0))), some (.inr (.inl (some w1))), some (.inl nu), some (.inl i), some (.inl ch)] [.inl t0] (pd_cs (pP, pV, ppl, ppp, ppk)) :=
  rx_R.steps [5, 35, 66, 83] 16 (show (ab_r t0 ∧ ((¬ t0 = (0 : Int) → ((1000 ≤ w1 ∧ w1 < 1008) ∧ ((ab_r (i + 1) ∧ ab_r ((ab_sl.getD (w1 - 1000) 0 : Nat) : Int)) ∧ ((((ab_sl.getD (w1 - 1000) 0 : Nat) : Int) ≤ (i + 1) → ((1000 ≤ w1 ∧ w1 < 1008) ∧ (ab_r (if ab_sl.getD (w1 - 1000) 0 = 0 then 1 else 0) ∧ ((¬ (if ab_sl.getD (w1 - 1000) 0 = 0 then 1 else 0) = (0 : Int) → (((0 : Int) = 0 ∨ (0 : Int) = 1) ∧ Q (some (.inl 0)) (pd_cs (pP, pV, ppl, ppp, ppk)))) ∧ ((if ab_sl.getD (w1 - 1000) 0 = 0 then 1 else 0) = (0 : Int) → (((1 : Int) = 0 ∨ (1 : Int) = 1) ∧ Q (some (.inl 1)) (pd_cs (pP, pV, ppl, ppp, ppk)))))))) ∧ ((i + 1) < ((ab_sl.getD (w1 - 1000) 0 : Nat) : Int) → ((1000 ≤ w1 ∧ w1 < 1008 ∧ 0 ≤ (i + 1) ∧ (i + 1) < ((ab_sl.getD (w1 - 1000) 0 : Nat) : Int)) ∧ rx_R E_X0_readOrder P_X0_readOrder Q 35 [some (.inr (.inl (some 0))), some (.inr (.inl (some w1))), some (.inl (nu + 1)), some (.inl (i + 1)), some (.inl (rx_c (w1 - 1000) (i + 1)))] [] (pd_cs (pP, pV, ppl, ppp, ppk)))))))) ∧ (t0 = (0 : Int) → (((0 : Int) = 0 ∨ (0 : Int) = 1) ∧ Q (some (.inl 0)) (pd_cs (pP, pV, ppl, ppp, ppk)))))) from ⟨p1, ⟨fun h1 => ⟨(p2 h1), ⟨(p3 h1), ⟨fun h2 => ⟨(p4 h1 h2), ⟨(p5 h1 h2), ⟨fun h3 => ⟨(p6 h1 h2 h3), (l1 h1 h2 h3)⟩, fun h4 => ⟨(p7 h1 h2 h4), (l2 h1 h2 h4)⟩⟩⟩⟩, fun h5 => ⟨(p8 h1 h5), (l3 h1 h5)⟩⟩⟩⟩, fun h6 => ⟨(p9 h6), (l4 h6)⟩⟩⟩)
set_option maxRecDepth 100000 in
theorem b_X0_readOrder_83 {Q : ab_Q} {w1 : Nat} {nu : Int} {i : Int} {ch : Int} {t0 : Int} {pP : Int → Int} {pV : Int → Int} {ppl : Int} {ppp : Int} {ppk : Int} (l1 : ¬ t0 = (0 : Int) → ((ab_sl.getD (w1 - 1000) 0 : Nat) : Int) ≤ (i + 1) → ¬ (if ab_sl.getD (w1 - 1000) 0 = 0 then 1 else 0) = (0 : Int) → Q (some (.inl 0)) (pd_cs (pP, pV, ppl, ppp, ppk))) (l2 : ¬ t0 = (0 : Int) → ((ab_sl.getD (w1 - 1000) 0 : Nat) : Int) ≤ (i + 1) → (if ab_sl.getD (w1 - 1000) 0 = 0 then 1 else 0) = (0 : Int) → Q (some (.inl 1)) (pd_cs (pP, pV, ppl, ppp, ppk))) (l3 : ¬ t0 = (0 : Int) → (i + 1) < ((ab_sl.getD (w1 - 1000) 0 : Nat) : Int) → rx_R E_X0_readOrder P_X0_readOrder Q 35 [some (.inr (.inl (some 0))), some (.inr (.inl (some w1))), some (.inl nu), some (.inl (i + 1)), some (.inl (rx_c (w1 - 1000) (i + 1)))] [] (pd_cs (pP, pV, ppl, ppp, ppk))) (l4 : t0 = (0 : Int) → Q (some (.inl 0)) (pd_cs (pP, pV, ppl, ppp, ppk))) (p1 : ab_r t0 := by intros; (try unfold ab_r); omega) (p2 : ¬ t0 = (0 : Int) → (1000 ≤ w1 ∧ w1 < 1008) := by intros; (try unfold ab_r); omega) (p3 : ¬ t0 = (0 : Int) → (ab_r (i + 1) ∧ ab_r ((ab_sl.getD (w1 - 1000) 0 : Nat) : Int)) := by intros; (try unfold ab_r); omega) (p4 : ¬ t0 = (0 : Int) → ((ab_sl.getD (w1 - 1000) 0 : Nat) : Int) ≤ (i + 1) → (1000 ≤ w1 ∧ w1 < 1008) := by intros; (try unfold ab_r); omega) (p5 : ¬ t0 = (0 : Int) → ((ab_sl.getD (w1 - 1000) 0 : Nat) : Int) ≤ (i + 1) → ab_r (if ab_sl.getD (w1 - 1000) 0 = 0 then 1 else 0) := by intros; (try unfold ab_r); omega) (p6 : ¬ t0 = (0 : Int) → ((ab_sl.getD (w1 - 1000) 0 : Nat) : Int) ≤ (i + 1) → ¬ (if ab_sl.getD (w1 - 1000) 0 = 0 then 1 else 0) = (0 : Int) → ((0 : Int) = 0 ∨ (0 : Int) = 1) := by intros; (try unfold ab_r); omega) (p7 : ¬ t0 = (0 : Int) → ((ab_sl.getD (w1 - 1000) 0 : Nat) : Int) ≤ (i + 1) → (if ab_sl.getD (w1 - 1000) 0 = 0 then 1 else 0) = (0 : Int) → ((1 : Int) = 0 ∨ (1 : Int) = 1) := by intros; (try unfold ab_r); omega) (p8 : ¬ t0 = (0 : Int) → (i + 1) < ((ab_sl.getD (w1 - 1000) 0 : Nat) : Int) → (1000 ≤ w1 ∧ w1 < 1008 ∧ 0 ≤ (i + 1) ∧ (i + 1) < ((ab_sl.getD (w1 - 1000) 0 : Nat) : Int)) := by intros; (try unfold ab_r); omega) (p9 : t0 = (0 : Int) → ((0 : Int) = 0 ∨ (0 : Int) = 1) := by intros; (try unfold ab_r); omega) : rx_R E_X0_readOrder P_X0_readOrder Q 83 [some (.inr (.inl (some 0))), some (.inr (.inl (some w1))), some (.inl nu), some (.inl i), some (.inl ch)] [.inl t0] (pd_cs (pP, pV, ppl, ppp, ppk)) :=
  rx_R.steps [5, 35, 66, 83] 14 (show (ab_r t0 ∧ ((¬ t0 = (0 : Int) → ((1000 ≤ w1 ∧ w1 < 1008) ∧ ((ab_r (i + 1) ∧ ab_r ((ab_sl.getD (w1 - 1000) 0 : Nat) : Int)) ∧ ((((ab_sl.getD (w1 - 1000) 0 : Nat) : Int) ≤ (i + 1) → ((1000 ≤ w1 ∧ w1 < 1008) ∧ (ab_r (if ab_sl.getD (w1 - 1000) 0 = 0 then 1 else 0) ∧ ((¬ (if ab_sl.getD (w1 - 1000) 0 = 0 then 1 else 0) = (0 : Int) → (((0 : Int) = 0 ∨ (0 : Int) = 1) ∧ Q (some (.inl 0)) (pd_cs (pP, pV, ppl, ppp, ppk)))) ∧ ((if ab_sl.getD (w1 - 1000) 0 = 0 then 1 else 0) = (0 : Int) → (((1 : Int) = 0 ∨ (1 : Int) = 1) ∧ Q (some (.inl 1)) (pd_cs (pP, pV, ppl, ppp, ppk)))))))) ∧ ((i + 1) < ((ab_sl.getD (w1 - 1000) 0 : Nat) : Int) → ((1000 ≤ w1 ∧ w1 < 1008 ∧ 0 ≤ (i + 1) ∧ (i + 1) < ((ab_sl.getD (w1 - 1000) 0 : Nat) : Int)) ∧ rx_R E_X0_readOrder P_X0_readOrder Q 35 [some (.inr (.inl (some 0))), some (.inr (.inl (some w1))), some (.inl nu), some (.inl (i + 1)), some (.inl (rx_c (w1 - 1000) (i + 1)))] [] (pd_cs (pP, pV, ppl, ppp, ppk)))))))) ∧ (t0 = (0 : Int) → (((0 : Int) = 0 ∨ (0 : Int) = 1) ∧ Q (some (.inl 0)) (pd_cs (pP, pV, ppl, ppp, ppk)))))) from ⟨p1, ⟨fun h1 => ⟨(p2 h1), ⟨(p3 h1), ⟨fun h2 => ⟨(p4 h1 h2), ⟨(p5 h1 h2), ⟨fun h3 => ⟨(p6 h1 h2 h3), (l1 h1 h2 h3)⟩, fun h4 => ⟨(p7 h1 h2 h4), (l2 h1 h2 h4)⟩⟩⟩⟩, fun h5 => ⟨(p8 h1 h5), (l3 h1 h5)⟩⟩⟩⟩, fun h6 => ⟨(p9 h6), (l4 h6)⟩⟩⟩)
/-! the texts, and what reading by them gives -/
def rx_l : Nat → List Int
  | 0 => [112, 117, 116, 35, 61, 64]
  | 1 => [99, 117, 116, 35]
  | 2 => [115, 101, 116, 35, 61, 64]
  | 3 => [116, 117, 114, 110, 35, 45, 35]
  | 4 => [97, 100, 100, 35, 45, 35, 61, 64]
  | 5 => [109, 111, 118, 101, 35, 45, 35, 62, 35]
  | 6 => [114, 111, 108, 108, 35, 45, 35, 61, 64]
  | _ => []
theorem rx_l_len : ∀ j < 8, (rx_l j).length = ab_sl.getD j 0 := by decide
theorem rx_l_c : ∀ j < 8, ∀ i < ab_sl.getD j 0, rx_c j (i : Int) = (rx_l j).getD i 0 := by decide +kernel
theorem rx_l_in : ∀ j < 8, ∀ c ∈ rx_l j, 0 ≤ c ∧ c ≤ 126 := by decide
abbrev rx_nm (c : Int) : Prop := c = 35 ∨ c = 64
def rx_k (l : List Int) : Nat := l.countP (fun c => decide (rx_nm c))
theorem rx_l_k : ∀ j < 8, rx_k (rx_l j) ≤ 3 := by decide
def rx_sg (c : Int) : Int := if c = 64 then 1 else 0
def rx_run (p : List Int) : List Int → Int × Int → List Int → (Int × Int) × List Int
  | [], x, vs => (x, vs)
  | c :: l, x, vs => if rx_nm c then (if (mp_rn p (rx_sg c) x.1).1.2 = 1 then rx_run p l (mp_rn p (rx_sg c) x.1).1 (vs ++ [(mp_rn p (rx_sg c) x.1).2]) else ((mp_rn p (rx_sg c) x.1).1, vs)) else (if (mp_ch p c x).2 = 1 then rx_run p l (mp_ch p c x) vs else (mp_ch p c x, vs))
/-- the same without an early end -/
def rx_r2 (p : List Int) : List Int → Int × Int → List Int → (Int × Int) × List Int
  | [], x, vs => (x, vs)
  | c :: l, x, vs => if rx_nm c then rx_r2 p l (if c = 64 then mp_val p x else mp_num p x).1 (vs ++ [(if c = 64 then mp_val p x else mp_num p x).2]) else rx_r2 p l (mp_ch p c x) vs
theorem rx_01 : ¬ (0 : Int) = 1 := by decide
theorem rx_10 : ¬ (1 : Int) = 0 := by decide
theorem rx_num_0 (p : List Int) (i : Int) : mp_num p (i, 0) = ((i, 0), 0) := by
  unfold mp_num; dsimp only; rw [if_neg rx_01]
theorem rx_val_0 (p : List Int) (i : Int) : mp_val p (i, 0) = ((i, 0), 0) := by
  unfold mp_val; dsimp only; rw [if_neg (fun h => rx_01 h.1), rx_num_0]
theorem rx_ch_0 (p : List Int) (c i : Int) : mp_ch p c (i, 0) = (i, 0) := by
  unfold mp_ch; dsimp only; rw [if_neg (fun h => rx_01 h.1)]
theorem rx_r2_0 (p : List Int) : ∀ (l : List Int) (i : Int) (vs : List Int), (rx_r2 p l (i, 0) vs).1 = (i, 0)
  | [], i, vs => rfl
  | c :: l, i, vs => by
    unfold rx_r2
    rw [rx_num_0, rx_val_0, rx_ch_0]
    split
    · rw [show (if c = 64 then (((i, 0), 0) : (Int × Int) × Int) else ((i, 0), 0)) = ((i, 0), 0) by split <;> rfl]
      exact rx_r2_0 p l i _
    · exact rx_r2_0 p l i vs
theorem rx_ok2 {x : Int × Int} (h : x.2 = 0 ∨ x.2 = 1) (h1 : ¬ x.2 = 1) : x = (x.1, 0) := by
  obtain ⟨a, b⟩ := x
  dsimp only at h h1
  rw [show b = 0 by omega]
theorem rx_on {x : Int × Int} (h : x.2 = 1) : x = (x.1, 1) := by
  obtain ⟨a, b⟩ := x
  dsimp only at h
  rw [h]
theorem rx_num_fl (p : List Int) (x : Int × Int) : (mp_num p x).1.2 = 0 ∨ (mp_num p x).1.2 = 1 := by
  unfold mp_num
  split
  · cases mp_nm p x.1 with
    | none => exact Or.inl rfl
    | some r => exact Or.inr rfl
  · exact Or.inl rfl
theorem rx_val_fl (p : List Int) (x : Int × Int) : (mp_val p x).1.2 = 0 ∨ (mp_val p x).1.2 = 1 := by
  unfold mp_val
  split
  · exact rx_num_fl p _
  · exact rx_num_fl p _
theorem rx_ch_fl (p : List Int) (c : Int) (x : Int × Int) : (mp_ch p c x).2 = 0 ∨ (mp_ch p c x).2 = 1 := by
  unfold mp_ch
  split
  · exact Or.inr rfl
  · exact Or.inl rfl
theorem rx_rn_is (p : List Int) (c i : Int) : mp_rn p (rx_sg c) i = if c = 64 then mp_val p (i, 1) else mp_num p (i, 1) := by
  unfold mp_rn rx_sg
  by_cases h : c = 64
  · rw [if_pos h, if_pos h, if_pos rfl]
  · rw [if_neg h, if_neg h, if_neg (by decide)]
theorem rx_same (p : List Int) : ∀ (l : List Int) (i : Int) (vs : List Int), (rx_run p l (i, 1) vs).1 = (rx_r2 p l (i, 1) vs).1 ∧ ((rx_run p l (i, 1) vs).1.2 = 1 → (rx_run p l (i, 1) vs).2 = (rx_r2 p l (i, 1) vs).2)
  | [], i, vs => ⟨rfl, fun _ => rfl⟩
  | c :: l, i, vs => by
    unfold rx_run rx_r2
    by_cases h : rx_nm c
    · rw [if_pos h, if_pos h, rx_rn_is]
      dsimp only
      have hfl : (if c = 64 then mp_val p (i, 1) else mp_num p (i, 1)).1.2 = 0 ∨ (if c = 64 then mp_val p (i, 1) else mp_num p (i, 1)).1.2 = 1 := by
        split
        · exact rx_val_fl p _
        · exact rx_num_fl p _
      generalize (if c = 64 then mp_val p (i, 1) else mp_num p (i, 1)) = y at hfl ⊢
      obtain ⟨⟨i2, f2⟩, v2⟩ := y
      dsimp only at hfl ⊢
      rcases hfl with rfl | rfl
      · rw [if_neg rx_01, rx_r2_0]
        exact ⟨rfl, fun h => absurd h rx_01⟩
      · rw [if_pos rfl]
        exact rx_same p l i2 _
    · rw [if_neg h, if_neg h]
      have hfl := rx_ch_fl p c (i, 1)
      generalize mp_ch p c (i, 1) = y at hfl ⊢
      obtain ⟨i2, f2⟩ := y
      dsimp only at hfl ⊢
      rcases hfl with rfl | rfl
      · rw [if_neg rx_01, rx_r2_0]
        exact ⟨rfl, fun h => absurd h rx_01⟩
      · rw [if_pos rfl]
        exact rx_same p l i2 _
def rx_holds (V : Int → Int) (vs : List Int) : Prop := ∀ (m : Nat) (v : Int), vs[m]? = some v → V m = v
/-- what the texts give is the order -/
theorem rx_ord {p : List Int} {i : Int} (hk : mp_is (mp_nx p i)) : (rx_run p (rx_l (rx_shape (mp_nx p i))) (i, 1) []).1 = (mp_ord p i).1 ∧ ∀ V : Int → Int, (mp_ord p i).1.2 = 1 → rx_holds V (rx_run p (rx_l (rx_shape (mp_nx p i))) (i, 1) []).2 → mo_V V (mp_ord p i).2 := by
  have hs := rx_same p (rx_l (rx_shape (mp_nx p i))) i []
  have key : (rx_r2 p (rx_l (rx_shape (mp_nx p i))) (i, 1) []).1 = (mp_ord p i).1 ∧ ∀ V : Int → Int, rx_holds V (rx_r2 p (rx_l (rx_shape (mp_nx p i))) (i, 1) []).2 → mo_V V (mp_ord p i).2 := by
    clear hs
    have hc : ∀ c : Int, mp_nx p i = c → mp_ch p c (i, 1) = (i + 1, 1) := fun c h => by unfold mp_ch; rw [if_pos ⟨rfl, h⟩]
    unfold mp_ord
    rw [if_pos hk]
    unfold mp_is at hk
    have h0 : ∀ {V : Int → Int} {a : Int} {l : List Int}, rx_holds V (a :: l) → V 0 = a := fun h => h 0 _ rfl
    have h1 : ∀ {V : Int → Int} {a b : Int} {l : List Int}, rx_holds V (a :: b :: l) → V 1 = b := fun h => h 1 _ rfl
    have h2 : ∀ {V : Int → Int} {a b c : Int} {l : List Int}, rx_holds V (a :: b :: c :: l) → V 2 = c := fun h => h 2 _ rfl
    rcases hk with hk | hk | hk | hk | hk | hk | hk
    · rw [hk]
      have e : rx_r2 p (rx_l (rx_shape 112)) (i, 1) [] = rx_r2 p [117, 116, 35, 61, 64] (mp_ch p 112 (i, 1)) [] := rfl
      rw [e, hc 112 hk]
      exact ⟨rfl, fun V h => ⟨h0 h, fun _ => h1 h, fun q => absurd q (show ¬ ((112 : Int) = 97 ∨ (112 : Int) = 109 ∨ (112 : Int) = 114) by decide)⟩⟩
    · rw [hk]
      have e : rx_r2 p (rx_l (rx_shape 99)) (i, 1) [] = rx_r2 p [117, 116, 35] (mp_ch p 99 (i, 1)) [] := rfl
      rw [e, hc 99 hk]
      exact ⟨rfl, fun V h => ⟨h0 h, fun q => absurd rfl q, fun q => absurd q (show ¬ ((99 : Int) = 97 ∨ (99 : Int) = 109 ∨ (99 : Int) = 114) by decide)⟩⟩
    · rw [hk]
      have e : rx_r2 p (rx_l (rx_shape 115)) (i, 1) [] = rx_r2 p [101, 116, 35, 61, 64] (mp_ch p 115 (i, 1)) [] := rfl
      rw [e, hc 115 hk]
      exact ⟨rfl, fun V h => ⟨h0 h, fun _ => h1 h, fun q => absurd q (show ¬ ((115 : Int) = 97 ∨ (115 : Int) = 109 ∨ (115 : Int) = 114) by decide)⟩⟩
    · rw [hk]
      have e : rx_r2 p (rx_l (rx_shape 116)) (i, 1) [] = rx_r2 p [117, 114, 110, 35, 45, 35] (mp_ch p 116 (i, 1)) [] := rfl
      rw [e, hc 116 hk]
      exact ⟨rfl, fun V h => ⟨h0 h, fun _ => h1 h, fun q => absurd q (show ¬ ((116 : Int) = 97 ∨ (116 : Int) = 109 ∨ (116 : Int) = 114) by decide)⟩⟩
    · rw [hk]
      have e : rx_r2 p (rx_l (rx_shape 97)) (i, 1) [] = rx_r2 p [100, 100, 35, 45, 35, 61, 64] (mp_ch p 97 (i, 1)) [] := rfl
      rw [e, hc 97 hk]
      exact ⟨rfl, fun V h => ⟨h0 h, fun _ => h1 h, fun _ => h2 h⟩⟩
    · rw [hk]
      have e : rx_r2 p (rx_l (rx_shape 109)) (i, 1) [] = rx_r2 p [111, 118, 101, 35, 45, 35, 62, 35] (mp_ch p 109 (i, 1)) [] := rfl
      rw [e, hc 109 hk]
      exact ⟨rfl, fun V h => ⟨h0 h, fun _ => h1 h, fun _ => h2 h⟩⟩
    · rw [hk]
      have e : rx_r2 p (rx_l (rx_shape 114)) (i, 1) [] = rx_r2 p [111, 108, 108, 35, 45, 35, 61, 64] (mp_ch p 114 (i, 1)) [] := rfl
      rw [e, hc 114 hk]
      exact ⟨rfl, fun V h => ⟨h0 h, fun _ => h1 h, fun _ => h2 h⟩⟩
  refine ⟨hs.1.trans key.1, fun V h hh => key.2 V ?_⟩
  rw [← hs.2 (by rw [hs.1, key.1]; exact h)]
  exact hh
theorem rx_none {p : List Int} {i : Int} (hk : ¬ mp_is (mp_nx p i)) : rx_shape (mp_nx p i) = 7 ∧ mp_ord p i = ((i, 0), (0, 0, 0, 0)) := by
  refine ⟨?_, by unfold mp_ord; rw [if_neg hk]⟩
  unfold mp_is at hk
  unfold rx_shape
  rw [if_neg (by omega), if_neg (by omega), if_neg (by omega), if_neg (by omega), if_neg (by omega), if_neg (by omega), if_neg (by omega)]
theorem rx_V_up {V : Int → Int} {k v : Int} (h : mx_V V) (hv : -999 ≤ v ∧ v ≤ 999) : mx_V (ab_up V k v) := by
  have hr : ab_r v := by unfold ab_r; omega
  have one : ∀ j : Int, ab_r (V j) → ab_r (ab_up V k v j) := fun j hj => by
    unfold ab_up
    split
    · exact hr
    · exact hj
  exact ⟨one 0 h.1, one 1 h.2.1, one 2 h.2.2⟩
theorem rx_holds_up {V : Int → Int} {vs : List Int} {k v : Int} (h : rx_holds V vs) (hk : k = (vs.length : Nat)) : rx_holds (ab_up V k v) (vs ++ [v]) := by
  intro m w hw
  by_cases z : m < vs.length
  · rw [List.getElem?_append_left z] at hw
    rw [ab_up_ne (by omega)]
    exact h m w hw
  · have hi := (List.getElem?_eq_some_iff.mp hw).1
    rw [List.length_append, List.length_singleton] at hi
    have hm : m = vs.length := by omega
    subst hm
    rw [ab_up_eq (by omega)]
    simpa using hw
theorem vc_X0_readOrder {av : List ab_V} {cs : List ab_C} {Q : ab_Q} (h : sp_X0_readOrder av cs Q) : (ab_lv0 av).length ≤ 5 ∧ rx_R E_X0_readOrder P_X0_readOrder Q 0 (ab_ent av 5) [] cs := by
  obtain ⟨P, V, pl, pp, pk, l, rfl, rfl, hP, hV, h0, h1, hQ0, hQ1⟩ := h
  refine ⟨Nat.le_of_ble_eq_true rfl, ?_⟩
  have hn0 := mp_nx_in hP pp h0
  refine b_X0_readOrder_0 ⟨_, _, _, _, _, l, rfl, rfl, hP, h0, by omega, _, rfl, rfl, ?_⟩
  have hj8 := rx_shape_lt (mp_nx l pp)
  have es : 1000 + rx_shape (mp_nx l pp) - 1000 = rx_shape (mp_nx l pp) := by omega
  have hsl : ∀ j < 8, ab_sl.getD j 0 < 16 := by decide
  have hslj := hsl _ hj8
  by_cases hk : mp_is (mp_nx l pp)
  · obtain ⟨ho1, ho2⟩ := rx_ord hk
    have hlen := rx_l_len _ hj8
    have hcc := rx_l_c _ hj8
    have hin := rx_l_in _ hj8
    have hk3 := rx_l_k _ hj8
    have hslp : 0 < ab_sl.getD (rx_shape (mp_nx l pp)) 0 := by
      have hh : ∀ j < 7, 0 < ab_sl.getD j 0 := by decide
      refine hh _ ?_
      unfold mp_is at hk
      unfold rx_shape
      repeat (split; decide)
      omega
    generalize hj : rx_shape (mp_nx l pp) = j at *
    -- at a character of the text
    have walk : ∀ (rest pre vs : List Int) (c x : Int) (V1 : Int → Int), rx_l j = pre ++ c :: rest → vs.length + rx_k (c :: rest) ≤ 3 → rx_holds V1 vs → mx_V V1 → 0 ≤ x → x + 5 * ((rest.length : Nat) : Int) ≤ 200 → rx_run l (rx_l j) (pp, 1) [] = rx_run l (c :: rest) (x, 1) vs →
        rx_R E_X0_readOrder P_X0_readOrder Q 35 [some (.inr (.inl (some 0))), some (.inr (.inl (some (1000 + j)))), some (.inl ((vs.length : Nat) : Int)), some (.inl ((pre.length : Nat) : Int)), some (.inl c)] [] (pd_cs (P, V1, pl, x, mp_nx l pp)) := by
      intro rest
      induction rest with
      | nil =>
        intro pre vs c x V1 g1 g2 g3 g4 g5 g6 g7
        have hc := hin c (by rw [g1]; simp)
        have hlp : (rx_l j).length = pre.length + 1 := by rw [g1]; simp
        have bad : ∀ (x' : Int) (V2 : Int → Int), (rx_run l (rx_l j) (pp, 1) []).1 = (x', 0) → mx_V V2 → Q (some (.inl 0)) (pd_cs (P, V2, pl, x', mp_nx l pp)) := by
          intro x' V2 e1 e2
          rw [ho1] at e1
          have := hQ0 (by rw [e1]; exact rx_01) V2 (mp_nx l pp) e2
          rw [e1] at this
          exact this
        have good : ∀ (x' : Int) (V2 : Int → Int) (vs2 : List Int), rx_run l (rx_l j) (pp, 1) [] = ((x', 1), vs2) → mx_V V2 → rx_holds V2 vs2 → Q (some (.inl 1)) (pd_cs (P, V2, pl, x', mp_nx l pp)) := by
          intro x' V2 vs2 e1 e2 e3
          have e4 := ho1
          rw [e1] at e4
          have e5 : (mp_ord l pp).1.2 = 1 := by rw [← e4]
          have := hQ1 e5 V2 e2 (ho2 V2 e5 (by rw [e1]; exact e3))
          rw [← e4, show (mp_ord l pp).2.1 = mp_nx l pp by unfold mp_ord; rw [if_pos hk]] at this
          exact this
        have hstep : rx_run l [c] (x, 1) vs = if rx_nm c then (if (mp_rn l (rx_sg c) x).1.2 = 1 then rx_run l [] (mp_rn l (rx_sg c) x).1 (vs ++ [(mp_rn l (rx_sg c) x).2]) else ((mp_rn l (rx_sg c) x).1, vs)) else (if (mp_ch l c (x, 1)).2 = 1 then rx_run l [] (mp_ch l c (x, 1)) vs else (mp_ch l c (x, 1), vs)) := by
          conv => lhs; unfold rx_run
        rw [hstep] at g7
        refine b_X0_readOrder_35 (fun h1 h2 => ?n35) (fun h1 h2 => by omega) (fun h1 h2 => ?nch) (fun h1 h2 h3 => absurd h2 h3) (fun h1 h2 h3 => ?n64)
        case n35 =>
          rw [if_pos (Or.inl h1)] at g7
          have hsg : rx_sg c = 0 := by unfold rx_sg; rw [if_neg h2]
          rw [hsg] at g7
          have hfl := rx_num_fl l (x, 1)
          have hrn : mp_rn l 0 x = mp_num l (x, 1) := by unfold mp_rn; rw [if_neg (by decide)]
          have hk1 : rx_k [c] = 1 := by rw [h1]; rfl
          have hvv := mp_num_v l (x, 1)
          refine ⟨P, V1, pl, x, _, l, _, _, rfl, rfl, hP, g5, by omega, by omega, by omega, Or.inl rfl, fun hb => ⟨_, _, rfl, rfl, b_X0_readOrder_66 (fun h => absurd rfl h) (fun h => absurd rfl h) (fun h => absurd rfl h) (fun _ => ?_) (p5 := fun h => absurd rfl h)⟩, fun hg => ⟨_, _, rfl, rfl, b_X0_readOrder_66 (fun _ _ h => ?_) (fun _ _ _ => ?_) (fun _ h => ?_) (fun h => absurd h rx_10) (p3 := fun _ => by rw [es]; exact ⟨by unfold ab_r; omega, by unfold ab_r; omega⟩) (p5 := fun _ _ => by split <;> (unfold ab_r; omega))⟩⟩
          · rw [if_neg hb] at g7
            refine bad _ V1 ?_ g4
            rw [g7]
            exact rx_ok2 (by rw [hrn]; exact hfl) hb
          · rw [es, if_neg (by omega)] at h
            exact absurd rfl h
          · rw [if_pos hg] at g7
            have e9 : (mp_rn l 0 x).1 = ((mp_rn l 0 x).1.1, 1) := rx_on hg
            exact good _ _ _ (by rw [g7, ← e9]; rfl) (rx_V_up g4 (by rw [hrn]; omega)) (rx_holds_up g3 rfl)
          · rw [es] at h
            omega
        case n64 =>
          rw [if_pos (Or.inr h2)] at g7
          have hsg : rx_sg c = 1 := by unfold rx_sg; rw [if_pos h2]
          rw [hsg] at g7
          have hfl := rx_val_fl l (x, 1)
          have hrn : mp_rn l 1 x = mp_val l (x, 1) := by unfold mp_rn; rw [if_pos rfl]
          have hk1 : rx_k [c] = 1 := by rw [h2]; rfl
          have hvv := mp_val_v l (x, 1)
          refine ⟨P, V1, pl, x, _, l, _, _, rfl, rfl, hP, g5, by omega, by omega, by omega, Or.inr rfl, fun hb => ⟨_, _, rfl, rfl, b_X0_readOrder_66 (fun h => absurd rfl h) (fun h => absurd rfl h) (fun h => absurd rfl h) (fun _ => ?_) (p5 := fun h => absurd rfl h)⟩, fun hg => ⟨_, _, rfl, rfl, b_X0_readOrder_66 (fun _ _ h => ?_) (fun _ _ _ => ?_) (fun _ h => ?_) (fun h => absurd h rx_10) (p3 := fun _ => by rw [es]; exact ⟨by unfold ab_r; omega, by unfold ab_r; omega⟩) (p5 := fun _ _ => by split <;> (unfold ab_r; omega))⟩⟩
          · rw [if_neg hb] at g7
            refine bad _ V1 ?_ g4
            rw [g7]
            exact rx_ok2 (by rw [hrn]; exact hfl) hb
          · rw [es, if_neg (by omega)] at h
            exact absurd rfl h
          · rw [if_pos hg] at g7
            have e9 : (mp_rn l 1 x).1 = ((mp_rn l 1 x).1.1, 1) := rx_on hg
            exact good _ _ _ (by rw [g7, ← e9]; rfl) (rx_V_up g4 (by rw [hrn]; omega)) (rx_holds_up g3 rfl)
          · rw [es] at h
            omega
        case nch =>
          rw [if_neg (by unfold rx_nm; omega)] at g7
          have hfl := rx_ch_fl l c (x, 1)
          refine ⟨P, V1, pl, x, _, l, c, rfl, rfl, hP, g5, by omega, by unfold ab_r; omega, _, _, rfl, rfl, ?_⟩
          by_cases hg : (mp_ch l c (x, 1)).2 = 1
          · rw [if_pos hg] at g7
            have e9 : mp_ch l c (x, 1) = ((mp_ch l c (x, 1)).1, 1) := rx_on hg
            rw [hg]
            refine b_X0_readOrder_83 (fun _ _ h => ?_) (fun _ _ _ => ?_) (fun _ h => ?_) (fun h => absurd h rx_10) (p3 := fun _ => by rw [es]; exact ⟨by unfold ab_r; omega, by unfold ab_r; omega⟩) (p5 := fun _ _ => by split <;> (unfold ab_r; omega))
            · rw [es, if_neg (by omega)] at h
              exact absurd rfl h
            · exact good _ _ _ (by rw [g7, ← e9]; rfl) g4 g3
            · rw [es] at h
              omega
          · rw [if_neg hg] at g7
            have e9 := rx_ok2 hfl hg
            have e8 : (mp_ch l c (x, 1)).2 = 0 := by omega
            rw [e8]
            refine b_X0_readOrder_83 (fun h => absurd rfl h) (fun h => absurd rfl h) (fun h => absurd rfl h) (fun _ => ?_) (p5 := fun h => absurd rfl h)
            refine bad _ V1 ?_ g4
            rw [g7]
            exact e9
      | cons c2 rest ih =>
        intro pre vs c x V1 g1 g2 g3 g4 g5 g6 g7
        have hc := hin c (by rw [g1]; simp)
        have hlp : (rx_l j).length = pre.length + (rest.length + 1 + 1) := by rw [g1]; simp
        rw [List.length_cons] at g6
        have hnext : rx_c (1000 + j - 1000) (((pre.length : Nat) : Int) + 1) = c2 := by
          rw [es, show ((pre.length : Nat) : Int) + 1 = ((pre.length + 1 : Nat) : Int) by omega, hcc _ (by omega), g1]
          rw [List.getD_eq_getElem?_getD, List.getElem?_append_right (by omega), show pre.length + 1 - pre.length = 1 by omega]
          rfl
        have bad : ∀ (x' : Int) (V2 : Int → Int), (rx_run l (rx_l j) (pp, 1) []).1 = (x', 0) → mx_V V2 → Q (some (.inl 0)) (pd_cs (P, V2, pl, x', mp_nx l pp)) := by
          intro x' V2 e1 e2
          rw [ho1] at e1
          have := hQ0 (by rw [e1]; exact rx_01) V2 (mp_nx l pp) e2
          rw [e1] at this
          exact this
        have hstep : rx_run l (c :: c2 :: rest) (x, 1) vs = if rx_nm c then (if (mp_rn l (rx_sg c) x).1.2 = 1 then rx_run l (c2 :: rest) (mp_rn l (rx_sg c) x).1 (vs ++ [(mp_rn l (rx_sg c) x).2]) else ((mp_rn l (rx_sg c) x).1, vs)) else (if (mp_ch l c (x, 1)).2 = 1 then rx_run l (c2 :: rest) (mp_ch l c (x, 1)) vs else (mp_ch l c (x, 1), vs)) := by
          conv => lhs; unfold rx_run
        rw [hstep] at g7
        have hpre : rx_l j = (pre ++ [c]) ++ c2 :: rest := by rw [g1]; simp
        have hprel : (((pre ++ [c]).length : Nat) : Int) = ((pre.length : Nat) : Int) + 1 := by rw [List.length_append, List.length_singleton]; omega
        refine b_X0_readOrder_35 (fun h1 h2 => ?n35) (fun h1 h2 => by omega) (fun h1 h2 => ?nch) (fun h1 h2 h3 => absurd h2 h3) (fun h1 h2 h3 => ?n64)
        case n35 =>
          rw [if_pos (Or.inl h1)] at g7
          have hsg : rx_sg c = 0 := by unfold rx_sg; rw [if_neg h2]
          rw [hsg] at g7
          have hfl := rx_num_fl l (x, 1)
          have hrn : mp_rn l 0 x = mp_num l (x, 1) := by unfold mp_rn; rw [if_neg (by decide)]
          have hk1 : rx_k (c :: c2 :: rest) = rx_k (c2 :: rest) + 1 := by unfold rx_k; rw [List.countP_cons_of_pos (by rw [h1]; decide)]
          have hvv := mp_num_v l (x, 1)
          have hb1 := mp_num_in (p := l) (x := (x, 1)) ⟨Or.inr rfl, g5, by dsimp only; omega⟩ (by dsimp only; omega)
          dsimp only at hb1
          refine ⟨P, V1, pl, x, _, l, _, _, rfl, rfl, hP, g5, by omega, by omega, by omega, Or.inl rfl, fun hb => ⟨_, _, rfl, rfl, b_X0_readOrder_66 (fun h => absurd rfl h) (fun h => absurd rfl h) (fun h => absurd rfl h) (fun _ => ?_) (p5 := fun h => absurd rfl h)⟩, fun hg => ⟨_, _, rfl, rfl, b_X0_readOrder_66 (fun _ h _ => ?_) (fun _ h _ => ?_) (fun _ h => ?_) (fun h => absurd h rx_10) (p3 := fun _ => by rw [es]; exact ⟨by unfold ab_r; omega, by unfold ab_r; omega⟩) (p5 := fun _ h => by rw [es] at h; omega)⟩⟩
          · rw [if_neg hb] at g7
            refine bad _ V1 ?_ g4
            rw [g7]
            exact rx_ok2 (by rw [hrn]; exact hfl) hb
          · rw [es] at h; omega
          · rw [es] at h; omega
          · rw [if_pos hg] at g7
            have e9 : (mp_rn l 0 x).1 = ((mp_rn l 0 x).1.1, 1) := rx_on hg
            rw [e9] at g7
            have := ih (pre ++ [c]) (vs ++ [(mp_rn l 0 x).2]) c2 (mp_rn l 0 x).1.1 (ab_up V1 ((vs.length : Nat) : Int) (mp_rn l 0 x).2) hpre (by rw [List.length_append, List.length_singleton]; omega) (rx_holds_up g3 rfl) (rx_V_up g4 (by rw [hrn]; omega)) (by rw [hrn]; omega) (by rw [hrn]; omega) g7
            rw [hprel, List.length_append, List.length_singleton, show ((vs.length + 1 : Nat) : Int) = ((vs.length : Nat) : Int) + 1 by omega] at this
            rw [hnext]
            exact this
        case n64 =>
          rw [if_pos (Or.inr h2)] at g7
          have hsg : rx_sg c = 1 := by unfold rx_sg; rw [if_pos h2]
          rw [hsg] at g7
          have hfl := rx_val_fl l (x, 1)
          have hrn : mp_rn l 1 x = mp_val l (x, 1) := by unfold mp_rn; rw [if_pos rfl]
          have hk1 : rx_k (c :: c2 :: rest) = rx_k (c2 :: rest) + 1 := by unfold rx_k; rw [List.countP_cons_of_pos (by rw [h2]; decide)]
          have hvv := mp_val_v l (x, 1)
          have hb1 := mp_val_in (p := l) (x := (x, 1)) ⟨Or.inr rfl, g5, by dsimp only; omega⟩ (by dsimp only; omega)
          dsimp only at hb1
          refine ⟨P, V1, pl, x, _, l, _, _, rfl, rfl, hP, g5, by omega, by omega, by omega, Or.inr rfl, fun hb => ⟨_, _, rfl, rfl, b_X0_readOrder_66 (fun h => absurd rfl h) (fun h => absurd rfl h) (fun h => absurd rfl h) (fun _ => ?_) (p5 := fun h => absurd rfl h)⟩, fun hg => ⟨_, _, rfl, rfl, b_X0_readOrder_66 (fun _ h _ => ?_) (fun _ h _ => ?_) (fun _ h => ?_) (fun h => absurd h rx_10) (p3 := fun _ => by rw [es]; exact ⟨by unfold ab_r; omega, by unfold ab_r; omega⟩) (p5 := fun _ h => by rw [es] at h; omega)⟩⟩
          · rw [if_neg hb] at g7
            refine bad _ V1 ?_ g4
            rw [g7]
            exact rx_ok2 (by rw [hrn]; exact hfl) hb
          · rw [es] at h; omega
          · rw [es] at h; omega
          · rw [if_pos hg] at g7
            have e9 : (mp_rn l 1 x).1 = ((mp_rn l 1 x).1.1, 1) := rx_on hg
            rw [e9] at g7
            have := ih (pre ++ [c]) (vs ++ [(mp_rn l 1 x).2]) c2 (mp_rn l 1 x).1.1 (ab_up V1 ((vs.length : Nat) : Int) (mp_rn l 1 x).2) hpre (by rw [List.length_append, List.length_singleton]; omega) (rx_holds_up g3 rfl) (rx_V_up g4 (by rw [hrn]; omega)) (by rw [hrn]; omega) (by rw [hrn]; omega) g7
            rw [hprel, List.length_append, List.length_singleton, show ((vs.length + 1 : Nat) : Int) = ((vs.length : Nat) : Int) + 1 by omega] at this
            rw [hnext]
            exact this
        case nch =>
          rw [if_neg (by unfold rx_nm; omega)] at g7
          have hfl := rx_ch_fl l c (x, 1)
          have hb1 := mp_ch_in (p := l) (c := c) (at_ := x) (iw := 1) ⟨Or.inr rfl, g5, by omega⟩ (by omega)
          have hk1 : rx_k (c :: c2 :: rest) = rx_k (c2 :: rest) := by unfold rx_k; rw [List.countP_cons_of_neg (by simp only [decide_eq_true_eq]; unfold rx_nm; omega)]
          refine ⟨P, V1, pl, x, _, l, c, rfl, rfl, hP, g5, by omega, by unfold ab_r; omega, _, _, rfl, rfl, ?_⟩
          by_cases hg : (mp_ch l c (x, 1)).2 = 1
          · rw [if_pos hg] at g7
            have e9 : mp_ch l c (x, 1) = ((mp_ch l c (x, 1)).1, 1) := rx_on hg
            rw [hg]
            refine b_X0_readOrder_83 (fun _ h _ => ?_) (fun _ h _ => ?_) (fun _ h => ?_) (fun h => absurd h rx_10) (p3 := fun _ => by rw [es]; exact ⟨by unfold ab_r; omega, by unfold ab_r; omega⟩) (p5 := fun _ h => by rw [es] at h; omega)
            · rw [es] at h; omega
            · rw [es] at h; omega
            · rw [e9] at g7
              have := ih (pre ++ [c]) vs c2 (mp_ch l c (x, 1)).1 V1 hpre (by omega) g3 g4 hb1.1.2.1 (by have := hb1.2; omega) g7
              rw [hprel] at this
              rw [hnext]
              exact this
          · rw [if_neg hg] at g7
            have e9 := rx_ok2 hfl hg
            have e8 : (mp_ch l c (x, 1)).2 = 0 := by omega
            rw [e8]
            refine b_X0_readOrder_83 (fun h => absurd rfl h) (fun h => absurd rfl h) (fun h => absurd rfl h) (fun _ => ?_) (p5 := fun h => absurd rfl h)
            refine bad _ V1 ?_ g4
            rw [g7]
            exact e9
    refine b_X0_readOrder_5 (fun h => ?_) (fun h => ?_) (fun _ => ?_) (p3 := by rw [hj]; omega) (p4 := by rw [hj, es]; unfold ab_r; omega) (p5 := fun _ => by rw [hj]; omega) (p6 := fun h => by rw [hj, es] at h; omega) (p9 := fun _ => by rw [hj, es]; omega)
    · rw [hj, es] at h; omega
    · rw [hj, es] at h; omega
    · rw [hj, es]
      have hcons : ∃ c rest, rx_l j = c :: rest := by
        cases hl : rx_l j with
        | nil => rw [hl, List.length_nil] at hlen; omega
        | cons c rest => exact ⟨c, rest, rfl⟩
      obtain ⟨c, rest, hcr⟩ := hcons
      have hc0 := hcc 0 hslp
      rw [hcr] at hc0
      have hc1 : rx_c j 0 = c := hc0
      rw [hc1]
      have hrl : (rx_l j).length = rest.length + 1 := by rw [hcr]; simp
      exact walk rest [] [] c pp V hcr (by rw [hcr] at hk3; simpa using hk3) (fun m v h => by simp at h) hV h0 (by omega) (by rw [hcr])
  · obtain ⟨hs7, hord⟩ := rx_none hk
    rw [hord] at hQ0
    rw [hs7] at es
    have hq := hQ0 rx_01 V (mp_nx l pp) hV
    have e0 : ab_sl.getD 7 0 = 0 := rfl
    refine b_X0_readOrder_5 (fun _ _ => hq) (fun _ h => ?_) (fun h => ?_) (p3 := by rw [hs7]; omega) (p4 := by rw [hs7]; exact ⟨by unfold ab_r; omega, by unfold ab_r; decide⟩) (p5 := fun _ => by rw [hs7]; omega) (p6 := fun _ => by rw [hs7, es, e0]; unfold ab_r; decide) (p9 := fun h => by rw [hs7, es, e0] at h; omega)
    · rw [hs7, es, e0] at h
      exact absurd h (by decide)
    · rw [hs7, es, e0] at h
      omega
