/-! WHAT A CHANGE DOES, for both programs: the row with its work, what is remembered, what is saved, the pad -/
abbrev mS_X : Type := List mq_K × Int
abbrev mS_T : Type := mS_X × List mS_X × (Option mS_X × Option mS_X) × List Int
def mf_ch (r : mS_X) : mS_X := ((mq_ev r.1).1, r.2 + (mq_ev r.1).2)
def mf_do (k : Int) (q : List mq_K) (a b c : Int) : mS_X :=
  if k = 112 then mf_ch (mq_put q a.toNat b) else if k = 99 then mf_ch (mq_tak q a.toNat) else if k = 115 then mf_ch (mq_set q a.toNat b) else if k = 116 then mf_ch (mq_trn q a.toNat (b + 1 - a).toNat) else if k = 97 then mf_ch (mq_add q a.toNat (b + 1 - a).toNat c) else if k = 109 then mf_ch (mq_mov q a.toNat (b + 1 - a).toNat c.toNat) else mf_ch (mf_rol q a b c)
def mf_err (k : Int) (q : List mq_K) (a b c : Int) : Int :=
  if k = 112 then mq_ePut q a b else if k = 99 then mq_eCut q a else if k = 115 then mq_eSet q a b else if k = 116 then mq_eSpan q a b else if k = 97 then mq_eAdd q a b c else if k = 109 then mq_eMove q a b c else mq_eBy q a b c
def mq_v (q : List mq_K) (a : Int) : Int := (mq_all q).getD a.toNat 0
def mf_ans (k : Int) (q q' : List mq_K) (a : Int) : Int := if k = 112 then mq_n q' else if k = 99 ∨ k = 115 then mq_v q a + 100000 else (q'.length : Nat)
def mf_change (k : Int) (S : mS_T) (a b c : Int) : Int × mS_T :=
  if mf_err k S.1.1 a b c = 0 then (mf_ans k S.1.1 (mf_do k S.1.1 a b c).1 a, (((mf_do k S.1.1 a b c).1, S.1.2 + (mf_do k S.1.1 a b c).2), mh_push S.2.1 S.1, S.2.2)) else (mf_err k S.1.1 a b c, S)
def mh_o (sl : Int → Int) (h : Int) (o : Option mS_X) : Prop := match o with
  | none => h = 0
  | some x => h = 1 ∧ mh_st sl x
def mh_S (sl hs : Int → Int) (o : Option mS_X × Option mS_X) : Prop := mh_o sl (hs 0) o.1 ∧ mh_o (fun k => sl (255 + k)) (hs 1) o.2
def mh_P (pd : Int → Int) (ln : Int) (p : List Int) : Prop := mq_al pd p ∧ ln = (p.length : Nat) ∧ p.length ≤ 80 ∧ ∀ x ∈ p, 33 ≤ x ∧ x ≤ 126
def mh_inv (s : Int → Int) (g : mg_T) (S : mS_T) : Prop := mh_st s S.1 ∧ mh_U g.2.2.1 g.2.2.2.1 S.2.1 ∧ mh_S g.2.2.2.2.1 g.2.2.2.2.2.1 S.2.2.1 ∧ mh_P g.2.2.2.2.2.2.1 g.2.2.2.2.2.2.2.1 S.2.2.2
def mh_out (Q : ab_Q) (r : Int × mS_T) : Prop := ∀ (s' : Int → Int) (z' : mc_T) (g' : mg_T), mh_inv s' g' r.2 → g'.1 = 0 → Q (some (.inl r.1)) (md_cs s' z' g')
def mh_in1 (F : mS_T → Int → Int × mS_T) : ab_Sp := fun av cs Q => ∃ (s : Int → Int) (z : mc_T) (g : mg_T) (S : mS_T) (a : Int), av = [.inr (.inl (some 0)), .inl a] ∧ cs = md_cs s z g ∧ mh_inv s g S ∧ ab_r a ∧ mh_out Q (F S a)
def mh_in2 (F : mS_T → Int → Int → Int × mS_T) : ab_Sp := fun av cs Q => ∃ (s : Int → Int) (z : mc_T) (g : mg_T) (S : mS_T) (a b : Int), av = [.inr (.inl (some 0)), .inl a, .inl b] ∧ cs = md_cs s z g ∧ mh_inv s g S ∧ ab_r a ∧ ab_r b ∧ mh_out Q (F S a b)
def mh_in3 (F : mS_T → Int → Int → Int → Int × mS_T) : ab_Sp := fun av cs Q => ∃ (s : Int → Int) (z : mc_T) (g : mg_T) (S : mS_T) (a b c : Int), av = [.inr (.inl (some 0)), .inl a, .inl b, .inl c] ∧ cs = md_cs s z g ∧ mh_inv s g S ∧ ab_r a ∧ ab_r b ∧ ab_r c ∧ mh_out Q (F S a b c)
def sp_X3_putIn : ab_Sp := mh_in2 (fun S a b => mf_change 112 S a b 0)
def sp_X3_takeOut : ab_Sp := mh_in1 (fun S a => mf_change 99 S a 0 0)
def sp_X3_set : ab_Sp := mh_in2 (fun S a b => mf_change 115 S a b 0)
def sp_X3_turn : ab_Sp := mh_in2 (fun S a b => mf_change 116 S a b 0)
def sp_X3_add : ab_Sp := mh_in3 (fun S a b c => mf_change 97 S a b c)
def sp_X3_move : ab_Sp := mh_in3 (fun S a b c => mf_change 109 S a b c)
def sp_X3_rotate : ab_Sp := mh_in3 (fun S a b c => mf_change 114 S a b c)
-- ===== RootChunksModel.putIn
def P_X3_putIn : List ab_I := [(0, .aload_n 0, 1, []), (1, .iconst 0, 2, []), (2, .putfield 47, 5, []), (5, .aload_n 0, 6, []), (6, .iload_n 1, 7, []), (7, .iload_n 2, 8, []), (8, .invokevirtual 116, 11, []), (11, .istore_n 3, 12, []), (12, .iload_n 3, 13, []), (13, .ifCond .eq 5, 16, [((0 : Int), 18)]), (16, .iload_n 3, 17, []), (17, .ireturn, 18, []), (18, .aload_n 0, 19, []), (19, .invokevirtual 119, 22, []), (22, .aload_n 0, 23, []), (23, .iload_n 1, 24, []), (24, .iload_n 2, 25, []), (25, .invokevirtual 122, 28, []), (28, .aload_n 0, 29, []), (29, .getfield 7, 32, []), (32, .iconst 0, 33, []), (33, .iaload, 34, []), (34, .ireturn, 35, [])]
def E_X3_putIn : ab_E := (T_X3, [(8, (3, 3, [], 0, sp_X3_refusesPut)), (19, (1, 3, [], 0, sp_X3_records)), (25, (3, 3, [], 0, sp_X3_puts))], [], 0)
def M_X3_putIn : List (Nat × ab_MI) := [(8, mi_X3_refusesPut), (19, mi_X3_records), (25, mi_X3_puts)]
def mi_X3_putIn : ab_MI := (yX3_putIn, cX3_putIn, 4, ab_rty 0, 6, 188)
theorem pk_X3_putIn : P_X3_putIn.all (ab_okI cX3_putIn) = true := by decide +kernel
theorem ck_X3_putIn : P_X3_putIn.all (ab_okC1 "RootChunksModel" M_X3_putIn E_X3_putIn (6, 188)) = true := by decide +kernel
set_option maxRecDepth 100000 in
theorem b_X3_putIn_0 {Q : ab_Q} {a : Int} {b : Int} {s_ : Int → Int} {z_ : mc_T} {g_th : Int} {g_as : Int → Int} {g_un : Int → Int} {g_um : Int} {g_sl : Int → Int} {g_hs : Int → Int} {g_pd : Int → Int} {g_ln : Int} {g_at : Int} {g_iw : Int} {g_os : Int → Int} {g_om : Int} (l1 : sp_X3_refusesPut [.inr (.inl (some 0)), .inl a, .inl b] (md_cs s_ z_ (0, g_as, g_un, g_um, g_sl, g_hs, g_pd, g_ln, g_at, g_iw, g_os, g_om)) (fun r_ k_ => ∃ (x_ : Int), r_ = some (.inl x_) ∧ k_ = (md_cs s_ z_ (0, g_as, g_un, g_um, g_sl, g_hs, g_pd, g_ln, g_at, g_iw, g_os, g_om)) ∧ ab_R E_X3_putIn P_X3_putIn Q 11 [some (.inr (.inl (some 0))), some (.inl a), some (.inl b), none] [.inl x_] (md_cs s_ z_ (0, g_as, g_un, g_um, g_sl, g_hs, g_pd, g_ln, g_at, g_iw, g_os, g_om))))  : ab_R E_X3_putIn P_X3_putIn Q 0 [some (.inr (.inl (some 0))), some (.inl a), some (.inl b), none] [] (md_cs s_ z_ (g_th, g_as, g_un, g_um, g_sl, g_hs, g_pd, g_ln, g_at, g_iw, g_os, g_om)) :=
  ab_R.steps [11, 22, 28] 8 (show ab_cl sp_X3_refusesPut [.inr (.inl (some 0)), .inl a, .inl b] (md_cs s_ z_ (0, g_as, g_un, g_um, g_sl, g_hs, g_pd, g_ln, g_at, g_iw, g_os, g_om)) (fun r_ k_ => k_.length = ((md_cs s_ z_ (0, g_as, g_un, g_um, g_sl, g_hs, g_pd, g_ln, g_at, g_iw, g_os, g_om))).length → ab_R E_X3_putIn P_X3_putIn Q 11 [some (.inr (.inl (some 0))), some (.inl a), some (.inl b), none] (ab_ret r_ []) k_) from ⟨_, l1, fun r_ k_ hz _ => by obtain ⟨x_, rfl, rfl, hR⟩ := hz; exact hR⟩)
set_option maxRecDepth 100000 in
theorem b_X3_putIn_11 {Q : ab_Q} {a : Int} {b : Int} {t0 : Int} {s_ : Int → Int} {z_ : mc_T} {g_th : Int} {g_as : Int → Int} {g_un : Int → Int} {g_um : Int} {g_sl : Int → Int} {g_hs : Int → Int} {g_pd : Int → Int} {g_ln : Int} {g_at : Int} {g_iw : Int} {g_os : Int → Int} {g_om : Int} (l1 : t0 = (0 : Int) → sp_X3_records [.inr (.inl (some 0))] (md_cs s_ z_ (g_th, g_as, g_un, g_um, g_sl, g_hs, g_pd, g_ln, g_at, g_iw, g_os, g_om)) (fun r_ k_ => ∃ (s_' : Int → Int), ∃ (z_' : mc_T), ∃ (g_' : mg_T), r_ = none ∧ k_ = (md_cs (s_') z_' g_') ∧ ab_R E_X3_putIn P_X3_putIn Q 22 [some (.inr (.inl (some 0))), some (.inl a), some (.inl b), some (.inl t0)] [] (md_cs (s_') z_' g_'))) (l2 : ¬ t0 = (0 : Int) → Q (some (.inl t0)) (md_cs s_ z_ (g_th, g_as, g_un, g_um, g_sl, g_hs, g_pd, g_ln, g_at, g_iw, g_os, g_om))) (p1 : ab_r t0 := by intros; (try unfold ab_r); omega) : ab_R E_X3_putIn P_X3_putIn Q 11 [some (.inr (.inl (some 0))), some (.inl a), some (.inl b), none] [.inl t0] (md_cs s_ z_ (g_th, g_as, g_un, g_um, g_sl, g_hs, g_pd, g_ln, g_at, g_iw, g_os, g_om)) :=
  ab_R.steps [11, 22, 28] 6 (show (ab_r t0 ∧ ((t0 = (0 : Int) → ab_cl sp_X3_records [.inr (.inl (some 0))] (md_cs s_ z_ (g_th, g_as, g_un, g_um, g_sl, g_hs, g_pd, g_ln, g_at, g_iw, g_os, g_om)) (fun r_ k_ => k_.length = ((md_cs s_ z_ (g_th, g_as, g_un, g_um, g_sl, g_hs, g_pd, g_ln, g_at, g_iw, g_os, g_om))).length → ab_R E_X3_putIn P_X3_putIn Q 22 [some (.inr (.inl (some 0))), some (.inl a), some (.inl b), some (.inl t0)] (ab_ret r_ []) k_)) ∧ (¬ t0 = (0 : Int) → Q (some (.inl t0)) (md_cs s_ z_ (g_th, g_as, g_un, g_um, g_sl, g_hs, g_pd, g_ln, g_at, g_iw, g_os, g_om))))) from ⟨p1, ⟨fun h1 => ⟨_, (l1 h1), fun r_ k_ hz _ => by obtain ⟨s_', z_', g_', rfl, rfl, hR⟩ := hz; exact hR⟩, fun h2 => (l2 h2)⟩⟩)
set_option maxRecDepth 100000 in
theorem b_X3_putIn_22 {Q : ab_Q} {a : Int} {b : Int} {e : Int} {s_ : Int → Int} {z_ : mc_T} {g_th : Int} {g_as : Int → Int} {g_un : Int → Int} {g_um : Int} {g_sl : Int → Int} {g_hs : Int → Int} {g_pd : Int → Int} {g_ln : Int} {g_at : Int} {g_iw : Int} {g_os : Int → Int} {g_om : Int} (l1 : sp_X3_puts [.inr (.inl (some 0)), .inl a, .inl b] (md_cs s_ z_ (g_th, g_as, g_un, g_um, g_sl, g_hs, g_pd, g_ln, g_at, g_iw, g_os, g_om)) (fun r_ k_ => ∃ (s_' : Int → Int), ∃ (z_' : mc_T), ∃ (g_' : mg_T), r_ = none ∧ k_ = (md_cs (s_') z_' g_') ∧ ab_R E_X3_putIn P_X3_putIn Q 28 [some (.inr (.inl (some 0))), some (.inl a), some (.inl b), some (.inl e)] [] (md_cs (s_') z_' g_')))  : ab_R E_X3_putIn P_X3_putIn Q 22 [some (.inr (.inl (some 0))), some (.inl a), some (.inl b), some (.inl e)] [] (md_cs s_ z_ (g_th, g_as, g_un, g_um, g_sl, g_hs, g_pd, g_ln, g_at, g_iw, g_os, g_om)) :=
  ab_R.steps [11, 22, 28] 5 (show ab_cl sp_X3_puts [.inr (.inl (some 0)), .inl a, .inl b] (md_cs s_ z_ (g_th, g_as, g_un, g_um, g_sl, g_hs, g_pd, g_ln, g_at, g_iw, g_os, g_om)) (fun r_ k_ => k_.length = ((md_cs s_ z_ (g_th, g_as, g_un, g_um, g_sl, g_hs, g_pd, g_ln, g_at, g_iw, g_os, g_om))).length → ab_R E_X3_putIn P_X3_putIn Q 28 [some (.inr (.inl (some 0))), some (.inl a), some (.inl b), some (.inl e)] (ab_ret r_ []) k_) from ⟨_, l1, fun r_ k_ hz _ => by obtain ⟨s_', z_', g_', rfl, rfl, hR⟩ := hz; exact hR⟩)
set_option maxRecDepth 100000 in
theorem b_X3_putIn_28 {Q : ab_Q} {a : Int} {b : Int} {e : Int} {s_ : Int → Int} {z_ : mc_T} {g_th : Int} {g_as : Int → Int} {g_un : Int → Int} {g_um : Int} {g_sl : Int → Int} {g_hs : Int → Int} {g_pd : Int → Int} {g_ln : Int} {g_at : Int} {g_iw : Int} {g_os : Int → Int} {g_om : Int} (l1 : Q (some (.inl (s_ 0))) (md_cs s_ z_ (g_th, g_as, g_un, g_um, g_sl, g_hs, g_pd, g_ln, g_at, g_iw, g_os, g_om))) (p1 : (0 ≤ (0 : Int) ∧ (0 : Int) < 255) := by intros; (try unfold ab_r); omega) : ab_R E_X3_putIn P_X3_putIn Q 28 [some (.inr (.inl (some 0))), some (.inl a), some (.inl b), some (.inl e)] [] (md_cs s_ z_ (g_th, g_as, g_un, g_um, g_sl, g_hs, g_pd, g_ln, g_at, g_iw, g_os, g_om)) :=
  ab_R.steps [11, 22, 28] 6 (show ((0 ≤ (0 : Int) ∧ (0 : Int) < 255) ∧ Q (some (.inl (s_ 0))) (md_cs s_ z_ (g_th, g_as, g_un, g_um, g_sl, g_hs, g_pd, g_ln, g_at, g_iw, g_os, g_om))) from ⟨p1, l1⟩)
-- ===== RootChunksModel.takeOut
def P_X3_takeOut : List ab_I := [(0, .aload_n 0, 1, []), (1, .iconst 0, 2, []), (2, .putfield 47, 5, []), (5, .aload_n 0, 6, []), (6, .iload_n 1, 7, []), (7, .invokevirtual 95, 10, []), (10, .ifCond .ne 5, 13, [((0 : Int), 15)]), (13, .iconst (-1), 14, []), (14, .ireturn, 15, []), (15, .aload_n 0, 16, []), (16, .invokevirtual 119, 19, []), (19, .aload_n 0, 20, []), (20, .iload_n 1, 21, []), (21, .invokevirtual 61, 24, []), (24, .istore_n 2, 25, []), (25, .aload_n 0, 26, []), (26, .iload_n 1, 27, []), (27, .invokevirtual 125, 30, []), (30, .iload_n 2, 31, []), (31, .ldc 128, 33, []), (33, .iadd, 34, []), (34, .ireturn, 35, [])]
def E_X3_takeOut : ab_E := (T_X3, [(7, (2, 3, [], 0, sp_X3_isPlace)), (16, (1, 3, [], 0, sp_X3_records)), (21, (2, 3, [], 0, sp_X3_valueAt)), (27, (2, 3, [], 0, sp_X3_takes))], [], 0)
def M_X3_takeOut : List (Nat × ab_MI) := [(7, mi_X3_isPlace), (16, mi_X3_records), (21, mi_X3_valueAt), (27, mi_X3_takes)]
def mi_X3_takeOut : ab_MI := (yX3_takeOut, cX3_takeOut, 3, ab_rty 0, 6, 187)
theorem pk_X3_takeOut : P_X3_takeOut.all (ab_okI cX3_takeOut) = true := by decide +kernel
theorem ck_X3_takeOut : P_X3_takeOut.all (ab_okC1 "RootChunksModel" M_X3_takeOut E_X3_takeOut (6, 187)) = true := by decide +kernel
set_option maxRecDepth 100000 in
theorem b_X3_takeOut_0 {Q : ab_Q} {a : Int} {s_ : Int → Int} {z_ : mc_T} {g_th : Int} {g_as : Int → Int} {g_un : Int → Int} {g_um : Int} {g_sl : Int → Int} {g_hs : Int → Int} {g_pd : Int → Int} {g_ln : Int} {g_at : Int} {g_iw : Int} {g_os : Int → Int} {g_om : Int} (l1 : sp_X3_isPlace [.inr (.inl (some 0)), .inl a] (md_cs s_ z_ (0, g_as, g_un, g_um, g_sl, g_hs, g_pd, g_ln, g_at, g_iw, g_os, g_om)) (fun r_ k_ => ∃ (x_ : Int), r_ = some (.inl x_) ∧ k_ = (md_cs s_ z_ (0, g_as, g_un, g_um, g_sl, g_hs, g_pd, g_ln, g_at, g_iw, g_os, g_om)) ∧ ab_R E_X3_takeOut P_X3_takeOut Q 10 [some (.inr (.inl (some 0))), some (.inl a), none] [.inl x_] (md_cs s_ z_ (0, g_as, g_un, g_um, g_sl, g_hs, g_pd, g_ln, g_at, g_iw, g_os, g_om))))  : ab_R E_X3_takeOut P_X3_takeOut Q 0 [some (.inr (.inl (some 0))), some (.inl a), none] [] (md_cs s_ z_ (g_th, g_as, g_un, g_um, g_sl, g_hs, g_pd, g_ln, g_at, g_iw, g_os, g_om)) :=
  ab_R.steps [10, 19, 24, 30] 7 (show ab_cl sp_X3_isPlace [.inr (.inl (some 0)), .inl a] (md_cs s_ z_ (0, g_as, g_un, g_um, g_sl, g_hs, g_pd, g_ln, g_at, g_iw, g_os, g_om)) (fun r_ k_ => k_.length = ((md_cs s_ z_ (0, g_as, g_un, g_um, g_sl, g_hs, g_pd, g_ln, g_at, g_iw, g_os, g_om))).length → ab_R E_X3_takeOut P_X3_takeOut Q 10 [some (.inr (.inl (some 0))), some (.inl a), none] (ab_ret r_ []) k_) from ⟨_, l1, fun r_ k_ hz _ => by obtain ⟨x_, rfl, rfl, hR⟩ := hz; exact hR⟩)
set_option maxRecDepth 100000 in
theorem b_X3_takeOut_10 {Q : ab_Q} {a : Int} {t0 : Int} {s_ : Int → Int} {z_ : mc_T} {g_th : Int} {g_as : Int → Int} {g_un : Int → Int} {g_um : Int} {g_sl : Int → Int} {g_hs : Int → Int} {g_pd : Int → Int} {g_ln : Int} {g_at : Int} {g_iw : Int} {g_os : Int → Int} {g_om : Int} (l1 : ¬ t0 = (0 : Int) → sp_X3_records [.inr (.inl (some 0))] (md_cs s_ z_ (g_th, g_as, g_un, g_um, g_sl, g_hs, g_pd, g_ln, g_at, g_iw, g_os, g_om)) (fun r_ k_ => ∃ (s_' : Int → Int), ∃ (z_' : mc_T), ∃ (g_' : mg_T), r_ = none ∧ k_ = (md_cs (s_') z_' g_') ∧ ab_R E_X3_takeOut P_X3_takeOut Q 19 [some (.inr (.inl (some 0))), some (.inl a), none] [] (md_cs (s_') z_' g_'))) (l2 : t0 = (0 : Int) → Q (some (.inl (-1))) (md_cs s_ z_ (g_th, g_as, g_un, g_um, g_sl, g_hs, g_pd, g_ln, g_at, g_iw, g_os, g_om))) (p1 : ab_r t0 := by intros; (try unfold ab_r); omega) : ab_R E_X3_takeOut P_X3_takeOut Q 10 [some (.inr (.inl (some 0))), some (.inl a), none] [.inl t0] (md_cs s_ z_ (g_th, g_as, g_un, g_um, g_sl, g_hs, g_pd, g_ln, g_at, g_iw, g_os, g_om)) :=
  ab_R.steps [10, 19, 24, 30] 4 (show (ab_r t0 ∧ ((¬ t0 = (0 : Int) → ab_cl sp_X3_records [.inr (.inl (some 0))] (md_cs s_ z_ (g_th, g_as, g_un, g_um, g_sl, g_hs, g_pd, g_ln, g_at, g_iw, g_os, g_om)) (fun r_ k_ => k_.length = ((md_cs s_ z_ (g_th, g_as, g_un, g_um, g_sl, g_hs, g_pd, g_ln, g_at, g_iw, g_os, g_om))).length → ab_R E_X3_takeOut P_X3_takeOut Q 19 [some (.inr (.inl (some 0))), some (.inl a), none] (ab_ret r_ []) k_)) ∧ (t0 = (0 : Int) → Q (some (.inl (-1))) (md_cs s_ z_ (g_th, g_as, g_un, g_um, g_sl, g_hs, g_pd, g_ln, g_at, g_iw, g_os, g_om))))) from ⟨p1, ⟨fun h1 => ⟨_, (l1 h1), fun r_ k_ hz _ => by obtain ⟨s_', z_', g_', rfl, rfl, hR⟩ := hz; exact hR⟩, fun h2 => (l2 h2)⟩⟩)
set_option maxRecDepth 100000 in
theorem b_X3_takeOut_19 {Q : ab_Q} {a : Int} {s_ : Int → Int} {z_ : mc_T} {g_th : Int} {g_as : Int → Int} {g_un : Int → Int} {g_um : Int} {g_sl : Int → Int} {g_hs : Int → Int} {g_pd : Int → Int} {g_ln : Int} {g_at : Int} {g_iw : Int} {g_os : Int → Int} {g_om : Int} (l1 : sp_X3_valueAt [.inr (.inl (some 0)), .inl a] (md_cs s_ z_ (g_th, g_as, g_un, g_um, g_sl, g_hs, g_pd, g_ln, g_at, g_iw, g_os, g_om)) (fun r_ k_ => ∃ (x_ : Int), r_ = some (.inl x_) ∧ k_ = (md_cs s_ z_ (g_th, g_as, g_un, g_um, g_sl, g_hs, g_pd, g_ln, g_at, g_iw, g_os, g_om)) ∧ ab_R E_X3_takeOut P_X3_takeOut Q 24 [some (.inr (.inl (some 0))), some (.inl a), none] [.inl x_] (md_cs s_ z_ (g_th, g_as, g_un, g_um, g_sl, g_hs, g_pd, g_ln, g_at, g_iw, g_os, g_om))))  : ab_R E_X3_takeOut P_X3_takeOut Q 19 [some (.inr (.inl (some 0))), some (.inl a), none] [] (md_cs s_ z_ (g_th, g_as, g_un, g_um, g_sl, g_hs, g_pd, g_ln, g_at, g_iw, g_os, g_om)) :=
  ab_R.steps [10, 19, 24, 30] 4 (show ab_cl sp_X3_valueAt [.inr (.inl (some 0)), .inl a] (md_cs s_ z_ (g_th, g_as, g_un, g_um, g_sl, g_hs, g_pd, g_ln, g_at, g_iw, g_os, g_om)) (fun r_ k_ => k_.length = ((md_cs s_ z_ (g_th, g_as, g_un, g_um, g_sl, g_hs, g_pd, g_ln, g_at, g_iw, g_os, g_om))).length → ab_R E_X3_takeOut P_X3_takeOut Q 24 [some (.inr (.inl (some 0))), some (.inl a), none] (ab_ret r_ []) k_) from ⟨_, l1, fun r_ k_ hz _ => by obtain ⟨x_, rfl, rfl, hR⟩ := hz; exact hR⟩)
set_option maxRecDepth 100000 in
theorem b_X3_takeOut_24 {Q : ab_Q} {a : Int} {t0 : Int} {s_ : Int → Int} {z_ : mc_T} {g_th : Int} {g_as : Int → Int} {g_un : Int → Int} {g_um : Int} {g_sl : Int → Int} {g_hs : Int → Int} {g_pd : Int → Int} {g_ln : Int} {g_at : Int} {g_iw : Int} {g_os : Int → Int} {g_om : Int} (l1 : sp_X3_takes [.inr (.inl (some 0)), .inl a] (md_cs s_ z_ (g_th, g_as, g_un, g_um, g_sl, g_hs, g_pd, g_ln, g_at, g_iw, g_os, g_om)) (fun r_ k_ => ∃ (s_' : Int → Int), ∃ (z_' : mc_T), ∃ (g_' : mg_T), r_ = none ∧ k_ = (md_cs (s_') z_' g_') ∧ ab_R E_X3_takeOut P_X3_takeOut Q 30 [some (.inr (.inl (some 0))), some (.inl a), some (.inl t0)] [] (md_cs (s_') z_' g_')))  : ab_R E_X3_takeOut P_X3_takeOut Q 24 [some (.inr (.inl (some 0))), some (.inl a), none] [.inl t0] (md_cs s_ z_ (g_th, g_as, g_un, g_um, g_sl, g_hs, g_pd, g_ln, g_at, g_iw, g_os, g_om)) :=
  ab_R.steps [10, 19, 24, 30] 5 (show ab_cl sp_X3_takes [.inr (.inl (some 0)), .inl a] (md_cs s_ z_ (g_th, g_as, g_un, g_um, g_sl, g_hs, g_pd, g_ln, g_at, g_iw, g_os, g_om)) (fun r_ k_ => k_.length = ((md_cs s_ z_ (g_th, g_as, g_un, g_um, g_sl, g_hs, g_pd, g_ln, g_at, g_iw, g_os, g_om))).length → ab_R E_X3_takeOut P_X3_takeOut Q 30 [some (.inr (.inl (some 0))), some (.inl a), some (.inl t0)] (ab_ret r_ []) k_) from ⟨_, l1, fun r_ k_ hz _ => by obtain ⟨s_', z_', g_', rfl, rfl, hR⟩ := hz; exact hR⟩)
set_option maxRecDepth 100000 in
theorem b_X3_takeOut_30 {Q : ab_Q} {a : Int} {hd : Int} {s_ : Int → Int} {z_ : mc_T} {g_th : Int} {g_as : Int → Int} {g_un : Int → Int} {g_um : Int} {g_sl : Int → Int} {g_hs : Int → Int} {g_pd : Int → Int} {g_ln : Int} {g_at : Int} {g_iw : Int} {g_os : Int → Int} {g_om : Int} (l1 : Q (some (.inl (hd + 100000))) (md_cs s_ z_ (g_th, g_as, g_un, g_um, g_sl, g_hs, g_pd, g_ln, g_at, g_iw, g_os, g_om)))  : ab_R E_X3_takeOut P_X3_takeOut Q 30 [some (.inr (.inl (some 0))), some (.inl a), some (.inl hd)] [] (md_cs s_ z_ (g_th, g_as, g_un, g_um, g_sl, g_hs, g_pd, g_ln, g_at, g_iw, g_os, g_om)) :=
  ab_R.steps [10, 19, 24, 30] 5 (show Q (some (.inl (hd + 100000))) (md_cs s_ z_ (g_th, g_as, g_un, g_um, g_sl, g_hs, g_pd, g_ln, g_at, g_iw, g_os, g_om)) from l1)
-- ===== RootChunksModel.set
def P_X3_set : List ab_I := [(0, .aload_n 0, 1, []), (1, .iconst 0, 2, []), (2, .putfield 47, 5, []), (5, .aload_n 0, 6, []), (6, .iload_n 1, 7, []), (7, .iload_n 2, 8, []), (8, .invokevirtual 129, 11, []), (11, .istore_n 3, 12, []), (12, .iload_n 3, 13, []), (13, .ifCond .eq 5, 16, [((0 : Int), 18)]), (16, .iload_n 3, 17, []), (17, .ireturn, 18, []), (18, .aload_n 0, 19, []), (19, .invokevirtual 119, 22, []), (22, .aload_n 0, 23, []), (23, .iload_n 1, 24, []), (24, .invokevirtual 61, 27, []), (27, .istore 4, 29, []), (29, .aload_n 0, 30, []), (30, .iload_n 1, 31, []), (31, .iload_n 2, 32, []), (32, .invokevirtual 132, 35, []), (35, .iload 4, 37, []), (37, .ldc 128, 39, []), (39, .iadd, 40, []), (40, .ireturn, 41, [])]
def E_X3_set : ab_E := (T_X3, [(8, (3, 3, [], 0, sp_X3_refusesSet)), (19, (1, 3, [], 0, sp_X3_records)), (24, (2, 3, [], 0, sp_X3_valueAt)), (32, (3, 3, [], 0, sp_X3_sets))], [], 0)
def M_X3_set : List (Nat × ab_MI) := [(8, mi_X3_refusesSet), (19, mi_X3_records), (24, mi_X3_valueAt), (32, mi_X3_sets)]
def mi_X3_set : ab_MI := (yX3_set, cX3_set, 5, ab_rty 0, 6, 186)
theorem pk_X3_set : P_X3_set.all (ab_okI cX3_set) = true := by decide +kernel
theorem ck_X3_set : P_X3_set.all (ab_okC1 "RootChunksModel" M_X3_set E_X3_set (6, 186)) = true := by decide +kernel
set_option maxRecDepth 100000 in
theorem b_X3_set_0 {Q : ab_Q} {a : Int} {b : Int} {s_ : Int → Int} {z_ : mc_T} {g_th : Int} {g_as : Int → Int} {g_un : Int → Int} {g_um : Int} {g_sl : Int → Int} {g_hs : Int → Int} {g_pd : Int → Int} {g_ln : Int} {g_at : Int} {g_iw : Int} {g_os : Int → Int} {g_om : Int} (l1 : sp_X3_refusesSet [.inr (.inl (some 0)), .inl a, .inl b] (md_cs s_ z_ (0, g_as, g_un, g_um, g_sl, g_hs, g_pd, g_ln, g_at, g_iw, g_os, g_om)) (fun r_ k_ => ∃ (x_ : Int), r_ = some (.inl x_) ∧ k_ = (md_cs s_ z_ (0, g_as, g_un, g_um, g_sl, g_hs, g_pd, g_ln, g_at, g_iw, g_os, g_om)) ∧ ab_R E_X3_set P_X3_set Q 11 [some (.inr (.inl (some 0))), some (.inl a), some (.inl b), none, none] [.inl x_] (md_cs s_ z_ (0, g_as, g_un, g_um, g_sl, g_hs, g_pd, g_ln, g_at, g_iw, g_os, g_om))))  : ab_R E_X3_set P_X3_set Q 0 [some (.inr (.inl (some 0))), some (.inl a), some (.inl b), none, none] [] (md_cs s_ z_ (g_th, g_as, g_un, g_um, g_sl, g_hs, g_pd, g_ln, g_at, g_iw, g_os, g_om)) :=
  ab_R.steps [11, 22, 27, 35] 8 (show ab_cl sp_X3_refusesSet [.inr (.inl (some 0)), .inl a, .inl b] (md_cs s_ z_ (0, g_as, g_un, g_um, g_sl, g_hs, g_pd, g_ln, g_at, g_iw, g_os, g_om)) (fun r_ k_ => k_.length = ((md_cs s_ z_ (0, g_as, g_un, g_um, g_sl, g_hs, g_pd, g_ln, g_at, g_iw, g_os, g_om))).length → ab_R E_X3_set P_X3_set Q 11 [some (.inr (.inl (some 0))), some (.inl a), some (.inl b), none, none] (ab_ret r_ []) k_) from ⟨_, l1, fun r_ k_ hz _ => by obtain ⟨x_, rfl, rfl, hR⟩ := hz; exact hR⟩)
set_option maxRecDepth 100000 in
theorem b_X3_set_11 {Q : ab_Q} {a : Int} {b : Int} {t0 : Int} {s_ : Int → Int} {z_ : mc_T} {g_th : Int} {g_as : Int → Int} {g_un : Int → Int} {g_um : Int} {g_sl : Int → Int} {g_hs : Int → Int} {g_pd : Int → Int} {g_ln : Int} {g_at : Int} {g_iw : Int} {g_os : Int → Int} {g_om : Int} (l1 : t0 = (0 : Int) → sp_X3_records [.inr (.inl (some 0))] (md_cs s_ z_ (g_th, g_as, g_un, g_um, g_sl, g_hs, g_pd, g_ln, g_at, g_iw, g_os, g_om)) (fun r_ k_ => ∃ (s_' : Int → Int), ∃ (z_' : mc_T), ∃ (g_' : mg_T), r_ = none ∧ k_ = (md_cs (s_') z_' g_') ∧ ab_R E_X3_set P_X3_set Q 22 [some (.inr (.inl (some 0))), some (.inl a), some (.inl b), some (.inl t0), none] [] (md_cs (s_') z_' g_'))) (l2 : ¬ t0 = (0 : Int) → Q (some (.inl t0)) (md_cs s_ z_ (g_th, g_as, g_un, g_um, g_sl, g_hs, g_pd, g_ln, g_at, g_iw, g_os, g_om))) (p1 : ab_r t0 := by intros; (try unfold ab_r); omega) : ab_R E_X3_set P_X3_set Q 11 [some (.inr (.inl (some 0))), some (.inl a), some (.inl b), none, none] [.inl t0] (md_cs s_ z_ (g_th, g_as, g_un, g_um, g_sl, g_hs, g_pd, g_ln, g_at, g_iw, g_os, g_om)) :=
  ab_R.steps [11, 22, 27, 35] 6 (show (ab_r t0 ∧ ((t0 = (0 : Int) → ab_cl sp_X3_records [.inr (.inl (some 0))] (md_cs s_ z_ (g_th, g_as, g_un, g_um, g_sl, g_hs, g_pd, g_ln, g_at, g_iw, g_os, g_om)) (fun r_ k_ => k_.length = ((md_cs s_ z_ (g_th, g_as, g_un, g_um, g_sl, g_hs, g_pd, g_ln, g_at, g_iw, g_os, g_om))).length → ab_R E_X3_set P_X3_set Q 22 [some (.inr (.inl (some 0))), some (.inl a), some (.inl b), some (.inl t0), none] (ab_ret r_ []) k_)) ∧ (¬ t0 = (0 : Int) → Q (some (.inl t0)) (md_cs s_ z_ (g_th, g_as, g_un, g_um, g_sl, g_hs, g_pd, g_ln, g_at, g_iw, g_os, g_om))))) from ⟨p1, ⟨fun h1 => ⟨_, (l1 h1), fun r_ k_ hz _ => by obtain ⟨s_', z_', g_', rfl, rfl, hR⟩ := hz; exact hR⟩, fun h2 => (l2 h2)⟩⟩)
set_option maxRecDepth 100000 in
theorem b_X3_set_22 {Q : ab_Q} {a : Int} {b : Int} {e : Int} {s_ : Int → Int} {z_ : mc_T} {g_th : Int} {g_as : Int → Int} {g_un : Int → Int} {g_um : Int} {g_sl : Int → Int} {g_hs : Int → Int} {g_pd : Int → Int} {g_ln : Int} {g_at : Int} {g_iw : Int} {g_os : Int → Int} {g_om : Int} (l1 : sp_X3_valueAt [.inr (.inl (some 0)), .inl a] (md_cs s_ z_ (g_th, g_as, g_un, g_um, g_sl, g_hs, g_pd, g_ln, g_at, g_iw, g_os, g_om)) (fun r_ k_ => ∃ (x_ : Int), r_ = some (.inl x_) ∧ k_ = (md_cs s_ z_ (g_th, g_as, g_un, g_um, g_sl, g_hs, g_pd, g_ln, g_at, g_iw, g_os, g_om)) ∧ ab_R E_X3_set P_X3_set Q 27 [some (.inr (.inl (some 0))), some (.inl a), some (.inl b), some (.inl e), none] [.inl x_] (md_cs s_ z_ (g_th, g_as, g_un, g_um, g_sl, g_hs, g_pd, g_ln, g_at, g_iw, g_os, g_om))))  : ab_R E_X3_set P_X3_set Q 22 [some (.inr (.inl (some 0))), some (.inl a), some (.inl b), some (.inl e), none] [] (md_cs s_ z_ (g_th, g_as, g_un, g_um, g_sl, g_hs, g_pd, g_ln, g_at, g_iw, g_os, g_om)) :=
  ab_R.steps [11, 22, 27, 35] 4 (show ab_cl sp_X3_valueAt [.inr (.inl (some 0)), .inl a] (md_cs s_ z_ (g_th, g_as, g_un, g_um, g_sl, g_hs, g_pd, g_ln, g_at, g_iw, g_os, g_om)) (fun r_ k_ => k_.length = ((md_cs s_ z_ (g_th, g_as, g_un, g_um, g_sl, g_hs, g_pd, g_ln, g_at, g_iw, g_os, g_om))).length → ab_R E_X3_set P_X3_set Q 27 [some (.inr (.inl (some 0))), some (.inl a), some (.inl b), some (.inl e), none] (ab_ret r_ []) k_) from ⟨_, l1, fun r_ k_ hz _ => by obtain ⟨x_, rfl, rfl, hR⟩ := hz; exact hR⟩)
set_option maxRecDepth 100000 in
theorem b_X3_set_27 {Q : ab_Q} {a : Int} {b : Int} {e : Int} {t0 : Int} {s_ : Int → Int} {z_ : mc_T} {g_th : Int} {g_as : Int → Int} {g_un : Int → Int} {g_um : Int} {g_sl : Int → Int} {g_hs : Int → Int} {g_pd : Int → Int} {g_ln : Int} {g_at : Int} {g_iw : Int} {g_os : Int → Int} {g_om : Int} (l1 : sp_X3_sets [.inr (.inl (some 0)), .inl a, .inl b] (md_cs s_ z_ (g_th, g_as, g_un, g_um, g_sl, g_hs, g_pd, g_ln, g_at, g_iw, g_os, g_om)) (fun r_ k_ => ∃ (s_' : Int → Int), ∃ (z_' : mc_T), ∃ (g_' : mg_T), r_ = none ∧ k_ = (md_cs (s_') z_' g_') ∧ ab_R E_X3_set P_X3_set Q 35 [some (.inr (.inl (some 0))), some (.inl a), some (.inl b), some (.inl e), some (.inl t0)] [] (md_cs (s_') z_' g_')))  : ab_R E_X3_set P_X3_set Q 27 [some (.inr (.inl (some 0))), some (.inl a), some (.inl b), some (.inl e), none] [.inl t0] (md_cs s_ z_ (g_th, g_as, g_un, g_um, g_sl, g_hs, g_pd, g_ln, g_at, g_iw, g_os, g_om)) :=
  ab_R.steps [11, 22, 27, 35] 6 (show ab_cl sp_X3_sets [.inr (.inl (some 0)), .inl a, .inl b] (md_cs s_ z_ (g_th, g_as, g_un, g_um, g_sl, g_hs, g_pd, g_ln, g_at, g_iw, g_os, g_om)) (fun r_ k_ => k_.length = ((md_cs s_ z_ (g_th, g_as, g_un, g_um, g_sl, g_hs, g_pd, g_ln, g_at, g_iw, g_os, g_om))).length → ab_R E_X3_set P_X3_set Q 35 [some (.inr (.inl (some 0))), some (.inl a), some (.inl b), some (.inl e), some (.inl t0)] (ab_ret r_ []) k_) from ⟨_, l1, fun r_ k_ hz _ => by obtain ⟨s_', z_', g_', rfl, rfl, hR⟩ := hz; exact hR⟩)
set_option maxRecDepth 100000 in
theorem b_X3_set_35 {Q : ab_Q} {a : Int} {b : Int} {e : Int} {hd : Int} {s_ : Int → Int} {z_ : mc_T} {g_th : Int} {g_as : Int → Int} {g_un : Int → Int} {g_um : Int} {g_sl : Int → Int} {g_hs : Int → Int} {g_pd : Int → Int} {g_ln : Int} {g_at : Int} {g_iw : Int} {g_os : Int → Int} {g_om : Int} (l1 : Q (some (.inl (hd + 100000))) (md_cs s_ z_ (g_th, g_as, g_un, g_um, g_sl, g_hs, g_pd, g_ln, g_at, g_iw, g_os, g_om)))  : ab_R E_X3_set P_X3_set Q 35 [some (.inr (.inl (some 0))), some (.inl a), some (.inl b), some (.inl e), some (.inl hd)] [] (md_cs s_ z_ (g_th, g_as, g_un, g_um, g_sl, g_hs, g_pd, g_ln, g_at, g_iw, g_os, g_om)) :=
  ab_R.steps [11, 22, 27, 35] 5 (show Q (some (.inl (hd + 100000))) (md_cs s_ z_ (g_th, g_as, g_un, g_um, g_sl, g_hs, g_pd, g_ln, g_at, g_iw, g_os, g_om)) from l1)
-- ===== RootChunksModel.turn
def P_X3_turn : List ab_I := [(0, .aload_n 0, 1, []), (1, .iconst 0, 2, []), (2, .putfield 47, 5, []), (5, .aload_n 0, 6, []), (6, .iload_n 1, 7, []), (7, .iload_n 2, 8, []), (8, .invokevirtual 102, 11, []), (11, .istore_n 3, 12, []), (12, .iload_n 3, 13, []), (13, .ifCond .eq 5, 16, [((0 : Int), 18)]), (16, .iload_n 3, 17, []), (17, .ireturn, 18, []), (18, .aload_n 0, 19, []), (19, .invokevirtual 119, 22, []), (22, .aload_n 0, 23, []), (23, .iload_n 1, 24, []), (24, .iload_n 2, 25, []), (25, .invokevirtual 135, 28, []), (28, .aload_n 0, 29, []), (29, .getfield 7, 32, []), (32, .iconst 1, 33, []), (33, .iaload, 34, []), (34, .ireturn, 35, [])]
def E_X3_turn : ab_E := (T_X3, [(8, (3, 3, [], 0, sp_X3_refusesSpan)), (19, (1, 3, [], 0, sp_X3_records)), (25, (3, 3, [], 0, sp_X3_turns))], [], 0)
def M_X3_turn : List (Nat × ab_MI) := [(8, mi_X3_refusesSpan), (19, mi_X3_records), (25, mi_X3_turns)]
def mi_X3_turn : ab_MI := (yX3_turn, cX3_turn, 4, ab_rty 0, 6, 189)
theorem pk_X3_turn : P_X3_turn.all (ab_okI cX3_turn) = true := by decide +kernel
theorem ck_X3_turn : P_X3_turn.all (ab_okC1 "RootChunksModel" M_X3_turn E_X3_turn (6, 189)) = true := by decide +kernel
set_option maxRecDepth 100000 in
theorem b_X3_turn_0 {Q : ab_Q} {a : Int} {b : Int} {s_ : Int → Int} {z_ : mc_T} {g_th : Int} {g_as : Int → Int} {g_un : Int → Int} {g_um : Int} {g_sl : Int → Int} {g_hs : Int → Int} {g_pd : Int → Int} {g_ln : Int} {g_at : Int} {g_iw : Int} {g_os : Int → Int} {g_om : Int} (l1 : sp_X3_refusesSpan [.inr (.inl (some 0)), .inl a, .inl b] (md_cs s_ z_ (0, g_as, g_un, g_um, g_sl, g_hs, g_pd, g_ln, g_at, g_iw, g_os, g_om)) (fun r_ k_ => ∃ (x_ : Int), r_ = some (.inl x_) ∧ k_ = (md_cs s_ z_ (0, g_as, g_un, g_um, g_sl, g_hs, g_pd, g_ln, g_at, g_iw, g_os, g_om)) ∧ ab_R E_X3_turn P_X3_turn Q 11 [some (.inr (.inl (some 0))), some (.inl a), some (.inl b), none] [.inl x_] (md_cs s_ z_ (0, g_as, g_un, g_um, g_sl, g_hs, g_pd, g_ln, g_at, g_iw, g_os, g_om))))  : ab_R E_X3_turn P_X3_turn Q 0 [some (.inr (.inl (some 0))), some (.inl a), some (.inl b), none] [] (md_cs s_ z_ (g_th, g_as, g_un, g_um, g_sl, g_hs, g_pd, g_ln, g_at, g_iw, g_os, g_om)) :=
  ab_R.steps [11, 22, 28] 8 (show ab_cl sp_X3_refusesSpan [.inr (.inl (some 0)), .inl a, .inl b] (md_cs s_ z_ (0, g_as, g_un, g_um, g_sl, g_hs, g_pd, g_ln, g_at, g_iw, g_os, g_om)) (fun r_ k_ => k_.length = ((md_cs s_ z_ (0, g_as, g_un, g_um, g_sl, g_hs, g_pd, g_ln, g_at, g_iw, g_os, g_om))).length → ab_R E_X3_turn P_X3_turn Q 11 [some (.inr (.inl (some 0))), some (.inl a), some (.inl b), none] (ab_ret r_ []) k_) from ⟨_, l1, fun r_ k_ hz _ => by obtain ⟨x_, rfl, rfl, hR⟩ := hz; exact hR⟩)
set_option maxRecDepth 100000 in
theorem b_X3_turn_11 {Q : ab_Q} {a : Int} {b : Int} {t0 : Int} {s_ : Int → Int} {z_ : mc_T} {g_th : Int} {g_as : Int → Int} {g_un : Int → Int} {g_um : Int} {g_sl : Int → Int} {g_hs : Int → Int} {g_pd : Int → Int} {g_ln : Int} {g_at : Int} {g_iw : Int} {g_os : Int → Int} {g_om : Int} (l1 : t0 = (0 : Int) → sp_X3_records [.inr (.inl (some 0))] (md_cs s_ z_ (g_th, g_as, g_un, g_um, g_sl, g_hs, g_pd, g_ln, g_at, g_iw, g_os, g_om)) (fun r_ k_ => ∃ (s_' : Int → Int), ∃ (z_' : mc_T), ∃ (g_' : mg_T), r_ = none ∧ k_ = (md_cs (s_') z_' g_') ∧ ab_R E_X3_turn P_X3_turn Q 22 [some (.inr (.inl (some 0))), some (.inl a), some (.inl b), some (.inl t0)] [] (md_cs (s_') z_' g_'))) (l2 : ¬ t0 = (0 : Int) → Q (some (.inl t0)) (md_cs s_ z_ (g_th, g_as, g_un, g_um, g_sl, g_hs, g_pd, g_ln, g_at, g_iw, g_os, g_om))) (p1 : ab_r t0 := by intros; (try unfold ab_r); omega) : ab_R E_X3_turn P_X3_turn Q 11 [some (.inr (.inl (some 0))), some (.inl a), some (.inl b), none] [.inl t0] (md_cs s_ z_ (g_th, g_as, g_un, g_um, g_sl, g_hs, g_pd, g_ln, g_at, g_iw, g_os, g_om)) :=
  ab_R.steps [11, 22, 28] 6 (show (ab_r t0 ∧ ((t0 = (0 : Int) → ab_cl sp_X3_records [.inr (.inl (some 0))] (md_cs s_ z_ (g_th, g_as, g_un, g_um, g_sl, g_hs, g_pd, g_ln, g_at, g_iw, g_os, g_om)) (fun r_ k_ => k_.length = ((md_cs s_ z_ (g_th, g_as, g_un, g_um, g_sl, g_hs, g_pd, g_ln, g_at, g_iw, g_os, g_om))).length → ab_R E_X3_turn P_X3_turn Q 22 [some (.inr (.inl (some 0))), some (.inl a), some (.inl b), some (.inl t0)] (ab_ret r_ []) k_)) ∧ (¬ t0 = (0 : Int) → Q (some (.inl t0)) (md_cs s_ z_ (g_th, g_as, g_un, g_um, g_sl, g_hs, g_pd, g_ln, g_at, g_iw, g_os, g_om))))) from ⟨p1, ⟨fun h1 => ⟨_, (l1 h1), fun r_ k_ hz _ => by obtain ⟨s_', z_', g_', rfl, rfl, hR⟩ := hz; exact hR⟩, fun h2 => (l2 h2)⟩⟩)
set_option maxRecDepth 100000 in
theorem b_X3_turn_22 {Q : ab_Q} {a : Int} {b : Int} {e : Int} {s_ : Int → Int} {z_ : mc_T} {g_th : Int} {g_as : Int → Int} {g_un : Int → Int} {g_um : Int} {g_sl : Int → Int} {g_hs : Int → Int} {g_pd : Int → Int} {g_ln : Int} {g_at : Int} {g_iw : Int} {g_os : Int → Int} {g_om : Int} (l1 : sp_X3_turns [.inr (.inl (some 0)), .inl a, .inl b] (md_cs s_ z_ (g_th, g_as, g_un, g_um, g_sl, g_hs, g_pd, g_ln, g_at, g_iw, g_os, g_om)) (fun r_ k_ => ∃ (s_' : Int → Int), ∃ (z_' : mc_T), ∃ (g_' : mg_T), r_ = none ∧ k_ = (md_cs (s_') z_' g_') ∧ ab_R E_X3_turn P_X3_turn Q 28 [some (.inr (.inl (some 0))), some (.inl a), some (.inl b), some (.inl e)] [] (md_cs (s_') z_' g_')))  : ab_R E_X3_turn P_X3_turn Q 22 [some (.inr (.inl (some 0))), some (.inl a), some (.inl b), some (.inl e)] [] (md_cs s_ z_ (g_th, g_as, g_un, g_um, g_sl, g_hs, g_pd, g_ln, g_at, g_iw, g_os, g_om)) :=
  ab_R.steps [11, 22, 28] 5 (show ab_cl sp_X3_turns [.inr (.inl (some 0)), .inl a, .inl b] (md_cs s_ z_ (g_th, g_as, g_un, g_um, g_sl, g_hs, g_pd, g_ln, g_at, g_iw, g_os, g_om)) (fun r_ k_ => k_.length = ((md_cs s_ z_ (g_th, g_as, g_un, g_um, g_sl, g_hs, g_pd, g_ln, g_at, g_iw, g_os, g_om))).length → ab_R E_X3_turn P_X3_turn Q 28 [some (.inr (.inl (some 0))), some (.inl a), some (.inl b), some (.inl e)] (ab_ret r_ []) k_) from ⟨_, l1, fun r_ k_ hz _ => by obtain ⟨s_', z_', g_', rfl, rfl, hR⟩ := hz; exact hR⟩)
set_option maxRecDepth 100000 in
theorem b_X3_turn_28 {Q : ab_Q} {a : Int} {b : Int} {e : Int} {s_ : Int → Int} {z_ : mc_T} {g_th : Int} {g_as : Int → Int} {g_un : Int → Int} {g_um : Int} {g_sl : Int → Int} {g_hs : Int → Int} {g_pd : Int → Int} {g_ln : Int} {g_at : Int} {g_iw : Int} {g_os : Int → Int} {g_om : Int} (l1 : Q (some (.inl (s_ 1))) (md_cs s_ z_ (g_th, g_as, g_un, g_um, g_sl, g_hs, g_pd, g_ln, g_at, g_iw, g_os, g_om))) (p1 : (0 ≤ (1 : Int) ∧ (1 : Int) < 255) := by intros; (try unfold ab_r); omega) : ab_R E_X3_turn P_X3_turn Q 28 [some (.inr (.inl (some 0))), some (.inl a), some (.inl b), some (.inl e)] [] (md_cs s_ z_ (g_th, g_as, g_un, g_um, g_sl, g_hs, g_pd, g_ln, g_at, g_iw, g_os, g_om)) :=
  ab_R.steps [11, 22, 28] 6 (show ((0 ≤ (1 : Int) ∧ (1 : Int) < 255) ∧ Q (some (.inl (s_ 1))) (md_cs s_ z_ (g_th, g_as, g_un, g_um, g_sl, g_hs, g_pd, g_ln, g_at, g_iw, g_os, g_om))) from ⟨p1, l1⟩)
-- ===== RootChunksModel.add
def P_X3_add : List ab_I := [(0, .aload_n 0, 1, []), (1, .iconst 0, 2, []), (2, .putfield 47, 5, []), (5, .aload_n 0, 6, []), (6, .iload_n 1, 7, []), (7, .iload_n 2, 8, []), (8, .iload_n 3, 9, []), (9, .invokevirtual 138, 12, []), (12, .istore 4, 14, []), (14, .iload 4, 16, []), (16, .ifCond .eq 6, 19, [((0 : Int), 22)]), (19, .iload 4, 21, []), (21, .ireturn, 22, []), (22, .aload_n 0, 23, []), (23, .invokevirtual 119, 26, []), (26, .aload_n 0, 27, []), (27, .iload_n 1, 28, []), (28, .iload_n 2, 29, []), (29, .iload_n 3, 30, []), (30, .invokevirtual 141, 33, []), (33, .aload_n 0, 34, []), (34, .getfield 7, 37, []), (37, .iconst 1, 38, []), (38, .iaload, 39, []), (39, .ireturn, 40, [])]
def E_X3_add : ab_E := (T_X3, [(9, (4, 3, [], 0, sp_X3_refusesAdd)), (23, (1, 3, [], 0, sp_X3_records)), (30, (4, 3, [], 0, sp_X3_addsTo))], [], 0)
def M_X3_add : List (Nat × ab_MI) := [(9, mi_X3_refusesAdd), (23, mi_X3_records), (30, mi_X3_addsTo)]
def mi_X3_add : ab_MI := (yX3_add, cX3_add, 5, ab_rty 0, 6, 189)
theorem pk_X3_add : P_X3_add.all (ab_okI cX3_add) = true := by decide +kernel
theorem ck_X3_add : P_X3_add.all (ab_okC1 "RootChunksModel" M_X3_add E_X3_add (6, 189)) = true := by decide +kernel
set_option maxRecDepth 100000 in
theorem b_X3_add_0 {Q : ab_Q} {a : Int} {b : Int} {v : Int} {s_ : Int → Int} {z_ : mc_T} {g_th : Int} {g_as : Int → Int} {g_un : Int → Int} {g_um : Int} {g_sl : Int → Int} {g_hs : Int → Int} {g_pd : Int → Int} {g_ln : Int} {g_at : Int} {g_iw : Int} {g_os : Int → Int} {g_om : Int} (l1 : sp_X3_refusesAdd [.inr (.inl (some 0)), .inl a, .inl b, .inl v] (md_cs s_ z_ (0, g_as, g_un, g_um, g_sl, g_hs, g_pd, g_ln, g_at, g_iw, g_os, g_om)) (fun r_ k_ => ∃ (x_ : Int), r_ = some (.inl x_) ∧ k_ = (md_cs s_ z_ (0, g_as, g_un, g_um, g_sl, g_hs, g_pd, g_ln, g_at, g_iw, g_os, g_om)) ∧ ab_R E_X3_add P_X3_add Q 12 [some (.inr (.inl (some 0))), some (.inl a), some (.inl b), some (.inl v), none] [.inl x_] (md_cs s_ z_ (0, g_as, g_un, g_um, g_sl, g_hs, g_pd, g_ln, g_at, g_iw, g_os, g_om))))  : ab_R E_X3_add P_X3_add Q 0 [some (.inr (.inl (some 0))), some (.inl a), some (.inl b), some (.inl v), none] [] (md_cs s_ z_ (g_th, g_as, g_un, g_um, g_sl, g_hs, g_pd, g_ln, g_at, g_iw, g_os, g_om)) :=
  ab_R.steps [12, 26, 33] 9 (show ab_cl sp_X3_refusesAdd [.inr (.inl (some 0)), .inl a, .inl b, .inl v] (md_cs s_ z_ (0, g_as, g_un, g_um, g_sl, g_hs, g_pd, g_ln, g_at, g_iw, g_os, g_om)) (fun r_ k_ => k_.length = ((md_cs s_ z_ (0, g_as, g_un, g_um, g_sl, g_hs, g_pd, g_ln, g_at, g_iw, g_os, g_om))).length → ab_R E_X3_add P_X3_add Q 12 [some (.inr (.inl (some 0))), some (.inl a), some (.inl b), some (.inl v), none] (ab_ret r_ []) k_) from ⟨_, l1, fun r_ k_ hz _ => by obtain ⟨x_, rfl, rfl, hR⟩ := hz; exact hR⟩)
set_option maxRecDepth 100000 in
theorem b_X3_add_12 {Q : ab_Q} {a : Int} {b : Int} {v : Int} {t0 : Int} {s_ : Int → Int} {z_ : mc_T} {g_th : Int} {g_as : Int → Int} {g_un : Int → Int} {g_um : Int} {g_sl : Int → Int} {g_hs : Int → Int} {g_pd : Int → Int} {g_ln : Int} {g_at : Int} {g_iw : Int} {g_os : Int → Int} {g_om : Int} (l1 : t0 = (0 : Int) → sp_X3_records [.inr (.inl (some 0))] (md_cs s_ z_ (g_th, g_as, g_un, g_um, g_sl, g_hs, g_pd, g_ln, g_at, g_iw, g_os, g_om)) (fun r_ k_ => ∃ (s_' : Int → Int), ∃ (z_' : mc_T), ∃ (g_' : mg_T), r_ = none ∧ k_ = (md_cs (s_') z_' g_') ∧ ab_R E_X3_add P_X3_add Q 26 [some (.inr (.inl (some 0))), some (.inl a), some (.inl b), some (.inl v), some (.inl t0)] [] (md_cs (s_') z_' g_'))) (l2 : ¬ t0 = (0 : Int) → Q (some (.inl t0)) (md_cs s_ z_ (g_th, g_as, g_un, g_um, g_sl, g_hs, g_pd, g_ln, g_at, g_iw, g_os, g_om))) (p1 : ab_r t0 := by intros; (try unfold ab_r); omega) : ab_R E_X3_add P_X3_add Q 12 [some (.inr (.inl (some 0))), some (.inl a), some (.inl b), some (.inl v), none] [.inl t0] (md_cs s_ z_ (g_th, g_as, g_un, g_um, g_sl, g_hs, g_pd, g_ln, g_at, g_iw, g_os, g_om)) :=
  ab_R.steps [12, 26, 33] 6 (show (ab_r t0 ∧ ((t0 = (0 : Int) → ab_cl sp_X3_records [.inr (.inl (some 0))] (md_cs s_ z_ (g_th, g_as, g_un, g_um, g_sl, g_hs, g_pd, g_ln, g_at, g_iw, g_os, g_om)) (fun r_ k_ => k_.length = ((md_cs s_ z_ (g_th, g_as, g_un, g_um, g_sl, g_hs, g_pd, g_ln, g_at, g_iw, g_os, g_om))).length → ab_R E_X3_add P_X3_add Q 26 [some (.inr (.inl (some 0))), some (.inl a), some (.inl b), some (.inl v), some (.inl t0)] (ab_ret r_ []) k_)) ∧ (¬ t0 = (0 : Int) → Q (some (.inl t0)) (md_cs s_ z_ (g_th, g_as, g_un, g_um, g_sl, g_hs, g_pd, g_ln, g_at, g_iw, g_os, g_om))))) from ⟨p1, ⟨fun h1 => ⟨_, (l1 h1), fun r_ k_ hz _ => by obtain ⟨s_', z_', g_', rfl, rfl, hR⟩ := hz; exact hR⟩, fun h2 => (l2 h2)⟩⟩)
set_option maxRecDepth 100000 in
theorem b_X3_add_26 {Q : ab_Q} {a : Int} {b : Int} {v : Int} {e : Int} {s_ : Int → Int} {z_ : mc_T} {g_th : Int} {g_as : Int → Int} {g_un : Int → Int} {g_um : Int} {g_sl : Int → Int} {g_hs : Int → Int} {g_pd : Int → Int} {g_ln : Int} {g_at : Int} {g_iw : Int} {g_os : Int → Int} {g_om : Int} (l1 : sp_X3_addsTo [.inr (.inl (some 0)), .inl a, .inl b, .inl v] (md_cs s_ z_ (g_th, g_as, g_un, g_um, g_sl, g_hs, g_pd, g_ln, g_at, g_iw, g_os, g_om)) (fun r_ k_ => ∃ (s_' : Int → Int), ∃ (z_' : mc_T), ∃ (g_' : mg_T), r_ = none ∧ k_ = (md_cs (s_') z_' g_') ∧ ab_R E_X3_add P_X3_add Q 33 [some (.inr (.inl (some 0))), some (.inl a), some (.inl b), some (.inl v), some (.inl e)] [] (md_cs (s_') z_' g_')))  : ab_R E_X3_add P_X3_add Q 26 [some (.inr (.inl (some 0))), some (.inl a), some (.inl b), some (.inl v), some (.inl e)] [] (md_cs s_ z_ (g_th, g_as, g_un, g_um, g_sl, g_hs, g_pd, g_ln, g_at, g_iw, g_os, g_om)) :=
  ab_R.steps [12, 26, 33] 6 (show ab_cl sp_X3_addsTo [.inr (.inl (some 0)), .inl a, .inl b, .inl v] (md_cs s_ z_ (g_th, g_as, g_un, g_um, g_sl, g_hs, g_pd, g_ln, g_at, g_iw, g_os, g_om)) (fun r_ k_ => k_.length = ((md_cs s_ z_ (g_th, g_as, g_un, g_um, g_sl, g_hs, g_pd, g_ln, g_at, g_iw, g_os, g_om))).length → ab_R E_X3_add P_X3_add Q 33 [some (.inr (.inl (some 0))), some (.inl a), some (.inl b), some (.inl v), some (.inl e)] (ab_ret r_ []) k_) from ⟨_, l1, fun r_ k_ hz _ => by obtain ⟨s_', z_', g_', rfl, rfl, hR⟩ := hz; exact hR⟩)
set_option maxRecDepth 100000 in
theorem b_X3_add_33 {Q : ab_Q} {a : Int} {b : Int} {v : Int} {e : Int} {s_ : Int → Int} {z_ : mc_T} {g_th : Int} {g_as : Int → Int} {g_un : Int → Int} {g_um : Int} {g_sl : Int → Int} {g_hs : Int → Int} {g_pd : Int → Int} {g_ln : Int} {g_at : Int} {g_iw : Int} {g_os : Int → Int} {g_om : Int} (l1 : Q (some (.inl (s_ 1))) (md_cs s_ z_ (g_th, g_as, g_un, g_um, g_sl, g_hs, g_pd, g_ln, g_at, g_iw, g_os, g_om))) (p1 : (0 ≤ (1 : Int) ∧ (1 : Int) < 255) := by intros; (try unfold ab_r); omega) : ab_R E_X3_add P_X3_add Q 33 [some (.inr (.inl (some 0))), some (.inl a), some (.inl b), some (.inl v), some (.inl e)] [] (md_cs s_ z_ (g_th, g_as, g_un, g_um, g_sl, g_hs, g_pd, g_ln, g_at, g_iw, g_os, g_om)) :=
  ab_R.steps [12, 26, 33] 6 (show ((0 ≤ (1 : Int) ∧ (1 : Int) < 255) ∧ Q (some (.inl (s_ 1))) (md_cs s_ z_ (g_th, g_as, g_un, g_um, g_sl, g_hs, g_pd, g_ln, g_at, g_iw, g_os, g_om))) from ⟨p1, l1⟩)
-- ===== RootChunksModel.move
def P_X3_move : List ab_I := [(0, .aload_n 0, 1, []), (1, .iconst 0, 2, []), (2, .putfield 47, 5, []), (5, .aload_n 0, 6, []), (6, .iload_n 1, 7, []), (7, .iload_n 2, 8, []), (8, .iload_n 3, 9, []), (9, .invokevirtual 144, 12, []), (12, .istore 4, 14, []), (14, .iload 4, 16, []), (16, .ifCond .eq 6, 19, [((0 : Int), 22)]), (19, .iload 4, 21, []), (21, .ireturn, 22, []), (22, .aload_n 0, 23, []), (23, .invokevirtual 119, 26, []), (26, .aload_n 0, 27, []), (27, .iload_n 1, 28, []), (28, .iload_n 2, 29, []), (29, .iload_n 3, 30, []), (30, .invokevirtual 112, 33, []), (33, .aload_n 0, 34, []), (34, .invokevirtual 85, 37, []), (37, .aload_n 0, 38, []), (38, .getfield 7, 41, []), (41, .iconst 1, 42, []), (42, .iaload, 43, []), (43, .ireturn, 44, [])]
def E_X3_move : ab_E := (T_X3, [(9, (4, 3, [], 0, sp_X3_refusesMove)), (23, (1, 3, [], 0, sp_X3_records)), (30, (4, 3, [], 0, sp_X3_shifts)), (34, (1, 3, [], 0, sp_X3_evens))], [], 0)
def M_X3_move : List (Nat × ab_MI) := [(9, mi_X3_refusesMove), (23, mi_X3_records), (30, mi_X3_shifts), (34, mi_X3_evens)]
def mi_X3_move : ab_MI := (yX3_move, cX3_move, 5, ab_rty 0, 6, 194)
theorem pk_X3_move : P_X3_move.all (ab_okI cX3_move) = true := by decide +kernel
theorem ck_X3_move : P_X3_move.all (ab_okC1 "RootChunksModel" M_X3_move E_X3_move (6, 194)) = true := by decide +kernel
set_option maxRecDepth 100000 in
theorem b_X3_move_0 {Q : ab_Q} {a : Int} {b : Int} {v : Int} {s_ : Int → Int} {z_ : mc_T} {g_th : Int} {g_as : Int → Int} {g_un : Int → Int} {g_um : Int} {g_sl : Int → Int} {g_hs : Int → Int} {g_pd : Int → Int} {g_ln : Int} {g_at : Int} {g_iw : Int} {g_os : Int → Int} {g_om : Int} (l1 : sp_X3_refusesMove [.inr (.inl (some 0)), .inl a, .inl b, .inl v] (md_cs s_ z_ (0, g_as, g_un, g_um, g_sl, g_hs, g_pd, g_ln, g_at, g_iw, g_os, g_om)) (fun r_ k_ => ∃ (x_ : Int), r_ = some (.inl x_) ∧ k_ = (md_cs s_ z_ (0, g_as, g_un, g_um, g_sl, g_hs, g_pd, g_ln, g_at, g_iw, g_os, g_om)) ∧ ab_R E_X3_move P_X3_move Q 12 [some (.inr (.inl (some 0))), some (.inl a), some (.inl b), some (.inl v), none] [.inl x_] (md_cs s_ z_ (0, g_as, g_un, g_um, g_sl, g_hs, g_pd, g_ln, g_at, g_iw, g_os, g_om))))  : ab_R E_X3_move P_X3_move Q 0 [some (.inr (.inl (some 0))), some (.inl a), some (.inl b), some (.inl v), none] [] (md_cs s_ z_ (g_th, g_as, g_un, g_um, g_sl, g_hs, g_pd, g_ln, g_at, g_iw, g_os, g_om)) :=
  ab_R.steps [12, 26, 33, 37] 9 (show ab_cl sp_X3_refusesMove [.inr (.inl (some 0)), .inl a, .inl b, .inl v] (md_cs s_ z_ (0, g_as, g_un, g_um, g_sl, g_hs, g_pd, g_ln, g_at, g_iw, g_os, g_om)) (fun r_ k_ => k_.length = ((md_cs s_ z_ (0, g_as, g_un, g_um, g_sl, g_hs, g_pd, g_ln, g_at, g_iw, g_os, g_om))).length → ab_R E_X3_move P_X3_move Q 12 [some (.inr (.inl (some 0))), some (.inl a), some (.inl b), some (.inl v), none] (ab_ret r_ []) k_) from ⟨_, l1, fun r_ k_ hz _ => by obtain ⟨x_, rfl, rfl, hR⟩ := hz; exact hR⟩)
set_option maxRecDepth 100000 in
theorem b_X3_move_12 {Q : ab_Q} {a : Int} {b : Int} {v : Int} {t0 : Int} {s_ : Int → Int} {z_ : mc_T} {g_th : Int} {g_as : Int → Int} {g_un : Int → Int} {g_um : Int} {g_sl : Int → Int} {g_hs : Int → Int} {g_pd : Int → Int} {g_ln : Int} {g_at : Int} {g_iw : Int} {g_os : Int → Int} {g_om : Int} (l1 : t0 = (0 : Int) → sp_X3_records [.inr (.inl (some 0))] (md_cs s_ z_ (g_th, g_as, g_un, g_um, g_sl, g_hs, g_pd, g_ln, g_at, g_iw, g_os, g_om)) (fun r_ k_ => ∃ (s_' : Int → Int), ∃ (z_' : mc_T), ∃ (g_' : mg_T), r_ = none ∧ k_ = (md_cs (s_') z_' g_') ∧ ab_R E_X3_move P_X3_move Q 26 [some (.inr (.inl (some 0))), some (.inl a), some (.inl b), some (.inl v), some (.inl t0)] [] (md_cs (s_') z_' g_'))) (l2 : ¬ t0 = (0 : Int) → Q (some (.inl t0)) (md_cs s_ z_ (g_th, g_as, g_un, g_um, g_sl, g_hs, g_pd, g_ln, g_at, g_iw, g_os, g_om))) (p1 : ab_r t0 := by intros; (try unfold ab_r); omega) : ab_R E_X3_move P_X3_move Q 12 [some (.inr (.inl (some 0))), some (.inl a), some (.inl b), some (.inl v), none] [.inl t0] (md_cs s_ z_ (g_th, g_as, g_un, g_um, g_sl, g_hs, g_pd, g_ln, g_at, g_iw, g_os, g_om)) :=
  ab_R.steps [12, 26, 33, 37] 6 (show (ab_r t0 ∧ ((t0 = (0 : Int) → ab_cl sp_X3_records [.inr (.inl (some 0))] (md_cs s_ z_ (g_th, g_as, g_un, g_um, g_sl, g_hs, g_pd, g_ln, g_at, g_iw, g_os, g_om)) (fun r_ k_ => k_.length = ((md_cs s_ z_ (g_th, g_as, g_un, g_um, g_sl, g_hs, g_pd, g_ln, g_at, g_iw, g_os, g_om))).length → ab_R E_X3_move P_X3_move Q 26 [some (.inr (.inl (some 0))), some (.inl a), some (.inl b), some (.inl v), some (.inl t0)] (ab_ret r_ []) k_)) ∧ (¬ t0 = (0 : Int) → Q (some (.inl t0)) (md_cs s_ z_ (g_th, g_as, g_un, g_um, g_sl, g_hs, g_pd, g_ln, g_at, g_iw, g_os, g_om))))) from ⟨p1, ⟨fun h1 => ⟨_, (l1 h1), fun r_ k_ hz _ => by obtain ⟨s_', z_', g_', rfl, rfl, hR⟩ := hz; exact hR⟩, fun h2 => (l2 h2)⟩⟩)
set_option maxRecDepth 100000 in
theorem b_X3_move_26 {Q : ab_Q} {a : Int} {b : Int} {v : Int} {e : Int} {s_ : Int → Int} {z_ : mc_T} {g_th : Int} {g_as : Int → Int} {g_un : Int → Int} {g_um : Int} {g_sl : Int → Int} {g_hs : Int → Int} {g_pd : Int → Int} {g_ln : Int} {g_at : Int} {g_iw : Int} {g_os : Int → Int} {g_om : Int} (l1 : sp_X3_shifts [.inr (.inl (some 0)), .inl a, .inl b, .inl v] (md_cs s_ z_ (g_th, g_as, g_un, g_um, g_sl, g_hs, g_pd, g_ln, g_at, g_iw, g_os, g_om)) (fun r_ k_ => ∃ (s_' : Int → Int), ∃ (z_' : mc_T), ∃ (g_' : mg_T), r_ = none ∧ k_ = (md_cs (s_') z_' g_') ∧ ab_R E_X3_move P_X3_move Q 33 [some (.inr (.inl (some 0))), some (.inl a), some (.inl b), some (.inl v), some (.inl e)] [] (md_cs (s_') z_' g_')))  : ab_R E_X3_move P_X3_move Q 26 [some (.inr (.inl (some 0))), some (.inl a), some (.inl b), some (.inl v), some (.inl e)] [] (md_cs s_ z_ (g_th, g_as, g_un, g_um, g_sl, g_hs, g_pd, g_ln, g_at, g_iw, g_os, g_om)) :=
  ab_R.steps [12, 26, 33, 37] 6 (show ab_cl sp_X3_shifts [.inr (.inl (some 0)), .inl a, .inl b, .inl v] (md_cs s_ z_ (g_th, g_as, g_un, g_um, g_sl, g_hs, g_pd, g_ln, g_at, g_iw, g_os, g_om)) (fun r_ k_ => k_.length = ((md_cs s_ z_ (g_th, g_as, g_un, g_um, g_sl, g_hs, g_pd, g_ln, g_at, g_iw, g_os, g_om))).length → ab_R E_X3_move P_X3_move Q 33 [some (.inr (.inl (some 0))), some (.inl a), some (.inl b), some (.inl v), some (.inl e)] (ab_ret r_ []) k_) from ⟨_, l1, fun r_ k_ hz _ => by obtain ⟨s_', z_', g_', rfl, rfl, hR⟩ := hz; exact hR⟩)
set_option maxRecDepth 100000 in
theorem b_X3_move_33 {Q : ab_Q} {a : Int} {b : Int} {v : Int} {e : Int} {s_ : Int → Int} {z_ : mc_T} {g_th : Int} {g_as : Int → Int} {g_un : Int → Int} {g_um : Int} {g_sl : Int → Int} {g_hs : Int → Int} {g_pd : Int → Int} {g_ln : Int} {g_at : Int} {g_iw : Int} {g_os : Int → Int} {g_om : Int} (l1 : sp_X3_evens [.inr (.inl (some 0))] (md_cs s_ z_ (g_th, g_as, g_un, g_um, g_sl, g_hs, g_pd, g_ln, g_at, g_iw, g_os, g_om)) (fun r_ k_ => ∃ (s_' : Int → Int), ∃ (z_' : mc_T), ∃ (g_' : mg_T), r_ = none ∧ k_ = (md_cs (s_') z_' g_') ∧ ab_R E_X3_move P_X3_move Q 37 [some (.inr (.inl (some 0))), some (.inl a), some (.inl b), some (.inl v), some (.inl e)] [] (md_cs (s_') z_' g_')))  : ab_R E_X3_move P_X3_move Q 33 [some (.inr (.inl (some 0))), some (.inl a), some (.inl b), some (.inl v), some (.inl e)] [] (md_cs s_ z_ (g_th, g_as, g_un, g_um, g_sl, g_hs, g_pd, g_ln, g_at, g_iw, g_os, g_om)) :=
  ab_R.steps [12, 26, 33, 37] 3 (show ab_cl sp_X3_evens [.inr (.inl (some 0))] (md_cs s_ z_ (g_th, g_as, g_un, g_um, g_sl, g_hs, g_pd, g_ln, g_at, g_iw, g_os, g_om)) (fun r_ k_ => k_.length = ((md_cs s_ z_ (g_th, g_as, g_un, g_um, g_sl, g_hs, g_pd, g_ln, g_at, g_iw, g_os, g_om))).length → ab_R E_X3_move P_X3_move Q 37 [some (.inr (.inl (some 0))), some (.inl a), some (.inl b), some (.inl v), some (.inl e)] (ab_ret r_ []) k_) from ⟨_, l1, fun r_ k_ hz _ => by obtain ⟨s_', z_', g_', rfl, rfl, hR⟩ := hz; exact hR⟩)
set_option maxRecDepth 100000 in
theorem b_X3_move_37 {Q : ab_Q} {a : Int} {b : Int} {v : Int} {e : Int} {s_ : Int → Int} {z_ : mc_T} {g_th : Int} {g_as : Int → Int} {g_un : Int → Int} {g_um : Int} {g_sl : Int → Int} {g_hs : Int → Int} {g_pd : Int → Int} {g_ln : Int} {g_at : Int} {g_iw : Int} {g_os : Int → Int} {g_om : Int} (l1 : Q (some (.inl (s_ 1))) (md_cs s_ z_ (g_th, g_as, g_un, g_um, g_sl, g_hs, g_pd, g_ln, g_at, g_iw, g_os, g_om))) (p1 : (0 ≤ (1 : Int) ∧ (1 : Int) < 255) := by intros; (try unfold ab_r); omega) : ab_R E_X3_move P_X3_move Q 37 [some (.inr (.inl (some 0))), some (.inl a), some (.inl b), some (.inl v), some (.inl e)] [] (md_cs s_ z_ (g_th, g_as, g_un, g_um, g_sl, g_hs, g_pd, g_ln, g_at, g_iw, g_os, g_om)) :=
  ab_R.steps [12, 26, 33, 37] 6 (show ((0 ≤ (1 : Int) ∧ (1 : Int) < 255) ∧ Q (some (.inl (s_ 1))) (md_cs s_ z_ (g_th, g_as, g_un, g_um, g_sl, g_hs, g_pd, g_ln, g_at, g_iw, g_os, g_om))) from ⟨p1, l1⟩)
-- ===== RootChunksModel.rotate
def P_X3_rotate : List ab_I := [(0, .aload_n 0, 1, []), (1, .iconst 0, 2, []), (2, .putfield 47, 5, []), (5, .aload_n 0, 6, []), (6, .iload_n 1, 7, []), (7, .iload_n 2, 8, []), (8, .iload_n 3, 9, []), (9, .invokevirtual 106, 12, []), (12, .istore 4, 14, []), (14, .iload 4, 16, []), (16, .ifCond .eq 6, 19, [((0 : Int), 22)]), (19, .iload 4, 21, []), (21, .ireturn, 22, []), (22, .aload_n 0, 23, []), (23, .invokevirtual 119, 26, []), (26, .aload_n 0, 27, []), (27, .iload_n 1, 28, []), (28, .iload_n 2, 29, []), (29, .iload_n 3, 30, []), (30, .invokevirtual 147, 33, []), (33, .aload_n 0, 34, []), (34, .getfield 7, 37, []), (37, .iconst 1, 38, []), (38, .iaload, 39, []), (39, .ireturn, 40, [])]
def E_X3_rotate : ab_E := (T_X3, [(9, (4, 3, [], 0, sp_X3_refusesBy)), (23, (1, 3, [], 0, sp_X3_records)), (30, (4, 3, [], 0, sp_X3_rotates))], [], 0)
def M_X3_rotate : List (Nat × ab_MI) := [(9, mi_X3_refusesBy), (23, mi_X3_records), (30, mi_X3_rotates)]
def mi_X3_rotate : ab_MI := (yX3_rotate, cX3_rotate, 5, ab_rty 0, 7, 219)
theorem pk_X3_rotate : P_X3_rotate.all (ab_okI cX3_rotate) = true := by decide +kernel
theorem ck_X3_rotate : P_X3_rotate.all (ab_okC1 "RootChunksModel" M_X3_rotate E_X3_rotate (7, 219)) = true := by decide +kernel
set_option maxRecDepth 100000 in
theorem b_X3_rotate_0 {Q : ab_Q} {a : Int} {b : Int} {v : Int} {s_ : Int → Int} {z_ : mc_T} {g_th : Int} {g_as : Int → Int} {g_un : Int → Int} {g_um : Int} {g_sl : Int → Int} {g_hs : Int → Int} {g_pd : Int → Int} {g_ln : Int} {g_at : Int} {g_iw : Int} {g_os : Int → Int} {g_om : Int} (l1 : sp_X3_refusesBy [.inr (.inl (some 0)), .inl a, .inl b, .inl v] (md_cs s_ z_ (0, g_as, g_un, g_um, g_sl, g_hs, g_pd, g_ln, g_at, g_iw, g_os, g_om)) (fun r_ k_ => ∃ (x_ : Int), r_ = some (.inl x_) ∧ k_ = (md_cs s_ z_ (0, g_as, g_un, g_um, g_sl, g_hs, g_pd, g_ln, g_at, g_iw, g_os, g_om)) ∧ ab_R E_X3_rotate P_X3_rotate Q 12 [some (.inr (.inl (some 0))), some (.inl a), some (.inl b), some (.inl v), none] [.inl x_] (md_cs s_ z_ (0, g_as, g_un, g_um, g_sl, g_hs, g_pd, g_ln, g_at, g_iw, g_os, g_om))))  : ab_R E_X3_rotate P_X3_rotate Q 0 [some (.inr (.inl (some 0))), some (.inl a), some (.inl b), some (.inl v), none] [] (md_cs s_ z_ (g_th, g_as, g_un, g_um, g_sl, g_hs, g_pd, g_ln, g_at, g_iw, g_os, g_om)) :=
  ab_R.steps [12, 26, 33] 9 (show ab_cl sp_X3_refusesBy [.inr (.inl (some 0)), .inl a, .inl b, .inl v] (md_cs s_ z_ (0, g_as, g_un, g_um, g_sl, g_hs, g_pd, g_ln, g_at, g_iw, g_os, g_om)) (fun r_ k_ => k_.length = ((md_cs s_ z_ (0, g_as, g_un, g_um, g_sl, g_hs, g_pd, g_ln, g_at, g_iw, g_os, g_om))).length → ab_R E_X3_rotate P_X3_rotate Q 12 [some (.inr (.inl (some 0))), some (.inl a), some (.inl b), some (.inl v), none] (ab_ret r_ []) k_) from ⟨_, l1, fun r_ k_ hz _ => by obtain ⟨x_, rfl, rfl, hR⟩ := hz; exact hR⟩)
set_option maxRecDepth 100000 in
theorem b_X3_rotate_12 {Q : ab_Q} {a : Int} {b : Int} {v : Int} {t0 : Int} {s_ : Int → Int} {z_ : mc_T} {g_th : Int} {g_as : Int → Int} {g_un : Int → Int} {g_um : Int} {g_sl : Int → Int} {g_hs : Int → Int} {g_pd : Int → Int} {g_ln : Int} {g_at : Int} {g_iw : Int} {g_os : Int → Int} {g_om : Int} (l1 : t0 = (0 : Int) → sp_X3_records [.inr (.inl (some 0))] (md_cs s_ z_ (g_th, g_as, g_un, g_um, g_sl, g_hs, g_pd, g_ln, g_at, g_iw, g_os, g_om)) (fun r_ k_ => ∃ (s_' : Int → Int), ∃ (z_' : mc_T), ∃ (g_' : mg_T), r_ = none ∧ k_ = (md_cs (s_') z_' g_') ∧ ab_R E_X3_rotate P_X3_rotate Q 26 [some (.inr (.inl (some 0))), some (.inl a), some (.inl b), some (.inl v), some (.inl t0)] [] (md_cs (s_') z_' g_'))) (l2 : ¬ t0 = (0 : Int) → Q (some (.inl t0)) (md_cs s_ z_ (g_th, g_as, g_un, g_um, g_sl, g_hs, g_pd, g_ln, g_at, g_iw, g_os, g_om))) (p1 : ab_r t0 := by intros; (try unfold ab_r); omega) : ab_R E_X3_rotate P_X3_rotate Q 12 [some (.inr (.inl (some 0))), some (.inl a), some (.inl b), some (.inl v), none] [.inl t0] (md_cs s_ z_ (g_th, g_as, g_un, g_um, g_sl, g_hs, g_pd, g_ln, g_at, g_iw, g_os, g_om)) :=
  ab_R.steps [12, 26, 33] 6 (show (ab_r t0 ∧ ((t0 = (0 : Int) → ab_cl sp_X3_records [.inr (.inl (some 0))] (md_cs s_ z_ (g_th, g_as, g_un, g_um, g_sl, g_hs, g_pd, g_ln, g_at, g_iw, g_os, g_om)) (fun r_ k_ => k_.length = ((md_cs s_ z_ (g_th, g_as, g_un, g_um, g_sl, g_hs, g_pd, g_ln, g_at, g_iw, g_os, g_om))).length → ab_R E_X3_rotate P_X3_rotate Q 26 [some (.inr (.inl (some 0))), some (.inl a), some (.inl b), some (.inl v), some (.inl t0)] (ab_ret r_ []) k_)) ∧ (¬ t0 = (0 : Int) → Q (some (.inl t0)) (md_cs s_ z_ (g_th, g_as, g_un, g_um, g_sl, g_hs, g_pd, g_ln, g_at, g_iw, g_os, g_om))))) from ⟨p1, ⟨fun h1 => ⟨_, (l1 h1), fun r_ k_ hz _ => by obtain ⟨s_', z_', g_', rfl, rfl, hR⟩ := hz; exact hR⟩, fun h2 => (l2 h2)⟩⟩)
set_option maxRecDepth 100000 in
theorem b_X3_rotate_26 {Q : ab_Q} {a : Int} {b : Int} {v : Int} {e : Int} {s_ : Int → Int} {z_ : mc_T} {g_th : Int} {g_as : Int → Int} {g_un : Int → Int} {g_um : Int} {g_sl : Int → Int} {g_hs : Int → Int} {g_pd : Int → Int} {g_ln : Int} {g_at : Int} {g_iw : Int} {g_os : Int → Int} {g_om : Int} (l1 : sp_X3_rotates [.inr (.inl (some 0)), .inl a, .inl b, .inl v] (md_cs s_ z_ (g_th, g_as, g_un, g_um, g_sl, g_hs, g_pd, g_ln, g_at, g_iw, g_os, g_om)) (fun r_ k_ => ∃ (s_' : Int → Int), ∃ (z_' : mc_T), ∃ (g_' : mg_T), r_ = none ∧ k_ = (md_cs (s_') z_' g_') ∧ ab_R E_X3_rotate P_X3_rotate Q 33 [some (.inr (.inl (some 0))), some (.inl a), some (.inl b), some (.inl v), some (.inl e)] [] (md_cs (s_') z_' g_')))  : ab_R E_X3_rotate P_X3_rotate Q 26 [some (.inr (.inl (some 0))), some (.inl a), some (.inl b), some (.inl v), some (.inl e)] [] (md_cs s_ z_ (g_th, g_as, g_un, g_um, g_sl, g_hs, g_pd, g_ln, g_at, g_iw, g_os, g_om)) :=
  ab_R.steps [12, 26, 33] 6 (show ab_cl sp_X3_rotates [.inr (.inl (some 0)), .inl a, .inl b, .inl v] (md_cs s_ z_ (g_th, g_as, g_un, g_um, g_sl, g_hs, g_pd, g_ln, g_at, g_iw, g_os, g_om)) (fun r_ k_ => k_.length = ((md_cs s_ z_ (g_th, g_as, g_un, g_um, g_sl, g_hs, g_pd, g_ln, g_at, g_iw, g_os, g_om))).length → ab_R E_X3_rotate P_X3_rotate Q 33 [some (.inr (.inl (some 0))), some (.inl a), some (.inl b), some (.inl v), some (.inl e)] (ab_ret r_ []) k_) from ⟨_, l1, fun r_ k_ hz _ => by obtain ⟨s_', z_', g_', rfl, rfl, hR⟩ := hz; exact hR⟩)
set_option maxRecDepth 100000 in
theorem b_X3_rotate_33 {Q : ab_Q} {a : Int} {b : Int} {v : Int} {e : Int} {s_ : Int → Int} {z_ : mc_T} {g_th : Int} {g_as : Int → Int} {g_un : Int → Int} {g_um : Int} {g_sl : Int → Int} {g_hs : Int → Int} {g_pd : Int → Int} {g_ln : Int} {g_at : Int} {g_iw : Int} {g_os : Int → Int} {g_om : Int} (l1 : Q (some (.inl (s_ 1))) (md_cs s_ z_ (g_th, g_as, g_un, g_um, g_sl, g_hs, g_pd, g_ln, g_at, g_iw, g_os, g_om))) (p1 : (0 ≤ (1 : Int) ∧ (1 : Int) < 255) := by intros; (try unfold ab_r); omega) : ab_R E_X3_rotate P_X3_rotate Q 33 [some (.inr (.inl (some 0))), some (.inl a), some (.inl b), some (.inl v), some (.inl e)] [] (md_cs s_ z_ (g_th, g_as, g_un, g_um, g_sl, g_hs, g_pd, g_ln, g_at, g_iw, g_os, g_om)) :=
  ab_R.steps [12, 26, 33] 6 (show ((0 ≤ (1 : Int) ∧ (1 : Int) < 255) ∧ Q (some (.inl (s_ 1))) (md_cs s_ z_ (g_th, g_as, g_un, g_um, g_sl, g_hs, g_pd, g_ln, g_at, g_iw, g_os, g_om))) from ⟨p1, l1⟩)
theorem mq_ePut_0 {q : List mq_K} {p v : Int} (hW : mq_W q) (h : mq_ePut q p v = 0) : 0 ≤ p ∧ p ≤ mq_n q ∧ mq_n q < 60 ∧ mq_vl v := by
  have hfl := hW.2
  unfold mq_ePut at h
  split at h
  · next h1 =>
    split at h
    · next h2 =>
      split at h
      · omega
      · next h3 => exact ⟨h1.1, h1.2, by unfold mq_n at h3 ⊢; omega, h2⟩
    · omega
  · omega
theorem mq_eCut_0 {q : List mq_K} {p : Int} (h : mq_eCut q p = 0) : mq_pl q p := by
  unfold mq_eCut at h
  split at h
  · assumption
  · omega
theorem mq_eSet_0 {q : List mq_K} {p v : Int} (h : mq_eSet q p v = 0) : mq_pl q p ∧ mq_vl v := by
  unfold mq_eSet at h
  split at h
  · next h1 =>
    split at h
    · next h2 => exact ⟨h1, h2⟩
    · omega
  · omega
theorem mq_eAdd_0 {q : List mq_K} {a b v : Int} (h : mq_eAdd q a b v = 0) : mq_eSpan q a b = 0 ∧ ∀ x ∈ mq_sp q a b, -99999 ≤ x + v ∧ x + v ≤ 99999 := by
  unfold mq_eAdd at h
  split at h
  · next h1 =>
    split at h
    · next h2 =>
      refine ⟨(mq_eBy_0 h1).1, fun x hx => ?_⟩
      unfold mq_fits at h2
      exact of_decide_eq_true (List.all_eq_true.mp h2 x hx)
    · omega
  · next h1 => exact absurd h h1
theorem mq_eMove_0 {q : List mq_K} {a b p : Int} (h : mq_eMove q a b p = 0) : mq_eSpan q a b = 0 ∧ 0 ≤ p ∧ p ≤ mq_n q - (b - a + 1) := by
  unfold mq_eMove at h
  split at h
  · next h1 =>
    split at h
    · next h2 => exact ⟨h1, h2⟩
    · omega
  · next h1 => exact absurd h h1
theorem mf_rol_W {q : List mq_K} {a b c : Int} (hW : mq_W q) (h : mq_eBy q a b c = 0) : mq_W (mf_rol q a b c).1 := by
  have h1 := mq_eSpan_0 (mq_eBy_0 h).1
  unfold mq_n at h1
  obtain ⟨-, -, -, -, t5, t6⟩ := mf_tmod c (b - a + 1) (by omega)
  unfold mf_rol
  split
  · exact hW
  · exact mq_W_mov hW (by omega) (by omega)
theorem mf_do_W {k : Int} {q : List mq_K} {a b c : Int} (hW : mq_W q) (h : mf_err k q a b c = 0) : mq_W (mf_do k q a b c).1 := by
  unfold mf_do
  unfold mf_err at h
  by_cases k1 : k = 112
  · rw [if_pos k1] at h ⊢
    obtain ⟨e1, e2, e3, e4⟩ := mq_ePut_0 hW h
    unfold mq_n at e2 e3
    unfold mq_vl at e4
    exact mq_ev_W (mq_W_put hW (by omega) (by omega) (by omega))
  rw [if_neg k1] at h ⊢
  by_cases k2 : k = 99
  · rw [if_pos k2] at h ⊢
    have e := mq_eCut_0 h
    unfold mq_pl mq_n at e
    exact mq_ev_W (mq_W_tak hW (by omega))
  rw [if_neg k2] at h ⊢
  by_cases k3 : k = 115
  · rw [if_pos k3] at h ⊢
    obtain ⟨e, e2⟩ := mq_eSet_0 h
    unfold mq_pl mq_n at e
    unfold mq_vl at e2
    exact mq_ev_W (mq_W_set hW (by omega) (by omega))
  rw [if_neg k3] at h ⊢
  by_cases k4 : k = 116
  · rw [if_pos k4] at h ⊢
    have e := mq_eSpan_0 h
    unfold mq_n at e
    exact mq_ev_W (mq_W_trn hW (by omega))
  rw [if_neg k4] at h ⊢
  by_cases k5 : k = 97
  · rw [if_pos k5] at h ⊢
    obtain ⟨e0, e1⟩ := mq_eAdd_0 h
    have e := mq_eSpan_0 e0
    unfold mq_n at e
    exact mq_ev_W (mq_W_add hW (by omega) e1)
  rw [if_neg k5] at h ⊢
  by_cases k6 : k = 109
  · rw [if_pos k6] at h ⊢
    obtain ⟨e0, e1, e2⟩ := mq_eMove_0 h
    have e := mq_eSpan_0 e0
    unfold mq_n at e e2
    exact mq_ev_W (mq_W_mov hW (by omega) (by omega))
  rw [if_neg k6] at h ⊢
  exact mq_ev_W (mf_rol_W hW h)
theorem mh_err {Q : ab_Q} {k : Int} {S : mS_T} {a b c : Int} (hQ : mh_out Q (mf_change k S a b c)) (he : ¬ mf_err k S.1.1 a b c = 0) {s' : Int → Int} {z' : mc_T} {g' : mg_T} (hI : mh_inv s' g' S) (h0 : g'.1 = 0) : Q (some (.inl (mf_err k S.1.1 a b c))) (md_cs s' z' g') := by
  unfold mf_change at hQ
  rw [if_neg he] at hQ
  exact hQ s' z' g' hI h0
theorem mh_fin {Q : ab_Q} {k : Int} {S : mS_T} {a b c : Int} (hQ : mh_out Q (mf_change k S a b c)) (he : mf_err k S.1.1 a b c = 0) {s' : Int → Int} {z' : mc_T} {g' : mg_T} (hW : mq_W S.1.1) (hR : mq_R (md_v s') (mf_do k S.1.1 a b c).1) (hw : s' 2 = S.1.2 + (mf_do k S.1.1 a b c).2) (hU : mh_U g'.2.2.1 g'.2.2.2.1 (mh_push S.2.1 S.1)) (hS : mh_S g'.2.2.2.2.1 g'.2.2.2.2.2.1 S.2.2.1) (hP : mh_P g'.2.2.2.2.2.2.1 g'.2.2.2.2.2.2.2.1 S.2.2.2) (h0 : g'.1 = 0) {x : Int} (hx : x = mf_ans k S.1.1 (mf_do k S.1.1 a b c).1 a) : Q (some (.inl x)) (md_cs s' z' g') := by
  unfold mf_change at hQ
  rw [if_pos he] at hQ
  rw [hx]
  exact hQ s' z' g' ⟨⟨hR, mf_do_W hW he, hw⟩, hU, hS, hP⟩ h0
theorem mq_v_is {q : List mq_K} {a : Int} (h : mq_pl q a) : (mq_all q)[a.toNat]? = some (mq_v q a) := by
  unfold mq_pl mq_n at h
  have hl : a.toNat < (mq_all q).length := by rw [mq_all_len]; omega
  unfold mq_v
  rw [List.getD_eq_getElem?_getD, List.getElem?_eq_getElem hl]
  rfl
theorem vc_X3_putIn {av : List ab_V} {cs : List ab_C} {Q : ab_Q} (h : sp_X3_putIn av cs Q) : (ab_lv0 av).length ≤ 4 ∧ ab_R E_X3_putIn P_X3_putIn Q 0 (ab_ent av 4) [] cs := by
  obtain ⟨s, z, ⟨th, as, un, um, sl, hs, pd, ln, at_, iw, os, om⟩, S, a, b, rfl, rfl, ⟨hst, hU, hS, hP⟩, ha, hb, hQ⟩ := h
  refine ⟨Nat.le_of_ble_eq_true rfl, ?_⟩
  obtain ⟨hR, hW, hw⟩ := id hst
  refine b_X3_putIn_0 ⟨_, _, _, S.1.1, _, _, rfl, rfl, hR, hW, ha, hb, _, rfl, rfl, ?_⟩
  have hrr : ab_r (mq_ePut S.1.1 a b) := by unfold mq_ePut ab_r; split; (split; (split <;> omega); omega); omega
  refine b_X3_putIn_11 (fun he => ?_) (fun he => mh_err hQ he ⟨hst, hU, hS, hP⟩ rfl) (p1 := hrr)
  obtain ⟨e1, e2, e3, e4⟩ := mq_ePut_0 hW he
  unfold mq_n at e2 e3
  unfold mq_vl at e4
  refine ⟨_, _, _, _, _, _, _, _, _, _, _, _, _, _, _, _, rfl, rfl, hst, hU, fun un' um' hU' => ⟨_, _, _, rfl, rfl, ?_⟩⟩
  refine b_X3_putIn_22 ⟨_, _, _, S.1.1, a.toNat, _, _, rfl, rfl, hR, hW, by omega, by omega, by omega, by omega, by omega, fun s' z' q1 q2 => ⟨_, _, _, rfl, rfl, ?_⟩⟩
  refine b_X3_putIn_28 (mh_fin (g' := (0, as, un', um', sl, hs, pd, ln, at_, iw, os, om)) hQ he hW q1 ?_ hU' hS hP rfl ?_)
  · rw [q2, hw]; unfold mf_do; rw [if_pos rfl]; unfold mf_ch; dsimp only; omega
  · exact q1.2.2.2.2.1
theorem mt_X3_putIn (l : Launch) : ab_MT l mi_X3_putIn sp_X3_putIn := ab_MT.of (own := "RootChunksModel") (E := E_X3_putIn) (P := P_X3_putIn) (M := M_X3_putIn) (nL := 4) (ty := 0) (by decide) rfl rfl tk_X3 pk_X3_putIn ck_X3_putIn (ab_CT'.cons (mt_X3_refusesPut l) (ab_CT'.cons (mt_X3_records l) (ab_CT'.cons (mt_X3_puts l) ab_CT'.nil))) (fun av cs Q h => vc_X3_putIn h)
theorem vc_X3_takeOut {av : List ab_V} {cs : List ab_C} {Q : ab_Q} (h : sp_X3_takeOut av cs Q) : (ab_lv0 av).length ≤ 3 ∧ ab_R E_X3_takeOut P_X3_takeOut Q 0 (ab_ent av 3) [] cs := by
  obtain ⟨s, z, ⟨th, as, un, um, sl, hs, pd, ln, at_, iw, os, om⟩, S, a, rfl, rfl, ⟨hst, hU, hS, hP⟩, ha, hQ⟩ := h
  refine ⟨Nat.le_of_ble_eq_true rfl, ?_⟩
  obtain ⟨hR, hW, hw⟩ := id hst
  have ee : mf_err 99 S.1.1 a 0 0 = mq_eCut S.1.1 a := rfl
  refine b_X3_takeOut_0 ⟨_, _, _, S.1.1, _, rfl, rfl, hR, hW, ha, _, rfl, rfl, ?_⟩
  by_cases y : mq_pl S.1.1 a
  · rw [if_pos y]
    have he : mf_err 99 S.1.1 a 0 0 = 0 := by rw [ee]; unfold mq_eCut; rw [if_pos y]
    have hv := mq_v_is y
    have y2 := y
    unfold mq_pl mq_n at y2
    refine b_X3_takeOut_10 (fun _ => ?_) (fun h => by omega)
    refine ⟨_, _, _, _, _, _, _, _, _, _, _, _, _, _, _, _, rfl, rfl, hst, hU, fun un' um' hU' => ⟨_, _, _, rfl, rfl, ?_⟩⟩
    refine b_X3_takeOut_19 ⟨_, _, _, S.1.1, _, a.toNat, _, rfl, rfl, hR, hW, by omega, hv, _, rfl, rfl, ?_⟩
    refine b_X3_takeOut_24 ⟨_, _, _, S.1.1, a.toNat, _, rfl, rfl, hR, hW, by omega, by omega, fun s' z' q1 q2 => ⟨_, _, _, rfl, rfl, ?_⟩⟩
    refine b_X3_takeOut_30 (mh_fin (g' := (0, as, un', um', sl, hs, pd, ln, at_, iw, os, om)) hQ he hW q1 ?_ hU' hS hP rfl rfl)
    rw [q2, hw]; unfold mf_do; rw [if_neg (by omega), if_pos rfl]; unfold mf_ch; dsimp only; omega
  · rw [if_neg y]
    have he : mf_err 99 S.1.1 a 0 0 = -1 := by rw [ee]; unfold mq_eCut; rw [if_neg y]
    refine b_X3_takeOut_10 (fun h => absurd rfl h) (fun _ => ?_)
    have := mh_err (z' := z) (g' := (0, as, un, um, sl, hs, pd, ln, at_, iw, os, om)) hQ (by omega) ⟨hst, hU, hS, hP⟩ rfl
    rw [he] at this
    exact this
theorem mt_X3_takeOut (l : Launch) : ab_MT l mi_X3_takeOut sp_X3_takeOut := ab_MT.of (own := "RootChunksModel") (E := E_X3_takeOut) (P := P_X3_takeOut) (M := M_X3_takeOut) (nL := 3) (ty := 0) (by decide) rfl rfl tk_X3 pk_X3_takeOut ck_X3_takeOut (ab_CT'.cons (mt_X3_isPlace l) (ab_CT'.cons (mt_X3_records l) (ab_CT'.cons (mt_X3_valueAt l) (ab_CT'.cons (mt_X3_takes l) ab_CT'.nil)))) (fun av cs Q h => vc_X3_takeOut h)
theorem vc_X3_set {av : List ab_V} {cs : List ab_C} {Q : ab_Q} (h : sp_X3_set av cs Q) : (ab_lv0 av).length ≤ 5 ∧ ab_R E_X3_set P_X3_set Q 0 (ab_ent av 5) [] cs := by
  obtain ⟨s, z, ⟨th, as, un, um, sl, hs, pd, ln, at_, iw, os, om⟩, S, a, b, rfl, rfl, ⟨hst, hU, hS, hP⟩, ha, hb, hQ⟩ := h
  refine ⟨Nat.le_of_ble_eq_true rfl, ?_⟩
  obtain ⟨hR, hW, hw⟩ := id hst
  refine b_X3_set_0 ⟨_, _, _, S.1.1, _, _, rfl, rfl, hR, hW, ha, hb, _, rfl, rfl, ?_⟩
  have hrr : ab_r (mq_eSet S.1.1 a b) := by unfold mq_eSet ab_r; split; (split <;> omega); omega
  refine b_X3_set_11 (fun he => ?_) (fun he => mh_err hQ he ⟨hst, hU, hS, hP⟩ rfl) (p1 := hrr)
  obtain ⟨y, e4⟩ := mq_eSet_0 he
  have hv := mq_v_is y
  unfold mq_pl mq_n at y
  unfold mq_vl at e4
  refine ⟨_, _, _, _, _, _, _, _, _, _, _, _, _, _, _, _, rfl, rfl, hst, hU, fun un' um' hU' => ⟨_, _, _, rfl, rfl, ?_⟩⟩
  refine b_X3_set_22 ⟨_, _, _, S.1.1, _, a.toNat, _, rfl, rfl, hR, hW, by omega, hv, _, rfl, rfl, ?_⟩
  refine b_X3_set_27 ⟨_, _, _, S.1.1, a.toNat, _, _, rfl, rfl, hR, hW, by omega, by omega, by omega, by omega, fun s' z' q1 q2 => ⟨_, _, _, rfl, rfl, ?_⟩⟩
  refine b_X3_set_35 (mh_fin (g' := (0, as, un', um', sl, hs, pd, ln, at_, iw, os, om)) hQ he hW q1 ?_ hU' hS hP rfl rfl)
  rw [q2, hw]; unfold mf_do; rw [if_neg (by omega), if_neg (by omega), if_pos rfl]; unfold mf_ch; dsimp only; omega
theorem mt_X3_set (l : Launch) : ab_MT l mi_X3_set sp_X3_set := ab_MT.of (own := "RootChunksModel") (E := E_X3_set) (P := P_X3_set) (M := M_X3_set) (nL := 5) (ty := 0) (by decide) rfl rfl tk_X3 pk_X3_set ck_X3_set (ab_CT'.cons (mt_X3_refusesSet l) (ab_CT'.cons (mt_X3_records l) (ab_CT'.cons (mt_X3_valueAt l) (ab_CT'.cons (mt_X3_sets l) ab_CT'.nil)))) (fun av cs Q h => vc_X3_set h)
theorem vc_X3_turn {av : List ab_V} {cs : List ab_C} {Q : ab_Q} (h : sp_X3_turn av cs Q) : (ab_lv0 av).length ≤ 4 ∧ ab_R E_X3_turn P_X3_turn Q 0 (ab_ent av 4) [] cs := by
  obtain ⟨s, z, ⟨th, as, un, um, sl, hs, pd, ln, at_, iw, os, om⟩, S, a, b, rfl, rfl, ⟨hst, hU, hS, hP⟩, ha, hb, hQ⟩ := h
  refine ⟨Nat.le_of_ble_eq_true rfl, ?_⟩
  obtain ⟨hR, hW, hw⟩ := id hst
  refine b_X3_turn_0 ⟨_, _, _, S.1.1, _, _, rfl, rfl, hR, hW, ha, hb, _, rfl, rfl, ?_⟩
  have hrr : ab_r (mq_eSpan S.1.1 a b) := by have := mq_eSpan_in S.1.1 a b; unfold ab_r; omega
  refine b_X3_turn_11 (fun he => ?_) (fun he => mh_err hQ he ⟨hst, hU, hS, hP⟩ rfl) (p1 := hrr)
  have e := mq_eSpan_0 he
  unfold mq_n at e
  refine ⟨_, _, _, _, _, _, _, _, _, _, _, _, _, _, _, _, rfl, rfl, hst, hU, fun un' um' hU' => ⟨_, _, _, rfl, rfl, ?_⟩⟩
  refine b_X3_turn_22 ⟨_, _, _, S.1.1, a.toNat, (b + 1 - a).toNat, _, _, rfl, rfl, hR, hW, by omega, by omega, by omega, fun s' z' q1 q2 => ⟨_, _, _, rfl, rfl, ?_⟩⟩
  refine b_X3_turn_28 (mh_fin (g' := (0, as, un', um', sl, hs, pd, ln, at_, iw, os, om)) hQ he hW q1 ?_ hU' hS hP rfl q1.2.2.2.2.2)
  rw [q2, hw]; unfold mf_do; rw [if_neg (by omega), if_neg (by omega), if_neg (by omega), if_pos rfl]; unfold mf_ch; dsimp only; omega
theorem mt_X3_turn (l : Launch) : ab_MT l mi_X3_turn sp_X3_turn := ab_MT.of (own := "RootChunksModel") (E := E_X3_turn) (P := P_X3_turn) (M := M_X3_turn) (nL := 4) (ty := 0) (by decide) rfl rfl tk_X3 pk_X3_turn ck_X3_turn (ab_CT'.cons (mt_X3_refusesSpan l) (ab_CT'.cons (mt_X3_records l) (ab_CT'.cons (mt_X3_turns l) ab_CT'.nil))) (fun av cs Q h => vc_X3_turn h)
theorem vc_X3_add {av : List ab_V} {cs : List ab_C} {Q : ab_Q} (h : sp_X3_add av cs Q) : (ab_lv0 av).length ≤ 5 ∧ ab_R E_X3_add P_X3_add Q 0 (ab_ent av 5) [] cs := by
  obtain ⟨s, z, ⟨th, as, un, um, sl, hs, pd, ln, at_, iw, os, om⟩, S, a, b, v, rfl, rfl, ⟨hst, hU, hS, hP⟩, ha, hb, hv, hQ⟩ := h
  refine ⟨Nat.le_of_ble_eq_true rfl, ?_⟩
  obtain ⟨hR, hW, hw⟩ := id hst
  refine b_X3_add_0 ⟨_, _, _, S.1.1, _, _, _, rfl, rfl, hR, hW, ha, hb, hv, _, rfl, rfl, ?_⟩
  have hrr : ab_r (mq_eAdd S.1.1 a b v) := by
    have := mq_eBy_in S.1.1 a b v
    unfold mq_eAdd ab_r; split; (split <;> omega); omega
  refine b_X3_add_12 (fun he => ?_) (fun he => mh_err hQ he ⟨hst, hU, hS, hP⟩ rfl) (p1 := hrr)
  obtain ⟨e0, e1⟩ := mq_eAdd_0 he
  have e := mq_eSpan_0 e0
  unfold mq_n at e
  refine ⟨_, _, _, _, _, _, _, _, _, _, _, _, _, _, _, _, rfl, rfl, hst, hU, fun un' um' hU' => ⟨_, _, _, rfl, rfl, ?_⟩⟩
  refine b_X3_add_26 ⟨_, _, _, S.1.1, a.toNat, (b + 1 - a).toNat, _, _, _, rfl, rfl, hR, hW, by omega, by omega, by omega, e1, fun s' z' q1 q2 => ⟨_, _, _, rfl, rfl, ?_⟩⟩
  refine b_X3_add_33 (mh_fin (g' := (0, as, un', um', sl, hs, pd, ln, at_, iw, os, om)) hQ he hW q1 ?_ hU' hS hP rfl q1.2.2.2.2.2)
  rw [q2, hw]; unfold mf_do; rw [if_neg (by omega), if_neg (by omega), if_neg (by omega), if_neg (by omega), if_pos rfl]; unfold mf_ch; dsimp only; omega
theorem mt_X3_add (l : Launch) : ab_MT l mi_X3_add sp_X3_add := ab_MT.of (own := "RootChunksModel") (E := E_X3_add) (P := P_X3_add) (M := M_X3_add) (nL := 5) (ty := 0) (by decide) rfl rfl tk_X3 pk_X3_add ck_X3_add (ab_CT'.cons (mt_X3_refusesAdd l) (ab_CT'.cons (mt_X3_records l) (ab_CT'.cons (mt_X3_addsTo l) ab_CT'.nil))) (fun av cs Q h => vc_X3_add h)
theorem vc_X3_move {av : List ab_V} {cs : List ab_C} {Q : ab_Q} (h : sp_X3_move av cs Q) : (ab_lv0 av).length ≤ 5 ∧ ab_R E_X3_move P_X3_move Q 0 (ab_ent av 5) [] cs := by
  obtain ⟨s, z, ⟨th, as, un, um, sl, hs, pd, ln, at_, iw, os, om⟩, S, a, b, v, rfl, rfl, ⟨hst, hU, hS, hP⟩, ha, hb, hv, hQ⟩ := h
  refine ⟨Nat.le_of_ble_eq_true rfl, ?_⟩
  obtain ⟨hR, hW, hw⟩ := id hst
  refine b_X3_move_0 ⟨_, _, _, S.1.1, _, _, _, rfl, rfl, hR, hW, ha, hb, hv, _, rfl, rfl, ?_⟩
  have hrr : ab_r (mq_eMove S.1.1 a b v) := by
    have := mq_eSpan_in S.1.1 a b
    unfold mq_eMove ab_r; split; (split <;> omega); omega
  refine b_X3_move_12 (fun he => ?_) (fun he => mh_err hQ he ⟨hst, hU, hS, hP⟩ rfl) (p1 := hrr)
  obtain ⟨e0, e1, e2⟩ := mq_eMove_0 he
  have e := mq_eSpan_0 e0
  unfold mq_n at e e2
  refine ⟨_, _, _, _, _, _, _, _, _, _, _, _, _, _, _, _, rfl, rfl, hst, hU, fun un' um' hU' => ⟨_, _, _, rfl, rfl, ?_⟩⟩
  refine b_X3_move_26 ⟨_, _, _, S.1.1, a.toNat, (b + 1 - a).toNat, v.toNat, _, _, _, rfl, rfl, hR, hW, by omega, by omega, by omega, by omega, by omega, by omega, fun s' z' q1 q2 => ⟨_, _, _, rfl, rfl, ?_⟩⟩
  refine b_X3_move_33 ⟨_, _, _, _, rfl, rfl, q1, mq_W_mov hW (by omega) (by omega), fun s2 z2 r1 r2 => ⟨_, _, _, rfl, rfl, ?_⟩⟩
  refine b_X3_move_37 (mh_fin (g' := (0, as, un', um', sl, hs, pd, ln, at_, iw, os, om)) hQ he hW r1 ?_ hU' hS hP rfl r1.2.2.2.2.2)
  rw [r2, q2, hw]; unfold mf_do; rw [if_neg (by omega), if_neg (by omega), if_neg (by omega), if_neg (by omega), if_neg (by omega), if_pos rfl]; unfold mf_ch; dsimp only; omega
theorem mt_X3_move (l : Launch) : ab_MT l mi_X3_move sp_X3_move := ab_MT.of (own := "RootChunksModel") (E := E_X3_move) (P := P_X3_move) (M := M_X3_move) (nL := 5) (ty := 0) (by decide) rfl rfl tk_X3 pk_X3_move ck_X3_move (ab_CT'.cons (mt_X3_refusesMove l) (ab_CT'.cons (mt_X3_records l) (ab_CT'.cons (mt_X3_shifts l) (ab_CT'.cons (mt_X3_evens l) ab_CT'.nil)))) (fun av cs Q h => vc_X3_move h)
theorem vc_X3_rotate {av : List ab_V} {cs : List ab_C} {Q : ab_Q} (h : sp_X3_rotate av cs Q) : (ab_lv0 av).length ≤ 5 ∧ ab_R E_X3_rotate P_X3_rotate Q 0 (ab_ent av 5) [] cs := by
  obtain ⟨s, z, ⟨th, as, un, um, sl, hs, pd, ln, at_, iw, os, om⟩, S, a, b, v, rfl, rfl, ⟨hst, hU, hS, hP⟩, ha, hb, hv, hQ⟩ := h
  refine ⟨Nat.le_of_ble_eq_true rfl, ?_⟩
  obtain ⟨hR, hW, hw⟩ := id hst
  refine b_X3_rotate_0 ⟨_, _, _, S.1.1, _, _, _, rfl, rfl, hR, hW, ha, hb, hv, _, rfl, rfl, ?_⟩
  have hrr : ab_r (mq_eBy S.1.1 a b v) := by have := mq_eBy_in S.1.1 a b v; unfold ab_r; omega
  refine b_X3_rotate_12 (fun he => ?_) (fun he => mh_err hQ he ⟨hst, hU, hS, hP⟩ rfl) (p1 := hrr)
  refine ⟨_, _, _, _, _, _, _, _, _, _, _, _, _, _, _, _, rfl, rfl, hst, hU, fun un' um' hU' => ⟨_, _, _, rfl, rfl, ?_⟩⟩
  refine b_X3_rotate_26 ⟨_, _, _, S.1.1, _, _, _, rfl, rfl, hR, hW, he, fun s' z' q1 q2 => ⟨_, _, _, rfl, rfl, ?_⟩⟩
  refine b_X3_rotate_33 (mh_fin (g' := (0, as, un', um', sl, hs, pd, ln, at_, iw, os, om)) hQ he hW q1 ?_ hU' hS hP rfl q1.2.2.2.2.2)
  rw [q2, hw]; unfold mf_do; rw [if_neg (by omega), if_neg (by omega), if_neg (by omega), if_neg (by omega), if_neg (by omega), if_neg (by omega)]; unfold mf_ch; dsimp only; omega
theorem mt_X3_rotate (l : Launch) : ab_MT l mi_X3_rotate sp_X3_rotate := ab_MT.of (own := "RootChunksModel") (E := E_X3_rotate) (P := P_X3_rotate) (M := M_X3_rotate) (nL := 5) (ty := 0) (by decide) rfl rfl tk_X3 pk_X3_rotate ck_X3_rotate (ab_CT'.cons (mt_X3_refusesBy l) (ab_CT'.cons (mt_X3_records l) (ab_CT'.cons (mt_X3_rotates l) ab_CT'.nil))) (fun av cs Q h => vc_X3_rotate h)
