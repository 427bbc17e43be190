/-! THE REFERENCE: what is remembered, and some counts -/
def mh_st (s : Int → Int) (x : List mq_K × Int) : Prop := mq_R (md_v s) x.1 ∧ mq_W x.1 ∧ s 2 = x.2
def mh_U (un : Int → Int) (um : Int) (h : List (List mq_K × Int)) : Prop := um = (h.length : Nat) ∧ h.length ≤ 6 ∧ ∀ (i : Nat) (x : List mq_K × Int), h[i]? = some x → mh_st (fun k => un (255 * i + k)) x
def mh_push (h : List (List mq_K × Int)) (x : List mq_K × Int) : List (List mq_K × Int) := (if h.length = 6 then h.drop 1 else h) ++ [x]
theorem mh_st_ext {s s' : Int → Int} {x : List mq_K × Int} (h : mh_st s x) (e : ∀ j : Int, 0 ≤ j → j < 255 → s' j = s j) : mh_st s' x := by
  obtain ⟨hR, hW, hw⟩ := h
  have hcl := hW.chunks
  have hfl := hW.2
  refine ⟨mq_R_ext2 hR (fun j j1 j2 => e _ (by omega) (by omega)) (fun j j1 j2 => e _ (by omega) (by omega)) (fun j j1 j2 => e _ (by omega) (by omega)) (fun j j1 j2 => e _ (by omega) (by omega)) (e 0 (by omega) (by omega)) (e 1 (by omega) (by omega)), hW, ?_⟩
  rw [e 2 (by omega) (by omega)]; exact hw
def mf_rol (q : List mq_K) (a b c : Int) : List mq_K × Int := if c % (b - a + 1) = 0 then (q, 0) else mq_mov q a.toNat (c % (b - a + 1)).toNat (b + 1 - c % (b - a + 1)).toNat
def mf_less (v : Int) (l : List Int) : Int := (l.countP (fun x => decide (x < v)) : Nat)
def mf_like (v : Int) (l : List Int) : Int := (l.countP (fun x => decide (x = v)) : Nat)
def sp_X3_records : ab_Sp := fun av cs Q => ∃ (s : Int → Int) (z : mc_T) (th : Int) (as un : Int → Int) (um : Int) (sl hs pd : Int → Int) (ln at_ iw : Int) (os : Int → Int) (om : Int) (x : List mq_K × Int) (h : List (List mq_K × Int)), av = [.inr (.inl (some 0))] ∧ cs = md_cs s z (th, as, un, um, sl, hs, pd, ln, at_, iw, os, om) ∧ mh_st s x ∧ mh_U un um h ∧
  ∀ (un' : Int → Int) (um' : Int), mh_U un' um' (mh_push h x) → Q none (md_cs s z (th, as, un', um', sl, hs, pd, ln, at_, iw, os, om))
def sp_X3_rotates : ab_Sp := fun av cs Q => ∃ (s : Int → Int) (z : mc_T) (g : mg_T) (q : List mq_K) (a b v : Int), av = [.inr (.inl (some 0)), .inl a, .inl b, .inl v] ∧ cs = md_cs s z g ∧ mq_R (md_v s) q ∧ mq_W q ∧ mq_eBy q a b v = 0 ∧
  ∀ (s' : Int → Int) (z' : mc_T), mq_R (md_v s') (mq_ev (mf_rol q a b v).1).1 → s' 2 = s 2 + (mf_rol q a b v).2 + (mq_ev (mf_rol q a b v).1).2 → Q none (md_cs s' z' g)
def sp_X3_longest : ab_Sp := fun av cs Q => ∃ (s : Int → Int) (z : mc_T) (g : mg_T) (q : List mq_K), av = [.inr (.inl (some 0))] ∧ cs = md_cs s z g ∧ mq_R (md_v s) q ∧ mq_W q ∧ Q (some (.inl (mq_lg q 0))) (md_cs s z g)
def sp_X3_waiting : ab_Sp := fun av cs Q => ∃ (s : Int → Int) (z : mc_T) (g : mg_T) (q : List mq_K) (a r : Int), av = [.inr (.inl (some 0)), .inl a] ∧ cs = md_cs s z g ∧ mq_R (md_v s) q ∧ mq_W q ∧ (a = 127 ∧ r = mq_wt q 0 ∨ a = 191 ∧ r = mq_ws q 0) ∧ Q (some (.inl r)) (md_cs s z g)
def sp_X3_lesser : ab_Sp := fun av cs Q => ∃ (s : Int → Int) (z : mc_T) (g : mg_T) (q : List mq_K) (a b v : Int), av = [.inr (.inl (some 0)), .inl a, .inl b, .inl v] ∧ cs = md_cs s z g ∧ mq_R (md_v s) q ∧ mq_W q ∧ 0 ≤ a ∧ a ≤ b + 1 ∧ b < mq_n q ∧ -99999 ≤ v ∧ v ≤ 99999 ∧ Q (some (.inl (mf_less v (mq_sp q a b)))) (md_cs s z g)
def sp_X3_alike : ab_Sp := fun av cs Q => ∃ (s : Int → Int) (z : mc_T) (g : mg_T) (q : List mq_K) (a b v : Int), av = [.inr (.inl (some 0)), .inl a, .inl b, .inl v] ∧ cs = md_cs s z g ∧ mq_R (md_v s) q ∧ mq_W q ∧ 0 ≤ a ∧ a ≤ b + 1 ∧ b < mq_n q ∧ -99999 ≤ v ∧ v ≤ 99999 ∧ Q (some (.inl (mf_like v (mq_sp q a b)))) (md_cs s z g)
-- ===== RootChunksModel.records
def P_X3_records : List ab_I := [(0, .aload_n 0, 1, []), (1, .getfield 51, 4, []), (4, .bipush 6, 6, []), (6, .if_icmp .ne 44, 9, [((0 : Int), 50)]), (9, .iconst 0, 10, []), (10, .istore_n 1, 11, []), (11, .iload_n 1, 12, []), (12, .sipush 1275, 15, []), (15, .if_icmp .ge 25, 18, [((0 : Int), 40)]), (18, .aload_n 0, 19, []), (19, .getfield 16, 22, []), (22, .iload_n 1, 23, []), (23, .aload_n 0, 24, []), (24, .getfield 16, 27, []), (27, .iload_n 1, 28, []), (28, .sipush 255, 31, []), (31, .iadd, 32, []), (32, .iaload, 33, []), (33, .iastore, 34, []), (34, .iinc 1 1, 37, []), (37, .goto (-26), 40, [((0 : Int), 11)]), (40, .aload_n 0, 41, []), (41, .dup, 42, []), (42, .getfield 51, 45, []), (45, .iconst 1, 46, []), (46, .isub, 47, []), (47, .putfield 51, 50, []), (50, .iconst 0, 51, []), (51, .istore_n 1, 52, []), (52, .iload_n 1, 53, []), (53, .sipush 255, 56, []), (56, .if_icmp .ge 30, 59, [((0 : Int), 86)]), (59, .aload_n 0, 60, []), (60, .getfield 16, 63, []), (63, .sipush 255, 66, []), (66, .aload_n 0, 67, []), (67, .getfield 51, 70, []), (70, .imul, 71, []), (71, .iload_n 1, 72, []), (72, .iadd, 73, []), (73, .aload_n 0, 74, []), (74, .getfield 7, 77, []), (77, .iload_n 1, 78, []), (78, .iaload, 79, []), (79, .iastore, 80, []), (80, .iinc 1 1, 83, []), (83, .goto (-31), 86, [((0 : Int), 52)]), (86, .aload_n 0, 87, []), (87, .dup, 88, []), (88, .getfield 51, 91, []), (91, .iconst 1, 92, []), (92, .iadd, 93, []), (93, .putfield 51, 96, []), (96, .return_, 97, [])]
def E_X3_records : ab_E := (T_X3, [], [], 9)
def M_X3_records : List (Nat × ab_MI) := []
def mi_X3_records : ab_MI := (yX3_records, cX3_records, 2, ab_rty 9, 1, 70)
theorem pk_X3_records : P_X3_records.all (ab_okI cX3_records) = true := by decide +kernel
theorem ck_X3_records : P_X3_records.all (ab_okC1 "RootChunksModel" M_X3_records E_X3_records (1, 70)) = true := by decide +kernel
set_option maxRecDepth 100000 in
theorem b_X3_records_0 {Q : ab_Q} {s_ : Int → Int} {z_ : mc_T} {g_th : Int} {g_as : Int → Int} {g_un : Int → Int} {g_um : Int} {g_sl : Int → Int} {g_hs : Int → Int} {g_pd : Int → Int} {g_ln : Int} {g_at : Int} {g_iw : Int} {g_os : Int → Int} {g_om : Int} (l1 : ¬ g_um = (6 : Int) → ab_R E_X3_records P_X3_records Q 52 [some (.inr (.inl (some 0))), some (.inl 0)] [] (md_cs s_ z_ (g_th, g_as, g_un, g_um, g_sl, g_hs, g_pd, g_ln, g_at, g_iw, g_os, g_om))) (l2 : g_um = (6 : Int) → ab_R E_X3_records P_X3_records Q 11 [some (.inr (.inl (some 0))), some (.inl 0)] [] (md_cs s_ z_ (g_th, g_as, g_un, g_um, g_sl, g_hs, g_pd, g_ln, g_at, g_iw, g_os, g_om))) (p1 : (ab_r g_um ∧ ab_r 6) := by intros; (try unfold ab_r); omega) : ab_R E_X3_records P_X3_records Q 0 [some (.inr (.inl (some 0))), none] [] (md_cs s_ z_ (g_th, g_as, g_un, g_um, g_sl, g_hs, g_pd, g_ln, g_at, g_iw, g_os, g_om)) :=
  ab_R.steps [11, 52] 8 (show ((ab_r g_um ∧ ab_r 6) ∧ ((¬ g_um = (6 : Int) → ab_R E_X3_records P_X3_records Q 52 [some (.inr (.inl (some 0))), some (.inl 0)] [] (md_cs s_ z_ (g_th, g_as, g_un, g_um, g_sl, g_hs, g_pd, g_ln, g_at, g_iw, g_os, g_om))) ∧ (g_um = (6 : Int) → ab_R E_X3_records P_X3_records Q 11 [some (.inr (.inl (some 0))), some (.inl 0)] [] (md_cs s_ z_ (g_th, g_as, g_un, g_um, g_sl, g_hs, g_pd, g_ln, g_at, g_iw, g_os, g_om))))) from ⟨p1, ⟨fun h1 => (l1 h1), fun h2 => (l2 h2)⟩⟩)
set_option maxRecDepth 100000 in
theorem b_X3_records_11 {Q : ab_Q} {k : Int} {s_ : Int → Int} {z_ : mc_T} {g_th : Int} {g_as : Int → Int} {g_un : Int → Int} {g_um : Int} {g_sl : Int → Int} {g_hs : Int → Int} {g_pd : Int → Int} {g_ln : Int} {g_at : Int} {g_iw : Int} {g_os : Int → Int} {g_om : Int} (l1 : (1275 : Int) ≤ k → ab_R E_X3_records P_X3_records Q 52 [some (.inr (.inl (some 0))), some (.inl 0)] [] (md_cs s_ z_ (g_th, g_as, g_un, (g_um - 1), g_sl, g_hs, g_pd, g_ln, g_at, g_iw, g_os, g_om))) (l2 : k < (1275 : Int) → ab_R E_X3_records P_X3_records Q 11 [some (.inr (.inl (some 0))), some (.inl (k + 1))] [] (md_cs s_ z_ (g_th, g_as, (ab_up g_un k (g_un (k + 255))), g_um, g_sl, g_hs, g_pd, g_ln, g_at, g_iw, g_os, g_om))) (p1 : (ab_r k ∧ ab_r 1275) := by intros; (try unfold ab_r); omega) (p2 : k < (1275 : Int) → (0 ≤ (k + 255) ∧ (k + 255) < 1530) := by intros; (try unfold ab_r); omega) (p3 : k < (1275 : Int) → (0 ≤ k ∧ k < 1530) := by intros; (try unfold ab_r); omega) : ab_R E_X3_records P_X3_records Q 11 [some (.inr (.inl (some 0))), some (.inl k)] [] (md_cs s_ z_ (g_th, g_as, g_un, g_um, g_sl, g_hs, g_pd, g_ln, g_at, g_iw, g_os, g_om)) :=
  ab_R.steps [11, 52] 17 (show ((ab_r k ∧ ab_r 1275) ∧ (((1275 : Int) ≤ k → ab_R E_X3_records P_X3_records Q 52 [some (.inr (.inl (some 0))), some (.inl 0)] [] (md_cs s_ z_ (g_th, g_as, g_un, (g_um - 1), g_sl, g_hs, g_pd, g_ln, g_at, g_iw, g_os, g_om))) ∧ (k < (1275 : Int) → ((0 ≤ (k + 255) ∧ (k + 255) < 1530) ∧ ((0 ≤ k ∧ k < 1530) ∧ ab_R E_X3_records P_X3_records Q 11 [some (.inr (.inl (some 0))), some (.inl (k + 1))] [] (md_cs s_ z_ (g_th, g_as, (ab_up g_un k (g_un (k + 255))), g_um, g_sl, g_hs, g_pd, g_ln, g_at, g_iw, g_os, g_om))))))) from ⟨p1, ⟨fun h1 => (l1 h1), fun h2 => ⟨(p2 h2), ⟨(p3 h2), (l2 h2)⟩⟩⟩⟩)
set_option maxRecDepth 100000 in
theorem b_X3_records_52 {Q : ab_Q} {k : Int} {s_ : Int → Int} {z_ : mc_T} {g_th : Int} {g_as : Int → Int} {g_un : Int → Int} {g_um : Int} {g_sl : Int → Int} {g_hs : Int → Int} {g_pd : Int → Int} {g_ln : Int} {g_at : Int} {g_iw : Int} {g_os : Int → Int} {g_om : Int} (l1 : (255 : Int) ≤ k → Q none (md_cs s_ z_ (g_th, g_as, g_un, (g_um + 1), g_sl, g_hs, g_pd, g_ln, g_at, g_iw, g_os, g_om))) (l2 : k < (255 : Int) → ab_R E_X3_records P_X3_records Q 52 [some (.inr (.inl (some 0))), some (.inl (k + 1))] [] (md_cs s_ z_ (g_th, g_as, (ab_up g_un ((255 * g_um) + k) (s_ k)), g_um, g_sl, g_hs, g_pd, g_ln, g_at, g_iw, g_os, g_om))) (p1 : (ab_r k ∧ ab_r 255) := by intros; (try unfold ab_r); omega) (p2 : k < (255 : Int) → (0 ≤ k ∧ k < 255) := by intros; (try unfold ab_r); omega) (p3 : k < (255 : Int) → (0 ≤ ((255 * g_um) + k) ∧ ((255 * g_um) + k) < 1530) := by intros; (try unfold ab_r); omega) : ab_R E_X3_records P_X3_records Q 52 [some (.inr (.inl (some 0))), some (.inl k)] [] (md_cs s_ z_ (g_th, g_as, g_un, g_um, g_sl, g_hs, g_pd, g_ln, g_at, g_iw, g_os, g_om)) :=
  ab_R.steps [11, 52] 20 (show ((ab_r k ∧ ab_r 255) ∧ (((255 : Int) ≤ k → Q none (md_cs s_ z_ (g_th, g_as, g_un, (g_um + 1), g_sl, g_hs, g_pd, g_ln, g_at, g_iw, g_os, g_om))) ∧ (k < (255 : Int) → ((0 ≤ k ∧ k < 255) ∧ ((0 ≤ ((255 * g_um) + k) ∧ ((255 * g_um) + k) < 1530) ∧ ab_R E_X3_records P_X3_records Q 52 [some (.inr (.inl (some 0))), some (.inl (k + 1))] [] (md_cs s_ z_ (g_th, g_as, (ab_up g_un ((255 * g_um) + k) (s_ k)), g_um, g_sl, g_hs, g_pd, g_ln, g_at, g_iw, g_os, g_om))))))) from ⟨p1, ⟨fun h1 => (l1 h1), fun h2 => ⟨(p2 h2), ⟨(p3 h2), (l2 h2)⟩⟩⟩⟩)
-- ===== RootChunksModel.rotates
def P_X3_rotates : List ab_I := [(0, .iload_n 2, 1, []), (1, .iload_n 1, 2, []), (2, .isub, 3, []), (3, .iconst 1, 4, []), (4, .iadd, 5, []), (5, .istore 4, 7, []), (7, .iload_n 3, 8, []), (8, .iload 4, 10, []), (10, .irem, 11, []), (11, .istore 5, 13, []), (13, .iload 5, 15, []), (15, .ifCond .ge 11, 18, [((0 : Int), 26)]), (18, .iload 5, 20, []), (20, .iload 4, 22, []), (22, .iadd, 23, []), (23, .goto 5, 26, [((0 : Int), 28)]), (26, .iload 5, 28, []), (28, .istore 5, 30, []), (30, .iload 5, 32, []), (32, .ifCond .le 21, 35, [((0 : Int), 53)]), (35, .aload_n 0, 36, []), (36, .iload_n 1, 37, []), (37, .iload_n 1, 38, []), (38, .iload 5, 40, []), (40, .iadd, 41, []), (41, .iconst 1, 42, []), (42, .isub, 43, []), (43, .iload_n 1, 44, []), (44, .iload 4, 46, []), (46, .iadd, 47, []), (47, .iload 5, 49, []), (49, .isub, 50, []), (50, .invokevirtual 112, 53, []), (53, .aload_n 0, 54, []), (54, .invokevirtual 85, 57, []), (57, .return_, 58, [])]
def E_X3_rotates : ab_E := (T_X3, [(50, (4, 3, [], 0, sp_X3_shifts)), (54, (1, 3, [], 0, sp_X3_evens))], [], 9)
def M_X3_rotates : List (Nat × ab_MI) := [(50, mi_X3_shifts), (54, mi_X3_evens)]
def mi_X3_rotates : ab_MI := (yX3_rotates, cX3_rotates, 6, ab_rty 9, 6, 194)
theorem pk_X3_rotates : P_X3_rotates.all (ab_okI cX3_rotates) = true := by decide +kernel
theorem ck_X3_rotates : P_X3_rotates.all (ab_okC1 "RootChunksModel" M_X3_rotates E_X3_rotates (6, 194)) = true := by decide +kernel
set_option maxRecDepth 100000 in
theorem b_X3_rotates_0 {Q : ab_Q} {a : Int} {b : Int} {v : Int} {s_ : Int → Int} {z_ : mc_T} {g_ : mg_T} (l1 : (0 : Int) ≤ ((v).tmod ((b - a) + 1)) → ((v).tmod ((b - a) + 1)) ≤ (0 : Int) → ab_R E_X3_rotates P_X3_rotates Q 53 [some (.inr (.inl (some 0))), some (.inl a), some (.inl b), some (.inl v), some (.inl ((b - a) + 1)), some (.inl ((v).tmod ((b - a) + 1)))] [] (md_cs s_ z_ g_)) (l2 : (0 : Int) ≤ ((v).tmod ((b - a) + 1)) → (0 : Int) < ((v).tmod ((b - a) + 1)) → sp_X3_shifts [.inr (.inl (some 0)), .inl a, .inl ((a + ((v).tmod ((b - a) + 1))) - 1), .inl ((a + ((b - a) + 1)) - ((v).tmod ((b - a) + 1)))] (md_cs s_ z_ g_) (fun r_ k_ => ∃ (s_' : Int → Int), ∃ (z_' : mc_T), ∃ (g_' : mg_T), r_ = none ∧ k_ = (md_cs (s_') z_' g_') ∧ ab_R E_X3_rotates P_X3_rotates Q 53 [some (.inr (.inl (some 0))), some (.inl a), some (.inl b), some (.inl v), some (.inl ((b - a) + 1)), some (.inl ((v).tmod ((b - a) + 1)))] [] (md_cs (s_') z_' g_'))) (l3 : ((v).tmod ((b - a) + 1)) < (0 : Int) → (((v).tmod ((b - a) + 1)) + ((b - a) + 1)) ≤ (0 : Int) → ab_R E_X3_rotates P_X3_rotates Q 53 [some (.inr (.inl (some 0))), some (.inl a), some (.inl b), some (.inl v), some (.inl ((b - a) + 1)), some (.inl (((v).tmod ((b - a) + 1)) + ((b - a) + 1)))] [] (md_cs s_ z_ g_)) (l4 : ((v).tmod ((b - a) + 1)) < (0 : Int) → (0 : Int) < (((v).tmod ((b - a) + 1)) + ((b - a) + 1)) → sp_X3_shifts [.inr (.inl (some 0)), .inl a, .inl ((a + (((v).tmod ((b - a) + 1)) + ((b - a) + 1))) - 1), .inl ((a + ((b - a) + 1)) - (((v).tmod ((b - a) + 1)) + ((b - a) + 1)))] (md_cs s_ z_ g_) (fun r_ k_ => ∃ (s_' : Int → Int), ∃ (z_' : mc_T), ∃ (g_' : mg_T), r_ = none ∧ k_ = (md_cs (s_') z_' g_') ∧ ab_R E_X3_rotates P_X3_rotates Q 53 [some (.inr (.inl (some 0))), some (.inl a), some (.inl b), some (.inl v), some (.inl ((b - a) + 1)), some (.inl (((v).tmod ((b - a) + 1)) + ((b - a) + 1)))] [] (md_cs (s_') z_' g_'))) (p1 : (ab_r v ∧ ab_r ((b - a) + 1) ∧ ¬ ((b - a) + 1) = 0) := by intros; (try unfold ab_r); omega) (p2 : ab_r ((v).tmod ((b - a) + 1)) := by intros; (try unfold ab_r); omega) (p3 : (0 : Int) ≤ ((v).tmod ((b - a) + 1)) → ab_r ((v).tmod ((b - a) + 1)) := by intros; (try unfold ab_r); omega) (p4 : ((v).tmod ((b - a) + 1)) < (0 : Int) → ab_r (((v).tmod ((b - a) + 1)) + ((b - a) + 1)) := by intros; (try unfold ab_r); omega) : ab_R E_X3_rotates P_X3_rotates Q 0 [some (.inr (.inl (some 0))), some (.inl a), some (.inl b), some (.inl v), none, none] [] (md_cs s_ z_ g_) :=
  ab_R.steps [53, 57] 33 (show ((ab_r v ∧ ab_r ((b - a) + 1) ∧ ¬ ((b - a) + 1) = 0) ∧ (ab_r ((v).tmod ((b - a) + 1)) ∧ (((0 : Int) ≤ ((v).tmod ((b - a) + 1)) → (ab_r ((v).tmod ((b - a) + 1)) ∧ ((((v).tmod ((b - a) + 1)) ≤ (0 : Int) → ab_R E_X3_rotates P_X3_rotates Q 53 [some (.inr (.inl (some 0))), some (.inl a), some (.inl b), some (.inl v), some (.inl ((b - a) + 1)), some (.inl ((v).tmod ((b - a) + 1)))] [] (md_cs s_ z_ g_)) ∧ ((0 : Int) < ((v).tmod ((b - a) + 1)) → ab_cl sp_X3_shifts [.inr (.inl (some 0)), .inl a, .inl ((a + ((v).tmod ((b - a) + 1))) - 1), .inl ((a + ((b - a) + 1)) - ((v).tmod ((b - a) + 1)))] (md_cs s_ z_ g_) (fun r_ k_ => k_.length = ((md_cs s_ z_ g_)).length → ab_R E_X3_rotates P_X3_rotates Q 53 [some (.inr (.inl (some 0))), some (.inl a), some (.inl b), some (.inl v), some (.inl ((b - a) + 1)), some (.inl ((v).tmod ((b - a) + 1)))] (ab_ret r_ []) k_))))) ∧ (((v).tmod ((b - a) + 1)) < (0 : Int) → (ab_r (((v).tmod ((b - a) + 1)) + ((b - a) + 1)) ∧ (((((v).tmod ((b - a) + 1)) + ((b - a) + 1)) ≤ (0 : Int) → ab_R E_X3_rotates P_X3_rotates Q 53 [some (.inr (.inl (some 0))), some (.inl a), some (.inl b), some (.inl v), some (.inl ((b - a) + 1)), some (.inl (((v).tmod ((b - a) + 1)) + ((b - a) + 1)))] [] (md_cs s_ z_ g_)) ∧ ((0 : Int) < (((v).tmod ((b - a) + 1)) + ((b - a) + 1)) → ab_cl sp_X3_shifts [.inr (.inl (some 0)), .inl a, .inl ((a + (((v).tmod ((b - a) + 1)) + ((b - a) + 1))) - 1), .inl ((a + ((b - a) + 1)) - (((v).tmod ((b - a) + 1)) + ((b - a) + 1)))] (md_cs s_ z_ g_) (fun r_ k_ => k_.length = ((md_cs s_ z_ g_)).length → ab_R E_X3_rotates P_X3_rotates Q 53 [some (.inr (.inl (some 0))), some (.inl a), some (.inl b), some (.inl v), some (.inl ((b - a) + 1)), some (.inl (((v).tmod ((b - a) + 1)) + ((b - a) + 1)))] (ab_ret r_ []) k_)))))))) from ⟨p1, ⟨p2, ⟨fun h1 => ⟨(p3 h1), ⟨fun h2 => (l1 h1 h2), fun h3 => ⟨_, (l2 h1 h3), fun r_ k_ hz _ => by obtain ⟨s_', z_', g_', rfl, rfl, hR⟩ := hz; exact hR⟩⟩⟩, fun h4 => ⟨(p4 h4), ⟨fun h5 => (l3 h4 h5), fun h6 => ⟨_, (l4 h4 h6), fun r_ k_ hz _ => by obtain ⟨s_', z_', g_', rfl, rfl, hR⟩ := hz; exact hR⟩⟩⟩⟩⟩⟩)
set_option maxRecDepth 100000 in
theorem b_X3_rotates_53 {Q : ab_Q} {a : Int} {b : Int} {v : Int} {mn : Int} {fi : Int} {s_ : Int → Int} {z_ : mc_T} {g_ : mg_T} (l1 : sp_X3_evens [.inr (.inl (some 0))] (md_cs s_ z_ g_) (fun r_ k_ => ∃ (s_' : Int → Int), ∃ (z_' : mc_T), ∃ (g_' : mg_T), r_ = none ∧ k_ = (md_cs (s_') z_' g_') ∧ ab_R E_X3_rotates P_X3_rotates Q 57 [some (.inr (.inl (some 0))), some (.inl a), some (.inl b), some (.inl v), some (.inl mn), some (.inl fi)] [] (md_cs (s_') z_' g_')))  : ab_R E_X3_rotates P_X3_rotates Q 53 [some (.inr (.inl (some 0))), some (.inl a), some (.inl b), some (.inl v), some (.inl mn), some (.inl fi)] [] (md_cs s_ z_ g_) :=
  ab_R.steps [53, 57] 3 (show ab_cl sp_X3_evens [.inr (.inl (some 0))] (md_cs s_ z_ g_) (fun r_ k_ => k_.length = ((md_cs s_ z_ g_)).length → ab_R E_X3_rotates P_X3_rotates Q 57 [some (.inr (.inl (some 0))), some (.inl a), some (.inl b), some (.inl v), some (.inl mn), some (.inl fi)] (ab_ret r_ []) k_) from ⟨_, l1, fun r_ k_ hz _ => by obtain ⟨s_', z_', g_', rfl, rfl, hR⟩ := hz; exact hR⟩)
set_option maxRecDepth 100000 in
theorem b_X3_rotates_57 {Q : ab_Q} {a : Int} {b : Int} {v : Int} {mn : Int} {fi : Int} {s_ : Int → Int} {z_ : mc_T} {g_ : mg_T} (l1 : Q none (md_cs s_ z_ g_))  : ab_R E_X3_rotates P_X3_rotates Q 57 [some (.inr (.inl (some 0))), some (.inl a), some (.inl b), some (.inl v), some (.inl mn), some (.inl fi)] [] (md_cs s_ z_ g_) :=
  ab_R.steps [53, 57] 2 (show Q none (md_cs s_ z_ g_) from l1)
-- ===== RootChunksModel.longest
def P_X3_longest : List ab_I := [(0, .iconst 0, 1, []), (1, .istore_n 1, 2, []), (2, .iconst 0, 3, []), (3, .istore_n 2, 4, []), (4, .iload_n 2, 5, []), (5, .aload_n 0, 6, []), (6, .getfield 7, 9, []), (9, .iconst 1, 10, []), (10, .iaload, 11, []), (11, .if_icmp .ge 36, 14, [((0 : Int), 47)]), (14, .aload_n 0, 15, []), (15, .getfield 7, 18, []), (18, .bipush 63, 20, []), (20, .iload_n 2, 21, []), (21, .iadd, 22, []), (22, .iaload, 23, []), (23, .iload_n 1, 24, []), (24, .if_icmp .le 15, 27, [((0 : Int), 39)]), (27, .aload_n 0, 28, []), (28, .getfield 7, 31, []), (31, .bipush 63, 33, []), (33, .iload_n 2, 34, []), (34, .iadd, 35, []), (35, .iaload, 36, []), (36, .goto 4, 39, [((0 : Int), 40)]), (39, .iload_n 1, 40, []), (40, .istore_n 1, 41, []), (41, .iinc 2 1, 44, []), (44, .goto (-40), 47, [((0 : Int), 4)]), (47, .iload_n 1, 48, []), (48, .ireturn, 49, [])]
def E_X3_longest : ab_E := (T_X3, [], [], 0)
def M_X3_longest : List (Nat × ab_MI) := []
def mi_X3_longest : ab_MI := (yX3_longest, cX3_longest, 3, ab_rty 0, 1, 70)
theorem pk_X3_longest : P_X3_longest.all (ab_okI cX3_longest) = true := by decide +kernel
theorem ck_X3_longest : P_X3_longest.all (ab_okC1 "RootChunksModel" M_X3_longest E_X3_longest (1, 70)) = true := by decide +kernel
set_option maxRecDepth 100000 in
theorem b_X3_longest_0 {Q : ab_Q} {s_ : Int → Int} {z_ : mc_T} {g_ : mg_T} (l1 : ab_R E_X3_longest P_X3_longest Q 4 [some (.inr (.inl (some 0))), some (.inl 0), some (.inl 0)] [] (md_cs s_ z_ g_))  : ab_R E_X3_longest P_X3_longest Q 0 [some (.inr (.inl (some 0))), none, none] [] (md_cs s_ z_ g_) :=
  ab_R.steps [4] 6 (show ab_R E_X3_longest P_X3_longest Q 4 [some (.inr (.inl (some 0))), some (.inl 0), some (.inl 0)] [] (md_cs s_ z_ g_) from l1)
set_option maxRecDepth 100000 in
theorem b_X3_longest_4 {Q : ab_Q} {m : Int} {c : Int} {s_ : Int → Int} {z_ : mc_T} {g_ : mg_T} (l1 : (s_ 1) ≤ c → Q (some (.inl m)) (md_cs s_ z_ g_)) (l2 : c < (s_ 1) → (s_ (63 + c)) ≤ m → ab_R E_X3_longest P_X3_longest Q 4 [some (.inr (.inl (some 0))), some (.inl m), some (.inl (c + 1))] [] (md_cs s_ z_ g_)) (l3 : c < (s_ 1) → m < (s_ (63 + c)) → ab_R E_X3_longest P_X3_longest Q 4 [some (.inr (.inl (some 0))), some (.inl (s_ (63 + c))), some (.inl (c + 1))] [] (md_cs s_ z_ g_)) (p1 : (0 ≤ (1 : Int) ∧ (1 : Int) < 255) := by intros; (try unfold ab_r); omega) (p2 : (ab_r c ∧ ab_r (s_ 1)) := by intros; (try unfold ab_r); omega) (p3 : c < (s_ 1) → (0 ≤ (63 + c) ∧ (63 + c) < 255) := by intros; (try unfold ab_r); omega) (p4 : c < (s_ 1) → (ab_r (s_ (63 + c)) ∧ ab_r m) := by intros; (try unfold ab_r); omega) (p5 : c < (s_ 1) → m < (s_ (63 + c)) → (0 ≤ (63 + c) ∧ (63 + c) < 255) := by intros; (try unfold ab_r); omega) : ab_R E_X3_longest P_X3_longest Q 4 [some (.inr (.inl (some 0))), some (.inl m), some (.inl c)] [] (md_cs s_ z_ g_) :=
  ab_R.steps [4] 26 (show ((0 ≤ (1 : Int) ∧ (1 : Int) < 255) ∧ ((ab_r c ∧ ab_r (s_ 1)) ∧ (((s_ 1) ≤ c → Q (some (.inl m)) (md_cs s_ z_ g_)) ∧ (c < (s_ 1) → ((0 ≤ (63 + c) ∧ (63 + c) < 255) ∧ ((ab_r (s_ (63 + c)) ∧ ab_r m) ∧ (((s_ (63 + c)) ≤ m → ab_R E_X3_longest P_X3_longest Q 4 [some (.inr (.inl (some 0))), some (.inl m), some (.inl (c + 1))] [] (md_cs s_ z_ g_)) ∧ (m < (s_ (63 + c)) → ((0 ≤ (63 + c) ∧ (63 + c) < 255) ∧ ab_R E_X3_longest P_X3_longest Q 4 [some (.inr (.inl (some 0))), some (.inl (s_ (63 + c))), some (.inl (c + 1))] [] (md_cs s_ z_ g_)))))))))) from ⟨p1, ⟨p2, ⟨fun h1 => (l1 h1), fun h2 => ⟨(p3 h2), ⟨(p4 h2), ⟨fun h3 => (l2 h2 h3), fun h4 => ⟨(p5 h2 h4), (l3 h2 h4)⟩⟩⟩⟩⟩⟩⟩)
-- ===== RootChunksModel.waiting
def P_X3_waiting : List ab_I := [(0, .iconst 0, 1, []), (1, .istore_n 2, 2, []), (2, .iconst 0, 3, []), (3, .istore_n 3, 4, []), (4, .iload_n 3, 5, []), (5, .aload_n 0, 6, []), (6, .getfield 7, 9, []), (9, .iconst 1, 10, []), (10, .iaload, 11, []), (11, .if_icmp .ge 28, 14, [((0 : Int), 39)]), (14, .iload_n 2, 15, []), (15, .aload_n 0, 16, []), (16, .getfield 7, 19, []), (19, .iload_n 1, 20, []), (20, .iload_n 3, 21, []), (21, .iadd, 22, []), (22, .iaload, 23, []), (23, .ifCond .eq 7, 26, [((0 : Int), 30)]), (26, .iconst 1, 27, []), (27, .goto 4, 30, [((0 : Int), 31)]), (30, .iconst 0, 31, []), (31, .iadd, 32, []), (32, .istore_n 2, 33, []), (33, .iinc 3 1, 36, []), (36, .goto (-32), 39, [((0 : Int), 4)]), (39, .iload_n 2, 40, []), (40, .ireturn, 41, [])]
def E_X3_waiting : ab_E := (T_X3, [], [], 0)
def M_X3_waiting : List (Nat × ab_MI) := []
def mi_X3_waiting : ab_MI := (yX3_waiting, cX3_waiting, 4, ab_rty 0, 1, 70)
theorem pk_X3_waiting : P_X3_waiting.all (ab_okI cX3_waiting) = true := by decide +kernel
theorem ck_X3_waiting : P_X3_waiting.all (ab_okC1 "RootChunksModel" M_X3_waiting E_X3_waiting (1, 70)) = true := by decide +kernel
set_option maxRecDepth 100000 in
theorem b_X3_waiting_0 {Q : ab_Q} {a : Int} {s_ : Int → Int} {z_ : mc_T} {g_ : mg_T} (l1 : ab_R E_X3_waiting P_X3_waiting Q 4 [some (.inr (.inl (some 0))), some (.inl a), some (.inl 0), some (.inl 0)] [] (md_cs s_ z_ g_))  : ab_R E_X3_waiting P_X3_waiting Q 0 [some (.inr (.inl (some 0))), some (.inl a), none, none] [] (md_cs s_ z_ g_) :=
  ab_R.steps [4] 6 (show ab_R E_X3_waiting P_X3_waiting Q 4 [some (.inr (.inl (some 0))), some (.inl a), some (.inl 0), some (.inl 0)] [] (md_cs s_ z_ g_) from l1)
set_option maxRecDepth 100000 in
theorem b_X3_waiting_4 {Q : ab_Q} {a : Int} {n : Int} {c : Int} {s_ : Int → Int} {z_ : mc_T} {g_ : mg_T} (l1 : (s_ 1) ≤ c → Q (some (.inl n)) (md_cs s_ z_ g_)) (l2 : c < (s_ 1) → (s_ (a + c)) = (0 : Int) → ab_R E_X3_waiting P_X3_waiting Q 4 [some (.inr (.inl (some 0))), some (.inl a), some (.inl (n + 0)), some (.inl (c + 1))] [] (md_cs s_ z_ g_)) (l3 : c < (s_ 1) → ¬ (s_ (a + c)) = (0 : Int) → ab_R E_X3_waiting P_X3_waiting Q 4 [some (.inr (.inl (some 0))), some (.inl a), some (.inl (n + 1)), some (.inl (c + 1))] [] (md_cs s_ z_ g_)) (p1 : (0 ≤ (1 : Int) ∧ (1 : Int) < 255) := by intros; (try unfold ab_r); omega) (p2 : (ab_r c ∧ ab_r (s_ 1)) := by intros; (try unfold ab_r); omega) (p3 : c < (s_ 1) → (0 ≤ (a + c) ∧ (a + c) < 255) := by intros; (try unfold ab_r); omega) (p4 : c < (s_ 1) → ab_r (s_ (a + c)) := by intros; (try unfold ab_r); omega) : ab_R E_X3_waiting P_X3_waiting Q 4 [some (.inr (.inl (some 0))), some (.inl a), some (.inl n), some (.inl c)] [] (md_cs s_ z_ g_) :=
  ab_R.steps [4] 22 (show ((0 ≤ (1 : Int) ∧ (1 : Int) < 255) ∧ ((ab_r c ∧ ab_r (s_ 1)) ∧ (((s_ 1) ≤ c → Q (some (.inl n)) (md_cs s_ z_ g_)) ∧ (c < (s_ 1) → ((0 ≤ (a + c) ∧ (a + c) < 255) ∧ (ab_r (s_ (a + c)) ∧ (((s_ (a + c)) = (0 : Int) → ab_R E_X3_waiting P_X3_waiting Q 4 [some (.inr (.inl (some 0))), some (.inl a), some (.inl (n + 0)), some (.inl (c + 1))] [] (md_cs s_ z_ g_)) ∧ (¬ (s_ (a + c)) = (0 : Int) → ab_R E_X3_waiting P_X3_waiting Q 4 [some (.inr (.inl (some 0))), some (.inl a), some (.inl (n + 1)), some (.inl (c + 1))] [] (md_cs s_ z_ g_))))))))) from ⟨p1, ⟨p2, ⟨fun h1 => (l1 h1), fun h2 => ⟨(p3 h2), ⟨(p4 h2), ⟨fun h3 => (l2 h2 h3), fun h4 => (l3 h2 h4)⟩⟩⟩⟩⟩⟩)
-- ===== RootChunksModel.lesser
def P_X3_lesser : List ab_I := [(0, .iconst 0, 1, []), (1, .istore 4, 3, []), (3, .iload_n 1, 4, []), (4, .istore 5, 6, []), (6, .iload 5, 8, []), (8, .iload_n 2, 9, []), (9, .if_icmp .gt 29, 12, [((0 : Int), 38)]), (12, .iload 4, 14, []), (14, .aload_n 0, 15, []), (15, .iload 5, 17, []), (17, .invokevirtual 61, 20, []), (20, .iload_n 3, 21, []), (21, .if_icmp .ge 7, 24, [((0 : Int), 28)]), (24, .iconst 1, 25, []), (25, .goto 4, 28, [((0 : Int), 29)]), (28, .iconst 0, 29, []), (29, .iadd, 30, []), (30, .istore 4, 32, []), (32, .iinc 5 1, 35, []), (35, .goto (-29), 38, [((0 : Int), 6)]), (38, .iload 4, 40, []), (40, .ireturn, 41, [])]
def E_X3_lesser : ab_E := (T_X3, [(17, (2, 3, [], 0, sp_X3_valueAt))], [], 0)
def M_X3_lesser : List (Nat × ab_MI) := [(17, mi_X3_valueAt)]
def mi_X3_lesser : ab_MI := (yX3_lesser, cX3_lesser, 6, ab_rty 0, 3, 117)
theorem pk_X3_lesser : P_X3_lesser.all (ab_okI cX3_lesser) = true := by decide +kernel
theorem ck_X3_lesser : P_X3_lesser.all (ab_okC1 "RootChunksModel" M_X3_lesser E_X3_lesser (3, 117)) = true := by decide +kernel
set_option maxRecDepth 100000 in
theorem b_X3_lesser_0 {Q : ab_Q} {a : Int} {b : Int} {v : Int} {s_ : Int → Int} {z_ : mc_T} {g_ : mg_T} (l1 : ab_R E_X3_lesser P_X3_lesser Q 6 [some (.inr (.inl (some 0))), some (.inl a), some (.inl b), some (.inl v), some (.inl 0), some (.inl a)] [] (md_cs s_ z_ g_))  : ab_R E_X3_lesser P_X3_lesser Q 0 [some (.inr (.inl (some 0))), some (.inl a), some (.inl b), some (.inl v), none, none] [] (md_cs s_ z_ g_) :=
  ab_R.steps [6, 20] 6 (show ab_R E_X3_lesser P_X3_lesser Q 6 [some (.inr (.inl (some 0))), some (.inl a), some (.inl b), some (.inl v), some (.inl 0), some (.inl a)] [] (md_cs s_ z_ g_) from l1)
set_option maxRecDepth 100000 in
theorem b_X3_lesser_6 {Q : ab_Q} {a : Int} {b : Int} {v : Int} {n : Int} {p : Int} {s_ : Int → Int} {z_ : mc_T} {g_ : mg_T} (l1 : b < p → Q (some (.inl n)) (md_cs s_ z_ g_)) (l2 : p ≤ b → sp_X3_valueAt [.inr (.inl (some 0)), .inl p] (md_cs s_ z_ g_) (fun r_ k_ => ∃ (x_ : Int), r_ = some (.inl x_) ∧ k_ = (md_cs s_ z_ g_) ∧ ab_R E_X3_lesser P_X3_lesser Q 20 [some (.inr (.inl (some 0))), some (.inl a), some (.inl b), some (.inl v), some (.inl n), some (.inl p)] [.inl x_, .inl n] (md_cs s_ z_ g_))) (p1 : (ab_r p ∧ ab_r b) := by intros; (try unfold ab_r); omega) : ab_R E_X3_lesser P_X3_lesser Q 6 [some (.inr (.inl (some 0))), some (.inl a), some (.inl b), some (.inl v), some (.inl n), some (.inl p)] [] (md_cs s_ z_ g_) :=
  ab_R.steps [6, 20] 8 (show ((ab_r p ∧ ab_r b) ∧ ((b < p → Q (some (.inl n)) (md_cs s_ z_ g_)) ∧ (p ≤ b → ab_cl sp_X3_valueAt [.inr (.inl (some 0)), .inl p] (md_cs s_ z_ g_) (fun r_ k_ => k_.length = ((md_cs s_ z_ g_)).length → ab_R E_X3_lesser P_X3_lesser Q 20 [some (.inr (.inl (some 0))), some (.inl a), some (.inl b), some (.inl v), some (.inl n), some (.inl p)] (ab_ret r_ [.inl n]) k_)))) from ⟨p1, ⟨fun h1 => (l1 h1), fun h2 => ⟨_, (l2 h2), fun r_ k_ hz _ => by obtain ⟨x_, rfl, rfl, hR⟩ := hz; exact hR⟩⟩⟩)
set_option maxRecDepth 100000 in
theorem b_X3_lesser_20 {Q : ab_Q} {a : Int} {b : Int} {v : Int} {n : Int} {p : Int} {t0 : Int} {t1 : Int} {s_ : Int → Int} {z_ : mc_T} {g_ : mg_T} (l1 : v ≤ t0 → ab_R E_X3_lesser P_X3_lesser Q 6 [some (.inr (.inl (some 0))), some (.inl a), some (.inl b), some (.inl v), some (.inl (t1 + 0)), some (.inl (p + 1))] [] (md_cs s_ z_ g_)) (l2 : t0 < v → ab_R E_X3_lesser P_X3_lesser Q 6 [some (.inr (.inl (some 0))), some (.inl a), some (.inl b), some (.inl v), some (.inl (t1 + 1)), some (.inl (p + 1))] [] (md_cs s_ z_ g_)) (p1 : (ab_r t0 ∧ ab_r v) := by intros; (try unfold ab_r); omega) : ab_R E_X3_lesser P_X3_lesser Q 20 [some (.inr (.inl (some 0))), some (.inl a), some (.inl b), some (.inl v), some (.inl n), some (.inl p)] [.inl t0, .inl t1] (md_cs s_ z_ g_) :=
  ab_R.steps [6, 20] 10 (show ((ab_r t0 ∧ ab_r v) ∧ ((v ≤ t0 → ab_R E_X3_lesser P_X3_lesser Q 6 [some (.inr (.inl (some 0))), some (.inl a), some (.inl b), some (.inl v), some (.inl (t1 + 0)), some (.inl (p + 1))] [] (md_cs s_ z_ g_)) ∧ (t0 < v → ab_R E_X3_lesser P_X3_lesser Q 6 [some (.inr (.inl (some 0))), some (.inl a), some (.inl b), some (.inl v), some (.inl (t1 + 1)), some (.inl (p + 1))] [] (md_cs s_ z_ g_)))) from ⟨p1, ⟨fun h1 => (l1 h1), fun h2 => (l2 h2)⟩⟩)
-- ===== RootChunksModel.alike
def P_X3_alike : List ab_I := [(0, .iconst 0, 1, []), (1, .istore 4, 3, []), (3, .iload_n 1, 4, []), (4, .istore 5, 6, []), (6, .iload 5, 8, []), (8, .iload_n 2, 9, []), (9, .if_icmp .gt 29, 12, [((0 : Int), 38)]), (12, .iload 4, 14, []), (14, .aload_n 0, 15, []), (15, .iload 5, 17, []), (17, .invokevirtual 61, 20, []), (20, .iload_n 3, 21, []), (21, .if_icmp .ne 7, 24, [((0 : Int), 28)]), (24, .iconst 1, 25, []), (25, .goto 4, 28, [((0 : Int), 29)]), (28, .iconst 0, 29, []), (29, .iadd, 30, []), (30, .istore 4, 32, []), (32, .iinc 5 1, 35, []), (35, .goto (-29), 38, [((0 : Int), 6)]), (38, .iload 4, 40, []), (40, .ireturn, 41, [])]
def E_X3_alike : ab_E := (T_X3, [(17, (2, 3, [], 0, sp_X3_valueAt))], [], 0)
def M_X3_alike : List (Nat × ab_MI) := [(17, mi_X3_valueAt)]
def mi_X3_alike : ab_MI := (yX3_alike, cX3_alike, 6, ab_rty 0, 3, 117)
theorem pk_X3_alike : P_X3_alike.all (ab_okI cX3_alike) = true := by decide +kernel
theorem ck_X3_alike : P_X3_alike.all (ab_okC1 "RootChunksModel" M_X3_alike E_X3_alike (3, 117)) = true := by decide +kernel
set_option maxRecDepth 100000 in
theorem b_X3_alike_0 {Q : ab_Q} {a : Int} {b : Int} {v : Int} {s_ : Int → Int} {z_ : mc_T} {g_ : mg_T} (l1 : ab_R E_X3_alike P_X3_alike Q 6 [some (.inr (.inl (some 0))), some (.inl a), some (.inl b), some (.inl v), some (.inl 0), some (.inl a)] [] (md_cs s_ z_ g_))  : ab_R E_X3_alike P_X3_alike Q 0 [some (.inr (.inl (some 0))), some (.inl a), some (.inl b), some (.inl v), none, none] [] (md_cs s_ z_ g_) :=
  ab_R.steps [6, 20] 6 (show ab_R E_X3_alike P_X3_alike Q 6 [some (.inr (.inl (some 0))), some (.inl a), some (.inl b), some (.inl v), some (.inl 0), some (.inl a)] [] (md_cs s_ z_ g_) from l1)
set_option maxRecDepth 100000 in
theorem b_X3_alike_6 {Q : ab_Q} {a : Int} {b : Int} {v : Int} {n : Int} {p : Int} {s_ : Int → Int} {z_ : mc_T} {g_ : mg_T} (l1 : b < p → Q (some (.inl n)) (md_cs s_ z_ g_)) (l2 : p ≤ b → sp_X3_valueAt [.inr (.inl (some 0)), .inl p] (md_cs s_ z_ g_) (fun r_ k_ => ∃ (x_ : Int), r_ = some (.inl x_) ∧ k_ = (md_cs s_ z_ g_) ∧ ab_R E_X3_alike P_X3_alike Q 20 [some (.inr (.inl (some 0))), some (.inl a), some (.inl b), some (.inl v), some (.inl n), some (.inl p)] [.inl x_, .inl n] (md_cs s_ z_ g_))) (p1 : (ab_r p ∧ ab_r b) := by intros; (try unfold ab_r); omega) : ab_R E_X3_alike P_X3_alike Q 6 [some (.inr (.inl (some 0))), some (.inl a), some (.inl b), some (.inl v), some (.inl n), some (.inl p)] [] (md_cs s_ z_ g_) :=
  ab_R.steps [6, 20] 8 (show ((ab_r p ∧ ab_r b) ∧ ((b < p → Q (some (.inl n)) (md_cs s_ z_ g_)) ∧ (p ≤ b → ab_cl sp_X3_valueAt [.inr (.inl (some 0)), .inl p] (md_cs s_ z_ g_) (fun r_ k_ => k_.length = ((md_cs s_ z_ g_)).length → ab_R E_X3_alike P_X3_alike Q 20 [some (.inr (.inl (some 0))), some (.inl a), some (.inl b), some (.inl v), some (.inl n), some (.inl p)] (ab_ret r_ [.inl n]) k_)))) from ⟨p1, ⟨fun h1 => (l1 h1), fun h2 => ⟨_, (l2 h2), fun r_ k_ hz _ => by obtain ⟨x_, rfl, rfl, hR⟩ := hz; exact hR⟩⟩⟩)
set_option maxRecDepth 100000 in
theorem b_X3_alike_20 {Q : ab_Q} {a : Int} {b : Int} {v : Int} {n : Int} {p : Int} {t0 : Int} {t1 : Int} {s_ : Int → Int} {z_ : mc_T} {g_ : mg_T} (l1 : ¬ t0 = v → ab_R E_X3_alike P_X3_alike Q 6 [some (.inr (.inl (some 0))), some (.inl a), some (.inl b), some (.inl v), some (.inl (t1 + 0)), some (.inl (p + 1))] [] (md_cs s_ z_ g_)) (l2 : t0 = v → ab_R E_X3_alike P_X3_alike Q 6 [some (.inr (.inl (some 0))), some (.inl a), some (.inl b), some (.inl v), some (.inl (t1 + 1)), some (.inl (p + 1))] [] (md_cs s_ z_ g_)) (p1 : (ab_r t0 ∧ ab_r v) := by intros; (try unfold ab_r); omega) : ab_R E_X3_alike P_X3_alike Q 20 [some (.inr (.inl (some 0))), some (.inl a), some (.inl b), some (.inl v), some (.inl n), some (.inl p)] [.inl t0, .inl t1] (md_cs s_ z_ g_) :=
  ab_R.steps [6, 20] 10 (show ((ab_r t0 ∧ ab_r v) ∧ ((¬ t0 = v → ab_R E_X3_alike P_X3_alike Q 6 [some (.inr (.inl (some 0))), some (.inl a), some (.inl b), some (.inl v), some (.inl (t1 + 0)), some (.inl (p + 1))] [] (md_cs s_ z_ g_)) ∧ (t0 = v → ab_R E_X3_alike P_X3_alike Q 6 [some (.inr (.inl (some 0))), some (.inl a), some (.inl b), some (.inl v), some (.inl (t1 + 1)), some (.inl (p + 1))] [] (md_cs s_ z_ g_)))) from ⟨p1, ⟨fun h1 => (l1 h1), fun h2 => (l2 h2)⟩⟩)
theorem mf_tmod (v n : Int) (h : 0 < n) : (0 ≤ v.tmod n → v.tmod n = v % n) ∧ (v.tmod n < 0 → v.tmod n + n = v % n) ∧ -n < v.tmod n ∧ v.tmod n < n ∧ 0 ≤ v % n ∧ v % n < n := by
  have h1 := Int.emod_nonneg v (b := n) (by omega)
  have h2 := Int.emod_lt_of_pos v h
  have e := Int.tmod_eq_emod (a := v) (b := n)
  split at e <;> omega
theorem mf_less_cons (v x : Int) (l : List Int) : mf_less v (x :: l) = mf_less v l + (if x < v then 1 else 0) := by
  unfold mf_less
  rw [List.countP_cons]
  by_cases h : x < v
  · simp [h]
  · simp [h]
theorem mf_like_cons (v x : Int) (l : List Int) : mf_like v (x :: l) = mf_like v l + (if x = v then 1 else 0) := by
  unfold mf_like
  rw [List.countP_cons]
  by_cases h : x = v
  · simp [h]
  · simp [h]
theorem mh_U_push {un un' : Int → Int} {um : Int} {h : List (List mq_K × Int)} {s : Int → Int} {x : List mq_K × Int} (hU : mh_U un um h) (hs : mh_st s x) (hl : h.length < 6) (e : ∀ j : Int, 0 ≤ j → j < 1530 → un' j = if 255 * um ≤ j ∧ j < 255 * um + 255 then s (j - 255 * um) else un j) : mh_U un' (um + 1) (h ++ [x]) := by
  obtain ⟨h1, h2, h3⟩ := hU
  refine ⟨by rw [List.length_append, List.length_singleton]; omega, by rw [List.length_append, List.length_singleton]; omega, fun i y hy => ?_⟩
  by_cases z : i < h.length
  · rw [List.getElem?_append_left z] at hy
    refine mh_st_ext (h3 i y hy) (fun j j1 j2 => ?_)
    rw [e _ (by omega) (by omega), if_neg (by omega)]
  · have hi := (List.getElem?_eq_some_iff.mp hy).1
    rw [List.length_append, List.length_singleton] at hi
    have hi2 : i = h.length := by omega
    subst hi2
    have : y = x := by simpa using hy.symm
    subst this
    refine mh_st_ext hs (fun j j1 j2 => ?_)
    rw [e _ (by omega) (by omega), if_pos (by omega)]
    congr 1; omega
theorem mh_U_drop {un un' : Int → Int} {um : Int} {h : List (List mq_K × Int)} (hU : mh_U un um h) (hl : h.length = 6) (e : ∀ j : Int, 0 ≤ j → j < 1275 → un' j = un (j + 255)) : mh_U un' (um - 1) (h.drop 1) := by
  obtain ⟨h1, h2, h3⟩ := hU
  refine ⟨by rw [List.length_drop]; omega, by rw [List.length_drop]; omega, fun i y hy => ?_⟩
  have hi := (List.getElem?_eq_some_iff.mp hy).1
  rw [List.length_drop] at hi
  rw [List.getElem?_drop] at hy
  refine mh_st_ext (h3 _ y hy) (fun j j1 j2 => ?_)
  rw [e _ (by omega) (by omega)]
  congr 1; omega
theorem vc_X3_records {av : List ab_V} {cs : List ab_C} {Q : ab_Q} (h : sp_X3_records av cs Q) : (ab_lv0 av).length ≤ 2 ∧ ab_R E_X3_records P_X3_records Q 0 (ab_ent av 2) [] cs := by
  obtain ⟨s, z, th, as, un, um, sl, hs, pd, ln, at_, iw, os, om, x, h, rfl, rfl, hst, hU, hQ⟩ := h
  refine ⟨Nat.le_of_ble_eq_true rfl, ?_⟩
  have second : ∀ (un1 : Int → Int) (um1 : Int) (h1 : List (List mq_K × Int)), mh_U un1 um1 h1 → h1.length < 6 → mh_push h x = h1 ++ [x] → ∀ (m : Nat) (k : Int) (un2 : Int → Int), k + m = 255 → 0 ≤ k → (∀ j : Int, un2 j = if 255 * um1 ≤ j ∧ j < 255 * um1 + k then s (j - 255 * um1) else un1 j) →
      ab_R E_X3_records P_X3_records Q 52 [some (.inr (.inl (some 0))), some (.inl k)] [] (md_cs s z (th, as, un2, um1, sl, hs, pd, ln, at_, iw, os, om)) := by
    intro un1 um1 h1 hU1 hl1 hp m
    have hum := hU1.1
    induction m with
    | zero =>
      intro k un2 g1 g2 g3
      refine b_X3_records_52 (fun _ => hQ _ _ ?_) (fun _ => by omega)
      rw [hp]
      refine mh_U_push hU1 hst hl1 (fun j _ _ => ?_)
      rw [g3, show k = 255 by omega]
    | succ m ih =>
      intro k un2 g1 g2 g3
      refine b_X3_records_52 (fun _ => by omega) (fun _ => ih _ _ (by omega) (by omega) (fun j => ?_))
      by_cases y : j = 255 * um1 + k
      · rw [ab_up_eq y, if_pos (by omega)]
        congr 1; omega
      · rw [ab_up_ne y, g3]
        by_cases y2 : 255 * um1 ≤ j ∧ j < 255 * um1 + k
        · rw [if_pos y2, if_pos (by omega)]
        · rw [if_neg y2, if_neg (by omega)]
  have hum := hU.1
  have hle := hU.2.1
  refine b_X3_records_0 (fun h6 => ?_) (fun h6 => ?_)
  · refine second un um h hU (by omega) ?_ 255 0 un rfl (by omega) (fun j => by rw [if_neg (by omega)])
    unfold mh_push
    rw [if_neg (by omega)]
  · have hl6 : h.length = 6 := by omega
    have first : ∀ (m : Nat) (k : Int) (un2 : Int → Int), k + m = 1275 → 0 ≤ k → (∀ j : Int, un2 j = if 0 ≤ j ∧ j < k then un (j + 255) else un j) →
        ab_R E_X3_records P_X3_records Q 11 [some (.inr (.inl (some 0))), some (.inl k)] [] (md_cs s z (th, as, un2, um, sl, hs, pd, ln, at_, iw, os, om)) := by
      intro m
      induction m with
      | zero =>
        intro k un2 g1 g2 g3
        refine b_X3_records_11 (fun _ => ?_) (fun _ => by omega)
        refine second un2 (um - 1) (h.drop 1) (mh_U_drop hU hl6 (fun j j1 j2 => ?_)) (by rw [List.length_drop]; omega) ?_ 255 0 un2 rfl (by omega) (fun j => by rw [if_neg (by omega)])
        · rw [g3, if_pos (by omega)]
        · unfold mh_push
          rw [if_pos hl6]
      | succ m ih =>
        intro k un2 g1 g2 g3
        refine b_X3_records_11 (fun _ => by omega) (fun _ => ih _ _ (by omega) (by omega) (fun j => ?_))
        have o : un2 (k + 255) = un (k + 255) := by rw [g3, if_neg (by omega)]
        rw [o]
        by_cases y : j = k
        · rw [ab_up_eq y, if_pos (by omega), y]
        · rw [ab_up_ne y, g3]
          by_cases y2 : 0 ≤ j ∧ j < k
          · rw [if_pos y2, if_pos (by omega)]
          · rw [if_neg y2, if_neg (by omega)]
    exact first 1275 0 un rfl (by omega) (fun j => by rw [if_neg (by omega)])
theorem mt_X3_records (l : Launch) : ab_MT l mi_X3_records sp_X3_records := ab_MT.of (own := "RootChunksModel") (E := E_X3_records) (P := P_X3_records) (M := M_X3_records) (nL := 2) (ty := 9) (by decide) rfl rfl tk_X3 pk_X3_records ck_X3_records ab_CT'.nil (fun av cs Q h => vc_X3_records h)
theorem vc_X3_rotates {av : List ab_V} {cs : List ab_C} {Q : ab_Q} (h : sp_X3_rotates av cs Q) : (ab_lv0 av).length ≤ 6 ∧ ab_R E_X3_rotates P_X3_rotates Q 0 (ab_ent av 6) [] cs := by
  obtain ⟨s, z, g, q, a, b, v, rfl, rfl, hR, hW, he, hQ⟩ := h
  refine ⟨Nat.le_of_ble_eq_true rfl, ?_⟩
  obtain ⟨e1, e2⟩ := mq_eBy_0 he
  have e3 := mq_eSpan_0 e1
  unfold mq_n at e3
  unfold mq_vl at e2
  have hfl := hW.2
  obtain ⟨t1, t2, t3, t4, t5, t6⟩ := mf_tmod v (b - a + 1) (by omega)
  have fin : ∀ (mn fi : Int) (s1 : Int → Int) (z1 : mc_T), mq_R (md_v s1) (mf_rol q a b v).1 → mq_W (mf_rol q a b v).1 → s1 2 = s 2 + (mf_rol q a b v).2 → ab_R E_X3_rotates P_X3_rotates Q 53 [some (.inr (.inl (some 0))), some (.inl a), some (.inl b), some (.inl v), some (.inl mn), some (.inl fi)] [] (md_cs s1 z1 g) := by
    intro mn fi s1 z1 q1 q2 q3
    exact b_X3_rotates_53 ⟨_, _, _, _, rfl, rfl, q1, q2, fun s' z' r1 r2 => ⟨s', z', g, rfl, rfl, b_X3_rotates_57 (hQ s' z' r1 (by omega))⟩⟩
  have none_ : v % (b - a + 1) = 0 → ∀ (mn fi : Int), ab_R E_X3_rotates P_X3_rotates Q 53 [some (.inr (.inl (some 0))), some (.inl a), some (.inl b), some (.inl v), some (.inl mn), some (.inl fi)] [] (md_cs s z g) := by
    intro h0 mn fi
    have hz : mf_rol q a b v = (q, 0) := by unfold mf_rol; rw [if_pos h0]
    exact fin mn fi s z (by rw [hz]; exact hR) (by rw [hz]; exact hW) (by rw [hz]; dsimp only; omega)
  have some_ : ∀ r : Int, r = v % (b - a + 1) → 0 < r → ∀ (mn : Int), sp_X3_shifts [.inr (.inl (some 0)), .inl a, .inl ((a + r) - 1), .inl ((a + ((b - a) + 1)) - r)] (md_cs s z g) (fun r_ k_ => ∃ (s_' : Int → Int), ∃ (z_' : mc_T), ∃ (g_' : mg_T), r_ = none ∧ k_ = (md_cs (s_') z_' g_') ∧ ab_R E_X3_rotates P_X3_rotates Q 53 [some (.inr (.inl (some 0))), some (.inl a), some (.inl b), some (.inl v), some (.inl mn), some (.inl r)] [] (md_cs (s_') z_' g_')) := by
    intro r hr h0 mn
    have hz : mf_rol q a b v = mq_mov q a.toNat r.toNat (b + 1 - r).toNat := by unfold mf_rol; rw [if_neg (by omega), hr]
    refine ⟨_, _, _, q, a.toNat, r.toNat, (b + 1 - r).toNat, _, _, _, rfl, rfl, hR, hW, by omega, by omega, by omega, by omega, by omega, by omega, fun s1 z1 q1 q2 => ⟨s1, z1, g, rfl, rfl, ?_⟩⟩
    exact fin mn r s1 z1 (by rw [hz]; exact q1) (by rw [hz]; exact mq_W_mov hW (by omega) (by omega)) (by rw [hz]; exact q2)
  refine b_X3_rotates_0 (fun h1 h2 => none_ (by omega) _ _) (fun h1 h2 => some_ _ (t1 h1) h2 _) (fun h1 h2 => none_ (by omega) _ _) (fun h1 h2 => some_ _ (t2 h1) h2 _)
theorem mt_X3_rotates (l : Launch) : ab_MT l mi_X3_rotates sp_X3_rotates := ab_MT.of (own := "RootChunksModel") (E := E_X3_rotates) (P := P_X3_rotates) (M := M_X3_rotates) (nL := 6) (ty := 9) (by decide) rfl rfl tk_X3 pk_X3_rotates ck_X3_rotates (ab_CT'.cons (mt_X3_shifts l) (ab_CT'.cons (mt_X3_evens l) ab_CT'.nil)) (fun av cs Q h => vc_X3_rotates h)
theorem vc_X3_longest {av : List ab_V} {cs : List ab_C} {Q : ab_Q} (h : sp_X3_longest av cs Q) : (ab_lv0 av).length ≤ 3 ∧ ab_R E_X3_longest P_X3_longest Q 0 (ab_ent av 3) [] cs := by
  obtain ⟨s, z, g, q, rfl, rfl, hR, hW, hQ⟩ := h
  refine ⟨Nat.le_of_ble_eq_true rfl, ?_⟩
  have hcc : s 1 = (q.length : Nat) := hR.2.2.2.2.2
  have hcl := hW.chunks
  have hfl := hW.2
  have loop : ∀ (B A : List mq_K) (c m : Int), q = A ++ B → c = A.length → 0 ≤ m → m ≤ 60 → mq_lg B m = mq_lg q 0 → ab_R E_X3_longest P_X3_longest Q 4 [some (.inr (.inl (some 0))), some (.inl m), some (.inl c)] [] (md_cs s z g) := by
    intro B
    induction B with
    | nil =>
      intro A c m g1 g2 g3 g4 g5
      rw [List.append_nil] at g1; subst g1
      refine b_X3_longest_4 (fun _ => ?_) (fun _ _ => by omega) (fun _ _ => by omega) (p4 := fun _ => by omega)
      have e : mq_lg [] m = m := rfl
      rw [← e, g5]; exact hQ
    | cons k B ih =>
      intro A c m g1 g2 g3 g4 g5
      have e1 : s (63 + (A.length : Int)) = _ := hR.len (c := A.length) (k := k) (by rw [g1]; simp)
      rw [← g2] at e1
      have e2 : q.length = A.length + (B.length + 1) := by rw [g1]; simp
      have e3 : k.1.length ≤ 60 := by
        rw [g1, mq_flat_mid, List.length_append, List.length_append] at hfl; omega
      have e4 : mq_lg (k :: B) m = mq_lg B (if m < k.1.length then k.1.length else m) := rfl
      rw [e4] at g5
      refine b_X3_longest_4 (fun _ => by omega) (fun _ hc => ih (A ++ [k]) _ _ (by simpa using g1) (by simp; omega) (by omega) (by omega) ?_) (fun _ hc => ih (A ++ [k]) _ _ (by simpa using g1) (by simp; omega) (by omega) (by omega) ?_)
      · rw [if_neg (by omega)] at g5; exact g5
      · rw [if_pos (by omega)] at g5; rw [e1]; exact g5
  exact b_X3_longest_0 (loop q [] 0 0 rfl rfl (by omega) (by omega) rfl)
theorem mt_X3_longest (l : Launch) : ab_MT l mi_X3_longest sp_X3_longest := ab_MT.of (own := "RootChunksModel") (E := E_X3_longest) (P := P_X3_longest) (M := M_X3_longest) (nL := 3) (ty := 0) (by decide) rfl rfl tk_X3 pk_X3_longest ck_X3_longest ab_CT'.nil (fun av cs Q h => vc_X3_longest h)
theorem vc_X3_waiting {av : List ab_V} {cs : List ab_C} {Q : ab_Q} (h : sp_X3_waiting av cs Q) : (ab_lv0 av).length ≤ 4 ∧ ab_R E_X3_waiting P_X3_waiting Q 0 (ab_ent av 4) [] cs := by
  obtain ⟨s, z, g, q, a, r, rfl, rfl, hR, hW, ha, hQ⟩ := h
  refine ⟨Nat.le_of_ble_eq_true rfl, ?_⟩
  have hcc : s 1 = (q.length : Nat) := hR.2.2.2.2.2
  have hcl := hW.chunks
  rcases ha with ⟨rfl, rfl⟩ | ⟨rfl, rfl⟩
  · have loop : ∀ (B A : List mq_K) (c m : Int), q = A ++ B → c = A.length → mq_wt B m = mq_wt q 0 → ab_R E_X3_waiting P_X3_waiting Q 4 [some (.inr (.inl (some 0))), some (.inl 127), some (.inl m), some (.inl c)] [] (md_cs s z g) := by
      intro B
      induction B with
      | nil =>
        intro A c m g1 g2 g5
        rw [List.append_nil] at g1; subst g1
        refine b_X3_waiting_4 (fun _ => ?_) (fun _ _ => by omega) (fun _ _ => by omega) (p4 := fun _ => by omega)
        have e : mq_wt [] m = m := rfl
        rw [← e, g5]; exact hQ
      | cons k B ih =>
        intro A c m g1 g2 g5
        have e1 : s (127 + (A.length : Int)) = _ := hR.turn (c := A.length) (k := k) (by rw [g1]; simp)
        rw [← g2] at e1
        have e2 : q.length = A.length + (B.length + 1) := by rw [g1]; simp
        have ht := (hW.1 k (by rw [g1]; simp)).2.1
        have e4 : mq_wt (k :: B) m = mq_wt B (m + k.2.1) := rfl
        rw [e4] at g5
        refine b_X3_waiting_4 (fun _ => by omega) (fun _ hc => ih (A ++ [k]) _ _ (by simpa using g1) (by simp; omega) ?_) (fun _ hc => ih (A ++ [k]) _ _ (by simpa using g1) (by simp; omega) ?_)
        · rw [show k.2.1 = 0 by omega] at g5; exact g5
        · rw [show k.2.1 = 1 by omega] at g5; exact g5
    exact b_X3_waiting_0 (loop q [] 0 0 rfl rfl rfl)
  · have loop : ∀ (B A : List mq_K) (c m : Int), q = A ++ B → c = A.length → mq_ws B m = mq_ws q 0 → ab_R E_X3_waiting P_X3_waiting Q 4 [some (.inr (.inl (some 0))), some (.inl 191), some (.inl m), some (.inl c)] [] (md_cs s z g) := by
      intro B
      induction B with
      | nil =>
        intro A c m g1 g2 g5
        rw [List.append_nil] at g1; subst g1
        refine b_X3_waiting_4 (fun _ => ?_) (fun _ _ => by omega) (fun _ _ => by omega) (p4 := fun _ => by omega)
        have e : mq_ws [] m = m := rfl
        rw [← e, g5]; exact hQ
      | cons k B ih =>
        intro A c m g1 g2 g5
        have e1 : s (191 + (A.length : Int)) = _ := hR.sum (c := A.length) (k := k) (by rw [g1]; simp)
        rw [← g2] at e1
        have e2 : q.length = A.length + (B.length + 1) := by rw [g1]; simp
        have hs := (hW.1 k (by rw [g1]; simp)).sum
        have e4 : mq_ws (k :: B) m = mq_ws B (if k.2.2 = 0 then m else m + 1) := rfl
        rw [e4] at g5
        refine b_X3_waiting_4 (fun _ => by omega) (fun _ hc => ih (A ++ [k]) _ _ (by simpa using g1) (by simp; omega) ?_) (fun _ hc => ih (A ++ [k]) _ _ (by simpa using g1) (by simp; omega) ?_)
        · rw [if_pos (by omega)] at g5
          rw [show m + 0 = m by omega]; exact g5
        · rw [if_neg (by omega)] at g5; exact g5
    exact b_X3_waiting_0 (loop q [] 0 0 rfl rfl rfl)
theorem mt_X3_waiting (l : Launch) : ab_MT l mi_X3_waiting sp_X3_waiting := ab_MT.of (own := "RootChunksModel") (E := E_X3_waiting) (P := P_X3_waiting) (M := M_X3_waiting) (nL := 4) (ty := 0) (by decide) rfl rfl tk_X3 pk_X3_waiting ck_X3_waiting ab_CT'.nil (fun av cs Q h => vc_X3_waiting h)
theorem vc_X3_lesser {av : List ab_V} {cs : List ab_C} {Q : ab_Q} (h : sp_X3_lesser av cs Q) : (ab_lv0 av).length ≤ 6 ∧ ab_R E_X3_lesser P_X3_lesser Q 0 (ab_ent av 6) [] cs := by
  obtain ⟨s, z, g, q, a, b, v, rfl, rfl, hR, hW, h1, h2, h3, h4, h5, hQ⟩ := h
  refine ⟨Nat.le_of_ble_eq_true rfl, ?_⟩
  have hfl := hW.2
  have h3' := h3
  unfold mq_n at h3'
  have loop : ∀ (m : Nat) (p n : Int), b + 1 - p = m → 0 ≤ p → n + mf_less v (mq_sp q p b) = mf_less v (mq_sp q a b) → ab_R E_X3_lesser P_X3_lesser Q 6 [some (.inr (.inl (some 0))), some (.inl a), some (.inl b), some (.inl v), some (.inl n), some (.inl p)] [] (md_cs s z g) := by
    intro m
    induction m with
    | zero =>
      intro p n g1 g2 g3
      rw [mq_sp_nil q p b (by omega)] at g3
      refine b_X3_lesser_6 (fun _ => ?_) (fun h => by omega)
      have : mf_less v [] = 0 := rfl
      rw [show n = mf_less v (mq_sp q a b) by omega]; exact hQ
    | succ m ih =>
      intro p n g1 g2 g3
      obtain ⟨x, hx, e⟩ := mq_sp_cons (q := q) (p := p) (b := b) (by omega) (by omega) h3
      have hxin := mq_all_in hW x (List.mem_of_getElem? hx)
      rw [e, mf_less_cons] at g3
      refine b_X3_lesser_6 (fun h => by omega) (fun _ => ⟨_, _, _, q, _, p.toNat, x, rfl, rfl, hR, hW, by omega, hx, _, rfl, rfl, ?_⟩)
      refine b_X3_lesser_20 (fun hc => ih _ _ (by omega) (by omega) ?_) (fun hc => ih _ _ (by omega) (by omega) ?_)
      · rw [if_neg (by omega)] at g3; omega
      · rw [if_pos (by omega)] at g3; omega
  exact b_X3_lesser_0 (loop (b + 1 - a).toNat a 0 (by omega) (by omega) (by omega))
theorem mt_X3_lesser (l : Launch) : ab_MT l mi_X3_lesser sp_X3_lesser := ab_MT.of (own := "RootChunksModel") (E := E_X3_lesser) (P := P_X3_lesser) (M := M_X3_lesser) (nL := 6) (ty := 0) (by decide) rfl rfl tk_X3 pk_X3_lesser ck_X3_lesser (ab_CT'.cons (mt_X3_valueAt l) ab_CT'.nil) (fun av cs Q h => vc_X3_lesser h)
theorem vc_X3_alike {av : List ab_V} {cs : List ab_C} {Q : ab_Q} (h : sp_X3_alike av cs Q) : (ab_lv0 av).length ≤ 6 ∧ ab_R E_X3_alike P_X3_alike Q 0 (ab_ent av 6) [] cs := by
  obtain ⟨s, z, g, q, a, b, v, rfl, rfl, hR, hW, h1, h2, h3, h4, h5, hQ⟩ := h
  refine ⟨Nat.le_of_ble_eq_true rfl, ?_⟩
  have hfl := hW.2
  have h3' := h3
  unfold mq_n at h3'
  have loop : ∀ (m : Nat) (p n : Int), b + 1 - p = m → 0 ≤ p → n + mf_like v (mq_sp q p b) = mf_like v (mq_sp q a b) → ab_R E_X3_alike P_X3_alike Q 6 [some (.inr (.inl (some 0))), some (.inl a), some (.inl b), some (.inl v), some (.inl n), some (.inl p)] [] (md_cs s z g) := by
    intro m
    induction m with
    | zero =>
      intro p n g1 g2 g3
      rw [mq_sp_nil q p b (by omega)] at g3
      refine b_X3_alike_6 (fun _ => ?_) (fun h => by omega)
      have : mf_like v [] = 0 := rfl
      rw [show n = mf_like v (mq_sp q a b) by omega]; exact hQ
    | succ m ih =>
      intro p n g1 g2 g3
      obtain ⟨x, hx, e⟩ := mq_sp_cons (q := q) (p := p) (b := b) (by omega) (by omega) h3
      have hxin := mq_all_in hW x (List.mem_of_getElem? hx)
      rw [e, mf_like_cons] at g3
      refine b_X3_alike_6 (fun h => by omega) (fun _ => ⟨_, _, _, q, _, p.toNat, x, rfl, rfl, hR, hW, by omega, hx, _, rfl, rfl, ?_⟩)
      refine b_X3_alike_20 (fun hc => ih _ _ (by omega) (by omega) ?_) (fun hc => ih _ _ (by omega) (by omega) ?_)
      · rw [if_neg (by omega)] at g3; omega
      · rw [if_pos (by omega)] at g3; omega
  exact b_X3_alike_0 (loop (b + 1 - a).toNat a 0 (by omega) (by omega) (by omega))
theorem mt_X3_alike (l : Launch) : ab_MT l mi_X3_alike sp_X3_alike := ab_MT.of (own := "RootChunksModel") (E := E_X3_alike) (P := P_X3_alike) (M := M_X3_alike) (nL := 6) (ty := 0) (by decide) rfl rfl tk_X3 pk_X3_alike ck_X3_alike (ab_CT'.cons (mt_X3_valueAt l) ab_CT'.nil) (fun av cs Q h => vc_X3_alike h)
