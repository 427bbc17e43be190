/-! THE CLASS: undone, saved, wiped, put -/
def sp_X2_und (k : Nat) : ab_Sp := fun av cs Q => ∃ (X : mx_W) (S : mS_T) (d : Nat), av = [.inr (.inl (some 0))] ∧ cs = mx_cs X ∧ mx_inv X S ∧ mx_Hd d X.1 X.2.2.2.1 X.2.2.2.2.1 S.2.1 ∧ (S.2.1.length + 5 + d) % 6 = k ∧ mx_out Q (mf_undo S)
def sp_X2_undo_v0 : ab_Sp := sp_X2_und 0
def sp_X2_undo_v1 : ab_Sp := sp_X2_und 1
def sp_X2_undo_v2 : ab_Sp := sp_X2_und 2
def sp_X2_undo_v3 : ab_Sp := sp_X2_und 3
def sp_X2_undo_v4 : ab_Sp := sp_X2_und 4
def sp_X2_undo_v5 : ab_Sp := sp_X2_und 5
def sp_X2_undo : ab_Sp := mx_in0 mf_undo
def sp_X2_sav (k : Int) : ab_Sp := fun av cs Q => ∃ (X : mx_W) (S : mS_T) (a : Int), av = [.inr (.inl (some 0)), .inl a] ∧ cs = mx_cs X ∧ mx_inv X S ∧ ab_r a ∧ (a = k ∨ a < 0 ∨ 2 ≤ a) ∧ mx_out Q (mf_save S a)
def sp_X2_save_v0 : ab_Sp := sp_X2_sav 0
def sp_X2_save_v1 : ab_Sp := sp_X2_sav 1
def sp_X2_save : ab_Sp := mx_in1 mf_save
def sp_X2_rst (k : Int) : ab_Sp := fun av cs Q => ∃ (X : mx_W) (S : mS_T) (a : Int), av = [.inr (.inl (some 0)), .inl a] ∧ cs = mx_cs X ∧ mx_inv X S ∧ ab_r a ∧ (a = k ∨ a < 0 ∨ 2 ≤ a) ∧ mx_out Q (mf_restore S a)
def sp_X2_restore_v0 : ab_Sp := sp_X2_rst 0
def sp_X2_restore_v1 : ab_Sp := sp_X2_rst 1
def sp_X2_restore : ab_Sp := mx_in1 mf_restore
def sp_X2_wipe : ab_Sp := mx_in0 (fun S => ((S.2.2.2.length : Nat), (S.1, S.2.1, S.2.2.1, [])))
def sp_X2_countCharacters : ab_Sp := fun av cs Q => ∃ (x : Int64) (S : mS_T), av = [.inr (.inr x)] ∧ (mf_bad S x = true → Q (some (.inl 0)) cs) ∧ (¬ mf_bad S x = true → Q (some (.inl ((mb_w x).length : Nat))) cs)
def mx_inL (F : mS_T → Int64 → Int × mS_T) : ab_Sp := fun av cs Q => ∃ (X : mx_W) (S : mS_T) (x : Int64), av = [.inr (.inl (some 0)), .inr (.inr x)] ∧ cs = mx_cs X ∧ mx_inv X S ∧ mx_out Q (F S x)
def sp_X2_put : ab_Sp := mx_inL mf_put
-- ===== RootChunks.undo 0
def P_X2_undo : List ab_I := [(0, .aload_n 0, 1, []), (1, .getfield 27, 4, []), (4, .ifCond .ne 6, 7, [((0 : Int), 10)]), (7, .bipush (-5), 9, []), (9, .ireturn, 10, []), (10, .aload_n 0, 11, []), (11, .dup, 12, []), (12, .getfield 27, 15, []), (15, .iconst 1, 16, []), (16, .isub, 17, []), (17, .putfield 27, 20, []), (20, .aload_n 0, 21, []), (21, .getfield 10, 24, []), (24, .aload_n 0, 25, []), (25, .getfield 23, 28, []), (28, .aload_n 0, 29, []), (29, .getfield 27, 32, []), (32, .aaload, 33, []), (33, .invokevirtual 118, 36, []), (36, .aload_n 0, 37, []), (37, .getfield 27, 40, []), (40, .ireturn, 41, [])]
def E_X2_undo_v0 : ab_E := (T_X2, [(33, (2, 1, [1, 2, 3, 4, 5, 12, 13, 14, 15, 16], 10, sp_X1_copyFrom))], [], 0)
def M_X2_undo : List (Nat × ab_MI) := [(33, mi_X1_copyFrom)]
def mi_X2_undo : ab_MI := (yX2_undo, cX2_undo, 1, ab_rty 0, 2, 91)
theorem pk_X2_undo : P_X2_undo.all (ab_okI cX2_undo) = true := by decide +kernel
theorem ck_X2_undo_v0 : P_X2_undo.all (ab_okC1 "RootChunks" M_X2_undo E_X2_undo_v0 (2, 91)) = true := by decide +kernel
set_option maxRecDepth 100000 in
theorem b_X2_undo_v0_0 {Q : ab_Q} {u : Int} {r : rw_T} {q : rw_T} {o : List (Option Nat)} {h0 : rw_T} {h1 : rw_T} {h2 : rw_T} {h3 : rw_T} {h4 : rw_T} {h5 : rw_T} {s0 : rw_T} {s1 : rw_T} {z : Int → Int} {p : pd_T} {f : Int → Int} (l1 : ¬ u = (0 : Int) → ab_R E_X2_undo_v0 P_X2_undo Q 33 [some (.inr (.inl (some 0)))] [.inr (.inl (o.getD (u - 1).toNat none)), .inr (.inl (some 1))] (xz_cs ((u - 1)) r q o h0 h1 h2 h3 h4 h5 s0 s1 z p f)) (l2 : u = (0 : Int) → Q (some (.inl (-5))) (xz_cs u r q o h0 h1 h2 h3 h4 h5 s0 s1 z p f)) (p1 : ab_r u := by intros; (try unfold ab_r); omega) (p2 : ¬ u = (0 : Int) → ((o).length < 1000000) := by intros; (try unfold ab_r); omega) (p3 : ¬ u = (0 : Int) → (0 ≤ (u - 1) ∧ (u - 1) < (((o).length : Nat) : Int)) := by intros; (try unfold ab_r); omega) : ab_R E_X2_undo_v0 P_X2_undo Q 0 [some (.inr (.inl (some 0)))] [] (xz_cs u r q o h0 h1 h2 h3 h4 h5 s0 s1 z p f) :=
  ab_R.steps [33, 36] 17 (show (ab_r u ∧ ((¬ u = (0 : Int) → (ab_rarr 11 (xz_cs ((u - 1)) r q o h0 h1 h2 h3 h4 h5 s0 s1 z p f) (fun l_ => (0 ≤ (u - 1) ∧ (u - 1) < (((l_).length : Nat) : Int)) ∧ ab_R E_X2_undo_v0 P_X2_undo Q 33 [some (.inr (.inl (some 0)))] [.inr (.inl (l_.getD (u - 1).toNat none)), .inr (.inl (some 1))] (xz_cs ((u - 1)) r q o h0 h1 h2 h3 h4 h5 s0 s1 z p f)))) ∧ (u = (0 : Int) → Q (some (.inl (-5))) (xz_cs u r q o h0 h1 h2 h3 h4 h5 s0 s1 z p f)))) from ⟨p1, ⟨fun h1 => (ab_rarrI rfl (p2 h1) ⟨(p3 h1), (l1 h1)⟩), fun h2 => (l2 h2)⟩⟩)
set_option maxRecDepth 100000 in
theorem b_X2_undo_v0_33 {Q : ab_Q} {u : Int} {r : rw_T} {q : rw_T} {o : List (Option Nat)} {h0 : rw_T} {h1 : rw_T} {h2 : rw_T} {h3 : rw_T} {h4 : rw_T} {h5 : rw_T} {s0 : rw_T} {s1 : rw_T} {z : Int → Int} {p : pd_T} {f : Int → Int} (l1 : sp_X1_copyFrom [.inr (.inl (some 0)), .inr (.inl (some 5))] (rw2_cs r h0) (fun r_ k_ => ∃ (r' : rw_T), ∃ (q' : rw_T), r_ = none ∧ k_ = (rw2_cs r' q') ∧ ab_R E_X2_undo_v0 P_X2_undo Q 36 [some (.inr (.inl (some 0)))] [] (xz_cs u r' q o q' h1 h2 h3 h4 h5 s0 s1 z p f)))  : ab_R E_X2_undo_v0 P_X2_undo Q 33 [some (.inr (.inl (some 0)))] [.inr (.inl (some 12)), .inr (.inl (some 1))] (xz_cs u r q o h0 h1 h2 h3 h4 h5 s0 s1 z p f) :=
  ab_R.steps [33, 36] 2 (show ab_cl sp_X1_copyFrom [.inr (.inl (some 0)), .inr (.inl (some 5))] (rw2_cs r h0) (fun r_ k_ => k_.length = 10 → ab_R E_X2_undo_v0 P_X2_undo Q 36 [some (.inr (.inl (some 0)))] (ab_ret (r_.map (ab_reV [1, 2, 3, 4, 5, 12, 13, 14, 15, 16])) []) (ab_back [1, 2, 3, 4, 5, 12, 13, 14, 15, 16] [1, 2, 3, 4, 5, 12, 13, 14, 15, 16] k_ (xz_cs u r q o h0 h1 h2 h3 h4 h5 s0 s1 z p f))) from ⟨_, l1, fun r_ k_ hz _ => by obtain ⟨r', q', rfl, rfl, hR⟩ := hz; exact hR⟩)
set_option maxRecDepth 100000 in
theorem b_X2_undo_v0_36 {Q : ab_Q} {u : Int} {r : rw_T} {q : rw_T} {o : List (Option Nat)} {h0 : rw_T} {h1 : rw_T} {h2 : rw_T} {h3 : rw_T} {h4 : rw_T} {h5 : rw_T} {s0 : rw_T} {s1 : rw_T} {z : Int → Int} {p : pd_T} {f : Int → Int} (l1 : Q (some (.inl u)) (xz_cs u r q o h0 h1 h2 h3 h4 h5 s0 s1 z p f))  : ab_R E_X2_undo_v0 P_X2_undo Q 36 [some (.inr (.inl (some 0)))] [] (xz_cs u r q o h0 h1 h2 h3 h4 h5 s0 s1 z p f) :=
  ab_R.steps [33, 36] 4 (show Q (some (.inl u)) (xz_cs u r q o h0 h1 h2 h3 h4 h5 s0 s1 z p f) from l1)
theorem vc_X2_undo_v0 {av : List ab_V} {cs : List ab_C} {Q : ab_Q} (h : sp_X2_undo_v0 av cs Q) : (ab_lv0 av).length ≤ 1 ∧ ab_R E_X2_undo_v0 P_X2_undo Q 0 (ab_ent av 1) [] cs := by
  obtain ⟨⟨u, r, q, o, hy, s0, s1, z, p, f⟩, S, d, rfl, rfl, hI, hH, hk, hQ⟩ := h
  refine ⟨Nat.le_of_ble_eq_true rfl, ?_⟩
  show ab_R E_X2_undo_v0 P_X2_undo Q 0 [some (.inr (.inl (some 0)))] [] (xz_cs u r q o (hy 0) (hy 1) (hy 2) (hy 3) (hy 4) (hy 5) s0 s1 z p f)
  obtain ⟨hu, hl6, hd, ho, hh⟩ := (show mx_Hd d u o hy S.2.1 from hH)
  subst ho
  unfold mf_undo at hQ
  have hol := mx_o_len d
  cases hg : S.2.1.getLast? with
  | none =>
    rw [hg] at hQ
    have hn : S.2.1 = [] := List.getLast?_eq_none_iff.mp hg
    rw [hn, List.length_nil] at hu
    exact b_X2_undo_v0_0 (fun h => by omega) (fun _ => hQ (u, r, q, mx_o d, hy, s0, s1, z, p, f) hI)
  | some x =>
    rw [hg] at hQ
    have hne : S.2.1 ≠ [] := fun e => by rw [e] at hg; cases hg
    have hpos := List.length_pos_iff.mpr hne
    have hlast : S.2.1[S.2.1.length - 1]? = some x := by rw [← List.getLast?_eq_getElem?]; exact hg
    have hx := hh _ _ hlast
    rw [show (S.2.1.length - 1 + d) % 6 = 0 by omega] at hx
    refine b_X2_undo_v0_0 (fun _ => ?_) (fun h => by omega)
    rw [mx_o_get d hd (u - 1).toNat (by omega), show ((u - 1).toNat + d) % 6 = 0 by omega]
    refine b_X2_undo_v0_33 ⟨r, hy 0, x.1, rfl, rfl, hx.1, hx.2.1, fun r' q1 q2 => ⟨_, _, rfl, rfl, b_X2_undo_v0_36 ?_⟩⟩
    have hq := hQ (u - 1, r', q, mx_o d, hy, s0, s1, z, p, f) ⟨⟨q1, hx.2.1, q2.trans hx.2.2⟩, ⟨d, ?_, ?_, hd, rfl, fun i y hy => ?_⟩, hI.2.2⟩
    · dsimp only at hq
      rw [show ((S.2.1.length - 1 : Nat) : Int) = u - 1 by omega] at hq
      exact hq
    · dsimp only; rw [List.length_dropLast]; omega
    · dsimp only; rw [List.length_dropLast]; omega
    · dsimp only at hy
      rw [List.getElem?_dropLast] at hy
      split at hy
      · exact hh i y hy
      · cases hy
theorem mt_X2_undo_v0 (l : Launch) : ab_MT l mi_X2_undo sp_X2_undo_v0 := ab_MT.of (own := "RootChunks") (E := E_X2_undo_v0) (P := P_X2_undo) (M := M_X2_undo) (nL := 1) (ty := 0) (by decide) rfl rfl tk_X2 pk_X2_undo ck_X2_undo_v0 (ab_CT'.cons (mt_X1_copyFrom l) ab_CT'.nil) (fun av cs Q h => vc_X2_undo_v0 h)
-- ===== RootChunks.undo 1
def E_X2_undo_v1 : ab_E := (T_X2, [(33, (2, 1, [1, 2, 3, 4, 5, 17, 18, 19, 20, 21], 10, sp_X1_copyFrom))], [], 0)
theorem ck_X2_undo_v1 : P_X2_undo.all (ab_okC1 "RootChunks" M_X2_undo E_X2_undo_v1 (2, 91)) = true := by decide +kernel
set_option maxRecDepth 100000 in
theorem b_X2_undo_v1_0 {Q : ab_Q} {u : Int} {r : rw_T} {q : rw_T} {o : List (Option Nat)} {h0 : rw_T} {h1 : rw_T} {h2 : rw_T} {h3 : rw_T} {h4 : rw_T} {h5 : rw_T} {s0 : rw_T} {s1 : rw_T} {z : Int → Int} {p : pd_T} {f : Int → Int} (l1 : ¬ u = (0 : Int) → ab_R E_X2_undo_v1 P_X2_undo Q 33 [some (.inr (.inl (some 0)))] [.inr (.inl (o.getD (u - 1).toNat none)), .inr (.inl (some 1))] (xz_cs ((u - 1)) r q o h0 h1 h2 h3 h4 h5 s0 s1 z p f)) (l2 : u = (0 : Int) → Q (some (.inl (-5))) (xz_cs u r q o h0 h1 h2 h3 h4 h5 s0 s1 z p f)) (p1 : ab_r u := by intros; (try unfold ab_r); omega) (p2 : ¬ u = (0 : Int) → ((o).length < 1000000) := by intros; (try unfold ab_r); omega) (p3 : ¬ u = (0 : Int) → (0 ≤ (u - 1) ∧ (u - 1) < (((o).length : Nat) : Int)) := by intros; (try unfold ab_r); omega) : ab_R E_X2_undo_v1 P_X2_undo Q 0 [some (.inr (.inl (some 0)))] [] (xz_cs u r q o h0 h1 h2 h3 h4 h5 s0 s1 z p f) :=
  ab_R.steps [33, 36] 17 (show (ab_r u ∧ ((¬ u = (0 : Int) → (ab_rarr 11 (xz_cs ((u - 1)) r q o h0 h1 h2 h3 h4 h5 s0 s1 z p f) (fun l_ => (0 ≤ (u - 1) ∧ (u - 1) < (((l_).length : Nat) : Int)) ∧ ab_R E_X2_undo_v1 P_X2_undo Q 33 [some (.inr (.inl (some 0)))] [.inr (.inl (l_.getD (u - 1).toNat none)), .inr (.inl (some 1))] (xz_cs ((u - 1)) r q o h0 h1 h2 h3 h4 h5 s0 s1 z p f)))) ∧ (u = (0 : Int) → Q (some (.inl (-5))) (xz_cs u r q o h0 h1 h2 h3 h4 h5 s0 s1 z p f)))) from ⟨p1, ⟨fun h1 => (ab_rarrI rfl (p2 h1) ⟨(p3 h1), (l1 h1)⟩), fun h2 => (l2 h2)⟩⟩)
set_option maxRecDepth 100000 in
theorem b_X2_undo_v1_33 {Q : ab_Q} {u : Int} {r : rw_T} {q : rw_T} {o : List (Option Nat)} {h0 : rw_T} {h1 : rw_T} {h2 : rw_T} {h3 : rw_T} {h4 : rw_T} {h5 : rw_T} {s0 : rw_T} {s1 : rw_T} {z : Int → Int} {p : pd_T} {f : Int → Int} (l1 : sp_X1_copyFrom [.inr (.inl (some 0)), .inr (.inl (some 5))] (rw2_cs r h1) (fun r_ k_ => ∃ (r' : rw_T), ∃ (q' : rw_T), r_ = none ∧ k_ = (rw2_cs r' q') ∧ ab_R E_X2_undo_v1 P_X2_undo Q 36 [some (.inr (.inl (some 0)))] [] (xz_cs u r' q o h0 q' h2 h3 h4 h5 s0 s1 z p f)))  : ab_R E_X2_undo_v1 P_X2_undo Q 33 [some (.inr (.inl (some 0)))] [.inr (.inl (some 17)), .inr (.inl (some 1))] (xz_cs u r q o h0 h1 h2 h3 h4 h5 s0 s1 z p f) :=
  ab_R.steps [33, 36] 2 (show ab_cl sp_X1_copyFrom [.inr (.inl (some 0)), .inr (.inl (some 5))] (rw2_cs r h1) (fun r_ k_ => k_.length = 10 → ab_R E_X2_undo_v1 P_X2_undo Q 36 [some (.inr (.inl (some 0)))] (ab_ret (r_.map (ab_reV [1, 2, 3, 4, 5, 17, 18, 19, 20, 21])) []) (ab_back [1, 2, 3, 4, 5, 17, 18, 19, 20, 21] [1, 2, 3, 4, 5, 17, 18, 19, 20, 21] k_ (xz_cs u r q o h0 h1 h2 h3 h4 h5 s0 s1 z p f))) from ⟨_, l1, fun r_ k_ hz _ => by obtain ⟨r', q', rfl, rfl, hR⟩ := hz; exact hR⟩)
set_option maxRecDepth 100000 in
theorem b_X2_undo_v1_36 {Q : ab_Q} {u : Int} {r : rw_T} {q : rw_T} {o : List (Option Nat)} {h0 : rw_T} {h1 : rw_T} {h2 : rw_T} {h3 : rw_T} {h4 : rw_T} {h5 : rw_T} {s0 : rw_T} {s1 : rw_T} {z : Int → Int} {p : pd_T} {f : Int → Int} (l1 : Q (some (.inl u)) (xz_cs u r q o h0 h1 h2 h3 h4 h5 s0 s1 z p f))  : ab_R E_X2_undo_v1 P_X2_undo Q 36 [some (.inr (.inl (some 0)))] [] (xz_cs u r q o h0 h1 h2 h3 h4 h5 s0 s1 z p f) :=
  ab_R.steps [33, 36] 4 (show Q (some (.inl u)) (xz_cs u r q o h0 h1 h2 h3 h4 h5 s0 s1 z p f) from l1)
theorem vc_X2_undo_v1 {av : List ab_V} {cs : List ab_C} {Q : ab_Q} (h : sp_X2_undo_v1 av cs Q) : (ab_lv0 av).length ≤ 1 ∧ ab_R E_X2_undo_v1 P_X2_undo Q 0 (ab_ent av 1) [] cs := by
  obtain ⟨⟨u, r, q, o, hy, s0, s1, z, p, f⟩, S, d, rfl, rfl, hI, hH, hk, hQ⟩ := h
  refine ⟨Nat.le_of_ble_eq_true rfl, ?_⟩
  show ab_R E_X2_undo_v1 P_X2_undo Q 0 [some (.inr (.inl (some 0)))] [] (xz_cs u r q o (hy 0) (hy 1) (hy 2) (hy 3) (hy 4) (hy 5) s0 s1 z p f)
  obtain ⟨hu, hl6, hd, ho, hh⟩ := (show mx_Hd d u o hy S.2.1 from hH)
  subst ho
  unfold mf_undo at hQ
  have hol := mx_o_len d
  cases hg : S.2.1.getLast? with
  | none =>
    rw [hg] at hQ
    have hn : S.2.1 = [] := List.getLast?_eq_none_iff.mp hg
    rw [hn, List.length_nil] at hu
    exact b_X2_undo_v1_0 (fun h => by omega) (fun _ => hQ (u, r, q, mx_o d, hy, s0, s1, z, p, f) hI)
  | some x =>
    rw [hg] at hQ
    have hne : S.2.1 ≠ [] := fun e => by rw [e] at hg; cases hg
    have hpos := List.length_pos_iff.mpr hne
    have hlast : S.2.1[S.2.1.length - 1]? = some x := by rw [← List.getLast?_eq_getElem?]; exact hg
    have hx := hh _ _ hlast
    rw [show (S.2.1.length - 1 + d) % 6 = 1 by omega] at hx
    refine b_X2_undo_v1_0 (fun _ => ?_) (fun h => by omega)
    rw [mx_o_get d hd (u - 1).toNat (by omega), show ((u - 1).toNat + d) % 6 = 1 by omega]
    refine b_X2_undo_v1_33 ⟨r, hy 1, x.1, rfl, rfl, hx.1, hx.2.1, fun r' q1 q2 => ⟨_, _, rfl, rfl, b_X2_undo_v1_36 ?_⟩⟩
    have hq := hQ (u - 1, r', q, mx_o d, hy, s0, s1, z, p, f) ⟨⟨q1, hx.2.1, q2.trans hx.2.2⟩, ⟨d, ?_, ?_, hd, rfl, fun i y hy => ?_⟩, hI.2.2⟩
    · dsimp only at hq
      rw [show ((S.2.1.length - 1 : Nat) : Int) = u - 1 by omega] at hq
      exact hq
    · dsimp only; rw [List.length_dropLast]; omega
    · dsimp only; rw [List.length_dropLast]; omega
    · dsimp only at hy
      rw [List.getElem?_dropLast] at hy
      split at hy
      · exact hh i y hy
      · cases hy
theorem mt_X2_undo_v1 (l : Launch) : ab_MT l mi_X2_undo sp_X2_undo_v1 := ab_MT.of (own := "RootChunks") (E := E_X2_undo_v1) (P := P_X2_undo) (M := M_X2_undo) (nL := 1) (ty := 0) (by decide) rfl rfl tk_X2 pk_X2_undo ck_X2_undo_v1 (ab_CT'.cons (mt_X1_copyFrom l) ab_CT'.nil) (fun av cs Q h => vc_X2_undo_v1 h)
-- ===== RootChunks.undo 2
def E_X2_undo_v2 : ab_E := (T_X2, [(33, (2, 1, [1, 2, 3, 4, 5, 22, 23, 24, 25, 26], 10, sp_X1_copyFrom))], [], 0)
theorem ck_X2_undo_v2 : P_X2_undo.all (ab_okC1 "RootChunks" M_X2_undo E_X2_undo_v2 (2, 91)) = true := by decide +kernel
set_option maxRecDepth 100000 in
theorem b_X2_undo_v2_0 {Q : ab_Q} {u : Int} {r : rw_T} {q : rw_T} {o : List (Option Nat)} {h0 : rw_T} {h1 : rw_T} {h2 : rw_T} {h3 : rw_T} {h4 : rw_T} {h5 : rw_T} {s0 : rw_T} {s1 : rw_T} {z : Int → Int} {p : pd_T} {f : Int → Int} (l1 : ¬ u = (0 : Int) → ab_R E_X2_undo_v2 P_X2_undo Q 33 [some (.inr (.inl (some 0)))] [.inr (.inl (o.getD (u - 1).toNat none)), .inr (.inl (some 1))] (xz_cs ((u - 1)) r q o h0 h1 h2 h3 h4 h5 s0 s1 z p f)) (l2 : u = (0 : Int) → Q (some (.inl (-5))) (xz_cs u r q o h0 h1 h2 h3 h4 h5 s0 s1 z p f)) (p1 : ab_r u := by intros; (try unfold ab_r); omega) (p2 : ¬ u = (0 : Int) → ((o).length < 1000000) := by intros; (try unfold ab_r); omega) (p3 : ¬ u = (0 : Int) → (0 ≤ (u - 1) ∧ (u - 1) < (((o).length : Nat) : Int)) := by intros; (try unfold ab_r); omega) : ab_R E_X2_undo_v2 P_X2_undo Q 0 [some (.inr (.inl (some 0)))] [] (xz_cs u r q o h0 h1 h2 h3 h4 h5 s0 s1 z p f) :=
  ab_R.steps [33, 36] 17 (show (ab_r u ∧ ((¬ u = (0 : Int) → (ab_rarr 11 (xz_cs ((u - 1)) r q o h0 h1 h2 h3 h4 h5 s0 s1 z p f) (fun l_ => (0 ≤ (u - 1) ∧ (u - 1) < (((l_).length : Nat) : Int)) ∧ ab_R E_X2_undo_v2 P_X2_undo Q 33 [some (.inr (.inl (some 0)))] [.inr (.inl (l_.getD (u - 1).toNat none)), .inr (.inl (some 1))] (xz_cs ((u - 1)) r q o h0 h1 h2 h3 h4 h5 s0 s1 z p f)))) ∧ (u = (0 : Int) → Q (some (.inl (-5))) (xz_cs u r q o h0 h1 h2 h3 h4 h5 s0 s1 z p f)))) from ⟨p1, ⟨fun h1 => (ab_rarrI rfl (p2 h1) ⟨(p3 h1), (l1 h1)⟩), fun h2 => (l2 h2)⟩⟩)
set_option maxRecDepth 100000 in
theorem b_X2_undo_v2_33 {Q : ab_Q} {u : Int} {r : rw_T} {q : rw_T} {o : List (Option Nat)} {h0 : rw_T} {h1 : rw_T} {h2 : rw_T} {h3 : rw_T} {h4 : rw_T} {h5 : rw_T} {s0 : rw_T} {s1 : rw_T} {z : Int → Int} {p : pd_T} {f : Int → Int} (l1 : sp_X1_copyFrom [.inr (.inl (some 0)), .inr (.inl (some 5))] (rw2_cs r h2) (fun r_ k_ => ∃ (r' : rw_T), ∃ (q' : rw_T), r_ = none ∧ k_ = (rw2_cs r' q') ∧ ab_R E_X2_undo_v2 P_X2_undo Q 36 [some (.inr (.inl (some 0)))] [] (xz_cs u r' q o h0 h1 q' h3 h4 h5 s0 s1 z p f)))  : ab_R E_X2_undo_v2 P_X2_undo Q 33 [some (.inr (.inl (some 0)))] [.inr (.inl (some 22)), .inr (.inl (some 1))] (xz_cs u r q o h0 h1 h2 h3 h4 h5 s0 s1 z p f) :=
  ab_R.steps [33, 36] 2 (show ab_cl sp_X1_copyFrom [.inr (.inl (some 0)), .inr (.inl (some 5))] (rw2_cs r h2) (fun r_ k_ => k_.length = 10 → ab_R E_X2_undo_v2 P_X2_undo Q 36 [some (.inr (.inl (some 0)))] (ab_ret (r_.map (ab_reV [1, 2, 3, 4, 5, 22, 23, 24, 25, 26])) []) (ab_back [1, 2, 3, 4, 5, 22, 23, 24, 25, 26] [1, 2, 3, 4, 5, 22, 23, 24, 25, 26] k_ (xz_cs u r q o h0 h1 h2 h3 h4 h5 s0 s1 z p f))) from ⟨_, l1, fun r_ k_ hz _ => by obtain ⟨r', q', rfl, rfl, hR⟩ := hz; exact hR⟩)
set_option maxRecDepth 100000 in
theorem b_X2_undo_v2_36 {Q : ab_Q} {u : Int} {r : rw_T} {q : rw_T} {o : List (Option Nat)} {h0 : rw_T} {h1 : rw_T} {h2 : rw_T} {h3 : rw_T} {h4 : rw_T} {h5 : rw_T} {s0 : rw_T} {s1 : rw_T} {z : Int → Int} {p : pd_T} {f : Int → Int} (l1 : Q (some (.inl u)) (xz_cs u r q o h0 h1 h2 h3 h4 h5 s0 s1 z p f))  : ab_R E_X2_undo_v2 P_X2_undo Q 36 [some (.inr (.inl (some 0)))] [] (xz_cs u r q o h0 h1 h2 h3 h4 h5 s0 s1 z p f) :=
  ab_R.steps [33, 36] 4 (show Q (some (.inl u)) (xz_cs u r q o h0 h1 h2 h3 h4 h5 s0 s1 z p f) from l1)
theorem vc_X2_undo_v2 {av : List ab_V} {cs : List ab_C} {Q : ab_Q} (h : sp_X2_undo_v2 av cs Q) : (ab_lv0 av).length ≤ 1 ∧ ab_R E_X2_undo_v2 P_X2_undo Q 0 (ab_ent av 1) [] cs := by
  obtain ⟨⟨u, r, q, o, hy, s0, s1, z, p, f⟩, S, d, rfl, rfl, hI, hH, hk, hQ⟩ := h
  refine ⟨Nat.le_of_ble_eq_true rfl, ?_⟩
  show ab_R E_X2_undo_v2 P_X2_undo Q 0 [some (.inr (.inl (some 0)))] [] (xz_cs u r q o (hy 0) (hy 1) (hy 2) (hy 3) (hy 4) (hy 5) s0 s1 z p f)
  obtain ⟨hu, hl6, hd, ho, hh⟩ := (show mx_Hd d u o hy S.2.1 from hH)
  subst ho
  unfold mf_undo at hQ
  have hol := mx_o_len d
  cases hg : S.2.1.getLast? with
  | none =>
    rw [hg] at hQ
    have hn : S.2.1 = [] := List.getLast?_eq_none_iff.mp hg
    rw [hn, List.length_nil] at hu
    exact b_X2_undo_v2_0 (fun h => by omega) (fun _ => hQ (u, r, q, mx_o d, hy, s0, s1, z, p, f) hI)
  | some x =>
    rw [hg] at hQ
    have hne : S.2.1 ≠ [] := fun e => by rw [e] at hg; cases hg
    have hpos := List.length_pos_iff.mpr hne
    have hlast : S.2.1[S.2.1.length - 1]? = some x := by rw [← List.getLast?_eq_getElem?]; exact hg
    have hx := hh _ _ hlast
    rw [show (S.2.1.length - 1 + d) % 6 = 2 by omega] at hx
    refine b_X2_undo_v2_0 (fun _ => ?_) (fun h => by omega)
    rw [mx_o_get d hd (u - 1).toNat (by omega), show ((u - 1).toNat + d) % 6 = 2 by omega]
    refine b_X2_undo_v2_33 ⟨r, hy 2, x.1, rfl, rfl, hx.1, hx.2.1, fun r' q1 q2 => ⟨_, _, rfl, rfl, b_X2_undo_v2_36 ?_⟩⟩
    have hq := hQ (u - 1, r', q, mx_o d, hy, s0, s1, z, p, f) ⟨⟨q1, hx.2.1, q2.trans hx.2.2⟩, ⟨d, ?_, ?_, hd, rfl, fun i y hy => ?_⟩, hI.2.2⟩
    · dsimp only at hq
      rw [show ((S.2.1.length - 1 : Nat) : Int) = u - 1 by omega] at hq
      exact hq
    · dsimp only; rw [List.length_dropLast]; omega
    · dsimp only; rw [List.length_dropLast]; omega
    · dsimp only at hy
      rw [List.getElem?_dropLast] at hy
      split at hy
      · exact hh i y hy
      · cases hy
theorem mt_X2_undo_v2 (l : Launch) : ab_MT l mi_X2_undo sp_X2_undo_v2 := ab_MT.of (own := "RootChunks") (E := E_X2_undo_v2) (P := P_X2_undo) (M := M_X2_undo) (nL := 1) (ty := 0) (by decide) rfl rfl tk_X2 pk_X2_undo ck_X2_undo_v2 (ab_CT'.cons (mt_X1_copyFrom l) ab_CT'.nil) (fun av cs Q h => vc_X2_undo_v2 h)
-- ===== RootChunks.undo 3
def E_X2_undo_v3 : ab_E := (T_X2, [(33, (2, 1, [1, 2, 3, 4, 5, 27, 28, 29, 30, 31], 10, sp_X1_copyFrom))], [], 0)
theorem ck_X2_undo_v3 : P_X2_undo.all (ab_okC1 "RootChunks" M_X2_undo E_X2_undo_v3 (2, 91)) = true := by decide +kernel
set_option maxRecDepth 100000 in
theorem b_X2_undo_v3_0 {Q : ab_Q} {u : Int} {r : rw_T} {q : rw_T} {o : List (Option Nat)} {h0 : rw_T} {h1 : rw_T} {h2 : rw_T} {h3 : rw_T} {h4 : rw_T} {h5 : rw_T} {s0 : rw_T} {s1 : rw_T} {z : Int → Int} {p : pd_T} {f : Int → Int} (l1 : ¬ u = (0 : Int) → ab_R E_X2_undo_v3 P_X2_undo Q 33 [some (.inr (.inl (some 0)))] [.inr (.inl (o.getD (u - 1).toNat none)), .inr (.inl (some 1))] (xz_cs ((u - 1)) r q o h0 h1 h2 h3 h4 h5 s0 s1 z p f)) (l2 : u = (0 : Int) → Q (some (.inl (-5))) (xz_cs u r q o h0 h1 h2 h3 h4 h5 s0 s1 z p f)) (p1 : ab_r u := by intros; (try unfold ab_r); omega) (p2 : ¬ u = (0 : Int) → ((o).length < 1000000) := by intros; (try unfold ab_r); omega) (p3 : ¬ u = (0 : Int) → (0 ≤ (u - 1) ∧ (u - 1) < (((o).length : Nat) : Int)) := by intros; (try unfold ab_r); omega) : ab_R E_X2_undo_v3 P_X2_undo Q 0 [some (.inr (.inl (some 0)))] [] (xz_cs u r q o h0 h1 h2 h3 h4 h5 s0 s1 z p f) :=
  ab_R.steps [33, 36] 17 (show (ab_r u ∧ ((¬ u = (0 : Int) → (ab_rarr 11 (xz_cs ((u - 1)) r q o h0 h1 h2 h3 h4 h5 s0 s1 z p f) (fun l_ => (0 ≤ (u - 1) ∧ (u - 1) < (((l_).length : Nat) : Int)) ∧ ab_R E_X2_undo_v3 P_X2_undo Q 33 [some (.inr (.inl (some 0)))] [.inr (.inl (l_.getD (u - 1).toNat none)), .inr (.inl (some 1))] (xz_cs ((u - 1)) r q o h0 h1 h2 h3 h4 h5 s0 s1 z p f)))) ∧ (u = (0 : Int) → Q (some (.inl (-5))) (xz_cs u r q o h0 h1 h2 h3 h4 h5 s0 s1 z p f)))) from ⟨p1, ⟨fun h1 => (ab_rarrI rfl (p2 h1) ⟨(p3 h1), (l1 h1)⟩), fun h2 => (l2 h2)⟩⟩)
set_option maxRecDepth 100000 in
theorem b_X2_undo_v3_33 {Q : ab_Q} {u : Int} {r : rw_T} {q : rw_T} {o : List (Option Nat)} {h0 : rw_T} {h1 : rw_T} {h2 : rw_T} {h3 : rw_T} {h4 : rw_T} {h5 : rw_T} {s0 : rw_T} {s1 : rw_T} {z : Int → Int} {p : pd_T} {f : Int → Int} (l1 : sp_X1_copyFrom [.inr (.inl (some 0)), .inr (.inl (some 5))] (rw2_cs r h3) (fun r_ k_ => ∃ (r' : rw_T), ∃ (q' : rw_T), r_ = none ∧ k_ = (rw2_cs r' q') ∧ ab_R E_X2_undo_v3 P_X2_undo Q 36 [some (.inr (.inl (some 0)))] [] (xz_cs u r' q o h0 h1 h2 q' h4 h5 s0 s1 z p f)))  : ab_R E_X2_undo_v3 P_X2_undo Q 33 [some (.inr (.inl (some 0)))] [.inr (.inl (some 27)), .inr (.inl (some 1))] (xz_cs u r q o h0 h1 h2 h3 h4 h5 s0 s1 z p f) :=
  ab_R.steps [33, 36] 2 (show ab_cl sp_X1_copyFrom [.inr (.inl (some 0)), .inr (.inl (some 5))] (rw2_cs r h3) (fun r_ k_ => k_.length = 10 → ab_R E_X2_undo_v3 P_X2_undo Q 36 [some (.inr (.inl (some 0)))] (ab_ret (r_.map (ab_reV [1, 2, 3, 4, 5, 27, 28, 29, 30, 31])) []) (ab_back [1, 2, 3, 4, 5, 27, 28, 29, 30, 31] [1, 2, 3, 4, 5, 27, 28, 29, 30, 31] k_ (xz_cs u r q o h0 h1 h2 h3 h4 h5 s0 s1 z p f))) from ⟨_, l1, fun r_ k_ hz _ => by obtain ⟨r', q', rfl, rfl, hR⟩ := hz; exact hR⟩)
set_option maxRecDepth 100000 in
theorem b_X2_undo_v3_36 {Q : ab_Q} {u : Int} {r : rw_T} {q : rw_T} {o : List (Option Nat)} {h0 : rw_T} {h1 : rw_T} {h2 : rw_T} {h3 : rw_T} {h4 : rw_T} {h5 : rw_T} {s0 : rw_T} {s1 : rw_T} {z : Int → Int} {p : pd_T} {f : Int → Int} (l1 : Q (some (.inl u)) (xz_cs u r q o h0 h1 h2 h3 h4 h5 s0 s1 z p f))  : ab_R E_X2_undo_v3 P_X2_undo Q 36 [some (.inr (.inl (some 0)))] [] (xz_cs u r q o h0 h1 h2 h3 h4 h5 s0 s1 z p f) :=
  ab_R.steps [33, 36] 4 (show Q (some (.inl u)) (xz_cs u r q o h0 h1 h2 h3 h4 h5 s0 s1 z p f) from l1)
theorem vc_X2_undo_v3 {av : List ab_V} {cs : List ab_C} {Q : ab_Q} (h : sp_X2_undo_v3 av cs Q) : (ab_lv0 av).length ≤ 1 ∧ ab_R E_X2_undo_v3 P_X2_undo Q 0 (ab_ent av 1) [] cs := by
  obtain ⟨⟨u, r, q, o, hy, s0, s1, z, p, f⟩, S, d, rfl, rfl, hI, hH, hk, hQ⟩ := h
  refine ⟨Nat.le_of_ble_eq_true rfl, ?_⟩
  show ab_R E_X2_undo_v3 P_X2_undo Q 0 [some (.inr (.inl (some 0)))] [] (xz_cs u r q o (hy 0) (hy 1) (hy 2) (hy 3) (hy 4) (hy 5) s0 s1 z p f)
  obtain ⟨hu, hl6, hd, ho, hh⟩ := (show mx_Hd d u o hy S.2.1 from hH)
  subst ho
  unfold mf_undo at hQ
  have hol := mx_o_len d
  cases hg : S.2.1.getLast? with
  | none =>
    rw [hg] at hQ
    have hn : S.2.1 = [] := List.getLast?_eq_none_iff.mp hg
    rw [hn, List.length_nil] at hu
    exact b_X2_undo_v3_0 (fun h => by omega) (fun _ => hQ (u, r, q, mx_o d, hy, s0, s1, z, p, f) hI)
  | some x =>
    rw [hg] at hQ
    have hne : S.2.1 ≠ [] := fun e => by rw [e] at hg; cases hg
    have hpos := List.length_pos_iff.mpr hne
    have hlast : S.2.1[S.2.1.length - 1]? = some x := by rw [← List.getLast?_eq_getElem?]; exact hg
    have hx := hh _ _ hlast
    rw [show (S.2.1.length - 1 + d) % 6 = 3 by omega] at hx
    refine b_X2_undo_v3_0 (fun _ => ?_) (fun h => by omega)
    rw [mx_o_get d hd (u - 1).toNat (by omega), show ((u - 1).toNat + d) % 6 = 3 by omega]
    refine b_X2_undo_v3_33 ⟨r, hy 3, x.1, rfl, rfl, hx.1, hx.2.1, fun r' q1 q2 => ⟨_, _, rfl, rfl, b_X2_undo_v3_36 ?_⟩⟩
    have hq := hQ (u - 1, r', q, mx_o d, hy, s0, s1, z, p, f) ⟨⟨q1, hx.2.1, q2.trans hx.2.2⟩, ⟨d, ?_, ?_, hd, rfl, fun i y hy => ?_⟩, hI.2.2⟩
    · dsimp only at hq
      rw [show ((S.2.1.length - 1 : Nat) : Int) = u - 1 by omega] at hq
      exact hq
    · dsimp only; rw [List.length_dropLast]; omega
    · dsimp only; rw [List.length_dropLast]; omega
    · dsimp only at hy
      rw [List.getElem?_dropLast] at hy
      split at hy
      · exact hh i y hy
      · cases hy
theorem mt_X2_undo_v3 (l : Launch) : ab_MT l mi_X2_undo sp_X2_undo_v3 := ab_MT.of (own := "RootChunks") (E := E_X2_undo_v3) (P := P_X2_undo) (M := M_X2_undo) (nL := 1) (ty := 0) (by decide) rfl rfl tk_X2 pk_X2_undo ck_X2_undo_v3 (ab_CT'.cons (mt_X1_copyFrom l) ab_CT'.nil) (fun av cs Q h => vc_X2_undo_v3 h)
-- ===== RootChunks.undo 4
def E_X2_undo_v4 : ab_E := (T_X2, [(33, (2, 1, [1, 2, 3, 4, 5, 32, 33, 34, 35, 36], 10, sp_X1_copyFrom))], [], 0)
theorem ck_X2_undo_v4 : P_X2_undo.all (ab_okC1 "RootChunks" M_X2_undo E_X2_undo_v4 (2, 91)) = true := by decide +kernel
set_option maxRecDepth 100000 in
theorem b_X2_undo_v4_0 {Q : ab_Q} {u : Int} {r : rw_T} {q : rw_T} {o : List (Option Nat)} {h0 : rw_T} {h1 : rw_T} {h2 : rw_T} {h3 : rw_T} {h4 : rw_T} {h5 : rw_T} {s0 : rw_T} {s1 : rw_T} {z : Int → Int} {p : pd_T} {f : Int → Int} (l1 : ¬ u = (0 : Int) → ab_R E_X2_undo_v4 P_X2_undo Q 33 [some (.inr (.inl (some 0)))] [.inr (.inl (o.getD (u - 1).toNat none)), .inr (.inl (some 1))] (xz_cs ((u - 1)) r q o h0 h1 h2 h3 h4 h5 s0 s1 z p f)) (l2 : u = (0 : Int) → Q (some (.inl (-5))) (xz_cs u r q o h0 h1 h2 h3 h4 h5 s0 s1 z p f)) (p1 : ab_r u := by intros; (try unfold ab_r); omega) (p2 : ¬ u = (0 : Int) → ((o).length < 1000000) := by intros; (try unfold ab_r); omega) (p3 : ¬ u = (0 : Int) → (0 ≤ (u - 1) ∧ (u - 1) < (((o).length : Nat) : Int)) := by intros; (try unfold ab_r); omega) : ab_R E_X2_undo_v4 P_X2_undo Q 0 [some (.inr (.inl (some 0)))] [] (xz_cs u r q o h0 h1 h2 h3 h4 h5 s0 s1 z p f) :=
  ab_R.steps [33, 36] 17 (show (ab_r u ∧ ((¬ u = (0 : Int) → (ab_rarr 11 (xz_cs ((u - 1)) r q o h0 h1 h2 h3 h4 h5 s0 s1 z p f) (fun l_ => (0 ≤ (u - 1) ∧ (u - 1) < (((l_).length : Nat) : Int)) ∧ ab_R E_X2_undo_v4 P_X2_undo Q 33 [some (.inr (.inl (some 0)))] [.inr (.inl (l_.getD (u - 1).toNat none)), .inr (.inl (some 1))] (xz_cs ((u - 1)) r q o h0 h1 h2 h3 h4 h5 s0 s1 z p f)))) ∧ (u = (0 : Int) → Q (some (.inl (-5))) (xz_cs u r q o h0 h1 h2 h3 h4 h5 s0 s1 z p f)))) from ⟨p1, ⟨fun h1 => (ab_rarrI rfl (p2 h1) ⟨(p3 h1), (l1 h1)⟩), fun h2 => (l2 h2)⟩⟩)
set_option maxRecDepth 100000 in
theorem b_X2_undo_v4_33 {Q : ab_Q} {u : Int} {r : rw_T} {q : rw_T} {o : List (Option Nat)} {h0 : rw_T} {h1 : rw_T} {h2 : rw_T} {h3 : rw_T} {h4 : rw_T} {h5 : rw_T} {s0 : rw_T} {s1 : rw_T} {z : Int → Int} {p : pd_T} {f : Int → Int} (l1 : sp_X1_copyFrom [.inr (.inl (some 0)), .inr (.inl (some 5))] (rw2_cs r h4) (fun r_ k_ => ∃ (r' : rw_T), ∃ (q' : rw_T), r_ = none ∧ k_ = (rw2_cs r' q') ∧ ab_R E_X2_undo_v4 P_X2_undo Q 36 [some (.inr (.inl (some 0)))] [] (xz_cs u r' q o h0 h1 h2 h3 q' h5 s0 s1 z p f)))  : ab_R E_X2_undo_v4 P_X2_undo Q 33 [some (.inr (.inl (some 0)))] [.inr (.inl (some 32)), .inr (.inl (some 1))] (xz_cs u r q o h0 h1 h2 h3 h4 h5 s0 s1 z p f) :=
  ab_R.steps [33, 36] 2 (show ab_cl sp_X1_copyFrom [.inr (.inl (some 0)), .inr (.inl (some 5))] (rw2_cs r h4) (fun r_ k_ => k_.length = 10 → ab_R E_X2_undo_v4 P_X2_undo Q 36 [some (.inr (.inl (some 0)))] (ab_ret (r_.map (ab_reV [1, 2, 3, 4, 5, 32, 33, 34, 35, 36])) []) (ab_back [1, 2, 3, 4, 5, 32, 33, 34, 35, 36] [1, 2, 3, 4, 5, 32, 33, 34, 35, 36] k_ (xz_cs u r q o h0 h1 h2 h3 h4 h5 s0 s1 z p f))) from ⟨_, l1, fun r_ k_ hz _ => by obtain ⟨r', q', rfl, rfl, hR⟩ := hz; exact hR⟩)
set_option maxRecDepth 100000 in
theorem b_X2_undo_v4_36 {Q : ab_Q} {u : Int} {r : rw_T} {q : rw_T} {o : List (Option Nat)} {h0 : rw_T} {h1 : rw_T} {h2 : rw_T} {h3 : rw_T} {h4 : rw_T} {h5 : rw_T} {s0 : rw_T} {s1 : rw_T} {z : Int → Int} {p : pd_T} {f : Int → Int} (l1 : Q (some (.inl u)) (xz_cs u r q o h0 h1 h2 h3 h4 h5 s0 s1 z p f))  : ab_R E_X2_undo_v4 P_X2_undo Q 36 [some (.inr (.inl (some 0)))] [] (xz_cs u r q o h0 h1 h2 h3 h4 h5 s0 s1 z p f) :=
  ab_R.steps [33, 36] 4 (show Q (some (.inl u)) (xz_cs u r q o h0 h1 h2 h3 h4 h5 s0 s1 z p f) from l1)
theorem vc_X2_undo_v4 {av : List ab_V} {cs : List ab_C} {Q : ab_Q} (h : sp_X2_undo_v4 av cs Q) : (ab_lv0 av).length ≤ 1 ∧ ab_R E_X2_undo_v4 P_X2_undo Q 0 (ab_ent av 1) [] cs := by
  obtain ⟨⟨u, r, q, o, hy, s0, s1, z, p, f⟩, S, d, rfl, rfl, hI, hH, hk, hQ⟩ := h
  refine ⟨Nat.le_of_ble_eq_true rfl, ?_⟩
  show ab_R E_X2_undo_v4 P_X2_undo Q 0 [some (.inr (.inl (some 0)))] [] (xz_cs u r q o (hy 0) (hy 1) (hy 2) (hy 3) (hy 4) (hy 5) s0 s1 z p f)
  obtain ⟨hu, hl6, hd, ho, hh⟩ := (show mx_Hd d u o hy S.2.1 from hH)
  subst ho
  unfold mf_undo at hQ
  have hol := mx_o_len d
  cases hg : S.2.1.getLast? with
  | none =>
    rw [hg] at hQ
    have hn : S.2.1 = [] := List.getLast?_eq_none_iff.mp hg
    rw [hn, List.length_nil] at hu
    exact b_X2_undo_v4_0 (fun h => by omega) (fun _ => hQ (u, r, q, mx_o d, hy, s0, s1, z, p, f) hI)
  | some x =>
    rw [hg] at hQ
    have hne : S.2.1 ≠ [] := fun e => by rw [e] at hg; cases hg
    have hpos := List.length_pos_iff.mpr hne
    have hlast : S.2.1[S.2.1.length - 1]? = some x := by rw [← List.getLast?_eq_getElem?]; exact hg
    have hx := hh _ _ hlast
    rw [show (S.2.1.length - 1 + d) % 6 = 4 by omega] at hx
    refine b_X2_undo_v4_0 (fun _ => ?_) (fun h => by omega)
    rw [mx_o_get d hd (u - 1).toNat (by omega), show ((u - 1).toNat + d) % 6 = 4 by omega]
    refine b_X2_undo_v4_33 ⟨r, hy 4, x.1, rfl, rfl, hx.1, hx.2.1, fun r' q1 q2 => ⟨_, _, rfl, rfl, b_X2_undo_v4_36 ?_⟩⟩
    have hq := hQ (u - 1, r', q, mx_o d, hy, s0, s1, z, p, f) ⟨⟨q1, hx.2.1, q2.trans hx.2.2⟩, ⟨d, ?_, ?_, hd, rfl, fun i y hy => ?_⟩, hI.2.2⟩
    · dsimp only at hq
      rw [show ((S.2.1.length - 1 : Nat) : Int) = u - 1 by omega] at hq
      exact hq
    · dsimp only; rw [List.length_dropLast]; omega
    · dsimp only; rw [List.length_dropLast]; omega
    · dsimp only at hy
      rw [List.getElem?_dropLast] at hy
      split at hy
      · exact hh i y hy
      · cases hy
theorem mt_X2_undo_v4 (l : Launch) : ab_MT l mi_X2_undo sp_X2_undo_v4 := ab_MT.of (own := "RootChunks") (E := E_X2_undo_v4) (P := P_X2_undo) (M := M_X2_undo) (nL := 1) (ty := 0) (by decide) rfl rfl tk_X2 pk_X2_undo ck_X2_undo_v4 (ab_CT'.cons (mt_X1_copyFrom l) ab_CT'.nil) (fun av cs Q h => vc_X2_undo_v4 h)
-- ===== RootChunks.undo 5
def E_X2_undo_v5 : ab_E := (T_X2, [(33, (2, 1, [1, 2, 3, 4, 5, 37, 38, 39, 40, 41], 10, sp_X1_copyFrom))], [], 0)
theorem ck_X2_undo_v5 : P_X2_undo.all (ab_okC1 "RootChunks" M_X2_undo E_X2_undo_v5 (2, 91)) = true := by decide +kernel
set_option maxRecDepth 100000 in
theorem b_X2_undo_v5_0 {Q : ab_Q} {u : Int} {r : rw_T} {q : rw_T} {o : List (Option Nat)} {h0 : rw_T} {h1 : rw_T} {h2 : rw_T} {h3 : rw_T} {h4 : rw_T} {h5 : rw_T} {s0 : rw_T} {s1 : rw_T} {z : Int → Int} {p : pd_T} {f : Int → Int} (l1 : ¬ u = (0 : Int) → ab_R E_X2_undo_v5 P_X2_undo Q 33 [some (.inr (.inl (some 0)))] [.inr (.inl (o.getD (u - 1).toNat none)), .inr (.inl (some 1))] (xz_cs ((u - 1)) r q o h0 h1 h2 h3 h4 h5 s0 s1 z p f)) (l2 : u = (0 : Int) → Q (some (.inl (-5))) (xz_cs u r q o h0 h1 h2 h3 h4 h5 s0 s1 z p f)) (p1 : ab_r u := by intros; (try unfold ab_r); omega) (p2 : ¬ u = (0 : Int) → ((o).length < 1000000) := by intros; (try unfold ab_r); omega) (p3 : ¬ u = (0 : Int) → (0 ≤ (u - 1) ∧ (u - 1) < (((o).length : Nat) : Int)) := by intros; (try unfold ab_r); omega) : ab_R E_X2_undo_v5 P_X2_undo Q 0 [some (.inr (.inl (some 0)))] [] (xz_cs u r q o h0 h1 h2 h3 h4 h5 s0 s1 z p f) :=
  ab_R.steps [33, 36] 17 (show (ab_r u ∧ ((¬ u = (0 : Int) → (ab_rarr 11 (xz_cs ((u - 1)) r q o h0 h1 h2 h3 h4 h5 s0 s1 z p f) (fun l_ => (0 ≤ (u - 1) ∧ (u - 1) < (((l_).length : Nat) : Int)) ∧ ab_R E_X2_undo_v5 P_X2_undo Q 33 [some (.inr (.inl (some 0)))] [.inr (.inl (l_.getD (u - 1).toNat none)), .inr (.inl (some 1))] (xz_cs ((u - 1)) r q o h0 h1 h2 h3 h4 h5 s0 s1 z p f)))) ∧ (u = (0 : Int) → Q (some (.inl (-5))) (xz_cs u r q o h0 h1 h2 h3 h4 h5 s0 s1 z p f)))) from ⟨p1, ⟨fun h1 => (ab_rarrI rfl (p2 h1) ⟨(p3 h1), (l1 h1)⟩), fun h2 => (l2 h2)⟩⟩)
set_option maxRecDepth 100000 in
theorem b_X2_undo_v5_33 {Q : ab_Q} {u : Int} {r : rw_T} {q : rw_T} {o : List (Option Nat)} {h0 : rw_T} {h1 : rw_T} {h2 : rw_T} {h3 : rw_T} {h4 : rw_T} {h5 : rw_T} {s0 : rw_T} {s1 : rw_T} {z : Int → Int} {p : pd_T} {f : Int → Int} (l1 : sp_X1_copyFrom [.inr (.inl (some 0)), .inr (.inl (some 5))] (rw2_cs r h5) (fun r_ k_ => ∃ (r' : rw_T), ∃ (q' : rw_T), r_ = none ∧ k_ = (rw2_cs r' q') ∧ ab_R E_X2_undo_v5 P_X2_undo Q 36 [some (.inr (.inl (some 0)))] [] (xz_cs u r' q o h0 h1 h2 h3 h4 q' s0 s1 z p f)))  : ab_R E_X2_undo_v5 P_X2_undo Q 33 [some (.inr (.inl (some 0)))] [.inr (.inl (some 37)), .inr (.inl (some 1))] (xz_cs u r q o h0 h1 h2 h3 h4 h5 s0 s1 z p f) :=
  ab_R.steps [33, 36] 2 (show ab_cl sp_X1_copyFrom [.inr (.inl (some 0)), .inr (.inl (some 5))] (rw2_cs r h5) (fun r_ k_ => k_.length = 10 → ab_R E_X2_undo_v5 P_X2_undo Q 36 [some (.inr (.inl (some 0)))] (ab_ret (r_.map (ab_reV [1, 2, 3, 4, 5, 37, 38, 39, 40, 41])) []) (ab_back [1, 2, 3, 4, 5, 37, 38, 39, 40, 41] [1, 2, 3, 4, 5, 37, 38, 39, 40, 41] k_ (xz_cs u r q o h0 h1 h2 h3 h4 h5 s0 s1 z p f))) from ⟨_, l1, fun r_ k_ hz _ => by obtain ⟨r', q', rfl, rfl, hR⟩ := hz; exact hR⟩)
set_option maxRecDepth 100000 in
theorem b_X2_undo_v5_36 {Q : ab_Q} {u : Int} {r : rw_T} {q : rw_T} {o : List (Option Nat)} {h0 : rw_T} {h1 : rw_T} {h2 : rw_T} {h3 : rw_T} {h4 : rw_T} {h5 : rw_T} {s0 : rw_T} {s1 : rw_T} {z : Int → Int} {p : pd_T} {f : Int → Int} (l1 : Q (some (.inl u)) (xz_cs u r q o h0 h1 h2 h3 h4 h5 s0 s1 z p f))  : ab_R E_X2_undo_v5 P_X2_undo Q 36 [some (.inr (.inl (some 0)))] [] (xz_cs u r q o h0 h1 h2 h3 h4 h5 s0 s1 z p f) :=
  ab_R.steps [33, 36] 4 (show Q (some (.inl u)) (xz_cs u r q o h0 h1 h2 h3 h4 h5 s0 s1 z p f) from l1)
theorem vc_X2_undo_v5 {av : List ab_V} {cs : List ab_C} {Q : ab_Q} (h : sp_X2_undo_v5 av cs Q) : (ab_lv0 av).length ≤ 1 ∧ ab_R E_X2_undo_v5 P_X2_undo Q 0 (ab_ent av 1) [] cs := by
  obtain ⟨⟨u, r, q, o, hy, s0, s1, z, p, f⟩, S, d, rfl, rfl, hI, hH, hk, hQ⟩ := h
  refine ⟨Nat.le_of_ble_eq_true rfl, ?_⟩
  show ab_R E_X2_undo_v5 P_X2_undo Q 0 [some (.inr (.inl (some 0)))] [] (xz_cs u r q o (hy 0) (hy 1) (hy 2) (hy 3) (hy 4) (hy 5) s0 s1 z p f)
  obtain ⟨hu, hl6, hd, ho, hh⟩ := (show mx_Hd d u o hy S.2.1 from hH)
  subst ho
  unfold mf_undo at hQ
  have hol := mx_o_len d
  cases hg : S.2.1.getLast? with
  | none =>
    rw [hg] at hQ
    have hn : S.2.1 = [] := List.getLast?_eq_none_iff.mp hg
    rw [hn, List.length_nil] at hu
    exact b_X2_undo_v5_0 (fun h => by omega) (fun _ => hQ (u, r, q, mx_o d, hy, s0, s1, z, p, f) hI)
  | some x =>
    rw [hg] at hQ
    have hne : S.2.1 ≠ [] := fun e => by rw [e] at hg; cases hg
    have hpos := List.length_pos_iff.mpr hne
    have hlast : S.2.1[S.2.1.length - 1]? = some x := by rw [← List.getLast?_eq_getElem?]; exact hg
    have hx := hh _ _ hlast
    rw [show (S.2.1.length - 1 + d) % 6 = 5 by omega] at hx
    refine b_X2_undo_v5_0 (fun _ => ?_) (fun h => by omega)
    rw [mx_o_get d hd (u - 1).toNat (by omega), show ((u - 1).toNat + d) % 6 = 5 by omega]
    refine b_X2_undo_v5_33 ⟨r, hy 5, x.1, rfl, rfl, hx.1, hx.2.1, fun r' q1 q2 => ⟨_, _, rfl, rfl, b_X2_undo_v5_36 ?_⟩⟩
    have hq := hQ (u - 1, r', q, mx_o d, hy, s0, s1, z, p, f) ⟨⟨q1, hx.2.1, q2.trans hx.2.2⟩, ⟨d, ?_, ?_, hd, rfl, fun i y hy => ?_⟩, hI.2.2⟩
    · dsimp only at hq
      rw [show ((S.2.1.length - 1 : Nat) : Int) = u - 1 by omega] at hq
      exact hq
    · dsimp only; rw [List.length_dropLast]; omega
    · dsimp only; rw [List.length_dropLast]; omega
    · dsimp only at hy
      rw [List.getElem?_dropLast] at hy
      split at hy
      · exact hh i y hy
      · cases hy
theorem mt_X2_undo_v5 (l : Launch) : ab_MT l mi_X2_undo sp_X2_undo_v5 := ab_MT.of (own := "RootChunks") (E := E_X2_undo_v5) (P := P_X2_undo) (M := M_X2_undo) (nL := 1) (ty := 0) (by decide) rfl rfl tk_X2 pk_X2_undo ck_X2_undo_v5 (ab_CT'.cons (mt_X1_copyFrom l) ab_CT'.nil) (fun av cs Q h => vc_X2_undo_v5 h)
theorem mt_X2_undo (l : Launch) : ab_MT l mi_X2_undo sp_X2_undo := by
  intro G ad av cs Q sz h
  obtain ⟨X, S, h1, h2, h3, h5⟩ := h
  obtain ⟨d, h4⟩ := h3.2.1
  have h6 : (S.2.1.length + 5 + d) % 6 < 6 := Nat.mod_lt _ (by decide)
  have h7 : sp_X2_und ((S.2.1.length + 5 + d) % 6) av cs Q := ⟨X, S, d, h1, h2, h3, h4, rfl, h5⟩
  generalize (S.2.1.length + 5 + d) % 6 = k at h6 h7
  match k, h6, h7 with
  | 0, _, h7 => exact mt_X2_undo_v0 l G ad av cs Q sz h7
  | 1, _, h7 => exact mt_X2_undo_v1 l G ad av cs Q sz h7
  | 2, _, h7 => exact mt_X2_undo_v2 l G ad av cs Q sz h7
  | 3, _, h7 => exact mt_X2_undo_v3 l G ad av cs Q sz h7
  | 4, _, h7 => exact mt_X2_undo_v4 l G ad av cs Q sz h7
  | 5, _, h7 => exact mt_X2_undo_v5 l G ad av cs Q sz h7
  | k + 6, h6, _ => omega
-- ===== RootChunks.save 0
def P_X2_save : List ab_I := [(0, .iload_n 1, 1, []), (1, .ifCond .lt 8, 4, [((0 : Int), 9)]), (4, .iload_n 1, 5, []), (5, .iconst 2, 6, []), (6, .if_icmp .lt 6, 9, [((0 : Int), 12)]), (9, .bipush (-2), 11, []), (11, .ireturn, 12, []), (12, .aload_n 0, 13, []), (13, .getfield 31, 16, []), (16, .iload_n 1, 17, []), (17, .aaload, 18, []), (18, .aload_n 0, 19, []), (19, .getfield 10, 22, []), (22, .invokevirtual 118, 25, []), (25, .aload_n 0, 26, []), (26, .getfield 34, 29, []), (29, .iload_n 1, 30, []), (30, .iconst 1, 31, []), (31, .bastore, 32, []), (32, .aload_n 0, 33, []), (33, .getfield 10, 36, []), (36, .getfield 77, 39, []), (39, .ireturn, 40, [])]
def E_X2_save_v0 : ab_E := (T_X2, [(22, (2, 1, [43, 44, 45, 46, 47, 1, 2, 3, 4, 5], 10, sp_X1_copyFrom))], [], 0)
def M_X2_save : List (Nat × ab_MI) := [(22, mi_X1_copyFrom)]
def mi_X2_save : ab_MI := (yX2_save, cX2_save, 2, ab_rty 0, 2, 91)
theorem pk_X2_save : P_X2_save.all (ab_okI cX2_save) = true := by decide +kernel
theorem ck_X2_save_v0 : P_X2_save.all (ab_okC1 "RootChunks" M_X2_save E_X2_save_v0 (2, 91)) = true := by decide +kernel
set_option maxRecDepth 100000 in
theorem b_X2_save_v0_0 {Q : ab_Q} {a : Int} {u : Int} {r : rw_T} {q : rw_T} {o : List (Option Nat)} {h0 : rw_T} {h1 : rw_T} {h2 : rw_T} {h3 : rw_T} {h4 : rw_T} {h5 : rw_T} {s0 : rw_T} {s1 : rw_T} {z : Int → Int} {p : pd_T} {f : Int → Int} (l1 : a < (0 : Int) → Q (some (.inl (-2))) (xz_cs u r q o h0 h1 h2 h3 h4 h5 s0 s1 z p f)) (l2 : (0 : Int) ≤ a → a < (2 : Int) → ab_R E_X2_save_v0 P_X2_save Q 18 [some (.inr (.inl (some 0))), some (.inl a)] [.inr (.inl (([some 43, some 48]).getD a.toNat none))] (xz_cs u r q o h0 h1 h2 h3 h4 h5 s0 s1 z p f)) (l3 : (0 : Int) ≤ a → (2 : Int) ≤ a → Q (some (.inl (-2))) (xz_cs u r q o h0 h1 h2 h3 h4 h5 s0 s1 z p f)) (p1 : ab_r a := by intros; (try unfold ab_r); omega) (p2 : (0 : Int) ≤ a → (ab_r a ∧ ab_r 2) := by intros; (try unfold ab_r); omega) (p3 : (0 : Int) ≤ a → a < (2 : Int) → (([some 43, some 48]).length < 1000000) := by intros; (try unfold ab_r); omega) (p4 : (0 : Int) ≤ a → a < (2 : Int) → (0 ≤ a ∧ a < ((([some 43, some 48]).length : Nat) : Int)) := by intros; (try unfold ab_r); omega) : ab_R E_X2_save_v0 P_X2_save Q 0 [some (.inr (.inl (some 0))), some (.inl a)] [] (xz_cs u r q o h0 h1 h2 h3 h4 h5 s0 s1 z p f) :=
  ab_R.steps [18, 25] 10 (show (ab_r a ∧ ((a < (0 : Int) → Q (some (.inl (-2))) (xz_cs u r q o h0 h1 h2 h3 h4 h5 s0 s1 z p f)) ∧ ((0 : Int) ≤ a → ((ab_r a ∧ ab_r 2) ∧ ((a < (2 : Int) → (ab_rarr 42 (xz_cs u r q o h0 h1 h2 h3 h4 h5 s0 s1 z p f) (fun l_ => (0 ≤ a ∧ a < (((l_).length : Nat) : Int)) ∧ ab_R E_X2_save_v0 P_X2_save Q 18 [some (.inr (.inl (some 0))), some (.inl a)] [.inr (.inl (l_.getD a.toNat none))] (xz_cs u r q o h0 h1 h2 h3 h4 h5 s0 s1 z p f)))) ∧ ((2 : Int) ≤ a → Q (some (.inl (-2))) (xz_cs u r q o h0 h1 h2 h3 h4 h5 s0 s1 z p f))))))) from ⟨p1, ⟨fun h1 => (l1 h1), fun h2 => ⟨(p2 h2), ⟨fun h3 => (ab_rarrI rfl (p3 h2 h3) ⟨(p4 h2 h3), (l2 h2 h3)⟩), fun h4 => (l3 h2 h4)⟩⟩⟩⟩)
set_option maxRecDepth 100000 in
theorem b_X2_save_v0_18 {Q : ab_Q} {a : Int} {u : Int} {r : rw_T} {q : rw_T} {o : List (Option Nat)} {h0 : rw_T} {h1 : rw_T} {h2 : rw_T} {h3 : rw_T} {h4 : rw_T} {h5 : rw_T} {s0 : rw_T} {s1 : rw_T} {z : Int → Int} {p : pd_T} {f : Int → Int} (l1 : sp_X1_copyFrom [.inr (.inl (some 0)), .inr (.inl (some 5))] (rw2_cs s0 r) (fun r_ k_ => ∃ (r' : rw_T), ∃ (q' : rw_T), r_ = none ∧ k_ = (rw2_cs r' q') ∧ ab_R E_X2_save_v0 P_X2_save Q 25 [some (.inr (.inl (some 0))), some (.inl a)] [] (xz_cs u q' q o h0 h1 h2 h3 h4 h5 r' s1 z p f)))  : ab_R E_X2_save_v0 P_X2_save Q 18 [some (.inr (.inl (some 0))), some (.inl a)] [.inr (.inl (some 43))] (xz_cs u r q o h0 h1 h2 h3 h4 h5 s0 s1 z p f) :=
  ab_R.steps [18, 25] 4 (show ab_cl sp_X1_copyFrom [.inr (.inl (some 0)), .inr (.inl (some 5))] (rw2_cs s0 r) (fun r_ k_ => k_.length = 10 → ab_R E_X2_save_v0 P_X2_save Q 25 [some (.inr (.inl (some 0))), some (.inl a)] (ab_ret (r_.map (ab_reV [43, 44, 45, 46, 47, 1, 2, 3, 4, 5])) []) (ab_back [43, 44, 45, 46, 47, 1, 2, 3, 4, 5] [43, 44, 45, 46, 47, 1, 2, 3, 4, 5] k_ (xz_cs u r q o h0 h1 h2 h3 h4 h5 s0 s1 z p f))) from ⟨_, l1, fun r_ k_ hz _ => by obtain ⟨r', q', rfl, rfl, hR⟩ := hz; exact hR⟩)
set_option maxRecDepth 100000 in
theorem b_X2_save_v0_25 {Q : ab_Q} {a : Int} {u : Int} {r : rw_T} {q : rw_T} {o : List (Option Nat)} {h0 : rw_T} {h1 : rw_T} {h2 : rw_T} {h3 : rw_T} {h4 : rw_T} {h5 : rw_T} {s0 : rw_T} {s1 : rw_T} {z : Int → Int} {p : pd_T} {f : Int → Int} (l1 : Q (some (.inl r.2.2.2.2.1)) (xz_cs u r q o h0 h1 h2 h3 h4 h5 s0 s1 ((ab_up z a 1)) p f)) (p1 : (0 ≤ a ∧ a < 2 ∧ ((1 : Int) = 0 ∨ (1 : Int) = 1)) := by intros; (try unfold ab_r); omega) : ab_R E_X2_save_v0 P_X2_save Q 25 [some (.inr (.inl (some 0))), some (.inl a)] [] (xz_cs u r q o h0 h1 h2 h3 h4 h5 s0 s1 z p f) :=
  ab_R.steps [18, 25] 10 (show ((0 ≤ a ∧ a < 2 ∧ ((1 : Int) = 0 ∨ (1 : Int) = 1)) ∧ Q (some (.inl r.2.2.2.2.1)) (xz_cs u r q o h0 h1 h2 h3 h4 h5 s0 s1 ((ab_up z a 1)) p f)) from ⟨p1, l1⟩)
-- ===== RootChunks.save 1
def E_X2_save_v1 : ab_E := (T_X2, [(22, (2, 1, [48, 49, 50, 51, 52, 1, 2, 3, 4, 5], 10, sp_X1_copyFrom))], [], 0)
theorem ck_X2_save_v1 : P_X2_save.all (ab_okC1 "RootChunks" M_X2_save E_X2_save_v1 (2, 91)) = true := by decide +kernel
set_option maxRecDepth 100000 in
theorem b_X2_save_v1_0 {Q : ab_Q} {a : Int} {u : Int} {r : rw_T} {q : rw_T} {o : List (Option Nat)} {h0 : rw_T} {h1 : rw_T} {h2 : rw_T} {h3 : rw_T} {h4 : rw_T} {h5 : rw_T} {s0 : rw_T} {s1 : rw_T} {z : Int → Int} {p : pd_T} {f : Int → Int} (l1 : a < (0 : Int) → Q (some (.inl (-2))) (xz_cs u r q o h0 h1 h2 h3 h4 h5 s0 s1 z p f)) (l2 : (0 : Int) ≤ a → a < (2 : Int) → ab_R E_X2_save_v1 P_X2_save Q 18 [some (.inr (.inl (some 0))), some (.inl a)] [.inr (.inl (([some 43, some 48]).getD a.toNat none))] (xz_cs u r q o h0 h1 h2 h3 h4 h5 s0 s1 z p f)) (l3 : (0 : Int) ≤ a → (2 : Int) ≤ a → Q (some (.inl (-2))) (xz_cs u r q o h0 h1 h2 h3 h4 h5 s0 s1 z p f)) (p1 : ab_r a := by intros; (try unfold ab_r); omega) (p2 : (0 : Int) ≤ a → (ab_r a ∧ ab_r 2) := by intros; (try unfold ab_r); omega) (p3 : (0 : Int) ≤ a → a < (2 : Int) → (([some 43, some 48]).length < 1000000) := by intros; (try unfold ab_r); omega) (p4 : (0 : Int) ≤ a → a < (2 : Int) → (0 ≤ a ∧ a < ((([some 43, some 48]).length : Nat) : Int)) := by intros; (try unfold ab_r); omega) : ab_R E_X2_save_v1 P_X2_save Q 0 [some (.inr (.inl (some 0))), some (.inl a)] [] (xz_cs u r q o h0 h1 h2 h3 h4 h5 s0 s1 z p f) :=
  ab_R.steps [18, 25] 10 (show (ab_r a ∧ ((a < (0 : Int) → Q (some (.inl (-2))) (xz_cs u r q o h0 h1 h2 h3 h4 h5 s0 s1 z p f)) ∧ ((0 : Int) ≤ a → ((ab_r a ∧ ab_r 2) ∧ ((a < (2 : Int) → (ab_rarr 42 (xz_cs u r q o h0 h1 h2 h3 h4 h5 s0 s1 z p f) (fun l_ => (0 ≤ a ∧ a < (((l_).length : Nat) : Int)) ∧ ab_R E_X2_save_v1 P_X2_save Q 18 [some (.inr (.inl (some 0))), some (.inl a)] [.inr (.inl (l_.getD a.toNat none))] (xz_cs u r q o h0 h1 h2 h3 h4 h5 s0 s1 z p f)))) ∧ ((2 : Int) ≤ a → Q (some (.inl (-2))) (xz_cs u r q o h0 h1 h2 h3 h4 h5 s0 s1 z p f))))))) from ⟨p1, ⟨fun h1 => (l1 h1), fun h2 => ⟨(p2 h2), ⟨fun h3 => (ab_rarrI rfl (p3 h2 h3) ⟨(p4 h2 h3), (l2 h2 h3)⟩), fun h4 => (l3 h2 h4)⟩⟩⟩⟩)
set_option maxRecDepth 100000 in
theorem b_X2_save_v1_18 {Q : ab_Q} {a : Int} {u : Int} {r : rw_T} {q : rw_T} {o : List (Option Nat)} {h0 : rw_T} {h1 : rw_T} {h2 : rw_T} {h3 : rw_T} {h4 : rw_T} {h5 : rw_T} {s0 : rw_T} {s1 : rw_T} {z : Int → Int} {p : pd_T} {f : Int → Int} (l1 : sp_X1_copyFrom [.inr (.inl (some 0)), .inr (.inl (some 5))] (rw2_cs s1 r) (fun r_ k_ => ∃ (r' : rw_T), ∃ (q' : rw_T), r_ = none ∧ k_ = (rw2_cs r' q') ∧ ab_R E_X2_save_v1 P_X2_save Q 25 [some (.inr (.inl (some 0))), some (.inl a)] [] (xz_cs u q' q o h0 h1 h2 h3 h4 h5 s0 r' z p f)))  : ab_R E_X2_save_v1 P_X2_save Q 18 [some (.inr (.inl (some 0))), some (.inl a)] [.inr (.inl (some 48))] (xz_cs u r q o h0 h1 h2 h3 h4 h5 s0 s1 z p f) :=
  ab_R.steps [18, 25] 4 (show ab_cl sp_X1_copyFrom [.inr (.inl (some 0)), .inr (.inl (some 5))] (rw2_cs s1 r) (fun r_ k_ => k_.length = 10 → ab_R E_X2_save_v1 P_X2_save Q 25 [some (.inr (.inl (some 0))), some (.inl a)] (ab_ret (r_.map (ab_reV [48, 49, 50, 51, 52, 1, 2, 3, 4, 5])) []) (ab_back [48, 49, 50, 51, 52, 1, 2, 3, 4, 5] [48, 49, 50, 51, 52, 1, 2, 3, 4, 5] k_ (xz_cs u r q o h0 h1 h2 h3 h4 h5 s0 s1 z p f))) from ⟨_, l1, fun r_ k_ hz _ => by obtain ⟨r', q', rfl, rfl, hR⟩ := hz; exact hR⟩)
set_option maxRecDepth 100000 in
theorem b_X2_save_v1_25 {Q : ab_Q} {a : Int} {u : Int} {r : rw_T} {q : rw_T} {o : List (Option Nat)} {h0 : rw_T} {h1 : rw_T} {h2 : rw_T} {h3 : rw_T} {h4 : rw_T} {h5 : rw_T} {s0 : rw_T} {s1 : rw_T} {z : Int → Int} {p : pd_T} {f : Int → Int} (l1 : Q (some (.inl r.2.2.2.2.1)) (xz_cs u r q o h0 h1 h2 h3 h4 h5 s0 s1 ((ab_up z a 1)) p f)) (p1 : (0 ≤ a ∧ a < 2 ∧ ((1 : Int) = 0 ∨ (1 : Int) = 1)) := by intros; (try unfold ab_r); omega) : ab_R E_X2_save_v1 P_X2_save Q 25 [some (.inr (.inl (some 0))), some (.inl a)] [] (xz_cs u r q o h0 h1 h2 h3 h4 h5 s0 s1 z p f) :=
  ab_R.steps [18, 25] 10 (show ((0 ≤ a ∧ a < 2 ∧ ((1 : Int) = 0 ∨ (1 : Int) = 1)) ∧ Q (some (.inl r.2.2.2.2.1)) (xz_cs u r q o h0 h1 h2 h3 h4 h5 s0 s1 ((ab_up z a 1)) p f)) from ⟨p1, l1⟩)
theorem vc_X2_save_v0 {av : List ab_V} {cs : List ab_C} {Q : ab_Q} (h : sp_X2_save_v0 av cs Q) : (ab_lv0 av).length ≤ 2 ∧ ab_R E_X2_save_v0 P_X2_save Q 0 (ab_ent av 2) [] cs := by
  obtain ⟨⟨u, r, q, o, hy, s0, s1, z, p, f⟩, S, a, rfl, rfl, hI, ha, hk, hQ⟩ := h
  refine ⟨Nat.le_of_ble_eq_true rfl, ?_⟩
  show ab_R E_X2_save_v0 P_X2_save Q 0 [some (.inr (.inl (some 0))), some (.inl a)] [] (xz_cs u r q o (hy 0) (hy 1) (hy 2) (hy 3) (hy 4) (hy 5) s0 s1 z p f)
  have hR : mq_R r S.1.1 := hI.1.1
  have hW : mq_W S.1.1 := hI.1.2.1
  have hw : r.2.2.2.2.2.2 = S.1.2 := hI.1.2.2
  have hnn : r.2.2.2.2.1 = mq_n S.1.1 := hR.2.2.2.2.1
  have ha' := ha
  unfold ab_r at ha'
  unfold mf_save at hQ
  refine b_X2_save_v0_0 (fun h1 => ?_) (fun h1 h2 => ?_) (fun h1 h2 => ?_) (p3 := fun _ _ => by decide) (p4 := fun h1 h2 => ⟨h1, h2⟩)
  · rw [if_neg (by omega), if_neg (by omega)] at hQ
    exact hQ (u, r, q, o, hy, s0, s1, z, p, f) hI
  · have e : a = 0 := by omega
    subst e
    rw [if_pos rfl] at hQ
    refine b_X2_save_v0_18 ⟨s0, r, S.1.1, rfl, rfl, hR, hW, fun r1 e1 e2 => ⟨_, _, rfl, rfl, b_X2_save_v0_25 ?_⟩⟩
    rw [hnn]
    refine hQ (u, r, q, o, hy, r1, s1, ab_up z 0 1, p, f) ⟨hI.1, hI.2.1, ⟨⟨by show ab_up z 0 1 0 = 1; exact ab_up_eq rfl, e1, hW, e2.trans hw⟩, ?_⟩, hI.2.2.2⟩
    show mx_sl s1 (ab_up z 0 1 1) S.2.2.1.2
    rw [ab_up_ne (by omega)]
    exact hI.2.2.1.2
  · rw [if_neg (by omega), if_neg (by omega)] at hQ
    exact hQ (u, r, q, o, hy, s0, s1, z, p, f) hI
theorem mt_X2_save_v0 (l : Launch) : ab_MT l mi_X2_save sp_X2_save_v0 := ab_MT.of (own := "RootChunks") (E := E_X2_save_v0) (P := P_X2_save) (M := M_X2_save) (nL := 2) (ty := 0) (by decide) rfl rfl tk_X2 pk_X2_save ck_X2_save_v0 (ab_CT'.cons (mt_X1_copyFrom l) ab_CT'.nil) (fun av cs Q h => vc_X2_save_v0 h)
theorem vc_X2_save_v1 {av : List ab_V} {cs : List ab_C} {Q : ab_Q} (h : sp_X2_save_v1 av cs Q) : (ab_lv0 av).length ≤ 2 ∧ ab_R E_X2_save_v1 P_X2_save Q 0 (ab_ent av 2) [] cs := by
  obtain ⟨⟨u, r, q, o, hy, s0, s1, z, p, f⟩, S, a, rfl, rfl, hI, ha, hk, hQ⟩ := h
  refine ⟨Nat.le_of_ble_eq_true rfl, ?_⟩
  show ab_R E_X2_save_v1 P_X2_save Q 0 [some (.inr (.inl (some 0))), some (.inl a)] [] (xz_cs u r q o (hy 0) (hy 1) (hy 2) (hy 3) (hy 4) (hy 5) s0 s1 z p f)
  have hR : mq_R r S.1.1 := hI.1.1
  have hW : mq_W S.1.1 := hI.1.2.1
  have hw : r.2.2.2.2.2.2 = S.1.2 := hI.1.2.2
  have hnn : r.2.2.2.2.1 = mq_n S.1.1 := hR.2.2.2.2.1
  have ha' := ha
  unfold ab_r at ha'
  unfold mf_save at hQ
  refine b_X2_save_v1_0 (fun h1 => ?_) (fun h1 h2 => ?_) (fun h1 h2 => ?_) (p3 := fun _ _ => by decide) (p4 := fun h1 h2 => ⟨h1, h2⟩)
  · rw [if_neg (by omega), if_neg (by omega)] at hQ
    exact hQ (u, r, q, o, hy, s0, s1, z, p, f) hI
  · have e : a = 1 := by omega
    subst e
    rw [if_neg (by omega), if_pos rfl] at hQ
    refine b_X2_save_v1_18 ⟨s1, r, S.1.1, rfl, rfl, hR, hW, fun r1 e1 e2 => ⟨_, _, rfl, rfl, b_X2_save_v1_25 ?_⟩⟩
    rw [hnn]
    refine hQ (u, r, q, o, hy, s0, r1, ab_up z 1 1, p, f) ⟨hI.1, hI.2.1, ⟨?_, ⟨by show ab_up z 1 1 1 = 1; exact ab_up_eq rfl, e1, hW, e2.trans hw⟩⟩, hI.2.2.2⟩
    show mx_sl s0 (ab_up z 1 1 0) S.2.2.1.1
    rw [ab_up_ne (by omega)]
    exact hI.2.2.1.1
  · rw [if_neg (by omega), if_neg (by omega)] at hQ
    exact hQ (u, r, q, o, hy, s0, s1, z, p, f) hI
theorem mt_X2_save_v1 (l : Launch) : ab_MT l mi_X2_save sp_X2_save_v1 := ab_MT.of (own := "RootChunks") (E := E_X2_save_v1) (P := P_X2_save) (M := M_X2_save) (nL := 2) (ty := 0) (by decide) rfl rfl tk_X2 pk_X2_save ck_X2_save_v1 (ab_CT'.cons (mt_X1_copyFrom l) ab_CT'.nil) (fun av cs Q h => vc_X2_save_v1 h)
theorem mt_X2_save (l : Launch) : ab_MT l mi_X2_save sp_X2_save := by
  intro G ad av cs Q sz h
  obtain ⟨X, S, a, h1, h2, h3, h4, h5⟩ := h
  by_cases y : a = 1
  · exact mt_X2_save_v1 l G ad av cs Q sz ⟨X, S, a, h1, h2, h3, h4, Or.inl y, h5⟩
  · exact mt_X2_save_v0 l G ad av cs Q sz ⟨X, S, a, h1, h2, h3, h4, by omega, h5⟩
-- ===== RootChunks.restore 0
def P_X2_restore : List ab_I := [(0, .iload_n 1, 1, []), (1, .ifCond .lt 8, 4, [((0 : Int), 9)]), (4, .iload_n 1, 5, []), (5, .iconst 2, 6, []), (6, .if_icmp .lt 6, 9, [((0 : Int), 12)]), (9, .bipush (-2), 11, []), (11, .ireturn, 12, []), (12, .aload_n 0, 13, []), (13, .getfield 34, 16, []), (16, .iload_n 1, 17, []), (17, .baload, 18, []), (18, .ifCond .ne 6, 21, [((0 : Int), 24)]), (21, .bipush (-5), 23, []), (23, .ireturn, 24, []), (24, .aload_n 0, 25, []), (25, .invokevirtual 144, 28, []), (28, .aload_n 0, 29, []), (29, .getfield 10, 32, []), (32, .aload_n 0, 33, []), (33, .getfield 31, 36, []), (36, .iload_n 1, 37, []), (37, .aaload, 38, []), (38, .invokevirtual 118, 41, []), (41, .aload_n 0, 42, []), (42, .getfield 10, 45, []), (45, .getfield 77, 48, []), (48, .ireturn, 49, [])]
def E_X2_restore_v0 : ab_E := (T_X2, [(25, (1, 2, [], 0, sp_X2_remember)), (38, (2, 1, [1, 2, 3, 4, 5, 43, 44, 45, 46, 47], 10, sp_X1_copyFrom))], [], 0)
def M_X2_restore : List (Nat × ab_MI) := [(25, mi_X2_remember), (38, mi_X1_copyFrom)]
def mi_X2_restore : ab_MI := (yX2_restore, cX2_restore, 2, ab_rty 0, 3, 113)
theorem pk_X2_restore : P_X2_restore.all (ab_okI cX2_restore) = true := by decide +kernel
theorem ck_X2_restore_v0 : P_X2_restore.all (ab_okC1 "RootChunks" M_X2_restore E_X2_restore_v0 (3, 113)) = true := by decide +kernel
set_option maxRecDepth 100000 in
theorem b_X2_restore_v0_0 {Q : ab_Q} {a : Int} {u : Int} {r : rw_T} {q : rw_T} {o : List (Option Nat)} {h0 : rw_T} {h1 : rw_T} {h2 : rw_T} {h3 : rw_T} {h4 : rw_T} {h5 : rw_T} {s0 : rw_T} {s1 : rw_T} {z : Int → Int} {p : pd_T} {f : Int → Int} (l1 : a < (0 : Int) → Q (some (.inl (-2))) (xz_cs u r q o h0 h1 h2 h3 h4 h5 s0 s1 z p f)) (l2 : (0 : Int) ≤ a → a < (2 : Int) → ¬ (z a) = (0 : Int) → sp_X2_remember [.inr (.inl (some 0))] (xz_cs u r q o h0 h1 h2 h3 h4 h5 s0 s1 z p f) (fun r_ k_ => ∃ (u' : Int), ∃ (r' : rw_T), ∃ (q' : rw_T), ∃ (o' : List (Option Nat)), ∃ (h0' : rw_T), ∃ (h1' : rw_T), ∃ (h2' : rw_T), ∃ (h3' : rw_T), ∃ (h4' : rw_T), ∃ (h5' : rw_T), ∃ (s0' : rw_T), ∃ (s1' : rw_T), ∃ (z' : Int → Int), ∃ (p' : pd_T), ∃ (f' : Int → Int), r_ = none ∧ k_ = (xz_cs (u') r' q' (o') h0' h1' h2' h3' h4' h5' s0' s1' (z') p' (f')) ∧ ab_R E_X2_restore_v0 P_X2_restore Q 28 [some (.inr (.inl (some 0))), some (.inl a)] [] (xz_cs (u') r' q' (o') h0' h1' h2' h3' h4' h5' s0' s1' (z') p' (f')))) (l3 : (0 : Int) ≤ a → a < (2 : Int) → (z a) = (0 : Int) → Q (some (.inl (-5))) (xz_cs u r q o h0 h1 h2 h3 h4 h5 s0 s1 z p f)) (l4 : (0 : Int) ≤ a → (2 : Int) ≤ a → Q (some (.inl (-2))) (xz_cs u r q o h0 h1 h2 h3 h4 h5 s0 s1 z p f)) (p1 : ab_r a := by intros; (try unfold ab_r); omega) (p2 : (0 : Int) ≤ a → (ab_r a ∧ ab_r 2) := by intros; (try unfold ab_r); omega) (p3 : (0 : Int) ≤ a → a < (2 : Int) → (0 ≤ a ∧ a < 2) := by intros; (try unfold ab_r); omega) (p4 : (0 : Int) ≤ a → a < (2 : Int) → ab_r (z a) := by intros; (try unfold ab_r); omega) : ab_R E_X2_restore_v0 P_X2_restore Q 0 [some (.inr (.inl (some 0))), some (.inl a)] [] (xz_cs u r q o h0 h1 h2 h3 h4 h5 s0 s1 z p f) :=
  ab_R.steps [28, 38, 41] 13 (show (ab_r a ∧ ((a < (0 : Int) → Q (some (.inl (-2))) (xz_cs u r q o h0 h1 h2 h3 h4 h5 s0 s1 z p f)) ∧ ((0 : Int) ≤ a → ((ab_r a ∧ ab_r 2) ∧ ((a < (2 : Int) → ((0 ≤ a ∧ a < 2) ∧ (ab_r (z a) ∧ ((¬ (z a) = (0 : Int) → ab_cl sp_X2_remember [.inr (.inl (some 0))] (xz_cs u r q o h0 h1 h2 h3 h4 h5 s0 s1 z p f) (fun r_ k_ => k_.length = ((xz_cs u r q o h0 h1 h2 h3 h4 h5 s0 s1 z p f)).length → ab_R E_X2_restore_v0 P_X2_restore Q 28 [some (.inr (.inl (some 0))), some (.inl a)] (ab_ret r_ []) k_)) ∧ ((z a) = (0 : Int) → Q (some (.inl (-5))) (xz_cs u r q o h0 h1 h2 h3 h4 h5 s0 s1 z p f)))))) ∧ ((2 : Int) ≤ a → Q (some (.inl (-2))) (xz_cs u r q o h0 h1 h2 h3 h4 h5 s0 s1 z p f))))))) from ⟨p1, ⟨fun h1 => (l1 h1), fun h2 => ⟨(p2 h2), ⟨fun h3 => ⟨(p3 h2 h3), ⟨(p4 h2 h3), ⟨fun h4 => ⟨_, (l2 h2 h3 h4), fun r_ k_ hz _ => by obtain ⟨u', r', q', o', h0', h1', h2', h3', h4', h5', s0', s1', z', p', f', rfl, rfl, hR⟩ := hz; exact hR⟩, fun h5 => (l3 h2 h3 h5)⟩⟩⟩, fun h6 => (l4 h2 h6)⟩⟩⟩⟩)
set_option maxRecDepth 100000 in
theorem b_X2_restore_v0_28 {Q : ab_Q} {a : Int} {u : Int} {r : rw_T} {q : rw_T} {o : List (Option Nat)} {h0 : rw_T} {h1 : rw_T} {h2 : rw_T} {h3 : rw_T} {h4 : rw_T} {h5 : rw_T} {s0 : rw_T} {s1 : rw_T} {z : Int → Int} {p : pd_T} {f : Int → Int} (l1 : ab_R E_X2_restore_v0 P_X2_restore Q 38 [some (.inr (.inl (some 0))), some (.inl a)] [.inr (.inl (([some 43, some 48]).getD a.toNat none)), .inr (.inl (some 1))] (xz_cs u r q o h0 h1 h2 h3 h4 h5 s0 s1 z p f)) (p1 : (([some 43, some 48]).length < 1000000) := by intros; (try unfold ab_r); omega) (p2 : (0 ≤ a ∧ a < ((([some 43, some 48]).length : Nat) : Int)) := by intros; (try unfold ab_r); omega) : ab_R E_X2_restore_v0 P_X2_restore Q 28 [some (.inr (.inl (some 0))), some (.inl a)] [] (xz_cs u r q o h0 h1 h2 h3 h4 h5 s0 s1 z p f) :=
  ab_R.steps [28, 38, 41] 7 (show (ab_rarr 42 (xz_cs u r q o h0 h1 h2 h3 h4 h5 s0 s1 z p f) (fun l_ => (0 ≤ a ∧ a < (((l_).length : Nat) : Int)) ∧ ab_R E_X2_restore_v0 P_X2_restore Q 38 [some (.inr (.inl (some 0))), some (.inl a)] [.inr (.inl (l_.getD a.toNat none)), .inr (.inl (some 1))] (xz_cs u r q o h0 h1 h2 h3 h4 h5 s0 s1 z p f))) from (ab_rarrI rfl p1 ⟨p2, l1⟩))
set_option maxRecDepth 100000 in
theorem b_X2_restore_v0_38 {Q : ab_Q} {a : Int} {u : Int} {r : rw_T} {q : rw_T} {o : List (Option Nat)} {h0 : rw_T} {h1 : rw_T} {h2 : rw_T} {h3 : rw_T} {h4 : rw_T} {h5 : rw_T} {s0 : rw_T} {s1 : rw_T} {z : Int → Int} {p : pd_T} {f : Int → Int} (l1 : sp_X1_copyFrom [.inr (.inl (some 0)), .inr (.inl (some 5))] (rw2_cs r s0) (fun r_ k_ => ∃ (r' : rw_T), ∃ (q' : rw_T), r_ = none ∧ k_ = (rw2_cs r' q') ∧ ab_R E_X2_restore_v0 P_X2_restore Q 41 [some (.inr (.inl (some 0))), some (.inl a)] [] (xz_cs u r' q o h0 h1 h2 h3 h4 h5 q' s1 z p f)))  : ab_R E_X2_restore_v0 P_X2_restore Q 38 [some (.inr (.inl (some 0))), some (.inl a)] [.inr (.inl (some 43)), .inr (.inl (some 1))] (xz_cs u r q o h0 h1 h2 h3 h4 h5 s0 s1 z p f) :=
  ab_R.steps [28, 38, 41] 2 (show ab_cl sp_X1_copyFrom [.inr (.inl (some 0)), .inr (.inl (some 5))] (rw2_cs r s0) (fun r_ k_ => k_.length = 10 → ab_R E_X2_restore_v0 P_X2_restore Q 41 [some (.inr (.inl (some 0))), some (.inl a)] (ab_ret (r_.map (ab_reV [1, 2, 3, 4, 5, 43, 44, 45, 46, 47])) []) (ab_back [1, 2, 3, 4, 5, 43, 44, 45, 46, 47] [1, 2, 3, 4, 5, 43, 44, 45, 46, 47] k_ (xz_cs u r q o h0 h1 h2 h3 h4 h5 s0 s1 z p f))) from ⟨_, l1, fun r_ k_ hz _ => by obtain ⟨r', q', rfl, rfl, hR⟩ := hz; exact hR⟩)
set_option maxRecDepth 100000 in
theorem b_X2_restore_v0_41 {Q : ab_Q} {a : Int} {u : Int} {r : rw_T} {q : rw_T} {o : List (Option Nat)} {h0 : rw_T} {h1 : rw_T} {h2 : rw_T} {h3 : rw_T} {h4 : rw_T} {h5 : rw_T} {s0 : rw_T} {s1 : rw_T} {z : Int → Int} {p : pd_T} {f : Int → Int} (l1 : Q (some (.inl r.2.2.2.2.1)) (xz_cs u r q o h0 h1 h2 h3 h4 h5 s0 s1 z p f))  : ab_R E_X2_restore_v0 P_X2_restore Q 41 [some (.inr (.inl (some 0))), some (.inl a)] [] (xz_cs u r q o h0 h1 h2 h3 h4 h5 s0 s1 z p f) :=
  ab_R.steps [28, 38, 41] 5 (show Q (some (.inl r.2.2.2.2.1)) (xz_cs u r q o h0 h1 h2 h3 h4 h5 s0 s1 z p f) from l1)
-- ===== RootChunks.restore 1
def E_X2_restore_v1 : ab_E := (T_X2, [(25, (1, 2, [], 0, sp_X2_remember)), (38, (2, 1, [1, 2, 3, 4, 5, 48, 49, 50, 51, 52], 10, sp_X1_copyFrom))], [], 0)
theorem ck_X2_restore_v1 : P_X2_restore.all (ab_okC1 "RootChunks" M_X2_restore E_X2_restore_v1 (3, 113)) = true := by decide +kernel
set_option maxRecDepth 100000 in
theorem b_X2_restore_v1_0 {Q : ab_Q} {a : Int} {u : Int} {r : rw_T} {q : rw_T} {o : List (Option Nat)} {h0 : rw_T} {h1 : rw_T} {h2 : rw_T} {h3 : rw_T} {h4 : rw_T} {h5 : rw_T} {s0 : rw_T} {s1 : rw_T} {z : Int → Int} {p : pd_T} {f : Int → Int} (l1 : a < (0 : Int) → Q (some (.inl (-2))) (xz_cs u r q o h0 h1 h2 h3 h4 h5 s0 s1 z p f)) (l2 : (0 : Int) ≤ a → a < (2 : Int) → ¬ (z a) = (0 : Int) → sp_X2_remember [.inr (.inl (some 0))] (xz_cs u r q o h0 h1 h2 h3 h4 h5 s0 s1 z p f) (fun r_ k_ => ∃ (u' : Int), ∃ (r' : rw_T), ∃ (q' : rw_T), ∃ (o' : List (Option Nat)), ∃ (h0' : rw_T), ∃ (h1' : rw_T), ∃ (h2' : rw_T), ∃ (h3' : rw_T), ∃ (h4' : rw_T), ∃ (h5' : rw_T), ∃ (s0' : rw_T), ∃ (s1' : rw_T), ∃ (z' : Int → Int), ∃ (p' : pd_T), ∃ (f' : Int → Int), r_ = none ∧ k_ = (xz_cs (u') r' q' (o') h0' h1' h2' h3' h4' h5' s0' s1' (z') p' (f')) ∧ ab_R E_X2_restore_v1 P_X2_restore Q 28 [some (.inr (.inl (some 0))), some (.inl a)] [] (xz_cs (u') r' q' (o') h0' h1' h2' h3' h4' h5' s0' s1' (z') p' (f')))) (l3 : (0 : Int) ≤ a → a < (2 : Int) → (z a) = (0 : Int) → Q (some (.inl (-5))) (xz_cs u r q o h0 h1 h2 h3 h4 h5 s0 s1 z p f)) (l4 : (0 : Int) ≤ a → (2 : Int) ≤ a → Q (some (.inl (-2))) (xz_cs u r q o h0 h1 h2 h3 h4 h5 s0 s1 z p f)) (p1 : ab_r a := by intros; (try unfold ab_r); omega) (p2 : (0 : Int) ≤ a → (ab_r a ∧ ab_r 2) := by intros; (try unfold ab_r); omega) (p3 : (0 : Int) ≤ a → a < (2 : Int) → (0 ≤ a ∧ a < 2) := by intros; (try unfold ab_r); omega) (p4 : (0 : Int) ≤ a → a < (2 : Int) → ab_r (z a) := by intros; (try unfold ab_r); omega) : ab_R E_X2_restore_v1 P_X2_restore Q 0 [some (.inr (.inl (some 0))), some (.inl a)] [] (xz_cs u r q o h0 h1 h2 h3 h4 h5 s0 s1 z p f) :=
  ab_R.steps [28, 38, 41] 13 (show (ab_r a ∧ ((a < (0 : Int) → Q (some (.inl (-2))) (xz_cs u r q o h0 h1 h2 h3 h4 h5 s0 s1 z p f)) ∧ ((0 : Int) ≤ a → ((ab_r a ∧ ab_r 2) ∧ ((a < (2 : Int) → ((0 ≤ a ∧ a < 2) ∧ (ab_r (z a) ∧ ((¬ (z a) = (0 : Int) → ab_cl sp_X2_remember [.inr (.inl (some 0))] (xz_cs u r q o h0 h1 h2 h3 h4 h5 s0 s1 z p f) (fun r_ k_ => k_.length = ((xz_cs u r q o h0 h1 h2 h3 h4 h5 s0 s1 z p f)).length → ab_R E_X2_restore_v1 P_X2_restore Q 28 [some (.inr (.inl (some 0))), some (.inl a)] (ab_ret r_ []) k_)) ∧ ((z a) = (0 : Int) → Q (some (.inl (-5))) (xz_cs u r q o h0 h1 h2 h3 h4 h5 s0 s1 z p f)))))) ∧ ((2 : Int) ≤ a → Q (some (.inl (-2))) (xz_cs u r q o h0 h1 h2 h3 h4 h5 s0 s1 z p f))))))) from ⟨p1, ⟨fun h1 => (l1 h1), fun h2 => ⟨(p2 h2), ⟨fun h3 => ⟨(p3 h2 h3), ⟨(p4 h2 h3), ⟨fun h4 => ⟨_, (l2 h2 h3 h4), fun r_ k_ hz _ => by obtain ⟨u', r', q', o', h0', h1', h2', h3', h4', h5', s0', s1', z', p', f', rfl, rfl, hR⟩ := hz; exact hR⟩, fun h5 => (l3 h2 h3 h5)⟩⟩⟩, fun h6 => (l4 h2 h6)⟩⟩⟩⟩)
set_option maxRecDepth 100000 in
theorem b_X2_restore_v1_28 {Q : ab_Q} {a : Int} {u : Int} {r : rw_T} {q : rw_T} {o : List (Option Nat)} {h0 : rw_T} {h1 : rw_T} {h2 : rw_T} {h3 : rw_T} {h4 : rw_T} {h5 : rw_T} {s0 : rw_T} {s1 : rw_T} {z : Int → Int} {p : pd_T} {f : Int → Int} (l1 : ab_R E_X2_restore_v1 P_X2_restore Q 38 [some (.inr (.inl (some 0))), some (.inl a)] [.inr (.inl (([some 43, some 48]).getD a.toNat none)), .inr (.inl (some 1))] (xz_cs u r q o h0 h1 h2 h3 h4 h5 s0 s1 z p f)) (p1 : (([some 43, some 48]).length < 1000000) := by intros; (try unfold ab_r); omega) (p2 : (0 ≤ a ∧ a < ((([some 43, some 48]).length : Nat) : Int)) := by intros; (try unfold ab_r); omega) : ab_R E_X2_restore_v1 P_X2_restore Q 28 [some (.inr (.inl (some 0))), some (.inl a)] [] (xz_cs u r q o h0 h1 h2 h3 h4 h5 s0 s1 z p f) :=
  ab_R.steps [28, 38, 41] 7 (show (ab_rarr 42 (xz_cs u r q o h0 h1 h2 h3 h4 h5 s0 s1 z p f) (fun l_ => (0 ≤ a ∧ a < (((l_).length : Nat) : Int)) ∧ ab_R E_X2_restore_v1 P_X2_restore Q 38 [some (.inr (.inl (some 0))), some (.inl a)] [.inr (.inl (l_.getD a.toNat none)), .inr (.inl (some 1))] (xz_cs u r q o h0 h1 h2 h3 h4 h5 s0 s1 z p f))) from (ab_rarrI rfl p1 ⟨p2, l1⟩))
set_option maxRecDepth 100000 in
theorem b_X2_restore_v1_38 {Q : ab_Q} {a : Int} {u : Int} {r : rw_T} {q : rw_T} {o : List (Option Nat)} {h0 : rw_T} {h1 : rw_T} {h2 : rw_T} {h3 : rw_T} {h4 : rw_T} {h5 : rw_T} {s0 : rw_T} {s1 : rw_T} {z : Int → Int} {p : pd_T} {f : Int → Int} (l1 : sp_X1_copyFrom [.inr (.inl (some 0)), .inr (.inl (some 5))] (rw2_cs r s1) (fun r_ k_ => ∃ (r' : rw_T), ∃ (q' : rw_T), r_ = none ∧ k_ = (rw2_cs r' q') ∧ ab_R E_X2_restore_v1 P_X2_restore Q 41 [some (.inr (.inl (some 0))), some (.inl a)] [] (xz_cs u r' q o h0 h1 h2 h3 h4 h5 s0 q' z p f)))  : ab_R E_X2_restore_v1 P_X2_restore Q 38 [some (.inr (.inl (some 0))), some (.inl a)] [.inr (.inl (some 48)), .inr (.inl (some 1))] (xz_cs u r q o h0 h1 h2 h3 h4 h5 s0 s1 z p f) :=
  ab_R.steps [28, 38, 41] 2 (show ab_cl sp_X1_copyFrom [.inr (.inl (some 0)), .inr (.inl (some 5))] (rw2_cs r s1) (fun r_ k_ => k_.length = 10 → ab_R E_X2_restore_v1 P_X2_restore Q 41 [some (.inr (.inl (some 0))), some (.inl a)] (ab_ret (r_.map (ab_reV [1, 2, 3, 4, 5, 48, 49, 50, 51, 52])) []) (ab_back [1, 2, 3, 4, 5, 48, 49, 50, 51, 52] [1, 2, 3, 4, 5, 48, 49, 50, 51, 52] k_ (xz_cs u r q o h0 h1 h2 h3 h4 h5 s0 s1 z p f))) from ⟨_, l1, fun r_ k_ hz _ => by obtain ⟨r', q', rfl, rfl, hR⟩ := hz; exact hR⟩)
set_option maxRecDepth 100000 in
theorem b_X2_restore_v1_41 {Q : ab_Q} {a : Int} {u : Int} {r : rw_T} {q : rw_T} {o : List (Option Nat)} {h0 : rw_T} {h1 : rw_T} {h2 : rw_T} {h3 : rw_T} {h4 : rw_T} {h5 : rw_T} {s0 : rw_T} {s1 : rw_T} {z : Int → Int} {p : pd_T} {f : Int → Int} (l1 : Q (some (.inl r.2.2.2.2.1)) (xz_cs u r q o h0 h1 h2 h3 h4 h5 s0 s1 z p f))  : ab_R E_X2_restore_v1 P_X2_restore Q 41 [some (.inr (.inl (some 0))), some (.inl a)] [] (xz_cs u r q o h0 h1 h2 h3 h4 h5 s0 s1 z p f) :=
  ab_R.steps [28, 38, 41] 5 (show Q (some (.inl r.2.2.2.2.1)) (xz_cs u r q o h0 h1 h2 h3 h4 h5 s0 s1 z p f) from l1)
theorem vc_X2_restore_v0 {av : List ab_V} {cs : List ab_C} {Q : ab_Q} (h : sp_X2_restore_v0 av cs Q) : (ab_lv0 av).length ≤ 2 ∧ ab_R E_X2_restore_v0 P_X2_restore Q 0 (ab_ent av 2) [] cs := by
  obtain ⟨⟨u, r, q, o, hy, s0, s1, z, p, f⟩, S, a, rfl, rfl, hI, ha, hk, hQ⟩ := h
  refine ⟨Nat.le_of_ble_eq_true rfl, ?_⟩
  show ab_R E_X2_restore_v0 P_X2_restore Q 0 [some (.inr (.inl (some 0))), some (.inl a)] [] (xz_cs u r q o (hy 0) (hy 1) (hy 2) (hy 3) (hy 4) (hy 5) s0 s1 z p f)
  have hst : mx_st r S.1 := hI.1
  have hH : mx_H u o hy S.2.1 := hI.2.1
  have hs : mx_sl s0 (z 0) (match (0 : Nat) with | 0 => S.2.2.1.1 | _ => S.2.2.1.2) := by
    first | exact hI.2.2.1.1 | exact hI.2.2.1.2
  have ha' := ha
  unfold ab_r at ha'
  by_cases y : a = 0
  · subst y
    have hres : mf_restore S 0 = mf_rest S (match (0 : Nat) with | 0 => S.2.2.1.1 | _ => S.2.2.1.2) := rfl
    rw [hres] at hQ
    generalize (match (0 : Nat) with | 0 => S.2.2.1.1 | _ => S.2.2.1.2) = os at hs hQ
    cases os with
    | none =>
      have hz : z 0 = 0 := hs
      exact b_X2_restore_v0_0 (fun h1 => by omega) (fun _ _ h => absurd hz h) (fun _ _ _ => hQ (u, r, q, o, hy, s0, s1, z, p, f) hI) (fun _ h2 => by omega) (p4 := fun _ _ => by rw [hz]; unfold ab_r; omega)
    | some x =>
      obtain ⟨hz, hx⟩ := (show z 0 = 1 ∧ mx_st s0 x from hs)
      refine b_X2_restore_v0_0 (fun h1 => by omega) (fun _ _ _ => ?_) (fun _ _ h => by omega) (fun _ h2 => by omega) (p4 := fun _ _ => by rw [hz]; unfold ab_r; omega)
      refine ⟨u, r, q, o, hy, s0, s1, z, p, f, S.1, S.2.1, rfl, rfl, hst, hH, fun u' o' h' hH' => ⟨_, _, _, _, _, _, _, _, _, _, _, _, _, _, _, rfl, rfl, ?_⟩⟩
      refine b_X2_restore_v0_28 ?_ (p1 := by decide) (p2 := by decide)
      refine b_X2_restore_v0_38 ⟨r, s0, x.1, rfl, rfl, hx.1, hx.2.1, fun r1 e1 e2 => ⟨_, _, rfl, rfl, b_X2_restore_v0_41 ?_⟩⟩
      have hnn : r1.2.2.2.2.1 = mq_n x.1 := e1.2.2.2.2.1
      rw [hnn]
      exact hQ (u', r1, q, o', h', s0, s1, z, p, f) ⟨⟨e1, hx.2.1, e2.trans hx.2.2⟩, hH', hI.2.2⟩
  · unfold mf_restore at hQ
    rw [if_neg (by omega), if_neg (by omega)] at hQ
    exact b_X2_restore_v0_0 (fun _ => hQ (u, r, q, o, hy, s0, s1, z, p, f) hI) (fun h1 h2 => by omega) (fun h1 h2 => by omega) (fun _ _ => hQ (u, r, q, o, hy, s0, s1, z, p, f) hI) (p4 := fun h1 h2 => by omega)
theorem mt_X2_restore_v0 (l : Launch) : ab_MT l mi_X2_restore sp_X2_restore_v0 := ab_MT.of (own := "RootChunks") (E := E_X2_restore_v0) (P := P_X2_restore) (M := M_X2_restore) (nL := 2) (ty := 0) (by decide) rfl rfl tk_X2 pk_X2_restore ck_X2_restore_v0 (ab_CT'.cons (mt_X2_remember l) (ab_CT'.cons (mt_X1_copyFrom l) ab_CT'.nil)) (fun av cs Q h => vc_X2_restore_v0 h)
theorem vc_X2_restore_v1 {av : List ab_V} {cs : List ab_C} {Q : ab_Q} (h : sp_X2_restore_v1 av cs Q) : (ab_lv0 av).length ≤ 2 ∧ ab_R E_X2_restore_v1 P_X2_restore Q 0 (ab_ent av 2) [] cs := by
  obtain ⟨⟨u, r, q, o, hy, s0, s1, z, p, f⟩, S, a, rfl, rfl, hI, ha, hk, hQ⟩ := h
  refine ⟨Nat.le_of_ble_eq_true rfl, ?_⟩
  show ab_R E_X2_restore_v1 P_X2_restore Q 0 [some (.inr (.inl (some 0))), some (.inl a)] [] (xz_cs u r q o (hy 0) (hy 1) (hy 2) (hy 3) (hy 4) (hy 5) s0 s1 z p f)
  have hst : mx_st r S.1 := hI.1
  have hH : mx_H u o hy S.2.1 := hI.2.1
  have hs : mx_sl s1 (z 1) (match (1 : Nat) with | 0 => S.2.2.1.1 | _ => S.2.2.1.2) := by
    first | exact hI.2.2.1.1 | exact hI.2.2.1.2
  have ha' := ha
  unfold ab_r at ha'
  by_cases y : a = 1
  · subst y
    have hres : mf_restore S 1 = mf_rest S (match (1 : Nat) with | 0 => S.2.2.1.1 | _ => S.2.2.1.2) := rfl
    rw [hres] at hQ
    generalize (match (1 : Nat) with | 0 => S.2.2.1.1 | _ => S.2.2.1.2) = os at hs hQ
    cases os with
    | none =>
      have hz : z 1 = 0 := hs
      exact b_X2_restore_v1_0 (fun h1 => by omega) (fun _ _ h => absurd hz h) (fun _ _ _ => hQ (u, r, q, o, hy, s0, s1, z, p, f) hI) (fun _ h2 => by omega) (p4 := fun _ _ => by rw [hz]; unfold ab_r; omega)
    | some x =>
      obtain ⟨hz, hx⟩ := (show z 1 = 1 ∧ mx_st s1 x from hs)
      refine b_X2_restore_v1_0 (fun h1 => by omega) (fun _ _ _ => ?_) (fun _ _ h => by omega) (fun _ h2 => by omega) (p4 := fun _ _ => by rw [hz]; unfold ab_r; omega)
      refine ⟨u, r, q, o, hy, s0, s1, z, p, f, S.1, S.2.1, rfl, rfl, hst, hH, fun u' o' h' hH' => ⟨_, _, _, _, _, _, _, _, _, _, _, _, _, _, _, rfl, rfl, ?_⟩⟩
      refine b_X2_restore_v1_28 ?_ (p1 := by decide) (p2 := by decide)
      refine b_X2_restore_v1_38 ⟨r, s1, x.1, rfl, rfl, hx.1, hx.2.1, fun r1 e1 e2 => ⟨_, _, rfl, rfl, b_X2_restore_v1_41 ?_⟩⟩
      have hnn : r1.2.2.2.2.1 = mq_n x.1 := e1.2.2.2.2.1
      rw [hnn]
      exact hQ (u', r1, q, o', h', s0, s1, z, p, f) ⟨⟨e1, hx.2.1, e2.trans hx.2.2⟩, hH', hI.2.2⟩
  · unfold mf_restore at hQ
    rw [if_neg (by omega), if_neg (by omega)] at hQ
    exact b_X2_restore_v1_0 (fun _ => hQ (u, r, q, o, hy, s0, s1, z, p, f) hI) (fun h1 h2 => by omega) (fun h1 h2 => by omega) (fun _ _ => hQ (u, r, q, o, hy, s0, s1, z, p, f) hI) (p4 := fun h1 h2 => by omega)
theorem mt_X2_restore_v1 (l : Launch) : ab_MT l mi_X2_restore sp_X2_restore_v1 := ab_MT.of (own := "RootChunks") (E := E_X2_restore_v1) (P := P_X2_restore) (M := M_X2_restore) (nL := 2) (ty := 0) (by decide) rfl rfl tk_X2 pk_X2_restore ck_X2_restore_v1 (ab_CT'.cons (mt_X2_remember l) (ab_CT'.cons (mt_X1_copyFrom l) ab_CT'.nil)) (fun av cs Q h => vc_X2_restore_v1 h)
theorem mt_X2_restore (l : Launch) : ab_MT l mi_X2_restore sp_X2_restore := by
  intro G ad av cs Q sz h
  obtain ⟨X, S, a, h1, h2, h3, h4, h5⟩ := h
  by_cases y : a = 1
  · exact mt_X2_restore_v1 l G ad av cs Q sz ⟨X, S, a, h1, h2, h3, h4, Or.inl y, h5⟩
  · exact mt_X2_restore_v0 l G ad av cs Q sz ⟨X, S, a, h1, h2, h3, h4, by omega, h5⟩
-- ===== RootChunks.wipe
def P_X2_wipe : List ab_I := [(0, .aload_n 0, 1, []), (1, .getfield 41, 4, []), (4, .getfield 96, 7, []), (7, .istore_n 1, 8, []), (8, .aload_n 0, 9, []), (9, .getfield 41, 12, []), (12, .iconst 0, 13, []), (13, .putfield 96, 16, []), (16, .iload_n 1, 17, []), (17, .ireturn, 18, [])]
def E_X2_wipe : ab_E := (T_X2, [], [], 0)
def M_X2_wipe : List (Nat × ab_MI) := []
def mi_X2_wipe : ab_MI := (yX2_wipe, cX2_wipe, 2, ab_rty 0, 1, 70)
theorem pk_X2_wipe : P_X2_wipe.all (ab_okI cX2_wipe) = true := by decide +kernel
theorem ck_X2_wipe : P_X2_wipe.all (ab_okC1 "RootChunks" M_X2_wipe E_X2_wipe (1, 70)) = true := by decide +kernel
set_option maxRecDepth 100000 in
theorem b_X2_wipe_0 {Q : ab_Q} {u : Int} {r : rw_T} {q : rw_T} {o : List (Option Nat)} {h0 : rw_T} {h1 : rw_T} {h2 : rw_T} {h3 : rw_T} {h4 : rw_T} {h5 : rw_T} {s0 : rw_T} {s1 : rw_T} {z : Int → Int} {pP : Int → Int} {pV : Int → Int} {ppl : Int} {ppp : Int} {ppk : Int} {f : Int → Int} (l1 : Q (some (.inl ppl)) (xz_cs u r q o h0 h1 h2 h3 h4 h5 s0 s1 z (pP, pV, 0, ppp, ppk) f))  : ab_R E_X2_wipe P_X2_wipe Q 0 [some (.inr (.inl (some 0))), none] [] (xz_cs u r q o h0 h1 h2 h3 h4 h5 s0 s1 z (pP, pV, ppl, ppp, ppk) f) :=
  ab_R.steps [] 11 (show Q (some (.inl ppl)) (xz_cs u r q o h0 h1 h2 h3 h4 h5 s0 s1 z (pP, pV, 0, ppp, ppk) f) from l1)
-- ===== RootChunks.countCharacters
def P_X2_countCharacters : List ab_I := [(0, .iconst 0, 1, []), (1, .istore_n 2, 2, []), (2, .iload_n 2, 3, []), (3, .bipush 8, 5, []), (5, .if_icmp .ge 37, 8, [((0 : Int), 42)]), (8, .lload_n 0, 9, []), (9, .iload_n 2, 10, []), (10, .invokestatic 133, 13, []), (13, .ifCond .eq 29, 16, [((0 : Int), 42)]), (16, .lload_n 0, 17, []), (17, .iload_n 2, 18, []), (18, .invokestatic 133, 21, []), (21, .istore_n 3, 22, []), (22, .iload_n 3, 23, []), (23, .bipush 33, 25, []), (25, .if_icmp .lt 9, 28, [((0 : Int), 34)]), (28, .iload_n 3, 29, []), (29, .bipush 126, 31, []), (31, .if_icmp .le 5, 34, [((0 : Int), 36)]), (34, .iconst 0, 35, []), (35, .ireturn, 36, []), (36, .iinc 2 1, 39, []), (39, .goto (-37), 42, [((0 : Int), 2)]), (42, .iload_n 2, 43, []), (43, .bipush 8, 45, []), (45, .if_icmp .ge 16, 48, [((0 : Int), 61)]), (48, .lload_n 0, 49, []), (49, .bipush 8, 51, []), (51, .iload_n 2, 52, []), (52, .imul, 53, []), (53, .lushr, 54, []), (54, .lconst 0, 55, []), (55, .lcmp, 56, []), (56, .ifCond .eq 5, 59, [((0 : Int), 61)]), (59, .iconst 0, 60, []), (60, .ireturn, 61, []), (61, .iload_n 2, 62, []), (62, .ireturn, 63, [])]
def E_X2_countCharacters : ab_E := (T_X2, [(10, (2, 99, [], 0, sp_X2_codeOf)), (18, (2, 99, [], 0, sp_X2_codeOf))], [], 0)
def M_X2_countCharacters : List (Nat × ab_MI) := [(10, mi_X2_codeOf), (18, mi_X2_codeOf)]
def mi_X2_countCharacters : ab_MI := (yX2_countCharacters, cX2_countCharacters, 4, ab_rty 0, 2, 92)
theorem pk_X2_countCharacters : P_X2_countCharacters.all (ab_okI cX2_countCharacters) = true := by decide +kernel
theorem ck_X2_countCharacters : P_X2_countCharacters.all (ab_okC1 "RootChunks" M_X2_countCharacters E_X2_countCharacters (2, 92)) = true := by decide +kernel
set_option maxRecDepth 100000 in
theorem b_X2_countCharacters_0 {Q : ab_Q} {x : Int64} {cs : List ab_C} (l1 : ab_R E_X2_countCharacters P_X2_countCharacters Q 2 [some (.inr (.inr x)), none, some (.inl 0), none] [] cs)  : ab_R E_X2_countCharacters P_X2_countCharacters Q 0 [some (.inr (.inr x)), none, none, none] [] cs :=
  ab_R.steps [2, 13, 21] 4 (show ab_R E_X2_countCharacters P_X2_countCharacters Q 2 [some (.inr (.inr x)), none, some (.inl 0), none] [] cs from l1)
set_option maxRecDepth 100000 in
theorem b_X2_countCharacters_2 {Q : ab_Q} {x : Int64} {n : Int} {cs : List ab_C} (l1 : (8 : Int) ≤ n → (8 : Int) ≤ n → Q (some (.inl n)) cs) (l2 : (8 : Int) ≤ n → n < (8 : Int) → ((lg_cmp ((x.toUInt64 >>> ((Int32.ofInt (8 * n)).toInt64.toUInt64 &&& Int64.toUInt64 63)).toInt64) (Int64.ofNat 0)).toInt) = (0 : Int) → Q (some (.inl n)) cs) (l3 : (8 : Int) ≤ n → n < (8 : Int) → ¬ ((lg_cmp ((x.toUInt64 >>> ((Int32.ofInt (8 * n)).toInt64.toUInt64 &&& Int64.toUInt64 63)).toInt64) (Int64.ofNat 0)).toInt) = (0 : Int) → Q (some (.inl 0)) cs) (l4 : n < (8 : Int) → sp_X2_codeOf [.inr (.inr x), .inl n] cs (fun r_ k_ => ∃ (x_ : Int), r_ = some (.inl x_) ∧ k_ = cs ∧ ab_R E_X2_countCharacters P_X2_countCharacters Q 13 [some (.inr (.inr x)), none, some (.inl n), none] [.inl x_] cs)) (p1 : (ab_r n ∧ ab_r 8) := by intros; (try unfold ab_r); omega) (p2 : (8 : Int) ≤ n → (ab_r n ∧ ab_r 8) := by intros; (try unfold ab_r); omega) (p3 : (8 : Int) ≤ n → n < (8 : Int) → ab_r ((lg_cmp ((x.toUInt64 >>> ((Int32.ofInt (8 * n)).toInt64.toUInt64 &&& Int64.toUInt64 63)).toInt64) (Int64.ofNat 0)).toInt) := by intros; (try unfold ab_r); omega) : ab_R E_X2_countCharacters P_X2_countCharacters Q 2 [some (.inr (.inr x)), none, some (.inl n), none] [] cs :=
  ab_R.steps [2, 13, 21] 17 (show ((ab_r n ∧ ab_r 8) ∧ (((8 : Int) ≤ n → ((ab_r n ∧ ab_r 8) ∧ (((8 : Int) ≤ n → Q (some (.inl n)) cs) ∧ (n < (8 : Int) → (ab_r ((lg_cmp ((x.toUInt64 >>> ((Int32.ofInt (8 * n)).toInt64.toUInt64 &&& Int64.toUInt64 63)).toInt64) (Int64.ofNat 0)).toInt) ∧ ((((lg_cmp ((x.toUInt64 >>> ((Int32.ofInt (8 * n)).toInt64.toUInt64 &&& Int64.toUInt64 63)).toInt64) (Int64.ofNat 0)).toInt) = (0 : Int) → Q (some (.inl n)) cs) ∧ (¬ ((lg_cmp ((x.toUInt64 >>> ((Int32.ofInt (8 * n)).toInt64.toUInt64 &&& Int64.toUInt64 63)).toInt64) (Int64.ofNat 0)).toInt) = (0 : Int) → Q (some (.inl 0)) cs))))))) ∧ (n < (8 : Int) → ab_cl sp_X2_codeOf [.inr (.inr x), .inl n] cs (fun r_ k_ => k_.length = (cs).length → ab_R E_X2_countCharacters P_X2_countCharacters Q 13 [some (.inr (.inr x)), none, some (.inl n), none] (ab_ret r_ []) k_)))) from ⟨p1, ⟨fun h1 => ⟨(p2 h1), ⟨fun h2 => (l1 h1 h2), fun h3 => ⟨(p3 h1 h3), ⟨fun h4 => (l2 h1 h3 h4), fun h5 => (l3 h1 h3 h5)⟩⟩⟩⟩, fun h6 => ⟨_, (l4 h6), fun r_ k_ hz _ => by obtain ⟨x_, rfl, rfl, hR⟩ := hz; exact hR⟩⟩⟩)
set_option maxRecDepth 100000 in
theorem b_X2_countCharacters_13 {Q : ab_Q} {x : Int64} {n : Int} {t0 : Int} {cs : List ab_C} (l1 : t0 = (0 : Int) → (8 : Int) ≤ n → Q (some (.inl n)) cs) (l2 : t0 = (0 : Int) → n < (8 : Int) → ((lg_cmp ((x.toUInt64 >>> ((Int32.ofInt (8 * n)).toInt64.toUInt64 &&& Int64.toUInt64 63)).toInt64) (Int64.ofNat 0)).toInt) = (0 : Int) → Q (some (.inl n)) cs) (l3 : t0 = (0 : Int) → n < (8 : Int) → ¬ ((lg_cmp ((x.toUInt64 >>> ((Int32.ofInt (8 * n)).toInt64.toUInt64 &&& Int64.toUInt64 63)).toInt64) (Int64.ofNat 0)).toInt) = (0 : Int) → Q (some (.inl 0)) cs) (l4 : ¬ t0 = (0 : Int) → sp_X2_codeOf [.inr (.inr x), .inl n] cs (fun r_ k_ => ∃ (x_ : Int), r_ = some (.inl x_) ∧ k_ = cs ∧ ab_R E_X2_countCharacters P_X2_countCharacters Q 21 [some (.inr (.inr x)), none, some (.inl n), none] [.inl x_] cs)) (p1 : ab_r t0 := by intros; (try unfold ab_r); omega) (p2 : t0 = (0 : Int) → (ab_r n ∧ ab_r 8) := by intros; (try unfold ab_r); omega) (p3 : t0 = (0 : Int) → n < (8 : Int) → ab_r ((lg_cmp ((x.toUInt64 >>> ((Int32.ofInt (8 * n)).toInt64.toUInt64 &&& Int64.toUInt64 63)).toInt64) (Int64.ofNat 0)).toInt) := by intros; (try unfold ab_r); omega) : ab_R E_X2_countCharacters P_X2_countCharacters Q 13 [some (.inr (.inr x)), none, some (.inl n), none] [.inl t0] cs :=
  ab_R.steps [2, 13, 21] 15 (show (ab_r t0 ∧ ((t0 = (0 : Int) → ((ab_r n ∧ ab_r 8) ∧ (((8 : Int) ≤ n → Q (some (.inl n)) cs) ∧ (n < (8 : Int) → (ab_r ((lg_cmp ((x.toUInt64 >>> ((Int32.ofInt (8 * n)).toInt64.toUInt64 &&& Int64.toUInt64 63)).toInt64) (Int64.ofNat 0)).toInt) ∧ ((((lg_cmp ((x.toUInt64 >>> ((Int32.ofInt (8 * n)).toInt64.toUInt64 &&& Int64.toUInt64 63)).toInt64) (Int64.ofNat 0)).toInt) = (0 : Int) → Q (some (.inl n)) cs) ∧ (¬ ((lg_cmp ((x.toUInt64 >>> ((Int32.ofInt (8 * n)).toInt64.toUInt64 &&& Int64.toUInt64 63)).toInt64) (Int64.ofNat 0)).toInt) = (0 : Int) → Q (some (.inl 0)) cs))))))) ∧ (¬ t0 = (0 : Int) → ab_cl sp_X2_codeOf [.inr (.inr x), .inl n] cs (fun r_ k_ => k_.length = (cs).length → ab_R E_X2_countCharacters P_X2_countCharacters Q 21 [some (.inr (.inr x)), none, some (.inl n), none] (ab_ret r_ []) k_)))) from ⟨p1, ⟨fun h1 => ⟨(p2 h1), ⟨fun h2 => (l1 h1 h2), fun h3 => ⟨(p3 h1 h3), ⟨fun h4 => (l2 h1 h3 h4), fun h5 => (l3 h1 h3 h5)⟩⟩⟩⟩, fun h6 => ⟨_, (l4 h6), fun r_ k_ hz _ => by obtain ⟨x_, rfl, rfl, hR⟩ := hz; exact hR⟩⟩⟩)
set_option maxRecDepth 100000 in
theorem b_X2_countCharacters_21 {Q : ab_Q} {x : Int64} {n : Int} {t0 : Int} {cs : List ab_C} (l1 : t0 < (33 : Int) → Q (some (.inl 0)) cs) (l2 : (33 : Int) ≤ t0 → t0 ≤ (126 : Int) → ab_R E_X2_countCharacters P_X2_countCharacters Q 2 [some (.inr (.inr x)), none, some (.inl (n + 1)), none] [] cs) (l3 : (33 : Int) ≤ t0 → (126 : Int) < t0 → Q (some (.inl 0)) cs) (p1 : (ab_r t0 ∧ ab_r 33) := by intros; (try unfold ab_r); omega) (p2 : (33 : Int) ≤ t0 → (ab_r t0 ∧ ab_r 126) := by intros; (try unfold ab_r); omega) : ab_R E_X2_countCharacters P_X2_countCharacters Q 21 [some (.inr (.inr x)), none, some (.inl n), none] [.inl t0] cs :=
  ab_R.steps [2, 13, 21] 11 (show ((ab_r t0 ∧ ab_r 33) ∧ ((t0 < (33 : Int) → Q (some (.inl 0)) cs) ∧ ((33 : Int) ≤ t0 → ((ab_r t0 ∧ ab_r 126) ∧ ((t0 ≤ (126 : Int) → ab_R E_X2_countCharacters P_X2_countCharacters Q 2 [some (.inr (.inr x)), none, some (.inl (n + 1)), some (.inl t0)] [] cs) ∧ ((126 : Int) < t0 → Q (some (.inl 0)) cs)))))) from ⟨p1, ⟨fun h1 => (l1 h1), fun h2 => ⟨(p2 h2), ⟨fun h3 => (ab_R.fg 3 rfl (l2 h2 h3)), fun h4 => (l3 h2 h4)⟩⟩⟩⟩)
-- ===== RootChunks.put
def P_X2_put : List ab_I := [(0, .lload_n 1, 1, []), (1, .invokestatic 129, 4, []), (4, .istore_n 3, 5, []), (5, .iload_n 3, 6, []), (6, .ifCond .ne 6, 9, [((0 : Int), 12)]), (9, .bipush (-2), 11, []), (11, .ireturn, 12, []), (12, .iload_n 3, 13, []), (13, .bipush 80, 15, []), (15, .aload_n 0, 16, []), (16, .getfield 41, 19, []), (19, .getfield 96, 22, []), (22, .isub, 23, []), (23, .if_icmp .le 6, 26, [((0 : Int), 29)]), (26, .bipush (-4), 28, []), (28, .ireturn, 29, []), (29, .iload_n 3, 30, []), (30, .iconst 1, 31, []), (31, .isub, 32, []), (32, .istore 4, 34, []), (34, .iload 4, 36, []), (36, .ifCond .lt 23, 39, [((0 : Int), 59)]), (39, .aload_n 0, 40, []), (40, .getfield 41, 43, []), (43, .lload_n 1, 44, []), (44, .iload 4, 46, []), (46, .invokestatic 133, 49, []), (49, .i2c, 50, []), (50, .invokevirtual 137, 53, []), (53, .iinc 4 (-1), 56, []), (56, .goto (-22), 59, [((0 : Int), 34)]), (59, .aload_n 0, 60, []), (60, .getfield 41, 63, []), (63, .getfield 96, 66, []), (66, .ireturn, 67, [])]
def E_X2_put : ab_E := (T_X2, [(1, (1, 99, [], 0, sp_X2_countCharacters)), (46, (2, 99, [], 0, sp_X2_codeOf)), (50, (2, 0, [54, 55, 56], 3, sp_X0_append))], [], 0)
def M_X2_put : List (Nat × ab_MI) := [(1, mi_X2_countCharacters), (46, mi_X2_codeOf), (50, mi_X0_append)]
def mi_X2_put : ab_MI := (yX2_put, cX2_put, 5, ab_rty 0, 3, 115)
theorem pk_X2_put : P_X2_put.all (ab_okI cX2_put) = true := by decide +kernel
theorem ck_X2_put : P_X2_put.all (ab_okC1 "RootChunks" M_X2_put E_X2_put (3, 115)) = true := by decide +kernel
set_option maxRecDepth 100000 in
theorem b_X2_put_0 {Q : ab_Q} {x : Int64} {u : Int} {r : rw_T} {q : rw_T} {o : List (Option Nat)} {h0 : rw_T} {h1 : rw_T} {h2 : rw_T} {h3 : rw_T} {h4 : rw_T} {h5 : rw_T} {s0 : rw_T} {s1 : rw_T} {z : Int → Int} {p : pd_T} {f : Int → Int} (l1 : sp_X2_countCharacters [.inr (.inr x)] (xz_cs u r q o h0 h1 h2 h3 h4 h5 s0 s1 z p f) (fun r_ k_ => ∃ (x_ : Int), r_ = some (.inl x_) ∧ k_ = (xz_cs u r q o h0 h1 h2 h3 h4 h5 s0 s1 z p f) ∧ ab_R E_X2_put P_X2_put Q 4 [some (.inr (.inl (some 0))), some (.inr (.inr x)), none, none, none] [.inl x_] (xz_cs u r q o h0 h1 h2 h3 h4 h5 s0 s1 z p f)))  : ab_R E_X2_put P_X2_put Q 0 [some (.inr (.inl (some 0))), some (.inr (.inr x)), none, none, none] [] (xz_cs u r q o h0 h1 h2 h3 h4 h5 s0 s1 z p f) :=
  ab_R.steps [4, 34, 49, 53] 3 (show ab_cl sp_X2_countCharacters [.inr (.inr x)] (xz_cs u r q o h0 h1 h2 h3 h4 h5 s0 s1 z p f) (fun r_ k_ => k_.length = ((xz_cs u r q o h0 h1 h2 h3 h4 h5 s0 s1 z p f)).length → ab_R E_X2_put P_X2_put Q 4 [some (.inr (.inl (some 0))), some (.inr (.inr x)), none, none, none] (ab_ret r_ []) k_) from ⟨_, l1, fun r_ k_ hz _ => by obtain ⟨x_, rfl, rfl, hR⟩ := hz; exact hR⟩)
set_option maxRecDepth 100000 in
theorem b_X2_put_4 {Q : ab_Q} {x : Int64} {t0 : Int} {u : Int} {r : rw_T} {q : rw_T} {o : List (Option Nat)} {h0 : rw_T} {h1 : rw_T} {h2 : rw_T} {h3 : rw_T} {h4 : rw_T} {h5 : rw_T} {s0 : rw_T} {s1 : rw_T} {z : Int → Int} {p : pd_T} {f : Int → Int} (l1 : ¬ t0 = (0 : Int) → t0 ≤ (80 - p.2.2.1) → ab_R E_X2_put P_X2_put Q 34 [some (.inr (.inl (some 0))), some (.inr (.inr x)), none, some (.inl t0), some (.inl (t0 - 1))] [] (xz_cs u r q o h0 h1 h2 h3 h4 h5 s0 s1 z p f)) (l2 : ¬ t0 = (0 : Int) → (80 - p.2.2.1) < t0 → Q (some (.inl (-4))) (xz_cs u r q o h0 h1 h2 h3 h4 h5 s0 s1 z p f)) (l3 : t0 = (0 : Int) → Q (some (.inl (-2))) (xz_cs u r q o h0 h1 h2 h3 h4 h5 s0 s1 z p f)) (p1 : ab_r t0 := by intros; (try unfold ab_r); omega) (p2 : ¬ t0 = (0 : Int) → (ab_r t0 ∧ ab_r (80 - p.2.2.1)) := by intros; (try unfold ab_r); omega) : ab_R E_X2_put P_X2_put Q 4 [some (.inr (.inl (some 0))), some (.inr (.inr x)), none, none, none] [.inl t0] (xz_cs u r q o h0 h1 h2 h3 h4 h5 s0 s1 z p f) :=
  ab_R.steps [4, 34, 49, 53] 16 (show (ab_r t0 ∧ ((¬ t0 = (0 : Int) → ((ab_r t0 ∧ ab_r (80 - p.2.2.1)) ∧ ((t0 ≤ (80 - p.2.2.1) → ab_R E_X2_put P_X2_put Q 34 [some (.inr (.inl (some 0))), some (.inr (.inr x)), none, some (.inl t0), some (.inl (t0 - 1))] [] (xz_cs u r q o h0 h1 h2 h3 h4 h5 s0 s1 z p f)) ∧ ((80 - p.2.2.1) < t0 → Q (some (.inl (-4))) (xz_cs u r q o h0 h1 h2 h3 h4 h5 s0 s1 z p f))))) ∧ (t0 = (0 : Int) → Q (some (.inl (-2))) (xz_cs u r q o h0 h1 h2 h3 h4 h5 s0 s1 z p f)))) from ⟨p1, ⟨fun h1 => ⟨(p2 h1), ⟨fun h2 => (l1 h1 h2), fun h3 => (l2 h1 h3)⟩⟩, fun h4 => (l3 h4)⟩⟩)
set_option maxRecDepth 100000 in
theorem b_X2_put_34 {Q : ab_Q} {x : Int64} {n : Int} {i : Int} {u : Int} {r : rw_T} {q : rw_T} {o : List (Option Nat)} {h0 : rw_T} {h1 : rw_T} {h2 : rw_T} {h3 : rw_T} {h4 : rw_T} {h5 : rw_T} {s0 : rw_T} {s1 : rw_T} {z : Int → Int} {p : pd_T} {f : Int → Int} (l1 : i < (0 : Int) → Q (some (.inl p.2.2.1)) (xz_cs u r q o h0 h1 h2 h3 h4 h5 s0 s1 z p f)) (l2 : (0 : Int) ≤ i → sp_X2_codeOf [.inr (.inr x), .inl i] (xz_cs u r q o h0 h1 h2 h3 h4 h5 s0 s1 z p f) (fun r_ k_ => ∃ (x_ : Int), r_ = some (.inl x_) ∧ k_ = (xz_cs u r q o h0 h1 h2 h3 h4 h5 s0 s1 z p f) ∧ ab_R E_X2_put P_X2_put Q 49 [some (.inr (.inl (some 0))), some (.inr (.inr x)), none, some (.inl n), some (.inl i)] [.inl x_, .inr (.inl (some 54))] (xz_cs u r q o h0 h1 h2 h3 h4 h5 s0 s1 z p f))) (p1 : ab_r i := by intros; (try unfold ab_r); omega) : ab_R E_X2_put P_X2_put Q 34 [some (.inr (.inl (some 0))), some (.inr (.inr x)), none, some (.inl n), some (.inl i)] [] (xz_cs u r q o h0 h1 h2 h3 h4 h5 s0 s1 z p f) :=
  ab_R.steps [4, 34, 49, 53] 8 (show (ab_r i ∧ ((i < (0 : Int) → Q (some (.inl p.2.2.1)) (xz_cs u r q o h0 h1 h2 h3 h4 h5 s0 s1 z p f)) ∧ ((0 : Int) ≤ i → ab_cl sp_X2_codeOf [.inr (.inr x), .inl i] (xz_cs u r q o h0 h1 h2 h3 h4 h5 s0 s1 z p f) (fun r_ k_ => k_.length = ((xz_cs u r q o h0 h1 h2 h3 h4 h5 s0 s1 z p f)).length → ab_R E_X2_put P_X2_put Q 49 [some (.inr (.inl (some 0))), some (.inr (.inr x)), none, some (.inl n), some (.inl i)] (ab_ret r_ [.inr (.inl (some 54))]) k_)))) from ⟨p1, ⟨fun h1 => (l1 h1), fun h2 => ⟨_, (l2 h2), fun r_ k_ hz _ => by obtain ⟨x_, rfl, rfl, hR⟩ := hz; exact hR⟩⟩⟩)
set_option maxRecDepth 100000 in
theorem b_X2_put_49 {Q : ab_Q} {x : Int64} {n : Int} {i : Int} {t0 : Int} {u : Int} {r : rw_T} {q : rw_T} {o : List (Option Nat)} {h0 : rw_T} {h1 : rw_T} {h2 : rw_T} {h3 : rw_T} {h4 : rw_T} {h5 : rw_T} {s0 : rw_T} {s1 : rw_T} {z : Int → Int} {p : pd_T} {f : Int → Int} (l1 : sp_X0_append [.inr (.inl (some 0)), .inl t0] (pd_cs p) (fun r_ k_ => ∃ (p' : pd_T), r_ = none ∧ k_ = (pd_cs p') ∧ ab_R E_X2_put P_X2_put Q 53 [some (.inr (.inl (some 0))), some (.inr (.inr x)), none, some (.inl n), some (.inl i)] [] (xz_cs u r q o h0 h1 h2 h3 h4 h5 s0 s1 z p' f))) (p1 : (0 ≤ t0 ∧ t0 < 65536) := by intros; (try unfold ab_r); omega) : ab_R E_X2_put P_X2_put Q 49 [some (.inr (.inl (some 0))), some (.inr (.inr x)), none, some (.inl n), some (.inl i)] [.inl t0, .inr (.inl (some 54))] (xz_cs u r q o h0 h1 h2 h3 h4 h5 s0 s1 z p f) :=
  ab_R.steps [4, 34, 49, 53] 3 (show ((0 ≤ t0 ∧ t0 < 65536) ∧ ab_cl sp_X0_append [.inr (.inl (some 0)), .inl t0] (pd_cs p) (fun r_ k_ => k_.length = 3 → ab_R E_X2_put P_X2_put Q 53 [some (.inr (.inl (some 0))), some (.inr (.inr x)), none, some (.inl n), some (.inl i)] (ab_ret (r_.map (ab_reV [54, 55, 56])) []) (ab_back [54, 55, 56] [54, 55, 56] k_ (xz_cs u r q o h0 h1 h2 h3 h4 h5 s0 s1 z p f)))) from ⟨p1, ⟨_, l1, fun r_ k_ hz _ => by obtain ⟨p', rfl, rfl, hR⟩ := hz; exact hR⟩⟩)
set_option maxRecDepth 100000 in
theorem b_X2_put_53 {Q : ab_Q} {x : Int64} {n : Int} {i : Int} {u : Int} {r : rw_T} {q : rw_T} {o : List (Option Nat)} {h0 : rw_T} {h1 : rw_T} {h2 : rw_T} {h3 : rw_T} {h4 : rw_T} {h5 : rw_T} {s0 : rw_T} {s1 : rw_T} {z : Int → Int} {p : pd_T} {f : Int → Int} (l1 : ab_R E_X2_put P_X2_put Q 34 [some (.inr (.inl (some 0))), some (.inr (.inr x)), none, some (.inl n), some (.inl (i + (-1)))] [] (xz_cs u r q o h0 h1 h2 h3 h4 h5 s0 s1 z p f))  : ab_R E_X2_put P_X2_put Q 53 [some (.inr (.inl (some 0))), some (.inr (.inr x)), none, some (.inl n), some (.inl i)] [] (xz_cs u r q o h0 h1 h2 h3 h4 h5 s0 s1 z p f) :=
  ab_R.steps [4, 34, 49, 53] 4 (show ab_R E_X2_put P_X2_put Q 34 [some (.inr (.inl (some 0))), some (.inr (.inr x)), none, some (.inl n), some (.inl (i + (-1)))] [] (xz_cs u r q o h0 h1 h2 h3 h4 h5 s0 s1 z p f) from l1)
theorem vc_X2_wipe {av : List ab_V} {cs : List ab_C} {Q : ab_Q} (h : sp_X2_wipe av cs Q) : (ab_lv0 av).length ≤ 2 ∧ ab_R E_X2_wipe P_X2_wipe Q 0 (ab_ent av 2) [] cs := by
  obtain ⟨⟨u, r, q, o, hy, s0, s1, z, ⟨P, V, pl, pp, pk⟩, f⟩, S, rfl, rfl, hI, hQ⟩ := h
  refine ⟨Nat.le_of_ble_eq_true rfl, ?_⟩
  show ab_R E_X2_wipe P_X2_wipe Q 0 [some (.inr (.inl (some 0))), none] [] (xz_cs u r q o (hy 0) (hy 1) (hy 2) (hy 3) (hy 4) (hy 5) s0 s1 z (P, V, pl, pp, pk) f)
  have hP : mx_P (P, V, pl, pp, pk) S.2.2.2 := hI.2.2.2
  have hln : pl = (S.2.2.2.length : Nat) := hP.1.2.1
  have hQ := hQ (u, r, q, o, hy, s0, s1, z, (P, V, 0, pp, pk), f) ⟨hI.1, hI.2.1, hI.2.2.1, ⟨mq_al_nil _, rfl, by simp, fun x hx => by simp at hx⟩, hP.2⟩
  dsimp only at hQ
  rw [← hln] at hQ
  exact b_X2_wipe_0 hQ
theorem mt_X2_wipe (l : Launch) : ab_MT l mi_X2_wipe sp_X2_wipe := ab_MT.of (own := "RootChunks") (E := E_X2_wipe) (P := P_X2_wipe) (M := M_X2_wipe) (nL := 2) (ty := 0) (by decide) rfl rfl tk_X2 pk_X2_wipe ck_X2_wipe ab_CT'.nil (fun av cs Q h => vc_X2_wipe h)
theorem mb_top (x : Int64) : mb_N x / 256 ^ 8 = 0 := Nat.div_eq_of_lt (UInt64.toNat_lt _)
theorem vc_X2_countCharacters {av : List ab_V} {cs : List ab_C} {Q : ab_Q} (h : sp_X2_countCharacters av cs Q) : (ab_lv0 av).length ≤ 4 ∧ ab_R E_X2_countCharacters P_X2_countCharacters Q 0 (ab_ent av 4) [] cs := by
  obtain ⟨x, S, rfl, hQ0, hQ1⟩ := h
  refine ⟨Nat.le_of_ble_eq_true rfl, ?_⟩
  have loop : ∀ (m : Nat) (acc : List Int) (n : Int), n + m = 8 → n = (acc.length : Nat) → mb_w x = acc ++ mb_l m (mb_N x / 256 ^ acc.length) → mb_all acc = true →
      ab_R E_X2_countCharacters P_X2_countCharacters Q 2 [some (.inr (.inr x)), none, some (.inl n), none] [] cs := by
    intro m
    induction m with
    | zero =>
      intro acc n g1 g2 g3 g4
      have e : mb_w x = acc := by rw [g3]; unfold mb_l; simp
      refine b_X2_countCharacters_2 (fun _ _ => ?_) (fun _ h => by omega) (fun _ h => by omega) (fun h => by omega) (p3 := fun _ h => by omega)
      have hl : acc.length = 8 := by omega
      have := hQ1 (mb_bad_no (by rw [e]; omega) (by rw [e, g4]; simp) (by rw [e, hl]; exact mb_top x))
      rw [e, ← g2] at this
      exact this
    | succ m ih =>
      intro acc n g1 g2 g3 g4
      have hsh := mb_sh (y := x) (k := n) (by omega) (by omega)
      have hnt : n.toNat = acc.length := by omega
      rw [hnt] at hsh
      have hz := mb_zero ((x.toUInt64 >>> ((Int32.ofInt (8 * n)).toInt64.toUInt64 &&& Int64.toUInt64 63)).toInt64)
      rw [hsh] at hz
      have hlt : mb_N x / 256 ^ acc.length % 256 < 256 := Nat.mod_lt _ (by decide)
      refine b_X2_countCharacters_2 (fun h => by omega) (fun h => by omega) (fun h => by omega) (fun _ => ⟨_, _, rfl, by omega, by omega, _, rfl, rfl, ?_⟩) (p3 := fun h => by omega)
      rw [hnt]
      by_cases h0 : mb_N x / 256 ^ acc.length % 256 = 0
      · have e : mb_w x = acc := by rw [g3]; unfold mb_l; rw [if_pos h0]; simp
        refine b_X2_countCharacters_13 (fun _ h => by omega) (fun _ _ hc => ?_) (fun _ _ hc => ?_) (fun h => absurd (by omega) h) (p3 := fun _ _ => mb_cr _ _)
        · have hr := hz.mp hc
          by_cases hl : acc.length = 0
          · have := hQ0 (mb_bad_len (by rw [e]; exact hl))
            rw [show n = 0 by omega]
            exact this
          · have := hQ1 (mb_bad_no (by rw [e]; exact hl) (by rw [e, g4]; simp) (by rw [e]; exact hr))
            rw [e, ← g2] at this
            exact this
        · exact hQ0 (mb_bad_rest (by rw [e]; exact fun q => hc (hz.mpr q)))
      · have el : mb_l (m + 1) (mb_N x / 256 ^ acc.length) = ((mb_N x / 256 ^ acc.length % 256 : Nat) : Int) :: mb_l m (mb_N x / 256 ^ acc.length / 256) := by
          conv => lhs; unfold mb_l
          rw [if_neg h0]
        rw [el] at g3
        have hbad : ¬ mb_ch ((mb_N x / 256 ^ acc.length % 256 : Nat) : Int) → mf_bad S x = true := by
          intro hc
          refine mb_bad_all ?_
          have e2 : mb_all (((mb_N x / 256 ^ acc.length % 256 : Nat) : Int) :: mb_l m (mb_N x / 256 ^ acc.length / 256)) = (decide (mb_ch ((mb_N x / 256 ^ acc.length % 256 : Nat) : Int)) && mb_all (mb_l m (mb_N x / 256 ^ acc.length / 256))) := List.all_cons
          rw [g3, mb_all_app, e2, decide_eq_false hc]
          simp
        refine b_X2_countCharacters_13 (fun h => by omega) (fun h => by omega) (fun h => by omega) (fun _ => ⟨_, _, rfl, by omega, by omega, _, rfl, rfl, ?_⟩) (p3 := fun h => by omega)
        rw [hnt]
        refine b_X2_countCharacters_21 (fun h => hQ0 (hbad (fun q => by unfold mb_ch at q; omega))) (fun h1 h2 => ?_) (fun h1 h2 => hQ0 (hbad (fun q => by unfold mb_ch at q; omega)))
        refine ih (acc ++ [((mb_N x / 256 ^ acc.length % 256 : Nat) : Int)]) (n + 1) (by omega) (by rw [List.length_append, List.length_singleton]; omega) ?_ ?_
        · rw [List.length_append, List.length_singleton, Nat.pow_succ, ← Nat.div_div_eq_div_mul, g3, List.append_assoc]
          rfl
        · rw [mb_all_app, g4, mb_all_one, decide_eq_true (show mb_ch _ from ⟨h1, h2⟩)]
          rfl
  exact b_X2_countCharacters_0 (loop 8 [] 0 (by omega) rfl (by rw [List.length_nil, Nat.pow_zero, Nat.div_one]; rfl) rfl)
theorem mt_X2_countCharacters (l : Launch) : ab_MT l mi_X2_countCharacters sp_X2_countCharacters := ab_MT.of (own := "RootChunks") (E := E_X2_countCharacters) (P := P_X2_countCharacters) (M := M_X2_countCharacters) (nL := 4) (ty := 0) (by decide) rfl rfl tk_X2 pk_X2_countCharacters ck_X2_countCharacters (ab_CT'.cons (mt_X2_codeOf l) (ab_CT'.cons (mt_X2_codeOf l) ab_CT'.nil)) (fun av cs Q h => vc_X2_countCharacters h)
theorem vc_X2_put {av : List ab_V} {cs : List ab_C} {Q : ab_Q} (h : sp_X2_put av cs Q) : (ab_lv0 av).length ≤ 5 ∧ ab_R E_X2_put P_X2_put Q 0 (ab_ent av 5) [] cs := by
  obtain ⟨⟨u, r, q, o, hy, s0, s1, z, ⟨P, V, pl, pp, pk⟩, f⟩, S, x, rfl, rfl, hI, hQ⟩ := h
  refine ⟨Nat.le_of_ble_eq_true rfl, ?_⟩
  show ab_R E_X2_put P_X2_put Q 0 [some (.inr (.inl (some 0))), some (.inr (.inr x)), none, none, none] [] (xz_cs u r q o (hy 0) (hy 1) (hy 2) (hy 3) (hy 4) (hy 5) s0 s1 z (P, V, pl, pp, pk) f)
  have hP : mx_P (P, V, pl, pp, pk) S.2.2.2 := hI.2.2.2
  have hPP : mh_P P pl S.2.2.2 := hP.1
  have hln : pl = (S.2.2.2.length : Nat) := hPP.2.1
  have hl80 := hPP.2.2.1
  have hwl : (mb_w x).length ≤ 8 := mb_l_len 8 _
  unfold mf_put at hQ
  refine b_X2_put_0 ⟨x, S, rfl, fun hb => ⟨_, rfl, rfl, ?_⟩, fun hb => ⟨_, rfl, rfl, ?_⟩⟩
  · rw [if_pos hb] at hQ
    exact b_X2_put_4 (fun h => absurd rfl h) (fun h => absurd rfl h) (fun _ => hQ (u, r, q, o, hy, s0, s1, z, (P, V, pl, pp, pk), f) hI)
  · have hpos : ¬ (mb_w x).length = 0 := fun e => hb (mb_bad_len e)
    rw [if_neg hb] at hQ
    refine b_X2_put_4 (fun _ h80 => ?_) (fun _ h80 => ?_) (fun h => by omega) (p2 := fun _ => by unfold ab_r; dsimp only; omega)
    · dsimp only at h80
      rw [if_pos (by omega)] at hQ
      have hall : mb_all (mb_w x) = true := by
        cases hc : mb_all (mb_w x) with
        | true => rfl
        | false => exact absurd (mb_bad_all hc) hb
      have loop : ∀ (m k : Nat) (P1 : Int → Int) (pl1 i : Int), k + m = (mb_w x).length → i = ((mb_w x).length : Int) - 1 - k → mh_P P1 pl1 (S.2.2.2 ++ (mb_w x).reverse.take k) → ab_R E_X2_put P_X2_put Q 34 [some (.inr (.inl (some 0))), some (.inr (.inr x)), none, some (.inl ((mb_w x).length : Nat)), some (.inl i)] [] (xz_cs u r q o (hy 0) (hy 1) (hy 2) (hy 3) (hy 4) (hy 5) s0 s1 z (P1, V, pl1, pp, pk) f) := by
        intro m
        induction m with
        | zero =>
          intro k P1 pl1 i g1 g2 g3
          have hk : k = (mb_w x).length := by omega
          subst hk
          rw [List.take_of_length_le (by rw [List.length_reverse]; omega)] at g3
          refine b_X2_put_34 (fun _ => ?_) (fun h => by omega)
          have hq := hQ (u, r, q, o, hy, s0, s1, z, (P1, V, pl1, pp, pk), f) ⟨hI.1, hI.2.1, hI.2.2.1, g3, hP.2⟩
          have hl2 := g3.2.1
          rw [List.length_append, List.length_reverse] at hl2
          dsimp only at hq
          rw [show (S.2.2.2.length : Int) + ((mb_w x).length : Nat) = pl1 by omega] at hq
          exact hq
        | succ m ih =>
          intro k P1 pl1 i g1 g2 g3
          have hk : k < (mb_w x).length := by omega
          have hit : i.toNat = (mb_w x).length - 1 - k := by omega
          have hrev := mb_rev_at hk
          have hmem : ((mb_N x / 256 ^ ((mb_w x).length - 1 - k) % 256 : Nat) : Int) ∈ mb_w x := by
            have : ((mb_N x / 256 ^ ((mb_w x).length - 1 - k) % 256 : Nat) : Int) ∈ (mb_w x).reverse.take (k + 1) := by rw [hrev]; simp
            exact List.mem_reverse.mp (List.mem_of_mem_take this)
          have hch : mb_ch ((mb_N x / 256 ^ ((mb_w x).length - 1 - k) % 256 : Nat) : Int) := by
            unfold mb_all at hall
            exact of_decide_eq_true (List.all_eq_true.mp hall _ hmem)
          have hln3 := g3.2.1
          rw [List.length_append, List.length_take, List.length_reverse] at hln3
          refine b_X2_put_34 (fun h => by omega) (fun _ => ⟨_, _, rfl, by omega, by omega, _, rfl, rfl, ?_⟩)
          rw [hit]
          unfold mb_ch at hch
          refine b_X2_put_49 ⟨P1, V, pl1, pp, pk, _, _, rfl, rfl, g3, by rw [List.length_append, List.length_take, List.length_reverse]; omega, hch.1, hch.2, fun P2 hP2 => ⟨_, rfl, rfl, b_X2_put_53 ?_⟩⟩
          rw [List.append_assoc, ← hrev] at hP2
          exact ih (k + 1) P2 _ _ (by omega) (by omega) hP2
      exact loop (mb_w x).length 0 P pl _ (by omega) (by omega) (by rw [List.take_zero, List.append_nil]; exact hPP)
    · dsimp only at h80
      rw [if_neg (by omega)] at hQ
      exact hQ (u, r, q, o, hy, s0, s1, z, (P, V, pl, pp, pk), f) hI
theorem mt_X2_put (l : Launch) : ab_MT l mi_X2_put sp_X2_put := ab_MT.of (own := "RootChunks") (E := E_X2_put) (P := P_X2_put) (M := M_X2_put) (nL := 5) (ty := 0) (by decide) rfl rfl tk_X2 pk_X2_put ck_X2_put (ab_CT'.cons (mt_X2_countCharacters l) (ab_CT'.cons (mt_X2_codeOf l) (ab_CT'.cons (mt_X0_append l) ab_CT'.nil))) (fun av cs Q h => vc_X2_put h)
