/-! THE CLASS: undone, saved, wiped, put -/
def sp_X2_und (k : Nat) : ab_Sp := fun av cs Q => ∃ (X : mx_W) (S : mS_T) (d : Nat), av = [.inr (.inl (some 0))] ∧ cs = mx_cs X ∧ mx_inv X S ∧ mx_Hd d X.1 X.2.2.2.1 X.2.2.2.2.1 S.2.1 ∧ (S.2.1.length + 5 + d) % 6 = k ∧ mx_out Q (mf_undo S)
def sp_X2_undo_v0 : ab_Sp := sp_X2_und 0
def sp_X2_undo_v1 : ab_Sp := sp_X2_und 1
def sp_X2_undo_v2 : ab_Sp := sp_X2_und 2
def sp_X2_undo_v3 : ab_Sp := sp_X2_und 3
def sp_X2_undo_v4 : ab_Sp := sp_X2_und 4
def sp_X2_undo_v5 : ab_Sp := sp_X2_und 5
def sp_X2_undo : ab_Sp := mx_in0 mf_undo
def sp_X2_sav (k : Int) : ab_Sp := fun av cs Q => ∃ (X : mx_W) (S : mS_T) (a : Int), av = [.inr (.inl (some 0)), .inl a] ∧ cs = mx_cs X ∧ mx_inv X S ∧ ab_r a ∧ (a = k ∨ a < 0 ∨ 2 ≤ a) ∧ mx_out Q (mf_save S a)
def sp_X2_save_v0 : ab_Sp := sp_X2_sav 0
def sp_X2_save_v1 : ab_Sp := sp_X2_sav 1
def sp_X2_save : ab_Sp := mx_in1 mf_save
def sp_X2_rst (k : Int) : ab_Sp := fun av cs Q => ∃ (X : mx_W) (S : mS_T) (a : Int), av = [.inr (.inl (some 0)), .inl a] ∧ cs = mx_cs X ∧ mx_inv X S ∧ ab_r a ∧ (a = k ∨ a < 0 ∨ 2 ≤ a) ∧ mx_out Q (mf_restore S a)
def sp_X2_restore_v0 : ab_Sp := sp_X2_rst 0
def sp_X2_restore_v1 : ab_Sp := sp_X2_rst 1
def sp_X2_restore : ab_Sp := mx_in1 mf_restore
def P_X2_undo : List ab_I := [(0, .aload_n 0, 1, []), (1, .getfield 27, 4, []), (4, .ifCond .ne 6, 7, [((0 : Int), 10)]), (7, .bipush (-5), 9, []), (9, .ireturn, 10, []), (10, .aload_n 0, 11, []), (11, .dup, 12, []), (12, .getfield 27, 15, []), (15, .iconst 1, 16, []), (16, .isub, 17, []), (17, .putfield 27, 20, []), (20, .aload_n 0, 21, []), (21, .getfield 10, 24, []), (24, .aload_n 0, 25, []), (25, .getfield 23, 28, []), (28, .aload_n 0, 29, []), (29, .getfield 27, 32, []), (32, .aaload, 33, []), (33, .invokevirtual 118, 36, []), (36, .aload_n 0, 37, []), (37, .getfield 27, 40, []), (40, .ireturn, 41, [])]
def E_X2_undo_v0 : ab_E := (T_X2, [(33, (2, 1, [1, 2, 3, 4, 5, 12, 13, 14, 15, 16], 10, sp_X1_copyFrom))], [], 0)
def M_X2_undo : List (Nat × ab_MI) := [(33, mi_X1_copyFrom)]
def mi_X2_undo : ab_MI := (yX2_undo, cX2_undo, 1, ab_rty 0, 2, 91)
theorem pk_X2_undo : P_X2_undo.all (ab_okI cX2_undo) = true := by decide +kernel
theorem ck_X2_undo_v0 : P_X2_undo.all (ab_okC1 "RootChunks" M_X2_undo E_X2_undo_v0 (2, 91)) = true := by decide +kernel
set_option maxRecDepth 100000 in
theorem b_X2_undo_v0_0 {Q : ab_Q} {u : Int} {r : rw_T} {q : rw_T} {o : List (Option Nat)} {h0 : rw_T} {h1 : rw_T} {h2 : rw_T} {h3 : rw_T} {h4 : rw_T} {h5 : rw_T} {s0 : rw_T} {s1 : rw_T} {z : Int → Int} {p : pd_T} {f : Int → Int} (l1 : ¬ u = (0 : Int) → ab_R E_X2_undo_v0 P_X2_undo Q 33 [some (.inr (.inl (some 0)))] [.inr (.inl (o.getD (u - 1).toNat none)), .inr (.inl (some 1))] (xz_cs ((u - 1)) r q o h0 h1 h2 h3 h4 h5 s0 s1 z p f)) (l2 : u = (0 : Int) → Q (some (.inl (-5))) (xz_cs u r q o h0 h1 h2 h3 h4 h5 s0 s1 z p f)) (p1 : ab_r u := by intros; (try unfold ab_r); omega) (p2 : ¬ u = (0 : Int) → ((o).length < 1000000) := by intros; (try unfold ab_r); omega) (p3 : ¬ u = (0 : Int) → (0 ≤ (u - 1) ∧ (u - 1) < (((o).length : Nat) : Int)) := by intros; (try unfold ab_r); omega) : ab_R E_X2_undo_v0 P_X2_undo Q 0 [some (.inr (.inl (some 0)))] [] (xz_cs u r q o h0 h1 h2 h3 h4 h5 s0 s1 z p f) :=
  ab_R.steps [33, 36] 17 (show (ab_r u ∧ ((¬ u = (0 : Int) → (ab_rarr 11 (xz_cs ((u - 1)) r q o h0 h1 h2 h3 h4 h5 s0 s1 z p f) (fun l_ => (0 ≤ (u - 1) ∧ (u - 1) < (((l_).length : Nat) : Int)) ∧ ab_R E_X2_undo_v0 P_X2_undo Q 33 [some (.inr (.inl (some 0)))] [.inr (.inl (l_.getD (u - 1).toNat none)), .inr (.inl (some 1))] (xz_cs ((u - 1)) r q o h0 h1 h2 h3 h4 h5 s0 s1 z p f)))) ∧ (u = (0 : Int) → Q (some (.inl (-5))) (xz_cs u r q o h0 h1 h2 h3 h4 h5 s0 s1 z p f)))) from ⟨p1, ⟨fun h1 => (ab_rarrI rfl (p2 h1) ⟨(p3 h1), (l1 h1)⟩), fun h2 => (l2 h2)⟩⟩)
set_option maxRecDepth 100000 in
theorem b_X2_undo_v0_33 {Q : ab_Q} {u : Int} {r : rw_T} {q : rw_T} {o : List (Option Nat)} {h0 : rw_T} {h1 : rw_T} {h2 : rw_T} {h3 : rw_T} {h4 : rw_T} {h5 : rw_T} {s0 : rw_T} {s1 : rw_T} {z : Int → Int} {p : pd_T} {f : Int → Int} (l1 : sp_X1_copyFrom [.inr (.inl (some 0)), .inr (.inl (some 5))] (rw2_cs r h0) (fun r_ k_ => ∃ (r' : rw_T), ∃ (q' : rw_T), r_ = none ∧ k_ = (rw2_cs r' q') ∧ ab_R E_X2_undo_v0 P_X2_undo Q 36 [some (.inr (.inl (some 0)))] [] (xz_cs u r' q o q' h1 h2 h3 h4 h5 s0 s1 z p f)))  : ab_R E_X2_undo_v0 P_X2_undo Q 33 [some (.inr (.inl (some 0)))] [.inr (.inl (some 12)), .inr (.inl (some 1))] (xz_cs u r q o h0 h1 h2 h3 h4 h5 s0 s1 z p f) :=
  ab_R.steps [33, 36] 2 (show ab_cl sp_X1_copyFrom [.inr (.inl (some 0)), .inr (.inl (some 5))] (rw2_cs r h0) (fun r_ k_ => k_.length = 10 → ab_R E_X2_undo_v0 P_X2_undo Q 36 [some (.inr (.inl (some 0)))] (ab_ret (r_.map (ab_reV [1, 2, 3, 4, 5, 12, 13, 14, 15, 16])) []) (ab_back [1, 2, 3, 4, 5, 12, 13, 14, 15, 16] [1, 2, 3, 4, 5, 12, 13, 14, 15, 16] k_ (xz_cs u r q o h0 h1 h2 h3 h4 h5 s0 s1 z p f))) from ⟨_, l1, fun r_ k_ hz _ => by obtain ⟨r', q', rfl, rfl, hR⟩ := hz; exact hR⟩)
set_option maxRecDepth 100000 in
theorem b_X2_undo_v0_36 {Q : ab_Q} {u : Int} {r : rw_T} {q : rw_T} {o : List (Option Nat)} {h0 : rw_T} {h1 : rw_T} {h2 : rw_T} {h3 : rw_T} {h4 : rw_T} {h5 : rw_T} {s0 : rw_T} {s1 : rw_T} {z : Int → Int} {p : pd_T} {f : Int → Int} (l1 : Q (some (.inl u)) (xz_cs u r q o h0 h1 h2 h3 h4 h5 s0 s1 z p f))  : ab_R E_X2_undo_v0 P_X2_undo Q 36 [some (.inr (.inl (some 0)))] [] (xz_cs u r q o h0 h1 h2 h3 h4 h5 s0 s1 z p f) :=
  ab_R.steps [33, 36] 4 (show Q (some (.inl u)) (xz_cs u r q o h0 h1 h2 h3 h4 h5 s0 s1 z p f) from l1)
theorem vc_X2_undo_v0 {av : List ab_V} {cs : List ab_C} {Q : ab_Q} (h : sp_X2_undo_v0 av cs Q) : (ab_lv0 av).length ≤ 1 ∧ ab_R E_X2_undo_v0 P_X2_undo Q 0 (ab_ent av 1) [] cs := by
  obtain ⟨⟨u, r, q, o, hy, s0, s1, z, p, f⟩, S, d, rfl, rfl, hI, hH, hk, hQ⟩ := h
  refine ⟨Nat.le_of_ble_eq_true rfl, ?_⟩
  show ab_R E_X2_undo_v0 P_X2_undo Q 0 [some (.inr (.inl (some 0)))] [] (xz_cs u r q o (hy 0) (hy 1) (hy 2) (hy 3) (hy 4) (hy 5) s0 s1 z p f)
  obtain ⟨hu, hl6, hd, ho, hh⟩ := (show mx_Hd d u o hy S.2.1 from hH)
  subst ho
  unfold mf_undo at hQ
  have hol := mx_o_len d
  cases hg : S.2.1.getLast? with
  | none =>
    rw [hg] at hQ
    have hn : S.2.1 = [] := List.getLast?_eq_none_iff.mp hg
    rw [hn, List.length_nil] at hu
    exact b_X2_undo_v0_0 (fun h => by omega) (fun _ => hQ (u, r, q, mx_o d, hy, s0, s1, z, p, f) hI)
  | some x =>
    rw [hg] at hQ
    have hne : S.2.1 ≠ [] := fun e => by rw [e] at hg; cases hg
    have hpos := List.length_pos_iff.mpr hne
    have hlast : S.2.1[S.2.1.length - 1]? = some x := by rw [← List.getLast?_eq_getElem?]; exact hg
    have hx := hh _ _ hlast
    rw [show (S.2.1.length - 1 + d) % 6 = 0 by omega] at hx
    refine b_X2_undo_v0_0 (fun _ => ?_) (fun h => by omega)
    rw [mx_o_get d hd (u - 1).toNat (by omega), show ((u - 1).toNat + d) % 6 = 0 by omega]
    refine b_X2_undo_v0_33 ⟨r, hy 0, x.1, rfl, rfl, hx.1, hx.2.1, fun r' q1 q2 => ⟨_, _, rfl, rfl, b_X2_undo_v0_36 ?_⟩⟩
    have hq := hQ (u - 1, r', q, mx_o d, hy, s0, s1, z, p, f) ⟨⟨q1, hx.2.1, q2.trans hx.2.2⟩, ⟨d, ?_, ?_, hd, rfl, fun i y hy => ?_⟩, hI.2.2⟩
    · dsimp only at hq
      rw [show ((S.2.1.length - 1 : Nat) : Int) = u - 1 by omega] at hq
      exact hq
    · dsimp only; rw [List.length_dropLast]; omega
    · dsimp only; rw [List.length_dropLast]; omega
    · dsimp only at hy
      rw [List.getElem?_dropLast] at hy
      split at hy
      · exact hh i y hy
      · cases hy
theorem mt_X2_undo_v0 (l : Launch) : ab_MT l mi_X2_undo sp_X2_undo_v0 := ab_MT.of (own := "RootChunks") (E := E_X2_undo_v0) (P := P_X2_undo) (M := M_X2_undo) (nL := 1) (ty := 0) (by decide) rfl rfl tk_X2 pk_X2_undo ck_X2_undo_v0 (ab_CT'.cons (mt_X1_copyFrom l) ab_CT'.nil) (fun av cs Q h => vc_X2_undo_v0 h)
def E_X2_undo_v1 : ab_E := (T_X2, [(33, (2, 1, [1, 2, 3, 4, 5, 17, 18, 19, 20, 21], 10, sp_X1_copyFrom))], [], 0)
theorem ck_X2_undo_v1 : P_X2_undo.all (ab_okC1 "RootChunks" M_X2_undo E_X2_undo_v1 (2, 91)) = true := by decide +kernel
set_option maxRecDepth 100000 in
theorem b_X2_undo_v1_0 {Q : ab_Q} {u : Int} {r : rw_T} {q : rw_T} {o : List (Option Nat)} {h0 : rw_T} {h1 : rw_T} {h2 : rw_T} {h3 : rw_T} {h4 : rw_T} {h5 : rw_T} {s0 : rw_T} {s1 : rw_T} {z : Int → Int} {p : pd_T} {f : Int → Int} (l1 : ¬ u = (0 : Int) → ab_R E_X2_undo_v1 P_X2_undo Q 33 [some (.inr (.inl (some 0)))] [.inr (.inl (o.getD (u - 1).toNat none)), .inr (.inl (some 1))] (xz_cs ((u - 1)) r q o h0 h1 h2 h3 h4 h5 s0 s1 z p f)) (l2 : u = (0 : Int) → Q (some (.inl (-5))) (xz_cs u r q o h0 h1 h2 h3 h4 h5 s0 s1 z p f)) (p1 : ab_r u := by intros; (try unfold ab_r); omega) (p2 : ¬ u = (0 : Int) → ((o).length < 1000000) := by intros; (try unfold ab_r); omega) (p3 : ¬ u = (0 : Int) → (0 ≤ (u - 1) ∧ (u - 1) < (((o).length : Nat) : Int)) := by intros; (try unfold ab_r); omega) : ab_R E_X2_undo_v1 P_X2_undo Q 0 [some (.inr (.inl (some 0)))] [] (xz_cs u r q o h0 h1 h2 h3 h4 h5 s0 s1 z p f) :=
  ab_R.steps [33, 36] 17 (show (ab_r u ∧ ((¬ u = (0 : Int) → (ab_rarr 11 (xz_cs ((u - 1)) r q o h0 h1 h2 h3 h4 h5 s0 s1 z p f) (fun l_ => (0 ≤ (u - 1) ∧ (u - 1) < (((l_).length : Nat) : Int)) ∧ ab_R E_X2_undo_v1 P_X2_undo Q 33 [some (.inr (.inl (some 0)))] [.inr (.inl (l_.getD (u - 1).toNat none)), .inr (.inl (some 1))] (xz_cs ((u - 1)) r q o h0 h1 h2 h3 h4 h5 s0 s1 z p f)))) ∧ (u = (0 : Int) → Q (some (.inl (-5))) (xz_cs u r q o h0 h1 h2 h3 h4 h5 s0 s1 z p f)))) from ⟨p1, ⟨fun h1 => (ab_rarrI rfl (p2 h1) ⟨(p3 h1), (l1 h1)⟩), fun h2 => (l2 h2)⟩⟩)
set_option maxRecDepth 100000 in
theorem b_X2_undo_v1_33 {Q : ab_Q} {u : Int} {r : rw_T} {q : rw_T} {o : List (Option Nat)} {h0 : rw_T} {h1 : rw_T} {h2 : rw_T} {h3 : rw_T} {h4 : rw_T} {h5 : rw_T} {s0 : rw_T} {s1 : rw_T} {z : Int → Int} {p : pd_T} {f : Int → Int} (l1 : sp_X1_copyFrom [.inr (.inl (some 0)), .inr (.inl (some 5))] (rw2_cs r h1) (fun r_ k_ => ∃ (r' : rw_T), ∃ (q' : rw_T), r_ = none ∧ k_ = (rw2_cs r' q') ∧ ab_R E_X2_undo_v1 P_X2_undo Q 36 [some (.inr (.inl (some 0)))] [] (xz_cs u r' q o h0 q' h2 h3 h4 h5 s0 s1 z p f)))  : ab_R E_X2_undo_v1 P_X2_undo Q 33 [some (.inr (.inl (some 0)))] [.inr (.inl (some 17)), .inr (.inl (some 1))] (xz_cs u r q o h0 h1 h2 h3 h4 h5 s0 s1 z p f) :=
  ab_R.steps [33, 36] 2 (show ab_cl sp_X1_copyFrom [.inr (.inl (some 0)), .inr (.inl (some 5))] (rw2_cs r h1) (fun r_ k_ => k_.length = 10 → ab_R E_X2_undo_v1 P_X2_undo Q 36 [some (.inr (.inl (some 0)))] (ab_ret (r_.map (ab_reV [1, 2, 3, 4, 5, 17, 18, 19, 20, 21])) []) (ab_back [1, 2, 3, 4, 5, 17, 18, 19, 20, 21] [1, 2, 3, 4, 5, 17, 18, 19, 20, 21] k_ (xz_cs u r q o h0 h1 h2 h3 h4 h5 s0 s1 z p f))) from ⟨_, l1, fun r_ k_ hz _ => by obtain ⟨r', q', rfl, rfl, hR⟩ := hz; exact hR⟩)
set_option maxRecDepth 100000 in
theorem b_X2_undo_v1_36 {Q : ab_Q} {u : Int} {r : rw_T} {q : rw_T} {o : List (Option Nat)} {h0 : rw_T} {h1 : rw_T} {h2 : rw_T} {h3 : rw_T} {h4 : rw_T} {h5 : rw_T} {s0 : rw_T} {s1 : rw_T} {z : Int → Int} {p : pd_T} {f : Int → Int} (l1 : Q (some (.inl u)) (xz_cs u r q o h0 h1 h2 h3 h4 h5 s0 s1 z p f))  : ab_R E_X2_undo_v1 P_X2_undo Q 36 [some (.inr (.inl (some 0)))] [] (xz_cs u r q o h0 h1 h2 h3 h4 h5 s0 s1 z p f) :=
  ab_R.steps [33, 36] 4 (show Q (some (.inl u)) (xz_cs u r q o h0 h1 h2 h3 h4 h5 s0 s1 z p f) from l1)
theorem vc_X2_undo_v1 {av : List ab_V} {cs : List ab_C} {Q : ab_Q} (h : sp_X2_undo_v1 av cs Q) : (ab_lv0 av).length ≤ 1 ∧ ab_R E_X2_undo_v1 P_X2_undo Q 0 (ab_ent av 1) [] cs := by
  obtain ⟨⟨u, r, q, o, hy, s0, s1, z, p, f⟩, S, d, rfl, rfl, hI, hH, hk, hQ⟩ := h
  refine ⟨Nat.le_of_ble_eq_true rfl, ?_⟩
  show ab_R E_X2_undo_v1 P_X2_undo Q 0 [some (.inr (.inl (some 0)))] [] (xz_cs u r q o (hy 0) (hy 1) (hy 2) (hy 3) (hy 4) (hy 5) s0 s1 z p f)
  obtain ⟨hu, hl6, hd, ho, hh⟩ := (show mx_Hd d u o hy S.2.1 from hH)
  subst ho
  unfold mf_undo at hQ
  have hol := mx_o_len d
  cases hg : S.2.1.getLast? with
  | none =>
    rw [hg] at hQ
    have hn : S.2.1 = [] := List.getLast?_eq_none_iff.mp hg
    rw [hn, List.length_nil] at hu
    exact b_X2_undo_v1_0 (fun h => by omega) (fun _ => hQ (u, r, q, mx_o d, hy, s0, s1, z, p, f) hI)
  | some x =>
    rw [hg] at hQ
    have hne : S.2.1 ≠ [] := fun e => by rw [e] at hg; cases hg
    have hpos := List.length_pos_iff.mpr hne
    have hlast : S.2.1[S.2.1.length - 1]? = some x := by rw [← List.getLast?_eq_getElem?]; exact hg
    have hx := hh _ _ hlast
    rw [show (S.2.1.length - 1 + d) % 6 = 1 by omega] at hx
    refine b_X2_undo_v1_0 (fun _ => ?_) (fun h => by omega)
    rw [mx_o_get d hd (u - 1).toNat (by omega), show ((u - 1).toNat + d) % 6 = 1 by omega]
    refine b_X2_undo_v1_33 ⟨r, hy 1, x.1, rfl, rfl, hx.1, hx.2.1, fun r' q1 q2 => ⟨_, _, rfl, rfl, b_X2_undo_v1_36 ?_⟩⟩
    have hq := hQ (u - 1, r', q, mx_o d, hy, s0, s1, z, p, f) ⟨⟨q1, hx.2.1, q2.trans hx.2.2⟩, ⟨d, ?_, ?_, hd, rfl, fun i y hy => ?_⟩, hI.2.2⟩
    · dsimp only at hq
      rw [show ((S.2.1.length - 1 : Nat) : Int) = u - 1 by omega] at hq
      exact hq
    · dsimp only; rw [List.length_dropLast]; omega
    · dsimp only; rw [List.length_dropLast]; omega
    · dsimp only at hy
      rw [List.getElem?_dropLast] at hy
      split at hy
      · exact hh i y hy
      · cases hy
theorem mt_X2_undo_v1 (l : Launch) : ab_MT l mi_X2_undo sp_X2_undo_v1 := ab_MT.of (own := "RootChunks") (E := E_X2_undo_v1) (P := P_X2_undo) (M := M_X2_undo) (nL := 1) (ty := 0) (by decide) rfl rfl tk_X2 pk_X2_undo ck_X2_undo_v1 (ab_CT'.cons (mt_X1_copyFrom l) ab_CT'.nil) (fun av cs Q h => vc_X2_undo_v1 h)
def E_X2_undo_v2 : ab_E := (T_X2, [(33, (2, 1, [1, 2, 3, 4, 5, 22, 23, 24, 25, 26], 10, sp_X1_copyFrom))], [], 0)
theorem ck_X2_undo_v2 : P_X2_undo.all (ab_okC1 "RootChunks" M_X2_undo E_X2_undo_v2 (2, 91)) = true := by decide +kernel
set_option maxRecDepth 100000 in
theorem b_X2_undo_v2_0 {Q : ab_Q} {u : Int} {r : rw_T} {q : rw_T} {o : List (Option Nat)} {h0 : rw_T} {h1 : rw_T} {h2 : rw_T} {h3 : rw_T} {h4 : rw_T} {h5 : rw_T} {s0 : rw_T} {s1 : rw_T} {z : Int → Int} {p : pd_T} {f : Int → Int} (l1 : ¬ u = (0 : Int) → ab_R E_X2_undo_v2 P_X2_undo Q 33 [some (.inr (.inl (some 0)))] [.inr (.inl (o.getD (u - 1).toNat none)), .inr (.inl (some 1))] (xz_cs ((u - 1)) r q o h0 h1 h2 h3 h4 h5 s0 s1 z p f)) (l2 : u = (0 : Int) → Q (some (.inl (-5))) (xz_cs u r q o h0 h1 h2 h3 h4 h5 s0 s1 z p f)) (p1 : ab_r u := by intros; (try unfold ab_r); omega) (p2 : ¬ u = (0 : Int) → ((o).length < 1000000) := by intros; (try unfold ab_r); omega) (p3 : ¬ u = (0 : Int) → (0 ≤ (u - 1) ∧ (u - 1) < (((o).length : Nat) : Int)) := by intros; (try unfold ab_r); omega) : ab_R E_X2_undo_v2 P_X2_undo Q 0 [some (.inr (.inl (some 0)))] [] (xz_cs u r q o h0 h1 h2 h3 h4 h5 s0 s1 z p f) :=
  ab_R.steps [33, 36] 17 (show (ab_r u ∧ ((¬ u = (0 : Int) → (ab_rarr 11 (xz_cs ((u - 1)) r q o h0 h1 h2 h3 h4 h5 s0 s1 z p f) (fun l_ => (0 ≤ (u - 1) ∧ (u - 1) < (((l_).length : Nat) : Int)) ∧ ab_R E_X2_undo_v2 P_X2_undo Q 33 [some (.inr (.inl (some 0)))] [.inr (.inl (l_.getD (u - 1).toNat none)), .inr (.inl (some 1))] (xz_cs ((u - 1)) r q o h0 h1 h2 h3 h4 h5 s0 s1 z p f)))) ∧ (u = (0 : Int) → Q (some (.inl (-5))) (xz_cs u r q o h0 h1 h2 h3 h4 h5 s0 s1 z p f)))) from ⟨p1, ⟨fun h1 => (ab_rarrI rfl (p2 h1) ⟨(p3 h1), (l1 h1)⟩), fun h2 => (l2 h2)⟩⟩)
set_option maxRecDepth 100000 in
theorem b_X2_undo_v2_33 {Q : ab_Q} {u : Int} {r : rw_T} {q : rw_T} {o : List (Option Nat)} {h0 : rw_T} {h1 : rw_T} {h2 : rw_T} {h3 : rw_T} {h4 : rw_T} {h5 : rw_T} {s0 : rw_T} {s1 : rw_T} {z : Int → Int} {p : pd_T} {f : Int → Int} (l1 : sp_X1_copyFrom [.inr (.inl (some 0)), .inr (.inl (some 5))] (rw2_cs r h2) (fun r_ k_ => ∃ (r' : rw_T), ∃ (q' : rw_T), r_ = none ∧ k_ = (rw2_cs r' q') ∧ ab_R E_X2_undo_v2 P_X2_undo Q 36 [some (.inr (.inl (some 0)))] [] (xz_cs u r' q o h0 h1 q' h3 h4 h5 s0 s1 z p f)))  : ab_R E_X2_undo_v2 P_X2_undo Q 33 [some (.inr (.inl (some 0)))] [.inr (.inl (some 22)), .inr (.inl (some 1))] (xz_cs u r q o h0 h1 h2 h3 h4 h5 s0 s1 z p f) :=
  ab_R.steps [33, 36] 2 (show ab_cl sp_X1_copyFrom [.inr (.inl (some 0)), .inr (.inl (some 5))] (rw2_cs r h2) (fun r_ k_ => k_.length = 10 → ab_R E_X2_undo_v2 P_X2_undo Q 36 [some (.inr (.inl (some 0)))] (ab_ret (r_.map (ab_reV [1, 2, 3, 4, 5, 22, 23, 24, 25, 26])) []) (ab_back [1, 2, 3, 4, 5, 22, 23, 24, 25, 26] [1, 2, 3, 4, 5, 22, 23, 24, 25, 26] k_ (xz_cs u r q o h0 h1 h2 h3 h4 h5 s0 s1 z p f))) from ⟨_, l1, fun r_ k_ hz _ => by obtain ⟨r', q', rfl, rfl, hR⟩ := hz; exact hR⟩)
set_option maxRecDepth 100000 in
theorem b_X2_undo_v2_36 {Q : ab_Q} {u : Int} {r : rw_T} {q : rw_T} {o : List (Option Nat)} {h0 : rw_T} {h1 : rw_T} {h2 : rw_T} {h3 : rw_T} {h4 : rw_T} {h5 : rw_T} {s0 : rw_T} {s1 : rw_T} {z : Int → Int} {p : pd_T} {f : Int → Int} (l1 : Q (some (.inl u)) (xz_cs u r q o h0 h1 h2 h3 h4 h5 s0 s1 z p f))  : ab_R E_X2_undo_v2 P_X2_undo Q 36 [some (.inr (.inl (some 0)))] [] (xz_cs u r q o h0 h1 h2 h3 h4 h5 s0 s1 z p f) :=
  ab_R.steps [33, 36] 4 (show Q (some (.inl u)) (xz_cs u r q o h0 h1 h2 h3 h4 h5 s0 s1 z p f) from l1)
theorem vc_X2_undo_v2 {av : List ab_V} {cs : List ab_C} {Q : ab_Q} (h : sp_X2_undo_v2 av cs Q) : (ab_lv0 av).length ≤ 1 ∧ ab_R E_X2_undo_v2 P_X2_undo Q 0 (ab_ent av 1) [] cs := by
  obtain ⟨⟨u, r, q, o, hy, s0, s1, z, p, f⟩, S, d, rfl, rfl, hI, hH, hk, hQ⟩ := h
  refine ⟨Nat.le_of_ble_eq_true rfl, ?_⟩
  show ab_R E_X2_undo_v2 P_X2_undo Q 0 [some (.inr (.inl (some 0)))] [] (xz_cs u r q o (hy 0) (hy 1) (hy 2) (hy 3) (hy 4) (hy 5) s0 s1 z p f)
  obtain ⟨hu, hl6, hd, ho, hh⟩ := (show mx_Hd d u o hy S.2.1 from hH)
  subst ho
  unfold mf_undo at hQ
  have hol := mx_o_len d
  cases hg : S.2.1.getLast? with
  | none =>
    rw [hg] at hQ
    have hn : S.2.1 = [] := List.getLast?_eq_none_iff.mp hg
    rw [hn, List.length_nil] at hu
    exact b_X2_undo_v2_0 (fun h => by omega) (fun _ => hQ (u, r, q, mx_o d, hy, s0, s1, z, p, f) hI)
  | some x =>
    rw [hg] at hQ
    have hne : S.2.1 ≠ [] := fun e => by rw [e] at hg; cases hg
    have hpos := List.length_pos_iff.mpr hne
    have hlast : S.2.1[S.2.1.length - 1]? = some x := by rw [← List.getLast?_eq_getElem?]; exact hg
    have hx := hh _ _ hlast
    rw [show (S.2.1.length - 1 + d) % 6 = 2 by omega] at hx
    refine b_X2_undo_v2_0 (fun _ => ?_) (fun h => by omega)
    rw [mx_o_get d hd (u - 1).toNat (by omega), show ((u - 1).toNat + d) % 6 = 2 by omega]
    refine b_X2_undo_v2_33 ⟨r, hy 2, x.1, rfl, rfl, hx.1, hx.2.1, fun r' q1 q2 => ⟨_, _, rfl, rfl, b_X2_undo_v2_36 ?_⟩⟩
    have hq := hQ (u - 1, r', q, mx_o d, hy, s0, s1, z, p, f) ⟨⟨q1, hx.2.1, q2.trans hx.2.2⟩, ⟨d, ?_, ?_, hd, rfl, fun i y hy => ?_⟩, hI.2.2⟩
    · dsimp only at hq
      rw [show ((S.2.1.length - 1 : Nat) : Int) = u - 1 by omega] at hq
      exact hq
    · dsimp only; rw [List.length_dropLast]; omega
    · dsimp only; rw [List.length_dropLast]; omega
    · dsimp only at hy
      rw [List.getElem?_dropLast] at hy
      split at hy
      · exact hh i y hy
      · cases hy
theorem mt_X2_undo_v2 (l : Launch) : ab_MT l mi_X2_undo sp_X2_undo_v2 := ab_MT.of (own := "RootChunks") (E := E_X2_undo_v2) (P := P_X2_undo) (M := M_X2_undo) (nL := 1) (ty := 0) (by decide) rfl rfl tk_X2 pk_X2_undo ck_X2_undo_v2 (ab_CT'.cons (mt_X1_copyFrom l) ab_CT'.nil) (fun av cs Q h => vc_X2_undo_v2 h)
def E_X2_undo_v3 : ab_E := (T_X2, [(33, (2, 1, [1, 2, 3, 4, 5, 27, 28, 29, 30, 31], 10, sp_X1_copyFrom))], [], 0)
theorem ck_X2_undo_v3 : P_X2_undo.all (ab_okC1 "RootChunks" M_X2_undo E_X2_undo_v3 (2, 91)) = true := by decide +kernel
set_option maxRecDepth 100000 in
theorem b_X2_undo_v3_0 {Q : ab_Q} {u : Int} {r : rw_T} {q : rw_T} {o : List (Option Nat)} {h0 : rw_T} {h1 : rw_T} {h2 : rw_T} {h3 : rw_T} {h4 : rw_T} {h5 : rw_T} {s0 : rw_T} {s1 : rw_T} {z : Int → Int} {p : pd_T} {f : Int → Int} (l1 : ¬ u = (0 : Int) → ab_R E_X2_undo_v3 P_X2_undo Q 33 [some (.inr (.inl (some 0)))] [.inr (.inl (o.getD (u - 1).toNat none)), .inr (.inl (some 1))] (xz_cs ((u - 1)) r q o h0 h1 h2 h3 h4 h5 s0 s1 z p f)) (l2 : u = (0 : Int) → Q (some (.inl (-5))) (xz_cs u r q o h0 h1 h2 h3 h4 h5 s0 s1 z p f)) (p1 : ab_r u := by intros; (try unfold ab_r); omega) (p2 : ¬ u = (0 : Int) → ((o).length < 1000000) := by intros; (try unfold ab_r); omega) (p3 : ¬ u = (0 : Int) → (0 ≤ (u - 1) ∧ (u - 1) < (((o).length : Nat) : Int)) := by intros; (try unfold ab_r); omega) : ab_R E_X2_undo_v3 P_X2_undo Q 0 [some (.inr (.inl (some 0)))] [] (xz_cs u r q o h0 h1 h2 h3 h4 h5 s0 s1 z p f) :=
  ab_R.steps [33, 36] 17 (show (ab_r u ∧ ((¬ u = (0 : Int) → (ab_rarr 11 (xz_cs ((u - 1)) r q o h0 h1 h2 h3 h4 h5 s0 s1 z p f) (fun l_ => (0 ≤ (u - 1) ∧ (u - 1) < (((l_).length : Nat) : Int)) ∧ ab_R E_X2_undo_v3 P_X2_undo Q 33 [some (.inr (.inl (some 0)))] [.inr (.inl (l_.getD (u - 1).toNat none)), .inr (.inl (some 1))] (xz_cs ((u - 1)) r q o h0 h1 h2 h3 h4 h5 s0 s1 z p f)))) ∧ (u = (0 : Int) → Q (some (.inl (-5))) (xz_cs u r q o h0 h1 h2 h3 h4 h5 s0 s1 z p f)))) from ⟨p1, ⟨fun h1 => (ab_rarrI rfl (p2 h1) ⟨(p3 h1), (l1 h1)⟩), fun h2 => (l2 h2)⟩⟩)
set_option maxRecDepth 100000 in
theorem b_X2_undo_v3_33 {Q : ab_Q} {u : Int} {r : rw_T} {q : rw_T} {o : List (Option Nat)} {h0 : rw_T} {h1 : rw_T} {h2 : rw_T} {h3 : rw_T} {h4 : rw_T} {h5 : rw_T} {s0 : rw_T} {s1 : rw_T} {z : Int → Int} {p : pd_T} {f : Int → Int} (l1 : sp_X1_copyFrom [.inr (.inl (some 0)), .inr (.inl (some 5))] (rw2_cs r h3) (fun r_ k_ => ∃ (r' : rw_T), ∃ (q' : rw_T), r_ = none ∧ k_ = (rw2_cs r' q') ∧ ab_R E_X2_undo_v3 P_X2_undo Q 36 [some (.inr (.inl (some 0)))] [] (xz_cs u r' q o h0 h1 h2 q' h4 h5 s0 s1 z p f)))  : ab_R E_X2_undo_v3 P_X2_undo Q 33 [some (.inr (.inl (some 0)))] [.inr (.inl (some 27)), .inr (.inl (some 1))] (xz_cs u r q o h0 h1 h2 h3 h4 h5 s0 s1 z p f) :=
  ab_R.steps [33, 36] 2 (show ab_cl sp_X1_copyFrom [.inr (.inl (some 0)), .inr (.inl (some 5))] (rw2_cs r h3) (fun r_ k_ => k_.length = 10 → ab_R E_X2_undo_v3 P_X2_undo Q 36 [some (.inr (.inl (some 0)))] (ab_ret (r_.map (ab_reV [1, 2, 3, 4, 5, 27, 28, 29, 30, 31])) []) (ab_back [1, 2, 3, 4, 5, 27, 28, 29, 30, 31] [1, 2, 3, 4, 5, 27, 28, 29, 30, 31] k_ (xz_cs u r q o h0 h1 h2 h3 h4 h5 s0 s1 z p f))) from ⟨_, l1, fun r_ k_ hz _ => by obtain ⟨r', q', rfl, rfl, hR⟩ := hz; exact hR⟩)
set_option maxRecDepth 100000 in
theorem b_X2_undo_v3_36 {Q : ab_Q} {u : Int} {r : rw_T} {q : rw_T} {o : List (Option Nat)} {h0 : rw_T} {h1 : rw_T} {h2 : rw_T} {h3 : rw_T} {h4 : rw_T} {h5 : rw_T} {s0 : rw_T} {s1 : rw_T} {z : Int → Int} {p : pd_T} {f : Int → Int} (l1 : Q (some (.inl u)) (xz_cs u r q o h0 h1 h2 h3 h4 h5 s0 s1 z p f))  : ab_R E_X2_undo_v3 P_X2_undo Q 36 [some (.inr (.inl (some 0)))] [] (xz_cs u r q o h0 h1 h2 h3 h4 h5 s0 s1 z p f) :=
  ab_R.steps [33, 36] 4 (show Q (some (.inl u)) (xz_cs u r q o h0 h1 h2 h3 h4 h5 s0 s1 z p f) from l1)
theorem vc_X2_undo_v3 {av : List ab_V} {cs : List ab_C} {Q : ab_Q} (h : sp_X2_undo_v3 av cs Q) : (ab_lv0 av).length ≤ 1 ∧ ab_R E_X2_undo_v3 P_X2_undo Q 0 (ab_ent av 1) [] cs := by
  obtain ⟨⟨u, r, q, o, hy, s0, s1, z, p, f⟩, S, d, rfl, rfl, hI, hH, hk, hQ⟩ := h
  refine ⟨Nat.le_of_ble_eq_true rfl, ?_⟩
  show ab_R E_X2_undo_v3 P_X2_undo Q 0 [some (.inr (.inl (some 0)))] [] (xz_cs u r q o (hy 0) (hy 1) (hy 2) (hy 3) (hy 4) (hy 5) s0 s1 z p f)
  obtain ⟨hu, hl6, hd, ho, hh⟩ := (show mx_Hd d u o hy S.2.1 from hH)
  subst ho
  unfold mf_undo at hQ
  have hol := mx_o_len d
  cases hg : S.2.1.getLast? with
  | none =>
    rw [hg] at hQ
    have hn : S.2.1 = [] := List.getLast?_eq_none_iff.mp hg
    rw [hn, List.length_nil] at hu
    exact b_X2_undo_v3_0 (fun h => by omega) (fun _ => hQ (u, r, q, mx_o d, hy, s0, s1, z, p, f) hI)
  | some x =>
    rw [hg] at hQ
    have hne : S.2.1 ≠ [] := fun e => by rw [e] at hg; cases hg
    have hpos := List.length_pos_iff.mpr hne
    have hlast : S.2.1[S.2.1.length - 1]? = some x := by rw [← List.getLast?_eq_getElem?]; exact hg
    have hx := hh _ _ hlast
    rw [show (S.2.1.length - 1 + d) % 6 = 3 by omega] at hx
    refine b_X2_undo_v3_0 (fun _ => ?_) (fun h => by omega)
    rw [mx_o_get d hd (u - 1).toNat (by omega), show ((u - 1).toNat + d) % 6 = 3 by omega]
    refine b_X2_undo_v3_33 ⟨r, hy 3, x.1, rfl, rfl, hx.1, hx.2.1, fun r' q1 q2 => ⟨_, _, rfl, rfl, b_X2_undo_v3_36 ?_⟩⟩
    have hq := hQ (u - 1, r', q, mx_o d, hy, s0, s1, z, p, f) ⟨⟨q1, hx.2.1, q2.trans hx.2.2⟩, ⟨d, ?_, ?_, hd, rfl, fun i y hy => ?_⟩, hI.2.2⟩
    · dsimp only at hq
      rw [show ((S.2.1.length - 1 : Nat) : Int) = u - 1 by omega] at hq
      exact hq
    · dsimp only; rw [List.length_dropLast]; omega
    · dsimp only; rw [List.length_dropLast]; omega
    · dsimp only at hy
      rw [List.getElem?_dropLast] at hy
      split at hy
      · exact hh i y hy
      · cases hy
theorem mt_X2_undo_v3 (l : Launch) : ab_MT l mi_X2_undo sp_X2_undo_v3 := ab_MT.of (own := "RootChunks") (E := E_X2_undo_v3) (P := P_X2_undo) (M := M_X2_undo) (nL := 1) (ty := 0) (by decide) rfl rfl tk_X2 pk_X2_undo ck_X2_undo_v3 (ab_CT'.cons (mt_X1_copyFrom l) ab_CT'.nil) (fun av cs Q h => vc_X2_undo_v3 h)
def E_X2_undo_v4 : ab_E := (T_X2, [(33, (2, 1, [1, 2, 3, 4, 5, 32, 33, 34, 35, 36], 10, sp_X1_copyFrom))], [], 0)
theorem ck_X2_undo_v4 : P_X2_undo.all (ab_okC1 "RootChunks" M_X2_undo E_X2_undo_v4 (2, 91)) = true := by decide +kernel
set_option maxRecDepth 100000 in
theorem b_X2_undo_v4_0 {Q : ab_Q} {u : Int} {r : rw_T} {q : rw_T} {o : List (Option Nat)} {h0 : rw_T} {h1 : rw_T} {h2 : rw_T} {h3 : rw_T} {h4 : rw_T} {h5 : rw_T} {s0 : rw_T} {s1 : rw_T} {z : Int → Int} {p : pd_T} {f : Int → Int} (l1 : ¬ u = (0 : Int) → ab_R E_X2_undo_v4 P_X2_undo Q 33 [some (.inr (.inl (some 0)))] [.inr (.inl (o.getD (u - 1).toNat none)), .inr (.inl (some 1))] (xz_cs ((u - 1)) r q o h0 h1 h2 h3 h4 h5 s0 s1 z p f)) (l2 : u = (0 : Int) → Q (some (.inl (-5))) (xz_cs u r q o h0 h1 h2 h3 h4 h5 s0 s1 z p f)) (p1 : ab_r u := by intros; (try unfold ab_r); omega) (p2 : ¬ u = (0 : Int) → ((o).length < 1000000) := by intros; (try unfold ab_r); omega) (p3 : ¬ u = (0 : Int) → (0 ≤ (u - 1) ∧ (u - 1) < (((o).length : Nat) : Int)) := by intros; (try unfold ab_r); omega) : ab_R E_X2_undo_v4 P_X2_undo Q 0 [some (.inr (.inl (some 0)))] [] (xz_cs u r q o h0 h1 h2 h3 h4 h5 s0 s1 z p f) :=
  ab_R.steps [33, 36] 17 (show (ab_r u ∧ ((¬ u = (0 : Int) → (ab_rarr 11 (xz_cs ((u - 1)) r q o h0 h1 h2 h3 h4 h5 s0 s1 z p f) (fun l_ => (0 ≤ (u - 1) ∧ (u - 1) < (((l_).length : Nat) : Int)) ∧ ab_R E_X2_undo_v4 P_X2_undo Q 33 [some (.inr (.inl (some 0)))] [.inr (.inl (l_.getD (u - 1).toNat none)), .inr (.inl (some 1))] (xz_cs ((u - 1)) r q o h0 h1 h2 h3 h4 h5 s0 s1 z p f)))) ∧ (u = (0 : Int) → Q (some (.inl (-5))) (xz_cs u r q o h0 h1 h2 h3 h4 h5 s0 s1 z p f)))) from ⟨p1, ⟨fun h1 => (ab_rarrI rfl (p2 h1) ⟨(p3 h1), (l1 h1)⟩), fun h2 => (l2 h2)⟩⟩)
set_option maxRecDepth 100000 in
theorem b_X2_undo_v4_33 {Q : ab_Q} {u : Int} {r : rw_T} {q : rw_T} {o : List (Option Nat)} {h0 : rw_T} {h1 : rw_T} {h2 : rw_T} {h3 : rw_T} {h4 : rw_T} {h5 : rw_T} {s0 : rw_T} {s1 : rw_T} {z : Int → Int} {p : pd_T} {f : Int → Int} (l1 : sp_X1_copyFrom [.inr (.inl (some 0)), .inr (.inl (some 5))] (rw2_cs r h4) (fun r_ k_ => ∃ (r' : rw_T), ∃ (q' : rw_T), r_ = none ∧ k_ = (rw2_cs r' q') ∧ ab_R E_X2_undo_v4 P_X2_undo Q 36 [some (.inr (.inl (some 0)))] [] (xz_cs u r' q o h0 h1 h2 h3 q' h5 s0 s1 z p f)))  : ab_R E_X2_undo_v4 P_X2_undo Q 33 [some (.inr (.inl (some 0)))] [.inr (.inl (some 32)), .inr (.inl (some 1))] (xz_cs u r q o h0 h1 h2 h3 h4 h5 s0 s1 z p f) :=
  ab_R.steps [33, 36] 2 (show ab_cl sp_X1_copyFrom [.inr (.inl (some 0)), .inr (.inl (some 5))] (rw2_cs r h4) (fun r_ k_ => k_.length = 10 → ab_R E_X2_undo_v4 P_X2_undo Q 36 [some (.inr (.inl (some 0)))] (ab_ret (r_.map (ab_reV [1, 2, 3, 4, 5, 32, 33, 34, 35, 36])) []) (ab_back [1, 2, 3, 4, 5, 32, 33, 34, 35, 36] [1, 2, 3, 4, 5, 32, 33, 34, 35, 36] k_ (xz_cs u r q o h0 h1 h2 h3 h4 h5 s0 s1 z p f))) from ⟨_, l1, fun r_ k_ hz _ => by obtain ⟨r', q', rfl, rfl, hR⟩ := hz; exact hR⟩)
set_option maxRecDepth 100000 in
theorem b_X2_undo_v4_36 {Q : ab_Q} {u : Int} {r : rw_T} {q : rw_T} {o : List (Option Nat)} {h0 : rw_T} {h1 : rw_T} {h2 : rw_T} {h3 : rw_T} {h4 : rw_T} {h5 : rw_T} {s0 : rw_T} {s1 : rw_T} {z : Int → Int} {p : pd_T} {f : Int → Int} (l1 : Q (some (.inl u)) (xz_cs u r q o h0 h1 h2 h3 h4 h5 s0 s1 z p f))  : ab_R E_X2_undo_v4 P_X2_undo Q 36 [some (.inr (.inl (some 0)))] [] (xz_cs u r q o h0 h1 h2 h3 h4 h5 s0 s1 z p f) :=
  ab_R.steps [33, 36] 4 (show Q (some (.inl u)) (xz_cs u r q o h0 h1 h2 h3 h4 h5 s0 s1 z p f) from l1)
theorem vc_X2_undo_v4 {av : List ab_V} {cs : List ab_C} {Q : ab_Q} (h : sp_X2_undo_v4 av cs Q) : (ab_lv0 av).length ≤ 1 ∧ ab_R E_X2_undo_v4 P_X2_undo Q 0 (ab_ent av 1) [] cs := by
  obtain ⟨⟨u, r, q, o, hy, s0, s1, z, p, f⟩, S, d, rfl, rfl, hI, hH, hk, hQ⟩ := h
  refine ⟨Nat.le_of_ble_eq_true rfl, ?_⟩
  show ab_R E_X2_undo_v4 P_X2_undo Q 0 [some (.inr (.inl (some 0)))] [] (xz_cs u r q o (hy 0) (hy 1) (hy 2) (hy 3) (hy 4) (hy 5) s0 s1 z p f)
  obtain ⟨hu, hl6, hd, ho, hh⟩ := (show mx_Hd d u o hy S.2.1 from hH)
  subst ho
  unfold mf_undo at hQ
  have hol := mx_o_len d
  cases hg : S.2.1.getLast? with
  | none =>
    rw [hg] at hQ
    have hn : S.2.1 = [] := List.getLast?_eq_none_iff.mp hg
    rw [hn, List.length_nil] at hu
    exact b_X2_undo_v4_0 (fun h => by omega) (fun _ => hQ (u, r, q, mx_o d, hy, s0, s1, z, p, f) hI)
  | some x =>
    rw [hg] at hQ
    have hne : S.2.1 ≠ [] := fun e => by rw [e] at hg; cases hg
    have hpos := List.length_pos_iff.mpr hne
    have hlast : S.2.1[S.2.1.length - 1]? = some x := by rw [← List.getLast?_eq_getElem?]; exact hg
    have hx := hh _ _ hlast
    rw [show (S.2.1.length - 1 + d) % 6 = 4 by omega] at hx
    refine b_X2_undo_v4_0 (fun _ => ?_) (fun h => by omega)
    rw [mx_o_get d hd (u - 1).toNat (by omega), show ((u - 1).toNat + d) % 6 = 4 by omega]
    refine b_X2_undo_v4_33 ⟨r, hy 4, x.1, rfl, rfl, hx.1, hx.2.1, fun r' q1 q2 => ⟨_, _, rfl, rfl, b_X2_undo_v4_36 ?_⟩⟩
    have hq := hQ (u - 1, r', q, mx_o d, hy, s0, s1, z, p, f) ⟨⟨q1, hx.2.1, q2.trans hx.2.2⟩, ⟨d, ?_, ?_, hd, rfl, fun i y hy => ?_⟩, hI.2.2⟩
    · dsimp only at hq
      rw [show ((S.2.1.length - 1 : Nat) : Int) = u - 1 by omega] at hq
      exact hq
    · dsimp only; rw [List.length_dropLast]; omega
    · dsimp only; rw [List.length_dropLast]; omega
    · dsimp only at hy
      rw [List.getElem?_dropLast] at hy
      split at hy
      · exact hh i y hy
      · cases hy
theorem mt_X2_undo_v4 (l : Launch) : ab_MT l mi_X2_undo sp_X2_undo_v4 := ab_MT.of (own := "RootChunks") (E := E_X2_undo_v4) (P := P_X2_undo) (M := M_X2_undo) (nL := 1) (ty := 0) (by decide) rfl rfl tk_X2 pk_X2_undo ck_X2_undo_v4 (ab_CT'.cons (mt_X1_copyFrom l) ab_CT'.nil) (fun av cs Q h => vc_X2_undo_v4 h)
def E_X2_undo_v5 : ab_E := (T_X2, [(33, (2, 1, [1, 2, 3, 4, 5, 37, 38, 39, 40, 41], 10, sp_X1_copyFrom))], [], 0)
theorem ck_X2_undo_v5 : P_X2_undo.all (ab_okC1 "RootChunks" M_X2_undo E_X2_undo_v5 (2, 91)) = true := by decide +kernel
set_option maxRecDepth 100000 in
theorem b_X2_undo_v5_0 {Q : ab_Q} {u : Int} {r : rw_T} {q : rw_T} {o : List (Option Nat)} {h0 : rw_T} {h1 : rw_T} {h2 : rw_T} {h3 : rw_T} {h4 : rw_T} {h5 : rw_T} {s0 : rw_T} {s1 : rw_T} {z : Int → Int} {p : pd_T} {f : Int → Int} (l1 : ¬ u = (0 : Int) → ab_R E_X2_undo_v5 P_X2_undo Q 33 [some (.inr (.inl (some 0)))] [.inr (.inl (o.getD (u - 1).toNat none)), .inr (.inl (some 1))] (xz_cs ((u - 1)) r q o h0 h1 h2 h3 h4 h5 s0 s1 z p f)) (l2 : u = (0 : Int) → Q (some (.inl (-5))) (xz_cs u r q o h0 h1 h2 h3 h4 h5 s0 s1 z p f)) (p1 : ab_r u := by intros; (try unfold ab_r); omega) (p2 : ¬ u = (0 : Int) → ((o).length < 1000000) := by intros; (try unfold ab_r); omega) (p3 : ¬ u = (0 : Int) → (0 ≤ (u - 1) ∧ (u - 1) < (((o).length : Nat) : Int)) := by intros; (try unfold ab_r); omega) : ab_R E_X2_undo_v5 P_X2_undo Q 0 [some (.inr (.inl (some 0)))] [] (xz_cs u r q o h0 h1 h2 h3 h4 h5 s0 s1 z p f) :=
  ab_R.steps [33, 36] 17 (show (ab_r u ∧ ((¬ u = (0 : Int) → (ab_rarr 11 (xz_cs ((u - 1)) r q o h0 h1 h2 h3 h4 h5 s0 s1 z p f) (fun l_ => (0 ≤ (u - 1) ∧ (u - 1) < (((l_).length : Nat) : Int)) ∧ ab_R E_X2_undo_v5 P_X2_undo Q 33 [some (.inr (.inl (some 0)))] [.inr (.inl (l_.getD (u - 1).toNat none)), .inr (.inl (some 1))] (xz_cs ((u - 1)) r q o h0 h1 h2 h3 h4 h5 s0 s1 z p f)))) ∧ (u = (0 : Int) → Q (some (.inl (-5))) (xz_cs u r q o h0 h1 h2 h3 h4 h5 s0 s1 z p f)))) from ⟨p1, ⟨fun h1 => (ab_rarrI rfl (p2 h1) ⟨(p3 h1), (l1 h1)⟩), fun h2 => (l2 h2)⟩⟩)
set_option maxRecDepth 100000 in
theorem b_X2_undo_v5_33 {Q : ab_Q} {u : Int} {r : rw_T} {q : rw_T} {o : List (Option Nat)} {h0 : rw_T} {h1 : rw_T} {h2 : rw_T} {h3 : rw_T} {h4 : rw_T} {h5 : rw_T} {s0 : rw_T} {s1 : rw_T} {z : Int → Int} {p : pd_T} {f : Int → Int} (l1 : sp_X1_copyFrom [.inr (.inl (some 0)), .inr (.inl (some 5))] (rw2_cs r h5) (fun r_ k_ => ∃ (r' : rw_T), ∃ (q' : rw_T), r_ = none ∧ k_ = (rw2_cs r' q') ∧ ab_R E_X2_undo_v5 P_X2_undo Q 36 [some (.inr (.inl (some 0)))] [] (xz_cs u r' q o h0 h1 h2 h3 h4 q' s0 s1 z p f)))  : ab_R E_X2_undo_v5 P_X2_undo Q 33 [some (.inr (.inl (some 0)))] [.inr (.inl (some 37)), .inr (.inl (some 1))] (xz_cs u r q o h0 h1 h2 h3 h4 h5 s0 s1 z p f) :=
  ab_R.steps [33, 36] 2 (show ab_cl sp_X1_copyFrom [.inr (.inl (some 0)), .inr (.inl (some 5))] (rw2_cs r h5) (fun r_ k_ => k_.length = 10 → ab_R E_X2_undo_v5 P_X2_undo Q 36 [some (.inr (.inl (some 0)))] (ab_ret (r_.map (ab_reV [1, 2, 3, 4, 5, 37, 38, 39, 40, 41])) []) (ab_back [1, 2, 3, 4, 5, 37, 38, 39, 40, 41] [1, 2, 3, 4, 5, 37, 38, 39, 40, 41] k_ (xz_cs u r q o h0 h1 h2 h3 h4 h5 s0 s1 z p f))) from ⟨_, l1, fun r_ k_ hz _ => by obtain ⟨r', q', rfl, rfl, hR⟩ := hz; exact hR⟩)
set_option maxRecDepth 100000 in
theorem b_X2_undo_v5_36 {Q : ab_Q} {u : Int} {r : rw_T} {q : rw_T} {o : List (Option Nat)} {h0 : rw_T} {h1 : rw_T} {h2 : rw_T} {h3 : rw_T} {h4 : rw_T} {h5 : rw_T} {s0 : rw_T} {s1 : rw_T} {z : Int → Int} {p : pd_T} {f : Int → Int} (l1 : Q (some (.inl u)) (xz_cs u r q o h0 h1 h2 h3 h4 h5 s0 s1 z p f))  : ab_R E_X2_undo_v5 P_X2_undo Q 36 [some (.inr (.inl (some 0)))] [] (xz_cs u r q o h0 h1 h2 h3 h4 h5 s0 s1 z p f) :=
  ab_R.steps [33, 36] 4 (show Q (some (.inl u)) (xz_cs u r q o h0 h1 h2 h3 h4 h5 s0 s1 z p f) from l1)
theorem vc_X2_undo_v5 {av : List ab_V} {cs : List ab_C} {Q : ab_Q} (h : sp_X2_undo_v5 av cs Q) : (ab_lv0 av).length ≤ 1 ∧ ab_R E_X2_undo_v5 P_X2_undo Q 0 (ab_ent av 1) [] cs := by
  obtain ⟨⟨u, r, q, o, hy, s0, s1, z, p, f⟩, S, d, rfl, rfl, hI, hH, hk, hQ⟩ := h
  refine ⟨Nat.le_of_ble_eq_true rfl, ?_⟩
  show ab_R E_X2_undo_v5 P_X2_undo Q 0 [some (.inr (.inl (some 0)))] [] (xz_cs u r q o (hy 0) (hy 1) (hy 2) (hy 3) (hy 4) (hy 5) s0 s1 z p f)
  obtain ⟨hu, hl6, hd, ho, hh⟩ := (show mx_Hd d u o hy S.2.1 from hH)
  subst ho
  unfold mf_undo at hQ
  have hol := mx_o_len d
  cases hg : S.2.1.getLast? with
  | none =>
    rw [hg] at hQ
    have hn : S.2.1 = [] := List.getLast?_eq_none_iff.mp hg
    rw [hn, List.length_nil] at hu
    exact b_X2_undo_v5_0 (fun h => by omega) (fun _ => hQ (u, r, q, mx_o d, hy, s0, s1, z, p, f) hI)
  | some x =>
    rw [hg] at hQ
    have hne : S.2.1 ≠ [] := fun e => by rw [e] at hg; cases hg
    have hpos := List.length_pos_iff.mpr hne
    have hlast : S.2.1[S.2.1.length - 1]? = some x := by rw [← List.getLast?_eq_getElem?]; exact hg
    have hx := hh _ _ hlast
    rw [show (S.2.1.length - 1 + d) % 6 = 5 by omega] at hx
    refine b_X2_undo_v5_0 (fun _ => ?_) (fun h => by omega)
    rw [mx_o_get d hd (u - 1).toNat (by omega), show ((u - 1).toNat + d) % 6 = 5 by omega]
    refine b_X2_undo_v5_33 ⟨r, hy 5, x.1, rfl, rfl, hx.1, hx.2.1, fun r' q1 q2 => ⟨_, _, rfl, rfl, b_X2_undo_v5_36 ?_⟩⟩
    have hq := hQ (u - 1, r', q, mx_o d, hy, s0, s1, z, p, f) ⟨⟨q1, hx.2.1, q2.trans hx.2.2⟩, ⟨d, ?_, ?_, hd, rfl, fun i y hy => ?_⟩, hI.2.2⟩
    · dsimp only at hq
      rw [show ((S.2.1.length - 1 : Nat) : Int) = u - 1 by omega] at hq
      exact hq
    · dsimp only; rw [List.length_dropLast]; omega
    · dsimp only; rw [List.length_dropLast]; omega
    · dsimp only at hy
      rw [List.getElem?_dropLast] at hy
      split at hy
      · exact hh i y hy
      · cases hy
theorem mt_X2_undo_v5 (l : Launch) : ab_MT l mi_X2_undo sp_X2_undo_v5 := ab_MT.of (own := "RootChunks") (E := E_X2_undo_v5) (P := P_X2_undo) (M := M_X2_undo) (nL := 1) (ty := 0) (by decide) rfl rfl tk_X2 pk_X2_undo ck_X2_undo_v5 (ab_CT'.cons (mt_X1_copyFrom l) ab_CT'.nil) (fun av cs Q h => vc_X2_undo_v5 h)
theorem mt_X2_undo (l : Launch) : ab_MT l mi_X2_undo sp_X2_undo := by
  intro G ad av cs Q sz h
  obtain ⟨X, S, h1, h2, h3, h5⟩ := h
  obtain ⟨d, h4⟩ := h3.2.1
  have h6 : (S.2.1.length + 5 + d) % 6 < 6 := Nat.mod_lt _ (by decide)
  have h7 : sp_X2_und ((S.2.1.length + 5 + d) % 6) av cs Q := ⟨X, S, d, h1, h2, h3, h4, rfl, h5⟩
  generalize (S.2.1.length + 5 + d) % 6 = k at h6 h7
  match k, h6, h7 with
  | 0, _, h7 => exact mt_X2_undo_v0 l G ad av cs Q sz h7
  | 1, _, h7 => exact mt_X2_undo_v1 l G ad av cs Q sz h7
  | 2, _, h7 => exact mt_X2_undo_v2 l G ad av cs Q sz h7
  | 3, _, h7 => exact mt_X2_undo_v3 l G ad av cs Q sz h7
  | 4, _, h7 => exact mt_X2_undo_v4 l G ad av cs Q sz h7
  | 5, _, h7 => exact mt_X2_undo_v5 l G ad av cs Q sz h7
  | k + 6, h6, _ => omega
def P_X2_save : List ab_I := [(0, .iload_n 1, 1, []), (1, .ifCond .lt 8, 4, [((0 : Int), 9)]), (4, .iload_n 1, 5, []), (5, .iconst 2, 6, []), (6, .if_icmp .lt 6, 9, [((0 : Int), 12)]), (9, .bipush (-2), 11, []), (11, .ireturn, 12, []), (12, .aload_n 0, 13, []), (13, .getfield 31, 16, []), (16, .iload_n 1, 17, []), (17, .aaload, 18, []), (18, .aload_n 0, 19, []), (19, .getfield 10, 22, []), (22, .invokevirtual 118, 25, []), (25, .aload_n 0, 26, []), (26, .getfield 34, 29, []), (29, .iload_n 1, 30, []), (30, .iconst 1, 31, []), (31, .bastore, 32, []), (32, .aload_n 0, 33, []), (33, .getfield 10, 36, []), (36, .getfield 77, 39, []), (39, .ireturn, 40, [])]
def E_X2_save_v0 : ab_E := (T_X2, [(22, (2, 1, [43, 44, 45, 46, 47, 1, 2, 3, 4, 5], 10, sp_X1_copyFrom))], [], 0)
def M_X2_save : List (Nat × ab_MI) := [(22, mi_X1_copyFrom)]
def mi_X2_save : ab_MI := (yX2_save, cX2_save, 2, ab_rty 0, 2, 91)
theorem pk_X2_save : P_X2_save.all (ab_okI cX2_save) = true := by decide +kernel
theorem ck_X2_save_v0 : P_X2_save.all (ab_okC1 "RootChunks" M_X2_save E_X2_save_v0 (2, 91)) = true := by decide +kernel
set_option maxRecDepth 100000 in
theorem b_X2_save_v0_0 {Q : ab_Q} {a : Int} {u : Int} {r : rw_T} {q : rw_T} {o : List (Option Nat)} {h0 : rw_T} {h1 : rw_T} {h2 : rw_T} {h3 : rw_T} {h4 : rw_T} {h5 : rw_T} {s0 : rw_T} {s1 : rw_T} {z : Int → Int} {p : pd_T} {f : Int → Int} (l1 : a < (0 : Int) → Q (some (.inl (-2))) (xz_cs u r q o h0 h1 h2 h3 h4 h5 s0 s1 z p f)) (l2 : (0 : Int) ≤ a → a < (2 : Int) → ab_R E_X2_save_v0 P_X2_save Q 18 [some (.inr (.inl (some 0))), some (.inl a)] [.inr (.inl (([some 43, some 48]).getD a.toNat none))] (xz_cs u r q o h0 h1 h2 h3 h4 h5 s0 s1 z p f)) (l3 : (0 : Int) ≤ a → (2 : Int) ≤ a → Q (some (.inl (-2))) (xz_cs u r q o h0 h1 h2 h3 h4 h5 s0 s1 z p f)) (p1 : ab_r a := by intros; (try unfold ab_r); omega) (p2 : (0 : Int) ≤ a → (ab_r a ∧ ab_r 2) := by intros; (try unfold ab_r); omega) (p3 : (0 : Int) ≤ a → a < (2 : Int) → (([some 43, some 48]).length < 1000000) := by intros; (try unfold ab_r); omega) (p4 : (0 : Int) ≤ a → a < (2 : Int) → (0 ≤ a ∧ a < ((([some 43, some 48]).length : Nat) : Int)) := by intros; (try unfold ab_r); omega) : ab_R E_X2_save_v0 P_X2_save Q 0 [some (.inr (.inl (some 0))), some (.inl a)] [] (xz_cs u r q o h0 h1 h2 h3 h4 h5 s0 s1 z p f) :=
  ab_R.steps [18, 25] 10 (show (ab_r a ∧ ((a < (0 : Int) → Q (some (.inl (-2))) (xz_cs u r q o h0 h1 h2 h3 h4 h5 s0 s1 z p f)) ∧ ((0 : Int) ≤ a → ((ab_r a ∧ ab_r 2) ∧ ((a < (2 : Int) → (ab_rarr 42 (xz_cs u r q o h0 h1 h2 h3 h4 h5 s0 s1 z p f) (fun l_ => (0 ≤ a ∧ a < (((l_).length : Nat) : Int)) ∧ ab_R E_X2_save_v0 P_X2_save Q 18 [some (.inr (.inl (some 0))), some (.inl a)] [.inr (.inl (l_.getD a.toNat none))] (xz_cs u r q o h0 h1 h2 h3 h4 h5 s0 s1 z p f)))) ∧ ((2 : Int) ≤ a → Q (some (.inl (-2))) (xz_cs u r q o h0 h1 h2 h3 h4 h5 s0 s1 z p f))))))) from ⟨p1, ⟨fun h1 => (l1 h1), fun h2 => ⟨(p2 h2), ⟨fun h3 => (ab_rarrI rfl (p3 h2 h3) ⟨(p4 h2 h3), (l2 h2 h3)⟩), fun h4 => (l3 h2 h4)⟩⟩⟩⟩)
set_option maxRecDepth 100000 in
theorem b_X2_save_v0_18 {Q : ab_Q} {a : Int} {u : Int} {r : rw_T} {q : rw_T} {o : List (Option Nat)} {h0 : rw_T} {h1 : rw_T} {h2 : rw_T} {h3 : rw_T} {h4 : rw_T} {h5 : rw_T} {s0 : rw_T} {s1 : rw_T} {z : Int → Int} {p : pd_T} {f : Int → Int} (l1 : sp_X1_copyFrom [.inr (.inl (some 0)), .inr (.inl (some 5))] (rw2_cs s0 r) (fun r_ k_ => ∃ (r' : rw_T), ∃ (q' : rw_T), r_ = none ∧ k_ = (rw2_cs r' q') ∧ ab_R E_X2_save_v0 P_X2_save Q 25 [some (.inr (.inl (some 0))), some (.inl a)] [] (xz_cs u q' q o h0 h1 h2 h3 h4 h5 r' s1 z p f)))  : ab_R E_X2_save_v0 P_X2_save Q 18 [some (.inr (.inl (some 0))), some (.inl a)] [.inr (.inl (some 43))] (xz_cs u r q o h0 h1 h2 h3 h4 h5 s0 s1 z p f) :=
  ab_R.steps [18, 25] 4 (show ab_cl sp_X1_copyFrom [.inr (.inl (some 0)), .inr (.inl (some 5))] (rw2_cs s0 r) (fun r_ k_ => k_.length = 10 → ab_R E_X2_save_v0 P_X2_save Q 25 [some (.inr (.inl (some 0))), some (.inl a)] (ab_ret (r_.map (ab_reV [43, 44, 45, 46, 47, 1, 2, 3, 4, 5])) []) (ab_back [43, 44, 45, 46, 47, 1, 2, 3, 4, 5] [43, 44, 45, 46, 47, 1, 2, 3, 4, 5] k_ (xz_cs u r q o h0 h1 h2 h3 h4 h5 s0 s1 z p f))) from ⟨_, l1, fun r_ k_ hz _ => by obtain ⟨r', q', rfl, rfl, hR⟩ := hz; exact hR⟩)
set_option maxRecDepth 100000 in
theorem b_X2_save_v0_25 {Q : ab_Q} {a : Int} {u : Int} {r : rw_T} {q : rw_T} {o : List (Option Nat)} {h0 : rw_T} {h1 : rw_T} {h2 : rw_T} {h3 : rw_T} {h4 : rw_T} {h5 : rw_T} {s0 : rw_T} {s1 : rw_T} {z : Int → Int} {p : pd_T} {f : Int → Int} (l1 : Q (some (.inl r.2.2.2.2.1)) (xz_cs u r q o h0 h1 h2 h3 h4 h5 s0 s1 ((ab_up z a 1)) p f)) (p1 : (0 ≤ a ∧ a < 2 ∧ ((1 : Int) = 0 ∨ (1 : Int) = 1)) := by intros; (try unfold ab_r); omega) : ab_R E_X2_save_v0 P_X2_save Q 25 [some (.inr (.inl (some 0))), some (.inl a)] [] (xz_cs u r q o h0 h1 h2 h3 h4 h5 s0 s1 z p f) :=
  ab_R.steps [18, 25] 10 (show ((0 ≤ a ∧ a < 2 ∧ ((1 : Int) = 0 ∨ (1 : Int) = 1)) ∧ Q (some (.inl r.2.2.2.2.1)) (xz_cs u r q o h0 h1 h2 h3 h4 h5 s0 s1 ((ab_up z a 1)) p f)) from ⟨p1, l1⟩)
def E_X2_save_v1 : ab_E := (T_X2, [(22, (2, 1, [48, 49, 50, 51, 52, 1, 2, 3, 4, 5], 10, sp_X1_copyFrom))], [], 0)
theorem ck_X2_save_v1 : P_X2_save.all (ab_okC1 "RootChunks" M_X2_save E_X2_save_v1 (2, 91)) = true := by decide +kernel
set_option maxRecDepth 100000 in
theorem b_X2_save_v1_0 {Q : ab_Q} {a : Int} {u : Int} {r : rw_T} {q : rw_T} {o : List (Option Nat)} {h0 : rw_T} {h1 : rw_T} {h2 : rw_T} {h3 : rw_T} {h4 : rw_T} {h5 : rw_T} {s0 : rw_T} {s1 : rw_T} {z : Int → Int} {p : pd_T} {f : Int → Int} (l1 : a < (0 : Int) → Q (some (.inl (-2))) (xz_cs u r q o h0 h1 h2 h3 h4 h5 s0 s1 z p f)) (l2 : (0 : Int) ≤ a → a < (2 : Int) → ab_R E_X2_save_v1 P_X2_save Q 18 [some (.inr (.inl (some 0))), some (.inl a)] [.inr (.inl (([some 43, some 48]).getD a.toNat none))] (xz_cs u r q o h0 h1 h2 h3 h4 h5 s0 s1 z p f)) (l3 : (0 : Int) ≤ a → (2 : Int) ≤ a → Q (some (.inl (-2))) (xz_cs u r q o h0 h1 h2 h3 h4 h5 s0 s1 z p f)) (p1 : ab_r a := by intros; (try unfold ab_r); omega) (p2 : (0 : Int) ≤ a → (ab_r a ∧ ab_r 2) := by intros; (try unfold ab_r); omega) (p3 : (0 : Int) ≤ a → a < (2 : Int) → (([some 43, some 48]).length < 1000000) := by intros; (try unfold ab_r); omega) (p4 : (0 : Int) ≤ a → a < (2 : Int) → (0 ≤ a ∧ a < ((([some 43, some 48]).length : Nat) : Int)) := by intros; (try unfold ab_r); omega) : ab_R E_X2_save_v1 P_X2_save Q 0 [some (.inr (.inl (some 0))), some (.inl a)] [] (xz_cs u r q o h0 h1 h2 h3 h4 h5 s0 s1 z p f) :=
  ab_R.steps [18, 25] 10 (show (ab_r a ∧ ((a < (0 : Int) → Q (some (.inl (-2))) (xz_cs u r q o h0 h1 h2 h3 h4 h5 s0 s1 z p f)) ∧ ((0 : Int) ≤ a → ((ab_r a ∧ ab_r 2) ∧ ((a < (2 : Int) → (ab_rarr 42 (xz_cs u r q o h0 h1 h2 h3 h4 h5 s0 s1 z p f) (fun l_ => (0 ≤ a ∧ a < (((l_).length : Nat) : Int)) ∧ ab_R E_X2_save_v1 P_X2_save Q 18 [some (.inr (.inl (some 0))), some (.inl a)] [.inr (.inl (l_.getD a.toNat none))] (xz_cs u r q o h0 h1 h2 h3 h4 h5 s0 s1 z p f)))) ∧ ((2 : Int) ≤ a → Q (some (.inl (-2))) (xz_cs u r q o h0 h1 h2 h3 h4 h5 s0 s1 z p f))))))) from ⟨p1, ⟨fun h1 => (l1 h1), fun h2 => ⟨(p2 h2), ⟨fun h3 => (ab_rarrI rfl (p3 h2 h3) ⟨(p4 h2 h3), (l2 h2 h3)⟩), fun h4 => (l3 h2 h4)⟩⟩⟩⟩)
set_option maxRecDepth 100000 in
theorem b_X2_save_v1_18 {Q : ab_Q} {a : Int} {u : Int} {r : rw_T} {q : rw_T} {o : List (Option Nat)} {h0 : rw_T} {h1 : rw_T} {h2 : rw_T} {h3 : rw_T} {h4 : rw_T} {h5 : rw_T} {s0 : rw_T} {s1 : rw_T} {z : Int → Int} {p : pd_T} {f : Int → Int} (l1 : sp_X1_copyFrom [.inr (.inl (some 0)), .inr (.inl (some 5))] (rw2_cs s1 r) (fun r_ k_ => ∃ (r' : rw_T), ∃ (q' : rw_T), r_ = none ∧ k_ = (rw2_cs r' q') ∧ ab_R E_X2_save_v1 P_X2_save Q 25 [some (.inr (.inl (some 0))), some (.inl a)] [] (xz_cs u q' q o h0 h1 h2 h3 h4 h5 s0 r' z p f)))  : ab_R E_X2_save_v1 P_X2_save Q 18 [some (.inr (.inl (some 0))), some (.inl a)] [.inr (.inl (some 48))] (xz_cs u r q o h0 h1 h2 h3 h4 h5 s0 s1 z p f) :=
  ab_R.steps [18, 25] 4 (show ab_cl sp_X1_copyFrom [.inr (.inl (some 0)), .inr (.inl (some 5))] (rw2_cs s1 r) (fun r_ k_ => k_.length = 10 → ab_R E_X2_save_v1 P_X2_save Q 25 [some (.inr (.inl (some 0))), some (.inl a)] (ab_ret (r_.map (ab_reV [48, 49, 50, 51, 52, 1, 2, 3, 4, 5])) []) (ab_back [48, 49, 50, 51, 52, 1, 2, 3, 4, 5] [48, 49, 50, 51, 52, 1, 2, 3, 4, 5] k_ (xz_cs u r q o h0 h1 h2 h3 h4 h5 s0 s1 z p f))) from ⟨_, l1, fun r_ k_ hz _ => by obtain ⟨r', q', rfl, rfl, hR⟩ := hz; exact hR⟩)
set_option maxRecDepth 100000 in
theorem b_X2_save_v1_25 {Q : ab_Q} {a : Int} {u : Int} {r : rw_T} {q : rw_T} {o : List (Option Nat)} {h0 : rw_T} {h1 : rw_T} {h2 : rw_T} {h3 : rw_T} {h4 : rw_T} {h5 : rw_T} {s0 : rw_T} {s1 : rw_T} {z : Int → Int} {p : pd_T} {f : Int → Int} (l1 : Q (some (.inl r.2.2.2.2.1)) (xz_cs u r q o h0 h1 h2 h3 h4 h5 s0 s1 ((ab_up z a 1)) p f)) (p1 : (0 ≤ a ∧ a < 2 ∧ ((1 : Int) = 0 ∨ (1 : Int) = 1)) := by intros; (try unfold ab_r); omega) : ab_R E_X2_save_v1 P_X2_save Q 25 [some (.inr (.inl (some 0))), some (.inl a)] [] (xz_cs u r q o h0 h1 h2 h3 h4 h5 s0 s1 z p f) :=
  ab_R.steps [18, 25] 10 (show ((0 ≤ a ∧ a < 2 ∧ ((1 : Int) = 0 ∨ (1 : Int) = 1)) ∧ Q (some (.inl r.2.2.2.2.1)) (xz_cs u r q o h0 h1 h2 h3 h4 h5 s0 s1 ((ab_up z a 1)) p f)) from ⟨p1, l1⟩)
theorem vc_X2_save_v0 {av : List ab_V} {cs : List ab_C} {Q : ab_Q} (h : sp_X2_save_v0 av cs Q) : (ab_lv0 av).length ≤ 2 ∧ ab_R E_X2_save_v0 P_X2_save Q 0 (ab_ent av 2) [] cs := by
  obtain ⟨⟨u, r, q, o, hy, s0, s1, z, p, f⟩, S, a, rfl, rfl, hI, ha, hk, hQ⟩ := h
  refine ⟨Nat.le_of_ble_eq_true rfl, ?_⟩
  show ab_R E_X2_save_v0 P_X2_save Q 0 [some (.inr (.inl (some 0))), some (.inl a)] [] (xz_cs u r q o (hy 0) (hy 1) (hy 2) (hy 3) (hy 4) (hy 5) s0 s1 z p f)
  have hR : mq_R r S.1.1 := hI.1.1
  have hW : mq_W S.1.1 := hI.1.2.1
  have hw : r.2.2.2.2.2.2 = S.1.2 := hI.1.2.2
  have hnn : r.2.2.2.2.1 = mq_n S.1.1 := hR.2.2.2.2.1
  have ha' := ha
  unfold ab_r at ha'
  unfold mf_save at hQ
  refine b_X2_save_v0_0 (fun h1 => ?_) (fun h1 h2 => ?_) (fun h1 h2 => ?_) (p3 := fun _ _ => by decide) (p4 := fun h1 h2 => ⟨h1, h2⟩)
  · rw [if_neg (by omega), if_neg (by omega)] at hQ
    exact hQ (u, r, q, o, hy, s0, s1, z, p, f) hI
  · have e : a = 0 := by omega
    subst e
    rw [if_pos rfl] at hQ
    refine b_X2_save_v0_18 ⟨s0, r, S.1.1, rfl, rfl, hR, hW, fun r1 e1 e2 => ⟨_, _, rfl, rfl, b_X2_save_v0_25 ?_⟩⟩
    rw [hnn]
    refine hQ (u, r, q, o, hy, r1, s1, ab_up z 0 1, p, f) ⟨hI.1, hI.2.1, ⟨⟨by show ab_up z 0 1 0 = 1; exact ab_up_eq rfl, e1, hW, e2.trans hw⟩, ?_⟩, hI.2.2.2⟩
    show mx_sl s1 (ab_up z 0 1 1) S.2.2.1.2
    rw [ab_up_ne (by omega)]
    exact hI.2.2.1.2
  · rw [if_neg (by omega), if_neg (by omega)] at hQ
    exact hQ (u, r, q, o, hy, s0, s1, z, p, f) hI
theorem mt_X2_save_v0 (l : Launch) : ab_MT l mi_X2_save sp_X2_save_v0 := ab_MT.of (own := "RootChunks") (E := E_X2_save_v0) (P := P_X2_save) (M := M_X2_save) (nL := 2) (ty := 0) (by decide) rfl rfl tk_X2 pk_X2_save ck_X2_save_v0 (ab_CT'.cons (mt_X1_copyFrom l) ab_CT'.nil) (fun av cs Q h => vc_X2_save_v0 h)
theorem vc_X2_save_v1 {av : List ab_V} {cs : List ab_C} {Q : ab_Q} (h : sp_X2_save_v1 av cs Q) : (ab_lv0 av).length ≤ 2 ∧ ab_R E_X2_save_v1 P_X2_save Q 0 (ab_ent av 2) [] cs := by
  obtain ⟨⟨u, r, q, o, hy, s0, s1, z, p, f⟩, S, a, rfl, rfl, hI, ha, hk, hQ⟩ := h
  refine ⟨Nat.le_of_ble_eq_true rfl, ?_⟩
  show ab_R E_X2_save_v1 P_X2_save Q 0 [some (.inr (.inl (some 0))), some (.inl a)] [] (xz_cs u r q o (hy 0) (hy 1) (hy 2) (hy 3) (hy 4) (hy 5) s0 s1 z p f)
  have hR : mq_R r S.1.1 := hI.1.1
  have hW : mq_W S.1.1 := hI.1.2.1
  have hw : r.2.2.2.2.2.2 = S.1.2 := hI.1.2.2
  have hnn : r.2.2.2.2.1 = mq_n S.1.1 := hR.2.2.2.2.1
  have ha' := ha
  unfold ab_r at ha'
  unfold mf_save at hQ
  refine b_X2_save_v1_0 (fun h1 => ?_) (fun h1 h2 => ?_) (fun h1 h2 => ?_) (p3 := fun _ _ => by decide) (p4 := fun h1 h2 => ⟨h1, h2⟩)
  · rw [if_neg (by omega), if_neg (by omega)] at hQ
    exact hQ (u, r, q, o, hy, s0, s1, z, p, f) hI
  · have e : a = 1 := by omega
    subst e
    rw [if_neg (by omega), if_pos rfl] at hQ
    refine b_X2_save_v1_18 ⟨s1, r, S.1.1, rfl, rfl, hR, hW, fun r1 e1 e2 => ⟨_, _, rfl, rfl, b_X2_save_v1_25 ?_⟩⟩
    rw [hnn]
    refine hQ (u, r, q, o, hy, s0, r1, ab_up z 1 1, p, f) ⟨hI.1, hI.2.1, ⟨?_, ⟨by show ab_up z 1 1 1 = 1; exact ab_up_eq rfl, e1, hW, e2.trans hw⟩⟩, hI.2.2.2⟩
    show mx_sl s0 (ab_up z 1 1 0) S.2.2.1.1
    rw [ab_up_ne (by omega)]
    exact hI.2.2.1.1
  · rw [if_neg (by omega), if_neg (by omega)] at hQ
    exact hQ (u, r, q, o, hy, s0, s1, z, p, f) hI
theorem mt_X2_save_v1 (l : Launch) : ab_MT l mi_X2_save sp_X2_save_v1 := ab_MT.of (own := "RootChunks") (E := E_X2_save_v1) (P := P_X2_save) (M := M_X2_save) (nL := 2) (ty := 0) (by decide) rfl rfl tk_X2 pk_X2_save ck_X2_save_v1 (ab_CT'.cons (mt_X1_copyFrom l) ab_CT'.nil) (fun av cs Q h => vc_X2_save_v1 h)
theorem mt_X2_save (l : Launch) : ab_MT l mi_X2_save sp_X2_save := by
  intro G ad av cs Q sz h
  obtain ⟨X, S, a, h1, h2, h3, h4, h5⟩ := h
  by_cases y : a = 1
  · exact mt_X2_save_v1 l G ad av cs Q sz ⟨X, S, a, h1, h2, h3, h4, Or.inl y, h5⟩
  · exact mt_X2_save_v0 l G ad av cs Q sz ⟨X, S, a, h1, h2, h3, h4, by omega, h5⟩
def P_X2_restore : List ab_I := [(0, .iload_n 1, 1, []), (1, .ifCond .lt 8, 4, [((0 : Int), 9)]), (4, .iload_n 1, 5, []), (5, .iconst 2, 6, []), (6, .if_icmp .lt 6, 9, [((0 : Int), 12)]), (9, .bipush (-2), 11, []), (11, .ireturn, 12, []), (12, .aload_n 0, 13, []), (13, .getfield 34, 16, []), (16, .iload_n 1, 17, []), (17, .baload, 18, []), (18, .ifCond .ne 6, 21, [((0 : Int), 24)]), (21, .bipush (-5), 23, []), (23, .ireturn, 24, []), (24, .aload_n 0, 25, []), (25, .invokevirtual 144, 28, []), (28, .aload_n 0, 29, []), (29, .getfield 10, 32, []), (32, .aload_n 0, 33, []), (33, .getfield 31, 36, []), (36, .iload_n 1, 37, []), (37, .aaload, 38, []), (38, .invokevirtual 118, 41, []), (41, .aload_n 0, 42, []), (42, .getfield 10, 45, []), (45, .getfield 77, 48, []), (48, .ireturn, 49, [])]
def E_X2_restore_v0 : ab_E := (T_X2, [(25, (1, 2, [], 0, sp_X2_remember)), (38, (2, 1, [1, 2, 3, 4, 5, 43, 44, 45, 46, 47], 10, sp_X1_copyFrom))], [], 0)
def M_X2_restore : List (Nat × ab_MI) := [(25, mi_X2_remember), (38, mi_X1_copyFrom)]
def mi_X2_restore : ab_MI := (yX2_restore, cX2_restore, 2, ab_rty 0, 3, 113)
theorem pk_X2_restore : P_X2_restore.all (ab_okI cX2_restore) = true := by decide +kernel
theorem ck_X2_restore_v0 : P_X2_restore.all (ab_okC1 "RootChunks" M_X2_restore E_X2_restore_v0 (3, 113)) = true := by decide +kernel
set_option maxRecDepth 100000 in
theorem b_X2_restore_v0_0 {Q : ab_Q} {a : Int} {u : Int} {r : rw_T} {q : rw_T} {o : List (Option Nat)} {h0 : rw_T} {h1 : rw_T} {h2 : rw_T} {h3 : rw_T} {h4 : rw_T} {h5 : rw_T} {s0 : rw_T} {s1 : rw_T} {z : Int → Int} {p : pd_T} {f : Int → Int} (l1 : a < (0 : Int) → Q (some (.inl (-2))) (xz_cs u r q o h0 h1 h2 h3 h4 h5 s0 s1 z p f)) (l2 : (0 : Int) ≤ a → a < (2 : Int) → ¬ (z a) = (0 : Int) → sp_X2_remember [.inr (.inl (some 0))] (xz_cs u r q o h0 h1 h2 h3 h4 h5 s0 s1 z p f) (fun r_ k_ => ∃ (u' : Int), ∃ (r' : rw_T), ∃ (q' : rw_T), ∃ (o' : List (Option Nat)), ∃ (h0' : rw_T), ∃ (h1' : rw_T), ∃ (h2' : rw_T), ∃ (h3' : rw_T), ∃ (h4' : rw_T), ∃ (h5' : rw_T), ∃ (s0' : rw_T), ∃ (s1' : rw_T), ∃ (z' : Int → Int), ∃ (p' : pd_T), ∃ (f' : Int → Int), r_ = none ∧ k_ = (xz_cs (u') r' q' (o') h0' h1' h2' h3' h4' h5' s0' s1' (z') p' (f')) ∧ ab_R E_X2_restore_v0 P_X2_restore Q 28 [some (.inr (.inl (some 0))), some (.inl a)] [] (xz_cs (u') r' q' (o') h0' h1' h2' h3' h4' h5' s0' s1' (z') p' (f')))) (l3 : (0 : Int) ≤ a → a < (2 : Int) → (z a) = (0 : Int) → Q (some (.inl (-5))) (xz_cs u r q o h0 h1 h2 h3 h4 h5 s0 s1 z p f)) (l4 : (0 : Int) ≤ a → (2 : Int) ≤ a → Q (some (.inl (-2))) (xz_cs u r q o h0 h1 h2 h3 h4 h5 s0 s1 z p f)) (p1 : ab_r a := by intros; (try unfold ab_r); omega) (p2 : (0 : Int) ≤ a → (ab_r a ∧ ab_r 2) := by intros; (try unfold ab_r); omega) (p3 : (0 : Int) ≤ a → a < (2 : Int) → (0 ≤ a ∧ a < 2) := by intros; (try unfold ab_r); omega) (p4 : (0 : Int) ≤ a → a < (2 : Int) → ab_r (z a) := by intros; (try unfold ab_r); omega) : ab_R E_X2_restore_v0 P_X2_restore Q 0 [some (.inr (.inl (some 0))), some (.inl a)] [] (xz_cs u r q o h0 h1 h2 h3 h4 h5 s0 s1 z p f) :=
  ab_R.steps [28, 38, 41] 13 (show (ab_r a ∧ ((a < (0 : Int) → Q (some (.inl (-2))) (xz_cs u r q o h0 h1 h2 h3 h4 h5 s0 s1 z p f)) ∧ ((0 : Int) ≤ a → ((ab_r a ∧ ab_r 2) ∧ ((a < (2 : Int) → ((0 ≤ a ∧ a < 2) ∧ (ab_r (z a) ∧ ((¬ (z a) = (0 : Int) → ab_cl sp_X2_remember [.inr (.inl (some 0))] (xz_cs u r q o h0 h1 h2 h3 h4 h5 s0 s1 z p f) (fun r_ k_ => k_.length = ((xz_cs u r q o h0 h1 h2 h3 h4 h5 s0 s1 z p f)).length → ab_R E_X2_restore_v0 P_X2_restore Q 28 [some (.inr (.inl (some 0))), some (.inl a)] (ab_ret r_ []) k_)) ∧ ((z a) = (0 : Int) → Q (some (.inl (-5))) (xz_cs u r q o h0 h1 h2 h3 h4 h5 s0 s1 z p f)))))) ∧ ((2 : Int) ≤ a → Q (some (.inl (-2))) (xz_cs u r q o h0 h1 h2 h3 h4 h5 s0 s1 z p f))))))) from ⟨p1, ⟨fun h1 => (l1 h1), fun h2 => ⟨(p2 h2), ⟨fun h3 => ⟨(p3 h2 h3), ⟨(p4 h2 h3), ⟨fun h4 => ⟨_, (l2 h2 h3 h4), fun r_ k_ hz _ => by obtain ⟨u', r', q', o', h0', h1', h2', h3', h4', h5', s0', s1', z', p', f', rfl, rfl, hR⟩ := hz; exact hR⟩, fun h5 => (l3 h2 h3 h5)⟩⟩⟩, fun h6 => (l4 h2 h6)⟩⟩⟩⟩)
set_option maxRecDepth 100000 in
theorem b_X2_restore_v0_28 {Q : ab_Q} {a : Int} {u : Int} {r : rw_T} {q : rw_T} {o : List (Option Nat)} {h0 : rw_T} {h1 : rw_T} {h2 : rw_T} {h3 : rw_T} {h4 : rw_T} {h5 : rw_T} {s0 : rw_T} {s1 : rw_T} {z : Int → Int} {p : pd_T} {f : Int → Int} (l1 : ab_R E_X2_restore_v0 P_X2_restore Q 38 [some (.inr (.inl (some 0))), some (.inl a)] [.inr (.inl (([some 43, some 48]).getD a.toNat none)), .inr (.inl (some 1))] (xz_cs u r q o h0 h1 h2 h3 h4 h5 s0 s1 z p f)) (p1 : (([some 43, some 48]).length < 1000000) := by intros; (try unfold ab_r); omega) (p2 : (0 ≤ a ∧ a < ((([some 43, some 48]).length : Nat) : Int)) := by intros; (try unfold ab_r); omega) : ab_R E_X2_restore_v0 P_X2_restore Q 28 [some (.inr (.inl (some 0))), some (.inl a)] [] (xz_cs u r q o h0 h1 h2 h3 h4 h5 s0 s1 z p f) :=
  ab_R.steps [28, 38, 41] 7 (show (ab_rarr 42 (xz_cs u r q o h0 h1 h2 h3 h4 h5 s0 s1 z p f) (fun l_ => (0 ≤ a ∧ a < (((l_).length : Nat) : Int)) ∧ ab_R E_X2_restore_v0 P_X2_restore Q 38 [some (.inr (.inl (some 0))), some (.inl a)] [.inr (.inl (l_.getD a.toNat none)), .inr (.inl (some 1))] (xz_cs u r q o h0 h1 h2 h3 h4 h5 s0 s1 z p f))) from (ab_rarrI rfl p1 ⟨p2, l1⟩))
set_option maxRecDepth 100000 in
theorem b_X2_restore_v0_38 {Q : ab_Q} {a : Int} {u : Int} {r : rw_T} {q : rw_T} {o : List (Option Nat)} {h0 : rw_T} {h1 : rw_T} {h2 : rw_T} {h3 : rw_T} {h4 : rw_T} {h5 : rw_T} {s0 : rw_T} {s1 : rw_T} {z : Int → Int} {p : pd_T} {f : Int → Int} (l1 : sp_X1_copyFrom [.inr (.inl (some 0)), .inr (.inl (some 5))] (rw2_cs r s0) (fun r_ k_ => ∃ (r' : rw_T), ∃ (q' : rw_T), r_ = none ∧ k_ = (rw2_cs r' q') ∧ ab_R E_X2_restore_v0 P_X2_restore Q 41 [some (.inr (.inl (some 0))), some (.inl a)] [] (xz_cs u r' q o h0 h1 h2 h3 h4 h5 q' s1 z p f)))  : ab_R E_X2_restore_v0 P_X2_restore Q 38 [some (.inr (.inl (some 0))), some (.inl a)] [.inr (.inl (some 43)), .inr (.inl (some 1))] (xz_cs u r q o h0 h1 h2 h3 h4 h5 s0 s1 z p f) :=
  ab_R.steps [28, 38, 41] 2 (show ab_cl sp_X1_copyFrom [.inr (.inl (some 0)), .inr (.inl (some 5))] (rw2_cs r s0) (fun r_ k_ => k_.length = 10 → ab_R E_X2_restore_v0 P_X2_restore Q 41 [some (.inr (.inl (some 0))), some (.inl a)] (ab_ret (r_.map (ab_reV [1, 2, 3, 4, 5, 43, 44, 45, 46, 47])) []) (ab_back [1, 2, 3, 4, 5, 43, 44, 45, 46, 47] [1, 2, 3, 4, 5, 43, 44, 45, 46, 47] k_ (xz_cs u r q o h0 h1 h2 h3 h4 h5 s0 s1 z p f))) from ⟨_, l1, fun r_ k_ hz _ => by obtain ⟨r', q', rfl, rfl, hR⟩ := hz; exact hR⟩)
set_option maxRecDepth 100000 in
theorem b_X2_restore_v0_41 {Q : ab_Q} {a : Int} {u : Int} {r : rw_T} {q : rw_T} {o : List (Option Nat)} {h0 : rw_T} {h1 : rw_T} {h2 : rw_T} {h3 : rw_T} {h4 : rw_T} {h5 : rw_T} {s0 : rw_T} {s1 : rw_T} {z : Int → Int} {p : pd_T} {f : Int → Int} (l1 : Q (some (.inl r.2.2.2.2.1)) (xz_cs u r q o h0 h1 h2 h3 h4 h5 s0 s1 z p f))  : ab_R E_X2_restore_v0 P_X2_restore Q 41 [some (.inr (.inl (some 0))), some (.inl a)] [] (xz_cs u r q o h0 h1 h2 h3 h4 h5 s0 s1 z p f) :=
  ab_R.steps [28, 38, 41] 5 (show Q (some (.inl r.2.2.2.2.1)) (xz_cs u r q o h0 h1 h2 h3 h4 h5 s0 s1 z p f) from l1)
def E_X2_restore_v1 : ab_E := (T_X2, [(25, (1, 2, [], 0, sp_X2_remember)), (38, (2, 1, [1, 2, 3, 4, 5, 48, 49, 50, 51, 52], 10, sp_X1_copyFrom))], [], 0)
theorem ck_X2_restore_v1 : P_X2_restore.all (ab_okC1 "RootChunks" M_X2_restore E_X2_restore_v1 (3, 113)) = true := by decide +kernel
set_option maxRecDepth 100000 in
theorem b_X2_restore_v1_0 {Q : ab_Q} {a : Int} {u : Int} {r : rw_T} {q : rw_T} {o : List (Option Nat)} {h0 : rw_T} {h1 : rw_T} {h2 : rw_T} {h3 : rw_T} {h4 : rw_T} {h5 : rw_T} {s0 : rw_T} {s1 : rw_T} {z : Int → Int} {p : pd_T} {f : Int → Int} (l1 : a < (0 : Int) → Q (some (.inl (-2))) (xz_cs u r q o h0 h1 h2 h3 h4 h5 s0 s1 z p f)) (l2 : (0 : Int) ≤ a → a < (2 : Int) → ¬ (z a) = (0 : Int) → sp_X2_remember [.inr (.inl (some 0))] (xz_cs u r q o h0 h1 h2 h3 h4 h5 s0 s1 z p f) (fun r_ k_ => ∃ (u' : Int), ∃ (r' : rw_T), ∃ (q' : rw_T), ∃ (o' : List (Option Nat)), ∃ (h0' : rw_T), ∃ (h1' : rw_T), ∃ (h2' : rw_T), ∃ (h3' : rw_T), ∃ (h4' : rw_T), ∃ (h5' : rw_T), ∃ (s0' : rw_T), ∃ (s1' : rw_T), ∃ (z' : Int → Int), ∃ (p' : pd_T), ∃ (f' : Int → Int), r_ = none ∧ k_ = (xz_cs (u') r' q' (o') h0' h1' h2' h3' h4' h5' s0' s1' (z') p' (f')) ∧ ab_R E_X2_restore_v1 P_X2_restore Q 28 [some (.inr (.inl (some 0))), some (.inl a)] [] (xz_cs (u') r' q' (o') h0' h1' h2' h3' h4' h5' s0' s1' (z') p' (f')))) (l3 : (0 : Int) ≤ a → a < (2 : Int) → (z a) = (0 : Int) → Q (some (.inl (-5))) (xz_cs u r q o h0 h1 h2 h3 h4 h5 s0 s1 z p f)) (l4 : (0 : Int) ≤ a → (2 : Int) ≤ a → Q (some (.inl (-2))) (xz_cs u r q o h0 h1 h2 h3 h4 h5 s0 s1 z p f)) (p1 : ab_r a := by intros; (try unfold ab_r); omega) (p2 : (0 : Int) ≤ a → (ab_r a ∧ ab_r 2) := by intros; (try unfold ab_r); omega) (p3 : (0 : Int) ≤ a → a < (2 : Int) → (0 ≤ a ∧ a < 2) := by intros; (try unfold ab_r); omega) (p4 : (0 : Int) ≤ a → a < (2 : Int) → ab_r (z a) := by intros; (try unfold ab_r); omega) : ab_R E_X2_restore_v1 P_X2_restore Q 0 [some (.inr (.inl (some 0))), some (.inl a)] [] (xz_cs u r q o h0 h1 h2 h3 h4 h5 s0 s1 z p f) :=
  ab_R.steps [28, 38, 41] 13 (show (ab_r a ∧ ((a < (0 : Int) → Q (some (.inl (-2))) (xz_cs u r q o h0 h1 h2 h3 h4 h5 s0 s1 z p f)) ∧ ((0 : Int) ≤ a → ((ab_r a ∧ ab_r 2) ∧ ((a < (2 : Int) → ((0 ≤ a ∧ a < 2) ∧ (ab_r (z a) ∧ ((¬ (z a) = (0 : Int) → ab_cl sp_X2_remember [.inr (.inl (some 0))] (xz_cs u r q o h0 h1 h2 h3 h4 h5 s0 s1 z p f) (fun r_ k_ => k_.length = ((xz_cs u r q o h0 h1 h2 h3 h4 h5 s0 s1 z p f)).length → ab_R E_X2_restore_v1 P_X2_restore Q 28 [some (.inr (.inl (some 0))), some (.inl a)] (ab_ret r_ []) k_)) ∧ ((z a) = (0 : Int) → Q (some (.inl (-5))) (xz_cs u r q o h0 h1 h2 h3 h4 h5 s0 s1 z p f)))))) ∧ ((2 : Int) ≤ a → Q (some (.inl (-2))) (xz_cs u r q o h0 h1 h2 h3 h4 h5 s0 s1 z p f))))))) from ⟨p1, ⟨fun h1 => (l1 h1), fun h2 => ⟨(p2 h2), ⟨fun h3 => ⟨(p3 h2 h3), ⟨(p4 h2 h3), ⟨fun h4 => ⟨_, (l2 h2 h3 h4), fun r_ k_ hz _ => by obtain ⟨u', r', q', o', h0', h1', h2', h3', h4', h5', s0', s1', z', p', f', rfl, rfl, hR⟩ := hz; exact hR⟩, fun h5 => (l3 h2 h3 h5)⟩⟩⟩, fun h6 => (l4 h2 h6)⟩⟩⟩⟩)
set_option maxRecDepth 100000 in
theorem b_X2_restore_v1_28 {Q : ab_Q} {a : Int} {u : Int} {r : rw_T} {q : rw_T} {o : List (Option Nat)} {h0 : rw_T} {h1 : rw_T} {h2 : rw_T} {h3 : rw_T} {h4 : rw_T} {h5 : rw_T} {s0 : rw_T} {s1 : rw_T} {z : Int → Int} {p : pd_T} {f : Int → Int} (l1 : ab_R E_X2_restore_v1 P_X2_restore Q 38 [some (.inr (.inl (some 0))), some (.inl a)] [.inr (.inl (([some 43, some 48]).getD a.toNat none)), .inr (.inl (some 1))] (xz_cs u r q o h0 h1 h2 h3 h4 h5 s0 s1 z p f)) (p1 : (([some 43, some 48]).length < 1000000) := by intros; (try unfold ab_r); omega) (p2 : (0 ≤ a ∧ a < ((([some 43, some 48]).length : Nat) : Int)) := by intros; (try unfold ab_r); omega) : ab_R E_X2_restore_v1 P_X2_restore Q 28 [some (.inr (.inl (some 0))), some (.inl a)] [] (xz_cs u r q o h0 h1 h2 h3 h4 h5 s0 s1 z p f) :=
  ab_R.steps [28, 38, 41] 7 (show (ab_rarr 42 (xz_cs u r q o h0 h1 h2 h3 h4 h5 s0 s1 z p f) (fun l_ => (0 ≤ a ∧ a < (((l_).length : Nat) : Int)) ∧ ab_R E_X2_restore_v1 P_X2_restore Q 38 [some (.inr (.inl (some 0))), some (.inl a)] [.inr (.inl (l_.getD a.toNat none)), .inr (.inl (some 1))] (xz_cs u r q o h0 h1 h2 h3 h4 h5 s0 s1 z p f))) from (ab_rarrI rfl p1 ⟨p2, l1⟩))
set_option maxRecDepth 100000 in
theorem b_X2_restore_v1_38 {Q : ab_Q} {a : Int} {u : Int} {r : rw_T} {q : rw_T} {o : List (Option Nat)} {h0 : rw_T} {h1 : rw_T} {h2 : rw_T} {h3 : rw_T} {h4 : rw_T} {h5 : rw_T} {s0 : rw_T} {s1 : rw_T} {z : Int → Int} {p : pd_T} {f : Int → Int} (l1 : sp_X1_copyFrom [.inr (.inl (some 0)), .inr (.inl (some 5))] (rw2_cs r s1) (fun r_ k_ => ∃ (r' : rw_T), ∃ (q' : rw_T), r_ = none ∧ k_ = (rw2_cs r' q') ∧ ab_R E_X2_restore_v1 P_X2_restore Q 41 [some (.inr (.inl (some 0))), some (.inl a)] [] (xz_cs u r' q o h0 h1 h2 h3 h4 h5 s0 q' z p f)))  : ab_R E_X2_restore_v1 P_X2_restore Q 38 [some (.inr (.inl (some 0))), some (.inl a)] [.inr (.inl (some 48)), .inr (.inl (some 1))] (xz_cs u r q o h0 h1 h2 h3 h4 h5 s0 s1 z p f) :=
  ab_R.steps [28, 38, 41] 2 (show ab_cl sp_X1_copyFrom [.inr (.inl (some 0)), .inr (.inl (some 5))] (rw2_cs r s1) (fun r_ k_ => k_.length = 10 → ab_R E_X2_restore_v1 P_X2_restore Q 41 [some (.inr (.inl (some 0))), some (.inl a)] (ab_ret (r_.map (ab_reV [1, 2, 3, 4, 5, 48, 49, 50, 51, 52])) []) (ab_back [1, 2, 3, 4, 5, 48, 49, 50, 51, 52] [1, 2, 3, 4, 5, 48, 49, 50, 51, 52] k_ (xz_cs u r q o h0 h1 h2 h3 h4 h5 s0 s1 z p f))) from ⟨_, l1, fun r_ k_ hz _ => by obtain ⟨r', q', rfl, rfl, hR⟩ := hz; exact hR⟩)
set_option maxRecDepth 100000 in
theorem b_X2_restore_v1_41 {Q : ab_Q} {a : Int} {u : Int} {r : rw_T} {q : rw_T} {o : List (Option Nat)} {h0 : rw_T} {h1 : rw_T} {h2 : rw_T} {h3 : rw_T} {h4 : rw_T} {h5 : rw_T} {s0 : rw_T} {s1 : rw_T} {z : Int → Int} {p : pd_T} {f : Int → Int} (l1 : Q (some (.inl r.2.2.2.2.1)) (xz_cs u r q o h0 h1 h2 h3 h4 h5 s0 s1 z p f))  : ab_R E_X2_restore_v1 P_X2_restore Q 41 [some (.inr (.inl (some 0))), some (.inl a)] [] (xz_cs u r q o h0 h1 h2 h3 h4 h5 s0 s1 z p f) :=
  ab_R.steps [28, 38, 41] 5 (show Q (some (.inl r.2.2.2.2.1)) (xz_cs u r q o h0 h1 h2 h3 h4 h5 s0 s1 z p f) from l1)
theorem vc_X2_restore_v0 {av : List ab_V} {cs : List ab_C} {Q : ab_Q} (h : sp_X2_restore_v0 av cs Q) : (ab_lv0 av).length ≤ 2 ∧ ab_R E_X2_restore_v0 P_X2_restore Q 0 (ab_ent av 2) [] cs := by
  obtain ⟨⟨u, r, q, o, hy, s0, s1, z, p, f⟩, S, a, rfl, rfl, hI, ha, hk, hQ⟩ := h
  refine ⟨Nat.le_of_ble_eq_true rfl, ?_⟩
  show ab_R E_X2_restore_v0 P_X2_restore Q 0 [some (.inr (.inl (some 0))), some (.inl a)] [] (xz_cs u r q o (hy 0) (hy 1) (hy 2) (hy 3) (hy 4) (hy 5) s0 s1 z p f)
  have hst : mx_st r S.1 := hI.1
  have hH : mx_H u o hy S.2.1 := hI.2.1
  have hs : mx_sl s0 (z 0) (match (0 : Nat) with | 0 => S.2.2.1.1 | _ => S.2.2.1.2) := by
    first | exact hI.2.2.1.1 | exact hI.2.2.1.2
  have ha' := ha
  unfold ab_r at ha'
  by_cases y : a = 0
  · subst y
    have hres : mf_restore S 0 = mf_rest S (match (0 : Nat) with | 0 => S.2.2.1.1 | _ => S.2.2.1.2) := rfl
    rw [hres] at hQ
    generalize (match (0 : Nat) with | 0 => S.2.2.1.1 | _ => S.2.2.1.2) = os at hs hQ
    cases os with
    | none =>
      have hz : z 0 = 0 := hs
      exact b_X2_restore_v0_0 (fun h1 => by omega) (fun _ _ h => absurd hz h) (fun _ _ _ => hQ (u, r, q, o, hy, s0, s1, z, p, f) hI) (fun _ h2 => by omega) (p4 := fun _ _ => by rw [hz]; unfold ab_r; omega)
    | some x =>
      obtain ⟨hz, hx⟩ := (show z 0 = 1 ∧ mx_st s0 x from hs)
      refine b_X2_restore_v0_0 (fun h1 => by omega) (fun _ _ _ => ?_) (fun _ _ h => by omega) (fun _ h2 => by omega) (p4 := fun _ _ => by rw [hz]; unfold ab_r; omega)
      refine ⟨u, r, q, o, hy, s0, s1, z, p, f, S.1, S.2.1, rfl, rfl, hst, hH, fun u' o' h' hH' => ⟨_, _, _, _, _, _, _, _, _, _, _, _, _, _, _, rfl, rfl, ?_⟩⟩
      refine b_X2_restore_v0_28 ?_ (p1 := by decide) (p2 := by decide)
      refine b_X2_restore_v0_38 ⟨r, s0, x.1, rfl, rfl, hx.1, hx.2.1, fun r1 e1 e2 => ⟨_, _, rfl, rfl, b_X2_restore_v0_41 ?_⟩⟩
      have hnn : r1.2.2.2.2.1 = mq_n x.1 := e1.2.2.2.2.1
      rw [hnn]
      exact hQ (u', r1, q, o', h', s0, s1, z, p, f) ⟨⟨e1, hx.2.1, e2.trans hx.2.2⟩, hH', hI.2.2⟩
  · unfold mf_restore at hQ
    rw [if_neg (by omega), if_neg (by omega)] at hQ
    exact b_X2_restore_v0_0 (fun _ => hQ (u, r, q, o, hy, s0, s1, z, p, f) hI) (fun h1 h2 => by omega) (fun h1 h2 => by omega) (fun _ _ => hQ (u, r, q, o, hy, s0, s1, z, p, f) hI) (p4 := fun h1 h2 => by omega)
theorem mt_X2_restore_v0 (l : Launch) : ab_MT l mi_X2_restore sp_X2_restore_v0 := ab_MT.of (own := "RootChunks") (E := E_X2_restore_v0) (P := P_X2_restore) (M := M_X2_restore) (nL := 2) (ty := 0) (by decide) rfl rfl tk_X2 pk_X2_restore ck_X2_restore_v0 (ab_CT'.cons (mt_X2_remember l) (ab_CT'.cons (mt_X1_copyFrom l) ab_CT'.nil)) (fun av cs Q h => vc_X2_restore_v0 h)
theorem vc_X2_restore_v1 {av : List ab_V} {cs : List ab_C} {Q : ab_Q} (h : sp_X2_restore_v1 av cs Q) : (ab_lv0 av).length ≤ 2 ∧ ab_R E_X2_restore_v1 P_X2_restore Q 0 (ab_ent av 2) [] cs := by
  obtain ⟨⟨u, r, q, o, hy, s0, s1, z, p, f⟩, S, a, rfl, rfl, hI, ha, hk, hQ⟩ := h
  refine ⟨Nat.le_of_ble_eq_true rfl, ?_⟩
  show ab_R E_X2_restore_v1 P_X2_restore Q 0 [some (.inr (.inl (some 0))), some (.inl a)] [] (xz_cs u r q o (hy 0) (hy 1) (hy 2) (hy 3) (hy 4) (hy 5) s0 s1 z p f)
  have hst : mx_st r S.1 := hI.1
  have hH : mx_H u o hy S.2.1 := hI.2.1
  have hs : mx_sl s1 (z 1) (match (1 : Nat) with | 0 => S.2.2.1.1 | _ => S.2.2.1.2) := by
    first | exact hI.2.2.1.1 | exact hI.2.2.1.2
  have ha' := ha
  unfold ab_r at ha'
  by_cases y : a = 1
  · subst y
    have hres : mf_restore S 1 = mf_rest S (match (1 : Nat) with | 0 => S.2.2.1.1 | _ => S.2.2.1.2) := rfl
    rw [hres] at hQ
    generalize (match (1 : Nat) with | 0 => S.2.2.1.1 | _ => S.2.2.1.2) = os at hs hQ
    cases os with
    | none =>
      have hz : z 1 = 0 := hs
      exact b_X2_restore_v1_0 (fun h1 => by omega) (fun _ _ h => absurd hz h) (fun _ _ _ => hQ (u, r, q, o, hy, s0, s1, z, p, f) hI) (fun _ h2 => by omega) (p4 := fun _ _ => by rw [hz]; unfold ab_r; omega)
    | some x =>
      obtain ⟨hz, hx⟩ := (show z 1 = 1 ∧ mx_st s1 x from hs)
      refine b_X2_restore_v1_0 (fun h1 => by omega) (fun _ _ _ => ?_) (fun _ _ h => by omega) (fun _ h2 => by omega) (p4 := fun _ _ => by rw [hz]; unfold ab_r; omega)
      refine ⟨u, r, q, o, hy, s0, s1, z, p, f, S.1, S.2.1, rfl, rfl, hst, hH, fun u' o' h' hH' => ⟨_, _, _, _, _, _, _, _, _, _, _, _, _, _, _, rfl, rfl, ?_⟩⟩
      refine b_X2_restore_v1_28 ?_ (p1 := by decide) (p2 := by decide)
      refine b_X2_restore_v1_38 ⟨r, s1, x.1, rfl, rfl, hx.1, hx.2.1, fun r1 e1 e2 => ⟨_, _, rfl, rfl, b_X2_restore_v1_41 ?_⟩⟩
      have hnn : r1.2.2.2.2.1 = mq_n x.1 := e1.2.2.2.2.1
      rw [hnn]
      exact hQ (u', r1, q, o', h', s0, s1, z, p, f) ⟨⟨e1, hx.2.1, e2.trans hx.2.2⟩, hH', hI.2.2⟩
  · unfold mf_restore at hQ
    rw [if_neg (by omega), if_neg (by omega)] at hQ
    exact b_X2_restore_v1_0 (fun _ => hQ (u, r, q, o, hy, s0, s1, z, p, f) hI) (fun h1 h2 => by omega) (fun h1 h2 => by omega) (fun _ _ => hQ (u, r, q, o, hy, s0, s1, z, p, f) hI) (p4 := fun h1 h2 => by omega)
theorem mt_X2_restore_v1 (l : Launch) : ab_MT l mi_X2_restore sp_X2_restore_v1 := ab_MT.of (own := "RootChunks") (E := E_X2_restore_v1) (P := P_X2_restore) (M := M_X2_restore) (nL := 2) (ty := 0) (by decide) rfl rfl tk_X2 pk_X2_restore ck_X2_restore_v1 (ab_CT'.cons (mt_X2_remember l) (ab_CT'.cons (mt_X1_copyFrom l) ab_CT'.nil)) (fun av cs Q h => vc_X2_restore_v1 h)
theorem mt_X2_restore (l : Launch) : ab_MT l mi_X2_restore sp_X2_restore := by
  intro G ad av cs Q sz h
  obtain ⟨X, S, a, h1, h2, h3, h4, h5⟩ := h
  by_cases y : a = 1
  · exact mt_X2_restore_v1 l G ad av cs Q sz ⟨X, S, a, h1, h2, h3, h4, Or.inl y, h5⟩
  · exact mt_X2_restore_v0 l G ad av cs Q sz ⟨X, S, a, h1, h2, h3, h4, by omega, h5⟩
