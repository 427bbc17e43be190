/-! THE CLASS: its state, what is remembered -/
def mx_st (r : rw_T) (x : mS_X) : Prop := mq_R r x.1 ∧ mq_W x.1 ∧ r.2.2.2.2.2.2 = x.2
/-- the rows of the history, turned round by some places -/
def mx_o (d : Nat) : List (Option Nat) := (List.range 6).map (fun j => some (12 + 5 * ((j + d) % 6)))
def mx_oo (d i : Nat) : List (Option Nat) := (List.range 6).map (fun j => some (12 + 5 * ((if j + 1 < i then j + 1 + d else j + d) % 6)))
def mx_up (h : Nat → rw_T) (k : Nat) (r : rw_T) : Nat → rw_T := fun j => if j = k then r else h j
abbrev mx_W : Type := Int × rw_T × rw_T × List (Option Nat) × (Nat → rw_T) × rw_T × rw_T × (Int → Int) × pd_T × (Int → Int)
def mx_cs (X : mx_W) : List ab_C := xz_cs X.1 X.2.1 X.2.2.1 X.2.2.2.1 (X.2.2.2.2.1 0) (X.2.2.2.2.1 1) (X.2.2.2.2.1 2) (X.2.2.2.2.1 3) (X.2.2.2.2.1 4) (X.2.2.2.2.1 5) X.2.2.2.2.2.1 X.2.2.2.2.2.2.1 X.2.2.2.2.2.2.2.1 X.2.2.2.2.2.2.2.2.1 X.2.2.2.2.2.2.2.2.2
def mx_Hd (d : Nat) (u : Int) (o : List (Option Nat)) (h : Nat → rw_T) (l : List mS_X) : Prop := u = (l.length : Nat) ∧ l.length ≤ 6 ∧ d < 6 ∧ o = mx_o d ∧ ∀ (i : Nat) (x : mS_X), l[i]? = some x → mx_st (h ((i + d) % 6)) x
def mx_H (u : Int) (o : List (Option Nat)) (h : Nat → rw_T) (l : List mS_X) : Prop := ∃ d : Nat, mx_Hd d u o h l
def mx_sl (s : rw_T) (b : Int) (o : Option mS_X) : Prop := match o with
  | none => b = 0
  | some x => b = 1 ∧ mx_st s x
def mx_V (V : Int → Int) : Prop := ab_r (V 0) ∧ ab_r (V 1) ∧ ab_r (V 2)
def mx_P (p : pd_T) (l : List Int) : Prop := mh_P p.1 p.2.2.1 l ∧ mx_V p.2.1 ∧ 0 ≤ p.2.2.2.1 ∧ p.2.2.2.1 ≤ 1000
def mx_inv (X : mx_W) (S : mS_T) : Prop := mx_st X.2.1 S.1 ∧ mx_H X.1 X.2.2.2.1 X.2.2.2.2.1 S.2.1 ∧ (mx_sl X.2.2.2.2.2.1 (X.2.2.2.2.2.2.2.1 0) S.2.2.1.1 ∧ mx_sl X.2.2.2.2.2.2.1 (X.2.2.2.2.2.2.2.1 1) S.2.2.1.2) ∧ mx_P X.2.2.2.2.2.2.2.2.1 S.2.2.2
def mx_out (Q : ab_Q) (r : Int × mS_T) : Prop := ∀ X' : mx_W, mx_inv X' r.2 → Q (some (.inl r.1)) (mx_cs X')
def mx_in0 (F : mS_T → Int × mS_T) : ab_Sp := fun av cs Q => ∃ (X : mx_W) (S : mS_T), av = [.inr (.inl (some 0))] ∧ cs = mx_cs X ∧ mx_inv X S ∧ mx_out Q (F S)
def mx_in1 (F : mS_T → Int → Int × mS_T) : ab_Sp := fun av cs Q => ∃ (X : mx_W) (S : mS_T) (a : Int), av = [.inr (.inl (some 0)), .inl a] ∧ cs = mx_cs X ∧ mx_inv X S ∧ ab_r a ∧ mx_out Q (F S a)
def mx_in2 (F : mS_T → Int → Int → Int × mS_T) : ab_Sp := fun av cs Q => ∃ (X : mx_W) (S : mS_T) (a b : Int), av = [.inr (.inl (some 0)), .inl a, .inl b] ∧ cs = mx_cs X ∧ mx_inv X S ∧ ab_r a ∧ ab_r b ∧ mx_out Q (F S a b)
def mx_in3 (F : mS_T → Int → Int → Int → Int × mS_T) : ab_Sp := fun av cs Q => ∃ (X : mx_W) (S : mS_T) (a b c : Int), av = [.inr (.inl (some 0)), .inl a, .inl b, .inl c] ∧ cs = mx_cs X ∧ mx_inv X S ∧ ab_r a ∧ ab_r b ∧ ab_r c ∧ mx_out Q (F S a b c)
def sp_X2_rem (k : Nat) : ab_Sp := fun av cs Q => ∃ (u : Int) (r q : rw_T) (o : List (Option Nat)) (h : Nat → rw_T) (s0 s1 : rw_T) (z : Int → Int) (p : pd_T) (f : Int → Int) (x : mS_X) (l : List mS_X) (d : Nat), av = [.inr (.inl (some 0))] ∧ cs = mx_cs (u, r, q, o, h, s0, s1, z, p, f) ∧ mx_st r x ∧ mx_Hd d u o h l ∧ (l.length + d) % 6 = k ∧
  ∀ (u' : Int) (o' : List (Option Nat)) (h' : Nat → rw_T), mx_H u' o' h' (mh_push l x) → Q none (mx_cs (u', r, q, o', h', s0, s1, z, p, f))
def sp_X2_remember_v0 : ab_Sp := sp_X2_rem 0
def sp_X2_remember_v1 : ab_Sp := sp_X2_rem 1
def sp_X2_remember_v2 : ab_Sp := sp_X2_rem 2
def sp_X2_remember_v3 : ab_Sp := sp_X2_rem 3
def sp_X2_remember_v4 : ab_Sp := sp_X2_rem 4
def sp_X2_remember_v5 : ab_Sp := sp_X2_rem 5
def sp_X2_remember : ab_Sp := fun av cs Q => ∃ (u : Int) (r q : rw_T) (o : List (Option Nat)) (h : Nat → rw_T) (s0 s1 : rw_T) (z : Int → Int) (p : pd_T) (f : Int → Int) (x : mS_X) (l : List mS_X), av = [.inr (.inl (some 0))] ∧ cs = mx_cs (u, r, q, o, h, s0, s1, z, p, f) ∧ mx_st r x ∧ mx_H u o h l ∧
  ∀ (u' : Int) (o' : List (Option Nat)) (h' : Nat → rw_T), mx_H u' o' h' (mh_push l x) → Q none (mx_cs (u', r, q, o', h', s0, s1, z, p, f))
theorem mx_o_len (d : Nat) : (mx_o d).length = 6 := by unfold mx_o; rw [List.length_map, List.length_range]
theorem mx_oo_len (d i : Nat) : (mx_oo d i).length = 6 := by unfold mx_oo; rw [List.length_map, List.length_range]
theorem mx_o_get : ∀ d < 6, ∀ j < 6, (mx_o d).getD j none = some (12 + 5 * ((j + d) % 6)) := by decide
theorem mx_oo_1 : ∀ d < 6, mx_oo d 1 = mx_o d := by decide
theorem mx_oo_get : ∀ d < 6, ∀ i < 6, 1 ≤ i → (mx_oo d i).getD i none = some (12 + 5 * ((i + d) % 6)) := by decide
theorem mx_oo_set : ∀ d < 6, ∀ i < 6, 1 ≤ i → (mx_oo d i).set (i - 1) (some (12 + 5 * ((i + d) % 6))) = mx_oo d (i + 1) := by decide
theorem mx_oo_6 : ∀ d < 6, (mx_oo d 6).set 5 (some (12 + 5 * ((0 + d) % 6))) = mx_o ((d + 1) % 6) := by decide
theorem mx_cell (u : Int) (r q : rw_T) (o : List (Option Nat)) (h0 h1 h2 h3 h4 h5 s0 s1 : rw_T) (z : Int → Int) (p : pd_T) (f : Int → Int) : ∀ e : Nat, e < 6 → ∃ fs, (xz_cs u r q o h0 h1 h2 h3 h4 h5 s0 s1 z p f)[12 + 5 * e]? = some (.inl (1, fs))
  | 0, _ => ⟨_, rfl⟩
  | 1, _ => ⟨_, rfl⟩
  | 2, _ => ⟨_, rfl⟩
  | 3, _ => ⟨_, rfl⟩
  | 4, _ => ⟨_, rfl⟩
  | 5, _ => ⟨_, rfl⟩
  | e + 6, h => by omega
/-- what was remembered stays behind a further state -/
theorem mx_H_push {d : Nat} {u : Int} {h : Nat → rw_T} {l : List mS_X} {x : mS_X} {r' : rw_T} (hH : mx_Hd d u (mx_o d) h l) (hl : l.length < 6) (hr : mx_st r' x) : mx_H (u + 1) (mx_o d) (mx_up h ((l.length + d) % 6) r') (mh_push l x) := by
  obtain ⟨h1, h2, h3, h4, h5⟩ := hH
  have e : mh_push l x = l ++ [x] := by unfold mh_push; rw [if_neg (by omega)]
  rw [e]
  refine ⟨d, by rw [List.length_append, List.length_singleton]; omega, by rw [List.length_append, List.length_singleton]; omega, h3, rfl, fun i y hy => ?_⟩
  unfold mx_up
  by_cases z : i < l.length
  · rw [List.getElem?_append_left z] at hy
    rw [if_neg (by omega)]
    exact h5 i y hy
  · have hi := (List.getElem?_eq_some_iff.mp hy).1
    rw [List.length_append, List.length_singleton] at hi
    have hi2 : i = l.length := by omega
    subst hi2
    rw [if_pos rfl]
    have : y = x := by simpa using hy.symm
    rw [this]
    exact hr
theorem mx_H_turn {d : Nat} {u : Int} {o : List (Option Nat)} {h : Nat → rw_T} {l : List mS_X} {x : mS_X} {r' : rw_T} (hH : mx_Hd d u o h l) (hl : l.length = 6) (hr : mx_st r' x) : mx_H 6 (mx_o ((d + 1) % 6)) (mx_up h ((l.length + d) % 6) r') (mh_push l x) := by
  obtain ⟨h1, h2, h3, h4, h5⟩ := hH
  have e : mh_push l x = l.drop 1 ++ [x] := by unfold mh_push; rw [if_pos hl]
  rw [e]
  have hln : (l.drop 1 ++ [x]).length = 6 := by rw [List.length_append, List.length_singleton, List.length_drop]; omega
  refine ⟨(d + 1) % 6, by rw [hln]; rfl, by omega, Nat.mod_lt _ (by decide), rfl, fun i y hy => ?_⟩
  unfold mx_up
  by_cases z : i < 5
  · rw [List.getElem?_append_left (by rw [List.length_drop]; omega), List.getElem?_drop] at hy
    rw [if_neg (by omega), show (i + (d + 1) % 6) % 6 = (1 + i + d) % 6 by omega]
    exact h5 (1 + i) y hy
  · have hi := (List.getElem?_eq_some_iff.mp hy).1
    have hi2 : i = 5 := by omega
    subst hi2
    rw [if_pos (by omega)]
    rw [List.getElem?_append_right (by rw [List.length_drop]; omega), List.length_drop, hl] at hy
    have : y = x := by simpa using hy.symm
    rw [this]
    exact hr
def P_X2_remember : List ab_I := [(0, .aload_n 0, 1, []), (1, .getfield 27, 4, []), (4, .bipush 6, 6, []), (6, .if_icmp .lt 53, 9, [((0 : Int), 59)]), (9, .aload_n 0, 10, []), (10, .getfield 23, 13, []), (13, .iconst 0, 14, []), (14, .aaload, 15, []), (15, .astore_n 1, 16, []), (16, .iconst 1, 17, []), (17, .istore_n 2, 18, []), (18, .iload_n 2, 19, []), (19, .bipush 6, 21, []), (21, .if_icmp .ge 23, 24, [((0 : Int), 44)]), (24, .aload_n 0, 25, []), (25, .getfield 23, 28, []), (28, .iload_n 2, 29, []), (29, .iconst 1, 30, []), (30, .isub, 31, []), (31, .aload_n 0, 32, []), (32, .getfield 23, 35, []), (35, .iload_n 2, 36, []), (36, .aaload, 37, []), (37, .aastore, 38, []), (38, .iinc 2 1, 41, []), (41, .goto (-23), 44, [((0 : Int), 18)]), (44, .aload_n 0, 45, []), (45, .iconst 5, 46, []), (46, .putfield 27, 49, []), (49, .aload_n 0, 50, []), (50, .getfield 23, 53, []), (53, .aload_n 0, 54, []), (54, .getfield 27, 57, []), (57, .aload_n 1, 58, []), (58, .aastore, 59, []), (59, .aload_n 0, 60, []), (60, .getfield 23, 63, []), (63, .aload_n 0, 64, []), (64, .getfield 27, 67, []), (67, .aaload, 68, []), (68, .aload_n 0, 69, []), (69, .getfield 10, 72, []), (72, .invokevirtual 118, 75, []), (75, .aload_n 0, 76, []), (76, .dup, 77, []), (77, .getfield 27, 80, []), (80, .iconst 1, 81, []), (81, .iadd, 82, []), (82, .putfield 27, 85, []), (85, .return_, 86, [])]
def E_X2_remember_v0 : ab_E := (T_X2, [(72, (2, 1, [12, 13, 14, 15, 16, 1, 2, 3, 4, 5], 10, sp_X1_copyFrom))], [], 9)
def M_X2_remember : List (Nat × ab_MI) := [(72, mi_X1_copyFrom)]
def mi_X2_remember : ab_MI := (yX2_remember, cX2_remember, 3, ab_rty 9, 2, 91)
theorem pk_X2_remember : P_X2_remember.all (ab_okI cX2_remember) = true := by decide +kernel
theorem ck_X2_remember_v0 : P_X2_remember.all (ab_okC1 "RootChunks" M_X2_remember E_X2_remember_v0 (2, 91)) = true := by decide +kernel
set_option maxRecDepth 100000 in
theorem b_X2_remember_v0_0 {Q : ab_Q} {u : Int} {r : rw_T} {q : rw_T} {o : List (Option Nat)} {h0 : rw_T} {h1 : rw_T} {h2 : rw_T} {h3 : rw_T} {h4 : rw_T} {h5 : rw_T} {s0 : rw_T} {s1 : rw_T} {z : Int → Int} {p : pd_T} {f : Int → Int} (l1 : u < (6 : Int) → ab_R E_X2_remember_v0 P_X2_remember Q 59 [some (.inr (.inl (some 0))), none, none] [] (xz_cs u r q o h0 h1 h2 h3 h4 h5 s0 s1 z p f)) (l2 : (6 : Int) ≤ u → ab_R E_X2_remember_v0 P_X2_remember Q 15 [some (.inr (.inl (some 0))), none, none] [.inr (.inl (o.getD (0 : Int).toNat none))] (xz_cs u r q o h0 h1 h2 h3 h4 h5 s0 s1 z p f)) (p1 : (ab_r u ∧ ab_r 6) := by intros; (try unfold ab_r); omega) (p2 : (6 : Int) ≤ u → ((o).length < 1000000) := by intros; (try unfold ab_r); omega) (p3 : (6 : Int) ≤ u → (0 ≤ (0 : Int) ∧ (0 : Int) < (((o).length : Nat) : Int)) := by intros; (try unfold ab_r); omega) : ab_R E_X2_remember_v0 P_X2_remember Q 0 [some (.inr (.inl (some 0))), none, none] [] (xz_cs u r q o h0 h1 h2 h3 h4 h5 s0 s1 z p f) :=
  ab_R.steps [15, 18, 37, 38, 59, 68, 75] 9 (show ((ab_r u ∧ ab_r 6) ∧ ((u < (6 : Int) → ab_R E_X2_remember_v0 P_X2_remember Q 59 [some (.inr (.inl (some 0))), none, none] [] (xz_cs u r q o h0 h1 h2 h3 h4 h5 s0 s1 z p f)) ∧ ((6 : Int) ≤ u → (ab_rarr 11 (xz_cs u r q o h0 h1 h2 h3 h4 h5 s0 s1 z p f) (fun l_ => (0 ≤ (0 : Int) ∧ (0 : Int) < (((l_).length : Nat) : Int)) ∧ ab_R E_X2_remember_v0 P_X2_remember Q 15 [some (.inr (.inl (some 0))), none, none] [.inr (.inl (l_.getD (0 : Int).toNat none))] (xz_cs u r q o h0 h1 h2 h3 h4 h5 s0 s1 z p f)))))) from ⟨p1, ⟨fun h1 => (l1 h1), fun h2 => (ab_rarrI rfl (p2 h2) ⟨(p3 h2), (l2 h2)⟩)⟩⟩)
set_option maxRecDepth 100000 in
theorem b_X2_remember_v0_15 {Q : ab_Q} {y0 : Nat} {u : Int} {r : rw_T} {q : rw_T} {o : List (Option Nat)} {h0 : rw_T} {h1 : rw_T} {h2 : rw_T} {h3 : rw_T} {h4 : rw_T} {h5 : rw_T} {s0 : rw_T} {s1 : rw_T} {z : Int → Int} {p : pd_T} {f : Int → Int} (l1 : ab_R E_X2_remember_v0 P_X2_remember Q 18 [some (.inr (.inl (some 0))), some (.inr (.inl (some y0))), some (.inl 1)] [] (xz_cs u r q o h0 h1 h2 h3 h4 h5 s0 s1 z p f))  : ab_R E_X2_remember_v0 P_X2_remember Q 15 [some (.inr (.inl (some 0))), none, none] [.inr (.inl (some y0))] (xz_cs u r q o h0 h1 h2 h3 h4 h5 s0 s1 z p f) :=
  ab_R.steps [15, 18, 37, 38, 59, 68, 75] 5 (show ab_R E_X2_remember_v0 P_X2_remember Q 18 [some (.inr (.inl (some 0))), some (.inr (.inl (some y0))), some (.inl 1)] [] (xz_cs u r q o h0 h1 h2 h3 h4 h5 s0 s1 z p f) from l1)
set_option maxRecDepth 100000 in
theorem b_X2_remember_v0_18 {Q : ab_Q} {w1 : Nat} {i : Int} {u : Int} {r : rw_T} {q : rw_T} {o : List (Option Nat)} {h0 : rw_T} {h1 : rw_T} {h2 : rw_T} {h3 : rw_T} {h4 : rw_T} {h5 : rw_T} {s0 : rw_T} {s1 : rw_T} {z : Int → Int} {p : pd_T} {f : Int → Int} (l1 : (6 : Int) ≤ i → ab_R E_X2_remember_v0 P_X2_remember Q 59 [some (.inr (.inl (some 0))), none, none] [] (xz_cs 5 r q ((o.set (5 : Int).toNat (some w1))) h0 h1 h2 h3 h4 h5 s0 s1 z p f)) (l2 : (6 : Int) ≤ i → (∃ fs_, ((xz_cs 5 r q o h0 h1 h2 h3 h4 h5 s0 s1 z p f))[w1]? = some (.inl (1, fs_)))) (l3 : i < (6 : Int) → ab_R E_X2_remember_v0 P_X2_remember Q 37 [some (.inr (.inl (some 0))), some (.inr (.inl (some w1))), some (.inl i)] [.inr (.inl (o.getD i.toNat none)), .inl (i - 1), .inr (.inl (some 11))] (xz_cs u r q o h0 h1 h2 h3 h4 h5 s0 s1 z p f)) (p1 : (ab_r i ∧ ab_r 6) := by intros; (try unfold ab_r); omega) (p2 : (6 : Int) ≤ i → ((o).length < 1000000) := by intros; (try unfold ab_r); omega) (p3 : (6 : Int) ≤ i → (0 ≤ (5 : Int) ∧ (5 : Int) < (((o).length : Nat) : Int)) := by intros; (try unfold ab_r); omega) (p4 : i < (6 : Int) → ((o).length < 1000000) := by intros; (try unfold ab_r); omega) (p5 : i < (6 : Int) → (0 ≤ i ∧ i < (((o).length : Nat) : Int)) := by intros; (try unfold ab_r); omega) : ab_R E_X2_remember_v0 P_X2_remember Q 18 [some (.inr (.inl (some 0))), some (.inr (.inl (some w1))), some (.inl i)] [] (xz_cs u r q o h0 h1 h2 h3 h4 h5 s0 s1 z p f) :=
  ab_R.steps [15, 18, 37, 38, 59, 68, 75] 13 (show ((ab_r i ∧ ab_r 6) ∧ (((6 : Int) ≤ i → (ab_rarr 11 (xz_cs 5 r q o h0 h1 h2 h3 h4 h5 s0 s1 z p f) (fun l_ => ab_obj 1 w1 (xz_cs 5 r q o h0 h1 h2 h3 h4 h5 s0 s1 z p f) ((0 ≤ (5 : Int) ∧ (5 : Int) < (((l_).length : Nat) : Int)) ∧ ab_R E_X2_remember_v0 P_X2_remember Q 59 [some (.inr (.inl (some 0))), some (.inr (.inl (some w1))), some (.inl i)] [] (xz_cs 5 r q ((l_.set (5 : Int).toNat (some w1))) h0 h1 h2 h3 h4 h5 s0 s1 z p f))))) ∧ (i < (6 : Int) → (ab_rarr 11 (xz_cs u r q o h0 h1 h2 h3 h4 h5 s0 s1 z p f) (fun l_ => (0 ≤ i ∧ i < (((l_).length : Nat) : Int)) ∧ ab_R E_X2_remember_v0 P_X2_remember Q 37 [some (.inr (.inl (some 0))), some (.inr (.inl (some w1))), some (.inl i)] [.inr (.inl (l_.getD i.toNat none)), .inl (i - 1), .inr (.inl (some 11))] (xz_cs u r q o h0 h1 h2 h3 h4 h5 s0 s1 z p f)))))) from ⟨p1, ⟨fun h1 => (ab_rarrI rfl (p2 h1) (ab_objI (l2 h1) ⟨(p3 h1), (ab_R.fg 1 rfl (ab_R.fg 2 rfl (l1 h1)))⟩)), fun h2 => (ab_rarrI rfl (p4 h2) ⟨(p5 h2), (l3 h2)⟩)⟩⟩)
set_option maxRecDepth 100000 in
theorem b_X2_remember_v0_37 {Q : ab_Q} {w1 : Nat} {i : Int} {y0 : Nat} {t1 : Int} {u : Int} {r : rw_T} {q : rw_T} {o : List (Option Nat)} {h0 : rw_T} {h1 : rw_T} {h2 : rw_T} {h3 : rw_T} {h4 : rw_T} {h5 : rw_T} {s0 : rw_T} {s1 : rw_T} {z : Int → Int} {p : pd_T} {f : Int → Int} (l1 : ab_R E_X2_remember_v0 P_X2_remember Q 38 [some (.inr (.inl (some 0))), some (.inr (.inl (some w1))), some (.inl i)] [] (xz_cs u r q ((o.set t1.toNat (some y0))) h0 h1 h2 h3 h4 h5 s0 s1 z p f)) (l2 : (∃ fs_, ((xz_cs u r q o h0 h1 h2 h3 h4 h5 s0 s1 z p f))[y0]? = some (.inl (1, fs_)))) (p1 : ((o).length < 1000000) := by intros; (try unfold ab_r); omega) (p2 : (0 ≤ t1 ∧ t1 < (((o).length : Nat) : Int)) := by intros; (try unfold ab_r); omega) : ab_R E_X2_remember_v0 P_X2_remember Q 37 [some (.inr (.inl (some 0))), some (.inr (.inl (some w1))), some (.inl i)] [.inr (.inl (some y0)), .inl t1, .inr (.inl (some 11))] (xz_cs u r q o h0 h1 h2 h3 h4 h5 s0 s1 z p f) :=
  ab_R.steps [15, 18, 37, 38, 59, 68, 75] 2 (show (ab_rarr 11 (xz_cs u r q o h0 h1 h2 h3 h4 h5 s0 s1 z p f) (fun l_ => ab_obj 1 y0 (xz_cs u r q o h0 h1 h2 h3 h4 h5 s0 s1 z p f) ((0 ≤ t1 ∧ t1 < (((l_).length : Nat) : Int)) ∧ ab_R E_X2_remember_v0 P_X2_remember Q 38 [some (.inr (.inl (some 0))), some (.inr (.inl (some w1))), some (.inl i)] [] (xz_cs u r q ((l_.set t1.toNat (some y0))) h0 h1 h2 h3 h4 h5 s0 s1 z p f)))) from (ab_rarrI rfl p1 (ab_objI l2 ⟨p2, l1⟩)))
set_option maxRecDepth 100000 in
theorem b_X2_remember_v0_38 {Q : ab_Q} {w1 : Nat} {i : Int} {u : Int} {r : rw_T} {q : rw_T} {o : List (Option Nat)} {h0 : rw_T} {h1 : rw_T} {h2 : rw_T} {h3 : rw_T} {h4 : rw_T} {h5 : rw_T} {s0 : rw_T} {s1 : rw_T} {z : Int → Int} {p : pd_T} {f : Int → Int} (l1 : ab_R E_X2_remember_v0 P_X2_remember Q 18 [some (.inr (.inl (some 0))), some (.inr (.inl (some w1))), some (.inl (i + 1))] [] (xz_cs u r q o h0 h1 h2 h3 h4 h5 s0 s1 z p f))  : ab_R E_X2_remember_v0 P_X2_remember Q 38 [some (.inr (.inl (some 0))), some (.inr (.inl (some w1))), some (.inl i)] [] (xz_cs u r q o h0 h1 h2 h3 h4 h5 s0 s1 z p f) :=
  ab_R.steps [15, 18, 37, 38, 59, 68, 75] 4 (show ab_R E_X2_remember_v0 P_X2_remember Q 18 [some (.inr (.inl (some 0))), some (.inr (.inl (some w1))), some (.inl (i + 1))] [] (xz_cs u r q o h0 h1 h2 h3 h4 h5 s0 s1 z p f) from l1)
set_option maxRecDepth 100000 in
theorem b_X2_remember_v0_59 {Q : ab_Q} {u : Int} {r : rw_T} {q : rw_T} {o : List (Option Nat)} {h0 : rw_T} {h1 : rw_T} {h2 : rw_T} {h3 : rw_T} {h4 : rw_T} {h5 : rw_T} {s0 : rw_T} {s1 : rw_T} {z : Int → Int} {p : pd_T} {f : Int → Int} (l1 : ab_R E_X2_remember_v0 P_X2_remember Q 68 [some (.inr (.inl (some 0))), none, none] [.inr (.inl (o.getD u.toNat none))] (xz_cs u r q o h0 h1 h2 h3 h4 h5 s0 s1 z p f)) (p1 : ((o).length < 1000000) := by intros; (try unfold ab_r); omega) (p2 : (0 ≤ u ∧ u < (((o).length : Nat) : Int)) := by intros; (try unfold ab_r); omega) : ab_R E_X2_remember_v0 P_X2_remember Q 59 [some (.inr (.inl (some 0))), none, none] [] (xz_cs u r q o h0 h1 h2 h3 h4 h5 s0 s1 z p f) :=
  ab_R.steps [15, 18, 37, 38, 59, 68, 75] 6 (show (ab_rarr 11 (xz_cs u r q o h0 h1 h2 h3 h4 h5 s0 s1 z p f) (fun l_ => (0 ≤ u ∧ u < (((l_).length : Nat) : Int)) ∧ ab_R E_X2_remember_v0 P_X2_remember Q 68 [some (.inr (.inl (some 0))), none, none] [.inr (.inl (l_.getD u.toNat none))] (xz_cs u r q o h0 h1 h2 h3 h4 h5 s0 s1 z p f))) from (ab_rarrI rfl p1 ⟨p2, l1⟩))
set_option maxRecDepth 100000 in
theorem b_X2_remember_v0_68 {Q : ab_Q} {u : Int} {r : rw_T} {q : rw_T} {o : List (Option Nat)} {h0 : rw_T} {h1 : rw_T} {h2 : rw_T} {h3 : rw_T} {h4 : rw_T} {h5 : rw_T} {s0 : rw_T} {s1 : rw_T} {z : Int → Int} {p : pd_T} {f : Int → Int} (l1 : sp_X1_copyFrom [.inr (.inl (some 0)), .inr (.inl (some 5))] (rw2_cs h0 r) (fun r_ k_ => ∃ (r' : rw_T), ∃ (q' : rw_T), r_ = none ∧ k_ = (rw2_cs r' q') ∧ ab_R E_X2_remember_v0 P_X2_remember Q 75 [some (.inr (.inl (some 0))), none, none] [] (xz_cs u q' q o r' h1 h2 h3 h4 h5 s0 s1 z p f)))  : ab_R E_X2_remember_v0 P_X2_remember Q 68 [some (.inr (.inl (some 0))), none, none] [.inr (.inl (some 12))] (xz_cs u r q o h0 h1 h2 h3 h4 h5 s0 s1 z p f) :=
  ab_R.steps [15, 18, 37, 38, 59, 68, 75] 4 (show ab_cl sp_X1_copyFrom [.inr (.inl (some 0)), .inr (.inl (some 5))] (rw2_cs h0 r) (fun r_ k_ => k_.length = 10 → ab_R E_X2_remember_v0 P_X2_remember Q 75 [some (.inr (.inl (some 0))), none, none] (ab_ret (r_.map (ab_reV [12, 13, 14, 15, 16, 1, 2, 3, 4, 5])) []) (ab_back [12, 13, 14, 15, 16, 1, 2, 3, 4, 5] [12, 13, 14, 15, 16, 1, 2, 3, 4, 5] k_ (xz_cs u r q o h0 h1 h2 h3 h4 h5 s0 s1 z p f))) from ⟨_, l1, fun r_ k_ hz _ => by obtain ⟨r', q', rfl, rfl, hR⟩ := hz; exact hR⟩)
set_option maxRecDepth 100000 in
theorem b_X2_remember_v0_75 {Q : ab_Q} {u : Int} {r : rw_T} {q : rw_T} {o : List (Option Nat)} {h0 : rw_T} {h1 : rw_T} {h2 : rw_T} {h3 : rw_T} {h4 : rw_T} {h5 : rw_T} {s0 : rw_T} {s1 : rw_T} {z : Int → Int} {p : pd_T} {f : Int → Int} (l1 : Q none (xz_cs ((u + 1)) r q o h0 h1 h2 h3 h4 h5 s0 s1 z p f))  : ab_R E_X2_remember_v0 P_X2_remember Q 75 [some (.inr (.inl (some 0))), none, none] [] (xz_cs u r q o h0 h1 h2 h3 h4 h5 s0 s1 z p f) :=
  ab_R.steps [15, 18, 37, 38, 59, 68, 75] 8 (show Q none (xz_cs ((u + 1)) r q o h0 h1 h2 h3 h4 h5 s0 s1 z p f) from l1)
theorem vc_X2_remember_v0 {av : List ab_V} {cs : List ab_C} {Q : ab_Q} (h : sp_X2_remember_v0 av cs Q) : (ab_lv0 av).length ≤ 3 ∧ ab_R E_X2_remember_v0 P_X2_remember Q 0 (ab_ent av 3) [] cs := by
  obtain ⟨u, r, q, o, h, s0, s1, z, p, f, x, l, d, rfl, rfl, hx, hH, hk, hQ⟩ := h
  refine ⟨Nat.le_of_ble_eq_true rfl, ?_⟩
  show ab_R E_X2_remember_v0 P_X2_remember Q 0 [some (.inr (.inl (some 0))), none, none] [] (xz_cs u r q o (h 0) (h 1) (h 2) (h 3) (h 4) (h 5) s0 s1 z p f)
  have hH' := hH
  obtain ⟨hu, hl6, hd, ho, hh⟩ := hH'
  subst ho
  have main : ∀ (u1 : Int) (o1 : List (Option Nat)), o1.length = 6 → 0 ≤ u1 → u1 < 6 → o1.getD u1.toNat none = some (12 + 5 * 0) → (∀ r' : rw_T, mx_st r' x → mx_H (u1 + 1) o1 (mx_up h 0 r') (mh_push l x)) →
      ab_R E_X2_remember_v0 P_X2_remember Q 59 [some (.inr (.inl (some 0))), none, none] [] (xz_cs u1 r q o1 (h 0) (h 1) (h 2) (h 3) (h 4) (h 5) s0 s1 z p f) := by
    intro u1 o1 g1 g2 g3 g4 g5
    refine b_X2_remember_v0_59 ?_
    rw [g4]
    exact b_X2_remember_v0_68 ⟨h 0, r, x.1, rfl, rfl, hx.1, hx.2.1, fun r' q1 q2 => ⟨r', r, rfl, rfl, b_X2_remember_v0_75 (hQ (u1 + 1) o1 (mx_up h 0 r') (g5 r' ⟨q1, hx.2.1, q2.trans hx.2.2⟩))⟩⟩
  have hol := mx_o_len d
  refine b_X2_remember_v0_0 (fun h6 => ?_) (fun h6 => ?_)
  · refine main u (mx_o d) hol (by omega) h6 ?_ (fun r' hr => ?_)
    · rw [mx_o_get d hd u.toNat (by omega), show (u.toNat + d) % 6 = 0 by omega]
    · have := mx_H_push hH (by omega) hr
      rw [hk] at this
      exact this
  · have hl : l.length = 6 := by omega
    rw [show (0 : Int).toNat = 0 from rfl, mx_o_get d hd 0 (by omega)]
    refine b_X2_remember_v0_15 ?_
    have hm0 : (0 + d) % 6 < 6 := Nat.mod_lt _ (by decide)
    have loop : ∀ (m i : Nat), i + m = 6 → 1 ≤ i → ab_R E_X2_remember_v0 P_X2_remember Q 18 [some (.inr (.inl (some 0))), some (.inr (.inl (some (12 + 5 * ((0 + d) % 6))))), some (.inl (i : Int))] [] (xz_cs u r q (mx_oo d i) (h 0) (h 1) (h 2) (h 3) (h 4) (h 5) s0 s1 z p f) := by
      intro m
      induction m with
      | zero =>
        intro i g1 g2
        have hi : i = 6 := by omega
        subst hi
        have hlen := mx_oo_len d 6
        refine b_X2_remember_v0_18 (fun _ => ?_) (fun _ => mx_cell _ _ _ _ _ _ _ _ _ _ _ _ _ _ _ _ hm0) (fun h => by omega)
        rw [show (5 : Int).toNat = 5 from rfl, mx_oo_6 d hd]
        refine main 5 (mx_o ((d + 1) % 6)) (mx_o_len _) (by omega) (by omega) ?_ (fun r' hr => ?_)
        · rw [show (5 : Int).toNat = 5 from rfl, mx_o_get _ (Nat.mod_lt _ (by decide)) 5 (by omega), show (5 + (d + 1) % 6) % 6 = 0 by omega]
        · have := mx_H_turn hH hl hr
          rw [hk] at this
          exact this
      | succ m ih =>
        intro i g1 g2
        have hlen := mx_oo_len d i
        have hmi : (i + d) % 6 < 6 := Nat.mod_lt _ (by decide)
        refine b_X2_remember_v0_18 (fun h => by omega) (fun h => by omega) (fun _ => ?_)
        rw [Int.toNat_natCast, mx_oo_get d hd i (by omega) g2]
        refine b_X2_remember_v0_37 ?_ (mx_cell _ _ _ _ _ _ _ _ _ _ _ _ _ _ _ _ hmi)
        rw [show ((i : Int) - 1).toNat = i - 1 by omega, mx_oo_set d hd i (by omega) g2]
        refine b_X2_remember_v0_38 ?_
        exact ih (i + 1) (by omega) (by omega)
    have := loop 5 1 rfl (by omega)
    rw [mx_oo_1 d hd] at this
    exact this
theorem mt_X2_remember_v0 (l : Launch) : ab_MT l mi_X2_remember sp_X2_remember_v0 := ab_MT.of (own := "RootChunks") (E := E_X2_remember_v0) (P := P_X2_remember) (M := M_X2_remember) (nL := 3) (ty := 9) (by decide) rfl rfl tk_X2 pk_X2_remember ck_X2_remember_v0 (ab_CT'.cons (mt_X1_copyFrom l) ab_CT'.nil) (fun av cs Q h => vc_X2_remember_v0 h)
def E_X2_remember_v1 : ab_E := (T_X2, [(72, (2, 1, [17, 18, 19, 20, 21, 1, 2, 3, 4, 5], 10, sp_X1_copyFrom))], [], 9)
theorem ck_X2_remember_v1 : P_X2_remember.all (ab_okC1 "RootChunks" M_X2_remember E_X2_remember_v1 (2, 91)) = true := by decide +kernel
set_option maxRecDepth 100000 in
theorem b_X2_remember_v1_0 {Q : ab_Q} {u : Int} {r : rw_T} {q : rw_T} {o : List (Option Nat)} {h0 : rw_T} {h1 : rw_T} {h2 : rw_T} {h3 : rw_T} {h4 : rw_T} {h5 : rw_T} {s0 : rw_T} {s1 : rw_T} {z : Int → Int} {p : pd_T} {f : Int → Int} (l1 : u < (6 : Int) → ab_R E_X2_remember_v1 P_X2_remember Q 59 [some (.inr (.inl (some 0))), none, none] [] (xz_cs u r q o h0 h1 h2 h3 h4 h5 s0 s1 z p f)) (l2 : (6 : Int) ≤ u → ab_R E_X2_remember_v1 P_X2_remember Q 15 [some (.inr (.inl (some 0))), none, none] [.inr (.inl (o.getD (0 : Int).toNat none))] (xz_cs u r q o h0 h1 h2 h3 h4 h5 s0 s1 z p f)) (p1 : (ab_r u ∧ ab_r 6) := by intros; (try unfold ab_r); omega) (p2 : (6 : Int) ≤ u → ((o).length < 1000000) := by intros; (try unfold ab_r); omega) (p3 : (6 : Int) ≤ u → (0 ≤ (0 : Int) ∧ (0 : Int) < (((o).length : Nat) : Int)) := by intros; (try unfold ab_r); omega) : ab_R E_X2_remember_v1 P_X2_remember Q 0 [some (.inr (.inl (some 0))), none, none] [] (xz_cs u r q o h0 h1 h2 h3 h4 h5 s0 s1 z p f) :=
  ab_R.steps [15, 18, 37, 38, 59, 68, 75] 9 (show ((ab_r u ∧ ab_r 6) ∧ ((u < (6 : Int) → ab_R E_X2_remember_v1 P_X2_remember Q 59 [some (.inr (.inl (some 0))), none, none] [] (xz_cs u r q o h0 h1 h2 h3 h4 h5 s0 s1 z p f)) ∧ ((6 : Int) ≤ u → (ab_rarr 11 (xz_cs u r q o h0 h1 h2 h3 h4 h5 s0 s1 z p f) (fun l_ => (0 ≤ (0 : Int) ∧ (0 : Int) < (((l_).length : Nat) : Int)) ∧ ab_R E_X2_remember_v1 P_X2_remember Q 15 [some (.inr (.inl (some 0))), none, none] [.inr (.inl (l_.getD (0 : Int).toNat none))] (xz_cs u r q o h0 h1 h2 h3 h4 h5 s0 s1 z p f)))))) from ⟨p1, ⟨fun h1 => (l1 h1), fun h2 => (ab_rarrI rfl (p2 h2) ⟨(p3 h2), (l2 h2)⟩)⟩⟩)
set_option maxRecDepth 100000 in
theorem b_X2_remember_v1_15 {Q : ab_Q} {y0 : Nat} {u : Int} {r : rw_T} {q : rw_T} {o : List (Option Nat)} {h0 : rw_T} {h1 : rw_T} {h2 : rw_T} {h3 : rw_T} {h4 : rw_T} {h5 : rw_T} {s0 : rw_T} {s1 : rw_T} {z : Int → Int} {p : pd_T} {f : Int → Int} (l1 : ab_R E_X2_remember_v1 P_X2_remember Q 18 [some (.inr (.inl (some 0))), some (.inr (.inl (some y0))), some (.inl 1)] [] (xz_cs u r q o h0 h1 h2 h3 h4 h5 s0 s1 z p f))  : ab_R E_X2_remember_v1 P_X2_remember Q 15 [some (.inr (.inl (some 0))), none, none] [.inr (.inl (some y0))] (xz_cs u r q o h0 h1 h2 h3 h4 h5 s0 s1 z p f) :=
  ab_R.steps [15, 18, 37, 38, 59, 68, 75] 5 (show ab_R E_X2_remember_v1 P_X2_remember Q 18 [some (.inr (.inl (some 0))), some (.inr (.inl (some y0))), some (.inl 1)] [] (xz_cs u r q o h0 h1 h2 h3 h4 h5 s0 s1 z p f) from l1)
set_option maxRecDepth 100000 in
theorem b_X2_remember_v1_18 {Q : ab_Q} {w1 : Nat} {i : Int} {u : Int} {r : rw_T} {q : rw_T} {o : List (Option Nat)} {h0 : rw_T} {h1 : rw_T} {h2 : rw_T} {h3 : rw_T} {h4 : rw_T} {h5 : rw_T} {s0 : rw_T} {s1 : rw_T} {z : Int → Int} {p : pd_T} {f : Int → Int} (l1 : (6 : Int) ≤ i → ab_R E_X2_remember_v1 P_X2_remember Q 59 [some (.inr (.inl (some 0))), none, none] [] (xz_cs 5 r q ((o.set (5 : Int).toNat (some w1))) h0 h1 h2 h3 h4 h5 s0 s1 z p f)) (l2 : (6 : Int) ≤ i → (∃ fs_, ((xz_cs 5 r q o h0 h1 h2 h3 h4 h5 s0 s1 z p f))[w1]? = some (.inl (1, fs_)))) (l3 : i < (6 : Int) → ab_R E_X2_remember_v1 P_X2_remember Q 37 [some (.inr (.inl (some 0))), some (.inr (.inl (some w1))), some (.inl i)] [.inr (.inl (o.getD i.toNat none)), .inl (i - 1), .inr (.inl (some 11))] (xz_cs u r q o h0 h1 h2 h3 h4 h5 s0 s1 z p f)) (p1 : (ab_r i ∧ ab_r 6) := by intros; (try unfold ab_r); omega) (p2 : (6 : Int) ≤ i → ((o).length < 1000000) := by intros; (try unfold ab_r); omega) (p3 : (6 : Int) ≤ i → (0 ≤ (5 : Int) ∧ (5 : Int) < (((o).length : Nat) : Int)) := by intros; (try unfold ab_r); omega) (p4 : i < (6 : Int) → ((o).length < 1000000) := by intros; (try unfold ab_r); omega) (p5 : i < (6 : Int) → (0 ≤ i ∧ i < (((o).length : Nat) : Int)) := by intros; (try unfold ab_r); omega) : ab_R E_X2_remember_v1 P_X2_remember Q 18 [some (.inr (.inl (some 0))), some (.inr (.inl (some w1))), some (.inl i)] [] (xz_cs u r q o h0 h1 h2 h3 h4 h5 s0 s1 z p f) :=
  ab_R.steps [15, 18, 37, 38, 59, 68, 75] 13 (show ((ab_r i ∧ ab_r 6) ∧ (((6 : Int) ≤ i → (ab_rarr 11 (xz_cs 5 r q o h0 h1 h2 h3 h4 h5 s0 s1 z p f) (fun l_ => ab_obj 1 w1 (xz_cs 5 r q o h0 h1 h2 h3 h4 h5 s0 s1 z p f) ((0 ≤ (5 : Int) ∧ (5 : Int) < (((l_).length : Nat) : Int)) ∧ ab_R E_X2_remember_v1 P_X2_remember Q 59 [some (.inr (.inl (some 0))), some (.inr (.inl (some w1))), some (.inl i)] [] (xz_cs 5 r q ((l_.set (5 : Int).toNat (some w1))) h0 h1 h2 h3 h4 h5 s0 s1 z p f))))) ∧ (i < (6 : Int) → (ab_rarr 11 (xz_cs u r q o h0 h1 h2 h3 h4 h5 s0 s1 z p f) (fun l_ => (0 ≤ i ∧ i < (((l_).length : Nat) : Int)) ∧ ab_R E_X2_remember_v1 P_X2_remember Q 37 [some (.inr (.inl (some 0))), some (.inr (.inl (some w1))), some (.inl i)] [.inr (.inl (l_.getD i.toNat none)), .inl (i - 1), .inr (.inl (some 11))] (xz_cs u r q o h0 h1 h2 h3 h4 h5 s0 s1 z p f)))))) from ⟨p1, ⟨fun h1 => (ab_rarrI rfl (p2 h1) (ab_objI (l2 h1) ⟨(p3 h1), (ab_R.fg 1 rfl (ab_R.fg 2 rfl (l1 h1)))⟩)), fun h2 => (ab_rarrI rfl (p4 h2) ⟨(p5 h2), (l3 h2)⟩)⟩⟩)
set_option maxRecDepth 100000 in
theorem b_X2_remember_v1_37 {Q : ab_Q} {w1 : Nat} {i : Int} {y0 : Nat} {t1 : Int} {u : Int} {r : rw_T} {q : rw_T} {o : List (Option Nat)} {h0 : rw_T} {h1 : rw_T} {h2 : rw_T} {h3 : rw_T} {h4 : rw_T} {h5 : rw_T} {s0 : rw_T} {s1 : rw_T} {z : Int → Int} {p : pd_T} {f : Int → Int} (l1 : ab_R E_X2_remember_v1 P_X2_remember Q 38 [some (.inr (.inl (some 0))), some (.inr (.inl (some w1))), some (.inl i)] [] (xz_cs u r q ((o.set t1.toNat (some y0))) h0 h1 h2 h3 h4 h5 s0 s1 z p f)) (l2 : (∃ fs_, ((xz_cs u r q o h0 h1 h2 h3 h4 h5 s0 s1 z p f))[y0]? = some (.inl (1, fs_)))) (p1 : ((o).length < 1000000) := by intros; (try unfold ab_r); omega) (p2 : (0 ≤ t1 ∧ t1 < (((o).length : Nat) : Int)) := by intros; (try unfold ab_r); omega) : ab_R E_X2_remember_v1 P_X2_remember Q 37 [some (.inr (.inl (some 0))), some (.inr (.inl (some w1))), some (.inl i)] [.inr (.inl (some y0)), .inl t1, .inr (.inl (some 11))] (xz_cs u r q o h0 h1 h2 h3 h4 h5 s0 s1 z p f) :=
  ab_R.steps [15, 18, 37, 38, 59, 68, 75] 2 (show (ab_rarr 11 (xz_cs u r q o h0 h1 h2 h3 h4 h5 s0 s1 z p f) (fun l_ => ab_obj 1 y0 (xz_cs u r q o h0 h1 h2 h3 h4 h5 s0 s1 z p f) ((0 ≤ t1 ∧ t1 < (((l_).length : Nat) : Int)) ∧ ab_R E_X2_remember_v1 P_X2_remember Q 38 [some (.inr (.inl (some 0))), some (.inr (.inl (some w1))), some (.inl i)] [] (xz_cs u r q ((l_.set t1.toNat (some y0))) h0 h1 h2 h3 h4 h5 s0 s1 z p f)))) from (ab_rarrI rfl p1 (ab_objI l2 ⟨p2, l1⟩)))
set_option maxRecDepth 100000 in
theorem b_X2_remember_v1_38 {Q : ab_Q} {w1 : Nat} {i : Int} {u : Int} {r : rw_T} {q : rw_T} {o : List (Option Nat)} {h0 : rw_T} {h1 : rw_T} {h2 : rw_T} {h3 : rw_T} {h4 : rw_T} {h5 : rw_T} {s0 : rw_T} {s1 : rw_T} {z : Int → Int} {p : pd_T} {f : Int → Int} (l1 : ab_R E_X2_remember_v1 P_X2_remember Q 18 [some (.inr (.inl (some 0))), some (.inr (.inl (some w1))), some (.inl (i + 1))] [] (xz_cs u r q o h0 h1 h2 h3 h4 h5 s0 s1 z p f))  : ab_R E_X2_remember_v1 P_X2_remember Q 38 [some (.inr (.inl (some 0))), some (.inr (.inl (some w1))), some (.inl i)] [] (xz_cs u r q o h0 h1 h2 h3 h4 h5 s0 s1 z p f) :=
  ab_R.steps [15, 18, 37, 38, 59, 68, 75] 4 (show ab_R E_X2_remember_v1 P_X2_remember Q 18 [some (.inr (.inl (some 0))), some (.inr (.inl (some w1))), some (.inl (i + 1))] [] (xz_cs u r q o h0 h1 h2 h3 h4 h5 s0 s1 z p f) from l1)
set_option maxRecDepth 100000 in
theorem b_X2_remember_v1_59 {Q : ab_Q} {u : Int} {r : rw_T} {q : rw_T} {o : List (Option Nat)} {h0 : rw_T} {h1 : rw_T} {h2 : rw_T} {h3 : rw_T} {h4 : rw_T} {h5 : rw_T} {s0 : rw_T} {s1 : rw_T} {z : Int → Int} {p : pd_T} {f : Int → Int} (l1 : ab_R E_X2_remember_v1 P_X2_remember Q 68 [some (.inr (.inl (some 0))), none, none] [.inr (.inl (o.getD u.toNat none))] (xz_cs u r q o h0 h1 h2 h3 h4 h5 s0 s1 z p f)) (p1 : ((o).length < 1000000) := by intros; (try unfold ab_r); omega) (p2 : (0 ≤ u ∧ u < (((o).length : Nat) : Int)) := by intros; (try unfold ab_r); omega) : ab_R E_X2_remember_v1 P_X2_remember Q 59 [some (.inr (.inl (some 0))), none, none] [] (xz_cs u r q o h0 h1 h2 h3 h4 h5 s0 s1 z p f) :=
  ab_R.steps [15, 18, 37, 38, 59, 68, 75] 6 (show (ab_rarr 11 (xz_cs u r q o h0 h1 h2 h3 h4 h5 s0 s1 z p f) (fun l_ => (0 ≤ u ∧ u < (((l_).length : Nat) : Int)) ∧ ab_R E_X2_remember_v1 P_X2_remember Q 68 [some (.inr (.inl (some 0))), none, none] [.inr (.inl (l_.getD u.toNat none))] (xz_cs u r q o h0 h1 h2 h3 h4 h5 s0 s1 z p f))) from (ab_rarrI rfl p1 ⟨p2, l1⟩))
set_option maxRecDepth 100000 in
theorem b_X2_remember_v1_68 {Q : ab_Q} {u : Int} {r : rw_T} {q : rw_T} {o : List (Option Nat)} {h0 : rw_T} {h1 : rw_T} {h2 : rw_T} {h3 : rw_T} {h4 : rw_T} {h5 : rw_T} {s0 : rw_T} {s1 : rw_T} {z : Int → Int} {p : pd_T} {f : Int → Int} (l1 : sp_X1_copyFrom [.inr (.inl (some 0)), .inr (.inl (some 5))] (rw2_cs h1 r) (fun r_ k_ => ∃ (r' : rw_T), ∃ (q' : rw_T), r_ = none ∧ k_ = (rw2_cs r' q') ∧ ab_R E_X2_remember_v1 P_X2_remember Q 75 [some (.inr (.inl (some 0))), none, none] [] (xz_cs u q' q o h0 r' h2 h3 h4 h5 s0 s1 z p f)))  : ab_R E_X2_remember_v1 P_X2_remember Q 68 [some (.inr (.inl (some 0))), none, none] [.inr (.inl (some 17))] (xz_cs u r q o h0 h1 h2 h3 h4 h5 s0 s1 z p f) :=
  ab_R.steps [15, 18, 37, 38, 59, 68, 75] 4 (show ab_cl sp_X1_copyFrom [.inr (.inl (some 0)), .inr (.inl (some 5))] (rw2_cs h1 r) (fun r_ k_ => k_.length = 10 → ab_R E_X2_remember_v1 P_X2_remember Q 75 [some (.inr (.inl (some 0))), none, none] (ab_ret (r_.map (ab_reV [17, 18, 19, 20, 21, 1, 2, 3, 4, 5])) []) (ab_back [17, 18, 19, 20, 21, 1, 2, 3, 4, 5] [17, 18, 19, 20, 21, 1, 2, 3, 4, 5] k_ (xz_cs u r q o h0 h1 h2 h3 h4 h5 s0 s1 z p f))) from ⟨_, l1, fun r_ k_ hz _ => by obtain ⟨r', q', rfl, rfl, hR⟩ := hz; exact hR⟩)
set_option maxRecDepth 100000 in
theorem b_X2_remember_v1_75 {Q : ab_Q} {u : Int} {r : rw_T} {q : rw_T} {o : List (Option Nat)} {h0 : rw_T} {h1 : rw_T} {h2 : rw_T} {h3 : rw_T} {h4 : rw_T} {h5 : rw_T} {s0 : rw_T} {s1 : rw_T} {z : Int → Int} {p : pd_T} {f : Int → Int} (l1 : Q none (xz_cs ((u + 1)) r q o h0 h1 h2 h3 h4 h5 s0 s1 z p f))  : ab_R E_X2_remember_v1 P_X2_remember Q 75 [some (.inr (.inl (some 0))), none, none] [] (xz_cs u r q o h0 h1 h2 h3 h4 h5 s0 s1 z p f) :=
  ab_R.steps [15, 18, 37, 38, 59, 68, 75] 8 (show Q none (xz_cs ((u + 1)) r q o h0 h1 h2 h3 h4 h5 s0 s1 z p f) from l1)
theorem vc_X2_remember_v1 {av : List ab_V} {cs : List ab_C} {Q : ab_Q} (h : sp_X2_remember_v1 av cs Q) : (ab_lv0 av).length ≤ 3 ∧ ab_R E_X2_remember_v1 P_X2_remember Q 0 (ab_ent av 3) [] cs := by
  obtain ⟨u, r, q, o, h, s0, s1, z, p, f, x, l, d, rfl, rfl, hx, hH, hk, hQ⟩ := h
  refine ⟨Nat.le_of_ble_eq_true rfl, ?_⟩
  show ab_R E_X2_remember_v1 P_X2_remember Q 0 [some (.inr (.inl (some 0))), none, none] [] (xz_cs u r q o (h 0) (h 1) (h 2) (h 3) (h 4) (h 5) s0 s1 z p f)
  have hH' := hH
  obtain ⟨hu, hl6, hd, ho, hh⟩ := hH'
  subst ho
  have main : ∀ (u1 : Int) (o1 : List (Option Nat)), o1.length = 6 → 0 ≤ u1 → u1 < 6 → o1.getD u1.toNat none = some (12 + 5 * 1) → (∀ r' : rw_T, mx_st r' x → mx_H (u1 + 1) o1 (mx_up h 1 r') (mh_push l x)) →
      ab_R E_X2_remember_v1 P_X2_remember Q 59 [some (.inr (.inl (some 0))), none, none] [] (xz_cs u1 r q o1 (h 0) (h 1) (h 2) (h 3) (h 4) (h 5) s0 s1 z p f) := by
    intro u1 o1 g1 g2 g3 g4 g5
    refine b_X2_remember_v1_59 ?_
    rw [g4]
    exact b_X2_remember_v1_68 ⟨h 1, r, x.1, rfl, rfl, hx.1, hx.2.1, fun r' q1 q2 => ⟨r', r, rfl, rfl, b_X2_remember_v1_75 (hQ (u1 + 1) o1 (mx_up h 1 r') (g5 r' ⟨q1, hx.2.1, q2.trans hx.2.2⟩))⟩⟩
  have hol := mx_o_len d
  refine b_X2_remember_v1_0 (fun h6 => ?_) (fun h6 => ?_)
  · refine main u (mx_o d) hol (by omega) h6 ?_ (fun r' hr => ?_)
    · rw [mx_o_get d hd u.toNat (by omega), show (u.toNat + d) % 6 = 1 by omega]
    · have := mx_H_push hH (by omega) hr
      rw [hk] at this
      exact this
  · have hl : l.length = 6 := by omega
    rw [show (0 : Int).toNat = 0 from rfl, mx_o_get d hd 0 (by omega)]
    refine b_X2_remember_v1_15 ?_
    have hm0 : (0 + d) % 6 < 6 := Nat.mod_lt _ (by decide)
    have loop : ∀ (m i : Nat), i + m = 6 → 1 ≤ i → ab_R E_X2_remember_v1 P_X2_remember Q 18 [some (.inr (.inl (some 0))), some (.inr (.inl (some (12 + 5 * ((0 + d) % 6))))), some (.inl (i : Int))] [] (xz_cs u r q (mx_oo d i) (h 0) (h 1) (h 2) (h 3) (h 4) (h 5) s0 s1 z p f) := by
      intro m
      induction m with
      | zero =>
        intro i g1 g2
        have hi : i = 6 := by omega
        subst hi
        have hlen := mx_oo_len d 6
        refine b_X2_remember_v1_18 (fun _ => ?_) (fun _ => mx_cell _ _ _ _ _ _ _ _ _ _ _ _ _ _ _ _ hm0) (fun h => by omega)
        rw [show (5 : Int).toNat = 5 from rfl, mx_oo_6 d hd]
        refine main 5 (mx_o ((d + 1) % 6)) (mx_o_len _) (by omega) (by omega) ?_ (fun r' hr => ?_)
        · rw [show (5 : Int).toNat = 5 from rfl, mx_o_get _ (Nat.mod_lt _ (by decide)) 5 (by omega), show (5 + (d + 1) % 6) % 6 = 1 by omega]
        · have := mx_H_turn hH hl hr
          rw [hk] at this
          exact this
      | succ m ih =>
        intro i g1 g2
        have hlen := mx_oo_len d i
        have hmi : (i + d) % 6 < 6 := Nat.mod_lt _ (by decide)
        refine b_X2_remember_v1_18 (fun h => by omega) (fun h => by omega) (fun _ => ?_)
        rw [Int.toNat_natCast, mx_oo_get d hd i (by omega) g2]
        refine b_X2_remember_v1_37 ?_ (mx_cell _ _ _ _ _ _ _ _ _ _ _ _ _ _ _ _ hmi)
        rw [show ((i : Int) - 1).toNat = i - 1 by omega, mx_oo_set d hd i (by omega) g2]
        refine b_X2_remember_v1_38 ?_
        exact ih (i + 1) (by omega) (by omega)
    have := loop 5 1 rfl (by omega)
    rw [mx_oo_1 d hd] at this
    exact this
theorem mt_X2_remember_v1 (l : Launch) : ab_MT l mi_X2_remember sp_X2_remember_v1 := ab_MT.of (own := "RootChunks") (E := E_X2_remember_v1) (P := P_X2_remember) (M := M_X2_remember) (nL := 3) (ty := 9) (by decide) rfl rfl tk_X2 pk_X2_remember ck_X2_remember_v1 (ab_CT'.cons (mt_X1_copyFrom l) ab_CT'.nil) (fun av cs Q h => vc_X2_remember_v1 h)
def E_X2_remember_v2 : ab_E := (T_X2, [(72, (2, 1, [22, 23, 24, 25, 26, 1, 2, 3, 4, 5], 10, sp_X1_copyFrom))], [], 9)
theorem ck_X2_remember_v2 : P_X2_remember.all (ab_okC1 "RootChunks" M_X2_remember E_X2_remember_v2 (2, 91)) = true := by decide +kernel
set_option maxRecDepth 100000 in
theorem b_X2_remember_v2_0 {Q : ab_Q} {u : Int} {r : rw_T} {q : rw_T} {o : List (Option Nat)} {h0 : rw_T} {h1 : rw_T} {h2 : rw_T} {h3 : rw_T} {h4 : rw_T} {h5 : rw_T} {s0 : rw_T} {s1 : rw_T} {z : Int → Int} {p : pd_T} {f : Int → Int} (l1 : u < (6 : Int) → ab_R E_X2_remember_v2 P_X2_remember Q 59 [some (.inr (.inl (some 0))), none, none] [] (xz_cs u r q o h0 h1 h2 h3 h4 h5 s0 s1 z p f)) (l2 : (6 : Int) ≤ u → ab_R E_X2_remember_v2 P_X2_remember Q 15 [some (.inr (.inl (some 0))), none, none] [.inr (.inl (o.getD (0 : Int).toNat none))] (xz_cs u r q o h0 h1 h2 h3 h4 h5 s0 s1 z p f)) (p1 : (ab_r u ∧ ab_r 6) := by intros; (try unfold ab_r); omega) (p2 : (6 : Int) ≤ u → ((o).length < 1000000) := by intros; (try unfold ab_r); omega) (p3 : (6 : Int) ≤ u → (0 ≤ (0 : Int) ∧ (0 : Int) < (((o).length : Nat) : Int)) := by intros; (try unfold ab_r); omega) : ab_R E_X2_remember_v2 P_X2_remember Q 0 [some (.inr (.inl (some 0))), none, none] [] (xz_cs u r q o h0 h1 h2 h3 h4 h5 s0 s1 z p f) :=
  ab_R.steps [15, 18, 37, 38, 59, 68, 75] 9 (show ((ab_r u ∧ ab_r 6) ∧ ((u < (6 : Int) → ab_R E_X2_remember_v2 P_X2_remember Q 59 [some (.inr (.inl (some 0))), none, none] [] (xz_cs u r q o h0 h1 h2 h3 h4 h5 s0 s1 z p f)) ∧ ((6 : Int) ≤ u → (ab_rarr 11 (xz_cs u r q o h0 h1 h2 h3 h4 h5 s0 s1 z p f) (fun l_ => (0 ≤ (0 : Int) ∧ (0 : Int) < (((l_).length : Nat) : Int)) ∧ ab_R E_X2_remember_v2 P_X2_remember Q 15 [some (.inr (.inl (some 0))), none, none] [.inr (.inl (l_.getD (0 : Int).toNat none))] (xz_cs u r q o h0 h1 h2 h3 h4 h5 s0 s1 z p f)))))) from ⟨p1, ⟨fun h1 => (l1 h1), fun h2 => (ab_rarrI rfl (p2 h2) ⟨(p3 h2), (l2 h2)⟩)⟩⟩)
set_option maxRecDepth 100000 in
theorem b_X2_remember_v2_15 {Q : ab_Q} {y0 : Nat} {u : Int} {r : rw_T} {q : rw_T} {o : List (Option Nat)} {h0 : rw_T} {h1 : rw_T} {h2 : rw_T} {h3 : rw_T} {h4 : rw_T} {h5 : rw_T} {s0 : rw_T} {s1 : rw_T} {z : Int → Int} {p : pd_T} {f : Int → Int} (l1 : ab_R E_X2_remember_v2 P_X2_remember Q 18 [some (.inr (.inl (some 0))), some (.inr (.inl (some y0))), some (.inl 1)] [] (xz_cs u r q o h0 h1 h2 h3 h4 h5 s0 s1 z p f))  : ab_R E_X2_remember_v2 P_X2_remember Q 15 [some (.inr (.inl (some 0))), none, none] [.inr (.inl (some y0))] (xz_cs u r q o h0 h1 h2 h3 h4 h5 s0 s1 z p f) :=
  ab_R.steps [15, 18, 37, 38, 59, 68, 75] 5 (show ab_R E_X2_remember_v2 P_X2_remember Q 18 [some (.inr (.inl (some 0))), some (.inr (.inl (some y0))), some (.inl 1)] [] (xz_cs u r q o h0 h1 h2 h3 h4 h5 s0 s1 z p f) from l1)
set_option maxRecDepth 100000 in
theorem b_X2_remember_v2_18 {Q : ab_Q} {w1 : Nat} {i : Int} {u : Int} {r : rw_T} {q : rw_T} {o : List (Option Nat)} {h0 : rw_T} {h1 : rw_T} {h2 : rw_T} {h3 : rw_T} {h4 : rw_T} {h5 : rw_T} {s0 : rw_T} {s1 : rw_T} {z : Int → Int} {p : pd_T} {f : Int → Int} (l1 : (6 : Int) ≤ i → ab_R E_X2_remember_v2 P_X2_remember Q 59 [some (.inr (.inl (some 0))), none, none] [] (xz_cs 5 r q ((o.set (5 : Int).toNat (some w1))) h0 h1 h2 h3 h4 h5 s0 s1 z p f)) (l2 : (6 : Int) ≤ i → (∃ fs_, ((xz_cs 5 r q o h0 h1 h2 h3 h4 h5 s0 s1 z p f))[w1]? = some (.inl (1, fs_)))) (l3 : i < (6 : Int) → ab_R E_X2_remember_v2 P_X2_remember Q 37 [some (.inr (.inl (some 0))), some (.inr (.inl (some w1))), some (.inl i)] [.inr (.inl (o.getD i.toNat none)), .inl (i - 1), .inr (.inl (some 11))] (xz_cs u r q o h0 h1 h2 h3 h4 h5 s0 s1 z p f)) (p1 : (ab_r i ∧ ab_r 6) := by intros; (try unfold ab_r); omega) (p2 : (6 : Int) ≤ i → ((o).length < 1000000) := by intros; (try unfold ab_r); omega) (p3 : (6 : Int) ≤ i → (0 ≤ (5 : Int) ∧ (5 : Int) < (((o).length : Nat) : Int)) := by intros; (try unfold ab_r); omega) (p4 : i < (6 : Int) → ((o).length < 1000000) := by intros; (try unfold ab_r); omega) (p5 : i < (6 : Int) → (0 ≤ i ∧ i < (((o).length : Nat) : Int)) := by intros; (try unfold ab_r); omega) : ab_R E_X2_remember_v2 P_X2_remember Q 18 [some (.inr (.inl (some 0))), some (.inr (.inl (some w1))), some (.inl i)] [] (xz_cs u r q o h0 h1 h2 h3 h4 h5 s0 s1 z p f) :=
  ab_R.steps [15, 18, 37, 38, 59, 68, 75] 13 (show ((ab_r i ∧ ab_r 6) ∧ (((6 : Int) ≤ i → (ab_rarr 11 (xz_cs 5 r q o h0 h1 h2 h3 h4 h5 s0 s1 z p f) (fun l_ => ab_obj 1 w1 (xz_cs 5 r q o h0 h1 h2 h3 h4 h5 s0 s1 z p f) ((0 ≤ (5 : Int) ∧ (5 : Int) < (((l_).length : Nat) : Int)) ∧ ab_R E_X2_remember_v2 P_X2_remember Q 59 [some (.inr (.inl (some 0))), some (.inr (.inl (some w1))), some (.inl i)] [] (xz_cs 5 r q ((l_.set (5 : Int).toNat (some w1))) h0 h1 h2 h3 h4 h5 s0 s1 z p f))))) ∧ (i < (6 : Int) → (ab_rarr 11 (xz_cs u r q o h0 h1 h2 h3 h4 h5 s0 s1 z p f) (fun l_ => (0 ≤ i ∧ i < (((l_).length : Nat) : Int)) ∧ ab_R E_X2_remember_v2 P_X2_remember Q 37 [some (.inr (.inl (some 0))), some (.inr (.inl (some w1))), some (.inl i)] [.inr (.inl (l_.getD i.toNat none)), .inl (i - 1), .inr (.inl (some 11))] (xz_cs u r q o h0 h1 h2 h3 h4 h5 s0 s1 z p f)))))) from ⟨p1, ⟨fun h1 => (ab_rarrI rfl (p2 h1) (ab_objI (l2 h1) ⟨(p3 h1), (ab_R.fg 1 rfl (ab_R.fg 2 rfl (l1 h1)))⟩)), fun h2 => (ab_rarrI rfl (p4 h2) ⟨(p5 h2), (l3 h2)⟩)⟩⟩)
set_option maxRecDepth 100000 in
theorem b_X2_remember_v2_37 {Q : ab_Q} {w1 : Nat} {i : Int} {y0 : Nat} {t1 : Int} {u : Int} {r : rw_T} {q : rw_T} {o : List (Option Nat)} {h0 : rw_T} {h1 : rw_T} {h2 : rw_T} {h3 : rw_T} {h4 : rw_T} {h5 : rw_T} {s0 : rw_T} {s1 : rw_T} {z : Int → Int} {p : pd_T} {f : Int → Int} (l1 : ab_R E_X2_remember_v2 P_X2_remember Q 38 [some (.inr (.inl (some 0))), some (.inr (.inl (some w1))), some (.inl i)] [] (xz_cs u r q ((o.set t1.toNat (some y0))) h0 h1 h2 h3 h4 h5 s0 s1 z p f)) (l2 : (∃ fs_, ((xz_cs u r q o h0 h1 h2 h3 h4 h5 s0 s1 z p f))[y0]? = some (.inl (1, fs_)))) (p1 : ((o).length < 1000000) := by intros; (try unfold ab_r); omega) (p2 : (0 ≤ t1 ∧ t1 < (((o).length : Nat) : Int)) := by intros; (try unfold ab_r); omega) : ab_R E_X2_remember_v2 P_X2_remember Q 37 [some (.inr (.inl (some 0))), some (.inr (.inl (some w1))), some (.inl i)] [.inr (.inl (some y0)), .inl t1, .inr (.inl (some 11))] (xz_cs u r q o h0 h1 h2 h3 h4 h5 s0 s1 z p f) :=
  ab_R.steps [15, 18, 37, 38, 59, 68, 75] 2 (show (ab_rarr 11 (xz_cs u r q o h0 h1 h2 h3 h4 h5 s0 s1 z p f) (fun l_ => ab_obj 1 y0 (xz_cs u r q o h0 h1 h2 h3 h4 h5 s0 s1 z p f) ((0 ≤ t1 ∧ t1 < (((l_).length : Nat) : Int)) ∧ ab_R E_X2_remember_v2 P_X2_remember Q 38 [some (.inr (.inl (some 0))), some (.inr (.inl (some w1))), some (.inl i)] [] (xz_cs u r q ((l_.set t1.toNat (some y0))) h0 h1 h2 h3 h4 h5 s0 s1 z p f)))) from (ab_rarrI rfl p1 (ab_objI l2 ⟨p2, l1⟩)))
set_option maxRecDepth 100000 in
theorem b_X2_remember_v2_38 {Q : ab_Q} {w1 : Nat} {i : Int} {u : Int} {r : rw_T} {q : rw_T} {o : List (Option Nat)} {h0 : rw_T} {h1 : rw_T} {h2 : rw_T} {h3 : rw_T} {h4 : rw_T} {h5 : rw_T} {s0 : rw_T} {s1 : rw_T} {z : Int → Int} {p : pd_T} {f : Int → Int} (l1 : ab_R E_X2_remember_v2 P_X2_remember Q 18 [some (.inr (.inl (some 0))), some (.inr (.inl (some w1))), some (.inl (i + 1))] [] (xz_cs u r q o h0 h1 h2 h3 h4 h5 s0 s1 z p f))  : ab_R E_X2_remember_v2 P_X2_remember Q 38 [some (.inr (.inl (some 0))), some (.inr (.inl (some w1))), some (.inl i)] [] (xz_cs u r q o h0 h1 h2 h3 h4 h5 s0 s1 z p f) :=
  ab_R.steps [15, 18, 37, 38, 59, 68, 75] 4 (show ab_R E_X2_remember_v2 P_X2_remember Q 18 [some (.inr (.inl (some 0))), some (.inr (.inl (some w1))), some (.inl (i + 1))] [] (xz_cs u r q o h0 h1 h2 h3 h4 h5 s0 s1 z p f) from l1)
set_option maxRecDepth 100000 in
theorem b_X2_remember_v2_59 {Q : ab_Q} {u : Int} {r : rw_T} {q : rw_T} {o : List (Option Nat)} {h0 : rw_T} {h1 : rw_T} {h2 : rw_T} {h3 : rw_T} {h4 : rw_T} {h5 : rw_T} {s0 : rw_T} {s1 : rw_T} {z : Int → Int} {p : pd_T} {f : Int → Int} (l1 : ab_R E_X2_remember_v2 P_X2_remember Q 68 [some (.inr (.inl (some 0))), none, none] [.inr (.inl (o.getD u.toNat none))] (xz_cs u r q o h0 h1 h2 h3 h4 h5 s0 s1 z p f)) (p1 : ((o).length < 1000000) := by intros; (try unfold ab_r); omega) (p2 : (0 ≤ u ∧ u < (((o).length : Nat) : Int)) := by intros; (try unfold ab_r); omega) : ab_R E_X2_remember_v2 P_X2_remember Q 59 [some (.inr (.inl (some 0))), none, none] [] (xz_cs u r q o h0 h1 h2 h3 h4 h5 s0 s1 z p f) :=
  ab_R.steps [15, 18, 37, 38, 59, 68, 75] 6 (show (ab_rarr 11 (xz_cs u r q o h0 h1 h2 h3 h4 h5 s0 s1 z p f) (fun l_ => (0 ≤ u ∧ u < (((l_).length : Nat) : Int)) ∧ ab_R E_X2_remember_v2 P_X2_remember Q 68 [some (.inr (.inl (some 0))), none, none] [.inr (.inl (l_.getD u.toNat none))] (xz_cs u r q o h0 h1 h2 h3 h4 h5 s0 s1 z p f))) from (ab_rarrI rfl p1 ⟨p2, l1⟩))
set_option maxRecDepth 100000 in
theorem b_X2_remember_v2_68 {Q : ab_Q} {u : Int} {r : rw_T} {q : rw_T} {o : List (Option Nat)} {h0 : rw_T} {h1 : rw_T} {h2 : rw_T} {h3 : rw_T} {h4 : rw_T} {h5 : rw_T} {s0 : rw_T} {s1 : rw_T} {z : Int → Int} {p : pd_T} {f : Int → Int} (l1 : sp_X1_copyFrom [.inr (.inl (some 0)), .inr (.inl (some 5))] (rw2_cs h2 r) (fun r_ k_ => ∃ (r' : rw_T), ∃ (q' : rw_T), r_ = none ∧ k_ = (rw2_cs r' q') ∧ ab_R E_X2_remember_v2 P_X2_remember Q 75 [some (.inr (.inl (some 0))), none, none] [] (xz_cs u q' q o h0 h1 r' h3 h4 h5 s0 s1 z p f)))  : ab_R E_X2_remember_v2 P_X2_remember Q 68 [some (.inr (.inl (some 0))), none, none] [.inr (.inl (some 22))] (xz_cs u r q o h0 h1 h2 h3 h4 h5 s0 s1 z p f) :=
  ab_R.steps [15, 18, 37, 38, 59, 68, 75] 4 (show ab_cl sp_X1_copyFrom [.inr (.inl (some 0)), .inr (.inl (some 5))] (rw2_cs h2 r) (fun r_ k_ => k_.length = 10 → ab_R E_X2_remember_v2 P_X2_remember Q 75 [some (.inr (.inl (some 0))), none, none] (ab_ret (r_.map (ab_reV [22, 23, 24, 25, 26, 1, 2, 3, 4, 5])) []) (ab_back [22, 23, 24, 25, 26, 1, 2, 3, 4, 5] [22, 23, 24, 25, 26, 1, 2, 3, 4, 5] k_ (xz_cs u r q o h0 h1 h2 h3 h4 h5 s0 s1 z p f))) from ⟨_, l1, fun r_ k_ hz _ => by obtain ⟨r', q', rfl, rfl, hR⟩ := hz; exact hR⟩)
set_option maxRecDepth 100000 in
theorem b_X2_remember_v2_75 {Q : ab_Q} {u : Int} {r : rw_T} {q : rw_T} {o : List (Option Nat)} {h0 : rw_T} {h1 : rw_T} {h2 : rw_T} {h3 : rw_T} {h4 : rw_T} {h5 : rw_T} {s0 : rw_T} {s1 : rw_T} {z : Int → Int} {p : pd_T} {f : Int → Int} (l1 : Q none (xz_cs ((u + 1)) r q o h0 h1 h2 h3 h4 h5 s0 s1 z p f))  : ab_R E_X2_remember_v2 P_X2_remember Q 75 [some (.inr (.inl (some 0))), none, none] [] (xz_cs u r q o h0 h1 h2 h3 h4 h5 s0 s1 z p f) :=
  ab_R.steps [15, 18, 37, 38, 59, 68, 75] 8 (show Q none (xz_cs ((u + 1)) r q o h0 h1 h2 h3 h4 h5 s0 s1 z p f) from l1)
theorem vc_X2_remember_v2 {av : List ab_V} {cs : List ab_C} {Q : ab_Q} (h : sp_X2_remember_v2 av cs Q) : (ab_lv0 av).length ≤ 3 ∧ ab_R E_X2_remember_v2 P_X2_remember Q 0 (ab_ent av 3) [] cs := by
  obtain ⟨u, r, q, o, h, s0, s1, z, p, f, x, l, d, rfl, rfl, hx, hH, hk, hQ⟩ := h
  refine ⟨Nat.le_of_ble_eq_true rfl, ?_⟩
  show ab_R E_X2_remember_v2 P_X2_remember Q 0 [some (.inr (.inl (some 0))), none, none] [] (xz_cs u r q o (h 0) (h 1) (h 2) (h 3) (h 4) (h 5) s0 s1 z p f)
  have hH' := hH
  obtain ⟨hu, hl6, hd, ho, hh⟩ := hH'
  subst ho
  have main : ∀ (u1 : Int) (o1 : List (Option Nat)), o1.length = 6 → 0 ≤ u1 → u1 < 6 → o1.getD u1.toNat none = some (12 + 5 * 2) → (∀ r' : rw_T, mx_st r' x → mx_H (u1 + 1) o1 (mx_up h 2 r') (mh_push l x)) →
      ab_R E_X2_remember_v2 P_X2_remember Q 59 [some (.inr (.inl (some 0))), none, none] [] (xz_cs u1 r q o1 (h 0) (h 1) (h 2) (h 3) (h 4) (h 5) s0 s1 z p f) := by
    intro u1 o1 g1 g2 g3 g4 g5
    refine b_X2_remember_v2_59 ?_
    rw [g4]
    exact b_X2_remember_v2_68 ⟨h 2, r, x.1, rfl, rfl, hx.1, hx.2.1, fun r' q1 q2 => ⟨r', r, rfl, rfl, b_X2_remember_v2_75 (hQ (u1 + 1) o1 (mx_up h 2 r') (g5 r' ⟨q1, hx.2.1, q2.trans hx.2.2⟩))⟩⟩
  have hol := mx_o_len d
  refine b_X2_remember_v2_0 (fun h6 => ?_) (fun h6 => ?_)
  · refine main u (mx_o d) hol (by omega) h6 ?_ (fun r' hr => ?_)
    · rw [mx_o_get d hd u.toNat (by omega), show (u.toNat + d) % 6 = 2 by omega]
    · have := mx_H_push hH (by omega) hr
      rw [hk] at this
      exact this
  · have hl : l.length = 6 := by omega
    rw [show (0 : Int).toNat = 0 from rfl, mx_o_get d hd 0 (by omega)]
    refine b_X2_remember_v2_15 ?_
    have hm0 : (0 + d) % 6 < 6 := Nat.mod_lt _ (by decide)
    have loop : ∀ (m i : Nat), i + m = 6 → 1 ≤ i → ab_R E_X2_remember_v2 P_X2_remember Q 18 [some (.inr (.inl (some 0))), some (.inr (.inl (some (12 + 5 * ((0 + d) % 6))))), some (.inl (i : Int))] [] (xz_cs u r q (mx_oo d i) (h 0) (h 1) (h 2) (h 3) (h 4) (h 5) s0 s1 z p f) := by
      intro m
      induction m with
      | zero =>
        intro i g1 g2
        have hi : i = 6 := by omega
        subst hi
        have hlen := mx_oo_len d 6
        refine b_X2_remember_v2_18 (fun _ => ?_) (fun _ => mx_cell _ _ _ _ _ _ _ _ _ _ _ _ _ _ _ _ hm0) (fun h => by omega)
        rw [show (5 : Int).toNat = 5 from rfl, mx_oo_6 d hd]
        refine main 5 (mx_o ((d + 1) % 6)) (mx_o_len _) (by omega) (by omega) ?_ (fun r' hr => ?_)
        · rw [show (5 : Int).toNat = 5 from rfl, mx_o_get _ (Nat.mod_lt _ (by decide)) 5 (by omega), show (5 + (d + 1) % 6) % 6 = 2 by omega]
        · have := mx_H_turn hH hl hr
          rw [hk] at this
          exact this
      | succ m ih =>
        intro i g1 g2
        have hlen := mx_oo_len d i
        have hmi : (i + d) % 6 < 6 := Nat.mod_lt _ (by decide)
        refine b_X2_remember_v2_18 (fun h => by omega) (fun h => by omega) (fun _ => ?_)
        rw [Int.toNat_natCast, mx_oo_get d hd i (by omega) g2]
        refine b_X2_remember_v2_37 ?_ (mx_cell _ _ _ _ _ _ _ _ _ _ _ _ _ _ _ _ hmi)
        rw [show ((i : Int) - 1).toNat = i - 1 by omega, mx_oo_set d hd i (by omega) g2]
        refine b_X2_remember_v2_38 ?_
        exact ih (i + 1) (by omega) (by omega)
    have := loop 5 1 rfl (by omega)
    rw [mx_oo_1 d hd] at this
    exact this
theorem mt_X2_remember_v2 (l : Launch) : ab_MT l mi_X2_remember sp_X2_remember_v2 := ab_MT.of (own := "RootChunks") (E := E_X2_remember_v2) (P := P_X2_remember) (M := M_X2_remember) (nL := 3) (ty := 9) (by decide) rfl rfl tk_X2 pk_X2_remember ck_X2_remember_v2 (ab_CT'.cons (mt_X1_copyFrom l) ab_CT'.nil) (fun av cs Q h => vc_X2_remember_v2 h)
def E_X2_remember_v3 : ab_E := (T_X2, [(72, (2, 1, [27, 28, 29, 30, 31, 1, 2, 3, 4, 5], 10, sp_X1_copyFrom))], [], 9)
theorem ck_X2_remember_v3 : P_X2_remember.all (ab_okC1 "RootChunks" M_X2_remember E_X2_remember_v3 (2, 91)) = true := by decide +kernel
set_option maxRecDepth 100000 in
theorem b_X2_remember_v3_0 {Q : ab_Q} {u : Int} {r : rw_T} {q : rw_T} {o : List (Option Nat)} {h0 : rw_T} {h1 : rw_T} {h2 : rw_T} {h3 : rw_T} {h4 : rw_T} {h5 : rw_T} {s0 : rw_T} {s1 : rw_T} {z : Int → Int} {p : pd_T} {f : Int → Int} (l1 : u < (6 : Int) → ab_R E_X2_remember_v3 P_X2_remember Q 59 [some (.inr (.inl (some 0))), none, none] [] (xz_cs u r q o h0 h1 h2 h3 h4 h5 s0 s1 z p f)) (l2 : (6 : Int) ≤ u → ab_R E_X2_remember_v3 P_X2_remember Q 15 [some (.inr (.inl (some 0))), none, none] [.inr (.inl (o.getD (0 : Int).toNat none))] (xz_cs u r q o h0 h1 h2 h3 h4 h5 s0 s1 z p f)) (p1 : (ab_r u ∧ ab_r 6) := by intros; (try unfold ab_r); omega) (p2 : (6 : Int) ≤ u → ((o).length < 1000000) := by intros; (try unfold ab_r); omega) (p3 : (6 : Int) ≤ u → (0 ≤ (0 : Int) ∧ (0 : Int) < (((o).length : Nat) : Int)) := by intros; (try unfold ab_r); omega) : ab_R E_X2_remember_v3 P_X2_remember Q 0 [some (.inr (.inl (some 0))), none, none] [] (xz_cs u r q o h0 h1 h2 h3 h4 h5 s0 s1 z p f) :=
  ab_R.steps [15, 18, 37, 38, 59, 68, 75] 9 (show ((ab_r u ∧ ab_r 6) ∧ ((u < (6 : Int) → ab_R E_X2_remember_v3 P_X2_remember Q 59 [some (.inr (.inl (some 0))), none, none] [] (xz_cs u r q o h0 h1 h2 h3 h4 h5 s0 s1 z p f)) ∧ ((6 : Int) ≤ u → (ab_rarr 11 (xz_cs u r q o h0 h1 h2 h3 h4 h5 s0 s1 z p f) (fun l_ => (0 ≤ (0 : Int) ∧ (0 : Int) < (((l_).length : Nat) : Int)) ∧ ab_R E_X2_remember_v3 P_X2_remember Q 15 [some (.inr (.inl (some 0))), none, none] [.inr (.inl (l_.getD (0 : Int).toNat none))] (xz_cs u r q o h0 h1 h2 h3 h4 h5 s0 s1 z p f)))))) from ⟨p1, ⟨fun h1 => (l1 h1), fun h2 => (ab_rarrI rfl (p2 h2) ⟨(p3 h2), (l2 h2)⟩)⟩⟩)
set_option maxRecDepth 100000 in
theorem b_X2_remember_v3_15 {Q : ab_Q} {y0 : Nat} {u : Int} {r : rw_T} {q : rw_T} {o : List (Option Nat)} {h0 : rw_T} {h1 : rw_T} {h2 : rw_T} {h3 : rw_T} {h4 : rw_T} {h5 : rw_T} {s0 : rw_T} {s1 : rw_T} {z : Int → Int} {p : pd_T} {f : Int → Int} (l1 : ab_R E_X2_remember_v3 P_X2_remember Q 18 [some (.inr (.inl (some 0))), some (.inr (.inl (some y0))), some (.inl 1)] [] (xz_cs u r q o h0 h1 h2 h3 h4 h5 s0 s1 z p f))  : ab_R E_X2_remember_v3 P_X2_remember Q 15 [some (.inr (.inl (some 0))), none, none] [.inr (.inl (some y0))] (xz_cs u r q o h0 h1 h2 h3 h4 h5 s0 s1 z p f) :=
  ab_R.steps [15, 18, 37, 38, 59, 68, 75] 5 (show ab_R E_X2_remember_v3 P_X2_remember Q 18 [some (.inr (.inl (some 0))), some (.inr (.inl (some y0))), some (.inl 1)] [] (xz_cs u r q o h0 h1 h2 h3 h4 h5 s0 s1 z p f) from l1)
set_option maxRecDepth 100000 in
theorem b_X2_remember_v3_18 {Q : ab_Q} {w1 : Nat} {i : Int} {u : Int} {r : rw_T} {q : rw_T} {o : List (Option Nat)} {h0 : rw_T} {h1 : rw_T} {h2 : rw_T} {h3 : rw_T} {h4 : rw_T} {h5 : rw_T} {s0 : rw_T} {s1 : rw_T} {z : Int → Int} {p : pd_T} {f : Int → Int} (l1 : (6 : Int) ≤ i → ab_R E_X2_remember_v3 P_X2_remember Q 59 [some (.inr (.inl (some 0))), none, none] [] (xz_cs 5 r q ((o.set (5 : Int).toNat (some w1))) h0 h1 h2 h3 h4 h5 s0 s1 z p f)) (l2 : (6 : Int) ≤ i → (∃ fs_, ((xz_cs 5 r q o h0 h1 h2 h3 h4 h5 s0 s1 z p f))[w1]? = some (.inl (1, fs_)))) (l3 : i < (6 : Int) → ab_R E_X2_remember_v3 P_X2_remember Q 37 [some (.inr (.inl (some 0))), some (.inr (.inl (some w1))), some (.inl i)] [.inr (.inl (o.getD i.toNat none)), .inl (i - 1), .inr (.inl (some 11))] (xz_cs u r q o h0 h1 h2 h3 h4 h5 s0 s1 z p f)) (p1 : (ab_r i ∧ ab_r 6) := by intros; (try unfold ab_r); omega) (p2 : (6 : Int) ≤ i → ((o).length < 1000000) := by intros; (try unfold ab_r); omega) (p3 : (6 : Int) ≤ i → (0 ≤ (5 : Int) ∧ (5 : Int) < (((o).length : Nat) : Int)) := by intros; (try unfold ab_r); omega) (p4 : i < (6 : Int) → ((o).length < 1000000) := by intros; (try unfold ab_r); omega) (p5 : i < (6 : Int) → (0 ≤ i ∧ i < (((o).length : Nat) : Int)) := by intros; (try unfold ab_r); omega) : ab_R E_X2_remember_v3 P_X2_remember Q 18 [some (.inr (.inl (some 0))), some (.inr (.inl (some w1))), some (.inl i)] [] (xz_cs u r q o h0 h1 h2 h3 h4 h5 s0 s1 z p f) :=
  ab_R.steps [15, 18, 37, 38, 59, 68, 75] 13 (show ((ab_r i ∧ ab_r 6) ∧ (((6 : Int) ≤ i → (ab_rarr 11 (xz_cs 5 r q o h0 h1 h2 h3 h4 h5 s0 s1 z p f) (fun l_ => ab_obj 1 w1 (xz_cs 5 r q o h0 h1 h2 h3 h4 h5 s0 s1 z p f) ((0 ≤ (5 : Int) ∧ (5 : Int) < (((l_).length : Nat) : Int)) ∧ ab_R E_X2_remember_v3 P_X2_remember Q 59 [some (.inr (.inl (some 0))), some (.inr (.inl (some w1))), some (.inl i)] [] (xz_cs 5 r q ((l_.set (5 : Int).toNat (some w1))) h0 h1 h2 h3 h4 h5 s0 s1 z p f))))) ∧ (i < (6 : Int) → (ab_rarr 11 (xz_cs u r q o h0 h1 h2 h3 h4 h5 s0 s1 z p f) (fun l_ => (0 ≤ i ∧ i < (((l_).length : Nat) : Int)) ∧ ab_R E_X2_remember_v3 P_X2_remember Q 37 [some (.inr (.inl (some 0))), some (.inr (.inl (some w1))), some (.inl i)] [.inr (.inl (l_.getD i.toNat none)), .inl (i - 1), .inr (.inl (some 11))] (xz_cs u r q o h0 h1 h2 h3 h4 h5 s0 s1 z p f)))))) from ⟨p1, ⟨fun h1 => (ab_rarrI rfl (p2 h1) (ab_objI (l2 h1) ⟨(p3 h1), (ab_R.fg 1 rfl (ab_R.fg 2 rfl (l1 h1)))⟩)), fun h2 => (ab_rarrI rfl (p4 h2) ⟨(p5 h2), (l3 h2)⟩)⟩⟩)
set_option maxRecDepth 100000 in
theorem b_X2_remember_v3_37 {Q : ab_Q} {w1 : Nat} {i : Int} {y0 : Nat} {t1 : Int} {u : Int} {r : rw_T} {q : rw_T} {o : List (Option Nat)} {h0 : rw_T} {h1 : rw_T} {h2 : rw_T} {h3 : rw_T} {h4 : rw_T} {h5 : rw_T} {s0 : rw_T} {s1 : rw_T} {z : Int → Int} {p : pd_T} {f : Int → Int} (l1 : ab_R E_X2_remember_v3 P_X2_remember Q 38 [some (.inr (.inl (some 0))), some (.inr (.inl (some w1))), some (.inl i)] [] (xz_cs u r q ((o.set t1.toNat (some y0))) h0 h1 h2 h3 h4 h5 s0 s1 z p f)) (l2 : (∃ fs_, ((xz_cs u r q o h0 h1 h2 h3 h4 h5 s0 s1 z p f))[y0]? = some (.inl (1, fs_)))) (p1 : ((o).length < 1000000) := by intros; (try unfold ab_r); omega) (p2 : (0 ≤ t1 ∧ t1 < (((o).length : Nat) : Int)) := by intros; (try unfold ab_r); omega) : ab_R E_X2_remember_v3 P_X2_remember Q 37 [some (.inr (.inl (some 0))), some (.inr (.inl (some w1))), some (.inl i)] [.inr (.inl (some y0)), .inl t1, .inr (.inl (some 11))] (xz_cs u r q o h0 h1 h2 h3 h4 h5 s0 s1 z p f) :=
  ab_R.steps [15, 18, 37, 38, 59, 68, 75] 2 (show (ab_rarr 11 (xz_cs u r q o h0 h1 h2 h3 h4 h5 s0 s1 z p f) (fun l_ => ab_obj 1 y0 (xz_cs u r q o h0 h1 h2 h3 h4 h5 s0 s1 z p f) ((0 ≤ t1 ∧ t1 < (((l_).length : Nat) : Int)) ∧ ab_R E_X2_remember_v3 P_X2_remember Q 38 [some (.inr (.inl (some 0))), some (.inr (.inl (some w1))), some (.inl i)] [] (xz_cs u r q ((l_.set t1.toNat (some y0))) h0 h1 h2 h3 h4 h5 s0 s1 z p f)))) from (ab_rarrI rfl p1 (ab_objI l2 ⟨p2, l1⟩)))
set_option maxRecDepth 100000 in
theorem b_X2_remember_v3_38 {Q : ab_Q} {w1 : Nat} {i : Int} {u : Int} {r : rw_T} {q : rw_T} {o : List (Option Nat)} {h0 : rw_T} {h1 : rw_T} {h2 : rw_T} {h3 : rw_T} {h4 : rw_T} {h5 : rw_T} {s0 : rw_T} {s1 : rw_T} {z : Int → Int} {p : pd_T} {f : Int → Int} (l1 : ab_R E_X2_remember_v3 P_X2_remember Q 18 [some (.inr (.inl (some 0))), some (.inr (.inl (some w1))), some (.inl (i + 1))] [] (xz_cs u r q o h0 h1 h2 h3 h4 h5 s0 s1 z p f))  : ab_R E_X2_remember_v3 P_X2_remember Q 38 [some (.inr (.inl (some 0))), some (.inr (.inl (some w1))), some (.inl i)] [] (xz_cs u r q o h0 h1 h2 h3 h4 h5 s0 s1 z p f) :=
  ab_R.steps [15, 18, 37, 38, 59, 68, 75] 4 (show ab_R E_X2_remember_v3 P_X2_remember Q 18 [some (.inr (.inl (some 0))), some (.inr (.inl (some w1))), some (.inl (i + 1))] [] (xz_cs u r q o h0 h1 h2 h3 h4 h5 s0 s1 z p f) from l1)
set_option maxRecDepth 100000 in
theorem b_X2_remember_v3_59 {Q : ab_Q} {u : Int} {r : rw_T} {q : rw_T} {o : List (Option Nat)} {h0 : rw_T} {h1 : rw_T} {h2 : rw_T} {h3 : rw_T} {h4 : rw_T} {h5 : rw_T} {s0 : rw_T} {s1 : rw_T} {z : Int → Int} {p : pd_T} {f : Int → Int} (l1 : ab_R E_X2_remember_v3 P_X2_remember Q 68 [some (.inr (.inl (some 0))), none, none] [.inr (.inl (o.getD u.toNat none))] (xz_cs u r q o h0 h1 h2 h3 h4 h5 s0 s1 z p f)) (p1 : ((o).length < 1000000) := by intros; (try unfold ab_r); omega) (p2 : (0 ≤ u ∧ u < (((o).length : Nat) : Int)) := by intros; (try unfold ab_r); omega) : ab_R E_X2_remember_v3 P_X2_remember Q 59 [some (.inr (.inl (some 0))), none, none] [] (xz_cs u r q o h0 h1 h2 h3 h4 h5 s0 s1 z p f) :=
  ab_R.steps [15, 18, 37, 38, 59, 68, 75] 6 (show (ab_rarr 11 (xz_cs u r q o h0 h1 h2 h3 h4 h5 s0 s1 z p f) (fun l_ => (0 ≤ u ∧ u < (((l_).length : Nat) : Int)) ∧ ab_R E_X2_remember_v3 P_X2_remember Q 68 [some (.inr (.inl (some 0))), none, none] [.inr (.inl (l_.getD u.toNat none))] (xz_cs u r q o h0 h1 h2 h3 h4 h5 s0 s1 z p f))) from (ab_rarrI rfl p1 ⟨p2, l1⟩))
set_option maxRecDepth 100000 in
theorem b_X2_remember_v3_68 {Q : ab_Q} {u : Int} {r : rw_T} {q : rw_T} {o : List (Option Nat)} {h0 : rw_T} {h1 : rw_T} {h2 : rw_T} {h3 : rw_T} {h4 : rw_T} {h5 : rw_T} {s0 : rw_T} {s1 : rw_T} {z : Int → Int} {p : pd_T} {f : Int → Int} (l1 : sp_X1_copyFrom [.inr (.inl (some 0)), .inr (.inl (some 5))] (rw2_cs h3 r) (fun r_ k_ => ∃ (r' : rw_T), ∃ (q' : rw_T), r_ = none ∧ k_ = (rw2_cs r' q') ∧ ab_R E_X2_remember_v3 P_X2_remember Q 75 [some (.inr (.inl (some 0))), none, none] [] (xz_cs u q' q o h0 h1 h2 r' h4 h5 s0 s1 z p f)))  : ab_R E_X2_remember_v3 P_X2_remember Q 68 [some (.inr (.inl (some 0))), none, none] [.inr (.inl (some 27))] (xz_cs u r q o h0 h1 h2 h3 h4 h5 s0 s1 z p f) :=
  ab_R.steps [15, 18, 37, 38, 59, 68, 75] 4 (show ab_cl sp_X1_copyFrom [.inr (.inl (some 0)), .inr (.inl (some 5))] (rw2_cs h3 r) (fun r_ k_ => k_.length = 10 → ab_R E_X2_remember_v3 P_X2_remember Q 75 [some (.inr (.inl (some 0))), none, none] (ab_ret (r_.map (ab_reV [27, 28, 29, 30, 31, 1, 2, 3, 4, 5])) []) (ab_back [27, 28, 29, 30, 31, 1, 2, 3, 4, 5] [27, 28, 29, 30, 31, 1, 2, 3, 4, 5] k_ (xz_cs u r q o h0 h1 h2 h3 h4 h5 s0 s1 z p f))) from ⟨_, l1, fun r_ k_ hz _ => by obtain ⟨r', q', rfl, rfl, hR⟩ := hz; exact hR⟩)
set_option maxRecDepth 100000 in
theorem b_X2_remember_v3_75 {Q : ab_Q} {u : Int} {r : rw_T} {q : rw_T} {o : List (Option Nat)} {h0 : rw_T} {h1 : rw_T} {h2 : rw_T} {h3 : rw_T} {h4 : rw_T} {h5 : rw_T} {s0 : rw_T} {s1 : rw_T} {z : Int → Int} {p : pd_T} {f : Int → Int} (l1 : Q none (xz_cs ((u + 1)) r q o h0 h1 h2 h3 h4 h5 s0 s1 z p f))  : ab_R E_X2_remember_v3 P_X2_remember Q 75 [some (.inr (.inl (some 0))), none, none] [] (xz_cs u r q o h0 h1 h2 h3 h4 h5 s0 s1 z p f) :=
  ab_R.steps [15, 18, 37, 38, 59, 68, 75] 8 (show Q none (xz_cs ((u + 1)) r q o h0 h1 h2 h3 h4 h5 s0 s1 z p f) from l1)
theorem vc_X2_remember_v3 {av : List ab_V} {cs : List ab_C} {Q : ab_Q} (h : sp_X2_remember_v3 av cs Q) : (ab_lv0 av).length ≤ 3 ∧ ab_R E_X2_remember_v3 P_X2_remember Q 0 (ab_ent av 3) [] cs := by
  obtain ⟨u, r, q, o, h, s0, s1, z, p, f, x, l, d, rfl, rfl, hx, hH, hk, hQ⟩ := h
  refine ⟨Nat.le_of_ble_eq_true rfl, ?_⟩
  show ab_R E_X2_remember_v3 P_X2_remember Q 0 [some (.inr (.inl (some 0))), none, none] [] (xz_cs u r q o (h 0) (h 1) (h 2) (h 3) (h 4) (h 5) s0 s1 z p f)
  have hH' := hH
  obtain ⟨hu, hl6, hd, ho, hh⟩ := hH'
  subst ho
  have main : ∀ (u1 : Int) (o1 : List (Option Nat)), o1.length = 6 → 0 ≤ u1 → u1 < 6 → o1.getD u1.toNat none = some (12 + 5 * 3) → (∀ r' : rw_T, mx_st r' x → mx_H (u1 + 1) o1 (mx_up h 3 r') (mh_push l x)) →
      ab_R E_X2_remember_v3 P_X2_remember Q 59 [some (.inr (.inl (some 0))), none, none] [] (xz_cs u1 r q o1 (h 0) (h 1) (h 2) (h 3) (h 4) (h 5) s0 s1 z p f) := by
    intro u1 o1 g1 g2 g3 g4 g5
    refine b_X2_remember_v3_59 ?_
    rw [g4]
    exact b_X2_remember_v3_68 ⟨h 3, r, x.1, rfl, rfl, hx.1, hx.2.1, fun r' q1 q2 => ⟨r', r, rfl, rfl, b_X2_remember_v3_75 (hQ (u1 + 1) o1 (mx_up h 3 r') (g5 r' ⟨q1, hx.2.1, q2.trans hx.2.2⟩))⟩⟩
  have hol := mx_o_len d
  refine b_X2_remember_v3_0 (fun h6 => ?_) (fun h6 => ?_)
  · refine main u (mx_o d) hol (by omega) h6 ?_ (fun r' hr => ?_)
    · rw [mx_o_get d hd u.toNat (by omega), show (u.toNat + d) % 6 = 3 by omega]
    · have := mx_H_push hH (by omega) hr
      rw [hk] at this
      exact this
  · have hl : l.length = 6 := by omega
    rw [show (0 : Int).toNat = 0 from rfl, mx_o_get d hd 0 (by omega)]
    refine b_X2_remember_v3_15 ?_
    have hm0 : (0 + d) % 6 < 6 := Nat.mod_lt _ (by decide)
    have loop : ∀ (m i : Nat), i + m = 6 → 1 ≤ i → ab_R E_X2_remember_v3 P_X2_remember Q 18 [some (.inr (.inl (some 0))), some (.inr (.inl (some (12 + 5 * ((0 + d) % 6))))), some (.inl (i : Int))] [] (xz_cs u r q (mx_oo d i) (h 0) (h 1) (h 2) (h 3) (h 4) (h 5) s0 s1 z p f) := by
      intro m
      induction m with
      | zero =>
        intro i g1 g2
        have hi : i = 6 := by omega
        subst hi
        have hlen := mx_oo_len d 6
        refine b_X2_remember_v3_18 (fun _ => ?_) (fun _ => mx_cell _ _ _ _ _ _ _ _ _ _ _ _ _ _ _ _ hm0) (fun h => by omega)
        rw [show (5 : Int).toNat = 5 from rfl, mx_oo_6 d hd]
        refine main 5 (mx_o ((d + 1) % 6)) (mx_o_len _) (by omega) (by omega) ?_ (fun r' hr => ?_)
        · rw [show (5 : Int).toNat = 5 from rfl, mx_o_get _ (Nat.mod_lt _ (by decide)) 5 (by omega), show (5 + (d + 1) % 6) % 6 = 3 by omega]
        · have := mx_H_turn hH hl hr
          rw [hk] at this
          exact this
      | succ m ih =>
        intro i g1 g2
        have hlen := mx_oo_len d i
        have hmi : (i + d) % 6 < 6 := Nat.mod_lt _ (by decide)
        refine b_X2_remember_v3_18 (fun h => by omega) (fun h => by omega) (fun _ => ?_)
        rw [Int.toNat_natCast, mx_oo_get d hd i (by omega) g2]
        refine b_X2_remember_v3_37 ?_ (mx_cell _ _ _ _ _ _ _ _ _ _ _ _ _ _ _ _ hmi)
        rw [show ((i : Int) - 1).toNat = i - 1 by omega, mx_oo_set d hd i (by omega) g2]
        refine b_X2_remember_v3_38 ?_
        exact ih (i + 1) (by omega) (by omega)
    have := loop 5 1 rfl (by omega)
    rw [mx_oo_1 d hd] at this
    exact this
theorem mt_X2_remember_v3 (l : Launch) : ab_MT l mi_X2_remember sp_X2_remember_v3 := ab_MT.of (own := "RootChunks") (E := E_X2_remember_v3) (P := P_X2_remember) (M := M_X2_remember) (nL := 3) (ty := 9) (by decide) rfl rfl tk_X2 pk_X2_remember ck_X2_remember_v3 (ab_CT'.cons (mt_X1_copyFrom l) ab_CT'.nil) (fun av cs Q h => vc_X2_remember_v3 h)
def E_X2_remember_v4 : ab_E := (T_X2, [(72, (2, 1, [32, 33, 34, 35, 36, 1, 2, 3, 4, 5], 10, sp_X1_copyFrom))], [], 9)
theorem ck_X2_remember_v4 : P_X2_remember.all (ab_okC1 "RootChunks" M_X2_remember E_X2_remember_v4 (2, 91)) = true := by decide +kernel
set_option maxRecDepth 100000 in
theorem b_X2_remember_v4_0 {Q : ab_Q} {u : Int} {r : rw_T} {q : rw_T} {o : List (Option Nat)} {h0 : rw_T} {h1 : rw_T} {h2 : rw_T} {h3 : rw_T} {h4 : rw_T} {h5 : rw_T} {s0 : rw_T} {s1 : rw_T} {z : Int → Int} {p : pd_T} {f : Int → Int} (l1 : u < (6 : Int) → ab_R E_X2_remember_v4 P_X2_remember Q 59 [some (.inr (.inl (some 0))), none, none] [] (xz_cs u r q o h0 h1 h2 h3 h4 h5 s0 s1 z p f)) (l2 : (6 : Int) ≤ u → ab_R E_X2_remember_v4 P_X2_remember Q 15 [some (.inr (.inl (some 0))), none, none] [.inr (.inl (o.getD (0 : Int).toNat none))] (xz_cs u r q o h0 h1 h2 h3 h4 h5 s0 s1 z p f)) (p1 : (ab_r u ∧ ab_r 6) := by intros; (try unfold ab_r); omega) (p2 : (6 : Int) ≤ u → ((o).length < 1000000) := by intros; (try unfold ab_r); omega) (p3 : (6 : Int) ≤ u → (0 ≤ (0 : Int) ∧ (0 : Int) < (((o).length : Nat) : Int)) := by intros; (try unfold ab_r); omega) : ab_R E_X2_remember_v4 P_X2_remember Q 0 [some (.inr (.inl (some 0))), none, none] [] (xz_cs u r q o h0 h1 h2 h3 h4 h5 s0 s1 z p f) :=
  ab_R.steps [15, 18, 37, 38, 59, 68, 75] 9 (show ((ab_r u ∧ ab_r 6) ∧ ((u < (6 : Int) → ab_R E_X2_remember_v4 P_X2_remember Q 59 [some (.inr (.inl (some 0))), none, none] [] (xz_cs u r q o h0 h1 h2 h3 h4 h5 s0 s1 z p f)) ∧ ((6 : Int) ≤ u → (ab_rarr 11 (xz_cs u r q o h0 h1 h2 h3 h4 h5 s0 s1 z p f) (fun l_ => (0 ≤ (0 : Int) ∧ (0 : Int) < (((l_).length : Nat) : Int)) ∧ ab_R E_X2_remember_v4 P_X2_remember Q 15 [some (.inr (.inl (some 0))), none, none] [.inr (.inl (l_.getD (0 : Int).toNat none))] (xz_cs u r q o h0 h1 h2 h3 h4 h5 s0 s1 z p f)))))) from ⟨p1, ⟨fun h1 => (l1 h1), fun h2 => (ab_rarrI rfl (p2 h2) ⟨(p3 h2), (l2 h2)⟩)⟩⟩)
set_option maxRecDepth 100000 in
theorem b_X2_remember_v4_15 {Q : ab_Q} {y0 : Nat} {u : Int} {r : rw_T} {q : rw_T} {o : List (Option Nat)} {h0 : rw_T} {h1 : rw_T} {h2 : rw_T} {h3 : rw_T} {h4 : rw_T} {h5 : rw_T} {s0 : rw_T} {s1 : rw_T} {z : Int → Int} {p : pd_T} {f : Int → Int} (l1 : ab_R E_X2_remember_v4 P_X2_remember Q 18 [some (.inr (.inl (some 0))), some (.inr (.inl (some y0))), some (.inl 1)] [] (xz_cs u r q o h0 h1 h2 h3 h4 h5 s0 s1 z p f))  : ab_R E_X2_remember_v4 P_X2_remember Q 15 [some (.inr (.inl (some 0))), none, none] [.inr (.inl (some y0))] (xz_cs u r q o h0 h1 h2 h3 h4 h5 s0 s1 z p f) :=
  ab_R.steps [15, 18, 37, 38, 59, 68, 75] 5 (show ab_R E_X2_remember_v4 P_X2_remember Q 18 [some (.inr (.inl (some 0))), some (.inr (.inl (some y0))), some (.inl 1)] [] (xz_cs u r q o h0 h1 h2 h3 h4 h5 s0 s1 z p f) from l1)
set_option maxRecDepth 100000 in
theorem b_X2_remember_v4_18 {Q : ab_Q} {w1 : Nat} {i : Int} {u : Int} {r : rw_T} {q : rw_T} {o : List (Option Nat)} {h0 : rw_T} {h1 : rw_T} {h2 : rw_T} {h3 : rw_T} {h4 : rw_T} {h5 : rw_T} {s0 : rw_T} {s1 : rw_T} {z : Int → Int} {p : pd_T} {f : Int → Int} (l1 : (6 : Int) ≤ i → ab_R E_X2_remember_v4 P_X2_remember Q 59 [some (.inr (.inl (some 0))), none, none] [] (xz_cs 5 r q ((o.set (5 : Int).toNat (some w1))) h0 h1 h2 h3 h4 h5 s0 s1 z p f)) (l2 : (6 : Int) ≤ i → (∃ fs_, ((xz_cs 5 r q o h0 h1 h2 h3 h4 h5 s0 s1 z p f))[w1]? = some (.inl (1, fs_)))) (l3 : i < (6 : Int) → ab_R E_X2_remember_v4 P_X2_remember Q 37 [some (.inr (.inl (some 0))), some (.inr (.inl (some w1))), some (.inl i)] [.inr (.inl (o.getD i.toNat none)), .inl (i - 1), .inr (.inl (some 11))] (xz_cs u r q o h0 h1 h2 h3 h4 h5 s0 s1 z p f)) (p1 : (ab_r i ∧ ab_r 6) := by intros; (try unfold ab_r); omega) (p2 : (6 : Int) ≤ i → ((o).length < 1000000) := by intros; (try unfold ab_r); omega) (p3 : (6 : Int) ≤ i → (0 ≤ (5 : Int) ∧ (5 : Int) < (((o).length : Nat) : Int)) := by intros; (try unfold ab_r); omega) (p4 : i < (6 : Int) → ((o).length < 1000000) := by intros; (try unfold ab_r); omega) (p5 : i < (6 : Int) → (0 ≤ i ∧ i < (((o).length : Nat) : Int)) := by intros; (try unfold ab_r); omega) : ab_R E_X2_remember_v4 P_X2_remember Q 18 [some (.inr (.inl (some 0))), some (.inr (.inl (some w1))), some (.inl i)] [] (xz_cs u r q o h0 h1 h2 h3 h4 h5 s0 s1 z p f) :=
  ab_R.steps [15, 18, 37, 38, 59, 68, 75] 13 (show ((ab_r i ∧ ab_r 6) ∧ (((6 : Int) ≤ i → (ab_rarr 11 (xz_cs 5 r q o h0 h1 h2 h3 h4 h5 s0 s1 z p f) (fun l_ => ab_obj 1 w1 (xz_cs 5 r q o h0 h1 h2 h3 h4 h5 s0 s1 z p f) ((0 ≤ (5 : Int) ∧ (5 : Int) < (((l_).length : Nat) : Int)) ∧ ab_R E_X2_remember_v4 P_X2_remember Q 59 [some (.inr (.inl (some 0))), some (.inr (.inl (some w1))), some (.inl i)] [] (xz_cs 5 r q ((l_.set (5 : Int).toNat (some w1))) h0 h1 h2 h3 h4 h5 s0 s1 z p f))))) ∧ (i < (6 : Int) → (ab_rarr 11 (xz_cs u r q o h0 h1 h2 h3 h4 h5 s0 s1 z p f) (fun l_ => (0 ≤ i ∧ i < (((l_).length : Nat) : Int)) ∧ ab_R E_X2_remember_v4 P_X2_remember Q 37 [some (.inr (.inl (some 0))), some (.inr (.inl (some w1))), some (.inl i)] [.inr (.inl (l_.getD i.toNat none)), .inl (i - 1), .inr (.inl (some 11))] (xz_cs u r q o h0 h1 h2 h3 h4 h5 s0 s1 z p f)))))) from ⟨p1, ⟨fun h1 => (ab_rarrI rfl (p2 h1) (ab_objI (l2 h1) ⟨(p3 h1), (ab_R.fg 1 rfl (ab_R.fg 2 rfl (l1 h1)))⟩)), fun h2 => (ab_rarrI rfl (p4 h2) ⟨(p5 h2), (l3 h2)⟩)⟩⟩)
set_option maxRecDepth 100000 in
theorem b_X2_remember_v4_37 {Q : ab_Q} {w1 : Nat} {i : Int} {y0 : Nat} {t1 : Int} {u : Int} {r : rw_T} {q : rw_T} {o : List (Option Nat)} {h0 : rw_T} {h1 : rw_T} {h2 : rw_T} {h3 : rw_T} {h4 : rw_T} {h5 : rw_T} {s0 : rw_T} {s1 : rw_T} {z : Int → Int} {p : pd_T} {f : Int → Int} (l1 : ab_R E_X2_remember_v4 P_X2_remember Q 38 [some (.inr (.inl (some 0))), some (.inr (.inl (some w1))), some (.inl i)] [] (xz_cs u r q ((o.set t1.toNat (some y0))) h0 h1 h2 h3 h4 h5 s0 s1 z p f)) (l2 : (∃ fs_, ((xz_cs u r q o h0 h1 h2 h3 h4 h5 s0 s1 z p f))[y0]? = some (.inl (1, fs_)))) (p1 : ((o).length < 1000000) := by intros; (try unfold ab_r); omega) (p2 : (0 ≤ t1 ∧ t1 < (((o).length : Nat) : Int)) := by intros; (try unfold ab_r); omega) : ab_R E_X2_remember_v4 P_X2_remember Q 37 [some (.inr (.inl (some 0))), some (.inr (.inl (some w1))), some (.inl i)] [.inr (.inl (some y0)), .inl t1, .inr (.inl (some 11))] (xz_cs u r q o h0 h1 h2 h3 h4 h5 s0 s1 z p f) :=
  ab_R.steps [15, 18, 37, 38, 59, 68, 75] 2 (show (ab_rarr 11 (xz_cs u r q o h0 h1 h2 h3 h4 h5 s0 s1 z p f) (fun l_ => ab_obj 1 y0 (xz_cs u r q o h0 h1 h2 h3 h4 h5 s0 s1 z p f) ((0 ≤ t1 ∧ t1 < (((l_).length : Nat) : Int)) ∧ ab_R E_X2_remember_v4 P_X2_remember Q 38 [some (.inr (.inl (some 0))), some (.inr (.inl (some w1))), some (.inl i)] [] (xz_cs u r q ((l_.set t1.toNat (some y0))) h0 h1 h2 h3 h4 h5 s0 s1 z p f)))) from (ab_rarrI rfl p1 (ab_objI l2 ⟨p2, l1⟩)))
set_option maxRecDepth 100000 in
theorem b_X2_remember_v4_38 {Q : ab_Q} {w1 : Nat} {i : Int} {u : Int} {r : rw_T} {q : rw_T} {o : List (Option Nat)} {h0 : rw_T} {h1 : rw_T} {h2 : rw_T} {h3 : rw_T} {h4 : rw_T} {h5 : rw_T} {s0 : rw_T} {s1 : rw_T} {z : Int → Int} {p : pd_T} {f : Int → Int} (l1 : ab_R E_X2_remember_v4 P_X2_remember Q 18 [some (.inr (.inl (some 0))), some (.inr (.inl (some w1))), some (.inl (i + 1))] [] (xz_cs u r q o h0 h1 h2 h3 h4 h5 s0 s1 z p f))  : ab_R E_X2_remember_v4 P_X2_remember Q 38 [some (.inr (.inl (some 0))), some (.inr (.inl (some w1))), some (.inl i)] [] (xz_cs u r q o h0 h1 h2 h3 h4 h5 s0 s1 z p f) :=
  ab_R.steps [15, 18, 37, 38, 59, 68, 75] 4 (show ab_R E_X2_remember_v4 P_X2_remember Q 18 [some (.inr (.inl (some 0))), some (.inr (.inl (some w1))), some (.inl (i + 1))] [] (xz_cs u r q o h0 h1 h2 h3 h4 h5 s0 s1 z p f) from l1)
set_option maxRecDepth 100000 in
theorem b_X2_remember_v4_59 {Q : ab_Q} {u : Int} {r : rw_T} {q : rw_T} {o : List (Option Nat)} {h0 : rw_T} {h1 : rw_T} {h2 : rw_T} {h3 : rw_T} {h4 : rw_T} {h5 : rw_T} {s0 : rw_T} {s1 : rw_T} {z : Int → Int} {p : pd_T} {f : Int → Int} (l1 : ab_R E_X2_remember_v4 P_X2_remember Q 68 [some (.inr (.inl (some 0))), none, none] [.inr (.inl (o.getD u.toNat none))] (xz_cs u r q o h0 h1 h2 h3 h4 h5 s0 s1 z p f)) (p1 : ((o).length < 1000000) := by intros; (try unfold ab_r); omega) (p2 : (0 ≤ u ∧ u < (((o).length : Nat) : Int)) := by intros; (try unfold ab_r); omega) : ab_R E_X2_remember_v4 P_X2_remember Q 59 [some (.inr (.inl (some 0))), none, none] [] (xz_cs u r q o h0 h1 h2 h3 h4 h5 s0 s1 z p f) :=
  ab_R.steps [15, 18, 37, 38, 59, 68, 75] 6 (show (ab_rarr 11 (xz_cs u r q o h0 h1 h2 h3 h4 h5 s0 s1 z p f) (fun l_ => (0 ≤ u ∧ u < (((l_).length : Nat) : Int)) ∧ ab_R E_X2_remember_v4 P_X2_remember Q 68 [some (.inr (.inl (some 0))), none, none] [.inr (.inl (l_.getD u.toNat none))] (xz_cs u r q o h0 h1 h2 h3 h4 h5 s0 s1 z p f))) from (ab_rarrI rfl p1 ⟨p2, l1⟩))
set_option maxRecDepth 100000 in
theorem b_X2_remember_v4_68 {Q : ab_Q} {u : Int} {r : rw_T} {q : rw_T} {o : List (Option Nat)} {h0 : rw_T} {h1 : rw_T} {h2 : rw_T} {h3 : rw_T} {h4 : rw_T} {h5 : rw_T} {s0 : rw_T} {s1 : rw_T} {z : Int → Int} {p : pd_T} {f : Int → Int} (l1 : sp_X1_copyFrom [.inr (.inl (some 0)), .inr (.inl (some 5))] (rw2_cs h4 r) (fun r_ k_ => ∃ (r' : rw_T), ∃ (q' : rw_T), r_ = none ∧ k_ = (rw2_cs r' q') ∧ ab_R E_X2_remember_v4 P_X2_remember Q 75 [some (.inr (.inl (some 0))), none, none] [] (xz_cs u q' q o h0 h1 h2 h3 r' h5 s0 s1 z p f)))  : ab_R E_X2_remember_v4 P_X2_remember Q 68 [some (.inr (.inl (some 0))), none, none] [.inr (.inl (some 32))] (xz_cs u r q o h0 h1 h2 h3 h4 h5 s0 s1 z p f) :=
  ab_R.steps [15, 18, 37, 38, 59, 68, 75] 4 (show ab_cl sp_X1_copyFrom [.inr (.inl (some 0)), .inr (.inl (some 5))] (rw2_cs h4 r) (fun r_ k_ => k_.length = 10 → ab_R E_X2_remember_v4 P_X2_remember Q 75 [some (.inr (.inl (some 0))), none, none] (ab_ret (r_.map (ab_reV [32, 33, 34, 35, 36, 1, 2, 3, 4, 5])) []) (ab_back [32, 33, 34, 35, 36, 1, 2, 3, 4, 5] [32, 33, 34, 35, 36, 1, 2, 3, 4, 5] k_ (xz_cs u r q o h0 h1 h2 h3 h4 h5 s0 s1 z p f))) from ⟨_, l1, fun r_ k_ hz _ => by obtain ⟨r', q', rfl, rfl, hR⟩ := hz; exact hR⟩)
set_option maxRecDepth 100000 in
theorem b_X2_remember_v4_75 {Q : ab_Q} {u : Int} {r : rw_T} {q : rw_T} {o : List (Option Nat)} {h0 : rw_T} {h1 : rw_T} {h2 : rw_T} {h3 : rw_T} {h4 : rw_T} {h5 : rw_T} {s0 : rw_T} {s1 : rw_T} {z : Int → Int} {p : pd_T} {f : Int → Int} (l1 : Q none (xz_cs ((u + 1)) r q o h0 h1 h2 h3 h4 h5 s0 s1 z p f))  : ab_R E_X2_remember_v4 P_X2_remember Q 75 [some (.inr (.inl (some 0))), none, none] [] (xz_cs u r q o h0 h1 h2 h3 h4 h5 s0 s1 z p f) :=
  ab_R.steps [15, 18, 37, 38, 59, 68, 75] 8 (show Q none (xz_cs ((u + 1)) r q o h0 h1 h2 h3 h4 h5 s0 s1 z p f) from l1)
theorem vc_X2_remember_v4 {av : List ab_V} {cs : List ab_C} {Q : ab_Q} (h : sp_X2_remember_v4 av cs Q) : (ab_lv0 av).length ≤ 3 ∧ ab_R E_X2_remember_v4 P_X2_remember Q 0 (ab_ent av 3) [] cs := by
  obtain ⟨u, r, q, o, h, s0, s1, z, p, f, x, l, d, rfl, rfl, hx, hH, hk, hQ⟩ := h
  refine ⟨Nat.le_of_ble_eq_true rfl, ?_⟩
  show ab_R E_X2_remember_v4 P_X2_remember Q 0 [some (.inr (.inl (some 0))), none, none] [] (xz_cs u r q o (h 0) (h 1) (h 2) (h 3) (h 4) (h 5) s0 s1 z p f)
  have hH' := hH
  obtain ⟨hu, hl6, hd, ho, hh⟩ := hH'
  subst ho
  have main : ∀ (u1 : Int) (o1 : List (Option Nat)), o1.length = 6 → 0 ≤ u1 → u1 < 6 → o1.getD u1.toNat none = some (12 + 5 * 4) → (∀ r' : rw_T, mx_st r' x → mx_H (u1 + 1) o1 (mx_up h 4 r') (mh_push l x)) →
      ab_R E_X2_remember_v4 P_X2_remember Q 59 [some (.inr (.inl (some 0))), none, none] [] (xz_cs u1 r q o1 (h 0) (h 1) (h 2) (h 3) (h 4) (h 5) s0 s1 z p f) := by
    intro u1 o1 g1 g2 g3 g4 g5
    refine b_X2_remember_v4_59 ?_
    rw [g4]
    exact b_X2_remember_v4_68 ⟨h 4, r, x.1, rfl, rfl, hx.1, hx.2.1, fun r' q1 q2 => ⟨r', r, rfl, rfl, b_X2_remember_v4_75 (hQ (u1 + 1) o1 (mx_up h 4 r') (g5 r' ⟨q1, hx.2.1, q2.trans hx.2.2⟩))⟩⟩
  have hol := mx_o_len d
  refine b_X2_remember_v4_0 (fun h6 => ?_) (fun h6 => ?_)
  · refine main u (mx_o d) hol (by omega) h6 ?_ (fun r' hr => ?_)
    · rw [mx_o_get d hd u.toNat (by omega), show (u.toNat + d) % 6 = 4 by omega]
    · have := mx_H_push hH (by omega) hr
      rw [hk] at this
      exact this
  · have hl : l.length = 6 := by omega
    rw [show (0 : Int).toNat = 0 from rfl, mx_o_get d hd 0 (by omega)]
    refine b_X2_remember_v4_15 ?_
    have hm0 : (0 + d) % 6 < 6 := Nat.mod_lt _ (by decide)
    have loop : ∀ (m i : Nat), i + m = 6 → 1 ≤ i → ab_R E_X2_remember_v4 P_X2_remember Q 18 [some (.inr (.inl (some 0))), some (.inr (.inl (some (12 + 5 * ((0 + d) % 6))))), some (.inl (i : Int))] [] (xz_cs u r q (mx_oo d i) (h 0) (h 1) (h 2) (h 3) (h 4) (h 5) s0 s1 z p f) := by
      intro m
      induction m with
      | zero =>
        intro i g1 g2
        have hi : i = 6 := by omega
        subst hi
        have hlen := mx_oo_len d 6
        refine b_X2_remember_v4_18 (fun _ => ?_) (fun _ => mx_cell _ _ _ _ _ _ _ _ _ _ _ _ _ _ _ _ hm0) (fun h => by omega)
        rw [show (5 : Int).toNat = 5 from rfl, mx_oo_6 d hd]
        refine main 5 (mx_o ((d + 1) % 6)) (mx_o_len _) (by omega) (by omega) ?_ (fun r' hr => ?_)
        · rw [show (5 : Int).toNat = 5 from rfl, mx_o_get _ (Nat.mod_lt _ (by decide)) 5 (by omega), show (5 + (d + 1) % 6) % 6 = 4 by omega]
        · have := mx_H_turn hH hl hr
          rw [hk] at this
          exact this
      | succ m ih =>
        intro i g1 g2
        have hlen := mx_oo_len d i
        have hmi : (i + d) % 6 < 6 := Nat.mod_lt _ (by decide)
        refine b_X2_remember_v4_18 (fun h => by omega) (fun h => by omega) (fun _ => ?_)
        rw [Int.toNat_natCast, mx_oo_get d hd i (by omega) g2]
        refine b_X2_remember_v4_37 ?_ (mx_cell _ _ _ _ _ _ _ _ _ _ _ _ _ _ _ _ hmi)
        rw [show ((i : Int) - 1).toNat = i - 1 by omega, mx_oo_set d hd i (by omega) g2]
        refine b_X2_remember_v4_38 ?_
        exact ih (i + 1) (by omega) (by omega)
    have := loop 5 1 rfl (by omega)
    rw [mx_oo_1 d hd] at this
    exact this
theorem mt_X2_remember_v4 (l : Launch) : ab_MT l mi_X2_remember sp_X2_remember_v4 := ab_MT.of (own := "RootChunks") (E := E_X2_remember_v4) (P := P_X2_remember) (M := M_X2_remember) (nL := 3) (ty := 9) (by decide) rfl rfl tk_X2 pk_X2_remember ck_X2_remember_v4 (ab_CT'.cons (mt_X1_copyFrom l) ab_CT'.nil) (fun av cs Q h => vc_X2_remember_v4 h)
def E_X2_remember_v5 : ab_E := (T_X2, [(72, (2, 1, [37, 38, 39, 40, 41, 1, 2, 3, 4, 5], 10, sp_X1_copyFrom))], [], 9)
theorem ck_X2_remember_v5 : P_X2_remember.all (ab_okC1 "RootChunks" M_X2_remember E_X2_remember_v5 (2, 91)) = true := by decide +kernel
set_option maxRecDepth 100000 in
theorem b_X2_remember_v5_0 {Q : ab_Q} {u : Int} {r : rw_T} {q : rw_T} {o : List (Option Nat)} {h0 : rw_T} {h1 : rw_T} {h2 : rw_T} {h3 : rw_T} {h4 : rw_T} {h5 : rw_T} {s0 : rw_T} {s1 : rw_T} {z : Int → Int} {p : pd_T} {f : Int → Int} (l1 : u < (6 : Int) → ab_R E_X2_remember_v5 P_X2_remember Q 59 [some (.inr (.inl (some 0))), none, none] [] (xz_cs u r q o h0 h1 h2 h3 h4 h5 s0 s1 z p f)) (l2 : (6 : Int) ≤ u → ab_R E_X2_remember_v5 P_X2_remember Q 15 [some (.inr (.inl (some 0))), none, none] [.inr (.inl (o.getD (0 : Int).toNat none))] (xz_cs u r q o h0 h1 h2 h3 h4 h5 s0 s1 z p f)) (p1 : (ab_r u ∧ ab_r 6) := by intros; (try unfold ab_r); omega) (p2 : (6 : Int) ≤ u → ((o).length < 1000000) := by intros; (try unfold ab_r); omega) (p3 : (6 : Int) ≤ u → (0 ≤ (0 : Int) ∧ (0 : Int) < (((o).length : Nat) : Int)) := by intros; (try unfold ab_r); omega) : ab_R E_X2_remember_v5 P_X2_remember Q 0 [some (.inr (.inl (some 0))), none, none] [] (xz_cs u r q o h0 h1 h2 h3 h4 h5 s0 s1 z p f) :=
  ab_R.steps [15, 18, 37, 38, 59, 68, 75] 9 (show ((ab_r u ∧ ab_r 6) ∧ ((u < (6 : Int) → ab_R E_X2_remember_v5 P_X2_remember Q 59 [some (.inr (.inl (some 0))), none, none] [] (xz_cs u r q o h0 h1 h2 h3 h4 h5 s0 s1 z p f)) ∧ ((6 : Int) ≤ u → (ab_rarr 11 (xz_cs u r q o h0 h1 h2 h3 h4 h5 s0 s1 z p f) (fun l_ => (0 ≤ (0 : Int) ∧ (0 : Int) < (((l_).length : Nat) : Int)) ∧ ab_R E_X2_remember_v5 P_X2_remember Q 15 [some (.inr (.inl (some 0))), none, none] [.inr (.inl (l_.getD (0 : Int).toNat none))] (xz_cs u r q o h0 h1 h2 h3 h4 h5 s0 s1 z p f)))))) from ⟨p1, ⟨fun h1 => (l1 h1), fun h2 => (ab_rarrI rfl (p2 h2) ⟨(p3 h2), (l2 h2)⟩)⟩⟩)
set_option maxRecDepth 100000 in
theorem b_X2_remember_v5_15 {Q : ab_Q} {y0 : Nat} {u : Int} {r : rw_T} {q : rw_T} {o : List (Option Nat)} {h0 : rw_T} {h1 : rw_T} {h2 : rw_T} {h3 : rw_T} {h4 : rw_T} {h5 : rw_T} {s0 : rw_T} {s1 : rw_T} {z : Int → Int} {p : pd_T} {f : Int → Int} (l1 : ab_R E_X2_remember_v5 P_X2_remember Q 18 [some (.inr (.inl (some 0))), some (.inr (.inl (some y0))), some (.inl 1)] [] (xz_cs u r q o h0 h1 h2 h3 h4 h5 s0 s1 z p f))  : ab_R E_X2_remember_v5 P_X2_remember Q 15 [some (.inr (.inl (some 0))), none, none] [.inr (.inl (some y0))] (xz_cs u r q o h0 h1 h2 h3 h4 h5 s0 s1 z p f) :=
  ab_R.steps [15, 18, 37, 38, 59, 68, 75] 5 (show ab_R E_X2_remember_v5 P_X2_remember Q 18 [some (.inr (.inl (some 0))), some (.inr (.inl (some y0))), some (.inl 1)] [] (xz_cs u r q o h0 h1 h2 h3 h4 h5 s0 s1 z p f) from l1)
set_option maxRecDepth 100000 in
theorem b_X2_remember_v5_18 {Q : ab_Q} {w1 : Nat} {i : Int} {u : Int} {r : rw_T} {q : rw_T} {o : List (Option Nat)} {h0 : rw_T} {h1 : rw_T} {h2 : rw_T} {h3 : rw_T} {h4 : rw_T} {h5 : rw_T} {s0 : rw_T} {s1 : rw_T} {z : Int → Int} {p : pd_T} {f : Int → Int} (l1 : (6 : Int) ≤ i → ab_R E_X2_remember_v5 P_X2_remember Q 59 [some (.inr (.inl (some 0))), none, none] [] (xz_cs 5 r q ((o.set (5 : Int).toNat (some w1))) h0 h1 h2 h3 h4 h5 s0 s1 z p f)) (l2 : (6 : Int) ≤ i → (∃ fs_, ((xz_cs 5 r q o h0 h1 h2 h3 h4 h5 s0 s1 z p f))[w1]? = some (.inl (1, fs_)))) (l3 : i < (6 : Int) → ab_R E_X2_remember_v5 P_X2_remember Q 37 [some (.inr (.inl (some 0))), some (.inr (.inl (some w1))), some (.inl i)] [.inr (.inl (o.getD i.toNat none)), .inl (i - 1), .inr (.inl (some 11))] (xz_cs u r q o h0 h1 h2 h3 h4 h5 s0 s1 z p f)) (p1 : (ab_r i ∧ ab_r 6) := by intros; (try unfold ab_r); omega) (p2 : (6 : Int) ≤ i → ((o).length < 1000000) := by intros; (try unfold ab_r); omega) (p3 : (6 : Int) ≤ i → (0 ≤ (5 : Int) ∧ (5 : Int) < (((o).length : Nat) : Int)) := by intros; (try unfold ab_r); omega) (p4 : i < (6 : Int) → ((o).length < 1000000) := by intros; (try unfold ab_r); omega) (p5 : i < (6 : Int) → (0 ≤ i ∧ i < (((o).length : Nat) : Int)) := by intros; (try unfold ab_r); omega) : ab_R E_X2_remember_v5 P_X2_remember Q 18 [some (.inr (.inl (some 0))), some (.inr (.inl (some w1))), some (.inl i)] [] (xz_cs u r q o h0 h1 h2 h3 h4 h5 s0 s1 z p f) :=
  ab_R.steps [15, 18, 37, 38, 59, 68, 75] 13 (show ((ab_r i ∧ ab_r 6) ∧ (((6 : Int) ≤ i → (ab_rarr 11 (xz_cs 5 r q o h0 h1 h2 h3 h4 h5 s0 s1 z p f) (fun l_ => ab_obj 1 w1 (xz_cs 5 r q o h0 h1 h2 h3 h4 h5 s0 s1 z p f) ((0 ≤ (5 : Int) ∧ (5 : Int) < (((l_).length : Nat) : Int)) ∧ ab_R E_X2_remember_v5 P_X2_remember Q 59 [some (.inr (.inl (some 0))), some (.inr (.inl (some w1))), some (.inl i)] [] (xz_cs 5 r q ((l_.set (5 : Int).toNat (some w1))) h0 h1 h2 h3 h4 h5 s0 s1 z p f))))) ∧ (i < (6 : Int) → (ab_rarr 11 (xz_cs u r q o h0 h1 h2 h3 h4 h5 s0 s1 z p f) (fun l_ => (0 ≤ i ∧ i < (((l_).length : Nat) : Int)) ∧ ab_R E_X2_remember_v5 P_X2_remember Q 37 [some (.inr (.inl (some 0))), some (.inr (.inl (some w1))), some (.inl i)] [.inr (.inl (l_.getD i.toNat none)), .inl (i - 1), .inr (.inl (some 11))] (xz_cs u r q o h0 h1 h2 h3 h4 h5 s0 s1 z p f)))))) from ⟨p1, ⟨fun h1 => (ab_rarrI rfl (p2 h1) (ab_objI (l2 h1) ⟨(p3 h1), (ab_R.fg 1 rfl (ab_R.fg 2 rfl (l1 h1)))⟩)), fun h2 => (ab_rarrI rfl (p4 h2) ⟨(p5 h2), (l3 h2)⟩)⟩⟩)
set_option maxRecDepth 100000 in
theorem b_X2_remember_v5_37 {Q : ab_Q} {w1 : Nat} {i : Int} {y0 : Nat} {t1 : Int} {u : Int} {r : rw_T} {q : rw_T} {o : List (Option Nat)} {h0 : rw_T} {h1 : rw_T} {h2 : rw_T} {h3 : rw_T} {h4 : rw_T} {h5 : rw_T} {s0 : rw_T} {s1 : rw_T} {z : Int → Int} {p : pd_T} {f : Int → Int} (l1 : ab_R E_X2_remember_v5 P_X2_remember Q 38 [some (.inr (.inl (some 0))), some (.inr (.inl (some w1))), some (.inl i)] [] (xz_cs u r q ((o.set t1.toNat (some y0))) h0 h1 h2 h3 h4 h5 s0 s1 z p f)) (l2 : (∃ fs_, ((xz_cs u r q o h0 h1 h2 h3 h4 h5 s0 s1 z p f))[y0]? = some (.inl (1, fs_)))) (p1 : ((o).length < 1000000) := by intros; (try unfold ab_r); omega) (p2 : (0 ≤ t1 ∧ t1 < (((o).length : Nat) : Int)) := by intros; (try unfold ab_r); omega) : ab_R E_X2_remember_v5 P_X2_remember Q 37 [some (.inr (.inl (some 0))), some (.inr (.inl (some w1))), some (.inl i)] [.inr (.inl (some y0)), .inl t1, .inr (.inl (some 11))] (xz_cs u r q o h0 h1 h2 h3 h4 h5 s0 s1 z p f) :=
  ab_R.steps [15, 18, 37, 38, 59, 68, 75] 2 (show (ab_rarr 11 (xz_cs u r q o h0 h1 h2 h3 h4 h5 s0 s1 z p f) (fun l_ => ab_obj 1 y0 (xz_cs u r q o h0 h1 h2 h3 h4 h5 s0 s1 z p f) ((0 ≤ t1 ∧ t1 < (((l_).length : Nat) : Int)) ∧ ab_R E_X2_remember_v5 P_X2_remember Q 38 [some (.inr (.inl (some 0))), some (.inr (.inl (some w1))), some (.inl i)] [] (xz_cs u r q ((l_.set t1.toNat (some y0))) h0 h1 h2 h3 h4 h5 s0 s1 z p f)))) from (ab_rarrI rfl p1 (ab_objI l2 ⟨p2, l1⟩)))
set_option maxRecDepth 100000 in
theorem b_X2_remember_v5_38 {Q : ab_Q} {w1 : Nat} {i : Int} {u : Int} {r : rw_T} {q : rw_T} {o : List (Option Nat)} {h0 : rw_T} {h1 : rw_T} {h2 : rw_T} {h3 : rw_T} {h4 : rw_T} {h5 : rw_T} {s0 : rw_T} {s1 : rw_T} {z : Int → Int} {p : pd_T} {f : Int → Int} (l1 : ab_R E_X2_remember_v5 P_X2_remember Q 18 [some (.inr (.inl (some 0))), some (.inr (.inl (some w1))), some (.inl (i + 1))] [] (xz_cs u r q o h0 h1 h2 h3 h4 h5 s0 s1 z p f))  : ab_R E_X2_remember_v5 P_X2_remember Q 38 [some (.inr (.inl (some 0))), some (.inr (.inl (some w1))), some (.inl i)] [] (xz_cs u r q o h0 h1 h2 h3 h4 h5 s0 s1 z p f) :=
  ab_R.steps [15, 18, 37, 38, 59, 68, 75] 4 (show ab_R E_X2_remember_v5 P_X2_remember Q 18 [some (.inr (.inl (some 0))), some (.inr (.inl (some w1))), some (.inl (i + 1))] [] (xz_cs u r q o h0 h1 h2 h3 h4 h5 s0 s1 z p f) from l1)
set_option maxRecDepth 100000 in
theorem b_X2_remember_v5_59 {Q : ab_Q} {u : Int} {r : rw_T} {q : rw_T} {o : List (Option Nat)} {h0 : rw_T} {h1 : rw_T} {h2 : rw_T} {h3 : rw_T} {h4 : rw_T} {h5 : rw_T} {s0 : rw_T} {s1 : rw_T} {z : Int → Int} {p : pd_T} {f : Int → Int} (l1 : ab_R E_X2_remember_v5 P_X2_remember Q 68 [some (.inr (.inl (some 0))), none, none] [.inr (.inl (o.getD u.toNat none))] (xz_cs u r q o h0 h1 h2 h3 h4 h5 s0 s1 z p f)) (p1 : ((o).length < 1000000) := by intros; (try unfold ab_r); omega) (p2 : (0 ≤ u ∧ u < (((o).length : Nat) : Int)) := by intros; (try unfold ab_r); omega) : ab_R E_X2_remember_v5 P_X2_remember Q 59 [some (.inr (.inl (some 0))), none, none] [] (xz_cs u r q o h0 h1 h2 h3 h4 h5 s0 s1 z p f) :=
  ab_R.steps [15, 18, 37, 38, 59, 68, 75] 6 (show (ab_rarr 11 (xz_cs u r q o h0 h1 h2 h3 h4 h5 s0 s1 z p f) (fun l_ => (0 ≤ u ∧ u < (((l_).length : Nat) : Int)) ∧ ab_R E_X2_remember_v5 P_X2_remember Q 68 [some (.inr (.inl (some 0))), none, none] [.inr (.inl (l_.getD u.toNat none))] (xz_cs u r q o h0 h1 h2 h3 h4 h5 s0 s1 z p f))) from (ab_rarrI rfl p1 ⟨p2, l1⟩))
set_option maxRecDepth 100000 in
theorem b_X2_remember_v5_68 {Q : ab_Q} {u : Int} {r : rw_T} {q : rw_T} {o : List (Option Nat)} {h0 : rw_T} {h1 : rw_T} {h2 : rw_T} {h3 : rw_T} {h4 : rw_T} {h5 : rw_T} {s0 : rw_T} {s1 : rw_T} {z : Int → Int} {p : pd_T} {f : Int → Int} (l1 : sp_X1_copyFrom [.inr (.inl (some 0)), .inr (.inl (some 5))] (rw2_cs h5 r) (fun r_ k_ => ∃ (r' : rw_T), ∃ (q' : rw_T), r_ = none ∧ k_ = (rw2_cs r' q') ∧ ab_R E_X2_remember_v5 P_X2_remember Q 75 [some (.inr (.inl (some 0))), none, none] [] (xz_cs u q' q o h0 h1 h2 h3 h4 r' s0 s1 z p f)))  : ab_R E_X2_remember_v5 P_X2_remember Q 68 [some (.inr (.inl (some 0))), none, none] [.inr (.inl (some 37))] (xz_cs u r q o h0 h1 h2 h3 h4 h5 s0 s1 z p f) :=
  ab_R.steps [15, 18, 37, 38, 59, 68, 75] 4 (show ab_cl sp_X1_copyFrom [.inr (.inl (some 0)), .inr (.inl (some 5))] (rw2_cs h5 r) (fun r_ k_ => k_.length = 10 → ab_R E_X2_remember_v5 P_X2_remember Q 75 [some (.inr (.inl (some 0))), none, none] (ab_ret (r_.map (ab_reV [37, 38, 39, 40, 41, 1, 2, 3, 4, 5])) []) (ab_back [37, 38, 39, 40, 41, 1, 2, 3, 4, 5] [37, 38, 39, 40, 41, 1, 2, 3, 4, 5] k_ (xz_cs u r q o h0 h1 h2 h3 h4 h5 s0 s1 z p f))) from ⟨_, l1, fun r_ k_ hz _ => by obtain ⟨r', q', rfl, rfl, hR⟩ := hz; exact hR⟩)
set_option maxRecDepth 100000 in
theorem b_X2_remember_v5_75 {Q : ab_Q} {u : Int} {r : rw_T} {q : rw_T} {o : List (Option Nat)} {h0 : rw_T} {h1 : rw_T} {h2 : rw_T} {h3 : rw_T} {h4 : rw_T} {h5 : rw_T} {s0 : rw_T} {s1 : rw_T} {z : Int → Int} {p : pd_T} {f : Int → Int} (l1 : Q none (xz_cs ((u + 1)) r q o h0 h1 h2 h3 h4 h5 s0 s1 z p f))  : ab_R E_X2_remember_v5 P_X2_remember Q 75 [some (.inr (.inl (some 0))), none, none] [] (xz_cs u r q o h0 h1 h2 h3 h4 h5 s0 s1 z p f) :=
  ab_R.steps [15, 18, 37, 38, 59, 68, 75] 8 (show Q none (xz_cs ((u + 1)) r q o h0 h1 h2 h3 h4 h5 s0 s1 z p f) from l1)
theorem vc_X2_remember_v5 {av : List ab_V} {cs : List ab_C} {Q : ab_Q} (h : sp_X2_remember_v5 av cs Q) : (ab_lv0 av).length ≤ 3 ∧ ab_R E_X2_remember_v5 P_X2_remember Q 0 (ab_ent av 3) [] cs := by
  obtain ⟨u, r, q, o, h, s0, s1, z, p, f, x, l, d, rfl, rfl, hx, hH, hk, hQ⟩ := h
  refine ⟨Nat.le_of_ble_eq_true rfl, ?_⟩
  show ab_R E_X2_remember_v5 P_X2_remember Q 0 [some (.inr (.inl (some 0))), none, none] [] (xz_cs u r q o (h 0) (h 1) (h 2) (h 3) (h 4) (h 5) s0 s1 z p f)
  have hH' := hH
  obtain ⟨hu, hl6, hd, ho, hh⟩ := hH'
  subst ho
  have main : ∀ (u1 : Int) (o1 : List (Option Nat)), o1.length = 6 → 0 ≤ u1 → u1 < 6 → o1.getD u1.toNat none = some (12 + 5 * 5) → (∀ r' : rw_T, mx_st r' x → mx_H (u1 + 1) o1 (mx_up h 5 r') (mh_push l x)) →
      ab_R E_X2_remember_v5 P_X2_remember Q 59 [some (.inr (.inl (some 0))), none, none] [] (xz_cs u1 r q o1 (h 0) (h 1) (h 2) (h 3) (h 4) (h 5) s0 s1 z p f) := by
    intro u1 o1 g1 g2 g3 g4 g5
    refine b_X2_remember_v5_59 ?_
    rw [g4]
    exact b_X2_remember_v5_68 ⟨h 5, r, x.1, rfl, rfl, hx.1, hx.2.1, fun r' q1 q2 => ⟨r', r, rfl, rfl, b_X2_remember_v5_75 (hQ (u1 + 1) o1 (mx_up h 5 r') (g5 r' ⟨q1, hx.2.1, q2.trans hx.2.2⟩))⟩⟩
  have hol := mx_o_len d
  refine b_X2_remember_v5_0 (fun h6 => ?_) (fun h6 => ?_)
  · refine main u (mx_o d) hol (by omega) h6 ?_ (fun r' hr => ?_)
    · rw [mx_o_get d hd u.toNat (by omega), show (u.toNat + d) % 6 = 5 by omega]
    · have := mx_H_push hH (by omega) hr
      rw [hk] at this
      exact this
  · have hl : l.length = 6 := by omega
    rw [show (0 : Int).toNat = 0 from rfl, mx_o_get d hd 0 (by omega)]
    refine b_X2_remember_v5_15 ?_
    have hm0 : (0 + d) % 6 < 6 := Nat.mod_lt _ (by decide)
    have loop : ∀ (m i : Nat), i + m = 6 → 1 ≤ i → ab_R E_X2_remember_v5 P_X2_remember Q 18 [some (.inr (.inl (some 0))), some (.inr (.inl (some (12 + 5 * ((0 + d) % 6))))), some (.inl (i : Int))] [] (xz_cs u r q (mx_oo d i) (h 0) (h 1) (h 2) (h 3) (h 4) (h 5) s0 s1 z p f) := by
      intro m
      induction m with
      | zero =>
        intro i g1 g2
        have hi : i = 6 := by omega
        subst hi
        have hlen := mx_oo_len d 6
        refine b_X2_remember_v5_18 (fun _ => ?_) (fun _ => mx_cell _ _ _ _ _ _ _ _ _ _ _ _ _ _ _ _ hm0) (fun h => by omega)
        rw [show (5 : Int).toNat = 5 from rfl, mx_oo_6 d hd]
        refine main 5 (mx_o ((d + 1) % 6)) (mx_o_len _) (by omega) (by omega) ?_ (fun r' hr => ?_)
        · rw [show (5 : Int).toNat = 5 from rfl, mx_o_get _ (Nat.mod_lt _ (by decide)) 5 (by omega), show (5 + (d + 1) % 6) % 6 = 5 by omega]
        · have := mx_H_turn hH hl hr
          rw [hk] at this
          exact this
      | succ m ih =>
        intro i g1 g2
        have hlen := mx_oo_len d i
        have hmi : (i + d) % 6 < 6 := Nat.mod_lt _ (by decide)
        refine b_X2_remember_v5_18 (fun h => by omega) (fun h => by omega) (fun _ => ?_)
        rw [Int.toNat_natCast, mx_oo_get d hd i (by omega) g2]
        refine b_X2_remember_v5_37 ?_ (mx_cell _ _ _ _ _ _ _ _ _ _ _ _ _ _ _ _ hmi)
        rw [show ((i : Int) - 1).toNat = i - 1 by omega, mx_oo_set d hd i (by omega) g2]
        refine b_X2_remember_v5_38 ?_
        exact ih (i + 1) (by omega) (by omega)
    have := loop 5 1 rfl (by omega)
    rw [mx_oo_1 d hd] at this
    exact this
theorem mt_X2_remember_v5 (l : Launch) : ab_MT l mi_X2_remember sp_X2_remember_v5 := ab_MT.of (own := "RootChunks") (E := E_X2_remember_v5) (P := P_X2_remember) (M := M_X2_remember) (nL := 3) (ty := 9) (by decide) rfl rfl tk_X2 pk_X2_remember ck_X2_remember_v5 (ab_CT'.cons (mt_X1_copyFrom l) ab_CT'.nil) (fun av cs Q h => vc_X2_remember_v5 h)
theorem mt_X2_remember (l : Launch) : ab_MT l mi_X2_remember sp_X2_remember := by
  intro G ad av cs Q sz h
  obtain ⟨u, r, q, o, h, s0, s1, z, p, f, x, hs, h1, h2, h3, ⟨d, h4⟩, h5⟩ := h
  have h6 : (hs.length + d) % 6 < 6 := Nat.mod_lt _ (by decide)
  have h7 : sp_X2_rem ((hs.length + d) % 6) av cs Q := ⟨u, r, q, o, h, s0, s1, z, p, f, x, hs, d, h1, h2, h3, h4, rfl, h5⟩
  generalize (hs.length + d) % 6 = k at h6 h7
  match k, h6, h7 with
  | 0, _, h7 => exact mt_X2_remember_v0 l G ad av cs Q sz h7
  | 1, _, h7 => exact mt_X2_remember_v1 l G ad av cs Q sz h7
  | 2, _, h7 => exact mt_X2_remember_v2 l G ad av cs Q sz h7
  | 3, _, h7 => exact mt_X2_remember_v3 l G ad av cs Q sz h7
  | 4, _, h7 => exact mt_X2_remember_v4 l G ad av cs Q sz h7
  | 5, _, h7 => exact mt_X2_remember_v5 l G ad av cs Q sz h7
  | k + 6, h6, _ => omega

