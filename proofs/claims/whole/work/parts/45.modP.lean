/-! WHAT IS PUT INTO THE PAD: the bytes of the number, the lowest first, up to one that is 0 -/
def mb_l : Nat → Nat → List Int
  | 0, _ => []
  | f + 1, r => if r % 256 = 0 then [] else ((r % 256 : Nat) : Int) :: mb_l f (r / 256)
def mb_N (x : Int64) : Nat := x.toUInt64.toNat
def mb_w (x : Int64) : List Int := mb_l 8 (mb_N x)
abbrev mb_ch (c : Int) : Prop := 33 ≤ c ∧ c ≤ 126
def mb_all (l : List Int) : Bool := l.all (fun c => decide (mb_ch c))

theorem mb_and (y : Int64) : mb_N (y &&& 255) = mb_N y % 256 := by
  show (y.toUInt64 &&& (255 : Int64).toUInt64).toNat = _
  rw [UInt64.toNat_and]
  exact Nat.and_two_pow_sub_one_eq_mod (mb_N y) 8
theorem mb_lo (y : Int64) : (y &&& 255).toInt32.toInt = ((mb_N y % 256 : Nat) : Int) := by
  have h := mb_and y
  have hlt : mb_N y % 256 < 256 := Nat.mod_lt _ (by decide)
  rw [← h] at hlt ⊢
  generalize y &&& 255 = z at *
  have hz : z.toBitVec.toNat < 256 := hlt
  have hi : z.toInt = (mb_N z : Nat) := by
    show z.toBitVec.toInt = ((z.toBitVec.toNat : Nat) : Int)
    exact BitVec.toInt_eq_toNat_of_lt (by omega)
  rw [Int64.toInt_toInt32, hi]
  exact Int.bmod_eq_of_le (by omega) (by omega)
theorem mb_zero (y : Int64) : (lg_cmp y (Int64.ofNat 0)).toInt = 0 ↔ mb_N y = 0 := by
  rw [show ((lg_cmp y (Int64.ofNat 0)).toInt = 0) ↔ lg_cmp y (Int64.ofNat 0) = 0 from ⟨fun h => Int32.toInt_inj.mp h, fun h => by rw [h]; rfl⟩, lg_cmp_eq]
  constructor
  · rintro rfl; rfl
  · intro h
    have h2 : y.toBitVec = (Int64.ofNat 0).toBitVec := BitVec.eq_of_toNat_eq h
    exact Int64.toBitVec_inj.mp h2
theorem mb_ri (x : Int32) : ab_r x.toInt := by
  have h1 := Int32.le_toInt x
  have h2 := Int32.toInt_lt x
  unfold ab_r; omega
theorem mb_cr (a b : Int64) : ab_r (lg_cmp a b).toInt := mb_ri _
theorem mb_sh {y : Int64} {k : Int} (h0 : 0 ≤ k) (h1 : k < 8) : mb_N ((y.toUInt64 >>> ((Int32.ofInt (8 * k)).toInt64.toUInt64 &&& Int64.toUInt64 63)).toInt64) = mb_N y / 256 ^ k.toNat := by
  unfold mb_N
  rw [UInt64.toUInt64_toInt64, UInt64.toNat_shiftRight, Nat.shiftRight_eq_div_pow]
  have hc : k = 0 ∨ k = 1 ∨ k = 2 ∨ k = 3 ∨ k = 4 ∨ k = 5 ∨ k = 6 ∨ k = 7 := by omega
  rcases hc with rfl | rfl | rfl | rfl | rfl | rfl | rfl | rfl <;> congr 1
theorem mb_sh8 (y : Int64) : mb_N ((y.toUInt64 >>> ((Int32.ofInt 8).toInt64.toUInt64 &&& Int64.toUInt64 63)).toInt64) = mb_N y / 256 := by
  have := mb_sh (y := y) (k := 1) (by decide) (by decide)
  rw [show (8 : Int) * 1 = 8 from rfl] at this
  rw [this]
  rfl
theorem mb_l_at : ∀ (f r i : Nat) (b : Int), (mb_l f r)[i]? = some b → b = ((r / 256 ^ i % 256 : Nat) : Int)
  | 0, r, i, b, h => by unfold mb_l at h; simp at h
  | f + 1, r, i, b, h => by
    unfold mb_l at h
    split at h
    · simp at h
    · match i with
      | 0 =>
        have : b = ((r % 256 : Nat) : Int) := by simpa using h.symm
        rw [this, Nat.pow_zero, Nat.div_one]
      | i + 1 =>
        rw [List.getElem?_cons_succ] at h
        have := mb_l_at f (r / 256) i b h
        rw [this, Nat.div_div_eq_div_mul, Nat.pow_succ, Nat.mul_comm 256]
theorem mb_l_len : ∀ (f r : Nat), (mb_l f r).length ≤ f
  | 0, r => by unfold mb_l; simp
  | f + 1, r => by
    unfold mb_l
    split
    · simp
    · rw [List.length_cons]; have := mb_l_len f (r / 256); omega
theorem mb_all_app (a b : List Int) : mb_all (a ++ b) = (mb_all a && mb_all b) := List.all_append
theorem mb_all_one (c : Int) : mb_all [c] = decide (mb_ch c) := by unfold mb_all; simp
def mf_bad (S : mS_T) (x : Int64) : Bool := (mb_w x).length == 0 || (!mb_all (mb_w x)) || !(mb_N x / 256 ^ (mb_w x).length == 0)
def mf_put (S : mS_T) (x : Int64) : Int × mS_T :=
  if mf_bad S x = true then (-2, S) else if (S.2.2.2.length : Int) + ((mb_w x).length : Nat) ≤ 80 then ((S.2.2.2.length : Int) + ((mb_w x).length : Nat), (S.1, S.2.1, S.2.2.1, S.2.2.2 ++ (mb_w x).reverse)) else (-4, S)
def mh_inL (F : mS_T → Int64 → Int × mS_T) : ab_Sp := fun av cs Q => ∃ (s : Int → Int) (z : mc_T) (g : mg_T) (S : mS_T) (x : Int64), av = [.inr (.inl (some 0)), .inr (.inr x)] ∧ cs = md_cs s z g ∧ mh_inv s g S ∧ mh_out Q (F S x)
theorem mb_bad_len {S : mS_T} {x : Int64} (h : (mb_w x).length = 0) : mf_bad S x = true := by unfold mf_bad; rw [h]; rfl
theorem mb_bad_all {S : mS_T} {x : Int64} (h : mb_all (mb_w x) = false) : mf_bad S x = true := by unfold mf_bad; rw [h]; simp
theorem mb_bad_rest {S : mS_T} {x : Int64} (h : ¬ mb_N x / 256 ^ (mb_w x).length = 0) : mf_bad S x = true := by unfold mf_bad; simp [h]
theorem mb_bad_no {S : mS_T} {x : Int64} (h1 : ¬ (mb_w x).length = 0) (h2 : ¬ mb_all (mb_w x) = false) (h3 : mb_N x / 256 ^ (mb_w x).length = 0) : ¬ mf_bad S x = true := by unfold mf_bad; simp [h1, h2, h3]
theorem mb_P {S : mS_T} {x : Int64} {pd : Int → Int} {n : Int} (h : ¬ mf_bad S x = true) (hn : n = (S.2.2.2.length : Int) + ((mb_w x).length : Nat)) (h80 : n ≤ 80) (hp : ∀ c ∈ S.2.2.2, 33 ≤ c ∧ c ≤ 126) (ha : mq_al pd (S.2.2.2 ++ (mb_w x).reverse)) : mh_P pd n (S.2.2.2 ++ (mb_w x).reverse) := by
  have hall : mb_all (mb_w x) = true := by
    cases hb : mb_all (mb_w x) with
    | true => rfl
    | false => exact absurd (mb_bad_all hb) h
  have hl : (S.2.2.2 ++ (mb_w x).reverse).length = S.2.2.2.length + (mb_w x).length := by rw [List.length_append, List.length_reverse]
  refine ⟨ha, by rw [hl]; omega, by rw [hl]; omega, fun c hc => ?_⟩
  rcases List.mem_append.mp hc with hc | hc
  · exact hp c hc
  · unfold mb_all at hall
    exact of_decide_eq_true (List.all_eq_true.mp hall c (List.mem_reverse.mp hc))
/-- the bytes in the order in which they are put -/
theorem mb_rev_at {x : Int64} {k : Nat} (hk : k < (mb_w x).length) : (mb_w x).reverse.take (k + 1) = (mb_w x).reverse.take k ++ [((mb_N x / 256 ^ ((mb_w x).length - 1 - k) % 256 : Nat) : Int)] := by
  have hl : k < (mb_w x).reverse.length := by rw [List.length_reverse]; exact hk
  rw [List.take_succ]
  congr 1
  rw [List.getElem?_reverse hk]
  have hj : (mb_w x).length - 1 - k < (mb_w x).length := by omega
  have he := List.getElem?_eq_getElem hj
  rw [he, ← mb_l_at 8 (mb_N x) _ _ he]
  rfl
def sp_X3_put : ab_Sp := mh_inL mf_put
-- ===== RootChunksModel.put
def P_X3_put : List ab_I := [(0, .aload_n 0, 1, []), (1, .iconst 0, 2, []), (2, .putfield 47, 5, []), (5, .iconst 0, 6, []), (6, .istore_n 3, 7, []), (7, .lload_n 1, 8, []), (8, .lstore 4, 10, []), (10, .iconst 1, 11, []), (11, .istore 6, 13, []), (13, .iload_n 3, 14, []), (14, .bipush 8, 16, []), (16, .if_icmp .ge 56, 19, [((0 : Int), 72)]), (19, .lload 4, 21, []), (21, .ldc2_w 166, 24, []), (24, .land, 25, []), (25, .lconst 0, 26, []), (26, .lcmp, 27, []), (27, .ifCond .eq 45, 30, [((0 : Int), 72)]), (30, .iload 6, 32, []), (32, .ifCond .eq 24, 35, [((0 : Int), 56)]), (35, .lload 4, 37, []), (37, .ldc2_w 166, 40, []), (40, .land, 41, []), (41, .l2i, 42, []), (42, .bipush 33, 44, []), (44, .bipush 126, 46, []), (46, .invokestatic 91, 49, []), (49, .ifCond .eq 7, 52, [((0 : Int), 56)]), (52, .iconst 1, 53, []), (53, .goto 4, 56, [((0 : Int), 57)]), (56, .iconst 0, 57, []), (57, .istore 6, 59, []), (59, .lload 4, 61, []), (61, .bipush 8, 63, []), (63, .lushr, 64, []), (64, .lstore 4, 66, []), (66, .iinc 3 1, 69, []), (69, .goto (-56), 72, [((0 : Int), 13)]), (72, .iload_n 3, 73, []), (73, .ifCond .eq 15, 76, [((0 : Int), 88)]), (76, .iload 6, 78, []), (78, .ifCond .eq 10, 81, [((0 : Int), 88)]), (81, .lload 4, 83, []), (83, .lconst 0, 84, []), (84, .lcmp, 85, []), (85, .ifCond .eq 6, 88, [((0 : Int), 91)]), (88, .bipush (-2), 90, []), (90, .ireturn, 91, []), (91, .aload_n 0, 92, []), (92, .getfield 156, 95, []), (95, .iload_n 3, 96, []), (96, .iadd, 97, []), (97, .bipush 80, 99, []), (99, .if_icmp .le 6, 102, [((0 : Int), 105)]), (102, .bipush (-4), 104, []), (104, .ireturn, 105, []), (105, .iconst 0, 106, []), (106, .istore 7, 108, []), (108, .iload 7, 110, []), (110, .iload_n 3, 111, []), (111, .if_icmp .ge 37, 114, [((0 : Int), 148)]), (114, .aload_n 0, 115, []), (115, .getfield 26, 118, []), (118, .aload_n 0, 119, []), (119, .getfield 156, 122, []), (122, .iload 7, 124, []), (124, .iadd, 125, []), (125, .lload_n 1, 126, []), (126, .bipush 8, 128, []), (128, .iload_n 3, 129, []), (129, .iconst 1, 130, []), (130, .isub, 131, []), (131, .iload 7, 133, []), (133, .isub, 134, []), (134, .imul, 135, []), (135, .lushr, 136, []), (136, .ldc2_w 166, 139, []), (139, .land, 140, []), (140, .l2i, 141, []), (141, .iastore, 142, []), (142, .iinc 7 1, 145, []), (145, .goto (-37), 148, [((0 : Int), 108)]), (148, .aload_n 0, 149, []), (149, .dup, 150, []), (150, .getfield 156, 153, []), (153, .iload_n 3, 154, []), (154, .iadd, 155, []), (155, .putfield 156, 158, []), (158, .aload_n 0, 159, []), (159, .getfield 156, 162, []), (162, .ireturn, 163, [])]
def E_X3_put : ab_E := (T_X3, [(46, (3, 99, [], 0, sp_X3_in))], [], 0)
def M_X3_put : List (Nat × ab_MI) := [(46, mi_X3_in)]
def mi_X3_put : ab_MI := (yX3_put, cX3_put, 8, ab_rty 0, 2, 92)
theorem pk_X3_put : P_X3_put.all (ab_okI cX3_put) = true := by decide +kernel
theorem ck_X3_put : P_X3_put.all (ab_okC1 "RootChunksModel" M_X3_put E_X3_put (2, 92)) = true := by decide +kernel
set_option maxRecDepth 100000 in
theorem b_X3_put_0 {Q : ab_Q} {x : Int64} {s_ : Int → Int} {z_ : mc_T} {g_th : Int} {g_as : Int → Int} {g_un : Int → Int} {g_um : Int} {g_sl : Int → Int} {g_hs : Int → Int} {g_pd : Int → Int} {g_ln : Int} {g_at : Int} {g_iw : Int} {g_os : Int → Int} {g_om : Int} (l1 : ab_R E_X3_put P_X3_put Q 13 [some (.inr (.inl (some 0))), some (.inr (.inr x)), none, some (.inl 0), some (.inr (.inr x)), none, some (.inl 1), none] [] (md_cs s_ z_ (0, g_as, g_un, g_um, g_sl, g_hs, g_pd, g_ln, g_at, g_iw, g_os, g_om)))  : ab_R E_X3_put P_X3_put Q 0 [some (.inr (.inl (some 0))), some (.inr (.inr x)), none, none, none, none, none, none] [] (md_cs s_ z_ (g_th, g_as, g_un, g_um, g_sl, g_hs, g_pd, g_ln, g_at, g_iw, g_os, g_om)) :=
  ab_R.steps [13, 49, 108] 11 (show ab_R E_X3_put P_X3_put Q 13 [some (.inr (.inl (some 0))), some (.inr (.inr x)), none, some (.inl 0), some (.inr (.inr x)), none, some (.inl 1), none] [] (md_cs s_ z_ (0, g_as, g_un, g_um, g_sl, g_hs, g_pd, g_ln, g_at, g_iw, g_os, g_om)) from l1)
set_option maxRecDepth 100000 in
theorem b_X3_put_13 {Q : ab_Q} {x : Int64} {n : Int} {y : Int64} {al : Int} {s_ : Int → Int} {z_ : mc_T} {g_th : Int} {g_as : Int → Int} {g_un : Int → Int} {g_um : Int} {g_sl : Int → Int} {g_hs : Int → Int} {g_pd : Int → Int} {g_ln : Int} {g_at : Int} {g_iw : Int} {g_os : Int → Int} {g_om : Int} (l1 : (8 : Int) ≤ n → n = (0 : Int) → Q (some (.inl (-2))) (md_cs s_ z_ (g_th, g_as, g_un, g_um, g_sl, g_hs, g_pd, g_ln, g_at, g_iw, g_os, g_om))) (l2 : (8 : Int) ≤ n → ¬ n = (0 : Int) → al = (0 : Int) → Q (some (.inl (-2))) (md_cs s_ z_ (g_th, g_as, g_un, g_um, g_sl, g_hs, g_pd, g_ln, g_at, g_iw, g_os, g_om))) (l3 : (8 : Int) ≤ n → ¬ n = (0 : Int) → ¬ al = (0 : Int) → ((lg_cmp y (Int64.ofNat 0)).toInt) = (0 : Int) → (g_ln + n) ≤ (80 : Int) → ab_R E_X3_put P_X3_put Q 108 [some (.inr (.inl (some 0))), some (.inr (.inr x)), none, some (.inl n), some (.inr (.inr y)), none, some (.inl al), some (.inl 0)] [] (md_cs s_ z_ (g_th, g_as, g_un, g_um, g_sl, g_hs, g_pd, g_ln, g_at, g_iw, g_os, g_om))) (l4 : (8 : Int) ≤ n → ¬ n = (0 : Int) → ¬ al = (0 : Int) → ((lg_cmp y (Int64.ofNat 0)).toInt) = (0 : Int) → (80 : Int) < (g_ln + n) → Q (some (.inl (-4))) (md_cs s_ z_ (g_th, g_as, g_un, g_um, g_sl, g_hs, g_pd, g_ln, g_at, g_iw, g_os, g_om))) (l5 : (8 : Int) ≤ n → ¬ n = (0 : Int) → ¬ al = (0 : Int) → ¬ ((lg_cmp y (Int64.ofNat 0)).toInt) = (0 : Int) → Q (some (.inl (-2))) (md_cs s_ z_ (g_th, g_as, g_un, g_um, g_sl, g_hs, g_pd, g_ln, g_at, g_iw, g_os, g_om))) (l6 : n < (8 : Int) → ((lg_cmp (y &&& (255 : Int64)) (Int64.ofNat 0)).toInt) = (0 : Int) → n = (0 : Int) → Q (some (.inl (-2))) (md_cs s_ z_ (g_th, g_as, g_un, g_um, g_sl, g_hs, g_pd, g_ln, g_at, g_iw, g_os, g_om))) (l7 : n < (8 : Int) → ((lg_cmp (y &&& (255 : Int64)) (Int64.ofNat 0)).toInt) = (0 : Int) → ¬ n = (0 : Int) → al = (0 : Int) → Q (some (.inl (-2))) (md_cs s_ z_ (g_th, g_as, g_un, g_um, g_sl, g_hs, g_pd, g_ln, g_at, g_iw, g_os, g_om))) (l8 : n < (8 : Int) → ((lg_cmp (y &&& (255 : Int64)) (Int64.ofNat 0)).toInt) = (0 : Int) → ¬ n = (0 : Int) → ¬ al = (0 : Int) → ((lg_cmp y (Int64.ofNat 0)).toInt) = (0 : Int) → (g_ln + n) ≤ (80 : Int) → ab_R E_X3_put P_X3_put Q 108 [some (.inr (.inl (some 0))), some (.inr (.inr x)), none, some (.inl n), some (.inr (.inr y)), none, some (.inl al), some (.inl 0)] [] (md_cs s_ z_ (g_th, g_as, g_un, g_um, g_sl, g_hs, g_pd, g_ln, g_at, g_iw, g_os, g_om))) (l9 : n < (8 : Int) → ((lg_cmp (y &&& (255 : Int64)) (Int64.ofNat 0)).toInt) = (0 : Int) → ¬ n = (0 : Int) → ¬ al = (0 : Int) → ((lg_cmp y (Int64.ofNat 0)).toInt) = (0 : Int) → (80 : Int) < (g_ln + n) → Q (some (.inl (-4))) (md_cs s_ z_ (g_th, g_as, g_un, g_um, g_sl, g_hs, g_pd, g_ln, g_at, g_iw, g_os, g_om))) (l10 : n < (8 : Int) → ((lg_cmp (y &&& (255 : Int64)) (Int64.ofNat 0)).toInt) = (0 : Int) → ¬ n = (0 : Int) → ¬ al = (0 : Int) → ¬ ((lg_cmp y (Int64.ofNat 0)).toInt) = (0 : Int) → Q (some (.inl (-2))) (md_cs s_ z_ (g_th, g_as, g_un, g_um, g_sl, g_hs, g_pd, g_ln, g_at, g_iw, g_os, g_om))) (l11 : n < (8 : Int) → ¬ ((lg_cmp (y &&& (255 : Int64)) (Int64.ofNat 0)).toInt) = (0 : Int) → al = (0 : Int) → ab_R E_X3_put P_X3_put Q 13 [some (.inr (.inl (some 0))), some (.inr (.inr x)), none, some (.inl (n + 1)), some (.inr (.inr ((y.toUInt64 >>> ((Int32.ofInt 8).toInt64.toUInt64 &&& Int64.toUInt64 63)).toInt64))), none, some (.inl 0), none] [] (md_cs s_ z_ (g_th, g_as, g_un, g_um, g_sl, g_hs, g_pd, g_ln, g_at, g_iw, g_os, g_om))) (l12 : n < (8 : Int) → ¬ ((lg_cmp (y &&& (255 : Int64)) (Int64.ofNat 0)).toInt) = (0 : Int) → ¬ al = (0 : Int) → sp_X3_in [.inl ((y &&& (255 : Int64)).toInt32.toInt), .inl 33, .inl 126] (md_cs s_ z_ (g_th, g_as, g_un, g_um, g_sl, g_hs, g_pd, g_ln, g_at, g_iw, g_os, g_om)) (fun r_ k_ => ∃ (x_ : Int), r_ = some (.inl x_) ∧ k_ = (md_cs s_ z_ (g_th, g_as, g_un, g_um, g_sl, g_hs, g_pd, g_ln, g_at, g_iw, g_os, g_om)) ∧ ab_R E_X3_put P_X3_put Q 49 [some (.inr (.inl (some 0))), some (.inr (.inr x)), none, some (.inl n), some (.inr (.inr y)), none, some (.inl al), none] [.inl x_] (md_cs s_ z_ (g_th, g_as, g_un, g_um, g_sl, g_hs, g_pd, g_ln, g_at, g_iw, g_os, g_om)))) (p1 : (ab_r n ∧ ab_r 8) := by intros; (try unfold ab_r); omega) (p2 : (8 : Int) ≤ n → ab_r n := by intros; (try unfold ab_r); omega) (p3 : (8 : Int) ≤ n → ¬ n = (0 : Int) → ab_r al := by intros; (try unfold ab_r); omega) (p4 : (8 : Int) ≤ n → ¬ n = (0 : Int) → ¬ al = (0 : Int) → ab_r ((lg_cmp y (Int64.ofNat 0)).toInt) := by intros; (try unfold ab_r); omega) (p5 : (8 : Int) ≤ n → ¬ n = (0 : Int) → ¬ al = (0 : Int) → ((lg_cmp y (Int64.ofNat 0)).toInt) = (0 : Int) → (ab_r (g_ln + n) ∧ ab_r 80) := by intros; (try unfold ab_r); omega) (p6 : n < (8 : Int) → ab_r ((lg_cmp (y &&& (255 : Int64)) (Int64.ofNat 0)).toInt) := by intros; (try unfold ab_r); omega) (p7 : n < (8 : Int) → ((lg_cmp (y &&& (255 : Int64)) (Int64.ofNat 0)).toInt) = (0 : Int) → ab_r n := by intros; (try unfold ab_r); omega) (p8 : n < (8 : Int) → ((lg_cmp (y &&& (255 : Int64)) (Int64.ofNat 0)).toInt) = (0 : Int) → ¬ n = (0 : Int) → ab_r al := by intros; (try unfold ab_r); omega) (p9 : n < (8 : Int) → ((lg_cmp (y &&& (255 : Int64)) (Int64.ofNat 0)).toInt) = (0 : Int) → ¬ n = (0 : Int) → ¬ al = (0 : Int) → ab_r ((lg_cmp y (Int64.ofNat 0)).toInt) := by intros; (try unfold ab_r); omega) (p10 : n < (8 : Int) → ((lg_cmp (y &&& (255 : Int64)) (Int64.ofNat 0)).toInt) = (0 : Int) → ¬ n = (0 : Int) → ¬ al = (0 : Int) → ((lg_cmp y (Int64.ofNat 0)).toInt) = (0 : Int) → (ab_r (g_ln + n) ∧ ab_r 80) := by intros; (try unfold ab_r); omega) (p11 : n < (8 : Int) → ¬ ((lg_cmp (y &&& (255 : Int64)) (Int64.ofNat 0)).toInt) = (0 : Int) → ab_r al := by intros; (try unfold ab_r); omega) : ab_R E_X3_put P_X3_put Q 13 [some (.inr (.inl (some 0))), some (.inr (.inr x)), none, some (.inl n), some (.inr (.inr y)), none, some (.inl al), none] [] (md_cs s_ z_ (g_th, g_as, g_un, g_um, g_sl, g_hs, g_pd, g_ln, g_at, g_iw, g_os, g_om)) :=
  ab_R.steps [13, 49, 108] 27 (show ((ab_r n ∧ ab_r 8) ∧ (((8 : Int) ≤ n → (ab_r n ∧ ((n = (0 : Int) → Q (some (.inl (-2))) (md_cs s_ z_ (g_th, g_as, g_un, g_um, g_sl, g_hs, g_pd, g_ln, g_at, g_iw, g_os, g_om))) ∧ (¬ n = (0 : Int) → (ab_r al ∧ ((al = (0 : Int) → Q (some (.inl (-2))) (md_cs s_ z_ (g_th, g_as, g_un, g_um, g_sl, g_hs, g_pd, g_ln, g_at, g_iw, g_os, g_om))) ∧ (¬ al = (0 : Int) → (ab_r ((lg_cmp y (Int64.ofNat 0)).toInt) ∧ ((((lg_cmp y (Int64.ofNat 0)).toInt) = (0 : Int) → ((ab_r (g_ln + n) ∧ ab_r 80) ∧ (((g_ln + n) ≤ (80 : Int) → ab_R E_X3_put P_X3_put Q 108 [some (.inr (.inl (some 0))), some (.inr (.inr x)), none, some (.inl n), some (.inr (.inr y)), none, some (.inl al), some (.inl 0)] [] (md_cs s_ z_ (g_th, g_as, g_un, g_um, g_sl, g_hs, g_pd, g_ln, g_at, g_iw, g_os, g_om))) ∧ ((80 : Int) < (g_ln + n) → Q (some (.inl (-4))) (md_cs s_ z_ (g_th, g_as, g_un, g_um, g_sl, g_hs, g_pd, g_ln, g_at, g_iw, g_os, g_om)))))) ∧ (¬ ((lg_cmp y (Int64.ofNat 0)).toInt) = (0 : Int) → Q (some (.inl (-2))) (md_cs s_ z_ (g_th, g_as, g_un, g_um, g_sl, g_hs, g_pd, g_ln, g_at, g_iw, g_os, g_om)))))))))))) ∧ (n < (8 : Int) → (ab_r ((lg_cmp (y &&& (255 : Int64)) (Int64.ofNat 0)).toInt) ∧ ((((lg_cmp (y &&& (255 : Int64)) (Int64.ofNat 0)).toInt) = (0 : Int) → (ab_r n ∧ ((n = (0 : Int) → Q (some (.inl (-2))) (md_cs s_ z_ (g_th, g_as, g_un, g_um, g_sl, g_hs, g_pd, g_ln, g_at, g_iw, g_os, g_om))) ∧ (¬ n = (0 : Int) → (ab_r al ∧ ((al = (0 : Int) → Q (some (.inl (-2))) (md_cs s_ z_ (g_th, g_as, g_un, g_um, g_sl, g_hs, g_pd, g_ln, g_at, g_iw, g_os, g_om))) ∧ (¬ al = (0 : Int) → (ab_r ((lg_cmp y (Int64.ofNat 0)).toInt) ∧ ((((lg_cmp y (Int64.ofNat 0)).toInt) = (0 : Int) → ((ab_r (g_ln + n) ∧ ab_r 80) ∧ (((g_ln + n) ≤ (80 : Int) → ab_R E_X3_put P_X3_put Q 108 [some (.inr (.inl (some 0))), some (.inr (.inr x)), none, some (.inl n), some (.inr (.inr y)), none, some (.inl al), some (.inl 0)] [] (md_cs s_ z_ (g_th, g_as, g_un, g_um, g_sl, g_hs, g_pd, g_ln, g_at, g_iw, g_os, g_om))) ∧ ((80 : Int) < (g_ln + n) → Q (some (.inl (-4))) (md_cs s_ z_ (g_th, g_as, g_un, g_um, g_sl, g_hs, g_pd, g_ln, g_at, g_iw, g_os, g_om)))))) ∧ (¬ ((lg_cmp y (Int64.ofNat 0)).toInt) = (0 : Int) → Q (some (.inl (-2))) (md_cs s_ z_ (g_th, g_as, g_un, g_um, g_sl, g_hs, g_pd, g_ln, g_at, g_iw, g_os, g_om)))))))))))) ∧ (¬ ((lg_cmp (y &&& (255 : Int64)) (Int64.ofNat 0)).toInt) = (0 : Int) → (ab_r al ∧ ((al = (0 : Int) → ab_R E_X3_put P_X3_put Q 13 [some (.inr (.inl (some 0))), some (.inr (.inr x)), none, some (.inl (n + 1)), some (.inr (.inr ((y.toUInt64 >>> ((Int32.ofInt 8).toInt64.toUInt64 &&& Int64.toUInt64 63)).toInt64))), none, some (.inl 0), none] [] (md_cs s_ z_ (g_th, g_as, g_un, g_um, g_sl, g_hs, g_pd, g_ln, g_at, g_iw, g_os, g_om))) ∧ (¬ al = (0 : Int) → ab_cl sp_X3_in [.inl ((y &&& (255 : Int64)).toInt32.toInt), .inl 33, .inl 126] (md_cs s_ z_ (g_th, g_as, g_un, g_um, g_sl, g_hs, g_pd, g_ln, g_at, g_iw, g_os, g_om)) (fun r_ k_ => k_.length = ((md_cs s_ z_ (g_th, g_as, g_un, g_um, g_sl, g_hs, g_pd, g_ln, g_at, g_iw, g_os, g_om))).length → ab_R E_X3_put P_X3_put Q 49 [some (.inr (.inl (some 0))), some (.inr (.inr x)), none, some (.inl n), some (.inr (.inr y)), none, some (.inl al), none] (ab_ret r_ []) k_)))))))))) from ⟨p1, ⟨fun h1 => ⟨(p2 h1), ⟨fun h2 => (l1 h1 h2), fun h3 => ⟨(p3 h1 h3), ⟨fun h4 => (l2 h1 h3 h4), fun h5 => ⟨(p4 h1 h3 h5), ⟨fun h6 => ⟨(p5 h1 h3 h5 h6), ⟨fun h7 => (l3 h1 h3 h5 h6 h7), fun h8 => (l4 h1 h3 h5 h6 h8)⟩⟩, fun h9 => (l5 h1 h3 h5 h9)⟩⟩⟩⟩⟩⟩, fun h10 => ⟨(p6 h10), ⟨fun h11 => ⟨(p7 h10 h11), ⟨fun h12 => (l6 h10 h11 h12), fun h13 => ⟨(p8 h10 h11 h13), ⟨fun h14 => (l7 h10 h11 h13 h14), fun h15 => ⟨(p9 h10 h11 h13 h15), ⟨fun h16 => ⟨(p10 h10 h11 h13 h15 h16), ⟨fun h17 => (l8 h10 h11 h13 h15 h16 h17), fun h18 => (l9 h10 h11 h13 h15 h16 h18)⟩⟩, fun h19 => (l10 h10 h11 h13 h15 h19)⟩⟩⟩⟩⟩⟩, fun h20 => ⟨(p11 h10 h20), ⟨fun h21 => (l11 h10 h20 h21), fun h22 => ⟨_, (l12 h10 h20 h22), fun r_ k_ hz _ => by obtain ⟨x_, rfl, rfl, hR⟩ := hz; exact hR⟩⟩⟩⟩⟩⟩⟩)
set_option maxRecDepth 100000 in
theorem b_X3_put_49 {Q : ab_Q} {x : Int64} {n : Int} {y : Int64} {al : Int} {t0 : Int} {s_ : Int → Int} {z_ : mc_T} {g_th : Int} {g_as : Int → Int} {g_un : Int → Int} {g_um : Int} {g_sl : Int → Int} {g_hs : Int → Int} {g_pd : Int → Int} {g_ln : Int} {g_at : Int} {g_iw : Int} {g_os : Int → Int} {g_om : Int} (l1 : t0 = (0 : Int) → ab_R E_X3_put P_X3_put Q 13 [some (.inr (.inl (some 0))), some (.inr (.inr x)), none, some (.inl (n + 1)), some (.inr (.inr ((y.toUInt64 >>> ((Int32.ofInt 8).toInt64.toUInt64 &&& Int64.toUInt64 63)).toInt64))), none, some (.inl 0), none] [] (md_cs s_ z_ (g_th, g_as, g_un, g_um, g_sl, g_hs, g_pd, g_ln, g_at, g_iw, g_os, g_om))) (l2 : ¬ t0 = (0 : Int) → ab_R E_X3_put P_X3_put Q 13 [some (.inr (.inl (some 0))), some (.inr (.inr x)), none, some (.inl (n + 1)), some (.inr (.inr ((y.toUInt64 >>> ((Int32.ofInt 8).toInt64.toUInt64 &&& Int64.toUInt64 63)).toInt64))), none, some (.inl 1), none] [] (md_cs s_ z_ (g_th, g_as, g_un, g_um, g_sl, g_hs, g_pd, g_ln, g_at, g_iw, g_os, g_om))) (p1 : ab_r t0 := by intros; (try unfold ab_r); omega) : ab_R E_X3_put P_X3_put Q 49 [some (.inr (.inl (some 0))), some (.inr (.inr x)), none, some (.inl n), some (.inr (.inr y)), none, some (.inl al), none] [.inl t0] (md_cs s_ z_ (g_th, g_as, g_un, g_um, g_sl, g_hs, g_pd, g_ln, g_at, g_iw, g_os, g_om)) :=
  ab_R.steps [13, 49, 108] 12 (show (ab_r t0 ∧ ((t0 = (0 : Int) → ab_R E_X3_put P_X3_put Q 13 [some (.inr (.inl (some 0))), some (.inr (.inr x)), none, some (.inl (n + 1)), some (.inr (.inr ((y.toUInt64 >>> ((Int32.ofInt 8).toInt64.toUInt64 &&& Int64.toUInt64 63)).toInt64))), none, some (.inl 0), none] [] (md_cs s_ z_ (g_th, g_as, g_un, g_um, g_sl, g_hs, g_pd, g_ln, g_at, g_iw, g_os, g_om))) ∧ (¬ t0 = (0 : Int) → ab_R E_X3_put P_X3_put Q 13 [some (.inr (.inl (some 0))), some (.inr (.inr x)), none, some (.inl (n + 1)), some (.inr (.inr ((y.toUInt64 >>> ((Int32.ofInt 8).toInt64.toUInt64 &&& Int64.toUInt64 63)).toInt64))), none, some (.inl 1), none] [] (md_cs s_ z_ (g_th, g_as, g_un, g_um, g_sl, g_hs, g_pd, g_ln, g_at, g_iw, g_os, g_om))))) from ⟨p1, ⟨fun h1 => (l1 h1), fun h2 => (l2 h2)⟩⟩)
set_option maxRecDepth 100000 in
theorem b_X3_put_108 {Q : ab_Q} {x : Int64} {n : Int} {y : Int64} {al : Int} {k : Int} {s_ : Int → Int} {z_ : mc_T} {g_th : Int} {g_as : Int → Int} {g_un : Int → Int} {g_um : Int} {g_sl : Int → Int} {g_hs : Int → Int} {g_pd : Int → Int} {g_ln : Int} {g_at : Int} {g_iw : Int} {g_os : Int → Int} {g_om : Int} (l1 : n ≤ k → Q (some (.inl (g_ln + n))) (md_cs s_ z_ (g_th, g_as, g_un, g_um, g_sl, g_hs, g_pd, (g_ln + n), g_at, g_iw, g_os, g_om))) (l2 : k < n → ab_R E_X3_put P_X3_put Q 108 [some (.inr (.inl (some 0))), some (.inr (.inr x)), none, some (.inl n), some (.inr (.inr y)), none, some (.inl al), some (.inl (k + 1))] [] (md_cs s_ z_ (g_th, g_as, g_un, g_um, g_sl, g_hs, (ab_up g_pd (g_ln + k) ((((x.toUInt64 >>> ((Int32.ofInt (8 * ((n - 1) - k))).toInt64.toUInt64 &&& Int64.toUInt64 63)).toInt64) &&& (255 : Int64)).toInt32.toInt)), g_ln, g_at, g_iw, g_os, g_om))) (p1 : (ab_r k ∧ ab_r n) := by intros; (try unfold ab_r); omega) (p2 : k < n → (0 ≤ (g_ln + k) ∧ (g_ln + k) < 80) := by intros; (try unfold ab_r); omega) : ab_R E_X3_put P_X3_put Q 108 [some (.inr (.inl (some 0))), some (.inr (.inr x)), none, some (.inl n), some (.inr (.inr y)), none, some (.inl al), some (.inl k)] [] (md_cs s_ z_ (g_th, g_as, g_un, g_um, g_sl, g_hs, g_pd, g_ln, g_at, g_iw, g_os, g_om)) :=
  ab_R.steps [13, 49, 108] 26 (show ((ab_r k ∧ ab_r n) ∧ ((n ≤ k → Q (some (.inl (g_ln + n))) (md_cs s_ z_ (g_th, g_as, g_un, g_um, g_sl, g_hs, g_pd, (g_ln + n), g_at, g_iw, g_os, g_om))) ∧ (k < n → ((0 ≤ (g_ln + k) ∧ (g_ln + k) < 80) ∧ ab_R E_X3_put P_X3_put Q 108 [some (.inr (.inl (some 0))), some (.inr (.inr x)), none, some (.inl n), some (.inr (.inr y)), none, some (.inl al), some (.inl (k + 1))] [] (md_cs s_ z_ (g_th, g_as, g_un, g_um, g_sl, g_hs, (ab_up g_pd (g_ln + k) ((((x.toUInt64 >>> ((Int32.ofInt (8 * ((n - 1) - k))).toInt64.toUInt64 &&& Int64.toUInt64 63)).toInt64) &&& (255 : Int64)).toInt32.toInt)), g_ln, g_at, g_iw, g_os, g_om)))))) from ⟨p1, ⟨fun h1 => (l1 h1), fun h2 => ⟨(p2 h2), (l2 h2)⟩⟩⟩)
theorem vc_X3_put {av : List ab_V} {cs : List ab_C} {Q : ab_Q} (h : sp_X3_put av cs Q) : (ab_lv0 av).length ≤ 8 ∧ ab_R E_X3_put P_X3_put Q 0 (ab_ent av 8) [] cs := by
  obtain ⟨s, z, ⟨th, as, un, um, sl, hs, pd, ln, at_, iw, os, om⟩, S, x, rfl, rfl, ⟨hst, hU, hS, hP⟩, hQ⟩ := h
  refine ⟨Nat.le_of_ble_eq_true rfl, ?_⟩
  obtain ⟨p1, p2, p3, p4⟩ := id hP
  dsimp only at p1 p2 p3
  have hwl : (mb_w x).length ≤ 8 := mb_l_len 8 _
  have hbad : mf_bad S x = true → Q (some (.inl (-2))) (md_cs s z (0, as, un, um, sl, hs, pd, ln, at_, iw, os, om)) := by
    intro hb
    unfold mf_put at hQ
    rw [if_pos hb] at hQ
    exact hQ s z (0, as, un, um, sl, hs, pd, ln, at_, iw, os, om) ⟨hst, hU, hS, hP⟩ rfl
  have hmany : ¬ mf_bad S x = true → 80 < ln + ((mb_w x).length : Nat) → Q (some (.inl (-4))) (md_cs s z (0, as, un, um, sl, hs, pd, ln, at_, iw, os, om)) := by
    intro hb h8
    unfold mf_put at hQ
    rw [if_neg hb, if_neg (by omega)] at hQ
    exact hQ s z (0, as, un, um, sl, hs, pd, ln, at_, iw, os, om) ⟨hst, hU, hS, hP⟩ rfl
  have hgood : ¬ mf_bad S x = true → ln + ((mb_w x).length : Nat) ≤ 80 → ∀ (y : Int64) (al : Int) (m k : Nat) (pd' : Int → Int), k + m = (mb_w x).length → mq_al pd' (S.2.2.2 ++ (mb_w x).reverse.take k) → ab_R E_X3_put P_X3_put Q 108 [some (.inr (.inl (some 0))), some (.inr (.inr x)), none, some (.inl ((mb_w x).length : Nat)), some (.inr (.inr y)), none, some (.inl al), some (.inl (k : Nat))] [] (md_cs s z (0, as, un, um, sl, hs, pd', ln, at_, iw, os, om)) := by
    intro hb h8 y al m
    induction m with
    | zero =>
      intro k pd' g1 g2
      have hk : k = (mb_w x).length := by omega
      subst hk
      rw [List.take_of_length_le (by rw [List.length_reverse]; omega)] at g2
      refine b_X3_put_108 (fun _ => ?_) (fun h => by omega)
      unfold mf_put at hQ
      rw [if_neg hb, if_pos (by omega)] at hQ
      have := hQ s z (0, as, un, um, sl, hs, pd', ln + ((mb_w x).length : Nat), at_, iw, os, om) ⟨hst, hU, hS, mb_P hb (by dsimp only; omega) h8 p4 g2⟩ rfl
      dsimp only at this
      rw [← p2] at this
      exact this
    | succ m ih =>
      intro k pd' g1 g2
      refine b_X3_put_108 (fun h => by omega) (fun _ => ?_)
      have hk : k < (mb_w x).length := by omega
      have e1 := mb_sh (y := x) (k := (((mb_w x).length : Nat) : Int) - 1 - (k : Nat)) (by omega) (by omega)
      rw [mb_lo, e1, show ((((mb_w x).length : Nat) : Int) - 1 - (k : Nat)).toNat = (mb_w x).length - 1 - k by omega]
      have e2 : ((k : Nat) : Int) + 1 = ((k + 1 : Nat) : Int) := by omega
      rw [e2]
      refine ih (k + 1) _ (by omega) ?_
      rw [mb_rev_at hk, ← List.append_assoc]
      exact mq_al_snoc g2 (by rw [List.length_append, List.length_take, List.length_reverse]; omega)
  have fin : ∀ (y : Int64) (al n : Int), n = ((mb_w x).length : Nat) → (al = 0 ∨ al = 1) → (al = 1 ↔ mb_all (mb_w x) = true) → mb_N y = mb_N x / 256 ^ (mb_w x).length →
      (n = 0 → Q (some (.inl (-2))) (md_cs s z (0, as, un, um, sl, hs, pd, ln, at_, iw, os, om))) ∧ (al = 0 → Q (some (.inl (-2))) (md_cs s z (0, as, un, um, sl, hs, pd, ln, at_, iw, os, om))) ∧ (¬ (lg_cmp y (Int64.ofNat 0)).toInt = 0 → Q (some (.inl (-2))) (md_cs s z (0, as, un, um, sl, hs, pd, ln, at_, iw, os, om))) ∧
      (¬ n = 0 → ¬ al = 0 → (lg_cmp y (Int64.ofNat 0)).toInt = 0 → ln + n ≤ 80 → ab_R E_X3_put P_X3_put Q 108 [some (.inr (.inl (some 0))), some (.inr (.inr x)), none, some (.inl n), some (.inr (.inr y)), none, some (.inl al), some (.inl 0)] [] (md_cs s z (0, as, un, um, sl, hs, pd, ln, at_, iw, os, om))) ∧ (¬ n = 0 → ¬ al = 0 → (lg_cmp y (Int64.ofNat 0)).toInt = 0 → 80 < ln + n → Q (some (.inl (-4))) (md_cs s z (0, as, un, um, sl, hs, pd, ln, at_, iw, os, om))) := by
    intro y al n hn ha1 ha2 hy
    subst hn
    have hz := mb_zero y
    rw [hy] at hz
    have hnot : ¬ ((mb_w x).length : Int) = 0 → ¬ al = 0 → (lg_cmp y (Int64.ofNat 0)).toInt = 0 → ¬ mf_bad S x = true := fun q1 q2 q3 => mb_bad_no (by omega) (by rw [ha2.mp (by omega)]; simp) (hz.mp q3)
    refine ⟨fun q => hbad (mb_bad_len (by omega)), fun q => hbad (mb_bad_all ?_), fun q => hbad (mb_bad_rest (fun e => q (hz.mpr e))), fun q1 q2 q3 q4 => ?_, fun q1 q2 q3 q4 => hmany (hnot q1 q2 q3) q4⟩
    · cases hb : mb_all (mb_w x) with
      | true => have := ha2.mpr hb; omega
      | false => rfl
    · exact hgood (hnot q1 q2 q3) q4 y al (mb_w x).length 0 pd (by omega) (by rw [List.take_zero, List.append_nil]; exact p1)
  have loop : ∀ (m : Nat) (acc : List Int) (y : Int64) (al n : Int), n + m = 8 → n = (acc.length : Nat) → mb_N y = mb_N x / 256 ^ acc.length → mb_w x = acc ++ mb_l m (mb_N y) → (al = 0 ∨ al = 1) → (al = 1 ↔ mb_all acc = true) →
      ab_R E_X3_put P_X3_put Q 13 [some (.inr (.inl (some 0))), some (.inr (.inr x)), none, some (.inl n), some (.inr (.inr y)), none, some (.inl al), none] [] (md_cs s z (0, as, un, um, sl, hs, pd, ln, at_, iw, os, om)) := by
    intro m
    induction m with
    | zero =>
      intro acc y al n g1 g2 g3 g4 g5 g6
      have e : mb_w x = acc := by rw [g4]; unfold mb_l; simp
      obtain ⟨f1, f2, f3, f4, f5⟩ := fin y al n (by rw [e]; exact g2) g5 (by rw [e]; exact g6) (by rw [e]; exact g3)
      refine b_X3_put_13 (fun _ h => f1 h) (fun _ _ h => f2 h) (fun _ h1 h2 h3 h4 => f4 h1 h2 h3 h4) (fun _ h1 h2 h3 h4 => f5 h1 h2 h3 h4) (fun _ _ _ h => f3 h) (fun h => by omega) (fun h => by omega) (fun h => by omega) (fun h => by omega) (fun h => by omega) (fun h => by omega) (fun h => by omega) (p4 := fun _ _ _ => mb_cr _ _) (p6 := fun _ => mb_cr _ _) (p9 := fun _ _ _ _ => mb_cr _ _)
    | succ m ih =>
      intro acc y al n g1 g2 g3 g4 g5 g6
      have hz := mb_zero (y &&& 255)
      rw [mb_and] at hz
      have hlt : mb_N y % 256 < 256 := Nat.mod_lt _ (by decide)
      by_cases h0 : mb_N y % 256 = 0
      · have e : mb_w x = acc := by rw [g4]; unfold mb_l; rw [if_pos h0]; simp
        obtain ⟨f1, f2, f3, f4, f5⟩ := fin y al n (by rw [e]; exact g2) g5 (by rw [e]; exact g6) (by rw [e]; exact g3)
        have hzz := hz.mpr h0
        exact b_X3_put_13 (fun h => by omega) (fun h => by omega) (fun h => by omega) (fun h => by omega) (fun h => by omega) (fun _ _ h => f1 h) (fun _ _ _ h => f2 h) (fun _ _ h1 h2 h3 h4 => f4 h1 h2 h3 h4) (fun _ _ h1 h2 h3 h4 => f5 h1 h2 h3 h4) (fun _ _ _ _ h => f3 h) (fun _ h => absurd hzz h) (fun _ h => absurd hzz h) (p4 := fun _ _ _ => mb_cr _ _) (p6 := fun _ => mb_cr _ _) (p9 := fun _ _ _ _ => mb_cr _ _)
      · have hzz : ¬ (lg_cmp (y &&& 255) (Int64.ofNat 0)).toInt = 0 := fun h => h0 (hz.mp h)
        have el : mb_l (m + 1) (mb_N y) = ((mb_N y % 256 : Nat) : Int) :: mb_l m (mb_N y / 256) := by
          conv => lhs; unfold mb_l
          rw [if_neg h0]
        rw [el] at g4
        have next : ∀ al' : Int, (al' = 0 ∨ al' = 1) → (al' = 1 ↔ al = 1 ∧ mb_ch ((mb_N y % 256 : Nat) : Int)) → ab_R E_X3_put P_X3_put Q 13 [some (.inr (.inl (some 0))), some (.inr (.inr x)), none, some (.inl (n + 1)), some (.inr (.inr ((y.toUInt64 >>> ((Int32.ofInt 8).toInt64.toUInt64 &&& Int64.toUInt64 63)).toInt64))), none, some (.inl al'), none] [] (md_cs s z (0, as, un, um, sl, hs, pd, ln, at_, iw, os, om)) := by
          intro al' q1 q2
          refine ih (acc ++ [((mb_N y % 256 : Nat) : Int)]) _ al' (n + 1) (by omega) (by rw [List.length_append, List.length_singleton]; omega) ?_ ?_ q1 ?_
          · rw [mb_sh8, g3, List.length_append, List.length_singleton, Nat.pow_succ, Nat.div_div_eq_div_mul]
          · rw [mb_sh8, g4, List.append_assoc]; rfl
          · rw [mb_all_app, mb_all_one, q2, g6, Bool.and_eq_true, decide_eq_true_eq]
        refine b_X3_put_13 (fun h => by omega) (fun h => by omega) (fun h => by omega) (fun h => by omega) (fun h => by omega) (fun _ h => absurd h hzz) (fun _ h => absurd h hzz) (fun _ h => absurd h hzz) (fun _ h => absurd h hzz) (fun _ h => absurd h hzz) (fun _ _ ha => next 0 (Or.inl rfl) (by omega)) (fun _ _ ha => ?_) (p4 := fun _ _ _ => mb_cr _ _) (p6 := fun _ => mb_cr _ _) (p9 := fun _ _ _ _ => mb_cr _ _)
        rw [mb_lo]
        refine ⟨_, _, _, rfl, by unfold ab_r; omega, by unfold ab_r; omega, by unfold ab_r; omega, _, rfl, rfl, ?_⟩
        by_cases hc : 33 ≤ ((mb_N y % 256 : Nat) : Int) ∧ ((mb_N y % 256 : Nat) : Int) ≤ 126
        · rw [if_pos hc]
          exact b_X3_put_49 (fun h => absurd h (by decide)) (fun _ => next 1 (Or.inr rfl) ⟨fun _ => ⟨by omega, hc⟩, fun _ => rfl⟩)
        · rw [if_neg hc]
          exact b_X3_put_49 (fun _ => next 0 (Or.inl rfl) ⟨fun h => absurd h (by decide), fun h => absurd h.2 hc⟩) (fun h => absurd rfl h)
  exact b_X3_put_0 (loop 8 [] x 1 0 (by omega) rfl (by rw [List.length_nil, Nat.pow_zero, Nat.div_one]) rfl (Or.inr rfl) ⟨fun _ => rfl, fun _ => rfl⟩)
theorem mt_X3_put (l : Launch) : ab_MT l mi_X3_put sp_X3_put := ab_MT.of (own := "RootChunksModel") (E := E_X3_put) (P := P_X3_put) (M := M_X3_put) (nL := 8) (ty := 0) (by decide) rfl rfl tk_X3 pk_X3_put ck_X3_put (ab_CT'.cons (mt_X3_in l) ab_CT'.nil) (fun av cs Q h => vc_X3_put h)
