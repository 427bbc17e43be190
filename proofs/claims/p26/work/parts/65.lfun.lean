/-! THE LAW'S OWN FUNCTIONS: its digest, what it does with two ints, and what stays true -/
def lc_h (h : Int64) (v : Int) : Int64 := (31 : Int64) * h + (Int32.ofInt v).toInt64
def lc_it (g : Int → Int) : Nat → Int → Int64 → Int64
  | 0, _, h => h
  | m + 1, i, h => lc_it g m (i + 1) (lc_h h (g i))
def lc_it2 (g : Int → Int → Int) : Nat → Int → Int64 → Int64
  | 0, _, h => h
  | m + 1, c, h => lc_it2 g m (c + 1) (lc_it (g c) 5 0 h)
def lc_D (x : mS_X) : Int64 := lc_it2 (fun c w => mf_chunk x.1 c w) x.1.length 0 (lc_it (fun k => mf_at x.1 k) (mq_flat x.1).length 0 (lc_it (fun w => mf_count (x, [], (none, none), []) w) 7 0 3))
theorem lc_cnt (S : mS_T) {w : Int} (h : w < 7) : mf_count S w = mf_count (S.1, [], (none, none), []) w := by
  unfold mf_count
  dsimp only
  rw [if_neg (show ¬ w = 7 by omega), if_neg (show ¬ w = 8 by omega), if_neg (show ¬ w = 7 by omega), if_neg (show ¬ w = 8 by omega)]
def lc_c (f : Int → Int) (L : Int) (k : Int) : Int := if k < L then f k else 7919 * (k + 3) * (k + 11)
theorem lc_c_r {f : Int → Int} {L k : Int} (hf : ∀ j, ab_r (f j)) (h0 : 0 ≤ k) (h1 : k < 80) : ab_r (lc_c f L k) := by
  unfold lc_c
  split
  · exact hf k
  · have e : 7919 * (k + 3) * (k + 11) = 7919 * ((k + 3) * (k + 11)) := Int.mul_assoc _ _ _
    have a1 : 0 ≤ (k + 3) * (k + 11) := Int.mul_nonneg (by omega) (by omega)
    have a2 : (k + 3) * (k + 11) ≤ 83 * 91 := Int.mul_le_mul (by omega) (by omega) (by omega) (by omega)
    rw [e]
    unfold ab_r
    omega
theorem lc_and (x : Int32) (m : Nat) (hm : m < 2147483648) : 0 ≤ (x &&& Int32.ofInt m).toInt ∧ (x &&& Int32.ofInt m).toInt ≤ m := by
  have e1 : (Int32.ofInt (m : Int)).toBitVec.toNat = m := by
    show (BitVec.ofInt 32 (m : Int)).toNat = m
    rw [BitVec.toNat_ofInt]
    omega
  have e2 : (x &&& Int32.ofInt m).toBitVec.toNat ≤ m := by
    rw [Int32.toBitVec_and, BitVec.toNat_and, e1]
    exact Nat.and_le_right
  have e3 : (x &&& Int32.ofInt m).toInt = (x &&& Int32.ofInt m).toBitVec.toInt := rfl
  rw [e3, BitVec.toInt_eq_toNat_of_lt (by omega)]
  omega
def lc_low (a n : Int) : Int := ((Int32.ofInt a &&& Int32.ofInt 2147483647).toInt).tmod n
theorem lc_low_in (a : Int) {n : Int} (hn : 0 < n) : 0 ≤ lc_low a n ∧ lc_low a n < n := by
  have h := (lc_and (Int32.ofInt a) 2147483647 (by omega)).1
  exact ⟨Int.tmod_nonneg n h, Int.tmod_lt_of_pos _ hn⟩
def lc_k (v : Int) : Int := (Int32.ofInt v &&& Int32.ofInt 15).toInt
def lc_sr (v n : Int) : Int := (Int32.ofInt v >>> (Int32.ofInt n &&& 31)).toInt
def lc_b (w : Int) : Int := (Int32.ofInt w &&& Int32.ofInt 1).toInt
theorem lc_k_in (v : Int) : 0 ≤ lc_k v ∧ lc_k v ≤ 15 := lc_and (Int32.ofInt v) 15 (by omega)
theorem lc_b_in (w : Int) : lc_b w = 0 ∨ lc_b w = 1 := by
  have h := lc_and (Int32.ofInt w) 1 (by omega)
  have h2 : 0 ≤ lc_b w ∧ lc_b w ≤ 1 := h
  omega
theorem lc_sr_r (v n : Int) : ab_r (lc_sr v n) := mb_ri _
def lc_fr (x : mS_X) (v : Int) : Int := lc_low (lc_sr v 4) (mq_n x.1 + 1)
def lc_to (x : mS_X) (v w : Int) : Int := lc_fr x v + lc_low w 9
/-- a change, of the row alone: the answer, the row -/
def lc_chg (k : Int) (x : mS_X) (a b c : Int) : Int × mS_X := if mf_err k x.1 a b c = 0 then (mf_ans k x.1 (mf_do k x.1 a b c).1 a, ((mf_do k x.1 a b c).1, x.2 + (mf_do k x.1 a b c).2)) else (mf_err k x.1 a b c, x)
def lc_rst (x : mS_X) (o : Option mS_X) : Int × mS_X := match o with
  | none => (-5, x)
  | some y => (mq_n y.1, y)
def lc_one (x : mS_X) (sl : Option mS_X × Option mS_X) (v w : Int) : Int × mS_X :=
  if lc_k v < 5 then lc_chg 112 x (lc_fr x v) (lc_low w 2001 - 1000) 0
  else if lc_k v = 5 then lc_chg 99 x (lc_fr x v) 0 0
  else if lc_k v = 6 then lc_chg 115 x (lc_fr x v) (lc_low w 2001 - 1000) 0
  else if lc_k v < 9 then lc_chg 116 x (lc_fr x v) (lc_to x v w - 1) 0
  else if lc_k v < 11 then lc_chg 97 x (lc_fr x v) (lc_to x v w) (lc_low (lc_sr w 4) 2001 - 1000)
  else if lc_k v < 13 then lc_chg 109 x (lc_fr x v) (lc_to x v w) (lc_low (lc_sr w 4) (mq_n x.1 + 1))
  else if lc_k v = 13 then lc_rst x (if lc_b w = 0 then sl.1 else sl.2)
  else lc_chg 114 x (lc_fr x v) (lc_to x v w) (lc_low (lc_sr w 4) 61 - 30)
def lc_up (S : mS_T) (r : Int × mS_X) : Int × mS_T := (r.1, if r.1 < 0 then S else (r.2, mh_push S.2.1 S.1, S.2.2))
def lc_act (S : mS_T) (v w : Int) : Int × mS_T := lc_up S (lc_one S.1 S.2.2.1 v w)
theorem lc_n (q : List mq_K) : 0 ≤ mq_n q := by unfold mq_n; omega
theorem lc_n60 {q : List mq_K} (hW : mq_W q) : mq_n q ≤ 60 := by have := hW.2; unfold mq_n; omega
theorem lc_v {q : List mq_K} {a : Int} (hW : mq_W q) (h : mq_pl q a) : -99999 ≤ mq_v q a ∧ mq_v q a ≤ 99999 := mq_all_in hW _ (List.mem_of_getElem? (mq_v_is h))
theorem lc_ans {k : Int} {q q' : List mq_K} {a b c : Int} (hW : mq_W q) (hW' : mq_W q') (h : mf_err k q a b c = 0) : 0 ≤ mf_ans k q q' a ∧ mf_ans k q q' a ≤ 300000 := by
  have h1 := lc_n60 hW'
  have h2 := hW'.chunks
  unfold mf_ans
  by_cases k1 : k = 112
  · rw [if_pos k1]
    have := lc_n q'
    omega
  rw [if_neg k1]
  by_cases k2 : k = 99 ∨ k = 115
  · rw [if_pos k2]
    have hp : mq_pl q a := by
      unfold mf_err at h
      rcases k2 with rfl | rfl
      · rw [if_neg (by omega), if_pos rfl] at h
        exact mq_eCut_0 h
      · rw [if_neg (by omega), if_neg (by omega), if_pos rfl] at h
        exact (mq_eSet_0 h).1
    have := lc_v hW hp
    omega
  · rw [if_neg k2]
    omega
theorem lc_chg_up {S : mS_T} (hW : mq_W S.1.1) (k a b c : Int) : mf_change k S a b c = lc_up S (lc_chg k S.1 a b c) := by
  have he := mf_err_in k S.1.1 a b c
  unfold mf_change lc_up lc_chg
  by_cases h : mf_err k S.1.1 a b c = 0
  · rw [if_pos h, if_pos h]
    have h2 := (lc_ans (q' := (mf_do k S.1.1 a b c).1) hW (mf_do_W hW h) h).1
    dsimp only
    rw [if_neg (by omega)]
  · rw [if_neg h, if_neg h]
    dsimp only
    rw [if_pos (by omega)]
theorem lc_rest_up (S : mS_T) (o : Option mS_X) : mf_rest S o = lc_up S (lc_rst S.1 o) := by
  cases o with
  | none => rfl
  | some y =>
    have := lc_n y.1
    unfold mf_rest lc_up lc_rst
    dsimp only
    rw [if_neg (by omega)]
theorem lc_restore_up (S : mS_T) (w : Int) : mf_restore S (lc_b w) = lc_up S (lc_rst S.1 (if lc_b w = 0 then S.2.2.1.1 else S.2.2.1.2)) := by
  rw [← lc_rest_up]
  unfold mf_restore
  rcases lc_b_in w with h | h
  · rw [if_pos h, if_pos h]
  · rw [if_neg (by omega), if_pos h, if_neg (by omega)]
/-! what stays true -/
def lc_g (B : Int) (x : mS_X) : Prop := mq_W x.1 ∧ me_E x.1 ∧ 0 ≤ x.2 ∧ x.2 ≤ B
theorem lc_g.up {B C : Int} {x : mS_X} (h : lc_g B x) (hBC : B ≤ C) : lc_g C x := ⟨h.1, h.2.1, h.2.2.1, by have := h.2.2.2; omega⟩
/-- what an order of the law gives -/
def lc_R (B : Int) (x z : mS_X) (v : Int) (r : Int × mS_X) : Prop := lc_g (B + 20000) r.2 ∧ -5 ≤ r.1 ∧ r.1 ≤ 300000 ∧ (lc_k v = 13 → 0 ≤ r.1 → r.2 = z) ∧ (lc_k v ≠ 13 → x.2 ≤ r.2.2)
theorem lc_chg_R {B : Int} {x z : mS_X} {v : Int} (h : lc_g B x) (hv : lc_k v ≠ 13) (k a b c : Int) : lc_R B x z v (lc_chg k x a b c) := by
  obtain ⟨hW, hE, h0, h1⟩ := h
  have he := mf_err_in k x.1 a b c
  unfold lc_chg
  by_cases e : mf_err k x.1 a b c = 0
  · rw [if_pos e]
    have hW' := mf_do_W hW e
    have ha := lc_ans (q' := (mf_do k x.1 a b c).1) hW hW' e
    obtain ⟨i1, i2, i3⟩ := me_is_E (me_do hW e)
    refine ⟨⟨hW', i1, ?_, ?_⟩, ?_, ?_, fun z => absurd z hv, fun _ => ?_⟩ <;> dsimp only <;> omega
  · rw [if_neg e]
    refine ⟨⟨hW, hE, ?_, ?_⟩, ?_, ?_, fun z => absurd z hv, fun _ => ?_⟩ <;> dsimp only <;> omega
theorem lc_rst_R {B : Int} {x z : mS_X} {v : Int} (hx : lc_g B x) (hz : lc_g B z) (hv : lc_k v = 13) (o : Option mS_X) (ho : o = some z ∨ o = none) : lc_R B x z v (lc_rst x o) := by
  rcases ho with rfl | rfl
  · have h1 := lc_n z.1
    have h2 := lc_n60 hz.1
    exact ⟨hz.up (by omega), by show -5 ≤ mq_n z.1; omega, by show mq_n z.1 ≤ 300000; omega, fun _ _ => rfl, fun h => absurd hv h⟩
  · exact ⟨hx.up (by omega), by show (-5 : Int) ≤ -5; omega, by show (-5 : Int) ≤ 300000; omega, fun _ h => absurd h (by show ¬ (0 : Int) ≤ -5; omega), fun h => absurd hv h⟩
theorem lc_one_R {B : Int} {x z : mS_X} (hx : lc_g B x) (hz : lc_g B z) (v w : Int) : lc_R B x z v (lc_one x (some z, none) v w) := by
  unfold lc_one
  by_cases k1 : lc_k v < 5
  · rw [if_pos k1]; exact lc_chg_R hx (by omega) _ _ _ _
  rw [if_neg k1]
  by_cases k2 : lc_k v = 5
  · rw [if_pos k2]; exact lc_chg_R hx (by omega) _ _ _ _
  rw [if_neg k2]
  by_cases k3 : lc_k v = 6
  · rw [if_pos k3]; exact lc_chg_R hx (by omega) _ _ _ _
  rw [if_neg k3]
  by_cases k4 : lc_k v < 9
  · rw [if_pos k4]; exact lc_chg_R hx (by omega) _ _ _ _
  rw [if_neg k4]
  by_cases k5 : lc_k v < 11
  · rw [if_pos k5]; exact lc_chg_R hx (by omega) _ _ _ _
  rw [if_neg k5]
  by_cases k6 : lc_k v < 13
  · rw [if_pos k6]; exact lc_chg_R hx (by omega) _ _ _ _
  rw [if_neg k6]
  by_cases k7 : lc_k v = 13
  · rw [if_pos k7]
    refine lc_rst_R hx hz k7 _ ?_
    by_cases b : lc_b w = 0
    · rw [if_pos b]; exact Or.inl rfl
    · rw [if_neg b]; exact Or.inr rfl
  · rw [if_neg k7]; exact lc_chg_R hx k7 _ _ _ _
def lc_I (S : mS_T) (B : Int) (z : mS_X) : Prop := lc_g B S.1 ∧ (∀ x ∈ S.2.1, lc_g B x) ∧ S.2.1.length ≤ 6 ∧ S.2.2.1 = (some z, none) ∧ lc_g B z
/-- what is remembered, without what goes when there is no room -/
def lc_dr (h : List mS_X) : List mS_X := if h.length = 6 then h.drop 1 else h
theorem lc_dr_len {h : List mS_X} (hl : h.length ≤ 6) : (lc_dr h).length ≤ 5 ∧ (lc_dr h).length = if h.length < 6 then h.length else 5 := by
  unfold lc_dr
  by_cases e : h.length = 6
  · rw [if_pos e, List.length_drop, if_neg (by omega)]
    omega
  · rw [if_neg e, if_pos (by omega)]
    omega
theorem lc_push (h : List mS_X) (x : mS_X) : mh_push h x = lc_dr h ++ [x] := rfl
theorem lc_push_dr {h : List mS_X} (hl : h.length ≤ 6) (x : mS_X) : mh_push (lc_dr h) x = mh_push h x := by
  have h1 := lc_dr_len hl
  have e : lc_dr (lc_dr h) = lc_dr h := by
    show (if (lc_dr h).length = 6 then (lc_dr h).drop 1 else lc_dr h) = lc_dr h
    rw [if_neg (by omega)]
  rw [lc_push, lc_push, e]
/-- an order of the law, taken back, and given again -/
theorem lc_act_I {S : mS_T} {B : Int} {z : mS_X} (h : lc_I S B z) (v w : Int) : -5 ≤ (lc_act S v w).1 ∧ (lc_act S v w).1 ≤ 300000 ∧ lc_I (lc_act S v w).2 (B + 20000) z ∧ ((lc_act S v w).1 < 0 → (lc_act S v w).2 = S) ∧
    (0 ≤ (lc_act S v w).1 → (lc_act S v w).2.2.1.length = (if S.2.1.length < 6 then S.2.1.length + 1 else 6) ∧ (lc_k v = 13 → (lc_act S v w).2.1 = z) ∧ mf_undo (lc_act S v w).2 = (((lc_act S v w).2.2.1.length : Int) - 1, (S.1, lc_dr S.2.1, S.2.2)) ∧ lc_act (S.1, lc_dr S.2.1, S.2.2) v w = lc_act S v w) ∧
    (lc_k v ≠ 13 → S.1.2 ≤ (lc_act S v w).2.1.2) := by
  obtain ⟨x, hs, sl, pd⟩ := S
  obtain ⟨h1, h2, h3, h4, h5⟩ := h
  dsimp only at h1 h2 h3 h4
  subst h4
  obtain ⟨r1, r2, r3, r4, r5⟩ := lc_one_R h1 h5 v w
  have e0 : ∀ hs' : List mS_X, lc_act (x, hs', (some z, none), pd) v w = lc_up (x, hs', (some z, none), pd) (lc_one x (some z, none) v w) := fun _ => rfl
  rw [e0 hs]
  generalize hr : lc_one x (some z, none) v w = r at r1 r2 r3 r4 r5 e0 ⊢
  have hg : ∀ y ∈ hs, lc_g (B + 20000) y := fun y hy => (h2 y hy).up (by omega)
  by_cases e : r.1 < 0
  · have e1 : lc_up (x, hs, (some z, none), pd) r = (r.1, (x, hs, (some z, none), pd)) := by unfold lc_up; rw [if_pos e]
    rw [e1]
    exact ⟨r2, r3, ⟨h1.up (by omega), hg, h3, rfl, h5.up (by omega)⟩, fun _ => rfl, fun q => absurd e (by dsimp only at q; omega), fun _ => Int.le_refl _⟩
  · have e1 : lc_up (x, hs, (some z, none), pd) r = (r.1, (r.2, mh_push hs x, (some z, none), pd)) := by unfold lc_up; rw [if_neg e]
    have hd := lc_dr_len h3
    have hpl : (mh_push hs x).length = if hs.length < 6 then hs.length + 1 else 6 := by
      rw [lc_push, List.length_append, List.length_singleton, hd.2]
      split <;> rfl
    rw [e1]
    refine ⟨r2, r3, ⟨r1, fun y hy => ?_, ?_, rfl, h5.up (by omega)⟩, fun q => absurd q e, fun q => ⟨hpl, fun k => r4 k q, ?_, ?_⟩, r5⟩
    · dsimp only at hy
      rw [lc_push] at hy
      rcases List.mem_append.mp hy with hy | hy
      · refine hg y ?_
        unfold lc_dr at hy
        split at hy
        · exact List.mem_of_mem_drop hy
        · exact hy
      · rw [List.mem_singleton.mp hy]
        exact h1.up (by omega)
    · dsimp only
      rw [hpl]
      split <;> omega
    · unfold mf_undo
      dsimp only
      rw [lc_push, List.getLast?_append, List.dropLast_concat, List.length_append, List.length_singleton]
      show (((((lc_dr hs).length + 1 - 1 : Nat) : Int)), ((x, lc_dr hs, (some z, none), pd) : mS_T)) = _
      rw [show (((lc_dr hs).length + 1 - 1 : Nat) : Int) = ((((lc_dr hs).length + 1 : Nat) : Int) - 1) by omega]
    · rw [e0]
      unfold lc_up
      rw [if_neg e]
      dsimp only
      rw [lc_push_dr h3]
theorem lc_save (S : mS_T) {B : Int} {z : mS_X} (h : lc_I S B z) : lc_I (mf_save S 0).2 B S.1 := by
  obtain ⟨h1, h2, h3, h4, h5⟩ := h
  have e : mf_save S 0 = (mq_n S.1.1, (S.1, S.2.1, (some S.1, S.2.2.1.2), S.2.2.2)) := rfl
  rw [e, h4]
  exact ⟨h1, h2, h3, rfl, h1⟩
