section ABV2
variable {p : Program} {l : Launch} {e : Env} {R : Room} {s : State} {m : MethodId} {args : Array Value} {below : List Frame} {meth : Method} {c : Code} {own : String} {cc : ByteArray} {nL : Nat} {G : ab_G} {ad : Nat → Nat} {A : Nat → Prop} {N cells slots : Nat} {Qw : State → Prop} {E : ab_E} {Qr : ab_Q} {K : ab_K}
theorem ab_cpyE (f g : Int → Int) (sp dp n : Int) (h0 : 0 ≤ sp) (h1 : 0 ≤ dp) (h2 : 0 ≤ n) (r0 : ab_r sp) (r1 : ab_r dp) (r2 : ab_r n) : (fun j : Nat => Int32.ofInt (ab_cpy f g sp dp n j)) = va_cpy (fun j : Nat => Int32.ofInt (f j)) (fun j : Nat => Int32.ofInt (g j)) (Int32.ofInt sp).toNatClampNeg (Int32.ofInt dp).toNatClampNeg (Int32.ofInt n).toNatClampNeg := by
  have ee : ∀ i : Int, 0 ≤ i → ab_r i → ((Int32.ofInt i).toNatClampNeg : Int) = i := by
    intro i hi hr
    show (((Int32.ofInt i).toInt).toNat : Int) = i
    rw [ab_toI hr]
    exact Int.toNat_of_nonneg hi
  have a0 := ee sp h0 r0
  have a1 := ee dp h1 r1
  have a2 := ee n h2 r2
  funext j
  unfold ab_cpy va_cpy
  by_cases h : dp ≤ (j : Int) ∧ (j : Int) < dp + n
  · rw [if_pos h, if_pos (by omega)]
    have : sp + ((j : Int) - dp) = (((Int32.ofInt sp).toNatClampNeg + (j - (Int32.ofInt dp).toNatClampNeg) : Nat) : Int) := by omega
    rw [this]
  · rw [if_neg h, if_neg (by omega)]
theorem ab_s_stat {M : List (Nat × ab_MI)} (X : ab_X own cc nL p s m args meth c G) (hZ : ab_Zs A s s.heap) (hC : ab_CT l M E) (hD : ab_Dn A ad N) (hA : ∀ q, s.heap.size ≤ q → A q) (hcs : cells ≤ R.cells ∧ slots ≤ R.slots) {pc nx ix : Nat} {tg : List (Int × Nat)} (hq : ab_okI cc (pc, .invokestatic ix, nx, tg) = true) (hcl : ab_okC1 own M E (R.frames, R.locals) (pc, .invokestatic ix, nx, tg) = true) {lv : ab_L} {st : List ab_V} {cs : List ab_C}
    (h : ab_w E Qr K (pc, .invokestatic ix, nx, tg) lv st cs) (hK : ∀ pc' lv' st' cs', K pc' lv' st' cs' → ab_W p l e R s m args below meth c nL G ad A N cells slots Qw pc' lv' st' cs') : ab_W p l e R s m args below meth c nL G ad A N cells slots Qw pc lv st cs := by
  obtain ⟨hx, hb, hml, hown, hts, hKK, hlk⟩ := id X
  obtain ⟨hd0, hg⟩ := ab_and hq
  have hd : decode cc pc = .ok (.invokestatic ix, nx - pc) := of_decide_eq_true hd0
  have e1 : nx = pc + 3 := Nat.eq_of_beq_eq_true hg
  subst e1
  rw [show pc + 3 - pc = 3 by omega] at hd
  intro hN H locs ls hP hS hl
  unfold ab_w at h
  dsimp only at h
  split at h
  · next ci hci =>
    obtain ⟨n, c0, is, n0, sp⟩ := ci
    unfold ab_okC1 at hcl
    dsimp only at hcl
    rw [hci] at hcl
    cases hmi : ab_look M pc with
    | none => rw [hmi] at hcl; cases hcl
    | some mi =>
      obtain ⟨y, b, mL, ret, fr, lc⟩ := mi
      rw [hmi] at hcl
      dsimp only at hcl
      obtain ⟨hcl, a10⟩ := ab_and hcl
      obtain ⟨hcl, a9⟩ := ab_and hcl
      obtain ⟨hcl, a8⟩ := ab_and hcl
      obtain ⟨hcl, a7⟩ := ab_and hcl
      obtain ⟨hcl, a6⟩ := ab_and hcl
      obtain ⟨hcl, a4⟩ := ab_and hcl
      obtain ⟨hcl, a3⟩ := ab_and hcl
      obtain ⟨a1, a2⟩ := ab_and hcl
      have a7 := of_decide_eq_true a7
      have hMT := hC pc _ _ hci hmi
      obtain ⟨y1, y2⟩ := ab_and a1
      have y1 := of_decide_eq_true y1
      have y2 := of_decide_eq_true y2
      unfold ab_call at h
      dsimp only at h
      split at h
      · next b1 b2 =>
        have b1 := Nat.le_of_ble_eq_true b1
        have b2 := Nat.le_of_ble_eq_true b2
        unfold ab_rcv at h
        rw [a8] at h
        dsimp only at h
        refine ab_s_call (n := n) hD hA hN hP hS hl (fun ad' av cs1 Q0 hsp hav hP1 hD1 hA1 => ?_) h hK
        have estk : st.map (ab_c ad) = ((st.take n).reverse.map (ab_c ad)).reverse ++ (st.drop n).map (ab_c ad) := by
          rw [← List.map_reverse, List.reverse_reverse, ← List.map_append, List.take_append_drop]
        have hM := hMT G ad' av cs1 Q0 H.size hsp
        have hps : PreS s H (ab_Pre G ad' av cs1 H.size) ((st.take n).reverse.map (ab_c ad)) := by
          refine ⟨ab_blind, fun U hU hW => ⟨?_, by rw [hU], by rw [hU]; exact hP1, hKK.warm hW, hD1, hZ.to hS hW hU hA1⟩⟩
          rw [← hav]
        have hn2 : ((st.take n).reverse.map (ab_c ad)).length = n := by
          rw [List.length_map, List.length_reverse, List.length_take]
          omega
        have hR : fr + 1 ≤ R.frames ∧ 8 + (mL + 11) + lc ≤ R.locals := ⟨Nat.le_of_ble_eq_true a9, Nat.le_of_ble_eq_true a10⟩
        have hdd : y.cls ≠ "java/lang/invoke/MethodHandle" ∧ y.cls ≠ "java/lang/invoke/VarHandle" ∧ (parseMethodDescriptor y.desc).map (fun d => d.parameters.length) = some n := ⟨y1, y2, a7⟩
        have hroom : 2 * (F0 m pc ls (st.map (ab_c ad))).monitorRoom + (((st.drop n).map (ab_c ad)).map fun v => v.category).sum ≤ 8 := lv_room (by rw [ab_catS]; exact b2)
        exact va_runS (mc := 0) (ms := 0) (n := n) ⟨hx, hb, hml, hown, hts⟩ hM ⟨callB_of n hts (ab_good a2) rfl rfl rfl (hts _ (ab_inB.to a3)) (hts _ (ab_inB.to a6)) hdd hR, hts _ (ab_inB.to a4)⟩ hps rfl hn2 hl.1 estk hroom hd hcs
      · exact h.elim
  · next hci =>
    unfold ab_okC1 at hcl
    dsimp only at hcl
    rw [hci] at hcl
    dsimp only at hcl
    split at h
    · next hk =>
      rw [hk] at hcl
      try dsimp only at hcl
      obtain ⟨hcl, a6⟩ := ab_and hcl
      obtain ⟨hcl, a5⟩ := ab_and hcl
      obtain ⟨hcl, a4⟩ := ab_and hcl
      obtain ⟨hcl, a3⟩ := ab_and hcl
      obtain ⟨a1, a2⟩ := ab_and hcl
      obtain ⟨a, b, r, rfl, h1⟩ := ab_i2.of h
      split at h1
      · next b2 =>
        have b2 := Nat.le_of_ble_eq_true b2
        obtain ⟨⟨ra, rb⟩, h2⟩ := h1
        refine va_mmax hx hb (hml.trans hl.1.symm) hown (hts _ (ab_inB.to a1)) (hts _ (ab_inB.to a2)) (hts _ (ab_inB.to a3)) (hts _ (ab_inB.to a4)) (Nat.le_of_ble_eq_true a5) (by have := Nat.le_of_ble_eq_true a6; rw [ab_catS]; omega) hcs.1 hcs.2 hd ?_
        have h3 := hK _ _ _ _ h2 hN H locs ls hP hS hl
        have e2 : (if Int32.ofInt a < Int32.ofInt b then Int32.ofInt b else Int32.ofInt a) = Int32.ofInt (if a < b then b else a) := by
          by_cases z : a < b
          · rw [if_pos z, if_pos ((ab_ltI ra rb).mpr z)]
          · rw [if_neg z, if_neg (fun w => z ((ab_ltI ra rb).mp w))]
        rw [e2]
        exact h3
      · exact h1.elim
    · next hk =>
      rw [hk] at hcl
      try dsimp only at hcl
      obtain ⟨hcl, a6⟩ := ab_and hcl
      obtain ⟨hcl, a5⟩ := ab_and hcl
      obtain ⟨hcl, a4⟩ := ab_and hcl
      obtain ⟨hcl, a3⟩ := ab_and hcl
      obtain ⟨a1, a2⟩ := ab_and hcl
      split at h
      · next n dp d sp k r =>
        obtain ⟨m0, f, g1, g2, h1⟩ := ab_arr.of h
        obtain ⟨m1, g, g3, g4, h2⟩ := ab_arr.of h1
        split at h2
        · next b2 =>
          have b2 := Nat.le_of_ble_eq_true b2
          obtain ⟨⟨q0, q1, q2, q3, q4⟩, h3⟩ := h2
          have r0 : ab_r sp := ⟨by omega, by omega⟩
          have r1 : ab_r dp := ⟨by omega, by omega⟩
          have r2 : ab_r n := ⟨by omega, by omega⟩
          have ee : ∀ i : Int, 0 ≤ i → ab_r i → ((Int32.ofInt i).toNatClampNeg : Int) = i := by
            intro i hi hr
            show (((Int32.ofInt i).toInt).toNat : Int) = i
            rw [ab_toI hr]
            exact Int.toNat_of_nonneg hi
          have z0 := ee sp q0 r0
          have z1 := ee dp q1 r1
          have z2 := ee n q2 r2
          have nn : ∀ i : Int, 0 ≤ i → ab_r i → ¬ Int32.ofInt i < 0 := fun i hi hr w => by
            have := (ab_ltI hr ab_r0).mp w
            omega
          refine va_copyi (ty := .int) hx hb (hml.trans hl.1.symm) hown (hts _ (ab_inB.to a1)) (hts _ (ab_inB.to a2)) (hts _ (ab_inB.to a3)) (hts _ (ab_inB.to a4)) hKK.1 hP (hD.to hN) hS k d 0 0 (ab_cs_arr g1) (ab_cs_arr g3) rfl rfl rfl (nn sp q0 r0) (nn dp q1 r1) (nn n q2 r2) (by omega) (by omega) (fun _ _ => rfl) (Nat.le_of_ble_eq_true a5) (by have := Nat.le_of_ble_eq_true a6; rw [ab_catS]; omega) hd (fun H1 locs1 hP1 hD1 hS1 => ?_)
          rw [← ab_cpyE f g sp dp n q0 q1 q2 r0 r1 r2] at hP1
          have e5 : ((ab_cs G ad cs).set d (ad d, .inl (G.2 0, m1, .inl (fun j : Nat => Int32.ofInt (ab_cpy f g sp dp n j))))) = ab_cs G ad (cs.set d (.inr (.inl (0, m1, ab_cpy f g sp dp n)))) := ab_cs_set G ad cs d (.inr (.inl (0, m1, ab_cpy f g sp dp n)))
          rw [e5] at hP1
          exact hK _ _ _ _ h3 (by rw [List.length_set]; exact hN) H1 locs1 ls hP1 hS1 hl
        · exact h2.elim
      · exact h.elim
    · exact h.elim
/-- one step of the walk -/
theorem ab_one {M : List (Nat × ab_MI)} {P : List ab_I} (X : ab_X own cc nL p s m args meth c G) (hZ : ab_Zs A s s.heap) (hrt : meth.sig.returnType = ab_rty E.2.2.2) (hT : ab_okT own E.1 = true) (hP0 : P.all (ab_okI cc) = true) (hP1 : P.all (ab_okC1 own M E (R.frames, R.locals)) = true) (hC : ab_CT l M E) (hD : ab_Dn A ad N) (hA : ∀ q, s.heap.size ≤ q → A q) (hcs : cells ≤ R.cells ∧ slots ≤ R.slots)
    {K0 : ab_K} {q : ab_I} {lv : ab_L} {st : List ab_V} {cs : List ab_C} (hq : q ∈ P) (hw : ab_w E Qr K0 q lv st cs) (hK : ∀ pc' lv' st' cs', K0 pc' lv' st' cs' → ab_W p l e R s m args below meth c nL G ad A N cells slots (MQ below (ab_Post G ad Qr N A) args s cells slots A) pc' lv' st' cs') : ab_W p l e R s m args below meth c nL G ad A N cells slots (MQ below (ab_Post G ad Qr N A) args s cells slots A) q.1 lv st cs := by
  have o1 := List.all_eq_true.mp hP0 q hq
  have o2 := List.all_eq_true.mp hP1 q hq
  obtain ⟨pc, i, nx, tg⟩ := q
  cases i with
  | getfield ix => exact ab_s_getf X hT o1 hw hK
  | putfield ix => exact ab_s_putf X hT hD o1 hw hK
  | iaload => exact ab_s_arr X hD o1 (Or.inl rfl) hw hK
  | caload => exact ab_s_arr X hD o1 (Or.inr (Or.inl rfl)) hw hK
  | baload => exact ab_s_arr X hD o1 (Or.inr (Or.inr (Or.inl rfl))) hw hK
  | iastore => exact ab_s_arr X hD o1 (Or.inr (Or.inr (Or.inr (Or.inl rfl)))) hw hK
  | castore => exact ab_s_arr X hD o1 (Or.inr (Or.inr (Or.inr (Or.inr (Or.inl rfl))))) hw hK
  | bastore => exact ab_s_arr X hD o1 (Or.inr (Or.inr (Or.inr (Or.inr (Or.inr (Or.inl rfl)))))) hw hK
  | aaload => exact ab_s_arr X hD o1 (Or.inr (Or.inr (Or.inr (Or.inr (Or.inr (Or.inr (Or.inl rfl))))))) hw hK
  | aastore => exact ab_s_arr X hD o1 (Or.inr (Or.inr (Or.inr (Or.inr (Or.inr (Or.inr (Or.inr (Or.inl rfl)))))))) hw hK
  | arraylength => exact ab_s_arr X hD o1 (Or.inr (Or.inr (Or.inr (Or.inr (Or.inr (Or.inr (Or.inr (Or.inr rfl)))))))) hw hK
  | invokevirtual ix => exact ab_s_virt X hZ hC hD hA hcs o1 o2 hw hK
  | invokestatic ix => exact ab_s_stat X hZ hC hD hA hcs o1 o2 hw hK
  | tableswitch d lo hi offs => exact ab_s_sw X o1 hw hK
  | ireturn => exact ab_s_ret X hrt o1 (Or.inl rfl) hw
  | return_ => exact ab_s_ret X hrt o1 (Or.inr (Or.inl rfl)) hw
  | lreturn => exact ab_s_ret X hrt o1 (Or.inr (Or.inr rfl)) hw
  | _ => exact ab_s_pure X hT o1 rfl hw hK
/-- the whole walk -/
theorem ab_sound {M : List (Nat × ab_MI)} {P : List ab_I} (X : ab_X own cc nL p s m args meth c G) (hZ : ab_Zs A s s.heap) (hrt : meth.sig.returnType = ab_rty E.2.2.2) (hT : ab_okT own E.1 = true) (hP0 : P.all (ab_okI cc) = true) (hP1 : P.all (ab_okC1 own M E (R.frames, R.locals)) = true) (hC : ab_CT l M E) (hD : ab_Dn A ad N) (hA : ∀ q, s.heap.size ≤ q → A q) (hcs : cells ≤ R.cells ∧ slots ≤ R.slots)
    {pc : Nat} {lv : ab_L} {st : List ab_V} {cs : List ab_C} (h : ab_R E P Qr pc lv st cs) : ab_W p l e R s m args below meth c nL G ad A N cells slots (MQ below (ab_Post G ad Qr N A) args s cells slots A) pc lv st cs := by
  refine h (ab_W p l e R s m args below meth c nL G ad A N cells slots (MQ below (ab_Post G ad Qr N A) args s cells slots A)) ?_
  intro pc lv st cs q K0 hf hw hK
  obtain ⟨hq, rfl⟩ := ab_find_in hf
  exact ab_one X hZ hrt hT hP0 hP1 hC hD hA hcs hq hw hK
end ABV2
/-! the locals that a method begins with -/
def ab_lv0 : List ab_V → ab_L
  | [] => []
  | v :: vs => match ab_c1 v with
    | true => some v :: ab_lv0 vs
    | false => some v :: none :: ab_lv0 vs
theorem ab_lv0_at (ad : Nat → Nat) : ∀ (vs : List ab_V) (o i : Nat) (v : ab_V), (ab_lv0 vs)[i]? = some (some v) → (o + i, ab_c ad v) ∈ lv_args o (vs.map (ab_c ad))
  | [], _, _, _, h => by cases h
  | w :: vs, o, i, v, h => by
    unfold ab_lv0 at h
    rw [List.map_cons]
    unfold lv_args
    split at h
    · next e =>
      have e2 : ¬ (ab_c ad w).category = 2 := by rw [ab_cat1 e]; omega
      rw [if_neg e2]
      match i with
      | 0 =>
        have h := Option.some.inj (Option.some.inj h)
        subst h
        exact List.mem_cons_self
      | i + 1 =>
        have := ab_lv0_at ad vs (o + 1) i v h
        rw [show o + (i + 1) = o + 1 + i by omega]
        exact List.mem_cons_of_mem _ this
    · next e =>
      have e2 : (ab_c ad w).category = 2 := by
        rcases w with n | ⟨⟨⟩ | q⟩ | L
        · cases e
        · cases e
        · cases e
        · rfl
      rw [if_pos e2]
      match i with
      | 0 =>
        have h := Option.some.inj (Option.some.inj h)
        subst h
        exact List.mem_cons_self
      | 1 => cases h
      | i + 2 =>
        have := ab_lv0_at ad vs (o + 2) i v h
        rw [show o + (i + 2) = o + 2 + i by omega]
        exact List.mem_cons_of_mem _ this
theorem ab_lv0_len (ad : Nat → Nat) : ∀ (vs : List ab_V), (ab_lv0 vs).length = (lg_sl (vs.map (ab_c ad))).length
  | [] => rfl
  | w :: vs => by
    have ih := ab_lv0_len ad vs
    unfold ab_lv0
    have e0 : lg_sl ((w :: vs).map (ab_c ad)) = (if (ab_c ad w).category = 2 then [Slot.val (ab_c ad w), .second] else [Slot.val (ab_c ad w)]) ++ lg_sl (vs.map (ab_c ad)) := rfl
    rw [e0]
    cases e : ab_c1 w with
    | true =>
      rw [if_neg (by rw [ab_cat1 e]; omega)]
      simp [ih]
    | false =>
      have e2 : (ab_c ad w).category = 2 := by
        rcases w with n | ⟨⟨⟩ | q⟩ | L
        · cases e
        · cases e
        · cases e
        · rfl
      rw [if_pos e2]
      simp [ih]
/-- a method's locals at its entry -/
def ab_ent (vs : List ab_V) (nL : Nat) : ab_L := ab_lv0 vs ++ List.replicate (nL - (ab_lv0 vs).length) none
/-- A METHOD: its code, its tables, and the walk of the abstract machine -/
theorem ab_MT.of {l : Launch} {y : MethodName} {cc : ByteArray} {nL : Nat} {ty fr lc : Nat} {own : String} {E : ab_E} {P : List ab_I} {M : List (Nat × ab_MI)} {sp : ab_Sp} (hy : plainName y.cls = true) (hown : y.cls = own) (hty : E.2.2.2 = ty) (hT : ab_okT own E.1 = true) (hP0 : P.all (ab_okI cc) = true) (hP1 : P.all (ab_okC1 own M E (fr, lc)) = true) (hC : ab_CT l M E)
    (h : ∀ (av : List ab_V) (cs : List ab_C) (Q : ab_Q), sp av cs Q → (ab_lv0 av).length ≤ nL ∧ ab_R E P Q 0 (ab_ent av nL) [] cs) : ab_MT l (y, cc, nL, ab_rty ty, fr, lc) sp := by
  intro G ad av cs Q sz hsp
  obtain ⟨hlen, hR⟩ := h av cs Q hsp
  refine Met.ofW (cc := cc) (maxL := nL) (ret := ab_rty ty) hy rfl ?_
  intro p e s m args below meth c s₁ B hml hv
  obtain ⟨rfl, hsz, hP, hKK, hD0, hZ⟩ := hv
  have hx := B.exec
  have hb := B.bytes
  have hr := B.returns
  have hts0 := atoms_spec (ws := .code y cc nL (ab_rty ty) :: ab_TB) B.pre
  have hts : ∀ w ∈ ab_TB, w.before (av.map (ab_c ad)).toArray s = true := fun w hw => hts0 w (List.mem_cons_of_mem _ hw)
  have hfc : s.vm.findClass own = some m.cls := by rw [← hown]; exact findClass_of_methodNamed B.named
  have hlocks := B.notSynchronized
  subst hsz
  have X : ab_X own cc nL p s m (av.map (ab_c ad)).toArray meth c G := ⟨hx, hb, hml, hfc, hts, hKK, hlocks⟩
  have hD : ab_Dn (ab_A ad cs.length s.heap.size) ad cs.length := ⟨hD0.1, fun k hk => Or.inl ⟨k, hk, rfl⟩⟩
  have hW := ab_sound (R := { frames := fr, cells := 0, slots := 0, locals := lc }) (cells := 0) (slots := 0) (below := below) (e := e) X hZ (by rw [hty]; exact hr) hT hP0 hP1 hC hD (fun q hq => Or.inr hq) ⟨Nat.le_refl 0, Nat.le_refl 0⟩ hR
  rw [lg_entry_eq]
  have hle := ab_lv0_len ad av
  have hl := lv_entry (av.map (ab_c ad)) (n := nL) (by rw [← hle]; exact hlen)
  refine hW rfl s.heap [] _ hP va_S.rf ⟨hl.1, hl.2.1, ?_, fun i v hi => ?_⟩
  · unfold ab_ent
    rw [List.length_append, List.length_replicate]
    omega
  · unfold ab_ent at hi
    have hil : i < (ab_lv0 av).length := by
      rcases Nat.lt_or_ge i (ab_lv0 av).length with q | q
      · exact q
      · rw [List.getElem?_append_right q] at hi
        have := List.eq_of_mem_replicate (List.mem_of_getElem? hi)
        cases this
    rw [List.getElem?_append_left hil] at hi
    have := ab_lv0_at ad av 0 i v hi
    rw [Nat.zero_add] at this
    exact hl.2.2 _ this
