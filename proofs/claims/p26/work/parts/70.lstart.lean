/-! THE LAW, FROM ITS ENTRY -/
def lx_ad (b : Nat) (l : List Nat) : Nat → Nat := fun k => if k = 2000 then b else l.getD k 0
def lx_G (dC : Nat → ClassId) (dI : Nat → Nat → Nat) (cI cC cZ cO : ClassId) : ab_G := ((dC, dI), fun t => if t = 0 then cI else if t = 1 then cC else if t = 2 then cZ else cO)
def lx_f (xs : Nat → Int32) : Int → Int := fun j => (xs j.toNat).toInt
theorem lx_f_r (xs : Nat → Int32) (j : Int) : ab_r (lx_f xs j) := mb_ri _
theorem lx_ret {p : Program} {l : Launch} {e : Env} {s : State} {m : MethodId} {below : List Frame} {meth : Method} {c : Code} {b : Nat} {A : Nat → Prop} (hx : p.tables.exec = Jvm.exec) (hb : c.code = code) (hr : meth.sig.returnType = ret) (hlocks : meth.locks = false) (hAs : ∀ q, A q → s.heap.size ≤ q) (pc : Nat) (H : Heap) (locs : List Loc) (ls : Array Slot) (hd : decode code pc = .ok (.ireturn, 1)) (hS : va_S A s.heap H locs) :
    W p l e room_1 s m #[Value.ref b] below meth c H locs 58 2636 (lw_Z below #[Value.ref b] s) (F0 m pc ls [.int 1]) := by
  refine va_forget (fun q hq => hAs _ (hS.2.2 q hq)) ?_
  exact W.widen (k := 600000) (n := 7302250) (Nat.le_of_ble_eq_true rfl) (Nat.le_of_ble_eq_true rfl) (lw_ret hx hb hr hlocks hd)
theorem dl_0 : decode code 0 = .ok (.new 13, 3) := by decide +kernel
theorem dl_3 : decode code 3 = .ok (.dup, 1) := by decide +kernel
theorem dl_4 : decode code 4 = .ok (.invokespecial 55, 3) := by decide +kernel
theorem dl_7 : decode code 7 = .ok (.astore_n 1, 1) := by decide +kernel
set_option maxRecDepth 100000 in
set_option maxHeartbeats 4000000 in
theorem whole_start {p : Program} {e : Env} {s : State} {m : MethodId} {below : List Frame} {meth : Method} {c : Code} (l : Launch) (hflags : l.flags = flags0) {b L : Nat} {xs : Nat → Int32} (hL : L ≤ 260) (C0 : lw_At p s m meth c b L xs) : W p l e room_1 s m #[Value.ref b] below meth c s.heap [] 0 0 (lw_Z below #[Value.ref b] s) (entryFrame m ([Value.ref b] : List Value).toArray 16) := by
  obtain ⟨hx, hb, hr, hml, hown, hts0, hX, hbl, hlocks, hgv⟩ := id C0
  have hts : ∀ w ∈ ab_TB, w.before #[Value.ref b] s = true := fun w hw => hts0 w (List.mem_filter.mp hw).1
  have hN : ka_N s := ⟨va_AO.of (hts0 (.arrayOver (.object "RootChunks$Row")) (by decide +kernel)), fun w hw => va_Nw.of (ab_isN_on (List.mem_filter.mp hw).2) (hts0 w (List.mem_append_right _ (List.mem_filter.mp hw).1))⟩
  obtain ⟨A, hAe⟩ : ∃ A : Nat → Prop, A = fun q => s.heap.size ≤ q := ⟨_, rfl⟩
  have hZ0 : ab_Zs A s s.heap := trivial
  have hA : ∀ q : Nat, s.heap.size ≤ q → A q := fun q h => by rw [hAe]; exact h
  have hAs : ∀ q : Nat, A q → s.heap.size ≤ q := fun q h => by rw [hAe] at h; exact h
  have hbA : ¬ A b := fun h => absurd hbl (Nat.not_lt.mpr (hAs b h))
  obtain ⟨d0, i0, hKn0⟩ := u_known (C := RX0) (T := TX0) (N := 5) (n := 5) hts (ab_clf (ci := 0) (C := RX0) (T := TX0) (N := 5) rfl).1 (hts _ (ab_inB.to (w := .instantiable RX0 5) (by decide +kernel)))
  obtain ⟨d1, i1, hKn1⟩ := u_known (C := RX1) (T := TX1) (N := 7) (n := 7) hts (ab_clf (ci := 1) (C := RX1) (T := TX1) (N := 7) rfl).1 (hts _ (ab_inB.to (w := .instantiable RX1 7) (by decide +kernel)))
  obtain ⟨d2, i2, hKn2⟩ := u_known (C := RX2) (T := TX2) (N := 8) (n := 8) hts (ab_clf (ci := 2) (C := RX2) (T := TX2) (N := 8) rfl).1 (hts _ (ab_inB.to (w := .instantiable RX2 8) (by decide +kernel)))
  obtain ⟨dC, dI, hKc⟩ : ∃ (dC : Nat → ClassId) (dI : Nat → Nat → Nat), ∀ (k : Nat) (q : vw_C), vwCl[k]? = some q → u_Kn s q.1 q.2.1 q.2.2 (dC k) (dI k) := by
    refine ⟨fun k => if k = 0 then d0 else if k = 1 then d1 else d2, fun k => if k = 0 then i0 else if k = 1 then i1 else i2, ?_⟩
    intro k q hq
    match k, hq with
    | 0, hq => cases hq; exact hKn0
    | 1, hq => cases hq; exact hKn1
    | 2, hq => cases hq; exact hKn2
    | k + 3, hq => simp [vwCl] at hq
  have hS : va_S A s.heap s.heap [] := va_S.rf
  have hK : va_K (dC, dI) vwCl [] s := ⟨hKc, fun k q h => by simp at h⟩
  have hP : va_P (dC, dI) vwCl [] s.heap := fun k q h => by simp at h
  have hD : va_D A [] := ⟨fun i j p q h => by simp at h, fun k q h => by simp at h⟩
  have hl := lv_entry ([.ref b]) (n := 16) (Nat.le_of_ble_eq_true rfl)
  rw [lg_entry_eq]
  generalize (lg_sl ([.ref b]) ++ List.replicate (16 - (lg_sl ([.ref b])).length) Slot.unset).toArray = ls at hl ⊢
  have hl : lv_has ls 16 [(0, .ref b)] := hl
  refine va_new (ci := 2) (fs := [.null, .null, .null, .int 0, .null, .null, .null, .null]) (C := RX2) (T := TX2) (N := 8) hx hb hts (ab_clf (ci := 2) (C := RX2) (T := TX2) (N := 8) rfl).1 tyX2 tyX2_ok hown (hts _ (ab_inB.to (w := .classLink R_law 13 RX2) (by decide +kernel))) (hts _ (ab_inB.to (w := .instantiable RX2 8) (by decide +kernel))) (hts _ (ab_inB.to (w := .initialized RX2) (by decide +kernel))) hK hP hD hS hA rfl (fun j hj => match j, hj with | 0, _ => rfl | 1, _ => rfl | 2, _ => rfl | 3, _ => rfl | 4, _ => rfl | 5, _ => rfl | 6, _ => rfl | 7, _ => rfl | j + 8, hj => absurd hj (by omega)) (Nat.le_of_ble_eq_true rfl) (Nat.le_of_ble_eq_true rfl) dl_0 (fun x H hP hD hS => ?_)
  have hP : va_P (dC, dI) vwCl ([] ++ [(x, .inr (2, [.null, .null, .null, .int 0, .null, .null, .null, .null]))]) H := hP
  have hD : va_D A ([] ++ [(x, .inr (2, [.null, .null, .null, .int 0, .null, .null, .null, .null]))]) := hD
  refine W.cs (cells' := 1) (slots' := 8) rfl rfl ?_
  refine lv_dup hx hb dl_3 rfl ?_
  have hPc := ka_cutP (ws0 := []) (cx := [(x, .inr (2, [.null, .null, .null, .int 0, .null, .null, .null, .null]))]) hP
  have hDc := ka_cutD (ws0 := []) (cx := [(x, .inr (2, [.null, .null, .null, .int 0, .null, .null, .null, .null]))]) hD
  have hKc1 := hK.sub (tys' := []) [] rfl
  have hFc := ka_free (ws0 := []) (cx := [(x, .inr (2, [.null, .null, .null, .int 0, .null, .null, .null, .null]))]) hD hS hA
  refine va_callv (va_runI (mc := 57) (ms := 2628) (As := []) (rest := [.ref x]) ⟨hx, hb, hml, hown, hts⟩ (kc_X2_init l dC dI x H.size) (cwI 0 hts (ab_good (y := yX2_init) (b := cX2_init) (mL := 1) (ret := none) (by decide +kernel)) rfl rfl rfl (hts _ (ab_inB.to (w := .initialized yX2_init.cls) (by decide +kernel))) (hts _ (ab_inB.to (w := .methodLink R_law 55 yX2_init) (by decide +kernel))) (hts _ (ab_inB.to (w := .instanceMethod yX2_init) (by decide +kernel))) rfl (by decide +kernel) ⟨Nat.le_of_ble_eq_true rfl, Nat.le_of_ble_eq_true rfl⟩) ⟨fun a U g mk q => by obtain ⟨q0, q1, qP, qK, qD, qN⟩ := q; exact ⟨q0, q1, qP, va_K.moved (u := U) (U := U.calling g mk a) (Vm.Alike.refl U.vm) qK, qD, ka_N.same (u := U) (U := U.calling g mk a) rfl qN⟩, fun U hU hW => ⟨rfl, by rw [hU], by rw [hU]; exact hPc, va_K.moved hW.alike hKc1, hDc.weaken (fun _ _ _ _ => trivial), hN.warm hW⟩⟩ rfl rfl hl.1 rfl (lv_room (Nat.le_of_ble_eq_true rfl)) dl_4 ⟨Nat.le_of_ble_eq_true rfl, Nat.le_of_ble_eq_true rfl⟩) hS (fun q _ h => hFc q h) hFc (fun u t H1 locs ht hvm hw hB hz1 hk1 hS => ?_)
  obtain ⟨uqa, uqa1, uqa2, uqa3, uqa4, uqb, uqb1, uqb2, uqb3, uqb4, uqh, uqhr0, uqhw01, uqhw02, uqhw03, uqhw04, uqhr1, uqhw11, uqhw12, uqhw13, uqhw14, uqhr2, uqhw21, uqhw22, uqhw23, uqhw24, uqhr3, uqhw31, uqhw32, uqhw33, uqhw34, uqhr4, uqhw41, uqhw42, uqhw43, uqhw44, uqhr5, uqhw51, uqhw52, uqhw53, uqhw54, uqs, uqsr0, uqsw01, uqsw02, uqsw03, uqsw04, uqsr1, uqsw11, uqsw12, uqsw13, uqsw14, uqz, uqp, uqp1, uqp2, uqf, kI, kO, kZ, kC, hP1, hK1, hD1⟩ := hB
  rw [ht] at hP1
  have hK1 := va_K.moved hvm.symm hK1
  obtain ⟨hP, hD⟩ := ka_join (ws0 := []) (cx := [(x, .inr (2, [.null, .null, .null, .int 0, .null, .null, .null, .null]))]) hP hD hk1 hFc hP1 hD1
  have hK : va_K (dC, dI) vwCl [(kI, .int), (kO, .object "RootChunks$Row"), (kZ, .boolean), (kC, .char)] s := hK1
  clear hP1 hD1 hK1 hPc hDc hKc1 hFc hk1
  generalize H1 = H at hP hS ⊢
  have hP : va_P (dC, dI) vwCl (kw_Cls x uqa uqa1 uqa2 uqa3 uqa4 uqb uqb1 uqb2 uqb3 uqb4 uqh uqhr0 uqhw01 uqhw02 uqhw03 uqhw04 uqhr1 uqhw11 uqhw12 uqhw13 uqhw14 uqhr2 uqhw21 uqhw22 uqhw23 uqhw24 uqhr3 uqhw31 uqhw32 uqhw33 uqhw34 uqhr4 uqhw41 uqhw42 uqhw43 uqhw44 uqhr5 uqhw51 uqhw52 uqhw53 uqhw54 uqs uqsr0 uqsw01 uqsw02 uqsw03 uqsw04 uqsr1 uqsw11 uqsw12 uqsw13 uqsw14 uqz uqp uqp1 uqp2 uqf kI kO kZ kC) H := hP
  have hD : va_D A (kw_Cls x uqa uqa1 uqa2 uqa3 uqa4 uqb uqb1 uqb2 uqb3 uqb4 uqh uqhr0 uqhw01 uqhw02 uqhw03 uqhw04 uqhr1 uqhw11 uqhw12 uqhw13 uqhw14 uqhr2 uqhw21 uqhw22 uqhw23 uqhw24 uqhr3 uqhw31 uqhw32 uqhw33 uqhw34 uqhr4 uqhw41 uqhw42 uqhw43 uqhw44 uqhr5 uqhw51 uqhw52 uqhw53 uqhw54 uqs uqsr0 uqsw01 uqsw02 uqsw03 uqsw04 uqsr1 uqsw11 uqsw12 uqsw13 uqsw14 uqz uqp uqp1 uqp2 uqf kI kO kZ kC) := hD
  refine W.cs (cells' := 58) (slots' := 2636) rfl rfl ?_
  refine lv_astore_n (lv' := [(1, .ref x), (0, .ref b)]) hx hb dl_7 rfl hl (by decide) rfl (fun ls hl => ?_)
  have hP : va_P (lx_G dC dI kI kC kZ kO).1 vwCl (lx_W0 kI kO kZ kC (lx_ad b [x, uqa, uqa1, uqa2, uqa3, uqa4, uqb, uqb1, uqb2, uqb3, uqb4, uqh, uqhr0, uqhw01, uqhw02, uqhw03, uqhw04, uqhr1, uqhw11, uqhw12, uqhw13, uqhw14, uqhr2, uqhw21, uqhw22, uqhw23, uqhw24, uqhr3, uqhw31, uqhw32, uqhw33, uqhw34, uqhr4, uqhw41, uqhw42, uqhw43, uqhw44, uqhr5, uqhw51, uqhw52, uqhw53, uqhw54, uqs, uqsr0, uqsw01, uqsw02, uqsw03, uqsw04, uqsr1, uqsw11, uqsw12, uqsw13, uqsw14, uqz, uqp, uqp1, uqp2, uqf])) H := hP
  have hD : va_D A (lx_W0 kI kO kZ kC (lx_ad b [x, uqa, uqa1, uqa2, uqa3, uqa4, uqb, uqb1, uqb2, uqb3, uqb4, uqh, uqhr0, uqhw01, uqhw02, uqhw03, uqhw04, uqhr1, uqhw11, uqhw12, uqhw13, uqhw14, uqhr2, uqhw21, uqhw22, uqhw23, uqhw24, uqhr3, uqhw31, uqhw32, uqhw33, uqhw34, uqhr4, uqhw41, uqhw42, uqhw43, uqhw44, uqhr5, uqhw51, uqhw52, uqhw53, uqhw54, uqs, uqsr0, uqsw01, uqsw02, uqsw03, uqsw04, uqsr1, uqsw11, uqsw12, uqsw13, uqsw14, uqz, uqp, uqp1, uqp2, uqf])) := hD
  obtain ⟨hP2, hD2⟩ := lx_world (G := lx_G dC dI kI kC kZ kO) (n := (lx_ad b [x, uqa, uqa1, uqa2, uqa3, uqa4, uqb, uqb1, uqb2, uqb3, uqb4, uqh, uqhr0, uqhw01, uqhw02, uqhw03, uqhw04, uqhr1, uqhw11, uqhw12, uqhw13, uqhw14, uqhr2, uqhw21, uqhw22, uqhw23, uqhw24, uqhr3, uqhw31, uqhw32, uqhw33, uqhw34, uqhr4, uqhw41, uqhw42, uqhw43, uqhw44, uqhr5, uqhw51, uqhw52, uqhw53, uqhw54, uqs, uqsr0, uqsw01, uqsw02, uqsw03, uqsw04, uqsr1, uqsw11, uqsw12, uqsw13, uqsw14, uqz, uqp, uqp1, uqp2, uqf])) hP hD
  have hKK : ab_KK (lx_G dC dI kI kC kZ kO) s := ⟨hK.sub (tys' := ab_tys (lx_G dC dI kI kC kZ kO)) [0, 3, 2, 1] rfl, hN.2⟩
  have XX : ab_X "RootChunksLaw" code 16 p s m #[Value.ref b] meth c (lx_G dC dI kI kC kZ kO) := ⟨hx, hb, hml, hown, hts, hKK, hlocks⟩
  have hw := ll_law (f := lx_f xs) (L := (L : Int)) (lx_f_r xs) lx_invX
  have hgo := lx_sound (E := E_L_law) (M := M_L_law) (P := P_L_law) (R := room_1) (l := l) (e := e) (below := below) (cells := 58) (slots := 2636) (Qw := lw_Z below #[Value.ref b] s) (ad := (lx_ad b [x, uqa, uqa1, uqa2, uqa3, uqa4, uqb, uqb1, uqb2, uqb3, uqb4, uqh, uqhr0, uqhw01, uqhw02, uqhw03, uqhw04, uqhr1, uqhw11, uqhw12, uqhw13, uqhw14, uqhr2, uqhw21, uqhw22, uqhw23, uqhw24, uqhr3, uqhw31, uqhw32, uqhw33, uqhw34, uqhr4, uqhw41, uqhw42, uqhw43, uqhw44, uqhr5, uqhw51, uqhw52, uqhw53, uqhw54, uqs, uqsr0, uqsw01, uqsw02, uqsw03, uqsw04, uqsr1, uqsw11, uqsw12, uqsw13, uqsw14, uqz, uqp, uqp1, uqp2, uqf])) (xs := xs) (fun j _ => rfl) (by omega) hX hbl hbA rfl XX hZ0 tk_L pk_L_law ck_L_law lw_P2 (ll_ct l) hD2 hA ⟨Nat.le_of_ble_eq_true rfl, Nat.le_of_ble_eq_true rfl⟩ ⟨Nat.le_of_ble_eq_true rfl, Nat.le_of_ble_eq_true rfl⟩ (fun pc H locs ls hd hS => lx_ret hx hb hr hlocks hAs pc H locs ls hd hS) hw
  refine hgo lx_cs0_len H _ ls hP2 hS ⟨hl.1, hl.2.1, rfl, fun i v hi => ?_⟩
  match i, hi with
  | 0, hi => cases hi; exact hl.2.2 (0, .ref b) (by simp)
  | 1, hi => cases hi; exact hl.2.2 (1, .ref x) (by simp)
  | 2, hi => cases hi
  | 3, hi => cases hi
  | 4, hi => cases hi
  | 5, hi => cases hi
  | 6, hi => cases hi
  | 7, hi => cases hi
  | 8, hi => cases hi
  | 9, hi => cases hi
  | 10, hi => cases hi
  | 11, hi => cases hi
  | 12, hi => cases hi
  | 13, hi => cases hi
  | 14, hi => cases hi
  | 15, hi => cases hi
  | i + 16, hi => cases hi
