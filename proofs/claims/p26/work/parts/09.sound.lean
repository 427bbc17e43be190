section ABV
variable {p : Program} {l : Launch} {e : Env} {R : Room} {s : State} {m : MethodId} {args : Array Value} {below : List Frame} {meth : Method} {c : Code} {own : String} {cc : ByteArray} {nL : Nat} {G : ab_G} {ad : Nat → Nat} {A : Nat → Prop} {N cells slots : Nat} {Qw : State → Prop} {E : ab_E} {Qr : ab_Q} {K : ab_K}
theorem ab_retL (ad : Nat → Nat) (r : Option ab_V) (st : List ab_V) : (ab_ret r st).map (ab_c ad) = (r.map (ab_c ad)).toList ++ st.map (ab_c ad) := by
  cases r <;> rfl
theorem ab_blind {G : ab_G} {ad : Nat → Nat} {av : List ab_V} {cs : List ab_C} {sz : Nat} : FrameBlind (ab_Pre G ad av cs sz) := by
  intro a U g mk ⟨h0, h1, h2, h3, h4, h5⟩
  exact ⟨h0, h1, h2, h3.same (u := U) (U := U.calling g mk a) rfl, h4, h5.same (u := U) (U := U.calling g mk a) rfl⟩
/-- a call, once its run is had: 'go': the walk goes on behind it -/
theorem ab_s_call {H : Heap} {locs : List Loc} {pc : Nat} {ls : Array Slot} {lv : ab_L} {st : List ab_V} {cs : List ab_C} {n n0 : Nat} {is : List Nat} {sp : ab_Sp} (hD : ab_Dn A ad N) (hA : ∀ q, s.heap.size ≤ q → A q) (hN : cs.length = N) (hP : va_P G.1 vwCl (ab_cs G ad cs) H) (hS : va_S A s.heap H locs) (hl : ab_lh ad ls nL lv)
    (hrun : ∀ (ad' : Nat → Nat) (av : List ab_V) (cs1 : List ab_C) (Q0 : ab_Q), sp av cs1 Q0 → av.map (ab_c ad') = (st.take n).reverse.map (ab_c ad) → va_P G.1 vwCl (ab_cs G ad' cs1) H → ab_Dn (fun _ => True) ad' cs1.length → (∀ q, ab_A ad' cs1.length H.size q → A q) →
      va_Run p l e R s m args below meth c H locs cells slots 0 0 (F0 m pc ls (st.map (ab_c ad))) ((st.drop n).map (ab_c ad)) (ab_Post G ad' Q0 cs1.length (ab_A ad' cs1.length H.size) ((st.take n).reverse.map (ab_c ad)).toArray) (ab_A ad' cs1.length H.size))
    (h : match is with
      | [] => ab_cl sp (st.take n).reverse cs (fun r cs' => cs'.length = cs.length → K (pc + 3) lv (ab_ret r (st.drop n)) cs')
      | _ => match (st.take n).all (ab_okV is), (ab_pick cs (is.take n0)).all (ab_okC is), Nat.beq (ab_pick cs (is.take n0)).length n0, ab_nd is with
        | true, true, true, true => ab_cl sp ((st.take n).reverse.map (ab_unV is)) ((ab_pick cs (is.take n0)).map (ab_unC is)) (fun r cs' => cs'.length = n0 → K (pc + 3) lv (ab_ret (r.map (ab_reV is)) (st.drop n)) (ab_back is (is.take n0) cs' cs))
        | _, _, _, _ => False)
    (hK : ∀ pc' lv' st' cs', K pc' lv' st' cs' → ab_W p l e R s m args below meth c nL G ad A N cells slots Qw pc' lv' st' cs') :
    W p l e R s m args below meth c H locs cells slots Qw (F0 m pc ls (st.map (ab_c ad))) := by
  cases is with
  | nil =>
    obtain ⟨Q0, hsp, hq⟩ := h
    have hAA : ∀ q, ab_A ad cs.length H.size q → A q := by
      rintro q (⟨k, hk, rfl⟩ | hq)
      · exact hD.2 k (hN ▸ hk)
      · exact hA q (Nat.le_trans hS.1 hq)
    have hr := hrun ad _ _ _ hsp rfl hP ⟨fun i j hi hj => hD.1 i j (hN ▸ hi) (hN ▸ hj), fun _ _ => trivial⟩ hAA
    refine ab_tail hr hS hAA (fun r cs' H1 locs1 h1 h2 h3 h4 h5 => ?_)
    · rw [← ab_retL]
      exact hK _ _ _ _ (hq r cs' h1 h2) (h2.trans hN) H1 locs1 ls h3 h5 hl
  | cons i0 is0 =>
    generalize hjd : i0 :: is0 = jd at h
    have h' : (match (st.take n).all (ab_okV jd), (ab_pick cs (jd.take n0)).all (ab_okC jd), Nat.beq (ab_pick cs (jd.take n0)).length n0, ab_nd jd with
        | true, true, true, true => ab_cl sp ((st.take n).reverse.map (ab_unV jd)) ((ab_pick cs (jd.take n0)).map (ab_unC jd)) (fun r cs' => cs'.length = n0 → K (pc + 3) lv (ab_ret (r.map (ab_reV jd)) (st.drop n)) (ab_back jd (jd.take n0) cs' cs))
        | _, _, _, _ => False) := by
      subst hjd
      exact h
    split at h'
    · next e1 e2 e3 e4 =>
      obtain ⟨Q0, hsp, hq⟩ := h'
      have e3 := Nat.eq_of_beq_eq_true e3
      have lt : (jd.take n0).length = n0 := by
        have h1 := ab_pick_len (is := jd.take n0) (cs := cs)
        have h2 : (jd.take n0).length ≤ n0 := by rw [List.length_take]; omega
        omega
      have hpl : (ab_pick cs (jd.take n0)).length = (jd.take n0).length := by omega
      have tk : ∀ {j k : Nat}, (jd.take n0)[j]? = some k → jd[j]? = some k ∧ jd.getD j 0 = k := by
        intro j k hj
        rw [List.getElem?_take] at hj
        split at hj
        · exact ⟨hj, by rw [List.getD_eq_getElem?_getD, hj]; rfl⟩
        · cases hj
      have ex : ∀ j : Nat, j < n0 → ∃ k, (jd.take n0)[j]? = some k ∧ k < N := by
        intro j hj
        have h1 : j < (jd.take n0).length := by omega
        refine ⟨_, List.getElem?_eq_getElem h1, ?_⟩
        rw [← hN]
        exact ab_pick_in hpl j _ (List.getElem?_eq_getElem h1)
      have hcl : ((ab_pick cs (jd.take n0)).map (ab_unC jd)).length = n0 := by rw [List.length_map]; exact e3
      have hPc : va_P G.1 vwCl (ab_cs G (fun j => ad (jd.getD j 0)) ((ab_pick cs (jd.take n0)).map (ab_unC jd))) H := by
        intro j q hj
        obtain ⟨y, hy, rfl⟩ := ab_cs_of hj
        rw [List.getElem?_map] at hy
        cases hx : (ab_pick cs (jd.take n0))[j]? with
        | none => rw [hx] at hy; cases hy
        | some x =>
          rw [hx] at hy
          have hy := Option.some.inj hy
          subst hy
          obtain ⟨k, hk1, hk2⟩ := ab_pick_at hpl j x hx
          rw [ab_unC_e (List.all_eq_true.mp e2 x (List.mem_of_getElem? hx)), (tk hk1).2]
          exact hP k _ (ab_cs_at hk2)
      have hDc : ab_Dn (fun _ => True) (fun j => ad (jd.getD j 0)) ((ab_pick cs (jd.take n0)).map (ab_unC jd)).length := by
        rw [hcl]
        refine ⟨fun i j hi hj hij => ?_, fun _ _ => trivial⟩
        obtain ⟨k1, a1, a2⟩ := ex i hi
        obtain ⟨k2, b1, b2⟩ := ex j hj
        dsimp only at hij
        rw [(tk a1).2, (tk b1).2] at hij
        have hkk := hD.1 k1 k2 a2 b2 hij
        subst hkk
        exact ab_nd_ne e4 i j k1 (tk a1).1 (tk b1).1
      have hav : ((st.take n).reverse.map (ab_unV jd)).map (ab_c (fun j => ad (jd.getD j 0))) = (st.take n).reverse.map (ab_c ad) := by
        rw [List.map_map]
        refine List.map_congr_left (fun v hv => ?_)
        exact ab_unV_c (List.all_eq_true.mp e1 v (List.mem_reverse.mp hv))
      have hAA : ∀ q, ab_A (fun j => ad (jd.getD j 0)) n0 H.size q → A q := by
        rintro q (⟨j, hj, rfl⟩ | hq)
        · obtain ⟨k1, a1, a2⟩ := ex j hj
          dsimp only
          rw [(tk a1).2]
          exact hD.2 k1 a2
        · exact hA q (Nat.le_trans hS.1 hq)
      have hr := hrun _ _ _ _ hsp hav hPc hDc (by rw [hcl]; exact hAA)
      rw [hcl] at hr
      refine ab_tail hr hS hAA (fun r cs' H1 locs1 h1 h2 h3 h4 h5 => ?_)
      have e5 : (r.map (ab_c (fun j => ad (jd.getD j 0)))).toList ++ (st.drop n).map (ab_c ad) = (ab_ret (r.map (ab_reV jd)) (st.drop n)).map (ab_c ad) := by
        rw [ab_retL]
        cases r with
        | none => rfl
        | some v =>
          show [ab_c (fun j => ad (jd.getD j 0)) v] ++ _ = [ab_c ad (ab_reV jd v)] ++ _
          rw [ab_reV_c]
      rw [e5]
      refine hK _ _ _ _ (hq r cs' h1 h2) ((ab_back_len _ _ _ _).trans hN) H1 locs1 ls ?_ h5 hl
      intro k q hk
      obtain ⟨x, hx, rfl⟩ := ab_cs_of hk
      rcases ab_back_at jd _ cs' cs k x hx with ⟨j, y, b1, b2, rfl⟩ | ⟨b1, b2⟩
      · rw [← ab_reC_e]
        have := h3 j _ (ab_cs_at b2)
        rw [(tk b1).2] at this
        exact this
      · have hk0 := hP k _ (ab_cs_at b1)
        refine hk0.kept (h4 _ hk0.lt ?_)
        rintro (⟨j, hj, hq2⟩ | hq2)
        · obtain ⟨k1, a1, a2⟩ := ex j hj
          dsimp only at hq2
          rw [(tk a1).2] at hq2
          have hkN : k < N := by rw [← hN]; exact ab_lt_of b1
          have := hD.1 k k1 hkN a2 hq2
          subst this
          exact b2 (by omega) j a1
        · exact absurd hk0.lt (Nat.not_lt.mpr hq2)
    · exact h'.elim
/-- the words of a callee -/
theorem ab_good {y : MethodName} {b : ByteArray} {mL : Nat} {ret : Option FieldType} (h : ab_inB (.code y b mL ret) = true) : GoodIn ab_TB (.code y b mL ret :: ab_TB) := by
  intro w hw
  rcases List.mem_cons.mp hw with rfl | hw
  · exact ab_TB_good _ (ab_inB.to h)
  · exact ab_TB_good w hw
theorem ab_drop_cons {st : List ab_V} {n : Nat} {v : ab_V} {r : List ab_V} (h : st.drop n = v :: r) : st = st.take n ++ v :: r ∧ st.take (n + 1) = st.take n ++ [v] ∧ st.drop (n + 1) = r ∧ (st.take n).length = n := by
  have e1 : st = st.take n ++ v :: r := by rw [← h, List.take_append_drop]
  have hn : n < st.length := by
    rcases Nat.lt_or_ge n st.length with q | q
    · exact q
    · rw [List.drop_eq_nil_of_le q] at h; cases h
  refine ⟨e1, ?_, ?_, by rw [List.length_take]; omega⟩
  · have h2 : st[n]? = some v := by
      rw [e1, List.getElem?_append_right (by rw [List.length_take]; omega), List.length_take, show n - min n st.length = 0 by omega]
      rfl
    rw [List.take_succ, h2]
    rfl
  · rw [← List.drop_drop, h]
    rfl
theorem ab_s_virt {M : List (Nat × ab_MI)} (X : ab_X own cc nL p s m args meth c G) (hZ : ab_Zs A s s.heap) (hC : ab_CT l M E) (hD : ab_Dn A ad N) (hA : ∀ q, s.heap.size ≤ q → A q) (hcs : cells ≤ R.cells ∧ slots ≤ R.slots) {pc nx ix : Nat} {tg : List (Int × Nat)} (hq : ab_okI cc (pc, .invokevirtual ix, nx, tg) = true) (hcl : ab_okC1 own M E (R.frames, R.locals) (pc, .invokevirtual ix, nx, tg) = true) {lv : ab_L} {st : List ab_V} {cs : List ab_C}
    (h : ab_w E Qr K (pc, .invokevirtual ix, nx, tg) lv st cs) (hK : ∀ pc' lv' st' cs', K pc' lv' st' cs' → ab_W p l e R s m args below meth c nL G ad A N cells slots Qw pc' lv' st' cs') : ab_W p l e R s m args below meth c nL G ad A N cells slots Qw pc lv st cs := by
  obtain ⟨hx, hb, hml, hown, hts, hKK, hlk⟩ := id X
  obtain ⟨hd0, hg⟩ := ab_and hq
  have hd : decode cc pc = .ok (.invokevirtual ix, nx - pc) := of_decide_eq_true hd0
  have e1 : nx = pc + 3 := Nat.eq_of_beq_eq_true hg
  subst e1
  rw [show pc + 3 - pc = 3 by omega] at hd
  intro hN H locs ls hP hS hl
  unfold ab_w at h
  dsimp only at h
  split at h
  · next ci hci =>
    obtain ⟨n, c0, is, n0, sp⟩ := ci
    unfold ab_okC1 at hcl
    dsimp only at hcl
    rw [hci] at hcl
    cases hmi : ab_look M pc with
    | none => rw [hmi] at hcl; cases hcl
    | some mi =>
      obtain ⟨y, b, mL, ret, fr, lc⟩ := mi
      rw [hmi] at hcl
      dsimp only at hcl
      obtain ⟨hcl, a10⟩ := ab_and hcl
      obtain ⟨hcl, a9⟩ := ab_and hcl
      obtain ⟨hcl, a8⟩ := ab_and hcl
      obtain ⟨hcl, a7⟩ := ab_and hcl
      obtain ⟨hcl, a6⟩ := ab_and hcl
      obtain ⟨hcl, a5⟩ := ab_and hcl
      obtain ⟨hcl, a4⟩ := ab_and hcl
      obtain ⟨hcl, a3⟩ := ab_and hcl
      obtain ⟨a1, a2⟩ := ab_and hcl
      have a7 := of_decide_eq_true a7
      have hMT := hC pc _ _ hci hmi
      obtain ⟨y1, y2⟩ := ab_and a1
      have y1 := of_decide_eq_true y1
      have y2 := of_decide_eq_true y2
      cases hpd : parseMethodDescriptor y.desc with
      | none => rw [hpd] at a7; cases a7
      | some sg =>
        rw [hpd] at a7
        have hn : sg.parameters.length + 1 = n := Option.some.inj a7
        unfold ab_call at h
        dsimp only at h
        split at h
        · next b1 b2 =>
          have b1 := Nat.le_of_ble_eq_true b1
          have b2 := Nat.le_of_ble_eq_true b2
          unfold ab_rcv at h
          split at h
          · next e0 =>
            rw [Nat.eq_of_beq_eq_true e0] at a8
            simp [vwCl] at a8
          · split at h
            · next k r hdr =>
              obtain ⟨fs, hk, h⟩ := ab_obj.of h
              obtain ⟨d1, d2, d3, d4⟩ := ab_drop_cons hdr
              have hn1 : n - 1 + 1 = n := by omega
              rw [hn1] at d2 d3
              cases hcl0 : vwCl[c0]? with
              | none => rw [hcl0] at a8; cases a8
              | some q0 =>
                obtain ⟨C, T, NN⟩ := q0
                rw [hcl0] at a8
                have hCy : C = y.cls := of_decide_eq_true a8
                refine ab_s_call (n := n) hD hA hN hP hS hl (fun ad' av cs1 Q0 hsp hav hP1 hD1 hA1 => ?_) h hK
                have eav : (st.take n).reverse.map (ab_c ad) = .ref (ad k) :: ((st.take (n - 1)).reverse.map (ab_c ad)) := by
                  rw [d2, List.reverse_append]
                  rfl
                have estk : st.map (ab_c ad) = ((st.take (n - 1)).reverse.map (ab_c ad)).reverse ++ .ref (ad k) :: (st.drop n).map (ab_c ad) := by
                  rw [← List.map_reverse, List.reverse_reverse, d3]
                  conv => lhs; rw [d1]
                  rw [List.map_append]
                  rfl
                have hM := hMT G ad' av cs1 Q0 H.size hsp
                have hpv : PreV s H y.cls (ad k) (ab_Pre G ad' av cs1 H.size) ((st.take (n - 1)).reverse.map (ab_c ad)) := by
                  refine ⟨ab_blind, ?_, fun U hU hW => ⟨?_, by rw [hU], by rw [hU]; exact hP1, hKK.warm hW, hD1, hZ.to hS hW hU hA1⟩⟩
                  · have := va_recv hKK.1 hP hcl0 (ab_cs_at hk)
                    rw [← hCy]
                    exact this
                  · show (Value.ref (ad k) :: ((st.take (n - 1)).reverse.map (ab_c ad))).toArray = _
                    rw [← eav, hav]
                have hn2 : ((st.take (n - 1)).reverse.map (ab_c ad)).length = sg.parameters.length := by
                  rw [List.length_map, List.length_reverse, d4]
                  omega
                have hR : fr + 1 ≤ R.frames ∧ 8 + (mL + 11) + lc ≤ R.locals := ⟨Nat.le_of_ble_eq_true a9, Nat.le_of_ble_eq_true a10⟩
                have hdd : y.cls ≠ "java/lang/invoke/MethodHandle" ∧ y.cls ≠ "java/lang/invoke/VarHandle" ∧ (parseMethodDescriptor y.desc).map (fun d => d.parameters.length) = some sg.parameters.length := ⟨y1, y2, by rw [hpd]; rfl⟩
                have hroom : 2 * (F0 m pc ls (st.map (ab_c ad))).monitorRoom + (((st.drop n).map (ab_c ad)).map fun v => v.category).sum ≤ 8 := lv_room (by rw [ab_catS]; exact b2)
                rw [eav]
                rcases Bool.or_eq_true_iff.mp a6 with a6 | a6
                · exact va_runV (mc := 0) (ms := 0) (n := sg.parameters.length) ⟨hx, hb, hml, hown, hts⟩ hM ⟨callB_of sg.parameters.length hts (ab_good a2) rfl rfl rfl (hts _ (ab_inB.to a3)) (hts _ (ab_inB.to a6)) hdd hR, hts _ (ab_inB.to a4), hts _ (ab_inB.to a5)⟩ hpv rfl hn2 hl.1 estk hroom hd hcs
                · have hw : Jvm.Cond.methodLinkNest own ix y "RootChunks" ∈ ab_nw := of_decide_eq_true a6
                  exact va_runVN (mc := 0) (ms := 0) (n := sg.parameters.length) (host := "RootChunks") ⟨hx, hb, hml, hown, hts⟩ hM ⟨va_cnB sg.parameters.length hts (ab_good a2) rfl rfl rfl (hKK.2 _ hw) (hts _ (ab_inB.to a3)) hdd hR, hts _ (ab_inB.to a4), hts _ (ab_inB.to a5)⟩ hpv rfl hn2 hl.1 estk hroom hd hcs
            · exact h.elim
        · exact h.elim
  · exact h.elim
end ABV
