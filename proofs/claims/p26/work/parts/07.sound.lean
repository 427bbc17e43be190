section ABT
variable {p : Program} {l : Launch} {e : Env} {R : Room} {s : State} {m : MethodId} {args : Array Value} {below : List Frame} {meth : Method} {c : Code} {own : String} {cc : ByteArray} {nL : Nat} {G : ab_G} {ad : Nat → Nat} {A : Nat → Prop} {N cells slots : Nat} {Qw : State → Prop} {E : ab_E} {Qr : ab_Q} {K : ab_K}
theorem ab_s_getf (X : ab_X own cc nL p s m args meth c G) (hT : ab_okT own E.1 = true) {pc nx ix : Nat} {tg : List (Int × Nat)} (hq : ab_okI cc (pc, .getfield ix, nx, tg) = true) {lv : ab_L} {st : List ab_V} {cs : List ab_C}
    (h : ab_w E Qr K (pc, .getfield ix, nx, tg) lv st cs) (hK : ∀ pc' lv' st' cs', K pc' lv' st' cs' → ab_W p l e R s m args below meth c nL G ad A N cells slots Qw pc' lv' st' cs') : ab_W p l e R s m args below meth c nL G ad A N cells slots Qw pc lv st cs := by
  obtain ⟨hx, hb, hml, hown, hts, hKK, hlk⟩ := id X
  obtain ⟨hd0, hg⟩ := ab_and hq
  have hd : decode cc pc = .ok (.getfield ix, nx - pc) := of_decide_eq_true hd0
  have e1 : nx = pc + 3 := Nat.eq_of_beq_eq_true hg
  subst e1
  rw [show pc + 3 - pc = 3 by omega] at hd
  intro hN H locs ls hP hS hl
  obtain ⟨k, r, rfl, h1⟩ := ab_p1.of h
  obtain ⟨ci, fi, nest, ty, fs, v, g1, g2, g3, g4⟩ := ab_getf.of h1
  have h3 := List.all_eq_true.mp (ab_and hT).1 _ (ab_look_in g1)
  unfold ab_okF at h3
  dsimp only at h3
  split at h3
  · next C T NN hC =>
    obtain ⟨h4, h5⟩ := ab_and h3
    obtain ⟨h6, h7⟩ := ab_and h4
    have hk : fi < NN := of_decide_eq_true h6
    obtain ⟨w1, -, -⟩ := ab_clf hC
    have he := ab_cs_at (G := G) (ad := ad) g2
    have hv : (fs.map (ab_c ad))[fi]? = some (ab_c ad v) := by rw [List.getElem?_map, g3]; rfl
    cases nest with
    | true =>
      have hw : Jvm.Cond.fieldLinkNest own ix (T fi).1 (T fi).2.1 (T fi).2.2.1 "RootChunks" ∈ ab_nw := of_decide_eq_true h7
      exact va_getN hx hb hts w1 hown hKK.1 hP k he hC fi hk (va_Nw.use rfl (hKK.2 _ hw)) (fun _ q => q) hv hd (hK _ _ _ _ g4 hN H locs ls hP hS hl)
    | false =>
      exact va_get hx hb hts w1 hown hKK.1 hP k he hC fi hk (hts _ (ab_inB.to h7)) (fun _ q => q) hv hd (hK _ _ _ _ g4 hN H locs ls hP hS hl)
  · cases h3
theorem ab_s_putf (X : ab_X own cc nL p s m args meth c G) (hT : ab_okT own E.1 = true) (hD : ab_Dn A ad N) {pc nx ix : Nat} {tg : List (Int × Nat)} (hq : ab_okI cc (pc, .putfield ix, nx, tg) = true) {lv : ab_L} {st : List ab_V} {cs : List ab_C}
    (h : ab_w E Qr K (pc, .putfield ix, nx, tg) lv st cs) (hK : ∀ pc' lv' st' cs', K pc' lv' st' cs' → ab_W p l e R s m args below meth c nL G ad A N cells slots Qw pc' lv' st' cs') : ab_W p l e R s m args below meth c nL G ad A N cells slots Qw pc lv st cs := by
  obtain ⟨hx, hb, hml, hown, hts, hKK, hlk⟩ := id X
  obtain ⟨hd0, hg⟩ := ab_and hq
  have hd : decode cc pc = .ok (.putfield ix, nx - pc) := of_decide_eq_true hd0
  have e1 : nx = pc + 3 := Nat.eq_of_beq_eq_true hg
  subst e1
  rw [show pc + 3 - pc = 3 by omega] at hd
  intro hN H locs ls hP hS hl
  unfold ab_w at h
  dsimp only at h
  split at h
  · next v k r =>
    obtain ⟨ci, fi, nest, ty, fs, g1, g2, g3, g4⟩ := ab_putf.of h
    obtain ⟨t1, g5, g6⟩ := ab_fit.of g4
    have h3 := List.all_eq_true.mp (ab_and hT).1 _ (ab_look_in g1)
    unfold ab_okF at h3
    dsimp only at h3
    split at h3
    · next C T NN hC =>
      obtain ⟨h4, h5⟩ := ab_and h3
      obtain ⟨h6, h7⟩ := ab_and h4
      have hk : fi < NN := of_decide_eq_true h6
      obtain ⟨w1, ⟨ty0, w2⟩, w3⟩ := ab_clf hC
      have he := ab_cs_at (G := G) (ad := ad) g2
      have hb3 : Nat.ble 3 ty = false := by
        cases hz : Nat.ble 3 ty with
        | false => rfl
        | true => have := Nat.le_of_ble_eq_true hz; omega
      rw [hb3, Bool.false_or] at h5
      obtain ⟨h8, h9⟩ := ab_and h5
      have hd5 := of_decide_eq_true h8
      have hfin : (T fi).2.2.2 = false := by
        cases hz : (T fi).2.2.2 with
        | false => rfl
        | true => rw [hz] at h9; cases h9
      have kk : ∀ (H1 : Heap) (locs1 : List Loc), va_P G.1 vwCl ((ab_cs G ad cs).set k (ad k, .inr (ci, (fs.map (ab_c ad)).set fi (ab_c ad v)))) H1 → va_D A ((ab_cs G ad cs).set k (ad k, .inr (ci, (fs.map (ab_c ad)).set fi (ab_c ad v)))) → va_S A s.heap H1 locs1 → W p l e R s m args below meth c H1 locs1 cells slots Qw (F0 m (pc + 3) ls (r.map (ab_c ad))) := by
        intro H1 locs1 hP1 hD1 hS1
        have e5 : ((ab_cs G ad cs).set k (ad k, .inr (ci, (fs.map (ab_c ad)).set fi (ab_c ad v)))) = ab_cs G ad (cs.set k (.inl (ci, fs.set fi v))) := by
          rw [← ab_cs_set, ab_e, List.map_set]
        rw [e5] at hP1
        exact hK _ _ _ _ g5 (by rw [List.length_set]; exact hN) H1 locs1 ls hP1 hS1 hl
      cases nest with
      | true =>
        have hw : Jvm.Cond.fieldLinkNest own ix (T fi).1 (T fi).2.1 (T fi).2.2.1 "RootChunks" ∈ ab_nw := of_decide_eq_true h7
        exact va_putN hx hb hts w1 ty0 w2 w3 hown hKK.1 hP (hD.to hN) hS k he hC fi hk (va_Nw.use rfl (hKK.2 _ hw)) (fun _ q => q) hfin hd5 (g6 ad).1 (g6 ad).2 (by rw [List.length_map]; exact g3) hd kk
      | false =>
        exact va_put hx hb hts w1 ty0 w2 w3 hown hKK.1 hP (hD.to hN) hS k he hC fi hk (hts _ (ab_inB.to h7)) (fun _ q => q) hfin hd5 (g6 ad).1 (g6 ad).2 (by rw [List.length_map]; exact g3) hd kk
    · cases h3
  · exact h.elim
theorem ab_cs_arr {cs : List ab_C} {k t n : Nat} {g : Int → Int} (h : cs[k]? = some (.inr (.inl (t, n, g)))) : (ab_cs G ad cs)[k]? = some (ad k, .inl (G.2 t, n, .inl (fun j => Int32.ofInt (g j)))) := ab_cs_at h
theorem ab_s_arr (X : ab_X own cc nL p s m args meth c G) (hD : ab_Dn A ad N) {pc nx : Nat} {i : Instr} {tg : List (Int × Nat)} (hq : ab_okI cc (pc, i, nx, tg) = true) {lv : ab_L} {st : List ab_V} {cs : List ab_C}
    (hi : i = .iaload ∨ i = .caload ∨ i = .baload ∨ i = .iastore ∨ i = .castore ∨ i = .bastore ∨ i = .aaload ∨ i = .aastore ∨ i = .arraylength)
    (h : ab_w E Qr K (pc, i, nx, tg) lv st cs) (hK : ∀ pc' lv' st' cs', K pc' lv' st' cs' → ab_W p l e R s m args below meth c nL G ad A N cells slots Qw pc' lv' st' cs') : ab_W p l e R s m args below meth c nL G ad A N cells slots Qw pc lv st cs := by
  obtain ⟨hx, hb, hml, hown, hts, hKK, hlk⟩ := id X
  obtain ⟨hd0, hg⟩ := ab_and hq
  have hd : decode cc pc = .ok (i, nx - pc) := of_decide_eq_true hd0
  have e1 : nx = pc + 1 := by rcases hi with rfl | rfl | rfl | rfl | rfl | rfl | rfl | rfl | rfl <;> exact Nat.eq_of_beq_eq_true hg
  subst e1
  rw [show pc + 1 - pc = 1 by omega] at hd
  intro hN H locs ls hP hS hl
  have wr : ∀ {k t n : Nat} {g : Int → Int} {i x : Int} {r : List ab_V}, 0 ≤ i → i < n → n < 1000000 → K (pc + 1) lv r (cs.set k (.inr (.inl (t, n, ab_up g i x)))) →
      ∀ (H1 : Heap) (locs1 : List Loc), va_P G.1 vwCl ((ab_cs G ad cs).set k (ad k, .inl (G.2 t, n, .inl (upd (fun j : Nat => Int32.ofInt (g j)) (Int32.ofInt i).toNatClampNeg (Int32.ofInt x))))) H1 → va_S A s.heap H1 locs1 → W p l e R s m args below meth c H1 locs1 cells slots Qw (F0 m (pc + 1) ls (r.map (ab_c ad))) := by
    intro k t n g i x r h0 h1 h2 hk H1 locs1 hP1 hS1
    rw [← ab_upE g i x h0 ⟨by omega, by omega⟩] at hP1
    have e5 : ((ab_cs G ad cs).set k (ad k, .inl (G.2 t, n, .inl (fun j : Nat => Int32.ofInt (ab_up g i x j))))) = ab_cs G ad (cs.set k (.inr (.inl (t, n, ab_up g i x)))) := ab_cs_set G ad cs k (.inr (.inl (t, n, ab_up g i x)))
    rw [e5] at hP1
    exact hK _ _ _ _ hk (by rw [List.length_set]; exact hN) H1 locs1 ls hP1 hS1 hl
  rcases hi with rfl | rfl | rfl | rfl | rfl | rfl | rfl | rfl | rfl
  · obtain ⟨k, i, r, rfl, h1⟩ := ab_pi.of h
    obtain ⟨n, g, h2, h3, ⟨h4, h5⟩, h6⟩ := ab_arr.of h1
    obtain ⟨h7, h8⟩ := ab_in h4 h5 (by omega)
    refine va_iald hx hb hKK.1 hP k 0 (ab_cs_arr h2) rfl h7 hd ?_
    have h9 := hK _ _ _ _ h6 hN H locs ls hP hS hl
    show W p l e R s m args below meth c H locs cells slots Qw (F0 m (pc + 1) ls (.int (Int32.ofInt (g ((Int32.ofInt i).toNatClampNeg : Nat))) :: r.map (ab_c ad)))
    rw [h8]
    exact h9
  · obtain ⟨k, i, r, rfl, h1⟩ := ab_pi.of h
    obtain ⟨n, g, h2, h3, ⟨h4, h5⟩, h6⟩ := ab_arr.of h1
    obtain ⟨h7, h8⟩ := ab_in h4 h5 (by omega)
    refine va_cald hx hb hKK.1 hP k 1 (ab_cs_arr h2) rfl h7 hd ?_
    have h9 := hK _ _ _ _ h6 hN H locs ls hP hS hl
    show W p l e R s m args below meth c H locs cells slots Qw (F0 m (pc + 1) ls (.int (Int32.ofInt (g ((Int32.ofInt i).toNatClampNeg : Nat))) :: r.map (ab_c ad)))
    rw [h8]
    exact h9
  · obtain ⟨k, i, r, rfl, h1⟩ := ab_pi.of h
    obtain ⟨n, g, h2, h3, ⟨h4, h5⟩, h6⟩ := ab_arr.of h1
    obtain ⟨h7, h8⟩ := ab_in h4 h5 (by omega)
    refine va_zald hx hb hKK.1 hP k 2 (ab_cs_arr h2) rfl h7 hd ?_
    have h9 := hK _ _ _ _ h6 hN H locs ls hP hS hl
    show W p l e R s m args below meth c H locs cells slots Qw (F0 m (pc + 1) ls (.int (Int32.ofInt (g ((Int32.ofInt i).toNatClampNeg : Nat))) :: r.map (ab_c ad)))
    rw [h8]
    exact h9
  · obtain ⟨k, i, x, r, rfl, h1⟩ := ab_pii.of h
    obtain ⟨n, g, h2, h3, ⟨h4, h5⟩, h6⟩ := ab_arr.of h1
    obtain ⟨h7, h8⟩ := ab_in h4 h5 (by omega)
    exact va_iast hx hb hKK.1 hP (hD.to hN) hS k 0 (ab_cs_arr h2) rfl h7 hd (fun H1 locs1 hP1 hD1 hS1 => wr h4 h5 h3 h6 H1 locs1 hP1 hS1)
  · obtain ⟨k, i, x, r, rfl, h1⟩ := ab_pii.of h
    obtain ⟨n, g, h2, h3, ⟨h4, h5, h5a, h5b⟩, h6⟩ := ab_arr.of h1
    obtain ⟨h7, h8⟩ := ab_in h4 h5 (by omega)
    have e6 : vp_nar .char (Int32.ofInt x) = Int32.ofInt x := by unfold vp_nar; rw [(ab_narC h5a h5b).1]
    refine va_cast hx hb hKK.1 hP (hD.to hN) hS k 1 (ab_cs_arr h2) rfl h7 hd (fun H1 locs1 hP1 hD1 hS1 => ?_)
    rw [e6] at hP1
    exact wr h4 h5 h3 h6 H1 locs1 hP1 hS1
  · obtain ⟨k, i, x, r, rfl, h1⟩ := ab_pii.of h
    obtain ⟨n, g, h2, h3, ⟨h4, h5, h5a⟩, h6⟩ := ab_arr.of h1
    obtain ⟨h7, h8⟩ := ab_in h4 h5 (by omega)
    have e6 : vp_nar .boolean (Int32.ofInt x) = Int32.ofInt x := by unfold vp_nar; rw [(ab_narB h5a).1]
    refine va_zast hx hb hKK.1 hP (hD.to hN) hS k 2 (ab_cs_arr h2) rfl h7 hd (fun H1 locs1 hP1 hD1 hS1 => ?_)
    rw [e6] at hP1
    exact wr h4 h5 h3 h6 H1 locs1 hP1 hS1
  · obtain ⟨k, i, r, rfl, h1⟩ := ab_pi.of h
    obtain ⟨g, h2, h3, ⟨h4, h5⟩, h6⟩ := ab_rarr.of h1
    obtain ⟨h7, h8⟩ := ab_in h4 h5 (by omega)
    refine va_aldq (C := "RootChunks$Row") hx hb hKK.1 hP k 3 (ab_cs_at h2) rfl h7 hd ?_
    have h9 := hK _ _ _ _ h6 hN H locs ls hP hS hl
    rw [show i.toNat = (Int32.ofInt i).toNatClampNeg by omega] at h9
    exact h9
  · unfold ab_w at h
    dsimp only at h
    split at h
    · next v i k r =>
      obtain ⟨g, h2, h3, h1⟩ := ab_rarr.of h
      obtain ⟨fs, hv, ⟨h4, h5⟩, h6⟩ := ab_obj.of h1
      obtain ⟨h7, h8⟩ := ab_in h4 h5 (by omega)
      refine va_astq (r := (RX1, TX1, 7)) hx hb hKK.1 hP (hD.to hN) hS k 3 v 1 (ab_cs_at h2) rfl (ab_cs_at hv) rfl h7 hd (fun H1 locs1 hP1 hD1 hS1 => ?_)
      refine hK _ _ _ _ h6 (by rw [List.length_set]; exact hN) H1 locs1 ls ?_ hS1 hl
      rw [← ab_cs_set]
      have e7 : ab_e G ad (.inr (.inr (g.set i.toNat (some v)))) = .inl (G.2 3, g.length, .inr (.inr (.inr (.inr (va_up (fun j => (g.getD j none).map ad) (Int32.ofInt i).toNatClampNeg (some (ad v))))))) := by
        have ef : (fun j : Nat => ((g.set i.toNat (some v)).getD j none).map ad) = va_up (fun j => (g.getD j none).map ad) (Int32.ofInt i).toNatClampNeg (some (ad v)) := by
          funext j
          unfold va_up
          rw [show (Int32.ofInt i).toNatClampNeg = i.toNat by omega, List.getD_eq_getElem?_getD, List.getElem?_set]
          by_cases hj : j = i.toNat
          · subst hj
            rw [if_pos rfl, if_pos rfl, if_pos (by omega)]
            rfl
          · rw [if_neg (fun q => hj q.symm), if_neg hj, ← List.getD_eq_getElem?_getD]
        show (Sum.inl (G.2 3, (g.set i.toNat (some v)).length, .inr (.inr (.inr (.inr (fun j : Nat => ((g.set i.toNat (some v)).getD j none).map ad))))) : va_E) = _
        rw [ef, List.length_set]
      rw [e7]
      exact hP1
    · exact h.elim
  · obtain ⟨k, r, rfl, h1⟩ := ab_p1.of h
    unfold ab_len at h1
    split at h1
    · next t n g h2 =>
      split at h1
      · next ht =>
        have ht3 := Nat.le_of_ble_eq_true ht
        have hty : ∃ ty, (ab_tys G)[t]? = some (G.2 t, ty) := by
          rcases (by omega : t = 0 ∨ t = 1 ∨ t = 2) with rfl | rfl | rfl
          · exact ⟨_, rfl⟩
          · exact ⟨_, rfl⟩
          · exact ⟨_, rfl⟩
        obtain ⟨ty, hty⟩ := hty
        exact va_alen (x := (n, .inl (fun j => Int32.ofInt (g j)))) hx hb hKK.1 hP k t (ab_cs_at h2) hty rfl hd (hK _ _ _ _ h1 hN H locs ls hP hS hl)
      · exact h1.elim
    · next g h2 =>
      exact va_alen (x := (g.length, .inr (.inr (.inr (.inr (fun j => (g.getD j none).map ad)))))) hx hb hKK.1 hP k 3 (ab_cs_at h2) rfl rfl hd (hK _ _ _ _ h1 hN H locs ls hP hS hl)
    · exact h1.elim
end ABT
