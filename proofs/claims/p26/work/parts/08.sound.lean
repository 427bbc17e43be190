section ABU
variable {p : Program} {l : Launch} {e : Env} {R : Room} {s : State} {m : MethodId} {args : Array Value} {below : List Frame} {meth : Method} {c : Code} {own : String} {cc : ByteArray} {nL : Nat} {G : ab_G} {ad : Nat → Nat} {A : Nat → Prop} {N cells slots : Nat} {Qw : State → Prop} {E : ab_E} {Qr : ab_Q} {K : ab_K}
theorem ab_s_sw (X : ab_X own cc nL p s m args meth c G) {pc nx : Nat} {d lo hi : Int} {offs : Array Int} {tg : List (Int × Nat)} (hq : ab_okI cc (pc, .tableswitch d lo hi offs, nx, tg) = true) {lv : ab_L} {st : List ab_V} {cs : List ab_C}
    (h : ab_w E Qr K (pc, .tableswitch d lo hi offs, nx, tg) lv st cs) (hK : ∀ pc' lv' st' cs', K pc' lv' st' cs' → ab_W p l e R s m args below meth c nL G ad A N cells slots Qw pc' lv' st' cs') : ab_W p l e R s m args below meth c nL G ad A N cells slots Qw pc lv st cs := by
  obtain ⟨hx, hb, hml, hown, hts, hKK, hlk⟩ := id X
  obtain ⟨hd0, hg⟩ := ab_and hq
  have hd : decode cc pc = .ok (.tableswitch d lo hi offs, nx - pc) := of_decide_eq_true hd0
  obtain ⟨b1, hg⟩ := ab_and hg
  obtain ⟨b2, hg⟩ := ab_and hg
  obtain ⟨b3, hg⟩ := ab_and hg
  obtain ⟨b4, b5⟩ := ab_and hg
  have b1 := of_decide_eq_true b1
  have b2 := of_decide_eq_true b2
  have b3 := of_decide_eq_true b3
  have b4 := List.all_eq_true.mp b4
  intro hN H locs ls hP hS hl
  obtain ⟨a, r, rfl, ha, h1⟩ := ab_i1.of h
  rcases ab_sw.of h1 with ⟨j, t, h2, h3⟩ | ⟨h2, h3⟩
  · rw [b3, List.getElem?_map] at h2
    cases hj : (List.range offs.size)[j]? with
    | none => rw [hj] at h2; cases h2
    | some j' =>
      rw [hj] at h2
      have hjl : j < offs.size := by have := ab_lt_of hj; rwa [List.length_range] at this
      rw [List.getElem?_range hjl] at hj
      have hj := Option.some.inj hj
      subst hj
      have h4 := Option.some.inj h2
      have h5 : lo + (j : Int) = a := congrArg Prod.fst h4
      have h6 : ((pc : Int) + offs.getD j 0).toNat = t := congrArg Prod.snd h4
      have h7 : offs.getD j 0 = offs[j] := by rw [Array.getD_eq_getD_getElem?, Array.getElem?_eq_getElem hjl]; rfl
      have h8 : 0 ≤ (pc : Int) + offs[j] := of_decide_eq_true (b4 _ (Array.mem_toList_iff.mpr (Array.getElem_mem hjl)))
      refine lv_tableIn (off := offs[j]) (tgt := t) hx hb hd (by rw [ab_toI ha]; omega) (by rw [ab_toI ha]; omega) ?_ ?_ (hK _ _ _ _ h3 hN H locs ls hP hS hl)
      · rw [ab_toI ha, show (a - lo).toNat = j by omega, Array.getElem?_eq_getElem hjl]
      · rw [← h6, h7]; omega
  · refine lv_tableOut hx hb hd ?_ b2 (hK _ _ _ _ h3 hN H locs ls hP hS hl)
    rw [ab_toI ha]
    by_cases q1 : a < lo
    · exact Or.inl q1
    · by_cases q2 : hi < a
      · exact Or.inr q2
      · exfalso
        have hjl : (a - lo).toNat < offs.size := by omega
        refine h2 (a, ((pc : Int) + offs.getD (a - lo).toNat 0).toNat) ?_ rfl
        rw [b3]
        refine List.mem_map.mpr ⟨(a - lo).toNat, List.mem_range.mpr hjl, ?_⟩
        rw [show lo + (((a - lo).toNat : Nat) : Int) = a by omega]
theorem ab_s_ret (X : ab_X own cc nL p s m args meth c G) (hrt : meth.sig.returnType = ab_rty E.2.2.2) {pc nx : Nat} {i : Instr} {tg : List (Int × Nat)} (hq : ab_okI cc (pc, i, nx, tg) = true) {lv : ab_L} {st : List ab_V} {cs : List ab_C} (hi : i = .ireturn ∨ i = .return_ ∨ i = .lreturn)
    (h : ab_w E Qr K (pc, i, nx, tg) lv st cs) : ab_W p l e R s m args below meth c nL G ad A N cells slots (MQ below (ab_Post G ad Qr N A) args s cells slots A) pc lv st cs := by
  obtain ⟨hx, hb, hml, hown, hts, hKK, hlk⟩ := id X
  obtain ⟨hd0, hg⟩ := ab_and hq
  have hd : decode cc pc = .ok (i, nx - pc) := of_decide_eq_true hd0
  have e1 : nx = pc + 1 := by rcases hi with rfl | rfl | rfl <;> exact Nat.eq_of_beq_eq_true hg
  subst e1
  rw [show pc + 1 - pc = 1 by omega] at hd
  intro hN H locs ls hP hS hl
  have po : ∀ (r : Option ab_V), Qr r cs → ∀ t : State, t.heap = H → s.WarmedH t.vm → ab_Post G ad Qr N A args s (.returned (r.map (ab_c ad))) t := fun r hr t ht _ =>
    ⟨⟨r, cs, rfl, hr, hN, by rw [ht]; exact hP⟩, hS.F ht⟩
  rcases hi with rfl | rfl | rfl
  · unfold ab_w at h
    dsimp only at h
    split at h
    · next a =>
      unfold ab_rt at h
      split at h
      · next e0 =>
        rw [e0] at hrt
        exact W.iret hx hb hrt (po _ h) hS.2.2 hd hlk
      · next e0 =>
        rw [e0] at hrt
        exact W.zret hx hb hrt (ab_narC h.1.1 h.1.2).1 (po _ h.2) hS.2.2 hd hlk
      · next e0 =>
        rw [e0] at hrt
        exact W.zret hx hb hrt (ab_narB h.1).1 (po _ h.2) hS.2.2 hd hlk
      · exact h.elim
    · exact h.elim
  · unfold ab_w at h
    dsimp only at h
    split at h
    · split at h
      · next e0 =>
        rw [Nat.eq_of_beq_eq_true e0] at hrt
        exact W.vret hx hb hrt (po _ h) hS.2.2 hd hlk
      · exact h.elim
    · exact h.elim
  · unfold ab_w at h
    dsimp only at h
    split at h
    · split at h
      · next e0 =>
        rw [Nat.eq_of_beq_eq_true e0] at hrt
        exact W.lret hx hb hrt (po _ h) hS.2.2 hd hlk
      · exact h.elim
    · exact h.elim
/-- behind a call -/
theorem ab_tail {H : Heap} {locs : List Loc} {pc : Nat} {ls : Array Slot} {st0 rest : List Value} {av : Array Value} {ad' : Nat → Nat} {Q0 : ab_Q} {N' : Nat} {A' : Nat → Prop} (hr : va_Run p l e R s m args below meth c H locs cells slots 0 0 (F0 m pc ls st0) rest (ab_Post G ad' Q0 N' A' av) A') (hS : va_S A s.heap H locs) (hA : ∀ q, A' q → A q)
    (kk : ∀ (r : Option ab_V) (cs' : List ab_C) (H1 : Heap) (locs1 : List Loc), Q0 r cs' → cs'.length = N' → va_P G.1 vwCl (ab_cs G ad' cs') H1 → (∀ q : Nat, q < H.size → ¬ A' q → H1[q]? = H[q]?) → va_S A s.heap H1 locs1 → W p l e R s m args below meth c H1 locs1 cells slots Qw (F0 m (pc + 3) ls ((r.map (ab_c ad')).toList ++ rest))) : W p l e R s m args below meth c H locs cells slots Qw (F0 m pc ls st0) := by
  intro T hT X
  obtain ⟨v, st₀, t, T', L, h0, X', hL, e1, e2, ⟨⟨r, cs', hv, hq, hn, hp⟩, hz, hk⟩, st⟩ := hr T hT X
  cases hv
  rw [h0] at hz hk
  obtain ⟨t2, a1, b1⟩ := kk r cs' T'.heap (locs ++ L) hq hn (by rw [e1]; exact hp) (fun q h1 h2 => by rw [e1]; exact hk q h1 h2)
    ⟨Nat.le_trans hS.1 (by rw [e1]; exact hz), fun q h1 h2 => by rw [e1, hk q (Nat.lt_of_lt_of_le h1 hS.1) (fun z => h2 (hA q z))]; exact hS.2.1 q h1 h2, fun q hq => by
      rcases List.mem_append.mp hq with h | h
      · exact hS.2.2 q h
      · exact hA _ (hL q h)⟩ T' rfl X'
  exact ⟨t2, st t2 a1, b1⟩
end ABU
/-! the callee's places -/
theorem ab_pos_get : ∀ {is : List Nat} {k : Nat}, ab_pos is k < is.length → is.getD (ab_pos is k) 0 = k
  | [], _, h => by cases h
  | a :: l, k, h => by
    unfold ab_pos at h ⊢
    split at h
    · next e => exact Nat.eq_of_beq_eq_true e
    · next e =>
      have h2 : ab_pos l k < l.length := Nat.lt_of_succ_lt_succ h
      exact ab_pos_get h2
theorem ab_pos_lt : ∀ {is : List Nat} {k : Nat}, k ∈ is → ab_pos is k < is.length
  | a :: l, k, h => by
    unfold ab_pos
    split
    · exact Nat.succ_pos _
    · next e =>
      rcases List.mem_cons.mp h with rfl | h
      · have := Nat.beq_refl k; rw [e] at this; cases this
      · exact Nat.succ_lt_succ (ab_pos_lt h)
theorem ab_nd_ne : ∀ {is : List Nat}, ab_nd is = true → ∀ (i j k : Nat), is[i]? = some k → is[j]? = some k → i = j
  | [], _, i, j, k, h, _ => by cases h
  | a :: l, hn, i, j, k, h1, h2 => by
    unfold ab_nd at hn
    split at hn
    · cases hn
    · next e =>
      have hm : a ∉ l := fun hm => by
        have := ab_pos_lt hm
        have h3 : Nat.blt (ab_pos l a) l.length = true := Nat.ble_eq.mpr this
        rw [e] at h3
        cases h3
      match i, j with
      | 0, 0 => rfl
      | 0, j + 1 =>
        have e1 : a = k := Option.some.inj h1
        have h2' : l[j]? = some k := h2
        exact absurd (List.mem_of_getElem? h2') (e1 ▸ hm)
      | i + 1, 0 =>
        have e1 : a = k := Option.some.inj h2
        have h1' : l[i]? = some k := h1
        exact absurd (List.mem_of_getElem? h1') (e1 ▸ hm)
      | i + 1, j + 1 =>
        have := ab_nd_ne hn i j k h1 h2
        omega
theorem ab_unV_c {is : List Nat} {ad : Nat → Nat} {v : ab_V} (h : ab_okV is v = true) : ab_c (fun j => ad (is.getD j 0)) (ab_unV is v) = ab_c ad v := by
  rcases v with n | ⟨⟨⟩ | k⟩ | L
  · rfl
  · rfl
  · have h1 : ab_pos is k < is.length := Nat.le_of_ble_eq_true h
    show va_rf (some (ad (is.getD (ab_pos is k) 0))) = va_rf (some (ad k))
    rw [ab_pos_get h1]
  · rfl
theorem ab_reV_c {is : List Nat} {ad : Nat → Nat} (v : ab_V) : ab_c (fun j => ad (is.getD j 0)) v = ab_c ad (ab_reV is v) := by
  rcases v with n | ⟨⟨⟩ | k⟩ | L <;> rfl
theorem ab_unC_e {is : List Nat} {G : ab_G} {ad : Nat → Nat} {x : ab_C} (h : ab_okC is x = true) : ab_e G (fun j => ad (is.getD j 0)) (ab_unC is x) = ab_e G ad x := by
  rcases x with ⟨ci, fs⟩ | a | q
  · show (Sum.inr (ci, (fs.map (ab_unV is)).map (ab_c (fun j => ad (is.getD j 0)))) : va_E) = Sum.inr (ci, fs.map (ab_c ad))
    rw [List.map_map]
    congr 2
    refine List.map_congr_left (fun v hv => ?_)
    exact ab_unV_c (List.all_eq_true.mp h v hv)
  · rfl
  · show (Sum.inl (G.2 3, (q.map (fun o => o.map (fun k => ab_pos is k))).length, .inr (.inr (.inr (.inr (fun j : Nat => ((q.map (fun o => o.map (fun k => ab_pos is k))).getD j none).map (fun j => ad (is.getD j 0))))))) : va_E) = Sum.inl (G.2 3, q.length, .inr (.inr (.inr (.inr (fun j : Nat => (q.getD j none).map ad)))))
    rw [List.length_map]
    have ef : (fun j : Nat => ((q.map (fun o => o.map (fun k => ab_pos is k))).getD j none).map (fun j => ad (is.getD j 0))) = (fun j : Nat => (q.getD j none).map ad) := by
      funext j
      rw [List.getD_eq_getElem?_getD, List.getD_eq_getElem?_getD, List.getElem?_map]
      cases hj : q[j]? with
      | none => rfl
      | some o =>
        cases o with
        | none => rfl
        | some k =>
          have h1 := List.all_eq_true.mp h _ (List.mem_of_getElem? hj)
          have h2 : ab_pos is k < is.length := Nat.le_of_ble_eq_true h1
          show some (ad (is.getD (ab_pos is k) 0)) = some (ad k)
          rw [ab_pos_get h2]
    rw [ef]
theorem ab_reC_e {is : List Nat} {G : ab_G} {ad : Nat → Nat} (x : ab_C) : ab_e G (fun j => ad (is.getD j 0)) x = ab_e G ad (ab_reC is x) := by
  rcases x with ⟨ci, fs⟩ | a | q
  · show (Sum.inr (ci, fs.map (ab_c (fun j => ad (is.getD j 0)))) : va_E) = Sum.inr (ci, (fs.map (ab_reV is)).map (ab_c ad))
    rw [List.map_map]
    congr 2
    exact List.map_congr_left (fun v _ => ab_reV_c v)
  · rfl
  · show (Sum.inl (G.2 3, q.length, .inr (.inr (.inr (.inr (fun j : Nat => (q.getD j none).map (fun j => ad (is.getD j 0))))))) : va_E) = Sum.inl (G.2 3, (q.map (fun o => o.map (fun k => is.getD k 0))).length, .inr (.inr (.inr (.inr (fun j : Nat => ((q.map (fun o => o.map (fun k => is.getD k 0))).getD j none).map ad)))))
    rw [List.length_map]
    have ef : (fun j : Nat => (q.getD j none).map (fun j => ad (is.getD j 0))) = (fun j : Nat => ((q.map (fun o => o.map (fun k => is.getD k 0))).getD j none).map ad) := by
      funext j
      rw [List.getD_eq_getElem?_getD, List.getD_eq_getElem?_getD, List.getElem?_map]
      cases hj : q[j]? with
      | none => rfl
      | some o => cases o <;> rfl
    rw [ef]
theorem ab_pick_len : ∀ {is : List Nat} {cs : List ab_C}, (ab_pick cs is).length ≤ is.length
  | [], _ => Nat.le_refl 0
  | i :: is, cs => by
    unfold ab_pick
    split
    · exact Nat.succ_le_succ ab_pick_len
    · exact Nat.le_succ_of_le ab_pick_len
/-- where all places are places, the cells picked are theirs -/
theorem ab_pick_at : ∀ {is : List Nat} {cs : List ab_C}, (ab_pick cs is).length = is.length → ∀ (j : Nat) (x : ab_C), (ab_pick cs is)[j]? = some x → ∃ k, is[j]? = some k ∧ cs[k]? = some x
  | [], _, _, j, x, h => by cases h
  | i :: is, cs, hl, j, x, h => by
    unfold ab_pick at hl h
    split at hl
    · next y hy =>
      rw [hy] at h
      match j with
      | 0 =>
        have e : y = x := Option.some.inj h
        subst e
        exact ⟨i, rfl, hy⟩
      | j + 1 => exact ab_pick_at (is := is) (Nat.succ.inj hl) j x h
    · have := ab_pick_len (is := is) (cs := cs)
      rw [List.length_cons] at hl
      omega
theorem ab_pick_in : ∀ {is : List Nat} {cs : List ab_C}, (ab_pick cs is).length = is.length → ∀ (j k : Nat), is[j]? = some k → k < cs.length
  | [], _, _, j, k, h => by cases h
  | i :: is, cs, hl, j, k, h => by
    unfold ab_pick at hl
    split at hl
    · next y hy =>
      match j with
      | 0 =>
        have e : i = k := Option.some.inj h
        subst e
        exact ab_lt_of hy
      | j + 1 => exact ab_pick_in (is := is) (Nat.succ.inj hl) j k h
    · have := ab_pick_len (is := is) (cs := cs)
      rw [List.length_cons] at hl
      omega
theorem ab_back_len (jd : List Nat) : ∀ (is : List Nat) (cs' cs : List ab_C), (ab_back jd is cs' cs).length = cs.length
  | [], _, cs => by unfold ab_back; rfl
  | i :: is, [], cs => by unfold ab_back; rfl
  | i :: is, x :: cs', cs => by
    unfold ab_back
    rw [ab_back_len jd is cs', List.length_set]
/-- a cell behind a call: the callee's, or as it was -/
theorem ab_back_at (jd : List Nat) : ∀ (is : List Nat) (cs' cs : List ab_C) (k : Nat) (x : ab_C), (ab_back jd is cs' cs)[k]? = some x →
    (∃ (j : Nat) (y : ab_C), is[j]? = some k ∧ cs'[j]? = some y ∧ x = ab_reC jd y) ∨ (cs[k]? = some x ∧ (cs'.length = is.length → ∀ j : Nat, is[j]? ≠ some k))
  | [], _, cs, k, x, h => by unfold ab_back at h; exact Or.inr ⟨h, fun _ j hj => by cases hj⟩
  | i :: is, [], cs, k, x, h => by unfold ab_back at h; exact Or.inr ⟨h, fun hl => by cases hl⟩
  | i :: is, y :: cs', cs, k, x, h => by
    unfold ab_back at h
    rcases ab_back_at jd is cs' _ k x h with ⟨j, z, h1, h2, h3⟩ | ⟨h1, h2⟩
    · exact Or.inl ⟨j + 1, z, h1, h2, h3⟩
    · rw [List.getElem?_set] at h1
      by_cases e : i = k
      · subst e
        rw [if_pos rfl] at h1
        split at h1
        · exact Or.inl ⟨0, y, rfl, rfl, (Option.some.inj h1).symm⟩
        · cases h1
      · rw [if_neg e] at h1
        refine Or.inr ⟨h1, fun hl j hj => ?_⟩
        match j with
        | 0 => exact e (Option.some.inj hj)
        | j + 1 => exact h2 (Nat.succ.inj hl) j hj
