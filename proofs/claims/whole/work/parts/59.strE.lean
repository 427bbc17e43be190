/-! THE CONTRACT OF readOrder: the places with the texts are laid at its entry -/
theorem rx_mono {p : Program} {l : Launch} {e : Env} {R : Room} {s : State} {m : MethodId} {args : Array Value} {below : List Frame} {meth : Method} {c : Code} {H : Heap} {locs : List Loc} {mc ms : Nat} {Q1 Q2 : Array Value → State → Outcome → State → Prop} {free : Addr → Prop} {g : JFrame} (hQ : ∀ o t, Q1 args s o t → Q2 args s o t) (h : W p l e R s m args below meth c H locs mc ms (MQ below Q1 args s mc ms free) g) : W p l e R s m args below meth c H locs mc ms (MQ below Q2 args s mc ms free) g := by
  intro T hT X
  obtain ⟨t, h1, o, h2, h3, h4, h5⟩ := h T hT X
  exact ⟨t, h1, o, h2, h3, hQ o t h4, h5⟩
theorem rx_sp_mono {av : List ab_V} {cs : List ab_C} {Q : ab_Q} (h : sp_X0_readOrder av cs Q) : sp_X0_readOrder av cs (fun r k => Q r k ∧ (∃ n, r = some (.inl n)) ∧ ∃ p', k = pd_cs p') := by
  obtain ⟨P, V, pl, pp, pk, l, h1, h2, h3, h4, h5, h6, h7, h8⟩ := h
  exact ⟨P, V, pl, pp, pk, l, h1, h2, h3, h4, h5, h6, fun a V' pk' b => ⟨h7 a V' pk' b, ⟨_, rfl⟩, _, rfl⟩, fun a V' b c => ⟨h8 a V' b c, ⟨_, rfl⟩, _, rfl⟩⟩
def rx_ad (ad adK : Nat → Nat) : Nat → Nat := fun k => if k < 1000 then ad k else adK (k - 1000)
theorem rx_ad_K (ad adK : Nat → Nat) (i : Nat) : rx_ad ad adK (1000 + i) = adK i := by
  unfold rx_ad
  rw [if_neg (by omega), show 1000 + i - 1000 = i by omega]
theorem rx_ad_cs (G : ab_G) (ad adK : Nat → Nat) (q : pd_T) : ab_cs G (rx_ad ad adK) (pd_cs q) = ab_cs G ad (pd_cs q) := rfl
set_option maxRecDepth 100000 in
set_option maxHeartbeats 1000000 in
theorem mt_X0_readOrder (l : Launch) : ab_MT l mi_X0_readOrder sp_X0_readOrder := by
  intro G ad av cs Q sz hsp0
  have hsp := rx_sp_mono hsp0
  obtain ⟨hlen, hR⟩ := vc_X0_readOrder hsp
  obtain ⟨q0, hav, hcs⟩ : ∃ q0, av = [.inr (.inl (some 0))] ∧ cs = pd_cs q0 := by
    obtain ⟨P, V, pl, pp, pk, l, h1, h2, -⟩ := hsp0
    exact ⟨_, h1, h2⟩
  refine Met.ofW (cc := cX0_readOrder) (maxL := 5) (ret := some .boolean) (by decide) rfl ?_
  intro p e s m args below meth c s₁ B hml hv
  obtain ⟨rfl, hsz, hP, hKK, hD0, hZ⟩ := hv
  have hx := B.exec
  have hb := B.bytes
  have hr := B.returns
  have hts0 := atoms_spec (ws := .code yX0_readOrder cX0_readOrder 5 (some .boolean) :: ab_TB) B.pre
  have hts : ∀ w ∈ ab_TB, w.before (av.map (ab_c ad)).toArray s = true := fun w hw => hts0 w (List.mem_cons_of_mem _ hw)
  have hfc : s.vm.findClass RX0 = some m.cls := findClass_of_methodNamed B.named
  have hlocks := B.notSynchronized
  subst hsz
  obtain ⟨⟨adK, adV, z1, z2⟩, z3, z4⟩ := id hZ
  have X : ab_X RX0 cX0_readOrder 5 p s m (av.map (ab_c ad)).toArray meth c G := ⟨hx, hb, hml, hfc, hts, hKK, hlocks⟩
  subst hav
  subst hcs
  have hD : ab_Dn (ab_A ad (pd_cs q0).length s.heap.size) (rx_ad ad adK) 3 := by
    have hk : ∀ k : Nat, k < 3 → rx_ad ad adK k = ad k := fun k hk => by unfold rx_ad; rw [if_pos (by omega)]
    refine ⟨fun i j hi hj hij => ?_, fun k h => Or.inl ⟨k, h, hk k h⟩⟩
    rw [hk i hi, hk j hj] at hij
    exact hD0.1 i j hi hj hij
  have hA : ∀ q, s.heap.size ≤ q → ab_A ad (pd_cs q0).length s.heap.size q := fun q hq => Or.inr hq
  have hgo : ∀ {pc : Nat} {lv : ab_L} {st : List ab_V} {cs : List ab_C}, rx_R E_X0_readOrder P_X0_readOrder (fun r k => Q r k ∧ (∃ n, r = some (.inl n)) ∧ ∃ p', k = pd_cs p') pc lv st cs → ab_W p l e { frames := mi_X0_readOrder.2.2.2.2.1, cells := 0, slots := 0, locals := mi_X0_readOrder.2.2.2.2.2 } s m ([.ref (ad 0)] : List Value).toArray below meth c 5 G (rx_ad ad adK) (ab_A ad (pd_cs q0).length s.heap.size) 3 0 0 (MQ below (ab_Post G (rx_ad ad adK) (fun r k => Q r k ∧ (∃ n, r = some (.inl n)) ∧ ∃ p', k = pd_cs p') 3 (ab_A ad (pd_cs q0).length s.heap.size)) ([.ref (ad 0)] : List Value).toArray s 0 0 (ab_A ad (pd_cs q0).length s.heap.size)) pc lv st cs := by
    intro pc lv st cs h
    refine h _ ?_
    intro pc lv st cs q K0 hf hw hK
    obtain ⟨hq, rfl⟩ := ab_find_in hf
    exact rx_one (E := E_X0_readOrder) (P := P_X0_readOrder) (M := M_X0_readOrder) (R := { frames := mi_X0_readOrder.2.2.2.2.1, cells := 0, slots := 0, locals := mi_X0_readOrder.2.2.2.2.2 }) (adK := adK) (adV := adV) rfl rfl (Nat.le_of_ble_eq_true (show Nat.ble 6 mi_X0_readOrder.2.2.2.2.1 = true from rfl)) (Nat.le_of_ble_eq_true (show Nat.ble 150 mi_X0_readOrder.2.2.2.2.2 = true from rfl)) ⟨z1, z3, z4⟩ z2 (fun i _ => rx_ad_K ad adK i) X hZ hr tk_X0 pk_X0_readOrder ck_X0_readOrder (ab_CT'.cons (mt_X0_next l) (ab_CT'.cons (mt_X0_readNumber l) (ab_CT'.cons (mt_X0_skip l) ab_CT'.nil))) hD hA ⟨Nat.le_refl 0, Nat.le_refl 0⟩ hq hw hK
  have hl := lv_entry ([.ref (ad 0)] : List Value) (n := 5) (Nat.le_of_ble_eq_true rfl)
  rw [lg_entry_eq]
  have hlh : ab_lh (rx_ad ad adK) (lg_sl ([.ref (ad 0)] : List Value) ++ List.replicate (5 - (lg_sl ([.ref (ad 0)] : List Value)).length) Slot.unset).toArray 5 (ab_ent [.inr (.inl (some 0))] 5) := by
    refine ⟨hl.1, hl.2.1, rfl, fun i v hi => ?_⟩
    match i, hi with
    | 0, hi =>
      have : v = .inr (.inl (some 0)) := (Option.some.inj (Option.some.inj hi)).symm
      rw [this]
      exact hl.2.2 (0, .ref (ad 0)) List.mem_cons_self
    | 1, hi => cases hi
    | 2, hi => cases hi
    | 3, hi => cases hi
    | 4, hi => cases hi
    | i + 5, hi => cases hi
  have hW := hgo hR rfl s.heap [] _ (by rw [rx_ad_cs]; exact hP) va_S.rf hlh
  refine rx_mono (fun o t hq => ?_) hW
  obtain ⟨⟨r, cs', e1, ⟨q1, ⟨n, rfl⟩, q', rfl⟩, e3, e4⟩, hF⟩ := hq
  exact ⟨⟨some (.inl n), pd_cs q', e1, q1, e3, by rw [rx_ad_cs] at e4; exact e4⟩, hF⟩
