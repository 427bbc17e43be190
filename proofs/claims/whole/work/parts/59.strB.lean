/-! AN ORDER OF THE CLASS'S PAD: the walk with its texts: a text is the place 1000 and on -/
def rx_sp (pc : Nat) : Bool := Nat.beq pc 12 || (Nat.beq pc 22 || (Nat.beq pc 30 || Nat.beq pc 95))
def rx_shape (a : Int) : Nat := if a = 112 then 0 else if a = 99 then 1 else if a = 115 then 2 else if a = 116 then 3 else if a = 97 then 4 else if a = 109 then 5 else if a = 114 then 6 else 7
def rx_c (j : Nat) (i : Int) : Int := (sj_c j i.toNat).toInt
def rx_w (E : ab_E) (Q : ab_Q) (K : ab_K) (q : ab_I) (lv : ab_L) (st : List ab_V) (cs : List ab_C) : Prop := match Nat.beq q.1 12 with
  | true => ab_i1 st (fun a r => match Nat.ble (ab_cat r) 8 with
    | true => ab_r a ∧ K 15 lv (.inr (.inl (some (1000 + rx_shape a))) :: r) cs
    | false => False)
  | false => match Nat.beq q.1 22 with
    | true => ab_p1 st (fun k r => match Nat.ble (ab_cat r) 8 with
      | true => (1000 ≤ k ∧ k < 1008) ∧ K 25 lv (.inl ((ab_sl.getD (k - 1000) 0 : Nat) : Int) :: r) cs
      | false => False)
    | false => match Nat.beq q.1 30 with
      | true => ab_pi st (fun k i r => match Nat.ble (ab_cat r) 8 with
        | true => (1000 ≤ k ∧ k < 1008 ∧ 0 ≤ i ∧ i < ((ab_sl.getD (k - 1000) 0 : Nat) : Int)) ∧ K 33 lv (.inl (rx_c (k - 1000) i) :: r) cs
        | false => False)
      | false => match Nat.beq q.1 95 with
        | true => ab_p1 st (fun k r => match Nat.ble (ab_cat r) 8 with
          | true => (1000 ≤ k ∧ k < 1008) ∧ K 98 lv (.inl (if ab_sl.getD (k - 1000) 0 = 0 then 1 else 0) :: r) cs
          | false => False)
        | false => ab_w E Q K q lv st cs
def rx_R (E : ab_E) (P : List ab_I) (Q : ab_Q) : ab_K := fun pc lv st cs =>
  ∀ Z : ab_K, (∀ (pc : Nat) (lv : ab_L) (st : List ab_V) (cs : List ab_C) (q : ab_I) (K0 : ab_K), ab_find P pc = some q → rx_w E Q K0 q lv st cs → (∀ pc' lv' st' cs', K0 pc' lv' st' cs' → Z pc' lv' st' cs') → Z pc lv st cs) → Z pc lv st cs
def rx_ws (E : ab_E) (P : List ab_I) (Q : ab_Q) (K : ab_K) (stops : List Nat) : Nat → ab_K
  | 0 => K
  | n + 1 => fun pc lv st cs => match ab_find P pc with
    | some q => rx_w E Q (fun pc' lv' st' cs' => match ab_mem stops pc' with
      | true => K pc' lv' st' cs'
      | false => rx_ws E P Q K stops n pc' lv' st' cs') q lv st cs
    | none => False
theorem rx_R.step {E : ab_E} {P : List ab_I} {Q : ab_Q} {pc : Nat} {lv : ab_L} {st : List ab_V} {cs : List ab_C} {q : ab_I} {K : ab_K} (hq : ab_find P pc = some q) (h : rx_w E Q K q lv st cs) (hK : ∀ pc' lv' st' cs', K pc' lv' st' cs' → rx_R E P Q pc' lv' st' cs') : rx_R E P Q pc lv st cs :=
  fun Z hZ => hZ pc lv st cs q K hq h (fun pc' lv' st' cs' k => hK pc' lv' st' cs' k Z hZ)
theorem rx_R.steps {E : ab_E} {P : List ab_I} {Q : ab_Q} (stops : List Nat) : ∀ (n : Nat) {pc : Nat} {lv : ab_L} {st : List ab_V} {cs : List ab_C}, rx_ws E P Q (rx_R E P Q) stops n pc lv st cs → rx_R E P Q pc lv st cs
  | 0, _, _, _, _, h => h
  | n + 1, pc, lv, st, cs, h => by
    unfold rx_ws at h
    split at h
    · next q hq =>
      refine rx_R.step hq h (fun pc' lv' st' cs' k => ?_)
      split at k
      · exact k
      · exact rx_R.steps stops n k
    · exact h.elim
theorem rx_shape_lt (a : Int) : rx_shape a < 8 := by
  unfold rx_shape
  repeat (split; decide)
  decide
/-! shapeOf -/
def sj_Ps (G : ab_G) (adK : Nat → Nat) (a : Int) (sz : Nat) : Array Value → State → Prop := va_Pc [.int (Int32.ofInt a)] (fun U => U.heap.size = sz ∧ ab_KK G U ∧ ∀ i : Nat, i < 8 → vk_R "RootChunks$Pad" (62 + 2 * i) (ab_stx i) (adK i) U)
theorem sj_blinds {G : ab_G} {adK : Nat → Nat} {a : Int} {sz : Nat} : FrameBlind (sj_Ps G adK a sz) := by
  intro a U g mk ⟨h0, h1, h2, h3⟩
  exact ⟨h0, h1, h2.same (u := U) (U := U.calling g mk a) rfl, fun i hi => (h3 i hi).same rfl⟩
theorem dk_X0_shapeOf_0 : decode cX0_shapeOf 0 = .ok (.iload_n 0, 1) := by decide +kernel
theorem dk_X0_shapeOf_1 : decode cX0_shapeOf 1 = .ok (.tableswitch 116 97 116 #[107, 116, 98, 116, 116, 116, 116, 116, 116, 116, 116, 116, 110, 116, 116, 95, 116, 113, 101, 104], 95) := by decide +kernel
theorem dk_X0_shapeOf_96 : decode cX0_shapeOf 96 = .ok (.ldc 62, 2) := by decide +kernel
theorem dk_X0_shapeOf_98 : decode cX0_shapeOf 98 = .ok (.areturn, 1) := by decide +kernel
theorem dk_X0_shapeOf_99 : decode cX0_shapeOf 99 = .ok (.ldc 64, 2) := by decide +kernel
theorem dk_X0_shapeOf_101 : decode cX0_shapeOf 101 = .ok (.areturn, 1) := by decide +kernel
theorem dk_X0_shapeOf_102 : decode cX0_shapeOf 102 = .ok (.ldc 66, 2) := by decide +kernel
theorem dk_X0_shapeOf_104 : decode cX0_shapeOf 104 = .ok (.areturn, 1) := by decide +kernel
theorem dk_X0_shapeOf_105 : decode cX0_shapeOf 105 = .ok (.ldc 68, 2) := by decide +kernel
theorem dk_X0_shapeOf_107 : decode cX0_shapeOf 107 = .ok (.areturn, 1) := by decide +kernel
theorem dk_X0_shapeOf_108 : decode cX0_shapeOf 108 = .ok (.ldc 70, 2) := by decide +kernel
theorem dk_X0_shapeOf_110 : decode cX0_shapeOf 110 = .ok (.areturn, 1) := by decide +kernel
theorem dk_X0_shapeOf_111 : decode cX0_shapeOf 111 = .ok (.ldc 72, 2) := by decide +kernel
theorem dk_X0_shapeOf_113 : decode cX0_shapeOf 113 = .ok (.areturn, 1) := by decide +kernel
theorem dk_X0_shapeOf_114 : decode cX0_shapeOf 114 = .ok (.ldc 74, 2) := by decide +kernel
theorem dk_X0_shapeOf_116 : decode cX0_shapeOf 116 = .ok (.areturn, 1) := by decide +kernel
theorem dk_X0_shapeOf_117 : decode cX0_shapeOf 117 = .ok (.ldc 76, 2) := by decide +kernel
theorem dk_X0_shapeOf_119 : decode cX0_shapeOf 119 = .ok (.areturn, 1) := by decide +kernel
def rx_sw : ab_I := (1, .tableswitch 116 97 116 #[107, 116, 98, 116, 116, 116, 116, 116, 116, 116, 116, 116, 110, 116, 116, 95, 116, 113, 101, 104], 96, [((0 : Int), 117), ((97 : Int), 108), ((98 : Int), 117), ((99 : Int), 99), ((100 : Int), 117), ((101 : Int), 117), ((102 : Int), 117), ((103 : Int), 117), ((104 : Int), 117), ((105 : Int), 117), ((106 : Int), 117), ((107 : Int), 117), ((108 : Int), 117), ((109 : Int), 111), ((110 : Int), 117), ((111 : Int), 117), ((112 : Int), 96), ((113 : Int), 117), ((114 : Int), 114), ((115 : Int), 102), ((116 : Int), 105)])
theorem rx_sw_ok : ab_okI cX0_shapeOf rx_sw = true := by decide +kernel
set_option maxRecDepth 100000 in
set_option maxHeartbeats 1000000 in
theorem sj_X0_shapeOf (l : Launch) (G : ab_G) (adK : Nat → Nat) (a : Int) (ha : ab_r a) (sz : Nat) : Met l yX0_shapeOf (.code yX0_shapeOf cX0_shapeOf 1 (some (.object "java/lang/String")) :: ab_TB) { frames := 1, cells := 0, slots := 0, locals := 0 } (sj_Ps G adK a sz) (va_Qr (fun (_ : Unit) => True) (fun _ ra _ => ra = adK (rx_shape a)) (fun q => sz ≤ q)) 0 0 (fun q => sz ≤ q) := by
  refine va_MetF (cc := cX0_shapeOf) (maxL := 1) (ret := some (.object "java/lang/String")) (by decide +kernel) rfl ?_
  intro p e s m args below meth c s₁ B hml hv
  obtain ⟨rfl, hsz, hKK, hZ⟩ := hv
  have hx := B.exec
  have hb := B.bytes
  have hr := B.returns
  have hts0 := atoms_spec (ws := .code yX0_shapeOf cX0_shapeOf 1 (some (.object "java/lang/String")) :: ab_TB) B.pre
  have hts : ∀ w ∈ ab_TB, w.before ([.int (Int32.ofInt a)] : List Value).toArray s = true := fun w hw => hts0 w (List.mem_cons_of_mem _ hw)
  have hown : s.vm.findClass RX0 = some m.cls := findClass_of_methodNamed B.named
  have hlocks := B.notSynchronized
  subst hsz
  have hS : va_S (fun q => s.heap.size ≤ q) s.heap s.heap [] := va_S.rf
  have hl := lv_entry ([.int (Int32.ofInt a)] : List Value) (n := 1) (Nat.le_of_ble_eq_true rfl)
  rw [lg_entry_eq]
  generalize (lg_sl ([.int (Int32.ofInt a)] : List Value) ++ List.replicate (1 - (lg_sl ([.int (Int32.ofInt a)] : List Value)).length) Slot.unset).toArray = ls at hl ⊢
  have hl : lv_has ls 1 [(0, .int (Int32.ofInt a))] := hl
  refine lv_iload_n hx hb dk_X0_shapeOf_0 rfl (lv_at hl 0 rfl) ?_
  have X : ab_X RX0 cX0_shapeOf 1 p s m ([.int (Int32.ofInt a)] : List Value).toArray meth c G := ⟨hx, hb, hml, hown, hts, hKK, hlocks⟩
  have hw : ab_w (([], [], []), [], [], 0) (fun _ _ => False) (fun pc' lv' st' cs' => lv' = [none] ∧ st' = [] ∧ cs' = [] ∧ pc' = 96 + 3 * rx_shape a) rx_sw [none] [.inl a] [] := by
    refine ⟨ha, ?_⟩
    have hd : ¬ a = 97 → ¬ a = 99 → ¬ a = 109 → ¬ a = 112 → ¬ a = 114 → ¬ a = 115 → ¬ a = 116 → rx_shape a = 7 := by
      intro h1 h2 h3 h4 h5 h6 h7
      unfold rx_shape
      rw [if_neg h4, if_neg h2, if_neg h6, if_neg h7, if_neg h1, if_neg h3, if_neg h5]
    have hf : ∀ v : Int, a = v → rx_shape a = rx_shape v := fun v h => by rw [h]
    refine ⟨fun h => ⟨rfl, rfl, rfl, by rw [hf _ h]; rfl⟩, fun h97 => ?_⟩
    refine ⟨fun h => ⟨rfl, rfl, rfl, by rw [hf _ h]; rfl⟩, fun h98 => ?_⟩
    refine ⟨fun h => ⟨rfl, rfl, rfl, by rw [hf _ h]; rfl⟩, fun h99 => ?_⟩
    refine ⟨fun h => ⟨rfl, rfl, rfl, by rw [hf _ h]; rfl⟩, fun h100 => ?_⟩
    refine ⟨fun h => ⟨rfl, rfl, rfl, by rw [hf _ h]; rfl⟩, fun h101 => ?_⟩
    refine ⟨fun h => ⟨rfl, rfl, rfl, by rw [hf _ h]; rfl⟩, fun h102 => ?_⟩
    refine ⟨fun h => ⟨rfl, rfl, rfl, by rw [hf _ h]; rfl⟩, fun h103 => ?_⟩
    refine ⟨fun h => ⟨rfl, rfl, rfl, by rw [hf _ h]; rfl⟩, fun h104 => ?_⟩
    refine ⟨fun h => ⟨rfl, rfl, rfl, by rw [hf _ h]; rfl⟩, fun h105 => ?_⟩
    refine ⟨fun h => ⟨rfl, rfl, rfl, by rw [hf _ h]; rfl⟩, fun h106 => ?_⟩
    refine ⟨fun h => ⟨rfl, rfl, rfl, by rw [hf _ h]; rfl⟩, fun h107 => ?_⟩
    refine ⟨fun h => ⟨rfl, rfl, rfl, by rw [hf _ h]; rfl⟩, fun h108 => ?_⟩
    refine ⟨fun h => ⟨rfl, rfl, rfl, by rw [hf _ h]; rfl⟩, fun h109 => ?_⟩
    refine ⟨fun h => ⟨rfl, rfl, rfl, by rw [hf _ h]; rfl⟩, fun h110 => ?_⟩
    refine ⟨fun h => ⟨rfl, rfl, rfl, by rw [hf _ h]; rfl⟩, fun h111 => ?_⟩
    refine ⟨fun h => ⟨rfl, rfl, rfl, by rw [hf _ h]; rfl⟩, fun h112 => ?_⟩
    refine ⟨fun h => ⟨rfl, rfl, rfl, by rw [hf _ h]; rfl⟩, fun h113 => ?_⟩
    refine ⟨fun h => ⟨rfl, rfl, rfl, by rw [hf _ h]; rfl⟩, fun h114 => ?_⟩
    refine ⟨fun h => ⟨rfl, rfl, rfl, by rw [hf _ h]; rfl⟩, fun h115 => ?_⟩
    refine ⟨fun h => ⟨rfl, rfl, rfl, by rw [hf _ h]; rfl⟩, fun h116 => ?_⟩
    exact ⟨rfl, rfl, rfl, by rw [hd h97 h99 h109 h112 h114 h115 h116]; rfl⟩
  have hgo := ab_s_sw (A := fun q => s.heap.size ≤ q) (ad := fun k => k) (N := 0) (cells := 0) (slots := 0) (e := e) (below := below) (l := l) (R := { frames := 1, cells := 0, slots := 0, locals := 0 }) (Qw := MQ below (va_Qr (fun (_ : Unit) => True) (fun _ ra _ => ra = adK (rx_shape a)) (fun q => s.heap.size ≤ q)) ([.int (Int32.ofInt a)] : List Value).toArray s 0 0 (fun q => s.heap.size ≤ q)) X rx_sw_ok hw (fun pc' lv' st' cs' hk => ?_)
  · refine hgo rfl s.heap [] ls (fun k q h => by cases h) hS ⟨hl.1, hl.2.1, rfl, fun i v h => ?_⟩
    match i, h with
    | 0, h => cases h
    | i + 1, h => cases h
  · obtain ⟨rfl, rfl, rfl, hpc⟩ := hk
    intro hN H locs ls2 hP2 hS2 hl2
    have hj := rx_shape_lt a
    rw [hpc]
    generalize rx_shape a = j at hj
    match j, hj with
    | 0, _ =>
      refine va_ldcS (own := RX0) (tx := ab_stx 0) (index := 62 + 2 * 0) hx hb hown (hZ 0 (by decide)) dk_X0_shapeOf_96 ?_
      exact W.aret hx hb hr (Or.inl ⟨_, rfl⟩) (Or.inr ⟨_, rfl⟩) (fun t ht hW => ⟨⟨(), adK 0, rfl, trivial, rfl⟩, hS2.F ht⟩) hS2.2.2 dk_X0_shapeOf_98
    | 1, _ =>
      refine va_ldcS (own := RX0) (tx := ab_stx 1) (index := 62 + 2 * 1) hx hb hown (hZ 1 (by decide)) dk_X0_shapeOf_99 ?_
      exact W.aret hx hb hr (Or.inl ⟨_, rfl⟩) (Or.inr ⟨_, rfl⟩) (fun t ht hW => ⟨⟨(), adK 1, rfl, trivial, rfl⟩, hS2.F ht⟩) hS2.2.2 dk_X0_shapeOf_101
    | 2, _ =>
      refine va_ldcS (own := RX0) (tx := ab_stx 2) (index := 62 + 2 * 2) hx hb hown (hZ 2 (by decide)) dk_X0_shapeOf_102 ?_
      exact W.aret hx hb hr (Or.inl ⟨_, rfl⟩) (Or.inr ⟨_, rfl⟩) (fun t ht hW => ⟨⟨(), adK 2, rfl, trivial, rfl⟩, hS2.F ht⟩) hS2.2.2 dk_X0_shapeOf_104
    | 3, _ =>
      refine va_ldcS (own := RX0) (tx := ab_stx 3) (index := 62 + 2 * 3) hx hb hown (hZ 3 (by decide)) dk_X0_shapeOf_105 ?_
      exact W.aret hx hb hr (Or.inl ⟨_, rfl⟩) (Or.inr ⟨_, rfl⟩) (fun t ht hW => ⟨⟨(), adK 3, rfl, trivial, rfl⟩, hS2.F ht⟩) hS2.2.2 dk_X0_shapeOf_107
    | 4, _ =>
      refine va_ldcS (own := RX0) (tx := ab_stx 4) (index := 62 + 2 * 4) hx hb hown (hZ 4 (by decide)) dk_X0_shapeOf_108 ?_
      exact W.aret hx hb hr (Or.inl ⟨_, rfl⟩) (Or.inr ⟨_, rfl⟩) (fun t ht hW => ⟨⟨(), adK 4, rfl, trivial, rfl⟩, hS2.F ht⟩) hS2.2.2 dk_X0_shapeOf_110
    | 5, _ =>
      refine va_ldcS (own := RX0) (tx := ab_stx 5) (index := 62 + 2 * 5) hx hb hown (hZ 5 (by decide)) dk_X0_shapeOf_111 ?_
      exact W.aret hx hb hr (Or.inl ⟨_, rfl⟩) (Or.inr ⟨_, rfl⟩) (fun t ht hW => ⟨⟨(), adK 5, rfl, trivial, rfl⟩, hS2.F ht⟩) hS2.2.2 dk_X0_shapeOf_113
    | 6, _ =>
      refine va_ldcS (own := RX0) (tx := ab_stx 6) (index := 62 + 2 * 6) hx hb hown (hZ 6 (by decide)) dk_X0_shapeOf_114 ?_
      exact W.aret hx hb hr (Or.inl ⟨_, rfl⟩) (Or.inr ⟨_, rfl⟩) (fun t ht hW => ⟨⟨(), adK 6, rfl, trivial, rfl⟩, hS2.F ht⟩) hS2.2.2 dk_X0_shapeOf_116
    | 7, _ =>
      refine va_ldcS (own := RX0) (tx := ab_stx 7) (index := 62 + 2 * 7) hx hb hown (hZ 7 (by decide)) dk_X0_shapeOf_117 ?_
      exact W.aret hx hb hr (Or.inl ⟨_, rfl⟩) (Or.inr ⟨_, rfl⟩) (fun t ht hW => ⟨⟨(), adK 7, rfl, trivial, rfl⟩, hS2.F ht⟩) hS2.2.2 dk_X0_shapeOf_119
    | j + 8, hj => omega
section RXV
variable {p : Program} {l : Launch} {e : Env} {R : Room} {s : State} {m : MethodId} {args : Array Value} {below : List Frame} {meth : Method} {c : Code} {own : String} {cc : ByteArray} {nL : Nat} {G : ab_G} {ad : Nat → Nat} {A : Nat → Prop} {N cells slots : Nat} {Qw : State → Prop} {E : ab_E} {Qr : ab_Q}
theorem rx_ret {v : Int32} {n : Int} {pc : Nat} {lv : ab_L} {ls : Array Slot} {r : List ab_V} {st0 : List Value} {a : Array Value} {cs : List ab_C} {H : Heap} {locs : List Loc} (hA : ∀ q, s.heap.size ≤ q → A q) (hN : cs.length = N) (hP : va_P G.1 vwCl (ab_cs G ad cs) H) (hS : va_S A s.heap H locs) (hl : ab_lh ad ls nL lv) (hn : Int32.ofInt n = v)
    (hr : va_Run p l e R s m args below meth c H locs cells slots 0 0 (F0 m pc ls st0) (r.map (ab_c ad)) (va_Qi (fun (r : Int32) (_ : Unit) => r = v) (fun _ _ => True) (fun q => H.size ≤ q) a) (fun q => H.size ≤ q))
    (hk : ab_W p l e R s m args below meth c nL G ad A N cells slots Qw (pc + 3) lv (.inl n :: r) cs) : W p l e R s m args below meth c H locs cells slots Qw (F0 m pc ls st0) := by
  refine va_calli hr hS (fun q h1 h2 => absurd h1 (Nat.not_lt.mpr h2)) (fun q hq => hA q (Nat.le_trans hS.1 hq)) (fun r1 u t H1 locs1 ht hvm hw hB hsz hk1 hS1 => ?_)
  subst hw
  subst hn
  exact hk hN H1 locs1 ls (fun k q hq => (hP k q hq).kept (hk1 _ (hP k q hq).lt (Nat.not_le.mpr (hP k q hq).lt))) hS1 hl
theorem rx_num {n : Nat} (h : n < 16) : Int32.ofInt (n : Int) = Int32.ofNat n := rfl
theorem rx_chr (j : Nat) (i : Int) : Int32.ofInt (rx_c j i) = sj_c j i.toNat := Int32.ofInt_toInt _
/-- one step of the walk -/
theorem rx_one {M : List (Nat × ab_MI)} {P : List ab_I} {adK adV : Nat → Nat} (hcc : cc = cX0_readOrder) (hown0 : own = RX0) (hRf : 6 ≤ R.frames) (hRl : 150 ≤ R.locals) (hL : sj_Z adK adV A s s.heap) (hT2 : ∀ i : Nat, i < 8 → vk_R "RootChunks$Pad" (62 + 2 * i) (ab_stx i) (adK i) s) (hadK : ∀ i : Nat, i < 8 → ad (1000 + i) = adK i)
    (X : ab_X own cc nL p s m args meth c G) (hZ : ab_Zs A s s.heap) (hrt : meth.sig.returnType = ab_rty E.2.2.2) (hT : ab_okT own E.1 = true) (hP0 : P.all (ab_okI cc) = true) (hP1 : (P.filter (fun q => !rx_sp q.1)).all (ab_okC1 own M E (R.frames, R.locals)) = true) (hC : ab_CT l M E) (hD : ab_Dn A ad N) (hA : ∀ q, s.heap.size ≤ q → A q) (hcs : cells ≤ R.cells ∧ slots ≤ R.slots)
    {K0 : ab_K} {q : ab_I} {lv : ab_L} {st : List ab_V} {cs : List ab_C} (hq : q ∈ P) (hw : rx_w E Qr K0 q lv st cs) (hK : ∀ pc' lv' st' cs', K0 pc' lv' st' cs' → ab_W p l e R s m args below meth c nL G ad A N cells slots (MQ below (ab_Post G ad Qr N A) args s cells slots A) pc' lv' st' cs') : ab_W p l e R s m args below meth c nL G ad A N cells slots (MQ below (ab_Post G ad Qr N A) args s cells slots A) q.1 lv st cs := by
  obtain ⟨hx, hb, hml, hown, hts, hKK, hlk⟩ := id X
  subst hown0
  subst hcc
  unfold rx_w at hw
  split at hw
  · next e1 =>
    rw [Nat.eq_of_beq_eq_true e1]
    intro hN H locs ls hP hS hl
    obtain ⟨a, r, rfl, hw2⟩ := ab_i1.of hw
    split at hw2
    · next e2 =>
      obtain ⟨ha, hk⟩ := hw2
      have b2 := Nat.le_of_ble_eq_true e2
      refine va_callr (va_runS (mc := 0) (ms := 0) (n := 1) (As := [.int (Int32.ofInt a)]) (rest := r.map (ab_c ad)) ⟨hx, hb, hml, hown, hts⟩ (sj_X0_shapeOf l G adK a ha H.size) ⟨callB_of 1 hts (ab_good (y := yX0_shapeOf) (b := cX0_shapeOf) (mL := 1) (ret := some (.object "java/lang/String")) (by decide +kernel)) rfl rfl rfl (sj_hts hts (w := .initialized yX0_shapeOf.cls) (by decide +kernel)) (sj_hts hts (w := .methodLink RX0 42 yX0_shapeOf) (by decide +kernel)) ⟨by decide +kernel, by decide +kernel, by decide +kernel⟩ ⟨Nat.le_trans (Nat.le_of_ble_eq_true rfl) hRf, Nat.le_trans (Nat.le_of_ble_eq_true rfl) hRl⟩, sj_hts hts (w := .static yX0_shapeOf) (by decide +kernel)⟩ ⟨sj_blinds, fun U hU hW => ⟨rfl, by rw [hU], hKK.warm hW, fun i hi => (hT2 i hi).warm hW⟩⟩ rfl rfl hl.1 rfl (lv_room (by rw [ab_catS]; exact b2)) (show decode cX0_readOrder 12 = .ok (.invokestatic 42, 3) by decide +kernel) hcs) hS (fun q h1 h2 => absurd h1 (Nat.not_lt.mpr h2)) (fun q hq => hA q (Nat.le_trans hS.1 hq)) (fun u ra t H1 locs1 ht hvm hw hB hsz hk1 hS1 => ?_)
      have hra : ra = ad (1000 + rx_shape a) := by rw [hadK _ (rx_shape_lt a)]; exact hB
      rw [hra]
      exact hK _ _ _ _ hk hN H1 locs1 ls (fun k q hq => (hP k q hq).kept (hk1 _ (hP k q hq).lt (Nat.not_le.mpr (hP k q hq).lt))) hS1 hl
    · exact hw2.elim
  · split at hw
    · next e1 =>
      rw [Nat.eq_of_beq_eq_true e1]
      intro hN H locs ls hP hS hl
      obtain ⟨k, r, rfl, hw2⟩ := ab_p1.of hw
      split at hw2
      · next e2 =>
        obtain ⟨⟨k0, k1⟩, hk⟩ := hw2
        have b2 := Nat.le_of_ble_eq_true e2
        obtain ⟨j, rfl⟩ : ∃ j, k = 1000 + j := ⟨k - 1000, by omega⟩
        have hj : j < 8 := by omega
        rw [show 1000 + j - 1000 = j by omega] at hk
        refine rx_ret (v := Int32.ofNat (ab_sl.getD j 0)) (n := ((ab_sl.getD j 0 : Nat) : Int)) (r := r) (a := ([.ref (adK j)] : List Value).toArray) hA hN hP hS hl rfl ?_ (hK _ _ _ _ hk)
        show va_Run p l e R s m args below meth c H locs cells slots 0 0 (F0 m 22 ls (.ref (ad (1000 + j)) :: r.map (ab_c ad))) _ _ _
        rw [hadK j hj]
        exact va_runV (mc := 0) (ms := 0) (n := 0) (As := []) (rest := r.map (ab_c ad)) ⟨hx, hb, hml, hown, hts⟩ (sj_J0_length_8abf5 l adK adV j hj H.size) ⟨callB_of 0 hts (ab_good (y := yJ0_length_8abf5) (b := cJ0_length_8abf5) (mL := 1) (ret := some .int) (by decide +kernel)) rfl rfl rfl (sj_hts hts (w := .initialized yJ0_length_8abf5.cls) (by decide +kernel)) (sj_hts hts (w := .methodLink RX0 46 yJ0_length_8abf5) (by decide +kernel)) ⟨by decide +kernel, by decide +kernel, by decide +kernel⟩ ⟨Nat.le_trans (Nat.le_of_ble_eq_true rfl) hRf, Nat.le_trans (Nat.le_of_ble_eq_true rfl) hRl⟩, sj_hts hts (w := .instanceMethod yJ0_length_8abf5) (by decide +kernel), sj_hts hts (w := .selects RJ0 yJ0_length_8abf5 yJ0_length_8abf5) (by decide +kernel)⟩ ⟨sj_blind, vk_recv hL.1 hj hS, fun U hU hW => ⟨rfl, by rw [hU], hL.to hS hW hU (fun q hq => hA q (Nat.le_trans hS.1 hq))⟩⟩ rfl rfl hl.1 rfl (lv_room (by rw [ab_catS]; exact b2)) (show decode cX0_readOrder 22 = .ok (.invokevirtual 46, 3) by decide +kernel) hcs
      · exact hw2.elim
    · split at hw
      · next e1 =>
        rw [Nat.eq_of_beq_eq_true e1]
        intro hN H locs ls hP hS hl
        obtain ⟨k, i, r, rfl, hw2⟩ := ab_pi.of hw
        split at hw2
        · next e2 =>
          obtain ⟨⟨k0, k1, i0, i1⟩, hk⟩ := hw2
          have b2 := Nat.le_of_ble_eq_true e2
          obtain ⟨j, rfl⟩ : ∃ j, k = 1000 + j := ⟨k - 1000, by omega⟩
          have hj : j < 8 := by omega
          rw [show 1000 + j - 1000 = j by omega] at hk i1
          obtain ⟨i, rfl⟩ : ∃ i' : Nat, i = (i' : Int) := ⟨i.toNat, by omega⟩
          refine rx_ret (v := sj_c j i) (n := rx_c j i) (r := r) (a := ([.ref (adK j), .int (Int32.ofNat i)] : List Value).toArray) hA hN hP hS hl (rx_chr j i) ?_ (hK _ _ _ _ hk)
          show va_Run p l e R s m args below meth c H locs cells slots 0 0 (F0 m 30 ls (.int (Int32.ofNat i) :: .ref (ad (1000 + j)) :: r.map (ab_c ad))) _ _ _
          rw [hadK j hj]
          exact va_runV (mc := 0) (ms := 0) (n := 1) (As := [.int (Int32.ofNat i)]) (rest := r.map (ab_c ad)) ⟨hx, hb, hml, hown, hts⟩ (sj_J0_charAt_5068e l adK adV j hj i (by omega) H.size) ⟨callB_of 1 hts (ab_good (y := yJ0_charAt_5068e) (b := cJ0_charAt_5068e) (mL := 2) (ret := some .char) (by decide +kernel)) rfl rfl rfl (sj_hts hts (w := .initialized yJ0_charAt_5068e.cls) (by decide +kernel)) (sj_hts hts (w := .methodLink RX0 51 yJ0_charAt_5068e) (by decide +kernel)) ⟨by decide +kernel, by decide +kernel, by decide +kernel⟩ ⟨Nat.le_trans (Nat.le_of_ble_eq_true rfl) hRf, Nat.le_trans (Nat.le_of_ble_eq_true rfl) hRl⟩, sj_hts hts (w := .instanceMethod yJ0_charAt_5068e) (by decide +kernel), sj_hts hts (w := .selects RJ0 yJ0_charAt_5068e yJ0_charAt_5068e) (by decide +kernel)⟩ ⟨sj_blind, vk_recv hL.1 hj hS, fun U hU hW => ⟨rfl, by rw [hU], hL.to hS hW hU (fun q hq => hA q (Nat.le_trans hS.1 hq))⟩⟩ rfl rfl hl.1 rfl (lv_room (by rw [ab_catS]; exact b2)) (show decode cX0_readOrder 30 = .ok (.invokevirtual 51, 3) by decide +kernel) hcs
        · exact hw2.elim
      · split at hw
        · next e1 =>
          rw [Nat.eq_of_beq_eq_true e1]
          intro hN H locs ls hP hS hl
          obtain ⟨k, r, rfl, hw2⟩ := ab_p1.of hw
          split at hw2
          · next e2 =>
            obtain ⟨⟨k0, k1⟩, hk⟩ := hw2
            have b2 := Nat.le_of_ble_eq_true e2
            obtain ⟨j, rfl⟩ : ∃ j, k = 1000 + j := ⟨k - 1000, by omega⟩
            have hj : j < 8 := by omega
            rw [show 1000 + j - 1000 = j by omega] at hk
            refine rx_ret (v := if ab_sl.getD j 0 = 0 then 1 else 0) (n := if ab_sl.getD j 0 = 0 then 1 else 0) (r := r) (a := ([.ref (adK j)] : List Value).toArray) hA hN hP hS hl (by split <;> rfl) ?_ (hK _ _ _ _ hk)
            show va_Run p l e R s m args below meth c H locs cells slots 0 0 (F0 m 95 ls (.ref (ad (1000 + j)) :: r.map (ab_c ad))) _ _ _
            rw [hadK j hj]
            exact va_runV (mc := 0) (ms := 0) (n := 0) (As := []) (rest := r.map (ab_c ad)) ⟨hx, hb, hml, hown, hts⟩ (sj_J0_isEmpty_aae02 l adK adV j hj H.size) ⟨callB_of 0 hts (ab_good (y := yJ0_isEmpty_aae02) (b := cJ0_isEmpty_aae02) (mL := 1) (ret := some .boolean) (by decide +kernel)) rfl rfl rfl (sj_hts hts (w := .initialized yJ0_isEmpty_aae02.cls) (by decide +kernel)) (sj_hts hts (w := .methodLink RX0 59 yJ0_isEmpty_aae02) (by decide +kernel)) ⟨by decide +kernel, by decide +kernel, by decide +kernel⟩ ⟨Nat.le_trans (Nat.le_of_ble_eq_true rfl) hRf, Nat.le_trans (Nat.le_of_ble_eq_true rfl) hRl⟩, sj_hts hts (w := .instanceMethod yJ0_isEmpty_aae02) (by decide +kernel), sj_hts hts (w := .selects RJ0 yJ0_isEmpty_aae02 yJ0_isEmpty_aae02) (by decide +kernel)⟩ ⟨sj_blind, vk_recv hL.1 hj hS, fun U hU hW => ⟨rfl, by rw [hU], hL.to hS hW hU (fun q hq => hA q (Nat.le_trans hS.1 hq))⟩⟩ rfl rfl hl.1 rfl (lv_room (by rw [ab_catS]; exact b2)) (show decode cX0_readOrder 95 = .ok (.invokevirtual 59, 3) by decide +kernel) hcs
          · exact hw2.elim
        · have n1 : Nat.beq q.1 12 = false := by assumption
          have n2 : Nat.beq q.1 22 = false := by assumption
          have n3 : Nat.beq q.1 30 = false := by assumption
          have n4 : Nat.beq q.1 95 = false := by assumption
          have hsp : rx_sp q.1 = false := by
            unfold rx_sp
            rw [n1, n2, n3, n4]
            rfl
          have hq2 : q ∈ P.filter (fun q => !rx_sp q.1) := List.mem_filter.mpr ⟨hq, by rw [hsp]; rfl⟩
          exact ab_one (P := P.filter (fun q => !rx_sp q.1)) X hZ hrt hT (List.all_eq_true.mpr (fun x hx => List.all_eq_true.mp hP0 x (List.mem_filter.mp hx).1)) hP1 hC hD hA hcs hq2 hw hK
end RXV
