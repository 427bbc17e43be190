/-! THE CLAIM OUT OF ONE WALK OF THE LAW'S BODY. Your part is whole_start (and what it stands on); all else here is the same for every law, but numbers. -/
def R_law : String := "RootChunksLaw"
def lw_P (b : Addr) (xs : List Int32) (args : Array Value) (s : State) : Prop := args = #[.ref b] ∧ s.IntsAt b xs ∧ xs.length ≤ 260 ∧ (Jvm.Cond.and given_1 narrow_1).before args s = true
def lw_Q (_ : Array Value) (s : State) (o : Outcome) (t : State) : Prop := o = .returned (some (.int 1)) ∧ Framed s o t [] 600000 7302250
def lw_Z (below : List Frame) (a : Array Value) (s : State) : State → Prop := fun t => ∃ o, t.status = .running ∧ Ended t below o ∧ lw_Q a s o t
/-- the law's own end, with 1 on the stack, nothing written that was there before, its room as the claim has it -/
theorem lw_ret {p : Program} {l : Launch} {e : Env} {s : State} {m : MethodId} {below : List Frame} {meth : Method} {c : Code} {b : Nat} (hx : p.tables.exec = Jvm.exec) (hb : c.code = code) (hr : meth.sig.returnType = ret) (hlocks : meth.locks = false) {pc : Nat} {H : Heap} {ls : Array Slot} (hdg : decode code pc = .ok (.ireturn, 1)) : W p l e room_1 s m #[Value.ref b] below meth c H [] 600000 7302250 (lw_Z below #[Value.ref b] s) (F0 m pc ls [.int 1]) := by
  intro T hT X
  obtain ⟨fs, hret, hrun, hended, hW, hframe⟩ := X.leave (v := some (.int 1)) (hlocks := hlocks) (fun h => by rw [hr] at h; cases h)
  have hmeth' : T.vm.method? m = some meth := X.method'
  refine ⟨T.setFrames fs, ?_, .returned (some (.int 1)), hrun, hended, rfl, ⟨_, rfl⟩, hW, hframe⟩
  jvm_step X.here [X.here.top, hx, hb, hdg, hmeth', hr, ret, narrow_b1]
  (try refine ⟨rfl, ?_⟩); (try refine ⟨rfl, ?_⟩)
  first | (intro acts; rw [hret _ acts rfl rfl rfl]) | rw [hret _ _ rfl rfl rfl]
  exact Steps.refl _
/-- what holds at the law's entry: the machine, the code, the tables' words (any of lw_tbl by 'hts w (by decide +kernel)'), the script of L ints xs at the cell b, what the Statement gives of the start (any of its parts by flat_of_before) -/
def lw_At (p : Program) (s : State) (m : MethodId) (meth : Method) (c : Code) (b L : Nat) (xs : Nat → Int32) : Prop :=
  p.tables.exec = Jvm.exec ∧ c.code = code ∧ meth.sig.returnType = ret ∧ c.maxLocals = 16 ∧ s.vm.findClass R_law = some m.cls ∧ (∀ w ∈ lw_tbl, w.before #[Value.ref b] s = true) ∧ va_X b L xs s s.heap ∧ b < s.heap.size ∧ meth.locks = false ∧ (Jvm.Cond.and given_1 narrow_1).before #[Value.ref b] s = true
/-! THE LAW'S CALL OF cell: the script is never written -/
theorem dk_L_cell_0 : decode cL_cell 0 = .ok (.iload_n 1, 1) := by decide +kernel
theorem dk_L_cell_1 : decode cL_cell 1 = .ok (.aload_n 0, 1) := by decide +kernel
theorem dk_L_cell_2 : decode cL_cell 2 = .ok (.arraylength, 1) := by decide +kernel
theorem dk_L_cell_3 : decode cL_cell 3 = .ok (.if_icmp .ge 9, 3) := by decide +kernel
theorem dk_L_cell_6 : decode cL_cell 6 = .ok (.aload_n 0, 1) := by decide +kernel
theorem dk_L_cell_7 : decode cL_cell 7 = .ok (.iload_n 1, 1) := by decide +kernel
theorem dk_L_cell_8 : decode cL_cell 8 = .ok (.iaload, 1) := by decide +kernel
theorem dk_L_cell_9 : decode cL_cell 9 = .ok (.goto 15, 3) := by decide +kernel
theorem dk_L_cell_12 : decode cL_cell 12 = .ok (.sipush 7919, 3) := by decide +kernel
theorem dk_L_cell_15 : decode cL_cell 15 = .ok (.iload_n 1, 1) := by decide +kernel
theorem dk_L_cell_16 : decode cL_cell 16 = .ok (.iconst 3, 1) := by decide +kernel
theorem dk_L_cell_17 : decode cL_cell 17 = .ok (.iadd, 1) := by decide +kernel
theorem dk_L_cell_18 : decode cL_cell 18 = .ok (.imul, 1) := by decide +kernel
theorem dk_L_cell_19 : decode cL_cell 19 = .ok (.iload_n 1, 1) := by decide +kernel
theorem dk_L_cell_20 : decode cL_cell 20 = .ok (.bipush 11, 2) := by decide +kernel
theorem dk_L_cell_22 : decode cL_cell 22 = .ok (.iadd, 1) := by decide +kernel
theorem dk_L_cell_23 : decode cL_cell 23 = .ok (.imul, 1) := by decide +kernel
theorem dk_L_cell_24 : decode cL_cell 24 = .ok (.ireturn, 1) := by decide +kernel
def lc_Pc (b L : Nat) (xs : Nat → Int32) (k : Int) : Array Value → State → Prop := va_Pc [.ref b, .int (Int32.ofInt k)] (fun U => va_X b L xs U U.heap ∧ b < U.heap.size)
def lc_Qc (r : Int32) : Array Value → State → Outcome → State → Prop := va_Qi (fun q (_ : Unit) => q = r) (fun _ _ => True) (fun _ => False)
theorem va_X.warm {b L : Nat} {xs : Nat → Int32} {s U : State} {H H' : Heap} (h : va_X b L xs s H) (ha : s.vm.Alike U.vm) (hH : H'[b]? = H[b]?) : va_X b L xs U H' := by
  obtain ⟨scr, h1, h2, h3, h4, h5⟩ := h
  exact ⟨scr, by rw [hH]; exact h1, State.isArrayOf_alike ha h2, h3, h4, h5⟩
theorem lc_blind {b L : Nat} {xs : Nat → Int32} {k : Int} : FrameBlind (lc_Pc b L xs k) := by
  intro a U g mk ⟨h0, h1, h2⟩
  exact ⟨h0, h1.warm (U := U.calling g mk a) (Vm.Alike.refl U.vm) rfl, h2⟩
theorem mt_L_cell (l : Launch) (b L : Nat) (xs : Nat → Int32) (f : Int → Int) (k : Int) (hf : ∀ j : Nat, j < L → f j = (xs j).toInt) (hL : L ≤ 2048) (h0 : 0 ≤ k) (h1 : k < 80) : Met l yL_cell (.code yL_cell cL_cell 2 (some .int) :: ab_TB) { frames := 1, cells := 0, slots := 0, locals := 70 } (lc_Pc b L xs k) (lc_Qc (Int32.ofInt (lc_c f L k))) 0 0 (fun _ => False) := by
  refine Met.ofW (cc := cL_cell) (maxL := 2) (ret := some .int) (by decide) rfl ?_
  intro p e s m args below meth c s₁ B hml hv
  obtain ⟨rfl, hXs, hbl⟩ := hv
  have hx := B.exec
  have hb := B.bytes
  have hr := B.returns
  have hlocks := B.notSynchronized
  rw [lg_entry_eq]
  have hl := lv_entry ([.ref b, .int (Int32.ofInt k)]) (n := 2) (Nat.le_of_ble_eq_true rfl)
  generalize (lg_sl ([.ref b, .int (Int32.ofInt k)]) ++ List.replicate (2 - (lg_sl ([.ref b, .int (Int32.ofInt k)])).length) Slot.unset).toArray = ls at hl ⊢
  have hl : lv_has ls 2 [(0, .ref b), (1, .int (Int32.ofInt k))] := hl
  have hS : va_S (fun _ => False) s.heap s.heap [] := va_S.rf
  have fin : ∀ (v : Int32), v = Int32.ofInt (lc_c f L k) → W p l e { frames := 1, cells := 0, slots := 0, locals := 70 } s m [Value.ref b, Value.int (Int32.ofInt k)].toArray below meth c s.heap [] 0 0 (MQ below (lc_Qc (Int32.ofInt (lc_c f L k))) [Value.ref b, Value.int (Int32.ofInt k)].toArray s 0 0 (fun _ => False)) (F0 m 24 ls [.int v]) := by
    intro v hv
    subst hv
    exact W.iret hx hb hr (fun t ht _ => ⟨⟨_, (), rfl, rfl, trivial⟩, hS.F ht⟩) hS.2.2 dk_L_cell_24 hlocks
  refine lv_iload_n hx hb dk_L_cell_0 rfl (lv_at hl 1 rfl) ?_
  refine lv_aload_n hx hb dk_L_cell_1 rfl (lv_at hl 0 rfl) ?_
  refine va_slen hx hb hXs hbl (fun h => h) hS dk_L_cell_2 ?_
  have rk : ab_r k := by unfold ab_r; omega
  have rL : ab_r ((L : Nat) : Int) := by unfold ab_r; omega
  have eL : Int32.ofNat L = Int32.ofInt ((L : Nat) : Int) := rfl
  rw [eL]
  refine lv_icmp_ge (tgt := 12) hx hb dk_L_cell_3 (by decide) (fun z => ?_) (fun z => ?_)
  · have z2 := (ab_leI rL rk).mp z
    refine lv_sipush (v := Int32.ofInt 7919) hx hb dk_L_cell_12 (by decide) ?_
    refine lv_iload_n hx hb dk_L_cell_15 rfl (lv_at hl 1 rfl) ?_
    refine lv_iconst (v := Int32.ofInt 3) hx hb dk_L_cell_16 rfl ?_
    refine lv_iadd hx hb dk_L_cell_17 ?_
    refine lv_imul hx hb dk_L_cell_18 ?_
    refine lv_iload_n hx hb dk_L_cell_19 rfl (lv_at hl 1 rfl) ?_
    refine lv_bipush (v := Int32.ofInt 11) hx hb dk_L_cell_20 (by decide) ?_
    refine lv_iadd hx hb dk_L_cell_22 ?_
    refine lv_imul hx hb dk_L_cell_23 ?_
    refine fin _ ?_
    unfold lc_c
    rw [if_neg (by omega), Int32.ofInt_mul, Int32.ofInt_mul, Int32.ofInt_add, Int32.ofInt_add]
  · have z2 : k < L := by
      have : ¬ ((L : Nat) : Int) ≤ k := fun h => z ((ab_leI rL rk).mpr h)
      omega
    refine lv_aload_n hx hb dk_L_cell_6 rfl (lv_at hl 0 rfl) ?_
    refine lv_iload_n hx hb dk_L_cell_7 rfl (lv_at hl 1 rfl) ?_
    obtain ⟨v1, v2⟩ := ab_in (i := k) (n := L) h0 z2 (by omega)
    refine va_sld hx hb hXs hbl (fun h => h) hS v1 dk_L_cell_8 ?_
    refine lv_goto (tgt := 24) hx hb dk_L_cell_9 (by decide) ?_
    refine fin _ ?_
    unfold lc_c
    rw [if_pos z2]
    have v3 : k = (((Int32.ofInt k).toNatClampNeg : Nat) : Int) := by omega
    conv => rhs; rw [v3]
    rw [hf _ (by omega), Int32.ofInt_toInt]
/-! THE LAW'S WALK: the script is the place 2000; what is known of a local may be forgotten -/
def lx_sp (pc : Nat) : Bool := Nat.beq pc 57 || Nat.beq pc 69
def lx_w (f : Int → Int) (L : Int) (E : ab_E) (K : ab_K) (q : ab_I) (lv : ab_L) (st : List ab_V) (cs : List ab_C) : Prop := match lx_sp q.1 with
  | true => match st with
    | .inl k :: .inr (.inl (some a)) :: r => match Nat.beq a 2000, Nat.ble (ab_cat r) 8 with
      | true, true => (0 ≤ k ∧ k < 80) ∧ K q.2.2.1 lv (.inl (lc_c f L k) :: r) cs
      | _, _ => False
    | _ => False
  | false => match q.2.1 with
    | .ireturn => match st with
      | [.inl a] => a = 1
      | _ => False
    | .invokevirtual _ => ab_w E (fun _ _ => False) K q lv st cs
    | .invokestatic _ => ab_w E (fun _ _ => False) K q lv st cs
    | i => match ab_pure i with
      | true => ab_w E (fun _ _ => False) K q lv st cs
      | false => False
def lx_le (a b : ab_L) : Prop := a.length = b.length ∧ ∀ (i : Nat) (v : ab_V), a[i]? = some (some v) → b[i]? = some (some v)
def lx_R (f : Int → Int) (L : Int) (E : ab_E) (P : List ab_I) : ab_K := fun pc lv st cs =>
  ∀ Z : ab_K, (∀ (pc : Nat) (lv : ab_L) (st : List ab_V) (cs : List ab_C) (q : ab_I) (K0 : ab_K), ab_find P pc = some q → lx_w f L E K0 q lv st cs → (∀ pc' lv' st' cs', K0 pc' lv' st' cs' → Z pc' lv' st' cs') → Z pc lv st cs) →
    (∀ (pc : Nat) (lv lv' : ab_L) (st : List ab_V) (cs : List ab_C), lx_le lv' lv → Z pc lv' st cs → Z pc lv st cs) → Z pc lv st cs
def lx_ws (f : Int → Int) (L : Int) (E : ab_E) (P : List ab_I) (K : ab_K) (stops : List Nat) : Nat → ab_K
  | 0 => K
  | n + 1 => fun pc lv st cs => match ab_find P pc with
    | some q => lx_w f L E (fun pc' lv' st' cs' => match ab_mem stops pc' with
      | true => K pc' lv' st' cs'
      | false => lx_ws f L E P K stops n pc' lv' st' cs') q lv st cs
    | none => False
theorem lx_R.step {f : Int → Int} {L : Int} {E : ab_E} {P : List ab_I} {pc : Nat} {lv : ab_L} {st : List ab_V} {cs : List ab_C} {q : ab_I} {K : ab_K} (hq : ab_find P pc = some q) (h : lx_w f L E K q lv st cs) (hK : ∀ pc' lv' st' cs', K pc' lv' st' cs' → lx_R f L E P pc' lv' st' cs') : lx_R f L E P pc lv st cs :=
  fun Z hZ hF => hZ pc lv st cs q K hq h (fun pc' lv' st' cs' k => hK pc' lv' st' cs' k Z hZ hF)
theorem lx_R.steps {f : Int → Int} {L : Int} {E : ab_E} {P : List ab_I} (stops : List Nat) : ∀ (n : Nat) {pc : Nat} {lv : ab_L} {st : List ab_V} {cs : List ab_C}, lx_ws f L E P (lx_R f L E P) stops n pc lv st cs → lx_R f L E P pc lv st cs
  | 0, _, _, _, _, h => h
  | n + 1, pc, lv, st, cs, h => by
    unfold lx_ws at h
    split at h
    · next q hq =>
      refine lx_R.step hq h (fun pc' lv' st' cs' k => ?_)
      split at k
      · exact k
      · exact lx_R.steps stops n k
    · exact h.elim
theorem lx_le.fg (lv : ab_L) (k : Nat) : lx_le (lv.set k none) lv := by
  refine ⟨List.length_set, fun i v hi => ?_⟩
  rw [List.getElem?_set] at hi
  split at hi
  · split at hi <;> cases hi
  · exact hi
theorem lx_R.fg {f : Int → Int} {L : Int} {E : ab_E} {P : List ab_I} {pc : Nat} {lv : ab_L} {st : List ab_V} {cs : List ab_C} (k : Nat) (_ : k = k) (h : lx_R f L E P pc (lv.set k none) st cs) : lx_R f L E P pc lv st cs := fun Z hZ hF => hF pc lv _ st cs (lx_le.fg lv k) (h Z hZ hF)
section LXV
variable {p : Program} {l : Launch} {e : Env} {R : Room} {s : State} {m : MethodId} {args : Array Value} {below : List Frame} {meth : Method} {c : Code} {cc : ByteArray} {nL : Nat} {G : ab_G} {ad : Nat → Nat} {A : Nat → Prop} {N cells slots : Nat} {Qw : State → Prop} {E : ab_E}
/-- the call of cell -/
theorem lx_cell {f : Int → Int} {L b : Nat} {xs : Nat → Int32} (hf : ∀ j : Nat, j < L → f j = (xs j).toInt) (hL : L ≤ 2048) (hXs : va_X b L xs s s.heap) (hbl : b < s.heap.size) (hbA : ¬ A b) (had : ad 2000 = b)
    (X : ab_X "RootChunksLaw" cc nL p s m args meth c G) (hcs : cells ≤ R.cells ∧ slots ≤ R.slots) (hR : 2 ≤ R.frames ∧ 91 ≤ R.locals) {K0 : ab_K} {pc : Nat} (hd : decode cc pc = .ok (.invokestatic 67, 3)) {lv : ab_L} {k : Int} {r : List ab_V} {cs : List ab_C} (hcat : ab_cat r ≤ 8) (h0 : 0 ≤ k) (h1 : k < 80)
    (hk : K0 (pc + 3) lv (.inl (lc_c f L k) :: r) cs) (hK : ∀ pc' lv' st' cs', K0 pc' lv' st' cs' → ab_W p l e R s m args below meth c nL G ad A N cells slots Qw pc' lv' st' cs') : ab_W p l e R s m args below meth c nL G ad A N cells slots Qw pc lv (.inl k :: .inr (.inl (some 2000)) :: r) cs := by
  obtain ⟨hx, hb, hml, hown, hts, hKK, hlk⟩ := id X
  intro hN H locs ls hP hS hl
  have hHb : H[b]? = s.heap[b]? := hS.2.1 b hbl hbA
  show W p l e R s m args below meth c H locs cells slots Qw (F0 m pc ls (.int (Int32.ofInt k) :: .ref (ad 2000) :: r.map (ab_c ad)))
  rw [had]
  have hps : PreS s H (lc_Pc b L xs k) [.ref b, .int (Int32.ofInt k)] := by
    refine ⟨lc_blind, fun U hU hW => ⟨rfl, ?_, ?_⟩⟩
    · rw [hU]; exact hXs.warm hW.alike hHb
    · rw [hU]; exact Nat.lt_of_lt_of_le hbl hS.1
  have hrun := va_runS (mc := 0) (ms := 0) (n := 2) (p := p) (l := l) (e := e) (R := R) (s := s) (m := m) (args := args) (below := below) (meth := meth) (c := c) (H := H) (locs := locs) (cells := cells) (slots := slots) (g := F0 m pc ls (.int (Int32.ofInt k) :: .ref b :: r.map (ab_c ad))) (rest := r.map (ab_c ad)) (As := [.ref b, .int (Int32.ofInt k)]) ⟨hx, hb, hml, hown, hts⟩ (mt_L_cell l b L xs f k hf hL h0 h1)
    ⟨callB_of 2 hts (ab_good (y := yL_cell) (b := cL_cell) (mL := 2) (ret := some .int) (by decide +kernel)) rfl rfl rfl (hts _ (ab_inB.to (w := .initialized yL_cell.cls) (by decide +kernel))) (hts _ (ab_inB.to (w := .methodLink "RootChunksLaw" 67 yL_cell) (by decide +kernel))) ⟨by decide, by decide, by decide +kernel⟩ ⟨hR.1, hR.2⟩, hts _ (ab_inB.to (w := .static yL_cell) (by decide +kernel))⟩
    hps rfl rfl hl.1 rfl (lv_room (by rw [ab_catS]; exact hcat)) hd hcs
  refine va_calli hrun hS (fun q _ h => h.elim) (fun q h => h.elim) (fun rr u t H1 locs1 ht hvm hpo hB hz hkeep hS1 => ?_)
  subst hpo
  refine hK _ _ _ _ hk hN H1 locs1 ls (fun k q hq => ?_) hS1 hl
  have hq0 := hP k q hq
  exact hq0.kept (hkeep _ hq0.lt (fun h => h))
/-- one step of the law's walk -/
theorem lx_one {M : List (Nat × ab_MI)} {P : List ab_I} {f : Int → Int} {L b : Nat} {xs : Nat → Int32} (hf : ∀ j : Nat, j < L → f j = (xs j).toInt) (hL : L ≤ 2048) (hXs : va_X b L xs s s.heap) (hbl : b < s.heap.size) (hbA : ¬ A b) (had : ad 2000 = b)
    (X : ab_X "RootChunksLaw" cc nL p s m args meth c G) (hZ : ab_Zs A s s.heap) (hT : ab_okT "RootChunksLaw" E.1 = true) (hP0 : P.all (ab_okI cc) = true) (hP1 : (P.filter (fun q => !lx_sp q.1)).all (ab_okC1 "RootChunksLaw" M E (R.frames, R.locals)) = true) (hP2 : P.all (fun q => !lx_sp q.1 || decide (q.2.1 = .invokestatic 67)) = true) (hC : ab_CT l M E) (hD : ab_Dn A ad N) (hA : ∀ q, s.heap.size ≤ q → A q) (hcs : cells ≤ R.cells ∧ slots ≤ R.slots) (hR : 2 ≤ R.frames ∧ 91 ≤ R.locals)
    (hret : ∀ (pc : Nat) (H : Heap) (locs : List Loc) (ls : Array Slot), decode cc pc = .ok (.ireturn, 1) → va_S A s.heap H locs → W p l e R s m args below meth c H locs cells slots Qw (F0 m pc ls [.int 1]))
    {K0 : ab_K} {q : ab_I} {lv : ab_L} {st : List ab_V} {cs : List ab_C} (hq : q ∈ P) (hw : lx_w f L E K0 q lv st cs) (hK : ∀ pc' lv' st' cs', K0 pc' lv' st' cs' → ab_W p l e R s m args below meth c nL G ad A N cells slots Qw pc' lv' st' cs') : ab_W p l e R s m args below meth c nL G ad A N cells slots Qw q.1 lv st cs := by
  have o1 := List.all_eq_true.mp hP0 q hq
  have o3 := List.all_eq_true.mp hP2 q hq
  obtain ⟨pc, i, nx, tg⟩ := q
  unfold lx_w at hw
  dsimp only at hw o3
  cases hsp : lx_sp pc with
  | true =>
    rw [hsp] at hw o3
    dsimp only at hw
    have hi : i = .invokestatic 67 := of_decide_eq_true o3
    subst hi
    obtain ⟨hd0, hg⟩ := ab_and o1
    have hd : decode cc pc = .ok (.invokestatic 67, nx - pc) := of_decide_eq_true hd0
    have e1 : nx = pc + 3 := Nat.eq_of_beq_eq_true hg
    subst e1
    rw [show pc + 3 - pc = 3 by omega] at hd
    split at hw
    · next k a r =>
      split at hw
      · next e2 e3 =>
        have e2 := Nat.eq_of_beq_eq_true e2
        subst e2
        exact lx_cell hf hL hXs hbl hbA had X hcs hR hd (Nat.le_of_ble_eq_true e3) hw.1.1 hw.1.2 hw.2 hK
      · exact hw.elim
    · exact hw.elim
  | false =>
    rw [hsp] at hw
    dsimp only at hw
    have o2 := List.all_eq_true.mp hP1 (pc, i, nx, tg) (List.mem_filter.mpr ⟨hq, by dsimp only; rw [hsp]; rfl⟩)
    cases i with
    | ireturn =>
      dsimp only at hw
      split at hw
      · next a =>
        subst hw
        intro hN H locs ls hP hS hl
        obtain ⟨hd0, hg⟩ := ab_and o1
        have hd : decode cc pc = .ok (.ireturn, nx - pc) := of_decide_eq_true hd0
        have e1 : nx = pc + 1 := Nat.eq_of_beq_eq_true hg
        subst e1
        rw [show pc + 1 - pc = 1 by omega] at hd
        exact hret pc H locs ls hd hS
      · exact hw.elim
    | invokevirtual ix => exact ab_s_virt (Qr := fun _ _ => False) X hZ hC hD hA hcs o1 o2 hw hK
    | invokestatic ix => exact ab_s_stat (Qr := fun _ _ => False) X hZ hC hD hA hcs o1 o2 hw hK
    | _ => first | exact ab_s_pure (Qr := fun _ _ => False) X hT o1 rfl hw hK | exact (show False from hw).elim
theorem lx_sound {M : List (Nat × ab_MI)} {P : List ab_I} {f : Int → Int} {L b : Nat} {xs : Nat → Int32} (hf : ∀ j : Nat, j < L → f j = (xs j).toInt) (hL : L ≤ 2048) (hXs : va_X b L xs s s.heap) (hbl : b < s.heap.size) (hbA : ¬ A b) (had : ad 2000 = b)
    (X : ab_X "RootChunksLaw" cc nL p s m args meth c G) (hZ : ab_Zs A s s.heap) (hT : ab_okT "RootChunksLaw" E.1 = true) (hP0 : P.all (ab_okI cc) = true) (hP1 : (P.filter (fun q => !lx_sp q.1)).all (ab_okC1 "RootChunksLaw" M E (R.frames, R.locals)) = true) (hP2 : P.all (fun q => !lx_sp q.1 || decide (q.2.1 = .invokestatic 67)) = true) (hC : ab_CT l M E) (hD : ab_Dn A ad N) (hA : ∀ q, s.heap.size ≤ q → A q) (hcs : cells ≤ R.cells ∧ slots ≤ R.slots) (hR : 2 ≤ R.frames ∧ 91 ≤ R.locals)
    (hret : ∀ (pc : Nat) (H : Heap) (locs : List Loc) (ls : Array Slot), decode cc pc = .ok (.ireturn, 1) → va_S A s.heap H locs → W p l e R s m args below meth c H locs cells slots Qw (F0 m pc ls [.int 1]))
    {pc : Nat} {lv : ab_L} {st : List ab_V} {cs : List ab_C} (h : lx_R f L E P pc lv st cs) : ab_W p l e R s m args below meth c nL G ad A N cells slots Qw pc lv st cs := by
  refine h (ab_W p l e R s m args below meth c nL G ad A N cells slots Qw) ?_ ?_
  · intro pc lv st cs q K0 hf0 hw hK
    obtain ⟨hq, rfl⟩ := ab_find_in hf0
    exact lx_one hf hL hXs hbl hbA had X hZ hT hP0 hP1 hP2 hC hD hA hcs hR hret hq hw hK
  · intro pc lv lv' st cs hle hz hN H locs ls hP hS hl
    exact hz hN H locs ls hP hS ⟨hl.1, hl.2.1, hle.1.trans hl.2.2.1, fun i v hi => hl.2.2.2 i v (hle.2 i v hi)⟩
end LXV
