/-! THE CLAIM OUT OF ONE WALK OF THE LAW'S BODY. Your part is whole_start (and what it stands on); all else here is the same for every law, but numbers. -/
def R_law : String := "RootChunksLaw"
def lw_P (b : Addr) (xs : List Int32) (args : Array Value) (s : State) : Prop := args = #[.ref b] ∧ s.IntsAt b xs ∧ xs.length ≤ 2048 ∧ (Jvm.Cond.and given_1 narrow_1).before args s = true
def lw_Q (_ : Array Value) (s : State) (o : Outcome) (t : State) : Prop := o = .returned (some (.int 1)) ∧ Framed s o t [] 600000 7302250
def lw_Z (below : List Frame) (a : Array Value) (s : State) : State → Prop := fun t => ∃ o, t.status = .running ∧ Ended t below o ∧ lw_Q a s o t
/-- the law's own end, with 1 on the stack, nothing written that was there before, its room as the claim has it -/
theorem lw_ret {p : Program} {l : Launch} {e : Env} {s : State} {m : MethodId} {below : List Frame} {meth : Method} {c : Code} {b : Nat} (hx : p.tables.exec = Jvm.exec) (hb : c.code = code) (hr : meth.sig.returnType = ret) (hlocks : meth.locks = false) {pc : Nat} {H : Heap} {ls : Array Slot} (hdg : decode code pc = .ok (.ireturn, 1)) : W p l e room_1 s m #[Value.ref b] below meth c H [] 600000 7302250 (lw_Z below #[Value.ref b] s) (F0 m pc ls [.int 1]) := by
  intro T hT X
  obtain ⟨fs, hret, hrun, hended, hW, hframe⟩ := X.leave (v := some (.int 1)) (hlocks := hlocks) (fun h => by rw [hr] at h; cases h)
  have hmeth' : T.vm.method? m = some meth := X.method'
  refine ⟨T.setFrames fs, ?_, .returned (some (.int 1)), hrun, hended, rfl, ⟨_, rfl⟩, hW, hframe⟩
  jvm_step X.here [X.here.top, hx, hb, hdg, hmeth', hr, ret, narrow_b1]
  (try refine ⟨rfl, ?_⟩); (try refine ⟨rfl, ?_⟩)
  first | (intro acts; rw [hret _ acts rfl rfl rfl]) | rw [hret _ _ rfl rfl rfl]
  exact Steps.refl _
/-- what holds at the law's entry: the machine, the code, the tables' words (any of lw_tbl by 'hts w (by decide +kernel)'), the script of L ints xs at the cell b, what the Statement gives of the start (any of its parts by flat_of_before) -/
def lw_At (p : Program) (s : State) (m : MethodId) (meth : Method) (c : Code) (b L : Nat) (xs : Nat → Int32) : Prop :=
  p.tables.exec = Jvm.exec ∧ c.code = code ∧ meth.sig.returnType = ret ∧ c.maxLocals = 4 ∧ s.vm.findClass R_law = some m.cls ∧ (∀ w ∈ lw_tbl, w.before #[Value.ref b] s = true) ∧ va_X b L xs s s.heap ∧ b < s.heap.size ∧ meth.locks = false ∧ (Jvm.Cond.and given_1 narrow_1).before #[Value.ref b] s = true
section LXV
variable {p : Program} {l : Launch} {e : Env} {R : Room} {s : State} {m : MethodId} {args : Array Value} {below : List Frame} {meth : Method} {c : Code} {own : String} {cc : ByteArray} {nL : Nat} {G : ab_G} {ad : Nat → Nat} {A : Nat → Prop} {N cells slots : Nat} {Qw : State → Prop} {E : ab_E}
/-- one step of the law's walk -/
theorem lx_one {M : List (Nat × ab_MI)} {P : List ab_I} {f : Int → Int} {L b : Nat} {xs : Nat → Int32} (hf : ∀ j : Nat, j < L → f j = (xs j).toInt) (hL : L ≤ 2048) (hXs : va_X b L xs s s.heap) (hbl : b < s.heap.size) (hbA : ¬ A b) (had : ad 2000 = b)
    (X : ab_X own cc nL p s m args meth c G) (hZ : ab_Zs A s s.heap) (hT : ab_okT own E.1 = true) (hP0 : P.all (ab_okI cc) = true) (hP1 : P.all (ab_okC1 own M E (R.frames, R.locals)) = true) (hC : ab_CT l M E) (hD : ab_Dn A ad N) (hA : ∀ q, s.heap.size ≤ q → A q) (hcs : cells ≤ R.cells ∧ slots ≤ R.slots)
    (hret : ∀ (pc : Nat) (H : Heap) (locs : List Loc) (ls : Array Slot), decode cc pc = .ok (.ireturn, 1) → va_S A s.heap H locs → W p l e R s m args below meth c H locs cells slots Qw (F0 m pc ls [.int 1]))
    {K0 : ab_K} {q : ab_I} {lv : ab_L} {st : List ab_V} {cs : List ab_C} (hq : q ∈ P) (hw : lx_w f L E K0 q lv st cs) (hK : ∀ pc' lv' st' cs', K0 pc' lv' st' cs' → ab_W p l e R s m args below meth c nL G ad A N cells slots Qw pc' lv' st' cs') : ab_W p l e R s m args below meth c nL G ad A N cells slots Qw q.1 lv st cs := by
  have o1 := List.all_eq_true.mp hP0 q hq
  have o2 := List.all_eq_true.mp hP1 q hq
  obtain ⟨hx, hb, hml, hown, hts, hKK, hlk⟩ := id X
  obtain ⟨pc, i, nx, tg⟩ := q
  cases i with
  | iaload =>
    unfold lx_w at hw
    dsimp only at hw
    split at hw
    · next i k r =>
      split at hw
      · next e2 =>
        obtain ⟨⟨i0, i1⟩, hk⟩ := hw
        intro hN H locs ls hP hS hl
        have e3 := Nat.eq_of_beq_eq_true e2
        subst e3
        obtain ⟨hd0, hg⟩ := ab_and o1
        have hd : decode cc pc = .ok (.iaload, nx - pc) := of_decide_eq_true hd0
        have e1 : nx = pc + 1 := Nat.eq_of_beq_eq_true hg
        subst e1
        rw [show pc + 1 - pc = 1 by omega] at hd
        obtain ⟨j, rfl⟩ : ∃ j : Nat, i = (j : Int) := ⟨i.toNat, by omega⟩
        have hj : j < L := by omega
        rw [hf j hj] at hk
        obtain ⟨v1, v2⟩ := ab_in (i := (j : Int)) (n := L) i0 i1 (by omega)
        have v3 : (Int32.ofInt (j : Int)).toNatClampNeg = j := by omega
        show W p l e R s m args below meth c H locs cells slots Qw (F0 m pc ls (.int (Int32.ofInt (j : Int)) :: .ref (ad 2000) :: r.map (ab_c ad)))
        rw [had]
        refine va_sld hx hb hXs hbl hbA hS v1 hd ?_
        rw [v3]
        have h9 := hK _ _ _ _ hk hN H locs ls hP hS hl
        have e9 : ab_c ad (.inl (xs j).toInt) = .int (xs j) := by
          show Value.int (Int32.ofInt (xs j).toInt) = .int (xs j)
          rw [Int32.ofInt_toInt]
        rw [List.map_cons, e9] at h9
        exact h9
      · exact hw.elim
    · exact hw.elim
  | arraylength =>
    unfold lx_w at hw
    dsimp only at hw
    split at hw
    · next k r =>
      split at hw
      · next e2 =>
        intro hN H locs ls hP hS hl
        have e3 := Nat.eq_of_beq_eq_true e2
        subst e3
        obtain ⟨hd0, hg⟩ := ab_and o1
        have hd : decode cc pc = .ok (.arraylength, nx - pc) := of_decide_eq_true hd0
        have e1 : nx = pc + 1 := Nat.eq_of_beq_eq_true hg
        subst e1
        rw [show pc + 1 - pc = 1 by omega] at hd
        show W p l e R s m args below meth c H locs cells slots Qw (F0 m pc ls (.ref (ad 2000) :: r.map (ab_c ad)))
        rw [had]
        refine va_slen hx hb hXs hbl hbA hS hd ?_
        exact hK _ _ _ _ hw hN H locs ls hP hS hl
      · exact hw.elim
    · exact hw.elim
  | ireturn =>
    unfold lx_w at hw
    dsimp only at hw
    split at hw
    · next a =>
      subst hw
      intro hN H locs ls hP hS hl
      obtain ⟨hd0, hg⟩ := ab_and o1
      have hd : decode cc pc = .ok (.ireturn, nx - pc) := of_decide_eq_true hd0
      have e1 : nx = pc + 1 := Nat.eq_of_beq_eq_true hg
      subst e1
      rw [show pc + 1 - pc = 1 by omega] at hd
      exact hret pc H locs ls hd hS
    · exact hw.elim
  | if_icmp cnd o =>
    cases cnd with
    | eq =>
      obtain ⟨hd0, hg⟩ := ab_and o1
      obtain ⟨h1, h2⟩ := ab_and hg
      have ht := of_decide_eq_true h1
      have hd : decode cc pc = .ok (.if_icmp .eq o, nx - pc) := of_decide_eq_true hd0
      have e1 : nx = pc + 3 := Nat.eq_of_beq_eq_true h2
      subst e1
      rw [show pc + 3 - pc = 3 by omega] at hd
      obtain ⟨a, b1, r, rfl, rfl, hk⟩ := ab_i2.of (show ab_i2 st (fun a b r => a = b ∧ K0 (ab_tg tg) lv r cs) from hw)
      intro hN H locs ls hP hS hl
      exact lv_icmp_eq hx hb hd ht (fun _ => hK _ _ _ _ hk hN H locs ls hP hS hl) (fun z => absurd rfl z)
    | _ => exact ab_s_pure (Qr := fun _ _ => False) X hT o1 rfl hw hK
  | invokevirtual ix => exact ab_s_virt (Qr := fun _ _ => False) X hZ hC hD hA hcs o1 o2 hw hK
  | tableswitch d lo hi offs => exact ab_s_sw (E := E) (Qr := fun _ _ => False) X o1 hw hK
  | _ => first | exact ab_s_pure (Qr := fun _ _ => False) X hT o1 rfl hw hK | exact (show False from hw).elim
theorem lx_sound {M : List (Nat × ab_MI)} {P : List ab_I} {f : Int → Int} {L b : Nat} {xs : Nat → Int32} (hf : ∀ j : Nat, j < L → f j = (xs j).toInt) (hL : L ≤ 2048) (hXs : va_X b L xs s s.heap) (hbl : b < s.heap.size) (hbA : ¬ A b) (had : ad 2000 = b)
    (X : ab_X own cc nL p s m args meth c G) (hZ : ab_Zs A s s.heap) (hT : ab_okT own E.1 = true) (hP0 : P.all (ab_okI cc) = true) (hP1 : P.all (ab_okC1 own M E (R.frames, R.locals)) = true) (hC : ab_CT l M E) (hD : ab_Dn A ad N) (hA : ∀ q, s.heap.size ≤ q → A q) (hcs : cells ≤ R.cells ∧ slots ≤ R.slots)
    (hret : ∀ (pc : Nat) (H : Heap) (locs : List Loc) (ls : Array Slot), decode cc pc = .ok (.ireturn, 1) → va_S A s.heap H locs → W p l e R s m args below meth c H locs cells slots Qw (F0 m pc ls [.int 1]))
    {pc : Nat} {lv : ab_L} {st : List ab_V} {cs : List ab_C} (h : lx_R f L E P pc lv st cs) : ab_W p l e R s m args below meth c nL G ad A N cells slots Qw pc lv st cs := by
  refine h (ab_W p l e R s m args below meth c nL G ad A N cells slots Qw) ?_
  intro pc lv st cs q K0 hf0 hw hK
  obtain ⟨hq, rfl⟩ := ab_find_in hf0
  exact lx_one hf hL hXs hbl hbA had X hZ hT hP0 hP1 hC hD hA hcs hret hq hw hK
end LXV
/-! what the Statement gives of the literals -/
def lx_tm (i : Nat) : Term := .string "RootChunks$Pad" (62 + 2 * i)
def lx_FL : List Jvm.Cond := flatC (Jvm.Cond.and given_1 narrow_1)
theorem lx_ex : ∀ i : Nat, i < 8 → Cond.exactly (lx_tm i) "java/lang/String" ∈ lx_FL := by decide +kernel
theorem lx_co : ∀ i : Nat, i < 8 → Cond.eq (.field (lx_tm i) "java/lang/String" "coder" "B") (.int 0) ∈ lx_FL := by decide +kernel
theorem lx_ar : ∀ i : Nat, i < 8 → Cond.arrayOf (.field (lx_tm i) "java/lang/String" "value" "[B") .byte ∈ lx_FL := by decide +kernel
theorem lx_le : ∀ i : Nat, i < 8 → Cond.eq (.length (.field (lx_tm i) "java/lang/String" "value" "[B")) (.int (Int32.ofNat (ab_sl.getD i 0))) ∈ lx_FL := by decide +kernel
theorem lx_el : ∀ i : Nat, i < 8 → ∀ j : Nat, j < ab_sl.getD i 0 → Cond.eq (.elem (.field (lx_tm i) "java/lang/String" "value" "[B") (.int (Int32.ofNat j))) (.int ((ab_sb.getD i []).getD j 0)) ∈ lx_FL := by decide +kernel
theorem lx_ne : ∀ i : Nat, i < 8 → ∀ j : Nat, j < 8 → i ≠ j → (Cond.not (Cond.eq (lx_tm i) (lx_tm j)) ∈ lx_FL ∨ Cond.not (Cond.eq (lx_tm j) (lx_tm i)) ∈ lx_FL) := by decide +kernel
theorem lx_sr : ∀ i : Nat, i < 8 → Cond.stringRef "RootChunks$Pad" (62 + 2 * i) (ab_stx i) ∈ lw_tbl := by decide +kernel
theorem lx_Zs {s : State} {args : Array Value} (hts : ∀ w ∈ lw_tbl, w.before args s = true) (hg : (Jvm.Cond.and given_1 narrow_1).before args s = true) : ab_Zs (fun q => s.heap.size ≤ q) s s.heap := by
  have hs : ∀ w ∈ lx_FL, w.before args s = true := flat_of_before _ hg
  have hA : ∀ a : Nat, a < s.heap.size → ¬ s.heap.size ≤ a := fun a h => Nat.not_le.mpr h
  obtain ⟨adK, adV, h1, h2⟩ := vk_Sof (args := args) (s := s) (N := 8) (tm := lx_tm) (len := ab_sl) (byt := ab_sb) (A := fun q => s.heap.size ≤ q) (by decide +kernel) (fun i hi => hs _ (lx_ex i hi)) (fun i hi => hs _ (lx_co i hi)) (fun i hi => hs _ (lx_ar i hi)) (fun i hi => hs _ (lx_le i hi)) (fun i hi j hj => hs _ (lx_el i hi j hj))
    (fun i j hi hj hij => (lx_ne i hi j hj hij).imp (fun h => hs _ h) (fun h => hs _ h)) hA
  refine ⟨⟨adK, adV, h1, fun i hi => vk_R.of (hts _ (lx_sr i hi)) (h2 i hi)⟩, ?_, ?_⟩
  · exact va_Zof (hts (.laysStatic "java/lang/String" "COMPACT_STRINGS" "Z") (by decide +kernel)) (hts (.initialized "java/lang/String") (by decide +kernel)) (va_eqt (hs (.eq (.static "java/lang/String" "COMPACT_STRINGS" "Z") (.int 1)) (by decide +kernel))) hA
  · exact va_Zqof (hts (.laysStatic "jdk/internal/util/Preconditions" "SIOOBE_FORMATTER" "Ljava/util/function/BiFunction;") (by decide +kernel)) (hts (.initialized "jdk/internal/util/Preconditions") (by decide +kernel)) (hs (.isRef (.static "jdk/internal/util/Preconditions" "SIOOBE_FORMATTER" "Ljava/util/function/BiFunction;")) (by decide +kernel)) hA
