/-! WHAT THE TABLES SAY OF A CLASS'S POOL AND OF A METHOD'S CODE -/
def ab_ty : Nat → FieldType
  | 0 => .int
  | 1 => .char
  | _ => .boolean
/-- a field's row: its link stands in the tables -/
def ab_okF (own : String) (q : Nat × Nat × Nat × Bool × Nat) : Bool := match q with
  | (ix, ci, k, nest, ty) => match vwCl[ci]? with
    | some (C, T, N) => decide (k < N) && (match nest with
      | true => decide (Jvm.Cond.fieldLinkNest own ix (T k).1 (T k).2.1 (T k).2.2.1 "RootChunks" ∈ ab_nw)
      | false => decide (Jvm.Cond.fieldLink own ix (T k).1 (T k).2.1 (T k).2.2.1 ∈ lw_tbl) && goodWord (Jvm.Cond.fieldLink own ix (T k).1 (T k).2.1 (T k).2.2.1)) &&
      (Nat.ble 3 ty || (decide (parseFieldDescriptor (T k).2.2.1 = some (ab_ty ty)) && !(T k).2.2.2))
    | none => false
def ab_okN (own : String) (q : Nat × Int) : Bool := decide (Jvm.Cond.constant own q.1 (Int32.ofInt q.2) ∈ lw_tbl) && goodWord (Jvm.Cond.constant own q.1 (Int32.ofInt q.2))
def ab_okM (own : String) (q : Nat × Int64) : Bool := decide (Jvm.Cond.constantLong own q.1 q.2 ∈ lw_tbl) && goodWord (Jvm.Cond.constantLong own q.1 q.2)
def ab_okT (own : String) (T : ab_T) : Bool := T.1.all (ab_okF own) && (T.2.1.all (ab_okN own) && T.2.2.all (ab_okM own))
def ab_ln : Instr → Nat
  | .bipush _ => 2
  | .iload _ => 2
  | .aload _ => 2
  | .lload _ => 2
  | .istore _ => 2
  | .astore _ => 2
  | .lstore _ => 2
  | .ldc _ => 2
  | .sipush _ => 3
  | .ldc2_w _ => 3
  | .iinc _ _ => 3
  | .ifCond _ _ => 3
  | .if_icmp _ _ => 3
  | .goto _ => 3
  | .getfield _ => 3
  | .putfield _ => 3
  | .invokevirtual _ => 3
  | .invokestatic _ => 3
  | _ => 1
def ab_okG (q : ab_I) : Bool := match q with
  | (pc, i, nx, tg) => match i with
    | .tableswitch d lo hi offs => decide ((offs.size : Int) = hi - lo + 1) && (decide ((pc : Int) + d = ab_tg tg) && (decide (tg.drop 1 = (List.range offs.size).map (fun (j : Nat) => (lo + (j : Int), ((pc : Int) + offs.getD j 0).toNat))) && (offs.toList.all (fun o => decide (0 ≤ (pc : Int) + o)) && Nat.blt pc nx)))
    | .ifCond _ o => decide ((pc : Int) + o = ab_tg tg) && Nat.beq nx (pc + 3)
    | .if_icmp _ o => decide ((pc : Int) + o = ab_tg tg) && Nat.beq nx (pc + 3)
    | .goto o => decide ((pc : Int) + o = ab_tg tg) && Nat.beq nx (pc + 3)
    | .bipush n => decide ((Int8.ofInt n).toInt32 = Int32.ofInt n) && Nat.beq nx (pc + 2)
    | .sipush n => decide ((Int16.ofInt n).toInt32 = Int32.ofInt n) && Nat.beq nx (pc + 3)
    | i => Nat.beq nx (pc + ab_ln i)
def ab_okI (cc : ByteArray) (q : ab_I) : Bool := decide (decode cc q.1 = .ok (q.2.1, q.2.2.1 - q.1)) && ab_okG q
/-! the callees' names and codes, by where they are called -/
abbrev ab_MI : Type := MethodName × ByteArray × Nat × Option FieldType × Nat × Nat
def ab_okY (y : MethodName) : Bool := decide (y.cls ≠ "java/lang/invoke/MethodHandle") && decide (y.cls ≠ "java/lang/invoke/VarHandle")
def ab_inB (w : Jvm.Cond) : Bool := decide (w ∈ lw_tbl) && goodWord w
def ab_lkB (own : String) (ix : Nat) (y : MethodName) : Bool := ab_inB (.methodLink own ix y) || decide (Jvm.Cond.methodLinkNest own ix y "RootChunks" ∈ ab_nw)
def ab_okC1 (own : String) (M : List (Nat × ab_MI)) (E : ab_E) (R : Nat × Nat) (q : ab_I) : Bool := match q.2.1 with
  | .invokevirtual ix => match ab_look M q.1, ab_look E.2.1 q.1 with
    | some (y, b, mL, ret, fr, lc), some (n, c, _) => ab_okY y && ab_inB (.code y b mL ret) && ab_inB (.initialized y.cls) && ab_inB (.instanceMethod y) && ab_inB (.selects y.cls y y) && ab_lkB own ix y && decide ((parseMethodDescriptor y.desc).map (fun d => d.parameters.length + 1) = some n) &&
      (match vwCl[c]? with | some (C, _, _) => decide (C = y.cls) | none => false) && Nat.ble (fr + 1) R.1 && Nat.ble (8 + (mL + 11) + lc) R.2
    | _, _ => false
  | .invokestatic ix => match ab_look E.2.1 q.1 with
    | some (n, c, _) => match ab_look M q.1 with
      | some (y, b, mL, ret, fr, lc) => ab_okY y && ab_inB (.code y b mL ret) && ab_inB (.initialized y.cls) && ab_inB (.static y) && ab_inB (.methodLink own ix y) && decide ((parseMethodDescriptor y.desc).map (fun d => d.parameters.length) = some n) &&
        Nat.beq c 99 && Nat.ble (fr + 1) R.1 && Nat.ble (8 + (mL + 11) + lc) R.2
      | none => false
    | none => match ab_look E.2.2.1 q.1 with
      | some 1 => ab_inB (.methodLink own ix Lib.Math.max.name) && ab_inB (.static Lib.Math.max.name) && ab_inB (.initialized "java/lang/Math") && ab_inB (.code Lib.Math.max.name Lib.Math.max.code 2 (some .int)) && Nat.ble 1 R.1 && Nat.ble 21 R.2
      | some 2 => ab_inB (.methodLink own ix arraycopyName) && ab_inB (.native arraycopyName) && ab_inB (.static arraycopyName) && ab_inB (.initialized "java/lang/System") && Nat.ble 1 R.1 && Nat.ble (8 + (nativeFrameWords "java/lang/System" "arraycopy" 5 + 11)) R.2
      | _ => false
  | _ => true
/-! a method's contract over the machine -/
/-! whole's contracts carry facts of texts; here there are none -/
def ab_Zs (_ : Nat → Prop) (_ : State) (_ : Heap) : Prop := True
theorem ab_Zs.to {A B : Nat → Prop} {s U : State} {H : Heap} {locs : List Loc} (_ : ab_Zs A s s.heap) (_ : va_S A s.heap H locs) (_ : s.WarmedH U.vm) (_ : U.heap = H) (_ : ∀ q, B q → A q) : ab_Zs B U U.heap := trivial
theorem ab_Zs.same {A : Nat → Prop} {u U : State} {H : Heap} (_ : u.vm = U.vm) (_ : ab_Zs A u H) : ab_Zs A U H := trivial
def ab_A (ad : Nat → Nat) (n sz : Nat) : Nat → Prop := fun q => (∃ k : Nat, k < n ∧ q = ad k) ∨ sz ≤ q
def ab_Pre (G : ab_G) (ad : Nat → Nat) (av : List ab_V) (cs : List ab_C) (sz : Nat) : Array Value → State → Prop := va_Pc (av.map (ab_c ad)) (fun U => U.heap.size = sz ∧ va_P G.1 vwCl (ab_cs G ad cs) U.heap ∧ ab_KK G U ∧ ab_Dn (fun _ => True) ad cs.length ∧ ab_Zs (ab_A ad cs.length sz) U U.heap)
def ab_Post (G : ab_G) (ad : Nat → Nat) (Q : ab_Q) (N : Nat) (A : Nat → Prop) : Array Value → State → Outcome → State → Prop := fun _ st oc t =>
  (∃ (r : Option ab_V) (cs' : List ab_C), oc = .returned (r.map (ab_c ad)) ∧ Q r cs' ∧ cs'.length = N ∧ va_P G.1 vwCl (ab_cs G ad cs') t.heap) ∧ va_F A st t
def ab_MT (l : Launch) (mi : ab_MI) (sp : ab_Sp) : Prop := ∀ (G : ab_G) (ad : Nat → Nat) (av : List ab_V) (cs : List ab_C) (Q : ab_Q) (sz : Nat), sp av cs Q →
  Met l mi.1 (.code mi.1 mi.2.1 mi.2.2.1 mi.2.2.2.1 :: ab_TB) { frames := mi.2.2.2.2.1, cells := 0, slots := 0, locals := mi.2.2.2.2.2 } (ab_Pre G ad av cs sz) (ab_Post G ad Q cs.length (ab_A ad cs.length sz)) 0 0 (ab_A ad cs.length sz)
def ab_CT (l : Launch) (M : List (Nat × ab_MI)) (E : ab_E) : Prop := ∀ (pc : Nat) (ci : ab_CI) (mi : ab_MI), ab_look E.2.1 pc = some ci → ab_look M pc = some mi → ab_MT l mi ci.2.2.2.2
def ab_rty : Nat → Option FieldType
  | 0 => some .int
  | 1 => some .char
  | 2 => some .boolean
  | 3 => some .long
  | _ => none
/-- a state of the walk, over the machine -/
def ab_X (own : String) (cc : ByteArray) (nL : Nat) (p : Program) (s : State) (m : MethodId) (args : Array Value) (meth : Method) (c : Code) (G : ab_G) : Prop :=
  p.tables.exec = Jvm.exec ∧ c.code = cc ∧ c.maxLocals = nL ∧ s.vm.findClass own = some m.cls ∧ (∀ w ∈ ab_TB, w.before args s = true) ∧ ab_KK G s ∧ meth.locks = false
def ab_W (p : Program) (l : Launch) (e : Env) (R : Room) (s : State) (m : MethodId) (args : Array Value) (below : List Frame) (meth : Method) (c : Code) (nL : Nat) (G : ab_G) (ad : Nat → Nat) (A : Nat → Prop) (N cells slots : Nat) (Qw : State → Prop) : ab_K := fun pc lv st cs =>
  cs.length = N → ∀ (H : Heap) (locs : List Loc) (ls : Array Slot), va_P G.1 vwCl (ab_cs G ad cs) H → va_S A s.heap H locs → ab_lh ad ls nL lv → W p l e R s m args below meth c H locs cells slots Qw (F0 m pc ls (st.map (ab_c ad)))
theorem ab_and {a b : Bool} (h : (a && b) = true) : a = true ∧ b = true := Bool.and_eq_true_iff.mp h
theorem ab_inB.to {w : Jvm.Cond} (h : ab_inB w = true) : w ∈ ab_TB := by
  obtain ⟨h1, h2⟩ := ab_and h
  exact ab_TB_of (of_decide_eq_true h1) h2
/-- what all fields of a class of the claim's have -/
theorem ab_clf {ci : Nat} {C : String} {T : u_T} {N : Nat} (h : vwCl[ci]? = some (C, T, N)) : (∀ w ∈ u_ws C T N, w ∈ ab_TB) ∧ (∃ ty0 : Nat → FieldType, ∀ k, k < N → parseFieldDescriptor (T k).2.2.1 = some (ty0 k)) ∧ (∀ a, a < N → ∀ b, b < N → a ≠ b → (T a).2.1 ≠ (T b).2.1) := by
  have g : ∀ (C : String) (T : u_T) (N : Nat), ∀ w ∈ u_ws C T N, goodWord w = true := by
    intro C T N w hw
    obtain ⟨k, -, hk⟩ := List.mem_map.mp hw
    rw [← hk]
    unfold u_lay
    split <;> rfl
  match ci, h with
  | 0, h => cases h; exact ⟨fun w hw => ab_TB_of (inX0 w hw) (g _ _ _ w hw), ⟨tyX0, tyX0_ok⟩, nmX0⟩
  | 1, h => cases h; exact ⟨fun w hw => ab_TB_of (inX1 w hw) (g _ _ _ w hw), ⟨tyX1, tyX1_ok⟩, nmX1⟩
  | 2, h => cases h; exact ⟨fun w hw => ab_TB_of (inX2 w hw) (g _ _ _ w hw), ⟨tyX2, tyX2_ok⟩, nmX2⟩
  | k + 3, h => simp [vwCl] at h
