/-! THE ABSTRACT MACHINE: values are whole numbers (an int is one of them, cut to 32 bits), references are the places of a list of cells. -/
abbrev ab_V : Type := Int ⊕ (Option Nat ⊕ Int64)
abbrev ab_C : Type := (Nat × List ab_V) ⊕ ((Nat × Nat × (Int → Int)) ⊕ List (Option Nat))
abbrev ab_L : Type := List (Option ab_V)
abbrev ab_Q : Type := Option ab_V → List ab_C → Prop
abbrev ab_Sp : Type := List ab_V → List ab_C → ab_Q → Prop
/-- a row of code: where it stands, the instruction, where the next one stands, where it may go -/
abbrev ab_I : Type := Nat × Instr × Nat × List (Int × Nat)
/-- a call: how many arguments it takes (the receiver too), the receiver's class (99: static), which cells it is given (none: all), how many of them are its world, what it does -/
abbrev ab_CI : Type := Nat × Nat × List Nat × Nat × ab_Sp
/-- what a class's pool tells: fields (index; class, slot, nest mate, type), numbers, long numbers -/
abbrev ab_T : Type := List (Nat × Nat × Nat × Bool × Nat) × List (Nat × Int) × List (Nat × Int64)
/-- a method's: pool, calls by where they stand, known calls (1: Math.max, 2: arraycopy), return type -/
abbrev ab_E : Type := ab_T × List (Nat × ab_CI) × List (Nat × Nat) × Nat
def ab_look {α : Type} : List (Nat × α) → Nat → Option α
  | [], _ => none
  | a :: l, k => match Nat.beq a.1 k with
    | true => some a.2
    | false => ab_look l k
def ab_r (a : Int) : Prop := -2147483648 ≤ a ∧ a < 2147483648
def ab_K : Type := Nat → ab_L → List ab_V → List ab_C → Prop
def ab_i1 (st : List ab_V) (f : Int → List ab_V → Prop) : Prop := match st with
  | .inl a :: r => f a r
  | _ => False
def ab_i2 (st : List ab_V) (f : Int → Int → List ab_V → Prop) : Prop := match st with
  | .inl b :: .inl a :: r => f a b r
  | _ => False
def ab_l1 (st : List ab_V) (f : Int64 → List ab_V → Prop) : Prop := match st with
  | .inr (.inr a) :: r => f a r
  | _ => False
def ab_l2 (st : List ab_V) (f : Int64 → Int64 → List ab_V → Prop) : Prop := match st with
  | .inr (.inr b) :: .inr (.inr a) :: r => f a b r
  | _ => False
def ab_li (st : List ab_V) (f : Int64 → Int → List ab_V → Prop) : Prop := match st with
  | .inl b :: .inr (.inr a) :: r => f a b r
  | _ => False
def ab_p1 (st : List ab_V) (f : Nat → List ab_V → Prop) : Prop := match st with
  | .inr (.inl (some k)) :: r => f k r
  | _ => False
def ab_pi (st : List ab_V) (f : Nat → Int → List ab_V → Prop) : Prop := match st with
  | .inl i :: .inr (.inl (some k)) :: r => f k i r
  | _ => False
def ab_pii (st : List ab_V) (f : Nat → Int → Int → List ab_V → Prop) : Prop := match st with
  | .inl x :: .inl i :: .inr (.inl (some k)) :: r => f k i x r
  | _ => False
def ab_c1 : ab_V → Bool
  | .inr (.inr _) => false
  | _ => true
def ab_cat : List ab_V → Nat
  | [] => 0
  | v :: r => (match ab_c1 v with | true => 1 | false => 2) + ab_cat r
def ab_ldI (lv : ab_L) (i : Nat) (f : Int → Prop) : Prop := match lv[i]? with
  | some (some (.inl a)) => f a
  | _ => False
def ab_ldP (lv : ab_L) (i : Nat) (f : Option Nat → Prop) : Prop := match lv[i]? with
  | some (some (.inr (.inl a))) => f a
  | _ => False
def ab_ldL (lv : ab_L) (i : Nat) (f : Int64 → Prop) : Prop := match lv[i]? with
  | some (some (.inr (.inr a))) => f a
  | _ => False
/-- no long number ends at a place -/
def ab_nl (lv : ab_L) : Nat → Bool
  | 0 => true
  | j + 1 => match lv[j]? with
    | some (some v) => ab_c1 v
    | _ => true
def ab_st1 (lv : ab_L) (i : Nat) (v : ab_V) (f : ab_L → Prop) : Prop := match ab_nl lv i, Nat.blt i lv.length with
  | true, true => f (lv.set i (some v))
  | _, _ => False
def ab_st2 (lv : ab_L) (i : Nat) (v : ab_V) (f : ab_L → Prop) : Prop := match ab_nl lv i, Nat.blt (i + 1) lv.length with
  | true, true => f ((lv.set i (some v)).set (i + 1) none)
  | _, _ => False
def ab_br (c : ClassFile.Cond) (a b : Int) (T F : Prop) : Prop := match c with
  | .eq => (a = b → T) ∧ (¬ a = b → F)
  | .ne => (¬ a = b → T) ∧ (a = b → F)
  | .lt => (a < b → T) ∧ (b ≤ a → F)
  | .ge => (b ≤ a → T) ∧ (a < b → F)
  | .gt => (b < a → T) ∧ (a ≤ b → F)
  | .le => (a ≤ b → T) ∧ (b < a → F)
def ab_sw (a : Int) (d : Nat) (f : Nat → Prop) : List (Int × Nat) → Prop
  | [] => f d
  | (v, t) :: r => (a = v → f t) ∧ (¬ a = v → ab_sw a d f r)
def ab_tg (tg : List (Int × Nat)) : Nat := match tg with
  | [] => 0
  | x :: _ => x.2
def ab_fit (ty : Nat) (v : ab_V) (f : Prop) : Prop := match ty, v with
  | 0, .inl _ => f
  | 1, .inl a => (0 ≤ a ∧ a < 65536) ∧ f
  | 2, .inl a => (a = 0 ∨ a = 1) ∧ f
  | _, _ => False
def ab_getf (T : ab_T) (ix k : Nat) (cs : List ab_C) (f : ab_V → Prop) : Prop := match ab_look T.1 ix, cs[k]? with
  | some (ci, fi, _, _), some (.inl (cj, fs)) => match Nat.beq ci cj, fs[fi]? with
    | true, some v => f v
    | _, _ => False
  | _, _ => False
def ab_putf (T : ab_T) (ix k : Nat) (v : ab_V) (cs : List ab_C) (f : List ab_C → Prop) : Prop := match ab_look T.1 ix, cs[k]? with
  | some (ci, fi, _, ty), some (.inl (cj, fs)) => match Nat.beq ci cj, Nat.blt fi fs.length with
    | true, true => ab_fit ty v (f (cs.set k (.inl (cj, fs.set fi v))))
    | _, _ => False
  | _, _ => False
def ab_arr (t k : Nat) (cs : List ab_C) (f : Nat → (Int → Int) → Prop) : Prop := match cs[k]? with
  | some (.inr (.inl (t', n, g))) => match Nat.beq t t', Nat.blt n 1000000 with
    | true, true => f n g
    | _, _ => False
  | _ => False
def ab_up (f : Int → Int) (i x : Int) : Int → Int := fun j => if j = i then x else f j
def ab_cpy (f g : Int → Int) (sp dp n : Int) : Int → Int := fun k => if dp ≤ k ∧ k < dp + n then f (sp + (k - dp)) else g k
def ab_len (k : Nat) (cs : List ab_C) (f : Nat → Prop) : Prop := match cs[k]? with
  | some (.inr (.inl (t, n, _))) => match Nat.ble t 2 with
    | true => f n
    | false => False
  | some (.inr (.inr l)) => f l.length
  | _ => False
def ab_rarr (k : Nat) (cs : List ab_C) (f : List (Option Nat) → Prop) : Prop := match cs[k]? with
  | some (.inr (.inr l)) => match Nat.blt l.length 1000000 with
    | true => f l
    | false => False
  | _ => False
def ab_obj (ci k : Nat) (cs : List ab_C) (f : Prop) : Prop := match cs[k]? with
  | some (.inl (cj, _)) => match Nat.beq ci cj with
    | true => f
    | false => False
  | _ => False
/-! calls: the callee's places among the caller's -/
def ab_pos : List Nat → Nat → Nat
  | [], _ => 0
  | a :: l, k => match Nat.beq a k with
    | true => 0
    | false => ab_pos l k + 1
def ab_unV (is : List Nat) : ab_V → ab_V
  | .inr (.inl (some k)) => .inr (.inl (some (ab_pos is k)))
  | v => v
def ab_reV (is : List Nat) : ab_V → ab_V
  | .inr (.inl (some k)) => .inr (.inl (some (is.getD k 0)))
  | v => v
def ab_okV (is : List Nat) : ab_V → Bool
  | .inr (.inl (some k)) => Nat.blt (ab_pos is k) is.length
  | _ => true
def ab_unC (is : List Nat) : ab_C → ab_C
  | .inl (ci, fs) => .inl (ci, fs.map (ab_unV is))
  | .inr (.inl a) => .inr (.inl a)
  | .inr (.inr l) => .inr (.inr (l.map (fun o => o.map (fun k => ab_pos is k))))
def ab_reC (is : List Nat) : ab_C → ab_C
  | .inl (ci, fs) => .inl (ci, fs.map (ab_reV is))
  | .inr (.inl a) => .inr (.inl a)
  | .inr (.inr l) => .inr (.inr (l.map (fun o => o.map (fun k => is.getD k 0))))
def ab_okC (is : List Nat) : ab_C → Bool
  | .inl (_, fs) => fs.all (ab_okV is)
  | .inr (.inl _) => true
  | .inr (.inr l) => l.all (fun o => match o with | some k => Nat.blt (ab_pos is k) is.length | none => true)
/-- the cells at some places -/
def ab_pick (cs : List ab_C) : List Nat → List ab_C
  | [] => []
  | i :: is => match cs[i]? with
    | some c => c :: ab_pick cs is
    | none => ab_pick cs is
/-- other cells at some places -/
def ab_back (jd : List Nat) : List Nat → List ab_C → List ab_C → List ab_C
  | i :: is, c :: cs', cs => ab_back jd is cs' (cs.set i (ab_reC jd c))
  | _, _, cs => cs
def ab_nd : List Nat → Bool
  | [] => true
  | a :: l => match Nat.blt (ab_pos l a) l.length with
    | true => false
    | false => ab_nd l
def ab_ret (r : Option ab_V) (st : List ab_V) : List ab_V := match r with
  | some v => v :: st
  | none => st
/-- what a contract gives, weakened -/
def ab_cl (sp : ab_Sp) (args : List ab_V) (cs : List ab_C) (Q : ab_Q) : Prop := ∃ Q0 : ab_Q, sp args cs Q0 ∧ ∀ r cs', Q0 r cs' → Q r cs'
def ab_rcv (c n : Nat) (st : List ab_V) (cs : List ab_C) (f : Prop) : Prop := match Nat.beq c 99 with
  | true => f
  | false => match st.drop (n - 1) with
    | .inr (.inl (some k)) :: _ => ab_obj c k cs f
    | _ => False
def ab_call (ci : ab_CI) (st : List ab_V) (cs : List ab_C) (f : List ab_V → List ab_C → Prop) : Prop := match ci with
  | (n, c, is, n0, sp) => match Nat.ble n st.length, Nat.ble (ab_cat (st.drop n)) 8 with
    | true, true => ab_rcv c n st cs (match is with
      | [] => ab_cl sp (st.take n).reverse cs (fun r cs' => cs'.length = cs.length → f (ab_ret r (st.drop n)) cs')
      | _ => match (st.take n).all (ab_okV is), (ab_pick cs (is.take n0)).all (ab_okC is), Nat.beq (ab_pick cs (is.take n0)).length n0, ab_nd is with
        | true, true, true, true => ab_cl sp ((st.take n).reverse.map (ab_unV is)) ((ab_pick cs (is.take n0)).map (ab_unC is)) (fun r cs' => cs'.length = n0 → f (ab_ret (r.map (ab_reV is)) (st.drop n)) (ab_back is (is.take n0) cs' cs))
        | _, _, _, _ => False)
    | _, _ => False
def ab_rt (ty : Nat) (a : Int) (f : Prop) : Prop := match ty with
  | 0 => f
  | 1 => (0 ≤ a ∧ a < 65536) ∧ f
  | 2 => (a = 0 ∨ a = 1) ∧ f
  | _ => False
/-- what has to hold before an instruction, that what is wanted behind it holds -/
def ab_w (E : ab_E) (Q : ab_Q) (K : ab_K) (q : ab_I) (lv : ab_L) (st : List ab_V) (cs : List ab_C) : Prop := match q with
  | (pc, i, nx, tg) => match i with
    | .iconst n => K nx lv (.inl n :: st) cs
    | .bipush n => K nx lv (.inl n :: st) cs
    | .sipush n => K nx lv (.inl n :: st) cs
    | .lconst n => K nx lv (.inr (.inr (Int64.ofNat n)) :: st) cs
    | .ldc ix => match ab_look E.1.2.1 ix with
      | some v => K nx lv (.inl v :: st) cs
      | none => False
    | .ldc2_w ix => match ab_look E.1.2.2 ix with
      | some v => K nx lv (.inr (.inr v) :: st) cs
      | none => False
    | .iload_n k => ab_ldI lv k (fun a => K nx lv (.inl a :: st) cs)
    | .iload k => ab_ldI lv k (fun a => K nx lv (.inl a :: st) cs)
    | .aload_n k => ab_ldP lv k (fun a => K nx lv (.inr (.inl a) :: st) cs)
    | .aload k => ab_ldP lv k (fun a => K nx lv (.inr (.inl a) :: st) cs)
    | .lload_n k => ab_ldL lv k (fun a => K nx lv (.inr (.inr a) :: st) cs)
    | .lload k => ab_ldL lv k (fun a => K nx lv (.inr (.inr a) :: st) cs)
    | .istore_n k => ab_i1 st (fun a r => ab_st1 lv k (.inl a) (fun lv' => K nx lv' r cs))
    | .istore k => ab_i1 st (fun a r => ab_st1 lv k (.inl a) (fun lv' => K nx lv' r cs))
    | .astore_n k => ab_p1 st (fun a r => ab_st1 lv k (.inr (.inl (some a))) (fun lv' => K nx lv' r cs))
    | .astore k => ab_p1 st (fun a r => ab_st1 lv k (.inr (.inl (some a))) (fun lv' => K nx lv' r cs))
    | .lstore_n k => ab_l1 st (fun a r => ab_st2 lv k (.inr (.inr a)) (fun lv' => K nx lv' r cs))
    | .lstore k => ab_l1 st (fun a r => ab_st2 lv k (.inr (.inr a)) (fun lv' => K nx lv' r cs))
    | .iinc k n => ab_ldI lv k (fun a => ab_st1 lv k (.inl (a + n)) (fun lv' => K nx lv' st cs))
    | .iadd => ab_i2 st (fun a b r => K nx lv (.inl (a + b) :: r) cs)
    | .isub => ab_i2 st (fun a b r => K nx lv (.inl (a - b) :: r) cs)
    | .imul => ab_i2 st (fun a b r => K nx lv (.inl (a * b) :: r) cs)
    | .ineg => ab_i1 st (fun a r => K nx lv (.inl (-a) :: r) cs)
    | .irem => ab_i2 st (fun a b r => (ab_r a ∧ ab_r b ∧ ¬ b = 0) ∧ K nx lv (.inl (a.tmod b) :: r) cs)
    | .ixor => ab_i2 st (fun a b r => K nx lv (.inl ((Int32.ofInt a ^^^ Int32.ofInt b).toInt) :: r) cs)
    | .iand => ab_i2 st (fun a b r => K nx lv (.inl ((Int32.ofInt a &&& Int32.ofInt b).toInt) :: r) cs)
    | .i2l => ab_i1 st (fun a r => K nx lv (.inr (.inr (Int32.ofInt a).toInt64) :: r) cs)
    | .l2i => ab_l1 st (fun a r => K nx lv (.inl a.toInt32.toInt :: r) cs)
    | .i2c => ab_i1 st (fun a r => (0 ≤ a ∧ a < 65536) ∧ K nx lv (.inl a :: r) cs)
    | .ladd => ab_l2 st (fun a b r => K nx lv (.inr (.inr (a + b)) :: r) cs)
    | .lmul => ab_l2 st (fun a b r => K nx lv (.inr (.inr (a * b)) :: r) cs)
    | .ishr => ab_i2 st (fun a b r => K nx lv (.inl ((Int32.ofInt a >>> (Int32.ofInt b &&& 31)).toInt) :: r) cs)
    | .land => ab_l2 st (fun a b r => K nx lv (.inr (.inr (a &&& b)) :: r) cs)
    | .lor => ab_l2 st (fun a b r => K nx lv (.inr (.inr (a ||| b)) :: r) cs)
    | .lcmp => ab_l2 st (fun a b r => K nx lv (.inl (lg_cmp a b).toInt :: r) cs)
    | .lushr => ab_li st (fun a b r => K nx lv (.inr (.inr (a.toUInt64 >>> ((Int32.ofInt b).toInt64.toUInt64 &&& Int64.toUInt64 63)).toInt64) :: r) cs)
    | .lshl => ab_li st (fun a b r => K nx lv (.inr (.inr (a <<< ((Int32.ofInt b).toInt64 &&& 63))) :: r) cs)
    | .dup => match st with
      | v :: r => match ab_c1 v with
        | true => K nx lv (v :: v :: r) cs
        | false => False
      | _ => False
    | .dup2 => match st with
      | v :: w :: r => match ab_c1 v, ab_c1 w with
        | true, true => K nx lv (v :: w :: v :: w :: r) cs
        | _, _ => False
      | _ => False
    | .pop => match st with
      | v :: r => match ab_c1 v with
        | true => K nx lv r cs
        | false => False
      | _ => False
    | .ifCond c _ => ab_i1 st (fun a r => ab_r a ∧ ab_br c a 0 (K (ab_tg tg) lv r cs) (K nx lv r cs))
    | .if_icmp c _ => ab_i2 st (fun a b r => (ab_r a ∧ ab_r b) ∧ ab_br c a b (K (ab_tg tg) lv r cs) (K nx lv r cs))
    | .goto _ => K (ab_tg tg) lv st cs
    | .tableswitch _ _ _ _ => ab_i1 st (fun a r => ab_r a ∧ ab_sw a (ab_tg tg) (fun t => K t lv r cs) (tg.drop 1))
    | .getfield ix => ab_p1 st (fun k r => ab_getf E.1 ix k cs (fun v => K nx lv (v :: r) cs))
    | .putfield ix => match st with
      | v :: .inr (.inl (some k)) :: r => ab_putf E.1 ix k v cs (fun cs' => K nx lv r cs')
      | _ => False
    | .iaload => ab_pi st (fun k i r => ab_arr 0 k cs (fun n f => (0 ≤ i ∧ i < n) ∧ K nx lv (.inl (f i) :: r) cs))
    | .caload => ab_pi st (fun k i r => ab_arr 1 k cs (fun n f => (0 ≤ i ∧ i < n) ∧ K nx lv (.inl (f i) :: r) cs))
    | .baload => ab_pi st (fun k i r => ab_arr 2 k cs (fun n f => (0 ≤ i ∧ i < n) ∧ K nx lv (.inl (f i) :: r) cs))
    | .iastore => ab_pii st (fun k i x r => ab_arr 0 k cs (fun n f => (0 ≤ i ∧ i < n) ∧ K nx lv r (cs.set k (.inr (.inl (0, n, ab_up f i x))))))
    | .castore => ab_pii st (fun k i x r => ab_arr 1 k cs (fun n f => (0 ≤ i ∧ i < n ∧ 0 ≤ x ∧ x < 65536) ∧ K nx lv r (cs.set k (.inr (.inl (1, n, ab_up f i x))))))
    | .bastore => ab_pii st (fun k i x r => ab_arr 2 k cs (fun n f => (0 ≤ i ∧ i < n ∧ (x = 0 ∨ x = 1)) ∧ K nx lv r (cs.set k (.inr (.inl (2, n, ab_up f i x))))))
    | .aaload => ab_pi st (fun k i r => ab_rarr k cs (fun l => (0 ≤ i ∧ i < l.length) ∧ K nx lv (.inr (.inl (l.getD i.toNat none)) :: r) cs))
    | .aastore => match st with
      | .inr (.inl (some v)) :: .inl i :: .inr (.inl (some k)) :: r => ab_rarr k cs (fun l => ab_obj 1 v cs ((0 ≤ i ∧ i < l.length) ∧ K nx lv r (cs.set k (.inr (.inr (l.set i.toNat (some v)))))))
      | _ => False
    | .arraylength => ab_p1 st (fun k r => ab_len k cs (fun n => K nx lv (.inl n :: r) cs))
    | .invokevirtual _ => match ab_look E.2.1 pc with
      | some ci => ab_call ci st cs (fun st' cs' => K nx lv st' cs')
      | none => False
    | .invokestatic _ => match ab_look E.2.1 pc with
      | some ci => ab_call ci st cs (fun st' cs' => K nx lv st' cs')
      | none => match ab_look E.2.2.1 pc with
        | some 1 => ab_i2 st (fun a b r => match Nat.ble (ab_cat r) 8 with
          | true => (ab_r a ∧ ab_r b) ∧ K nx lv (.inl (if a < b then b else a) :: r) cs
          | false => False)
        | some 2 => match st with
          | .inl n :: .inl dp :: .inr (.inl (some d)) :: .inl sp :: .inr (.inl (some k)) :: r => ab_arr 0 k cs (fun n0 f => ab_arr 0 d cs (fun n1 g => match Nat.ble (ab_cat r) 8 with
            | true => (0 ≤ sp ∧ 0 ≤ dp ∧ 0 ≤ n ∧ sp + n ≤ n0 ∧ dp + n ≤ n1) ∧ K nx lv r (cs.set d (.inr (.inl (0, n1, ab_cpy f g sp dp n))))
            | false => False))
          | _ => False
        | _ => False
    | .ireturn => match st with
      | [.inl a] => ab_rt E.2.2.2 a (Q (some (.inl a)) cs)
      | _ => False
    | .lreturn => match st with
      | [.inr (.inr a)] => match Nat.beq E.2.2.2 3 with
        | true => Q (some (.inr (.inr a))) cs
        | false => False
      | _ => False
    | .return_ => match st with
      | [] => match Nat.beq E.2.2.2 9 with
        | true => Q none cs
        | false => False
      | _ => False
    | _ => False
/-- the walk, by the code's rows: it ends, and what is wanted holds at its end -/
def ab_find (P : List ab_I) (pc : Nat) : Option ab_I := match P with
  | [] => none
  | q :: l => match Nat.beq q.1 pc with
    | true => some q
    | false => ab_find l pc
def ab_R (E : ab_E) (P : List ab_I) (Q : ab_Q) : ab_K := fun pc lv st cs =>
  ∀ Z : ab_K, (∀ (pc : Nat) (lv : ab_L) (st : List ab_V) (cs : List ab_C) (q : ab_I) (K0 : ab_K), ab_find P pc = some q → ab_w E Q K0 q lv st cs → (∀ pc' lv' st' cs', K0 pc' lv' st' cs' → Z pc' lv' st' cs') → Z pc lv st cs) → Z pc lv st cs
def ab_mem : List Nat → Nat → Bool
  | [], _ => false
  | a :: l, k => match Nat.beq a k with
    | true => true
    | false => ab_mem l k
/-- some steps, up to the stops -/
def ab_ws (E : ab_E) (P : List ab_I) (Q : ab_Q) (K : ab_K) (stops : List Nat) : Nat → ab_K
  | 0 => K
  | n + 1 => fun pc lv st cs => match ab_find P pc with
    | some q => ab_w E Q (fun pc' lv' st' cs' => match ab_mem stops pc' with
      | true => K pc' lv' st' cs'
      | false => ab_ws E P Q K stops n pc' lv' st' cs') q lv st cs
    | none => False
theorem ab_R.step {E : ab_E} {P : List ab_I} {Q : ab_Q} {pc : Nat} {lv : ab_L} {st : List ab_V} {cs : List ab_C} {q : ab_I} {K : ab_K} (hq : ab_find P pc = some q) (h : ab_w E Q K q lv st cs) (hK : ∀ pc' lv' st' cs', K pc' lv' st' cs' → ab_R E P Q pc' lv' st' cs') : ab_R E P Q pc lv st cs :=
  fun Z hZ => hZ pc lv st cs q K hq h (fun pc' lv' st' cs' k => hK pc' lv' st' cs' k Z hZ)
theorem ab_R.steps {E : ab_E} {P : List ab_I} {Q : ab_Q} (stops : List Nat) : ∀ (n : Nat) {pc : Nat} {lv : ab_L} {st : List ab_V} {cs : List ab_C}, ab_ws E P Q (ab_R E P Q) stops n pc lv st cs → ab_R E P Q pc lv st cs
  | 0, _, _, _, _, h => h
  | n + 1, pc, lv, st, cs, h => by
    unfold ab_ws at h
    split at h
    · next q hq =>
      refine ab_R.step hq h (fun pc' lv' st' cs' k => ?_)
      split at k
      · exact k
      · exact ab_R.steps stops n k
    · exact h.elim
