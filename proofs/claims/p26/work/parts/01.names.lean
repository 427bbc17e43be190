-- ===== PART A: goes FIRST, ahead of the names: the tables' words, and 'selects' of the private methods out of them =====
/-- a private method of a class that the tables say can be made, by its rows of tables_1 -/
def lw_okq (q : MethodName × Nat) : Prop := (q.1.cls ≠ "java/lang/invoke/MethodHandle" ∧ q.1.cls ≠ "java/lang/invoke/VarHandle") ∧ Cond.instantiable q.1.cls q.2 ∈ tables_1 ∧ Cond.privateMethod q.1 ∈ tables_1 ∧ Cond.instanceMethod q.1 ∈ tables_1
theorem lw_p0 : lw_okq (⟨"RootChunks$Row", "rootOfLength", "()I"⟩, 7) := ⟨⟨by decide +kernel, by decide +kernel⟩, List.mem_of_getElem? (i := 15) (by decide +kernel), List.mem_of_getElem? (i := 111) (by decide +kernel), List.mem_of_getElem? (i := 112) (by decide +kernel)⟩
theorem lw_p1 : lw_okq (⟨"RootChunks$Row", "longestChunk", "()I"⟩, 7) := ⟨⟨by decide +kernel, by decide +kernel⟩, List.mem_of_getElem? (i := 15) (by decide +kernel), List.mem_of_getElem? (i := 115) (by decide +kernel), List.mem_of_getElem? (i := 116) (by decide +kernel)⟩
theorem lw_p2 : lw_okq (⟨"RootChunks$Row", "waitingTurns", "()I"⟩, 7) := ⟨⟨by decide +kernel, by decide +kernel⟩, List.mem_of_getElem? (i := 15) (by decide +kernel), List.mem_of_getElem? (i := 120) (by decide +kernel), List.mem_of_getElem? (i := 121) (by decide +kernel)⟩
theorem lw_p3 : lw_okq (⟨"RootChunks$Row", "waitingSums", "()I"⟩, 7) := ⟨⟨by decide +kernel, by decide +kernel⟩, List.mem_of_getElem? (i := 15) (by decide +kernel), List.mem_of_getElem? (i := 124) (by decide +kernel), List.mem_of_getElem? (i := 125) (by decide +kernel)⟩
theorem lw_p4 : lw_okq (⟨"RootChunks$Row", "copyFrom", "(LRootChunks$Row;)V"⟩, 7) := ⟨⟨by decide +kernel, by decide +kernel⟩, List.mem_of_getElem? (i := 15) (by decide +kernel), List.mem_of_getElem? (i := 132) (by decide +kernel), List.mem_of_getElem? (i := 133) (by decide +kernel)⟩
theorem lw_p5 : lw_okq (⟨"RootChunks", "remember", "()V"⟩, 8) := ⟨⟨by decide +kernel, by decide +kernel⟩, List.mem_of_getElem? (i := 7) (by decide +kernel), List.mem_of_getElem? (i := 147) (by decide +kernel), List.mem_of_getElem? (i := 148) (by decide +kernel)⟩
theorem lw_p6 : lw_okq (⟨"RootChunks$Row", "has", "(I)Z"⟩, 7) := ⟨⟨by decide +kernel, by decide +kernel⟩, List.mem_of_getElem? (i := 15) (by decide +kernel), List.mem_of_getElem? (i := 163) (by decide +kernel), List.mem_of_getElem? (i := 164) (by decide +kernel)⟩
theorem lw_p7 : lw_okq (⟨"RootChunks$Row", "numberAt", "(I)I"⟩, 7) := ⟨⟨by decide +kernel, by decide +kernel⟩, List.mem_of_getElem? (i := 15) (by decide +kernel), List.mem_of_getElem? (i := 167) (by decide +kernel), List.mem_of_getElem? (i := 168) (by decide +kernel)⟩
theorem lw_p8 : lw_okq (⟨"RootChunks$Row", "chunkHolding", "(I)I"⟩, 7) := ⟨⟨by decide +kernel, by decide +kernel⟩, List.mem_of_getElem? (i := 15) (by decide +kernel), List.mem_of_getElem? (i := 171) (by decide +kernel), List.mem_of_getElem? (i := 172) (by decide +kernel)⟩
theorem lw_p9 : lw_okq (⟨"RootChunks$Row", "startOf", "(I)I"⟩, 7) := ⟨⟨by decide +kernel, by decide +kernel⟩, List.mem_of_getElem? (i := 15) (by decide +kernel), List.mem_of_getElem? (i := 175) (by decide +kernel), List.mem_of_getElem? (i := 176) (by decide +kernel)⟩
theorem lw_p10 : lw_okq (⟨"RootChunks", "change", "(CIII)I"⟩, 8) := ⟨⟨by decide +kernel, by decide +kernel⟩, List.mem_of_getElem? (i := 7) (by decide +kernel), List.mem_of_getElem? (i := 196) (by decide +kernel), List.mem_of_getElem? (i := 197) (by decide +kernel)⟩
theorem lw_p11 : lw_okq (⟨"RootChunks", "errorOf", "(CIII)I"⟩, 8) := ⟨⟨by decide +kernel, by decide +kernel⟩, List.mem_of_getElem? (i := 7) (by decide +kernel), List.mem_of_getElem? (i := 200) (by decide +kernel), List.mem_of_getElem? (i := 201) (by decide +kernel)⟩
theorem lw_p12 : lw_okq (⟨"RootChunks", "putError", "(II)I"⟩, 8) := ⟨⟨by decide +kernel, by decide +kernel⟩, List.mem_of_getElem? (i := 7) (by decide +kernel), List.mem_of_getElem? (i := 204) (by decide +kernel), List.mem_of_getElem? (i := 205) (by decide +kernel)⟩
theorem lw_p13 : lw_okq (⟨"RootChunks", "addError", "(III)I"⟩, 8) := ⟨⟨by decide +kernel, by decide +kernel⟩, List.mem_of_getElem? (i := 7) (by decide +kernel), List.mem_of_getElem? (i := 211) (by decide +kernel), List.mem_of_getElem? (i := 212) (by decide +kernel)⟩
theorem lw_p14 : lw_okq (⟨"RootChunks", "rollError", "(III)I"⟩, 8) := ⟨⟨by decide +kernel, by decide +kernel⟩, List.mem_of_getElem? (i := 7) (by decide +kernel), List.mem_of_getElem? (i := 215) (by decide +kernel), List.mem_of_getElem? (i := 216) (by decide +kernel)⟩
theorem lw_p15 : lw_okq (⟨"RootChunks", "spanError", "(II)I"⟩, 8) := ⟨⟨by decide +kernel, by decide +kernel⟩, List.mem_of_getElem? (i := 7) (by decide +kernel), List.mem_of_getElem? (i := 219) (by decide +kernel), List.mem_of_getElem? (i := 220) (by decide +kernel)⟩
def lw_privs_1 : List (MethodName × Nat) := [(⟨"RootChunks$Row", "rootOfLength", "()I"⟩, 7), (⟨"RootChunks$Row", "longestChunk", "()I"⟩, 7), (⟨"RootChunks$Row", "waitingTurns", "()I"⟩, 7), (⟨"RootChunks$Row", "waitingSums", "()I"⟩, 7), (⟨"RootChunks$Row", "copyFrom", "(LRootChunks$Row;)V"⟩, 7), (⟨"RootChunks", "remember", "()V"⟩, 8), (⟨"RootChunks$Row", "has", "(I)Z"⟩, 7), (⟨"RootChunks$Row", "numberAt", "(I)I"⟩, 7), (⟨"RootChunks$Row", "chunkHolding", "(I)I"⟩, 7), (⟨"RootChunks$Row", "startOf", "(I)I"⟩, 7), (⟨"RootChunks", "change", "(CIII)I"⟩, 8), (⟨"RootChunks", "errorOf", "(CIII)I"⟩, 8), (⟨"RootChunks", "putError", "(II)I"⟩, 8), (⟨"RootChunks", "addError", "(III)I"⟩, 8), (⟨"RootChunks", "rollError", "(III)I"⟩, 8), (⟨"RootChunks", "spanError", "(II)I"⟩, 8)]
theorem lw_r1 : ∀ q ∈ lw_privs_1, lw_okq q := List.forall_mem_cons.mpr ⟨lw_p0, List.forall_mem_cons.mpr ⟨lw_p1, List.forall_mem_cons.mpr ⟨lw_p2, List.forall_mem_cons.mpr ⟨lw_p3, List.forall_mem_cons.mpr ⟨lw_p4, List.forall_mem_cons.mpr ⟨lw_p5, List.forall_mem_cons.mpr ⟨lw_p6, List.forall_mem_cons.mpr ⟨lw_p7, List.forall_mem_cons.mpr ⟨lw_p8, List.forall_mem_cons.mpr ⟨lw_p9, List.forall_mem_cons.mpr ⟨lw_p10, List.forall_mem_cons.mpr ⟨lw_p11, List.forall_mem_cons.mpr ⟨lw_p12, List.forall_mem_cons.mpr ⟨lw_p13, List.forall_mem_cons.mpr ⟨lw_p14, List.forall_mem_cons.mpr ⟨lw_p15, fun _ h => absurd h List.not_mem_nil⟩⟩⟩⟩⟩⟩⟩⟩⟩⟩⟩⟩⟩⟩⟩⟩
theorem lw_p16 : lw_okq (⟨"RootChunks$Row", "layOut", "([I)V"⟩, 7) := ⟨⟨by decide +kernel, by decide +kernel⟩, List.mem_of_getElem? (i := 15) (by decide +kernel), List.mem_of_getElem? (i := 223) (by decide +kernel), List.mem_of_getElem? (i := 224) (by decide +kernel)⟩
theorem lw_p17 : lw_okq (⟨"RootChunks", "moveError", "(III)I"⟩, 8) := ⟨⟨by decide +kernel, by decide +kernel⟩, List.mem_of_getElem? (i := 7) (by decide +kernel), List.mem_of_getElem? (i := 228) (by decide +kernel), List.mem_of_getElem? (i := 229) (by decide +kernel)⟩
theorem lw_p18 : lw_okq (⟨"RootChunks", "apply", "(CIII)I"⟩, 8) := ⟨⟨by decide +kernel, by decide +kernel⟩, List.mem_of_getElem? (i := 7) (by decide +kernel), List.mem_of_getElem? (i := 232) (by decide +kernel), List.mem_of_getElem? (i := 233) (by decide +kernel)⟩
theorem lw_p19 : lw_okq (⟨"RootChunks$Row", "insert", "(II)V"⟩, 7) := ⟨⟨by decide +kernel, by decide +kernel⟩, List.mem_of_getElem? (i := 15) (by decide +kernel), List.mem_of_getElem? (i := 236) (by decide +kernel), List.mem_of_getElem? (i := 237) (by decide +kernel)⟩
theorem lw_p20 : lw_okq (⟨"RootChunks$Row", "cutAt", "(I)I"⟩, 7) := ⟨⟨by decide +kernel, by decide +kernel⟩, List.mem_of_getElem? (i := 15) (by decide +kernel), List.mem_of_getElem? (i := 240) (by decide +kernel), List.mem_of_getElem? (i := 241) (by decide +kernel)⟩
theorem lw_p21 : lw_okq (⟨"RootChunks$Row", "settle", "(II)V"⟩, 7) := ⟨⟨by decide +kernel, by decide +kernel⟩, List.mem_of_getElem? (i := 15) (by decide +kernel), List.mem_of_getElem? (i := 244) (by decide +kernel), List.mem_of_getElem? (i := 245) (by decide +kernel)⟩
theorem lw_p22 : lw_okq (⟨"RootChunks$Row", "part", "(II)V"⟩, 7) := ⟨⟨by decide +kernel, by decide +kernel⟩, List.mem_of_getElem? (i := 15) (by decide +kernel), List.mem_of_getElem? (i := 251) (by decide +kernel), List.mem_of_getElem? (i := 252) (by decide +kernel)⟩
theorem lw_p23 : lw_okq (⟨"RootChunks$Row", "openChunk", "(II)V"⟩, 7) := ⟨⟨by decide +kernel, by decide +kernel⟩, List.mem_of_getElem? (i := 15) (by decide +kernel), List.mem_of_getElem? (i := 255) (by decide +kernel), List.mem_of_getElem? (i := 256) (by decide +kernel)⟩
theorem lw_p24 : lw_okq (⟨"RootChunks$Row", "remove", "(I)V"⟩, 7) := ⟨⟨by decide +kernel, by decide +kernel⟩, List.mem_of_getElem? (i := 15) (by decide +kernel), List.mem_of_getElem? (i := 259) (by decide +kernel), List.mem_of_getElem? (i := 260) (by decide +kernel)⟩
theorem lw_p25 : lw_okq (⟨"RootChunks$Row", "closeChunk", "(I)V"⟩, 7) := ⟨⟨by decide +kernel, by decide +kernel⟩, List.mem_of_getElem? (i := 15) (by decide +kernel), List.mem_of_getElem? (i := 263) (by decide +kernel), List.mem_of_getElem? (i := 264) (by decide +kernel)⟩
theorem lw_p26 : lw_okq (⟨"RootChunks$Row", "replace", "(II)V"⟩, 7) := ⟨⟨by decide +kernel, by decide +kernel⟩, List.mem_of_getElem? (i := 15) (by decide +kernel), List.mem_of_getElem? (i := 267) (by decide +kernel), List.mem_of_getElem? (i := 268) (by decide +kernel)⟩
theorem lw_p27 : lw_okq (⟨"RootChunks$Row", "turnSpan", "(II)V"⟩, 7) := ⟨⟨by decide +kernel, by decide +kernel⟩, List.mem_of_getElem? (i := 15) (by decide +kernel), List.mem_of_getElem? (i := 271) (by decide +kernel), List.mem_of_getElem? (i := 272) (by decide +kernel)⟩
theorem lw_p28 : lw_okq (⟨"RootChunks$Row", "reverseChunks", "(II)V"⟩, 7) := ⟨⟨by decide +kernel, by decide +kernel⟩, List.mem_of_getElem? (i := 15) (by decide +kernel), List.mem_of_getElem? (i := 275) (by decide +kernel), List.mem_of_getElem? (i := 276) (by decide +kernel)⟩
theorem lw_p29 : lw_okq (⟨"RootChunks$Row", "addToSpan", "(III)V"⟩, 7) := ⟨⟨by decide +kernel, by decide +kernel⟩, List.mem_of_getElem? (i := 15) (by decide +kernel), List.mem_of_getElem? (i := 279) (by decide +kernel), List.mem_of_getElem? (i := 280) (by decide +kernel)⟩
theorem lw_p30 : lw_okq (⟨"RootChunks$Row", "moveSpan", "(III)V"⟩, 7) := ⟨⟨by decide +kernel, by decide +kernel⟩, List.mem_of_getElem? (i := 15) (by decide +kernel), List.mem_of_getElem? (i := 283) (by decide +kernel), List.mem_of_getElem? (i := 284) (by decide +kernel)⟩
theorem lw_p31 : lw_okq (⟨"RootChunks$Row", "exchangeChunks", "(III)V"⟩, 7) := ⟨⟨by decide +kernel, by decide +kernel⟩, List.mem_of_getElem? (i := 15) (by decide +kernel), List.mem_of_getElem? (i := 287) (by decide +kernel), List.mem_of_getElem? (i := 288) (by decide +kernel)⟩
def lw_privs_2 : List (MethodName × Nat) := [(⟨"RootChunks$Row", "layOut", "([I)V"⟩, 7), (⟨"RootChunks", "moveError", "(III)I"⟩, 8), (⟨"RootChunks", "apply", "(CIII)I"⟩, 8), (⟨"RootChunks$Row", "insert", "(II)V"⟩, 7), (⟨"RootChunks$Row", "cutAt", "(I)I"⟩, 7), (⟨"RootChunks$Row", "settle", "(II)V"⟩, 7), (⟨"RootChunks$Row", "part", "(II)V"⟩, 7), (⟨"RootChunks$Row", "openChunk", "(II)V"⟩, 7), (⟨"RootChunks$Row", "remove", "(I)V"⟩, 7), (⟨"RootChunks$Row", "closeChunk", "(I)V"⟩, 7), (⟨"RootChunks$Row", "replace", "(II)V"⟩, 7), (⟨"RootChunks$Row", "turnSpan", "(II)V"⟩, 7), (⟨"RootChunks$Row", "reverseChunks", "(II)V"⟩, 7), (⟨"RootChunks$Row", "addToSpan", "(III)V"⟩, 7), (⟨"RootChunks$Row", "moveSpan", "(III)V"⟩, 7), (⟨"RootChunks$Row", "exchangeChunks", "(III)V"⟩, 7)]
theorem lw_r2 : ∀ q ∈ lw_privs_2, lw_okq q := List.forall_mem_cons.mpr ⟨lw_p16, List.forall_mem_cons.mpr ⟨lw_p17, List.forall_mem_cons.mpr ⟨lw_p18, List.forall_mem_cons.mpr ⟨lw_p19, List.forall_mem_cons.mpr ⟨lw_p20, List.forall_mem_cons.mpr ⟨lw_p21, List.forall_mem_cons.mpr ⟨lw_p22, List.forall_mem_cons.mpr ⟨lw_p23, List.forall_mem_cons.mpr ⟨lw_p24, List.forall_mem_cons.mpr ⟨lw_p25, List.forall_mem_cons.mpr ⟨lw_p26, List.forall_mem_cons.mpr ⟨lw_p27, List.forall_mem_cons.mpr ⟨lw_p28, List.forall_mem_cons.mpr ⟨lw_p29, List.forall_mem_cons.mpr ⟨lw_p30, List.forall_mem_cons.mpr ⟨lw_p31, fun _ h => absurd h List.not_mem_nil⟩⟩⟩⟩⟩⟩⟩⟩⟩⟩⟩⟩⟩⟩⟩⟩
theorem lw_p32 : lw_okq (⟨"RootChunks$Row", "evenOut", "()V"⟩, 7) := ⟨⟨by decide +kernel, by decide +kernel⟩, List.mem_of_getElem? (i := 15) (by decide +kernel), List.mem_of_getElem? (i := 297) (by decide +kernel), List.mem_of_getElem? (i := 298) (by decide +kernel)⟩
theorem lw_p33 : lw_okq (⟨"RootChunks$Row", "partLongChunks", "(I)V"⟩, 7) := ⟨⟨by decide +kernel, by decide +kernel⟩, List.mem_of_getElem? (i := 15) (by decide +kernel), List.mem_of_getElem? (i := 302) (by decide +kernel), List.mem_of_getElem? (i := 303) (by decide +kernel)⟩
theorem lw_p34 : lw_okq (⟨"RootChunks$Row", "joinShortChunks", "(I)V"⟩, 7) := ⟨⟨by decide +kernel, by decide +kernel⟩, List.mem_of_getElem? (i := 15) (by decide +kernel), List.mem_of_getElem? (i := 306) (by decide +kernel), List.mem_of_getElem? (i := 307) (by decide +kernel)⟩
def lw_privs_3 : List (MethodName × Nat) := [(⟨"RootChunks$Row", "evenOut", "()V"⟩, 7), (⟨"RootChunks$Row", "partLongChunks", "(I)V"⟩, 7), (⟨"RootChunks$Row", "joinShortChunks", "(I)V"⟩, 7)]
theorem lw_r3 : ∀ q ∈ lw_privs_3, lw_okq q := List.forall_mem_cons.mpr ⟨lw_p32, List.forall_mem_cons.mpr ⟨lw_p33, List.forall_mem_cons.mpr ⟨lw_p34, fun _ h => absurd h List.not_mem_nil⟩⟩⟩
def lw_privs : List (MethodName × Nat) := lw_privs_1 ++ (lw_privs_2 ++ (lw_privs_3))
def lw_tbl : List Cond := k2_sels lw_privs ++ tables_1
theorem lw_privs_ok : ∀ q ∈ lw_privs, lw_okq q := by
  show ∀ q ∈ lw_privs_1 ++ (lw_privs_2 ++ (lw_privs_3)), lw_okq q
  exact List.forall_mem_append.mpr ⟨lw_r1, List.forall_mem_append.mpr ⟨lw_r2, lw_r3⟩⟩
-- ===== end of PART A; then your names; then what follows =====
def RX0 : String := "RootChunks$Pad"
def TX0 : u_T := fun k => match k with
  | 0 => ("RootChunks$Pad", "characters", "[C", true)
  | 1 => ("RootChunks$Pad", "length", "I", false)
  | 2 => ("RootChunks$Pad", "position", "I", false)
  | 3 => ("RootChunks$Pad", "kind", "C", false)
  | _ => ("RootChunks$Pad", "given", "[I", true)
def tyX0 : Nat → FieldType := fun k => match k with
  | 0 => .array .char
  | 1 => .int
  | 2 => .int
  | 3 => .char
  | _ => .array .int
abbrev wsX00 : List Cond := u_ws RX0 TX0 5
theorem nmX0 : ∀ a, a < 5 → ∀ b, b < 5 → a ≠ b → (TX0 a).2.1 ≠ (TX0 b).2.1 := by decide +kernel
theorem tyX0_ok : ∀ k, k < 5 → parseFieldDescriptor (TX0 k).2.2.1 = some (tyX0 k) := by decide +kernel
abbrev cX0_init : ByteArray := prog_2_method_1_code
def yX0_init : MethodName := ⟨RX0, "<init>", "()V"⟩
def RX1 : String := "RootChunks$Row"
def TX1 : u_T := fun k => match k with
  | 0 => ("RootChunks$Row", "kept", "[I", true)
  | 1 => ("RootChunks$Row", "lengths", "[I", true)
  | 2 => ("RootChunks$Row", "turns", "[I", true)
  | 3 => ("RootChunks$Row", "sums", "[I", true)
  | 4 => ("RootChunks$Row", "length", "I", false)
  | 5 => ("RootChunks$Row", "chunks", "I", false)
  | _ => ("RootChunks$Row", "work", "I", false)
def tyX1 : Nat → FieldType := fun k => match k with
  | 0 => .array .int
  | 1 => .array .int
  | 2 => .array .int
  | 3 => .array .int
  | 4 => .int
  | 5 => .int
  | _ => .int
abbrev wsX10 : List Cond := u_ws RX1 TX1 7
theorem nmX1 : ∀ a, a < 7 → ∀ b, b < 7 → a ≠ b → (TX1 a).2.1 ≠ (TX1 b).2.1 := by decide +kernel
theorem tyX1_ok : ∀ k, k < 7 → parseFieldDescriptor (TX1 k).2.2.1 = some (tyX1 k) := by decide +kernel
abbrev cX1_init : ByteArray := prog_3_method_1_code
def yX1_init : MethodName := ⟨RX1, "<init>", "()V"⟩
abbrev cX1_copyFrom : ByteArray := prog_3_method_2_code
def yX1_copyFrom : MethodName := ⟨RX1, "copyFrom", "(LRootChunks$Row;)V"⟩
abbrev cX1_has : ByteArray := prog_3_method_3_code
def yX1_has : MethodName := ⟨RX1, "has", "(I)Z"⟩
abbrev cX1_startOf : ByteArray := prog_3_method_4_code
def yX1_startOf : MethodName := ⟨RX1, "startOf", "(I)I"⟩
abbrev cX1_chunkHolding : ByteArray := prog_3_method_5_code
def yX1_chunkHolding : MethodName := ⟨RX1, "chunkHolding", "(I)I"⟩
abbrev cX1_numberAt : ByteArray := prog_3_method_6_code
def yX1_numberAt : MethodName := ⟨RX1, "numberAt", "(I)I"⟩
abbrev cX1_layOut : ByteArray := prog_3_method_7_code
def yX1_layOut : MethodName := ⟨RX1, "layOut", "([I)V"⟩
abbrev cX1_rootOfLength : ByteArray := prog_3_method_8_code
def yX1_rootOfLength : MethodName := ⟨RX1, "rootOfLength", "()I"⟩
abbrev cX1_longestChunk : ByteArray := prog_3_method_9_code
def yX1_longestChunk : MethodName := ⟨RX1, "longestChunk", "()I"⟩
abbrev cX1_waitingTurns : ByteArray := prog_3_method_10_code
def yX1_waitingTurns : MethodName := ⟨RX1, "waitingTurns", "()I"⟩
abbrev cX1_waitingSums : ByteArray := prog_3_method_11_code
def yX1_waitingSums : MethodName := ⟨RX1, "waitingSums", "()I"⟩
abbrev cX1_insert : ByteArray := prog_3_method_12_code
def yX1_insert : MethodName := ⟨RX1, "insert", "(II)V"⟩
abbrev cX1_remove : ByteArray := prog_3_method_13_code
def yX1_remove : MethodName := ⟨RX1, "remove", "(I)V"⟩
abbrev cX1_replace : ByteArray := prog_3_method_14_code
def yX1_replace : MethodName := ⟨RX1, "replace", "(II)V"⟩
abbrev cX1_turnSpan : ByteArray := prog_3_method_15_code
def yX1_turnSpan : MethodName := ⟨RX1, "turnSpan", "(II)V"⟩
abbrev cX1_addToSpan : ByteArray := prog_3_method_16_code
def yX1_addToSpan : MethodName := ⟨RX1, "addToSpan", "(III)V"⟩
abbrev cX1_moveSpan : ByteArray := prog_3_method_17_code
def yX1_moveSpan : MethodName := ⟨RX1, "moveSpan", "(III)V"⟩
abbrev cX1_cutAt : ByteArray := prog_3_method_18_code
def yX1_cutAt : MethodName := ⟨RX1, "cutAt", "(I)I"⟩
abbrev cX1_part : ByteArray := prog_3_method_19_code
def yX1_part : MethodName := ⟨RX1, "part", "(II)V"⟩
abbrev cX1_settle : ByteArray := prog_3_method_20_code
def yX1_settle : MethodName := ⟨RX1, "settle", "(II)V"⟩
abbrev cX1_openChunk : ByteArray := prog_3_method_21_code
def yX1_openChunk : MethodName := ⟨RX1, "openChunk", "(II)V"⟩
abbrev cX1_closeChunk : ByteArray := prog_3_method_22_code
def yX1_closeChunk : MethodName := ⟨RX1, "closeChunk", "(I)V"⟩
abbrev cX1_reverseChunks : ByteArray := prog_3_method_23_code
def yX1_reverseChunks : MethodName := ⟨RX1, "reverseChunks", "(II)V"⟩
abbrev cX1_exchangeChunks : ByteArray := prog_3_method_24_code
def yX1_exchangeChunks : MethodName := ⟨RX1, "exchangeChunks", "(III)V"⟩
abbrev cX1_evenOut : ByteArray := prog_3_method_25_code
def yX1_evenOut : MethodName := ⟨RX1, "evenOut", "()V"⟩
abbrev cX1_partLongChunks : ByteArray := prog_3_method_26_code
def yX1_partLongChunks : MethodName := ⟨RX1, "partLongChunks", "(I)V"⟩
abbrev cX1_joinShortChunks : ByteArray := prog_3_method_27_code
def yX1_joinShortChunks : MethodName := ⟨RX1, "joinShortChunks", "(I)V"⟩
abbrev cX1_mirror : ByteArray := prog_3_method_28_code
def yX1_mirror : MethodName := ⟨RX1, "mirror", "([III)V"⟩
def RX2 : String := "RootChunks"
def TX2 : u_T := fun k => match k with
  | 0 => ("RootChunks", "row", "LRootChunks$Row;", true)
  | 1 => ("RootChunks", "trial", "LRootChunks$Row;", true)
  | 2 => ("RootChunks", "history", "[LRootChunks$Row;", true)
  | 3 => ("RootChunks", "undoable", "I", false)
  | 4 => ("RootChunks", "slots", "[LRootChunks$Row;", true)
  | 5 => ("RootChunks", "slotUsed", "[Z", true)
  | 6 => ("RootChunks", "pad", "LRootChunks$Pad;", true)
  | _ => ("RootChunks", "standing", "[I", true)
def tyX2 : Nat → FieldType := fun k => match k with
  | 0 => .object "RootChunks$Row"
  | 1 => .object "RootChunks$Row"
  | 2 => .array (.object "RootChunks$Row")
  | 3 => .int
  | 4 => .array (.object "RootChunks$Row")
  | 5 => .array .boolean
  | 6 => .object "RootChunks$Pad"
  | _ => .array .int
abbrev wsX20 : List Cond := u_ws RX2 TX2 8
theorem nmX2 : ∀ a, a < 8 → ∀ b, b < 8 → a ≠ b → (TX2 a).2.1 ≠ (TX2 b).2.1 := by decide +kernel
theorem tyX2_ok : ∀ k, k < 8 → parseFieldDescriptor (TX2 k).2.2.1 = some (tyX2 k) := by decide +kernel
abbrev cX2_init : ByteArray := prog_1_method_1_code
def yX2_init : MethodName := ⟨RX2, "<init>", "()V"⟩
abbrev cX2_putIn : ByteArray := prog_1_method_2_code
def yX2_putIn : MethodName := ⟨RX2, "putIn", "(II)I"⟩
abbrev cX2_takeOut : ByteArray := prog_1_method_3_code
def yX2_takeOut : MethodName := ⟨RX2, "takeOut", "(I)I"⟩
abbrev cX2_set : ByteArray := prog_1_method_4_code
def yX2_set : MethodName := ⟨RX2, "set", "(II)I"⟩
abbrev cX2_turn : ByteArray := prog_1_method_5_code
def yX2_turn : MethodName := ⟨RX2, "turn", "(II)I"⟩
abbrev cX2_add : ByteArray := prog_1_method_6_code
def yX2_add : MethodName := ⟨RX2, "add", "(III)I"⟩
abbrev cX2_move : ByteArray := prog_1_method_7_code
def yX2_move : MethodName := ⟨RX2, "move", "(III)I"⟩
abbrev cX2_rotate : ByteArray := prog_1_method_8_code
def yX2_rotate : MethodName := ⟨RX2, "rotate", "(III)I"⟩
abbrev cX2_at : ByteArray := prog_1_method_9_code
def yX2_at : MethodName := ⟨RX2, "at", "(I)I"⟩
abbrev cX2_chunk : ByteArray := prog_1_method_10_code
def yX2_chunk : MethodName := ⟨RX2, "chunk", "(II)I"⟩
abbrev cX2_count : ByteArray := prog_1_method_11_code
def yX2_count : MethodName := ⟨RX2, "count", "(I)I"⟩
abbrev cX2_undo : ByteArray := prog_1_method_22_code
def yX2_undo : MethodName := ⟨RX2, "undo", "()I"⟩
abbrev cX2_save : ByteArray := prog_1_method_23_code
def yX2_save : MethodName := ⟨RX2, "save", "(I)I"⟩
abbrev cX2_restore : ByteArray := prog_1_method_24_code
def yX2_restore : MethodName := ⟨RX2, "restore", "(I)I"⟩
abbrev cX2_change : ByteArray := prog_1_method_25_code
def yX2_change : MethodName := ⟨RX2, "change", "(CIII)I"⟩
abbrev cX2_errorOf : ByteArray := prog_1_method_26_code
def yX2_errorOf : MethodName := ⟨RX2, "errorOf", "(CIII)I"⟩
abbrev cX2_apply : ByteArray := prog_1_method_27_code
def yX2_apply : MethodName := ⟨RX2, "apply", "(CIII)I"⟩
abbrev cX2_rolledOff : ByteArray := prog_1_method_28_code
def yX2_rolledOff : MethodName := ⟨RX2, "rolledOff", "(III)I"⟩
abbrev cX2_spanError : ByteArray := prog_1_method_29_code
def yX2_spanError : MethodName := ⟨RX2, "spanError", "(II)I"⟩
abbrev cX2_putError : ByteArray := prog_1_method_30_code
def yX2_putError : MethodName := ⟨RX2, "putError", "(II)I"⟩
abbrev cX2_addError : ByteArray := prog_1_method_31_code
def yX2_addError : MethodName := ⟨RX2, "addError", "(III)I"⟩
abbrev cX2_moveError : ByteArray := prog_1_method_32_code
def yX2_moveError : MethodName := ⟨RX2, "moveError", "(III)I"⟩
abbrev cX2_rollError : ByteArray := prog_1_method_33_code
def yX2_rollError : MethodName := ⟨RX2, "rollError", "(III)I"⟩
abbrev cX2_outside : ByteArray := prog_1_method_34_code
def yX2_outside : MethodName := ⟨RX2, "outside", "(II)Z"⟩
abbrev cX2_remember : ByteArray := prog_1_method_35_code
def yX2_remember : MethodName := ⟨RX2, "remember", "()V"⟩
abbrev cX2_makeRows : ByteArray := prog_1_method_40_code
def yX2_makeRows : MethodName := ⟨RX2, "makeRows", "(I)[LRootChunks$Row;"⟩
def RX3 : String := "RootChunksModel"
def TX3 : u_T := fun k => match k with
  | _ => ("", "", "", false)
def tyX3 : Nat → FieldType := fun k => match k with
  | _ => .int
abbrev wsX30 : List Cond := u_ws RX3 TX3 0
theorem nmX3 : ∀ a, a < 0 → ∀ b, b < 0 → a ≠ b → (TX3 a).2.1 ≠ (TX3 b).2.1 := by decide +kernel
theorem tyX3_ok : ∀ k, k < 0 → parseFieldDescriptor (TX3 k).2.2.1 = some (tyX3 k) := by decide +kernel
def RJ9 : String := "java/lang/Math"
def TJ9 : u_T := fun k => match k with
  | _ => ("", "", "", false)
def tyJ9 : Nat → FieldType := fun k => match k with
  | _ => .int
abbrev wsJ90 : List Cond := u_ws RJ9 TJ9 0
theorem nmJ9 : ∀ a, a < 0 → ∀ b, b < 0 → a ≠ b → (TJ9 a).2.1 ≠ (TJ9 b).2.1 := by decide +kernel
theorem tyJ9_ok : ∀ k, k < 0 → parseFieldDescriptor (TJ9 k).2.2.1 = some (tyJ9 k) := by decide +kernel
abbrev cJ9_floorMod_7cf53 : ByteArray := prog_6_method_50_code
def yJ9_floorMod_7cf53 : MethodName := ⟨RJ9, "floorMod", "(II)I"⟩
abbrev cJ9_max_7cf53 : ByteArray := prog_6_method_65_code
def yJ9_max_7cf53 : MethodName := ⟨RJ9, "max", "(II)I"⟩
def RJ10 : String := "java/lang/System"
def TJ10 : u_T := fun k => match k with
  | _ => ("", "", "", false)
def tyJ10 : Nat → FieldType := fun k => match k with
  | _ => .int
abbrev wsJ100 : List Cond := u_ws RJ10 TJ10 0
theorem nmJ10 : ∀ a, a < 0 → ∀ b, b < 0 → a ≠ b → (TJ10 a).2.1 ≠ (TJ10 b).2.1 := by decide +kernel
theorem tyJ10_ok : ∀ k, k < 0 → parseFieldDescriptor (TJ10 k).2.2.1 = some (tyJ10 k) := by decide +kernel
def RL : String := "RootChunksLaw"
abbrev cL_cell : ByteArray := method_2_code
def yL_cell : MethodName := ⟨RL, "cell", "([II)I"⟩
abbrev cL_low : ByteArray := method_3_code
def yL_low : MethodName := ⟨RL, "low", "(II)I"⟩
abbrev cL_digest : ByteArray := method_4_code
def yL_digest : MethodName := ⟨RL, "digest", "(LRootChunks;)J"⟩
abbrev cL_act : ByteArray := method_5_code
def yL_act : MethodName := ⟨RL, "act", "(LRootChunks;II)I"⟩
abbrev cL_holds : ByteArray := method_6_code
def yL_holds : MethodName := ⟨RL, "holds", "(LRootChunks;)Z"⟩
abbrev cL_law : ByteArray := code
def yL_law : MethodName := ⟨RL, "law", "([I)Z"⟩
abbrev vwCl : List vw_C := [(RX0, TX0, 5), (RX1, TX1, 7), (RX2, TX2, 8)]
theorem inX0 : ∀ w ∈ wsX00, w ∈ lw_tbl := by decide +kernel
theorem inX1 : ∀ w ∈ wsX10, w ∈ lw_tbl := by decide +kernel
theorem inX2 : ∀ w ∈ wsX20, w ∈ lw_tbl := by decide +kernel
