section
-- ===== PART A: goes FIRST, ahead of the names: the tables' words, and 'selects' of the private methods out of them =====
/-- a private method of a class that the tables say can be made, by its rows of tables_1 -/
def lw_okq (q : MethodName × Nat) : Prop := (q.1.cls ≠ "java/lang/invoke/MethodHandle" ∧ q.1.cls ≠ "java/lang/invoke/VarHandle") ∧ Cond.instantiable q.1.cls q.2 ∈ tables_1 ∧ Cond.privateMethod q.1 ∈ tables_1 ∧ Cond.instanceMethod q.1 ∈ tables_1
theorem lw_p0 : lw_okq (⟨"RootChunks", "change", "(CIII)I"⟩, 8) := ⟨⟨by decide +kernel, by decide +kernel⟩, List.mem_of_getElem? (i := 12) (by decide +kernel), List.mem_of_getElem? (i := 119) (by decide +kernel), List.mem_of_getElem? (i := 120) (by decide +kernel)⟩
theorem lw_p1 : lw_okq (⟨"RootChunks", "errorOf", "(CIII)I"⟩, 8) := ⟨⟨by decide +kernel, by decide +kernel⟩, List.mem_of_getElem? (i := 12) (by decide +kernel), List.mem_of_getElem? (i := 123) (by decide +kernel), List.mem_of_getElem? (i := 124) (by decide +kernel)⟩
theorem lw_p2 : lw_okq (⟨"RootChunks", "putError", "(II)I"⟩, 8) := ⟨⟨by decide +kernel, by decide +kernel⟩, List.mem_of_getElem? (i := 12) (by decide +kernel), List.mem_of_getElem? (i := 127) (by decide +kernel), List.mem_of_getElem? (i := 128) (by decide +kernel)⟩
theorem lw_p3 : lw_okq (⟨"RootChunks$Row", "has", "(I)Z"⟩, 7) := ⟨⟨by decide +kernel, by decide +kernel⟩, List.mem_of_getElem? (i := 20) (by decide +kernel), List.mem_of_getElem? (i := 134) (by decide +kernel), List.mem_of_getElem? (i := 135) (by decide +kernel)⟩
theorem lw_p4 : lw_okq (⟨"RootChunks", "addError", "(III)I"⟩, 8) := ⟨⟨by decide +kernel, by decide +kernel⟩, List.mem_of_getElem? (i := 12) (by decide +kernel), List.mem_of_getElem? (i := 138) (by decide +kernel), List.mem_of_getElem? (i := 139) (by decide +kernel)⟩
theorem lw_p5 : lw_okq (⟨"RootChunks", "rollError", "(III)I"⟩, 8) := ⟨⟨by decide +kernel, by decide +kernel⟩, List.mem_of_getElem? (i := 12) (by decide +kernel), List.mem_of_getElem? (i := 142) (by decide +kernel), List.mem_of_getElem? (i := 143) (by decide +kernel)⟩
theorem lw_p6 : lw_okq (⟨"RootChunks", "spanError", "(II)I"⟩, 8) := ⟨⟨by decide +kernel, by decide +kernel⟩, List.mem_of_getElem? (i := 12) (by decide +kernel), List.mem_of_getElem? (i := 146) (by decide +kernel), List.mem_of_getElem? (i := 147) (by decide +kernel)⟩
theorem lw_p7 : lw_okq (⟨"RootChunks$Row", "layOut", "([I)V"⟩, 7) := ⟨⟨by decide +kernel, by decide +kernel⟩, List.mem_of_getElem? (i := 20) (by decide +kernel), List.mem_of_getElem? (i := 150) (by decide +kernel), List.mem_of_getElem? (i := 151) (by decide +kernel)⟩
theorem lw_p8 : lw_okq (⟨"RootChunks", "moveError", "(III)I"⟩, 8) := ⟨⟨by decide +kernel, by decide +kernel⟩, List.mem_of_getElem? (i := 12) (by decide +kernel), List.mem_of_getElem? (i := 155) (by decide +kernel), List.mem_of_getElem? (i := 156) (by decide +kernel)⟩
theorem lw_p9 : lw_okq (⟨"RootChunks", "remember", "()V"⟩, 8) := ⟨⟨by decide +kernel, by decide +kernel⟩, List.mem_of_getElem? (i := 12) (by decide +kernel), List.mem_of_getElem? (i := 159) (by decide +kernel), List.mem_of_getElem? (i := 160) (by decide +kernel)⟩
theorem lw_p10 : lw_okq (⟨"RootChunks$Row", "copyFrom", "(LRootChunks$Row;)V"⟩, 7) := ⟨⟨by decide +kernel, by decide +kernel⟩, List.mem_of_getElem? (i := 20) (by decide +kernel), List.mem_of_getElem? (i := 163) (by decide +kernel), List.mem_of_getElem? (i := 164) (by decide +kernel)⟩
theorem lw_p11 : lw_okq (⟨"RootChunks", "apply", "(CIII)I"⟩, 8) := ⟨⟨by decide +kernel, by decide +kernel⟩, List.mem_of_getElem? (i := 12) (by decide +kernel), List.mem_of_getElem? (i := 170) (by decide +kernel), List.mem_of_getElem? (i := 171) (by decide +kernel)⟩
theorem lw_p12 : lw_okq (⟨"RootChunks$Row", "numberAt", "(I)I"⟩, 7) := ⟨⟨by decide +kernel, by decide +kernel⟩, List.mem_of_getElem? (i := 20) (by decide +kernel), List.mem_of_getElem? (i := 174) (by decide +kernel), List.mem_of_getElem? (i := 175) (by decide +kernel)⟩
theorem lw_p13 : lw_okq (⟨"RootChunks$Row", "chunkHolding", "(I)I"⟩, 7) := ⟨⟨by decide +kernel, by decide +kernel⟩, List.mem_of_getElem? (i := 20) (by decide +kernel), List.mem_of_getElem? (i := 178) (by decide +kernel), List.mem_of_getElem? (i := 179) (by decide +kernel)⟩
theorem lw_p14 : lw_okq (⟨"RootChunks$Row", "startOf", "(I)I"⟩, 7) := ⟨⟨by decide +kernel, by decide +kernel⟩, List.mem_of_getElem? (i := 20) (by decide +kernel), List.mem_of_getElem? (i := 182) (by decide +kernel), List.mem_of_getElem? (i := 183) (by decide +kernel)⟩
theorem lw_p15 : lw_okq (⟨"RootChunks$Row", "insert", "(II)V"⟩, 7) := ⟨⟨by decide +kernel, by decide +kernel⟩, List.mem_of_getElem? (i := 20) (by decide +kernel), List.mem_of_getElem? (i := 186) (by decide +kernel), List.mem_of_getElem? (i := 187) (by decide +kernel)⟩
def lw_privs_1 : List (MethodName × Nat) := [(⟨"RootChunks", "change", "(CIII)I"⟩, 8), (⟨"RootChunks", "errorOf", "(CIII)I"⟩, 8), (⟨"RootChunks", "putError", "(II)I"⟩, 8), (⟨"RootChunks$Row", "has", "(I)Z"⟩, 7), (⟨"RootChunks", "addError", "(III)I"⟩, 8), (⟨"RootChunks", "rollError", "(III)I"⟩, 8), (⟨"RootChunks", "spanError", "(II)I"⟩, 8), (⟨"RootChunks$Row", "layOut", "([I)V"⟩, 7), (⟨"RootChunks", "moveError", "(III)I"⟩, 8), (⟨"RootChunks", "remember", "()V"⟩, 8), (⟨"RootChunks$Row", "copyFrom", "(LRootChunks$Row;)V"⟩, 7), (⟨"RootChunks", "apply", "(CIII)I"⟩, 8), (⟨"RootChunks$Row", "numberAt", "(I)I"⟩, 7), (⟨"RootChunks$Row", "chunkHolding", "(I)I"⟩, 7), (⟨"RootChunks$Row", "startOf", "(I)I"⟩, 7), (⟨"RootChunks$Row", "insert", "(II)V"⟩, 7)]
theorem lw_r1 : ∀ q ∈ lw_privs_1, lw_okq q := List.forall_mem_cons.mpr ⟨lw_p0, List.forall_mem_cons.mpr ⟨lw_p1, List.forall_mem_cons.mpr ⟨lw_p2, List.forall_mem_cons.mpr ⟨lw_p3, List.forall_mem_cons.mpr ⟨lw_p4, List.forall_mem_cons.mpr ⟨lw_p5, List.forall_mem_cons.mpr ⟨lw_p6, List.forall_mem_cons.mpr ⟨lw_p7, List.forall_mem_cons.mpr ⟨lw_p8, List.forall_mem_cons.mpr ⟨lw_p9, List.forall_mem_cons.mpr ⟨lw_p10, List.forall_mem_cons.mpr ⟨lw_p11, List.forall_mem_cons.mpr ⟨lw_p12, List.forall_mem_cons.mpr ⟨lw_p13, List.forall_mem_cons.mpr ⟨lw_p14, List.forall_mem_cons.mpr ⟨lw_p15, fun _ h => absurd h List.not_mem_nil⟩⟩⟩⟩⟩⟩⟩⟩⟩⟩⟩⟩⟩⟩⟩⟩
theorem lw_p16 : lw_okq (⟨"RootChunks$Row", "cutAt", "(I)I"⟩, 7) := ⟨⟨by decide +kernel, by decide +kernel⟩, List.mem_of_getElem? (i := 20) (by decide +kernel), List.mem_of_getElem? (i := 190) (by decide +kernel), List.mem_of_getElem? (i := 191) (by decide +kernel)⟩
theorem lw_p17 : lw_okq (⟨"RootChunks$Row", "settle", "(II)V"⟩, 7) := ⟨⟨by decide +kernel, by decide +kernel⟩, List.mem_of_getElem? (i := 20) (by decide +kernel), List.mem_of_getElem? (i := 194) (by decide +kernel), List.mem_of_getElem? (i := 195) (by decide +kernel)⟩
theorem lw_p18 : lw_okq (⟨"RootChunks$Row", "part", "(II)V"⟩, 7) := ⟨⟨by decide +kernel, by decide +kernel⟩, List.mem_of_getElem? (i := 20) (by decide +kernel), List.mem_of_getElem? (i := 201) (by decide +kernel), List.mem_of_getElem? (i := 202) (by decide +kernel)⟩
theorem lw_p19 : lw_okq (⟨"RootChunks$Row", "openChunk", "(II)V"⟩, 7) := ⟨⟨by decide +kernel, by decide +kernel⟩, List.mem_of_getElem? (i := 20) (by decide +kernel), List.mem_of_getElem? (i := 205) (by decide +kernel), List.mem_of_getElem? (i := 206) (by decide +kernel)⟩
theorem lw_p20 : lw_okq (⟨"RootChunks$Row", "remove", "(I)V"⟩, 7) := ⟨⟨by decide +kernel, by decide +kernel⟩, List.mem_of_getElem? (i := 20) (by decide +kernel), List.mem_of_getElem? (i := 209) (by decide +kernel), List.mem_of_getElem? (i := 210) (by decide +kernel)⟩
theorem lw_p21 : lw_okq (⟨"RootChunks$Row", "closeChunk", "(I)V"⟩, 7) := ⟨⟨by decide +kernel, by decide +kernel⟩, List.mem_of_getElem? (i := 20) (by decide +kernel), List.mem_of_getElem? (i := 213) (by decide +kernel), List.mem_of_getElem? (i := 214) (by decide +kernel)⟩
theorem lw_p22 : lw_okq (⟨"RootChunks$Row", "replace", "(II)V"⟩, 7) := ⟨⟨by decide +kernel, by decide +kernel⟩, List.mem_of_getElem? (i := 20) (by decide +kernel), List.mem_of_getElem? (i := 217) (by decide +kernel), List.mem_of_getElem? (i := 218) (by decide +kernel)⟩
theorem lw_p23 : lw_okq (⟨"RootChunks$Row", "turnSpan", "(II)V"⟩, 7) := ⟨⟨by decide +kernel, by decide +kernel⟩, List.mem_of_getElem? (i := 20) (by decide +kernel), List.mem_of_getElem? (i := 221) (by decide +kernel), List.mem_of_getElem? (i := 222) (by decide +kernel)⟩
theorem lw_p24 : lw_okq (⟨"RootChunks$Row", "reverseChunks", "(II)V"⟩, 7) := ⟨⟨by decide +kernel, by decide +kernel⟩, List.mem_of_getElem? (i := 20) (by decide +kernel), List.mem_of_getElem? (i := 225) (by decide +kernel), List.mem_of_getElem? (i := 226) (by decide +kernel)⟩
theorem lw_p25 : lw_okq (⟨"RootChunks$Row", "addToSpan", "(III)V"⟩, 7) := ⟨⟨by decide +kernel, by decide +kernel⟩, List.mem_of_getElem? (i := 20) (by decide +kernel), List.mem_of_getElem? (i := 229) (by decide +kernel), List.mem_of_getElem? (i := 230) (by decide +kernel)⟩
theorem lw_p26 : lw_okq (⟨"RootChunks$Row", "moveSpan", "(III)V"⟩, 7) := ⟨⟨by decide +kernel, by decide +kernel⟩, List.mem_of_getElem? (i := 20) (by decide +kernel), List.mem_of_getElem? (i := 233) (by decide +kernel), List.mem_of_getElem? (i := 234) (by decide +kernel)⟩
theorem lw_p27 : lw_okq (⟨"RootChunks$Row", "exchangeChunks", "(III)V"⟩, 7) := ⟨⟨by decide +kernel, by decide +kernel⟩, List.mem_of_getElem? (i := 20) (by decide +kernel), List.mem_of_getElem? (i := 237) (by decide +kernel), List.mem_of_getElem? (i := 238) (by decide +kernel)⟩
theorem lw_p28 : lw_okq (⟨"RootChunks$Row", "evenOut", "()V"⟩, 7) := ⟨⟨by decide +kernel, by decide +kernel⟩, List.mem_of_getElem? (i := 20) (by decide +kernel), List.mem_of_getElem? (i := 247) (by decide +kernel), List.mem_of_getElem? (i := 248) (by decide +kernel)⟩
theorem lw_p29 : lw_okq (⟨"RootChunks$Row", "rootOfLength", "()I"⟩, 7) := ⟨⟨by decide +kernel, by decide +kernel⟩, List.mem_of_getElem? (i := 20) (by decide +kernel), List.mem_of_getElem? (i := 251) (by decide +kernel), List.mem_of_getElem? (i := 252) (by decide +kernel)⟩
theorem lw_p30 : lw_okq (⟨"RootChunks$Row", "partLongChunks", "(I)V"⟩, 7) := ⟨⟨by decide +kernel, by decide +kernel⟩, List.mem_of_getElem? (i := 20) (by decide +kernel), List.mem_of_getElem? (i := 255) (by decide +kernel), List.mem_of_getElem? (i := 256) (by decide +kernel)⟩
theorem lw_p31 : lw_okq (⟨"RootChunks$Row", "joinShortChunks", "(I)V"⟩, 7) := ⟨⟨by decide +kernel, by decide +kernel⟩, List.mem_of_getElem? (i := 20) (by decide +kernel), List.mem_of_getElem? (i := 259) (by decide +kernel), List.mem_of_getElem? (i := 260) (by decide +kernel)⟩
def lw_privs_2 : List (MethodName × Nat) := [(⟨"RootChunks$Row", "cutAt", "(I)I"⟩, 7), (⟨"RootChunks$Row", "settle", "(II)V"⟩, 7), (⟨"RootChunks$Row", "part", "(II)V"⟩, 7), (⟨"RootChunks$Row", "openChunk", "(II)V"⟩, 7), (⟨"RootChunks$Row", "remove", "(I)V"⟩, 7), (⟨"RootChunks$Row", "closeChunk", "(I)V"⟩, 7), (⟨"RootChunks$Row", "replace", "(II)V"⟩, 7), (⟨"RootChunks$Row", "turnSpan", "(II)V"⟩, 7), (⟨"RootChunks$Row", "reverseChunks", "(II)V"⟩, 7), (⟨"RootChunks$Row", "addToSpan", "(III)V"⟩, 7), (⟨"RootChunks$Row", "moveSpan", "(III)V"⟩, 7), (⟨"RootChunks$Row", "exchangeChunks", "(III)V"⟩, 7), (⟨"RootChunks$Row", "evenOut", "()V"⟩, 7), (⟨"RootChunks$Row", "rootOfLength", "()I"⟩, 7), (⟨"RootChunks$Row", "partLongChunks", "(I)V"⟩, 7), (⟨"RootChunks$Row", "joinShortChunks", "(I)V"⟩, 7)]
theorem lw_r2 : ∀ q ∈ lw_privs_2, lw_okq q := List.forall_mem_cons.mpr ⟨lw_p16, List.forall_mem_cons.mpr ⟨lw_p17, List.forall_mem_cons.mpr ⟨lw_p18, List.forall_mem_cons.mpr ⟨lw_p19, List.forall_mem_cons.mpr ⟨lw_p20, List.forall_mem_cons.mpr ⟨lw_p21, List.forall_mem_cons.mpr ⟨lw_p22, List.forall_mem_cons.mpr ⟨lw_p23, List.forall_mem_cons.mpr ⟨lw_p24, List.forall_mem_cons.mpr ⟨lw_p25, List.forall_mem_cons.mpr ⟨lw_p26, List.forall_mem_cons.mpr ⟨lw_p27, List.forall_mem_cons.mpr ⟨lw_p28, List.forall_mem_cons.mpr ⟨lw_p29, List.forall_mem_cons.mpr ⟨lw_p30, List.forall_mem_cons.mpr ⟨lw_p31, fun _ h => absurd h List.not_mem_nil⟩⟩⟩⟩⟩⟩⟩⟩⟩⟩⟩⟩⟩⟩⟩⟩
theorem lw_p32 : lw_okq (⟨"RootChunks$Row", "longestChunk", "()I"⟩, 7) := ⟨⟨by decide +kernel, by decide +kernel⟩, List.mem_of_getElem? (i := 20) (by decide +kernel), List.mem_of_getElem? (i := 302) (by decide +kernel), List.mem_of_getElem? (i := 303) (by decide +kernel)⟩
theorem lw_p33 : lw_okq (⟨"RootChunks$Row", "waitingTurns", "()I"⟩, 7) := ⟨⟨by decide +kernel, by decide +kernel⟩, List.mem_of_getElem? (i := 20) (by decide +kernel), List.mem_of_getElem? (i := 307) (by decide +kernel), List.mem_of_getElem? (i := 308) (by decide +kernel)⟩
theorem lw_p34 : lw_okq (⟨"RootChunks$Row", "waitingSums", "()I"⟩, 7) := ⟨⟨by decide +kernel, by decide +kernel⟩, List.mem_of_getElem? (i := 20) (by decide +kernel), List.mem_of_getElem? (i := 311) (by decide +kernel), List.mem_of_getElem? (i := 312) (by decide +kernel)⟩
theorem lw_p35 : lw_okq (⟨"RootChunks", "countBelow", "(III)I"⟩, 8) := ⟨⟨by decide +kernel, by decide +kernel⟩, List.mem_of_getElem? (i := 12) (by decide +kernel), List.mem_of_getElem? (i := 319) (by decide +kernel), List.mem_of_getElem? (i := 320) (by decide +kernel)⟩
theorem lw_p36 : lw_okq (⟨"RootChunks", "firstPlaceOf", "(III)I"⟩, 8) := ⟨⟨by decide +kernel, by decide +kernel⟩, List.mem_of_getElem? (i := 12) (by decide +kernel), List.mem_of_getElem? (i := 336) (by decide +kernel), List.mem_of_getElem? (i := 337) (by decide +kernel)⟩
theorem lw_p37 : lw_okq (⟨"RootChunks$Pad", "append", "(C)V"⟩, 5) := ⟨⟨by decide +kernel, by decide +kernel⟩, List.mem_of_getElem? (i := 62) (by decide +kernel), List.mem_of_getElem? (i := 359) (by decide +kernel), List.mem_of_getElem? (i := 360) (by decide +kernel)⟩
theorem lw_p38 : lw_okq (⟨"RootChunks$Pad", "firstFault", "()I"⟩, 5) := ⟨⟨by decide +kernel, by decide +kernel⟩, List.mem_of_getElem? (i := 62) (by decide +kernel), List.mem_of_getElem? (i := 371) (by decide +kernel), List.mem_of_getElem? (i := 372) (by decide +kernel)⟩
theorem lw_p39 : lw_okq (⟨"RootChunks$Pad", "readOrder", "()Z"⟩, 5) := ⟨⟨by decide +kernel, by decide +kernel⟩, List.mem_of_getElem? (i := 62) (by decide +kernel), List.mem_of_getElem? (i := 375) (by decide +kernel), List.mem_of_getElem? (i := 376) (by decide +kernel)⟩
theorem lw_p40 : lw_okq (⟨"RootChunks$Pad", "next", "()C"⟩, 5) := ⟨⟨by decide +kernel, by decide +kernel⟩, List.mem_of_getElem? (i := 62) (by decide +kernel), List.mem_of_getElem? (i := 379) (by decide +kernel), List.mem_of_getElem? (i := 380) (by decide +kernel)⟩
theorem lw_p41 : lw_okq (⟨"RootChunks$Pad", "readNumber", "(IZ)Z"⟩, 5) := ⟨⟨by decide +kernel, by decide +kernel⟩, List.mem_of_getElem? (i := 62) (by decide +kernel), List.mem_of_getElem? (i := 442) (by decide +kernel), List.mem_of_getElem? (i := 443) (by decide +kernel)⟩
theorem lw_p42 : lw_okq (⟨"RootChunks$Pad", "skip", "(C)Z"⟩, 5) := ⟨⟨by decide +kernel, by decide +kernel⟩, List.mem_of_getElem? (i := 62) (by decide +kernel), List.mem_of_getElem? (i := 446) (by decide +kernel), List.mem_of_getElem? (i := 447) (by decide +kernel)⟩
theorem lw_p43 : lw_okq (⟨"RootChunksModel", "refusesPut", "(II)I"⟩, 18) := ⟨⟨by decide +kernel, by decide +kernel⟩, List.mem_of_getElem? (i := 473) (by decide +kernel), List.mem_of_getElem? (i := 538) (by decide +kernel), List.mem_of_getElem? (i := 539) (by decide +kernel)⟩
theorem lw_p44 : lw_okq (⟨"RootChunksModel", "records", "()V"⟩, 18) := ⟨⟨by decide +kernel, by decide +kernel⟩, List.mem_of_getElem? (i := 473) (by decide +kernel), List.mem_of_getElem? (i := 548) (by decide +kernel), List.mem_of_getElem? (i := 549) (by decide +kernel)⟩
theorem lw_p45 : lw_okq (⟨"RootChunksModel", "puts", "(II)V"⟩, 18) := ⟨⟨by decide +kernel, by decide +kernel⟩, List.mem_of_getElem? (i := 473) (by decide +kernel), List.mem_of_getElem? (i := 552) (by decide +kernel), List.mem_of_getElem? (i := 553) (by decide +kernel)⟩
theorem lw_p46 : lw_okq (⟨"RootChunksModel", "cuts", "(I)V"⟩, 18) := ⟨⟨by decide +kernel, by decide +kernel⟩, List.mem_of_getElem? (i := 473) (by decide +kernel), List.mem_of_getElem? (i := 556) (by decide +kernel), List.mem_of_getElem? (i := 557) (by decide +kernel)⟩
theorem lw_p47 : lw_okq (⟨"RootChunksModel", "chunkAt", "(I)I"⟩, 18) := ⟨⟨by decide +kernel, by decide +kernel⟩, List.mem_of_getElem? (i := 473) (by decide +kernel), List.mem_of_getElem? (i := 560) (by decide +kernel), List.mem_of_getElem? (i := 561) (by decide +kernel)⟩
def lw_privs_3 : List (MethodName × Nat) := [(⟨"RootChunks$Row", "longestChunk", "()I"⟩, 7), (⟨"RootChunks$Row", "waitingTurns", "()I"⟩, 7), (⟨"RootChunks$Row", "waitingSums", "()I"⟩, 7), (⟨"RootChunks", "countBelow", "(III)I"⟩, 8), (⟨"RootChunks", "firstPlaceOf", "(III)I"⟩, 8), (⟨"RootChunks$Pad", "append", "(C)V"⟩, 5), (⟨"RootChunks$Pad", "firstFault", "()I"⟩, 5), (⟨"RootChunks$Pad", "readOrder", "()Z"⟩, 5), (⟨"RootChunks$Pad", "next", "()C"⟩, 5), (⟨"RootChunks$Pad", "readNumber", "(IZ)Z"⟩, 5), (⟨"RootChunks$Pad", "skip", "(C)Z"⟩, 5), (⟨"RootChunksModel", "refusesPut", "(II)I"⟩, 18), (⟨"RootChunksModel", "records", "()V"⟩, 18), (⟨"RootChunksModel", "puts", "(II)V"⟩, 18), (⟨"RootChunksModel", "cuts", "(I)V"⟩, 18), (⟨"RootChunksModel", "chunkAt", "(I)I"⟩, 18)]
theorem lw_r3 : ∀ q ∈ lw_privs_3, lw_okq q := List.forall_mem_cons.mpr ⟨lw_p32, List.forall_mem_cons.mpr ⟨lw_p33, List.forall_mem_cons.mpr ⟨lw_p34, List.forall_mem_cons.mpr ⟨lw_p35, List.forall_mem_cons.mpr ⟨lw_p36, List.forall_mem_cons.mpr ⟨lw_p37, List.forall_mem_cons.mpr ⟨lw_p38, List.forall_mem_cons.mpr ⟨lw_p39, List.forall_mem_cons.mpr ⟨lw_p40, List.forall_mem_cons.mpr ⟨lw_p41, List.forall_mem_cons.mpr ⟨lw_p42, List.forall_mem_cons.mpr ⟨lw_p43, List.forall_mem_cons.mpr ⟨lw_p44, List.forall_mem_cons.mpr ⟨lw_p45, List.forall_mem_cons.mpr ⟨lw_p46, List.forall_mem_cons.mpr ⟨lw_p47, fun _ h => absurd h List.not_mem_nil⟩⟩⟩⟩⟩⟩⟩⟩⟩⟩⟩⟩⟩⟩⟩⟩
theorem lw_p48 : lw_okq (⟨"RootChunksModel", "startOf", "(I)I"⟩, 18) := ⟨⟨by decide +kernel, by decide +kernel⟩, List.mem_of_getElem? (i := 473) (by decide +kernel), List.mem_of_getElem? (i := 564) (by decide +kernel), List.mem_of_getElem? (i := 565) (by decide +kernel)⟩
theorem lw_p49 : lw_okq (⟨"RootChunksModel", "carries", "(I)V"⟩, 18) := ⟨⟨by decide +kernel, by decide +kernel⟩, List.mem_of_getElem? (i := 473) (by decide +kernel), List.mem_of_getElem? (i := 568) (by decide +kernel), List.mem_of_getElem? (i := 569) (by decide +kernel)⟩
theorem lw_p50 : lw_okq (⟨"RootChunksModel", "valueAt", "(I)I"⟩, 18) := ⟨⟨by decide +kernel, by decide +kernel⟩, List.mem_of_getElem? (i := 473) (by decide +kernel), List.mem_of_getElem? (i := 572) (by decide +kernel), List.mem_of_getElem? (i := 573) (by decide +kernel)⟩
theorem lw_p51 : lw_okq (⟨"RootChunksModel", "parts", "(II)V"⟩, 18) := ⟨⟨by decide +kernel, by decide +kernel⟩, List.mem_of_getElem? (i := 473) (by decide +kernel), List.mem_of_getElem? (i := 576) (by decide +kernel), List.mem_of_getElem? (i := 577) (by decide +kernel)⟩
theorem lw_p52 : lw_okq (⟨"RootChunksModel", "chunkFrom", "(I)I"⟩, 18) := ⟨⟨by decide +kernel, by decide +kernel⟩, List.mem_of_getElem? (i := 473) (by decide +kernel), List.mem_of_getElem? (i := 580) (by decide +kernel), List.mem_of_getElem? (i := 581) (by decide +kernel)⟩
theorem lw_p53 : lw_okq (⟨"RootChunksModel", "evens", "()V"⟩, 18) := ⟨⟨by decide +kernel, by decide +kernel⟩, List.mem_of_getElem? (i := 473) (by decide +kernel), List.mem_of_getElem? (i := 584) (by decide +kernel), List.mem_of_getElem? (i := 585) (by decide +kernel)⟩
theorem lw_p54 : lw_okq (⟨"RootChunksModel", "root", "()I"⟩, 18) := ⟨⟨by decide +kernel, by decide +kernel⟩, List.mem_of_getElem? (i := 473) (by decide +kernel), List.mem_of_getElem? (i := 588) (by decide +kernel), List.mem_of_getElem? (i := 589) (by decide +kernel)⟩
theorem lw_p55 : lw_okq (⟨"RootChunksModel", "closes", "(I)V"⟩, 18) := ⟨⟨by decide +kernel, by decide +kernel⟩, List.mem_of_getElem? (i := 473) (by decide +kernel), List.mem_of_getElem? (i := 592) (by decide +kernel), List.mem_of_getElem? (i := 593) (by decide +kernel)⟩
theorem lw_p56 : lw_okq (⟨"RootChunksModel", "isPlace", "(I)Z"⟩, 18) := ⟨⟨by decide +kernel, by decide +kernel⟩, List.mem_of_getElem? (i := 473) (by decide +kernel), List.mem_of_getElem? (i := 600) (by decide +kernel), List.mem_of_getElem? (i := 601) (by decide +kernel)⟩
theorem lw_p57 : lw_okq (⟨"RootChunksModel", "takes", "(I)V"⟩, 18) := ⟨⟨by decide +kernel, by decide +kernel⟩, List.mem_of_getElem? (i := 473) (by decide +kernel), List.mem_of_getElem? (i := 604) (by decide +kernel), List.mem_of_getElem? (i := 605) (by decide +kernel)⟩
theorem lw_p58 : lw_okq (⟨"RootChunksModel", "refusesSet", "(II)I"⟩, 18) := ⟨⟨by decide +kernel, by decide +kernel⟩, List.mem_of_getElem? (i := 473) (by decide +kernel), List.mem_of_getElem? (i := 613) (by decide +kernel), List.mem_of_getElem? (i := 614) (by decide +kernel)⟩
theorem lw_p59 : lw_okq (⟨"RootChunksModel", "sets", "(II)V"⟩, 18) := ⟨⟨by decide +kernel, by decide +kernel⟩, List.mem_of_getElem? (i := 473) (by decide +kernel), List.mem_of_getElem? (i := 617) (by decide +kernel), List.mem_of_getElem? (i := 618) (by decide +kernel)⟩
theorem lw_p60 : lw_okq (⟨"RootChunksModel", "refusesSpan", "(II)I"⟩, 18) := ⟨⟨by decide +kernel, by decide +kernel⟩, List.mem_of_getElem? (i := 473) (by decide +kernel), List.mem_of_getElem? (i := 625) (by decide +kernel), List.mem_of_getElem? (i := 626) (by decide +kernel)⟩
theorem lw_p61 : lw_okq (⟨"RootChunksModel", "turns", "(II)V"⟩, 18) := ⟨⟨by decide +kernel, by decide +kernel⟩, List.mem_of_getElem? (i := 473) (by decide +kernel), List.mem_of_getElem? (i := 629) (by decide +kernel), List.mem_of_getElem? (i := 630) (by decide +kernel)⟩
theorem lw_p62 : lw_okq (⟨"RootChunksModel", "reorders", "()V"⟩, 18) := ⟨⟨by decide +kernel, by decide +kernel⟩, List.mem_of_getElem? (i := 473) (by decide +kernel), List.mem_of_getElem? (i := 633) (by decide +kernel), List.mem_of_getElem? (i := 634) (by decide +kernel)⟩
theorem lw_p63 : lw_okq (⟨"RootChunksModel", "refusesAdd", "(III)I"⟩, 18) := ⟨⟨by decide +kernel, by decide +kernel⟩, List.mem_of_getElem? (i := 473) (by decide +kernel), List.mem_of_getElem? (i := 641) (by decide +kernel), List.mem_of_getElem? (i := 642) (by decide +kernel)⟩
def lw_privs_4 : List (MethodName × Nat) := [(⟨"RootChunksModel", "startOf", "(I)I"⟩, 18), (⟨"RootChunksModel", "carries", "(I)V"⟩, 18), (⟨"RootChunksModel", "valueAt", "(I)I"⟩, 18), (⟨"RootChunksModel", "parts", "(II)V"⟩, 18), (⟨"RootChunksModel", "chunkFrom", "(I)I"⟩, 18), (⟨"RootChunksModel", "evens", "()V"⟩, 18), (⟨"RootChunksModel", "root", "()I"⟩, 18), (⟨"RootChunksModel", "closes", "(I)V"⟩, 18), (⟨"RootChunksModel", "isPlace", "(I)Z"⟩, 18), (⟨"RootChunksModel", "takes", "(I)V"⟩, 18), (⟨"RootChunksModel", "refusesSet", "(II)I"⟩, 18), (⟨"RootChunksModel", "sets", "(II)V"⟩, 18), (⟨"RootChunksModel", "refusesSpan", "(II)I"⟩, 18), (⟨"RootChunksModel", "turns", "(II)V"⟩, 18), (⟨"RootChunksModel", "reorders", "()V"⟩, 18), (⟨"RootChunksModel", "refusesAdd", "(III)I"⟩, 18)]
theorem lw_r4 : ∀ q ∈ lw_privs_4, lw_okq q := List.forall_mem_cons.mpr ⟨lw_p48, List.forall_mem_cons.mpr ⟨lw_p49, List.forall_mem_cons.mpr ⟨lw_p50, List.forall_mem_cons.mpr ⟨lw_p51, List.forall_mem_cons.mpr ⟨lw_p52, List.forall_mem_cons.mpr ⟨lw_p53, List.forall_mem_cons.mpr ⟨lw_p54, List.forall_mem_cons.mpr ⟨lw_p55, List.forall_mem_cons.mpr ⟨lw_p56, List.forall_mem_cons.mpr ⟨lw_p57, List.forall_mem_cons.mpr ⟨lw_p58, List.forall_mem_cons.mpr ⟨lw_p59, List.forall_mem_cons.mpr ⟨lw_p60, List.forall_mem_cons.mpr ⟨lw_p61, List.forall_mem_cons.mpr ⟨lw_p62, List.forall_mem_cons.mpr ⟨lw_p63, fun _ h => absurd h List.not_mem_nil⟩⟩⟩⟩⟩⟩⟩⟩⟩⟩⟩⟩⟩⟩⟩⟩
theorem lw_p64 : lw_okq (⟨"RootChunksModel", "refusesBy", "(III)I"⟩, 18) := ⟨⟨by decide +kernel, by decide +kernel⟩, List.mem_of_getElem? (i := 473) (by decide +kernel), List.mem_of_getElem? (i := 645) (by decide +kernel), List.mem_of_getElem? (i := 646) (by decide +kernel)⟩
theorem lw_p65 : lw_okq (⟨"RootChunksModel", "addsTo", "(III)V"⟩, 18) := ⟨⟨by decide +kernel, by decide +kernel⟩, List.mem_of_getElem? (i := 473) (by decide +kernel), List.mem_of_getElem? (i := 651) (by decide +kernel), List.mem_of_getElem? (i := 652) (by decide +kernel)⟩
theorem lw_p66 : lw_okq (⟨"RootChunksModel", "refusesMove", "(III)I"⟩, 18) := ⟨⟨by decide +kernel, by decide +kernel⟩, List.mem_of_getElem? (i := 473) (by decide +kernel), List.mem_of_getElem? (i := 659) (by decide +kernel), List.mem_of_getElem? (i := 660) (by decide +kernel)⟩
theorem lw_p67 : lw_okq (⟨"RootChunksModel", "shifts", "(III)V"⟩, 18) := ⟨⟨by decide +kernel, by decide +kernel⟩, List.mem_of_getElem? (i := 473) (by decide +kernel), List.mem_of_getElem? (i := 663) (by decide +kernel), List.mem_of_getElem? (i := 664) (by decide +kernel)⟩
theorem lw_p68 : lw_okq (⟨"RootChunksModel", "rotates", "(III)V"⟩, 18) := ⟨⟨by decide +kernel, by decide +kernel⟩, List.mem_of_getElem? (i := 473) (by decide +kernel), List.mem_of_getElem? (i := 671) (by decide +kernel), List.mem_of_getElem? (i := 672) (by decide +kernel)⟩
theorem lw_p69 : lw_okq (⟨"RootChunksModel", "longest", "()I"⟩, 18) := ⟨⟨by decide +kernel, by decide +kernel⟩, List.mem_of_getElem? (i := 473) (by decide +kernel), List.mem_of_getElem? (i := 687) (by decide +kernel), List.mem_of_getElem? (i := 688) (by decide +kernel)⟩
theorem lw_p70 : lw_okq (⟨"RootChunksModel", "waiting", "(I)I"⟩, 18) := ⟨⟨by decide +kernel, by decide +kernel⟩, List.mem_of_getElem? (i := 473) (by decide +kernel), List.mem_of_getElem? (i := 691) (by decide +kernel), List.mem_of_getElem? (i := 692) (by decide +kernel)⟩
theorem lw_p71 : lw_okq (⟨"RootChunksModel", "lesser", "(III)I"⟩, 18) := ⟨⟨by decide +kernel, by decide +kernel⟩, List.mem_of_getElem? (i := 473) (by decide +kernel), List.mem_of_getElem? (i := 699) (by decide +kernel), List.mem_of_getElem? (i := 700) (by decide +kernel)⟩
theorem lw_p72 : lw_okq (⟨"RootChunksModel", "alike", "(III)I"⟩, 18) := ⟨⟨by decide +kernel, by decide +kernel⟩, List.mem_of_getElem? (i := 473) (by decide +kernel), List.mem_of_getElem? (i := 703) (by decide +kernel), List.mem_of_getElem? (i := 704) (by decide +kernel)⟩
theorem lw_p73 : lw_okq (⟨"RootChunksModel", "reads", "()I"⟩, 18) := ⟨⟨by decide +kernel, by decide +kernel⟩, List.mem_of_getElem? (i := 473) (by decide +kernel), List.mem_of_getElem? (i := 741) (by decide +kernel), List.mem_of_getElem? (i := 742) (by decide +kernel)⟩
theorem lw_p74 : lw_okq (⟨"RootChunksModel", "readsOrder", "()V"⟩, 18) := ⟨⟨by decide +kernel, by decide +kernel⟩, List.mem_of_getElem? (i := 473) (by decide +kernel), List.mem_of_getElem? (i := 745) (by decide +kernel), List.mem_of_getElem? (i := 746) (by decide +kernel)⟩
theorem lw_p75 : lw_okq (⟨"RootChunksModel", "sign", "()I"⟩, 18) := ⟨⟨by decide +kernel, by decide +kernel⟩, List.mem_of_getElem? (i := 473) (by decide +kernel), List.mem_of_getElem? (i := 749) (by decide +kernel), List.mem_of_getElem? (i := 750) (by decide +kernel)⟩
theorem lw_p76 : lw_okq (⟨"RootChunksModel", "wantsWord", "(I)V"⟩, 18) := ⟨⟨by decide +kernel, by decide +kernel⟩, List.mem_of_getElem? (i := 473) (by decide +kernel), List.mem_of_getElem? (i := 753) (by decide +kernel), List.mem_of_getElem? (i := 754) (by decide +kernel)⟩
theorem lw_p77 : lw_okq (⟨"RootChunksModel", "wantsTwo", "(II)V"⟩, 18) := ⟨⟨by decide +kernel, by decide +kernel⟩, List.mem_of_getElem? (i := 473) (by decide +kernel), List.mem_of_getElem? (i := 757) (by decide +kernel), List.mem_of_getElem? (i := 758) (by decide +kernel)⟩
theorem lw_p78 : lw_okq (⟨"RootChunksModel", "wants", "(I)V"⟩, 18) := ⟨⟨by decide +kernel, by decide +kernel⟩, List.mem_of_getElem? (i := 473) (by decide +kernel), List.mem_of_getElem? (i := 761) (by decide +kernel), List.mem_of_getElem? (i := 762) (by decide +kernel)⟩
theorem lw_p79 : lw_okq (⟨"RootChunksModel", "number", "()I"⟩, 18) := ⟨⟨by decide +kernel, by decide +kernel⟩, List.mem_of_getElem? (i := 473) (by decide +kernel), List.mem_of_getElem? (i := 765) (by decide +kernel), List.mem_of_getElem? (i := 766) (by decide +kernel)⟩
def lw_privs_5 : List (MethodName × Nat) := [(⟨"RootChunksModel", "refusesBy", "(III)I"⟩, 18), (⟨"RootChunksModel", "addsTo", "(III)V"⟩, 18), (⟨"RootChunksModel", "refusesMove", "(III)I"⟩, 18), (⟨"RootChunksModel", "shifts", "(III)V"⟩, 18), (⟨"RootChunksModel", "rotates", "(III)V"⟩, 18), (⟨"RootChunksModel", "longest", "()I"⟩, 18), (⟨"RootChunksModel", "waiting", "(I)I"⟩, 18), (⟨"RootChunksModel", "lesser", "(III)I"⟩, 18), (⟨"RootChunksModel", "alike", "(III)I"⟩, 18), (⟨"RootChunksModel", "reads", "()I"⟩, 18), (⟨"RootChunksModel", "readsOrder", "()V"⟩, 18), (⟨"RootChunksModel", "sign", "()I"⟩, 18), (⟨"RootChunksModel", "wantsWord", "(I)V"⟩, 18), (⟨"RootChunksModel", "wantsTwo", "(II)V"⟩, 18), (⟨"RootChunksModel", "wants", "(I)V"⟩, 18), (⟨"RootChunksModel", "number", "()I"⟩, 18)]
theorem lw_r5 : ∀ q ∈ lw_privs_5, lw_okq q := List.forall_mem_cons.mpr ⟨lw_p64, List.forall_mem_cons.mpr ⟨lw_p65, List.forall_mem_cons.mpr ⟨lw_p66, List.forall_mem_cons.mpr ⟨lw_p67, List.forall_mem_cons.mpr ⟨lw_p68, List.forall_mem_cons.mpr ⟨lw_p69, List.forall_mem_cons.mpr ⟨lw_p70, List.forall_mem_cons.mpr ⟨lw_p71, List.forall_mem_cons.mpr ⟨lw_p72, List.forall_mem_cons.mpr ⟨lw_p73, List.forall_mem_cons.mpr ⟨lw_p74, List.forall_mem_cons.mpr ⟨lw_p75, List.forall_mem_cons.mpr ⟨lw_p76, List.forall_mem_cons.mpr ⟨lw_p77, List.forall_mem_cons.mpr ⟨lw_p78, List.forall_mem_cons.mpr ⟨lw_p79, fun _ h => absurd h List.not_mem_nil⟩⟩⟩⟩⟩⟩⟩⟩⟩⟩⟩⟩⟩⟩⟩⟩
theorem lw_p80 : lw_okq (⟨"RootChunksModel", "value", "()I"⟩, 18) := ⟨⟨by decide +kernel, by decide +kernel⟩, List.mem_of_getElem? (i := 473) (by decide +kernel), List.mem_of_getElem? (i := 769) (by decide +kernel), List.mem_of_getElem? (i := 770) (by decide +kernel)⟩
theorem lw_p81 : lw_okq (⟨"RootChunksModel", "refuses", "(IIII)I"⟩, 18) := ⟨⟨by decide +kernel, by decide +kernel⟩, List.mem_of_getElem? (i := 473) (by decide +kernel), List.mem_of_getElem? (i := 777) (by decide +kernel), List.mem_of_getElem? (i := 778) (by decide +kernel)⟩
theorem lw_p82 : lw_okq (⟨"RootChunksModel", "does", "(IIII)V"⟩, 18) := ⟨⟨by decide +kernel, by decide +kernel⟩, List.mem_of_getElem? (i := 473) (by decide +kernel), List.mem_of_getElem? (i := 781) (by decide +kernel), List.mem_of_getElem? (i := 782) (by decide +kernel)⟩
def lw_privs_6 : List (MethodName × Nat) := [(⟨"RootChunksModel", "value", "()I"⟩, 18), (⟨"RootChunksModel", "refuses", "(IIII)I"⟩, 18), (⟨"RootChunksModel", "does", "(IIII)V"⟩, 18)]
theorem lw_r6 : ∀ q ∈ lw_privs_6, lw_okq q := List.forall_mem_cons.mpr ⟨lw_p80, List.forall_mem_cons.mpr ⟨lw_p81, List.forall_mem_cons.mpr ⟨lw_p82, fun _ h => absurd h List.not_mem_nil⟩⟩⟩
def lw_privs : List (MethodName × Nat) := lw_privs_1 ++ (lw_privs_2 ++ (lw_privs_3 ++ (lw_privs_4 ++ (lw_privs_5 ++ (lw_privs_6)))))
def lw_tbl : List Cond := k2_sels lw_privs ++ tables_1
theorem lw_privs_ok : ∀ q ∈ lw_privs, lw_okq q := by
  show ∀ q ∈ lw_privs_1 ++ (lw_privs_2 ++ (lw_privs_3 ++ (lw_privs_4 ++ (lw_privs_5 ++ (lw_privs_6))))), lw_okq q
  exact List.forall_mem_append.mpr ⟨lw_r1, List.forall_mem_append.mpr ⟨lw_r2, List.forall_mem_append.mpr ⟨lw_r3, List.forall_mem_append.mpr ⟨lw_r4, List.forall_mem_append.mpr ⟨lw_r5, lw_r6⟩⟩⟩⟩⟩
-- ===== end of PART A; then your names; then what follows =====
def RX0 : String := "RootChunks$Pad"
def TX0 : u_T := fun k => match k with
  | 0 => ("RootChunks$Pad", "characters", "[C", true)
  | 1 => ("RootChunks$Pad", "length", "I", false)
  | 2 => ("RootChunks$Pad", "position", "I", false)
  | 3 => ("RootChunks$Pad", "kind", "C", false)
  | _ => ("RootChunks$Pad", "given", "[I", true)
def tyX0 : Nat → FieldType := fun k => match k with
  | 0 => .array .char
  | 1 => .int
  | 2 => .int
  | 3 => .char
  | _ => .array .int
abbrev wsX00 : List Cond := u_ws RX0 TX0 5
theorem nmX0 : ∀ a, a < 5 → ∀ b, b < 5 → a ≠ b → (TX0 a).2.1 ≠ (TX0 b).2.1 := by decide +kernel
theorem tyX0_ok : ∀ k, k < 5 → parseFieldDescriptor (TX0 k).2.2.1 = some (tyX0 k) := by decide +kernel
abbrev cX0_init : ByteArray := prog_2_method_1_code
def yX0_init : MethodName := ⟨RX0, "<init>", "()V"⟩
abbrev cX0_append : ByteArray := prog_2_method_2_code
def yX0_append : MethodName := ⟨RX0, "append", "(C)V"⟩
abbrev cX0_firstFault : ByteArray := prog_2_method_3_code
def yX0_firstFault : MethodName := ⟨RX0, "firstFault", "()I"⟩
abbrev cX0_readOrder : ByteArray := prog_2_method_4_code
def yX0_readOrder : MethodName := ⟨RX0, "readOrder", "()Z"⟩
abbrev cX0_shapeOf : ByteArray := prog_2_method_5_code
def yX0_shapeOf : MethodName := ⟨RX0, "shapeOf", "(C)Ljava/lang/String;"⟩
abbrev cX0_readNumber : ByteArray := prog_2_method_6_code
def yX0_readNumber : MethodName := ⟨RX0, "readNumber", "(IZ)Z"⟩
abbrev cX0_skip : ByteArray := prog_2_method_7_code
def yX0_skip : MethodName := ⟨RX0, "skip", "(C)Z"⟩
abbrev cX0_next : ByteArray := prog_2_method_8_code
def yX0_next : MethodName := ⟨RX0, "next", "()C"⟩
def RX1 : String := "RootChunks$Row"
def TX1 : u_T := fun k => match k with
  | 0 => ("RootChunks$Row", "kept", "[I", true)
  | 1 => ("RootChunks$Row", "lengths", "[I", true)
  | 2 => ("RootChunks$Row", "turns", "[I", true)
  | 3 => ("RootChunks$Row", "sums", "[I", true)
  | 4 => ("RootChunks$Row", "length", "I", false)
  | 5 => ("RootChunks$Row", "chunks", "I", false)
  | _ => ("RootChunks$Row", "work", "I", false)
def tyX1 : Nat → FieldType := fun k => match k with
  | 0 => .array .int
  | 1 => .array .int
  | 2 => .array .int
  | 3 => .array .int
  | 4 => .int
  | 5 => .int
  | _ => .int
abbrev wsX10 : List Cond := u_ws RX1 TX1 7
theorem nmX1 : ∀ a, a < 7 → ∀ b, b < 7 → a ≠ b → (TX1 a).2.1 ≠ (TX1 b).2.1 := by decide +kernel
theorem tyX1_ok : ∀ k, k < 7 → parseFieldDescriptor (TX1 k).2.2.1 = some (tyX1 k) := by decide +kernel
abbrev cX1_init : ByteArray := prog_3_method_1_code
def yX1_init : MethodName := ⟨RX1, "<init>", "()V"⟩
abbrev cX1_copyFrom : ByteArray := prog_3_method_2_code
def yX1_copyFrom : MethodName := ⟨RX1, "copyFrom", "(LRootChunks$Row;)V"⟩
abbrev cX1_has : ByteArray := prog_3_method_3_code
def yX1_has : MethodName := ⟨RX1, "has", "(I)Z"⟩
abbrev cX1_startOf : ByteArray := prog_3_method_4_code
def yX1_startOf : MethodName := ⟨RX1, "startOf", "(I)I"⟩
abbrev cX1_chunkHolding : ByteArray := prog_3_method_5_code
def yX1_chunkHolding : MethodName := ⟨RX1, "chunkHolding", "(I)I"⟩
abbrev cX1_numberAt : ByteArray := prog_3_method_6_code
def yX1_numberAt : MethodName := ⟨RX1, "numberAt", "(I)I"⟩
abbrev cX1_layOut : ByteArray := prog_3_method_7_code
def yX1_layOut : MethodName := ⟨RX1, "layOut", "([I)V"⟩
abbrev cX1_rootOfLength : ByteArray := prog_3_method_8_code
def yX1_rootOfLength : MethodName := ⟨RX1, "rootOfLength", "()I"⟩
abbrev cX1_longestChunk : ByteArray := prog_3_method_9_code
def yX1_longestChunk : MethodName := ⟨RX1, "longestChunk", "()I"⟩
abbrev cX1_waitingTurns : ByteArray := prog_3_method_10_code
def yX1_waitingTurns : MethodName := ⟨RX1, "waitingTurns", "()I"⟩
abbrev cX1_waitingSums : ByteArray := prog_3_method_11_code
def yX1_waitingSums : MethodName := ⟨RX1, "waitingSums", "()I"⟩
abbrev cX1_insert : ByteArray := prog_3_method_12_code
def yX1_insert : MethodName := ⟨RX1, "insert", "(II)V"⟩
abbrev cX1_remove : ByteArray := prog_3_method_13_code
def yX1_remove : MethodName := ⟨RX1, "remove", "(I)V"⟩
abbrev cX1_replace : ByteArray := prog_3_method_14_code
def yX1_replace : MethodName := ⟨RX1, "replace", "(II)V"⟩
abbrev cX1_turnSpan : ByteArray := prog_3_method_15_code
def yX1_turnSpan : MethodName := ⟨RX1, "turnSpan", "(II)V"⟩
abbrev cX1_addToSpan : ByteArray := prog_3_method_16_code
def yX1_addToSpan : MethodName := ⟨RX1, "addToSpan", "(III)V"⟩
abbrev cX1_moveSpan : ByteArray := prog_3_method_17_code
def yX1_moveSpan : MethodName := ⟨RX1, "moveSpan", "(III)V"⟩
abbrev cX1_cutAt : ByteArray := prog_3_method_18_code
def yX1_cutAt : MethodName := ⟨RX1, "cutAt", "(I)I"⟩
abbrev cX1_part : ByteArray := prog_3_method_19_code
def yX1_part : MethodName := ⟨RX1, "part", "(II)V"⟩
abbrev cX1_settle : ByteArray := prog_3_method_20_code
def yX1_settle : MethodName := ⟨RX1, "settle", "(II)V"⟩
abbrev cX1_openChunk : ByteArray := prog_3_method_21_code
def yX1_openChunk : MethodName := ⟨RX1, "openChunk", "(II)V"⟩
abbrev cX1_closeChunk : ByteArray := prog_3_method_22_code
def yX1_closeChunk : MethodName := ⟨RX1, "closeChunk", "(I)V"⟩
abbrev cX1_reverseChunks : ByteArray := prog_3_method_23_code
def yX1_reverseChunks : MethodName := ⟨RX1, "reverseChunks", "(II)V"⟩
abbrev cX1_exchangeChunks : ByteArray := prog_3_method_24_code
def yX1_exchangeChunks : MethodName := ⟨RX1, "exchangeChunks", "(III)V"⟩
abbrev cX1_evenOut : ByteArray := prog_3_method_25_code
def yX1_evenOut : MethodName := ⟨RX1, "evenOut", "()V"⟩
abbrev cX1_partLongChunks : ByteArray := prog_3_method_26_code
def yX1_partLongChunks : MethodName := ⟨RX1, "partLongChunks", "(I)V"⟩
abbrev cX1_joinShortChunks : ByteArray := prog_3_method_27_code
def yX1_joinShortChunks : MethodName := ⟨RX1, "joinShortChunks", "(I)V"⟩
abbrev cX1_mirror : ByteArray := prog_3_method_28_code
def yX1_mirror : MethodName := ⟨RX1, "mirror", "([III)V"⟩
def RX2 : String := "RootChunks"
def TX2 : u_T := fun k => match k with
  | 0 => ("RootChunks", "row", "LRootChunks$Row;", true)
  | 1 => ("RootChunks", "trial", "LRootChunks$Row;", true)
  | 2 => ("RootChunks", "history", "[LRootChunks$Row;", true)
  | 3 => ("RootChunks", "undoable", "I", false)
  | 4 => ("RootChunks", "slots", "[LRootChunks$Row;", true)
  | 5 => ("RootChunks", "slotUsed", "[Z", true)
  | 6 => ("RootChunks", "pad", "LRootChunks$Pad;", true)
  | _ => ("RootChunks", "standing", "[I", true)
def tyX2 : Nat → FieldType := fun k => match k with
  | 0 => .object "RootChunks$Row"
  | 1 => .object "RootChunks$Row"
  | 2 => .array (.object "RootChunks$Row")
  | 3 => .int
  | 4 => .array (.object "RootChunks$Row")
  | 5 => .array .boolean
  | 6 => .object "RootChunks$Pad"
  | _ => .array .int
abbrev wsX20 : List Cond := u_ws RX2 TX2 8
theorem nmX2 : ∀ a, a < 8 → ∀ b, b < 8 → a ≠ b → (TX2 a).2.1 ≠ (TX2 b).2.1 := by decide +kernel
theorem tyX2_ok : ∀ k, k < 8 → parseFieldDescriptor (TX2 k).2.2.1 = some (tyX2 k) := by decide +kernel
abbrev cX2_init : ByteArray := prog_1_method_1_code
def yX2_init : MethodName := ⟨RX2, "<init>", "()V"⟩
abbrev cX2_putIn : ByteArray := prog_1_method_2_code
def yX2_putIn : MethodName := ⟨RX2, "putIn", "(II)I"⟩
abbrev cX2_takeOut : ByteArray := prog_1_method_3_code
def yX2_takeOut : MethodName := ⟨RX2, "takeOut", "(I)I"⟩
abbrev cX2_set : ByteArray := prog_1_method_4_code
def yX2_set : MethodName := ⟨RX2, "set", "(II)I"⟩
abbrev cX2_turn : ByteArray := prog_1_method_5_code
def yX2_turn : MethodName := ⟨RX2, "turn", "(II)I"⟩
abbrev cX2_add : ByteArray := prog_1_method_6_code
def yX2_add : MethodName := ⟨RX2, "add", "(III)I"⟩
abbrev cX2_move : ByteArray := prog_1_method_7_code
def yX2_move : MethodName := ⟨RX2, "move", "(III)I"⟩
abbrev cX2_rotate : ByteArray := prog_1_method_8_code
def yX2_rotate : MethodName := ⟨RX2, "rotate", "(III)I"⟩
abbrev cX2_at : ByteArray := prog_1_method_9_code
def yX2_at : MethodName := ⟨RX2, "at", "(I)I"⟩
abbrev cX2_chunk : ByteArray := prog_1_method_10_code
def yX2_chunk : MethodName := ⟨RX2, "chunk", "(II)I"⟩
abbrev cX2_count : ByteArray := prog_1_method_11_code
def yX2_count : MethodName := ⟨RX2, "count", "(I)I"⟩
abbrev cX2_kth : ByteArray := prog_1_method_12_code
def yX2_kth : MethodName := ⟨RX2, "kth", "(III)I"⟩
abbrev cX2_below : ByteArray := prog_1_method_13_code
def yX2_below : MethodName := ⟨RX2, "below", "(III)I"⟩
abbrev cX2_sum : ByteArray := prog_1_method_14_code
def yX2_sum : MethodName := ⟨RX2, "sum", "(II)I"⟩
abbrev cX2_unlike : ByteArray := prog_1_method_15_code
def yX2_unlike : MethodName := ⟨RX2, "unlike", "(II)I"⟩
abbrev cX2_find : ByteArray := prog_1_method_16_code
def yX2_find : MethodName := ⟨RX2, "find", "(II)I"⟩
abbrev cX2_costOfTurn : ByteArray := prog_1_method_17_code
def yX2_costOfTurn : MethodName := ⟨RX2, "costOfTurn", "(II)I"⟩
abbrev cX2_put : ByteArray := prog_1_method_18_code
def yX2_put : MethodName := ⟨RX2, "put", "(J)I"⟩
abbrev cX2_wipe : ByteArray := prog_1_method_19_code
def yX2_wipe : MethodName := ⟨RX2, "wipe", "()I"⟩
abbrev cX2_fault : ByteArray := prog_1_method_20_code
def yX2_fault : MethodName := ⟨RX2, "fault", "()I"⟩
abbrev cX2_carryOut : ByteArray := prog_1_method_21_code
def yX2_carryOut : MethodName := ⟨RX2, "carryOut", "()I"⟩
abbrev cX2_undo : ByteArray := prog_1_method_22_code
def yX2_undo : MethodName := ⟨RX2, "undo", "()I"⟩
abbrev cX2_save : ByteArray := prog_1_method_23_code
def yX2_save : MethodName := ⟨RX2, "save", "(I)I"⟩
abbrev cX2_restore : ByteArray := prog_1_method_24_code
def yX2_restore : MethodName := ⟨RX2, "restore", "(I)I"⟩
abbrev cX2_change : ByteArray := prog_1_method_25_code
def yX2_change : MethodName := ⟨RX2, "change", "(CIII)I"⟩
abbrev cX2_errorOf : ByteArray := prog_1_method_26_code
def yX2_errorOf : MethodName := ⟨RX2, "errorOf", "(CIII)I"⟩
abbrev cX2_apply : ByteArray := prog_1_method_27_code
def yX2_apply : MethodName := ⟨RX2, "apply", "(CIII)I"⟩
abbrev cX2_rolledOff : ByteArray := prog_1_method_28_code
def yX2_rolledOff : MethodName := ⟨RX2, "rolledOff", "(III)I"⟩
abbrev cX2_spanError : ByteArray := prog_1_method_29_code
def yX2_spanError : MethodName := ⟨RX2, "spanError", "(II)I"⟩
abbrev cX2_putError : ByteArray := prog_1_method_30_code
def yX2_putError : MethodName := ⟨RX2, "putError", "(II)I"⟩
abbrev cX2_addError : ByteArray := prog_1_method_31_code
def yX2_addError : MethodName := ⟨RX2, "addError", "(III)I"⟩
abbrev cX2_moveError : ByteArray := prog_1_method_32_code
def yX2_moveError : MethodName := ⟨RX2, "moveError", "(III)I"⟩
abbrev cX2_rollError : ByteArray := prog_1_method_33_code
def yX2_rollError : MethodName := ⟨RX2, "rollError", "(III)I"⟩
abbrev cX2_outside : ByteArray := prog_1_method_34_code
def yX2_outside : MethodName := ⟨RX2, "outside", "(II)Z"⟩
abbrev cX2_remember : ByteArray := prog_1_method_35_code
def yX2_remember : MethodName := ⟨RX2, "remember", "()V"⟩
abbrev cX2_countBelow : ByteArray := prog_1_method_36_code
def yX2_countBelow : MethodName := ⟨RX2, "countBelow", "(III)I"⟩
abbrev cX2_firstPlaceOf : ByteArray := prog_1_method_37_code
def yX2_firstPlaceOf : MethodName := ⟨RX2, "firstPlaceOf", "(III)I"⟩
abbrev cX2_countCharacters : ByteArray := prog_1_method_38_code
def yX2_countCharacters : MethodName := ⟨RX2, "countCharacters", "(J)I"⟩
abbrev cX2_codeOf : ByteArray := prog_1_method_39_code
def yX2_codeOf : MethodName := ⟨RX2, "codeOf", "(JI)I"⟩
abbrev cX2_makeRows : ByteArray := prog_1_method_40_code
def yX2_makeRows : MethodName := ⟨RX2, "makeRows", "(I)[LRootChunks$Row;"⟩
def RX3 : String := "RootChunksModel"
def TX3 : u_T := fun k => match k with
  | 0 => ("RootChunksModel", "thrown", "I", false)
  | 1 => ("RootChunksModel", "s", "[I", true)
  | 2 => ("RootChunksModel", "aside", "[I", true)
  | 3 => ("RootChunksModel", "undos", "[I", true)
  | 4 => ("RootChunksModel", "undoMany", "I", false)
  | 5 => ("RootChunksModel", "slots", "[I", true)
  | 6 => ("RootChunksModel", "hasSlot", "[Z", true)
  | 7 => ("RootChunksModel", "pad", "[I", true)
  | 8 => ("RootChunksModel", "length", "I", false)
  | 9 => ("RootChunksModel", "order", "[I", true)
  | 10 => ("RootChunksModel", "newKept", "[I", true)
  | 11 => ("RootChunksModel", "newLong", "[I", true)
  | 12 => ("RootChunksModel", "newTurned", "[I", true)
  | 13 => ("RootChunksModel", "newSum", "[I", true)
  | 14 => ("RootChunksModel", "at", "I", false)
  | 15 => ("RootChunksModel", "isWell", "Z", false)
  | 16 => ("RootChunksModel", "orders", "[I", true)
  | _ => ("RootChunksModel", "orderMany", "I", false)
def tyX3 : Nat → FieldType := fun k => match k with
  | 0 => .int
  | 1 => .array .int
  | 2 => .array .int
  | 3 => .array .int
  | 4 => .int
  | 5 => .array .int
  | 6 => .array .boolean
  | 7 => .array .int
  | 8 => .int
  | 9 => .array .int
  | 10 => .array .int
  | 11 => .array .int
  | 12 => .array .int
  | 13 => .array .int
  | 14 => .int
  | 15 => .boolean
  | 16 => .array .int
  | _ => .int
abbrev wsX30 : List Cond := u_ws RX3 TX3 18
theorem nmX3 : ∀ a, a < 18 → ∀ b, b < 18 → a ≠ b → (TX3 a).2.1 ≠ (TX3 b).2.1 := by decide +kernel
theorem tyX3_ok : ∀ k, k < 18 → parseFieldDescriptor (TX3 k).2.2.1 = some (tyX3 k) := by decide +kernel
abbrev cX3_init : ByteArray := prog_5_method_1_code
def yX3_init : MethodName := ⟨RX3, "<init>", "()V"⟩
abbrev cX3_in : ByteArray := prog_5_method_3_code
def yX3_in : MethodName := ⟨RX3, "in", "(III)Z"⟩
abbrev cX3_records : ByteArray := prog_5_method_4_code
def yX3_records : MethodName := ⟨RX3, "records", "()V"⟩
abbrev cX3_startOf : ByteArray := prog_5_method_5_code
def yX3_startOf : MethodName := ⟨RX3, "startOf", "(I)I"⟩
abbrev cX3_chunkAt : ByteArray := prog_5_method_6_code
def yX3_chunkAt : MethodName := ⟨RX3, "chunkAt", "(I)I"⟩
abbrev cX3_valueAt : ByteArray := prog_5_method_7_code
def yX3_valueAt : MethodName := ⟨RX3, "valueAt", "(I)I"⟩
abbrev cX3_carries : ByteArray := prog_5_method_8_code
def yX3_carries : MethodName := ⟨RX3, "carries", "(I)V"⟩
abbrev cX3_parts : ByteArray := prog_5_method_9_code
def yX3_parts : MethodName := ⟨RX3, "parts", "(II)V"⟩
abbrev cX3_closes : ByteArray := prog_5_method_10_code
def yX3_closes : MethodName := ⟨RX3, "closes", "(I)V"⟩
abbrev cX3_cuts : ByteArray := prog_5_method_11_code
def yX3_cuts : MethodName := ⟨RX3, "cuts", "(I)V"⟩
abbrev cX3_chunkFrom : ByteArray := prog_5_method_12_code
def yX3_chunkFrom : MethodName := ⟨RX3, "chunkFrom", "(I)I"⟩
abbrev cX3_reorders : ByteArray := prog_5_method_13_code
def yX3_reorders : MethodName := ⟨RX3, "reorders", "()V"⟩
abbrev cX3_root : ByteArray := prog_5_method_14_code
def yX3_root : MethodName := ⟨RX3, "root", "()I"⟩
abbrev cX3_evens : ByteArray := prog_5_method_15_code
def yX3_evens : MethodName := ⟨RX3, "evens", "()V"⟩
abbrev cX3_puts : ByteArray := prog_5_method_16_code
def yX3_puts : MethodName := ⟨RX3, "puts", "(II)V"⟩
abbrev cX3_takes : ByteArray := prog_5_method_17_code
def yX3_takes : MethodName := ⟨RX3, "takes", "(I)V"⟩
abbrev cX3_sets : ByteArray := prog_5_method_18_code
def yX3_sets : MethodName := ⟨RX3, "sets", "(II)V"⟩
abbrev cX3_turns : ByteArray := prog_5_method_19_code
def yX3_turns : MethodName := ⟨RX3, "turns", "(II)V"⟩
abbrev cX3_addsTo : ByteArray := prog_5_method_20_code
def yX3_addsTo : MethodName := ⟨RX3, "addsTo", "(III)V"⟩
abbrev cX3_shifts : ByteArray := prog_5_method_21_code
def yX3_shifts : MethodName := ⟨RX3, "shifts", "(III)V"⟩
abbrev cX3_isPlace : ByteArray := prog_5_method_22_code
def yX3_isPlace : MethodName := ⟨RX3, "isPlace", "(I)Z"⟩
abbrev cX3_isValue : ByteArray := prog_5_method_23_code
def yX3_isValue : MethodName := ⟨RX3, "isValue", "(I)Z"⟩
abbrev cX3_refusesSpan : ByteArray := prog_5_method_24_code
def yX3_refusesSpan : MethodName := ⟨RX3, "refusesSpan", "(II)I"⟩
abbrev cX3_refusesPut : ByteArray := prog_5_method_25_code
def yX3_refusesPut : MethodName := ⟨RX3, "refusesPut", "(II)I"⟩
abbrev cX3_refusesSet : ByteArray := prog_5_method_26_code
def yX3_refusesSet : MethodName := ⟨RX3, "refusesSet", "(II)I"⟩
abbrev cX3_refusesBy : ByteArray := prog_5_method_27_code
def yX3_refusesBy : MethodName := ⟨RX3, "refusesBy", "(III)I"⟩
abbrev cX3_refusesAdd : ByteArray := prog_5_method_28_code
def yX3_refusesAdd : MethodName := ⟨RX3, "refusesAdd", "(III)I"⟩
abbrev cX3_refusesMove : ByteArray := prog_5_method_29_code
def yX3_refusesMove : MethodName := ⟨RX3, "refusesMove", "(III)I"⟩
abbrev cX3_rotates : ByteArray := prog_5_method_30_code
def yX3_rotates : MethodName := ⟨RX3, "rotates", "(III)V"⟩
abbrev cX3_putIn : ByteArray := prog_5_method_31_code
def yX3_putIn : MethodName := ⟨RX3, "putIn", "(II)I"⟩
abbrev cX3_takeOut : ByteArray := prog_5_method_32_code
def yX3_takeOut : MethodName := ⟨RX3, "takeOut", "(I)I"⟩
abbrev cX3_set : ByteArray := prog_5_method_33_code
def yX3_set : MethodName := ⟨RX3, "set", "(II)I"⟩
abbrev cX3_turn : ByteArray := prog_5_method_34_code
def yX3_turn : MethodName := ⟨RX3, "turn", "(II)I"⟩
abbrev cX3_add : ByteArray := prog_5_method_35_code
def yX3_add : MethodName := ⟨RX3, "add", "(III)I"⟩
abbrev cX3_move : ByteArray := prog_5_method_36_code
def yX3_move : MethodName := ⟨RX3, "move", "(III)I"⟩
abbrev cX3_rotate : ByteArray := prog_5_method_37_code
def yX3_rotate : MethodName := ⟨RX3, "rotate", "(III)I"⟩
abbrev cX3_at : ByteArray := prog_5_method_38_code
def yX3_at : MethodName := ⟨RX3, "at", "(I)I"⟩
abbrev cX3_chunk : ByteArray := prog_5_method_39_code
def yX3_chunk : MethodName := ⟨RX3, "chunk", "(II)I"⟩
abbrev cX3_longest : ByteArray := prog_5_method_40_code
def yX3_longest : MethodName := ⟨RX3, "longest", "()I"⟩
abbrev cX3_waiting : ByteArray := prog_5_method_41_code
def yX3_waiting : MethodName := ⟨RX3, "waiting", "(I)I"⟩
abbrev cX3_count : ByteArray := prog_5_method_42_code
def yX3_count : MethodName := ⟨RX3, "count", "(I)I"⟩
abbrev cX3_lesser : ByteArray := prog_5_method_43_code
def yX3_lesser : MethodName := ⟨RX3, "lesser", "(III)I"⟩
abbrev cX3_alike : ByteArray := prog_5_method_44_code
def yX3_alike : MethodName := ⟨RX3, "alike", "(III)I"⟩
abbrev cX3_kth : ByteArray := prog_5_method_45_code
def yX3_kth : MethodName := ⟨RX3, "kth", "(III)I"⟩
abbrev cX3_below : ByteArray := prog_5_method_46_code
def yX3_below : MethodName := ⟨RX3, "below", "(III)I"⟩
abbrev cX3_sum : ByteArray := prog_5_method_47_code
def yX3_sum : MethodName := ⟨RX3, "sum", "(II)I"⟩
abbrev cX3_unlike : ByteArray := prog_5_method_48_code
def yX3_unlike : MethodName := ⟨RX3, "unlike", "(II)I"⟩
abbrev cX3_find : ByteArray := prog_5_method_49_code
def yX3_find : MethodName := ⟨RX3, "find", "(II)I"⟩
abbrev cX3_costOfTurn : ByteArray := prog_5_method_50_code
def yX3_costOfTurn : MethodName := ⟨RX3, "costOfTurn", "(II)I"⟩
abbrev cX3_put : ByteArray := prog_5_method_51_code
def yX3_put : MethodName := ⟨RX3, "put", "(J)I"⟩
abbrev cX3_wipe : ByteArray := prog_5_method_52_code
def yX3_wipe : MethodName := ⟨RX3, "wipe", "()I"⟩
abbrev cX3_sign : ByteArray := prog_5_method_53_code
def yX3_sign : MethodName := ⟨RX3, "sign", "()I"⟩
abbrev cX3_wants : ByteArray := prog_5_method_54_code
def yX3_wants : MethodName := ⟨RX3, "wants", "(I)V"⟩
abbrev cX3_wantsTwo : ByteArray := prog_5_method_55_code
def yX3_wantsTwo : MethodName := ⟨RX3, "wantsTwo", "(II)V"⟩
abbrev cX3_number : ByteArray := prog_5_method_56_code
def yX3_number : MethodName := ⟨RX3, "number", "()I"⟩
abbrev cX3_value : ByteArray := prog_5_method_57_code
def yX3_value : MethodName := ⟨RX3, "value", "()I"⟩
abbrev cX3_wantsWord : ByteArray := prog_5_method_58_code
def yX3_wantsWord : MethodName := ⟨RX3, "wantsWord", "(I)V"⟩
abbrev cX3_readsOrder : ByteArray := prog_5_method_59_code
def yX3_readsOrder : MethodName := ⟨RX3, "readsOrder", "()V"⟩
abbrev cX3_reads : ByteArray := prog_5_method_60_code
def yX3_reads : MethodName := ⟨RX3, "reads", "()I"⟩
abbrev cX3_fault : ByteArray := prog_5_method_61_code
def yX3_fault : MethodName := ⟨RX3, "fault", "()I"⟩
abbrev cX3_refuses : ByteArray := prog_5_method_62_code
def yX3_refuses : MethodName := ⟨RX3, "refuses", "(IIII)I"⟩
abbrev cX3_does : ByteArray := prog_5_method_63_code
def yX3_does : MethodName := ⟨RX3, "does", "(IIII)V"⟩
abbrev cX3_carryOut : ByteArray := prog_5_method_64_code
def yX3_carryOut : MethodName := ⟨RX3, "carryOut", "()I"⟩
abbrev cX3_undo : ByteArray := prog_5_method_65_code
def yX3_undo : MethodName := ⟨RX3, "undo", "()I"⟩
abbrev cX3_save : ByteArray := prog_5_method_66_code
def yX3_save : MethodName := ⟨RX3, "save", "(I)I"⟩
abbrev cX3_restore : ByteArray := prog_5_method_67_code
def yX3_restore : MethodName := ⟨RX3, "restore", "(I)I"⟩
def RJ9 : String := "java/lang/Math"
def TJ9 : u_T := fun k => match k with
  | _ => ("", "", "", false)
def tyJ9 : Nat → FieldType := fun k => match k with
  | _ => .int
abbrev wsJ90 : List Cond := u_ws RJ9 TJ9 0
theorem nmJ9 : ∀ a, a < 0 → ∀ b, b < 0 → a ≠ b → (TJ9 a).2.1 ≠ (TJ9 b).2.1 := by decide +kernel
theorem tyJ9_ok : ∀ k, k < 0 → parseFieldDescriptor (TJ9 k).2.2.1 = some (tyJ9 k) := by decide +kernel
abbrev cJ9_floorMod_7cf53 : ByteArray := prog_6_method_50_code
def yJ9_floorMod_7cf53 : MethodName := ⟨RJ9, "floorMod", "(II)I"⟩
abbrev cJ9_max_7cf53 : ByteArray := prog_6_method_65_code
def yJ9_max_7cf53 : MethodName := ⟨RJ9, "max", "(II)I"⟩
def RJ0 : String := "java/lang/String"
def TJ0 : u_T := fun k => match k with
  | _ => ("", "", "", false)
def tyJ0 : Nat → FieldType := fun k => match k with
  | _ => .int
abbrev wsJ00 : List Cond := u_ws RJ0 TJ0 0
theorem nmJ0 : ∀ a, a < 0 → ∀ b, b < 0 → a ≠ b → (TJ0 a).2.1 ≠ (TJ0 b).2.1 := by decide +kernel
theorem tyJ0_ok : ∀ k, k < 0 → parseFieldDescriptor (TJ0 k).2.2.1 = some (tyJ0 k) := by decide +kernel
abbrev cJ0_length_8abf5 : ByteArray := prog_7_method_54_code
def yJ0_length_8abf5 : MethodName := ⟨RJ0, "length", "()I"⟩
abbrev cJ0_isEmpty_aae02 : ByteArray := prog_7_method_55_code
def yJ0_isEmpty_aae02 : MethodName := ⟨RJ0, "isEmpty", "()Z"⟩
abbrev cJ0_charAt_5068e : ByteArray := prog_7_method_56_code
def yJ0_charAt_5068e : MethodName := ⟨RJ0, "charAt", "(I)C"⟩
abbrev cJ0_coder_7d493 : ByteArray := prog_7_method_152_code
def yJ0_coder_7d493 : MethodName := ⟨RJ0, "coder", "()B"⟩
abbrev cJ0_isLatin1_aae02 : ByteArray := prog_7_method_154_code
def yJ0_isLatin1_aae02 : MethodName := ⟨RJ0, "isLatin1", "()Z"⟩
abbrev cJ0_checkIndex_df160 : ByteArray := prog_7_method_155_code
def yJ0_checkIndex_df160 : MethodName := ⟨RJ0, "checkIndex", "(II)V"⟩
def RJ1 : String := "java/lang/StringLatin1"
def TJ1 : u_T := fun k => match k with
  | _ => ("", "", "", false)
def tyJ1 : Nat → FieldType := fun k => match k with
  | _ => .int
abbrev wsJ10 : List Cond := u_ws RJ1 TJ1 0
theorem nmJ1 : ∀ a, a < 0 → ∀ b, b < 0 → a ≠ b → (TJ1 a).2.1 ≠ (TJ1 b).2.1 := by decide +kernel
theorem tyJ1_ok : ∀ k, k < 0 → parseFieldDescriptor (TJ1 k).2.2.1 = some (tyJ1 k) := by decide +kernel
abbrev cJ1_charAt_3b067 : ByteArray := prog_8_method_2_code
def yJ1_charAt_3b067 : MethodName := ⟨RJ1, "charAt", "([BI)C"⟩
def RJ2 : String := "java/lang/StringUTF16"
def TJ2 : u_T := fun k => match k with
  | _ => ("", "", "", false)
def tyJ2 : Nat → FieldType := fun k => match k with
  | _ => .int
abbrev wsJ20 : List Cond := u_ws RJ2 TJ2 0
theorem nmJ2 : ∀ a, a < 0 → ∀ b, b < 0 → a ≠ b → (TJ2 a).2.1 ≠ (TJ2 b).2.1 := by decide +kernel
theorem tyJ2_ok : ∀ k, k < 0 → parseFieldDescriptor (TJ2 k).2.2.1 = some (tyJ2 k) := by decide +kernel
abbrev cJ2_getChar_3b067 : ByteArray := prog_9_method_5_code
def yJ2_getChar_3b067 : MethodName := ⟨RJ2, "getChar", "([BI)C"⟩
abbrev cJ2_length_9d52b : ByteArray := prog_9_method_6_code
def yJ2_length_9d52b : MethodName := ⟨RJ2, "length", "([B)I"⟩
abbrev cJ2_charAt_3b067 : ByteArray := prog_9_method_83_code
def yJ2_charAt_3b067 : MethodName := ⟨RJ2, "charAt", "([BI)C"⟩
abbrev cJ2_checkIndex_2214a : ByteArray := prog_9_method_91_code
def yJ2_checkIndex_2214a : MethodName := ⟨RJ2, "checkIndex", "(I[B)V"⟩
def RJ10 : String := "java/lang/System"
def TJ10 : u_T := fun k => match k with
  | _ => ("", "", "", false)
def tyJ10 : Nat → FieldType := fun k => match k with
  | _ => .int
abbrev wsJ100 : List Cond := u_ws RJ10 TJ10 0
theorem nmJ10 : ∀ a, a < 0 → ∀ b, b < 0 → a ≠ b → (TJ10 a).2.1 ≠ (TJ10 b).2.1 := by decide +kernel
theorem tyJ10_ok : ∀ k, k < 0 → parseFieldDescriptor (TJ10 k).2.2.1 = some (tyJ10 k) := by decide +kernel
def RJ3 : String := "jdk/internal/util/Preconditions"
def TJ3 : u_T := fun k => match k with
  | _ => ("", "", "", false)
def tyJ3 : Nat → FieldType := fun k => match k with
  | _ => .int
abbrev wsJ30 : List Cond := u_ws RJ3 TJ3 0
theorem nmJ3 : ∀ a, a < 0 → ∀ b, b < 0 → a ≠ b → (TJ3 a).2.1 ≠ (TJ3 b).2.1 := by decide +kernel
theorem tyJ3_ok : ∀ k, k < 0 → parseFieldDescriptor (TJ3 k).2.2.1 = some (tyJ3 k) := by decide +kernel
abbrev cJ3_checkIndex_8e157 : ByteArray := prog_11_method_11_code
def yJ3_checkIndex_8e157 : MethodName := ⟨RJ3, "checkIndex", "(IILjava/util/function/BiFunction;)I"⟩
def RL : String := "RootChunksLaw"
abbrev cL_law : ByteArray := code
def yL_law : MethodName := ⟨RL, "law", "([I)Z"⟩
abbrev vwCl : List vw_C := [(RX0, TX0, 5), (RX1, TX1, 7), (RX2, TX2, 8), (RX3, TX3, 18)]
theorem inX0 : ∀ w ∈ wsX00, w ∈ lw_tbl := by decide +kernel
theorem inX1 : ∀ w ∈ wsX10, w ∈ lw_tbl := by decide +kernel
theorem inX2 : ∀ w ∈ wsX20, w ∈ lw_tbl := by decide +kernel
theorem inX3 : ∀ w ∈ wsX30, w ∈ lw_tbl := by decide +kernel
end
section
/-! THE ABSTRACT MACHINE: values are whole numbers (an int is one of them, cut to 32 bits), references are the places of a list of cells. -/
abbrev ab_V : Type := Int ⊕ (Option Nat ⊕ Int64)
abbrev ab_C : Type := (Nat × List ab_V) ⊕ ((Nat × Nat × (Int → Int)) ⊕ List (Option Nat))
abbrev ab_L : Type := List (Option ab_V)
abbrev ab_Q : Type := Option ab_V → List ab_C → Prop
abbrev ab_Sp : Type := List ab_V → List ab_C → ab_Q → Prop
/-- a row of code: where it stands, the instruction, where the next one stands, where it may go -/
abbrev ab_I : Type := Nat × Instr × Nat × List (Int × Nat)
/-- a call: how many arguments it takes (the receiver too), the receiver's class (99: static), which cells it is given (none: all), how many of them are its world, what it does -/
abbrev ab_CI : Type := Nat × Nat × List Nat × Nat × ab_Sp
/-- what a class's pool tells: fields (index; class, slot, nest mate, type), numbers, long numbers -/
abbrev ab_T : Type := List (Nat × Nat × Nat × Bool × Nat) × List (Nat × Int) × List (Nat × Int64)
/-- a method's: pool, calls by where they stand, known calls (1: Math.max, 2: arraycopy), return type -/
abbrev ab_E : Type := ab_T × List (Nat × ab_CI) × List (Nat × Nat) × Nat
def ab_look {α : Type} : List (Nat × α) → Nat → Option α
  | [], _ => none
  | a :: l, k => match Nat.beq a.1 k with
    | true => some a.2
    | false => ab_look l k
def ab_r (a : Int) : Prop := -2147483648 ≤ a ∧ a < 2147483648
def ab_K : Type := Nat → ab_L → List ab_V → List ab_C → Prop
def ab_i1 (st : List ab_V) (f : Int → List ab_V → Prop) : Prop := match st with
  | .inl a :: r => f a r
  | _ => False
def ab_i2 (st : List ab_V) (f : Int → Int → List ab_V → Prop) : Prop := match st with
  | .inl b :: .inl a :: r => f a b r
  | _ => False
def ab_l1 (st : List ab_V) (f : Int64 → List ab_V → Prop) : Prop := match st with
  | .inr (.inr a) :: r => f a r
  | _ => False
def ab_l2 (st : List ab_V) (f : Int64 → Int64 → List ab_V → Prop) : Prop := match st with
  | .inr (.inr b) :: .inr (.inr a) :: r => f a b r
  | _ => False
def ab_li (st : List ab_V) (f : Int64 → Int → List ab_V → Prop) : Prop := match st with
  | .inl b :: .inr (.inr a) :: r => f a b r
  | _ => False
def ab_p1 (st : List ab_V) (f : Nat → List ab_V → Prop) : Prop := match st with
  | .inr (.inl (some k)) :: r => f k r
  | _ => False
def ab_pi (st : List ab_V) (f : Nat → Int → List ab_V → Prop) : Prop := match st with
  | .inl i :: .inr (.inl (some k)) :: r => f k i r
  | _ => False
def ab_pii (st : List ab_V) (f : Nat → Int → Int → List ab_V → Prop) : Prop := match st with
  | .inl x :: .inl i :: .inr (.inl (some k)) :: r => f k i x r
  | _ => False
def ab_c1 : ab_V → Bool
  | .inr (.inr _) => false
  | _ => true
def ab_cat : List ab_V → Nat
  | [] => 0
  | v :: r => (match ab_c1 v with | true => 1 | false => 2) + ab_cat r
def ab_ldI (lv : ab_L) (i : Nat) (f : Int → Prop) : Prop := match lv[i]? with
  | some (some (.inl a)) => f a
  | _ => False
def ab_ldP (lv : ab_L) (i : Nat) (f : Option Nat → Prop) : Prop := match lv[i]? with
  | some (some (.inr (.inl a))) => f a
  | _ => False
def ab_ldL (lv : ab_L) (i : Nat) (f : Int64 → Prop) : Prop := match lv[i]? with
  | some (some (.inr (.inr a))) => f a
  | _ => False
/-- no long number ends at a place -/
def ab_nl (lv : ab_L) : Nat → Bool
  | 0 => true
  | j + 1 => match lv[j]? with
    | some (some v) => ab_c1 v
    | _ => true
def ab_st1 (lv : ab_L) (i : Nat) (v : ab_V) (f : ab_L → Prop) : Prop := match ab_nl lv i, Nat.blt i lv.length with
  | true, true => f (lv.set i (some v))
  | _, _ => False
def ab_st2 (lv : ab_L) (i : Nat) (v : ab_V) (f : ab_L → Prop) : Prop := match ab_nl lv i, Nat.blt (i + 1) lv.length with
  | true, true => f ((lv.set i (some v)).set (i + 1) none)
  | _, _ => False
def ab_br (c : ClassFile.Cond) (a b : Int) (T F : Prop) : Prop := match c with
  | .eq => (a = b → T) ∧ (¬ a = b → F)
  | .ne => (¬ a = b → T) ∧ (a = b → F)
  | .lt => (a < b → T) ∧ (b ≤ a → F)
  | .ge => (b ≤ a → T) ∧ (a < b → F)
  | .gt => (b < a → T) ∧ (a ≤ b → F)
  | .le => (a ≤ b → T) ∧ (b < a → F)
def ab_sw (a : Int) (d : Nat) (f : Nat → Prop) : List (Int × Nat) → Prop
  | [] => f d
  | (v, t) :: r => (a = v → f t) ∧ (¬ a = v → ab_sw a d f r)
def ab_tg (tg : List (Int × Nat)) : Nat := match tg with
  | [] => 0
  | x :: _ => x.2
def ab_fit (ty : Nat) (v : ab_V) (f : Prop) : Prop := match ty, v with
  | 0, .inl _ => f
  | 1, .inl a => (0 ≤ a ∧ a < 65536) ∧ f
  | 2, .inl a => (a = 0 ∨ a = 1) ∧ f
  | _, _ => False
def ab_getf (T : ab_T) (ix k : Nat) (cs : List ab_C) (f : ab_V → Prop) : Prop := match ab_look T.1 ix, cs[k]? with
  | some (ci, fi, _, _), some (.inl (cj, fs)) => match Nat.beq ci cj, fs[fi]? with
    | true, some v => f v
    | _, _ => False
  | _, _ => False
def ab_putf (T : ab_T) (ix k : Nat) (v : ab_V) (cs : List ab_C) (f : List ab_C → Prop) : Prop := match ab_look T.1 ix, cs[k]? with
  | some (ci, fi, _, ty), some (.inl (cj, fs)) => match Nat.beq ci cj, Nat.blt fi fs.length with
    | true, true => ab_fit ty v (f (cs.set k (.inl (cj, fs.set fi v))))
    | _, _ => False
  | _, _ => False
def ab_arr (t k : Nat) (cs : List ab_C) (f : Nat → (Int → Int) → Prop) : Prop := match cs[k]? with
  | some (.inr (.inl (t', n, g))) => match Nat.beq t t', Nat.blt n 1000000 with
    | true, true => f n g
    | _, _ => False
  | _ => False
def ab_up (f : Int → Int) (i x : Int) : Int → Int := fun j => if j = i then x else f j
def ab_cpy (f g : Int → Int) (sp dp n : Int) : Int → Int := fun k => if dp ≤ k ∧ k < dp + n then f (sp + (k - dp)) else g k
def ab_len (k : Nat) (cs : List ab_C) (f : Nat → Prop) : Prop := match cs[k]? with
  | some (.inr (.inl (t, n, _))) => match Nat.ble t 2 with
    | true => f n
    | false => False
  | some (.inr (.inr l)) => f l.length
  | _ => False
def ab_rarr (k : Nat) (cs : List ab_C) (f : List (Option Nat) → Prop) : Prop := match cs[k]? with
  | some (.inr (.inr l)) => match Nat.blt l.length 1000000 with
    | true => f l
    | false => False
  | _ => False
def ab_obj (ci k : Nat) (cs : List ab_C) (f : Prop) : Prop := match cs[k]? with
  | some (.inl (cj, _)) => match Nat.beq ci cj with
    | true => f
    | false => False
  | _ => False
/-! calls: the callee's places among the caller's -/
def ab_pos : List Nat → Nat → Nat
  | [], _ => 0
  | a :: l, k => match Nat.beq a k with
    | true => 0
    | false => ab_pos l k + 1
def ab_unV (is : List Nat) : ab_V → ab_V
  | .inr (.inl (some k)) => .inr (.inl (some (ab_pos is k)))
  | v => v
def ab_reV (is : List Nat) : ab_V → ab_V
  | .inr (.inl (some k)) => .inr (.inl (some (is.getD k 0)))
  | v => v
def ab_okV (is : List Nat) : ab_V → Bool
  | .inr (.inl (some k)) => Nat.blt (ab_pos is k) is.length
  | _ => true
def ab_unC (is : List Nat) : ab_C → ab_C
  | .inl (ci, fs) => .inl (ci, fs.map (ab_unV is))
  | .inr (.inl a) => .inr (.inl a)
  | .inr (.inr l) => .inr (.inr (l.map (fun o => o.map (fun k => ab_pos is k))))
def ab_reC (is : List Nat) : ab_C → ab_C
  | .inl (ci, fs) => .inl (ci, fs.map (ab_reV is))
  | .inr (.inl a) => .inr (.inl a)
  | .inr (.inr l) => .inr (.inr (l.map (fun o => o.map (fun k => is.getD k 0))))
def ab_okC (is : List Nat) : ab_C → Bool
  | .inl (_, fs) => fs.all (ab_okV is)
  | .inr (.inl _) => true
  | .inr (.inr l) => l.all (fun o => match o with | some k => Nat.blt (ab_pos is k) is.length | none => true)
/-- the cells at some places -/
def ab_pick (cs : List ab_C) : List Nat → List ab_C
  | [] => []
  | i :: is => match cs[i]? with
    | some c => c :: ab_pick cs is
    | none => ab_pick cs is
/-- other cells at some places -/
def ab_back (jd : List Nat) : List Nat → List ab_C → List ab_C → List ab_C
  | i :: is, c :: cs', cs => ab_back jd is cs' (cs.set i (ab_reC jd c))
  | _, _, cs => cs
def ab_nd : List Nat → Bool
  | [] => true
  | a :: l => match Nat.blt (ab_pos l a) l.length with
    | true => false
    | false => ab_nd l
def ab_ret (r : Option ab_V) (st : List ab_V) : List ab_V := match r with
  | some v => v :: st
  | none => st
/-- what a contract gives, weakened -/
def ab_cl (sp : ab_Sp) (args : List ab_V) (cs : List ab_C) (Q : ab_Q) : Prop := ∃ Q0 : ab_Q, sp args cs Q0 ∧ ∀ r cs', Q0 r cs' → Q r cs'
def ab_rcv (c n : Nat) (st : List ab_V) (cs : List ab_C) (f : Prop) : Prop := match Nat.beq c 99 with
  | true => f
  | false => match st.drop (n - 1) with
    | .inr (.inl (some k)) :: _ => ab_obj c k cs f
    | _ => False
def ab_call (ci : ab_CI) (st : List ab_V) (cs : List ab_C) (f : List ab_V → List ab_C → Prop) : Prop := match ci with
  | (n, c, is, n0, sp) => match Nat.ble n st.length, Nat.ble (ab_cat (st.drop n)) 8 with
    | true, true => ab_rcv c n st cs (match is with
      | [] => ab_cl sp (st.take n).reverse cs (fun r cs' => cs'.length = cs.length → f (ab_ret r (st.drop n)) cs')
      | _ => match (st.take n).all (ab_okV is), (ab_pick cs (is.take n0)).all (ab_okC is), Nat.beq (ab_pick cs (is.take n0)).length n0, ab_nd is with
        | true, true, true, true => ab_cl sp ((st.take n).reverse.map (ab_unV is)) ((ab_pick cs (is.take n0)).map (ab_unC is)) (fun r cs' => cs'.length = n0 → f (ab_ret (r.map (ab_reV is)) (st.drop n)) (ab_back is (is.take n0) cs' cs))
        | _, _, _, _ => False)
    | _, _ => False
def ab_rt (ty : Nat) (a : Int) (f : Prop) : Prop := match ty with
  | 0 => f
  | 1 => (0 ≤ a ∧ a < 65536) ∧ f
  | 2 => (a = 0 ∨ a = 1) ∧ f
  | _ => False
/-- what has to hold before an instruction, that what is wanted behind it holds -/
def ab_w (E : ab_E) (Q : ab_Q) (K : ab_K) (q : ab_I) (lv : ab_L) (st : List ab_V) (cs : List ab_C) : Prop := match q with
  | (pc, i, nx, tg) => match i with
    | .iconst n => K nx lv (.inl n :: st) cs
    | .bipush n => K nx lv (.inl n :: st) cs
    | .sipush n => K nx lv (.inl n :: st) cs
    | .lconst n => K nx lv (.inr (.inr (Int64.ofNat n)) :: st) cs
    | .ldc ix => match ab_look E.1.2.1 ix with
      | some v => K nx lv (.inl v :: st) cs
      | none => False
    | .ldc2_w ix => match ab_look E.1.2.2 ix with
      | some v => K nx lv (.inr (.inr v) :: st) cs
      | none => False
    | .iload_n k => ab_ldI lv k (fun a => K nx lv (.inl a :: st) cs)
    | .iload k => ab_ldI lv k (fun a => K nx lv (.inl a :: st) cs)
    | .aload_n k => ab_ldP lv k (fun a => K nx lv (.inr (.inl a) :: st) cs)
    | .aload k => ab_ldP lv k (fun a => K nx lv (.inr (.inl a) :: st) cs)
    | .lload_n k => ab_ldL lv k (fun a => K nx lv (.inr (.inr a) :: st) cs)
    | .lload k => ab_ldL lv k (fun a => K nx lv (.inr (.inr a) :: st) cs)
    | .istore_n k => ab_i1 st (fun a r => ab_st1 lv k (.inl a) (fun lv' => K nx lv' r cs))
    | .istore k => ab_i1 st (fun a r => ab_st1 lv k (.inl a) (fun lv' => K nx lv' r cs))
    | .astore_n k => ab_p1 st (fun a r => ab_st1 lv k (.inr (.inl (some a))) (fun lv' => K nx lv' r cs))
    | .astore k => ab_p1 st (fun a r => ab_st1 lv k (.inr (.inl (some a))) (fun lv' => K nx lv' r cs))
    | .lstore_n k => ab_l1 st (fun a r => ab_st2 lv k (.inr (.inr a)) (fun lv' => K nx lv' r cs))
    | .lstore k => ab_l1 st (fun a r => ab_st2 lv k (.inr (.inr a)) (fun lv' => K nx lv' r cs))
    | .iinc k n => ab_ldI lv k (fun a => ab_st1 lv k (.inl (a + n)) (fun lv' => K nx lv' st cs))
    | .iadd => ab_i2 st (fun a b r => K nx lv (.inl (a + b) :: r) cs)
    | .isub => ab_i2 st (fun a b r => K nx lv (.inl (a - b) :: r) cs)
    | .imul => ab_i2 st (fun a b r => K nx lv (.inl (a * b) :: r) cs)
    | .ineg => ab_i1 st (fun a r => K nx lv (.inl (-a) :: r) cs)
    | .irem => ab_i2 st (fun a b r => (ab_r a ∧ ab_r b ∧ ¬ b = 0) ∧ K nx lv (.inl (a.tmod b) :: r) cs)
    | .ixor => ab_i2 st (fun a b r => K nx lv (.inl ((Int32.ofInt a ^^^ Int32.ofInt b).toInt) :: r) cs)
    | .iand => ab_i2 st (fun a b r => K nx lv (.inl ((Int32.ofInt a &&& Int32.ofInt b).toInt) :: r) cs)
    | .i2l => ab_i1 st (fun a r => K nx lv (.inr (.inr (Int32.ofInt a).toInt64) :: r) cs)
    | .l2i => ab_l1 st (fun a r => K nx lv (.inl a.toInt32.toInt :: r) cs)
    | .i2c => ab_i1 st (fun a r => (0 ≤ a ∧ a < 65536) ∧ K nx lv (.inl a :: r) cs)
    | .land => ab_l2 st (fun a b r => K nx lv (.inr (.inr (a &&& b)) :: r) cs)
    | .lor => ab_l2 st (fun a b r => K nx lv (.inr (.inr (a ||| b)) :: r) cs)
    | .lcmp => ab_l2 st (fun a b r => K nx lv (.inl (lg_cmp a b).toInt :: r) cs)
    | .lushr => ab_li st (fun a b r => K nx lv (.inr (.inr (a.toUInt64 >>> ((Int32.ofInt b).toInt64.toUInt64 &&& Int64.toUInt64 63)).toInt64) :: r) cs)
    | .lshl => ab_li st (fun a b r => K nx lv (.inr (.inr (a <<< ((Int32.ofInt b).toInt64 &&& 63))) :: r) cs)
    | .dup => match st with
      | v :: r => match ab_c1 v with
        | true => K nx lv (v :: v :: r) cs
        | false => False
      | _ => False
    | .dup2 => match st with
      | v :: w :: r => match ab_c1 v, ab_c1 w with
        | true, true => K nx lv (v :: w :: v :: w :: r) cs
        | _, _ => False
      | _ => False
    | .pop => match st with
      | v :: r => match ab_c1 v with
        | true => K nx lv r cs
        | false => False
      | _ => False
    | .ifCond c _ => ab_i1 st (fun a r => ab_r a ∧ ab_br c a 0 (K (ab_tg tg) lv r cs) (K nx lv r cs))
    | .if_icmp c _ => ab_i2 st (fun a b r => (ab_r a ∧ ab_r b) ∧ ab_br c a b (K (ab_tg tg) lv r cs) (K nx lv r cs))
    | .goto _ => K (ab_tg tg) lv st cs
    | .tableswitch _ _ _ _ => ab_i1 st (fun a r => ab_r a ∧ ab_sw a (ab_tg tg) (fun t => K t lv r cs) (tg.drop 1))
    | .getfield ix => ab_p1 st (fun k r => ab_getf E.1 ix k cs (fun v => K nx lv (v :: r) cs))
    | .putfield ix => match st with
      | v :: .inr (.inl (some k)) :: r => ab_putf E.1 ix k v cs (fun cs' => K nx lv r cs')
      | _ => False
    | .iaload => ab_pi st (fun k i r => ab_arr 0 k cs (fun n f => (0 ≤ i ∧ i < n) ∧ K nx lv (.inl (f i) :: r) cs))
    | .caload => ab_pi st (fun k i r => ab_arr 1 k cs (fun n f => (0 ≤ i ∧ i < n) ∧ K nx lv (.inl (f i) :: r) cs))
    | .baload => ab_pi st (fun k i r => ab_arr 2 k cs (fun n f => (0 ≤ i ∧ i < n) ∧ K nx lv (.inl (f i) :: r) cs))
    | .iastore => ab_pii st (fun k i x r => ab_arr 0 k cs (fun n f => (0 ≤ i ∧ i < n) ∧ K nx lv r (cs.set k (.inr (.inl (0, n, ab_up f i x))))))
    | .castore => ab_pii st (fun k i x r => ab_arr 1 k cs (fun n f => (0 ≤ i ∧ i < n ∧ 0 ≤ x ∧ x < 65536) ∧ K nx lv r (cs.set k (.inr (.inl (1, n, ab_up f i x))))))
    | .bastore => ab_pii st (fun k i x r => ab_arr 2 k cs (fun n f => (0 ≤ i ∧ i < n ∧ (x = 0 ∨ x = 1)) ∧ K nx lv r (cs.set k (.inr (.inl (2, n, ab_up f i x))))))
    | .aaload => ab_pi st (fun k i r => ab_rarr k cs (fun l => (0 ≤ i ∧ i < l.length) ∧ K nx lv (.inr (.inl (l.getD i.toNat none)) :: r) cs))
    | .aastore => match st with
      | .inr (.inl (some v)) :: .inl i :: .inr (.inl (some k)) :: r => ab_rarr k cs (fun l => ab_obj 1 v cs ((0 ≤ i ∧ i < l.length) ∧ K nx lv r (cs.set k (.inr (.inr (l.set i.toNat (some v)))))))
      | _ => False
    | .arraylength => ab_p1 st (fun k r => ab_len k cs (fun n => K nx lv (.inl n :: r) cs))
    | .invokevirtual _ => match ab_look E.2.1 pc with
      | some ci => ab_call ci st cs (fun st' cs' => K nx lv st' cs')
      | none => False
    | .invokestatic _ => match ab_look E.2.1 pc with
      | some ci => ab_call ci st cs (fun st' cs' => K nx lv st' cs')
      | none => match ab_look E.2.2.1 pc with
        | some 1 => ab_i2 st (fun a b r => match Nat.ble (ab_cat r) 8 with
          | true => (ab_r a ∧ ab_r b) ∧ K nx lv (.inl (if a < b then b else a) :: r) cs
          | false => False)
        | some 2 => match st with
          | .inl n :: .inl dp :: .inr (.inl (some d)) :: .inl sp :: .inr (.inl (some k)) :: r => ab_arr 0 k cs (fun n0 f => ab_arr 0 d cs (fun n1 g => match Nat.ble (ab_cat r) 8 with
            | true => (0 ≤ sp ∧ 0 ≤ dp ∧ 0 ≤ n ∧ sp + n ≤ n0 ∧ dp + n ≤ n1) ∧ K nx lv r (cs.set d (.inr (.inl (0, n1, ab_cpy f g sp dp n))))
            | false => False))
          | _ => False
        | _ => False
    | .ireturn => match st with
      | [.inl a] => ab_rt E.2.2.2 a (Q (some (.inl a)) cs)
      | _ => False
    | .return_ => match st with
      | [] => match Nat.beq E.2.2.2 9 with
        | true => Q none cs
        | false => False
      | _ => False
    | _ => False
/-- the walk, by the code's rows: it ends, and what is wanted holds at its end -/
def ab_find (P : List ab_I) (pc : Nat) : Option ab_I := match P with
  | [] => none
  | q :: l => match Nat.beq q.1 pc with
    | true => some q
    | false => ab_find l pc
def ab_R (E : ab_E) (P : List ab_I) (Q : ab_Q) : ab_K := fun pc lv st cs =>
  ∀ Z : ab_K, (∀ (pc : Nat) (lv : ab_L) (st : List ab_V) (cs : List ab_C) (q : ab_I) (K0 : ab_K), ab_find P pc = some q → ab_w E Q K0 q lv st cs → (∀ pc' lv' st' cs', K0 pc' lv' st' cs' → Z pc' lv' st' cs') → Z pc lv st cs) → Z pc lv st cs
def ab_mem : List Nat → Nat → Bool
  | [], _ => false
  | a :: l, k => match Nat.beq a k with
    | true => true
    | false => ab_mem l k
/-- some steps, up to the stops -/
def ab_ws (E : ab_E) (P : List ab_I) (Q : ab_Q) (K : ab_K) (stops : List Nat) : Nat → ab_K
  | 0 => K
  | n + 1 => fun pc lv st cs => match ab_find P pc with
    | some q => ab_w E Q (fun pc' lv' st' cs' => match ab_mem stops pc' with
      | true => K pc' lv' st' cs'
      | false => ab_ws E P Q K stops n pc' lv' st' cs') q lv st cs
    | none => False
theorem ab_R.step {E : ab_E} {P : List ab_I} {Q : ab_Q} {pc : Nat} {lv : ab_L} {st : List ab_V} {cs : List ab_C} {q : ab_I} {K : ab_K} (hq : ab_find P pc = some q) (h : ab_w E Q K q lv st cs) (hK : ∀ pc' lv' st' cs', K pc' lv' st' cs' → ab_R E P Q pc' lv' st' cs') : ab_R E P Q pc lv st cs :=
  fun Z hZ => hZ pc lv st cs q K hq h (fun pc' lv' st' cs' k => hK pc' lv' st' cs' k Z hZ)
theorem ab_R.steps {E : ab_E} {P : List ab_I} {Q : ab_Q} (stops : List Nat) : ∀ (n : Nat) {pc : Nat} {lv : ab_L} {st : List ab_V} {cs : List ab_C}, ab_ws E P Q (ab_R E P Q) stops n pc lv st cs → ab_R E P Q pc lv st cs
  | 0, _, _, _, _, h => h
  | n + 1, pc, lv, st, cs, h => by
    unfold ab_ws at h
    split at h
    · next q hq =>
      refine ab_R.step hq h (fun pc' lv' st' cs' k => ?_)
      split at k
      · exact k
      · exact ab_R.steps stops n k
    · exact h.elim
end
section
/-! WHAT THE ABSTRACT THINGS STAND FOR -/
abbrev ab_G : Type := va_G × (Nat → ClassId)
def ab_c (ad : Nat → Nat) : ab_V → Value
  | .inl n => .int (Int32.ofInt n)
  | .inr (.inl r) => va_rf (r.map ad)
  | .inr (.inr L) => .long L
def ab_e (G : ab_G) (ad : Nat → Nat) : ab_C → va_E
  | .inl (ci, fs) => .inr (ci, fs.map (ab_c ad))
  | .inr (.inl (t, n, f)) => .inl (G.2 t, n, .inl (fun j => Int32.ofInt (f j)))
  | .inr (.inr l) => .inl (G.2 3, l.length, .inr (.inr (.inr (.inr (fun j => (l.getD j none).map ad)))))
def ab_cs (G : ab_G) (ad : Nat → Nat) (cs : List ab_C) : va_W := cs.mapIdx (fun k c => (ad k, ab_e G ad c))
def ab_tys (G : ab_G) : List (ClassId × FieldType) := [(G.2 0, .int), (G.2 1, .char), (G.2 2, .boolean), (G.2 3, .object "RootChunks$Row")]
def ab_isN : Jvm.Cond → Bool
  | .fieldLinkNest _ _ _ _ _ _ => true
  | .methodLinkNest _ _ _ _ => true
  | _ => false
def ab_nw : List Jvm.Cond := tables_1.filter ab_isN
def ab_TB : List Jvm.Cond := lw_tbl.filter goodWord
def ab_KK (G : ab_G) (U : State) : Prop := va_K G.1 vwCl (ab_tys G) U ∧ ∀ w ∈ ab_nw, va_Nw w U
def ab_Dn (A : Nat → Prop) (ad : Nat → Nat) (n : Nat) : Prop := (∀ i j : Nat, i < n → j < n → ad i = ad j → i = j) ∧ ∀ k : Nat, k < n → A (ad k)
theorem ab_TB_of {w : Jvm.Cond} (h : w ∈ lw_tbl) (g : goodWord w = true) : w ∈ ab_TB := List.mem_filter.mpr ⟨h, g⟩
theorem ab_TB_good : GoodIn ab_TB ab_TB := fun w h => ⟨h, good_of_word (List.mem_filter.mp h).2⟩
theorem ab_KK.warm {G : ab_G} {s U : State} (hW : s.WarmedH U.vm) (h : ab_KK G s) : ab_KK G U := by
  refine ⟨h.1.moved hW.alike, fun w hw => ?_⟩
  have h1 := h.2 w hw
  have h2 := (List.mem_filter.mp hw).2
  cases w with
  | fieldLinkNest a i b n d x => exact h1.warmF hW
  | methodLinkNest a i y x => exact h1.warmM hW
  | _ => cases h2
theorem ab_isN_on {w : Jvm.Cond} (h : ab_isN w = true) : w.onTables = true := by
  cases w <;> first | rfl | cases h
theorem ab_KK.same {G : ab_G} {u U : State} (hvm : u.vm = U.vm) (h : ab_KK G u) : ab_KK G U := by
  refine ⟨h.1.moved (by rw [hvm]; exact Vm.Alike.refl U.vm), fun w hw => ?_⟩
  exact (h.2 w hw).same (ab_isN_on (List.mem_filter.mp hw).2) hvm
theorem ab_cs_get (G : ab_G) (ad : Nat → Nat) (cs : List ab_C) (k : Nat) : (ab_cs G ad cs)[k]? = cs[k]?.map (fun c => (ad k, ab_e G ad c)) := by
  unfold ab_cs
  rw [List.getElem?_mapIdx]
theorem ab_cs_at {G : ab_G} {ad : Nat → Nat} {cs : List ab_C} {k : Nat} {c : ab_C} (h : cs[k]? = some c) : (ab_cs G ad cs)[k]? = some (ad k, ab_e G ad c) := by
  rw [ab_cs_get, h]; rfl
theorem ab_cs_of {G : ab_G} {ad : Nat → Nat} {cs : List ab_C} {k : Nat} {q : Nat × va_E} (h : (ab_cs G ad cs)[k]? = some q) : ∃ c, cs[k]? = some c ∧ q = (ad k, ab_e G ad c) := by
  rw [ab_cs_get] at h
  cases hc : cs[k]? with
  | none => rw [hc] at h; cases h
  | some c => rw [hc] at h; exact ⟨c, rfl, (Option.some.inj h).symm⟩
theorem ab_cs_set (G : ab_G) (ad : Nat → Nat) (cs : List ab_C) (k : Nat) (c : ab_C) : (ab_cs G ad cs).set k (ad k, ab_e G ad c) = ab_cs G ad (cs.set k c) := by
  apply List.ext_getElem?
  intro j
  rw [ab_cs_get, List.getElem?_set, List.getElem?_set, ab_cs_get]
  have hl : (ab_cs G ad cs).length = cs.length := by simp [ab_cs]
  rw [hl]
  by_cases h : k = j
  · subst h
    rw [if_pos rfl, if_pos rfl]
    by_cases h2 : k < cs.length
    · rw [if_pos h2, if_pos h2]; rfl
    · rw [if_neg h2, if_neg h2]; rfl
  · rw [if_neg h, if_neg h]
theorem ab_lt_of {α : Type} {l : List α} {k : Nat} {x : α} (h : l[k]? = some x) : k < l.length := (List.getElem?_eq_some_iff.mp h).1
theorem ab_Dn.to {A : Nat → Prop} {ad : Nat → Nat} {n : Nat} (h : ab_Dn A ad n) {G : ab_G} {cs : List ab_C} (hn : cs.length = n) : va_D A (ab_cs G ad cs) := by
  refine ⟨fun i j x y hi hj hxy => ?_, fun k q hk => ?_⟩
  · obtain ⟨c1, h1, rfl⟩ := ab_cs_of hi
    obtain ⟨c2, h2, rfl⟩ := ab_cs_of hj
    exact h.1 i j (hn ▸ ab_lt_of h1) (hn ▸ ab_lt_of h2) hxy
  · obtain ⟨c1, h1, rfl⟩ := ab_cs_of hk
    exact h.2 k (hn ▸ ab_lt_of h1)
theorem ab_cat1 {ad : Nat → Nat} {v : ab_V} (h : ab_c1 v = true) : (ab_c ad v).category = 1 := by
  rcases v with n | ⟨⟨⟩ | r⟩ | L
  · rfl
  · rfl
  · rfl
  · cases h
theorem ab_cat2 {ad : Nat → Nat} {v : ab_V} (h : (ab_c ad v).category = 2) : ab_c1 v = false := by
  rcases v with n | ⟨⟨⟩ | r⟩ | L
  · cases h
  · cases h
  · cases h
  · rfl
theorem ab_catS (ad : Nat → Nat) (st : List ab_V) : ((st.map (ab_c ad)).map fun v => v.category).sum = ab_cat st := by
  induction st with
  | nil => rfl
  | cons v r ih =>
    rw [List.map_cons, List.map_cons, List.sum_cons, ih]
    have e0 : ab_cat (v :: r) = (match ab_c1 v with | true => 1 | false => 2) + ab_cat r := rfl
    rw [e0]
    cases hc : ab_c1 v with
    | true => rw [ab_cat1 hc]
    | false =>
      rcases v with n | ⟨⟨⟩ | q⟩ | L
      · cases hc
      · cases hc
      · cases hc
      · rfl
/-! locals -/
def ab_lh (ad : Nat → Nat) (ls : Array Slot) (nL : Nat) (lv : ab_L) : Prop := ls.size = nL ∧ lv_wf ls ∧ lv.length = nL ∧ ∀ (i : Nat) (v : ab_V), lv[i]? = some (some v) → ls[i]? = some (.val (ab_c ad v))
def ab_ll (ad : Nat → Nat) (lv : ab_L) : List (Nat × Value) := (lv.mapIdx (fun k o => o.map (fun v => (k, ab_c ad v)))).filterMap id
theorem ab_ll_in {ad : Nat → Nat} {lv : ab_L} {q : Nat × Value} : q ∈ ab_ll ad lv ↔ ∃ v, lv[q.1]? = some (some v) ∧ q.2 = ab_c ad v := by
  unfold ab_ll
  rw [List.mem_filterMap]
  constructor
  · rintro ⟨o, ho, hq⟩
    obtain ⟨k, hk⟩ := List.getElem?_of_mem ho
    rw [List.getElem?_mapIdx] at hk
    have hq' : o = some q := hq
    subst hq'
    cases hc : lv[k]? with
    | none => rw [hc] at hk; cases hk
    | some x =>
      rw [hc] at hk
      cases x with
      | none => cases hk
      | some v =>
        have hk2 : (k, ab_c ad v) = q := Option.some.inj (Option.some.inj hk)
        subst hk2
        exact ⟨v, hc, rfl⟩
  · rintro ⟨v, hv, hq⟩
    refine ⟨some q, ?_, rfl⟩
    refine List.mem_of_getElem? (i := q.1) ?_
    rw [List.getElem?_mapIdx, hv]
    obtain ⟨a, b⟩ := q
    dsimp only at hq
    subst hq
    rfl
theorem ab_lh.has {ad : Nat → Nat} {ls : Array Slot} {nL : Nat} {lv : ab_L} (h : ab_lh ad ls nL lv) : lv_has ls nL (ab_ll ad lv) := by
  refine ⟨h.1, h.2.1, fun q hq => ?_⟩
  obtain ⟨v, h1, h2⟩ := ab_ll_in.mp hq
  rw [h2]
  exact h.2.2.2 q.1 v h1
theorem ab_lh.set1 {ad : Nat → Nat} {ls ls' : Array Slot} {nL i : Nat} {lv : ab_L} {v : ab_V} (h : ab_lh ad ls nL lv) (hn : ab_nl lv i = true) (hi : i < nL)
    (h' : lv_has ls' nL ((i, ab_c ad v) :: (ab_ll ad lv).filter (fun q => !(q.1 == i) && !(q.1 + 1 == i && q.2.category == 2)))) : ab_lh ad ls' nL (lv.set i (some v)) := by
  refine ⟨h'.1, h'.2.1, by rw [List.length_set]; exact h.2.2.1, fun j w hj => ?_⟩
  rw [List.getElem?_set] at hj
  by_cases e : i = j
  · subst e
    rw [if_pos rfl, if_pos (by rw [h.2.2.1]; exact hi)] at hj
    have e2 := Option.some.inj (Option.some.inj hj)
    subst e2
    exact h'.2.2 _ List.mem_cons_self
  · rw [if_neg e] at hj
    refine h'.2.2 (j, ab_c ad w) (List.mem_cons_of_mem _ (List.mem_filter.mpr ⟨ab_ll_in.mpr ⟨w, hj, rfl⟩, ?_⟩))
    simp only [Bool.and_eq_true, Bool.not_eq_true', beq_eq_false_iff_ne, ne_eq, Bool.and_eq_false_iff]
    refine ⟨fun q => e q.symm, ?_⟩
    by_cases e3 : j + 1 = i
    · right
      subst e3
      intro q
      have := ab_cat2 q
      simp only [ab_nl, hj, this] at hn
      cases hn
    · left; exact e3
theorem ab_lh.set2 {ad : Nat → Nat} {ls ls' : Array Slot} {nL i : Nat} {lv : ab_L} {v : ab_V} (h : ab_lh ad ls nL lv) (hn : ab_nl lv i = true) (hi : i + 1 < nL)
    (h' : lv_has ls' nL ((i, ab_c ad v) :: (ab_ll ad lv).filter (fun q => !(q.1 == i) && (!(q.1 == i + 1) && !(q.1 + 1 == i && q.2.category == 2))))) : ab_lh ad ls' nL ((lv.set i (some v)).set (i + 1) none) := by
  refine ⟨h'.1, h'.2.1, by rw [List.length_set, List.length_set]; exact h.2.2.1, fun j w hj => ?_⟩
  rw [List.getElem?_set] at hj
  by_cases e1 : i + 1 = j
  · rw [if_pos e1, List.length_set] at hj
    split at hj <;> cases hj
  rw [if_neg e1, List.getElem?_set] at hj
  by_cases e : i = j
  · subst e
    rw [if_pos rfl, if_pos (by rw [h.2.2.1]; omega)] at hj
    have e2 := Option.some.inj (Option.some.inj hj)
    subst e2
    exact h'.2.2 _ List.mem_cons_self
  · rw [if_neg e] at hj
    refine h'.2.2 (j, ab_c ad w) (List.mem_cons_of_mem _ (List.mem_filter.mpr ⟨ab_ll_in.mpr ⟨w, hj, rfl⟩, ?_⟩))
    simp only [Bool.and_eq_true, Bool.not_eq_true', beq_eq_false_iff_ne, ne_eq, Bool.and_eq_false_iff]
    refine ⟨fun q => e q.symm, fun q => e1 q.symm, ?_⟩
    by_cases e3 : j + 1 = i
    · right
      subst e3
      intro q
      have := ab_cat2 q
      simp only [ab_nl, hj, this] at hn
      cases hn
    · left; exact e3
/-! numbers -/
theorem ab_toI {a : Int} (h : ab_r a) : (Int32.ofInt a).toInt = a := Int32.toInt_ofInt_of_le h.1 h.2
theorem ab_eqI {a b : Int} (ha : ab_r a) (hb : ab_r b) : Int32.ofInt a = Int32.ofInt b ↔ a = b := by
  constructor
  · intro h
    have := congrArg Int32.toInt h
    rwa [ab_toI ha, ab_toI hb] at this
  · intro h; rw [h]
theorem ab_ltI {a b : Int} (ha : ab_r a) (hb : ab_r b) : Int32.ofInt a < Int32.ofInt b ↔ a < b := by
  rw [Int32.lt_iff_toInt_lt, ab_toI ha, ab_toI hb]
theorem ab_leI {a b : Int} (ha : ab_r a) (hb : ab_r b) : Int32.ofInt a ≤ Int32.ofInt b ↔ a ≤ b := by
  rw [Int32.le_iff_toInt_le, ab_toI ha, ab_toI hb]
theorem ab_r0 : ab_r 0 := ⟨by omega, by omega⟩
theorem ab_0 : Int32.ofInt 0 = 0 := rfl
theorem ab_in {i : Int} {n : Nat} (h0 : 0 ≤ i) (h1 : i < n) (hn : n < 2147483648) : vp_in (Int32.ofInt i) n ∧ ((Int32.ofInt i).toNatClampNeg : Int) = i := by
  have hr : ab_r i := ⟨by omega, by omega⟩
  refine ⟨vp_in_iff.mpr (by rw [ab_toI hr]; exact ⟨h0, h1⟩), ?_⟩
  show (((Int32.ofInt i).toInt).toNat : Int) = i
  rw [ab_toI hr]
  exact Int.toNat_of_nonneg h0
theorem ab_look_in {α : Type} : ∀ {l : List (Nat × α)} {k : Nat} {v : α}, ab_look l k = some v → (k, v) ∈ l
  | [], _, _, h => by cases h
  | a :: l, k, v, h => by
    unfold ab_look at h
    split at h
    · next e =>
      have e1 := Nat.eq_of_beq_eq_true e
      have e2 := Option.some.inj h
      subst e1; subst e2
      exact List.mem_cons_self
    · exact List.mem_cons_of_mem _ (ab_look_in h)
theorem ab_find_in : ∀ {P : List ab_I} {pc : Nat} {q : ab_I}, ab_find P pc = some q → q ∈ P ∧ q.1 = pc
  | [], _, _, h => by cases h
  | a :: l, pc, q, h => by
    unfold ab_find at h
    split at h
    · next e =>
      have e2 := Option.some.inj h
      subst e2
      exact ⟨List.mem_cons_self, Nat.eq_of_beq_eq_true e⟩
    · have h1 := ab_find_in h
      exact ⟨List.mem_cons_of_mem _ h1.1, h1.2⟩
end
section
/-! WHAT THE TABLES SAY OF A CLASS'S POOL AND OF A METHOD'S CODE -/
def ab_ty : Nat → FieldType
  | 0 => .int
  | 1 => .char
  | _ => .boolean
/-- a field's row: its link stands in the tables -/
def ab_okF (own : String) (q : Nat × Nat × Nat × Bool × Nat) : Bool := match q with
  | (ix, ci, k, nest, ty) => match vwCl[ci]? with
    | some (C, T, N) => decide (k < N) && (match nest with
      | true => decide (Jvm.Cond.fieldLinkNest own ix (T k).1 (T k).2.1 (T k).2.2.1 "RootChunks" ∈ ab_nw)
      | false => decide (Jvm.Cond.fieldLink own ix (T k).1 (T k).2.1 (T k).2.2.1 ∈ lw_tbl) && goodWord (Jvm.Cond.fieldLink own ix (T k).1 (T k).2.1 (T k).2.2.1)) &&
      (Nat.ble 3 ty || (decide (parseFieldDescriptor (T k).2.2.1 = some (ab_ty ty)) && !(T k).2.2.2))
    | none => false
def ab_okN (own : String) (q : Nat × Int) : Bool := decide (Jvm.Cond.constant own q.1 (Int32.ofInt q.2) ∈ lw_tbl) && goodWord (Jvm.Cond.constant own q.1 (Int32.ofInt q.2))
def ab_okM (own : String) (q : Nat × Int64) : Bool := decide (Jvm.Cond.constantLong own q.1 q.2 ∈ lw_tbl) && goodWord (Jvm.Cond.constantLong own q.1 q.2)
def ab_okT (own : String) (T : ab_T) : Bool := T.1.all (ab_okF own) && (T.2.1.all (ab_okN own) && T.2.2.all (ab_okM own))
def ab_ln : Instr → Nat
  | .bipush _ => 2
  | .iload _ => 2
  | .aload _ => 2
  | .lload _ => 2
  | .istore _ => 2
  | .astore _ => 2
  | .lstore _ => 2
  | .ldc _ => 2
  | .sipush _ => 3
  | .ldc2_w _ => 3
  | .iinc _ _ => 3
  | .ifCond _ _ => 3
  | .if_icmp _ _ => 3
  | .goto _ => 3
  | .getfield _ => 3
  | .putfield _ => 3
  | .invokevirtual _ => 3
  | .invokestatic _ => 3
  | _ => 1
def ab_okG (q : ab_I) : Bool := match q with
  | (pc, i, nx, tg) => match i with
    | .tableswitch d lo hi offs => decide ((offs.size : Int) = hi - lo + 1) && (decide ((pc : Int) + d = ab_tg tg) && (decide (tg.drop 1 = (List.range offs.size).map (fun (j : Nat) => (lo + (j : Int), ((pc : Int) + offs.getD j 0).toNat))) && (offs.toList.all (fun o => decide (0 ≤ (pc : Int) + o)) && Nat.blt pc nx)))
    | .ifCond _ o => decide ((pc : Int) + o = ab_tg tg) && Nat.beq nx (pc + 3)
    | .if_icmp _ o => decide ((pc : Int) + o = ab_tg tg) && Nat.beq nx (pc + 3)
    | .goto o => decide ((pc : Int) + o = ab_tg tg) && Nat.beq nx (pc + 3)
    | .bipush n => decide ((Int8.ofInt n).toInt32 = Int32.ofInt n) && Nat.beq nx (pc + 2)
    | .sipush n => decide ((Int16.ofInt n).toInt32 = Int32.ofInt n) && Nat.beq nx (pc + 3)
    | i => Nat.beq nx (pc + ab_ln i)
def ab_okI (cc : ByteArray) (q : ab_I) : Bool := decide (decode cc q.1 = .ok (q.2.1, q.2.2.1 - q.1)) && ab_okG q
/-! the callees' names and codes, by where they are called -/
abbrev ab_MI : Type := MethodName × ByteArray × Nat × Option FieldType × Nat × Nat
def ab_okY (y : MethodName) : Bool := decide (y.cls ≠ "java/lang/invoke/MethodHandle") && decide (y.cls ≠ "java/lang/invoke/VarHandle")
def ab_inB (w : Jvm.Cond) : Bool := decide (w ∈ lw_tbl) && goodWord w
def ab_lkB (own : String) (ix : Nat) (y : MethodName) : Bool := ab_inB (.methodLink own ix y) || decide (Jvm.Cond.methodLinkNest own ix y "RootChunks" ∈ ab_nw)
def ab_okC1 (own : String) (M : List (Nat × ab_MI)) (E : ab_E) (R : Nat × Nat) (q : ab_I) : Bool := match q.2.1 with
  | .invokevirtual ix => match ab_look M q.1, ab_look E.2.1 q.1 with
    | some (y, b, mL, ret, fr, lc), some (n, c, _) => ab_okY y && ab_inB (.code y b mL ret) && ab_inB (.initialized y.cls) && ab_inB (.instanceMethod y) && ab_inB (.selects y.cls y y) && ab_lkB own ix y && decide ((parseMethodDescriptor y.desc).map (fun d => d.parameters.length + 1) = some n) &&
      (match vwCl[c]? with | some (C, _, _) => decide (C = y.cls) | none => false) && Nat.ble (fr + 1) R.1 && Nat.ble (8 + (mL + 11) + lc) R.2
    | _, _ => false
  | .invokestatic ix => match ab_look E.2.1 q.1 with
    | some (n, c, _) => match ab_look M q.1 with
      | some (y, b, mL, ret, fr, lc) => ab_okY y && ab_inB (.code y b mL ret) && ab_inB (.initialized y.cls) && ab_inB (.static y) && ab_inB (.methodLink own ix y) && decide ((parseMethodDescriptor y.desc).map (fun d => d.parameters.length) = some n) &&
        Nat.beq c 99 && Nat.ble (fr + 1) R.1 && Nat.ble (8 + (mL + 11) + lc) R.2
      | none => false
    | none => match ab_look E.2.2.1 q.1 with
      | some 1 => ab_inB (.methodLink own ix Lib.Math.max.name) && ab_inB (.static Lib.Math.max.name) && ab_inB (.initialized "java/lang/Math") && ab_inB (.code Lib.Math.max.name Lib.Math.max.code 2 (some .int)) && Nat.ble 1 R.1 && Nat.ble 21 R.2
      | some 2 => ab_inB (.methodLink own ix arraycopyName) && ab_inB (.native arraycopyName) && ab_inB (.static arraycopyName) && ab_inB (.initialized "java/lang/System") && Nat.ble 1 R.1 && Nat.ble (8 + (nativeFrameWords "java/lang/System" "arraycopy" 5 + 11)) R.2
      | _ => false
  | _ => true
/-! a method's contract over the machine -/
def ab_Pre (G : ab_G) (ad : Nat → Nat) (av : List ab_V) (cs : List ab_C) (sz : Nat) : Array Value → State → Prop := va_Pc (av.map (ab_c ad)) (fun U => U.heap.size = sz ∧ va_P G.1 vwCl (ab_cs G ad cs) U.heap ∧ ab_KK G U ∧ ab_Dn (fun _ => True) ad cs.length)
def ab_Post (G : ab_G) (ad : Nat → Nat) (Q : ab_Q) (N : Nat) (A : Nat → Prop) : Array Value → State → Outcome → State → Prop := fun _ st oc t =>
  (∃ (r : Option ab_V) (cs' : List ab_C), oc = .returned (r.map (ab_c ad)) ∧ Q r cs' ∧ cs'.length = N ∧ va_P G.1 vwCl (ab_cs G ad cs') t.heap) ∧ va_F A st t
def ab_A (ad : Nat → Nat) (n sz : Nat) : Nat → Prop := fun q => (∃ k : Nat, k < n ∧ q = ad k) ∨ sz ≤ q
def ab_MT (l : Launch) (mi : ab_MI) (sp : ab_Sp) : Prop := ∀ (G : ab_G) (ad : Nat → Nat) (av : List ab_V) (cs : List ab_C) (Q : ab_Q) (sz : Nat), sp av cs Q →
  Met l mi.1 (.code mi.1 mi.2.1 mi.2.2.1 mi.2.2.2.1 :: ab_TB) { frames := mi.2.2.2.2.1, cells := 0, slots := 0, locals := mi.2.2.2.2.2 } (ab_Pre G ad av cs sz) (ab_Post G ad Q cs.length (ab_A ad cs.length sz)) 0 0 (ab_A ad cs.length sz)
def ab_CT (l : Launch) (M : List (Nat × ab_MI)) (E : ab_E) : Prop := ∀ (pc : Nat) (ci : ab_CI) (mi : ab_MI), ab_look E.2.1 pc = some ci → ab_look M pc = some mi → ab_MT l mi ci.2.2.2.2
def ab_rty : Nat → Option FieldType
  | 0 => some .int
  | 1 => some .char
  | 2 => some .boolean
  | _ => none
/-- a state of the walk, over the machine -/
def ab_X (own : String) (cc : ByteArray) (nL : Nat) (p : Program) (s : State) (m : MethodId) (args : Array Value) (meth : Method) (c : Code) (G : ab_G) : Prop :=
  p.tables.exec = Jvm.exec ∧ c.code = cc ∧ c.maxLocals = nL ∧ s.vm.findClass own = some m.cls ∧ (∀ w ∈ ab_TB, w.before args s = true) ∧ ab_KK G s ∧ meth.locks = false
def ab_W (p : Program) (l : Launch) (e : Env) (R : Room) (s : State) (m : MethodId) (args : Array Value) (below : List Frame) (meth : Method) (c : Code) (nL : Nat) (G : ab_G) (ad : Nat → Nat) (A : Nat → Prop) (N cells slots : Nat) (Qw : State → Prop) : ab_K := fun pc lv st cs =>
  cs.length = N → ∀ (H : Heap) (locs : List Loc) (ls : Array Slot), va_P G.1 vwCl (ab_cs G ad cs) H → va_S A s.heap H locs → ab_lh ad ls nL lv → W p l e R s m args below meth c H locs cells slots Qw (F0 m pc ls (st.map (ab_c ad)))
theorem ab_and {a b : Bool} (h : (a && b) = true) : a = true ∧ b = true := Bool.and_eq_true_iff.mp h
theorem ab_inB.to {w : Jvm.Cond} (h : ab_inB w = true) : w ∈ ab_TB := by
  obtain ⟨h1, h2⟩ := ab_and h
  exact ab_TB_of (of_decide_eq_true h1) h2
/-- what all fields of a class of the claim's have -/
theorem ab_clf {ci : Nat} {C : String} {T : u_T} {N : Nat} (h : vwCl[ci]? = some (C, T, N)) : (∀ w ∈ u_ws C T N, w ∈ ab_TB) ∧ (∃ ty0 : Nat → FieldType, ∀ k, k < N → parseFieldDescriptor (T k).2.2.1 = some (ty0 k)) ∧ (∀ a, a < N → ∀ b, b < N → a ≠ b → (T a).2.1 ≠ (T b).2.1) := by
  have g : ∀ (C : String) (T : u_T) (N : Nat), ∀ w ∈ u_ws C T N, goodWord w = true := by
    intro C T N w hw
    obtain ⟨k, -, hk⟩ := List.mem_map.mp hw
    rw [← hk]
    unfold u_lay
    split <;> rfl
  match ci, h with
  | 0, h => cases h; exact ⟨fun w hw => ab_TB_of (inX0 w hw) (g _ _ _ w hw), ⟨tyX0, tyX0_ok⟩, nmX0⟩
  | 1, h => cases h; exact ⟨fun w hw => ab_TB_of (inX1 w hw) (g _ _ _ w hw), ⟨tyX1, tyX1_ok⟩, nmX1⟩
  | 2, h => cases h; exact ⟨fun w hw => ab_TB_of (inX2 w hw) (g _ _ _ w hw), ⟨tyX2, tyX2_ok⟩, nmX2⟩
  | 3, h => cases h; exact ⟨fun w hw => ab_TB_of (inX3 w hw) (g _ _ _ w hw), ⟨tyX3, tyX3_ok⟩, nmX3⟩
  | k + 4, h => simp [vwCl] at h
end
section
/-! EACH INSTRUCTION, OVER THE MACHINE -/
theorem ab_ldI.of {lv : ab_L} {i : Nat} {f : Int → Prop} (h : ab_ldI lv i f) : ∃ a, lv[i]? = some (some (.inl a)) ∧ f a := by
  unfold ab_ldI at h
  split at h
  · next a e => exact ⟨a, e, h⟩
  · exact h.elim
theorem ab_ldP.of {lv : ab_L} {i : Nat} {f : Option Nat → Prop} (h : ab_ldP lv i f) : ∃ a, lv[i]? = some (some (.inr (.inl a))) ∧ f a := by
  unfold ab_ldP at h
  split at h
  · next a e => exact ⟨a, e, h⟩
  · exact h.elim
theorem ab_ldL.of {lv : ab_L} {i : Nat} {f : Int64 → Prop} (h : ab_ldL lv i f) : ∃ a, lv[i]? = some (some (.inr (.inr a))) ∧ f a := by
  unfold ab_ldL at h
  split at h
  · next a e => exact ⟨a, e, h⟩
  · exact h.elim
theorem ab_st1.of {lv : ab_L} {i : Nat} {v : ab_V} {f : ab_L → Prop} (h : ab_st1 lv i v f) : ab_nl lv i = true ∧ i < lv.length ∧ f (lv.set i (some v)) := by
  unfold ab_st1 at h
  split at h
  · next e1 e2 => exact ⟨e1, Nat.le_of_ble_eq_true e2, h⟩
  · exact h.elim
theorem ab_st2.of {lv : ab_L} {i : Nat} {v : ab_V} {f : ab_L → Prop} (h : ab_st2 lv i v f) : ab_nl lv i = true ∧ i + 1 < lv.length ∧ f ((lv.set i (some v)).set (i + 1) none) := by
  unfold ab_st2 at h
  split at h
  · next e1 e2 => exact ⟨e1, Nat.le_of_ble_eq_true e2, h⟩
  · exact h.elim
theorem ab_i1.of {st : List ab_V} {f : Int → List ab_V → Prop} (h : ab_i1 st f) : ∃ a r, st = .inl a :: r ∧ f a r := by
  unfold ab_i1 at h
  split at h
  · next a r => exact ⟨a, r, rfl, h⟩
  · exact h.elim
theorem ab_i2.of {st : List ab_V} {f : Int → Int → List ab_V → Prop} (h : ab_i2 st f) : ∃ a b r, st = .inl b :: .inl a :: r ∧ f a b r := by
  unfold ab_i2 at h
  split at h
  · next b a r => exact ⟨a, b, r, rfl, h⟩
  · exact h.elim
theorem ab_l1.of {st : List ab_V} {f : Int64 → List ab_V → Prop} (h : ab_l1 st f) : ∃ a r, st = .inr (.inr a) :: r ∧ f a r := by
  unfold ab_l1 at h
  split at h
  · next a r => exact ⟨a, r, rfl, h⟩
  · exact h.elim
theorem ab_l2.of {st : List ab_V} {f : Int64 → Int64 → List ab_V → Prop} (h : ab_l2 st f) : ∃ a b r, st = .inr (.inr b) :: .inr (.inr a) :: r ∧ f a b r := by
  unfold ab_l2 at h
  split at h
  · next b a r => exact ⟨a, b, r, rfl, h⟩
  · exact h.elim
theorem ab_li.of {st : List ab_V} {f : Int64 → Int → List ab_V → Prop} (h : ab_li st f) : ∃ a b r, st = .inl b :: .inr (.inr a) :: r ∧ f a b r := by
  unfold ab_li at h
  split at h
  · next b a r => exact ⟨a, b, r, rfl, h⟩
  · exact h.elim
theorem ab_p1.of {st : List ab_V} {f : Nat → List ab_V → Prop} (h : ab_p1 st f) : ∃ k r, st = .inr (.inl (some k)) :: r ∧ f k r := by
  unfold ab_p1 at h
  split at h
  · next k r => exact ⟨k, r, rfl, h⟩
  · exact h.elim
theorem ab_pi.of {st : List ab_V} {f : Nat → Int → List ab_V → Prop} (h : ab_pi st f) : ∃ k i r, st = .inl i :: .inr (.inl (some k)) :: r ∧ f k i r := by
  unfold ab_pi at h
  split at h
  · next i k r => exact ⟨k, i, r, rfl, h⟩
  · exact h.elim
theorem ab_pii.of {st : List ab_V} {f : Nat → Int → Int → List ab_V → Prop} (h : ab_pii st f) : ∃ k i x r, st = .inl x :: .inl i :: .inr (.inl (some k)) :: r ∧ f k i x r := by
  unfold ab_pii at h
  split at h
  · next x i k r => exact ⟨k, i, x, r, rfl, h⟩
  · exact h.elim
theorem ab_arr.of {t k : Nat} {cs : List ab_C} {f : Nat → (Int → Int) → Prop} (h : ab_arr t k cs f) : ∃ n g, cs[k]? = some (.inr (.inl (t, n, g))) ∧ n < 1000000 ∧ f n g := by
  unfold ab_arr at h
  split at h
  · next t' n g e =>
    split at h
    · next e1 e2 => exact ⟨n, g, by rw [e, Nat.eq_of_beq_eq_true e1], Nat.le_of_ble_eq_true e2, h⟩
    · exact h.elim
  · exact h.elim
theorem ab_rarr.of {k : Nat} {cs : List ab_C} {f : List (Option Nat) → Prop} (h : ab_rarr k cs f) : ∃ g, cs[k]? = some (.inr (.inr g)) ∧ g.length < 1000000 ∧ f g := by
  unfold ab_rarr at h
  split at h
  · next g e =>
    split at h
    · next e2 => exact ⟨g, e, Nat.le_of_ble_eq_true e2, h⟩
    · exact h.elim
  · exact h.elim
theorem ab_obj.of {ci k : Nat} {cs : List ab_C} {f : Prop} (h : ab_obj ci k cs f) : ∃ fs, cs[k]? = some (.inl (ci, fs)) ∧ f := by
  unfold ab_obj at h
  split at h
  · next cj fs e =>
    split at h
    · next e1 => exact ⟨fs, by rw [e, Nat.eq_of_beq_eq_true e1], h⟩
    · exact h.elim
  · exact h.elim
theorem ab_getf.of {T : ab_T} {ix k : Nat} {cs : List ab_C} {f : ab_V → Prop} (h : ab_getf T ix k cs f) : ∃ ci fi nest ty fs v, ab_look T.1 ix = some (ci, fi, nest, ty) ∧ cs[k]? = some (.inl (ci, fs)) ∧ fs[fi]? = some v ∧ f v := by
  unfold ab_getf at h
  split at h
  · next ci fi nest ty cj fs e1 e2 =>
    split at h
    · next v e3 e4 =>
      have e5 := Nat.eq_of_beq_eq_true e3
      subst e5
      exact ⟨ci, fi, nest, ty, fs, v, e1, e2, e4, h⟩
    · exact h.elim
  · exact h.elim
theorem ab_putf.of {T : ab_T} {ix k : Nat} {v : ab_V} {cs : List ab_C} {f : List ab_C → Prop} (h : ab_putf T ix k v cs f) : ∃ ci fi nest ty fs, ab_look T.1 ix = some (ci, fi, nest, ty) ∧ cs[k]? = some (.inl (ci, fs)) ∧ fi < fs.length ∧ ab_fit ty v (f (cs.set k (.inl (ci, fs.set fi v)))) := by
  unfold ab_putf at h
  split at h
  · next ci fi nest ty cj fs e1 e2 =>
    split at h
    · next e3 e4 =>
      have e5 := Nat.eq_of_beq_eq_true e3
      subst e5
      exact ⟨ci, fi, nest, ty, fs, e1, e2, Nat.le_of_ble_eq_true e4, h⟩
    · exact h.elim
  · exact h.elim
theorem ab_narC {a : Int} (h0 : 0 ≤ a) (h1 : a < 65536) : narrow .char (.int (Int32.ofInt a)) = .int (Int32.ofInt a) ∧ fits .char (.int (Int32.ofInt a)) = true := by
  obtain ⟨n, rfl⟩ := Int.eq_ofNat_of_zero_le h0
  exact pk_charN (q := n) (by omega)
theorem ab_narB {a : Int} (h : a = 0 ∨ a = 1) : narrow .boolean (.int (Int32.ofInt a)) = .int (Int32.ofInt a) ∧ fits .boolean (.int (Int32.ofInt a)) = true := by
  rcases h with rfl | rfl <;> decide +kernel
theorem ab_fit.of {ty : Nat} {v : ab_V} {f : Prop} (h : ab_fit ty v f) : ty ≤ 2 ∧ f ∧ ∀ ad, narrow (ab_ty ty) (ab_c ad v) = ab_c ad v ∧ fits (ab_ty ty) (ab_c ad v) = true := by
  unfold ab_fit at h
  split at h
  · next a => exact ⟨by omega, h, fun ad => ⟨rfl, rfl⟩⟩
  · next a => exact ⟨by omega, h.2, fun ad => ab_narC h.1.1 h.1.2⟩
  · next a => exact ⟨by omega, h.2, fun ad => ab_narB h.1⟩
  · exact h.elim
theorem ab_upE (f : Int → Int) (i x : Int) (hi : 0 ≤ i) (hr : ab_r i) : (fun j : Nat => Int32.ofInt (ab_up f i x j)) = upd (fun j : Nat => Int32.ofInt (f j)) (Int32.ofInt i).toNatClampNeg (Int32.ofInt x) := by
  have e : ((Int32.ofInt i).toNatClampNeg : Int) = i := by
    show (((Int32.ofInt i).toInt).toNat : Int) = i
    rw [ab_toI hr]
    exact Int.toNat_of_nonneg hi
  funext j
  unfold ab_up upd
  by_cases h : (j : Int) = i
  · rw [if_pos h, if_pos (by omega)]
  · rw [if_neg h, if_neg (by omega)]
theorem ab_rem {a b : Int} (ha : ab_r a) (hb : ab_r b) : Int32.ofInt a - Int32.ofInt a / Int32.ofInt b * Int32.ofInt b = Int32.ofInt (a.tmod b) := by
  have e : (Int32.ofInt a) / (Int32.ofInt b) = Int32.ofInt (a.tdiv b) := by
    apply Int32.toInt_inj.mp
    rw [Int32.toInt_div, ab_toI ha, ab_toI hb, Int32.toInt_ofInt]
  rw [e, ← Int32.ofInt_mul, ← Int32.ofInt_sub]
  congr 1
  have := Int.mul_tdiv_add_tmod a b
  rw [Int.mul_comm] at this
  omega
theorem ab_br.of {cc : ClassFile.Cond} {a b : Int} {T F : Prop} (h : ab_br cc a b T F) : (cc = .eq ∧ (a = b → T) ∧ (¬ a = b → F)) ∨ (cc = .ne ∧ (¬ a = b → T) ∧ (a = b → F)) ∨ (cc = .lt ∧ (a < b → T) ∧ (¬ a < b → F)) ∨ (cc = .ge ∧ (b ≤ a → T) ∧ (¬ b ≤ a → F)) ∨ (cc = .gt ∧ (b < a → T) ∧ (¬ b < a → F)) ∨ (cc = .le ∧ (a ≤ b → T) ∧ (¬ a ≤ b → F)) := by
  cases cc
  · exact Or.inl ⟨rfl, h⟩
  · exact Or.inr (Or.inl ⟨rfl, h⟩)
  · exact Or.inr (Or.inr (Or.inl ⟨rfl, h.1, fun q => h.2 (by omega)⟩))
  · exact Or.inr (Or.inr (Or.inr (Or.inl ⟨rfl, h.1, fun q => h.2 (by omega)⟩)))
  · exact Or.inr (Or.inr (Or.inr (Or.inr (Or.inl ⟨rfl, h.1, fun q => h.2 (by omega)⟩))))
  · exact Or.inr (Or.inr (Or.inr (Or.inr (Or.inr ⟨rfl, h.1, fun q => h.2 (by omega)⟩))))
theorem ab_sw.of {a : Int} {d : Nat} {f : Nat → Prop} : ∀ {r : List (Int × Nat)}, ab_sw a d f r → (∃ (j t : Nat), r[j]? = some (a, t) ∧ f t) ∨ ((∀ q ∈ r, q.1 ≠ a) ∧ f d)
  | [], h => Or.inr ⟨fun q hq => (by cases hq), h⟩
  | (v, t) :: r, h => by
    by_cases e : a = v
    · subst e
      exact Or.inl ⟨0, t, rfl, h.1 rfl⟩
    · rcases ab_sw.of (h.2 e) with ⟨j, t', h1, h2⟩ | ⟨h1, h2⟩
      · exact Or.inl ⟨j + 1, t', h1, h2⟩
      · refine Or.inr ⟨fun q hq => ?_, h2⟩
        rcases List.mem_cons.mp hq with rfl | hq
        · exact fun z => e z.symm
        · exact h1 q hq
end
section
section ABS
variable {p : Program} {l : Launch} {e : Env} {R : Room} {s : State} {m : MethodId} {args : Array Value} {below : List Frame} {meth : Method} {c : Code} {own : String} {cc : ByteArray} {nL : Nat} {G : ab_G} {ad : Nat → Nat} {A : Nat → Prop} {N cells slots : Nat} {Qw : State → Prop} {E : ab_E} {Qr : ab_Q} {K : ab_K}
/-- an instruction that calls nothing, reads and writes no cell, and doesn't return -/
def ab_pure : Instr → Bool
  | .getfield _ => false
  | .putfield _ => false
  | .iaload => false
  | .caload => false
  | .baload => false
  | .iastore => false
  | .castore => false
  | .bastore => false
  | .aaload => false
  | .aastore => false
  | .arraylength => false
  | .invokevirtual _ => false
  | .invokestatic _ => false
  | .ireturn => false
  | .return_ => false
  | .tableswitch _ _ _ _ => false
  | _ => true
set_option maxHeartbeats 4000000 in
theorem ab_s_pure (X : ab_X own cc nL p s m args meth c G) (hT : ab_okT own E.1 = true) {pc nx : Nat} {i : Instr} {tg : List (Int × Nat)} (hq : ab_okI cc (pc, i, nx, tg) = true) {lv : ab_L} {st : List ab_V} {cs : List ab_C}
    (hpu : ab_pure i = true) (h : ab_w E Qr K (pc, i, nx, tg) lv st cs) (hK : ∀ pc' lv' st' cs', K pc' lv' st' cs' → ab_W p l e R s m args below meth c nL G ad A N cells slots Qw pc' lv' st' cs') : ab_W p l e R s m args below meth c nL G ad A N cells slots Qw pc lv st cs := by
  obtain ⟨hx, hb, hml, hown, hts, hKK, hlk⟩ := id X
  obtain ⟨hd0, hg⟩ := ab_and hq
  have hd : decode cc pc = .ok (i, nx - pc) := of_decide_eq_true hd0
  intro hN H locs ls hP hS hl
  have go : ∀ {pc' : Nat} {lv' : ab_L} {st' : List ab_V} {ls' : Array Slot}, K pc' lv' st' cs → ab_lh ad ls' nL lv' → W p l e R s m args below meth c H locs cells slots Qw (F0 m pc' ls' (st'.map (ab_c ad))) := fun k hl' => hK _ _ _ _ k hN H locs _ hP hS hl'
  have e1 : ∀ {d : Nat}, Nat.beq nx (pc + d) = true → nx = pc + d ∧ nx - pc = d := fun h => by
    have := Nat.eq_of_beq_eq_true h
    omega
  cases i with
  | iconst n =>
    obtain ⟨rfl, e2⟩ := e1 hg; rw [e2] at hd
    exact lv_iconst hx hb hd rfl (go h hl)
  | bipush n =>
    obtain ⟨h1, h2⟩ := ab_and hg
    obtain ⟨rfl, e2⟩ := e1 h2; rw [e2] at hd
    exact lv_bipush hx hb hd (of_decide_eq_true h1) (go h hl)
  | sipush n =>
    obtain ⟨h1, h2⟩ := ab_and hg
    obtain ⟨rfl, e2⟩ := e1 h2; rw [e2] at hd
    exact lv_sipush hx hb hd (of_decide_eq_true h1) (go h hl)
  | lconst n =>
    obtain ⟨rfl, e2⟩ := e1 hg; rw [e2] at hd
    exact lv_lconst hx hb hd rfl (go h hl)
  | ldc ix =>
    obtain ⟨rfl, e2⟩ := e1 hg; rw [e2] at hd
    have h' : (match ab_look E.1.2.1 ix with
      | some v => K (pc + 2) lv (.inl v :: st) cs
      | none => False) := h
    split at h'
    · next v hv =>
      have h3 := List.all_eq_true.mp (ab_and (ab_and hT).2).1 _ (ab_look_in hv)
      exact lv_ldc hx hb hown (hts _ (ab_inB.to h3)) hd (go h' hl)
    · exact h'.elim
  | ldc2_w ix =>
    obtain ⟨rfl, e2⟩ := e1 hg; rw [e2] at hd
    have h' : (match ab_look E.1.2.2 ix with
      | some v => K (pc + 3) lv (.inr (.inr v) :: st) cs
      | none => False) := h
    split at h'
    · next v hv =>
      have h3 := List.all_eq_true.mp (ab_and (ab_and hT).2).2 _ (ab_look_in hv)
      exact lv_ldc2 hx hb hown (hts _ (ab_inB.to h3)) hd (go h' hl)
    · exact h'.elim
  | iload_n k =>
    obtain ⟨rfl, e2⟩ := e1 hg; rw [e2] at hd
    obtain ⟨a, h1, h2⟩ := ab_ldI.of h
    exact lv_iload_n hx hb hd rfl (hl.2.2.2 _ _ h1) (go h2 hl)
  | iload k =>
    obtain ⟨rfl, e2⟩ := e1 hg; rw [e2] at hd
    obtain ⟨a, h1, h2⟩ := ab_ldI.of h
    exact lv_iload hx hb hd (hl.2.2.2 _ _ h1) (go h2 hl)
  | aload_n k =>
    obtain ⟨rfl, e2⟩ := e1 hg; rw [e2] at hd
    obtain ⟨a, h1, h2⟩ := ab_ldP.of h
    cases a with
    | none => exact lv_aload_nN hx hb hd rfl (hl.2.2.2 _ _ h1) (go h2 hl)
    | some a => exact lv_aload_n hx hb hd rfl (hl.2.2.2 _ _ h1) (go h2 hl)
  | aload k =>
    obtain ⟨rfl, e2⟩ := e1 hg; rw [e2] at hd
    obtain ⟨a, h1, h2⟩ := ab_ldP.of h
    cases a with
    | none => exact lv_aloadN hx hb hd (hl.2.2.2 _ _ h1) (go h2 hl)
    | some a => exact lv_aload hx hb hd (hl.2.2.2 _ _ h1) (go h2 hl)
  | lload_n k =>
    obtain ⟨rfl, e2⟩ := e1 hg; rw [e2] at hd
    obtain ⟨a, h1, h2⟩ := ab_ldL.of h
    exact lv_lload_n hx hb hd rfl (hl.2.2.2 _ _ h1) (go h2 hl)
  | lload k =>
    obtain ⟨rfl, e2⟩ := e1 hg; rw [e2] at hd
    obtain ⟨a, h1, h2⟩ := ab_ldL.of h
    exact lv_lload hx hb hd (hl.2.2.2 _ _ h1) (go h2 hl)
  | istore_n k =>
    obtain ⟨rfl, e2⟩ := e1 hg; rw [e2] at hd
    obtain ⟨a, r, rfl, h1⟩ := ab_i1.of h
    obtain ⟨h2, h3, h4⟩ := ab_st1.of h1
    exact lv_istore_n hx hb hd rfl hl.has (hl.2.2.1 ▸ h3) rfl (fun ls' h' => go h4 (hl.set1 h2 (hl.2.2.1 ▸ h3) h'))
  | istore k =>
    obtain ⟨rfl, e2⟩ := e1 hg; rw [e2] at hd
    obtain ⟨a, r, rfl, h1⟩ := ab_i1.of h
    obtain ⟨h2, h3, h4⟩ := ab_st1.of h1
    exact lv_istore hx hb hd hl.has (hl.2.2.1 ▸ h3) rfl (fun ls' h' => go h4 (hl.set1 h2 (hl.2.2.1 ▸ h3) h'))
  | astore_n k =>
    obtain ⟨rfl, e2⟩ := e1 hg; rw [e2] at hd
    obtain ⟨a, r, rfl, h1⟩ := ab_p1.of h
    obtain ⟨h2, h3, h4⟩ := ab_st1.of h1
    exact lv_astore_n hx hb hd rfl hl.has (hl.2.2.1 ▸ h3) rfl (fun ls' h' => go h4 (hl.set1 h2 (hl.2.2.1 ▸ h3) h'))
  | astore k =>
    obtain ⟨rfl, e2⟩ := e1 hg; rw [e2] at hd
    obtain ⟨a, r, rfl, h1⟩ := ab_p1.of h
    obtain ⟨h2, h3, h4⟩ := ab_st1.of h1
    exact lv_astore hx hb hd hl.has (hl.2.2.1 ▸ h3) rfl (fun ls' h' => go h4 (hl.set1 h2 (hl.2.2.1 ▸ h3) h'))
  | lstore_n k =>
    obtain ⟨rfl, e2⟩ := e1 hg; rw [e2] at hd
    obtain ⟨a, r, rfl, h1⟩ := ab_l1.of h
    obtain ⟨h2, h3, h4⟩ := ab_st2.of h1
    exact lv_lstore_n hx hb hd rfl hl.has (hl.2.2.1 ▸ h3) rfl (fun ls' h' => go h4 (hl.set2 h2 (hl.2.2.1 ▸ h3) h'))
  | lstore k =>
    obtain ⟨rfl, e2⟩ := e1 hg; rw [e2] at hd
    obtain ⟨a, r, rfl, h1⟩ := ab_l1.of h
    obtain ⟨h2, h3, h4⟩ := ab_st2.of h1
    exact lv_lstore hx hb hd hl.has (hl.2.2.1 ▸ h3) rfl (fun ls' h' => go h4 (hl.set2 h2 (hl.2.2.1 ▸ h3) h'))
  | iinc k n =>
    obtain ⟨rfl, e2⟩ := e1 hg; rw [e2] at hd
    obtain ⟨a, h0, h1⟩ := ab_ldI.of h
    obtain ⟨h2, h3, h4⟩ := ab_st1.of h1
    have hm : (k, Value.int (Int32.ofInt a)) ∈ ab_ll ad lv := ab_ll_in.mpr ⟨_, h0, rfl⟩
    obtain ⟨j, hj⟩ := List.getElem?_of_mem hm
    exact lv_iinc (v := Int32.ofInt (a + n)) hx hb hd hl.has hj (Int32.ofInt_add a n).symm (hl.2.2.1 ▸ h3) rfl (fun ls' h' => go h4 (hl.set1 h2 (hl.2.2.1 ▸ h3) h'))
  | iadd =>
    obtain ⟨rfl, e2⟩ := e1 hg; rw [show pc + ab_ln .iadd - pc = 1 from e2] at hd
    obtain ⟨a, b, r, rfl, h1⟩ := ab_i2.of h
    refine lv_iadd hx hb hd ?_
    rw [← Int32.ofInt_add]
    exact go h1 hl
  | isub =>
    obtain ⟨rfl, e2⟩ := e1 hg; rw [show pc + ab_ln .isub - pc = 1 from e2] at hd
    obtain ⟨a, b, r, rfl, h1⟩ := ab_i2.of h
    refine lv_isub hx hb hd ?_
    rw [← Int32.ofInt_sub]
    exact go h1 hl
  | imul =>
    obtain ⟨rfl, e2⟩ := e1 hg; rw [show pc + ab_ln .imul - pc = 1 from e2] at hd
    obtain ⟨a, b, r, rfl, h1⟩ := ab_i2.of h
    refine lv_imul hx hb hd ?_
    rw [← Int32.ofInt_mul]
    exact go h1 hl
  | ineg =>
    obtain ⟨rfl, e2⟩ := e1 hg; rw [show pc + ab_ln .ineg - pc = 1 from e2] at hd
    obtain ⟨a, r, rfl, h1⟩ := ab_i1.of h
    refine lv_ineg hx hb hd ?_
    rw [← Int32.ofInt_neg]
    exact go h1 hl
  | irem =>
    obtain ⟨rfl, e2⟩ := e1 hg; rw [show pc + ab_ln .irem - pc = 1 from e2] at hd
    obtain ⟨a, b, r, rfl, ⟨ha, hb', h0⟩, h1⟩ := ab_i2.of h
    refine lv_irem hx hb hd (fun q => h0 ((ab_eqI hb' ab_r0).mp q)) ?_
    rw [ab_rem ha hb']
    exact go h1 hl
  | ixor =>
    obtain ⟨rfl, e2⟩ := e1 hg; rw [show pc + ab_ln .ixor - pc = 1 from e2] at hd
    obtain ⟨a, b, r, rfl, h1⟩ := ab_i2.of h
    refine lv_ixor hx hb hd ?_
    have h2 := go h1 hl
    rwa [List.map_cons, show ab_c ad (.inl ((Int32.ofInt a ^^^ Int32.ofInt b).toInt)) = .int (Int32.ofInt a ^^^ Int32.ofInt b) by rw [ab_c, Int32.ofInt_toInt]] at h2
  | iand =>
    obtain ⟨rfl, e2⟩ := e1 hg; rw [show pc + ab_ln .iand - pc = 1 from e2] at hd
    obtain ⟨a, b, r, rfl, h1⟩ := ab_i2.of h
    refine lv_iand hx hb hd ?_
    have h2 := go h1 hl
    rwa [List.map_cons, show ab_c ad (.inl ((Int32.ofInt a &&& Int32.ofInt b).toInt)) = .int (Int32.ofInt a &&& Int32.ofInt b) by rw [ab_c, Int32.ofInt_toInt]] at h2
  | i2l =>
    obtain ⟨rfl, e2⟩ := e1 hg; rw [show pc + ab_ln .i2l - pc = 1 from e2] at hd
    obtain ⟨a, r, rfl, h1⟩ := ab_i1.of h
    exact lv_i2l hx hb hd rfl (go h1 hl)
  | l2i =>
    obtain ⟨rfl, e2⟩ := e1 hg; rw [show pc + ab_ln .l2i - pc = 1 from e2] at hd
    obtain ⟨a, r, rfl, h1⟩ := ab_l1.of h
    refine lv_l2i hx hb hd rfl ?_
    have h2 := go h1 hl
    rwa [List.map_cons, show ab_c ad (.inl (a.toInt32.toInt)) = .int a.toInt32 by rw [ab_c, Int32.ofInt_toInt]] at h2
  | i2c =>
    obtain ⟨rfl, e2⟩ := e1 hg; rw [show pc + ab_ln .i2c - pc = 1 from e2] at hd
    obtain ⟨a, r, rfl, ⟨h5, h6⟩, h1⟩ := ab_i1.of h
    refine lv_i2c (v := Int32.ofInt a) hx hb hd ?_ (go h1 hl)
    have h7 := (ab_narC h5 h6).1
    obtain ⟨n, rfl⟩ := Int.eq_ofNat_of_zero_le h5
    rw [pk_char]
    show nI ((nI n).toBitVec.toNat % 65536) = nI n
    rw [pk_tn (by omega), Nat.mod_eq_of_lt (by omega)]
  | land =>
    obtain ⟨rfl, e2⟩ := e1 hg; rw [show pc + ab_ln .land - pc = 1 from e2] at hd
    obtain ⟨a, b, r, rfl, h1⟩ := ab_l2.of h
    exact lv_land hx hb hd (go h1 hl)
  | lor =>
    obtain ⟨rfl, e2⟩ := e1 hg; rw [show pc + ab_ln .lor - pc = 1 from e2] at hd
    obtain ⟨a, b, r, rfl, h1⟩ := ab_l2.of h
    exact lv_lor hx hb hd (go h1 hl)
  | lcmp =>
    obtain ⟨rfl, e2⟩ := e1 hg; rw [show pc + ab_ln .lcmp - pc = 1 from e2] at hd
    obtain ⟨a, b, r, rfl, h1⟩ := ab_l2.of h
    refine W.lcmp hx hb hd ?_
    have h2 := go h1 hl
    rwa [List.map_cons, show ab_c ad (.inl ((lg_cmp a b).toInt)) = .int (lg_cmp a b) by rw [ab_c, Int32.ofInt_toInt]] at h2
  | lushr =>
    obtain ⟨rfl, e2⟩ := e1 hg; rw [show pc + ab_ln .lushr - pc = 1 from e2] at hd
    obtain ⟨a, b, r, rfl, h1⟩ := ab_li.of h
    exact lv_lushr hx hb hd rfl (go h1 hl)
  | lshl =>
    obtain ⟨rfl, e2⟩ := e1 hg; rw [show pc + ab_ln .lshl - pc = 1 from e2] at hd
    obtain ⟨a, b, r, rfl, h1⟩ := ab_li.of h
    exact lv_lshl hx hb hd rfl (go h1 hl)
  | dup =>
    obtain ⟨rfl, e2⟩ := e1 hg; rw [show pc + ab_ln .dup - pc = 1 from e2] at hd
    unfold ab_w at h
    dsimp only at h
    split at h
    · next v r =>
      split at h
      · next hv => exact lv_dup hx hb hd (ab_cat1 hv) (go h hl)
      · exact h.elim
    · exact h.elim
  | dup2 =>
    obtain ⟨rfl, e2⟩ := e1 hg; rw [show pc + ab_ln .dup2 - pc = 1 from e2] at hd
    unfold ab_w at h
    dsimp only at h
    split at h
    · next v w r =>
      split at h
      · next hv hw => exact lv_dup2_11 hx hb hd (ab_cat1 hv) (ab_cat1 hw) (go h hl)
      · exact h.elim
    · exact h.elim
  | pop =>
    obtain ⟨rfl, e2⟩ := e1 hg; rw [show pc + ab_ln .pop - pc = 1 from e2] at hd
    unfold ab_w at h
    dsimp only at h
    split at h
    · next v r =>
      split at h
      · next hv => exact lv_pop hx hb hd (ab_cat1 hv) (go h hl)
      · exact h.elim
    · exact h.elim
  | ifCond cnd o =>
    obtain ⟨h1, h2⟩ := ab_and hg
    have ht := of_decide_eq_true h1
    obtain ⟨rfl, e2⟩ := e1 h2; rw [e2] at hd
    obtain ⟨a, r, rfl, ha, h1⟩ := ab_i1.of h
    have q1 : Int32.ofInt a = 0 ↔ a = 0 := ab_eqI ha ab_r0
    have q2 : Int32.ofInt a < 0 ↔ a < 0 := ab_ltI ha ab_r0
    have q3 : 0 ≤ Int32.ofInt a ↔ 0 ≤ a := ab_leI ab_r0 ha
    have q4 : 0 < Int32.ofInt a ↔ 0 < a := ab_ltI ab_r0 ha
    have q5 : Int32.ofInt a ≤ 0 ↔ a ≤ 0 := ab_leI ha ab_r0
    rcases ab_br.of h1 with ⟨rfl, k1, k2⟩ | ⟨rfl, k1, k2⟩ | ⟨rfl, k1, k2⟩ | ⟨rfl, k1, k2⟩ | ⟨rfl, k1, k2⟩ | ⟨rfl, k1, k2⟩
    · exact lv_if_eq hx hb hd ht (fun z => go (k1 (q1.mp z)) hl) (fun z => go (k2 (fun y => z (q1.mpr y))) hl)
    · exact lv_if_ne hx hb hd ht (fun z => go (k1 (fun y => z (q1.mpr y))) hl) (fun z => go (k2 (q1.mp z)) hl)
    · exact lv_if_lt hx hb hd ht (fun z => go (k1 (q2.mp z)) hl) (fun z => go (k2 (fun y => z (q2.mpr y))) hl)
    · exact lv_if_ge hx hb hd ht (fun z => go (k1 (q3.mp z)) hl) (fun z => go (k2 (fun y => z (q3.mpr y))) hl)
    · exact lv_if_gt hx hb hd ht (fun z => go (k1 (q4.mp z)) hl) (fun z => go (k2 (fun y => z (q4.mpr y))) hl)
    · exact lv_if_le hx hb hd ht (fun z => go (k1 (q5.mp z)) hl) (fun z => go (k2 (fun y => z (q5.mpr y))) hl)
  | if_icmp cnd o =>
    obtain ⟨h1, h2⟩ := ab_and hg
    have ht := of_decide_eq_true h1
    obtain ⟨rfl, e2⟩ := e1 h2; rw [e2] at hd
    obtain ⟨a, b, r, rfl, ⟨ha, hbb⟩, h1⟩ := ab_i2.of h
    have q1 : Int32.ofInt a = Int32.ofInt b ↔ a = b := ab_eqI ha hbb
    have q2 : Int32.ofInt a < Int32.ofInt b ↔ a < b := ab_ltI ha hbb
    have q3 : Int32.ofInt b ≤ Int32.ofInt a ↔ b ≤ a := ab_leI hbb ha
    have q4 : Int32.ofInt b < Int32.ofInt a ↔ b < a := ab_ltI hbb ha
    have q5 : Int32.ofInt a ≤ Int32.ofInt b ↔ a ≤ b := ab_leI ha hbb
    rcases ab_br.of h1 with ⟨rfl, k1, k2⟩ | ⟨rfl, k1, k2⟩ | ⟨rfl, k1, k2⟩ | ⟨rfl, k1, k2⟩ | ⟨rfl, k1, k2⟩ | ⟨rfl, k1, k2⟩
    · exact lv_icmp_eq hx hb hd ht (fun z => go (k1 (q1.mp z)) hl) (fun z => go (k2 (fun y => z (q1.mpr y))) hl)
    · exact lv_icmp_ne hx hb hd ht (fun z => go (k1 (fun y => z (q1.mpr y))) hl) (fun z => go (k2 (q1.mp z)) hl)
    · exact lv_icmp_lt hx hb hd ht (fun z => go (k1 (q2.mp z)) hl) (fun z => go (k2 (fun y => z (q2.mpr y))) hl)
    · exact lv_icmp_ge hx hb hd ht (fun z => go (k1 (q3.mp z)) hl) (fun z => go (k2 (fun y => z (q3.mpr y))) hl)
    · exact lv_icmp_gt hx hb hd ht (fun z => go (k1 (q4.mp z)) hl) (fun z => go (k2 (fun y => z (q4.mpr y))) hl)
    · exact lv_icmp_le hx hb hd ht (fun z => go (k1 (q5.mp z)) hl) (fun z => go (k2 (fun y => z (q5.mpr y))) hl)
  | goto o =>
    obtain ⟨h1, h2⟩ := ab_and hg
    have ht := of_decide_eq_true h1
    obtain ⟨rfl, e2⟩ := e1 h2; rw [e2] at hd
    exact lv_goto hx hb hd ht (go h hl)
  | _ => first | exact (show False from h).elim | cases hpu
end ABS
end
section
section ABT
variable {p : Program} {l : Launch} {e : Env} {R : Room} {s : State} {m : MethodId} {args : Array Value} {below : List Frame} {meth : Method} {c : Code} {own : String} {cc : ByteArray} {nL : Nat} {G : ab_G} {ad : Nat → Nat} {A : Nat → Prop} {N cells slots : Nat} {Qw : State → Prop} {E : ab_E} {Qr : ab_Q} {K : ab_K}
theorem ab_s_getf (X : ab_X own cc nL p s m args meth c G) (hT : ab_okT own E.1 = true) {pc nx ix : Nat} {tg : List (Int × Nat)} (hq : ab_okI cc (pc, .getfield ix, nx, tg) = true) {lv : ab_L} {st : List ab_V} {cs : List ab_C}
    (h : ab_w E Qr K (pc, .getfield ix, nx, tg) lv st cs) (hK : ∀ pc' lv' st' cs', K pc' lv' st' cs' → ab_W p l e R s m args below meth c nL G ad A N cells slots Qw pc' lv' st' cs') : ab_W p l e R s m args below meth c nL G ad A N cells slots Qw pc lv st cs := by
  obtain ⟨hx, hb, hml, hown, hts, hKK, hlk⟩ := id X
  obtain ⟨hd0, hg⟩ := ab_and hq
  have hd : decode cc pc = .ok (.getfield ix, nx - pc) := of_decide_eq_true hd0
  have e1 : nx = pc + 3 := Nat.eq_of_beq_eq_true hg
  subst e1
  rw [show pc + 3 - pc = 3 by omega] at hd
  intro hN H locs ls hP hS hl
  obtain ⟨k, r, rfl, h1⟩ := ab_p1.of h
  obtain ⟨ci, fi, nest, ty, fs, v, g1, g2, g3, g4⟩ := ab_getf.of h1
  have h3 := List.all_eq_true.mp (ab_and hT).1 _ (ab_look_in g1)
  unfold ab_okF at h3
  dsimp only at h3
  split at h3
  · next C T NN hC =>
    obtain ⟨h4, h5⟩ := ab_and h3
    obtain ⟨h6, h7⟩ := ab_and h4
    have hk : fi < NN := of_decide_eq_true h6
    obtain ⟨w1, -, -⟩ := ab_clf hC
    have he := ab_cs_at (G := G) (ad := ad) g2
    have hv : (fs.map (ab_c ad))[fi]? = some (ab_c ad v) := by rw [List.getElem?_map, g3]; rfl
    cases nest with
    | true =>
      have hw : Jvm.Cond.fieldLinkNest own ix (T fi).1 (T fi).2.1 (T fi).2.2.1 "RootChunks" ∈ ab_nw := of_decide_eq_true h7
      exact va_getN hx hb hts w1 hown hKK.1 hP k he hC fi hk (va_Nw.use rfl (hKK.2 _ hw)) (fun _ q => q) hv hd (hK _ _ _ _ g4 hN H locs ls hP hS hl)
    | false =>
      exact va_get hx hb hts w1 hown hKK.1 hP k he hC fi hk (hts _ (ab_inB.to h7)) (fun _ q => q) hv hd (hK _ _ _ _ g4 hN H locs ls hP hS hl)
  · cases h3
theorem ab_s_putf (X : ab_X own cc nL p s m args meth c G) (hT : ab_okT own E.1 = true) (hD : ab_Dn A ad N) {pc nx ix : Nat} {tg : List (Int × Nat)} (hq : ab_okI cc (pc, .putfield ix, nx, tg) = true) {lv : ab_L} {st : List ab_V} {cs : List ab_C}
    (h : ab_w E Qr K (pc, .putfield ix, nx, tg) lv st cs) (hK : ∀ pc' lv' st' cs', K pc' lv' st' cs' → ab_W p l e R s m args below meth c nL G ad A N cells slots Qw pc' lv' st' cs') : ab_W p l e R s m args below meth c nL G ad A N cells slots Qw pc lv st cs := by
  obtain ⟨hx, hb, hml, hown, hts, hKK, hlk⟩ := id X
  obtain ⟨hd0, hg⟩ := ab_and hq
  have hd : decode cc pc = .ok (.putfield ix, nx - pc) := of_decide_eq_true hd0
  have e1 : nx = pc + 3 := Nat.eq_of_beq_eq_true hg
  subst e1
  rw [show pc + 3 - pc = 3 by omega] at hd
  intro hN H locs ls hP hS hl
  unfold ab_w at h
  dsimp only at h
  split at h
  · next v k r =>
    obtain ⟨ci, fi, nest, ty, fs, g1, g2, g3, g4⟩ := ab_putf.of h
    obtain ⟨t1, g5, g6⟩ := ab_fit.of g4
    have h3 := List.all_eq_true.mp (ab_and hT).1 _ (ab_look_in g1)
    unfold ab_okF at h3
    dsimp only at h3
    split at h3
    · next C T NN hC =>
      obtain ⟨h4, h5⟩ := ab_and h3
      obtain ⟨h6, h7⟩ := ab_and h4
      have hk : fi < NN := of_decide_eq_true h6
      obtain ⟨w1, ⟨ty0, w2⟩, w3⟩ := ab_clf hC
      have he := ab_cs_at (G := G) (ad := ad) g2
      have hb3 : Nat.ble 3 ty = false := by
        cases hz : Nat.ble 3 ty with
        | false => rfl
        | true => have := Nat.le_of_ble_eq_true hz; omega
      rw [hb3, Bool.false_or] at h5
      obtain ⟨h8, h9⟩ := ab_and h5
      have hd5 := of_decide_eq_true h8
      have hfin : (T fi).2.2.2 = false := by
        cases hz : (T fi).2.2.2 with
        | false => rfl
        | true => rw [hz] at h9; cases h9
      have kk : ∀ (H1 : Heap) (locs1 : List Loc), va_P G.1 vwCl ((ab_cs G ad cs).set k (ad k, .inr (ci, (fs.map (ab_c ad)).set fi (ab_c ad v)))) H1 → va_D A ((ab_cs G ad cs).set k (ad k, .inr (ci, (fs.map (ab_c ad)).set fi (ab_c ad v)))) → va_S A s.heap H1 locs1 → W p l e R s m args below meth c H1 locs1 cells slots Qw (F0 m (pc + 3) ls (r.map (ab_c ad))) := by
        intro H1 locs1 hP1 hD1 hS1
        have e5 : ((ab_cs G ad cs).set k (ad k, .inr (ci, (fs.map (ab_c ad)).set fi (ab_c ad v)))) = ab_cs G ad (cs.set k (.inl (ci, fs.set fi v))) := by
          rw [← ab_cs_set, ab_e, List.map_set]
        rw [e5] at hP1
        exact hK _ _ _ _ g5 (by rw [List.length_set]; exact hN) H1 locs1 ls hP1 hS1 hl
      cases nest with
      | true =>
        have hw : Jvm.Cond.fieldLinkNest own ix (T fi).1 (T fi).2.1 (T fi).2.2.1 "RootChunks" ∈ ab_nw := of_decide_eq_true h7
        exact va_putN hx hb hts w1 ty0 w2 w3 hown hKK.1 hP (hD.to hN) hS k he hC fi hk (va_Nw.use rfl (hKK.2 _ hw)) (fun _ q => q) hfin hd5 (g6 ad).1 (g6 ad).2 (by rw [List.length_map]; exact g3) hd kk
      | false =>
        exact va_put hx hb hts w1 ty0 w2 w3 hown hKK.1 hP (hD.to hN) hS k he hC fi hk (hts _ (ab_inB.to h7)) (fun _ q => q) hfin hd5 (g6 ad).1 (g6 ad).2 (by rw [List.length_map]; exact g3) hd kk
    · cases h3
  · exact h.elim
theorem ab_cs_arr {cs : List ab_C} {k t n : Nat} {g : Int → Int} (h : cs[k]? = some (.inr (.inl (t, n, g)))) : (ab_cs G ad cs)[k]? = some (ad k, .inl (G.2 t, n, .inl (fun j => Int32.ofInt (g j)))) := ab_cs_at h
theorem ab_s_arr (X : ab_X own cc nL p s m args meth c G) (hD : ab_Dn A ad N) {pc nx : Nat} {i : Instr} {tg : List (Int × Nat)} (hq : ab_okI cc (pc, i, nx, tg) = true) {lv : ab_L} {st : List ab_V} {cs : List ab_C}
    (hi : i = .iaload ∨ i = .caload ∨ i = .baload ∨ i = .iastore ∨ i = .castore ∨ i = .bastore ∨ i = .aaload ∨ i = .aastore ∨ i = .arraylength)
    (h : ab_w E Qr K (pc, i, nx, tg) lv st cs) (hK : ∀ pc' lv' st' cs', K pc' lv' st' cs' → ab_W p l e R s m args below meth c nL G ad A N cells slots Qw pc' lv' st' cs') : ab_W p l e R s m args below meth c nL G ad A N cells slots Qw pc lv st cs := by
  obtain ⟨hx, hb, hml, hown, hts, hKK, hlk⟩ := id X
  obtain ⟨hd0, hg⟩ := ab_and hq
  have hd : decode cc pc = .ok (i, nx - pc) := of_decide_eq_true hd0
  have e1 : nx = pc + 1 := by rcases hi with rfl | rfl | rfl | rfl | rfl | rfl | rfl | rfl | rfl <;> exact Nat.eq_of_beq_eq_true hg
  subst e1
  rw [show pc + 1 - pc = 1 by omega] at hd
  intro hN H locs ls hP hS hl
  have wr : ∀ {k t n : Nat} {g : Int → Int} {i x : Int} {r : List ab_V}, 0 ≤ i → i < n → n < 1000000 → K (pc + 1) lv r (cs.set k (.inr (.inl (t, n, ab_up g i x)))) →
      ∀ (H1 : Heap) (locs1 : List Loc), va_P G.1 vwCl ((ab_cs G ad cs).set k (ad k, .inl (G.2 t, n, .inl (upd (fun j : Nat => Int32.ofInt (g j)) (Int32.ofInt i).toNatClampNeg (Int32.ofInt x))))) H1 → va_S A s.heap H1 locs1 → W p l e R s m args below meth c H1 locs1 cells slots Qw (F0 m (pc + 1) ls (r.map (ab_c ad))) := by
    intro k t n g i x r h0 h1 h2 hk H1 locs1 hP1 hS1
    rw [← ab_upE g i x h0 ⟨by omega, by omega⟩] at hP1
    have e5 : ((ab_cs G ad cs).set k (ad k, .inl (G.2 t, n, .inl (fun j : Nat => Int32.ofInt (ab_up g i x j))))) = ab_cs G ad (cs.set k (.inr (.inl (t, n, ab_up g i x)))) := ab_cs_set G ad cs k (.inr (.inl (t, n, ab_up g i x)))
    rw [e5] at hP1
    exact hK _ _ _ _ hk (by rw [List.length_set]; exact hN) H1 locs1 ls hP1 hS1 hl
  rcases hi with rfl | rfl | rfl | rfl | rfl | rfl | rfl | rfl | rfl
  · obtain ⟨k, i, r, rfl, h1⟩ := ab_pi.of h
    obtain ⟨n, g, h2, h3, ⟨h4, h5⟩, h6⟩ := ab_arr.of h1
    obtain ⟨h7, h8⟩ := ab_in h4 h5 (by omega)
    refine va_iald hx hb hKK.1 hP k 0 (ab_cs_arr h2) rfl h7 hd ?_
    have h9 := hK _ _ _ _ h6 hN H locs ls hP hS hl
    show W p l e R s m args below meth c H locs cells slots Qw (F0 m (pc + 1) ls (.int (Int32.ofInt (g ((Int32.ofInt i).toNatClampNeg : Nat))) :: r.map (ab_c ad)))
    rw [h8]
    exact h9
  · obtain ⟨k, i, r, rfl, h1⟩ := ab_pi.of h
    obtain ⟨n, g, h2, h3, ⟨h4, h5⟩, h6⟩ := ab_arr.of h1
    obtain ⟨h7, h8⟩ := ab_in h4 h5 (by omega)
    refine va_cald hx hb hKK.1 hP k 1 (ab_cs_arr h2) rfl h7 hd ?_
    have h9 := hK _ _ _ _ h6 hN H locs ls hP hS hl
    show W p l e R s m args below meth c H locs cells slots Qw (F0 m (pc + 1) ls (.int (Int32.ofInt (g ((Int32.ofInt i).toNatClampNeg : Nat))) :: r.map (ab_c ad)))
    rw [h8]
    exact h9
  · obtain ⟨k, i, r, rfl, h1⟩ := ab_pi.of h
    obtain ⟨n, g, h2, h3, ⟨h4, h5⟩, h6⟩ := ab_arr.of h1
    obtain ⟨h7, h8⟩ := ab_in h4 h5 (by omega)
    refine va_zald hx hb hKK.1 hP k 2 (ab_cs_arr h2) rfl h7 hd ?_
    have h9 := hK _ _ _ _ h6 hN H locs ls hP hS hl
    show W p l e R s m args below meth c H locs cells slots Qw (F0 m (pc + 1) ls (.int (Int32.ofInt (g ((Int32.ofInt i).toNatClampNeg : Nat))) :: r.map (ab_c ad)))
    rw [h8]
    exact h9
  · obtain ⟨k, i, x, r, rfl, h1⟩ := ab_pii.of h
    obtain ⟨n, g, h2, h3, ⟨h4, h5⟩, h6⟩ := ab_arr.of h1
    obtain ⟨h7, h8⟩ := ab_in h4 h5 (by omega)
    exact va_iast hx hb hKK.1 hP (hD.to hN) hS k 0 (ab_cs_arr h2) rfl h7 hd (fun H1 locs1 hP1 hD1 hS1 => wr h4 h5 h3 h6 H1 locs1 hP1 hS1)
  · obtain ⟨k, i, x, r, rfl, h1⟩ := ab_pii.of h
    obtain ⟨n, g, h2, h3, ⟨h4, h5, h5a, h5b⟩, h6⟩ := ab_arr.of h1
    obtain ⟨h7, h8⟩ := ab_in h4 h5 (by omega)
    have e6 : vp_nar .char (Int32.ofInt x) = Int32.ofInt x := by unfold vp_nar; rw [(ab_narC h5a h5b).1]
    refine va_cast hx hb hKK.1 hP (hD.to hN) hS k 1 (ab_cs_arr h2) rfl h7 hd (fun H1 locs1 hP1 hD1 hS1 => ?_)
    rw [e6] at hP1
    exact wr h4 h5 h3 h6 H1 locs1 hP1 hS1
  · obtain ⟨k, i, x, r, rfl, h1⟩ := ab_pii.of h
    obtain ⟨n, g, h2, h3, ⟨h4, h5, h5a⟩, h6⟩ := ab_arr.of h1
    obtain ⟨h7, h8⟩ := ab_in h4 h5 (by omega)
    have e6 : vp_nar .boolean (Int32.ofInt x) = Int32.ofInt x := by unfold vp_nar; rw [(ab_narB h5a).1]
    refine va_zast hx hb hKK.1 hP (hD.to hN) hS k 2 (ab_cs_arr h2) rfl h7 hd (fun H1 locs1 hP1 hD1 hS1 => ?_)
    rw [e6] at hP1
    exact wr h4 h5 h3 h6 H1 locs1 hP1 hS1
  · obtain ⟨k, i, r, rfl, h1⟩ := ab_pi.of h
    obtain ⟨g, h2, h3, ⟨h4, h5⟩, h6⟩ := ab_rarr.of h1
    obtain ⟨h7, h8⟩ := ab_in h4 h5 (by omega)
    refine va_aldq (C := "RootChunks$Row") hx hb hKK.1 hP k 3 (ab_cs_at h2) rfl h7 hd ?_
    have h9 := hK _ _ _ _ h6 hN H locs ls hP hS hl
    rw [show i.toNat = (Int32.ofInt i).toNatClampNeg by omega] at h9
    exact h9
  · unfold ab_w at h
    dsimp only at h
    split at h
    · next v i k r =>
      obtain ⟨g, h2, h3, h1⟩ := ab_rarr.of h
      obtain ⟨fs, hv, ⟨h4, h5⟩, h6⟩ := ab_obj.of h1
      obtain ⟨h7, h8⟩ := ab_in h4 h5 (by omega)
      refine va_astq (r := (RX1, TX1, 7)) hx hb hKK.1 hP (hD.to hN) hS k 3 v 1 (ab_cs_at h2) rfl (ab_cs_at hv) rfl h7 hd (fun H1 locs1 hP1 hD1 hS1 => ?_)
      refine hK _ _ _ _ h6 (by rw [List.length_set]; exact hN) H1 locs1 ls ?_ hS1 hl
      rw [← ab_cs_set]
      have e7 : ab_e G ad (.inr (.inr (g.set i.toNat (some v)))) = .inl (G.2 3, g.length, .inr (.inr (.inr (.inr (va_up (fun j => (g.getD j none).map ad) (Int32.ofInt i).toNatClampNeg (some (ad v))))))) := by
        have ef : (fun j : Nat => ((g.set i.toNat (some v)).getD j none).map ad) = va_up (fun j => (g.getD j none).map ad) (Int32.ofInt i).toNatClampNeg (some (ad v)) := by
          funext j
          unfold va_up
          rw [show (Int32.ofInt i).toNatClampNeg = i.toNat by omega, List.getD_eq_getElem?_getD, List.getElem?_set]
          by_cases hj : j = i.toNat
          · subst hj
            rw [if_pos rfl, if_pos rfl, if_pos (by omega)]
            rfl
          · rw [if_neg (fun q => hj q.symm), if_neg hj, ← List.getD_eq_getElem?_getD]
        show (Sum.inl (G.2 3, (g.set i.toNat (some v)).length, .inr (.inr (.inr (.inr (fun j : Nat => ((g.set i.toNat (some v)).getD j none).map ad))))) : va_E) = _
        rw [ef, List.length_set]
      rw [e7]
      exact hP1
    · exact h.elim
  · obtain ⟨k, r, rfl, h1⟩ := ab_p1.of h
    unfold ab_len at h1
    split at h1
    · next t n g h2 =>
      split at h1
      · next ht =>
        have ht3 := Nat.le_of_ble_eq_true ht
        have hty : ∃ ty, (ab_tys G)[t]? = some (G.2 t, ty) := by
          rcases (by omega : t = 0 ∨ t = 1 ∨ t = 2) with rfl | rfl | rfl
          · exact ⟨_, rfl⟩
          · exact ⟨_, rfl⟩
          · exact ⟨_, rfl⟩
        obtain ⟨ty, hty⟩ := hty
        exact va_alen (x := (n, .inl (fun j => Int32.ofInt (g j)))) hx hb hKK.1 hP k t (ab_cs_at h2) hty rfl hd (hK _ _ _ _ h1 hN H locs ls hP hS hl)
      · exact h1.elim
    · next g h2 =>
      exact va_alen (x := (g.length, .inr (.inr (.inr (.inr (fun j => (g.getD j none).map ad)))))) hx hb hKK.1 hP k 3 (ab_cs_at h2) rfl rfl hd (hK _ _ _ _ h1 hN H locs ls hP hS hl)
    · exact h1.elim
end ABT
end
section
section ABU
variable {p : Program} {l : Launch} {e : Env} {R : Room} {s : State} {m : MethodId} {args : Array Value} {below : List Frame} {meth : Method} {c : Code} {own : String} {cc : ByteArray} {nL : Nat} {G : ab_G} {ad : Nat → Nat} {A : Nat → Prop} {N cells slots : Nat} {Qw : State → Prop} {E : ab_E} {Qr : ab_Q} {K : ab_K}
theorem ab_s_sw (X : ab_X own cc nL p s m args meth c G) {pc nx : Nat} {d lo hi : Int} {offs : Array Int} {tg : List (Int × Nat)} (hq : ab_okI cc (pc, .tableswitch d lo hi offs, nx, tg) = true) {lv : ab_L} {st : List ab_V} {cs : List ab_C}
    (h : ab_w E Qr K (pc, .tableswitch d lo hi offs, nx, tg) lv st cs) (hK : ∀ pc' lv' st' cs', K pc' lv' st' cs' → ab_W p l e R s m args below meth c nL G ad A N cells slots Qw pc' lv' st' cs') : ab_W p l e R s m args below meth c nL G ad A N cells slots Qw pc lv st cs := by
  obtain ⟨hx, hb, hml, hown, hts, hKK, hlk⟩ := id X
  obtain ⟨hd0, hg⟩ := ab_and hq
  have hd : decode cc pc = .ok (.tableswitch d lo hi offs, nx - pc) := of_decide_eq_true hd0
  obtain ⟨b1, hg⟩ := ab_and hg
  obtain ⟨b2, hg⟩ := ab_and hg
  obtain ⟨b3, hg⟩ := ab_and hg
  obtain ⟨b4, b5⟩ := ab_and hg
  have b1 := of_decide_eq_true b1
  have b2 := of_decide_eq_true b2
  have b3 := of_decide_eq_true b3
  have b4 := List.all_eq_true.mp b4
  intro hN H locs ls hP hS hl
  obtain ⟨a, r, rfl, ha, h1⟩ := ab_i1.of h
  rcases ab_sw.of h1 with ⟨j, t, h2, h3⟩ | ⟨h2, h3⟩
  · rw [b3, List.getElem?_map] at h2
    cases hj : (List.range offs.size)[j]? with
    | none => rw [hj] at h2; cases h2
    | some j' =>
      rw [hj] at h2
      have hjl : j < offs.size := by have := ab_lt_of hj; rwa [List.length_range] at this
      rw [List.getElem?_range hjl] at hj
      have hj := Option.some.inj hj
      subst hj
      have h4 := Option.some.inj h2
      have h5 : lo + (j : Int) = a := congrArg Prod.fst h4
      have h6 : ((pc : Int) + offs.getD j 0).toNat = t := congrArg Prod.snd h4
      have h7 : offs.getD j 0 = offs[j] := by rw [Array.getD_eq_getD_getElem?, Array.getElem?_eq_getElem hjl]; rfl
      have h8 : 0 ≤ (pc : Int) + offs[j] := of_decide_eq_true (b4 _ (Array.mem_toList_iff.mpr (Array.getElem_mem hjl)))
      refine lv_tableIn (off := offs[j]) (tgt := t) hx hb hd (by rw [ab_toI ha]; omega) (by rw [ab_toI ha]; omega) ?_ ?_ (hK _ _ _ _ h3 hN H locs ls hP hS hl)
      · rw [ab_toI ha, show (a - lo).toNat = j by omega, Array.getElem?_eq_getElem hjl]
      · rw [← h6, h7]; omega
  · refine lv_tableOut hx hb hd ?_ b2 (hK _ _ _ _ h3 hN H locs ls hP hS hl)
    rw [ab_toI ha]
    by_cases q1 : a < lo
    · exact Or.inl q1
    · by_cases q2 : hi < a
      · exact Or.inr q2
      · exfalso
        have hjl : (a - lo).toNat < offs.size := by omega
        refine h2 (a, ((pc : Int) + offs.getD (a - lo).toNat 0).toNat) ?_ rfl
        rw [b3]
        refine List.mem_map.mpr ⟨(a - lo).toNat, List.mem_range.mpr hjl, ?_⟩
        rw [show lo + (((a - lo).toNat : Nat) : Int) = a by omega]
theorem ab_s_ret (X : ab_X own cc nL p s m args meth c G) (hrt : meth.sig.returnType = ab_rty E.2.2.2) {pc nx : Nat} {i : Instr} {tg : List (Int × Nat)} (hq : ab_okI cc (pc, i, nx, tg) = true) {lv : ab_L} {st : List ab_V} {cs : List ab_C} (hi : i = .ireturn ∨ i = .return_)
    (h : ab_w E Qr K (pc, i, nx, tg) lv st cs) : ab_W p l e R s m args below meth c nL G ad A N cells slots (MQ below (ab_Post G ad Qr N A) args s cells slots A) pc lv st cs := by
  obtain ⟨hx, hb, hml, hown, hts, hKK, hlk⟩ := id X
  obtain ⟨hd0, hg⟩ := ab_and hq
  have hd : decode cc pc = .ok (i, nx - pc) := of_decide_eq_true hd0
  have e1 : nx = pc + 1 := by rcases hi with rfl | rfl <;> exact Nat.eq_of_beq_eq_true hg
  subst e1
  rw [show pc + 1 - pc = 1 by omega] at hd
  intro hN H locs ls hP hS hl
  have po : ∀ (r : Option ab_V), Qr r cs → ∀ t : State, t.heap = H → s.WarmedH t.vm → ab_Post G ad Qr N A args s (.returned (r.map (ab_c ad))) t := fun r hr t ht _ =>
    ⟨⟨r, cs, rfl, hr, hN, by rw [ht]; exact hP⟩, hS.F ht⟩
  rcases hi with rfl | rfl
  · unfold ab_w at h
    dsimp only at h
    split at h
    · next a =>
      unfold ab_rt at h
      split at h
      · next e0 =>
        rw [e0] at hrt
        exact W.iret hx hb hrt (po _ h) hS.2.2 hd hlk
      · next e0 =>
        rw [e0] at hrt
        exact W.zret hx hb hrt (ab_narC h.1.1 h.1.2).1 (po _ h.2) hS.2.2 hd hlk
      · next e0 =>
        rw [e0] at hrt
        exact W.zret hx hb hrt (ab_narB h.1).1 (po _ h.2) hS.2.2 hd hlk
      · exact h.elim
    · exact h.elim
  · unfold ab_w at h
    dsimp only at h
    split at h
    · split at h
      · next e0 =>
        rw [Nat.eq_of_beq_eq_true e0] at hrt
        exact W.vret hx hb hrt (po _ h) hS.2.2 hd hlk
      · exact h.elim
    · exact h.elim
/-- behind a call -/
theorem ab_tail {H : Heap} {locs : List Loc} {pc : Nat} {ls : Array Slot} {st0 rest : List Value} {av : Array Value} {ad' : Nat → Nat} {Q0 : ab_Q} {N' : Nat} {A' : Nat → Prop} (hr : va_Run p l e R s m args below meth c H locs cells slots 0 0 (F0 m pc ls st0) rest (ab_Post G ad' Q0 N' A' av) A') (hS : va_S A s.heap H locs) (hA : ∀ q, A' q → A q)
    (kk : ∀ (r : Option ab_V) (cs' : List ab_C) (H1 : Heap) (locs1 : List Loc), Q0 r cs' → cs'.length = N' → va_P G.1 vwCl (ab_cs G ad' cs') H1 → (∀ q : Nat, q < H.size → ¬ A' q → H1[q]? = H[q]?) → va_S A s.heap H1 locs1 → W p l e R s m args below meth c H1 locs1 cells slots Qw (F0 m (pc + 3) ls ((r.map (ab_c ad')).toList ++ rest))) : W p l e R s m args below meth c H locs cells slots Qw (F0 m pc ls st0) := by
  intro T hT X
  obtain ⟨v, st₀, t, T', L, h0, X', hL, e1, e2, ⟨⟨r, cs', hv, hq, hn, hp⟩, hz, hk⟩, st⟩ := hr T hT X
  cases hv
  rw [h0] at hz hk
  obtain ⟨t2, a1, b1⟩ := kk r cs' T'.heap (locs ++ L) hq hn (by rw [e1]; exact hp) (fun q h1 h2 => by rw [e1]; exact hk q h1 h2)
    ⟨Nat.le_trans hS.1 (by rw [e1]; exact hz), fun q h1 h2 => by rw [e1, hk q (Nat.lt_of_lt_of_le h1 hS.1) (fun z => h2 (hA q z))]; exact hS.2.1 q h1 h2, fun q hq => by
      rcases List.mem_append.mp hq with h | h
      · exact hS.2.2 q h
      · exact hA _ (hL q h)⟩ T' rfl X'
  exact ⟨t2, st t2 a1, b1⟩
end ABU
/-! the callee's places -/
theorem ab_pos_get : ∀ {is : List Nat} {k : Nat}, ab_pos is k < is.length → is.getD (ab_pos is k) 0 = k
  | [], _, h => by cases h
  | a :: l, k, h => by
    unfold ab_pos at h ⊢
    split at h
    · next e => exact Nat.eq_of_beq_eq_true e
    · next e =>
      have h2 : ab_pos l k < l.length := Nat.lt_of_succ_lt_succ h
      exact ab_pos_get h2
theorem ab_pos_lt : ∀ {is : List Nat} {k : Nat}, k ∈ is → ab_pos is k < is.length
  | a :: l, k, h => by
    unfold ab_pos
    split
    · exact Nat.succ_pos _
    · next e =>
      rcases List.mem_cons.mp h with rfl | h
      · have := Nat.beq_refl k; rw [e] at this; cases this
      · exact Nat.succ_lt_succ (ab_pos_lt h)
theorem ab_nd_ne : ∀ {is : List Nat}, ab_nd is = true → ∀ (i j k : Nat), is[i]? = some k → is[j]? = some k → i = j
  | [], _, i, j, k, h, _ => by cases h
  | a :: l, hn, i, j, k, h1, h2 => by
    unfold ab_nd at hn
    split at hn
    · cases hn
    · next e =>
      have hm : a ∉ l := fun hm => by
        have := ab_pos_lt hm
        have h3 : Nat.blt (ab_pos l a) l.length = true := Nat.ble_eq.mpr this
        rw [e] at h3
        cases h3
      match i, j with
      | 0, 0 => rfl
      | 0, j + 1 =>
        have e1 : a = k := Option.some.inj h1
        have h2' : l[j]? = some k := h2
        exact absurd (List.mem_of_getElem? h2') (e1 ▸ hm)
      | i + 1, 0 =>
        have e1 : a = k := Option.some.inj h2
        have h1' : l[i]? = some k := h1
        exact absurd (List.mem_of_getElem? h1') (e1 ▸ hm)
      | i + 1, j + 1 =>
        have := ab_nd_ne hn i j k h1 h2
        omega
theorem ab_unV_c {is : List Nat} {ad : Nat → Nat} {v : ab_V} (h : ab_okV is v = true) : ab_c (fun j => ad (is.getD j 0)) (ab_unV is v) = ab_c ad v := by
  rcases v with n | ⟨⟨⟩ | k⟩ | L
  · rfl
  · rfl
  · have h1 : ab_pos is k < is.length := Nat.le_of_ble_eq_true h
    show va_rf (some (ad (is.getD (ab_pos is k) 0))) = va_rf (some (ad k))
    rw [ab_pos_get h1]
  · rfl
theorem ab_reV_c {is : List Nat} {ad : Nat → Nat} (v : ab_V) : ab_c (fun j => ad (is.getD j 0)) v = ab_c ad (ab_reV is v) := by
  rcases v with n | ⟨⟨⟩ | k⟩ | L <;> rfl
theorem ab_unC_e {is : List Nat} {G : ab_G} {ad : Nat → Nat} {x : ab_C} (h : ab_okC is x = true) : ab_e G (fun j => ad (is.getD j 0)) (ab_unC is x) = ab_e G ad x := by
  rcases x with ⟨ci, fs⟩ | a | q
  · show (Sum.inr (ci, (fs.map (ab_unV is)).map (ab_c (fun j => ad (is.getD j 0)))) : va_E) = Sum.inr (ci, fs.map (ab_c ad))
    rw [List.map_map]
    congr 2
    refine List.map_congr_left (fun v hv => ?_)
    exact ab_unV_c (List.all_eq_true.mp h v hv)
  · rfl
  · show (Sum.inl (G.2 3, (q.map (fun o => o.map (fun k => ab_pos is k))).length, .inr (.inr (.inr (.inr (fun j : Nat => ((q.map (fun o => o.map (fun k => ab_pos is k))).getD j none).map (fun j => ad (is.getD j 0))))))) : va_E) = Sum.inl (G.2 3, q.length, .inr (.inr (.inr (.inr (fun j : Nat => (q.getD j none).map ad)))))
    rw [List.length_map]
    have ef : (fun j : Nat => ((q.map (fun o => o.map (fun k => ab_pos is k))).getD j none).map (fun j => ad (is.getD j 0))) = (fun j : Nat => (q.getD j none).map ad) := by
      funext j
      rw [List.getD_eq_getElem?_getD, List.getD_eq_getElem?_getD, List.getElem?_map]
      cases hj : q[j]? with
      | none => rfl
      | some o =>
        cases o with
        | none => rfl
        | some k =>
          have h1 := List.all_eq_true.mp h _ (List.mem_of_getElem? hj)
          have h2 : ab_pos is k < is.length := Nat.le_of_ble_eq_true h1
          show some (ad (is.getD (ab_pos is k) 0)) = some (ad k)
          rw [ab_pos_get h2]
    rw [ef]
theorem ab_reC_e {is : List Nat} {G : ab_G} {ad : Nat → Nat} (x : ab_C) : ab_e G (fun j => ad (is.getD j 0)) x = ab_e G ad (ab_reC is x) := by
  rcases x with ⟨ci, fs⟩ | a | q
  · show (Sum.inr (ci, fs.map (ab_c (fun j => ad (is.getD j 0)))) : va_E) = Sum.inr (ci, (fs.map (ab_reV is)).map (ab_c ad))
    rw [List.map_map]
    congr 2
    exact List.map_congr_left (fun v _ => ab_reV_c v)
  · rfl
  · show (Sum.inl (G.2 3, q.length, .inr (.inr (.inr (.inr (fun j : Nat => (q.getD j none).map (fun j => ad (is.getD j 0))))))) : va_E) = Sum.inl (G.2 3, (q.map (fun o => o.map (fun k => is.getD k 0))).length, .inr (.inr (.inr (.inr (fun j : Nat => ((q.map (fun o => o.map (fun k => is.getD k 0))).getD j none).map ad)))))
    rw [List.length_map]
    have ef : (fun j : Nat => (q.getD j none).map (fun j => ad (is.getD j 0))) = (fun j : Nat => ((q.map (fun o => o.map (fun k => is.getD k 0))).getD j none).map ad) := by
      funext j
      rw [List.getD_eq_getElem?_getD, List.getD_eq_getElem?_getD, List.getElem?_map]
      cases hj : q[j]? with
      | none => rfl
      | some o => cases o <;> rfl
    rw [ef]
theorem ab_pick_len : ∀ {is : List Nat} {cs : List ab_C}, (ab_pick cs is).length ≤ is.length
  | [], _ => Nat.le_refl 0
  | i :: is, cs => by
    unfold ab_pick
    split
    · exact Nat.succ_le_succ ab_pick_len
    · exact Nat.le_succ_of_le ab_pick_len
/-- where all places are places, the cells picked are theirs -/
theorem ab_pick_at : ∀ {is : List Nat} {cs : List ab_C}, (ab_pick cs is).length = is.length → ∀ (j : Nat) (x : ab_C), (ab_pick cs is)[j]? = some x → ∃ k, is[j]? = some k ∧ cs[k]? = some x
  | [], _, _, j, x, h => by cases h
  | i :: is, cs, hl, j, x, h => by
    unfold ab_pick at hl h
    split at hl
    · next y hy =>
      rw [hy] at h
      match j with
      | 0 =>
        have e : y = x := Option.some.inj h
        subst e
        exact ⟨i, rfl, hy⟩
      | j + 1 => exact ab_pick_at (is := is) (Nat.succ.inj hl) j x h
    · have := ab_pick_len (is := is) (cs := cs)
      rw [List.length_cons] at hl
      omega
theorem ab_pick_in : ∀ {is : List Nat} {cs : List ab_C}, (ab_pick cs is).length = is.length → ∀ (j k : Nat), is[j]? = some k → k < cs.length
  | [], _, _, j, k, h => by cases h
  | i :: is, cs, hl, j, k, h => by
    unfold ab_pick at hl
    split at hl
    · next y hy =>
      match j with
      | 0 =>
        have e : i = k := Option.some.inj h
        subst e
        exact ab_lt_of hy
      | j + 1 => exact ab_pick_in (is := is) (Nat.succ.inj hl) j k h
    · have := ab_pick_len (is := is) (cs := cs)
      rw [List.length_cons] at hl
      omega
theorem ab_back_len (jd : List Nat) : ∀ (is : List Nat) (cs' cs : List ab_C), (ab_back jd is cs' cs).length = cs.length
  | [], _, cs => by unfold ab_back; rfl
  | i :: is, [], cs => by unfold ab_back; rfl
  | i :: is, x :: cs', cs => by
    unfold ab_back
    rw [ab_back_len jd is cs', List.length_set]
/-- a cell behind a call: the callee's, or as it was -/
theorem ab_back_at (jd : List Nat) : ∀ (is : List Nat) (cs' cs : List ab_C) (k : Nat) (x : ab_C), (ab_back jd is cs' cs)[k]? = some x →
    (∃ (j : Nat) (y : ab_C), is[j]? = some k ∧ cs'[j]? = some y ∧ x = ab_reC jd y) ∨ (cs[k]? = some x ∧ (cs'.length = is.length → ∀ j : Nat, is[j]? ≠ some k))
  | [], _, cs, k, x, h => by unfold ab_back at h; exact Or.inr ⟨h, fun _ j hj => by cases hj⟩
  | i :: is, [], cs, k, x, h => by unfold ab_back at h; exact Or.inr ⟨h, fun hl => by cases hl⟩
  | i :: is, y :: cs', cs, k, x, h => by
    unfold ab_back at h
    rcases ab_back_at jd is cs' _ k x h with ⟨j, z, h1, h2, h3⟩ | ⟨h1, h2⟩
    · exact Or.inl ⟨j + 1, z, h1, h2, h3⟩
    · rw [List.getElem?_set] at h1
      by_cases e : i = k
      · subst e
        rw [if_pos rfl] at h1
        split at h1
        · exact Or.inl ⟨0, y, rfl, rfl, (Option.some.inj h1).symm⟩
        · cases h1
      · rw [if_neg e] at h1
        refine Or.inr ⟨h1, fun hl j hj => ?_⟩
        match j with
        | 0 => exact e (Option.some.inj hj)
        | j + 1 => exact h2 (Nat.succ.inj hl) j hj
end
section
section ABV
variable {p : Program} {l : Launch} {e : Env} {R : Room} {s : State} {m : MethodId} {args : Array Value} {below : List Frame} {meth : Method} {c : Code} {own : String} {cc : ByteArray} {nL : Nat} {G : ab_G} {ad : Nat → Nat} {A : Nat → Prop} {N cells slots : Nat} {Qw : State → Prop} {E : ab_E} {Qr : ab_Q} {K : ab_K}
theorem ab_retL (ad : Nat → Nat) (r : Option ab_V) (st : List ab_V) : (ab_ret r st).map (ab_c ad) = (r.map (ab_c ad)).toList ++ st.map (ab_c ad) := by
  cases r <;> rfl
theorem ab_blind {G : ab_G} {ad : Nat → Nat} {av : List ab_V} {cs : List ab_C} {sz : Nat} : FrameBlind (ab_Pre G ad av cs sz) := by
  intro a U g mk ⟨h0, h1, h2, h3, h4⟩
  exact ⟨h0, h1, h2, h3.same (u := U) (U := U.calling g mk a) rfl, h4⟩
/-- a call, once its run is had: 'go': the walk goes on behind it -/
theorem ab_s_call {H : Heap} {locs : List Loc} {pc : Nat} {ls : Array Slot} {lv : ab_L} {st : List ab_V} {cs : List ab_C} {n n0 : Nat} {is : List Nat} {sp : ab_Sp} (hD : ab_Dn A ad N) (hA : ∀ q, s.heap.size ≤ q → A q) (hN : cs.length = N) (hP : va_P G.1 vwCl (ab_cs G ad cs) H) (hS : va_S A s.heap H locs) (hl : ab_lh ad ls nL lv)
    (hrun : ∀ (ad' : Nat → Nat) (av : List ab_V) (cs1 : List ab_C) (Q0 : ab_Q), sp av cs1 Q0 → av.map (ab_c ad') = (st.take n).reverse.map (ab_c ad) → va_P G.1 vwCl (ab_cs G ad' cs1) H → ab_Dn (fun _ => True) ad' cs1.length →
      va_Run p l e R s m args below meth c H locs cells slots 0 0 (F0 m pc ls (st.map (ab_c ad))) ((st.drop n).map (ab_c ad)) (ab_Post G ad' Q0 cs1.length (ab_A ad' cs1.length H.size) ((st.take n).reverse.map (ab_c ad)).toArray) (ab_A ad' cs1.length H.size))
    (h : match is with
      | [] => ab_cl sp (st.take n).reverse cs (fun r cs' => cs'.length = cs.length → K (pc + 3) lv (ab_ret r (st.drop n)) cs')
      | _ => match (st.take n).all (ab_okV is), (ab_pick cs (is.take n0)).all (ab_okC is), Nat.beq (ab_pick cs (is.take n0)).length n0, ab_nd is with
        | true, true, true, true => ab_cl sp ((st.take n).reverse.map (ab_unV is)) ((ab_pick cs (is.take n0)).map (ab_unC is)) (fun r cs' => cs'.length = n0 → K (pc + 3) lv (ab_ret (r.map (ab_reV is)) (st.drop n)) (ab_back is (is.take n0) cs' cs))
        | _, _, _, _ => False)
    (hK : ∀ pc' lv' st' cs', K pc' lv' st' cs' → ab_W p l e R s m args below meth c nL G ad A N cells slots Qw pc' lv' st' cs') :
    W p l e R s m args below meth c H locs cells slots Qw (F0 m pc ls (st.map (ab_c ad))) := by
  cases is with
  | nil =>
    obtain ⟨Q0, hsp, hq⟩ := h
    have hr := hrun ad _ _ _ hsp rfl hP ⟨fun i j hi hj => hD.1 i j (hN ▸ hi) (hN ▸ hj), fun _ _ => trivial⟩
    refine ab_tail hr hS ?_ (fun r cs' H1 locs1 h1 h2 h3 h4 h5 => ?_)
    · rintro q (⟨k, hk, rfl⟩ | hq)
      · exact hD.2 k (hN ▸ hk)
      · exact hA q (Nat.le_trans hS.1 hq)
    · rw [← ab_retL]
      exact hK _ _ _ _ (hq r cs' h1 h2) (h2.trans hN) H1 locs1 ls h3 h5 hl
  | cons i0 is0 =>
    generalize hjd : i0 :: is0 = jd at h
    have h' : (match (st.take n).all (ab_okV jd), (ab_pick cs (jd.take n0)).all (ab_okC jd), Nat.beq (ab_pick cs (jd.take n0)).length n0, ab_nd jd with
        | true, true, true, true => ab_cl sp ((st.take n).reverse.map (ab_unV jd)) ((ab_pick cs (jd.take n0)).map (ab_unC jd)) (fun r cs' => cs'.length = n0 → K (pc + 3) lv (ab_ret (r.map (ab_reV jd)) (st.drop n)) (ab_back jd (jd.take n0) cs' cs))
        | _, _, _, _ => False) := by
      subst hjd
      exact h
    split at h'
    · next e1 e2 e3 e4 =>
      obtain ⟨Q0, hsp, hq⟩ := h'
      have e3 := Nat.eq_of_beq_eq_true e3
      have lt : (jd.take n0).length = n0 := by
        have h1 := ab_pick_len (is := jd.take n0) (cs := cs)
        have h2 : (jd.take n0).length ≤ n0 := by rw [List.length_take]; omega
        omega
      have hpl : (ab_pick cs (jd.take n0)).length = (jd.take n0).length := by omega
      have tk : ∀ {j k : Nat}, (jd.take n0)[j]? = some k → jd[j]? = some k ∧ jd.getD j 0 = k := by
        intro j k hj
        rw [List.getElem?_take] at hj
        split at hj
        · exact ⟨hj, by rw [List.getD_eq_getElem?_getD, hj]; rfl⟩
        · cases hj
      have ex : ∀ j : Nat, j < n0 → ∃ k, (jd.take n0)[j]? = some k ∧ k < N := by
        intro j hj
        have h1 : j < (jd.take n0).length := by omega
        refine ⟨_, List.getElem?_eq_getElem h1, ?_⟩
        rw [← hN]
        exact ab_pick_in hpl j _ (List.getElem?_eq_getElem h1)
      have hcl : ((ab_pick cs (jd.take n0)).map (ab_unC jd)).length = n0 := by rw [List.length_map]; exact e3
      have hPc : va_P G.1 vwCl (ab_cs G (fun j => ad (jd.getD j 0)) ((ab_pick cs (jd.take n0)).map (ab_unC jd))) H := by
        intro j q hj
        obtain ⟨y, hy, rfl⟩ := ab_cs_of hj
        rw [List.getElem?_map] at hy
        cases hx : (ab_pick cs (jd.take n0))[j]? with
        | none => rw [hx] at hy; cases hy
        | some x =>
          rw [hx] at hy
          have hy := Option.some.inj hy
          subst hy
          obtain ⟨k, hk1, hk2⟩ := ab_pick_at hpl j x hx
          rw [ab_unC_e (List.all_eq_true.mp e2 x (List.mem_of_getElem? hx)), (tk hk1).2]
          exact hP k _ (ab_cs_at hk2)
      have hDc : ab_Dn (fun _ => True) (fun j => ad (jd.getD j 0)) ((ab_pick cs (jd.take n0)).map (ab_unC jd)).length := by
        rw [hcl]
        refine ⟨fun i j hi hj hij => ?_, fun _ _ => trivial⟩
        obtain ⟨k1, a1, a2⟩ := ex i hi
        obtain ⟨k2, b1, b2⟩ := ex j hj
        dsimp only at hij
        rw [(tk a1).2, (tk b1).2] at hij
        have hkk := hD.1 k1 k2 a2 b2 hij
        subst hkk
        exact ab_nd_ne e4 i j k1 (tk a1).1 (tk b1).1
      have hav : ((st.take n).reverse.map (ab_unV jd)).map (ab_c (fun j => ad (jd.getD j 0))) = (st.take n).reverse.map (ab_c ad) := by
        rw [List.map_map]
        refine List.map_congr_left (fun v hv => ?_)
        exact ab_unV_c (List.all_eq_true.mp e1 v (List.mem_reverse.mp hv))
      have hr := hrun _ _ _ _ hsp hav hPc hDc
      rw [hcl] at hr
      have hAA : ∀ q, ab_A (fun j => ad (jd.getD j 0)) n0 H.size q → A q := by
        rintro q (⟨j, hj, rfl⟩ | hq)
        · obtain ⟨k1, a1, a2⟩ := ex j hj
          dsimp only
          rw [(tk a1).2]
          exact hD.2 k1 a2
        · exact hA q (Nat.le_trans hS.1 hq)
      refine ab_tail hr hS hAA (fun r cs' H1 locs1 h1 h2 h3 h4 h5 => ?_)
      have e5 : (r.map (ab_c (fun j => ad (jd.getD j 0)))).toList ++ (st.drop n).map (ab_c ad) = (ab_ret (r.map (ab_reV jd)) (st.drop n)).map (ab_c ad) := by
        rw [ab_retL]
        cases r with
        | none => rfl
        | some v =>
          show [ab_c (fun j => ad (jd.getD j 0)) v] ++ _ = [ab_c ad (ab_reV jd v)] ++ _
          rw [ab_reV_c]
      rw [e5]
      refine hK _ _ _ _ (hq r cs' h1 h2) ((ab_back_len _ _ _ _).trans hN) H1 locs1 ls ?_ h5 hl
      intro k q hk
      obtain ⟨x, hx, rfl⟩ := ab_cs_of hk
      rcases ab_back_at jd _ cs' cs k x hx with ⟨j, y, b1, b2, rfl⟩ | ⟨b1, b2⟩
      · rw [← ab_reC_e]
        have := h3 j _ (ab_cs_at b2)
        rw [(tk b1).2] at this
        exact this
      · have hk0 := hP k _ (ab_cs_at b1)
        refine hk0.kept (h4 _ hk0.lt ?_)
        rintro (⟨j, hj, hq2⟩ | hq2)
        · obtain ⟨k1, a1, a2⟩ := ex j hj
          dsimp only at hq2
          rw [(tk a1).2] at hq2
          have hkN : k < N := by rw [← hN]; exact ab_lt_of b1
          have := hD.1 k k1 hkN a2 hq2
          subst this
          exact b2 (by omega) j a1
        · exact absurd hk0.lt (Nat.not_lt.mpr hq2)
    · exact h'.elim
/-- the words of a callee -/
theorem ab_good {y : MethodName} {b : ByteArray} {mL : Nat} {ret : Option FieldType} (h : ab_inB (.code y b mL ret) = true) : GoodIn ab_TB (.code y b mL ret :: ab_TB) := by
  intro w hw
  rcases List.mem_cons.mp hw with rfl | hw
  · exact ab_TB_good _ (ab_inB.to h)
  · exact ab_TB_good w hw
theorem ab_drop_cons {st : List ab_V} {n : Nat} {v : ab_V} {r : List ab_V} (h : st.drop n = v :: r) : st = st.take n ++ v :: r ∧ st.take (n + 1) = st.take n ++ [v] ∧ st.drop (n + 1) = r ∧ (st.take n).length = n := by
  have e1 : st = st.take n ++ v :: r := by rw [← h, List.take_append_drop]
  have hn : n < st.length := by
    rcases Nat.lt_or_ge n st.length with q | q
    · exact q
    · rw [List.drop_eq_nil_of_le q] at h; cases h
  refine ⟨e1, ?_, ?_, by rw [List.length_take]; omega⟩
  · have h2 : st[n]? = some v := by
      rw [e1, List.getElem?_append_right (by rw [List.length_take]; omega), List.length_take, show n - min n st.length = 0 by omega]
      rfl
    rw [List.take_succ, h2]
    rfl
  · rw [← List.drop_drop, h]
    rfl
theorem ab_s_virt {M : List (Nat × ab_MI)} (X : ab_X own cc nL p s m args meth c G) (hC : ab_CT l M E) (hD : ab_Dn A ad N) (hA : ∀ q, s.heap.size ≤ q → A q) (hcs : cells ≤ R.cells ∧ slots ≤ R.slots) {pc nx ix : Nat} {tg : List (Int × Nat)} (hq : ab_okI cc (pc, .invokevirtual ix, nx, tg) = true) (hcl : ab_okC1 own M E (R.frames, R.locals) (pc, .invokevirtual ix, nx, tg) = true) {lv : ab_L} {st : List ab_V} {cs : List ab_C}
    (h : ab_w E Qr K (pc, .invokevirtual ix, nx, tg) lv st cs) (hK : ∀ pc' lv' st' cs', K pc' lv' st' cs' → ab_W p l e R s m args below meth c nL G ad A N cells slots Qw pc' lv' st' cs') : ab_W p l e R s m args below meth c nL G ad A N cells slots Qw pc lv st cs := by
  obtain ⟨hx, hb, hml, hown, hts, hKK, hlk⟩ := id X
  obtain ⟨hd0, hg⟩ := ab_and hq
  have hd : decode cc pc = .ok (.invokevirtual ix, nx - pc) := of_decide_eq_true hd0
  have e1 : nx = pc + 3 := Nat.eq_of_beq_eq_true hg
  subst e1
  rw [show pc + 3 - pc = 3 by omega] at hd
  intro hN H locs ls hP hS hl
  unfold ab_w at h
  dsimp only at h
  split at h
  · next ci hci =>
    obtain ⟨n, c0, is, n0, sp⟩ := ci
    unfold ab_okC1 at hcl
    dsimp only at hcl
    rw [hci] at hcl
    cases hmi : ab_look M pc with
    | none => rw [hmi] at hcl; cases hcl
    | some mi =>
      obtain ⟨y, b, mL, ret, fr, lc⟩ := mi
      rw [hmi] at hcl
      dsimp only at hcl
      obtain ⟨hcl, a10⟩ := ab_and hcl
      obtain ⟨hcl, a9⟩ := ab_and hcl
      obtain ⟨hcl, a8⟩ := ab_and hcl
      obtain ⟨hcl, a7⟩ := ab_and hcl
      obtain ⟨hcl, a6⟩ := ab_and hcl
      obtain ⟨hcl, a5⟩ := ab_and hcl
      obtain ⟨hcl, a4⟩ := ab_and hcl
      obtain ⟨hcl, a3⟩ := ab_and hcl
      obtain ⟨a1, a2⟩ := ab_and hcl
      have a7 := of_decide_eq_true a7
      have hMT := hC pc _ _ hci hmi
      obtain ⟨y1, y2⟩ := ab_and a1
      have y1 := of_decide_eq_true y1
      have y2 := of_decide_eq_true y2
      cases hpd : parseMethodDescriptor y.desc with
      | none => rw [hpd] at a7; cases a7
      | some sg =>
        rw [hpd] at a7
        have hn : sg.parameters.length + 1 = n := Option.some.inj a7
        unfold ab_call at h
        dsimp only at h
        split at h
        · next b1 b2 =>
          have b1 := Nat.le_of_ble_eq_true b1
          have b2 := Nat.le_of_ble_eq_true b2
          unfold ab_rcv at h
          split at h
          · next e0 =>
            rw [Nat.eq_of_beq_eq_true e0] at a8
            simp [vwCl] at a8
          · split at h
            · next k r hdr =>
              obtain ⟨fs, hk, h⟩ := ab_obj.of h
              obtain ⟨d1, d2, d3, d4⟩ := ab_drop_cons hdr
              have hn1 : n - 1 + 1 = n := by omega
              rw [hn1] at d2 d3
              cases hcl0 : vwCl[c0]? with
              | none => rw [hcl0] at a8; cases a8
              | some q0 =>
                obtain ⟨C, T, NN⟩ := q0
                rw [hcl0] at a8
                have hCy : C = y.cls := of_decide_eq_true a8
                refine ab_s_call (n := n) hD hA hN hP hS hl (fun ad' av cs1 Q0 hsp hav hP1 hD1 => ?_) h hK
                have eav : (st.take n).reverse.map (ab_c ad) = .ref (ad k) :: ((st.take (n - 1)).reverse.map (ab_c ad)) := by
                  rw [d2, List.reverse_append]
                  rfl
                have estk : st.map (ab_c ad) = ((st.take (n - 1)).reverse.map (ab_c ad)).reverse ++ .ref (ad k) :: (st.drop n).map (ab_c ad) := by
                  rw [← List.map_reverse, List.reverse_reverse, d3]
                  conv => lhs; rw [d1]
                  rw [List.map_append]
                  rfl
                have hM := hMT G ad' av cs1 Q0 H.size hsp
                have hpv : PreV s H y.cls (ad k) (ab_Pre G ad' av cs1 H.size) ((st.take (n - 1)).reverse.map (ab_c ad)) := by
                  refine ⟨ab_blind, ?_, fun U hU hW => ⟨?_, by rw [hU], by rw [hU]; exact hP1, hKK.warm hW, hD1⟩⟩
                  · have := va_recv hKK.1 hP hcl0 (ab_cs_at hk)
                    rw [← hCy]
                    exact this
                  · show (Value.ref (ad k) :: ((st.take (n - 1)).reverse.map (ab_c ad))).toArray = _
                    rw [← eav, hav]
                have hn2 : ((st.take (n - 1)).reverse.map (ab_c ad)).length = sg.parameters.length := by
                  rw [List.length_map, List.length_reverse, d4]
                  omega
                have hR : fr + 1 ≤ R.frames ∧ 8 + (mL + 11) + lc ≤ R.locals := ⟨Nat.le_of_ble_eq_true a9, Nat.le_of_ble_eq_true a10⟩
                have hdd : y.cls ≠ "java/lang/invoke/MethodHandle" ∧ y.cls ≠ "java/lang/invoke/VarHandle" ∧ (parseMethodDescriptor y.desc).map (fun d => d.parameters.length) = some sg.parameters.length := ⟨y1, y2, by rw [hpd]; rfl⟩
                have hroom : 2 * (F0 m pc ls (st.map (ab_c ad))).monitorRoom + (((st.drop n).map (ab_c ad)).map fun v => v.category).sum ≤ 8 := lv_room (by rw [ab_catS]; exact b2)
                rw [eav]
                rcases Bool.or_eq_true_iff.mp a6 with a6 | a6
                · exact va_runV (mc := 0) (ms := 0) (n := sg.parameters.length) ⟨hx, hb, hml, hown, hts⟩ hM ⟨callB_of sg.parameters.length hts (ab_good a2) rfl rfl rfl (hts _ (ab_inB.to a3)) (hts _ (ab_inB.to a6)) hdd hR, hts _ (ab_inB.to a4), hts _ (ab_inB.to a5)⟩ hpv rfl hn2 hl.1 estk hroom hd hcs
                · have hw : Jvm.Cond.methodLinkNest own ix y "RootChunks" ∈ ab_nw := of_decide_eq_true a6
                  exact va_runVN (mc := 0) (ms := 0) (n := sg.parameters.length) (host := "RootChunks") ⟨hx, hb, hml, hown, hts⟩ hM ⟨va_cnB sg.parameters.length hts (ab_good a2) rfl rfl rfl (hKK.2 _ hw) (hts _ (ab_inB.to a3)) hdd hR, hts _ (ab_inB.to a4), hts _ (ab_inB.to a5)⟩ hpv rfl hn2 hl.1 estk hroom hd hcs
            · exact h.elim
        · exact h.elim
  · exact h.elim
end ABV
end
section
section ABV2
variable {p : Program} {l : Launch} {e : Env} {R : Room} {s : State} {m : MethodId} {args : Array Value} {below : List Frame} {meth : Method} {c : Code} {own : String} {cc : ByteArray} {nL : Nat} {G : ab_G} {ad : Nat → Nat} {A : Nat → Prop} {N cells slots : Nat} {Qw : State → Prop} {E : ab_E} {Qr : ab_Q} {K : ab_K}
theorem ab_cpyE (f g : Int → Int) (sp dp n : Int) (h0 : 0 ≤ sp) (h1 : 0 ≤ dp) (h2 : 0 ≤ n) (r0 : ab_r sp) (r1 : ab_r dp) (r2 : ab_r n) : (fun j : Nat => Int32.ofInt (ab_cpy f g sp dp n j)) = va_cpy (fun j : Nat => Int32.ofInt (f j)) (fun j : Nat => Int32.ofInt (g j)) (Int32.ofInt sp).toNatClampNeg (Int32.ofInt dp).toNatClampNeg (Int32.ofInt n).toNatClampNeg := by
  have ee : ∀ i : Int, 0 ≤ i → ab_r i → ((Int32.ofInt i).toNatClampNeg : Int) = i := by
    intro i hi hr
    show (((Int32.ofInt i).toInt).toNat : Int) = i
    rw [ab_toI hr]
    exact Int.toNat_of_nonneg hi
  have a0 := ee sp h0 r0
  have a1 := ee dp h1 r1
  have a2 := ee n h2 r2
  funext j
  unfold ab_cpy va_cpy
  by_cases h : dp ≤ (j : Int) ∧ (j : Int) < dp + n
  · rw [if_pos h, if_pos (by omega)]
    have : sp + ((j : Int) - dp) = (((Int32.ofInt sp).toNatClampNeg + (j - (Int32.ofInt dp).toNatClampNeg) : Nat) : Int) := by omega
    rw [this]
  · rw [if_neg h, if_neg (by omega)]
theorem ab_s_stat {M : List (Nat × ab_MI)} (X : ab_X own cc nL p s m args meth c G) (hC : ab_CT l M E) (hD : ab_Dn A ad N) (hA : ∀ q, s.heap.size ≤ q → A q) (hcs : cells ≤ R.cells ∧ slots ≤ R.slots) {pc nx ix : Nat} {tg : List (Int × Nat)} (hq : ab_okI cc (pc, .invokestatic ix, nx, tg) = true) (hcl : ab_okC1 own M E (R.frames, R.locals) (pc, .invokestatic ix, nx, tg) = true) {lv : ab_L} {st : List ab_V} {cs : List ab_C}
    (h : ab_w E Qr K (pc, .invokestatic ix, nx, tg) lv st cs) (hK : ∀ pc' lv' st' cs', K pc' lv' st' cs' → ab_W p l e R s m args below meth c nL G ad A N cells slots Qw pc' lv' st' cs') : ab_W p l e R s m args below meth c nL G ad A N cells slots Qw pc lv st cs := by
  obtain ⟨hx, hb, hml, hown, hts, hKK, hlk⟩ := id X
  obtain ⟨hd0, hg⟩ := ab_and hq
  have hd : decode cc pc = .ok (.invokestatic ix, nx - pc) := of_decide_eq_true hd0
  have e1 : nx = pc + 3 := Nat.eq_of_beq_eq_true hg
  subst e1
  rw [show pc + 3 - pc = 3 by omega] at hd
  intro hN H locs ls hP hS hl
  unfold ab_w at h
  dsimp only at h
  split at h
  · next ci hci =>
    obtain ⟨n, c0, is, n0, sp⟩ := ci
    unfold ab_okC1 at hcl
    dsimp only at hcl
    rw [hci] at hcl
    cases hmi : ab_look M pc with
    | none => rw [hmi] at hcl; cases hcl
    | some mi =>
      obtain ⟨y, b, mL, ret, fr, lc⟩ := mi
      rw [hmi] at hcl
      dsimp only at hcl
      obtain ⟨hcl, a10⟩ := ab_and hcl
      obtain ⟨hcl, a9⟩ := ab_and hcl
      obtain ⟨hcl, a8⟩ := ab_and hcl
      obtain ⟨hcl, a7⟩ := ab_and hcl
      obtain ⟨hcl, a6⟩ := ab_and hcl
      obtain ⟨hcl, a4⟩ := ab_and hcl
      obtain ⟨hcl, a3⟩ := ab_and hcl
      obtain ⟨a1, a2⟩ := ab_and hcl
      have a7 := of_decide_eq_true a7
      have hMT := hC pc _ _ hci hmi
      obtain ⟨y1, y2⟩ := ab_and a1
      have y1 := of_decide_eq_true y1
      have y2 := of_decide_eq_true y2
      unfold ab_call at h
      dsimp only at h
      split at h
      · next b1 b2 =>
        have b1 := Nat.le_of_ble_eq_true b1
        have b2 := Nat.le_of_ble_eq_true b2
        unfold ab_rcv at h
        rw [a8] at h
        dsimp only at h
        refine ab_s_call (n := n) hD hA hN hP hS hl (fun ad' av cs1 Q0 hsp hav hP1 hD1 => ?_) h hK
        have estk : st.map (ab_c ad) = ((st.take n).reverse.map (ab_c ad)).reverse ++ (st.drop n).map (ab_c ad) := by
          rw [← List.map_reverse, List.reverse_reverse, ← List.map_append, List.take_append_drop]
        have hM := hMT G ad' av cs1 Q0 H.size hsp
        have hps : PreS s H (ab_Pre G ad' av cs1 H.size) ((st.take n).reverse.map (ab_c ad)) := by
          refine ⟨ab_blind, fun U hU hW => ⟨?_, by rw [hU], by rw [hU]; exact hP1, hKK.warm hW, hD1⟩⟩
          rw [← hav]
        have hn2 : ((st.take n).reverse.map (ab_c ad)).length = n := by
          rw [List.length_map, List.length_reverse, List.length_take]
          omega
        have hR : fr + 1 ≤ R.frames ∧ 8 + (mL + 11) + lc ≤ R.locals := ⟨Nat.le_of_ble_eq_true a9, Nat.le_of_ble_eq_true a10⟩
        have hdd : y.cls ≠ "java/lang/invoke/MethodHandle" ∧ y.cls ≠ "java/lang/invoke/VarHandle" ∧ (parseMethodDescriptor y.desc).map (fun d => d.parameters.length) = some n := ⟨y1, y2, a7⟩
        have hroom : 2 * (F0 m pc ls (st.map (ab_c ad))).monitorRoom + (((st.drop n).map (ab_c ad)).map fun v => v.category).sum ≤ 8 := lv_room (by rw [ab_catS]; exact b2)
        exact va_runS (mc := 0) (ms := 0) (n := n) ⟨hx, hb, hml, hown, hts⟩ hM ⟨callB_of n hts (ab_good a2) rfl rfl rfl (hts _ (ab_inB.to a3)) (hts _ (ab_inB.to a6)) hdd hR, hts _ (ab_inB.to a4)⟩ hps rfl hn2 hl.1 estk hroom hd hcs
      · exact h.elim
  · next hci =>
    unfold ab_okC1 at hcl
    dsimp only at hcl
    rw [hci] at hcl
    dsimp only at hcl
    split at h
    · next hk =>
      rw [hk] at hcl
      try dsimp only at hcl
      obtain ⟨hcl, a6⟩ := ab_and hcl
      obtain ⟨hcl, a5⟩ := ab_and hcl
      obtain ⟨hcl, a4⟩ := ab_and hcl
      obtain ⟨hcl, a3⟩ := ab_and hcl
      obtain ⟨a1, a2⟩ := ab_and hcl
      obtain ⟨a, b, r, rfl, h1⟩ := ab_i2.of h
      split at h1
      · next b2 =>
        have b2 := Nat.le_of_ble_eq_true b2
        obtain ⟨⟨ra, rb⟩, h2⟩ := h1
        refine va_mmax hx hb (hml.trans hl.1.symm) hown (hts _ (ab_inB.to a1)) (hts _ (ab_inB.to a2)) (hts _ (ab_inB.to a3)) (hts _ (ab_inB.to a4)) (Nat.le_of_ble_eq_true a5) (by have := Nat.le_of_ble_eq_true a6; rw [ab_catS]; omega) hcs.1 hcs.2 hd ?_
        have h3 := hK _ _ _ _ h2 hN H locs ls hP hS hl
        have e2 : (if Int32.ofInt a < Int32.ofInt b then Int32.ofInt b else Int32.ofInt a) = Int32.ofInt (if a < b then b else a) := by
          by_cases z : a < b
          · rw [if_pos z, if_pos ((ab_ltI ra rb).mpr z)]
          · rw [if_neg z, if_neg (fun w => z ((ab_ltI ra rb).mp w))]
        rw [e2]
        exact h3
      · exact h1.elim
    · next hk =>
      rw [hk] at hcl
      try dsimp only at hcl
      obtain ⟨hcl, a6⟩ := ab_and hcl
      obtain ⟨hcl, a5⟩ := ab_and hcl
      obtain ⟨hcl, a4⟩ := ab_and hcl
      obtain ⟨hcl, a3⟩ := ab_and hcl
      obtain ⟨a1, a2⟩ := ab_and hcl
      split at h
      · next n dp d sp k r =>
        obtain ⟨m0, f, g1, g2, h1⟩ := ab_arr.of h
        obtain ⟨m1, g, g3, g4, h2⟩ := ab_arr.of h1
        split at h2
        · next b2 =>
          have b2 := Nat.le_of_ble_eq_true b2
          obtain ⟨⟨q0, q1, q2, q3, q4⟩, h3⟩ := h2
          have r0 : ab_r sp := ⟨by omega, by omega⟩
          have r1 : ab_r dp := ⟨by omega, by omega⟩
          have r2 : ab_r n := ⟨by omega, by omega⟩
          have ee : ∀ i : Int, 0 ≤ i → ab_r i → ((Int32.ofInt i).toNatClampNeg : Int) = i := by
            intro i hi hr
            show (((Int32.ofInt i).toInt).toNat : Int) = i
            rw [ab_toI hr]
            exact Int.toNat_of_nonneg hi
          have z0 := ee sp q0 r0
          have z1 := ee dp q1 r1
          have z2 := ee n q2 r2
          have nn : ∀ i : Int, 0 ≤ i → ab_r i → ¬ Int32.ofInt i < 0 := fun i hi hr w => by
            have := (ab_ltI hr ab_r0).mp w
            omega
          refine va_copyi (ty := .int) hx hb (hml.trans hl.1.symm) hown (hts _ (ab_inB.to a1)) (hts _ (ab_inB.to a2)) (hts _ (ab_inB.to a3)) (hts _ (ab_inB.to a4)) hKK.1 hP (hD.to hN) hS k d 0 0 (ab_cs_arr g1) (ab_cs_arr g3) rfl rfl rfl (nn sp q0 r0) (nn dp q1 r1) (nn n q2 r2) (by omega) (by omega) (fun _ _ => rfl) (Nat.le_of_ble_eq_true a5) (by have := Nat.le_of_ble_eq_true a6; rw [ab_catS]; omega) hd (fun H1 locs1 hP1 hD1 hS1 => ?_)
          rw [← ab_cpyE f g sp dp n q0 q1 q2 r0 r1 r2] at hP1
          have e5 : ((ab_cs G ad cs).set d (ad d, .inl (G.2 0, m1, .inl (fun j : Nat => Int32.ofInt (ab_cpy f g sp dp n j))))) = ab_cs G ad (cs.set d (.inr (.inl (0, m1, ab_cpy f g sp dp n)))) := ab_cs_set G ad cs d (.inr (.inl (0, m1, ab_cpy f g sp dp n)))
          rw [e5] at hP1
          exact hK _ _ _ _ h3 (by rw [List.length_set]; exact hN) H1 locs1 ls hP1 hS1 hl
        · exact h2.elim
      · exact h.elim
    · exact h.elim
/-- the whole walk -/
theorem ab_sound {M : List (Nat × ab_MI)} {P : List ab_I} (X : ab_X own cc nL p s m args meth c G) (hrt : meth.sig.returnType = ab_rty E.2.2.2) (hT : ab_okT own E.1 = true) (hP0 : P.all (ab_okI cc) = true) (hP1 : P.all (ab_okC1 own M E (R.frames, R.locals)) = true) (hC : ab_CT l M E) (hD : ab_Dn A ad N) (hA : ∀ q, s.heap.size ≤ q → A q) (hcs : cells ≤ R.cells ∧ slots ≤ R.slots)
    {pc : Nat} {lv : ab_L} {st : List ab_V} {cs : List ab_C} (h : ab_R E P Qr pc lv st cs) : ab_W p l e R s m args below meth c nL G ad A N cells slots (MQ below (ab_Post G ad Qr N A) args s cells slots A) pc lv st cs := by
  refine h (ab_W p l e R s m args below meth c nL G ad A N cells slots (MQ below (ab_Post G ad Qr N A) args s cells slots A)) ?_
  intro pc lv st cs q K0 hf hw hK
  obtain ⟨hq, rfl⟩ := ab_find_in hf
  have o1 := List.all_eq_true.mp hP0 q hq
  have o2 := List.all_eq_true.mp hP1 q hq
  obtain ⟨pc, i, nx, tg⟩ := q
  cases i with
  | getfield ix => exact ab_s_getf X hT o1 hw hK
  | putfield ix => exact ab_s_putf X hT hD o1 hw hK
  | iaload => exact ab_s_arr X hD o1 (Or.inl rfl) hw hK
  | caload => exact ab_s_arr X hD o1 (Or.inr (Or.inl rfl)) hw hK
  | baload => exact ab_s_arr X hD o1 (Or.inr (Or.inr (Or.inl rfl))) hw hK
  | iastore => exact ab_s_arr X hD o1 (Or.inr (Or.inr (Or.inr (Or.inl rfl)))) hw hK
  | castore => exact ab_s_arr X hD o1 (Or.inr (Or.inr (Or.inr (Or.inr (Or.inl rfl))))) hw hK
  | bastore => exact ab_s_arr X hD o1 (Or.inr (Or.inr (Or.inr (Or.inr (Or.inr (Or.inl rfl)))))) hw hK
  | aaload => exact ab_s_arr X hD o1 (Or.inr (Or.inr (Or.inr (Or.inr (Or.inr (Or.inr (Or.inl rfl))))))) hw hK
  | aastore => exact ab_s_arr X hD o1 (Or.inr (Or.inr (Or.inr (Or.inr (Or.inr (Or.inr (Or.inr (Or.inl rfl)))))))) hw hK
  | arraylength => exact ab_s_arr X hD o1 (Or.inr (Or.inr (Or.inr (Or.inr (Or.inr (Or.inr (Or.inr (Or.inr rfl)))))))) hw hK
  | invokevirtual ix => exact ab_s_virt X hC hD hA hcs o1 o2 hw hK
  | invokestatic ix => exact ab_s_stat X hC hD hA hcs o1 o2 hw hK
  | tableswitch d lo hi offs => exact ab_s_sw X o1 hw hK
  | ireturn => exact ab_s_ret X hrt o1 (Or.inl rfl) hw
  | return_ => exact ab_s_ret X hrt o1 (Or.inr rfl) hw
  | _ => exact ab_s_pure X hT o1 rfl hw hK
end ABV2
/-! the locals that a method begins with -/
def ab_lv0 : List ab_V → ab_L
  | [] => []
  | v :: vs => match ab_c1 v with
    | true => some v :: ab_lv0 vs
    | false => some v :: none :: ab_lv0 vs
theorem ab_lv0_at (ad : Nat → Nat) : ∀ (vs : List ab_V) (o i : Nat) (v : ab_V), (ab_lv0 vs)[i]? = some (some v) → (o + i, ab_c ad v) ∈ lv_args o (vs.map (ab_c ad))
  | [], _, _, _, h => by cases h
  | w :: vs, o, i, v, h => by
    unfold ab_lv0 at h
    rw [List.map_cons]
    unfold lv_args
    split at h
    · next e =>
      have e2 : ¬ (ab_c ad w).category = 2 := by rw [ab_cat1 e]; omega
      rw [if_neg e2]
      match i with
      | 0 =>
        have h := Option.some.inj (Option.some.inj h)
        subst h
        exact List.mem_cons_self
      | i + 1 =>
        have := ab_lv0_at ad vs (o + 1) i v h
        rw [show o + (i + 1) = o + 1 + i by omega]
        exact List.mem_cons_of_mem _ this
    · next e =>
      have e2 : (ab_c ad w).category = 2 := by
        rcases w with n | ⟨⟨⟩ | q⟩ | L
        · cases e
        · cases e
        · cases e
        · rfl
      rw [if_pos e2]
      match i with
      | 0 =>
        have h := Option.some.inj (Option.some.inj h)
        subst h
        exact List.mem_cons_self
      | 1 => cases h
      | i + 2 =>
        have := ab_lv0_at ad vs (o + 2) i v h
        rw [show o + (i + 2) = o + 2 + i by omega]
        exact List.mem_cons_of_mem _ this
theorem ab_lv0_len (ad : Nat → Nat) : ∀ (vs : List ab_V), (ab_lv0 vs).length = (lg_sl (vs.map (ab_c ad))).length
  | [] => rfl
  | w :: vs => by
    have ih := ab_lv0_len ad vs
    unfold ab_lv0
    have e0 : lg_sl ((w :: vs).map (ab_c ad)) = (if (ab_c ad w).category = 2 then [Slot.val (ab_c ad w), .second] else [Slot.val (ab_c ad w)]) ++ lg_sl (vs.map (ab_c ad)) := rfl
    rw [e0]
    cases e : ab_c1 w with
    | true =>
      rw [if_neg (by rw [ab_cat1 e]; omega)]
      simp [ih]
    | false =>
      have e2 : (ab_c ad w).category = 2 := by
        rcases w with n | ⟨⟨⟩ | q⟩ | L
        · cases e
        · cases e
        · cases e
        · rfl
      rw [if_pos e2]
      simp [ih]
/-- a method's locals at its entry -/
def ab_ent (vs : List ab_V) (nL : Nat) : ab_L := ab_lv0 vs ++ List.replicate (nL - (ab_lv0 vs).length) none
/-- A METHOD: its code, its tables, and the walk of the abstract machine -/
theorem ab_MT.of {l : Launch} {y : MethodName} {cc : ByteArray} {nL : Nat} {ty fr lc : Nat} {own : String} {E : ab_E} {P : List ab_I} {M : List (Nat × ab_MI)} {sp : ab_Sp} (hy : plainName y.cls = true) (hown : y.cls = own) (hty : E.2.2.2 = ty) (hT : ab_okT own E.1 = true) (hP0 : P.all (ab_okI cc) = true) (hP1 : P.all (ab_okC1 own M E (fr, lc)) = true) (hC : ab_CT l M E)
    (h : ∀ (av : List ab_V) (cs : List ab_C) (Q : ab_Q), sp av cs Q → (ab_lv0 av).length ≤ nL ∧ ab_R E P Q 0 (ab_ent av nL) [] cs) : ab_MT l (y, cc, nL, ab_rty ty, fr, lc) sp := by
  intro G ad av cs Q sz hsp
  obtain ⟨hlen, hR⟩ := h av cs Q hsp
  refine Met.ofW (cc := cc) (maxL := nL) (ret := ab_rty ty) hy rfl ?_
  intro p e s m args below meth c s₁ B hml hv
  obtain ⟨rfl, hsz, hP, hKK, hD0⟩ := hv
  have hx := B.exec
  have hb := B.bytes
  have hr := B.returns
  have hts0 := atoms_spec (ws := .code y cc nL (ab_rty ty) :: ab_TB) B.pre
  have hts : ∀ w ∈ ab_TB, w.before (av.map (ab_c ad)).toArray s = true := fun w hw => hts0 w (List.mem_cons_of_mem _ hw)
  have hfc : s.vm.findClass own = some m.cls := by rw [← hown]; exact findClass_of_methodNamed B.named
  have hlocks := B.notSynchronized
  subst hsz
  have X : ab_X own cc nL p s m (av.map (ab_c ad)).toArray meth c G := ⟨hx, hb, hml, hfc, hts, hKK, hlocks⟩
  have hD : ab_Dn (ab_A ad cs.length s.heap.size) ad cs.length := ⟨hD0.1, fun k hk => Or.inl ⟨k, hk, rfl⟩⟩
  have hW := ab_sound (R := { frames := fr, cells := 0, slots := 0, locals := lc }) (cells := 0) (slots := 0) (below := below) (e := e) X (by rw [hty]; exact hr) hT hP0 hP1 hC hD (fun q hq => Or.inr hq) ⟨Nat.le_refl 0, Nat.le_refl 0⟩ hR
  rw [lg_entry_eq]
  have hle := ab_lv0_len ad av
  have hl := lv_entry (av.map (ab_c ad)) (n := nL) (by rw [← hle]; exact hlen)
  refine hW rfl s.heap [] _ hP va_S.rf ⟨hl.1, hl.2.1, ?_, fun i v hi => ?_⟩
  · unfold ab_ent
    rw [List.length_append, List.length_replicate]
    omega
  · unfold ab_ent at hi
    have hil : i < (ab_lv0 av).length := by
      rcases Nat.lt_or_ge i (ab_lv0 av).length with q | q
      · exact q
      · rw [List.getElem?_append_right q] at hi
        have := List.eq_of_mem_replicate (List.mem_of_getElem? hi)
        cases this
    rw [List.getElem?_append_left hil] at hi
    have := ab_lv0_at ad av 0 i v hi
    rw [Nat.zero_add] at this
    exact hl.2.2 _ this
end
section
/-! FEWER LOCALS: what is wanted of fewer known locals holds of more -/
def ab_sub (a b : ab_L) : Prop := a.length = b.length ∧ ∀ i : Nat, a[i]? = b[i]? ∨ (a[i]? = some none ∧ ∃ v, b[i]? = some (some v) ∧ ab_c1 v = true)
theorem ab_sub.rf (a : ab_L) : ab_sub a a := ⟨rfl, fun _ => Or.inl rfl⟩
theorem ab_sub.at {a b : ab_L} (h : ab_sub a b) {i : Nat} {v : ab_V} (hi : a[i]? = some (some v)) : b[i]? = some (some v) := by
  rcases h.2 i with e | ⟨e, -⟩
  · rw [← e]; exact hi
  · rw [hi] at e; cases e
theorem ab_sub.set {a b : ab_L} (h : ab_sub a b) (i : Nat) (x : Option ab_V) : ab_sub (a.set i x) (b.set i x) := by
  refine ⟨by rw [List.length_set, List.length_set]; exact h.1, fun j => ?_⟩
  rw [List.getElem?_set, List.getElem?_set, h.1]
  by_cases e : i = j
  · rw [if_pos e, if_pos e]; exact Or.inl rfl
  · rw [if_neg e, if_neg e]; exact h.2 j
theorem ab_sub.nl {a b : ab_L} (h : ab_sub a b) {i : Nat} (hi : ab_nl a i = true) : ab_nl b i = true := by
  cases i with
  | zero => rfl
  | succ j =>
    have hi' : (match a[j]? with | some (some v) => ab_c1 v | _ => true) = true := hi
    show (match b[j]? with | some (some v) => ab_c1 v | _ => true) = true
    rcases h.2 j with e | ⟨e, v, e2, e3⟩
    · rw [← e]; exact hi'
    · rw [e2]; exact e3
theorem ab_ldI.sub {a b : ab_L} (hs : ab_sub a b) {i : Nat} {f g : Int → Prop} (h : ab_ldI a i f) (hfg : ∀ x, f x → g x) : ab_ldI b i g := by
  obtain ⟨x, h1, h2⟩ := ab_ldI.of h
  unfold ab_ldI
  rw [hs.at h1]
  exact hfg x h2
theorem ab_ldP.sub {a b : ab_L} (hs : ab_sub a b) {i : Nat} {f g : Option Nat → Prop} (h : ab_ldP a i f) (hfg : ∀ x, f x → g x) : ab_ldP b i g := by
  obtain ⟨x, h1, h2⟩ := ab_ldP.of h
  unfold ab_ldP
  rw [hs.at h1]
  exact hfg x h2
theorem ab_ldL.sub {a b : ab_L} (hs : ab_sub a b) {i : Nat} {f g : Int64 → Prop} (h : ab_ldL a i f) (hfg : ∀ x, f x → g x) : ab_ldL b i g := by
  obtain ⟨x, h1, h2⟩ := ab_ldL.of h
  unfold ab_ldL
  rw [hs.at h1]
  exact hfg x h2
theorem ab_st1.sub {a b : ab_L} (hs : ab_sub a b) {i : Nat} {v : ab_V} {f g : ab_L → Prop} (h : ab_st1 a i v f) (hfg : ∀ x y, ab_sub x y → f x → g y) : ab_st1 b i v g := by
  obtain ⟨h1, h2, h3⟩ := ab_st1.of h
  unfold ab_st1
  rw [hs.nl h1, show Nat.blt i b.length = true from Nat.ble_eq.mpr (hs.1 ▸ h2)]
  exact hfg _ _ (hs.set i _) h3
theorem ab_st2.sub {a b : ab_L} (hs : ab_sub a b) {i : Nat} {v : ab_V} {f g : ab_L → Prop} (h : ab_st2 a i v f) (hfg : ∀ x y, ab_sub x y → f x → g y) : ab_st2 b i v g := by
  obtain ⟨h1, h2, h3⟩ := ab_st2.of h
  unfold ab_st2
  rw [hs.nl h1, show Nat.blt (i + 1) b.length = true from Nat.ble_eq.mpr (hs.1 ▸ h2)]
  exact hfg _ _ ((hs.set i _).set (i + 1) _) h3
theorem ab_i1.mo {st : List ab_V} {f g : Int → List ab_V → Prop} (h : ab_i1 st f) (hfg : ∀ a r, f a r → g a r) : ab_i1 st g := by
  obtain ⟨a, r, rfl, h1⟩ := ab_i1.of h
  exact hfg _ _ h1
theorem ab_i2.mo {st : List ab_V} {f g : Int → Int → List ab_V → Prop} (h : ab_i2 st f) (hfg : ∀ a b r, f a b r → g a b r) : ab_i2 st g := by
  obtain ⟨a, b, r, rfl, h1⟩ := ab_i2.of h
  exact hfg _ _ _ h1
theorem ab_l1.mo {st : List ab_V} {f g : Int64 → List ab_V → Prop} (h : ab_l1 st f) (hfg : ∀ a r, f a r → g a r) : ab_l1 st g := by
  obtain ⟨a, r, rfl, h1⟩ := ab_l1.of h
  exact hfg _ _ h1
theorem ab_l2.mo {st : List ab_V} {f g : Int64 → Int64 → List ab_V → Prop} (h : ab_l2 st f) (hfg : ∀ a b r, f a b r → g a b r) : ab_l2 st g := by
  obtain ⟨a, b, r, rfl, h1⟩ := ab_l2.of h
  exact hfg _ _ _ h1
theorem ab_li.mo {st : List ab_V} {f g : Int64 → Int → List ab_V → Prop} (h : ab_li st f) (hfg : ∀ a b r, f a b r → g a b r) : ab_li st g := by
  obtain ⟨a, b, r, rfl, h1⟩ := ab_li.of h
  exact hfg _ _ _ h1
theorem ab_p1.mo {st : List ab_V} {f g : Nat → List ab_V → Prop} (h : ab_p1 st f) (hfg : ∀ a r, f a r → g a r) : ab_p1 st g := by
  obtain ⟨a, r, rfl, h1⟩ := ab_p1.of h
  exact hfg _ _ h1
theorem ab_pi.mo {st : List ab_V} {f g : Nat → Int → List ab_V → Prop} (h : ab_pi st f) (hfg : ∀ a b r, f a b r → g a b r) : ab_pi st g := by
  obtain ⟨a, b, r, rfl, h1⟩ := ab_pi.of h
  exact hfg _ _ _ h1
theorem ab_pii.mo {st : List ab_V} {f g : Nat → Int → Int → List ab_V → Prop} (h : ab_pii st f) (hfg : ∀ a b x r, f a b x r → g a b x r) : ab_pii st g := by
  obtain ⟨a, b, x, r, rfl, h1⟩ := ab_pii.of h
  exact hfg _ _ _ _ h1
theorem ab_br.mo {c : ClassFile.Cond} {a b : Int} {T F T' F' : Prop} (h : ab_br c a b T F) (hT : T → T') (hF : F → F') : ab_br c a b T' F' := by
  cases c <;> exact ⟨fun z => by first | exact hT (h.1 z) | exact hF (h.1 z), fun z => by first | exact hF (h.2 z) | exact hT (h.2 z)⟩
theorem ab_sw.mo {a : Int} {d : Nat} {f g : Nat → Prop} (hfg : ∀ t, f t → g t) : ∀ {r : List (Int × Nat)}, ab_sw a d f r → ab_sw a d g r
  | [], h => hfg _ h
  | (_, _) :: _, h => ⟨fun z => hfg _ (h.1 z), fun z => ab_sw.mo hfg (h.2 z)⟩
theorem ab_getf.mo {T : ab_T} {ix k : Nat} {cs : List ab_C} {f g : ab_V → Prop} (h : ab_getf T ix k cs f) (hfg : ∀ v, f v → g v) : ab_getf T ix k cs g := by
  unfold ab_getf at h ⊢
  split at h
  · split at h
    · exact hfg _ h
    · exact h
  · exact h
theorem ab_fit.mo {ty : Nat} {v : ab_V} {f g : Prop} (h : ab_fit ty v f) (hfg : f → g) : ab_fit ty v g := by
  unfold ab_fit at h ⊢
  split at h
  · exact hfg h
  · exact ⟨h.1, hfg h.2⟩
  · exact ⟨h.1, hfg h.2⟩
  · exact h
theorem ab_putf.mo {T : ab_T} {ix k : Nat} {v : ab_V} {cs : List ab_C} {f g : List ab_C → Prop} (h : ab_putf T ix k v cs f) (hfg : ∀ v, f v → g v) : ab_putf T ix k v cs g := by
  unfold ab_putf at h ⊢
  split at h
  · split at h
    · exact h.mo (hfg _)
    · exact h
  · exact h
theorem ab_arr.mo {t k : Nat} {cs : List ab_C} {f g : Nat → (Int → Int) → Prop} (h : ab_arr t k cs f) (hfg : ∀ n z, f n z → g n z) : ab_arr t k cs g := by
  unfold ab_arr at h ⊢
  split at h
  · split at h
    · exact hfg _ _ h
    · exact h
  · exact h
theorem ab_rarr.mo {k : Nat} {cs : List ab_C} {f g : List (Option Nat) → Prop} (h : ab_rarr k cs f) (hfg : ∀ n, f n → g n) : ab_rarr k cs g := by
  unfold ab_rarr at h ⊢
  split at h
  · split at h
    · exact hfg _ h
    · exact h
  · exact h
theorem ab_obj.mo {t k : Nat} {cs : List ab_C} {f g : Prop} (h : ab_obj t k cs f) (hfg : f → g) : ab_obj t k cs g := by
  unfold ab_obj at h ⊢
  split at h
  · split at h
    · exact hfg h
    · exact h
  · exact h
theorem ab_len.mo {k : Nat} {cs : List ab_C} {f g : Nat → Prop} (h : ab_len k cs f) (hfg : ∀ n, f n → g n) : ab_len k cs g := by
  unfold ab_len at h ⊢
  split at h
  · split at h
    · exact hfg _ h
    · exact h
  · exact hfg _ h
  · exact h
theorem ab_cl.mo {sp : ab_Sp} {av : List ab_V} {cs : List ab_C} {Q Q' : ab_Q} (h : ab_cl sp av cs Q) (hq : ∀ r c, Q r c → Q' r c) : ab_cl sp av cs Q' := by
  obtain ⟨Q0, h1, h2⟩ := h
  exact ⟨Q0, h1, fun r c q => hq r c (h2 r c q)⟩
theorem ab_rcv.mo {c n : Nat} {st : List ab_V} {cs : List ab_C} {f g : Prop} (h : ab_rcv c n st cs f) (hfg : f → g) : ab_rcv c n st cs g := by
  unfold ab_rcv at h ⊢
  split at h
  · exact hfg h
  · split at h
    · exact h.mo hfg
    · exact h
theorem ab_call.mo {ci : ab_CI} {st : List ab_V} {cs : List ab_C} {f g : List ab_V → List ab_C → Prop} (h : ab_call ci st cs f) (hfg : ∀ a b, f a b → g a b) : ab_call ci st cs g := by
  obtain ⟨n, c, is, n0, sp⟩ := ci
  unfold ab_call at h ⊢
  dsimp only at h ⊢
  split at h
  · refine h.mo (fun h => ?_)
    split at h
    · exact h.mo (fun r c q z => hfg _ _ (q z))
    · split at h
      · exact h.mo (fun r c q z => hfg _ _ (q z))
      · exact h
  · exact h
set_option maxHeartbeats 4000000 in
theorem ab_w_sub {E : ab_E} {Q : ab_Q} {K0 K1 : ab_K} {q : ab_I} {a b : ab_L} {st : List ab_V} {cs : List ab_C} (hs : ab_sub a b) (h : ab_w E Q K0 q a st cs) (hK : ∀ pc x y st cs, ab_sub x y → K0 pc x st cs → K1 pc y st cs) : ab_w E Q K1 q b st cs := by
  obtain ⟨pc, i, nx, tg⟩ := q
  have go : ∀ {pc st cs}, K0 pc a st cs → K1 pc b st cs := fun k => hK _ _ _ _ _ hs k
  cases i with
  | iconst n => exact go h
  | bipush n => exact go h
  | sipush n => exact go h
  | lconst n => exact go h
  | ldc ix =>
    unfold ab_w at h ⊢
    dsimp only at h ⊢
    split at h
    · exact go h
    · exact h
  | ldc2_w ix =>
    unfold ab_w at h ⊢
    dsimp only at h ⊢
    split at h
    · exact go h
    · exact h
  | iload_n k => exact ab_ldI.sub hs h (fun _ => go)
  | iload k => exact ab_ldI.sub hs h (fun _ => go)
  | aload_n k => exact ab_ldP.sub hs h (fun _ => go)
  | aload k => exact ab_ldP.sub hs h (fun _ => go)
  | lload_n k => exact ab_ldL.sub hs h (fun _ => go)
  | lload k => exact ab_ldL.sub hs h (fun _ => go)
  | istore_n k => exact ab_i1.mo h (fun x r z => ab_st1.sub hs z (fun _ _ u => hK _ _ _ _ _ u))
  | istore k => exact ab_i1.mo h (fun x r z => ab_st1.sub hs z (fun _ _ u => hK _ _ _ _ _ u))
  | astore_n k => exact ab_p1.mo h (fun x r z => ab_st1.sub hs z (fun _ _ u => hK _ _ _ _ _ u))
  | astore k => exact ab_p1.mo h (fun x r z => ab_st1.sub hs z (fun _ _ u => hK _ _ _ _ _ u))
  | lstore_n k => exact ab_l1.mo h (fun x r z => ab_st2.sub hs z (fun _ _ u => hK _ _ _ _ _ u))
  | lstore k => exact ab_l1.mo h (fun x r z => ab_st2.sub hs z (fun _ _ u => hK _ _ _ _ _ u))
  | iinc k n => exact ab_ldI.sub hs h (fun x z => ab_st1.sub hs z (fun _ _ u => hK _ _ _ _ _ u))
  | iadd => exact ab_i2.mo h (fun _ _ _ => go)
  | isub => exact ab_i2.mo h (fun _ _ _ => go)
  | imul => exact ab_i2.mo h (fun _ _ _ => go)
  | ineg => exact ab_i1.mo h (fun _ _ => go)
  | irem => exact ab_i2.mo h (fun _ _ _ z => ⟨z.1, go z.2⟩)
  | ixor => exact ab_i2.mo h (fun _ _ _ => go)
  | iand => exact ab_i2.mo h (fun _ _ _ => go)
  | i2l => exact ab_i1.mo h (fun _ _ => go)
  | l2i => exact ab_l1.mo h (fun _ _ => go)
  | i2c => exact ab_i1.mo h (fun _ _ z => ⟨z.1, go z.2⟩)
  | land => exact ab_l2.mo h (fun _ _ _ => go)
  | lor => exact ab_l2.mo h (fun _ _ _ => go)
  | lcmp => exact ab_l2.mo h (fun _ _ _ => go)
  | lushr => exact ab_li.mo h (fun _ _ _ => go)
  | lshl => exact ab_li.mo h (fun _ _ _ => go)
  | dup =>
    unfold ab_w at h ⊢
    dsimp only at h ⊢
    split at h
    · split at h
      · exact go h
      · exact h
    · exact h
  | dup2 =>
    unfold ab_w at h ⊢
    dsimp only at h ⊢
    split at h
    · split at h
      · exact go h
      · exact h
    · exact h
  | pop =>
    unfold ab_w at h ⊢
    dsimp only at h ⊢
    split at h
    · split at h
      · exact go h
      · exact h
    · exact h
  | ifCond c o => exact ab_i1.mo h (fun _ _ z => ⟨z.1, z.2.mo go go⟩)
  | if_icmp c o => exact ab_i2.mo h (fun _ _ _ z => ⟨z.1, z.2.mo go go⟩)
  | goto o => exact go h
  | tableswitch d lo hi offs => exact ab_i1.mo h (fun _ _ z => ⟨z.1, z.2.mo (fun _ => go)⟩)
  | getfield ix => exact ab_p1.mo h (fun _ _ z => z.mo (fun _ => go))
  | putfield ix =>
    unfold ab_w at h ⊢
    dsimp only at h ⊢
    split at h
    · exact ab_putf.mo h (fun _ => go)
    · exact h
  | iaload => exact ab_pi.mo h (fun _ _ _ z => z.mo (fun _ _ u => ⟨u.1, go u.2⟩))
  | caload => exact ab_pi.mo h (fun _ _ _ z => z.mo (fun _ _ u => ⟨u.1, go u.2⟩))
  | baload => exact ab_pi.mo h (fun _ _ _ z => z.mo (fun _ _ u => ⟨u.1, go u.2⟩))
  | iastore => exact ab_pii.mo h (fun _ _ _ _ z => z.mo (fun _ _ u => ⟨u.1, go u.2⟩))
  | castore => exact ab_pii.mo h (fun _ _ _ _ z => z.mo (fun _ _ u => ⟨u.1, go u.2⟩))
  | bastore => exact ab_pii.mo h (fun _ _ _ _ z => z.mo (fun _ _ u => ⟨u.1, go u.2⟩))
  | aaload => exact ab_pi.mo h (fun _ _ _ z => z.mo (fun _ u => ⟨u.1, go u.2⟩))
  | aastore =>
    unfold ab_w at h ⊢
    dsimp only at h ⊢
    split at h
    · exact ab_rarr.mo h (fun _ z => z.mo (fun u => ⟨u.1, go u.2⟩))
    · exact h
  | arraylength => exact ab_p1.mo h (fun _ _ z => z.mo (fun _ => go))
  | invokevirtual ix =>
    unfold ab_w at h ⊢
    dsimp only at h ⊢
    split at h
    · exact ab_call.mo h (fun _ _ => go)
    · exact h
  | invokestatic ix =>
    unfold ab_w at h ⊢
    dsimp only at h ⊢
    split at h
    · exact ab_call.mo h (fun _ _ => go)
    · split at h
      · refine ab_i2.mo h (fun _ _ _ z => ?_)
        split at z
        · exact ⟨z.1, go z.2⟩
        · exact z
      · split at h
        · refine ab_arr.mo h (fun _ _ z => ab_arr.mo z (fun _ _ u => ?_))
          split at u
          · exact ⟨u.1, go u.2⟩
          · exact u
        · exact h
      · exact h
  | ireturn => exact h
  | return_ => exact h
  | _ => exact (show False from h).elim
theorem ab_R.sub {E : ab_E} {P : List ab_I} {Q : ab_Q} {pc : Nat} {a b : ab_L} {st : List ab_V} {cs : List ab_C} (hs : ab_sub a b) (h : ab_R E P Q pc a st cs) : ab_R E P Q pc b st cs := by
  refine h (fun pc a st cs => ∀ b, ab_sub a b → ab_R E P Q pc b st cs) ?_ b hs
  intro pc a st cs q K0 hf hw hK b hs
  exact ab_R.step hf (K := fun pc y st cs => ∃ x, ab_sub x y ∧ K0 pc x st cs) (ab_w_sub hs hw (fun pc x y st cs u k => ⟨x, u, k⟩)) (fun pc y st cs ⟨x, u, k⟩ => hK pc x st cs k y u)
/-- forget a local -/
def ab_fgo (lv : ab_L) (k : Nat) : Bool := match lv[k]? with
  | some (some v) => ab_c1 v
  | _ => true
theorem ab_sub.fg (lv : ab_L) (k : Nat) (h : ab_fgo lv k = true) : ab_sub (lv.set k none) lv := by
  refine ⟨List.length_set, fun i => ?_⟩
  rw [List.getElem?_set]
  by_cases e : k = i
  · subst e
    rw [if_pos rfl]
    by_cases hl : k < lv.length
    · rw [if_pos hl]
      rw [List.getElem?_eq_getElem hl]
      cases hv : lv[k] with
      | none => exact Or.inl rfl
      | some v =>
        unfold ab_fgo at h
        rw [List.getElem?_eq_getElem hl, hv] at h
        exact Or.inr ⟨rfl, v, rfl, h⟩
    · rw [if_neg hl, List.getElem?_eq_none (by omega)]
      exact Or.inl rfl
  · rw [if_neg e]; exact Or.inl rfl
theorem ab_R.fg {E : ab_E} {P : List ab_I} {Q : ab_Q} {pc : Nat} {lv : ab_L} {st : List ab_V} {cs : List ab_C} (k : Nat) (h0 : ab_fgo lv k = true) (h : ab_R E P Q pc (lv.set k none) st cs) : ab_R E P Q pc lv st cs := ab_R.sub (ab_sub.fg lv k h0) h
/-! contracts of the callees, one behind another -/
def ab_CT' (l : Launch) (M : List (Nat × ab_MI)) (C : List (Nat × ab_CI)) : Prop := ∀ (pc : Nat) (ci : ab_CI) (mi : ab_MI), ab_look C pc = some ci → ab_look M pc = some mi → ab_MT l mi ci.2.2.2.2
theorem ab_CT'.nil {l : Launch} {M : List (Nat × ab_MI)} : ab_CT' l M [] := fun _ _ _ h _ => by cases h
theorem ab_CT'.cons {l : Launch} {M : List (Nat × ab_MI)} {C : List (Nat × ab_CI)} {k : Nat} {mi : ab_MI} {ci : ab_CI} (h : ab_MT l mi ci.2.2.2.2) (hr : ab_CT' l M C) : ab_CT' l ((k, mi) :: M) ((k, ci) :: C) := by
  intro pc ci' mi' h1 h2
  unfold ab_look at h1 h2
  split at h1
  · next e =>
    dsimp only at e
    rw [e] at h2
    cases h1; cases h2
    exact h
  · next e =>
    dsimp only at e
    rw [e] at h2
    exact hr pc ci' mi' h1 h2
theorem ab_cl.of {sp : ab_Sp} {args : List ab_V} {cs : List ab_C} {Q : ab_Q} (h : sp args cs Q) : ab_cl sp args cs Q := ⟨Q, h, fun _ _ q => q⟩
end
section
/-! THE WORLDS: lists of cells, by what is kept in them -/
abbrev rw_T : Type := (Int → Int) × (Int → Int) × (Int → Int) × (Int → Int) × Int × Int × Int
abbrev mg_T : Type := Int × (Int → Int) × (Int → Int) × Int × (Int → Int) × (Int → Int) × (Int → Int) × Int × Int × Int × (Int → Int) × Int
abbrev mc_T : Type := (Int → Int) × (Int → Int) × (Int → Int) × (Int → Int) × (Int → Int)
abbrev pd_T : Type := (Int → Int) × (Int → Int) × Int × Int × Int
def rw_cs (r : rw_T) : List ab_C := [.inl (1, [.inr (.inl (some 1)), .inr (.inl (some 2)), .inr (.inl (some 3)), .inr (.inl (some 4)), .inl r.2.2.2.2.1, .inl r.2.2.2.2.2.1, .inl r.2.2.2.2.2.2]), .inr (.inl (0, 60, r.1)), .inr (.inl (0, 60, r.2.1)), .inr (.inl (0, 60, r.2.2.1)), .inr (.inl (0, 60, r.2.2.2.1))]
def rw2_cs (r : rw_T) (q : rw_T) : List ab_C := [.inl (1, [.inr (.inl (some 1)), .inr (.inl (some 2)), .inr (.inl (some 3)), .inr (.inl (some 4)), .inl r.2.2.2.2.1, .inl r.2.2.2.2.2.1, .inl r.2.2.2.2.2.2]), .inr (.inl (0, 60, r.1)), .inr (.inl (0, 60, r.2.1)), .inr (.inl (0, 60, r.2.2.1)), .inr (.inl (0, 60, r.2.2.2.1)), .inl (1, [.inr (.inl (some 6)), .inr (.inl (some 7)), .inr (.inl (some 8)), .inr (.inl (some 9)), .inl q.2.2.2.2.1, .inl q.2.2.2.2.2.1, .inl q.2.2.2.2.2.2]), .inr (.inl (0, 60, q.1)), .inr (.inl (0, 60, q.2.1)), .inr (.inl (0, 60, q.2.2.1)), .inr (.inl (0, 60, q.2.2.2.1))]
def rwa_cs (r : rw_T) (f : Int → Int) : List ab_C := [.inl (1, [.inr (.inl (some 1)), .inr (.inl (some 2)), .inr (.inl (some 3)), .inr (.inl (some 4)), .inl r.2.2.2.2.1, .inl r.2.2.2.2.2.1, .inl r.2.2.2.2.2.2]), .inr (.inl (0, 60, r.1)), .inr (.inl (0, 60, r.2.1)), .inr (.inl (0, 60, r.2.2.1)), .inr (.inl (0, 60, r.2.2.2.1)), .inr (.inl (0, 60, f))]
def ar_cs (f : Int → Int) : List ab_C := [.inr (.inl (0, 60, f))]
def md_cs (s_ : Int → Int) (z_ : mc_T) (g_ : mg_T) : List ab_C := [.inl (3, [.inl g_.1, .inr (.inl (some 1)), .inr (.inl (some 2)), .inr (.inl (some 3)), .inl g_.2.2.2.1, .inr (.inl (some 4)), .inr (.inl (some 5)), .inr (.inl (some 6)), .inl g_.2.2.2.2.2.2.2.1, .inr (.inl (some 7)), .inr (.inl (some 8)), .inr (.inl (some 9)), .inr (.inl (some 10)), .inr (.inl (some 11)), .inl g_.2.2.2.2.2.2.2.2.1, .inl g_.2.2.2.2.2.2.2.2.2.1, .inr (.inl (some 12)), .inl g_.2.2.2.2.2.2.2.2.2.2.2]), .inr (.inl (0, 255, s_)), .inr (.inl (0, 255, g_.2.1)), .inr (.inl (0, 1530, g_.2.2.1)), .inr (.inl (0, 510, g_.2.2.2.2.1)), .inr (.inl (2, 2, g_.2.2.2.2.2.1)), .inr (.inl (0, 80, g_.2.2.2.2.2.2.1)), .inr (.inl (0, 64, z_.1)), .inr (.inl (0, 64, z_.2.1)), .inr (.inl (0, 64, z_.2.2.1)), .inr (.inl (0, 64, z_.2.2.2.1)), .inr (.inl (0, 64, z_.2.2.2.2)), .inr (.inl (0, 128, g_.2.2.2.2.2.2.2.2.2.2.1))]
def pd_cs (p : pd_T) : List ab_C := [.inl (0, [.inr (.inl (some 1)), .inl p.2.2.1, .inl p.2.2.2.1, .inl p.2.2.2.2, .inr (.inl (some 2))]), .inr (.inl (1, 80, p.1)), .inr (.inl (0, 3, p.2.1))]
def xr_cs (u : Int) (r : rw_T) : List ab_C := [.inl (2, [.inr (.inl (some 1)), .inr (.inl (some 6)), .inr (.inl (some 7)), .inl u, .inr (.inl (some 8)), .inr (.inl (some 9)), .inr (.inl (some 10)), .inr (.inl (some 11))]), .inl (1, [.inr (.inl (some 2)), .inr (.inl (some 3)), .inr (.inl (some 4)), .inr (.inl (some 5)), .inl r.2.2.2.2.1, .inl r.2.2.2.2.2.1, .inl r.2.2.2.2.2.2]), .inr (.inl (0, 60, r.1)), .inr (.inl (0, 60, r.2.1)), .inr (.inl (0, 60, r.2.2.1)), .inr (.inl (0, 60, r.2.2.2.1))]
def xs_cs (u : Int) (f : Int → Int) : List ab_C := [.inl (2, [.inr (.inl (some 2)), .inr (.inl (some 3)), .inr (.inl (some 4)), .inl u, .inr (.inl (some 5)), .inr (.inl (some 6)), .inr (.inl (some 7)), .inr (.inl (some 1))]), .inr (.inl (0, 60, f))]
def xrs_cs (u : Int) (r : rw_T) (f : Int → Int) : List ab_C := [.inl (2, [.inr (.inl (some 1)), .inr (.inl (some 7)), .inr (.inl (some 8)), .inl u, .inr (.inl (some 9)), .inr (.inl (some 10)), .inr (.inl (some 11)), .inr (.inl (some 6))]), .inl (1, [.inr (.inl (some 2)), .inr (.inl (some 3)), .inr (.inl (some 4)), .inr (.inl (some 5)), .inl r.2.2.2.2.1, .inl r.2.2.2.2.2.1, .inl r.2.2.2.2.2.2]), .inr (.inl (0, 60, r.1)), .inr (.inl (0, 60, r.2.1)), .inr (.inl (0, 60, r.2.2.1)), .inr (.inl (0, 60, r.2.2.2.1)), .inr (.inl (0, 60, f))]
def xrt_cs (u : Int) (r : rw_T) (q : rw_T) : List ab_C := [.inl (2, [.inr (.inl (some 1)), .inr (.inl (some 6)), .inr (.inl (some 11)), .inl u, .inr (.inl (some 12)), .inr (.inl (some 13)), .inr (.inl (some 14)), .inr (.inl (some 15))]), .inl (1, [.inr (.inl (some 2)), .inr (.inl (some 3)), .inr (.inl (some 4)), .inr (.inl (some 5)), .inl r.2.2.2.2.1, .inl r.2.2.2.2.2.1, .inl r.2.2.2.2.2.2]), .inr (.inl (0, 60, r.1)), .inr (.inl (0, 60, r.2.1)), .inr (.inl (0, 60, r.2.2.1)), .inr (.inl (0, 60, r.2.2.2.1)), .inl (1, [.inr (.inl (some 7)), .inr (.inl (some 8)), .inr (.inl (some 9)), .inr (.inl (some 10)), .inl q.2.2.2.2.1, .inl q.2.2.2.2.2.1, .inl q.2.2.2.2.2.2]), .inr (.inl (0, 60, q.1)), .inr (.inl (0, 60, q.2.1)), .inr (.inl (0, 60, q.2.2.1)), .inr (.inl (0, 60, q.2.2.2.1))]
def xp_cs (u : Int) (p : pd_T) : List ab_C := [.inl (2, [.inr (.inl (some 4)), .inr (.inl (some 5)), .inr (.inl (some 6)), .inl u, .inr (.inl (some 7)), .inr (.inl (some 8)), .inr (.inl (some 1)), .inr (.inl (some 9))]), .inl (0, [.inr (.inl (some 2)), .inl p.2.2.1, .inl p.2.2.2.1, .inl p.2.2.2.2, .inr (.inl (some 3))]), .inr (.inl (1, 80, p.1)), .inr (.inl (0, 3, p.2.1))]
def xrp_cs (u : Int) (r : rw_T) (p : pd_T) : List ab_C := [.inl (2, [.inr (.inl (some 1)), .inr (.inl (some 9)), .inr (.inl (some 10)), .inl u, .inr (.inl (some 11)), .inr (.inl (some 12)), .inr (.inl (some 6)), .inr (.inl (some 13))]), .inl (1, [.inr (.inl (some 2)), .inr (.inl (some 3)), .inr (.inl (some 4)), .inr (.inl (some 5)), .inl r.2.2.2.2.1, .inl r.2.2.2.2.2.1, .inl r.2.2.2.2.2.2]), .inr (.inl (0, 60, r.1)), .inr (.inl (0, 60, r.2.1)), .inr (.inl (0, 60, r.2.2.1)), .inr (.inl (0, 60, r.2.2.2.1)), .inl (0, [.inr (.inl (some 7)), .inl p.2.2.1, .inl p.2.2.2.1, .inl p.2.2.2.2, .inr (.inl (some 8))]), .inr (.inl (1, 80, p.1)), .inr (.inl (0, 3, p.2.1))]
def xh_cs (u : Int) (r : rw_T) (h0 : rw_T) (h1 : rw_T) (h2 : rw_T) (h3 : rw_T) (h4 : rw_T) (h5 : rw_T) : List ab_C := [.inl (2, [.inr (.inl (some 1)), .inr (.inl (some 37)), .inr (.inl (some 6)), .inl u, .inr (.inl (some 38)), .inr (.inl (some 39)), .inr (.inl (some 40)), .inr (.inl (some 41))]), .inl (1, [.inr (.inl (some 2)), .inr (.inl (some 3)), .inr (.inl (some 4)), .inr (.inl (some 5)), .inl r.2.2.2.2.1, .inl r.2.2.2.2.2.1, .inl r.2.2.2.2.2.2]), .inr (.inl (0, 60, r.1)), .inr (.inl (0, 60, r.2.1)), .inr (.inl (0, 60, r.2.2.1)), .inr (.inl (0, 60, r.2.2.2.1)), .inr (.inr [some 7, some 12, some 17, some 22, some 27, some 32]), .inl (1, [.inr (.inl (some 8)), .inr (.inl (some 9)), .inr (.inl (some 10)), .inr (.inl (some 11)), .inl h0.2.2.2.2.1, .inl h0.2.2.2.2.2.1, .inl h0.2.2.2.2.2.2]), .inr (.inl (0, 60, h0.1)), .inr (.inl (0, 60, h0.2.1)), .inr (.inl (0, 60, h0.2.2.1)), .inr (.inl (0, 60, h0.2.2.2.1)), .inl (1, [.inr (.inl (some 13)), .inr (.inl (some 14)), .inr (.inl (some 15)), .inr (.inl (some 16)), .inl h1.2.2.2.2.1, .inl h1.2.2.2.2.2.1, .inl h1.2.2.2.2.2.2]), .inr (.inl (0, 60, h1.1)), .inr (.inl (0, 60, h1.2.1)), .inr (.inl (0, 60, h1.2.2.1)), .inr (.inl (0, 60, h1.2.2.2.1)), .inl (1, [.inr (.inl (some 18)), .inr (.inl (some 19)), .inr (.inl (some 20)), .inr (.inl (some 21)), .inl h2.2.2.2.2.1, .inl h2.2.2.2.2.2.1, .inl h2.2.2.2.2.2.2]), .inr (.inl (0, 60, h2.1)), .inr (.inl (0, 60, h2.2.1)), .inr (.inl (0, 60, h2.2.2.1)), .inr (.inl (0, 60, h2.2.2.2.1)), .inl (1, [.inr (.inl (some 23)), .inr (.inl (some 24)), .inr (.inl (some 25)), .inr (.inl (some 26)), .inl h3.2.2.2.2.1, .inl h3.2.2.2.2.2.1, .inl h3.2.2.2.2.2.2]), .inr (.inl (0, 60, h3.1)), .inr (.inl (0, 60, h3.2.1)), .inr (.inl (0, 60, h3.2.2.1)), .inr (.inl (0, 60, h3.2.2.2.1)), .inl (1, [.inr (.inl (some 28)), .inr (.inl (some 29)), .inr (.inl (some 30)), .inr (.inl (some 31)), .inl h4.2.2.2.2.1, .inl h4.2.2.2.2.2.1, .inl h4.2.2.2.2.2.2]), .inr (.inl (0, 60, h4.1)), .inr (.inl (0, 60, h4.2.1)), .inr (.inl (0, 60, h4.2.2.1)), .inr (.inl (0, 60, h4.2.2.2.1)), .inl (1, [.inr (.inl (some 33)), .inr (.inl (some 34)), .inr (.inl (some 35)), .inr (.inl (some 36)), .inl h5.2.2.2.2.1, .inl h5.2.2.2.2.2.1, .inl h5.2.2.2.2.2.2]), .inr (.inl (0, 60, h5.1)), .inr (.inl (0, 60, h5.2.1)), .inr (.inl (0, 60, h5.2.2.1)), .inr (.inl (0, 60, h5.2.2.2.1))]
def xhs_cs (u : Int) (r : rw_T) (f : Int → Int) (h0 : rw_T) (h1 : rw_T) (h2 : rw_T) (h3 : rw_T) (h4 : rw_T) (h5 : rw_T) : List ab_C := [.inl (2, [.inr (.inl (some 1)), .inr (.inl (some 38)), .inr (.inl (some 7)), .inl u, .inr (.inl (some 39)), .inr (.inl (some 40)), .inr (.inl (some 41)), .inr (.inl (some 6))]), .inl (1, [.inr (.inl (some 2)), .inr (.inl (some 3)), .inr (.inl (some 4)), .inr (.inl (some 5)), .inl r.2.2.2.2.1, .inl r.2.2.2.2.2.1, .inl r.2.2.2.2.2.2]), .inr (.inl (0, 60, r.1)), .inr (.inl (0, 60, r.2.1)), .inr (.inl (0, 60, r.2.2.1)), .inr (.inl (0, 60, r.2.2.2.1)), .inr (.inl (0, 60, f)), .inr (.inr [some 8, some 13, some 18, some 23, some 28, some 33]), .inl (1, [.inr (.inl (some 9)), .inr (.inl (some 10)), .inr (.inl (some 11)), .inr (.inl (some 12)), .inl h0.2.2.2.2.1, .inl h0.2.2.2.2.2.1, .inl h0.2.2.2.2.2.2]), .inr (.inl (0, 60, h0.1)), .inr (.inl (0, 60, h0.2.1)), .inr (.inl (0, 60, h0.2.2.1)), .inr (.inl (0, 60, h0.2.2.2.1)), .inl (1, [.inr (.inl (some 14)), .inr (.inl (some 15)), .inr (.inl (some 16)), .inr (.inl (some 17)), .inl h1.2.2.2.2.1, .inl h1.2.2.2.2.2.1, .inl h1.2.2.2.2.2.2]), .inr (.inl (0, 60, h1.1)), .inr (.inl (0, 60, h1.2.1)), .inr (.inl (0, 60, h1.2.2.1)), .inr (.inl (0, 60, h1.2.2.2.1)), .inl (1, [.inr (.inl (some 19)), .inr (.inl (some 20)), .inr (.inl (some 21)), .inr (.inl (some 22)), .inl h2.2.2.2.2.1, .inl h2.2.2.2.2.2.1, .inl h2.2.2.2.2.2.2]), .inr (.inl (0, 60, h2.1)), .inr (.inl (0, 60, h2.2.1)), .inr (.inl (0, 60, h2.2.2.1)), .inr (.inl (0, 60, h2.2.2.2.1)), .inl (1, [.inr (.inl (some 24)), .inr (.inl (some 25)), .inr (.inl (some 26)), .inr (.inl (some 27)), .inl h3.2.2.2.2.1, .inl h3.2.2.2.2.2.1, .inl h3.2.2.2.2.2.2]), .inr (.inl (0, 60, h3.1)), .inr (.inl (0, 60, h3.2.1)), .inr (.inl (0, 60, h3.2.2.1)), .inr (.inl (0, 60, h3.2.2.2.1)), .inl (1, [.inr (.inl (some 29)), .inr (.inl (some 30)), .inr (.inl (some 31)), .inr (.inl (some 32)), .inl h4.2.2.2.2.1, .inl h4.2.2.2.2.2.1, .inl h4.2.2.2.2.2.2]), .inr (.inl (0, 60, h4.1)), .inr (.inl (0, 60, h4.2.1)), .inr (.inl (0, 60, h4.2.2.1)), .inr (.inl (0, 60, h4.2.2.2.1)), .inl (1, [.inr (.inl (some 34)), .inr (.inl (some 35)), .inr (.inl (some 36)), .inr (.inl (some 37)), .inl h5.2.2.2.2.1, .inl h5.2.2.2.2.2.1, .inl h5.2.2.2.2.2.2]), .inr (.inl (0, 60, h5.1)), .inr (.inl (0, 60, h5.2.1)), .inr (.inl (0, 60, h5.2.2.1)), .inr (.inl (0, 60, h5.2.2.2.1))]
def xhp_cs (u : Int) (r : rw_T) (f : Int → Int) (p : pd_T) (h0 : rw_T) (h1 : rw_T) (h2 : rw_T) (h3 : rw_T) (h4 : rw_T) (h5 : rw_T) : List ab_C := [.inl (2, [.inr (.inl (some 1)), .inr (.inl (some 41)), .inr (.inl (some 10)), .inl u, .inr (.inl (some 42)), .inr (.inl (some 43)), .inr (.inl (some 7)), .inr (.inl (some 6))]), .inl (1, [.inr (.inl (some 2)), .inr (.inl (some 3)), .inr (.inl (some 4)), .inr (.inl (some 5)), .inl r.2.2.2.2.1, .inl r.2.2.2.2.2.1, .inl r.2.2.2.2.2.2]), .inr (.inl (0, 60, r.1)), .inr (.inl (0, 60, r.2.1)), .inr (.inl (0, 60, r.2.2.1)), .inr (.inl (0, 60, r.2.2.2.1)), .inr (.inl (0, 60, f)), .inl (0, [.inr (.inl (some 8)), .inl p.2.2.1, .inl p.2.2.2.1, .inl p.2.2.2.2, .inr (.inl (some 9))]), .inr (.inl (1, 80, p.1)), .inr (.inl (0, 3, p.2.1)), .inr (.inr [some 11, some 16, some 21, some 26, some 31, some 36]), .inl (1, [.inr (.inl (some 12)), .inr (.inl (some 13)), .inr (.inl (some 14)), .inr (.inl (some 15)), .inl h0.2.2.2.2.1, .inl h0.2.2.2.2.2.1, .inl h0.2.2.2.2.2.2]), .inr (.inl (0, 60, h0.1)), .inr (.inl (0, 60, h0.2.1)), .inr (.inl (0, 60, h0.2.2.1)), .inr (.inl (0, 60, h0.2.2.2.1)), .inl (1, [.inr (.inl (some 17)), .inr (.inl (some 18)), .inr (.inl (some 19)), .inr (.inl (some 20)), .inl h1.2.2.2.2.1, .inl h1.2.2.2.2.2.1, .inl h1.2.2.2.2.2.2]), .inr (.inl (0, 60, h1.1)), .inr (.inl (0, 60, h1.2.1)), .inr (.inl (0, 60, h1.2.2.1)), .inr (.inl (0, 60, h1.2.2.2.1)), .inl (1, [.inr (.inl (some 22)), .inr (.inl (some 23)), .inr (.inl (some 24)), .inr (.inl (some 25)), .inl h2.2.2.2.2.1, .inl h2.2.2.2.2.2.1, .inl h2.2.2.2.2.2.2]), .inr (.inl (0, 60, h2.1)), .inr (.inl (0, 60, h2.2.1)), .inr (.inl (0, 60, h2.2.2.1)), .inr (.inl (0, 60, h2.2.2.2.1)), .inl (1, [.inr (.inl (some 27)), .inr (.inl (some 28)), .inr (.inl (some 29)), .inr (.inl (some 30)), .inl h3.2.2.2.2.1, .inl h3.2.2.2.2.2.1, .inl h3.2.2.2.2.2.2]), .inr (.inl (0, 60, h3.1)), .inr (.inl (0, 60, h3.2.1)), .inr (.inl (0, 60, h3.2.2.1)), .inr (.inl (0, 60, h3.2.2.2.1)), .inl (1, [.inr (.inl (some 32)), .inr (.inl (some 33)), .inr (.inl (some 34)), .inr (.inl (some 35)), .inl h4.2.2.2.2.1, .inl h4.2.2.2.2.2.1, .inl h4.2.2.2.2.2.2]), .inr (.inl (0, 60, h4.1)), .inr (.inl (0, 60, h4.2.1)), .inr (.inl (0, 60, h4.2.2.1)), .inr (.inl (0, 60, h4.2.2.2.1)), .inl (1, [.inr (.inl (some 37)), .inr (.inl (some 38)), .inr (.inl (some 39)), .inr (.inl (some 40)), .inl h5.2.2.2.2.1, .inl h5.2.2.2.2.2.1, .inl h5.2.2.2.2.2.2]), .inr (.inl (0, 60, h5.1)), .inr (.inl (0, 60, h5.2.1)), .inr (.inl (0, 60, h5.2.2.1)), .inr (.inl (0, 60, h5.2.2.2.1))]
def xsl_cs (u : Int) (r : rw_T) (z : Int → Int) (s0 : rw_T) (s1 : rw_T) : List ab_C := [.inl (2, [.inr (.inl (some 1)), .inr (.inl (some 18)), .inr (.inl (some 19)), .inl u, .inr (.inl (some 6)), .inr (.inl (some 7)), .inr (.inl (some 20)), .inr (.inl (some 21))]), .inl (1, [.inr (.inl (some 2)), .inr (.inl (some 3)), .inr (.inl (some 4)), .inr (.inl (some 5)), .inl r.2.2.2.2.1, .inl r.2.2.2.2.2.1, .inl r.2.2.2.2.2.2]), .inr (.inl (0, 60, r.1)), .inr (.inl (0, 60, r.2.1)), .inr (.inl (0, 60, r.2.2.1)), .inr (.inl (0, 60, r.2.2.2.1)), .inr (.inr [some 8, some 13]), .inr (.inl (2, 2, z)), .inl (1, [.inr (.inl (some 9)), .inr (.inl (some 10)), .inr (.inl (some 11)), .inr (.inl (some 12)), .inl s0.2.2.2.2.1, .inl s0.2.2.2.2.2.1, .inl s0.2.2.2.2.2.2]), .inr (.inl (0, 60, s0.1)), .inr (.inl (0, 60, s0.2.1)), .inr (.inl (0, 60, s0.2.2.1)), .inr (.inl (0, 60, s0.2.2.2.1)), .inl (1, [.inr (.inl (some 14)), .inr (.inl (some 15)), .inr (.inl (some 16)), .inr (.inl (some 17)), .inl s1.2.2.2.2.1, .inl s1.2.2.2.2.2.1, .inl s1.2.2.2.2.2.2]), .inr (.inl (0, 60, s1.1)), .inr (.inl (0, 60, s1.2.1)), .inr (.inl (0, 60, s1.2.2.1)), .inr (.inl (0, 60, s1.2.2.2.1))]
def xhl_cs (u : Int) (r : rw_T) (h0 : rw_T) (h1 : rw_T) (h2 : rw_T) (h3 : rw_T) (h4 : rw_T) (h5 : rw_T) (z : Int → Int) (s0 : rw_T) (s1 : rw_T) : List ab_C := [.inl (2, [.inr (.inl (some 1)), .inr (.inl (some 49)), .inr (.inl (some 6)), .inl u, .inr (.inl (some 37)), .inr (.inl (some 38)), .inr (.inl (some 50)), .inr (.inl (some 51))]), .inl (1, [.inr (.inl (some 2)), .inr (.inl (some 3)), .inr (.inl (some 4)), .inr (.inl (some 5)), .inl r.2.2.2.2.1, .inl r.2.2.2.2.2.1, .inl r.2.2.2.2.2.2]), .inr (.inl (0, 60, r.1)), .inr (.inl (0, 60, r.2.1)), .inr (.inl (0, 60, r.2.2.1)), .inr (.inl (0, 60, r.2.2.2.1)), .inr (.inr [some 7, some 12, some 17, some 22, some 27, some 32]), .inl (1, [.inr (.inl (some 8)), .inr (.inl (some 9)), .inr (.inl (some 10)), .inr (.inl (some 11)), .inl h0.2.2.2.2.1, .inl h0.2.2.2.2.2.1, .inl h0.2.2.2.2.2.2]), .inr (.inl (0, 60, h0.1)), .inr (.inl (0, 60, h0.2.1)), .inr (.inl (0, 60, h0.2.2.1)), .inr (.inl (0, 60, h0.2.2.2.1)), .inl (1, [.inr (.inl (some 13)), .inr (.inl (some 14)), .inr (.inl (some 15)), .inr (.inl (some 16)), .inl h1.2.2.2.2.1, .inl h1.2.2.2.2.2.1, .inl h1.2.2.2.2.2.2]), .inr (.inl (0, 60, h1.1)), .inr (.inl (0, 60, h1.2.1)), .inr (.inl (0, 60, h1.2.2.1)), .inr (.inl (0, 60, h1.2.2.2.1)), .inl (1, [.inr (.inl (some 18)), .inr (.inl (some 19)), .inr (.inl (some 20)), .inr (.inl (some 21)), .inl h2.2.2.2.2.1, .inl h2.2.2.2.2.2.1, .inl h2.2.2.2.2.2.2]), .inr (.inl (0, 60, h2.1)), .inr (.inl (0, 60, h2.2.1)), .inr (.inl (0, 60, h2.2.2.1)), .inr (.inl (0, 60, h2.2.2.2.1)), .inl (1, [.inr (.inl (some 23)), .inr (.inl (some 24)), .inr (.inl (some 25)), .inr (.inl (some 26)), .inl h3.2.2.2.2.1, .inl h3.2.2.2.2.2.1, .inl h3.2.2.2.2.2.2]), .inr (.inl (0, 60, h3.1)), .inr (.inl (0, 60, h3.2.1)), .inr (.inl (0, 60, h3.2.2.1)), .inr (.inl (0, 60, h3.2.2.2.1)), .inl (1, [.inr (.inl (some 28)), .inr (.inl (some 29)), .inr (.inl (some 30)), .inr (.inl (some 31)), .inl h4.2.2.2.2.1, .inl h4.2.2.2.2.2.1, .inl h4.2.2.2.2.2.2]), .inr (.inl (0, 60, h4.1)), .inr (.inl (0, 60, h4.2.1)), .inr (.inl (0, 60, h4.2.2.1)), .inr (.inl (0, 60, h4.2.2.2.1)), .inl (1, [.inr (.inl (some 33)), .inr (.inl (some 34)), .inr (.inl (some 35)), .inr (.inl (some 36)), .inl h5.2.2.2.2.1, .inl h5.2.2.2.2.2.1, .inl h5.2.2.2.2.2.2]), .inr (.inl (0, 60, h5.1)), .inr (.inl (0, 60, h5.2.1)), .inr (.inl (0, 60, h5.2.2.1)), .inr (.inl (0, 60, h5.2.2.2.1)), .inr (.inr [some 39, some 44]), .inr (.inl (2, 2, z)), .inl (1, [.inr (.inl (some 40)), .inr (.inl (some 41)), .inr (.inl (some 42)), .inr (.inl (some 43)), .inl s0.2.2.2.2.1, .inl s0.2.2.2.2.2.1, .inl s0.2.2.2.2.2.2]), .inr (.inl (0, 60, s0.1)), .inr (.inl (0, 60, s0.2.1)), .inr (.inl (0, 60, s0.2.2.1)), .inr (.inl (0, 60, s0.2.2.2.1)), .inl (1, [.inr (.inl (some 45)), .inr (.inl (some 46)), .inr (.inl (some 47)), .inr (.inl (some 48)), .inl s1.2.2.2.2.1, .inl s1.2.2.2.2.2.1, .inl s1.2.2.2.2.2.2]), .inr (.inl (0, 60, s1.1)), .inr (.inl (0, 60, s1.2.1)), .inr (.inl (0, 60, s1.2.2.1)), .inr (.inl (0, 60, s1.2.2.2.1))]
def xx_cs (u : Int) (r : rw_T) (q : rw_T) (h0 : rw_T) (h1 : rw_T) (h2 : rw_T) (h3 : rw_T) (h4 : rw_T) (h5 : rw_T) (s0 : rw_T) (s1 : rw_T) (z : Int → Int) (p : pd_T) (f : Int → Int) : List ab_C := [.inl (2, [.inr (.inl (some 1)), .inr (.inl (some 6)), .inr (.inl (some 11)), .inl u, .inr (.inl (some 42)), .inr (.inl (some 53)), .inr (.inl (some 54)), .inr (.inl (some 57))]), .inl (1, [.inr (.inl (some 2)), .inr (.inl (some 3)), .inr (.inl (some 4)), .inr (.inl (some 5)), .inl r.2.2.2.2.1, .inl r.2.2.2.2.2.1, .inl r.2.2.2.2.2.2]), .inr (.inl (0, 60, r.1)), .inr (.inl (0, 60, r.2.1)), .inr (.inl (0, 60, r.2.2.1)), .inr (.inl (0, 60, r.2.2.2.1)), .inl (1, [.inr (.inl (some 7)), .inr (.inl (some 8)), .inr (.inl (some 9)), .inr (.inl (some 10)), .inl q.2.2.2.2.1, .inl q.2.2.2.2.2.1, .inl q.2.2.2.2.2.2]), .inr (.inl (0, 60, q.1)), .inr (.inl (0, 60, q.2.1)), .inr (.inl (0, 60, q.2.2.1)), .inr (.inl (0, 60, q.2.2.2.1)), .inr (.inr [some 12, some 17, some 22, some 27, some 32, some 37]), .inl (1, [.inr (.inl (some 13)), .inr (.inl (some 14)), .inr (.inl (some 15)), .inr (.inl (some 16)), .inl h0.2.2.2.2.1, .inl h0.2.2.2.2.2.1, .inl h0.2.2.2.2.2.2]), .inr (.inl (0, 60, h0.1)), .inr (.inl (0, 60, h0.2.1)), .inr (.inl (0, 60, h0.2.2.1)), .inr (.inl (0, 60, h0.2.2.2.1)), .inl (1, [.inr (.inl (some 18)), .inr (.inl (some 19)), .inr (.inl (some 20)), .inr (.inl (some 21)), .inl h1.2.2.2.2.1, .inl h1.2.2.2.2.2.1, .inl h1.2.2.2.2.2.2]), .inr (.inl (0, 60, h1.1)), .inr (.inl (0, 60, h1.2.1)), .inr (.inl (0, 60, h1.2.2.1)), .inr (.inl (0, 60, h1.2.2.2.1)), .inl (1, [.inr (.inl (some 23)), .inr (.inl (some 24)), .inr (.inl (some 25)), .inr (.inl (some 26)), .inl h2.2.2.2.2.1, .inl h2.2.2.2.2.2.1, .inl h2.2.2.2.2.2.2]), .inr (.inl (0, 60, h2.1)), .inr (.inl (0, 60, h2.2.1)), .inr (.inl (0, 60, h2.2.2.1)), .inr (.inl (0, 60, h2.2.2.2.1)), .inl (1, [.inr (.inl (some 28)), .inr (.inl (some 29)), .inr (.inl (some 30)), .inr (.inl (some 31)), .inl h3.2.2.2.2.1, .inl h3.2.2.2.2.2.1, .inl h3.2.2.2.2.2.2]), .inr (.inl (0, 60, h3.1)), .inr (.inl (0, 60, h3.2.1)), .inr (.inl (0, 60, h3.2.2.1)), .inr (.inl (0, 60, h3.2.2.2.1)), .inl (1, [.inr (.inl (some 33)), .inr (.inl (some 34)), .inr (.inl (some 35)), .inr (.inl (some 36)), .inl h4.2.2.2.2.1, .inl h4.2.2.2.2.2.1, .inl h4.2.2.2.2.2.2]), .inr (.inl (0, 60, h4.1)), .inr (.inl (0, 60, h4.2.1)), .inr (.inl (0, 60, h4.2.2.1)), .inr (.inl (0, 60, h4.2.2.2.1)), .inl (1, [.inr (.inl (some 38)), .inr (.inl (some 39)), .inr (.inl (some 40)), .inr (.inl (some 41)), .inl h5.2.2.2.2.1, .inl h5.2.2.2.2.2.1, .inl h5.2.2.2.2.2.2]), .inr (.inl (0, 60, h5.1)), .inr (.inl (0, 60, h5.2.1)), .inr (.inl (0, 60, h5.2.2.1)), .inr (.inl (0, 60, h5.2.2.2.1)), .inr (.inr [some 43, some 48]), .inl (1, [.inr (.inl (some 44)), .inr (.inl (some 45)), .inr (.inl (some 46)), .inr (.inl (some 47)), .inl s0.2.2.2.2.1, .inl s0.2.2.2.2.2.1, .inl s0.2.2.2.2.2.2]), .inr (.inl (0, 60, s0.1)), .inr (.inl (0, 60, s0.2.1)), .inr (.inl (0, 60, s0.2.2.1)), .inr (.inl (0, 60, s0.2.2.2.1)), .inl (1, [.inr (.inl (some 49)), .inr (.inl (some 50)), .inr (.inl (some 51)), .inr (.inl (some 52)), .inl s1.2.2.2.2.1, .inl s1.2.2.2.2.2.1, .inl s1.2.2.2.2.2.2]), .inr (.inl (0, 60, s1.1)), .inr (.inl (0, 60, s1.2.1)), .inr (.inl (0, 60, s1.2.2.1)), .inr (.inl (0, 60, s1.2.2.2.1)), .inr (.inl (2, 2, z)), .inl (0, [.inr (.inl (some 55)), .inl p.2.2.1, .inl p.2.2.2.1, .inl p.2.2.2.2, .inr (.inl (some 56))]), .inr (.inl (1, 80, p.1)), .inr (.inl (0, 3, p.2.1)), .inr (.inl (0, 60, f))]
def T_X0 : ab_T := ([(9, 0, 0, false, 3), (15, 0, 1, false, 0), (19, 0, 2, false, 0), (22, 0, 3, false, 1), (26, 0, 4, false, 3)], [], [])
theorem tk_X0 : ab_okT "RootChunks$Pad" T_X0 = true := by decide +kernel
def T_X1 : ab_T := ([(9, 1, 0, false, 3), (15, 1, 1, false, 3), (18, 1, 2, false, 3), (21, 1, 3, false, 3), (24, 1, 4, false, 0), (28, 1, 5, false, 0), (31, 1, 6, false, 0)], [], [])
theorem tk_X1 : ab_okT "RootChunks$Row" T_X1 = true := by decide +kernel
def T_X2 : ab_T := ([(10, 2, 0, false, 3), (16, 2, 1, false, 3), (23, 2, 2, false, 3), (27, 2, 3, false, 0), (31, 2, 4, false, 3), (34, 2, 5, false, 3), (41, 2, 6, false, 3), (45, 2, 7, false, 3), (62, 1, 5, true, 0), (65, 1, 1, true, 3), (71, 1, 2, true, 3), (74, 1, 3, true, 3), (77, 1, 4, true, 0), (84, 1, 6, true, 0), (96, 0, 1, true, 0), (147, 0, 2, true, 0), (154, 0, 3, true, 1), (158, 0, 4, true, 3)], [(61, (100000 : Int)), (109, (99999 : Int)), (114, (10000000 : Int))], [(208, (255 : Int64))])
theorem tk_X2 : ab_okT "RootChunks" T_X2 = true := by decide +kernel
def T_X3 : ab_T := ([(7, 3, 1, false, 3), (13, 3, 2, false, 3), (16, 3, 3, false, 3), (19, 3, 5, false, 3), (22, 3, 6, false, 3), (26, 3, 7, false, 3), (29, 3, 9, false, 3), (32, 3, 10, false, 3), (35, 3, 11, false, 3), (38, 3, 12, false, 3), (41, 3, 13, false, 3), (44, 3, 16, false, 3), (47, 3, 0, false, 0), (51, 3, 4, false, 0), (156, 3, 8, false, 0), (168, 3, 14, false, 0), (171, 3, 15, false, 2), (193, 3, 17, false, 0)], [(110, (-99999 : Int)), (111, (99999 : Int)), (128, (100000 : Int)), (165, (10000000 : Int))], [(166, (255 : Int64))])
theorem tk_X3 : ab_okT "RootChunksModel" T_X3 = true := by decide +kernel
end
section
/-! THE ROW AS LISTS: a chunk: what is kept, whether a turn waits (1), the sum that waits -/
abbrev mq_K : Type := List Int × Int × Int
def mq_row (k : mq_K) : List Int := (if k.2.1 = 1 then k.1.reverse else k.1).map (fun x => x + k.2.2)
def mq_len (k : mq_K) : Int := k.1.length
def mq_flat (q : List mq_K) : List Int := q.flatMap (fun k => k.1)
def mq_all (q : List mq_K) : List Int := q.flatMap mq_row
def mq_cost (k : mq_K) : Int := if k.2.1 = 0 ∧ k.2.2 = 0 then 0 else k.1.length
/-- a row's list -/
def mq_al (f : Int → Int) (l : List Int) : Prop := ∀ (i : Nat) (x : Int), l[i]? = some x → f i = x
/-- an object of the class holds the chunks q -/
def mq_R (r : rw_T) (q : List mq_K) : Prop := mq_al r.1 (mq_flat q) ∧ mq_al r.2.1 (q.map mq_len) ∧ mq_al r.2.2.1 (q.map (fun k => k.2.1)) ∧ mq_al r.2.2.2.1 (q.map (fun k => k.2.2)) ∧ r.2.2.2.2.1 = (mq_flat q).length ∧ r.2.2.2.2.2.1 = q.length
/-- a chunk as it may be -/
def mq_ok (k : mq_K) : Prop := 0 < k.1.length ∧ (k.2.1 = 0 ∨ k.2.1 = 1) ∧ (∀ x ∈ k.1, -99999 ≤ x ∧ x ≤ 99999) ∧ (∀ x ∈ mq_row k, -99999 ≤ x ∧ x ≤ 99999)
def mq_W (q : List mq_K) : Prop := (∀ k ∈ q, mq_ok k) ∧ (mq_flat q).length ≤ 60
theorem mq_flat_app (a b : List mq_K) : mq_flat (a ++ b) = mq_flat a ++ mq_flat b := List.flatMap_append
theorem mq_flat_cons (k : mq_K) (b : List mq_K) : mq_flat (k :: b) = k.1 ++ mq_flat b := List.flatMap_cons
theorem mq_all_app (a b : List mq_K) : mq_all (a ++ b) = mq_all a ++ mq_all b := List.flatMap_append
theorem mq_all_cons (k : mq_K) (b : List mq_K) : mq_all (k :: b) = mq_row k ++ mq_all b := List.flatMap_cons
theorem mq_row_len (k : mq_K) : (mq_row k).length = k.1.length := by
  unfold mq_row
  rw [List.length_map]
  split
  · exact List.length_reverse
  · rfl
theorem mq_all_len : ∀ q : List mq_K, (mq_all q).length = (mq_flat q).length
  | [] => rfl
  | k :: q => by rw [mq_all_cons, mq_flat_cons, List.length_append, List.length_append, mq_row_len, mq_all_len q]
theorem mq_row_done (l : List Int) : mq_row (l, 0, 0) = l := by
  unfold mq_row
  rw [if_neg (show ¬ ((0 : Int) = 1) by decide)]
  simp
theorem mq_cost_0 {k : mq_K} (h : k.2.1 = 0) (h2 : k.2.2 = 0) : mq_row k = k.1 ∧ mq_cost k = 0 ∧ k = (mq_row k, 0, 0) := by
  obtain ⟨l, t, u⟩ := k
  dsimp only at h h2
  subst h; subst h2
  rw [mq_row_done]
  exact ⟨rfl, by unfold mq_cost; rw [if_pos ⟨rfl, rfl⟩], rfl⟩
theorem mq_flat_pos : ∀ {q : List mq_K}, (∀ k ∈ q, mq_ok k) → q.length ≤ (mq_flat q).length
  | [], _ => Nat.le_refl 0
  | k :: q, h => by
    have h1 := (h k List.mem_cons_self).1
    have h2 := mq_flat_pos (q := q) (fun k hk => h k (List.mem_cons_of_mem _ hk))
    rw [mq_flat_cons, List.length_append, List.length_cons]
    omega
theorem mq_W.chunks {q : List mq_K} (h : mq_W q) : q.length ≤ 60 := Nat.le_trans (mq_flat_pos h.1) h.2
theorem mq_take_succ {q : List mq_K} {c : Nat} {k : mq_K} (h : q[c]? = some k) : (mq_flat (q.take (c + 1))).length = (mq_flat (q.take c)).length + k.1.length := by
  rw [List.take_succ, h, mq_flat_app, List.length_append]
  congr 1
  show (mq_flat [k]).length = _
  rw [mq_flat_cons, List.length_append]
  simp [mq_flat]
theorem mq_take_le (q : List mq_K) (c : Nat) : (mq_flat (q.take c)).length ≤ (mq_flat q).length := by
  conv => rhs; rw [← List.take_append_drop c q]
  rw [mq_flat_app, List.length_append]
  omega
/-- q at a chunk -/
theorem mq_split {q : List mq_K} {c : Nat} (h : c < q.length) : ∃ k, q[c]? = some k ∧ q = q.take c ++ k :: q.drop (c + 1) := by
  refine ⟨q[c], List.getElem?_eq_getElem h, ?_⟩
  conv => lhs; rw [← List.take_append_drop c q]
  rw [List.drop_eq_getElem_cons h]
theorem mq_al.at {f : Int → Int} {l : List Int} (h : mq_al f l) {i : Nat} {x : Int} (hi : l[i]? = some x) : f i = x := h i x hi
theorem mq_R.len {r : rw_T} {q : List mq_K} (h : mq_R r q) {c : Nat} {k : mq_K} (hc : q[c]? = some k) : r.2.1 c = k.1.length := h.2.1 c _ (by rw [List.getElem?_map, hc]; rfl)
theorem mq_R.turn {r : rw_T} {q : List mq_K} (h : mq_R r q) {c : Nat} {k : mq_K} (hc : q[c]? = some k) : r.2.2.1 c = k.2.1 := h.2.2.1 c _ (by rw [List.getElem?_map, hc]; rfl)
theorem mq_R.sum {r : rw_T} {q : List mq_K} (h : mq_R r q) {c : Nat} {k : mq_K} (hc : q[c]? = some k) : r.2.2.2.1 c = k.2.2 := h.2.2.2.1 c _ (by rw [List.getElem?_map, hc]; rfl)
theorem mq_app_at {A B : List Int} {j : Nat} {x : Int} (h : B[j]? = some x) : (A ++ B)[A.length + j]? = some x := by
  rw [List.getElem?_append_right (by omega)]
  rw [show A.length + j - A.length = j by omega]
  exact h
/-- where a chunk's numbers are kept -/
theorem mq_R.kept {r : rw_T} {A B : List mq_K} {k : mq_K} (h : mq_R r (A ++ k :: B)) {j : Nat} {x : Int} (hj : k.1[j]? = some x) : r.1 ((mq_flat A).length + j : Nat) = x := by
  refine h.1 _ x ?_
  rw [mq_flat_app, mq_flat_cons]
  refine mq_app_at ?_
  rw [List.getElem?_append_left (List.getElem?_eq_some_iff.mp hj).1]
  exact hj
theorem mq_row_at {k : mq_K} {j : Nat} {x : Int} (hx : (mq_row k)[j]? = some x) : ∃ y, k.1[if k.2.1 = 1 then k.1.length - 1 - j else j]? = some y ∧ x = y + k.2.2 := by
  unfold mq_row at hx
  rw [List.getElem?_map] at hx
  split at hx
  · next e =>
    rw [if_pos e]
    cases hy : k.1.reverse[j]? with
    | none => rw [hy] at hx; cases hx
    | some y =>
      rw [hy] at hx
      have hl := (List.getElem?_eq_some_iff.mp hy).1
      rw [List.length_reverse] at hl
      rw [List.getElem?_reverse hl] at hy
      exact ⟨y, hy, (Option.some.inj hx).symm⟩
  · next e =>
    rw [if_neg e]
    cases hy : k.1[j]? with
    | none => rw [hy] at hx; cases hx
    | some y =>
      rw [hy] at hx
      exact ⟨y, rfl, (Option.some.inj hx).symm⟩
/-- the chunk in which a place lies -/
theorem mq_hold : ∀ {q : List mq_K} {p : Nat}, p < (mq_flat q).length → ∃ (A : List mq_K) (k : mq_K) (B : List mq_K), q = A ++ k :: B ∧ (mq_flat A).length ≤ p ∧ p < (mq_flat A).length + k.1.length
  | [], p, h => by cases h
  | k :: q, p, h => by
    rw [mq_flat_cons, List.length_append] at h
    by_cases h1 : p < k.1.length
    · exact ⟨[], k, q, rfl, Nat.zero_le _, by simp [mq_flat]; exact h1⟩
    · obtain ⟨A, k', B, e, h2, h3⟩ := mq_hold (q := q) (p := p - k.1.length) (by omega)
      refine ⟨k :: A, k', B, by rw [e]; rfl, ?_, ?_⟩ <;> rw [mq_flat_cons, List.length_append] <;> omega
theorem mq_take_app (A : List mq_K) (k : mq_K) (B : List mq_K) : (A ++ k :: B).take A.length = A := by simp
theorem mq_at_app (A : List mq_K) (k : mq_K) (B : List mq_K) : (A ++ k :: B)[A.length]? = some k := by simp
def mq_mir (f : Int → Int) (lo hi : Int) : Int → Int := fun j => if lo ≤ j ∧ j < hi then f (lo + hi - 1 - j) else f j
def mq_ins (f : Int → Int) (n k x : Int) : Int → Int := fun j => if j = k then x else if k < j ∧ j ≤ n then f (j - 1) else f j
def mq_del (f : Int → Int) (n k : Int) : Int → Int := fun j => if k ≤ j ∧ j < n - 1 then f (j + 1) else f j
end
section
/-! LISTS IN ARRAYS -/
theorem mq_al_app {f : Int → Int} {X Y : List Int} : mq_al f (X ++ Y) ↔ mq_al f X ∧ mq_al (fun j => f (X.length + j)) Y := by
  constructor
  · intro h
    refine ⟨fun i x hi => h i x ?_, fun i x hi => ?_⟩
    · rw [List.getElem?_append_left (List.getElem?_eq_some_iff.mp hi).1]; exact hi
    · have := h (X.length + i) x (mq_app_at hi)
      rw [Int.natCast_add] at this
      exact this
  · rintro ⟨h1, h2⟩ i x hi
    by_cases hl : i < X.length
    · rw [List.getElem?_append_left hl] at hi
      exact h1 i x hi
    · rw [List.getElem?_append_right (by omega)] at hi
      have := h2 _ x hi
      dsimp only at this
      rw [show (X.length : Int) + ((i - X.length : Nat) : Int) = i by omega] at this
      exact this
theorem mq_al_cons {f : Int → Int} {x : Int} {Y : List Int} : mq_al f (x :: Y) ↔ f 0 = x ∧ mq_al (fun j => f (1 + j)) Y := by
  have h := mq_al_app (f := f) (X := [x]) (Y := Y)
  rw [show x :: Y = [x] ++ Y from rfl, h]
  constructor
  · rintro ⟨h1, h2⟩; exact ⟨h1 0 x rfl, h2⟩
  · rintro ⟨h1, h2⟩
    refine ⟨fun i y hi => ?_, h2⟩
    match i with
    | 0 => cases hi; exact h1
    | i + 1 => cases hi
theorem mq_al.eq {f g : Int → Int} {l : List Int} (h : mq_al f l) (e : ∀ i : Nat, i < l.length → g i = f i) : mq_al g l := fun i x hi => by
  rw [e i (List.getElem?_eq_some_iff.mp hi).1]; exact h i x hi
theorem mq_al_nil (f : Int → Int) : mq_al f [] := fun i x hi => by cases hi
theorem mq_al_up {f : Int → Int} {X Z : List Int} {y x : Int} (h : mq_al f (X ++ y :: Z)) : mq_al (ab_up f X.length x) (X ++ x :: Z) := by
  obtain ⟨h1, h2⟩ := mq_al_app.mp h
  obtain ⟨h3, h4⟩ := mq_al_cons.mp h2
  refine mq_al_app.mpr ⟨h1.eq (fun i hi => ?_), mq_al_cons.mpr ⟨?_, h4.eq (fun i hi => ?_)⟩⟩
  · unfold ab_up; rw [if_neg (by omega)]
  · unfold ab_up; rw [if_pos (by omega)]
  · unfold ab_up; rw [if_neg (by omega)]
theorem mq_al_ins {f : Int → Int} {X Z : List Int} {x n k : Int} (h : mq_al f (X ++ Z)) (hn : n = X.length + Z.length) (hk : k = X.length) : mq_al (mq_ins f n k x) (X ++ x :: Z) := by
  subst hk
  obtain ⟨h1, h2⟩ := mq_al_app.mp h
  refine mq_al_app.mpr ⟨h1.eq (fun i hi => ?_), mq_al_cons.mpr ⟨?_, h2.eq (fun i hi => ?_)⟩⟩
  · unfold mq_ins; rw [if_neg (by omega), if_neg (by omega)]
  · unfold mq_ins; rw [if_pos (by omega)]
  · unfold mq_ins
    rw [if_neg (by omega), if_pos (by omega)]
    congr 1; omega
theorem mq_al_del {f : Int → Int} {X Z : List Int} {y n k : Int} (h : mq_al f (X ++ y :: Z)) (hn : n = X.length + 1 + Z.length) (hk : k = X.length) : mq_al (mq_del f n k) (X ++ Z) := by
  subst hk
  obtain ⟨h1, h2⟩ := mq_al_app.mp h
  obtain ⟨h3, h4⟩ := mq_al_cons.mp h2
  refine mq_al_app.mpr ⟨h1.eq (fun i hi => ?_), h4.eq (fun i hi => ?_)⟩
  · unfold mq_del; rw [if_neg (by omega)]
  · unfold mq_del
    rw [if_pos (by omega)]
    congr 1; omega
/-- other numbers are kept in a chunk, as many -/
theorem mq_al_mid {f g : Int → Int} {X Y Y' Z : List Int} (h : mq_al f (X ++ (Y ++ Z))) (hl : Y'.length = Y.length) (h1 : ∀ j : Int, j < X.length → g j = f j) (h2 : ∀ j : Int, (X.length : Int) + Y.length ≤ j → g j = f j) (h3 : ∀ (j : Nat) (x : Int), Y'[j]? = some x → g (X.length + j) = x) : mq_al g (X ++ (Y' ++ Z)) := by
  obtain ⟨a1, a2⟩ := mq_al_app.mp h
  obtain ⟨a3, a4⟩ := mq_al_app.mp a2
  refine mq_al_app.mpr ⟨a1.eq (fun i hi => h1 _ (by omega)), mq_al_app.mpr ⟨fun j x hj => h3 j x hj, a4.eq (fun i hi => ?_)⟩⟩
  show g ((X.length : Int) + ((Y'.length : Int) + i)) = f ((X.length : Int) + ((Y.length : Int) + i))
  rw [hl, h2 _ (by omega)]
theorem mq_map_mid {α : Type} (g : mq_K → α) (A : List mq_K) (k : mq_K) (B : List mq_K) : (A ++ k :: B).map g = A.map g ++ g k :: B.map g := by
  rw [List.map_append, List.map_cons]
theorem mq_flat_mid (A : List mq_K) (k : mq_K) (B : List mq_K) : mq_flat (A ++ k :: B) = mq_flat A ++ (k.1 ++ mq_flat B) := by
  rw [mq_flat_app, mq_flat_cons]
/-- a chunk in which nothing waits any more -/
theorem mq_R_settle {K L T S K' : Int → Int} {n c w w' : Int} {A : List mq_K} {k : mq_K} {B : List mq_K} (h : mq_R (K, L, T, S, n, c, w) (A ++ k :: B)) (h1 : ∀ j : Int, j < (mq_flat A).length → K' j = K j) (h2 : ∀ j : Int, ((mq_flat A).length : Int) + k.1.length ≤ j → K' j = K j) (h3 : ∀ (j : Nat) (x : Int), (mq_row k)[j]? = some x → K' ((mq_flat A).length + j) = x) :
    mq_R (K', L, ab_up T A.length 0, ab_up S A.length 0, n, c, w') (A ++ (mq_row k, 0, 0) :: B) := by
  obtain ⟨r1, r2, r3, r4, r5, r6⟩ := h
  dsimp only at r1 r2 r3 r4 r5 r6
  refine ⟨?_, ?_, ?_, ?_, ?_, ?_⟩ <;> dsimp only
  · rw [mq_flat_mid] at r1 ⊢
    exact mq_al_mid r1 (mq_row_len k) h1 h2 h3
  · rw [mq_map_mid] at r2 ⊢
    rw [show mq_len (mq_row k, 0, 0) = mq_len k by unfold mq_len; rw [mq_row_len]]
    exact r2
  · rw [mq_map_mid] at r3 ⊢
    have := mq_al_up (x := 0) r3
    rwa [List.length_map] at this
  · rw [mq_map_mid] at r4 ⊢
    have := mq_al_up (x := 0) r4
    rwa [List.length_map] at this
  · rw [r5, mq_flat_mid, mq_flat_mid]
    simp [mq_row_len]
  · rw [r6]; simp
theorem mq_R_part {K L T S : Int → Int} {n c w w' : Int} {A : List mq_K} {l : List Int} {B : List mq_K} {f : Nat} (h : mq_R (K, L, T, S, n, c, w) (A ++ (l, 0, 0) :: B)) (hf : f ≤ l.length) :
    mq_R (K, mq_ins (ab_up L A.length f) c (A.length + 1) ((l.length : Int) - f), mq_ins T c (A.length + 1) 0, mq_ins S c (A.length + 1) 0, n, c + 1, w') (A ++ (l.take f, 0, 0) :: (l.drop f, 0, 0) :: B) := by
  obtain ⟨r1, r2, r3, r4, r5, r6⟩ := h
  dsimp only at r1 r2 r3 r4 r5 r6
  have hc : c = (A.length : Int) + 1 + B.length := by rw [r6]; simp; omega
  refine ⟨?_, ?_, ?_, ?_, ?_, ?_⟩ <;> dsimp only
  · rw [mq_flat_mid] at r1 ⊢
    rw [mq_flat_cons, ← List.append_assoc (l.take f), List.take_append_drop]
    exact r1
  · rw [mq_map_mid] at r2 ⊢
    have h1 := mq_al_up (x := (f : Int)) r2
    rw [List.length_map] at h1
    rw [List.map_cons, show mq_len (l.take f, 0, 0) = (f : Int) by unfold mq_len; dsimp only; rw [List.length_take]; omega, show mq_len (l.drop f, 0, 0) = (l.length : Int) - f by unfold mq_len; dsimp only; rw [List.length_drop]; omega]
    have h2 := mq_al_ins (X := A.map mq_len ++ [(f : Int)]) (Z := B.map mq_len) (x := (l.length : Int) - f) (n := c) (k := A.length + 1) (by rw [List.append_assoc]; exact h1) (by simp; omega) (by simp)
    rwa [List.append_assoc] at h2
  · rw [mq_map_mid] at r3 ⊢
    rw [List.map_cons]
    have h2 := mq_al_ins (X := A.map (fun k => k.2.1) ++ [0]) (Z := B.map (fun k => k.2.1)) (x := 0) (n := c) (k := A.length + 1) (by rw [List.append_assoc]; exact r3) (by simp; omega) (by simp)
    rwa [List.append_assoc] at h2
  · rw [mq_map_mid] at r4 ⊢
    rw [List.map_cons]
    have h2 := mq_al_ins (X := A.map (fun k => k.2.2) ++ [0]) (Z := B.map (fun k => k.2.2)) (x := 0) (n := c) (k := A.length + 1) (by rw [List.append_assoc]; exact r4) (by simp; omega) (by simp)
    rwa [List.append_assoc] at h2
  · rw [r5, mq_flat_mid, mq_flat_mid, mq_flat_cons]
    simp
    omega
  · rw [r6]; simp; omega
/-- the chunks, cut at a place: those ahead, those behind, the work -/
def mq_cut : List mq_K → Nat → List mq_K × List mq_K × Int
  | [], _ => ([], [], 0)
  | k :: q, d => if d = 0 then ([], k :: q, 0) else if d < k.1.length then ([((mq_row k).take d, 0, 0)], ((mq_row k).drop d, 0, 0) :: q, mq_cost k + ((k.1.length : Int) - d)) else
    (k :: (mq_cut q (d - k.1.length)).1, (mq_cut q (d - k.1.length)).2)
theorem mq_ok_done {l : List Int} (h0 : 0 < l.length) (h : ∀ x ∈ l, -99999 ≤ x ∧ x ≤ 99999) : mq_ok (l, 0, 0) := ⟨h0, Or.inl rfl, h, by rw [mq_row_done]; exact h⟩
theorem mq_ok_row {k : mq_K} (h : mq_ok k) : mq_ok (mq_row k, 0, 0) := mq_ok_done (by rw [mq_row_len]; exact h.1) h.2.2.2
theorem mq_cut_ok : ∀ {q : List mq_K} {d : Nat}, (∀ k ∈ q, mq_ok k) → (∀ k ∈ (mq_cut q d).1, mq_ok k) ∧ (∀ k ∈ (mq_cut q d).2.1, mq_ok k)
  | [], d, h => ⟨fun k hk => (by cases hk), fun k hk => (by cases hk)⟩
  | k :: q, d, h => by
    have hk := h k List.mem_cons_self
    have hq : ∀ x ∈ q, mq_ok x := fun x hx => h x (List.mem_cons_of_mem _ hx)
    unfold mq_cut
    split
    · exact ⟨fun k hk => (by cases hk), h⟩
    · split
      · refine ⟨fun x hx => ?_, fun x hx => ?_⟩
        · rw [List.mem_singleton.mp hx]
          exact mq_ok_done (by rw [List.length_take, mq_row_len]; omega) (fun y hy => hk.2.2.2 y (List.mem_of_mem_take hy))
        · rcases List.mem_cons.mp hx with rfl | hx
          · exact mq_ok_done (by rw [List.length_drop, mq_row_len]; omega) (fun y hy => hk.2.2.2 y (List.mem_of_mem_drop hy))
          · exact hq x hx
      · obtain ⟨h1, h2⟩ := mq_cut_ok (q := q) (d := d - k.1.length) hq
        refine ⟨fun x hx => ?_, h2⟩
        rcases List.mem_cons.mp hx with rfl | hx
        · exact hk
        · exact h1 x hx
theorem mq_cut_len : ∀ {q : List mq_K} {d : Nat}, d ≤ (mq_flat q).length → (mq_flat (mq_cut q d).1).length = d ∧ (mq_flat (mq_cut q d).2.1).length = (mq_flat q).length - d
  | [], d, h => by
    have : d = 0 := by simpa [mq_flat] using h
    subst this
    exact ⟨rfl, rfl⟩
  | k :: q, d, h => by
    rw [mq_flat_cons, List.length_append] at h ⊢
    unfold mq_cut
    split
    · next e => subst e; exact ⟨rfl, by rw [mq_flat_cons, List.length_append]; rfl⟩
    · split
      · rw [mq_flat_cons, mq_flat_cons, List.length_append, List.length_append, List.length_take, List.length_drop, mq_row_len]
        refine ⟨?_, by omega⟩
        simp [mq_flat]; omega
      · obtain ⟨h1, h2⟩ := mq_cut_len (q := q) (d := d - k.1.length) (by omega)
        dsimp only
        rw [mq_flat_cons, List.length_append]
        omega
/-- the numbers of the row stay -/
theorem mq_cut_all : ∀ (q : List mq_K) (d : Nat), mq_all (mq_cut q d).1 ++ mq_all (mq_cut q d).2.1 = mq_all q
  | [], _ => rfl
  | k :: q, d => by
    unfold mq_cut
    split
    · rfl
    · split
      · rw [mq_all_cons, mq_all_cons, mq_all_cons, mq_row_done, mq_row_done]
        simp [mq_all]
        rw [← List.append_assoc, List.take_append_drop]
      · dsimp only
        rw [mq_all_cons, List.append_assoc, mq_cut_all, mq_all_cons]
theorem mq_cut_W {q : List mq_K} {d : Nat} (h : mq_W q) (hd : d ≤ (mq_flat q).length) : mq_W ((mq_cut q d).1 ++ (mq_cut q d).2.1) := by
  obtain ⟨h1, h2⟩ := mq_cut_ok (d := d) h.1
  obtain ⟨h3, h4⟩ := mq_cut_len hd
  refine ⟨fun k hk => (List.mem_append.mp hk).elim (h1 k) (h2 k), ?_⟩
  rw [mq_flat_app, List.length_append, h3, h4]
  have := h.2
  omega
theorem mq_W_settle {A : List mq_K} {k : mq_K} {B : List mq_K} (h : mq_W (A ++ k :: B)) : mq_W (A ++ (mq_row k, 0, 0) :: B) := by
  refine ⟨fun x hx => ?_, ?_⟩
  · rcases List.mem_append.mp hx with hx | hx
    · exact h.1 x (List.mem_append_left _ hx)
    · rcases List.mem_cons.mp hx with rfl | hx
      · exact mq_ok_row (h.1 k (by simp))
      · exact h.1 x (List.mem_append_right _ (List.mem_cons_of_mem _ hx))
  · have := h.2
    rw [mq_flat_mid] at this ⊢
    simp [mq_row_len] at this ⊢
    exact this
end
section
/-! CHUNKS ARE EVENED OUT -/
def mq_rt (n : Nat) : Nat := if n < 4 then 1 else if n < 9 then 2 else if n < 16 then 3 else if n < 25 then 4 else if n < 36 then 5 else if n < 49 then 6 else 7
theorem mq_rt_in (n : Nat) : 1 ≤ mq_rt n ∧ mq_rt n ≤ 7 := by
  unfold mq_rt
  repeat' split
  all_goals omega
theorem mq_rt_is {z : Nat} {r : Int} (h : (r = 1 ∧ z < 4) ∨ (r = 2 ∧ 4 ≤ z ∧ z < 9) ∨ (r = 3 ∧ 9 ≤ z ∧ z < 16) ∨ (r = 4 ∧ 16 ≤ z ∧ z < 25) ∨ (r = 5 ∧ 25 ≤ z ∧ z < 36) ∨ (r = 6 ∧ 36 ≤ z ∧ z < 49) ∨ (r = 7 ∧ 49 ≤ z)) : r = (mq_rt z : Int) := by
  have e : mq_rt z = r.toNat := by
    unfold mq_rt
    repeat' split
    all_goals omega
  rw [e]
  omega
def mq_pt (t : Nat) : Nat → List mq_K → List mq_K × Int
  | 0, q => (q, 0)
  | _ + 1, [] => ([], 0)
  | n + 1, k :: q => if 2 * t < k.1.length then (((mq_row k).take t, 0, 0) :: (mq_pt t n (((mq_row k).drop t, 0, 0) :: q)).1, mq_cost k + ((k.1.length : Int) - t) + (mq_pt t n (((mq_row k).drop t, 0, 0) :: q)).2)
    else (k :: (mq_pt t n q).1, (mq_pt t n q).2)
def mq_jn (t : Nat) : mq_K → List mq_K → List mq_K × Int
  | k, [] => ([k], 0)
  | k, k2 :: q => if k.1.length + k2.1.length ≤ t then ((mq_jn t (mq_row k ++ mq_row k2, 0, 0) q).1, mq_cost k + mq_cost k2 + k2.1.length + (mq_jn t (mq_row k ++ mq_row k2, 0, 0) q).2)
    else (k :: (mq_jn t k2 q).1, (mq_jn t k2 q).2)
def mq_js (t : Nat) : List mq_K → List mq_K × Int
  | [] => ([], 0)
  | k :: q => mq_jn t k q
def mq_ev (q : List mq_K) : List mq_K × Int := ((mq_js (mq_rt (mq_flat q).length) (mq_pt (mq_rt (mq_flat q).length) 60 q).1).1, (mq_pt (mq_rt (mq_flat q).length) 60 q).2 + (mq_js (mq_rt (mq_flat q).length) (mq_pt (mq_rt (mq_flat q).length) 60 q).1).2)
theorem mq_pt_all (t : Nat) : ∀ (n : Nat) (q : List mq_K), mq_all (mq_pt t n q).1 = mq_all q
  | 0, _ => rfl
  | _ + 1, [] => rfl
  | n + 1, k :: q => by
    unfold mq_pt
    split
    · dsimp only
      rw [mq_all_cons, mq_pt_all t n, mq_all_cons, mq_all_cons, mq_row_done, mq_row_done, ← List.append_assoc, List.take_append_drop]
    · dsimp only
      rw [mq_all_cons, mq_pt_all t n, mq_all_cons]
theorem mq_pt_ok (t : Nat) (ht : 0 < t) : ∀ (n : Nat) (q : List mq_K), (∀ k ∈ q, mq_ok k) → ∀ k ∈ (mq_pt t n q).1, mq_ok k
  | 0, _, h => h
  | _ + 1, [], _ => fun k hk => by cases hk
  | n + 1, k :: q, h => by
    have hk := h k List.mem_cons_self
    have hq : ∀ x ∈ q, mq_ok x := fun x hx => h x (List.mem_cons_of_mem _ hx)
    unfold mq_pt
    split
    · intro x hx
      rcases List.mem_cons.mp hx with rfl | hx
      · exact mq_ok_done (by rw [List.length_take, mq_row_len]; omega) (fun y hy => hk.2.2.2 y (List.mem_of_mem_take hy))
      · refine mq_pt_ok t ht n _ (fun y hy => ?_) x hx
        rcases List.mem_cons.mp hy with rfl | hy
        · exact mq_ok_done (by rw [List.length_drop, mq_row_len]; omega) (fun y hy => hk.2.2.2 y (List.mem_of_mem_drop hy))
        · exact hq y hy
    · intro x hx
      rcases List.mem_cons.mp hx with rfl | hx
      · exact hk
      · exact mq_pt_ok t ht n q hq x hx
theorem mq_jn_all (t : Nat) : ∀ (q : List mq_K) (k : mq_K), mq_all (mq_jn t k q).1 = mq_all (k :: q)
  | [], _ => rfl
  | k2 :: q, k => by
    unfold mq_jn
    split
    · dsimp only
      rw [mq_jn_all t q, mq_all_cons, mq_all_cons, mq_all_cons, mq_row_done, List.append_assoc]
    · dsimp only
      rw [mq_all_cons, mq_jn_all t q, mq_all_cons k]
theorem mq_jn_ok (t : Nat) : ∀ (q : List mq_K) (k : mq_K), mq_ok k → (∀ x ∈ q, mq_ok x) → ∀ x ∈ (mq_jn t k q).1, mq_ok x
  | [], k, hk, _ => fun x hx => by rw [List.mem_singleton.mp hx]; exact hk
  | k2 :: q, k, hk, h => by
    have hk2 := h k2 List.mem_cons_self
    have hq : ∀ x ∈ q, mq_ok x := fun x hx => h x (List.mem_cons_of_mem _ hx)
    unfold mq_jn
    split
    · refine mq_jn_ok t q _ (mq_ok_done ?_ (fun y hy => ?_)) hq
      · rw [List.length_append, mq_row_len, mq_row_len]
        have := hk.1
        omega
      · rcases List.mem_append.mp hy with hy | hy
        · exact hk.2.2.2 y hy
        · exact hk2.2.2.2 y hy
    · intro x hx
      rcases List.mem_cons.mp hx with rfl | hx
      · exact hk
      · exact mq_jn_ok t q k2 hk2 hq x hx
theorem mq_js_all (t : Nat) (q : List mq_K) : mq_all (mq_js t q).1 = mq_all q := by
  cases q with
  | nil => rfl
  | cons k q => exact mq_jn_all t q k
theorem mq_js_ok (t : Nat) (q : List mq_K) (h : ∀ x ∈ q, mq_ok x) : ∀ x ∈ (mq_js t q).1, mq_ok x := by
  cases q with
  | nil => exact fun x hx => by cases hx
  | cons k q => exact mq_jn_ok t q k (h k List.mem_cons_self) (fun x hx => h x (List.mem_cons_of_mem _ hx))
theorem mq_W_all {q q' : List mq_K} (h : mq_W q) (h1 : ∀ k ∈ q', mq_ok k) (h2 : mq_all q' = mq_all q) : mq_W q' := ⟨h1, by rw [← mq_all_len, h2, mq_all_len]; exact h.2⟩
theorem mq_pt_W {t n : Nat} {q : List mq_K} (ht : 0 < t) (h : mq_W q) : mq_W (mq_pt t n q).1 := mq_W_all h (mq_pt_ok t ht n q h.1) (mq_pt_all t n q)
theorem mq_js_W {t : Nat} {q : List mq_K} (h : mq_W q) : mq_W (mq_js t q).1 := mq_W_all h (mq_js_ok t q h.1) (mq_js_all t q)
theorem mq_ev_all (q : List mq_K) : mq_all (mq_ev q).1 = mq_all q := by
  unfold mq_ev
  rw [mq_js_all, mq_pt_all]
theorem mq_ev_W {q : List mq_K} (h : mq_W q) : mq_W (mq_ev q).1 := mq_js_W (mq_pt_W (mq_rt_in _).1 h)
theorem mq_R_join {K L T S : Int → Int} {n c w w' : Int} {A : List mq_K} {l1 l2 : List Int} {B : List mq_K} (h : mq_R (K, L, T, S, n, c, w) (A ++ (l1, 0, 0) :: (l2, 0, 0) :: B)) :
    mq_R (K, mq_del (ab_up L A.length ((l1.length : Int) + l2.length)) c (A.length + 1), mq_del T c (A.length + 1), mq_del S c (A.length + 1), n, c - 1, w') (A ++ (l1 ++ l2, 0, 0) :: B) := by
  obtain ⟨r1, r2, r3, r4, r5, r6⟩ := h
  dsimp only at r1 r2 r3 r4 r5 r6
  have hc : c = (A.length : Int) + 2 + B.length := by rw [r6]; simp; omega
  refine ⟨?_, ?_, ?_, ?_, ?_, ?_⟩ <;> dsimp only
  · rw [mq_flat_mid] at r1 ⊢
    rw [mq_flat_cons] at r1
    rw [List.append_assoc]
    exact r1
  · rw [mq_map_mid] at r2 ⊢
    have h1 := mq_al_up (x := (l1.length : Int) + l2.length) r2
    rw [List.length_map] at h1
    rw [show mq_len (l1 ++ l2, 0, 0) = (l1.length : Int) + l2.length by unfold mq_len; dsimp only; rw [List.length_append]; omega]
    rw [List.map_cons] at h1
    have h2 := mq_al_del (X := A.map mq_len ++ [(l1.length : Int) + l2.length]) (Z := B.map mq_len) (y := mq_len (l2, 0, 0)) (n := c) (k := A.length + 1) (by rw [List.append_assoc]; exact h1) (by simp; omega) (by simp)
    rwa [List.append_assoc] at h2
  · rw [mq_map_mid] at r3 ⊢
    rw [List.map_cons] at r3
    have h2 := mq_al_del (X := A.map (fun k => k.2.1) ++ [0]) (Z := B.map (fun k => k.2.1)) (y := 0) (n := c) (k := A.length + 1) (by rw [List.append_assoc]; exact r3) (by simp; omega) (by simp)
    rwa [List.append_assoc] at h2
  · rw [mq_map_mid] at r4 ⊢
    rw [List.map_cons] at r4
    have h2 := mq_al_del (X := A.map (fun k => k.2.2) ++ [0]) (Z := B.map (fun k => k.2.2)) (y := 0) (n := c) (k := A.length + 1) (by rw [List.append_assoc]; exact r4) (by simp; omega) (by simp)
    rwa [List.append_assoc] at h2
  · rw [r5, mq_flat_mid, mq_flat_mid, mq_flat_cons]
    simp
  · rw [r6]; simp; omega
end
section
/-! SPANS -/
theorem mq_cut_app : ∀ {A : List mq_K} {B : List mq_K} {d : Nat}, (∀ k ∈ A, mq_ok k) → mq_cut (A ++ B) ((mq_flat A).length + d) = (A ++ (mq_cut B d).1, (mq_cut B d).2)
  | [], B, d, _ => by simp [mq_flat]
  | k :: A, B, d, h => by
    have hk := (h k List.mem_cons_self).1
    have ih := mq_cut_app (A := A) (B := B) (d := d) (fun x hx => h x (List.mem_cons_of_mem _ hx))
    rw [mq_flat_cons, List.length_append, List.cons_append]
    conv => lhs; unfold mq_cut
    rw [if_neg (by omega), if_neg (by omega), show k.1.length + (mq_flat A).length + d - k.1.length = (mq_flat A).length + d by omega, ih]
    rfl
theorem mq_cut_0 (B : List mq_K) : mq_cut B 0 = ([], B, 0) := by
  cases B with
  | nil => rfl
  | cons k B => unfold mq_cut; rw [if_pos rfl]
theorem mq_cut_at {A B : List mq_K} (h : ∀ k ∈ A, mq_ok k) : mq_cut (A ++ B) (mq_flat A).length = (A, B, 0) := by
  have := mq_cut_app (B := B) (d := 0) h
  rw [mq_cut_0, Nat.add_zero, List.append_nil] at this
  exact this
theorem mq_cut_left : ∀ {A C : List mq_K} {d : Nat}, (∀ k ∈ A, mq_ok k) → d ≤ (mq_flat A).length → mq_cut (A ++ C) d = ((mq_cut A d).1, (mq_cut A d).2.1 ++ C, (mq_cut A d).2.2)
  | [], C, d, _, hd => by
    have : d = 0 := by simpa [mq_flat] using hd
    subst this
    rw [List.nil_append, mq_cut_0, mq_cut_0]
    rfl
  | k :: A, C, d, h, hd => by
    have hk := (h k List.mem_cons_self).1
    rw [mq_flat_cons, List.length_append] at hd
    rw [List.cons_append]
    unfold mq_cut
    split
    · rfl
    · split
      · rfl
      · rw [mq_cut_left (fun x hx => h x (List.mem_cons_of_mem _ hx)) (by omega)]
theorem mq_cut_1 {B : List mq_K} (h : ∀ k ∈ B, mq_ok k) (h0 : 0 < (mq_flat B).length) : ∃ k, (mq_cut B 1).1 = [k] ∧ k.1.length = 1 := by
  cases B with
  | nil => simp [mq_flat] at h0
  | cons k B =>
    have hk := (h k List.mem_cons_self).1
    unfold mq_cut
    rw [if_neg (by omega)]
    split
    · next e => exact ⟨_, rfl, by simp [mq_row_len]; omega⟩
    · next e =>
      have e1 : 1 - k.1.length = 0 := by omega
      rw [e1, mq_cut_0]
      exact ⟨k, rfl, by omega⟩
theorem mq_R_put {K L T S : Int → Int} {n c w w' : Int} {A B : List mq_K} {v : Int} (h : mq_R (K, L, T, S, n, c, w) (A ++ B)) :
    mq_R (mq_ins K n (mq_flat A).length v, mq_ins L c A.length 1, mq_ins T c A.length 0, mq_ins S c A.length 0, n + 1, c + 1, w') (A ++ ([v], 0, 0) :: B) := by
  obtain ⟨r1, r2, r3, r4, r5, r6⟩ := h
  dsimp only at r1 r2 r3 r4 r5 r6
  rw [List.map_append] at r2 r3 r4
  rw [mq_flat_app] at r1 r5
  rw [List.length_append] at r5 r6
  refine ⟨?_, ?_, ?_, ?_, ?_, ?_⟩ <;> dsimp only
  · rw [mq_flat_mid]
    show mq_al _ (mq_flat A ++ v :: mq_flat B)
    exact mq_al_ins r1 (by omega) rfl
  · rw [mq_map_mid]
    exact mq_al_ins r2 (by simp; omega) (by simp)
  · rw [mq_map_mid]
    exact mq_al_ins r3 (by simp; omega) (by simp)
  · rw [mq_map_mid]
    exact mq_al_ins r4 (by simp; omega) (by simp)
  · rw [r5, mq_flat_mid]; simp; omega
  · rw [r6]; simp; omega
theorem mq_R_take {K L T S : Int → Int} {n c w w' : Int} {A B : List mq_K} {k : mq_K} (h : mq_R (K, L, T, S, n, c, w) (A ++ k :: B)) (hk : k.1.length = 1) :
    mq_R (mq_del K n (mq_flat A).length, mq_del L c A.length, mq_del T c A.length, mq_del S c A.length, n - 1, c - 1, w') (A ++ B) := by
  obtain ⟨r1, r2, r3, r4, r5, r6⟩ := h
  dsimp only at r1 r2 r3 r4 r5 r6
  rw [mq_map_mid] at r2 r3 r4
  rw [mq_flat_mid] at r1 r5
  rw [List.length_append, List.length_append] at r5
  rw [List.length_append, List.length_cons] at r6
  obtain ⟨x, hx⟩ := List.length_eq_one_iff.mp hk
  rw [hx] at r1
  refine ⟨?_, ?_, ?_, ?_, ?_, ?_⟩ <;> dsimp only
  · rw [mq_flat_app]
    exact mq_al_del r1 (by omega) rfl
  · rw [List.map_append]
    exact mq_al_del r2 (by simp; omega) (by simp)
  · rw [List.map_append]
    exact mq_al_del r3 (by simp; omega) (by simp)
  · rw [List.map_append]
    exact mq_al_del r4 (by simp; omega) (by simp)
  · rw [r5, mq_flat_app]; simp; omega
  · rw [r6]; simp; omega
/-- a number is set -/
def mq_set : List mq_K → Nat → Int → List mq_K × Int
  | [], _, _ => ([], 0)
  | k :: q, d, v => if d < k.1.length then (((mq_row k).set d v, 0, 0) :: q, mq_cost k + 1) else (k :: (mq_set q (d - k.1.length) v).1, (mq_set q (d - k.1.length) v).2)
theorem mq_set_app : ∀ {A : List mq_K} {k : mq_K} {B : List mq_K} {d : Nat} {v : Int}, d < k.1.length → mq_set (A ++ k :: B) ((mq_flat A).length + d) v = (A ++ ((mq_row k).set d v, 0, 0) :: B, mq_cost k + 1)
  | [], k, B, d, v, h => by
    simp only [mq_flat, List.flatMap_nil, List.length_nil, Nat.zero_add, List.nil_append]
    unfold mq_set
    rw [if_pos h]
  | a :: A, k, B, d, v, h => by
    have ih := mq_set_app (A := A) (B := B) (v := v) h
    rw [mq_flat_cons, List.length_append, List.cons_append]
    conv => lhs; unfold mq_set
    rw [if_neg (by omega), show a.1.length + (mq_flat A).length + d - a.1.length = (mq_flat A).length + d by omega, ih]
    rfl
/-- a span: what is ahead, the span, what is behind, the work -/
def mq_span (q : List mq_K) (f n : Nat) : List mq_K × List mq_K × List mq_K × Int := ((mq_cut q f).1, (mq_cut (mq_cut q f).2.1 n).1, (mq_cut (mq_cut q f).2.1 n).2.1, (mq_cut q f).2.2 + (mq_cut (mq_cut q f).2.1 n).2.2)
def mq_flip (k : mq_K) : mq_K := (k.1, 1 - k.2.1, k.2.2)
def mq_addk (v : Int) (k : mq_K) : mq_K := (k.1, k.2.1, k.2.2 + v)
def mq_put (q : List mq_K) (d : Nat) (v : Int) : List mq_K × Int := ((mq_cut q d).1 ++ ([v], 0, 0) :: (mq_cut q d).2.1, (mq_cut q d).2.2 + 1)
def mq_tak (q : List mq_K) (d : Nat) : List mq_K × Int := ((mq_span q d 1).1 ++ (mq_span q d 1).2.2.1, (mq_span q d 1).2.2.2)
def mq_trn (q : List mq_K) (f n : Nat) : List mq_K × Int := ((mq_span q f n).1 ++ ((mq_span q f n).2.1.reverse.map mq_flip ++ (mq_span q f n).2.2.1), (mq_span q f n).2.2.2)
def mq_add (q : List mq_K) (f n : Nat) (v : Int) : List mq_K × Int := ((mq_span q f n).1 ++ ((mq_span q f n).2.1.map (mq_addk v) ++ (mq_span q f n).2.2.1), (mq_span q f n).2.2.2)
def mq_mov (q : List mq_K) (f n p : Nat) : List mq_K × Int := ((mq_cut ((mq_span q f n).1 ++ (mq_span q f n).2.2.1) p).1 ++ ((mq_span q f n).2.1 ++ (mq_cut ((mq_span q f n).1 ++ (mq_span q f n).2.2.1) p).2.1), (mq_span q f n).2.2.2 + (mq_cut ((mq_span q f n).1 ++ (mq_span q f n).2.2.1) p).2.2)
/-- what a span is -/
theorem mq_span_in {q : List mq_K} {f n : Nat} (hW : mq_W q) (hfn : f + n ≤ (mq_flat q).length) : (mq_flat (mq_span q f n).1).length = f ∧ (mq_flat (mq_span q f n).2.1).length = n ∧ (mq_flat (mq_span q f n).2.2.1).length = (mq_flat q).length - f - n ∧ (∀ k ∈ (mq_span q f n).1, mq_ok k) ∧ (∀ k ∈ (mq_span q f n).2.1, mq_ok k) ∧ (∀ k ∈ (mq_span q f n).2.2.1, mq_ok k) ∧
    mq_all (mq_span q f n).1 ++ (mq_all (mq_span q f n).2.1 ++ mq_all (mq_span q f n).2.2.1) = mq_all q := by
  obtain ⟨a1, a2⟩ := mq_cut_len (q := q) (d := f) (by omega)
  obtain ⟨b1, b2⟩ := mq_cut_ok (d := f) hW.1
  obtain ⟨c1, c2⟩ := mq_cut_len (q := (mq_cut q f).2.1) (d := n) (by omega)
  obtain ⟨d1, d2⟩ := mq_cut_ok (d := n) b2
  refine ⟨a1, c1, by unfold mq_span; dsimp only; omega, b1, d1, d2, ?_⟩
  unfold mq_span
  dsimp only
  rw [mq_cut_all, mq_cut_all]
theorem mq_span_W {q : List mq_K} {f n : Nat} (hW : mq_W q) (hfn : f + n ≤ (mq_flat q).length) : mq_W ((mq_span q f n).1 ++ ((mq_span q f n).2.1 ++ (mq_span q f n).2.2.1)) := by
  obtain ⟨-, -, -, o1, o2, o3, h⟩ := mq_span_in hW hfn
  refine mq_W_all hW (fun k hk => ?_) (by rw [mq_all_app, mq_all_app]; exact h)
  rcases List.mem_append.mp hk with hk | hk
  · exact o1 k hk
  · rcases List.mem_append.mp hk with hk | hk
    · exact o2 k hk
    · exact o3 k hk
theorem mq_al_mir {f : Int → Int} {X Y Z : List Int} {a b : Int} (h : mq_al f (X ++ (Y ++ Z))) (ha : a = X.length) (hb : b = X.length + Y.length) : mq_al (mq_mir f a b) (X ++ (Y.reverse ++ Z)) := by
  refine mq_al_mid h List.length_reverse (fun j hj => ?_) (fun j hj => ?_) (fun j x hj => ?_)
  · unfold mq_mir; rw [if_neg (by omega)]
  · unfold mq_mir; rw [if_neg (by omega)]
  · have hl := (List.getElem?_eq_some_iff.mp hj).1
    rw [List.length_reverse] at hl
    rw [List.getElem?_reverse hl] at hj
    have h1 := (mq_al_app.mp (mq_al_app.mp h).2).1 _ _ hj
    unfold mq_mir
    rw [if_pos (by omega), ← h1]
    dsimp only
    congr 1
    omega
def mq_rv (k : mq_K) : mq_K := (k.1.reverse, k.2.1, k.2.2)
theorem mq_flat_rv : ∀ M : List mq_K, (mq_flat M).reverse = mq_flat (M.reverse.map mq_rv)
  | [] => rfl
  | k :: M => by
    rw [mq_flat_cons, List.reverse_append, mq_flat_rv M, List.reverse_cons, List.map_append, mq_flat_app]
    congr 1
    show k.1.reverse = mq_flat [mq_rv k]
    rw [mq_flat_cons]
    simp [mq_flat, mq_rv]
theorem mq_flat_rv_len : ∀ M : List mq_K, (mq_flat (M.map mq_rv)).length = (mq_flat M).length
  | [] => rfl
  | k :: M => by
    rw [List.map_cons, mq_flat_cons, mq_flat_cons, List.length_append, List.length_append, mq_flat_rv_len M]
    simp [mq_rv]
theorem mq_al_mir_map {g : mq_K → Int} {f : Int → Int} {A M B : List mq_K} {a b : Int} (h : mq_al f ((A ++ (M ++ B)).map g)) (ha : a = A.length) (hb : b = A.length + M.length) : mq_al (mq_mir f a b) ((A ++ (M.reverse ++ B)).map g) := by
  rw [List.map_append, List.map_append] at h ⊢
  rw [List.map_reverse]
  exact mq_al_mir h (by simp; omega) (by simp; omega)
theorem mq_row_rv {k : mq_K} {x : Int} (h : x ∈ mq_row (mq_rv k)) : x ∈ mq_row k := by
  obtain ⟨l, t, u⟩ := k
  unfold mq_row at h ⊢
  by_cases e : t = 1
  · simp [mq_rv, e] at h ⊢; exact h
  · simp [mq_rv, e] at h ⊢; exact h
def mq_lg : List mq_K → Int → Int
  | [], m => m
  | k :: q, m => mq_lg q (if m < k.1.length then k.1.length else m)
def mq_wt : List mq_K → Int → Int
  | [], m => m
  | k :: q, m => mq_wt q (m + k.2.1)
def mq_ws : List mq_K → Int → Int
  | [], m => m
  | k :: q, m => mq_ws q (if k.2.2 = 0 then m else m + 1)
theorem mq_ok.sum {k : mq_K} (hok : mq_ok k) : -200000 ≤ k.2.2 ∧ k.2.2 ≤ 200000 := by
  have hl0 : 0 < (mq_row k).length := by rw [mq_row_len]; exact hok.1
  have hx : (mq_row k)[0]? = some (mq_row k)[0] := List.getElem?_eq_getElem hl0
  obtain ⟨y, hy, e⟩ := mq_row_at hx
  have h1 := hok.2.2.2 _ (List.mem_of_getElem? hx)
  have h2 := hok.2.2.1 _ (List.mem_of_getElem? hy)
  omega
end
section
/-! THE REFERENCE'S ROW, SEEN AS THE CLASS'S -/
def md_v (s : Int → Int) : rw_T := (fun j => s (3 + j), fun c => s (63 + c), fun c => s (127 + c), fun c => s (191 + c), s 0, s 1, s 2)
theorem mq_R_ext {r r' : rw_T} {q : List mq_K} (h : mq_R r q) (hW : mq_W q) (h1 : ∀ j : Int, 0 ≤ j → j < 60 → r'.1 j = r.1 j) (h2 : ∀ c : Int, 0 ≤ c → c < q.length → r'.2.1 c = r.2.1 c) (h3 : ∀ c : Int, 0 ≤ c → c < q.length → r'.2.2.1 c = r.2.2.1 c) (h4 : ∀ c : Int, 0 ≤ c → c < q.length → r'.2.2.2.1 c = r.2.2.2.1 c) (h5 : r'.2.2.2.2.1 = r.2.2.2.2.1) (h6 : r'.2.2.2.2.2.1 = r.2.2.2.2.2.1) : mq_R r' q := by
  obtain ⟨r1, r2, r3, r4, r5, r6⟩ := h
  have hf := hW.2
  refine ⟨r1.eq (fun i hi => h1 _ (by omega) (by omega)), r2.eq (fun i hi => h2 _ (by omega) ?_), r3.eq (fun i hi => h3 _ (by omega) ?_), r4.eq (fun i hi => h4 _ (by omega) ?_), h5.trans r5, h6.trans r6⟩
  · rw [List.length_map] at hi; omega
  · rw [List.length_map] at hi; omega
  · rw [List.length_map] at hi; omega
theorem mq_cut_end {q : List mq_K} (h : ∀ k ∈ q, mq_ok k) : mq_cut q (mq_flat q).length = (q, [], 0) := by
  have := mq_cut_at (B := []) h
  rwa [List.append_nil] at this
theorem mq_W_part {A : List mq_K} {l : List Int} {B : List mq_K} {f : Nat} (hW : mq_W (A ++ (l, 0, 0) :: B)) (h0 : 0 < f) (h1 : f < l.length) : mq_W (A ++ (l.take f, 0, 0) :: (l.drop f, 0, 0) :: B) := by
  have ho := hW.1 (l, 0, 0) (by simp)
  refine mq_W_all hW (fun y hy => ?_) ?_
  · rcases List.mem_append.mp hy with hy | hy
    · exact hW.1 y (List.mem_append_left _ hy)
    · rcases List.mem_cons.mp hy with rfl | hy
      · exact mq_ok_done (by rw [List.length_take]; omega) (fun z hz => ho.2.2.1 z (List.mem_of_mem_take hz))
      · rcases List.mem_cons.mp hy with rfl | hy
        · exact mq_ok_done (by rw [List.length_drop]; omega) (fun z hz => ho.2.2.1 z (List.mem_of_mem_drop hz))
        · exact hW.1 y (List.mem_append_right _ (List.mem_cons_of_mem _ hy))
  · rw [mq_all_app, mq_all_app, mq_all_cons, mq_all_cons, mq_all_cons, mq_row_done, mq_row_done, mq_row_done, ← List.append_assoc (l.take f), List.take_append_drop]
theorem ab_up_ne {f : Int → Int} {i x j : Int} (h : j ≠ i) : ab_up f i x j = f j := by unfold ab_up; rw [if_neg h]
theorem ab_up_eq {f : Int → Int} {i x j : Int} (h : j = i) : ab_up f i x j = x := by unfold ab_up; rw [if_pos h]
end
section
/-! CHANGES LEAVE THE CHUNKS WELL FORMED -/
theorem mq_cut_tk {q : List mq_K} {d : Nat} (hd : d ≤ (mq_flat q).length) : mq_all (mq_cut q d).1 = (mq_all q).take d ∧ mq_all (mq_cut q d).2.1 = (mq_all q).drop d := by
  have h := mq_cut_all q d
  have hl : (mq_all (mq_cut q d).1).length = d := by rw [mq_all_len]; exact (mq_cut_len hd).1
  constructor
  · rw [← h, List.take_left' hl]
  · rw [← h, List.drop_left' hl]
theorem mq_span_tk {q : List mq_K} {f n : Nat} (hW : mq_W q) (hfn : f + n ≤ (mq_flat q).length) : mq_all (mq_span q f n).2.1 = ((mq_all q).drop f).take n := by
  obtain ⟨a1, a2⟩ := mq_cut_len (q := q) (d := f) (by omega)
  have h1 := (mq_cut_tk (q := q) (d := f) (by omega)).2
  have h2 := (mq_cut_tk (q := (mq_cut q f).2.1) (d := n) (by omega)).1
  rw [h1] at h2
  exact h2
theorem mq_row_flip {k : mq_K} (h : k.2.1 = 0 ∨ k.2.1 = 1) : mq_row (mq_flip k) = (mq_row k).reverse := by
  obtain ⟨l, t, s⟩ := k
  dsimp only at h
  unfold mq_row mq_flip
  dsimp only
  rcases h with rfl | rfl <;> simp
theorem mq_row_addk (v : Int) (k : mq_K) : mq_row (mq_addk v k) = (mq_row k).map (fun x => x + v) := by
  unfold mq_row mq_addk
  simp only [List.map_map]
  congr 1
  funext x
  simp only [Function.comp]
  omega
theorem mq_ok_flip {k : mq_K} (h : mq_ok k) : mq_ok (mq_flip k) := by
  refine ⟨h.1, ?_, h.2.2.1, fun x hx => ?_⟩
  · have := h.2.1
    unfold mq_flip
    dsimp only
    omega
  · rw [mq_row_flip h.2.1] at hx
    exact h.2.2.2 x (List.mem_reverse.mp hx)
theorem mq_W_put {q : List mq_K} {d : Nat} {v : Int} (hW : mq_W q) (hd : d ≤ (mq_flat q).length) (hl : (mq_flat q).length < 60) (hv : -99999 ≤ v ∧ v ≤ 99999) : mq_W (mq_put q d v).1 := by
  obtain ⟨a1, a2⟩ := mq_cut_len hd
  obtain ⟨b1, b2⟩ := mq_cut_ok (d := d) hW.1
  refine ⟨fun k hk => ?_, ?_⟩
  · rcases List.mem_append.mp hk with hk | hk
    · exact b1 k hk
    · rcases List.mem_cons.mp hk with rfl | hk
      · exact mq_ok_done (by simp) (fun x hx => by rw [List.mem_singleton.mp hx]; exact hv)
      · exact b2 k hk
  · unfold mq_put
    dsimp only
    rw [mq_flat_mid]
    simp only [List.length_append, List.length_cons, List.length_nil]
    omega
theorem mq_W_tak {q : List mq_K} {d : Nat} (hW : mq_W q) (hd : d < (mq_flat q).length) : mq_W (mq_tak q d).1 := by
  obtain ⟨a1, a2, a3, a4, a5, a6, a7⟩ := mq_span_in (f := d) (n := 1) hW (by omega)
  have hf := hW.2
  refine ⟨fun k hk => ?_, ?_⟩
  · rcases List.mem_append.mp hk with hk | hk
    · exact a4 k hk
    · exact a6 k hk
  · unfold mq_tak
    dsimp only
    rw [mq_flat_app, List.length_append]
    omega
theorem mq_W_set {q : List mq_K} {d : Nat} {v : Int} (hW : mq_W q) (hd : d < (mq_flat q).length) (hv : -99999 ≤ v ∧ v ≤ 99999) : mq_W (mq_set q d v).1 := by
  obtain ⟨A, k, B, rfl, h1, h2⟩ := mq_hold hd
  have hs := mq_set_app (A := A) (k := k) (B := B) (d := d - (mq_flat A).length) (v := v) (by omega)
  rw [show (mq_flat A).length + (d - (mq_flat A).length) = d by omega] at hs
  rw [hs]
  have ho := hW.1 k (by simp)
  have hf := hW.2
  rw [mq_flat_mid, List.length_append, List.length_append] at hf
  refine ⟨fun y hy => ?_, ?_⟩
  · rcases List.mem_append.mp hy with hy | hy
    · exact hW.1 y (List.mem_append_left _ hy)
    · rcases List.mem_cons.mp hy with rfl | hy
      · refine mq_ok_done (by rw [List.length_set, mq_row_len]; exact ho.1) (fun x hx => ?_)
        rcases List.mem_or_eq_of_mem_set hx with hx | rfl
        · exact ho.2.2.2 x hx
        · exact hv
      · exact hW.1 y (by simp [hy])
  · dsimp only
    rw [mq_flat_mid]
    simp only [List.length_append, List.length_set, mq_row_len]
    omega
theorem mq_flat_map_len {g : mq_K → mq_K} (hg : ∀ k, (g k).1.length = k.1.length) : ∀ M : List mq_K, (mq_flat (M.map g)).length = (mq_flat M).length
  | [] => rfl
  | k :: M => by
    rw [List.map_cons, mq_flat_cons, mq_flat_cons, List.length_append, List.length_append, hg, mq_flat_map_len hg M]
theorem mq_W_trn {q : List mq_K} {f n : Nat} (hW : mq_W q) (hfn : f + n ≤ (mq_flat q).length) : mq_W (mq_trn q f n).1 := by
  obtain ⟨a1, a2, a3, a4, a5, a6, a7⟩ := mq_span_in hW hfn
  have hf := hW.2
  refine ⟨fun k hk => ?_, ?_⟩
  · rcases List.mem_append.mp hk with hk | hk
    · exact a4 k hk
    · rcases List.mem_append.mp hk with hk | hk
      · obtain ⟨k0, h0, rfl⟩ := List.mem_map.mp hk
        exact mq_ok_flip (a5 k0 (List.mem_reverse.mp h0))
      · exact a6 k hk
  · unfold mq_trn
    dsimp only
    have e : (mq_flat (mq_span q f n).2.1.reverse).length = (mq_flat (mq_span q f n).2.1).length := by
      rw [← mq_flat_rv_len (mq_span q f n).2.1.reverse, ← mq_flat_rv, List.length_reverse]
    rw [mq_flat_app, mq_flat_app, List.length_append, List.length_append, mq_flat_map_len (g := mq_flip) (fun k => rfl), e]
    omega
theorem mq_W_add {q : List mq_K} {f n : Nat} {v : Int} (hW : mq_W q) (hfn : f + n ≤ (mq_flat q).length) (hv : ∀ x ∈ ((mq_all q).drop f).take n, -99999 ≤ x + v ∧ x + v ≤ 99999) : mq_W (mq_add q f n v).1 := by
  obtain ⟨a1, a2, a3, a4, a5, a6, a7⟩ := mq_span_in hW hfn
  have hf := hW.2
  rw [← mq_span_tk hW hfn] at hv
  refine ⟨fun k hk => ?_, ?_⟩
  · rcases List.mem_append.mp hk with hk | hk
    · exact a4 k hk
    · rcases List.mem_append.mp hk with hk | hk
      · obtain ⟨k0, h0, rfl⟩ := List.mem_map.mp hk
        have o := a5 k0 h0
        refine ⟨o.1, o.2.1, o.2.2.1, fun x hx => ?_⟩
        rw [mq_row_addk] at hx
        obtain ⟨y, hy, rfl⟩ := List.mem_map.mp hx
        exact hv y (List.mem_flatMap.mpr ⟨k0, h0, hy⟩)
      · exact a6 k hk
  · unfold mq_add
    dsimp only
    rw [mq_flat_app, mq_flat_app, List.length_append, List.length_append, mq_flat_map_len (g := mq_addk v) (fun k => rfl)]
    omega
theorem mq_W_mov {q : List mq_K} {f n p : Nat} (hW : mq_W q) (hfn : f + n ≤ (mq_flat q).length) (hp : p + n ≤ (mq_flat q).length) : mq_W (mq_mov q f n p).1 := by
  obtain ⟨a1, a2, a3, a4, a5, a6, a7⟩ := mq_span_in hW hfn
  have hf := hW.2
  have o : ∀ k ∈ (mq_span q f n).1 ++ (mq_span q f n).2.2.1, mq_ok k := fun k hk => (List.mem_append.mp hk).elim (a4 k) (a6 k)
  obtain ⟨b1, b2⟩ := mq_cut_ok (d := p) o
  obtain ⟨c1, c2⟩ := mq_cut_len (q := (mq_span q f n).1 ++ (mq_span q f n).2.2.1) (d := p) (by rw [mq_flat_app, List.length_append]; omega)
  refine ⟨fun k hk => ?_, ?_⟩
  · rcases List.mem_append.mp hk with hk | hk
    · exact b1 k hk
    · rcases List.mem_append.mp hk with hk | hk
      · exact a5 k hk
      · exact b2 k hk
  · unfold mq_mov
    dsimp only
    rw [mq_flat_app, List.length_append] at c2
    rw [mq_flat_app, mq_flat_app, List.length_append, List.length_append, c1, c2]
    omega
theorem mq_R_ext2 {r r' : rw_T} {q : List mq_K} (h : mq_R r q) (h1 : ∀ j : Int, 0 ≤ j → j < (mq_flat q).length → r'.1 j = r.1 j) (h2 : ∀ c : Int, 0 ≤ c → c < q.length → r'.2.1 c = r.2.1 c) (h3 : ∀ c : Int, 0 ≤ c → c < q.length → r'.2.2.1 c = r.2.2.1 c) (h4 : ∀ c : Int, 0 ≤ c → c < q.length → r'.2.2.2.1 c = r.2.2.2.1 c) (h5 : r'.2.2.2.2.1 = r.2.2.2.2.1) (h6 : r'.2.2.2.2.2.1 = r.2.2.2.2.2.1) : mq_R r' q := by
  obtain ⟨r1, r2, r3, r4, r5, r6⟩ := h
  refine ⟨r1.eq (fun i hi => h1 _ (by omega) (by omega)), r2.eq (fun i hi => h2 _ (by omega) ?_), r3.eq (fun i hi => h3 _ (by omega) ?_), r4.eq (fun i hi => h4 _ (by omega) ?_), h5.trans r5, h6.trans r6⟩
  · rw [List.length_map] at hi; omega
  · rw [List.length_map] at hi; omega
  · rw [List.length_map] at hi; omega
theorem mq_R_pt {s : Int → Int} {q : List mq_K} (hK : mq_al (fun j => s (3 + j)) (mq_flat q)) (hc : ∀ (i : Nat) (k : mq_K), q[i]? = some k → s (63 + (i : Int)) = k.1.length ∧ s (127 + (i : Int)) = k.2.1 ∧ s (191 + (i : Int)) = k.2.2) (h0 : s 0 = ((mq_flat q).length : Nat)) (h1 : s 1 = (q.length : Nat)) : mq_R (md_v s) q := by
  refine ⟨hK, fun i x hx => ?_, fun i x hx => ?_, fun i x hx => ?_, h0, h1⟩
  · rw [List.getElem?_map] at hx
    obtain ⟨k, hk, rfl⟩ := Option.map_eq_some_iff.mp hx
    exact (hc i k hk).1
  · rw [List.getElem?_map] at hx
    obtain ⟨k, hk, rfl⟩ := Option.map_eq_some_iff.mp hx
    exact (hc i k hk).2.1
  · rw [List.getElem?_map] at hx
    obtain ⟨k, hk, rfl⟩ := Option.map_eq_some_iff.mp hx
    exact (hc i k hk).2.2
theorem mq_midmap (g : mq_K → mq_K) (A M B : List mq_K) (i : Nat) : (A ++ (M.map g ++ B))[i]? = if A.length ≤ i ∧ i < A.length + M.length then (A ++ (M ++ B))[i]?.map g else (A ++ (M ++ B))[i]? := by
  simp only [List.getElem?_append, List.length_map, List.getElem?_map]
  by_cases h1 : i < A.length
  · rw [if_pos h1, if_neg (by omega), if_pos h1]
  · rw [if_neg h1, if_neg h1]
    by_cases h2 : i - A.length < M.length
    · rw [if_pos h2, if_pos h2, if_pos (by omega)]
    · rw [if_neg h2, if_neg h2, if_neg (by omega)]
theorem mq_flat_midmap {g : mq_K → mq_K} (hg : ∀ k, (g k).1 = k.1) (A M B : List mq_K) : mq_flat (A ++ (M.map g ++ B)) = mq_flat (A ++ (M ++ B)) := by
  simp only [mq_flat_app]
  congr 2
  unfold mq_flat
  rw [List.flatMap_map]
  congr 1
  funext k
  exact hg k
/-- two cuts around a span -/
theorem mq_two {q : List mq_K} {f n : Nat} (hW : mq_W q) (hfn : f + n ≤ (mq_flat q).length) : ∃ (A M B : List mq_K) (w1 w2 : Int), mq_span q f n = (A, M, B, w1 + w2) ∧ (mq_cut q f).2.2 = w1 ∧ mq_W ((mq_cut q f).1 ++ (mq_cut q f).2.1) ∧ (mq_flat ((mq_cut q f).1 ++ (mq_cut q f).2.1)).length = (mq_flat q).length ∧ mq_cut ((mq_cut q f).1 ++ (mq_cut q f).2.1) (f + n) = (A ++ M, B, w2) ∧ mq_W (A ++ (M ++ B)) ∧ (mq_flat A).length = f ∧ (mq_flat M).length = n ∧ (mq_flat B).length = (mq_flat q).length - f - n := by
  obtain ⟨a1, a2, a3, -, -, -, -⟩ := mq_span_in hW hfn
  obtain ⟨z1, z2⟩ := mq_cut_len (q := q) (d := f) (by omega)
  obtain ⟨o1, o2⟩ := mq_cut_ok (d := f) hW.1
  have hc2 := mq_cut_app (B := (mq_cut q f).2.1) (d := n) o1
  rw [z1] at hc2
  exact ⟨(mq_span q f n).1, (mq_span q f n).2.1, (mq_span q f n).2.2.1, _, _, rfl, rfl, mq_cut_W hW (by omega), by rw [mq_flat_app, List.length_append]; omega, hc2, mq_span_W hW hfn, a1, a2, a3⟩
theorem mq_R_set {K L T S : Int → Int} {n c w w' : Int} {A : List mq_K} {l : List Int} {B : List mq_K} {d : Nat} {v : Int} (h : mq_R (K, L, T, S, n, c, w) (A ++ (l, 0, 0) :: B)) (hd : d < l.length) : mq_R (ab_up K ((mq_flat A).length + d) v, L, T, S, n, c, w') (A ++ (l.set d v, 0, 0) :: B) := by
  obtain ⟨r1, r3, r4, r5, r6, r7⟩ := h
  refine ⟨?_, ?_, ?_, ?_, ?_, ?_⟩
  · dsimp only at r1 ⊢
    rw [mq_flat_mid] at r1 ⊢
    refine mq_al_mid r1 (by simp) (fun j hj => ?_) (fun j hj => ?_) (fun j x hj => ?_)
    · unfold ab_up; rw [if_neg (by omega)]
    · dsimp only at hj
      unfold ab_up; rw [if_neg (by omega)]
    · dsimp only at hj
      rw [List.getElem?_set] at hj
      unfold ab_up
      by_cases z : d = j
      · rw [if_pos z, if_pos hd] at hj
        rw [if_pos (by omega)]
        exact Option.some.inj hj
      · rw [if_neg z] at hj
        rw [if_neg (by omega)]
        exact (mq_al_app.mp (mq_al_app.mp r1).2).1 j x hj
  · dsimp only at r3 ⊢
    rw [mq_map_mid] at r3 ⊢
    rw [show mq_len (l.set d v, 0, 0) = mq_len (l, 0, 0) by unfold mq_len; simp]
    exact r3
  · dsimp only at r4 ⊢
    rw [mq_map_mid] at r4 ⊢
    exact r4
  · dsimp only at r5 ⊢
    rw [mq_map_mid] at r5 ⊢
    exact r5
  · dsimp only at r6 ⊢
    rw [r6, mq_flat_mid, mq_flat_mid]
    simp
  · dsimp only at r7 ⊢
    rw [r7]; simp
end
section
/-! THE ERRORS OF CHANGES, BY THE CHUNKS -/
def mq_n (q : List mq_K) : Int := (mq_flat q).length
abbrev mq_pl (q : List mq_K) (p : Int) : Prop := 0 ≤ p ∧ p < mq_n q
abbrev mq_vl (v : Int) : Prop := -999 ≤ v ∧ v ≤ 999
def mq_eSpan (q : List mq_K) (a b : Int) : Int := if mq_pl q a then (if mq_pl q b then (if b < a then -2 else 0) else -1) else -1
def mq_ePut (q : List mq_K) (p v : Int) : Int := if 0 ≤ p ∧ p ≤ mq_n q then (if mq_vl v then (if mq_n q = 60 then -4 else 0) else -2) else -1
def mq_eCut (q : List mq_K) (p : Int) : Int := if mq_pl q p then 0 else -1
def mq_eSet (q : List mq_K) (p v : Int) : Int := if mq_pl q p then (if mq_vl v then 0 else -2) else -1
def mq_eBy (q : List mq_K) (a b v : Int) : Int := if mq_eSpan q a b = 0 then (if mq_vl v then 0 else -2) else mq_eSpan q a b
def mq_sp (q : List mq_K) (a b : Int) : List Int := ((mq_all q).drop a.toNat).take (b + 1 - a).toNat
def mq_fits (v : Int) (l : List Int) : Bool := l.all (fun x => decide (-99999 ≤ x + v ∧ x + v ≤ 99999))
def mq_eAdd (q : List mq_K) (a b v : Int) : Int := if mq_eBy q a b v = 0 then (if mq_fits v (mq_sp q a b) = true then 0 else -5) else mq_eBy q a b v
def mq_eMove (q : List mq_K) (a b p : Int) : Int := if mq_eSpan q a b = 0 then (if 0 ≤ p ∧ p ≤ mq_n q - (b - a + 1) then 0 else -2) else mq_eSpan q a b
theorem mq_eSpan_0 {q : List mq_K} {a b : Int} (h : mq_eSpan q a b = 0) : 0 ≤ a ∧ a ≤ b ∧ b < mq_n q := by
  unfold mq_eSpan mq_pl at h
  split at h
  · split at h
    · split at h
      · omega
      · omega
    · omega
  · omega
theorem mq_eSpan_in (q : List mq_K) (a b : Int) : mq_eSpan q a b = 0 ∨ mq_eSpan q a b = -1 ∨ mq_eSpan q a b = -2 := by
  unfold mq_eSpan
  split
  · split
    · split <;> simp
    · simp
  · simp
theorem mq_eBy_in (q : List mq_K) (a b v : Int) : mq_eBy q a b v = 0 ∨ mq_eBy q a b v = -1 ∨ mq_eBy q a b v = -2 := by
  unfold mq_eBy
  split
  · split <;> simp
  · exact mq_eSpan_in q a b
theorem mq_eBy_0 {q : List mq_K} {a b v : Int} (h : mq_eBy q a b v = 0) : mq_eSpan q a b = 0 ∧ mq_vl v := by
  unfold mq_eBy at h
  split at h
  · next h1 =>
    split at h
    · next h2 => exact ⟨h1, h2⟩
    · omega
  · next h1 => exact absurd h h1
theorem mq_sp_at {q : List mq_K} {a p : Int} {b : Int} (h0 : 0 ≤ a) (h1 : a ≤ p) (h2 : p ≤ b) (h3 : b < mq_n q) : ∃ x, (mq_all q)[p.toNat]? = some x ∧ mq_sp q a b = mq_sp q a (p - 1) ++ x :: mq_sp q (p + 1) b := by
  have hl : p.toNat < (mq_all q).length := by rw [mq_all_len]; unfold mq_n at h3; omega
  refine ⟨(mq_all q)[p.toNat], List.getElem?_eq_getElem hl, ?_⟩
  unfold mq_sp
  rw [show (b + 1 - a).toNat = (p - 1 + 1 - a).toNat + (1 + (b + 1 - (p + 1)).toNat) by omega, List.take_add, List.drop_drop, show a.toNat + (p - 1 + 1 - a).toNat = p.toNat by omega, List.drop_eq_getElem_cons hl, Nat.add_comm 1, List.take_succ_cons, show (p + 1).toNat = p.toNat + 1 by omega]
theorem mq_sp_nil (q : List mq_K) (p b : Int) (h : b < p) : mq_sp q p b = [] := by
  unfold mq_sp
  rw [show (b + 1 - p).toNat = 0 by omega]; rfl
theorem mq_sp_cons {q : List mq_K} {p b : Int} (h0 : 0 ≤ p) (h2 : p ≤ b) (h3 : b < mq_n q) : ∃ x, (mq_all q)[p.toNat]? = some x ∧ mq_sp q p b = x :: mq_sp q (p + 1) b := by
  obtain ⟨x, h, e⟩ := mq_sp_at h0 (Int.le_refl p) h2 h3
  rw [mq_sp_nil q p (p - 1) (by omega)] at e
  exact ⟨x, h, e⟩
theorem mq_all_in {q : List mq_K} (hW : mq_W q) : ∀ x ∈ mq_all q, -99999 ≤ x ∧ x ≤ 99999 := fun x hx => by
  obtain ⟨k, hk, hx⟩ := List.mem_flatMap.mp hx
  exact (hW.1 k hk).2.2.2 x hx
end
section
/-! THE CLASS Row: what its methods do, in chunks -/
def sp_X1_has : ab_Sp := fun av cs Q => ∃ (r : rw_T) (q : List mq_K) (p : Int), av = [.inr (.inl (some 0)), .inl p] ∧ cs = rw_cs r ∧ mq_R r q ∧ mq_W q ∧ ab_r p ∧ Q (some (.inl (if 0 ≤ p ∧ p < (mq_flat q).length then 1 else 0))) (rw_cs r)
def sp_X1_startOf : ab_Sp := fun av cs Q => ∃ (r : rw_T) (q : List mq_K) (c : Nat) (k : Int), av = [.inr (.inl (some 0)), .inl k] ∧ cs = rw_cs r ∧ mq_R r q ∧ mq_W q ∧ k = (c : Int) ∧ c ≤ q.length ∧ Q (some (.inl ((mq_flat (q.take c)).length : Int))) (rw_cs r)
def sp_X1_chunkHolding : ab_Sp := fun av cs Q => ∃ (r : rw_T) (A : List mq_K) (k : mq_K) (B : List mq_K) (p : Int), av = [.inr (.inl (some 0)), .inl p] ∧ cs = rw_cs r ∧ mq_R r (A ++ k :: B) ∧ mq_W (A ++ k :: B) ∧ (mq_flat A).length ≤ p ∧ p < (mq_flat A).length + k.1.length ∧ Q (some (.inl (A.length : Int))) (rw_cs r)
def sp_X1_numberAt : ab_Sp := fun av cs Q => ∃ (r : rw_T) (q : List mq_K) (p : Int) (i : Nat) (x : Int), av = [.inr (.inl (some 0)), .inl p] ∧ cs = rw_cs r ∧ mq_R r q ∧ mq_W q ∧ p = (i : Int) ∧ (mq_all q)[i]? = some x ∧ Q (some (.inl x)) (rw_cs r)
def sp_X1_mirror : ab_Sp := fun av cs Q => ∃ (f : Int → Int) (lo hi : Int), av = [.inr (.inl (some 0)), .inl lo, .inl hi] ∧ cs = ar_cs f ∧ 0 ≤ lo ∧ lo ≤ hi ∧ hi ≤ 60 ∧ Q none (ar_cs (mq_mir f lo hi))
def sp_X1_openChunk : ab_Sp := fun av cs Q => ∃ (K L T S : Int → Int) (n c w k sz : Int), av = [.inr (.inl (some 0)), .inl k, .inl sz] ∧ cs = rw_cs (K, L, T, S, n, c, w) ∧ 0 ≤ k ∧ k ≤ c ∧ c < 60 ∧ Q none (rw_cs (K, mq_ins L c k sz, mq_ins T c k 0, mq_ins S c k 0, n, c + 1, w))
def sp_X1_closeChunk : ab_Sp := fun av cs Q => ∃ (K L T S : Int → Int) (n c w k : Int), av = [.inr (.inl (some 0)), .inl k] ∧ cs = rw_cs (K, L, T, S, n, c, w) ∧ 0 ≤ k ∧ k < c ∧ c ≤ 60 ∧ Q none (rw_cs (K, mq_del L c k, mq_del T c k, mq_del S c k, n, c - 1, w))
-- ===== RootChunks$Row.has
def P_X1_has : List ab_I := [(0, .iload_n 1, 1, []), (1, .ifCond .lt 15, 4, [((0 : Int), 16)]), (4, .iload_n 1, 5, []), (5, .aload_n 0, 6, []), (6, .getfield 24, 9, []), (9, .if_icmp .ge 7, 12, [((0 : Int), 16)]), (12, .iconst 1, 13, []), (13, .goto 4, 16, [((0 : Int), 17)]), (16, .iconst 0, 17, []), (17, .ireturn, 18, [])]
def E_X1_has : ab_E := (T_X1, [], [], 2)
def M_X1_has : List (Nat × ab_MI) := []
def mi_X1_has : ab_MI := (yX1_has, cX1_has, 2, ab_rty 2, 1, 70)
theorem pk_X1_has : P_X1_has.all (ab_okI cX1_has) = true := by decide +kernel
theorem ck_X1_has : P_X1_has.all (ab_okC1 "RootChunks$Row" M_X1_has E_X1_has (1, 70)) = true := by decide +kernel
set_option maxRecDepth 100000 in
theorem b_X1_has_0 {Q : ab_Q} {p : Int} {rK : Int → Int} {rL : Int → Int} {rT : Int → Int} {rS : Int → Int} {rn : Int} {rc : Int} {rw : Int} (l1 : p < (0 : Int) → Q (some (.inl 0)) (rw_cs (rK, rL, rT, rS, rn, rc, rw))) (l2 : (0 : Int) ≤ p → rn ≤ p → Q (some (.inl 0)) (rw_cs (rK, rL, rT, rS, rn, rc, rw))) (l3 : (0 : Int) ≤ p → p < rn → Q (some (.inl 1)) (rw_cs (rK, rL, rT, rS, rn, rc, rw))) (p1 : ab_r p := by intros; (try unfold ab_r); omega) (p2 : p < (0 : Int) → ((0 : Int) = 0 ∨ (0 : Int) = 1) := by intros; (try unfold ab_r); omega) (p3 : (0 : Int) ≤ p → (ab_r p ∧ ab_r rn) := by intros; (try unfold ab_r); omega) (p4 : (0 : Int) ≤ p → rn ≤ p → ((0 : Int) = 0 ∨ (0 : Int) = 1) := by intros; (try unfold ab_r); omega) (p5 : (0 : Int) ≤ p → p < rn → ((1 : Int) = 0 ∨ (1 : Int) = 1) := by intros; (try unfold ab_r); omega) : ab_R E_X1_has P_X1_has Q 0 [some (.inr (.inl (some 0))), some (.inl p)] [] (rw_cs (rK, rL, rT, rS, rn, rc, rw)) :=
  ab_R.steps [] 10 (show (ab_r p ∧ ((p < (0 : Int) → (((0 : Int) = 0 ∨ (0 : Int) = 1) ∧ Q (some (.inl 0)) (rw_cs (rK, rL, rT, rS, rn, rc, rw)))) ∧ ((0 : Int) ≤ p → ((ab_r p ∧ ab_r rn) ∧ ((rn ≤ p → (((0 : Int) = 0 ∨ (0 : Int) = 1) ∧ Q (some (.inl 0)) (rw_cs (rK, rL, rT, rS, rn, rc, rw)))) ∧ (p < rn → (((1 : Int) = 0 ∨ (1 : Int) = 1) ∧ Q (some (.inl 1)) (rw_cs (rK, rL, rT, rS, rn, rc, rw))))))))) from ⟨p1, ⟨fun h1 => ⟨(p2 h1), (l1 h1)⟩, fun h2 => ⟨(p3 h2), ⟨fun h3 => ⟨(p4 h2 h3), (l2 h2 h3)⟩, fun h4 => ⟨(p5 h2 h4), (l3 h2 h4)⟩⟩⟩⟩⟩)
-- ===== RootChunks$Row.startOf
def P_X1_startOf : List ab_I := [(0, .iconst 0, 1, []), (1, .istore_n 2, 2, []), (2, .iconst 0, 3, []), (3, .istore_n 3, 4, []), (4, .iload_n 3, 5, []), (5, .iload_n 1, 6, []), (6, .if_icmp .ge 26, 9, [((0 : Int), 32)]), (9, .iload_n 3, 10, []), (10, .aload_n 0, 11, []), (11, .getfield 28, 14, []), (14, .if_icmp .ge 18, 17, [((0 : Int), 32)]), (17, .iload_n 2, 18, []), (18, .aload_n 0, 19, []), (19, .getfield 15, 22, []), (22, .iload_n 3, 23, []), (23, .iaload, 24, []), (24, .iadd, 25, []), (25, .istore_n 2, 26, []), (26, .iinc 3 1, 29, []), (29, .goto (-25), 32, [((0 : Int), 4)]), (32, .iload_n 2, 33, []), (33, .ireturn, 34, [])]
def E_X1_startOf : ab_E := (T_X1, [], [], 0)
def M_X1_startOf : List (Nat × ab_MI) := []
def mi_X1_startOf : ab_MI := (yX1_startOf, cX1_startOf, 4, ab_rty 0, 1, 70)
theorem pk_X1_startOf : P_X1_startOf.all (ab_okI cX1_startOf) = true := by decide +kernel
theorem ck_X1_startOf : P_X1_startOf.all (ab_okC1 "RootChunks$Row" M_X1_startOf E_X1_startOf (1, 70)) = true := by decide +kernel
set_option maxRecDepth 100000 in
theorem b_X1_startOf_0 {Q : ab_Q} {k : Int} {rK : Int → Int} {rL : Int → Int} {rT : Int → Int} {rS : Int → Int} {rn : Int} {rc : Int} {rw : Int} (l1 : ab_R E_X1_startOf P_X1_startOf Q 4 [some (.inr (.inl (some 0))), some (.inl k), some (.inl 0), some (.inl 0)] [] (rw_cs (rK, rL, rT, rS, rn, rc, rw)))  : ab_R E_X1_startOf P_X1_startOf Q 0 [some (.inr (.inl (some 0))), some (.inl k), none, none] [] (rw_cs (rK, rL, rT, rS, rn, rc, rw)) :=
  ab_R.steps [4] 6 (show ab_R E_X1_startOf P_X1_startOf Q 4 [some (.inr (.inl (some 0))), some (.inl k), some (.inl 0), some (.inl 0)] [] (rw_cs (rK, rL, rT, rS, rn, rc, rw)) from l1)
set_option maxRecDepth 100000 in
theorem b_X1_startOf_4 {Q : ab_Q} {k : Int} {st : Int} {c : Int} {rK : Int → Int} {rL : Int → Int} {rT : Int → Int} {rS : Int → Int} {rn : Int} {rc : Int} {rw : Int} (l1 : k ≤ c → Q (some (.inl st)) (rw_cs (rK, rL, rT, rS, rn, rc, rw))) (l2 : c < k → rc ≤ c → Q (some (.inl st)) (rw_cs (rK, rL, rT, rS, rn, rc, rw))) (l3 : c < k → c < rc → ab_R E_X1_startOf P_X1_startOf Q 4 [some (.inr (.inl (some 0))), some (.inl k), some (.inl (st + (rL c))), some (.inl (c + 1))] [] (rw_cs (rK, rL, rT, rS, rn, rc, rw))) (p1 : (ab_r c ∧ ab_r k) := by intros; (try unfold ab_r); omega) (p2 : c < k → (ab_r c ∧ ab_r rc) := by intros; (try unfold ab_r); omega) (p3 : c < k → c < rc → (0 ≤ c ∧ c < 60) := by intros; (try unfold ab_r); omega) : ab_R E_X1_startOf P_X1_startOf Q 4 [some (.inr (.inl (some 0))), some (.inl k), some (.inl st), some (.inl c)] [] (rw_cs (rK, rL, rT, rS, rn, rc, rw)) :=
  ab_R.steps [4] 18 (show ((ab_r c ∧ ab_r k) ∧ ((k ≤ c → Q (some (.inl st)) (rw_cs (rK, rL, rT, rS, rn, rc, rw))) ∧ (c < k → ((ab_r c ∧ ab_r rc) ∧ ((rc ≤ c → Q (some (.inl st)) (rw_cs (rK, rL, rT, rS, rn, rc, rw))) ∧ (c < rc → ((0 ≤ c ∧ c < 60) ∧ ab_R E_X1_startOf P_X1_startOf Q 4 [some (.inr (.inl (some 0))), some (.inl k), some (.inl (st + (rL c))), some (.inl (c + 1))] [] (rw_cs (rK, rL, rT, rS, rn, rc, rw))))))))) from ⟨p1, ⟨fun h1 => (l1 h1), fun h2 => ⟨(p2 h2), ⟨fun h3 => (l2 h2 h3), fun h4 => ⟨(p3 h2 h4), (l3 h2 h4)⟩⟩⟩⟩⟩)
-- ===== RootChunks$Row.chunkHolding
def P_X1_chunkHolding : List ab_I := [(0, .iconst 0, 1, []), (1, .istore_n 2, 2, []), (2, .iconst 0, 3, []), (3, .istore_n 3, 4, []), (4, .iload_n 3, 5, []), (5, .aload_n 0, 6, []), (6, .getfield 28, 9, []), (9, .if_icmp .ge 25, 12, [((0 : Int), 34)]), (12, .iload_n 2, 13, []), (13, .aload_n 0, 14, []), (14, .getfield 15, 17, []), (17, .iload_n 3, 18, []), (18, .iaload, 19, []), (19, .iadd, 20, []), (20, .istore_n 2, 21, []), (21, .iload_n 1, 22, []), (22, .iload_n 2, 23, []), (23, .if_icmp .ge 5, 26, [((0 : Int), 28)]), (26, .iload_n 3, 27, []), (27, .ireturn, 28, []), (28, .iinc 3 1, 31, []), (31, .goto (-27), 34, [((0 : Int), 4)]), (34, .aload_n 0, 35, []), (35, .getfield 28, 38, []), (38, .ireturn, 39, [])]
def E_X1_chunkHolding : ab_E := (T_X1, [], [], 0)
def M_X1_chunkHolding : List (Nat × ab_MI) := []
def mi_X1_chunkHolding : ab_MI := (yX1_chunkHolding, cX1_chunkHolding, 4, ab_rty 0, 1, 70)
theorem pk_X1_chunkHolding : P_X1_chunkHolding.all (ab_okI cX1_chunkHolding) = true := by decide +kernel
theorem ck_X1_chunkHolding : P_X1_chunkHolding.all (ab_okC1 "RootChunks$Row" M_X1_chunkHolding E_X1_chunkHolding (1, 70)) = true := by decide +kernel
set_option maxRecDepth 100000 in
theorem b_X1_chunkHolding_0 {Q : ab_Q} {p : Int} {rK : Int → Int} {rL : Int → Int} {rT : Int → Int} {rS : Int → Int} {rn : Int} {rc : Int} {rw : Int} (l1 : ab_R E_X1_chunkHolding P_X1_chunkHolding Q 4 [some (.inr (.inl (some 0))), some (.inl p), some (.inl 0), some (.inl 0)] [] (rw_cs (rK, rL, rT, rS, rn, rc, rw)))  : ab_R E_X1_chunkHolding P_X1_chunkHolding Q 0 [some (.inr (.inl (some 0))), some (.inl p), none, none] [] (rw_cs (rK, rL, rT, rS, rn, rc, rw)) :=
  ab_R.steps [4] 6 (show ab_R E_X1_chunkHolding P_X1_chunkHolding Q 4 [some (.inr (.inl (some 0))), some (.inl p), some (.inl 0), some (.inl 0)] [] (rw_cs (rK, rL, rT, rS, rn, rc, rw)) from l1)
set_option maxRecDepth 100000 in
theorem b_X1_chunkHolding_4 {Q : ab_Q} {p : Int} {bh : Int} {c : Int} {rK : Int → Int} {rL : Int → Int} {rT : Int → Int} {rS : Int → Int} {rn : Int} {rc : Int} {rw : Int} (l1 : rc ≤ c → Q (some (.inl rc)) (rw_cs (rK, rL, rT, rS, rn, rc, rw))) (l2 : c < rc → (bh + (rL c)) ≤ p → ab_R E_X1_chunkHolding P_X1_chunkHolding Q 4 [some (.inr (.inl (some 0))), some (.inl p), some (.inl (bh + (rL c))), some (.inl (c + 1))] [] (rw_cs (rK, rL, rT, rS, rn, rc, rw))) (l3 : c < rc → p < (bh + (rL c)) → Q (some (.inl c)) (rw_cs (rK, rL, rT, rS, rn, rc, rw))) (p1 : (ab_r c ∧ ab_r rc) := by intros; (try unfold ab_r); omega) (p2 : c < rc → (0 ≤ c ∧ c < 60) := by intros; (try unfold ab_r); omega) (p3 : c < rc → (ab_r p ∧ ab_r (bh + (rL c))) := by intros; (try unfold ab_r); omega) : ab_R E_X1_chunkHolding P_X1_chunkHolding Q 4 [some (.inr (.inl (some 0))), some (.inl p), some (.inl bh), some (.inl c)] [] (rw_cs (rK, rL, rT, rS, rn, rc, rw)) :=
  ab_R.steps [4] 18 (show ((ab_r c ∧ ab_r rc) ∧ ((rc ≤ c → Q (some (.inl rc)) (rw_cs (rK, rL, rT, rS, rn, rc, rw))) ∧ (c < rc → ((0 ≤ c ∧ c < 60) ∧ ((ab_r p ∧ ab_r (bh + (rL c))) ∧ (((bh + (rL c)) ≤ p → ab_R E_X1_chunkHolding P_X1_chunkHolding Q 4 [some (.inr (.inl (some 0))), some (.inl p), some (.inl (bh + (rL c))), some (.inl (c + 1))] [] (rw_cs (rK, rL, rT, rS, rn, rc, rw))) ∧ (p < (bh + (rL c)) → Q (some (.inl c)) (rw_cs (rK, rL, rT, rS, rn, rc, rw))))))))) from ⟨p1, ⟨fun h1 => (l1 h1), fun h2 => ⟨(p2 h2), ⟨(p3 h2), ⟨fun h3 => (l2 h2 h3), fun h4 => (l3 h2 h4)⟩⟩⟩⟩⟩)
-- ===== RootChunks$Row.numberAt
def P_X1_numberAt : List ab_I := [(0, .aload_n 0, 1, []), (1, .iload_n 1, 2, []), (2, .invokevirtual 40, 5, []), (5, .istore_n 2, 6, []), (6, .iload_n 1, 7, []), (7, .ifCond .lt 11, 10, [((0 : Int), 18)]), (10, .iload_n 2, 11, []), (11, .aload_n 0, 12, []), (12, .getfield 28, 15, []), (15, .if_icmp .lt 5, 18, [((0 : Int), 20)]), (18, .iconst 0, 19, []), (19, .ireturn, 20, []), (20, .aload_n 0, 21, []), (21, .iload_n 2, 22, []), (22, .invokevirtual 44, 25, []), (25, .istore_n 3, 26, []), (26, .aload_n 0, 27, []), (27, .getfield 18, 30, []), (30, .iload_n 2, 31, []), (31, .iaload, 32, []), (32, .iconst 1, 33, []), (33, .if_icmp .ne 20, 36, [((0 : Int), 53)]), (36, .iload_n 3, 37, []), (37, .iload_n 3, 38, []), (38, .iadd, 39, []), (39, .aload_n 0, 40, []), (40, .getfield 15, 43, []), (43, .iload_n 2, 44, []), (44, .iaload, 45, []), (45, .iadd, 46, []), (46, .iconst 1, 47, []), (47, .isub, 48, []), (48, .iload_n 1, 49, []), (49, .isub, 50, []), (50, .goto 4, 53, [((0 : Int), 54)]), (53, .iload_n 1, 54, []), (54, .istore 4, 56, []), (56, .aload_n 0, 57, []), (57, .getfield 9, 60, []), (60, .iload 4, 62, []), (62, .iaload, 63, []), (63, .aload_n 0, 64, []), (64, .getfield 21, 67, []), (67, .iload_n 2, 68, []), (68, .iaload, 69, []), (69, .iadd, 70, []), (70, .ireturn, 71, [])]
def E_X1_numberAt : ab_E := (T_X1, [(2, (2, 1, [], 0, sp_X1_chunkHolding)), (22, (2, 1, [], 0, sp_X1_startOf))], [], 0)
def M_X1_numberAt : List (Nat × ab_MI) := [(2, mi_X1_chunkHolding), (22, mi_X1_startOf)]
def mi_X1_numberAt : ab_MI := (yX1_numberAt, cX1_numberAt, 5, ab_rty 0, 2, 93)
theorem pk_X1_numberAt : P_X1_numberAt.all (ab_okI cX1_numberAt) = true := by decide +kernel
theorem ck_X1_numberAt : P_X1_numberAt.all (ab_okC1 "RootChunks$Row" M_X1_numberAt E_X1_numberAt (2, 93)) = true := by decide +kernel
set_option maxRecDepth 100000 in
theorem b_X1_numberAt_0 {Q : ab_Q} {p : Int} {rK : Int → Int} {rL : Int → Int} {rT : Int → Int} {rS : Int → Int} {rn : Int} {rc : Int} {rw : Int} (l1 : sp_X1_chunkHolding [.inr (.inl (some 0)), .inl p] (rw_cs (rK, rL, rT, rS, rn, rc, rw)) (fun r_ k_ => ∃ (x_ : Int), r_ = some (.inl x_) ∧ k_ = (rw_cs (rK, rL, rT, rS, rn, rc, rw)) ∧ ab_R E_X1_numberAt P_X1_numberAt Q 5 [some (.inr (.inl (some 0))), some (.inl p), none, none, none] [.inl x_] (rw_cs (rK, rL, rT, rS, rn, rc, rw))))  : ab_R E_X1_numberAt P_X1_numberAt Q 0 [some (.inr (.inl (some 0))), some (.inl p), none, none, none] [] (rw_cs (rK, rL, rT, rS, rn, rc, rw)) :=
  ab_R.steps [5, 25] 4 (show ab_cl sp_X1_chunkHolding [.inr (.inl (some 0)), .inl p] (rw_cs (rK, rL, rT, rS, rn, rc, rw)) (fun r_ k_ => k_.length = ((rw_cs (rK, rL, rT, rS, rn, rc, rw))).length → ab_R E_X1_numberAt P_X1_numberAt Q 5 [some (.inr (.inl (some 0))), some (.inl p), none, none, none] (ab_ret r_ []) k_) from ⟨_, l1, fun r_ k_ hz _ => by obtain ⟨x_, rfl, rfl, hR⟩ := hz; exact hR⟩)
set_option maxRecDepth 100000 in
theorem b_X1_numberAt_5 {Q : ab_Q} {p : Int} {t0 : Int} {rK : Int → Int} {rL : Int → Int} {rT : Int → Int} {rS : Int → Int} {rn : Int} {rc : Int} {rw : Int} (l1 : p < (0 : Int) → Q (some (.inl 0)) (rw_cs (rK, rL, rT, rS, rn, rc, rw))) (l2 : (0 : Int) ≤ p → t0 < rc → sp_X1_startOf [.inr (.inl (some 0)), .inl t0] (rw_cs (rK, rL, rT, rS, rn, rc, rw)) (fun r_ k_ => ∃ (x_ : Int), r_ = some (.inl x_) ∧ k_ = (rw_cs (rK, rL, rT, rS, rn, rc, rw)) ∧ ab_R E_X1_numberAt P_X1_numberAt Q 25 [some (.inr (.inl (some 0))), some (.inl p), some (.inl t0), none, none] [.inl x_] (rw_cs (rK, rL, rT, rS, rn, rc, rw)))) (l3 : (0 : Int) ≤ p → rc ≤ t0 → Q (some (.inl 0)) (rw_cs (rK, rL, rT, rS, rn, rc, rw))) (p1 : ab_r p := by intros; (try unfold ab_r); omega) (p2 : (0 : Int) ≤ p → (ab_r t0 ∧ ab_r rc) := by intros; (try unfold ab_r); omega) : ab_R E_X1_numberAt P_X1_numberAt Q 5 [some (.inr (.inl (some 0))), some (.inl p), none, none, none] [.inl t0] (rw_cs (rK, rL, rT, rS, rn, rc, rw)) :=
  ab_R.steps [5, 25] 11 (show (ab_r p ∧ ((p < (0 : Int) → Q (some (.inl 0)) (rw_cs (rK, rL, rT, rS, rn, rc, rw))) ∧ ((0 : Int) ≤ p → ((ab_r t0 ∧ ab_r rc) ∧ ((t0 < rc → ab_cl sp_X1_startOf [.inr (.inl (some 0)), .inl t0] (rw_cs (rK, rL, rT, rS, rn, rc, rw)) (fun r_ k_ => k_.length = ((rw_cs (rK, rL, rT, rS, rn, rc, rw))).length → ab_R E_X1_numberAt P_X1_numberAt Q 25 [some (.inr (.inl (some 0))), some (.inl p), some (.inl t0), none, none] (ab_ret r_ []) k_)) ∧ (rc ≤ t0 → Q (some (.inl 0)) (rw_cs (rK, rL, rT, rS, rn, rc, rw)))))))) from ⟨p1, ⟨fun h1 => (l1 h1), fun h2 => ⟨(p2 h2), ⟨fun h3 => ⟨_, (l2 h2 h3), fun r_ k_ hz _ => by obtain ⟨x_, rfl, rfl, hR⟩ := hz; exact hR⟩, fun h4 => (l3 h2 h4)⟩⟩⟩⟩)
set_option maxRecDepth 100000 in
theorem b_X1_numberAt_25 {Q : ab_Q} {p : Int} {k : Int} {t0 : Int} {rK : Int → Int} {rL : Int → Int} {rT : Int → Int} {rS : Int → Int} {rn : Int} {rc : Int} {rw : Int} (l1 : ¬ (rT k) = (1 : Int) → Q (some (.inl ((rK p) + (rS k)))) (rw_cs (rK, rL, rT, rS, rn, rc, rw))) (l2 : (rT k) = (1 : Int) → Q (some (.inl ((rK ((((t0 + t0) + (rL k)) - 1) - p)) + (rS k)))) (rw_cs (rK, rL, rT, rS, rn, rc, rw))) (p1 : (0 ≤ k ∧ k < 60) := by intros; (try unfold ab_r); omega) (p2 : (ab_r (rT k) ∧ ab_r 1) := by intros; (try unfold ab_r); omega) (p3 : ¬ (rT k) = (1 : Int) → (0 ≤ p ∧ p < 60) := by intros; (try unfold ab_r); omega) (p4 : ¬ (rT k) = (1 : Int) → (0 ≤ k ∧ k < 60) := by intros; (try unfold ab_r); omega) (p5 : (rT k) = (1 : Int) → (0 ≤ k ∧ k < 60) := by intros; (try unfold ab_r); omega) (p6 : (rT k) = (1 : Int) → (0 ≤ ((((t0 + t0) + (rL k)) - 1) - p) ∧ ((((t0 + t0) + (rL k)) - 1) - p) < 60) := by intros; (try unfold ab_r); omega) : ab_R E_X1_numberAt P_X1_numberAt Q 25 [some (.inr (.inl (some 0))), some (.inl p), some (.inl k), none, none] [.inl t0] (rw_cs (rK, rL, rT, rS, rn, rc, rw)) :=
  ab_R.steps [5, 25] 32 (show ((0 ≤ k ∧ k < 60) ∧ ((ab_r (rT k) ∧ ab_r 1) ∧ ((¬ (rT k) = (1 : Int) → ((0 ≤ p ∧ p < 60) ∧ ((0 ≤ k ∧ k < 60) ∧ Q (some (.inl ((rK p) + (rS k)))) (rw_cs (rK, rL, rT, rS, rn, rc, rw))))) ∧ ((rT k) = (1 : Int) → ((0 ≤ k ∧ k < 60) ∧ ((0 ≤ ((((t0 + t0) + (rL k)) - 1) - p) ∧ ((((t0 + t0) + (rL k)) - 1) - p) < 60) ∧ ((0 ≤ k ∧ k < 60) ∧ Q (some (.inl ((rK ((((t0 + t0) + (rL k)) - 1) - p)) + (rS k)))) (rw_cs (rK, rL, rT, rS, rn, rc, rw))))))))) from ⟨p1, ⟨p2, ⟨fun h1 => ⟨(p3 h1), ⟨(p4 h1), (l1 h1)⟩⟩, fun h2 => ⟨(p5 h2), ⟨(p6 h2), ⟨(p5 h2), (l2 h2)⟩⟩⟩⟩⟩⟩)
-- ===== RootChunks$Row.mirror
def P_X1_mirror : List ab_I := [(0, .iload_n 1, 1, []), (1, .istore_n 3, 2, []), (2, .iload_n 2, 3, []), (3, .iconst 1, 4, []), (4, .isub, 5, []), (5, .istore 4, 7, []), (7, .iload_n 3, 8, []), (8, .iload 4, 10, []), (10, .if_icmp .ge 30, 13, [((0 : Int), 40)]), (13, .aload_n 0, 14, []), (14, .iload_n 3, 15, []), (15, .iaload, 16, []), (16, .istore 5, 18, []), (18, .aload_n 0, 19, []), (19, .iload_n 3, 20, []), (20, .aload_n 0, 21, []), (21, .iload 4, 23, []), (23, .iaload, 24, []), (24, .iastore, 25, []), (25, .aload_n 0, 26, []), (26, .iload 4, 28, []), (28, .iload 5, 30, []), (30, .iastore, 31, []), (31, .iinc 3 1, 34, []), (34, .iinc 4 (-1), 37, []), (37, .goto (-30), 40, [((0 : Int), 7)]), (40, .return_, 41, [])]
def E_X1_mirror : ab_E := (T_X1, [], [], 9)
def M_X1_mirror : List (Nat × ab_MI) := []
def mi_X1_mirror : ab_MI := (yX1_mirror, cX1_mirror, 6, ab_rty 9, 1, 70)
theorem pk_X1_mirror : P_X1_mirror.all (ab_okI cX1_mirror) = true := by decide +kernel
theorem ck_X1_mirror : P_X1_mirror.all (ab_okC1 "RootChunks$Row" M_X1_mirror E_X1_mirror (1, 70)) = true := by decide +kernel
set_option maxRecDepth 100000 in
theorem b_X1_mirror_0 {Q : ab_Q} {lo0 : Int} {hi0 : Int} {f : Int → Int} (l1 : ab_R E_X1_mirror P_X1_mirror Q 7 [some (.inr (.inl (some 0))), some (.inl lo0), some (.inl hi0), some (.inl lo0), some (.inl (hi0 - 1)), none] [] (ar_cs f))  : ab_R E_X1_mirror P_X1_mirror Q 0 [some (.inr (.inl (some 0))), some (.inl lo0), some (.inl hi0), none, none, none] [] (ar_cs f) :=
  ab_R.steps [7] 8 (show ab_R E_X1_mirror P_X1_mirror Q 7 [some (.inr (.inl (some 0))), some (.inl lo0), some (.inl hi0), some (.inl lo0), some (.inl (hi0 - 1)), none] [] (ar_cs f) from l1)
set_option maxRecDepth 100000 in
theorem b_X1_mirror_7 {Q : ab_Q} {lo0 : Int} {hi0 : Int} {lo : Int} {hi : Int} {f : Int → Int} (l1 : hi ≤ lo → Q none (ar_cs f)) (l2 : lo < hi → ab_R E_X1_mirror P_X1_mirror Q 7 [some (.inr (.inl (some 0))), some (.inl lo0), some (.inl hi0), some (.inl (lo + 1)), some (.inl (hi + (-1))), none] [] (ar_cs ((ab_up (ab_up f lo (f hi)) hi (f lo))))) (p1 : (ab_r lo ∧ ab_r hi) := by intros; (try unfold ab_r); omega) (p2 : lo < hi → (0 ≤ lo ∧ lo < 60) := by intros; (try unfold ab_r); omega) (p3 : lo < hi → (0 ≤ hi ∧ hi < 60) := by intros; (try unfold ab_r); omega) : ab_R E_X1_mirror P_X1_mirror Q 7 [some (.inr (.inl (some 0))), some (.inl lo0), some (.inl hi0), some (.inl lo), some (.inl hi), none] [] (ar_cs f) :=
  ab_R.steps [7] 22 (show ((ab_r lo ∧ ab_r hi) ∧ ((hi ≤ lo → Q none (ar_cs f)) ∧ (lo < hi → ((0 ≤ lo ∧ lo < 60) ∧ ((0 ≤ hi ∧ hi < 60) ∧ ((0 ≤ lo ∧ lo < 60) ∧ ((0 ≤ hi ∧ hi < 60) ∧ ab_R E_X1_mirror P_X1_mirror Q 7 [some (.inr (.inl (some 0))), some (.inl lo0), some (.inl hi0), some (.inl (lo + 1)), some (.inl (hi + (-1))), some (.inl (f lo))] [] (ar_cs ((ab_up (ab_up f lo (f hi)) hi (f lo))))))))))) from ⟨p1, ⟨fun h1 => (l1 h1), fun h2 => ⟨(p2 h2), ⟨(p3 h2), ⟨(p2 h2), ⟨(p3 h2), (ab_R.fg 5 rfl (l2 h2))⟩⟩⟩⟩⟩⟩)
-- ===== RootChunks$Row.openChunk
def P_X1_openChunk : List ab_I := [(0, .aload_n 0, 1, []), (1, .getfield 28, 4, []), (4, .bipush 60, 6, []), (6, .if_icmp .lt 4, 9, [((0 : Int), 10)]), (9, .return_, 10, []), (10, .aload_n 0, 11, []), (11, .getfield 28, 14, []), (14, .istore_n 3, 15, []), (15, .iload_n 3, 16, []), (16, .iload_n 1, 17, []), (17, .if_icmp .le 51, 20, [((0 : Int), 68)]), (20, .aload_n 0, 21, []), (21, .getfield 15, 24, []), (24, .iload_n 3, 25, []), (25, .aload_n 0, 26, []), (26, .getfield 15, 29, []), (29, .iload_n 3, 30, []), (30, .iconst 1, 31, []), (31, .isub, 32, []), (32, .iaload, 33, []), (33, .iastore, 34, []), (34, .aload_n 0, 35, []), (35, .getfield 18, 38, []), (38, .iload_n 3, 39, []), (39, .aload_n 0, 40, []), (40, .getfield 18, 43, []), (43, .iload_n 3, 44, []), (44, .iconst 1, 45, []), (45, .isub, 46, []), (46, .iaload, 47, []), (47, .iastore, 48, []), (48, .aload_n 0, 49, []), (49, .getfield 21, 52, []), (52, .iload_n 3, 53, []), (53, .aload_n 0, 54, []), (54, .getfield 21, 57, []), (57, .iload_n 3, 58, []), (58, .iconst 1, 59, []), (59, .isub, 60, []), (60, .iaload, 61, []), (61, .iastore, 62, []), (62, .iinc 3 (-1), 65, []), (65, .goto (-50), 68, [((0 : Int), 15)]), (68, .aload_n 0, 69, []), (69, .dup, 70, []), (70, .getfield 28, 73, []), (73, .iconst 1, 74, []), (74, .iadd, 75, []), (75, .putfield 28, 78, []), (78, .aload_n 0, 79, []), (79, .getfield 15, 82, []), (82, .iload_n 1, 83, []), (83, .iload_n 2, 84, []), (84, .iastore, 85, []), (85, .aload_n 0, 86, []), (86, .getfield 18, 89, []), (89, .iload_n 1, 90, []), (90, .iconst 0, 91, []), (91, .iastore, 92, []), (92, .aload_n 0, 93, []), (93, .getfield 21, 96, []), (96, .iload_n 1, 97, []), (97, .iconst 0, 98, []), (98, .iastore, 99, []), (99, .return_, 100, [])]
def E_X1_openChunk : ab_E := (T_X1, [], [], 9)
def M_X1_openChunk : List (Nat × ab_MI) := []
def mi_X1_openChunk : ab_MI := (yX1_openChunk, cX1_openChunk, 4, ab_rty 9, 1, 70)
theorem pk_X1_openChunk : P_X1_openChunk.all (ab_okI cX1_openChunk) = true := by decide +kernel
theorem ck_X1_openChunk : P_X1_openChunk.all (ab_okC1 "RootChunks$Row" M_X1_openChunk E_X1_openChunk (1, 70)) = true := by decide +kernel
set_option maxRecDepth 100000 in
theorem b_X1_openChunk_0 {Q : ab_Q} {k : Int} {sz : Int} {rK : Int → Int} {rL : Int → Int} {rT : Int → Int} {rS : Int → Int} {rn : Int} {rc : Int} {rw : Int} (l1 : rc < (60 : Int) → ab_R E_X1_openChunk P_X1_openChunk Q 15 [some (.inr (.inl (some 0))), some (.inl k), some (.inl sz), some (.inl rc)] [] (rw_cs (rK, rL, rT, rS, rn, rc, rw))) (l2 : (60 : Int) ≤ rc → Q none (rw_cs (rK, rL, rT, rS, rn, rc, rw))) (p1 : (ab_r rc ∧ ab_r 60) := by intros; (try unfold ab_r); omega) : ab_R E_X1_openChunk P_X1_openChunk Q 0 [some (.inr (.inl (some 0))), some (.inl k), some (.inl sz), none] [] (rw_cs (rK, rL, rT, rS, rn, rc, rw)) :=
  ab_R.steps [15] 9 (show ((ab_r rc ∧ ab_r 60) ∧ ((rc < (60 : Int) → ab_R E_X1_openChunk P_X1_openChunk Q 15 [some (.inr (.inl (some 0))), some (.inl k), some (.inl sz), some (.inl rc)] [] (rw_cs (rK, rL, rT, rS, rn, rc, rw))) ∧ ((60 : Int) ≤ rc → Q none (rw_cs (rK, rL, rT, rS, rn, rc, rw))))) from ⟨p1, ⟨fun h1 => (l1 h1), fun h2 => (l2 h2)⟩⟩)
set_option maxRecDepth 100000 in
theorem b_X1_openChunk_15 {Q : ab_Q} {k : Int} {sz : Int} {c : Int} {rK : Int → Int} {rL : Int → Int} {rT : Int → Int} {rS : Int → Int} {rn : Int} {rc : Int} {rw : Int} (l1 : c ≤ k → Q none (rw_cs (rK, (ab_up rL k sz), (ab_up rT k 0), (ab_up rS k 0), rn, (rc + 1), rw))) (l2 : k < c → ab_R E_X1_openChunk P_X1_openChunk Q 15 [some (.inr (.inl (some 0))), some (.inl k), some (.inl sz), some (.inl (c + (-1)))] [] (rw_cs (rK, (ab_up rL c (rL (c - 1))), (ab_up rT c (rT (c - 1))), (ab_up rS c (rS (c - 1))), rn, rc, rw))) (p1 : (ab_r c ∧ ab_r k) := by intros; (try unfold ab_r); omega) (p2 : c ≤ k → (0 ≤ k ∧ k < 60) := by intros; (try unfold ab_r); omega) (p3 : k < c → (0 ≤ (c - 1) ∧ (c - 1) < 60) := by intros; (try unfold ab_r); omega) (p4 : k < c → (0 ≤ c ∧ c < 60) := by intros; (try unfold ab_r); omega) : ab_R E_X1_openChunk P_X1_openChunk Q 15 [some (.inr (.inl (some 0))), some (.inl k), some (.inl sz), some (.inl c)] [] (rw_cs (rK, rL, rT, rS, rn, rc, rw)) :=
  ab_R.steps [15] 37 (show ((ab_r c ∧ ab_r k) ∧ ((c ≤ k → ((0 ≤ k ∧ k < 60) ∧ ((0 ≤ k ∧ k < 60) ∧ ((0 ≤ k ∧ k < 60) ∧ Q none (rw_cs (rK, (ab_up rL k sz), (ab_up rT k 0), (ab_up rS k 0), rn, (rc + 1), rw)))))) ∧ (k < c → ((0 ≤ (c - 1) ∧ (c - 1) < 60) ∧ ((0 ≤ c ∧ c < 60) ∧ ((0 ≤ (c - 1) ∧ (c - 1) < 60) ∧ ((0 ≤ c ∧ c < 60) ∧ ((0 ≤ (c - 1) ∧ (c - 1) < 60) ∧ ((0 ≤ c ∧ c < 60) ∧ ab_R E_X1_openChunk P_X1_openChunk Q 15 [some (.inr (.inl (some 0))), some (.inl k), some (.inl sz), some (.inl (c + (-1)))] [] (rw_cs (rK, (ab_up rL c (rL (c - 1))), (ab_up rT c (rT (c - 1))), (ab_up rS c (rS (c - 1))), rn, rc, rw))))))))))) from ⟨p1, ⟨fun h1 => ⟨(p2 h1), ⟨(p2 h1), ⟨(p2 h1), (l1 h1)⟩⟩⟩, fun h2 => ⟨(p3 h2), ⟨(p4 h2), ⟨(p3 h2), ⟨(p4 h2), ⟨(p3 h2), ⟨(p4 h2), (l2 h2)⟩⟩⟩⟩⟩⟩⟩⟩)
-- ===== RootChunks$Row.closeChunk
def P_X1_closeChunk : List ab_I := [(0, .iload_n 1, 1, []), (1, .iconst 1, 2, []), (2, .iadd, 3, []), (3, .istore_n 2, 4, []), (4, .iload_n 2, 5, []), (5, .aload_n 0, 6, []), (6, .getfield 28, 9, []), (9, .if_icmp .ge 51, 12, [((0 : Int), 60)]), (12, .aload_n 0, 13, []), (13, .getfield 15, 16, []), (16, .iload_n 2, 17, []), (17, .iconst 1, 18, []), (18, .isub, 19, []), (19, .aload_n 0, 20, []), (20, .getfield 15, 23, []), (23, .iload_n 2, 24, []), (24, .iaload, 25, []), (25, .iastore, 26, []), (26, .aload_n 0, 27, []), (27, .getfield 18, 30, []), (30, .iload_n 2, 31, []), (31, .iconst 1, 32, []), (32, .isub, 33, []), (33, .aload_n 0, 34, []), (34, .getfield 18, 37, []), (37, .iload_n 2, 38, []), (38, .iaload, 39, []), (39, .iastore, 40, []), (40, .aload_n 0, 41, []), (41, .getfield 21, 44, []), (44, .iload_n 2, 45, []), (45, .iconst 1, 46, []), (46, .isub, 47, []), (47, .aload_n 0, 48, []), (48, .getfield 21, 51, []), (51, .iload_n 2, 52, []), (52, .iaload, 53, []), (53, .iastore, 54, []), (54, .iinc 2 1, 57, []), (57, .goto (-53), 60, [((0 : Int), 4)]), (60, .aload_n 0, 61, []), (61, .dup, 62, []), (62, .getfield 28, 65, []), (65, .iconst 1, 66, []), (66, .isub, 67, []), (67, .putfield 28, 70, []), (70, .return_, 71, [])]
def E_X1_closeChunk : ab_E := (T_X1, [], [], 9)
def M_X1_closeChunk : List (Nat × ab_MI) := []
def mi_X1_closeChunk : ab_MI := (yX1_closeChunk, cX1_closeChunk, 3, ab_rty 9, 1, 70)
theorem pk_X1_closeChunk : P_X1_closeChunk.all (ab_okI cX1_closeChunk) = true := by decide +kernel
theorem ck_X1_closeChunk : P_X1_closeChunk.all (ab_okC1 "RootChunks$Row" M_X1_closeChunk E_X1_closeChunk (1, 70)) = true := by decide +kernel
set_option maxRecDepth 100000 in
theorem b_X1_closeChunk_0 {Q : ab_Q} {k : Int} {rK : Int → Int} {rL : Int → Int} {rT : Int → Int} {rS : Int → Int} {rn : Int} {rc : Int} {rw : Int} (l1 : ab_R E_X1_closeChunk P_X1_closeChunk Q 4 [some (.inr (.inl (some 0))), some (.inl k), some (.inl (k + 1))] [] (rw_cs (rK, rL, rT, rS, rn, rc, rw)))  : ab_R E_X1_closeChunk P_X1_closeChunk Q 0 [some (.inr (.inl (some 0))), some (.inl k), none] [] (rw_cs (rK, rL, rT, rS, rn, rc, rw)) :=
  ab_R.steps [4] 6 (show ab_R E_X1_closeChunk P_X1_closeChunk Q 4 [some (.inr (.inl (some 0))), some (.inl k), some (.inl (k + 1))] [] (rw_cs (rK, rL, rT, rS, rn, rc, rw)) from l1)
set_option maxRecDepth 100000 in
theorem b_X1_closeChunk_4 {Q : ab_Q} {k : Int} {c : Int} {rK : Int → Int} {rL : Int → Int} {rT : Int → Int} {rS : Int → Int} {rn : Int} {rc : Int} {rw : Int} (l1 : rc ≤ c → Q none (rw_cs (rK, rL, rT, rS, rn, (rc - 1), rw))) (l2 : c < rc → ab_R E_X1_closeChunk P_X1_closeChunk Q 4 [some (.inr (.inl (some 0))), some (.inl k), some (.inl (c + 1))] [] (rw_cs (rK, (ab_up rL (c - 1) (rL c)), (ab_up rT (c - 1) (rT c)), (ab_up rS (c - 1) (rS c)), rn, rc, rw))) (p1 : (ab_r c ∧ ab_r rc) := by intros; (try unfold ab_r); omega) (p2 : c < rc → (0 ≤ c ∧ c < 60) := by intros; (try unfold ab_r); omega) (p3 : c < rc → (0 ≤ (c - 1) ∧ (c - 1) < 60) := by intros; (try unfold ab_r); omega) : ab_R E_X1_closeChunk P_X1_closeChunk Q 4 [some (.inr (.inl (some 0))), some (.inl k), some (.inl c)] [] (rw_cs (rK, rL, rT, rS, rn, rc, rw)) :=
  ab_R.steps [4] 38 (show ((ab_r c ∧ ab_r rc) ∧ ((rc ≤ c → Q none (rw_cs (rK, rL, rT, rS, rn, (rc - 1), rw))) ∧ (c < rc → ((0 ≤ c ∧ c < 60) ∧ ((0 ≤ (c - 1) ∧ (c - 1) < 60) ∧ ((0 ≤ c ∧ c < 60) ∧ ((0 ≤ (c - 1) ∧ (c - 1) < 60) ∧ ((0 ≤ c ∧ c < 60) ∧ ((0 ≤ (c - 1) ∧ (c - 1) < 60) ∧ ab_R E_X1_closeChunk P_X1_closeChunk Q 4 [some (.inr (.inl (some 0))), some (.inl k), some (.inl (c + 1))] [] (rw_cs (rK, (ab_up rL (c - 1) (rL c)), (ab_up rT (c - 1) (rT c)), (ab_up rS (c - 1) (rS c)), rn, rc, rw))))))))))) from ⟨p1, ⟨fun h1 => (l1 h1), fun h2 => ⟨(p2 h2), ⟨(p3 h2), ⟨(p2 h2), ⟨(p3 h2), ⟨(p2 h2), ⟨(p3 h2), (l2 h2)⟩⟩⟩⟩⟩⟩⟩⟩)
theorem vc_X1_has {av : List ab_V} {cs : List ab_C} {Q : ab_Q} (h : sp_X1_has av cs Q) : (ab_lv0 av).length ≤ 2 ∧ ab_R E_X1_has P_X1_has Q 0 (ab_ent av 2) [] cs := by
  obtain ⟨⟨rK, rL, rT, rS, rn, rc, rw⟩, q, p, rfl, rfl, hR, hW, ⟨hp1, hp2⟩, hQ⟩ := h
  refine ⟨Nat.le_of_ble_eq_true rfl, ?_⟩
  have hn : rn = (mq_flat q).length := hR.2.2.2.2.1
  have hw := hW.2
  refine b_X1_has_0 (fun h => ?_) (fun h1 h2 => ?_) (fun h1 h2 => ?_)
  · rw [if_neg (by omega)] at hQ; exact hQ
  · rw [if_neg (by omega)] at hQ; exact hQ
  · rw [if_pos (by omega)] at hQ; exact hQ
theorem mt_X1_has (l : Launch) : ab_MT l mi_X1_has sp_X1_has := ab_MT.of (own := "RootChunks$Row") (E := E_X1_has) (P := P_X1_has) (M := M_X1_has) (nL := 2) (ty := 2) (by decide) rfl rfl tk_X1 pk_X1_has ck_X1_has ab_CT'.nil (fun av cs Q h => vc_X1_has h)
theorem vc_X1_startOf {av : List ab_V} {cs : List ab_C} {Q : ab_Q} (h : sp_X1_startOf av cs Q) : (ab_lv0 av).length ≤ 4 ∧ ab_R E_X1_startOf P_X1_startOf Q 0 (ab_ent av 4) [] cs := by
  obtain ⟨⟨rK, rL, rT, rS, rn, rc, rw⟩, q, c, k, rfl, rfl, hR, hW, hk, hc, hQ⟩ := h
  refine ⟨Nat.le_of_ble_eq_true rfl, ?_⟩
  have hcl := hW.chunks
  have hrc : rc = q.length := hR.2.2.2.2.2
  have loop : ∀ (d i : Nat) (x st : Int), d + i = c → x = i → st = (mq_flat (q.take i)).length → ab_R E_X1_startOf P_X1_startOf Q 4 [some (.inr (.inl (some 0))), some (.inl k), some (.inl st), some (.inl x)] [] (rw_cs (rK, rL, rT, rS, rn, rc, rw)) := by
    intro d
    induction d with
    | zero =>
      intro i x st h1 h2 h3
      have e : i = c := by omega
      subst e
      subst h3
      exact b_X1_startOf_4 (fun _ => hQ) (fun _ _ => hQ) (fun _ _ => by omega)
    | succ d ih =>
      intro i x st h1 h2 h3
      obtain ⟨kk, hkk, -⟩ := mq_split (q := q) (c := i) (by omega)
      have e1 := hR.len hkk
      have e2 := mq_take_succ hkk
      rw [← h2] at e1
      dsimp only at e1
      exact b_X1_startOf_4 (fun _ => by omega) (fun _ _ => by omega) (fun _ _ => ih (i + 1) _ _ (by omega) (by omega) (by omega))
  exact b_X1_startOf_0 (loop c 0 0 0 (by omega) rfl rfl)
theorem mt_X1_startOf (l : Launch) : ab_MT l mi_X1_startOf sp_X1_startOf := ab_MT.of (own := "RootChunks$Row") (E := E_X1_startOf) (P := P_X1_startOf) (M := M_X1_startOf) (nL := 4) (ty := 0) (by decide) rfl rfl tk_X1 pk_X1_startOf ck_X1_startOf ab_CT'.nil (fun av cs Q h => vc_X1_startOf h)
theorem vc_X1_chunkHolding {av : List ab_V} {cs : List ab_C} {Q : ab_Q} (h : sp_X1_chunkHolding av cs Q) : (ab_lv0 av).length ≤ 4 ∧ ab_R E_X1_chunkHolding P_X1_chunkHolding Q 0 (ab_ent av 4) [] cs := by
  obtain ⟨⟨rK, rL, rT, rS, rn, rc, rw⟩, A, k, B, p, rfl, rfl, hR, hW, hp1, hp2, hQ⟩ := h
  refine ⟨Nat.le_of_ble_eq_true rfl, ?_⟩
  have hcl := hW.chunks
  have hfl := hW.2
  have hrc : rc = (A ++ k :: B).length := hR.2.2.2.2.2
  rw [List.length_append, List.length_cons] at hcl hrc
  have hA : (mq_flat A).length + k.1.length ≤ 60 := by
    rw [mq_flat_app, mq_flat_cons, List.length_append, List.length_append] at hfl
    omega
  have loop : ∀ (d i : Nat) (x bh : Int), d + i = A.length → x = i → bh = (mq_flat ((A ++ k :: B).take i)).length → ab_R E_X1_chunkHolding P_X1_chunkHolding Q 4 [some (.inr (.inl (some 0))), some (.inl p), some (.inl bh), some (.inl x)] [] (rw_cs (rK, rL, rT, rS, rn, rc, rw)) := by
    intro d
    induction d with
    | zero =>
      intro i x bh h1 h2 h3
      have e : i = A.length := by omega
      subst e
      rw [mq_take_app] at h3
      have e1 := hR.len (mq_at_app A k B)
      rw [← h2] at e1
      dsimp only at e1
      refine b_X1_chunkHolding_4 (fun _ => by omega) (fun _ _ => by omega) (fun _ _ => ?_)
      rw [h2]
      exact hQ
    | succ d ih =>
      intro i x bh h1 h2 h3
      obtain ⟨kk, hkk, -⟩ := mq_split (q := A ++ k :: B) (c := i) (by rw [List.length_append]; omega)
      have e1 := hR.len hkk
      have e2 := mq_take_succ hkk
      rw [← h2] at e1
      dsimp only at e1
      have e3 : (mq_flat ((A ++ k :: B).take (i + 1))).length ≤ (mq_flat A).length := by
        rw [List.take_append_of_le_length (by omega)]
        exact mq_take_le A (i + 1)
      exact b_X1_chunkHolding_4 (fun _ => by omega) (fun _ _ => ih (i + 1) _ _ (by omega) (by omega) (by omega)) (fun _ _ => by omega)
  exact b_X1_chunkHolding_0 (loop A.length 0 0 0 (by omega) rfl rfl)
theorem mt_X1_chunkHolding (l : Launch) : ab_MT l mi_X1_chunkHolding sp_X1_chunkHolding := ab_MT.of (own := "RootChunks$Row") (E := E_X1_chunkHolding) (P := P_X1_chunkHolding) (M := M_X1_chunkHolding) (nL := 4) (ty := 0) (by decide) rfl rfl tk_X1 pk_X1_chunkHolding ck_X1_chunkHolding ab_CT'.nil (fun av cs Q h => vc_X1_chunkHolding h)
theorem vc_X1_numberAt {av : List ab_V} {cs : List ab_C} {Q : ab_Q} (h : sp_X1_numberAt av cs Q) : (ab_lv0 av).length ≤ 5 ∧ ab_R E_X1_numberAt P_X1_numberAt Q 0 (ab_ent av 5) [] cs := by
  obtain ⟨⟨rK, rL, rT, rS, rn, rc, rw⟩, q, p, i, x, rfl, rfl, hR, hW, hp, hx, hQ⟩ := h
  refine ⟨Nat.le_of_ble_eq_true rfl, ?_⟩
  have hil := (List.getElem?_eq_some_iff.mp hx).1
  rw [mq_all_len] at hil
  obtain ⟨A, k, B, rfl, h1, h2⟩ := mq_hold hil
  have hcl := hW.chunks
  have hfl := hW.2
  have hrc : rc = (A ++ k :: B).length := hR.2.2.2.2.2
  rw [List.length_append, List.length_cons] at hcl hrc
  have hA : (mq_flat A).length + k.1.length ≤ 60 := by
    rw [mq_flat_app, mq_flat_cons, List.length_append, List.length_append] at hfl
    omega
  have hrow : (mq_row k)[i - (mq_flat A).length]? = some x := by
    rw [mq_all_app, mq_all_cons, List.getElem?_append_right (by rw [mq_all_len]; exact h1), mq_all_len] at hx
    rwa [List.getElem?_append_left (by rw [mq_row_len]; omega)] at hx
  obtain ⟨y, hy, rfl⟩ := mq_row_at hrow
  have e1 := hR.len (mq_at_app A k B)
  have e2 := hR.turn (mq_at_app A k B)
  have e3 := hR.sum (mq_at_app A k B)
  have e4 := hR.kept hy
  dsimp only at e1 e2 e3 e4
  refine b_X1_numberAt_0 ⟨_, A, k, B, p, rfl, rfl, hR, hW, by omega, by omega, _, rfl, rfl, ?_⟩
  refine b_X1_numberAt_5 (fun _ => by omega) (fun _ _ => ?_) (fun _ _ => by omega)
  refine ⟨_, A ++ k :: B, A.length, _, rfl, rfl, hR, hW, rfl, by rw [List.length_append]; omega, _, rfl, rfl, ?_⟩
  rw [mq_take_app]
  refine b_X1_numberAt_25 (fun ht => ?_) (fun ht => ?_) (p2 := ?_)
  · rw [if_neg (by rw [← e2]; exact ht)] at e4
    rw [show p = (((mq_flat A).length + (i - (mq_flat A).length) : Nat) : Int) by omega, e4, e3]
    exact hQ
  · rw [if_pos (by rw [← e2]; exact ht)] at e4
    rw [show ((((mq_flat A).length : Int) + ((mq_flat A).length : Int)) + rL (A.length : Int)) - 1 - p = (((mq_flat A).length + (k.1.length - 1 - (i - (mq_flat A).length)) : Nat) : Int) by omega, e4, e3]
    exact hQ
  · have := (hW.1 k (by simp)).2.1
    unfold ab_r
    omega
theorem mt_X1_numberAt (l : Launch) : ab_MT l mi_X1_numberAt sp_X1_numberAt := ab_MT.of (own := "RootChunks$Row") (E := E_X1_numberAt) (P := P_X1_numberAt) (M := M_X1_numberAt) (nL := 5) (ty := 0) (by decide) rfl rfl tk_X1 pk_X1_numberAt ck_X1_numberAt (ab_CT'.cons (mt_X1_chunkHolding l) (ab_CT'.cons (mt_X1_startOf l) ab_CT'.nil)) (fun av cs Q h => vc_X1_numberAt h)
theorem vc_X1_mirror {av : List ab_V} {cs : List ab_C} {Q : ab_Q} (h : sp_X1_mirror av cs Q) : (ab_lv0 av).length ≤ 6 ∧ ab_R E_X1_mirror P_X1_mirror Q 0 (ab_ent av 6) [] cs := by
  obtain ⟨f, lo0, hi0, rfl, rfl, h0, h1, h3, hQ⟩ := h
  refine ⟨Nat.le_of_ble_eq_true rfl, ?_⟩
  have loop : ∀ (d : Nat) (lo hi : Int) (g : Int → Int), hi - lo ≤ d → (lo + hi = lo0 + hi0 - 1 ∧ lo ≤ hi + 1) → lo0 ≤ lo → hi < hi0 → (∀ j, g j = if (lo0 ≤ j ∧ j < lo) ∨ (hi < j ∧ j < hi0) then f (lo0 + hi0 - 1 - j) else f j) →
      ab_R E_X1_mirror P_X1_mirror Q 7 [some (.inr (.inl (some 0))), some (.inl lo0), some (.inl hi0), some (.inl lo), some (.inl hi), none] [] (ar_cs g) := by
    intro d
    induction d with
    | zero =>
      intro lo hi g g1 g2 g3 g4 g5
      refine b_X1_mirror_7 (fun _ => ?_) (fun _ => by omega)
      have e : g = mq_mir f lo0 hi0 := by
        funext j
        rw [g5]
        unfold mq_mir
        by_cases z : lo0 ≤ j ∧ j < hi0
        · rw [if_pos z]
          by_cases z2 : j = lo ∧ lo = hi
          · rw [if_neg (by omega)]; congr 1; omega
          · rw [if_pos (by omega)]
        · rw [if_neg z, if_neg (by omega)]
      rw [e]; exact hQ
    | succ d ih =>
      intro lo hi g g1 g2 g3 g4 g5
      by_cases z : hi ≤ lo
      · refine b_X1_mirror_7 (fun _ => ?_) (fun _ => by omega)
        have e : g = mq_mir f lo0 hi0 := by
          funext j
          rw [g5]
          unfold mq_mir
          by_cases z : lo0 ≤ j ∧ j < hi0
          · rw [if_pos z]
            by_cases z2 : j = lo ∧ lo = hi
            · rw [if_neg (by omega)]; congr 1; omega
            · rw [if_pos (by omega)]
          · rw [if_neg z, if_neg (by omega)]
        rw [e]; exact hQ
      · refine b_X1_mirror_7 (fun _ => by omega) (fun _ => ih (lo + 1) (hi + (-1)) _ (by omega) (by omega) (by omega) (by omega) (fun j => ?_))
        have e1 := g5 hi
        have e2 := g5 lo
        rw [if_neg (by omega)] at e1 e2
        unfold ab_up
        rw [e1, e2]
        by_cases z1 : j = hi
        · rw [if_pos z1, if_pos (by omega)]; congr 1; omega
        · rw [if_neg z1]
          by_cases z2 : j = lo
          · rw [if_pos z2, if_pos (by omega)]; congr 1; omega
          · rw [if_neg z2, g5 j]
            by_cases z3 : (lo0 ≤ j ∧ j < lo) ∨ (hi < j ∧ j < hi0)
            · rw [if_pos z3, if_pos (by omega)]
            · rw [if_neg z3, if_neg (by omega)]
  refine b_X1_mirror_0 (loop 100 lo0 (hi0 - 1) f (by omega) (by omega) (by omega) (by omega) (fun j => ?_))
  rw [if_neg (by omega)]
theorem mt_X1_mirror (l : Launch) : ab_MT l mi_X1_mirror sp_X1_mirror := ab_MT.of (own := "RootChunks$Row") (E := E_X1_mirror) (P := P_X1_mirror) (M := M_X1_mirror) (nL := 6) (ty := 9) (by decide) rfl rfl tk_X1 pk_X1_mirror ck_X1_mirror ab_CT'.nil (fun av cs Q h => vc_X1_mirror h)
theorem vc_X1_openChunk {av : List ab_V} {cs : List ab_C} {Q : ab_Q} (h : sp_X1_openChunk av cs Q) : (ab_lv0 av).length ≤ 4 ∧ ab_R E_X1_openChunk P_X1_openChunk Q 0 (ab_ent av 4) [] cs := by
  obtain ⟨K, L, T, S, n, c, w, k, sz, rfl, rfl, h0, h1, h2, hQ⟩ := h
  refine ⟨Nat.le_of_ble_eq_true rfl, ?_⟩
  have loop : ∀ (d : Nat) (x : Int) (L' T' S' : Int → Int), x - k = d → x ≤ c → (∀ j, L' j = if x < j ∧ j ≤ c then L (j - 1) else L j) → (∀ j, T' j = if x < j ∧ j ≤ c then T (j - 1) else T j) → (∀ j, S' j = if x < j ∧ j ≤ c then S (j - 1) else S j) →
      ab_R E_X1_openChunk P_X1_openChunk Q 15 [some (.inr (.inl (some 0))), some (.inl k), some (.inl sz), some (.inl x)] [] (rw_cs (K, L', T', S', n, c, w)) := by
    intro d
    induction d with
    | zero =>
      intro x L' T' S' g1 g2 gL gT gS
      have e : x = k := by omega
      subst e
      refine b_X1_openChunk_15 (fun _ => ?_) (fun _ => by omega)
      have eL : ab_up L' x sz = mq_ins L c x sz := by funext j; unfold ab_up mq_ins; rw [gL]
      have eT : ab_up T' x 0 = mq_ins T c x 0 := by funext j; unfold ab_up mq_ins; rw [gT]
      have eS : ab_up S' x 0 = mq_ins S c x 0 := by funext j; unfold ab_up mq_ins; rw [gS]
      rw [eL, eT, eS]
      exact hQ
    | succ d ih =>
      intro x L' T' S' g1 g2 gL gT gS
      have st : ∀ (f g : Int → Int), (∀ j, g j = if x < j ∧ j ≤ c then f (j - 1) else f j) → ∀ j, ab_up g x (g (x - 1)) j = if x + (-1) < j ∧ j ≤ c then f (j - 1) else f j := by
        intro f g hg j
        unfold ab_up
        by_cases z : j = x
        · subst z
          rw [if_pos rfl, if_pos (by omega), hg, if_neg (by omega)]
        · rw [if_neg z, hg]
          by_cases z2 : x < j ∧ j ≤ c
          · rw [if_pos z2, if_pos (by omega)]
          · rw [if_neg z2, if_neg (by omega)]
      exact b_X1_openChunk_15 (fun _ => by omega) (fun _ => ih _ _ _ _ (by omega) (by omega) (st L L' gL) (st T T' gT) (st S S' gS))
  have st0 : ∀ (f : Int → Int), ∀ j, f j = if c < j ∧ j ≤ c then f (j - 1) else f j := fun f j => by rw [if_neg (by omega)]
  exact b_X1_openChunk_0 (fun _ => loop (c - k).toNat c L T S (by omega) (by omega) (st0 L) (st0 T) (st0 S)) (fun _ => by omega)
theorem mt_X1_openChunk (l : Launch) : ab_MT l mi_X1_openChunk sp_X1_openChunk := ab_MT.of (own := "RootChunks$Row") (E := E_X1_openChunk) (P := P_X1_openChunk) (M := M_X1_openChunk) (nL := 4) (ty := 9) (by decide) rfl rfl tk_X1 pk_X1_openChunk ck_X1_openChunk ab_CT'.nil (fun av cs Q h => vc_X1_openChunk h)
theorem vc_X1_closeChunk {av : List ab_V} {cs : List ab_C} {Q : ab_Q} (h : sp_X1_closeChunk av cs Q) : (ab_lv0 av).length ≤ 3 ∧ ab_R E_X1_closeChunk P_X1_closeChunk Q 0 (ab_ent av 3) [] cs := by
  obtain ⟨K, L, T, S, n, c, w, k, rfl, rfl, h0, h1, h2, hQ⟩ := h
  refine ⟨Nat.le_of_ble_eq_true rfl, ?_⟩
  have loop : ∀ (d : Nat) (x : Int) (L' T' S' : Int → Int), c - x = d → k < x → (∀ j, L' j = if k ≤ j ∧ j < x - 1 then L (j + 1) else L j) → (∀ j, T' j = if k ≤ j ∧ j < x - 1 then T (j + 1) else T j) → (∀ j, S' j = if k ≤ j ∧ j < x - 1 then S (j + 1) else S j) →
      ab_R E_X1_closeChunk P_X1_closeChunk Q 4 [some (.inr (.inl (some 0))), some (.inl k), some (.inl x)] [] (rw_cs (K, L', T', S', n, c, w)) := by
    intro d
    induction d with
    | zero =>
      intro x L' T' S' g1 g2 gL gT gS
      have e : x = c := by omega
      subst e
      refine b_X1_closeChunk_4 (fun _ => ?_) (fun _ => by omega)
      have eL : L' = mq_del L x k := by funext j; unfold mq_del; rw [gL]
      have eT : T' = mq_del T x k := by funext j; unfold mq_del; rw [gT]
      have eS : S' = mq_del S x k := by funext j; unfold mq_del; rw [gS]
      rw [eL, eT, eS]
      exact hQ
    | succ d ih =>
      intro x L' T' S' g1 g2 gL gT gS
      have st : ∀ (f g : Int → Int), (∀ j, g j = if k ≤ j ∧ j < x - 1 then f (j + 1) else f j) → ∀ j, ab_up g (x - 1) (g x) j = if k ≤ j ∧ j < x + 1 - 1 then f (j + 1) else f j := by
        intro f g hg j
        unfold ab_up
        by_cases z : j = x - 1
        · rw [if_pos z, if_pos (by omega), hg, if_neg (by omega)]; congr 1; omega
        · rw [if_neg z, hg]
          by_cases z2 : k ≤ j ∧ j < x - 1
          · rw [if_pos z2, if_pos (by omega)]
          · rw [if_neg z2, if_neg (by omega)]
      exact b_X1_closeChunk_4 (fun _ => by omega) (fun _ => ih _ _ _ _ (by omega) (by omega) (st L L' gL) (st T T' gT) (st S S' gS))
  have st0 : ∀ (f : Int → Int), ∀ j, f j = if k ≤ j ∧ j < k + 1 - 1 then f (j + 1) else f j := fun f j => by rw [if_neg (by omega)]
  exact b_X1_closeChunk_0 (loop (c - (k + 1)).toNat (k + 1) L T S (by omega) (by omega) (st0 L) (st0 T) (st0 S))
theorem mt_X1_closeChunk (l : Launch) : ab_MT l mi_X1_closeChunk sp_X1_closeChunk := ab_MT.of (own := "RootChunks$Row") (E := E_X1_closeChunk) (P := P_X1_closeChunk) (M := M_X1_closeChunk) (nL := 3) (ty := 9) (by decide) rfl rfl tk_X1 pk_X1_closeChunk ck_X1_closeChunk ab_CT'.nil (fun av cs Q h => vc_X1_closeChunk h)
end
section
def sp_X1_settle : ab_Sp := fun av cs Q => ∃ (r : rw_T) (A : List mq_K) (k : mq_K) (B : List mq_K) (c st : Int), av = [.inr (.inl (some 0)), .inl c, .inl st] ∧ cs = rw_cs r ∧ mq_R r (A ++ k :: B) ∧ mq_W (A ++ k :: B) ∧ c = A.length ∧ st = (mq_flat A).length ∧
  ∀ r' : rw_T, mq_R r' (A ++ (mq_row k, 0, 0) :: B) → r'.2.2.2.2.2.2 = r.2.2.2.2.2.2 + mq_cost k → Q none (rw_cs r')
def sp_X1_part : ab_Sp := fun av cs Q => ∃ (r : rw_T) (A : List mq_K) (l : List Int) (B : List mq_K) (f : Nat) (c x : Int), av = [.inr (.inl (some 0)), .inl c, .inl x] ∧ cs = rw_cs r ∧ mq_R r (A ++ (l, 0, 0) :: B) ∧ mq_W (A ++ (l, 0, 0) :: B) ∧ c = A.length ∧ x = f ∧ 0 < f ∧ f < l.length ∧
  ∀ r' : rw_T, mq_R r' (A ++ (l.take f, 0, 0) :: (l.drop f, 0, 0) :: B) → r'.2.2.2.2.2.2 = r.2.2.2.2.2.2 + ((l.length : Int) - f) → Q none (rw_cs r')
def sp_X1_cutAt : ab_Sp := fun av cs Q => ∃ (r : rw_T) (q : List mq_K) (d : Nat) (p : Int), av = [.inr (.inl (some 0)), .inl p] ∧ cs = rw_cs r ∧ mq_R r q ∧ mq_W q ∧ p = d ∧ d ≤ (mq_flat q).length ∧
  ∀ r' : rw_T, mq_R r' ((mq_cut q d).1 ++ (mq_cut q d).2.1) → r'.2.2.2.2.2.2 = r.2.2.2.2.2.2 + (mq_cut q d).2.2 → Q (some (.inl ((mq_cut q d).1.length : Int))) (rw_cs r')
-- ===== RootChunks$Row.settle
def P_X1_settle : List ab_I := [(0, .aload_n 0, 1, []), (1, .getfield 18, 4, []), (4, .iload_n 1, 5, []), (5, .iaload, 6, []), (6, .ifCond .ne 13, 9, [((0 : Int), 19)]), (9, .aload_n 0, 10, []), (10, .getfield 21, 13, []), (13, .iload_n 1, 14, []), (14, .iaload, 15, []), (15, .ifCond .ne 4, 18, [((0 : Int), 19)]), (18, .return_, 19, []), (19, .iload_n 2, 20, []), (20, .aload_n 0, 21, []), (21, .getfield 15, 24, []), (24, .iload_n 1, 25, []), (25, .iaload, 26, []), (26, .iadd, 27, []), (27, .istore_n 3, 28, []), (28, .aload_n 0, 29, []), (29, .getfield 18, 32, []), (32, .iload_n 1, 33, []), (33, .iaload, 34, []), (34, .iconst 1, 35, []), (35, .if_icmp .ne 12, 38, [((0 : Int), 47)]), (38, .aload_n 0, 39, []), (39, .getfield 9, 42, []), (42, .iload_n 2, 43, []), (43, .iload_n 3, 44, []), (44, .invokestatic 77, 47, []), (47, .iload_n 2, 48, []), (48, .istore 4, 50, []), (50, .iload 4, 52, []), (52, .iload_n 3, 53, []), (53, .if_icmp .ge 25, 56, [((0 : Int), 78)]), (56, .aload_n 0, 57, []), (57, .getfield 9, 60, []), (60, .iload 4, 62, []), (62, .dup2, 63, []), (63, .iaload, 64, []), (64, .aload_n 0, 65, []), (65, .getfield 21, 68, []), (68, .iload_n 1, 69, []), (69, .iaload, 70, []), (70, .iadd, 71, []), (71, .iastore, 72, []), (72, .iinc 4 1, 75, []), (75, .goto (-25), 78, [((0 : Int), 50)]), (78, .aload_n 0, 79, []), (79, .getfield 18, 82, []), (82, .iload_n 1, 83, []), (83, .iconst 0, 84, []), (84, .iastore, 85, []), (85, .aload_n 0, 86, []), (86, .getfield 21, 89, []), (89, .iload_n 1, 90, []), (90, .iconst 0, 91, []), (91, .iastore, 92, []), (92, .aload_n 0, 93, []), (93, .dup, 94, []), (94, .getfield 31, 97, []), (97, .aload_n 0, 98, []), (98, .getfield 15, 101, []), (101, .iload_n 1, 102, []), (102, .iaload, 103, []), (103, .iadd, 104, []), (104, .putfield 31, 107, []), (107, .return_, 108, [])]
def E_X1_settle : ab_E := (T_X1, [(44, (3, 99, [1], 1, sp_X1_mirror))], [], 9)
def M_X1_settle : List (Nat × ab_MI) := [(44, mi_X1_mirror)]
def mi_X1_settle : ab_MI := (yX1_settle, cX1_settle, 5, ab_rty 9, 2, 95)
theorem pk_X1_settle : P_X1_settle.all (ab_okI cX1_settle) = true := by decide +kernel
theorem ck_X1_settle : P_X1_settle.all (ab_okC1 "RootChunks$Row" M_X1_settle E_X1_settle (2, 95)) = true := by decide +kernel
set_option maxRecDepth 100000 in
theorem b_X1_settle_0 {Q : ab_Q} {k : Int} {st : Int} {rK : Int → Int} {rL : Int → Int} {rT : Int → Int} {rS : Int → Int} {rn : Int} {rc : Int} {rw : Int} (l1 : ¬ (rT k) = (0 : Int) → ¬ (rT k) = (1 : Int) → ab_R E_X1_settle P_X1_settle Q 47 [some (.inr (.inl (some 0))), some (.inl k), some (.inl st), some (.inl (st + (rL k))), none] [] (rw_cs (rK, rL, rT, rS, rn, rc, rw))) (l2 : ¬ (rT k) = (0 : Int) → (rT k) = (1 : Int) → sp_X1_mirror [.inr (.inl (some 0)), .inl st, .inl (st + (rL k))] (ar_cs rK) (fun r_ k_ => ∃ (f' : Int → Int), r_ = none ∧ k_ = (ar_cs (f')) ∧ ab_R E_X1_settle P_X1_settle Q 47 [some (.inr (.inl (some 0))), some (.inl k), some (.inl st), some (.inl (st + (rL k))), none] [] (rw_cs (f', rL, rT, rS, rn, rc, rw)))) (l3 : (rT k) = (0 : Int) → ¬ (rS k) = (0 : Int) → ¬ (rT k) = (1 : Int) → ab_R E_X1_settle P_X1_settle Q 47 [some (.inr (.inl (some 0))), some (.inl k), some (.inl st), some (.inl (st + (rL k))), none] [] (rw_cs (rK, rL, rT, rS, rn, rc, rw))) (l4 : (rT k) = (0 : Int) → ¬ (rS k) = (0 : Int) → (rT k) = (1 : Int) → sp_X1_mirror [.inr (.inl (some 0)), .inl st, .inl (st + (rL k))] (ar_cs rK) (fun r_ k_ => ∃ (f' : Int → Int), r_ = none ∧ k_ = (ar_cs (f')) ∧ ab_R E_X1_settle P_X1_settle Q 47 [some (.inr (.inl (some 0))), some (.inl k), some (.inl st), some (.inl (st + (rL k))), none] [] (rw_cs (f', rL, rT, rS, rn, rc, rw)))) (l5 : (rT k) = (0 : Int) → (rS k) = (0 : Int) → Q none (rw_cs (rK, rL, rT, rS, rn, rc, rw))) (p1 : (0 ≤ k ∧ k < 60) := by intros; (try unfold ab_r); omega) (p2 : ab_r (rT k) := by intros; (try unfold ab_r); omega) (p3 : ¬ (rT k) = (0 : Int) → (0 ≤ k ∧ k < 60) := by intros; (try unfold ab_r); omega) (p4 : ¬ (rT k) = (0 : Int) → (ab_r (rT k) ∧ ab_r 1) := by intros; (try unfold ab_r); omega) (p5 : (rT k) = (0 : Int) → (0 ≤ k ∧ k < 60) := by intros; (try unfold ab_r); omega) (p6 : (rT k) = (0 : Int) → ab_r (rS k) := by intros; (try unfold ab_r); omega) (p7 : (rT k) = (0 : Int) → ¬ (rS k) = (0 : Int) → (0 ≤ k ∧ k < 60) := by intros; (try unfold ab_r); omega) (p8 : (rT k) = (0 : Int) → ¬ (rS k) = (0 : Int) → (ab_r (rT k) ∧ ab_r 1) := by intros; (try unfold ab_r); omega) : ab_R E_X1_settle P_X1_settle Q 0 [some (.inr (.inl (some 0))), some (.inl k), some (.inl st), none, none] [] (rw_cs (rK, rL, rT, rS, rn, rc, rw)) :=
  ab_R.steps [47, 50] 29 (show ((0 ≤ k ∧ k < 60) ∧ (ab_r (rT k) ∧ ((¬ (rT k) = (0 : Int) → ((0 ≤ k ∧ k < 60) ∧ ((0 ≤ k ∧ k < 60) ∧ ((ab_r (rT k) ∧ ab_r 1) ∧ ((¬ (rT k) = (1 : Int) → ab_R E_X1_settle P_X1_settle Q 47 [some (.inr (.inl (some 0))), some (.inl k), some (.inl st), some (.inl (st + (rL k))), none] [] (rw_cs (rK, rL, rT, rS, rn, rc, rw))) ∧ ((rT k) = (1 : Int) → ab_cl sp_X1_mirror [.inr (.inl (some 0)), .inl st, .inl (st + (rL k))] (ar_cs rK) (fun r_ k_ => k_.length = 1 → ab_R E_X1_settle P_X1_settle Q 47 [some (.inr (.inl (some 0))), some (.inl k), some (.inl st), some (.inl (st + (rL k))), none] (ab_ret (r_.map (ab_reV [1])) []) (ab_back [1] [1] k_ (rw_cs (rK, rL, rT, rS, rn, rc, rw)))))))))) ∧ ((rT k) = (0 : Int) → ((0 ≤ k ∧ k < 60) ∧ (ab_r (rS k) ∧ ((¬ (rS k) = (0 : Int) → ((0 ≤ k ∧ k < 60) ∧ ((0 ≤ k ∧ k < 60) ∧ ((ab_r (rT k) ∧ ab_r 1) ∧ ((¬ (rT k) = (1 : Int) → ab_R E_X1_settle P_X1_settle Q 47 [some (.inr (.inl (some 0))), some (.inl k), some (.inl st), some (.inl (st + (rL k))), none] [] (rw_cs (rK, rL, rT, rS, rn, rc, rw))) ∧ ((rT k) = (1 : Int) → ab_cl sp_X1_mirror [.inr (.inl (some 0)), .inl st, .inl (st + (rL k))] (ar_cs rK) (fun r_ k_ => k_.length = 1 → ab_R E_X1_settle P_X1_settle Q 47 [some (.inr (.inl (some 0))), some (.inl k), some (.inl st), some (.inl (st + (rL k))), none] (ab_ret (r_.map (ab_reV [1])) []) (ab_back [1] [1] k_ (rw_cs (rK, rL, rT, rS, rn, rc, rw)))))))))) ∧ ((rS k) = (0 : Int) → Q none (rw_cs (rK, rL, rT, rS, rn, rc, rw)))))))))) from ⟨p1, ⟨p2, ⟨fun h1 => ⟨(p3 h1), ⟨(p3 h1), ⟨(p4 h1), ⟨fun h2 => (l1 h1 h2), fun h3 => ⟨_, (l2 h1 h3), fun r_ k_ hz _ => by obtain ⟨f', rfl, rfl, hR⟩ := hz; exact hR⟩⟩⟩⟩⟩, fun h4 => ⟨(p5 h4), ⟨(p6 h4), ⟨fun h5 => ⟨(p7 h4 h5), ⟨(p7 h4 h5), ⟨(p8 h4 h5), ⟨fun h6 => (l3 h4 h5 h6), fun h7 => ⟨_, (l4 h4 h5 h7), fun r_ k_ hz _ => by obtain ⟨f', rfl, rfl, hR⟩ := hz; exact hR⟩⟩⟩⟩⟩, fun h8 => (l5 h4 h8)⟩⟩⟩⟩⟩⟩)
set_option maxRecDepth 100000 in
theorem b_X1_settle_47 {Q : ab_Q} {k : Int} {st : Int} {bh : Int} {rK : Int → Int} {rL : Int → Int} {rT : Int → Int} {rS : Int → Int} {rn : Int} {rc : Int} {rw : Int} (l1 : ab_R E_X1_settle P_X1_settle Q 50 [some (.inr (.inl (some 0))), some (.inl k), some (.inl st), some (.inl bh), some (.inl st)] [] (rw_cs (rK, rL, rT, rS, rn, rc, rw)))  : ab_R E_X1_settle P_X1_settle Q 47 [some (.inr (.inl (some 0))), some (.inl k), some (.inl st), some (.inl bh), none] [] (rw_cs (rK, rL, rT, rS, rn, rc, rw)) :=
  ab_R.steps [47, 50] 4 (show ab_R E_X1_settle P_X1_settle Q 50 [some (.inr (.inl (some 0))), some (.inl k), some (.inl st), some (.inl bh), some (.inl st)] [] (rw_cs (rK, rL, rT, rS, rn, rc, rw)) from l1)
set_option maxRecDepth 100000 in
theorem b_X1_settle_50 {Q : ab_Q} {k : Int} {st : Int} {bh : Int} {i : Int} {rK : Int → Int} {rL : Int → Int} {rT : Int → Int} {rS : Int → Int} {rn : Int} {rc : Int} {rw : Int} (l1 : bh ≤ i → Q none (rw_cs (rK, rL, (ab_up rT k 0), (ab_up rS k 0), rn, rc, (rw + (rL k))))) (l2 : i < bh → ab_R E_X1_settle P_X1_settle Q 50 [some (.inr (.inl (some 0))), some (.inl k), some (.inl st), some (.inl bh), some (.inl (i + 1))] [] (rw_cs ((ab_up rK i ((rK i) + (rS k))), rL, rT, rS, rn, rc, rw))) (p1 : (ab_r i ∧ ab_r bh) := by intros; (try unfold ab_r); omega) (p2 : bh ≤ i → (0 ≤ k ∧ k < 60) := by intros; (try unfold ab_r); omega) (p3 : i < bh → (0 ≤ i ∧ i < 60) := by intros; (try unfold ab_r); omega) (p4 : i < bh → (0 ≤ k ∧ k < 60) := by intros; (try unfold ab_r); omega) : ab_R E_X1_settle P_X1_settle Q 50 [some (.inr (.inl (some 0))), some (.inl k), some (.inl st), some (.inl bh), some (.inl i)] [] (rw_cs (rK, rL, rT, rS, rn, rc, rw)) :=
  ab_R.steps [47, 50] 24 (show ((ab_r i ∧ ab_r bh) ∧ ((bh ≤ i → ((0 ≤ k ∧ k < 60) ∧ ((0 ≤ k ∧ k < 60) ∧ ((0 ≤ k ∧ k < 60) ∧ Q none (rw_cs (rK, rL, (ab_up rT k 0), (ab_up rS k 0), rn, rc, (rw + (rL k)))))))) ∧ (i < bh → ((0 ≤ i ∧ i < 60) ∧ ((0 ≤ k ∧ k < 60) ∧ ((0 ≤ i ∧ i < 60) ∧ ab_R E_X1_settle P_X1_settle Q 50 [some (.inr (.inl (some 0))), some (.inl k), some (.inl st), some (.inl bh), some (.inl (i + 1))] [] (rw_cs ((ab_up rK i ((rK i) + (rS k))), rL, rT, rS, rn, rc, rw)))))))) from ⟨p1, ⟨fun h1 => ⟨(p2 h1), ⟨(p2 h1), ⟨(p2 h1), (l1 h1)⟩⟩⟩, fun h2 => ⟨(p3 h2), ⟨(p4 h2), ⟨(p3 h2), (l2 h2)⟩⟩⟩⟩⟩)
-- ===== RootChunks$Row.part
def P_X1_part : List ab_I := [(0, .aload_n 0, 1, []), (1, .getfield 15, 4, []), (4, .iload_n 1, 5, []), (5, .iaload, 6, []), (6, .iload_n 2, 7, []), (7, .isub, 8, []), (8, .istore_n 3, 9, []), (9, .aload_n 0, 10, []), (10, .getfield 15, 13, []), (13, .iload_n 1, 14, []), (14, .iload_n 2, 15, []), (15, .iastore, 16, []), (16, .aload_n 0, 17, []), (17, .iload_n 1, 18, []), (18, .iconst 1, 19, []), (19, .iadd, 20, []), (20, .iload_n 3, 21, []), (21, .invokevirtual 56, 24, []), (24, .aload_n 0, 25, []), (25, .dup, 26, []), (26, .getfield 31, 29, []), (29, .iload_n 3, 30, []), (30, .iadd, 31, []), (31, .putfield 31, 34, []), (34, .return_, 35, [])]
def E_X1_part : ab_E := (T_X1, [(21, (3, 1, [], 0, sp_X1_openChunk))], [], 9)
def M_X1_part : List (Nat × ab_MI) := [(21, mi_X1_openChunk)]
def mi_X1_part : ab_MI := (yX1_part, cX1_part, 4, ab_rty 9, 2, 93)
theorem pk_X1_part : P_X1_part.all (ab_okI cX1_part) = true := by decide +kernel
theorem ck_X1_part : P_X1_part.all (ab_okC1 "RootChunks$Row" M_X1_part E_X1_part (2, 93)) = true := by decide +kernel
set_option maxRecDepth 100000 in
theorem b_X1_part_0 {Q : ab_Q} {k : Int} {fi : Int} {rK : Int → Int} {rL : Int → Int} {rT : Int → Int} {rS : Int → Int} {rn : Int} {rc : Int} {rw : Int} (l1 : sp_X1_openChunk [.inr (.inl (some 0)), .inl (k + 1), .inl ((rL k) - fi)] (rw_cs (rK, (ab_up rL k fi), rT, rS, rn, rc, rw)) (fun r_ k_ => ∃ (r' : rw_T), r_ = none ∧ k_ = (rw_cs r') ∧ ab_R E_X1_part P_X1_part Q 24 [some (.inr (.inl (some 0))), some (.inl k), some (.inl fi), some (.inl ((rL k) - fi))] [] (rw_cs r'))) (p1 : (0 ≤ k ∧ k < 60) := by intros; (try unfold ab_r); omega) : ab_R E_X1_part P_X1_part Q 0 [some (.inr (.inl (some 0))), some (.inl k), some (.inl fi), none] [] (rw_cs (rK, rL, rT, rS, rn, rc, rw)) :=
  ab_R.steps [24] 19 (show ((0 ≤ k ∧ k < 60) ∧ ((0 ≤ k ∧ k < 60) ∧ ab_cl sp_X1_openChunk [.inr (.inl (some 0)), .inl (k + 1), .inl ((rL k) - fi)] (rw_cs (rK, (ab_up rL k fi), rT, rS, rn, rc, rw)) (fun r_ k_ => k_.length = ((rw_cs (rK, (ab_up rL k fi), rT, rS, rn, rc, rw))).length → ab_R E_X1_part P_X1_part Q 24 [some (.inr (.inl (some 0))), some (.inl k), some (.inl fi), some (.inl ((rL k) - fi))] (ab_ret r_ []) k_))) from ⟨p1, ⟨p1, ⟨_, l1, fun r_ k_ hz _ => by obtain ⟨r', rfl, rfl, hR⟩ := hz; exact hR⟩⟩⟩)
set_option maxRecDepth 100000 in
theorem b_X1_part_24 {Q : ab_Q} {k : Int} {fi : Int} {se : Int} {rK : Int → Int} {rL : Int → Int} {rT : Int → Int} {rS : Int → Int} {rn : Int} {rc : Int} {rw : Int} (l1 : Q none (rw_cs (rK, rL, rT, rS, rn, rc, (rw + se))))  : ab_R E_X1_part P_X1_part Q 24 [some (.inr (.inl (some 0))), some (.inl k), some (.inl fi), some (.inl se)] [] (rw_cs (rK, rL, rT, rS, rn, rc, rw)) :=
  ab_R.steps [24] 8 (show Q none (rw_cs (rK, rL, rT, rS, rn, rc, (rw + se))) from l1)
-- ===== RootChunks$Row.cutAt
def P_X1_cutAt : List ab_I := [(0, .iconst 0, 1, []), (1, .istore_n 2, 2, []), (2, .iconst 0, 3, []), (3, .istore_n 3, 4, []), (4, .iload_n 3, 5, []), (5, .aload_n 0, 6, []), (6, .getfield 28, 9, []), (9, .if_icmp .ge 55, 12, [((0 : Int), 64)]), (12, .iload_n 1, 13, []), (13, .iload_n 2, 14, []), (14, .if_icmp .gt 5, 17, [((0 : Int), 19)]), (17, .iload_n 3, 18, []), (18, .ireturn, 19, []), (19, .iload_n 1, 20, []), (20, .iload_n 2, 21, []), (21, .aload_n 0, 22, []), (22, .getfield 15, 25, []), (25, .iload_n 3, 26, []), (26, .iaload, 27, []), (27, .iadd, 28, []), (28, .if_icmp .ge 21, 31, [((0 : Int), 49)]), (31, .aload_n 0, 32, []), (32, .iload_n 3, 33, []), (33, .iload_n 2, 34, []), (34, .invokevirtual 64, 37, []), (37, .aload_n 0, 38, []), (38, .iload_n 3, 39, []), (39, .iload_n 1, 40, []), (40, .iload_n 2, 41, []), (41, .isub, 42, []), (42, .invokevirtual 74, 45, []), (45, .iload_n 3, 46, []), (46, .iconst 1, 47, []), (47, .iadd, 48, []), (48, .ireturn, 49, []), (49, .iload_n 2, 50, []), (50, .aload_n 0, 51, []), (51, .getfield 15, 54, []), (54, .iload_n 3, 55, []), (55, .iaload, 56, []), (56, .iadd, 57, []), (57, .istore_n 2, 58, []), (58, .iinc 3 1, 61, []), (61, .goto (-57), 64, [((0 : Int), 4)]), (64, .aload_n 0, 65, []), (65, .getfield 28, 68, []), (68, .ireturn, 69, [])]
def E_X1_cutAt : ab_E := (T_X1, [(34, (3, 1, [], 0, sp_X1_settle)), (42, (3, 1, [], 0, sp_X1_part))], [], 0)
def M_X1_cutAt : List (Nat × ab_MI) := [(34, mi_X1_settle), (42, mi_X1_part)]
def mi_X1_cutAt : ab_MI := (yX1_cutAt, cX1_cutAt, 4, ab_rty 0, 3, 119)
theorem pk_X1_cutAt : P_X1_cutAt.all (ab_okI cX1_cutAt) = true := by decide +kernel
theorem ck_X1_cutAt : P_X1_cutAt.all (ab_okC1 "RootChunks$Row" M_X1_cutAt E_X1_cutAt (3, 119)) = true := by decide +kernel
set_option maxRecDepth 100000 in
theorem b_X1_cutAt_0 {Q : ab_Q} {p : Int} {rK : Int → Int} {rL : Int → Int} {rT : Int → Int} {rS : Int → Int} {rn : Int} {rc : Int} {rw : Int} (l1 : ab_R E_X1_cutAt P_X1_cutAt Q 4 [some (.inr (.inl (some 0))), some (.inl p), some (.inl 0), some (.inl 0)] [] (rw_cs (rK, rL, rT, rS, rn, rc, rw)))  : ab_R E_X1_cutAt P_X1_cutAt Q 0 [some (.inr (.inl (some 0))), some (.inl p), none, none] [] (rw_cs (rK, rL, rT, rS, rn, rc, rw)) :=
  ab_R.steps [4, 37, 45] 6 (show ab_R E_X1_cutAt P_X1_cutAt Q 4 [some (.inr (.inl (some 0))), some (.inl p), some (.inl 0), some (.inl 0)] [] (rw_cs (rK, rL, rT, rS, rn, rc, rw)) from l1)
set_option maxRecDepth 100000 in
theorem b_X1_cutAt_4 {Q : ab_Q} {p : Int} {st : Int} {c : Int} {rK : Int → Int} {rL : Int → Int} {rT : Int → Int} {rS : Int → Int} {rn : Int} {rc : Int} {rw : Int} (l1 : rc ≤ c → Q (some (.inl rc)) (rw_cs (rK, rL, rT, rS, rn, rc, rw))) (l2 : c < rc → st < p → (st + (rL c)) ≤ p → ab_R E_X1_cutAt P_X1_cutAt Q 4 [some (.inr (.inl (some 0))), some (.inl p), some (.inl (st + (rL c))), some (.inl (c + 1))] [] (rw_cs (rK, rL, rT, rS, rn, rc, rw))) (l3 : c < rc → st < p → p < (st + (rL c)) → sp_X1_settle [.inr (.inl (some 0)), .inl c, .inl st] (rw_cs (rK, rL, rT, rS, rn, rc, rw)) (fun r_ k_ => ∃ (r' : rw_T), r_ = none ∧ k_ = (rw_cs r') ∧ ab_R E_X1_cutAt P_X1_cutAt Q 37 [some (.inr (.inl (some 0))), some (.inl p), some (.inl st), some (.inl c)] [] (rw_cs r'))) (l4 : c < rc → p ≤ st → Q (some (.inl c)) (rw_cs (rK, rL, rT, rS, rn, rc, rw))) (p1 : (ab_r c ∧ ab_r rc) := by intros; (try unfold ab_r); omega) (p2 : c < rc → (ab_r p ∧ ab_r st) := by intros; (try unfold ab_r); omega) (p3 : c < rc → st < p → (0 ≤ c ∧ c < 60) := by intros; (try unfold ab_r); omega) (p4 : c < rc → st < p → (ab_r p ∧ ab_r (st + (rL c))) := by intros; (try unfold ab_r); omega) (p5 : c < rc → st < p → (st + (rL c)) ≤ p → (0 ≤ c ∧ c < 60) := by intros; (try unfold ab_r); omega) : ab_R E_X1_cutAt P_X1_cutAt Q 4 [some (.inr (.inl (some 0))), some (.inl p), some (.inl st), some (.inl c)] [] (rw_cs (rK, rL, rT, rS, rn, rc, rw)) :=
  ab_R.steps [4, 37, 45] 26 (show ((ab_r c ∧ ab_r rc) ∧ ((rc ≤ c → Q (some (.inl rc)) (rw_cs (rK, rL, rT, rS, rn, rc, rw))) ∧ (c < rc → ((ab_r p ∧ ab_r st) ∧ ((st < p → ((0 ≤ c ∧ c < 60) ∧ ((ab_r p ∧ ab_r (st + (rL c))) ∧ (((st + (rL c)) ≤ p → ((0 ≤ c ∧ c < 60) ∧ ab_R E_X1_cutAt P_X1_cutAt Q 4 [some (.inr (.inl (some 0))), some (.inl p), some (.inl (st + (rL c))), some (.inl (c + 1))] [] (rw_cs (rK, rL, rT, rS, rn, rc, rw)))) ∧ (p < (st + (rL c)) → ab_cl sp_X1_settle [.inr (.inl (some 0)), .inl c, .inl st] (rw_cs (rK, rL, rT, rS, rn, rc, rw)) (fun r_ k_ => k_.length = ((rw_cs (rK, rL, rT, rS, rn, rc, rw))).length → ab_R E_X1_cutAt P_X1_cutAt Q 37 [some (.inr (.inl (some 0))), some (.inl p), some (.inl st), some (.inl c)] (ab_ret r_ []) k_)))))) ∧ (p ≤ st → Q (some (.inl c)) (rw_cs (rK, rL, rT, rS, rn, rc, rw)))))))) from ⟨p1, ⟨fun h1 => (l1 h1), fun h2 => ⟨(p2 h2), ⟨fun h3 => ⟨(p3 h2 h3), ⟨(p4 h2 h3), ⟨fun h4 => ⟨(p5 h2 h3 h4), (l2 h2 h3 h4)⟩, fun h5 => ⟨_, (l3 h2 h3 h5), fun r_ k_ hz _ => by obtain ⟨r', rfl, rfl, hR⟩ := hz; exact hR⟩⟩⟩⟩, fun h6 => (l4 h2 h6)⟩⟩⟩⟩)
set_option maxRecDepth 100000 in
theorem b_X1_cutAt_37 {Q : ab_Q} {p : Int} {st : Int} {c : Int} {rK : Int → Int} {rL : Int → Int} {rT : Int → Int} {rS : Int → Int} {rn : Int} {rc : Int} {rw : Int} (l1 : sp_X1_part [.inr (.inl (some 0)), .inl c, .inl (p - st)] (rw_cs (rK, rL, rT, rS, rn, rc, rw)) (fun r_ k_ => ∃ (r' : rw_T), r_ = none ∧ k_ = (rw_cs r') ∧ ab_R E_X1_cutAt P_X1_cutAt Q 45 [some (.inr (.inl (some 0))), some (.inl p), some (.inl st), some (.inl c)] [] (rw_cs r')))  : ab_R E_X1_cutAt P_X1_cutAt Q 37 [some (.inr (.inl (some 0))), some (.inl p), some (.inl st), some (.inl c)] [] (rw_cs (rK, rL, rT, rS, rn, rc, rw)) :=
  ab_R.steps [4, 37, 45] 7 (show ab_cl sp_X1_part [.inr (.inl (some 0)), .inl c, .inl (p - st)] (rw_cs (rK, rL, rT, rS, rn, rc, rw)) (fun r_ k_ => k_.length = ((rw_cs (rK, rL, rT, rS, rn, rc, rw))).length → ab_R E_X1_cutAt P_X1_cutAt Q 45 [some (.inr (.inl (some 0))), some (.inl p), some (.inl st), some (.inl c)] (ab_ret r_ []) k_) from ⟨_, l1, fun r_ k_ hz _ => by obtain ⟨r', rfl, rfl, hR⟩ := hz; exact hR⟩)
set_option maxRecDepth 100000 in
theorem b_X1_cutAt_45 {Q : ab_Q} {p : Int} {st : Int} {c : Int} {rK : Int → Int} {rL : Int → Int} {rT : Int → Int} {rS : Int → Int} {rn : Int} {rc : Int} {rw : Int} (l1 : Q (some (.inl (c + 1))) (rw_cs (rK, rL, rT, rS, rn, rc, rw)))  : ab_R E_X1_cutAt P_X1_cutAt Q 45 [some (.inr (.inl (some 0))), some (.inl p), some (.inl st), some (.inl c)] [] (rw_cs (rK, rL, rT, rS, rn, rc, rw)) :=
  ab_R.steps [4, 37, 45] 5 (show Q (some (.inl (c + 1))) (rw_cs (rK, rL, rT, rS, rn, rc, rw)) from l1)
theorem vc_X1_settle {av : List ab_V} {cs : List ab_C} {Q : ab_Q} (h : sp_X1_settle av cs Q) : (ab_lv0 av).length ≤ 5 ∧ ab_R E_X1_settle P_X1_settle Q 0 (ab_ent av 5) [] cs := by
  obtain ⟨⟨K, L, T, S, n, cc, w⟩, A, k, B, c, st, rfl, rfl, hR, hW, hc, hst, hQ⟩ := h
  refine ⟨Nat.le_of_ble_eq_true rfl, ?_⟩
  have hcl := hW.chunks
  have hfl := hW.2
  rw [List.length_append, List.length_cons] at hcl
  have hA : (mq_flat A).length + k.1.length ≤ 60 := by
    rw [mq_flat_mid, List.length_append, List.length_append] at hfl
    omega
  have e1 := hR.len (mq_at_app A k B)
  have e2 := hR.turn (mq_at_app A k B)
  have e3 := hR.sum (mq_at_app A k B)
  have ek := fun {j : Nat} {x : Int} (hj : k.1[j]? = some x) => hR.kept hj
  dsimp only at e1 e2 e3 ek
  rw [← hc] at e1 e2 e3
  have hok := hW.1 k (by simp)
  have ht := hok.2.1
  have hsb : -200000 ≤ k.2.2 ∧ k.2.2 ≤ 200000 := by
    have h0 := hok.1
    have hl0 : 0 < (mq_row k).length := by rw [mq_row_len]; exact h0
    have hx : (mq_row k)[0]? = some (mq_row k)[0] := List.getElem?_eq_getElem hl0
    obtain ⟨y, hy, e⟩ := mq_row_at hx
    have h1 := hok.2.2.2 _ (List.mem_of_getElem? hx)
    have h2 := hok.2.2.1 _ (List.mem_of_getElem? hy)
    omega
  -- behind the turn
  have fin : ∀ (K1 : Int → Int), ¬ (k.2.1 = 0 ∧ k.2.2 = 0) → (∀ j : Int, K1 j = if k.2.1 = 1 ∧ st ≤ j ∧ j < st + k.1.length then K (st + (st + k.1.length) - 1 - j) else K j) →
      ab_R E_X1_settle P_X1_settle Q 47 [some (.inr (.inl (some 0))), some (.inl c), some (.inl st), some (.inl (st + L c)), none] [] (rw_cs (K1, L, T, S, n, cc, w)) := by
    intro K1 hwt hK1
    have loop : ∀ (d : Nat) (i : Int) (K2 : Int → Int), st + k.1.length - i = d → st ≤ i → (∀ j : Int, K2 j = if st ≤ j ∧ j < i then K1 j + k.2.2 else K1 j) →
        ab_R E_X1_settle P_X1_settle Q 50 [some (.inr (.inl (some 0))), some (.inl c), some (.inl st), some (.inl (st + L c)), some (.inl i)] [] (rw_cs (K2, L, T, S, n, cc, w)) := by
      intro d
      induction d with
      | zero =>
        intro i K2 g1 g2 g3
        refine b_X1_settle_50 (fun _ => ?_) (fun _ => by omega)
        have hr := mq_R_settle (K' := K2) (w' := w + L c) hR (fun j hj => ?_) (fun j hj => ?_) (fun j x hj => ?_)
        · rw [← hc] at hr
          refine hQ _ hr ?_
          show w + L c = w + mq_cost k
          unfold mq_cost
          rw [if_neg hwt, e1]
        · rw [g3, if_neg (by omega), hK1, if_neg (by omega)]
        · rw [g3, if_neg (by omega), hK1, if_neg (by omega)]
        · obtain ⟨y, hy, rfl⟩ := mq_row_at hj
          have hjl := (List.getElem?_eq_some_iff.mp hj).1
          rw [mq_row_len] at hjl
          have e4 := ek hy
          rw [g3, if_pos (by omega), hK1]
          by_cases z : k.2.1 = 1
          · rw [if_pos (by omega)]
            rw [if_pos z] at e4
            rw [← e4]
            congr 2
            omega
          · rw [if_neg (by omega)]
            rw [if_neg z] at e4
            rw [← e4]
            congr 2
      | succ d ih =>
        intro i K2 g1 g2 g3
        refine b_X1_settle_50 (fun _ => by omega) (fun _ => ih (i + 1) _ (by omega) (by omega) (fun j => ?_))
        unfold ab_up
        by_cases z : j = i
        · rw [if_pos z, if_pos (by omega), e3, z, g3, if_neg (by omega)]
        · rw [if_neg z, g3]
          by_cases z2 : st ≤ j ∧ j < i
          · rw [if_pos z2, if_pos (by omega)]
          · rw [if_neg z2, if_neg (by omega)]
    exact b_X1_settle_47 (loop k.1.length st K1 (by omega) (by omega) (fun j => by rw [if_neg (by omega)]))
  have mir : ¬ (k.2.1 = 0 ∧ k.2.2 = 0) → T c = 1 → sp_X1_mirror [.inr (.inl (some 0)), .inl st, .inl (st + L c)] (ar_cs K) (fun r_ k_ => ∃ (f' : Int → Int), r_ = none ∧ k_ = (ar_cs (f')) ∧ ab_R E_X1_settle P_X1_settle Q 47 [some (.inr (.inl (some 0))), some (.inl c), some (.inl st), some (.inl (st + L c)), none] [] (rw_cs (f', L, T, S, n, cc, w))) := by
    intro h1 h2
    refine ⟨K, st, st + L c, rfl, rfl, by omega, by omega, by omega, _, rfl, rfl, fin _ h1 (fun j => ?_)⟩
    unfold mq_mir
    rw [e1]
    by_cases z : st ≤ j ∧ j < st + k.1.length
    · rw [if_pos z, if_pos (by omega)]
    · rw [if_neg z, if_neg (by omega)]
  have pl : ¬ (k.2.1 = 0 ∧ k.2.2 = 0) → ¬ T c = 1 → ab_R E_X1_settle P_X1_settle Q 47 [some (.inr (.inl (some 0))), some (.inl c), some (.inl st), some (.inl (st + L c)), none] [] (rw_cs (K, L, T, S, n, cc, w)) := by
    intro h1 h2
    exact fin K h1 (fun j => by rw [if_neg (by omega)])
  refine b_X1_settle_0 (fun h1 h2 => pl (by omega) h2) (fun h1 h2 => mir (by omega) h2) (fun h1 h2 h3 => pl (by omega) h3) (fun h1 h2 h3 => mir (by omega) h3) (fun h1 h2 => ?_)
  obtain ⟨c1, c2, c3⟩ := mq_cost_0 (k := k) (by omega) (by omega)
  refine hQ _ (by rw [← c3]; exact hR) ?_
  rw [c2]
  show w = w + 0
  omega
theorem mt_X1_settle (l : Launch) : ab_MT l mi_X1_settle sp_X1_settle := ab_MT.of (own := "RootChunks$Row") (E := E_X1_settle) (P := P_X1_settle) (M := M_X1_settle) (nL := 5) (ty := 9) (by decide) rfl rfl tk_X1 pk_X1_settle ck_X1_settle (ab_CT'.cons (mt_X1_mirror l) ab_CT'.nil) (fun av cs Q h => vc_X1_settle h)
theorem vc_X1_part {av : List ab_V} {cs : List ab_C} {Q : ab_Q} (h : sp_X1_part av cs Q) : (ab_lv0 av).length ≤ 4 ∧ ab_R E_X1_part P_X1_part Q 0 (ab_ent av 4) [] cs := by
  obtain ⟨⟨K, L, T, S, n, cc, w⟩, A, l, B, f, c, x, rfl, rfl, hR, hW, hc, hx, h0, h1, hQ⟩ := h
  refine ⟨Nat.le_of_ble_eq_true rfl, ?_⟩
  have hfl := hW.2
  have hpos := mq_flat_pos hW.1
  have hcc : cc = ((A ++ (l, 0, 0) :: B).length : Nat) := hR.2.2.2.2.2
  have hlt : (A ++ (l, 0, 0) :: B).length < 60 := by
    have h2 := mq_flat_pos (q := A) (fun k hk => hW.1 k (by simp [hk]))
    have h3 := mq_flat_pos (q := B) (fun k hk => hW.1 k (by simp [hk]))
    rw [mq_flat_mid] at hfl
    simp at hfl ⊢
    omega
  have hcl : (A ++ (l, 0, 0) :: B).length = A.length + (B.length + 1) := by simp
  have e1 := hR.len (mq_at_app A (l, 0, 0) B)
  dsimp only at e1
  rw [← hc] at e1
  refine b_X1_part_0 ⟨_, _, _, _, _, _, _, _, _, rfl, rfl, by omega, by omega, by omega, _, rfl, rfl, ?_⟩
  refine b_X1_part_24 ?_
  have hr := mq_R_part (w' := w + (L c - x)) hR (f := f) (by omega)
  rw [← hc, ← hx, ← e1] at hr
  refine hQ _ hr ?_
  show w + (L c - x) = w + ((l.length : Int) - f)
  omega
theorem mt_X1_part (l : Launch) : ab_MT l mi_X1_part sp_X1_part := ab_MT.of (own := "RootChunks$Row") (E := E_X1_part) (P := P_X1_part) (M := M_X1_part) (nL := 4) (ty := 9) (by decide) rfl rfl tk_X1 pk_X1_part ck_X1_part (ab_CT'.cons (mt_X1_openChunk l) ab_CT'.nil) (fun av cs Q h => vc_X1_part h)
theorem vc_X1_cutAt {av : List ab_V} {cs : List ab_C} {Q : ab_Q} (h : sp_X1_cutAt av cs Q) : (ab_lv0 av).length ≤ 4 ∧ ab_R E_X1_cutAt P_X1_cutAt Q 0 (ab_ent av 4) [] cs := by
  obtain ⟨⟨K, L, T, S, n, cc, w⟩, q, d, p, rfl, rfl, hR, hW, hp, hd, hQ⟩ := h
  refine ⟨Nat.le_of_ble_eq_true rfl, ?_⟩
  have hcl := hW.chunks
  have hfl := hW.2
  have hcc : cc = (q.length : Nat) := hR.2.2.2.2.2
  have loop : ∀ (B A : List mq_K) (d' : Nat) (c st : Int), q = A ++ B → c = A.length → st = (mq_flat A).length → d = (mq_flat A).length + d' → mq_cut q d = (A ++ (mq_cut B d').1, (mq_cut B d').2) →
      ab_R E_X1_cutAt P_X1_cutAt Q 4 [some (.inr (.inl (some 0))), some (.inl p), some (.inl st), some (.inl c)] [] (rw_cs (K, L, T, S, n, cc, w)) := by
    intro B
    induction B with
    | nil =>
      intro A d' c st g1 g2 g3 g4 g5
      rw [List.append_nil] at g1
      subst g1
      refine b_X1_cutAt_4 (fun _ => ?_) (fun _ _ _ => by omega) (fun _ _ _ => by omega) (fun _ _ => by omega)
      rw [g5] at hQ
      have h1 := hQ (K, L, T, S, n, cc, w) (by simpa [mq_cut] using hR) (by show w = w + 0; omega)
      have h2 : Q (some (.inl ((q.length : Nat) : Int))) (rw_cs (K, L, T, S, n, cc, w)) := by simpa [mq_cut] using h1
      rwa [← hcc] at h2
    | cons k B ih =>
      intro A d' c st g1 g2 g3 g4 g5
      subst g1
      have e1 := hR.len (mq_at_app A k B)
      dsimp only at e1
      rw [← g2] at e1
      rw [mq_flat_mid, List.length_append, List.length_append] at hd hfl
      rw [List.length_append, List.length_cons] at hcl hcc
      have hk0 := (hW.1 k (by simp)).1
      refine b_X1_cutAt_4 (fun _ => by omega) (fun _ h2 h3 => ?_) (fun _ h2 h3 => ?_) (fun _ h2 => ?_)
      · refine ih (A ++ [k]) (d' - k.1.length) (c + 1) (st + L c) (by simp) (by simp; omega) ?_ ?_ ?_
        · rw [mq_flat_app, mq_flat_cons]; simp [mq_flat]; simp [mq_flat] at g3; omega
        · rw [mq_flat_app, mq_flat_cons]; simp [mq_flat]; simp [mq_flat] at g4 g3; omega
        · rw [g5]
          conv => lhs; unfold mq_cut
          rw [if_neg (by omega), if_neg (by omega)]
          simp
      · have g6 : mq_cut (A ++ k :: B) d = (A ++ [((mq_row k).take d', 0, 0)], ((mq_row k).drop d', 0, 0) :: B, mq_cost k + ((k.1.length : Int) - d')) := by
          rw [g5]
          conv => lhs; unfold mq_cut
          rw [if_neg (by omega), if_pos (by omega)]
        refine ⟨_, A, k, B, _, _, rfl, rfl, hR, hW, g2, g3, fun r' hr' hw' => ⟨r', rfl, rfl, ?_⟩⟩
        obtain ⟨K1, L1, T1, S1, n1, c1, w1⟩ := r'
        refine b_X1_cutAt_37 ⟨_, A, mq_row k, B, d', _, _, rfl, rfl, hr', mq_W_settle hW, g2, by omega, by omega, by rw [mq_row_len]; omega, fun r'' hr'' hw'' => ⟨r'', rfl, rfl, ?_⟩⟩
        obtain ⟨K2, L2, T2, S2, n2, c2, w2⟩ := r''
        refine b_X1_cutAt_45 ?_
        rw [g6] at hQ
        have h1 := hQ (K2, L2, T2, S2, n2, c2, w2) (by simpa using hr'') (by
          dsimp only at hw' hw'' ⊢
          rw [hw'', hw', mq_row_len]
          omega)
        dsimp only at h1
        rw [List.length_append] at h1
        rw [g2]
        exact h1
      · have g6 : mq_cut (A ++ k :: B) d = (A, k :: B, 0) := by
          rw [g5]
          conv => lhs; unfold mq_cut
          rw [if_pos (by omega)]
          simp
        rw [g6] at hQ
        rw [g2]
        exact hQ (K, L, T, S, n, cc, w) hR (by show w = w + 0; omega)
  exact b_X1_cutAt_0 (loop q [] d 0 0 rfl rfl rfl (by simp [mq_flat]) rfl)
theorem mt_X1_cutAt (l : Launch) : ab_MT l mi_X1_cutAt sp_X1_cutAt := ab_MT.of (own := "RootChunks$Row") (E := E_X1_cutAt) (P := P_X1_cutAt) (M := M_X1_cutAt) (nL := 4) (ty := 0) (by decide) rfl rfl tk_X1 pk_X1_cutAt ck_X1_cutAt (ab_CT'.cons (mt_X1_settle l) (ab_CT'.cons (mt_X1_part l) ab_CT'.nil)) (fun av cs Q h => vc_X1_cutAt h)
end
section
def sp_X1_rootOfLength : ab_Sp := fun av cs Q => ∃ (r : rw_T) (q : List mq_K), av = [.inr (.inl (some 0))] ∧ cs = rw_cs r ∧ mq_R r q ∧ mq_W q ∧ Q (some (.inl (mq_rt (mq_flat q).length : Int))) (rw_cs r)
def sp_X1_partLongChunks : ab_Sp := fun av cs Q => ∃ (r : rw_T) (q : List mq_K) (t : Nat) (x : Int), av = [.inr (.inl (some 0)), .inl x] ∧ cs = rw_cs r ∧ mq_R r q ∧ mq_W q ∧ x = t ∧ 0 < t ∧ t ≤ 7 ∧
  ∀ r' : rw_T, mq_R r' (mq_pt t 60 q).1 → r'.2.2.2.2.2.2 = r.2.2.2.2.2.2 + (mq_pt t 60 q).2 → Q none (rw_cs r')
def sp_X1_joinShortChunks : ab_Sp := fun av cs Q => ∃ (r : rw_T) (q : List mq_K) (t : Nat) (x : Int), av = [.inr (.inl (some 0)), .inl x] ∧ cs = rw_cs r ∧ mq_R r q ∧ mq_W q ∧ x = t ∧ 0 < t ∧ t ≤ 7 ∧
  ∀ r' : rw_T, mq_R r' (mq_js t q).1 → r'.2.2.2.2.2.2 = r.2.2.2.2.2.2 + (mq_js t q).2 → Q none (rw_cs r')
def sp_X1_evenOut : ab_Sp := fun av cs Q => ∃ (r : rw_T) (q : List mq_K), av = [.inr (.inl (some 0))] ∧ cs = rw_cs r ∧ mq_R r q ∧ mq_W q ∧
  ∀ r' : rw_T, mq_R r' (mq_ev q).1 → r'.2.2.2.2.2.2 = r.2.2.2.2.2.2 + (mq_ev q).2 → Q none (rw_cs r')
-- ===== RootChunks$Row.rootOfLength
def P_X1_rootOfLength : List ab_I := [(0, .iconst 1, 1, []), (1, .istore_n 1, 2, []), (2, .iload_n 1, 3, []), (3, .bipush 60, 5, []), (5, .if_icmp .ge 23, 8, [((0 : Int), 28)]), (8, .iload_n 1, 9, []), (9, .iconst 1, 10, []), (10, .iadd, 11, []), (11, .iload_n 1, 12, []), (12, .iconst 1, 13, []), (13, .iadd, 14, []), (14, .imul, 15, []), (15, .aload_n 0, 16, []), (16, .getfield 24, 19, []), (19, .if_icmp .gt 9, 22, [((0 : Int), 28)]), (22, .iinc 1 1, 25, []), (25, .goto (-23), 28, [((0 : Int), 2)]), (28, .iload_n 1, 29, []), (29, .ireturn, 30, [])]
def E_X1_rootOfLength : ab_E := (T_X1, [], [], 0)
def M_X1_rootOfLength : List (Nat × ab_MI) := []
def mi_X1_rootOfLength : ab_MI := (yX1_rootOfLength, cX1_rootOfLength, 2, ab_rty 0, 1, 70)
theorem pk_X1_rootOfLength : P_X1_rootOfLength.all (ab_okI cX1_rootOfLength) = true := by decide +kernel
theorem ck_X1_rootOfLength : P_X1_rootOfLength.all (ab_okC1 "RootChunks$Row" M_X1_rootOfLength E_X1_rootOfLength (1, 70)) = true := by decide +kernel
set_option maxRecDepth 100000 in
theorem b_X1_rootOfLength_0 {Q : ab_Q} {rK : Int → Int} {rL : Int → Int} {rT : Int → Int} {rS : Int → Int} {rn : Int} {rc : Int} {rw : Int} (l1 : ab_R E_X1_rootOfLength P_X1_rootOfLength Q 2 [some (.inr (.inl (some 0))), some (.inl 1)] [] (rw_cs (rK, rL, rT, rS, rn, rc, rw)))  : ab_R E_X1_rootOfLength P_X1_rootOfLength Q 0 [some (.inr (.inl (some 0))), none] [] (rw_cs (rK, rL, rT, rS, rn, rc, rw)) :=
  ab_R.steps [2] 4 (show ab_R E_X1_rootOfLength P_X1_rootOfLength Q 2 [some (.inr (.inl (some 0))), some (.inl 1)] [] (rw_cs (rK, rL, rT, rS, rn, rc, rw)) from l1)
set_option maxRecDepth 100000 in
theorem b_X1_rootOfLength_2 {Q : ab_Q} {rt : Int} {rK : Int → Int} {rL : Int → Int} {rT : Int → Int} {rS : Int → Int} {rn : Int} {rc : Int} {rw : Int} (l1 : (60 : Int) ≤ rt → Q (some (.inl rt)) (rw_cs (rK, rL, rT, rS, rn, rc, rw))) (l2 : rt < (60 : Int) → rn < ((rt + 1) * (rt + 1)) → Q (some (.inl rt)) (rw_cs (rK, rL, rT, rS, rn, rc, rw))) (l3 : rt < (60 : Int) → ((rt + 1) * (rt + 1)) ≤ rn → ab_R E_X1_rootOfLength P_X1_rootOfLength Q 2 [some (.inr (.inl (some 0))), some (.inl (rt + 1))] [] (rw_cs (rK, rL, rT, rS, rn, rc, rw))) (p1 : (ab_r rt ∧ ab_r 60) := by intros; (try unfold ab_r); omega) (p2 : rt < (60 : Int) → (ab_r ((rt + 1) * (rt + 1)) ∧ ab_r rn) := by intros; (try unfold ab_r); omega) : ab_R E_X1_rootOfLength P_X1_rootOfLength Q 2 [some (.inr (.inl (some 0))), some (.inl rt)] [] (rw_cs (rK, rL, rT, rS, rn, rc, rw)) :=
  ab_R.steps [2] 17 (show ((ab_r rt ∧ ab_r 60) ∧ (((60 : Int) ≤ rt → Q (some (.inl rt)) (rw_cs (rK, rL, rT, rS, rn, rc, rw))) ∧ (rt < (60 : Int) → ((ab_r ((rt + 1) * (rt + 1)) ∧ ab_r rn) ∧ ((rn < ((rt + 1) * (rt + 1)) → Q (some (.inl rt)) (rw_cs (rK, rL, rT, rS, rn, rc, rw))) ∧ (((rt + 1) * (rt + 1)) ≤ rn → ab_R E_X1_rootOfLength P_X1_rootOfLength Q 2 [some (.inr (.inl (some 0))), some (.inl (rt + 1))] [] (rw_cs (rK, rL, rT, rS, rn, rc, rw)))))))) from ⟨p1, ⟨fun h1 => (l1 h1), fun h2 => ⟨(p2 h2), ⟨fun h3 => (l2 h2 h3), fun h4 => (l3 h2 h4)⟩⟩⟩⟩)
-- ===== RootChunks$Row.partLongChunks
def P_X1_partLongChunks : List ab_I := [(0, .iconst 0, 1, []), (1, .istore_n 2, 2, []), (2, .iconst 0, 3, []), (3, .istore_n 3, 4, []), (4, .iload_n 3, 5, []), (5, .aload_n 0, 6, []), (6, .getfield 28, 9, []), (9, .if_icmp .ge 48, 12, [((0 : Int), 57)]), (12, .iload_n 3, 13, []), (13, .bipush 60, 15, []), (15, .if_icmp .ge 42, 18, [((0 : Int), 57)]), (18, .aload_n 0, 19, []), (19, .getfield 15, 22, []), (22, .iload_n 3, 23, []), (23, .iaload, 24, []), (24, .iconst 2, 25, []), (25, .iload_n 1, 26, []), (26, .imul, 27, []), (27, .if_icmp .le 15, 30, [((0 : Int), 42)]), (30, .aload_n 0, 31, []), (31, .iload_n 3, 32, []), (32, .iload_n 2, 33, []), (33, .invokevirtual 64, 36, []), (36, .aload_n 0, 37, []), (37, .iload_n 3, 38, []), (38, .iload_n 1, 39, []), (39, .invokevirtual 74, 42, []), (42, .iload_n 2, 43, []), (43, .aload_n 0, 44, []), (44, .getfield 15, 47, []), (47, .iload_n 3, 48, []), (48, .iaload, 49, []), (49, .iadd, 50, []), (50, .istore_n 2, 51, []), (51, .iinc 3 1, 54, []), (54, .goto (-50), 57, [((0 : Int), 4)]), (57, .return_, 58, [])]
def E_X1_partLongChunks : ab_E := (T_X1, [(33, (3, 1, [], 0, sp_X1_settle)), (39, (3, 1, [], 0, sp_X1_part))], [], 9)
def M_X1_partLongChunks : List (Nat × ab_MI) := [(33, mi_X1_settle), (39, mi_X1_part)]
def mi_X1_partLongChunks : ab_MI := (yX1_partLongChunks, cX1_partLongChunks, 4, ab_rty 9, 3, 119)
theorem pk_X1_partLongChunks : P_X1_partLongChunks.all (ab_okI cX1_partLongChunks) = true := by decide +kernel
theorem ck_X1_partLongChunks : P_X1_partLongChunks.all (ab_okC1 "RootChunks$Row" M_X1_partLongChunks E_X1_partLongChunks (3, 119)) = true := by decide +kernel
set_option maxRecDepth 100000 in
theorem b_X1_partLongChunks_0 {Q : ab_Q} {rt : Int} {rK : Int → Int} {rL : Int → Int} {rT : Int → Int} {rS : Int → Int} {rn : Int} {rc : Int} {rw : Int} (l1 : ab_R E_X1_partLongChunks P_X1_partLongChunks Q 4 [some (.inr (.inl (some 0))), some (.inl rt), some (.inl 0), some (.inl 0)] [] (rw_cs (rK, rL, rT, rS, rn, rc, rw)))  : ab_R E_X1_partLongChunks P_X1_partLongChunks Q 0 [some (.inr (.inl (some 0))), some (.inl rt), none, none] [] (rw_cs (rK, rL, rT, rS, rn, rc, rw)) :=
  ab_R.steps [4, 36, 42] 6 (show ab_R E_X1_partLongChunks P_X1_partLongChunks Q 4 [some (.inr (.inl (some 0))), some (.inl rt), some (.inl 0), some (.inl 0)] [] (rw_cs (rK, rL, rT, rS, rn, rc, rw)) from l1)
set_option maxRecDepth 100000 in
theorem b_X1_partLongChunks_4 {Q : ab_Q} {rt : Int} {st : Int} {c : Int} {rK : Int → Int} {rL : Int → Int} {rT : Int → Int} {rS : Int → Int} {rn : Int} {rc : Int} {rw : Int} (l1 : rc ≤ c → Q none (rw_cs (rK, rL, rT, rS, rn, rc, rw))) (l2 : c < rc → (60 : Int) ≤ c → Q none (rw_cs (rK, rL, rT, rS, rn, rc, rw))) (l3 : c < rc → c < (60 : Int) → (rL c) ≤ (2 * rt) → ab_R E_X1_partLongChunks P_X1_partLongChunks Q 42 [some (.inr (.inl (some 0))), some (.inl rt), some (.inl st), some (.inl c)] [] (rw_cs (rK, rL, rT, rS, rn, rc, rw))) (l4 : c < rc → c < (60 : Int) → (2 * rt) < (rL c) → sp_X1_settle [.inr (.inl (some 0)), .inl c, .inl st] (rw_cs (rK, rL, rT, rS, rn, rc, rw)) (fun r_ k_ => ∃ (r' : rw_T), r_ = none ∧ k_ = (rw_cs r') ∧ ab_R E_X1_partLongChunks P_X1_partLongChunks Q 36 [some (.inr (.inl (some 0))), some (.inl rt), some (.inl st), some (.inl c)] [] (rw_cs r'))) (p1 : (ab_r c ∧ ab_r rc) := by intros; (try unfold ab_r); omega) (p2 : c < rc → (ab_r c ∧ ab_r 60) := by intros; (try unfold ab_r); omega) (p3 : c < rc → c < (60 : Int) → (0 ≤ c ∧ c < 60) := by intros; (try unfold ab_r); omega) (p4 : c < rc → c < (60 : Int) → (ab_r (rL c) ∧ ab_r (2 * rt)) := by intros; (try unfold ab_r); omega) : ab_R E_X1_partLongChunks P_X1_partLongChunks Q 4 [some (.inr (.inl (some 0))), some (.inl rt), some (.inl st), some (.inl c)] [] (rw_cs (rK, rL, rT, rS, rn, rc, rw)) :=
  ab_R.steps [4, 36, 42] 20 (show ((ab_r c ∧ ab_r rc) ∧ ((rc ≤ c → Q none (rw_cs (rK, rL, rT, rS, rn, rc, rw))) ∧ (c < rc → ((ab_r c ∧ ab_r 60) ∧ (((60 : Int) ≤ c → Q none (rw_cs (rK, rL, rT, rS, rn, rc, rw))) ∧ (c < (60 : Int) → ((0 ≤ c ∧ c < 60) ∧ ((ab_r (rL c) ∧ ab_r (2 * rt)) ∧ (((rL c) ≤ (2 * rt) → ab_R E_X1_partLongChunks P_X1_partLongChunks Q 42 [some (.inr (.inl (some 0))), some (.inl rt), some (.inl st), some (.inl c)] [] (rw_cs (rK, rL, rT, rS, rn, rc, rw))) ∧ ((2 * rt) < (rL c) → ab_cl sp_X1_settle [.inr (.inl (some 0)), .inl c, .inl st] (rw_cs (rK, rL, rT, rS, rn, rc, rw)) (fun r_ k_ => k_.length = ((rw_cs (rK, rL, rT, rS, rn, rc, rw))).length → ab_R E_X1_partLongChunks P_X1_partLongChunks Q 36 [some (.inr (.inl (some 0))), some (.inl rt), some (.inl st), some (.inl c)] (ab_ret r_ []) k_))))))))))) from ⟨p1, ⟨fun h1 => (l1 h1), fun h2 => ⟨(p2 h2), ⟨fun h3 => (l2 h2 h3), fun h4 => ⟨(p3 h2 h4), ⟨(p4 h2 h4), ⟨fun h5 => (l3 h2 h4 h5), fun h6 => ⟨_, (l4 h2 h4 h6), fun r_ k_ hz _ => by obtain ⟨r', rfl, rfl, hR⟩ := hz; exact hR⟩⟩⟩⟩⟩⟩⟩⟩)
set_option maxRecDepth 100000 in
theorem b_X1_partLongChunks_36 {Q : ab_Q} {rt : Int} {st : Int} {c : Int} {rK : Int → Int} {rL : Int → Int} {rT : Int → Int} {rS : Int → Int} {rn : Int} {rc : Int} {rw : Int} (l1 : sp_X1_part [.inr (.inl (some 0)), .inl c, .inl rt] (rw_cs (rK, rL, rT, rS, rn, rc, rw)) (fun r_ k_ => ∃ (r' : rw_T), r_ = none ∧ k_ = (rw_cs r') ∧ ab_R E_X1_partLongChunks P_X1_partLongChunks Q 42 [some (.inr (.inl (some 0))), some (.inl rt), some (.inl st), some (.inl c)] [] (rw_cs r')))  : ab_R E_X1_partLongChunks P_X1_partLongChunks Q 36 [some (.inr (.inl (some 0))), some (.inl rt), some (.inl st), some (.inl c)] [] (rw_cs (rK, rL, rT, rS, rn, rc, rw)) :=
  ab_R.steps [4, 36, 42] 5 (show ab_cl sp_X1_part [.inr (.inl (some 0)), .inl c, .inl rt] (rw_cs (rK, rL, rT, rS, rn, rc, rw)) (fun r_ k_ => k_.length = ((rw_cs (rK, rL, rT, rS, rn, rc, rw))).length → ab_R E_X1_partLongChunks P_X1_partLongChunks Q 42 [some (.inr (.inl (some 0))), some (.inl rt), some (.inl st), some (.inl c)] (ab_ret r_ []) k_) from ⟨_, l1, fun r_ k_ hz _ => by obtain ⟨r', rfl, rfl, hR⟩ := hz; exact hR⟩)
set_option maxRecDepth 100000 in
theorem b_X1_partLongChunks_42 {Q : ab_Q} {rt : Int} {st : Int} {c : Int} {rK : Int → Int} {rL : Int → Int} {rT : Int → Int} {rS : Int → Int} {rn : Int} {rc : Int} {rw : Int} (l1 : ab_R E_X1_partLongChunks P_X1_partLongChunks Q 4 [some (.inr (.inl (some 0))), some (.inl rt), some (.inl (st + (rL c))), some (.inl (c + 1))] [] (rw_cs (rK, rL, rT, rS, rn, rc, rw))) (p1 : (0 ≤ c ∧ c < 60) := by intros; (try unfold ab_r); omega) : ab_R E_X1_partLongChunks P_X1_partLongChunks Q 42 [some (.inr (.inl (some 0))), some (.inl rt), some (.inl st), some (.inl c)] [] (rw_cs (rK, rL, rT, rS, rn, rc, rw)) :=
  ab_R.steps [4, 36, 42] 11 (show ((0 ≤ c ∧ c < 60) ∧ ab_R E_X1_partLongChunks P_X1_partLongChunks Q 4 [some (.inr (.inl (some 0))), some (.inl rt), some (.inl (st + (rL c))), some (.inl (c + 1))] [] (rw_cs (rK, rL, rT, rS, rn, rc, rw))) from ⟨p1, l1⟩)
-- ===== RootChunks$Row.joinShortChunks
def P_X1_joinShortChunks : List ab_I := [(0, .iconst 0, 1, []), (1, .istore_n 2, 2, []), (2, .iconst 0, 3, []), (3, .istore_n 3, 4, []), (4, .iconst 0, 5, []), (5, .istore 4, 7, []), (7, .iload 4, 9, []), (9, .bipush 60, 11, []), (11, .if_icmp .ge 115, 14, [((0 : Int), 126)]), (14, .iload_n 3, 15, []), (15, .iconst 1, 16, []), (16, .iadd, 17, []), (17, .aload_n 0, 18, []), (18, .getfield 28, 21, []), (21, .if_icmp .ge 105, 24, [((0 : Int), 126)]), (24, .aload_n 0, 25, []), (25, .getfield 15, 28, []), (28, .iload_n 3, 29, []), (29, .iaload, 30, []), (30, .aload_n 0, 31, []), (31, .getfield 15, 34, []), (34, .iload_n 3, 35, []), (35, .iconst 1, 36, []), (36, .iadd, 37, []), (37, .iaload, 38, []), (38, .iadd, 39, []), (39, .iload_n 1, 40, []), (40, .if_icmp .gt 68, 43, [((0 : Int), 108)]), (43, .aload_n 0, 44, []), (44, .iload_n 3, 45, []), (45, .iload_n 2, 46, []), (46, .invokevirtual 64, 49, []), (49, .aload_n 0, 50, []), (50, .iload_n 3, 51, []), (51, .iconst 1, 52, []), (52, .iadd, 53, []), (53, .iload_n 2, 54, []), (54, .aload_n 0, 55, []), (55, .getfield 15, 58, []), (58, .iload_n 3, 59, []), (59, .iaload, 60, []), (60, .iadd, 61, []), (61, .invokevirtual 64, 64, []), (64, .aload_n 0, 65, []), (65, .dup, 66, []), (66, .getfield 31, 69, []), (69, .aload_n 0, 70, []), (70, .getfield 15, 73, []), (73, .iload_n 3, 74, []), (74, .iconst 1, 75, []), (75, .iadd, 76, []), (76, .iaload, 77, []), (77, .iadd, 78, []), (78, .putfield 31, 81, []), (81, .aload_n 0, 82, []), (82, .getfield 15, 85, []), (85, .iload_n 3, 86, []), (86, .dup2, 87, []), (87, .iaload, 88, []), (88, .aload_n 0, 89, []), (89, .getfield 15, 92, []), (92, .iload_n 3, 93, []), (93, .iconst 1, 94, []), (94, .iadd, 95, []), (95, .iaload, 96, []), (96, .iadd, 97, []), (97, .iastore, 98, []), (98, .aload_n 0, 99, []), (99, .iload_n 3, 100, []), (100, .iconst 1, 101, []), (101, .iadd, 102, []), (102, .invokevirtual 60, 105, []), (105, .goto 15, 108, [((0 : Int), 120)]), (108, .iload_n 2, 109, []), (109, .aload_n 0, 110, []), (110, .getfield 15, 113, []), (113, .iload_n 3, 114, []), (114, .iaload, 115, []), (115, .iadd, 116, []), (116, .istore_n 2, 117, []), (117, .iinc 3 1, 120, []), (120, .iinc 4 1, 123, []), (123, .goto (-116), 126, [((0 : Int), 7)]), (126, .return_, 127, [])]
def E_X1_joinShortChunks : ab_E := (T_X1, [(46, (3, 1, [], 0, sp_X1_settle)), (61, (3, 1, [], 0, sp_X1_settle)), (102, (2, 1, [], 0, sp_X1_closeChunk))], [], 9)
def M_X1_joinShortChunks : List (Nat × ab_MI) := [(46, mi_X1_settle), (61, mi_X1_settle), (102, mi_X1_closeChunk)]
def mi_X1_joinShortChunks : ab_MI := (yX1_joinShortChunks, cX1_joinShortChunks, 5, ab_rty 9, 3, 119)
theorem pk_X1_joinShortChunks : P_X1_joinShortChunks.all (ab_okI cX1_joinShortChunks) = true := by decide +kernel
theorem ck_X1_joinShortChunks : P_X1_joinShortChunks.all (ab_okC1 "RootChunks$Row" M_X1_joinShortChunks E_X1_joinShortChunks (3, 119)) = true := by decide +kernel
set_option maxRecDepth 100000 in
theorem b_X1_joinShortChunks_0 {Q : ab_Q} {rt : Int} {rK : Int → Int} {rL : Int → Int} {rT : Int → Int} {rS : Int → Int} {rn : Int} {rc : Int} {rw : Int} (l1 : ab_R E_X1_joinShortChunks P_X1_joinShortChunks Q 7 [some (.inr (.inl (some 0))), some (.inl rt), some (.inl 0), some (.inl 0), some (.inl 0)] [] (rw_cs (rK, rL, rT, rS, rn, rc, rw)))  : ab_R E_X1_joinShortChunks P_X1_joinShortChunks Q 0 [some (.inr (.inl (some 0))), some (.inl rt), none, none, none] [] (rw_cs (rK, rL, rT, rS, rn, rc, rw)) :=
  ab_R.steps [7, 49, 64, 105] 8 (show ab_R E_X1_joinShortChunks P_X1_joinShortChunks Q 7 [some (.inr (.inl (some 0))), some (.inl rt), some (.inl 0), some (.inl 0), some (.inl 0)] [] (rw_cs (rK, rL, rT, rS, rn, rc, rw)) from l1)
set_option maxRecDepth 100000 in
theorem b_X1_joinShortChunks_7 {Q : ab_Q} {rt : Int} {st : Int} {c : Int} {sp : Int} {rK : Int → Int} {rL : Int → Int} {rT : Int → Int} {rS : Int → Int} {rn : Int} {rc : Int} {rw : Int} (l1 : (60 : Int) ≤ sp → Q none (rw_cs (rK, rL, rT, rS, rn, rc, rw))) (l2 : sp < (60 : Int) → rc ≤ (c + 1) → Q none (rw_cs (rK, rL, rT, rS, rn, rc, rw))) (l3 : sp < (60 : Int) → (c + 1) < rc → rt < ((rL c) + (rL (c + 1))) → ab_R E_X1_joinShortChunks P_X1_joinShortChunks Q 7 [some (.inr (.inl (some 0))), some (.inl rt), some (.inl (st + (rL c))), some (.inl (c + 1)), some (.inl (sp + 1))] [] (rw_cs (rK, rL, rT, rS, rn, rc, rw))) (l4 : sp < (60 : Int) → (c + 1) < rc → ((rL c) + (rL (c + 1))) ≤ rt → sp_X1_settle [.inr (.inl (some 0)), .inl c, .inl st] (rw_cs (rK, rL, rT, rS, rn, rc, rw)) (fun r_ k_ => ∃ (r' : rw_T), r_ = none ∧ k_ = (rw_cs r') ∧ ab_R E_X1_joinShortChunks P_X1_joinShortChunks Q 49 [some (.inr (.inl (some 0))), some (.inl rt), some (.inl st), some (.inl c), some (.inl sp)] [] (rw_cs r'))) (p1 : (ab_r sp ∧ ab_r 60) := by intros; (try unfold ab_r); omega) (p2 : sp < (60 : Int) → (ab_r (c + 1) ∧ ab_r rc) := by intros; (try unfold ab_r); omega) (p3 : sp < (60 : Int) → (c + 1) < rc → (0 ≤ c ∧ c < 60) := by intros; (try unfold ab_r); omega) (p4 : sp < (60 : Int) → (c + 1) < rc → (0 ≤ (c + 1) ∧ (c + 1) < 60) := by intros; (try unfold ab_r); omega) (p5 : sp < (60 : Int) → (c + 1) < rc → (ab_r ((rL c) + (rL (c + 1))) ∧ ab_r rt) := by intros; (try unfold ab_r); omega) (p6 : sp < (60 : Int) → (c + 1) < rc → rt < ((rL c) + (rL (c + 1))) → (0 ≤ c ∧ c < 60) := by intros; (try unfold ab_r); omega) : ab_R E_X1_joinShortChunks P_X1_joinShortChunks Q 7 [some (.inr (.inl (some 0))), some (.inl rt), some (.inl st), some (.inl c), some (.inl sp)] [] (rw_cs (rK, rL, rT, rS, rn, rc, rw)) :=
  ab_R.steps [7, 49, 64, 105] 34 (show ((ab_r sp ∧ ab_r 60) ∧ (((60 : Int) ≤ sp → Q none (rw_cs (rK, rL, rT, rS, rn, rc, rw))) ∧ (sp < (60 : Int) → ((ab_r (c + 1) ∧ ab_r rc) ∧ ((rc ≤ (c + 1) → Q none (rw_cs (rK, rL, rT, rS, rn, rc, rw))) ∧ ((c + 1) < rc → ((0 ≤ c ∧ c < 60) ∧ ((0 ≤ (c + 1) ∧ (c + 1) < 60) ∧ ((ab_r ((rL c) + (rL (c + 1))) ∧ ab_r rt) ∧ ((rt < ((rL c) + (rL (c + 1))) → ((0 ≤ c ∧ c < 60) ∧ ab_R E_X1_joinShortChunks P_X1_joinShortChunks Q 7 [some (.inr (.inl (some 0))), some (.inl rt), some (.inl (st + (rL c))), some (.inl (c + 1)), some (.inl (sp + 1))] [] (rw_cs (rK, rL, rT, rS, rn, rc, rw)))) ∧ (((rL c) + (rL (c + 1))) ≤ rt → ab_cl sp_X1_settle [.inr (.inl (some 0)), .inl c, .inl st] (rw_cs (rK, rL, rT, rS, rn, rc, rw)) (fun r_ k_ => k_.length = ((rw_cs (rK, rL, rT, rS, rn, rc, rw))).length → ab_R E_X1_joinShortChunks P_X1_joinShortChunks Q 49 [some (.inr (.inl (some 0))), some (.inl rt), some (.inl st), some (.inl c), some (.inl sp)] (ab_ret r_ []) k_)))))))))))) from ⟨p1, ⟨fun h1 => (l1 h1), fun h2 => ⟨(p2 h2), ⟨fun h3 => (l2 h2 h3), fun h4 => ⟨(p3 h2 h4), ⟨(p4 h2 h4), ⟨(p5 h2 h4), ⟨fun h5 => ⟨(p6 h2 h4 h5), (l3 h2 h4 h5)⟩, fun h6 => ⟨_, (l4 h2 h4 h6), fun r_ k_ hz _ => by obtain ⟨r', rfl, rfl, hR⟩ := hz; exact hR⟩⟩⟩⟩⟩⟩⟩⟩⟩)
set_option maxRecDepth 100000 in
theorem b_X1_joinShortChunks_49 {Q : ab_Q} {rt : Int} {st : Int} {c : Int} {sp : Int} {rK : Int → Int} {rL : Int → Int} {rT : Int → Int} {rS : Int → Int} {rn : Int} {rc : Int} {rw : Int} (l1 : sp_X1_settle [.inr (.inl (some 0)), .inl (c + 1), .inl (st + (rL c))] (rw_cs (rK, rL, rT, rS, rn, rc, rw)) (fun r_ k_ => ∃ (r' : rw_T), r_ = none ∧ k_ = (rw_cs r') ∧ ab_R E_X1_joinShortChunks P_X1_joinShortChunks Q 64 [some (.inr (.inl (some 0))), some (.inl rt), some (.inl st), some (.inl c), some (.inl sp)] [] (rw_cs r'))) (p1 : (0 ≤ c ∧ c < 60) := by intros; (try unfold ab_r); omega) : ab_R E_X1_joinShortChunks P_X1_joinShortChunks Q 49 [some (.inr (.inl (some 0))), some (.inl rt), some (.inl st), some (.inl c), some (.inl sp)] [] (rw_cs (rK, rL, rT, rS, rn, rc, rw)) :=
  ab_R.steps [7, 49, 64, 105] 12 (show ((0 ≤ c ∧ c < 60) ∧ ab_cl sp_X1_settle [.inr (.inl (some 0)), .inl (c + 1), .inl (st + (rL c))] (rw_cs (rK, rL, rT, rS, rn, rc, rw)) (fun r_ k_ => k_.length = ((rw_cs (rK, rL, rT, rS, rn, rc, rw))).length → ab_R E_X1_joinShortChunks P_X1_joinShortChunks Q 64 [some (.inr (.inl (some 0))), some (.inl rt), some (.inl st), some (.inl c), some (.inl sp)] (ab_ret r_ []) k_)) from ⟨p1, ⟨_, l1, fun r_ k_ hz _ => by obtain ⟨r', rfl, rfl, hR⟩ := hz; exact hR⟩⟩)
set_option maxRecDepth 100000 in
theorem b_X1_joinShortChunks_64 {Q : ab_Q} {rt : Int} {st : Int} {c : Int} {sp : Int} {rK : Int → Int} {rL : Int → Int} {rT : Int → Int} {rS : Int → Int} {rn : Int} {rc : Int} {rw : Int} (l1 : sp_X1_closeChunk [.inr (.inl (some 0)), .inl (c + 1)] (rw_cs (rK, (ab_up rL c ((rL c) + (rL (c + 1)))), rT, rS, rn, rc, (rw + (rL (c + 1))))) (fun r_ k_ => ∃ (r' : rw_T), r_ = none ∧ k_ = (rw_cs r') ∧ ab_R E_X1_joinShortChunks P_X1_joinShortChunks Q 105 [some (.inr (.inl (some 0))), some (.inl rt), some (.inl st), some (.inl c), some (.inl sp)] [] (rw_cs r'))) (p1 : (0 ≤ (c + 1) ∧ (c + 1) < 60) := by intros; (try unfold ab_r); omega) (p2 : (0 ≤ c ∧ c < 60) := by intros; (try unfold ab_r); omega) : ab_R E_X1_joinShortChunks P_X1_joinShortChunks Q 64 [some (.inr (.inl (some 0))), some (.inl rt), some (.inl st), some (.inl c), some (.inl sp)] [] (rw_cs (rK, rL, rT, rS, rn, rc, rw)) :=
  ab_R.steps [7, 49, 64, 105] 30 (show ((0 ≤ (c + 1) ∧ (c + 1) < 60) ∧ ((0 ≤ c ∧ c < 60) ∧ ((0 ≤ (c + 1) ∧ (c + 1) < 60) ∧ ((0 ≤ c ∧ c < 60) ∧ ab_cl sp_X1_closeChunk [.inr (.inl (some 0)), .inl (c + 1)] (rw_cs (rK, (ab_up rL c ((rL c) + (rL (c + 1)))), rT, rS, rn, rc, (rw + (rL (c + 1))))) (fun r_ k_ => k_.length = ((rw_cs (rK, (ab_up rL c ((rL c) + (rL (c + 1)))), rT, rS, rn, rc, (rw + (rL (c + 1)))))).length → ab_R E_X1_joinShortChunks P_X1_joinShortChunks Q 105 [some (.inr (.inl (some 0))), some (.inl rt), some (.inl st), some (.inl c), some (.inl sp)] (ab_ret r_ []) k_))))) from ⟨p1, ⟨p2, ⟨p1, ⟨p2, ⟨_, l1, fun r_ k_ hz _ => by obtain ⟨r', rfl, rfl, hR⟩ := hz; exact hR⟩⟩⟩⟩⟩)
set_option maxRecDepth 100000 in
theorem b_X1_joinShortChunks_105 {Q : ab_Q} {rt : Int} {st : Int} {c : Int} {sp : Int} {rK : Int → Int} {rL : Int → Int} {rT : Int → Int} {rS : Int → Int} {rn : Int} {rc : Int} {rw : Int} (l1 : ab_R E_X1_joinShortChunks P_X1_joinShortChunks Q 7 [some (.inr (.inl (some 0))), some (.inl rt), some (.inl st), some (.inl c), some (.inl (sp + 1))] [] (rw_cs (rK, rL, rT, rS, rn, rc, rw)))  : ab_R E_X1_joinShortChunks P_X1_joinShortChunks Q 105 [some (.inr (.inl (some 0))), some (.inl rt), some (.inl st), some (.inl c), some (.inl sp)] [] (rw_cs (rK, rL, rT, rS, rn, rc, rw)) :=
  ab_R.steps [7, 49, 64, 105] 5 (show ab_R E_X1_joinShortChunks P_X1_joinShortChunks Q 7 [some (.inr (.inl (some 0))), some (.inl rt), some (.inl st), some (.inl c), some (.inl (sp + 1))] [] (rw_cs (rK, rL, rT, rS, rn, rc, rw)) from l1)
-- ===== RootChunks$Row.evenOut
def P_X1_evenOut : List ab_I := [(0, .aload_n 0, 1, []), (1, .invokevirtual 81, 4, []), (4, .istore_n 1, 5, []), (5, .aload_n 0, 6, []), (6, .iload_n 1, 7, []), (7, .invokevirtual 85, 10, []), (10, .aload_n 0, 11, []), (11, .iload_n 1, 12, []), (12, .invokevirtual 88, 15, []), (15, .return_, 16, [])]
def E_X1_evenOut : ab_E := (T_X1, [(1, (1, 1, [], 0, sp_X1_rootOfLength)), (7, (2, 1, [], 0, sp_X1_partLongChunks)), (12, (2, 1, [], 0, sp_X1_joinShortChunks))], [], 9)
def M_X1_evenOut : List (Nat × ab_MI) := [(1, mi_X1_rootOfLength), (7, mi_X1_partLongChunks), (12, mi_X1_joinShortChunks)]
def mi_X1_evenOut : ab_MI := (yX1_evenOut, cX1_evenOut, 2, ab_rty 9, 4, 143)
theorem pk_X1_evenOut : P_X1_evenOut.all (ab_okI cX1_evenOut) = true := by decide +kernel
theorem ck_X1_evenOut : P_X1_evenOut.all (ab_okC1 "RootChunks$Row" M_X1_evenOut E_X1_evenOut (4, 143)) = true := by decide +kernel
set_option maxRecDepth 100000 in
theorem b_X1_evenOut_0 {Q : ab_Q} {rK : Int → Int} {rL : Int → Int} {rT : Int → Int} {rS : Int → Int} {rn : Int} {rc : Int} {rw : Int} (l1 : sp_X1_rootOfLength [.inr (.inl (some 0))] (rw_cs (rK, rL, rT, rS, rn, rc, rw)) (fun r_ k_ => ∃ (x_ : Int), r_ = some (.inl x_) ∧ k_ = (rw_cs (rK, rL, rT, rS, rn, rc, rw)) ∧ ab_R E_X1_evenOut P_X1_evenOut Q 4 [some (.inr (.inl (some 0))), none] [.inl x_] (rw_cs (rK, rL, rT, rS, rn, rc, rw))))  : ab_R E_X1_evenOut P_X1_evenOut Q 0 [some (.inr (.inl (some 0))), none] [] (rw_cs (rK, rL, rT, rS, rn, rc, rw)) :=
  ab_R.steps [4, 10, 15] 3 (show ab_cl sp_X1_rootOfLength [.inr (.inl (some 0))] (rw_cs (rK, rL, rT, rS, rn, rc, rw)) (fun r_ k_ => k_.length = ((rw_cs (rK, rL, rT, rS, rn, rc, rw))).length → ab_R E_X1_evenOut P_X1_evenOut Q 4 [some (.inr (.inl (some 0))), none] (ab_ret r_ []) k_) from ⟨_, l1, fun r_ k_ hz _ => by obtain ⟨x_, rfl, rfl, hR⟩ := hz; exact hR⟩)
set_option maxRecDepth 100000 in
theorem b_X1_evenOut_4 {Q : ab_Q} {t0 : Int} {rK : Int → Int} {rL : Int → Int} {rT : Int → Int} {rS : Int → Int} {rn : Int} {rc : Int} {rw : Int} (l1 : sp_X1_partLongChunks [.inr (.inl (some 0)), .inl t0] (rw_cs (rK, rL, rT, rS, rn, rc, rw)) (fun r_ k_ => ∃ (r' : rw_T), r_ = none ∧ k_ = (rw_cs r') ∧ ab_R E_X1_evenOut P_X1_evenOut Q 10 [some (.inr (.inl (some 0))), some (.inl t0)] [] (rw_cs r')))  : ab_R E_X1_evenOut P_X1_evenOut Q 4 [some (.inr (.inl (some 0))), none] [.inl t0] (rw_cs (rK, rL, rT, rS, rn, rc, rw)) :=
  ab_R.steps [4, 10, 15] 5 (show ab_cl sp_X1_partLongChunks [.inr (.inl (some 0)), .inl t0] (rw_cs (rK, rL, rT, rS, rn, rc, rw)) (fun r_ k_ => k_.length = ((rw_cs (rK, rL, rT, rS, rn, rc, rw))).length → ab_R E_X1_evenOut P_X1_evenOut Q 10 [some (.inr (.inl (some 0))), some (.inl t0)] (ab_ret r_ []) k_) from ⟨_, l1, fun r_ k_ hz _ => by obtain ⟨r', rfl, rfl, hR⟩ := hz; exact hR⟩)
set_option maxRecDepth 100000 in
theorem b_X1_evenOut_10 {Q : ab_Q} {rt : Int} {rK : Int → Int} {rL : Int → Int} {rT : Int → Int} {rS : Int → Int} {rn : Int} {rc : Int} {rw : Int} (l1 : sp_X1_joinShortChunks [.inr (.inl (some 0)), .inl rt] (rw_cs (rK, rL, rT, rS, rn, rc, rw)) (fun r_ k_ => ∃ (r' : rw_T), r_ = none ∧ k_ = (rw_cs r') ∧ ab_R E_X1_evenOut P_X1_evenOut Q 15 [some (.inr (.inl (some 0))), some (.inl rt)] [] (rw_cs r')))  : ab_R E_X1_evenOut P_X1_evenOut Q 10 [some (.inr (.inl (some 0))), some (.inl rt)] [] (rw_cs (rK, rL, rT, rS, rn, rc, rw)) :=
  ab_R.steps [4, 10, 15] 4 (show ab_cl sp_X1_joinShortChunks [.inr (.inl (some 0)), .inl rt] (rw_cs (rK, rL, rT, rS, rn, rc, rw)) (fun r_ k_ => k_.length = ((rw_cs (rK, rL, rT, rS, rn, rc, rw))).length → ab_R E_X1_evenOut P_X1_evenOut Q 15 [some (.inr (.inl (some 0))), some (.inl rt)] (ab_ret r_ []) k_) from ⟨_, l1, fun r_ k_ hz _ => by obtain ⟨r', rfl, rfl, hR⟩ := hz; exact hR⟩)
set_option maxRecDepth 100000 in
theorem b_X1_evenOut_15 {Q : ab_Q} {rt : Int} {rK : Int → Int} {rL : Int → Int} {rT : Int → Int} {rS : Int → Int} {rn : Int} {rc : Int} {rw : Int} (l1 : Q none (rw_cs (rK, rL, rT, rS, rn, rc, rw)))  : ab_R E_X1_evenOut P_X1_evenOut Q 15 [some (.inr (.inl (some 0))), some (.inl rt)] [] (rw_cs (rK, rL, rT, rS, rn, rc, rw)) :=
  ab_R.steps [4, 10, 15] 2 (show Q none (rw_cs (rK, rL, rT, rS, rn, rc, rw)) from l1)
theorem vc_X1_rootOfLength {av : List ab_V} {cs : List ab_C} {Q : ab_Q} (h : sp_X1_rootOfLength av cs Q) : (ab_lv0 av).length ≤ 2 ∧ ab_R E_X1_rootOfLength P_X1_rootOfLength Q 0 (ab_ent av 2) [] cs := by
  obtain ⟨⟨K, L, T, S, n, cc, w⟩, q, rfl, rfl, hR, hW, hQ⟩ := h
  refine ⟨Nat.le_of_ble_eq_true rfl, ?_⟩
  have hfl := hW.2
  have hn : n = ((mq_flat q).length : Nat) := hR.2.2.2.2.1
  generalize (mq_flat q).length = z at hfl hn hQ
  have fin : ∀ x : Int, x = (mq_rt z : Int) → Q (some (.inl x)) (rw_cs (K, L, T, S, n, cc, w)) := fun x e => by rw [e]; exact hQ
  have f7 : ∀ x : Int, x = 7 → 49 ≤ z → ab_R E_X1_rootOfLength P_X1_rootOfLength Q 2 [some (.inr (.inl (some 0))), some (.inl x)] [] (rw_cs (K, L, T, S, n, cc, w)) := by
    intro x e g; subst e
    exact b_X1_rootOfLength_2 (fun _ => by omega) (fun _ _ => fin _ (mq_rt_is (by omega))) (fun _ _ => by omega)
  have f6 : ∀ x : Int, x = 6 → 36 ≤ z → ab_R E_X1_rootOfLength P_X1_rootOfLength Q 2 [some (.inr (.inl (some 0))), some (.inl x)] [] (rw_cs (K, L, T, S, n, cc, w)) := by
    intro x e g; subst e
    exact b_X1_rootOfLength_2 (fun _ => by omega) (fun _ _ => fin _ (mq_rt_is (by omega))) (fun _ _ => f7 _ (by omega) (by omega))
  have f5 : ∀ x : Int, x = 5 → 25 ≤ z → ab_R E_X1_rootOfLength P_X1_rootOfLength Q 2 [some (.inr (.inl (some 0))), some (.inl x)] [] (rw_cs (K, L, T, S, n, cc, w)) := by
    intro x e g; subst e
    exact b_X1_rootOfLength_2 (fun _ => by omega) (fun _ _ => fin _ (mq_rt_is (by omega))) (fun _ _ => f6 _ (by omega) (by omega))
  have f4 : ∀ x : Int, x = 4 → 16 ≤ z → ab_R E_X1_rootOfLength P_X1_rootOfLength Q 2 [some (.inr (.inl (some 0))), some (.inl x)] [] (rw_cs (K, L, T, S, n, cc, w)) := by
    intro x e g; subst e
    exact b_X1_rootOfLength_2 (fun _ => by omega) (fun _ _ => fin _ (mq_rt_is (by omega))) (fun _ _ => f5 _ (by omega) (by omega))
  have f3 : ∀ x : Int, x = 3 → 9 ≤ z → ab_R E_X1_rootOfLength P_X1_rootOfLength Q 2 [some (.inr (.inl (some 0))), some (.inl x)] [] (rw_cs (K, L, T, S, n, cc, w)) := by
    intro x e g; subst e
    exact b_X1_rootOfLength_2 (fun _ => by omega) (fun _ _ => fin _ (mq_rt_is (by omega))) (fun _ _ => f4 _ (by omega) (by omega))
  have f2 : ∀ x : Int, x = 2 → 4 ≤ z → ab_R E_X1_rootOfLength P_X1_rootOfLength Q 2 [some (.inr (.inl (some 0))), some (.inl x)] [] (rw_cs (K, L, T, S, n, cc, w)) := by
    intro x e g; subst e
    exact b_X1_rootOfLength_2 (fun _ => by omega) (fun _ _ => fin _ (mq_rt_is (by omega))) (fun _ _ => f3 _ (by omega) (by omega))
  refine b_X1_rootOfLength_0 ?_
  exact b_X1_rootOfLength_2 (fun _ => by omega) (fun _ _ => fin _ (mq_rt_is (by omega))) (fun _ _ => f2 _ (by omega) (by omega))
theorem mt_X1_rootOfLength (l : Launch) : ab_MT l mi_X1_rootOfLength sp_X1_rootOfLength := ab_MT.of (own := "RootChunks$Row") (E := E_X1_rootOfLength) (P := P_X1_rootOfLength) (M := M_X1_rootOfLength) (nL := 2) (ty := 0) (by decide) rfl rfl tk_X1 pk_X1_rootOfLength ck_X1_rootOfLength ab_CT'.nil (fun av cs Q h => vc_X1_rootOfLength h)
theorem vc_X1_partLongChunks {av : List ab_V} {cs : List ab_C} {Q : ab_Q} (h : sp_X1_partLongChunks av cs Q) : (ab_lv0 av).length ≤ 4 ∧ ab_R E_X1_partLongChunks P_X1_partLongChunks Q 0 (ab_ent av 4) [] cs := by
  obtain ⟨r, q, t, x, rfl, rfl, hR, hW, hx, h0, h7, hQ⟩ := h
  refine ⟨Nat.le_of_ble_eq_true rfl, ?_⟩
  have loop : ∀ (m : Nat) (A B : List mq_K) (r1 : rw_T) (c st : Int), m + A.length = 60 → mq_R r1 (A ++ B) → mq_W (A ++ B) → c = A.length → st = (mq_flat A).length →
      (∀ r' : rw_T, mq_R r' (A ++ (mq_pt t m B).1) → r'.2.2.2.2.2.2 = r1.2.2.2.2.2.2 + (mq_pt t m B).2 → Q none (rw_cs r')) →
      ab_R E_X1_partLongChunks P_X1_partLongChunks Q 4 [some (.inr (.inl (some 0))), some (.inl x), some (.inl st), some (.inl c)] [] (rw_cs r1) := by
    intro m
    induction m with
    | zero =>
      intro A B r1 c st g0 g1 g2 g3 g4 g5
      obtain ⟨K, L, T, S, n, cc, w⟩ := r1
      have hcc : cc = ((A ++ B).length : Nat) := g1.2.2.2.2.2
      have hcl := g2.chunks
      refine b_X1_partLongChunks_4 (fun _ => g5 _ g1 ?_) (fun _ _ => g5 _ g1 ?_) (fun _ _ _ => by omega) (fun _ _ _ => by omega)
      · show w = w + 0; omega
      · show w = w + 0; omega
    | succ m ih =>
      intro A B r1 c st g0 g1 g2 g3 g4 g5
      obtain ⟨K, L, T, S, n, cc, w⟩ := r1
      have hcc : cc = ((A ++ B).length : Nat) := g1.2.2.2.2.2
      have hcl := g2.chunks
      have hfl := g2.2
      rw [List.length_append] at hcc hcl
      cases B with
      | nil =>
        rw [List.length_nil] at hcc
        refine b_X1_partLongChunks_4 (fun _ => g5 _ g1 ?_) (fun _ _ => by omega) (fun _ _ _ => by omega) (fun _ _ _ => by omega)
        show w = w + 0; omega
      | cons k B =>
        rw [List.length_cons] at hcc hcl
        have e1 := g1.len (mq_at_app A k B)
        dsimp only at e1
        rw [← g3] at e1
        rw [mq_flat_mid, List.length_append, List.length_append] at hfl
        refine b_X1_partLongChunks_4 (fun _ => by omega) (fun _ _ => by omega) (fun _ _ hs => ?_) (fun _ _ hs => ?_)
        · refine b_X1_partLongChunks_42 (ih (A ++ [k]) B _ _ _ (by simp; omega) (by simpa using g1) (by simpa using g2) (by simp; omega) ?_ (fun r' q1 q2 => g5 r' ?_ ?_))
          · rw [mq_flat_app, mq_flat_cons]; simp [mq_flat]; simp [mq_flat] at g4; omega
          · unfold mq_pt
            rw [if_neg (by omega)]
            simpa using q1
          · unfold mq_pt
            rw [if_neg (by omega)]
            exact q2
        · refine ⟨_, A, k, B, _, _, rfl, rfl, g1, g2, g3, g4, fun r2 hr2 hw2 => ⟨r2, rfl, rfl, ?_⟩⟩
          obtain ⟨K2, L2, T2, S2, n2, c2, w2⟩ := r2
          have W2 := mq_W_settle g2
          refine b_X1_partLongChunks_36 ⟨_, A, mq_row k, B, t, _, _, rfl, rfl, hr2, W2, g3, hx, by omega, by rw [mq_row_len]; omega, fun r3 hr3 hw3 => ⟨r3, rfl, rfl, ?_⟩⟩
          obtain ⟨K3, L3, T3, S3, n3, c3, w3⟩ := r3
          have e3 := hr3.len (mq_at_app A _ _)
          dsimp only at e3 hw2 hw3
          rw [← g3, List.length_take, mq_row_len] at e3
          rw [mq_row_len] at hw3
          have W3 : mq_W (A ++ ((mq_row k).take t, 0, 0) :: ((mq_row k).drop t, 0, 0) :: B) := by
            have ho := g2.1 k (by simp)
            refine mq_W_all g2 (fun y hy => ?_) ?_
            · rcases List.mem_append.mp hy with hy | hy
              · exact g2.1 y (List.mem_append_left _ hy)
              · rcases List.mem_cons.mp hy with rfl | hy
                · exact mq_ok_done (by rw [List.length_take, mq_row_len]; omega) (fun z hz => ho.2.2.2 z (List.mem_of_mem_take hz))
                · rcases List.mem_cons.mp hy with rfl | hy
                  · exact mq_ok_done (by rw [List.length_drop, mq_row_len]; omega) (fun z hz => ho.2.2.2 z (List.mem_of_mem_drop hz))
                  · exact g2.1 y (List.mem_append_right _ (List.mem_cons_of_mem _ hy))
            · rw [mq_all_app, mq_all_app, mq_all_cons, mq_all_cons, mq_all_cons, mq_row_done, mq_row_done, ← List.append_assoc ((mq_row k).take t), List.take_append_drop]
          refine b_X1_partLongChunks_42 (ih (A ++ [((mq_row k).take t, 0, 0)]) (((mq_row k).drop t, 0, 0) :: B) _ _ _ (by simp; omega) (by simpa using hr3) (by simpa using W3) (by simp; omega) ?_ (fun r' q1 q2 => g5 r' ?_ ?_))
          · rw [mq_flat_app, mq_flat_cons]; simp [mq_flat, mq_row_len]; simp [mq_flat] at g4; omega
          · unfold mq_pt
            rw [if_pos (by omega)]
            simpa using q1
          · unfold mq_pt
            rw [if_pos (by omega)]
            dsimp only at q2 ⊢
            omega
  obtain ⟨K, L, T, S, n, cc, w⟩ := r
  exact b_X1_partLongChunks_0 (loop 60 [] q _ 0 0 rfl hR hW rfl rfl hQ)
theorem mt_X1_partLongChunks (l : Launch) : ab_MT l mi_X1_partLongChunks sp_X1_partLongChunks := ab_MT.of (own := "RootChunks$Row") (E := E_X1_partLongChunks) (P := P_X1_partLongChunks) (M := M_X1_partLongChunks) (nL := 4) (ty := 9) (by decide) rfl rfl tk_X1 pk_X1_partLongChunks ck_X1_partLongChunks (ab_CT'.cons (mt_X1_settle l) (ab_CT'.cons (mt_X1_part l) ab_CT'.nil)) (fun av cs Q h => vc_X1_partLongChunks h)
theorem vc_X1_joinShortChunks {av : List ab_V} {cs : List ab_C} {Q : ab_Q} (h : sp_X1_joinShortChunks av cs Q) : (ab_lv0 av).length ≤ 5 ∧ ab_R E_X1_joinShortChunks P_X1_joinShortChunks Q 0 (ab_ent av 5) [] cs := by
  obtain ⟨r, q, t, x, rfl, rfl, hR, hW, hx, h0, h7, hQ⟩ := h
  refine ⟨Nat.le_of_ble_eq_true rfl, ?_⟩
  have loop : ∀ (B A : List mq_K) (k : mq_K) (r1 : rw_T) (c st sp : Int), sp + B.length < 60 → 0 ≤ sp → mq_R r1 (A ++ k :: B) → mq_W (A ++ k :: B) → c = A.length → st = (mq_flat A).length →
      (∀ r' : rw_T, mq_R r' (A ++ (mq_jn t k B).1) → r'.2.2.2.2.2.2 = r1.2.2.2.2.2.2 + (mq_jn t k B).2 → Q none (rw_cs r')) →
      ab_R E_X1_joinShortChunks P_X1_joinShortChunks Q 7 [some (.inr (.inl (some 0))), some (.inl x), some (.inl st), some (.inl c), some (.inl sp)] [] (rw_cs r1) := by
    intro B
    induction B with
    | nil =>
      intro A k r1 c st sp g0 g01 g1 g2 g3 g4 g5
      obtain ⟨K, L, T, S, n, cc, w⟩ := r1
      have hcc : cc = ((A ++ [k]).length : Nat) := g1.2.2.2.2.2
      have hcl := g2.chunks
      rw [List.length_append] at hcc hcl
      simp at hcc hcl g0
      refine b_X1_joinShortChunks_7 (fun _ => by omega) (fun _ _ => g5 _ g1 ?_) (fun _ _ _ => by omega) (fun _ _ _ => by omega)
      show w = w + 0; omega
    | cons k2 B ih =>
      intro A k r1 c st sp g0 g01 g1 g2 g3 g4 g5
      obtain ⟨K, L, T, S, n, cc, w⟩ := r1
      have hcc : cc = ((A ++ k :: k2 :: B).length : Nat) := g1.2.2.2.2.2
      have hcl := g2.chunks
      have hfl := g2.2
      rw [List.length_append] at hcc hcl
      rw [List.length_cons, List.length_cons] at hcc hcl
      rw [List.length_cons] at g0
      rw [mq_flat_mid, mq_flat_cons, List.length_append, List.length_append, List.length_append] at hfl
      have e1 := g1.len (mq_at_app A k (k2 :: B))
      have e2 := g1.len (c := A.length + 1) (k := k2) (by rw [List.getElem?_append_right (by omega), show A.length + 1 - A.length = 1 by omega]; rfl)
      dsimp only at e1 e2
      rw [← g3] at e1
      rw [show (((A.length + 1 : Nat)) : Int) = c + 1 by omega] at e2
      refine b_X1_joinShortChunks_7 (fun _ => by omega) (fun _ _ => by omega) (fun _ _ hs => ?_) (fun _ _ hs => ?_)
      · refine ih (A ++ [k]) k2 _ _ _ _ (by omega) (by omega) (by simpa using g1) (by simpa using g2) (by simp; omega) ?_ (fun r' q1 q2 => g5 r' ?_ ?_)
        · rw [mq_flat_app, mq_flat_cons]; simp [mq_flat]; simp [mq_flat] at g4; omega
        · unfold mq_jn
          rw [if_neg (by omega)]
          simpa using q1
        · unfold mq_jn
          rw [if_neg (by omega)]
          exact q2
      · refine ⟨_, A, k, k2 :: B, _, _, rfl, rfl, g1, g2, g3, g4, fun r2 hr2 hw2 => ⟨r2, rfl, rfl, ?_⟩⟩
        obtain ⟨K2, L2, T2, S2, n2, c2, w2⟩ := r2
        have W2 := mq_W_settle g2
        have hr2' : mq_R (K2, L2, T2, S2, n2, c2, w2) ((A ++ [(mq_row k, 0, 0)]) ++ k2 :: B) := by simpa using hr2
        have W2' : mq_W ((A ++ [(mq_row k, 0, 0)]) ++ k2 :: B) := by simpa using W2
        have e3 := hr2.len (mq_at_app A _ _)
        dsimp only at e3 hw2
        rw [← g3, mq_row_len] at e3
        refine b_X1_joinShortChunks_49 ⟨_, A ++ [(mq_row k, 0, 0)], k2, B, _, _, rfl, rfl, hr2', W2', by simp; omega, ?_, fun r3 hr3 hw3 => ⟨r3, rfl, rfl, ?_⟩⟩
        · rw [mq_flat_app, mq_flat_cons]; simp [mq_flat, mq_row_len]; simp [mq_flat] at g4; omega
        obtain ⟨K3, L3, T3, S3, n3, c3, w3⟩ := r3
        have W3 := mq_W_settle W2'
        have hr3' : mq_R (K3, L3, T3, S3, n3, c3, w3) (A ++ (mq_row k, 0, 0) :: (mq_row k2, 0, 0) :: B) := by simpa using hr3
        have W3' : mq_W (A ++ (mq_row k, 0, 0) :: (mq_row k2, 0, 0) :: B) := by simpa using W3
        have hc3 : c3 = ((A ++ (mq_row k, 0, 0) :: (mq_row k2, 0, 0) :: B).length : Nat) := hr3'.2.2.2.2.2
        rw [List.length_append] at hc3
        rw [List.length_cons, List.length_cons] at hc3
        have e4 := hr3'.len (mq_at_app A _ _)
        have e5 := hr3'.len (c := A.length + 1) (k := (mq_row k2, 0, 0)) (by rw [List.getElem?_append_right (by omega), show A.length + 1 - A.length = 1 by omega]; rfl)
        dsimp only at e4 e5 hw3
        rw [← g3, mq_row_len] at e4
        rw [show (((A.length + 1 : Nat)) : Int) = c + 1 by omega, mq_row_len] at e5
        refine b_X1_joinShortChunks_64 ⟨_, _, _, _, _, _, _, _, rfl, rfl, by omega, by omega, by omega, _, rfl, rfl, ?_⟩
        have hj := mq_R_join (w' := w3 + L3 (c + 1)) hr3'
        rw [mq_row_len, mq_row_len, ← g3, ← e4, ← e5] at hj
        have W4 : mq_W (A ++ (mq_row k ++ mq_row k2, 0, 0) :: B) := by
          have o1 := g2.1 k (by simp)
          have o2 := g2.1 k2 (by simp)
          refine mq_W_all g2 (fun y hy => ?_) ?_
          · rcases List.mem_append.mp hy with hy | hy
            · exact g2.1 y (List.mem_append_left _ hy)
            · rcases List.mem_cons.mp hy with rfl | hy
              · refine mq_ok_done (by rw [List.length_append, mq_row_len, mq_row_len]; have := o1.1; omega) (fun z hz => ?_)
                rcases List.mem_append.mp hz with hz | hz
                · exact o1.2.2.2 z hz
                · exact o2.2.2.2 z hz
              · exact g2.1 y (by simp [hy])
          · rw [mq_all_app, mq_all_app, mq_all_cons, mq_all_cons, mq_all_cons, mq_row_done, List.append_assoc]
        refine b_X1_joinShortChunks_105 (ih A (mq_row k ++ mq_row k2, 0, 0) _ _ _ _ (by omega) (by omega) hj W4 g3 g4 (fun r' q1 q2 => g5 r' ?_ ?_))
        · unfold mq_jn
          rw [if_pos (by omega)]
          exact q1
        · unfold mq_jn
          rw [if_pos (by omega)]
          dsimp only at q2 ⊢
          omega
  obtain ⟨K, L, T, S, n, cc, w⟩ := r
  refine b_X1_joinShortChunks_0 ?_
  have hcl := hW.chunks
  cases q with
  | nil =>
    have hcc : cc = 0 := hR.2.2.2.2.2
    refine b_X1_joinShortChunks_7 (fun _ => by omega) (fun _ _ => hQ _ hR ?_) (fun _ _ _ => by omega) (fun _ _ _ => by omega)
    show w = w + 0; omega
  | cons k q =>
    rw [List.length_cons] at hcl
    exact loop q [] k _ 0 0 0 (by omega) (by omega) hR hW rfl rfl hQ
theorem mt_X1_joinShortChunks (l : Launch) : ab_MT l mi_X1_joinShortChunks sp_X1_joinShortChunks := ab_MT.of (own := "RootChunks$Row") (E := E_X1_joinShortChunks) (P := P_X1_joinShortChunks) (M := M_X1_joinShortChunks) (nL := 5) (ty := 9) (by decide) rfl rfl tk_X1 pk_X1_joinShortChunks ck_X1_joinShortChunks (ab_CT'.cons (mt_X1_settle l) (ab_CT'.cons (mt_X1_settle l) (ab_CT'.cons (mt_X1_closeChunk l) ab_CT'.nil))) (fun av cs Q h => vc_X1_joinShortChunks h)
theorem vc_X1_evenOut {av : List ab_V} {cs : List ab_C} {Q : ab_Q} (h : sp_X1_evenOut av cs Q) : (ab_lv0 av).length ≤ 2 ∧ ab_R E_X1_evenOut P_X1_evenOut Q 0 (ab_ent av 2) [] cs := by
  obtain ⟨⟨K, L, T, S, n, cc, w⟩, q, rfl, rfl, hR, hW, hQ⟩ := h
  refine ⟨Nat.le_of_ble_eq_true rfl, ?_⟩
  have hrt := mq_rt_in (mq_flat q).length
  refine b_X1_evenOut_0 ⟨_, q, rfl, rfl, hR, hW, _, rfl, rfl, ?_⟩
  refine b_X1_evenOut_4 ⟨_, q, mq_rt (mq_flat q).length, _, rfl, rfl, hR, hW, rfl, hrt.1, hrt.2, fun r2 hr2 hw2 => ⟨r2, rfl, rfl, ?_⟩⟩
  obtain ⟨K2, L2, T2, S2, n2, c2, w2⟩ := r2
  refine b_X1_evenOut_10 ⟨_, _, mq_rt (mq_flat q).length, _, rfl, rfl, hr2, mq_pt_W hrt.1 hW, rfl, hrt.1, hrt.2, fun r3 hr3 hw3 => ⟨r3, rfl, rfl, ?_⟩⟩
  obtain ⟨K3, L3, T3, S3, n3, c3, w3⟩ := r3
  refine b_X1_evenOut_15 (hQ _ hr3 ?_)
  dsimp only at hw2 hw3 ⊢
  unfold mq_ev
  dsimp only
  omega
theorem mt_X1_evenOut (l : Launch) : ab_MT l mi_X1_evenOut sp_X1_evenOut := ab_MT.of (own := "RootChunks$Row") (E := E_X1_evenOut) (P := P_X1_evenOut) (M := M_X1_evenOut) (nL := 2) (ty := 9) (by decide) rfl rfl tk_X1 pk_X1_evenOut ck_X1_evenOut (ab_CT'.cons (mt_X1_rootOfLength l) (ab_CT'.cons (mt_X1_partLongChunks l) (ab_CT'.cons (mt_X1_joinShortChunks l) ab_CT'.nil))) (fun av cs Q h => vc_X1_evenOut h)
end
section
def sp_X1_insert : ab_Sp := fun av cs Q => ∃ (r : rw_T) (q : List mq_K) (d : Nat) (p v : Int), av = [.inr (.inl (some 0)), .inl p, .inl v] ∧ cs = rw_cs r ∧ mq_R r q ∧ mq_W q ∧ p = d ∧ d ≤ (mq_flat q).length ∧ (mq_flat q).length < 60 ∧
  ∀ r' : rw_T, mq_R r' (mq_put q d v).1 → r'.2.2.2.2.2.2 = r.2.2.2.2.2.2 + (mq_put q d v).2 → Q none (rw_cs r')
def sp_X1_remove : ab_Sp := fun av cs Q => ∃ (r : rw_T) (q : List mq_K) (d : Nat) (p : Int), av = [.inr (.inl (some 0)), .inl p] ∧ cs = rw_cs r ∧ mq_R r q ∧ mq_W q ∧ p = d ∧ d < (mq_flat q).length ∧
  ∀ r' : rw_T, mq_R r' (mq_tak q d).1 → r'.2.2.2.2.2.2 = r.2.2.2.2.2.2 + (mq_tak q d).2 → Q none (rw_cs r')
def sp_X1_replace : ab_Sp := fun av cs Q => ∃ (r : rw_T) (q : List mq_K) (d : Nat) (p v : Int), av = [.inr (.inl (some 0)), .inl p, .inl v] ∧ cs = rw_cs r ∧ mq_R r q ∧ mq_W q ∧ p = d ∧ d < (mq_flat q).length ∧
  ∀ r' : rw_T, mq_R r' (mq_set q d v).1 → r'.2.2.2.2.2.2 = r.2.2.2.2.2.2 + (mq_set q d v).2 → Q none (rw_cs r')
def sp_X1_reverseChunks : ab_Sp := fun av cs Q => ∃ (r : rw_T) (A M B : List mq_K) (a b : Int), av = [.inr (.inl (some 0)), .inl a, .inl b] ∧ cs = rw_cs r ∧ mq_R r (A ++ (M ++ B)) ∧ mq_W (A ++ (M ++ B)) ∧ a = A.length ∧ b = A.length + M.length ∧
  ∀ r' : rw_T, mq_R r' (A ++ (M.reverse ++ B)) → r'.2.2.2.2.2.2 = r.2.2.2.2.2.2 → Q none (rw_cs r')
def sp_X1_exchangeChunks : ab_Sp := fun av cs Q => ∃ (r : rw_T) (A M1 M2 B : List mq_K) (a m b : Int), av = [.inr (.inl (some 0)), .inl a, .inl m, .inl b] ∧ cs = rw_cs r ∧ mq_R r (A ++ (M1 ++ (M2 ++ B))) ∧ mq_W (A ++ (M1 ++ (M2 ++ B))) ∧ a = A.length ∧ m = A.length + M1.length ∧ b = A.length + M1.length + M2.length ∧
  ∀ r' : rw_T, mq_R r' (A ++ (M2 ++ (M1 ++ B))) → r'.2.2.2.2.2.2 = r.2.2.2.2.2.2 → Q none (rw_cs r')
def sp_X1_turnSpan : ab_Sp := fun av cs Q => ∃ (r : rw_T) (q : List mq_K) (f n : Nat) (x y : Int), av = [.inr (.inl (some 0)), .inl x, .inl y] ∧ cs = rw_cs r ∧ mq_R r q ∧ mq_W q ∧ x = f ∧ y + 1 = x + n ∧ f + n ≤ (mq_flat q).length ∧
  ∀ r' : rw_T, mq_R r' (mq_trn q f n).1 → r'.2.2.2.2.2.2 = r.2.2.2.2.2.2 + (mq_trn q f n).2 → Q none (rw_cs r')
def sp_X1_addToSpan : ab_Sp := fun av cs Q => ∃ (r : rw_T) (q : List mq_K) (f n : Nat) (x y v : Int), av = [.inr (.inl (some 0)), .inl x, .inl y, .inl v] ∧ cs = rw_cs r ∧ mq_R r q ∧ mq_W q ∧ x = f ∧ y + 1 = x + n ∧ f + n ≤ (mq_flat q).length ∧
  ∀ r' : rw_T, mq_R r' (mq_add q f n v).1 → r'.2.2.2.2.2.2 = r.2.2.2.2.2.2 + (mq_add q f n v).2 → Q none (rw_cs r')
def sp_X1_moveSpan : ab_Sp := fun av cs Q => ∃ (r : rw_T) (q : List mq_K) (f n d : Nat) (x y p : Int), av = [.inr (.inl (some 0)), .inl x, .inl y, .inl p] ∧ cs = rw_cs r ∧ mq_R r q ∧ mq_W q ∧ x = f ∧ y + 1 = x + n ∧ f + n ≤ (mq_flat q).length ∧ p = d ∧ d + n ≤ (mq_flat q).length ∧
  ∀ r' : rw_T, mq_R r' (mq_mov q f n d).1 → r'.2.2.2.2.2.2 = r.2.2.2.2.2.2 + (mq_mov q f n d).2 → Q none (rw_cs r')
-- ===== RootChunks$Row.insert
def P_X1_insert : List ab_I := [(0, .aload_n 0, 1, []), (1, .getfield 24, 4, []), (4, .bipush 60, 6, []), (6, .if_icmp .lt 4, 9, [((0 : Int), 10)]), (9, .return_, 10, []), (10, .aload_n 0, 11, []), (11, .iload_n 1, 12, []), (12, .invokevirtual 53, 15, []), (15, .istore_n 3, 16, []), (16, .aload_n 0, 17, []), (17, .getfield 24, 20, []), (20, .istore 4, 22, []), (22, .iload 4, 24, []), (24, .iload_n 1, 25, []), (25, .if_icmp .le 25, 28, [((0 : Int), 50)]), (28, .aload_n 0, 29, []), (29, .getfield 9, 32, []), (32, .iload 4, 34, []), (34, .aload_n 0, 35, []), (35, .getfield 9, 38, []), (38, .iload 4, 40, []), (40, .iconst 1, 41, []), (41, .isub, 42, []), (42, .iaload, 43, []), (43, .iastore, 44, []), (44, .iinc 4 (-1), 47, []), (47, .goto (-25), 50, [((0 : Int), 22)]), (50, .aload_n 0, 51, []), (51, .getfield 9, 54, []), (54, .iload_n 1, 55, []), (55, .iload_n 2, 56, []), (56, .iastore, 57, []), (57, .aload_n 0, 58, []), (58, .dup, 59, []), (59, .getfield 24, 62, []), (62, .iconst 1, 63, []), (63, .iadd, 64, []), (64, .putfield 24, 67, []), (67, .aload_n 0, 68, []), (68, .iload_n 3, 69, []), (69, .iconst 1, 70, []), (70, .invokevirtual 56, 73, []), (73, .aload_n 0, 74, []), (74, .dup, 75, []), (75, .getfield 31, 78, []), (78, .iconst 1, 79, []), (79, .iadd, 80, []), (80, .putfield 31, 83, []), (83, .return_, 84, [])]
def E_X1_insert : ab_E := (T_X1, [(12, (2, 1, [], 0, sp_X1_cutAt)), (70, (3, 1, [], 0, sp_X1_openChunk))], [], 9)
def M_X1_insert : List (Nat × ab_MI) := [(12, mi_X1_cutAt), (70, mi_X1_openChunk)]
def mi_X1_insert : ab_MI := (yX1_insert, cX1_insert, 5, ab_rty 9, 4, 142)
theorem pk_X1_insert : P_X1_insert.all (ab_okI cX1_insert) = true := by decide +kernel
theorem ck_X1_insert : P_X1_insert.all (ab_okC1 "RootChunks$Row" M_X1_insert E_X1_insert (4, 142)) = true := by decide +kernel
set_option maxRecDepth 100000 in
theorem b_X1_insert_0 {Q : ab_Q} {p : Int} {v : Int} {rK : Int → Int} {rL : Int → Int} {rT : Int → Int} {rS : Int → Int} {rn : Int} {rc : Int} {rw : Int} (l1 : rn < (60 : Int) → sp_X1_cutAt [.inr (.inl (some 0)), .inl p] (rw_cs (rK, rL, rT, rS, rn, rc, rw)) (fun r_ k_ => ∃ (x_ : Int), ∃ (r' : rw_T), r_ = some (.inl x_) ∧ k_ = (rw_cs r') ∧ ab_R E_X1_insert P_X1_insert Q 15 [some (.inr (.inl (some 0))), some (.inl p), some (.inl v), none, none] [.inl x_] (rw_cs r'))) (l2 : (60 : Int) ≤ rn → Q none (rw_cs (rK, rL, rT, rS, rn, rc, rw))) (p1 : (ab_r rn ∧ ab_r 60) := by intros; (try unfold ab_r); omega) : ab_R E_X1_insert P_X1_insert Q 0 [some (.inr (.inl (some 0))), some (.inl p), some (.inl v), none, none] [] (rw_cs (rK, rL, rT, rS, rn, rc, rw)) :=
  ab_R.steps [15, 22, 73] 8 (show ((ab_r rn ∧ ab_r 60) ∧ ((rn < (60 : Int) → ab_cl sp_X1_cutAt [.inr (.inl (some 0)), .inl p] (rw_cs (rK, rL, rT, rS, rn, rc, rw)) (fun r_ k_ => k_.length = ((rw_cs (rK, rL, rT, rS, rn, rc, rw))).length → ab_R E_X1_insert P_X1_insert Q 15 [some (.inr (.inl (some 0))), some (.inl p), some (.inl v), none, none] (ab_ret r_ []) k_)) ∧ ((60 : Int) ≤ rn → Q none (rw_cs (rK, rL, rT, rS, rn, rc, rw))))) from ⟨p1, ⟨fun h1 => ⟨_, (l1 h1), fun r_ k_ hz _ => by obtain ⟨x_, r', rfl, rfl, hR⟩ := hz; exact hR⟩, fun h2 => (l2 h2)⟩⟩)
set_option maxRecDepth 100000 in
theorem b_X1_insert_15 {Q : ab_Q} {p : Int} {v : Int} {t0 : Int} {rK : Int → Int} {rL : Int → Int} {rT : Int → Int} {rS : Int → Int} {rn : Int} {rc : Int} {rw : Int} (l1 : ab_R E_X1_insert P_X1_insert Q 22 [some (.inr (.inl (some 0))), some (.inl p), some (.inl v), some (.inl t0), some (.inl rn)] [] (rw_cs (rK, rL, rT, rS, rn, rc, rw)))  : ab_R E_X1_insert P_X1_insert Q 15 [some (.inr (.inl (some 0))), some (.inl p), some (.inl v), none, none] [.inl t0] (rw_cs (rK, rL, rT, rS, rn, rc, rw)) :=
  ab_R.steps [15, 22, 73] 6 (show ab_R E_X1_insert P_X1_insert Q 22 [some (.inr (.inl (some 0))), some (.inl p), some (.inl v), some (.inl t0), some (.inl rn)] [] (rw_cs (rK, rL, rT, rS, rn, rc, rw)) from l1)
set_option maxRecDepth 100000 in
theorem b_X1_insert_22 {Q : ab_Q} {p : Int} {v : Int} {k : Int} {i : Int} {rK : Int → Int} {rL : Int → Int} {rT : Int → Int} {rS : Int → Int} {rn : Int} {rc : Int} {rw : Int} (l1 : i ≤ p → sp_X1_openChunk [.inr (.inl (some 0)), .inl k, .inl 1] (rw_cs ((ab_up rK p v), rL, rT, rS, (rn + 1), rc, rw)) (fun r_ k_ => ∃ (r' : rw_T), r_ = none ∧ k_ = (rw_cs r') ∧ ab_R E_X1_insert P_X1_insert Q 73 [some (.inr (.inl (some 0))), some (.inl p), some (.inl v), some (.inl k), some (.inl i)] [] (rw_cs r'))) (l2 : p < i → ab_R E_X1_insert P_X1_insert Q 22 [some (.inr (.inl (some 0))), some (.inl p), some (.inl v), some (.inl k), some (.inl (i + (-1)))] [] (rw_cs ((ab_up rK i (rK (i - 1))), rL, rT, rS, rn, rc, rw))) (p1 : (ab_r i ∧ ab_r p) := by intros; (try unfold ab_r); omega) (p2 : i ≤ p → (0 ≤ p ∧ p < 60) := by intros; (try unfold ab_r); omega) (p3 : p < i → (0 ≤ (i - 1) ∧ (i - 1) < 60) := by intros; (try unfold ab_r); omega) (p4 : p < i → (0 ≤ i ∧ i < 60) := by intros; (try unfold ab_r); omega) : ab_R E_X1_insert P_X1_insert Q 22 [some (.inr (.inl (some 0))), some (.inl p), some (.inl v), some (.inl k), some (.inl i)] [] (rw_cs (rK, rL, rT, rS, rn, rc, rw)) :=
  ab_R.steps [15, 22, 73] 19 (show ((ab_r i ∧ ab_r p) ∧ ((i ≤ p → ((0 ≤ p ∧ p < 60) ∧ ab_cl sp_X1_openChunk [.inr (.inl (some 0)), .inl k, .inl 1] (rw_cs ((ab_up rK p v), rL, rT, rS, (rn + 1), rc, rw)) (fun r_ k_ => k_.length = ((rw_cs ((ab_up rK p v), rL, rT, rS, (rn + 1), rc, rw))).length → ab_R E_X1_insert P_X1_insert Q 73 [some (.inr (.inl (some 0))), some (.inl p), some (.inl v), some (.inl k), some (.inl i)] (ab_ret r_ []) k_))) ∧ (p < i → ((0 ≤ (i - 1) ∧ (i - 1) < 60) ∧ ((0 ≤ i ∧ i < 60) ∧ ab_R E_X1_insert P_X1_insert Q 22 [some (.inr (.inl (some 0))), some (.inl p), some (.inl v), some (.inl k), some (.inl (i + (-1)))] [] (rw_cs ((ab_up rK i (rK (i - 1))), rL, rT, rS, rn, rc, rw))))))) from ⟨p1, ⟨fun h1 => ⟨(p2 h1), ⟨_, (l1 h1), fun r_ k_ hz _ => by obtain ⟨r', rfl, rfl, hR⟩ := hz; exact hR⟩⟩, fun h2 => ⟨(p3 h2), ⟨(p4 h2), (l2 h2)⟩⟩⟩⟩)
set_option maxRecDepth 100000 in
theorem b_X1_insert_73 {Q : ab_Q} {p : Int} {v : Int} {k : Int} {i : Int} {rK : Int → Int} {rL : Int → Int} {rT : Int → Int} {rS : Int → Int} {rn : Int} {rc : Int} {rw : Int} (l1 : Q none (rw_cs (rK, rL, rT, rS, rn, rc, (rw + 1))))  : ab_R E_X1_insert P_X1_insert Q 73 [some (.inr (.inl (some 0))), some (.inl p), some (.inl v), some (.inl k), some (.inl i)] [] (rw_cs (rK, rL, rT, rS, rn, rc, rw)) :=
  ab_R.steps [15, 22, 73] 8 (show Q none (rw_cs (rK, rL, rT, rS, rn, rc, (rw + 1))) from l1)
-- ===== RootChunks$Row.remove
def P_X1_remove : List ab_I := [(0, .aload_n 0, 1, []), (1, .iload_n 1, 2, []), (2, .invokevirtual 53, 5, []), (5, .istore_n 2, 6, []), (6, .aload_n 0, 7, []), (7, .iload_n 1, 8, []), (8, .iconst 1, 9, []), (9, .iadd, 10, []), (10, .invokevirtual 53, 13, []), (13, .pop, 14, []), (14, .iload_n 1, 15, []), (15, .iconst 1, 16, []), (16, .iadd, 17, []), (17, .istore_n 3, 18, []), (18, .iload_n 3, 19, []), (19, .aload_n 0, 20, []), (20, .getfield 24, 23, []), (23, .if_icmp .ge 23, 26, [((0 : Int), 46)]), (26, .aload_n 0, 27, []), (27, .getfield 9, 30, []), (30, .iload_n 3, 31, []), (31, .iconst 1, 32, []), (32, .isub, 33, []), (33, .aload_n 0, 34, []), (34, .getfield 9, 37, []), (37, .iload_n 3, 38, []), (38, .iaload, 39, []), (39, .iastore, 40, []), (40, .iinc 3 1, 43, []), (43, .goto (-25), 46, [((0 : Int), 18)]), (46, .aload_n 0, 47, []), (47, .dup, 48, []), (48, .getfield 24, 51, []), (51, .iconst 1, 52, []), (52, .isub, 53, []), (53, .putfield 24, 56, []), (56, .aload_n 0, 57, []), (57, .iload_n 2, 58, []), (58, .invokevirtual 60, 61, []), (61, .return_, 62, [])]
def E_X1_remove : ab_E := (T_X1, [(2, (2, 1, [], 0, sp_X1_cutAt)), (10, (2, 1, [], 0, sp_X1_cutAt)), (58, (2, 1, [], 0, sp_X1_closeChunk))], [], 9)
def M_X1_remove : List (Nat × ab_MI) := [(2, mi_X1_cutAt), (10, mi_X1_cutAt), (58, mi_X1_closeChunk)]
def mi_X1_remove : ab_MI := (yX1_remove, cX1_remove, 4, ab_rty 9, 4, 142)
theorem pk_X1_remove : P_X1_remove.all (ab_okI cX1_remove) = true := by decide +kernel
theorem ck_X1_remove : P_X1_remove.all (ab_okC1 "RootChunks$Row" M_X1_remove E_X1_remove (4, 142)) = true := by decide +kernel
set_option maxRecDepth 100000 in
theorem b_X1_remove_0 {Q : ab_Q} {p : Int} {rK : Int → Int} {rL : Int → Int} {rT : Int → Int} {rS : Int → Int} {rn : Int} {rc : Int} {rw : Int} (l1 : sp_X1_cutAt [.inr (.inl (some 0)), .inl p] (rw_cs (rK, rL, rT, rS, rn, rc, rw)) (fun r_ k_ => ∃ (x_ : Int), ∃ (r' : rw_T), r_ = some (.inl x_) ∧ k_ = (rw_cs r') ∧ ab_R E_X1_remove P_X1_remove Q 5 [some (.inr (.inl (some 0))), some (.inl p), none, none] [.inl x_] (rw_cs r')))  : ab_R E_X1_remove P_X1_remove Q 0 [some (.inr (.inl (some 0))), some (.inl p), none, none] [] (rw_cs (rK, rL, rT, rS, rn, rc, rw)) :=
  ab_R.steps [5, 13, 18, 61] 4 (show ab_cl sp_X1_cutAt [.inr (.inl (some 0)), .inl p] (rw_cs (rK, rL, rT, rS, rn, rc, rw)) (fun r_ k_ => k_.length = ((rw_cs (rK, rL, rT, rS, rn, rc, rw))).length → ab_R E_X1_remove P_X1_remove Q 5 [some (.inr (.inl (some 0))), some (.inl p), none, none] (ab_ret r_ []) k_) from ⟨_, l1, fun r_ k_ hz _ => by obtain ⟨x_, r', rfl, rfl, hR⟩ := hz; exact hR⟩)
set_option maxRecDepth 100000 in
theorem b_X1_remove_5 {Q : ab_Q} {p : Int} {t0 : Int} {rK : Int → Int} {rL : Int → Int} {rT : Int → Int} {rS : Int → Int} {rn : Int} {rc : Int} {rw : Int} (l1 : sp_X1_cutAt [.inr (.inl (some 0)), .inl (p + 1)] (rw_cs (rK, rL, rT, rS, rn, rc, rw)) (fun r_ k_ => ∃ (x_ : Int), ∃ (r' : rw_T), r_ = some (.inl x_) ∧ k_ = (rw_cs r') ∧ ab_R E_X1_remove P_X1_remove Q 13 [some (.inr (.inl (some 0))), some (.inl p), some (.inl t0), none] [.inl x_] (rw_cs r')))  : ab_R E_X1_remove P_X1_remove Q 5 [some (.inr (.inl (some 0))), some (.inl p), none, none] [.inl t0] (rw_cs (rK, rL, rT, rS, rn, rc, rw)) :=
  ab_R.steps [5, 13, 18, 61] 7 (show ab_cl sp_X1_cutAt [.inr (.inl (some 0)), .inl (p + 1)] (rw_cs (rK, rL, rT, rS, rn, rc, rw)) (fun r_ k_ => k_.length = ((rw_cs (rK, rL, rT, rS, rn, rc, rw))).length → ab_R E_X1_remove P_X1_remove Q 13 [some (.inr (.inl (some 0))), some (.inl p), some (.inl t0), none] (ab_ret r_ []) k_) from ⟨_, l1, fun r_ k_ hz _ => by obtain ⟨x_, r', rfl, rfl, hR⟩ := hz; exact hR⟩)
set_option maxRecDepth 100000 in
theorem b_X1_remove_13 {Q : ab_Q} {p : Int} {k : Int} {t0 : Int} {rK : Int → Int} {rL : Int → Int} {rT : Int → Int} {rS : Int → Int} {rn : Int} {rc : Int} {rw : Int} (l1 : ab_R E_X1_remove P_X1_remove Q 18 [some (.inr (.inl (some 0))), some (.inl p), some (.inl k), some (.inl (p + 1))] [] (rw_cs (rK, rL, rT, rS, rn, rc, rw)))  : ab_R E_X1_remove P_X1_remove Q 13 [some (.inr (.inl (some 0))), some (.inl p), some (.inl k), none] [.inl t0] (rw_cs (rK, rL, rT, rS, rn, rc, rw)) :=
  ab_R.steps [5, 13, 18, 61] 7 (show ab_R E_X1_remove P_X1_remove Q 18 [some (.inr (.inl (some 0))), some (.inl p), some (.inl k), some (.inl (p + 1))] [] (rw_cs (rK, rL, rT, rS, rn, rc, rw)) from l1)
set_option maxRecDepth 100000 in
theorem b_X1_remove_18 {Q : ab_Q} {p : Int} {k : Int} {i : Int} {rK : Int → Int} {rL : Int → Int} {rT : Int → Int} {rS : Int → Int} {rn : Int} {rc : Int} {rw : Int} (l1 : rn ≤ i → sp_X1_closeChunk [.inr (.inl (some 0)), .inl k] (rw_cs (rK, rL, rT, rS, (rn - 1), rc, rw)) (fun r_ k_ => ∃ (r' : rw_T), r_ = none ∧ k_ = (rw_cs r') ∧ ab_R E_X1_remove P_X1_remove Q 61 [some (.inr (.inl (some 0))), some (.inl p), some (.inl k), some (.inl i)] [] (rw_cs r'))) (l2 : i < rn → ab_R E_X1_remove P_X1_remove Q 18 [some (.inr (.inl (some 0))), some (.inl p), some (.inl k), some (.inl (i + 1))] [] (rw_cs ((ab_up rK (i - 1) (rK i)), rL, rT, rS, rn, rc, rw))) (p1 : (ab_r i ∧ ab_r rn) := by intros; (try unfold ab_r); omega) (p2 : i < rn → (0 ≤ i ∧ i < 60) := by intros; (try unfold ab_r); omega) (p3 : i < rn → (0 ≤ (i - 1) ∧ (i - 1) < 60) := by intros; (try unfold ab_r); omega) : ab_R E_X1_remove P_X1_remove Q 18 [some (.inr (.inl (some 0))), some (.inl p), some (.inl k), some (.inl i)] [] (rw_cs (rK, rL, rT, rS, rn, rc, rw)) :=
  ab_R.steps [5, 13, 18, 61] 18 (show ((ab_r i ∧ ab_r rn) ∧ ((rn ≤ i → ab_cl sp_X1_closeChunk [.inr (.inl (some 0)), .inl k] (rw_cs (rK, rL, rT, rS, (rn - 1), rc, rw)) (fun r_ k_ => k_.length = ((rw_cs (rK, rL, rT, rS, (rn - 1), rc, rw))).length → ab_R E_X1_remove P_X1_remove Q 61 [some (.inr (.inl (some 0))), some (.inl p), some (.inl k), some (.inl i)] (ab_ret r_ []) k_)) ∧ (i < rn → ((0 ≤ i ∧ i < 60) ∧ ((0 ≤ (i - 1) ∧ (i - 1) < 60) ∧ ab_R E_X1_remove P_X1_remove Q 18 [some (.inr (.inl (some 0))), some (.inl p), some (.inl k), some (.inl (i + 1))] [] (rw_cs ((ab_up rK (i - 1) (rK i)), rL, rT, rS, rn, rc, rw))))))) from ⟨p1, ⟨fun h1 => ⟨_, (l1 h1), fun r_ k_ hz _ => by obtain ⟨r', rfl, rfl, hR⟩ := hz; exact hR⟩, fun h2 => ⟨(p2 h2), ⟨(p3 h2), (l2 h2)⟩⟩⟩⟩)
set_option maxRecDepth 100000 in
theorem b_X1_remove_61 {Q : ab_Q} {p : Int} {k : Int} {i : Int} {rK : Int → Int} {rL : Int → Int} {rT : Int → Int} {rS : Int → Int} {rn : Int} {rc : Int} {rw : Int} (l1 : Q none (rw_cs (rK, rL, rT, rS, rn, rc, rw)))  : ab_R E_X1_remove P_X1_remove Q 61 [some (.inr (.inl (some 0))), some (.inl p), some (.inl k), some (.inl i)] [] (rw_cs (rK, rL, rT, rS, rn, rc, rw)) :=
  ab_R.steps [5, 13, 18, 61] 2 (show Q none (rw_cs (rK, rL, rT, rS, rn, rc, rw)) from l1)
-- ===== RootChunks$Row.replace
def P_X1_replace : List ab_I := [(0, .aload_n 0, 1, []), (1, .iload_n 1, 2, []), (2, .invokevirtual 40, 5, []), (5, .istore_n 3, 6, []), (6, .aload_n 0, 7, []), (7, .iload_n 3, 8, []), (8, .aload_n 0, 9, []), (9, .iload_n 3, 10, []), (10, .invokevirtual 44, 13, []), (13, .invokevirtual 64, 16, []), (16, .aload_n 0, 17, []), (17, .getfield 9, 20, []), (20, .iload_n 1, 21, []), (21, .iload_n 2, 22, []), (22, .iastore, 23, []), (23, .aload_n 0, 24, []), (24, .dup, 25, []), (25, .getfield 31, 28, []), (28, .iconst 1, 29, []), (29, .iadd, 30, []), (30, .putfield 31, 33, []), (33, .return_, 34, [])]
def E_X1_replace : ab_E := (T_X1, [(2, (2, 1, [], 0, sp_X1_chunkHolding)), (10, (2, 1, [], 0, sp_X1_startOf)), (13, (3, 1, [], 0, sp_X1_settle))], [], 9)
def M_X1_replace : List (Nat × ab_MI) := [(2, mi_X1_chunkHolding), (10, mi_X1_startOf), (13, mi_X1_settle)]
def mi_X1_replace : ab_MI := (yX1_replace, cX1_replace, 4, ab_rty 9, 3, 119)
theorem pk_X1_replace : P_X1_replace.all (ab_okI cX1_replace) = true := by decide +kernel
theorem ck_X1_replace : P_X1_replace.all (ab_okC1 "RootChunks$Row" M_X1_replace E_X1_replace (3, 119)) = true := by decide +kernel
set_option maxRecDepth 100000 in
theorem b_X1_replace_0 {Q : ab_Q} {p : Int} {v : Int} {rK : Int → Int} {rL : Int → Int} {rT : Int → Int} {rS : Int → Int} {rn : Int} {rc : Int} {rw : Int} (l1 : sp_X1_chunkHolding [.inr (.inl (some 0)), .inl p] (rw_cs (rK, rL, rT, rS, rn, rc, rw)) (fun r_ k_ => ∃ (x_ : Int), r_ = some (.inl x_) ∧ k_ = (rw_cs (rK, rL, rT, rS, rn, rc, rw)) ∧ ab_R E_X1_replace P_X1_replace Q 5 [some (.inr (.inl (some 0))), some (.inl p), some (.inl v), none] [.inl x_] (rw_cs (rK, rL, rT, rS, rn, rc, rw))))  : ab_R E_X1_replace P_X1_replace Q 0 [some (.inr (.inl (some 0))), some (.inl p), some (.inl v), none] [] (rw_cs (rK, rL, rT, rS, rn, rc, rw)) :=
  ab_R.steps [5, 13, 16] 4 (show ab_cl sp_X1_chunkHolding [.inr (.inl (some 0)), .inl p] (rw_cs (rK, rL, rT, rS, rn, rc, rw)) (fun r_ k_ => k_.length = ((rw_cs (rK, rL, rT, rS, rn, rc, rw))).length → ab_R E_X1_replace P_X1_replace Q 5 [some (.inr (.inl (some 0))), some (.inl p), some (.inl v), none] (ab_ret r_ []) k_) from ⟨_, l1, fun r_ k_ hz _ => by obtain ⟨x_, rfl, rfl, hR⟩ := hz; exact hR⟩)
set_option maxRecDepth 100000 in
theorem b_X1_replace_5 {Q : ab_Q} {p : Int} {v : Int} {t0 : Int} {rK : Int → Int} {rL : Int → Int} {rT : Int → Int} {rS : Int → Int} {rn : Int} {rc : Int} {rw : Int} (l1 : sp_X1_startOf [.inr (.inl (some 0)), .inl t0] (rw_cs (rK, rL, rT, rS, rn, rc, rw)) (fun r_ k_ => ∃ (x_ : Int), r_ = some (.inl x_) ∧ k_ = (rw_cs (rK, rL, rT, rS, rn, rc, rw)) ∧ ab_R E_X1_replace P_X1_replace Q 13 [some (.inr (.inl (some 0))), some (.inl p), some (.inl v), some (.inl t0)] [.inl x_, .inl t0, .inr (.inl (some 0))] (rw_cs (rK, rL, rT, rS, rn, rc, rw))))  : ab_R E_X1_replace P_X1_replace Q 5 [some (.inr (.inl (some 0))), some (.inl p), some (.inl v), none] [.inl t0] (rw_cs (rK, rL, rT, rS, rn, rc, rw)) :=
  ab_R.steps [5, 13, 16] 7 (show ab_cl sp_X1_startOf [.inr (.inl (some 0)), .inl t0] (rw_cs (rK, rL, rT, rS, rn, rc, rw)) (fun r_ k_ => k_.length = ((rw_cs (rK, rL, rT, rS, rn, rc, rw))).length → ab_R E_X1_replace P_X1_replace Q 13 [some (.inr (.inl (some 0))), some (.inl p), some (.inl v), some (.inl t0)] (ab_ret r_ [.inl t0, .inr (.inl (some 0))]) k_) from ⟨_, l1, fun r_ k_ hz _ => by obtain ⟨x_, rfl, rfl, hR⟩ := hz; exact hR⟩)
set_option maxRecDepth 100000 in
theorem b_X1_replace_13 {Q : ab_Q} {p : Int} {v : Int} {k : Int} {t0 : Int} {t1 : Int} {rK : Int → Int} {rL : Int → Int} {rT : Int → Int} {rS : Int → Int} {rn : Int} {rc : Int} {rw : Int} (l1 : sp_X1_settle [.inr (.inl (some 0)), .inl t1, .inl t0] (rw_cs (rK, rL, rT, rS, rn, rc, rw)) (fun r_ k_ => ∃ (r' : rw_T), r_ = none ∧ k_ = (rw_cs r') ∧ ab_R E_X1_replace P_X1_replace Q 16 [some (.inr (.inl (some 0))), some (.inl p), some (.inl v), some (.inl k)] [] (rw_cs r')))  : ab_R E_X1_replace P_X1_replace Q 13 [some (.inr (.inl (some 0))), some (.inl p), some (.inl v), some (.inl k)] [.inl t0, .inl t1, .inr (.inl (some 0))] (rw_cs (rK, rL, rT, rS, rn, rc, rw)) :=
  ab_R.steps [5, 13, 16] 2 (show ab_cl sp_X1_settle [.inr (.inl (some 0)), .inl t1, .inl t0] (rw_cs (rK, rL, rT, rS, rn, rc, rw)) (fun r_ k_ => k_.length = ((rw_cs (rK, rL, rT, rS, rn, rc, rw))).length → ab_R E_X1_replace P_X1_replace Q 16 [some (.inr (.inl (some 0))), some (.inl p), some (.inl v), some (.inl k)] (ab_ret r_ []) k_) from ⟨_, l1, fun r_ k_ hz _ => by obtain ⟨r', rfl, rfl, hR⟩ := hz; exact hR⟩)
set_option maxRecDepth 100000 in
theorem b_X1_replace_16 {Q : ab_Q} {p : Int} {v : Int} {k : Int} {rK : Int → Int} {rL : Int → Int} {rT : Int → Int} {rS : Int → Int} {rn : Int} {rc : Int} {rw : Int} (l1 : Q none (rw_cs ((ab_up rK p v), rL, rT, rS, rn, rc, (rw + 1)))) (p1 : (0 ≤ p ∧ p < 60) := by intros; (try unfold ab_r); omega) : ab_R E_X1_replace P_X1_replace Q 16 [some (.inr (.inl (some 0))), some (.inl p), some (.inl v), some (.inl k)] [] (rw_cs (rK, rL, rT, rS, rn, rc, rw)) :=
  ab_R.steps [5, 13, 16] 13 (show ((0 ≤ p ∧ p < 60) ∧ Q none (rw_cs ((ab_up rK p v), rL, rT, rS, rn, rc, (rw + 1)))) from ⟨p1, l1⟩)
-- ===== RootChunks$Row.reverseChunks
def P_X1_reverseChunks : List ab_I := [(0, .aload_n 0, 1, []), (1, .getfield 9, 4, []), (4, .aload_n 0, 5, []), (5, .iload_n 1, 6, []), (6, .invokevirtual 44, 9, []), (9, .aload_n 0, 10, []), (10, .iload_n 2, 11, []), (11, .invokevirtual 44, 14, []), (14, .invokestatic 77, 17, []), (17, .aload_n 0, 18, []), (18, .getfield 15, 21, []), (21, .iload_n 1, 22, []), (22, .iload_n 2, 23, []), (23, .invokestatic 77, 26, []), (26, .aload_n 0, 27, []), (27, .getfield 18, 30, []), (30, .iload_n 1, 31, []), (31, .iload_n 2, 32, []), (32, .invokestatic 77, 35, []), (35, .aload_n 0, 36, []), (36, .getfield 21, 39, []), (39, .iload_n 1, 40, []), (40, .iload_n 2, 41, []), (41, .invokestatic 77, 44, []), (44, .aload_n 0, 45, []), (45, .iload_n 1, 46, []), (46, .invokevirtual 44, 49, []), (49, .istore_n 3, 50, []), (50, .iload_n 1, 51, []), (51, .istore 4, 53, []), (53, .iload 4, 55, []), (55, .iload_n 2, 56, []), (56, .if_icmp .ge 36, 59, [((0 : Int), 92)]), (59, .aload_n 0, 60, []), (60, .getfield 9, 63, []), (63, .iload_n 3, 64, []), (64, .iload_n 3, 65, []), (65, .aload_n 0, 66, []), (66, .getfield 15, 69, []), (69, .iload 4, 71, []), (71, .iaload, 72, []), (72, .iadd, 73, []), (73, .invokestatic 77, 76, []), (76, .iload_n 3, 77, []), (77, .aload_n 0, 78, []), (78, .getfield 15, 81, []), (81, .iload 4, 83, []), (83, .iaload, 84, []), (84, .iadd, 85, []), (85, .istore_n 3, 86, []), (86, .iinc 4 1, 89, []), (89, .goto (-36), 92, [((0 : Int), 53)]), (92, .return_, 93, [])]
def E_X1_reverseChunks : ab_E := (T_X1, [(6, (2, 1, [], 0, sp_X1_startOf)), (11, (2, 1, [], 0, sp_X1_startOf)), (14, (3, 99, [1], 1, sp_X1_mirror)), (23, (3, 99, [2], 1, sp_X1_mirror)), (32, (3, 99, [3], 1, sp_X1_mirror)), (41, (3, 99, [4], 1, sp_X1_mirror)), (46, (2, 1, [], 0, sp_X1_startOf)), (73, (3, 99, [1], 1, sp_X1_mirror))], [], 9)
def M_X1_reverseChunks : List (Nat × ab_MI) := [(6, mi_X1_startOf), (11, mi_X1_startOf), (14, mi_X1_mirror), (23, mi_X1_mirror), (32, mi_X1_mirror), (41, mi_X1_mirror), (46, mi_X1_startOf), (73, mi_X1_mirror)]
def mi_X1_reverseChunks : ab_MI := (yX1_reverseChunks, cX1_reverseChunks, 5, ab_rty 9, 2, 95)
theorem pk_X1_reverseChunks : P_X1_reverseChunks.all (ab_okI cX1_reverseChunks) = true := by decide +kernel
theorem ck_X1_reverseChunks : P_X1_reverseChunks.all (ab_okC1 "RootChunks$Row" M_X1_reverseChunks E_X1_reverseChunks (2, 95)) = true := by decide +kernel
set_option maxRecDepth 100000 in
theorem b_X1_reverseChunks_0 {Q : ab_Q} {a : Int} {b : Int} {rK : Int → Int} {rL : Int → Int} {rT : Int → Int} {rS : Int → Int} {rn : Int} {rc : Int} {rw : Int} (l1 : sp_X1_startOf [.inr (.inl (some 0)), .inl a] (rw_cs (rK, rL, rT, rS, rn, rc, rw)) (fun r_ k_ => ∃ (x_ : Int), r_ = some (.inl x_) ∧ k_ = (rw_cs (rK, rL, rT, rS, rn, rc, rw)) ∧ ab_R E_X1_reverseChunks P_X1_reverseChunks Q 9 [some (.inr (.inl (some 0))), some (.inl a), some (.inl b), none, none] [.inl x_, .inr (.inl (some 1))] (rw_cs (rK, rL, rT, rS, rn, rc, rw))))  : ab_R E_X1_reverseChunks P_X1_reverseChunks Q 0 [some (.inr (.inl (some 0))), some (.inl a), some (.inl b), none, none] [] (rw_cs (rK, rL, rT, rS, rn, rc, rw)) :=
  ab_R.steps [9, 14, 17, 26, 35, 44, 49, 53, 76] 6 (show ab_cl sp_X1_startOf [.inr (.inl (some 0)), .inl a] (rw_cs (rK, rL, rT, rS, rn, rc, rw)) (fun r_ k_ => k_.length = ((rw_cs (rK, rL, rT, rS, rn, rc, rw))).length → ab_R E_X1_reverseChunks P_X1_reverseChunks Q 9 [some (.inr (.inl (some 0))), some (.inl a), some (.inl b), none, none] (ab_ret r_ [.inr (.inl (some 1))]) k_) from ⟨_, l1, fun r_ k_ hz _ => by obtain ⟨x_, rfl, rfl, hR⟩ := hz; exact hR⟩)
set_option maxRecDepth 100000 in
theorem b_X1_reverseChunks_9 {Q : ab_Q} {a : Int} {b : Int} {t0 : Int} {rK : Int → Int} {rL : Int → Int} {rT : Int → Int} {rS : Int → Int} {rn : Int} {rc : Int} {rw : Int} (l1 : sp_X1_startOf [.inr (.inl (some 0)), .inl b] (rw_cs (rK, rL, rT, rS, rn, rc, rw)) (fun r_ k_ => ∃ (x_ : Int), r_ = some (.inl x_) ∧ k_ = (rw_cs (rK, rL, rT, rS, rn, rc, rw)) ∧ ab_R E_X1_reverseChunks P_X1_reverseChunks Q 14 [some (.inr (.inl (some 0))), some (.inl a), some (.inl b), none, none] [.inl x_, .inl t0, .inr (.inl (some 1))] (rw_cs (rK, rL, rT, rS, rn, rc, rw))))  : ab_R E_X1_reverseChunks P_X1_reverseChunks Q 9 [some (.inr (.inl (some 0))), some (.inl a), some (.inl b), none, none] [.inl t0, .inr (.inl (some 1))] (rw_cs (rK, rL, rT, rS, rn, rc, rw)) :=
  ab_R.steps [9, 14, 17, 26, 35, 44, 49, 53, 76] 4 (show ab_cl sp_X1_startOf [.inr (.inl (some 0)), .inl b] (rw_cs (rK, rL, rT, rS, rn, rc, rw)) (fun r_ k_ => k_.length = ((rw_cs (rK, rL, rT, rS, rn, rc, rw))).length → ab_R E_X1_reverseChunks P_X1_reverseChunks Q 14 [some (.inr (.inl (some 0))), some (.inl a), some (.inl b), none, none] (ab_ret r_ [.inl t0, .inr (.inl (some 1))]) k_) from ⟨_, l1, fun r_ k_ hz _ => by obtain ⟨x_, rfl, rfl, hR⟩ := hz; exact hR⟩)
set_option maxRecDepth 100000 in
theorem b_X1_reverseChunks_14 {Q : ab_Q} {a : Int} {b : Int} {t0 : Int} {t1 : Int} {rK : Int → Int} {rL : Int → Int} {rT : Int → Int} {rS : Int → Int} {rn : Int} {rc : Int} {rw : Int} (l1 : sp_X1_mirror [.inr (.inl (some 0)), .inl t1, .inl t0] (ar_cs rK) (fun r_ k_ => ∃ (f' : Int → Int), r_ = none ∧ k_ = (ar_cs (f')) ∧ ab_R E_X1_reverseChunks P_X1_reverseChunks Q 17 [some (.inr (.inl (some 0))), some (.inl a), some (.inl b), none, none] [] (rw_cs (f', rL, rT, rS, rn, rc, rw))))  : ab_R E_X1_reverseChunks P_X1_reverseChunks Q 14 [some (.inr (.inl (some 0))), some (.inl a), some (.inl b), none, none] [.inl t0, .inl t1, .inr (.inl (some 1))] (rw_cs (rK, rL, rT, rS, rn, rc, rw)) :=
  ab_R.steps [9, 14, 17, 26, 35, 44, 49, 53, 76] 2 (show ab_cl sp_X1_mirror [.inr (.inl (some 0)), .inl t1, .inl t0] (ar_cs rK) (fun r_ k_ => k_.length = 1 → ab_R E_X1_reverseChunks P_X1_reverseChunks Q 17 [some (.inr (.inl (some 0))), some (.inl a), some (.inl b), none, none] (ab_ret (r_.map (ab_reV [1])) []) (ab_back [1] [1] k_ (rw_cs (rK, rL, rT, rS, rn, rc, rw)))) from ⟨_, l1, fun r_ k_ hz _ => by obtain ⟨f', rfl, rfl, hR⟩ := hz; exact hR⟩)
set_option maxRecDepth 100000 in
theorem b_X1_reverseChunks_17 {Q : ab_Q} {a : Int} {b : Int} {rK : Int → Int} {rL : Int → Int} {rT : Int → Int} {rS : Int → Int} {rn : Int} {rc : Int} {rw : Int} (l1 : sp_X1_mirror [.inr (.inl (some 0)), .inl a, .inl b] (ar_cs rL) (fun r_ k_ => ∃ (f' : Int → Int), r_ = none ∧ k_ = (ar_cs (f')) ∧ ab_R E_X1_reverseChunks P_X1_reverseChunks Q 26 [some (.inr (.inl (some 0))), some (.inl a), some (.inl b), none, none] [] (rw_cs (rK, f', rT, rS, rn, rc, rw))))  : ab_R E_X1_reverseChunks P_X1_reverseChunks Q 17 [some (.inr (.inl (some 0))), some (.inl a), some (.inl b), none, none] [] (rw_cs (rK, rL, rT, rS, rn, rc, rw)) :=
  ab_R.steps [9, 14, 17, 26, 35, 44, 49, 53, 76] 6 (show ab_cl sp_X1_mirror [.inr (.inl (some 0)), .inl a, .inl b] (ar_cs rL) (fun r_ k_ => k_.length = 1 → ab_R E_X1_reverseChunks P_X1_reverseChunks Q 26 [some (.inr (.inl (some 0))), some (.inl a), some (.inl b), none, none] (ab_ret (r_.map (ab_reV [2])) []) (ab_back [2] [2] k_ (rw_cs (rK, rL, rT, rS, rn, rc, rw)))) from ⟨_, l1, fun r_ k_ hz _ => by obtain ⟨f', rfl, rfl, hR⟩ := hz; exact hR⟩)
set_option maxRecDepth 100000 in
theorem b_X1_reverseChunks_26 {Q : ab_Q} {a : Int} {b : Int} {rK : Int → Int} {rL : Int → Int} {rT : Int → Int} {rS : Int → Int} {rn : Int} {rc : Int} {rw : Int} (l1 : sp_X1_mirror [.inr (.inl (some 0)), .inl a, .inl b] (ar_cs rT) (fun r_ k_ => ∃ (f' : Int → Int), r_ = none ∧ k_ = (ar_cs (f')) ∧ ab_R E_X1_reverseChunks P_X1_reverseChunks Q 35 [some (.inr (.inl (some 0))), some (.inl a), some (.inl b), none, none] [] (rw_cs (rK, rL, f', rS, rn, rc, rw))))  : ab_R E_X1_reverseChunks P_X1_reverseChunks Q 26 [some (.inr (.inl (some 0))), some (.inl a), some (.inl b), none, none] [] (rw_cs (rK, rL, rT, rS, rn, rc, rw)) :=
  ab_R.steps [9, 14, 17, 26, 35, 44, 49, 53, 76] 6 (show ab_cl sp_X1_mirror [.inr (.inl (some 0)), .inl a, .inl b] (ar_cs rT) (fun r_ k_ => k_.length = 1 → ab_R E_X1_reverseChunks P_X1_reverseChunks Q 35 [some (.inr (.inl (some 0))), some (.inl a), some (.inl b), none, none] (ab_ret (r_.map (ab_reV [3])) []) (ab_back [3] [3] k_ (rw_cs (rK, rL, rT, rS, rn, rc, rw)))) from ⟨_, l1, fun r_ k_ hz _ => by obtain ⟨f', rfl, rfl, hR⟩ := hz; exact hR⟩)
set_option maxRecDepth 100000 in
theorem b_X1_reverseChunks_35 {Q : ab_Q} {a : Int} {b : Int} {rK : Int → Int} {rL : Int → Int} {rT : Int → Int} {rS : Int → Int} {rn : Int} {rc : Int} {rw : Int} (l1 : sp_X1_mirror [.inr (.inl (some 0)), .inl a, .inl b] (ar_cs rS) (fun r_ k_ => ∃ (f' : Int → Int), r_ = none ∧ k_ = (ar_cs (f')) ∧ ab_R E_X1_reverseChunks P_X1_reverseChunks Q 44 [some (.inr (.inl (some 0))), some (.inl a), some (.inl b), none, none] [] (rw_cs (rK, rL, rT, f', rn, rc, rw))))  : ab_R E_X1_reverseChunks P_X1_reverseChunks Q 35 [some (.inr (.inl (some 0))), some (.inl a), some (.inl b), none, none] [] (rw_cs (rK, rL, rT, rS, rn, rc, rw)) :=
  ab_R.steps [9, 14, 17, 26, 35, 44, 49, 53, 76] 6 (show ab_cl sp_X1_mirror [.inr (.inl (some 0)), .inl a, .inl b] (ar_cs rS) (fun r_ k_ => k_.length = 1 → ab_R E_X1_reverseChunks P_X1_reverseChunks Q 44 [some (.inr (.inl (some 0))), some (.inl a), some (.inl b), none, none] (ab_ret (r_.map (ab_reV [4])) []) (ab_back [4] [4] k_ (rw_cs (rK, rL, rT, rS, rn, rc, rw)))) from ⟨_, l1, fun r_ k_ hz _ => by obtain ⟨f', rfl, rfl, hR⟩ := hz; exact hR⟩)
set_option maxRecDepth 100000 in
theorem b_X1_reverseChunks_44 {Q : ab_Q} {a : Int} {b : Int} {rK : Int → Int} {rL : Int → Int} {rT : Int → Int} {rS : Int → Int} {rn : Int} {rc : Int} {rw : Int} (l1 : sp_X1_startOf [.inr (.inl (some 0)), .inl a] (rw_cs (rK, rL, rT, rS, rn, rc, rw)) (fun r_ k_ => ∃ (x_ : Int), r_ = some (.inl x_) ∧ k_ = (rw_cs (rK, rL, rT, rS, rn, rc, rw)) ∧ ab_R E_X1_reverseChunks P_X1_reverseChunks Q 49 [some (.inr (.inl (some 0))), some (.inl a), some (.inl b), none, none] [.inl x_] (rw_cs (rK, rL, rT, rS, rn, rc, rw))))  : ab_R E_X1_reverseChunks P_X1_reverseChunks Q 44 [some (.inr (.inl (some 0))), some (.inl a), some (.inl b), none, none] [] (rw_cs (rK, rL, rT, rS, rn, rc, rw)) :=
  ab_R.steps [9, 14, 17, 26, 35, 44, 49, 53, 76] 4 (show ab_cl sp_X1_startOf [.inr (.inl (some 0)), .inl a] (rw_cs (rK, rL, rT, rS, rn, rc, rw)) (fun r_ k_ => k_.length = ((rw_cs (rK, rL, rT, rS, rn, rc, rw))).length → ab_R E_X1_reverseChunks P_X1_reverseChunks Q 49 [some (.inr (.inl (some 0))), some (.inl a), some (.inl b), none, none] (ab_ret r_ []) k_) from ⟨_, l1, fun r_ k_ hz _ => by obtain ⟨x_, rfl, rfl, hR⟩ := hz; exact hR⟩)
set_option maxRecDepth 100000 in
theorem b_X1_reverseChunks_49 {Q : ab_Q} {a : Int} {b : Int} {t0 : Int} {rK : Int → Int} {rL : Int → Int} {rT : Int → Int} {rS : Int → Int} {rn : Int} {rc : Int} {rw : Int} (l1 : ab_R E_X1_reverseChunks P_X1_reverseChunks Q 53 [some (.inr (.inl (some 0))), some (.inl a), some (.inl b), some (.inl t0), some (.inl a)] [] (rw_cs (rK, rL, rT, rS, rn, rc, rw)))  : ab_R E_X1_reverseChunks P_X1_reverseChunks Q 49 [some (.inr (.inl (some 0))), some (.inl a), some (.inl b), none, none] [.inl t0] (rw_cs (rK, rL, rT, rS, rn, rc, rw)) :=
  ab_R.steps [9, 14, 17, 26, 35, 44, 49, 53, 76] 5 (show ab_R E_X1_reverseChunks P_X1_reverseChunks Q 53 [some (.inr (.inl (some 0))), some (.inl a), some (.inl b), some (.inl t0), some (.inl a)] [] (rw_cs (rK, rL, rT, rS, rn, rc, rw)) from l1)
set_option maxRecDepth 100000 in
theorem b_X1_reverseChunks_53 {Q : ab_Q} {a : Int} {b : Int} {st : Int} {c : Int} {rK : Int → Int} {rL : Int → Int} {rT : Int → Int} {rS : Int → Int} {rn : Int} {rc : Int} {rw : Int} (l1 : b ≤ c → Q none (rw_cs (rK, rL, rT, rS, rn, rc, rw))) (l2 : c < b → sp_X1_mirror [.inr (.inl (some 0)), .inl st, .inl (st + (rL c))] (ar_cs rK) (fun r_ k_ => ∃ (f' : Int → Int), r_ = none ∧ k_ = (ar_cs (f')) ∧ ab_R E_X1_reverseChunks P_X1_reverseChunks Q 76 [some (.inr (.inl (some 0))), some (.inl a), some (.inl b), some (.inl st), some (.inl c)] [] (rw_cs (f', rL, rT, rS, rn, rc, rw)))) (p1 : (ab_r c ∧ ab_r b) := by intros; (try unfold ab_r); omega) (p2 : c < b → (0 ≤ c ∧ c < 60) := by intros; (try unfold ab_r); omega) : ab_R E_X1_reverseChunks P_X1_reverseChunks Q 53 [some (.inr (.inl (some 0))), some (.inl a), some (.inl b), some (.inl st), some (.inl c)] [] (rw_cs (rK, rL, rT, rS, rn, rc, rw)) :=
  ab_R.steps [9, 14, 17, 26, 35, 44, 49, 53, 76] 14 (show ((ab_r c ∧ ab_r b) ∧ ((b ≤ c → Q none (rw_cs (rK, rL, rT, rS, rn, rc, rw))) ∧ (c < b → ((0 ≤ c ∧ c < 60) ∧ ab_cl sp_X1_mirror [.inr (.inl (some 0)), .inl st, .inl (st + (rL c))] (ar_cs rK) (fun r_ k_ => k_.length = 1 → ab_R E_X1_reverseChunks P_X1_reverseChunks Q 76 [some (.inr (.inl (some 0))), some (.inl a), some (.inl b), some (.inl st), some (.inl c)] (ab_ret (r_.map (ab_reV [1])) []) (ab_back [1] [1] k_ (rw_cs (rK, rL, rT, rS, rn, rc, rw)))))))) from ⟨p1, ⟨fun h1 => (l1 h1), fun h2 => ⟨(p2 h2), ⟨_, (l2 h2), fun r_ k_ hz _ => by obtain ⟨f', rfl, rfl, hR⟩ := hz; exact hR⟩⟩⟩⟩)
set_option maxRecDepth 100000 in
theorem b_X1_reverseChunks_76 {Q : ab_Q} {a : Int} {b : Int} {st : Int} {c : Int} {rK : Int → Int} {rL : Int → Int} {rT : Int → Int} {rS : Int → Int} {rn : Int} {rc : Int} {rw : Int} (l1 : ab_R E_X1_reverseChunks P_X1_reverseChunks Q 53 [some (.inr (.inl (some 0))), some (.inl a), some (.inl b), some (.inl (st + (rL c))), some (.inl (c + 1))] [] (rw_cs (rK, rL, rT, rS, rn, rc, rw))) (p1 : (0 ≤ c ∧ c < 60) := by intros; (try unfold ab_r); omega) : ab_R E_X1_reverseChunks P_X1_reverseChunks Q 76 [some (.inr (.inl (some 0))), some (.inl a), some (.inl b), some (.inl st), some (.inl c)] [] (rw_cs (rK, rL, rT, rS, rn, rc, rw)) :=
  ab_R.steps [9, 14, 17, 26, 35, 44, 49, 53, 76] 11 (show ((0 ≤ c ∧ c < 60) ∧ ab_R E_X1_reverseChunks P_X1_reverseChunks Q 53 [some (.inr (.inl (some 0))), some (.inl a), some (.inl b), some (.inl (st + (rL c))), some (.inl (c + 1))] [] (rw_cs (rK, rL, rT, rS, rn, rc, rw))) from ⟨p1, l1⟩)
-- ===== RootChunks$Row.exchangeChunks
def P_X1_exchangeChunks : List ab_I := [(0, .aload_n 0, 1, []), (1, .iload_n 1, 2, []), (2, .iload_n 2, 3, []), (3, .invokevirtual 67, 6, []), (6, .aload_n 0, 7, []), (7, .iload_n 2, 8, []), (8, .iload_n 3, 9, []), (9, .invokevirtual 67, 12, []), (12, .aload_n 0, 13, []), (13, .iload_n 1, 14, []), (14, .iload_n 3, 15, []), (15, .invokevirtual 67, 18, []), (18, .return_, 19, [])]
def E_X1_exchangeChunks : ab_E := (T_X1, [(3, (3, 1, [], 0, sp_X1_reverseChunks)), (9, (3, 1, [], 0, sp_X1_reverseChunks)), (15, (3, 1, [], 0, sp_X1_reverseChunks))], [], 9)
def M_X1_exchangeChunks : List (Nat × ab_MI) := [(3, mi_X1_reverseChunks), (9, mi_X1_reverseChunks), (15, mi_X1_reverseChunks)]
def mi_X1_exchangeChunks : ab_MI := (yX1_exchangeChunks, cX1_exchangeChunks, 4, ab_rty 9, 3, 119)
theorem pk_X1_exchangeChunks : P_X1_exchangeChunks.all (ab_okI cX1_exchangeChunks) = true := by decide +kernel
theorem ck_X1_exchangeChunks : P_X1_exchangeChunks.all (ab_okC1 "RootChunks$Row" M_X1_exchangeChunks E_X1_exchangeChunks (3, 119)) = true := by decide +kernel
set_option maxRecDepth 100000 in
theorem b_X1_exchangeChunks_0 {Q : ab_Q} {a : Int} {m : Int} {b : Int} {rK : Int → Int} {rL : Int → Int} {rT : Int → Int} {rS : Int → Int} {rn : Int} {rc : Int} {rw : Int} (l1 : sp_X1_reverseChunks [.inr (.inl (some 0)), .inl a, .inl m] (rw_cs (rK, rL, rT, rS, rn, rc, rw)) (fun r_ k_ => ∃ (r' : rw_T), r_ = none ∧ k_ = (rw_cs r') ∧ ab_R E_X1_exchangeChunks P_X1_exchangeChunks Q 6 [some (.inr (.inl (some 0))), some (.inl a), some (.inl m), some (.inl b)] [] (rw_cs r')))  : ab_R E_X1_exchangeChunks P_X1_exchangeChunks Q 0 [some (.inr (.inl (some 0))), some (.inl a), some (.inl m), some (.inl b)] [] (rw_cs (rK, rL, rT, rS, rn, rc, rw)) :=
  ab_R.steps [6, 12, 18] 5 (show ab_cl sp_X1_reverseChunks [.inr (.inl (some 0)), .inl a, .inl m] (rw_cs (rK, rL, rT, rS, rn, rc, rw)) (fun r_ k_ => k_.length = ((rw_cs (rK, rL, rT, rS, rn, rc, rw))).length → ab_R E_X1_exchangeChunks P_X1_exchangeChunks Q 6 [some (.inr (.inl (some 0))), some (.inl a), some (.inl m), some (.inl b)] (ab_ret r_ []) k_) from ⟨_, l1, fun r_ k_ hz _ => by obtain ⟨r', rfl, rfl, hR⟩ := hz; exact hR⟩)
set_option maxRecDepth 100000 in
theorem b_X1_exchangeChunks_6 {Q : ab_Q} {a : Int} {m : Int} {b : Int} {rK : Int → Int} {rL : Int → Int} {rT : Int → Int} {rS : Int → Int} {rn : Int} {rc : Int} {rw : Int} (l1 : sp_X1_reverseChunks [.inr (.inl (some 0)), .inl m, .inl b] (rw_cs (rK, rL, rT, rS, rn, rc, rw)) (fun r_ k_ => ∃ (r' : rw_T), r_ = none ∧ k_ = (rw_cs r') ∧ ab_R E_X1_exchangeChunks P_X1_exchangeChunks Q 12 [some (.inr (.inl (some 0))), some (.inl a), some (.inl m), some (.inl b)] [] (rw_cs r')))  : ab_R E_X1_exchangeChunks P_X1_exchangeChunks Q 6 [some (.inr (.inl (some 0))), some (.inl a), some (.inl m), some (.inl b)] [] (rw_cs (rK, rL, rT, rS, rn, rc, rw)) :=
  ab_R.steps [6, 12, 18] 5 (show ab_cl sp_X1_reverseChunks [.inr (.inl (some 0)), .inl m, .inl b] (rw_cs (rK, rL, rT, rS, rn, rc, rw)) (fun r_ k_ => k_.length = ((rw_cs (rK, rL, rT, rS, rn, rc, rw))).length → ab_R E_X1_exchangeChunks P_X1_exchangeChunks Q 12 [some (.inr (.inl (some 0))), some (.inl a), some (.inl m), some (.inl b)] (ab_ret r_ []) k_) from ⟨_, l1, fun r_ k_ hz _ => by obtain ⟨r', rfl, rfl, hR⟩ := hz; exact hR⟩)
set_option maxRecDepth 100000 in
theorem b_X1_exchangeChunks_12 {Q : ab_Q} {a : Int} {m : Int} {b : Int} {rK : Int → Int} {rL : Int → Int} {rT : Int → Int} {rS : Int → Int} {rn : Int} {rc : Int} {rw : Int} (l1 : sp_X1_reverseChunks [.inr (.inl (some 0)), .inl a, .inl b] (rw_cs (rK, rL, rT, rS, rn, rc, rw)) (fun r_ k_ => ∃ (r' : rw_T), r_ = none ∧ k_ = (rw_cs r') ∧ ab_R E_X1_exchangeChunks P_X1_exchangeChunks Q 18 [some (.inr (.inl (some 0))), some (.inl a), some (.inl m), some (.inl b)] [] (rw_cs r')))  : ab_R E_X1_exchangeChunks P_X1_exchangeChunks Q 12 [some (.inr (.inl (some 0))), some (.inl a), some (.inl m), some (.inl b)] [] (rw_cs (rK, rL, rT, rS, rn, rc, rw)) :=
  ab_R.steps [6, 12, 18] 5 (show ab_cl sp_X1_reverseChunks [.inr (.inl (some 0)), .inl a, .inl b] (rw_cs (rK, rL, rT, rS, rn, rc, rw)) (fun r_ k_ => k_.length = ((rw_cs (rK, rL, rT, rS, rn, rc, rw))).length → ab_R E_X1_exchangeChunks P_X1_exchangeChunks Q 18 [some (.inr (.inl (some 0))), some (.inl a), some (.inl m), some (.inl b)] (ab_ret r_ []) k_) from ⟨_, l1, fun r_ k_ hz _ => by obtain ⟨r', rfl, rfl, hR⟩ := hz; exact hR⟩)
set_option maxRecDepth 100000 in
theorem b_X1_exchangeChunks_18 {Q : ab_Q} {a : Int} {m : Int} {b : Int} {rK : Int → Int} {rL : Int → Int} {rT : Int → Int} {rS : Int → Int} {rn : Int} {rc : Int} {rw : Int} (l1 : Q none (rw_cs (rK, rL, rT, rS, rn, rc, rw)))  : ab_R E_X1_exchangeChunks P_X1_exchangeChunks Q 18 [some (.inr (.inl (some 0))), some (.inl a), some (.inl m), some (.inl b)] [] (rw_cs (rK, rL, rT, rS, rn, rc, rw)) :=
  ab_R.steps [6, 12, 18] 2 (show Q none (rw_cs (rK, rL, rT, rS, rn, rc, rw)) from l1)
-- ===== RootChunks$Row.turnSpan
def P_X1_turnSpan : List ab_I := [(0, .aload_n 0, 1, []), (1, .iload_n 1, 2, []), (2, .invokevirtual 53, 5, []), (5, .istore_n 3, 6, []), (6, .aload_n 0, 7, []), (7, .iload_n 2, 8, []), (8, .iconst 1, 9, []), (9, .iadd, 10, []), (10, .invokevirtual 53, 13, []), (13, .istore 4, 15, []), (15, .aload_n 0, 16, []), (16, .iload_n 3, 17, []), (17, .iload 4, 19, []), (19, .invokevirtual 67, 22, []), (22, .iload_n 3, 23, []), (23, .istore 5, 25, []), (25, .iload 5, 27, []), (27, .iload 4, 29, []), (29, .if_icmp .ge 25, 32, [((0 : Int), 54)]), (32, .aload_n 0, 33, []), (33, .getfield 18, 36, []), (36, .iload 5, 38, []), (38, .iconst 1, 39, []), (39, .aload_n 0, 40, []), (40, .getfield 18, 43, []), (43, .iload 5, 45, []), (45, .iaload, 46, []), (46, .isub, 47, []), (47, .iastore, 48, []), (48, .iinc 5 1, 51, []), (51, .goto (-26), 54, [((0 : Int), 25)]), (54, .return_, 55, [])]
def E_X1_turnSpan : ab_E := (T_X1, [(2, (2, 1, [], 0, sp_X1_cutAt)), (10, (2, 1, [], 0, sp_X1_cutAt)), (19, (3, 1, [], 0, sp_X1_reverseChunks))], [], 9)
def M_X1_turnSpan : List (Nat × ab_MI) := [(2, mi_X1_cutAt), (10, mi_X1_cutAt), (19, mi_X1_reverseChunks)]
def mi_X1_turnSpan : ab_MI := (yX1_turnSpan, cX1_turnSpan, 6, ab_rty 9, 4, 142)
theorem pk_X1_turnSpan : P_X1_turnSpan.all (ab_okI cX1_turnSpan) = true := by decide +kernel
theorem ck_X1_turnSpan : P_X1_turnSpan.all (ab_okC1 "RootChunks$Row" M_X1_turnSpan E_X1_turnSpan (4, 142)) = true := by decide +kernel
set_option maxRecDepth 100000 in
theorem b_X1_turnSpan_0 {Q : ab_Q} {fr : Int} {to : Int} {rK : Int → Int} {rL : Int → Int} {rT : Int → Int} {rS : Int → Int} {rn : Int} {rc : Int} {rw : Int} (l1 : sp_X1_cutAt [.inr (.inl (some 0)), .inl fr] (rw_cs (rK, rL, rT, rS, rn, rc, rw)) (fun r_ k_ => ∃ (x_ : Int), ∃ (r' : rw_T), r_ = some (.inl x_) ∧ k_ = (rw_cs r') ∧ ab_R E_X1_turnSpan P_X1_turnSpan Q 5 [some (.inr (.inl (some 0))), some (.inl fr), some (.inl to), none, none, none] [.inl x_] (rw_cs r')))  : ab_R E_X1_turnSpan P_X1_turnSpan Q 0 [some (.inr (.inl (some 0))), some (.inl fr), some (.inl to), none, none, none] [] (rw_cs (rK, rL, rT, rS, rn, rc, rw)) :=
  ab_R.steps [5, 13, 22, 25] 4 (show ab_cl sp_X1_cutAt [.inr (.inl (some 0)), .inl fr] (rw_cs (rK, rL, rT, rS, rn, rc, rw)) (fun r_ k_ => k_.length = ((rw_cs (rK, rL, rT, rS, rn, rc, rw))).length → ab_R E_X1_turnSpan P_X1_turnSpan Q 5 [some (.inr (.inl (some 0))), some (.inl fr), some (.inl to), none, none, none] (ab_ret r_ []) k_) from ⟨_, l1, fun r_ k_ hz _ => by obtain ⟨x_, r', rfl, rfl, hR⟩ := hz; exact hR⟩)
set_option maxRecDepth 100000 in
theorem b_X1_turnSpan_5 {Q : ab_Q} {fr : Int} {to : Int} {t0 : Int} {rK : Int → Int} {rL : Int → Int} {rT : Int → Int} {rS : Int → Int} {rn : Int} {rc : Int} {rw : Int} (l1 : sp_X1_cutAt [.inr (.inl (some 0)), .inl (to + 1)] (rw_cs (rK, rL, rT, rS, rn, rc, rw)) (fun r_ k_ => ∃ (x_ : Int), ∃ (r' : rw_T), r_ = some (.inl x_) ∧ k_ = (rw_cs r') ∧ ab_R E_X1_turnSpan P_X1_turnSpan Q 13 [some (.inr (.inl (some 0))), some (.inl fr), some (.inl to), some (.inl t0), none, none] [.inl x_] (rw_cs r')))  : ab_R E_X1_turnSpan P_X1_turnSpan Q 5 [some (.inr (.inl (some 0))), some (.inl fr), some (.inl to), none, none, none] [.inl t0] (rw_cs (rK, rL, rT, rS, rn, rc, rw)) :=
  ab_R.steps [5, 13, 22, 25] 7 (show ab_cl sp_X1_cutAt [.inr (.inl (some 0)), .inl (to + 1)] (rw_cs (rK, rL, rT, rS, rn, rc, rw)) (fun r_ k_ => k_.length = ((rw_cs (rK, rL, rT, rS, rn, rc, rw))).length → ab_R E_X1_turnSpan P_X1_turnSpan Q 13 [some (.inr (.inl (some 0))), some (.inl fr), some (.inl to), some (.inl t0), none, none] (ab_ret r_ []) k_) from ⟨_, l1, fun r_ k_ hz _ => by obtain ⟨x_, r', rfl, rfl, hR⟩ := hz; exact hR⟩)
set_option maxRecDepth 100000 in
theorem b_X1_turnSpan_13 {Q : ab_Q} {fr : Int} {to : Int} {a : Int} {t0 : Int} {rK : Int → Int} {rL : Int → Int} {rT : Int → Int} {rS : Int → Int} {rn : Int} {rc : Int} {rw : Int} (l1 : sp_X1_reverseChunks [.inr (.inl (some 0)), .inl a, .inl t0] (rw_cs (rK, rL, rT, rS, rn, rc, rw)) (fun r_ k_ => ∃ (r' : rw_T), r_ = none ∧ k_ = (rw_cs r') ∧ ab_R E_X1_turnSpan P_X1_turnSpan Q 22 [some (.inr (.inl (some 0))), some (.inl fr), some (.inl to), some (.inl a), some (.inl t0), none] [] (rw_cs r')))  : ab_R E_X1_turnSpan P_X1_turnSpan Q 13 [some (.inr (.inl (some 0))), some (.inl fr), some (.inl to), some (.inl a), none, none] [.inl t0] (rw_cs (rK, rL, rT, rS, rn, rc, rw)) :=
  ab_R.steps [5, 13, 22, 25] 6 (show ab_cl sp_X1_reverseChunks [.inr (.inl (some 0)), .inl a, .inl t0] (rw_cs (rK, rL, rT, rS, rn, rc, rw)) (fun r_ k_ => k_.length = ((rw_cs (rK, rL, rT, rS, rn, rc, rw))).length → ab_R E_X1_turnSpan P_X1_turnSpan Q 22 [some (.inr (.inl (some 0))), some (.inl fr), some (.inl to), some (.inl a), some (.inl t0), none] (ab_ret r_ []) k_) from ⟨_, l1, fun r_ k_ hz _ => by obtain ⟨r', rfl, rfl, hR⟩ := hz; exact hR⟩)
set_option maxRecDepth 100000 in
theorem b_X1_turnSpan_22 {Q : ab_Q} {fr : Int} {to : Int} {a : Int} {b : Int} {rK : Int → Int} {rL : Int → Int} {rT : Int → Int} {rS : Int → Int} {rn : Int} {rc : Int} {rw : Int} (l1 : ab_R E_X1_turnSpan P_X1_turnSpan Q 25 [some (.inr (.inl (some 0))), some (.inl fr), some (.inl to), some (.inl a), some (.inl b), some (.inl a)] [] (rw_cs (rK, rL, rT, rS, rn, rc, rw)))  : ab_R E_X1_turnSpan P_X1_turnSpan Q 22 [some (.inr (.inl (some 0))), some (.inl fr), some (.inl to), some (.inl a), some (.inl b), none] [] (rw_cs (rK, rL, rT, rS, rn, rc, rw)) :=
  ab_R.steps [5, 13, 22, 25] 4 (show ab_R E_X1_turnSpan P_X1_turnSpan Q 25 [some (.inr (.inl (some 0))), some (.inl fr), some (.inl to), some (.inl a), some (.inl b), some (.inl a)] [] (rw_cs (rK, rL, rT, rS, rn, rc, rw)) from l1)
set_option maxRecDepth 100000 in
theorem b_X1_turnSpan_25 {Q : ab_Q} {fr : Int} {to : Int} {a : Int} {b : Int} {c : Int} {rK : Int → Int} {rL : Int → Int} {rT : Int → Int} {rS : Int → Int} {rn : Int} {rc : Int} {rw : Int} (l1 : b ≤ c → Q none (rw_cs (rK, rL, rT, rS, rn, rc, rw))) (l2 : c < b → ab_R E_X1_turnSpan P_X1_turnSpan Q 25 [some (.inr (.inl (some 0))), some (.inl fr), some (.inl to), some (.inl a), some (.inl b), some (.inl (c + 1))] [] (rw_cs (rK, rL, (ab_up rT c (1 - (rT c))), rS, rn, rc, rw))) (p1 : (ab_r c ∧ ab_r b) := by intros; (try unfold ab_r); omega) (p2 : c < b → (0 ≤ c ∧ c < 60) := by intros; (try unfold ab_r); omega) : ab_R E_X1_turnSpan P_X1_turnSpan Q 25 [some (.inr (.inl (some 0))), some (.inl fr), some (.inl to), some (.inl a), some (.inl b), some (.inl c)] [] (rw_cs (rK, rL, rT, rS, rn, rc, rw)) :=
  ab_R.steps [5, 13, 22, 25] 17 (show ((ab_r c ∧ ab_r b) ∧ ((b ≤ c → Q none (rw_cs (rK, rL, rT, rS, rn, rc, rw))) ∧ (c < b → ((0 ≤ c ∧ c < 60) ∧ ((0 ≤ c ∧ c < 60) ∧ ab_R E_X1_turnSpan P_X1_turnSpan Q 25 [some (.inr (.inl (some 0))), some (.inl fr), some (.inl to), some (.inl a), some (.inl b), some (.inl (c + 1))] [] (rw_cs (rK, rL, (ab_up rT c (1 - (rT c))), rS, rn, rc, rw))))))) from ⟨p1, ⟨fun h1 => (l1 h1), fun h2 => ⟨(p2 h2), ⟨(p2 h2), (l2 h2)⟩⟩⟩⟩)
-- ===== RootChunks$Row.addToSpan
def P_X1_addToSpan : List ab_I := [(0, .aload_n 0, 1, []), (1, .iload_n 1, 2, []), (2, .invokevirtual 53, 5, []), (5, .istore 4, 7, []), (7, .aload_n 0, 8, []), (8, .iload_n 2, 9, []), (9, .iconst 1, 10, []), (10, .iadd, 11, []), (11, .invokevirtual 53, 14, []), (14, .istore 5, 16, []), (16, .iload 4, 18, []), (18, .istore 6, 20, []), (20, .iload 6, 22, []), (22, .iload 5, 24, []), (24, .if_icmp .ge 20, 27, [((0 : Int), 44)]), (27, .aload_n 0, 28, []), (28, .getfield 21, 31, []), (31, .iload 6, 33, []), (33, .dup2, 34, []), (34, .iaload, 35, []), (35, .iload_n 3, 36, []), (36, .iadd, 37, []), (37, .iastore, 38, []), (38, .iinc 6 1, 41, []), (41, .goto (-21), 44, [((0 : Int), 20)]), (44, .return_, 45, [])]
def E_X1_addToSpan : ab_E := (T_X1, [(2, (2, 1, [], 0, sp_X1_cutAt)), (11, (2, 1, [], 0, sp_X1_cutAt))], [], 9)
def M_X1_addToSpan : List (Nat × ab_MI) := [(2, mi_X1_cutAt), (11, mi_X1_cutAt)]
def mi_X1_addToSpan : ab_MI := (yX1_addToSpan, cX1_addToSpan, 7, ab_rty 9, 4, 142)
theorem pk_X1_addToSpan : P_X1_addToSpan.all (ab_okI cX1_addToSpan) = true := by decide +kernel
theorem ck_X1_addToSpan : P_X1_addToSpan.all (ab_okC1 "RootChunks$Row" M_X1_addToSpan E_X1_addToSpan (4, 142)) = true := by decide +kernel
set_option maxRecDepth 100000 in
theorem b_X1_addToSpan_0 {Q : ab_Q} {fr : Int} {to : Int} {bb : Int} {rK : Int → Int} {rL : Int → Int} {rT : Int → Int} {rS : Int → Int} {rn : Int} {rc : Int} {rw : Int} (l1 : sp_X1_cutAt [.inr (.inl (some 0)), .inl fr] (rw_cs (rK, rL, rT, rS, rn, rc, rw)) (fun r_ k_ => ∃ (x_ : Int), ∃ (r' : rw_T), r_ = some (.inl x_) ∧ k_ = (rw_cs r') ∧ ab_R E_X1_addToSpan P_X1_addToSpan Q 5 [some (.inr (.inl (some 0))), some (.inl fr), some (.inl to), some (.inl bb), none, none, none] [.inl x_] (rw_cs r')))  : ab_R E_X1_addToSpan P_X1_addToSpan Q 0 [some (.inr (.inl (some 0))), some (.inl fr), some (.inl to), some (.inl bb), none, none, none] [] (rw_cs (rK, rL, rT, rS, rn, rc, rw)) :=
  ab_R.steps [5, 14, 20] 4 (show ab_cl sp_X1_cutAt [.inr (.inl (some 0)), .inl fr] (rw_cs (rK, rL, rT, rS, rn, rc, rw)) (fun r_ k_ => k_.length = ((rw_cs (rK, rL, rT, rS, rn, rc, rw))).length → ab_R E_X1_addToSpan P_X1_addToSpan Q 5 [some (.inr (.inl (some 0))), some (.inl fr), some (.inl to), some (.inl bb), none, none, none] (ab_ret r_ []) k_) from ⟨_, l1, fun r_ k_ hz _ => by obtain ⟨x_, r', rfl, rfl, hR⟩ := hz; exact hR⟩)
set_option maxRecDepth 100000 in
theorem b_X1_addToSpan_5 {Q : ab_Q} {fr : Int} {to : Int} {bb : Int} {t0 : Int} {rK : Int → Int} {rL : Int → Int} {rT : Int → Int} {rS : Int → Int} {rn : Int} {rc : Int} {rw : Int} (l1 : sp_X1_cutAt [.inr (.inl (some 0)), .inl (to + 1)] (rw_cs (rK, rL, rT, rS, rn, rc, rw)) (fun r_ k_ => ∃ (x_ : Int), ∃ (r' : rw_T), r_ = some (.inl x_) ∧ k_ = (rw_cs r') ∧ ab_R E_X1_addToSpan P_X1_addToSpan Q 14 [some (.inr (.inl (some 0))), some (.inl fr), some (.inl to), some (.inl bb), some (.inl t0), none, none] [.inl x_] (rw_cs r')))  : ab_R E_X1_addToSpan P_X1_addToSpan Q 5 [some (.inr (.inl (some 0))), some (.inl fr), some (.inl to), some (.inl bb), none, none, none] [.inl t0] (rw_cs (rK, rL, rT, rS, rn, rc, rw)) :=
  ab_R.steps [5, 14, 20] 7 (show ab_cl sp_X1_cutAt [.inr (.inl (some 0)), .inl (to + 1)] (rw_cs (rK, rL, rT, rS, rn, rc, rw)) (fun r_ k_ => k_.length = ((rw_cs (rK, rL, rT, rS, rn, rc, rw))).length → ab_R E_X1_addToSpan P_X1_addToSpan Q 14 [some (.inr (.inl (some 0))), some (.inl fr), some (.inl to), some (.inl bb), some (.inl t0), none, none] (ab_ret r_ []) k_) from ⟨_, l1, fun r_ k_ hz _ => by obtain ⟨x_, r', rfl, rfl, hR⟩ := hz; exact hR⟩)
set_option maxRecDepth 100000 in
theorem b_X1_addToSpan_14 {Q : ab_Q} {fr : Int} {to : Int} {bb : Int} {a : Int} {t0 : Int} {rK : Int → Int} {rL : Int → Int} {rT : Int → Int} {rS : Int → Int} {rn : Int} {rc : Int} {rw : Int} (l1 : ab_R E_X1_addToSpan P_X1_addToSpan Q 20 [some (.inr (.inl (some 0))), some (.inl fr), some (.inl to), some (.inl bb), some (.inl a), some (.inl t0), some (.inl a)] [] (rw_cs (rK, rL, rT, rS, rn, rc, rw)))  : ab_R E_X1_addToSpan P_X1_addToSpan Q 14 [some (.inr (.inl (some 0))), some (.inl fr), some (.inl to), some (.inl bb), some (.inl a), none, none] [.inl t0] (rw_cs (rK, rL, rT, rS, rn, rc, rw)) :=
  ab_R.steps [5, 14, 20] 5 (show ab_R E_X1_addToSpan P_X1_addToSpan Q 20 [some (.inr (.inl (some 0))), some (.inl fr), some (.inl to), some (.inl bb), some (.inl a), some (.inl t0), some (.inl a)] [] (rw_cs (rK, rL, rT, rS, rn, rc, rw)) from l1)
set_option maxRecDepth 100000 in
theorem b_X1_addToSpan_20 {Q : ab_Q} {fr : Int} {to : Int} {bb : Int} {a : Int} {b : Int} {c : Int} {rK : Int → Int} {rL : Int → Int} {rT : Int → Int} {rS : Int → Int} {rn : Int} {rc : Int} {rw : Int} (l1 : b ≤ c → Q none (rw_cs (rK, rL, rT, rS, rn, rc, rw))) (l2 : c < b → ab_R E_X1_addToSpan P_X1_addToSpan Q 20 [some (.inr (.inl (some 0))), some (.inl fr), some (.inl to), some (.inl bb), some (.inl a), some (.inl b), some (.inl (c + 1))] [] (rw_cs (rK, rL, rT, (ab_up rS c ((rS c) + bb)), rn, rc, rw))) (p1 : (ab_r c ∧ ab_r b) := by intros; (try unfold ab_r); omega) (p2 : c < b → (0 ≤ c ∧ c < 60) := by intros; (try unfold ab_r); omega) : ab_R E_X1_addToSpan P_X1_addToSpan Q 20 [some (.inr (.inl (some 0))), some (.inl fr), some (.inl to), some (.inl bb), some (.inl a), some (.inl b), some (.inl c)] [] (rw_cs (rK, rL, rT, rS, rn, rc, rw)) :=
  ab_R.steps [5, 14, 20] 15 (show ((ab_r c ∧ ab_r b) ∧ ((b ≤ c → Q none (rw_cs (rK, rL, rT, rS, rn, rc, rw))) ∧ (c < b → ((0 ≤ c ∧ c < 60) ∧ ((0 ≤ c ∧ c < 60) ∧ ab_R E_X1_addToSpan P_X1_addToSpan Q 20 [some (.inr (.inl (some 0))), some (.inl fr), some (.inl to), some (.inl bb), some (.inl a), some (.inl b), some (.inl (c + 1))] [] (rw_cs (rK, rL, rT, (ab_up rS c ((rS c) + bb)), rn, rc, rw))))))) from ⟨p1, ⟨fun h1 => (l1 h1), fun h2 => ⟨(p2 h2), ⟨(p2 h2), (l2 h2)⟩⟩⟩⟩)
-- ===== RootChunks$Row.moveSpan
def P_X1_moveSpan : List ab_I := [(0, .iload_n 2, 1, []), (1, .iconst 1, 2, []), (2, .iadd, 3, []), (3, .istore 4, 5, []), (5, .aload_n 0, 6, []), (6, .iload_n 1, 7, []), (7, .invokevirtual 53, 10, []), (10, .pop, 11, []), (11, .aload_n 0, 12, []), (12, .iload 4, 14, []), (14, .invokevirtual 53, 17, []), (17, .pop, 18, []), (18, .iload_n 3, 19, []), (19, .iload_n 1, 20, []), (20, .if_icmp .gt 26, 23, [((0 : Int), 46)]), (23, .aload_n 0, 24, []), (24, .aload_n 0, 25, []), (25, .iload_n 3, 26, []), (26, .invokevirtual 53, 29, []), (29, .aload_n 0, 30, []), (30, .iload_n 1, 31, []), (31, .invokevirtual 53, 34, []), (34, .aload_n 0, 35, []), (35, .iload 4, 37, []), (37, .invokevirtual 53, 40, []), (40, .invokevirtual 70, 43, []), (43, .goto 28, 46, [((0 : Int), 71)]), (46, .aload_n 0, 47, []), (47, .aload_n 0, 48, []), (48, .iload_n 1, 49, []), (49, .invokevirtual 53, 52, []), (52, .aload_n 0, 53, []), (53, .iload 4, 55, []), (55, .invokevirtual 53, 58, []), (58, .aload_n 0, 59, []), (59, .iload_n 3, 60, []), (60, .iload 4, 62, []), (62, .iadd, 63, []), (63, .iload_n 1, 64, []), (64, .isub, 65, []), (65, .invokevirtual 53, 68, []), (68, .invokevirtual 70, 71, []), (71, .return_, 72, [])]
def E_X1_moveSpan : ab_E := (T_X1, [(7, (2, 1, [], 0, sp_X1_cutAt)), (14, (2, 1, [], 0, sp_X1_cutAt)), (26, (2, 1, [], 0, sp_X1_cutAt)), (31, (2, 1, [], 0, sp_X1_cutAt)), (37, (2, 1, [], 0, sp_X1_cutAt)), (40, (4, 1, [], 0, sp_X1_exchangeChunks)), (49, (2, 1, [], 0, sp_X1_cutAt)), (55, (2, 1, [], 0, sp_X1_cutAt)), (65, (2, 1, [], 0, sp_X1_cutAt)), (68, (4, 1, [], 0, sp_X1_exchangeChunks))], [], 9)
def M_X1_moveSpan : List (Nat × ab_MI) := [(7, mi_X1_cutAt), (14, mi_X1_cutAt), (26, mi_X1_cutAt), (31, mi_X1_cutAt), (37, mi_X1_cutAt), (40, mi_X1_exchangeChunks), (49, mi_X1_cutAt), (55, mi_X1_cutAt), (65, mi_X1_cutAt), (68, mi_X1_exchangeChunks)]
def mi_X1_moveSpan : ab_MI := (yX1_moveSpan, cX1_moveSpan, 5, ab_rty 9, 4, 142)
theorem pk_X1_moveSpan : P_X1_moveSpan.all (ab_okI cX1_moveSpan) = true := by decide +kernel
theorem ck_X1_moveSpan : P_X1_moveSpan.all (ab_okC1 "RootChunks$Row" M_X1_moveSpan E_X1_moveSpan (4, 142)) = true := by decide +kernel
set_option maxRecDepth 100000 in
theorem b_X1_moveSpan_0 {Q : ab_Q} {fr : Int} {to : Int} {p : Int} {rK : Int → Int} {rL : Int → Int} {rT : Int → Int} {rS : Int → Int} {rn : Int} {rc : Int} {rw : Int} (l1 : sp_X1_cutAt [.inr (.inl (some 0)), .inl fr] (rw_cs (rK, rL, rT, rS, rn, rc, rw)) (fun r_ k_ => ∃ (x_ : Int), ∃ (r' : rw_T), r_ = some (.inl x_) ∧ k_ = (rw_cs r') ∧ ab_R E_X1_moveSpan P_X1_moveSpan Q 10 [some (.inr (.inl (some 0))), some (.inl fr), some (.inl to), some (.inl p), some (.inl (to + 1))] [.inl x_] (rw_cs r')))  : ab_R E_X1_moveSpan P_X1_moveSpan Q 0 [some (.inr (.inl (some 0))), some (.inl fr), some (.inl to), some (.inl p), none] [] (rw_cs (rK, rL, rT, rS, rn, rc, rw)) :=
  ab_R.steps [10, 17, 29, 34, 40, 43, 52, 58, 68, 71] 8 (show ab_cl sp_X1_cutAt [.inr (.inl (some 0)), .inl fr] (rw_cs (rK, rL, rT, rS, rn, rc, rw)) (fun r_ k_ => k_.length = ((rw_cs (rK, rL, rT, rS, rn, rc, rw))).length → ab_R E_X1_moveSpan P_X1_moveSpan Q 10 [some (.inr (.inl (some 0))), some (.inl fr), some (.inl to), some (.inl p), some (.inl (to + 1))] (ab_ret r_ []) k_) from ⟨_, l1, fun r_ k_ hz _ => by obtain ⟨x_, r', rfl, rfl, hR⟩ := hz; exact hR⟩)
set_option maxRecDepth 100000 in
theorem b_X1_moveSpan_10 {Q : ab_Q} {fr : Int} {to : Int} {p : Int} {bh : Int} {t0 : Int} {rK : Int → Int} {rL : Int → Int} {rT : Int → Int} {rS : Int → Int} {rn : Int} {rc : Int} {rw : Int} (l1 : sp_X1_cutAt [.inr (.inl (some 0)), .inl bh] (rw_cs (rK, rL, rT, rS, rn, rc, rw)) (fun r_ k_ => ∃ (x_ : Int), ∃ (r' : rw_T), r_ = some (.inl x_) ∧ k_ = (rw_cs r') ∧ ab_R E_X1_moveSpan P_X1_moveSpan Q 17 [some (.inr (.inl (some 0))), some (.inl fr), some (.inl to), some (.inl p), some (.inl bh)] [.inl x_] (rw_cs r')))  : ab_R E_X1_moveSpan P_X1_moveSpan Q 10 [some (.inr (.inl (some 0))), some (.inl fr), some (.inl to), some (.inl p), some (.inl bh)] [.inl t0] (rw_cs (rK, rL, rT, rS, rn, rc, rw)) :=
  ab_R.steps [10, 17, 29, 34, 40, 43, 52, 58, 68, 71] 5 (show ab_cl sp_X1_cutAt [.inr (.inl (some 0)), .inl bh] (rw_cs (rK, rL, rT, rS, rn, rc, rw)) (fun r_ k_ => k_.length = ((rw_cs (rK, rL, rT, rS, rn, rc, rw))).length → ab_R E_X1_moveSpan P_X1_moveSpan Q 17 [some (.inr (.inl (some 0))), some (.inl fr), some (.inl to), some (.inl p), some (.inl bh)] (ab_ret r_ []) k_) from ⟨_, l1, fun r_ k_ hz _ => by obtain ⟨x_, r', rfl, rfl, hR⟩ := hz; exact hR⟩)
set_option maxRecDepth 100000 in
theorem b_X1_moveSpan_17 {Q : ab_Q} {fr : Int} {to : Int} {p : Int} {bh : Int} {t0 : Int} {rK : Int → Int} {rL : Int → Int} {rT : Int → Int} {rS : Int → Int} {rn : Int} {rc : Int} {rw : Int} (l1 : fr < p → sp_X1_cutAt [.inr (.inl (some 0)), .inl fr] (rw_cs (rK, rL, rT, rS, rn, rc, rw)) (fun r_ k_ => ∃ (x_ : Int), ∃ (r' : rw_T), r_ = some (.inl x_) ∧ k_ = (rw_cs r') ∧ ab_R E_X1_moveSpan P_X1_moveSpan Q 52 [some (.inr (.inl (some 0))), some (.inl fr), some (.inl to), some (.inl p), some (.inl bh)] [.inl x_, .inr (.inl (some 0))] (rw_cs r'))) (l2 : p ≤ fr → sp_X1_cutAt [.inr (.inl (some 0)), .inl p] (rw_cs (rK, rL, rT, rS, rn, rc, rw)) (fun r_ k_ => ∃ (x_ : Int), ∃ (r' : rw_T), r_ = some (.inl x_) ∧ k_ = (rw_cs r') ∧ ab_R E_X1_moveSpan P_X1_moveSpan Q 29 [some (.inr (.inl (some 0))), some (.inl fr), some (.inl to), some (.inl p), some (.inl bh)] [.inl x_, .inr (.inl (some 0))] (rw_cs r'))) (p1 : (ab_r p ∧ ab_r fr) := by intros; (try unfold ab_r); omega) : ab_R E_X1_moveSpan P_X1_moveSpan Q 17 [some (.inr (.inl (some 0))), some (.inl fr), some (.inl to), some (.inl p), some (.inl bh)] [.inl t0] (rw_cs (rK, rL, rT, rS, rn, rc, rw)) :=
  ab_R.steps [10, 17, 29, 34, 40, 43, 52, 58, 68, 71] 9 (show ((ab_r p ∧ ab_r fr) ∧ ((fr < p → ab_cl sp_X1_cutAt [.inr (.inl (some 0)), .inl fr] (rw_cs (rK, rL, rT, rS, rn, rc, rw)) (fun r_ k_ => k_.length = ((rw_cs (rK, rL, rT, rS, rn, rc, rw))).length → ab_R E_X1_moveSpan P_X1_moveSpan Q 52 [some (.inr (.inl (some 0))), some (.inl fr), some (.inl to), some (.inl p), some (.inl bh)] (ab_ret r_ [.inr (.inl (some 0))]) k_)) ∧ (p ≤ fr → ab_cl sp_X1_cutAt [.inr (.inl (some 0)), .inl p] (rw_cs (rK, rL, rT, rS, rn, rc, rw)) (fun r_ k_ => k_.length = ((rw_cs (rK, rL, rT, rS, rn, rc, rw))).length → ab_R E_X1_moveSpan P_X1_moveSpan Q 29 [some (.inr (.inl (some 0))), some (.inl fr), some (.inl to), some (.inl p), some (.inl bh)] (ab_ret r_ [.inr (.inl (some 0))]) k_)))) from ⟨p1, ⟨fun h1 => ⟨_, (l1 h1), fun r_ k_ hz _ => by obtain ⟨x_, r', rfl, rfl, hR⟩ := hz; exact hR⟩, fun h2 => ⟨_, (l2 h2), fun r_ k_ hz _ => by obtain ⟨x_, r', rfl, rfl, hR⟩ := hz; exact hR⟩⟩⟩)
set_option maxRecDepth 100000 in
theorem b_X1_moveSpan_29 {Q : ab_Q} {fr : Int} {to : Int} {p : Int} {bh : Int} {t0 : Int} {rK : Int → Int} {rL : Int → Int} {rT : Int → Int} {rS : Int → Int} {rn : Int} {rc : Int} {rw : Int} (l1 : sp_X1_cutAt [.inr (.inl (some 0)), .inl fr] (rw_cs (rK, rL, rT, rS, rn, rc, rw)) (fun r_ k_ => ∃ (x_ : Int), ∃ (r' : rw_T), r_ = some (.inl x_) ∧ k_ = (rw_cs r') ∧ ab_R E_X1_moveSpan P_X1_moveSpan Q 34 [some (.inr (.inl (some 0))), some (.inl fr), some (.inl to), some (.inl p), some (.inl bh)] [.inl x_, .inl t0, .inr (.inl (some 0))] (rw_cs r')))  : ab_R E_X1_moveSpan P_X1_moveSpan Q 29 [some (.inr (.inl (some 0))), some (.inl fr), some (.inl to), some (.inl p), some (.inl bh)] [.inl t0, .inr (.inl (some 0))] (rw_cs (rK, rL, rT, rS, rn, rc, rw)) :=
  ab_R.steps [10, 17, 29, 34, 40, 43, 52, 58, 68, 71] 4 (show ab_cl sp_X1_cutAt [.inr (.inl (some 0)), .inl fr] (rw_cs (rK, rL, rT, rS, rn, rc, rw)) (fun r_ k_ => k_.length = ((rw_cs (rK, rL, rT, rS, rn, rc, rw))).length → ab_R E_X1_moveSpan P_X1_moveSpan Q 34 [some (.inr (.inl (some 0))), some (.inl fr), some (.inl to), some (.inl p), some (.inl bh)] (ab_ret r_ [.inl t0, .inr (.inl (some 0))]) k_) from ⟨_, l1, fun r_ k_ hz _ => by obtain ⟨x_, r', rfl, rfl, hR⟩ := hz; exact hR⟩)
set_option maxRecDepth 100000 in
theorem b_X1_moveSpan_34 {Q : ab_Q} {fr : Int} {to : Int} {p : Int} {bh : Int} {t0 : Int} {t1 : Int} {rK : Int → Int} {rL : Int → Int} {rT : Int → Int} {rS : Int → Int} {rn : Int} {rc : Int} {rw : Int} (l1 : sp_X1_cutAt [.inr (.inl (some 0)), .inl bh] (rw_cs (rK, rL, rT, rS, rn, rc, rw)) (fun r_ k_ => ∃ (x_ : Int), ∃ (r' : rw_T), r_ = some (.inl x_) ∧ k_ = (rw_cs r') ∧ ab_R E_X1_moveSpan P_X1_moveSpan Q 40 [some (.inr (.inl (some 0))), some (.inl fr), some (.inl to), some (.inl p), some (.inl bh)] [.inl x_, .inl t0, .inl t1, .inr (.inl (some 0))] (rw_cs r')))  : ab_R E_X1_moveSpan P_X1_moveSpan Q 34 [some (.inr (.inl (some 0))), some (.inl fr), some (.inl to), some (.inl p), some (.inl bh)] [.inl t0, .inl t1, .inr (.inl (some 0))] (rw_cs (rK, rL, rT, rS, rn, rc, rw)) :=
  ab_R.steps [10, 17, 29, 34, 40, 43, 52, 58, 68, 71] 4 (show ab_cl sp_X1_cutAt [.inr (.inl (some 0)), .inl bh] (rw_cs (rK, rL, rT, rS, rn, rc, rw)) (fun r_ k_ => k_.length = ((rw_cs (rK, rL, rT, rS, rn, rc, rw))).length → ab_R E_X1_moveSpan P_X1_moveSpan Q 40 [some (.inr (.inl (some 0))), some (.inl fr), some (.inl to), some (.inl p), some (.inl bh)] (ab_ret r_ [.inl t0, .inl t1, .inr (.inl (some 0))]) k_) from ⟨_, l1, fun r_ k_ hz _ => by obtain ⟨x_, r', rfl, rfl, hR⟩ := hz; exact hR⟩)
set_option maxRecDepth 100000 in
theorem b_X1_moveSpan_40 {Q : ab_Q} {fr : Int} {to : Int} {p : Int} {bh : Int} {t0 : Int} {t1 : Int} {t2 : Int} {rK : Int → Int} {rL : Int → Int} {rT : Int → Int} {rS : Int → Int} {rn : Int} {rc : Int} {rw : Int} (l1 : sp_X1_exchangeChunks [.inr (.inl (some 0)), .inl t2, .inl t1, .inl t0] (rw_cs (rK, rL, rT, rS, rn, rc, rw)) (fun r_ k_ => ∃ (r' : rw_T), r_ = none ∧ k_ = (rw_cs r') ∧ ab_R E_X1_moveSpan P_X1_moveSpan Q 43 [some (.inr (.inl (some 0))), some (.inl fr), some (.inl to), some (.inl p), some (.inl bh)] [] (rw_cs r')))  : ab_R E_X1_moveSpan P_X1_moveSpan Q 40 [some (.inr (.inl (some 0))), some (.inl fr), some (.inl to), some (.inl p), some (.inl bh)] [.inl t0, .inl t1, .inl t2, .inr (.inl (some 0))] (rw_cs (rK, rL, rT, rS, rn, rc, rw)) :=
  ab_R.steps [10, 17, 29, 34, 40, 43, 52, 58, 68, 71] 2 (show ab_cl sp_X1_exchangeChunks [.inr (.inl (some 0)), .inl t2, .inl t1, .inl t0] (rw_cs (rK, rL, rT, rS, rn, rc, rw)) (fun r_ k_ => k_.length = ((rw_cs (rK, rL, rT, rS, rn, rc, rw))).length → ab_R E_X1_moveSpan P_X1_moveSpan Q 43 [some (.inr (.inl (some 0))), some (.inl fr), some (.inl to), some (.inl p), some (.inl bh)] (ab_ret r_ []) k_) from ⟨_, l1, fun r_ k_ hz _ => by obtain ⟨r', rfl, rfl, hR⟩ := hz; exact hR⟩)
set_option maxRecDepth 100000 in
theorem b_X1_moveSpan_43 {Q : ab_Q} {fr : Int} {to : Int} {p : Int} {bh : Int} {rK : Int → Int} {rL : Int → Int} {rT : Int → Int} {rS : Int → Int} {rn : Int} {rc : Int} {rw : Int} (l1 : ab_R E_X1_moveSpan P_X1_moveSpan Q 71 [some (.inr (.inl (some 0))), some (.inl fr), some (.inl to), some (.inl p), some (.inl bh)] [] (rw_cs (rK, rL, rT, rS, rn, rc, rw)))  : ab_R E_X1_moveSpan P_X1_moveSpan Q 43 [some (.inr (.inl (some 0))), some (.inl fr), some (.inl to), some (.inl p), some (.inl bh)] [] (rw_cs (rK, rL, rT, rS, rn, rc, rw)) :=
  ab_R.steps [10, 17, 29, 34, 40, 43, 52, 58, 68, 71] 3 (show ab_R E_X1_moveSpan P_X1_moveSpan Q 71 [some (.inr (.inl (some 0))), some (.inl fr), some (.inl to), some (.inl p), some (.inl bh)] [] (rw_cs (rK, rL, rT, rS, rn, rc, rw)) from l1)
set_option maxRecDepth 100000 in
theorem b_X1_moveSpan_52 {Q : ab_Q} {fr : Int} {to : Int} {p : Int} {bh : Int} {t0 : Int} {rK : Int → Int} {rL : Int → Int} {rT : Int → Int} {rS : Int → Int} {rn : Int} {rc : Int} {rw : Int} (l1 : sp_X1_cutAt [.inr (.inl (some 0)), .inl bh] (rw_cs (rK, rL, rT, rS, rn, rc, rw)) (fun r_ k_ => ∃ (x_ : Int), ∃ (r' : rw_T), r_ = some (.inl x_) ∧ k_ = (rw_cs r') ∧ ab_R E_X1_moveSpan P_X1_moveSpan Q 58 [some (.inr (.inl (some 0))), some (.inl fr), some (.inl to), some (.inl p), some (.inl bh)] [.inl x_, .inl t0, .inr (.inl (some 0))] (rw_cs r')))  : ab_R E_X1_moveSpan P_X1_moveSpan Q 52 [some (.inr (.inl (some 0))), some (.inl fr), some (.inl to), some (.inl p), some (.inl bh)] [.inl t0, .inr (.inl (some 0))] (rw_cs (rK, rL, rT, rS, rn, rc, rw)) :=
  ab_R.steps [10, 17, 29, 34, 40, 43, 52, 58, 68, 71] 4 (show ab_cl sp_X1_cutAt [.inr (.inl (some 0)), .inl bh] (rw_cs (rK, rL, rT, rS, rn, rc, rw)) (fun r_ k_ => k_.length = ((rw_cs (rK, rL, rT, rS, rn, rc, rw))).length → ab_R E_X1_moveSpan P_X1_moveSpan Q 58 [some (.inr (.inl (some 0))), some (.inl fr), some (.inl to), some (.inl p), some (.inl bh)] (ab_ret r_ [.inl t0, .inr (.inl (some 0))]) k_) from ⟨_, l1, fun r_ k_ hz _ => by obtain ⟨x_, r', rfl, rfl, hR⟩ := hz; exact hR⟩)
set_option maxRecDepth 100000 in
theorem b_X1_moveSpan_58 {Q : ab_Q} {fr : Int} {to : Int} {p : Int} {bh : Int} {t0 : Int} {t1 : Int} {rK : Int → Int} {rL : Int → Int} {rT : Int → Int} {rS : Int → Int} {rn : Int} {rc : Int} {rw : Int} (l1 : sp_X1_cutAt [.inr (.inl (some 0)), .inl ((p + bh) - fr)] (rw_cs (rK, rL, rT, rS, rn, rc, rw)) (fun r_ k_ => ∃ (x_ : Int), ∃ (r' : rw_T), r_ = some (.inl x_) ∧ k_ = (rw_cs r') ∧ ab_R E_X1_moveSpan P_X1_moveSpan Q 68 [some (.inr (.inl (some 0))), some (.inl fr), some (.inl to), some (.inl p), some (.inl bh)] [.inl x_, .inl t0, .inl t1, .inr (.inl (some 0))] (rw_cs r')))  : ab_R E_X1_moveSpan P_X1_moveSpan Q 58 [some (.inr (.inl (some 0))), some (.inl fr), some (.inl to), some (.inl p), some (.inl bh)] [.inl t0, .inl t1, .inr (.inl (some 0))] (rw_cs (rK, rL, rT, rS, rn, rc, rw)) :=
  ab_R.steps [10, 17, 29, 34, 40, 43, 52, 58, 68, 71] 8 (show ab_cl sp_X1_cutAt [.inr (.inl (some 0)), .inl ((p + bh) - fr)] (rw_cs (rK, rL, rT, rS, rn, rc, rw)) (fun r_ k_ => k_.length = ((rw_cs (rK, rL, rT, rS, rn, rc, rw))).length → ab_R E_X1_moveSpan P_X1_moveSpan Q 68 [some (.inr (.inl (some 0))), some (.inl fr), some (.inl to), some (.inl p), some (.inl bh)] (ab_ret r_ [.inl t0, .inl t1, .inr (.inl (some 0))]) k_) from ⟨_, l1, fun r_ k_ hz _ => by obtain ⟨x_, r', rfl, rfl, hR⟩ := hz; exact hR⟩)
set_option maxRecDepth 100000 in
theorem b_X1_moveSpan_68 {Q : ab_Q} {fr : Int} {to : Int} {p : Int} {bh : Int} {t0 : Int} {t1 : Int} {t2 : Int} {rK : Int → Int} {rL : Int → Int} {rT : Int → Int} {rS : Int → Int} {rn : Int} {rc : Int} {rw : Int} (l1 : sp_X1_exchangeChunks [.inr (.inl (some 0)), .inl t2, .inl t1, .inl t0] (rw_cs (rK, rL, rT, rS, rn, rc, rw)) (fun r_ k_ => ∃ (r' : rw_T), r_ = none ∧ k_ = (rw_cs r') ∧ ab_R E_X1_moveSpan P_X1_moveSpan Q 71 [some (.inr (.inl (some 0))), some (.inl fr), some (.inl to), some (.inl p), some (.inl bh)] [] (rw_cs r')))  : ab_R E_X1_moveSpan P_X1_moveSpan Q 68 [some (.inr (.inl (some 0))), some (.inl fr), some (.inl to), some (.inl p), some (.inl bh)] [.inl t0, .inl t1, .inl t2, .inr (.inl (some 0))] (rw_cs (rK, rL, rT, rS, rn, rc, rw)) :=
  ab_R.steps [10, 17, 29, 34, 40, 43, 52, 58, 68, 71] 2 (show ab_cl sp_X1_exchangeChunks [.inr (.inl (some 0)), .inl t2, .inl t1, .inl t0] (rw_cs (rK, rL, rT, rS, rn, rc, rw)) (fun r_ k_ => k_.length = ((rw_cs (rK, rL, rT, rS, rn, rc, rw))).length → ab_R E_X1_moveSpan P_X1_moveSpan Q 71 [some (.inr (.inl (some 0))), some (.inl fr), some (.inl to), some (.inl p), some (.inl bh)] (ab_ret r_ []) k_) from ⟨_, l1, fun r_ k_ hz _ => by obtain ⟨r', rfl, rfl, hR⟩ := hz; exact hR⟩)
set_option maxRecDepth 100000 in
theorem b_X1_moveSpan_71 {Q : ab_Q} {fr : Int} {to : Int} {p : Int} {bh : Int} {rK : Int → Int} {rL : Int → Int} {rT : Int → Int} {rS : Int → Int} {rn : Int} {rc : Int} {rw : Int} (l1 : Q none (rw_cs (rK, rL, rT, rS, rn, rc, rw)))  : ab_R E_X1_moveSpan P_X1_moveSpan Q 71 [some (.inr (.inl (some 0))), some (.inl fr), some (.inl to), some (.inl p), some (.inl bh)] [] (rw_cs (rK, rL, rT, rS, rn, rc, rw)) :=
  ab_R.steps [10, 17, 29, 34, 40, 43, 52, 58, 68, 71] 2 (show Q none (rw_cs (rK, rL, rT, rS, rn, rc, rw)) from l1)
theorem vc_X1_insert {av : List ab_V} {cs : List ab_C} {Q : ab_Q} (h : sp_X1_insert av cs Q) : (ab_lv0 av).length ≤ 5 ∧ ab_R E_X1_insert P_X1_insert Q 0 (ab_ent av 5) [] cs := by
  obtain ⟨⟨K, L, T, S, n, cc, w⟩, q, d, p, v, rfl, rfl, hR, hW, hp, hd, hl, hQ⟩ := h
  refine ⟨Nat.le_of_ble_eq_true rfl, ?_⟩
  have hn : n = ((mq_flat q).length : Nat) := hR.2.2.2.2.1
  refine b_X1_insert_0 (fun _ => ?_) (fun _ => by omega)
  refine ⟨_, q, d, _, rfl, rfl, hR, hW, hp, hd, fun r1 hr1 hw1 => ⟨_, r1, rfl, rfl, ?_⟩⟩
  obtain ⟨K1, L1, T1, S1, n1, c1, w1⟩ := r1
  have hn1 : n1 = (mq_flat ((mq_cut q d).1 ++ (mq_cut q d).2.1)).length := hr1.2.2.2.2.1
  obtain ⟨z1, z2⟩ := mq_cut_len hd
  rw [mq_flat_app, List.length_append, z1, z2] at hn1
  have hcc : c1 = (((mq_cut q d).1 ++ (mq_cut q d).2.1).length : Nat) := hr1.2.2.2.2.2
  have hW1 := mq_cut_W hW hd
  have hpos := mq_flat_pos hW1.1
  simp only [mq_flat_app, List.length_append, z1, z2] at hpos
  rw [List.length_append] at hcc
  dsimp only at hw1
  have loop : ∀ (m : Nat) (i : Int) (K2 : Int → Int), i = p + m → i ≤ n1 → (∀ j, K2 j = if i < j ∧ j ≤ n1 then K1 (j - 1) else K1 j) →
      ab_R E_X1_insert P_X1_insert Q 22 [some (.inr (.inl (some 0))), some (.inl p), some (.inl v), some (.inl ((mq_cut q d).1.length : Int)), some (.inl i)] [] (rw_cs (K2, L1, T1, S1, n1, c1, w1)) := by
    intro m
    induction m with
    | zero =>
      intro i K2 g1 g2 g3
      refine b_X1_insert_22 (fun _ => ?_) (fun _ => by omega)
      refine ⟨_, _, _, _, _, _, _, _, _, rfl, rfl, by omega, by omega, by omega, _, rfl, rfl, ?_⟩
      refine b_X1_insert_73 ?_
      have e : ab_up K2 p v = mq_ins K1 n1 (mq_flat (mq_cut q d).1).length v := by
        funext j
        unfold ab_up mq_ins
        rw [g3, z1, ← hp]
        rw [show i = p by omega]
      rw [e]
      refine hQ _ (mq_R_put hr1) ?_
      show w1 + 1 = w + ((mq_cut q d).2.2 + 1)
      omega
    | succ m ih =>
      intro i K2 g1 g2 g3
      refine b_X1_insert_22 (fun _ => by omega) (fun _ => ih _ _ (by omega) (by omega) (fun j => ?_))
      unfold ab_up
      by_cases z : j = i
      · rw [if_pos z, if_pos (by omega), g3, if_neg (by omega), z]
      · rw [if_neg z, g3]
        by_cases z2 : i < j ∧ j ≤ n1
        · rw [if_pos z2, if_pos (by omega)]
        · rw [if_neg z2, if_neg (by omega)]
  refine b_X1_insert_15 (loop ((mq_flat q).length - d) n1 K1 (by omega) (by omega) (fun j => by rw [if_neg (by omega)]))
theorem mt_X1_insert (l : Launch) : ab_MT l mi_X1_insert sp_X1_insert := ab_MT.of (own := "RootChunks$Row") (E := E_X1_insert) (P := P_X1_insert) (M := M_X1_insert) (nL := 5) (ty := 9) (by decide) rfl rfl tk_X1 pk_X1_insert ck_X1_insert (ab_CT'.cons (mt_X1_cutAt l) (ab_CT'.cons (mt_X1_openChunk l) ab_CT'.nil)) (fun av cs Q h => vc_X1_insert h)
theorem vc_X1_remove {av : List ab_V} {cs : List ab_C} {Q : ab_Q} (h : sp_X1_remove av cs Q) : (ab_lv0 av).length ≤ 4 ∧ ab_R E_X1_remove P_X1_remove Q 0 (ab_ent av 4) [] cs := by
  obtain ⟨⟨K, L, T, S, n, cc, w⟩, q, d, p, rfl, rfl, hR, hW, hp, hd, hQ⟩ := h
  refine ⟨Nat.le_of_ble_eq_true rfl, ?_⟩
  refine b_X1_remove_0 ⟨_, q, d, _, rfl, rfl, hR, hW, hp, by omega, fun r1 hr1 hw1 => ⟨_, r1, rfl, rfl, ?_⟩⟩
  obtain ⟨K1, L1, T1, S1, n1, c1, w1⟩ := r1
  have hW1 := mq_cut_W (d := d) hW (by omega)
  obtain ⟨z1, z2⟩ := mq_cut_len (q := q) (d := d) (by omega)
  obtain ⟨o1, o2⟩ := mq_cut_ok (d := d) hW.1
  have hc2 := mq_cut_app (B := (mq_cut q d).2.1) (d := 1) o1
  rw [z1] at hc2
  refine b_X1_remove_5 ⟨_, _, d + 1, _, rfl, rfl, hr1, hW1, by omega, by rw [mq_flat_app, List.length_append, z1, z2]; omega, fun r2 hr2 hw2 => ⟨_, r2, rfl, rfl, ?_⟩⟩
  obtain ⟨K2, L2, T2, S2, n2, c2, w2⟩ := r2
  rw [hc2] at hr2 hw2
  obtain ⟨sI1, sI2, sI3, sI4, sI5, sI6, sI7⟩ := mq_span_in (f := d) (n := 1) hW (by omega)
  have hWs := mq_span_W (f := d) (n := 1) hW (by omega)
  obtain ⟨k, hk1, hk2⟩ := mq_cut_1 o2 (by omega)
  have hs1 : (mq_span q d 1).2.1 = [k] := hk1
  have hr2' : mq_R (K2, L2, T2, S2, n2, c2, w2) ((mq_span q d 1).1 ++ k :: (mq_span q d 1).2.2.1) := by
    have : mq_R (K2, L2, T2, S2, n2, c2, w2) (((mq_cut q d).1 ++ (mq_cut (mq_cut q d).2.1 1).1) ++ (mq_cut (mq_cut q d).2.1 1).2.1) := hr2
    rw [hk1] at this
    show mq_R (K2, L2, T2, S2, n2, c2, w2) ((mq_cut q d).1 ++ k :: (mq_cut (mq_cut q d).2.1 1).2.1)
    simpa using this
  have hn2 : n2 = ((mq_flat ((mq_span q d 1).1 ++ k :: (mq_span q d 1).2.2.1)).length : Nat) := hr2'.2.2.2.2.1
  have hcc : c2 = (((mq_span q d 1).1 ++ k :: (mq_span q d 1).2.2.1).length : Nat) := hr2'.2.2.2.2.2
  have hcl := hWs.chunks
  rw [hs1] at hcl
  rw [mq_flat_mid, List.length_append, List.length_append, sI1, sI3, hk2] at hn2
  rw [List.length_append, List.length_cons] at hcc
  simp only [List.length_append, List.length_cons, List.length_nil] at hcl
  have hfl := hW.2
  dsimp only at hw1 hw2
  have loop : ∀ (m : Nat) (i : Int) (K3 : Int → Int), n2 - i = m → p < i → (∀ j, K3 j = if p ≤ j ∧ j < i - 1 then K2 (j + 1) else K2 j) →
      ab_R E_X1_remove P_X1_remove Q 18 [some (.inr (.inl (some 0))), some (.inl p), some (.inl ((mq_cut q d).1.length : Int)), some (.inl i)] [] (rw_cs (K3, L2, T2, S2, n2, c2, w2)) := by
    intro m
    induction m with
    | zero =>
      intro i K3 g1 g2 g3
      refine b_X1_remove_18 (fun _ => ?_) (fun _ => by omega)
      have hlen : ((mq_cut q d).1.length : Int) = ((mq_span q d 1).1.length : Nat) := rfl
      refine ⟨_, _, _, _, _, _, _, _, rfl, rfl, by omega, by omega, by omega, _, rfl, rfl, ?_⟩
      refine b_X1_remove_61 ?_
      have e : K3 = mq_del K2 n2 (mq_flat (mq_span q d 1).1).length := by
        funext j
        unfold mq_del
        rw [g3, sI1, ← hp, show i = n2 by omega]
      rw [e]
      refine hQ _ (mq_R_take hr2' hk2) ?_
      show w2 = w + ((mq_cut q d).2.2 + (mq_cut (mq_cut q d).2.1 1).2.2)
      omega
    | succ m ih =>
      intro i K3 g1 g2 g3
      refine b_X1_remove_18 (fun _ => by omega) (fun _ => ih _ _ (by omega) (by omega) (fun j => ?_))
      unfold ab_up
      by_cases z : j = i - 1
      · rw [if_pos z, if_pos (by omega), g3, if_neg (by omega)]; congr 1; omega
      · rw [if_neg z, g3]
        by_cases z2 : p ≤ j ∧ j < i - 1
        · rw [if_pos z2, if_pos (by omega)]
        · rw [if_neg z2, if_neg (by omega)]
  exact b_X1_remove_13 (loop (n2 - (p + 1)).toNat (p + 1) K2 (by omega) (by omega) (fun j => by rw [if_neg (by omega)]))
theorem mt_X1_remove (l : Launch) : ab_MT l mi_X1_remove sp_X1_remove := ab_MT.of (own := "RootChunks$Row") (E := E_X1_remove) (P := P_X1_remove) (M := M_X1_remove) (nL := 4) (ty := 9) (by decide) rfl rfl tk_X1 pk_X1_remove ck_X1_remove (ab_CT'.cons (mt_X1_cutAt l) (ab_CT'.cons (mt_X1_cutAt l) (ab_CT'.cons (mt_X1_closeChunk l) ab_CT'.nil))) (fun av cs Q h => vc_X1_remove h)
theorem vc_X1_replace {av : List ab_V} {cs : List ab_C} {Q : ab_Q} (h : sp_X1_replace av cs Q) : (ab_lv0 av).length ≤ 4 ∧ ab_R E_X1_replace P_X1_replace Q 0 (ab_ent av 4) [] cs := by
  obtain ⟨⟨K, L, T, S, n, cc, w⟩, q, d, p, v, rfl, rfl, hR, hW, hp, hd, hQ⟩ := h
  refine ⟨Nat.le_of_ble_eq_true rfl, ?_⟩
  obtain ⟨A, k, B, rfl, h1, h2⟩ := mq_hold hd
  have hfl := hW.2
  have hcl := hW.chunks
  rw [mq_flat_mid, List.length_append, List.length_append] at hfl
  refine b_X1_replace_0 ⟨_, A, k, B, _, rfl, rfl, hR, hW, by omega, by omega, _, rfl, rfl, ?_⟩
  refine b_X1_replace_5 ⟨_, _, A.length, _, rfl, rfl, hR, hW, rfl, by simp, _, rfl, rfl, ?_⟩
  rw [mq_take_app]
  refine b_X1_replace_13 ⟨_, A, k, B, _, _, rfl, rfl, hR, hW, rfl, rfl, fun r2 hr2 hw2 => ⟨r2, rfl, rfl, ?_⟩⟩
  obtain ⟨K2, L2, T2, S2, n2, c2, w2⟩ := r2
  refine b_X1_replace_16 ?_
  have hs := mq_set_app (A := A) (k := k) (B := B) (d := d - (mq_flat A).length) (v := v) (by omega)
  rw [show (mq_flat A).length + (d - (mq_flat A).length) = d by omega] at hs
  rw [hs] at hQ
  refine hQ _ ?_ ?_
  · obtain ⟨r1, r3, r4, r5, r6, r7⟩ := hr2
    refine ⟨?_, ?_, ?_, ?_, ?_, ?_⟩
    · dsimp only at r1 ⊢
      rw [mq_flat_mid] at r1 ⊢
      refine mq_al_mid r1 (by simp) (fun j hj => ?_) (fun j hj => ?_) (fun j x hj => ?_)
      · unfold ab_up; rw [if_neg (by omega)]
      · dsimp only at hj
        rw [mq_row_len] at hj
        unfold ab_up; rw [if_neg (by omega)]
      · dsimp only at hj
        rw [List.getElem?_set] at hj
        unfold ab_up
        by_cases z : d - (mq_flat A).length = j
        · rw [if_pos z, if_pos (by rw [mq_row_len]; omega)] at hj
          rw [if_pos (by omega)]
          exact Option.some.inj hj
        · rw [if_neg z] at hj
          rw [if_neg (by omega)]
          exact (mq_al_app.mp (mq_al_app.mp r1).2).1 j x hj
    · dsimp only at r3 ⊢
      rw [mq_map_mid] at r3 ⊢
      rw [show mq_len ((mq_row k).set (d - (mq_flat A).length) v, 0, 0) = mq_len (mq_row k, 0, 0) by unfold mq_len; simp]
      exact r3
    · dsimp only at r4 ⊢
      rw [mq_map_mid] at r4 ⊢
      exact r4
    · dsimp only at r5 ⊢
      rw [mq_map_mid] at r5 ⊢
      exact r5
    · dsimp only at r6 ⊢
      rw [r6, mq_flat_mid, mq_flat_mid]
      simp
    · dsimp only at r7 ⊢
      rw [r7]; simp
  · dsimp only at hw2 ⊢
    omega
theorem mt_X1_replace (l : Launch) : ab_MT l mi_X1_replace sp_X1_replace := ab_MT.of (own := "RootChunks$Row") (E := E_X1_replace) (P := P_X1_replace) (M := M_X1_replace) (nL := 4) (ty := 9) (by decide) rfl rfl tk_X1 pk_X1_replace ck_X1_replace (ab_CT'.cons (mt_X1_chunkHolding l) (ab_CT'.cons (mt_X1_startOf l) (ab_CT'.cons (mt_X1_settle l) ab_CT'.nil))) (fun av cs Q h => vc_X1_replace h)
theorem vc_X1_reverseChunks {av : List ab_V} {cs : List ab_C} {Q : ab_Q} (h : sp_X1_reverseChunks av cs Q) : (ab_lv0 av).length ≤ 5 ∧ ab_R E_X1_reverseChunks P_X1_reverseChunks Q 0 (ab_ent av 5) [] cs := by
  obtain ⟨⟨K, L, T, S, n, cc, w⟩, A, M, B, a, b, rfl, rfl, hR, hW, ha, hb, hQ⟩ := h
  refine ⟨Nat.le_of_ble_eq_true rfl, ?_⟩
  obtain ⟨r1, r2, r3, r4, r5, r6⟩ := id hR
  dsimp only at r1 r2 r3 r4 r5 r6
  have hfl := hW.2
  have hcl := hW.chunks
  simp only [mq_flat_app, List.length_append] at hfl hcl
  have t1 : (A ++ (M ++ B)).take A.length = A := by simp
  have t2 : (A ++ (M ++ B)).take (A.length + M.length) = A ++ M := by rw [← List.append_assoc]; exact List.take_left' List.length_append
  refine b_X1_reverseChunks_0 ⟨_, _, A.length, _, rfl, rfl, hR, hW, ha, by simp, _, rfl, rfl, ?_⟩
  rw [t1]
  refine b_X1_reverseChunks_9 ⟨_, _, A.length + M.length, _, rfl, rfl, hR, hW, by omega, by simp, _, rfl, rfl, ?_⟩
  rw [t2, mq_flat_app, List.length_append]
  refine b_X1_reverseChunks_14 ⟨_, _, _, rfl, rfl, by omega, by omega, by omega, _, rfl, rfl, ?_⟩
  refine b_X1_reverseChunks_17 ⟨_, _, _, rfl, rfl, by omega, by omega, by omega, _, rfl, rfl, ?_⟩
  refine b_X1_reverseChunks_26 ⟨_, _, _, rfl, rfl, by omega, by omega, by omega, _, rfl, rfl, ?_⟩
  refine b_X1_reverseChunks_35 ⟨_, _, _, rfl, rfl, by omega, by omega, by omega, _, rfl, rfl, ?_⟩
  have mL := mq_al_mir_map r2 ha hb
  have mT := mq_al_mir_map r3 ha hb
  have mS := mq_al_mir_map r4 ha hb
  rw [mq_flat_app, mq_flat_app] at r1
  have mK := mq_al_mir (a := (mq_flat A).length) (b := (((mq_flat A).length + (mq_flat M).length : Nat) : Int)) r1 rfl (by omega)
  rw [mq_flat_rv] at mK
  generalize mq_mir K _ _ = K1 at mK ⊢
  generalize mq_mir L _ _ = L1 at mL ⊢
  generalize mq_mir T _ _ = T1 at mT ⊢
  generalize mq_mir S _ _ = S1 at mS ⊢
  -- the first chunks' start: it reads lengths ahead of the span alone
  have loop : ∀ (M2 M1 : List mq_K) (c st : Int) (K2 : Int → Int), M.reverse = M1 ++ M2 → c = A.length + M1.length → st = ((mq_flat A).length : Int) + (mq_flat M1).length → mq_al K2 (mq_flat A ++ (mq_flat M1 ++ (mq_flat (M2.map mq_rv) ++ mq_flat B))) →
      ab_R E_X1_reverseChunks P_X1_reverseChunks Q 53 [some (.inr (.inl (some 0))), some (.inl a), some (.inl b), some (.inl st), some (.inl c)] [] (rw_cs (K2, L1, T1, S1, n, cc, w)) := by
    intro M2
    induction M2 with
    | nil =>
      intro M1 c st K2 g1 g2 g3 g4
      rw [List.append_nil] at g1
      have hlen : M1.length = M.length := by rw [← g1, List.length_reverse]
      refine b_X1_reverseChunks_53 (fun _ => ?_) (fun _ => by omega)
      refine hQ _ ⟨?_, mL, mT, mS, ?_, ?_⟩ rfl
      · dsimp only
        rw [g1, mq_flat_app, mq_flat_app]
        simpa [mq_flat] using g4
      · dsimp only
        rw [r5]
        simp only [mq_flat_app, List.length_append]
        have : (mq_flat M.reverse).length = (mq_flat M).length := by
          rw [← mq_flat_rv_len M.reverse, ← mq_flat_rv, List.length_reverse]
        omega
      · dsimp only
        rw [r6]; simp
    | cons k M2 ih =>
      intro M1 c st K2 g1 g2 g3 g4
      have hlen : M1.length + (M2.length + 1) = M.length := by
        have := congrArg List.length g1
        simp at this
        omega
      have hkl : L1 c = k.1.length := by
        have e := mL (A.length + M1.length) (mq_len k) (by
          rw [g1]
          simp)
        rw [show ((A.length + M1.length : Nat) : Int) = c by omega] at e
        exact e
      have hfm : (mq_flat M).length = (mq_flat M1).length + (k.1.length + (mq_flat M2).length) := by
        have : (mq_flat M.reverse).length = (mq_flat M).length := by
          rw [← mq_flat_rv_len M.reverse, ← mq_flat_rv, List.length_reverse]
        rw [← this, g1, mq_flat_mid]
        simp
      refine b_X1_reverseChunks_53 (fun _ => by omega) (fun _ => ?_)
      refine ⟨_, _, _, rfl, rfl, by omega, by omega, by omega, _, rfl, rfl, ?_⟩
      refine b_X1_reverseChunks_76 (ih (M1 ++ [k]) _ _ _ (by simpa using g1) (by simp; omega) ?_ ?_)
      · rw [mq_flat_app, mq_flat_cons]; simp [mq_flat]; simp [mq_flat] at g3; omega
      · rw [List.map_cons, mq_flat_cons] at g4
        have g5 := mq_al_mir (X := mq_flat A ++ mq_flat M1) (Y := (mq_rv k).1) (Z := mq_flat (M2.map mq_rv) ++ mq_flat B) (a := st) (b := st + L1 c) (f := K2) (by simpa using g4) (by simp; omega) (by simp [mq_rv]; omega)
        have e : mq_flat (M1 ++ [k]) = mq_flat M1 ++ k.1 := by rw [mq_flat_app, mq_flat_cons]; simp [mq_flat]
        rw [e]
        simpa [mq_rv] using g5
  -- the start is read once more: the lengths ahead of the span are the old ones
  have hRA : ∃ K3 : Int → Int, mq_R (K1, L1, T1, S1, n, cc, w) (A ++ (M.reverse.map mq_rv ++ B)) := by
    refine ⟨K1, ?_, ?_, ?_, ?_, ?_, ?_⟩ <;> dsimp only
    · rw [mq_flat_app, mq_flat_app]; exact mK
    · have : (A ++ (M.reverse.map mq_rv ++ B)).map mq_len = (A ++ (M.reverse ++ B)).map mq_len := by
        rw [List.map_append, List.map_append, List.map_append, List.map_append, List.map_map]
        congr 2
        refine List.map_congr_left (fun k _ => ?_)
        simp [mq_rv, mq_len]
      rw [this]; exact mL
    · have : (A ++ (M.reverse.map mq_rv ++ B)).map (fun k => k.2.1) = (A ++ (M.reverse ++ B)).map (fun k => k.2.1) := by
        rw [List.map_append, List.map_append, List.map_append, List.map_append, List.map_map]
        rfl
      rw [this]; exact mT
    · have : (A ++ (M.reverse.map mq_rv ++ B)).map (fun k => k.2.2) = (A ++ (M.reverse ++ B)).map (fun k => k.2.2) := by
        rw [List.map_append, List.map_append, List.map_append, List.map_append, List.map_map]
        rfl
      rw [this]; exact mS
    · rw [r5, mq_flat_app, mq_flat_app, mq_flat_app, mq_flat_app, ← mq_flat_rv]
      simp
    · rw [r6]; simp
  obtain ⟨-, hRA⟩ := hRA
  have hWA : mq_W (A ++ (M.reverse.map mq_rv ++ B)) := by
    refine ⟨fun k hk => ?_, ?_⟩
    · rcases List.mem_append.mp hk with hk | hk
      · exact hW.1 k (by simp [hk])
      · rcases List.mem_append.mp hk with hk | hk
        · obtain ⟨k0, hk0, rfl⟩ := List.mem_map.mp hk
          have o := hW.1 k0 (by have := List.mem_reverse.mp hk0; simp [this])
          refine ⟨by simpa [mq_rv] using o.1, o.2.1, fun x hx => o.2.2.1 x (by simpa [mq_rv] using hx), fun x hx => o.2.2.2 x ?_⟩
          exact mq_row_rv hx
        · exact hW.1 k (by simp [hk])
    · rw [mq_flat_app, mq_flat_app, ← mq_flat_rv]
      simp only [List.length_append, List.length_reverse]
      omega
  refine b_X1_reverseChunks_44 ⟨_, _, A.length, _, rfl, rfl, hRA, hWA, ha, by simp, _, rfl, rfl, ?_⟩
  rw [show (A ++ (M.reverse.map mq_rv ++ B)).take A.length = A by simp]
  exact b_X1_reverseChunks_49 (loop M.reverse [] _ _ K1 rfl (by simp; omega) (by simp [mq_flat]) (by simpa [mq_flat] using mK))
theorem mt_X1_reverseChunks (l : Launch) : ab_MT l mi_X1_reverseChunks sp_X1_reverseChunks := ab_MT.of (own := "RootChunks$Row") (E := E_X1_reverseChunks) (P := P_X1_reverseChunks) (M := M_X1_reverseChunks) (nL := 5) (ty := 9) (by decide) rfl rfl tk_X1 pk_X1_reverseChunks ck_X1_reverseChunks (ab_CT'.cons (mt_X1_startOf l) (ab_CT'.cons (mt_X1_startOf l) (ab_CT'.cons (mt_X1_mirror l) (ab_CT'.cons (mt_X1_mirror l) (ab_CT'.cons (mt_X1_mirror l) (ab_CT'.cons (mt_X1_mirror l) (ab_CT'.cons (mt_X1_startOf l) (ab_CT'.cons (mt_X1_mirror l) ab_CT'.nil)))))))) (fun av cs Q h => vc_X1_reverseChunks h)
theorem mq_W_perm {q q' : List mq_K} (hW : mq_W q) (h : ∀ k ∈ q', k ∈ q) (hl : (mq_flat q').length = (mq_flat q).length) : mq_W q' := ⟨fun k hk => hW.1 k (h k hk), by rw [hl]; exact hW.2⟩
theorem mq_flat_rev (M : List mq_K) : (mq_flat M.reverse).length = (mq_flat M).length := by
  rw [← mq_flat_rv_len M.reverse, ← mq_flat_rv, List.length_reverse]
theorem vc_X1_exchangeChunks {av : List ab_V} {cs : List ab_C} {Q : ab_Q} (h : sp_X1_exchangeChunks av cs Q) : (ab_lv0 av).length ≤ 4 ∧ ab_R E_X1_exchangeChunks P_X1_exchangeChunks Q 0 (ab_ent av 4) [] cs := by
  obtain ⟨⟨K, L, T, S, n, cc, w⟩, A, M1, M2, B, a, m, b, rfl, rfl, hR, hW, ha, hm, hb, hQ⟩ := h
  refine ⟨Nat.le_of_ble_eq_true rfl, ?_⟩
  refine b_X1_exchangeChunks_0 ⟨_, A, M1, M2 ++ B, _, _, rfl, rfl, hR, hW, ha, by omega, fun r1 hr1 hw1 => ⟨r1, rfl, rfl, ?_⟩⟩
  obtain ⟨K1, L1, T1, S1, n1, c1, w1⟩ := r1
  have W1 : mq_W (A ++ (M1.reverse ++ (M2 ++ B))) := mq_W_perm hW (fun k hk => by simpa using hk) (by simp only [mq_flat_app, List.length_append, mq_flat_rev])
  refine b_X1_exchangeChunks_6 ⟨_, A ++ M1.reverse, M2, B, _, _, rfl, rfl, by simpa using hr1, by simpa using W1, by simp; omega, by simp; omega, fun r2 hr2 hw2 => ⟨r2, rfl, rfl, ?_⟩⟩
  obtain ⟨K2, L2, T2, S2, n2, c2, w2⟩ := r2
  have W2 : mq_W (A ++ ((M1.reverse ++ M2.reverse) ++ B)) := mq_W_perm hW (fun k hk => by simpa [or_assoc] using hk) (by simp only [mq_flat_app, List.length_append, mq_flat_rev]; omega)
  refine b_X1_exchangeChunks_12 ⟨_, A, M1.reverse ++ M2.reverse, B, _, _, rfl, rfl, by simpa using hr2, W2, ha, by simp; omega, fun r3 hr3 hw3 => ⟨r3, rfl, rfl, ?_⟩⟩
  obtain ⟨K3, L3, T3, S3, n3, c3, w3⟩ := r3
  refine b_X1_exchangeChunks_18 (hQ _ (by simpa using hr3) ?_)
  dsimp only at hw1 hw2 hw3 ⊢
  omega
theorem mt_X1_exchangeChunks (l : Launch) : ab_MT l mi_X1_exchangeChunks sp_X1_exchangeChunks := ab_MT.of (own := "RootChunks$Row") (E := E_X1_exchangeChunks) (P := P_X1_exchangeChunks) (M := M_X1_exchangeChunks) (nL := 4) (ty := 9) (by decide) rfl rfl tk_X1 pk_X1_exchangeChunks ck_X1_exchangeChunks (ab_CT'.cons (mt_X1_reverseChunks l) (ab_CT'.cons (mt_X1_reverseChunks l) (ab_CT'.cons (mt_X1_reverseChunks l) ab_CT'.nil))) (fun av cs Q h => vc_X1_exchangeChunks h)
theorem vc_X1_turnSpan {av : List ab_V} {cs : List ab_C} {Q : ab_Q} (h : sp_X1_turnSpan av cs Q) : (ab_lv0 av).length ≤ 6 ∧ ab_R E_X1_turnSpan P_X1_turnSpan Q 0 (ab_ent av 6) [] cs := by
  obtain ⟨⟨K, L, T, S, n, cc, w⟩, q, f, m, x, y, rfl, rfl, hR, hW, hx, hy, hfm, hQ⟩ := h
  refine ⟨Nat.le_of_ble_eq_true rfl, ?_⟩
  refine b_X1_turnSpan_0 ⟨_, q, f, _, rfl, rfl, hR, hW, hx, by omega, fun r1 hr1 hw1 => ⟨_, r1, rfl, rfl, ?_⟩⟩
  obtain ⟨K1, L1, T1, S1, n1, c1, w1⟩ := r1
  have hW1 := mq_cut_W (d := f) hW (by omega)
  obtain ⟨z1, z2⟩ := mq_cut_len (q := q) (d := f) (by omega)
  obtain ⟨o1, o2⟩ := mq_cut_ok (d := f) hW.1
  have hc2 := mq_cut_app (B := (mq_cut q f).2.1) (d := m) o1
  rw [z1] at hc2
  refine b_X1_turnSpan_5 ⟨_, _, f + m, _, rfl, rfl, hr1, hW1, by omega, by rw [mq_flat_app, List.length_append, z1, z2]; omega, fun r2 hr2 hw2 => ⟨_, r2, rfl, rfl, ?_⟩⟩
  obtain ⟨K2, L2, T2, S2, n2, c2, w2⟩ := r2
  rw [hc2] at hr2 hw2 ⊢
  have hWs := mq_span_W (f := f) (n := m) hW hfm
  have hr2' : mq_R (K2, L2, T2, S2, n2, c2, w2) ((mq_span q f m).1 ++ ((mq_span q f m).2.1 ++ (mq_span q f m).2.2.1)) := by
    have : mq_R (K2, L2, T2, S2, n2, c2, w2) (((mq_cut q f).1 ++ (mq_cut (mq_cut q f).2.1 m).1) ++ (mq_cut (mq_cut q f).2.1 m).2.1) := hr2
    rw [List.append_assoc] at this
    exact this
  have hb : (((mq_cut q f).1 ++ (mq_cut (mq_cut q f).2.1 m).1).length : Int) = ((mq_span q f m).1.length : Int) + (mq_span q f m).2.1.length := by rw [List.length_append]; exact Int.natCast_add _ _
  refine b_X1_turnSpan_13 ⟨_, (mq_span q f m).1, (mq_span q f m).2.1, (mq_span q f m).2.2.1, _, _, rfl, rfl, hr2', hWs, rfl, hb, fun r3 hr3 hw3 => ⟨r3, rfl, rfl, ?_⟩⟩
  obtain ⟨K3, L3, T3, S3, n3, c3, w3⟩ := r3
  rw [hb]
  have hcl := hWs.chunks
  simp only [List.length_append] at hcl
  have loop : ∀ (M2 M1 : List mq_K) (c : Int) (T4 : Int → Int), (mq_span q f m).2.1.reverse = M1 ++ M2 → c = ((mq_span q f m).1.length : Int) + M1.length → mq_al T4 ((mq_span q f m).1.map (fun k => k.2.1) ++ ((M1.map mq_flip).map (fun k => k.2.1) ++ (M2.map (fun k => k.2.1) ++ (mq_span q f m).2.2.1.map (fun k => k.2.1)))) →
      ab_R E_X1_turnSpan P_X1_turnSpan Q 25 [some (.inr (.inl (some 0))), some (.inl x), some (.inl y), some (.inl ((mq_span q f m).1.length : Int)), some (.inl (((mq_span q f m).1.length : Int) + (mq_span q f m).2.1.length)), some (.inl c)] [] (rw_cs (K3, L3, T4, S3, n3, c3, w3)) := by
    intro M2
    induction M2 with
    | nil =>
      intro M1 c T4 g1 g2 g3
      rw [List.append_nil] at g1
      have hlen : M1.length = (mq_span q f m).2.1.length := by rw [← g1, List.length_reverse]
      refine b_X1_turnSpan_25 (fun _ => ?_) (fun _ => by omega)
      obtain ⟨q1, q2, q3, q4, q5, q6⟩ := hr3
      refine hQ _ ⟨?_, ?_, ?_, ?_, ?_, ?_⟩ ?_
      · have e : mq_flat (mq_trn q f m).1 = mq_flat ((mq_span q f m).1 ++ ((mq_span q f m).2.1.reverse ++ (mq_span q f m).2.2.1)) := by
          unfold mq_trn
          dsimp only
          simp only [mq_flat_app]
          congr 2
          unfold mq_flat
          rw [List.flatMap_map]
          rfl
        rw [e]; exact q1
      · have e : (mq_trn q f m).1.map mq_len = ((mq_span q f m).1 ++ ((mq_span q f m).2.1.reverse ++ (mq_span q f m).2.2.1)).map mq_len := by
          unfold mq_trn
          dsimp only
          simp only [List.map_append, List.map_map]
          rfl
        rw [e]; exact q2
      · have e : (mq_trn q f m).1.map (fun k => k.2.1) = (mq_span q f m).1.map (fun k => k.2.1) ++ ((M1.map mq_flip).map (fun k => k.2.1) ++ (mq_span q f m).2.2.1.map (fun k => k.2.1)) := by
          unfold mq_trn
          dsimp only
          rw [g1]
          simp only [List.map_append]
        rw [e]
        simpa using g3
      · have e : (mq_trn q f m).1.map (fun k => k.2.2) = ((mq_span q f m).1 ++ ((mq_span q f m).2.1.reverse ++ (mq_span q f m).2.2.1)).map (fun k => k.2.2) := by
          unfold mq_trn
          dsimp only
          simp only [List.map_append, List.map_map]
          rfl
        rw [e]; exact q4
      · have e : mq_flat (mq_trn q f m).1 = mq_flat ((mq_span q f m).1 ++ ((mq_span q f m).2.1.reverse ++ (mq_span q f m).2.2.1)) := by
          unfold mq_trn
          dsimp only
          simp only [mq_flat_app]
          congr 2
          unfold mq_flat
          rw [List.flatMap_map]
          rfl
        rw [e]; exact q5
      · have e : (mq_trn q f m).1.length = ((mq_span q f m).1 ++ ((mq_span q f m).2.1.reverse ++ (mq_span q f m).2.2.1)).length := by
          unfold mq_trn
          dsimp only
          simp only [List.length_append, List.length_map]
        rw [e]; exact q6
      · dsimp only at hw1 hw2 hw3 ⊢
        unfold mq_trn mq_span
        dsimp only
        omega
    | cons k M2 ih =>
      intro M1 c T4 g1 g2 g3
      have hlen : M1.length + (M2.length + 1) = (mq_span q f m).2.1.length := by
        have := congrArg List.length g1
        simp at this
        omega
      refine b_X1_turnSpan_25 (fun _ => by omega) (fun _ => ih (M1 ++ [k]) _ _ (by simpa using g1) (by simp; omega) ?_)
      have e1 : T4 c = k.2.1 := by
        have := g3 ((mq_span q f m).1.length + M1.length) k.2.1 (by simp)
        rw [show (((mq_span q f m).1.length + M1.length : Nat) : Int) = c by omega] at this
        exact this
      have g4 := mq_al_up (X := (mq_span q f m).1.map (fun k => k.2.1) ++ (M1.map mq_flip).map (fun k => k.2.1)) (y := k.2.1) (Z := M2.map (fun k => k.2.1) ++ (mq_span q f m).2.2.1.map (fun k => k.2.1)) (x := 1 - T4 c) (f := T4) (by simpa using g3)
      rw [show (((mq_span q f m).1.map (fun k => k.2.1) ++ (M1.map mq_flip).map (fun k => k.2.1)).length : Int) = c by simp; omega] at g4
      rw [e1] at g4 ⊢
      simpa [mq_flip] using g4
  refine b_X1_turnSpan_22 (loop (mq_span q f m).2.1.reverse [] _ T3 rfl (by show ((mq_span q f m).1.length : Int) = ((mq_span q f m).1.length : Int) + (([] : List mq_K).length : Int); simp) ?_)
  have := hr3.2.2.1
  simpa using this
theorem mt_X1_turnSpan (l : Launch) : ab_MT l mi_X1_turnSpan sp_X1_turnSpan := ab_MT.of (own := "RootChunks$Row") (E := E_X1_turnSpan) (P := P_X1_turnSpan) (M := M_X1_turnSpan) (nL := 6) (ty := 9) (by decide) rfl rfl tk_X1 pk_X1_turnSpan ck_X1_turnSpan (ab_CT'.cons (mt_X1_cutAt l) (ab_CT'.cons (mt_X1_cutAt l) (ab_CT'.cons (mt_X1_reverseChunks l) ab_CT'.nil))) (fun av cs Q h => vc_X1_turnSpan h)
end
section
theorem vc_X1_addToSpan {av : List ab_V} {cs : List ab_C} {Q : ab_Q} (h : sp_X1_addToSpan av cs Q) : (ab_lv0 av).length ≤ 7 ∧ ab_R E_X1_addToSpan P_X1_addToSpan Q 0 (ab_ent av 7) [] cs := by
  obtain ⟨⟨K, L, T, S, n, cc, w⟩, q, f, m, x, y, v, rfl, rfl, hR, hW, hx, hy, hfm, hQ⟩ := h
  refine ⟨Nat.le_of_ble_eq_true rfl, ?_⟩
  refine b_X1_addToSpan_0 ⟨_, q, f, _, rfl, rfl, hR, hW, hx, by omega, fun r1 hr1 hw1 => ⟨_, r1, rfl, rfl, ?_⟩⟩
  obtain ⟨K1, L1, T1, S1, n1, c1, w1⟩ := r1
  have hW1 := mq_cut_W (d := f) hW (by omega)
  obtain ⟨z1, z2⟩ := mq_cut_len (q := q) (d := f) (by omega)
  obtain ⟨o1, o2⟩ := mq_cut_ok (d := f) hW.1
  have hc2 := mq_cut_app (B := (mq_cut q f).2.1) (d := m) o1
  rw [z1] at hc2
  refine b_X1_addToSpan_5 ⟨_, _, f + m, _, rfl, rfl, hr1, hW1, by omega, by rw [mq_flat_app, List.length_append, z1, z2]; omega, fun r2 hr2 hw2 => ⟨_, r2, rfl, rfl, ?_⟩⟩
  obtain ⟨K2, L2, T2, S2, n2, c2, w2⟩ := r2
  rw [hc2] at hr2 hw2 ⊢
  have hWs := mq_span_W (f := f) (n := m) hW hfm
  have hr2' : mq_R (K2, L2, T2, S2, n2, c2, w2) ((mq_span q f m).1 ++ ((mq_span q f m).2.1 ++ (mq_span q f m).2.2.1)) := by
    have : mq_R (K2, L2, T2, S2, n2, c2, w2) (((mq_cut q f).1 ++ (mq_cut (mq_cut q f).2.1 m).1) ++ (mq_cut (mq_cut q f).2.1 m).2.1) := hr2
    rw [List.append_assoc] at this
    exact this
  have hb : (((mq_cut q f).1 ++ (mq_cut (mq_cut q f).2.1 m).1).length : Int) = ((mq_span q f m).1.length : Int) + (mq_span q f m).2.1.length := by rw [List.length_append]; exact Int.natCast_add _ _
  rw [hb]
  have hcl := hWs.chunks
  simp only [List.length_append] at hcl
  have loop : ∀ (M2 M1 : List mq_K) (c : Int) (S4 : Int → Int), (mq_span q f m).2.1 = M1 ++ M2 → c = ((mq_span q f m).1.length : Int) + M1.length → mq_al S4 ((mq_span q f m).1.map (fun k => k.2.2) ++ ((M1.map (mq_addk v)).map (fun k => k.2.2) ++ (M2.map (fun k => k.2.2) ++ (mq_span q f m).2.2.1.map (fun k => k.2.2)))) →
      ab_R E_X1_addToSpan P_X1_addToSpan Q 20 [some (.inr (.inl (some 0))), some (.inl x), some (.inl y), some (.inl v), some (.inl ((mq_span q f m).1.length : Int)), some (.inl (((mq_span q f m).1.length : Int) + (mq_span q f m).2.1.length)), some (.inl c)] [] (rw_cs (K2, L2, T2, S4, n2, c2, w2)) := by
    intro M2
    induction M2 with
    | nil =>
      intro M1 c S4 g1 g2 g3
      rw [List.append_nil] at g1
      have hlen : M1.length = (mq_span q f m).2.1.length := by rw [g1]
      refine b_X1_addToSpan_20 (fun _ => ?_) (fun _ => by omega)
      obtain ⟨q1, q2, q3, q4, q5, q6⟩ := hr2'
      have ef : mq_flat (mq_add q f m v).1 = mq_flat ((mq_span q f m).1 ++ ((mq_span q f m).2.1 ++ (mq_span q f m).2.2.1)) := by
        unfold mq_add
        dsimp only
        simp only [mq_flat_app]
        congr 2
        unfold mq_flat
        rw [List.flatMap_map]
        rfl
      refine hQ _ ⟨?_, ?_, ?_, ?_, ?_, ?_⟩ ?_
      · rw [ef]; exact q1
      · have e : (mq_add q f m v).1.map mq_len = ((mq_span q f m).1 ++ ((mq_span q f m).2.1 ++ (mq_span q f m).2.2.1)).map mq_len := by
          unfold mq_add
          dsimp only
          simp only [List.map_append, List.map_map]
          rfl
        rw [e]; exact q2
      · have e : (mq_add q f m v).1.map (fun k => k.2.1) = ((mq_span q f m).1 ++ ((mq_span q f m).2.1 ++ (mq_span q f m).2.2.1)).map (fun k => k.2.1) := by
          unfold mq_add
          dsimp only
          simp only [List.map_append, List.map_map]
          rfl
        rw [e]; exact q3
      · have e : (mq_add q f m v).1.map (fun k => k.2.2) = (mq_span q f m).1.map (fun k => k.2.2) ++ ((M1.map (mq_addk v)).map (fun k => k.2.2) ++ (mq_span q f m).2.2.1.map (fun k => k.2.2)) := by
          unfold mq_add
          dsimp only
          rw [g1]
          simp only [List.map_append]
        rw [e]
        simpa using g3
      · rw [ef]; exact q5
      · have e : (mq_add q f m v).1.length = ((mq_span q f m).1 ++ ((mq_span q f m).2.1 ++ (mq_span q f m).2.2.1)).length := by
          unfold mq_add
          dsimp only
          simp only [List.length_append, List.length_map]
        rw [e]; exact q6
      · dsimp only at hw1 hw2 ⊢
        unfold mq_add mq_span
        dsimp only
        omega
    | cons k M2 ih =>
      intro M1 c S4 g1 g2 g3
      have hlen : M1.length + (M2.length + 1) = (mq_span q f m).2.1.length := by
        have := congrArg List.length g1
        simp at this
        omega
      refine b_X1_addToSpan_20 (fun _ => by omega) (fun _ => ih (M1 ++ [k]) _ _ (by simpa using g1) (by simp; omega) ?_)
      have e1 : S4 c = k.2.2 := by
        have := g3 ((mq_span q f m).1.length + M1.length) k.2.2 (by simp)
        rw [show (((mq_span q f m).1.length + M1.length : Nat) : Int) = c by omega] at this
        exact this
      have g4 := mq_al_up (X := (mq_span q f m).1.map (fun k => k.2.2) ++ (M1.map (mq_addk v)).map (fun k => k.2.2)) (y := k.2.2) (Z := M2.map (fun k => k.2.2) ++ (mq_span q f m).2.2.1.map (fun k => k.2.2)) (x := S4 c + v) (f := S4) (by simpa using g3)
      rw [show (((mq_span q f m).1.map (fun k => k.2.2) ++ (M1.map (mq_addk v)).map (fun k => k.2.2)).length : Int) = c by simp; omega] at g4
      rw [e1] at g4 ⊢
      simpa [mq_addk] using g4
  refine b_X1_addToSpan_14 (loop (mq_span q f m).2.1 [] _ S2 rfl (by show ((mq_span q f m).1.length : Int) = ((mq_span q f m).1.length : Int) + (([] : List mq_K).length : Int); simp) ?_)
  have := hr2'.2.2.2.1
  simpa using this
theorem mt_X1_addToSpan (l : Launch) : ab_MT l mi_X1_addToSpan sp_X1_addToSpan := ab_MT.of (own := "RootChunks$Row") (E := E_X1_addToSpan) (P := P_X1_addToSpan) (M := M_X1_addToSpan) (nL := 7) (ty := 9) (by decide) rfl rfl tk_X1 pk_X1_addToSpan ck_X1_addToSpan (ab_CT'.cons (mt_X1_cutAt l) (ab_CT'.cons (mt_X1_cutAt l) ab_CT'.nil)) (fun av cs Q h => vc_X1_addToSpan h)
theorem vc_X1_moveSpan {av : List ab_V} {cs : List ab_C} {Q : ab_Q} (h : sp_X1_moveSpan av cs Q) : (ab_lv0 av).length ≤ 5 ∧ ab_R E_X1_moveSpan P_X1_moveSpan Q 0 (ab_ent av 5) [] cs := by
  obtain ⟨⟨K, L, T, S, n, cc, w⟩, q, f, m, d, x, y, p, rfl, rfl, hR, hW, hx, hy, hfm, hp, hdm, hQ⟩ := h
  refine ⟨Nat.le_of_ble_eq_true rfl, ?_⟩
  have hfl := hW.2
  refine b_X1_moveSpan_0 ⟨_, q, f, _, rfl, rfl, hR, hW, hx, by omega, fun r1 hr1 hw1 => ⟨_, r1, rfl, rfl, ?_⟩⟩
  obtain ⟨K1, L1, T1, S1, n1, c1, w1⟩ := r1
  have hW1 := mq_cut_W (d := f) hW (by omega)
  obtain ⟨z1, z2⟩ := mq_cut_len (q := q) (d := f) (by omega)
  obtain ⟨o1, o2⟩ := mq_cut_ok (d := f) hW.1
  have hc2 := mq_cut_app (B := (mq_cut q f).2.1) (d := m) o1
  rw [z1] at hc2
  refine b_X1_moveSpan_10 ⟨_, _, f + m, _, rfl, rfl, hr1, hW1, by omega, by rw [mq_flat_app, List.length_append, z1, z2]; omega, fun r2 hr2 hw2 => ⟨_, r2, rfl, rfl, ?_⟩⟩
  obtain ⟨K2, L2, T2, S2, n2, c2, w2⟩ := r2
  rw [hc2] at hr2 hw2
  have hWs := mq_span_W (f := f) (n := m) hW hfm
  obtain ⟨s1, s2, s3, p1, p2, p3, -⟩ := mq_span_in (f := f) (n := m) hW hfm
  have hr2' : mq_R (K2, L2, T2, S2, n2, c2, w2) ((mq_span q f m).1 ++ ((mq_span q f m).2.1 ++ (mq_span q f m).2.2.1)) := by
    have : mq_R (K2, L2, T2, S2, n2, c2, w2) (((mq_cut q f).1 ++ (mq_cut (mq_cut q f).2.1 m).1) ++ (mq_cut (mq_cut q f).2.1 m).2.1) := hr2
    rw [List.append_assoc] at this
    exact this
  have hw2' : w2 = w + (mq_span q f m).2.2.2 := by
    dsimp only at hw1 hw2
    unfold mq_span
    dsimp only
    omega
  have hQ' : ∀ r' : rw_T, mq_R r' (mq_mov q f m d).1 → r'.2.2.2.2.2.2 = w + (mq_mov q f m d).2 → Q none (rw_cs r') := hQ
  clear hQ hr2 hw2 hc2 hr1 hw1 hW1
  unfold mq_mov at hQ'
  generalize hA : (mq_span q f m).1 = A at s1 p1 hWs hr2' hQ'
  generalize hM : (mq_span q f m).2.1 = M at s2 p2 hWs hr2' hQ'
  generalize hB : (mq_span q f m).2.2.1 = B at s3 p3 hWs hr2' hQ'
  generalize hs : (mq_span q f m).2.2.2 = dw at hw2' hQ'
  have hsl := hWs.2
  simp only [mq_flat_app, List.length_append] at hsl
  refine b_X1_moveSpan_17 (fun hc => ?_) (fun hc => ?_)
  · -- behind the span
    have q1 := mq_cut_at (B := M ++ B) p1
    refine ⟨_, A ++ (M ++ B), (mq_flat A).length, _, rfl, rfl, hr2', hWs, by omega, by simp only [mq_flat_app, List.length_append]; omega, fun r3 hr3 hw3 => ⟨_, r3, rfl, rfl, ?_⟩⟩
    rw [q1] at hr3 hw3 ⊢
    obtain ⟨K3, L3, T3, S3, n3, c3, w3⟩ := r3
    have p12 : ∀ k ∈ A ++ M, mq_ok k := fun k hk => (List.mem_append.mp hk).elim (p1 k) (p2 k)
    have q2 := mq_cut_at (B := B) p12
    refine b_X1_moveSpan_52 ⟨_, (A ++ M) ++ B, (mq_flat (A ++ M)).length, _, rfl, rfl, by simpa using hr3, by simpa using hWs, by simp only [mq_flat_app, List.length_append]; omega, by simp only [mq_flat_app, List.length_append]; omega, fun r4 hr4 hw4 => ⟨_, r4, rfl, rfl, ?_⟩⟩
    rw [q2] at hr4 hw4 ⊢
    obtain ⟨K4, L4, T4, S4, n4, c4, w4⟩ := r4
    have q3 := mq_cut_app (B := B) (d := d - f) p12
    have q4 := mq_cut_app (B := B) (d := d - f) p1
    rw [show (mq_flat A).length + (d - f) = d by omega] at q4
    rw [q4] at hQ'
    have bl : (d - f) ≤ (mq_flat B).length := by omega
    have W5 := mq_cut_W (d := (mq_flat (A ++ M)).length + (d - f)) (q := (A ++ M) ++ B) (by simpa using hWs) (by simp only [mq_flat_app, List.length_append]; omega)
    rw [q3] at W5
    refine b_X1_moveSpan_58 ⟨_, (A ++ M) ++ B, (mq_flat (A ++ M)).length + (d - f), _, rfl, rfl, hr4, by simpa using hWs, by simp only [mq_flat_app, List.length_append]; omega, by simp only [mq_flat_app, List.length_append]; omega, fun r5 hr5 hw5 => ⟨_, r5, rfl, rfl, ?_⟩⟩
    rw [q3] at hr5 hw5 ⊢
    obtain ⟨K5, L5, T5, S5, n5, c5, w5⟩ := r5
    refine b_X1_moveSpan_68 ⟨_, A, M, (mq_cut B (d - f)).1, (mq_cut B (d - f)).2.1, _, _, _, rfl, rfl, by simpa using hr5, by simpa using W5, rfl, by simp, by simp; omega, fun r6 hr6 hw6 => ⟨r6, rfl, rfl, ?_⟩⟩
    obtain ⟨K6, L6, T6, S6, n6, c6, w6⟩ := r6
    refine b_X1_moveSpan_71 (hQ' _ (by simpa using hr6) ?_)
    dsimp only at hw3 hw4 hw5 hw6 ⊢
    omega
  · -- ahead of it
    have q1 := mq_cut_left (C := M ++ B) (d := d) p1 (by omega)
    have q1' := mq_cut_left (C := B) (d := d) p1 (by omega)
    rw [q1'] at hQ'
    obtain ⟨y1, y2⟩ := mq_cut_ok (d := d) p1
    obtain ⟨y3, y4⟩ := mq_cut_len (q := A) (d := d) (by omega)
    have W3 := mq_cut_W (d := d) hWs (by simp only [mq_flat_app, List.length_append]; omega)
    rw [q1] at W3
    refine ⟨_, A ++ (M ++ B), d, _, rfl, rfl, hr2', hWs, hp, by simp only [mq_flat_app, List.length_append]; omega, fun r3 hr3 hw3 => ⟨_, r3, rfl, rfl, ?_⟩⟩
    rw [q1] at hr3 hw3 ⊢
    obtain ⟨K3, L3, T3, S3, n3, c3, w3⟩ := r3
    dsimp only at W3 hr3 hw3 ⊢
    generalize (mq_cut A d).1 = A1 at *
    generalize (mq_cut A d).2.1 = A2 at *
    generalize (mq_cut A d).2.2 = dw2 at *
    have p12 : ∀ k ∈ A1 ++ A2, mq_ok k := fun k hk => (List.mem_append.mp hk).elim (y1 k) (y2 k)
    have p123 : ∀ k ∈ (A1 ++ A2) ++ M, mq_ok k := fun k hk => (List.mem_append.mp hk).elim (p12 k) (p2 k)
    have q2 := mq_cut_at (B := M ++ B) p12
    have q3 := mq_cut_at (B := B) p123
    have W3' := W3
    have hsl2 := W3.2
    simp only [mq_flat_app, List.length_append] at hsl2
    refine b_X1_moveSpan_29 ⟨_, (A1 ++ A2) ++ (M ++ B), (mq_flat (A1 ++ A2)).length, _, rfl, rfl, by simpa using hr3, by simpa using W3, by simp only [mq_flat_app, List.length_append]; omega, by simp only [mq_flat_app, List.length_append]; omega, fun r4 hr4 hw4 => ⟨_, r4, rfl, rfl, ?_⟩⟩
    rw [q2] at hr4 hw4 ⊢
    obtain ⟨K4, L4, T4, S4, n4, c4, w4⟩ := r4
    refine b_X1_moveSpan_34 ⟨_, ((A1 ++ A2) ++ M) ++ B, (mq_flat ((A1 ++ A2) ++ M)).length, _, rfl, rfl, by simpa using hr4, by simpa using W3, by simp only [mq_flat_app, List.length_append]; omega, by simp only [mq_flat_app, List.length_append]; omega, fun r5 hr5 hw5 => ⟨_, r5, rfl, rfl, ?_⟩⟩
    rw [q3] at hr5 hw5 ⊢
    obtain ⟨K5, L5, T5, S5, n5, c5, w5⟩ := r5
    refine b_X1_moveSpan_40 ⟨_, A1, A2, M, B, _, _, _, rfl, rfl, by simpa using hr5, by simpa using W3, rfl, by simp, by simp; omega, fun r6 hr6 hw6 => ⟨r6, rfl, rfl, ?_⟩⟩
    obtain ⟨K6, L6, T6, S6, n6, c6, w6⟩ := r6
    refine b_X1_moveSpan_43 (b_X1_moveSpan_71 (hQ' _ (by simpa using hr6) ?_))
    dsimp only at hw3 hw4 hw5 hw6 ⊢
    omega
theorem mt_X1_moveSpan (l : Launch) : ab_MT l mi_X1_moveSpan sp_X1_moveSpan := ab_MT.of (own := "RootChunks$Row") (E := E_X1_moveSpan) (P := P_X1_moveSpan) (M := M_X1_moveSpan) (nL := 5) (ty := 9) (by decide) rfl rfl tk_X1 pk_X1_moveSpan ck_X1_moveSpan (ab_CT'.cons (mt_X1_cutAt l) (ab_CT'.cons (mt_X1_cutAt l) (ab_CT'.cons (mt_X1_cutAt l) (ab_CT'.cons (mt_X1_cutAt l) (ab_CT'.cons (mt_X1_cutAt l) (ab_CT'.cons (mt_X1_exchangeChunks l) (ab_CT'.cons (mt_X1_cutAt l) (ab_CT'.cons (mt_X1_cutAt l) (ab_CT'.cons (mt_X1_cutAt l) (ab_CT'.cons (mt_X1_exchangeChunks l) ab_CT'.nil)))))))))) (fun av cs Q h => vc_X1_moveSpan h)
def sp_X1_longestChunk : ab_Sp := fun av cs Q => ∃ (r : rw_T) (q : List mq_K), av = [.inr (.inl (some 0))] ∧ cs = rw_cs r ∧ mq_R r q ∧ mq_W q ∧ Q (some (.inl (mq_lg q 0))) (rw_cs r)
def sp_X1_waitingTurns : ab_Sp := fun av cs Q => ∃ (r : rw_T) (q : List mq_K), av = [.inr (.inl (some 0))] ∧ cs = rw_cs r ∧ mq_R r q ∧ mq_W q ∧ Q (some (.inl (mq_wt q 0))) (rw_cs r)
def sp_X1_waitingSums : ab_Sp := fun av cs Q => ∃ (r : rw_T) (q : List mq_K), av = [.inr (.inl (some 0))] ∧ cs = rw_cs r ∧ mq_R r q ∧ mq_W q ∧ Q (some (.inl (mq_ws q 0))) (rw_cs r)
def sp_X1_layOut : ab_Sp := fun av cs Q => ∃ (r : rw_T) (q : List mq_K) (f : Int → Int), av = [.inr (.inl (some 0)), .inr (.inl (some 5))] ∧ cs = rwa_cs r f ∧ mq_R r q ∧ mq_W q ∧ ∀ f', mq_al f' (mq_all q) → Q none (rwa_cs r f')
def sp_X1_copyFrom : ab_Sp := fun av cs Q => ∃ (r r0 : rw_T) (q : List mq_K), av = [.inr (.inl (some 0)), .inr (.inl (some 5))] ∧ cs = rw2_cs r r0 ∧ mq_R r0 q ∧ mq_W q ∧ ∀ r', mq_R r' q → r'.2.2.2.2.2.2 = r0.2.2.2.2.2.2 → Q none (rw2_cs r' r0)
-- ===== RootChunks$Row.longestChunk
def P_X1_longestChunk : List ab_I := [(0, .iconst 0, 1, []), (1, .istore_n 1, 2, []), (2, .iconst 0, 3, []), (3, .istore_n 2, 4, []), (4, .iload_n 2, 5, []), (5, .aload_n 0, 6, []), (6, .getfield 28, 9, []), (9, .if_icmp .ge 20, 12, [((0 : Int), 29)]), (12, .iload_n 1, 13, []), (13, .aload_n 0, 14, []), (14, .getfield 15, 17, []), (17, .iload_n 2, 18, []), (18, .iaload, 19, []), (19, .invokestatic 47, 22, []), (22, .istore_n 1, 23, []), (23, .iinc 2 1, 26, []), (26, .goto (-22), 29, [((0 : Int), 4)]), (29, .iload_n 1, 30, []), (30, .ireturn, 31, [])]
def E_X1_longestChunk : ab_E := (T_X1, [], [(19, 1)], 0)
def M_X1_longestChunk : List (Nat × ab_MI) := []
def mi_X1_longestChunk : ab_MI := (yX1_longestChunk, cX1_longestChunk, 3, ab_rty 0, 1, 70)
theorem pk_X1_longestChunk : P_X1_longestChunk.all (ab_okI cX1_longestChunk) = true := by decide +kernel
theorem ck_X1_longestChunk : P_X1_longestChunk.all (ab_okC1 "RootChunks$Row" M_X1_longestChunk E_X1_longestChunk (1, 70)) = true := by decide +kernel
set_option maxRecDepth 100000 in
theorem b_X1_longestChunk_0 {Q : ab_Q} {rK : Int → Int} {rL : Int → Int} {rT : Int → Int} {rS : Int → Int} {rn : Int} {rc : Int} {rw : Int} (l1 : ab_R E_X1_longestChunk P_X1_longestChunk Q 4 [some (.inr (.inl (some 0))), some (.inl 0), some (.inl 0)] [] (rw_cs (rK, rL, rT, rS, rn, rc, rw)))  : ab_R E_X1_longestChunk P_X1_longestChunk Q 0 [some (.inr (.inl (some 0))), none, none] [] (rw_cs (rK, rL, rT, rS, rn, rc, rw)) :=
  ab_R.steps [4] 6 (show ab_R E_X1_longestChunk P_X1_longestChunk Q 4 [some (.inr (.inl (some 0))), some (.inl 0), some (.inl 0)] [] (rw_cs (rK, rL, rT, rS, rn, rc, rw)) from l1)
set_option maxRecDepth 100000 in
theorem b_X1_longestChunk_4 {Q : ab_Q} {m : Int} {c : Int} {rK : Int → Int} {rL : Int → Int} {rT : Int → Int} {rS : Int → Int} {rn : Int} {rc : Int} {rw : Int} (l1 : rc ≤ c → Q (some (.inl m)) (rw_cs (rK, rL, rT, rS, rn, rc, rw))) (l2 : c < rc → ab_R E_X1_longestChunk P_X1_longestChunk Q 4 [some (.inr (.inl (some 0))), some (.inl (if m < (rL c) then (rL c) else m)), some (.inl (c + 1))] [] (rw_cs (rK, rL, rT, rS, rn, rc, rw))) (p1 : (ab_r c ∧ ab_r rc) := by intros; (try unfold ab_r); omega) (p2 : c < rc → (0 ≤ c ∧ c < 60) := by intros; (try unfold ab_r); omega) (p3 : c < rc → (ab_r m ∧ ab_r (rL c)) := by intros; (try unfold ab_r); omega) : ab_R E_X1_longestChunk P_X1_longestChunk Q 4 [some (.inr (.inl (some 0))), some (.inl m), some (.inl c)] [] (rw_cs (rK, rL, rT, rS, rn, rc, rw)) :=
  ab_R.steps [4] 15 (show ((ab_r c ∧ ab_r rc) ∧ ((rc ≤ c → Q (some (.inl m)) (rw_cs (rK, rL, rT, rS, rn, rc, rw))) ∧ (c < rc → ((0 ≤ c ∧ c < 60) ∧ ((ab_r m ∧ ab_r (rL c)) ∧ ab_R E_X1_longestChunk P_X1_longestChunk Q 4 [some (.inr (.inl (some 0))), some (.inl (if m < (rL c) then (rL c) else m)), some (.inl (c + 1))] [] (rw_cs (rK, rL, rT, rS, rn, rc, rw))))))) from ⟨p1, ⟨fun h1 => (l1 h1), fun h2 => ⟨(p2 h2), ⟨(p3 h2), (l2 h2)⟩⟩⟩⟩)
-- ===== RootChunks$Row.waitingTurns
def P_X1_waitingTurns : List ab_I := [(0, .iconst 0, 1, []), (1, .istore_n 1, 2, []), (2, .iconst 0, 3, []), (3, .istore_n 2, 4, []), (4, .iload_n 2, 5, []), (5, .aload_n 0, 6, []), (6, .getfield 28, 9, []), (9, .if_icmp .ge 18, 12, [((0 : Int), 27)]), (12, .iload_n 1, 13, []), (13, .aload_n 0, 14, []), (14, .getfield 18, 17, []), (17, .iload_n 2, 18, []), (18, .iaload, 19, []), (19, .iadd, 20, []), (20, .istore_n 1, 21, []), (21, .iinc 2 1, 24, []), (24, .goto (-20), 27, [((0 : Int), 4)]), (27, .iload_n 1, 28, []), (28, .ireturn, 29, [])]
def E_X1_waitingTurns : ab_E := (T_X1, [], [], 0)
def M_X1_waitingTurns : List (Nat × ab_MI) := []
def mi_X1_waitingTurns : ab_MI := (yX1_waitingTurns, cX1_waitingTurns, 3, ab_rty 0, 1, 70)
theorem pk_X1_waitingTurns : P_X1_waitingTurns.all (ab_okI cX1_waitingTurns) = true := by decide +kernel
theorem ck_X1_waitingTurns : P_X1_waitingTurns.all (ab_okC1 "RootChunks$Row" M_X1_waitingTurns E_X1_waitingTurns (1, 70)) = true := by decide +kernel
set_option maxRecDepth 100000 in
theorem b_X1_waitingTurns_0 {Q : ab_Q} {rK : Int → Int} {rL : Int → Int} {rT : Int → Int} {rS : Int → Int} {rn : Int} {rc : Int} {rw : Int} (l1 : ab_R E_X1_waitingTurns P_X1_waitingTurns Q 4 [some (.inr (.inl (some 0))), some (.inl 0), some (.inl 0)] [] (rw_cs (rK, rL, rT, rS, rn, rc, rw)))  : ab_R E_X1_waitingTurns P_X1_waitingTurns Q 0 [some (.inr (.inl (some 0))), none, none] [] (rw_cs (rK, rL, rT, rS, rn, rc, rw)) :=
  ab_R.steps [4] 6 (show ab_R E_X1_waitingTurns P_X1_waitingTurns Q 4 [some (.inr (.inl (some 0))), some (.inl 0), some (.inl 0)] [] (rw_cs (rK, rL, rT, rS, rn, rc, rw)) from l1)
set_option maxRecDepth 100000 in
theorem b_X1_waitingTurns_4 {Q : ab_Q} {m : Int} {c : Int} {rK : Int → Int} {rL : Int → Int} {rT : Int → Int} {rS : Int → Int} {rn : Int} {rc : Int} {rw : Int} (l1 : rc ≤ c → Q (some (.inl m)) (rw_cs (rK, rL, rT, rS, rn, rc, rw))) (l2 : c < rc → ab_R E_X1_waitingTurns P_X1_waitingTurns Q 4 [some (.inr (.inl (some 0))), some (.inl (m + (rT c))), some (.inl (c + 1))] [] (rw_cs (rK, rL, rT, rS, rn, rc, rw))) (p1 : (ab_r c ∧ ab_r rc) := by intros; (try unfold ab_r); omega) (p2 : c < rc → (0 ≤ c ∧ c < 60) := by intros; (try unfold ab_r); omega) : ab_R E_X1_waitingTurns P_X1_waitingTurns Q 4 [some (.inr (.inl (some 0))), some (.inl m), some (.inl c)] [] (rw_cs (rK, rL, rT, rS, rn, rc, rw)) :=
  ab_R.steps [4] 15 (show ((ab_r c ∧ ab_r rc) ∧ ((rc ≤ c → Q (some (.inl m)) (rw_cs (rK, rL, rT, rS, rn, rc, rw))) ∧ (c < rc → ((0 ≤ c ∧ c < 60) ∧ ab_R E_X1_waitingTurns P_X1_waitingTurns Q 4 [some (.inr (.inl (some 0))), some (.inl (m + (rT c))), some (.inl (c + 1))] [] (rw_cs (rK, rL, rT, rS, rn, rc, rw)))))) from ⟨p1, ⟨fun h1 => (l1 h1), fun h2 => ⟨(p2 h2), (l2 h2)⟩⟩⟩)
-- ===== RootChunks$Row.waitingSums
def P_X1_waitingSums : List ab_I := [(0, .iconst 0, 1, []), (1, .istore_n 1, 2, []), (2, .iconst 0, 3, []), (3, .istore_n 2, 4, []), (4, .iload_n 2, 5, []), (5, .aload_n 0, 6, []), (6, .getfield 28, 9, []), (9, .if_icmp .ge 21, 12, [((0 : Int), 30)]), (12, .aload_n 0, 13, []), (13, .getfield 21, 16, []), (16, .iload_n 2, 17, []), (17, .iaload, 18, []), (18, .ifCond .eq 6, 21, [((0 : Int), 24)]), (21, .iinc 1 1, 24, []), (24, .iinc 2 1, 27, []), (27, .goto (-23), 30, [((0 : Int), 4)]), (30, .iload_n 1, 31, []), (31, .ireturn, 32, [])]
def E_X1_waitingSums : ab_E := (T_X1, [], [], 0)
def M_X1_waitingSums : List (Nat × ab_MI) := []
def mi_X1_waitingSums : ab_MI := (yX1_waitingSums, cX1_waitingSums, 3, ab_rty 0, 1, 70)
theorem pk_X1_waitingSums : P_X1_waitingSums.all (ab_okI cX1_waitingSums) = true := by decide +kernel
theorem ck_X1_waitingSums : P_X1_waitingSums.all (ab_okC1 "RootChunks$Row" M_X1_waitingSums E_X1_waitingSums (1, 70)) = true := by decide +kernel
set_option maxRecDepth 100000 in
theorem b_X1_waitingSums_0 {Q : ab_Q} {rK : Int → Int} {rL : Int → Int} {rT : Int → Int} {rS : Int → Int} {rn : Int} {rc : Int} {rw : Int} (l1 : ab_R E_X1_waitingSums P_X1_waitingSums Q 4 [some (.inr (.inl (some 0))), some (.inl 0), some (.inl 0)] [] (rw_cs (rK, rL, rT, rS, rn, rc, rw)))  : ab_R E_X1_waitingSums P_X1_waitingSums Q 0 [some (.inr (.inl (some 0))), none, none] [] (rw_cs (rK, rL, rT, rS, rn, rc, rw)) :=
  ab_R.steps [4] 6 (show ab_R E_X1_waitingSums P_X1_waitingSums Q 4 [some (.inr (.inl (some 0))), some (.inl 0), some (.inl 0)] [] (rw_cs (rK, rL, rT, rS, rn, rc, rw)) from l1)
set_option maxRecDepth 100000 in
theorem b_X1_waitingSums_4 {Q : ab_Q} {m : Int} {c : Int} {rK : Int → Int} {rL : Int → Int} {rT : Int → Int} {rS : Int → Int} {rn : Int} {rc : Int} {rw : Int} (l1 : rc ≤ c → Q (some (.inl m)) (rw_cs (rK, rL, rT, rS, rn, rc, rw))) (l2 : c < rc → (rS c) = (0 : Int) → ab_R E_X1_waitingSums P_X1_waitingSums Q 4 [some (.inr (.inl (some 0))), some (.inl m), some (.inl (c + 1))] [] (rw_cs (rK, rL, rT, rS, rn, rc, rw))) (l3 : c < rc → ¬ (rS c) = (0 : Int) → ab_R E_X1_waitingSums P_X1_waitingSums Q 4 [some (.inr (.inl (some 0))), some (.inl (m + 1)), some (.inl (c + 1))] [] (rw_cs (rK, rL, rT, rS, rn, rc, rw))) (p1 : (ab_r c ∧ ab_r rc) := by intros; (try unfold ab_r); omega) (p2 : c < rc → (0 ≤ c ∧ c < 60) := by intros; (try unfold ab_r); omega) (p3 : c < rc → ab_r (rS c) := by intros; (try unfold ab_r); omega) : ab_R E_X1_waitingSums P_X1_waitingSums Q 4 [some (.inr (.inl (some 0))), some (.inl m), some (.inl c)] [] (rw_cs (rK, rL, rT, rS, rn, rc, rw)) :=
  ab_R.steps [4] 14 (show ((ab_r c ∧ ab_r rc) ∧ ((rc ≤ c → Q (some (.inl m)) (rw_cs (rK, rL, rT, rS, rn, rc, rw))) ∧ (c < rc → ((0 ≤ c ∧ c < 60) ∧ (ab_r (rS c) ∧ (((rS c) = (0 : Int) → ab_R E_X1_waitingSums P_X1_waitingSums Q 4 [some (.inr (.inl (some 0))), some (.inl m), some (.inl (c + 1))] [] (rw_cs (rK, rL, rT, rS, rn, rc, rw))) ∧ (¬ (rS c) = (0 : Int) → ab_R E_X1_waitingSums P_X1_waitingSums Q 4 [some (.inr (.inl (some 0))), some (.inl (m + 1)), some (.inl (c + 1))] [] (rw_cs (rK, rL, rT, rS, rn, rc, rw))))))))) from ⟨p1, ⟨fun h1 => (l1 h1), fun h2 => ⟨(p2 h2), ⟨(p3 h2), ⟨fun h3 => (l2 h2 h3), fun h4 => (l3 h2 h4)⟩⟩⟩⟩⟩)
-- ===== RootChunks$Row.layOut
def P_X1_layOut : List ab_I := [(0, .iconst 0, 1, []), (1, .istore_n 2, 2, []), (2, .iconst 0, 3, []), (3, .istore_n 3, 4, []), (4, .iload_n 3, 5, []), (5, .aload_n 0, 6, []), (6, .getfield 28, 9, []), (9, .if_icmp .ge 92, 12, [((0 : Int), 101)]), (12, .iload_n 2, 13, []), (13, .aload_n 0, 14, []), (14, .getfield 15, 17, []), (17, .iload_n 3, 18, []), (18, .iaload, 19, []), (19, .iadd, 20, []), (20, .iconst 1, 21, []), (21, .isub, 22, []), (22, .istore 4, 24, []), (24, .iload_n 2, 25, []), (25, .istore 5, 27, []), (27, .iload 5, 29, []), (29, .iload 4, 31, []), (31, .if_icmp .gt 59, 34, [((0 : Int), 90)]), (34, .iload 5, 36, []), (36, .aload_n 1, 37, []), (37, .arraylength, 38, []), (38, .if_icmp .ge 52, 41, [((0 : Int), 90)]), (41, .aload_n 1, 42, []), (42, .iload 5, 44, []), (44, .aload_n 0, 45, []), (45, .getfield 21, 48, []), (48, .iload_n 3, 49, []), (49, .iaload, 50, []), (50, .aload_n 0, 51, []), (51, .getfield 18, 54, []), (54, .iload_n 3, 55, []), (55, .iaload, 56, []), (56, .iconst 1, 57, []), (57, .if_icmp .ne 18, 60, [((0 : Int), 75)]), (60, .aload_n 0, 61, []), (61, .getfield 9, 64, []), (64, .iload_n 2, 65, []), (65, .iload 4, 67, []), (67, .iadd, 68, []), (68, .iload 5, 70, []), (70, .isub, 71, []), (71, .iaload, 72, []), (72, .goto 10, 75, [((0 : Int), 82)]), (75, .aload_n 0, 76, []), (76, .getfield 9, 79, []), (79, .iload 5, 81, []), (81, .iaload, 82, []), (82, .iadd, 83, []), (83, .iastore, 84, []), (84, .iinc 5 1, 87, []), (87, .goto (-60), 90, [((0 : Int), 27)]), (90, .iload 4, 92, []), (92, .iconst 1, 93, []), (93, .iadd, 94, []), (94, .istore_n 2, 95, []), (95, .iinc 3 1, 98, []), (98, .goto (-94), 101, [((0 : Int), 4)]), (101, .return_, 102, [])]
def E_X1_layOut : ab_E := (T_X1, [], [], 9)
def M_X1_layOut : List (Nat × ab_MI) := []
def mi_X1_layOut : ab_MI := (yX1_layOut, cX1_layOut, 6, ab_rty 9, 1, 70)
theorem pk_X1_layOut : P_X1_layOut.all (ab_okI cX1_layOut) = true := by decide +kernel
theorem ck_X1_layOut : P_X1_layOut.all (ab_okC1 "RootChunks$Row" M_X1_layOut E_X1_layOut (1, 70)) = true := by decide +kernel
set_option maxRecDepth 100000 in
theorem b_X1_layOut_0 {Q : ab_Q} {rK : Int → Int} {rL : Int → Int} {rT : Int → Int} {rS : Int → Int} {rn : Int} {rc : Int} {rw : Int} {f : Int → Int} (l1 : ab_R E_X1_layOut P_X1_layOut Q 4 [some (.inr (.inl (some 0))), some (.inr (.inl (some 5))), some (.inl 0), some (.inl 0), none, none] [] (rwa_cs (rK, rL, rT, rS, rn, rc, rw) f))  : ab_R E_X1_layOut P_X1_layOut Q 0 [some (.inr (.inl (some 0))), some (.inr (.inl (some 5))), none, none, none, none] [] (rwa_cs (rK, rL, rT, rS, rn, rc, rw) f) :=
  ab_R.steps [4, 27] 6 (show ab_R E_X1_layOut P_X1_layOut Q 4 [some (.inr (.inl (some 0))), some (.inr (.inl (some 5))), some (.inl 0), some (.inl 0), none, none] [] (rwa_cs (rK, rL, rT, rS, rn, rc, rw) f) from l1)
set_option maxRecDepth 100000 in
theorem b_X1_layOut_4 {Q : ab_Q} {st : Int} {c : Int} {rK : Int → Int} {rL : Int → Int} {rT : Int → Int} {rS : Int → Int} {rn : Int} {rc : Int} {rw : Int} {f : Int → Int} (l1 : rc ≤ c → Q none (rwa_cs (rK, rL, rT, rS, rn, rc, rw) f)) (l2 : c < rc → ab_R E_X1_layOut P_X1_layOut Q 27 [some (.inr (.inl (some 0))), some (.inr (.inl (some 5))), some (.inl st), some (.inl c), some (.inl ((st + (rL c)) - 1)), some (.inl st)] [] (rwa_cs (rK, rL, rT, rS, rn, rc, rw) f)) (p1 : (ab_r c ∧ ab_r rc) := by intros; (try unfold ab_r); omega) (p2 : c < rc → (0 ≤ c ∧ c < 60) := by intros; (try unfold ab_r); omega) : ab_R E_X1_layOut P_X1_layOut Q 4 [some (.inr (.inl (some 0))), some (.inr (.inl (some 5))), some (.inl st), some (.inl c), none, none] [] (rwa_cs (rK, rL, rT, rS, rn, rc, rw) f) :=
  ab_R.steps [4, 27] 17 (show ((ab_r c ∧ ab_r rc) ∧ ((rc ≤ c → Q none (rwa_cs (rK, rL, rT, rS, rn, rc, rw) f)) ∧ (c < rc → ((0 ≤ c ∧ c < 60) ∧ ab_R E_X1_layOut P_X1_layOut Q 27 [some (.inr (.inl (some 0))), some (.inr (.inl (some 5))), some (.inl st), some (.inl c), some (.inl ((st + (rL c)) - 1)), some (.inl st)] [] (rwa_cs (rK, rL, rT, rS, rn, rc, rw) f))))) from ⟨p1, ⟨fun h1 => (l1 h1), fun h2 => ⟨(p2 h2), (l2 h2)⟩⟩⟩)
set_option maxRecDepth 100000 in
theorem b_X1_layOut_27 {Q : ab_Q} {st : Int} {c : Int} {la : Int} {p : Int} {rK : Int → Int} {rL : Int → Int} {rT : Int → Int} {rS : Int → Int} {rn : Int} {rc : Int} {rw : Int} {f : Int → Int} (l1 : la < p → ab_R E_X1_layOut P_X1_layOut Q 4 [some (.inr (.inl (some 0))), some (.inr (.inl (some 5))), some (.inl (la + 1)), some (.inl (c + 1)), none, none] [] (rwa_cs (rK, rL, rT, rS, rn, rc, rw) f)) (l2 : p ≤ la → (60 : Int) ≤ p → ab_R E_X1_layOut P_X1_layOut Q 4 [some (.inr (.inl (some 0))), some (.inr (.inl (some 5))), some (.inl (la + 1)), some (.inl (c + 1)), none, none] [] (rwa_cs (rK, rL, rT, rS, rn, rc, rw) f)) (l3 : p ≤ la → p < (60 : Int) → ¬ (rT c) = (1 : Int) → ab_R E_X1_layOut P_X1_layOut Q 27 [some (.inr (.inl (some 0))), some (.inr (.inl (some 5))), some (.inl st), some (.inl c), some (.inl la), some (.inl (p + 1))] [] (rwa_cs (rK, rL, rT, rS, rn, rc, rw) ((ab_up f p ((rS c) + (rK p)))))) (l4 : p ≤ la → p < (60 : Int) → (rT c) = (1 : Int) → ab_R E_X1_layOut P_X1_layOut Q 27 [some (.inr (.inl (some 0))), some (.inr (.inl (some 5))), some (.inl st), some (.inl c), some (.inl la), some (.inl (p + 1))] [] (rwa_cs (rK, rL, rT, rS, rn, rc, rw) ((ab_up f p ((rS c) + (rK ((st + la) - p))))))) (p1 : (ab_r p ∧ ab_r la) := by intros; (try unfold ab_r); omega) (p2 : p ≤ la → (ab_r p ∧ ab_r 60) := by intros; (try unfold ab_r); omega) (p3 : p ≤ la → p < (60 : Int) → (0 ≤ c ∧ c < 60) := by intros; (try unfold ab_r); omega) (p4 : p ≤ la → p < (60 : Int) → (ab_r (rT c) ∧ ab_r 1) := by intros; (try unfold ab_r); omega) (p5 : p ≤ la → p < (60 : Int) → ¬ (rT c) = (1 : Int) → (0 ≤ p ∧ p < 60) := by intros; (try unfold ab_r); omega) (p6 : p ≤ la → p < (60 : Int) → (rT c) = (1 : Int) → (0 ≤ ((st + la) - p) ∧ ((st + la) - p) < 60) := by intros; (try unfold ab_r); omega) (p7 : p ≤ la → p < (60 : Int) → (rT c) = (1 : Int) → (0 ≤ p ∧ p < 60) := by intros; (try unfold ab_r); omega) : ab_R E_X1_layOut P_X1_layOut Q 27 [some (.inr (.inl (some 0))), some (.inr (.inl (some 5))), some (.inl st), some (.inl c), some (.inl la), some (.inl p)] [] (rwa_cs (rK, rL, rT, rS, rn, rc, rw) f) :=
  ab_R.steps [4, 27] 34 (show ((ab_r p ∧ ab_r la) ∧ ((la < p → ab_R E_X1_layOut P_X1_layOut Q 4 [some (.inr (.inl (some 0))), some (.inr (.inl (some 5))), some (.inl (la + 1)), some (.inl (c + 1)), some (.inl la), some (.inl p)] [] (rwa_cs (rK, rL, rT, rS, rn, rc, rw) f)) ∧ (p ≤ la → ((ab_r p ∧ ab_r 60) ∧ (((60 : Int) ≤ p → ab_R E_X1_layOut P_X1_layOut Q 4 [some (.inr (.inl (some 0))), some (.inr (.inl (some 5))), some (.inl (la + 1)), some (.inl (c + 1)), some (.inl la), some (.inl p)] [] (rwa_cs (rK, rL, rT, rS, rn, rc, rw) f)) ∧ (p < (60 : Int) → ((0 ≤ c ∧ c < 60) ∧ ((0 ≤ c ∧ c < 60) ∧ ((ab_r (rT c) ∧ ab_r 1) ∧ ((¬ (rT c) = (1 : Int) → ((0 ≤ p ∧ p < 60) ∧ ((0 ≤ p ∧ p < 60) ∧ ab_R E_X1_layOut P_X1_layOut Q 27 [some (.inr (.inl (some 0))), some (.inr (.inl (some 5))), some (.inl st), some (.inl c), some (.inl la), some (.inl (p + 1))] [] (rwa_cs (rK, rL, rT, rS, rn, rc, rw) ((ab_up f p ((rS c) + (rK p)))))))) ∧ ((rT c) = (1 : Int) → ((0 ≤ ((st + la) - p) ∧ ((st + la) - p) < 60) ∧ ((0 ≤ p ∧ p < 60) ∧ ab_R E_X1_layOut P_X1_layOut Q 27 [some (.inr (.inl (some 0))), some (.inr (.inl (some 5))), some (.inl st), some (.inl c), some (.inl la), some (.inl (p + 1))] [] (rwa_cs (rK, rL, rT, rS, rn, rc, rw) ((ab_up f p ((rS c) + (rK ((st + la) - p))))))))))))))))))) from ⟨p1, ⟨fun h1 => (ab_R.fg 4 rfl (ab_R.fg 5 rfl (l1 h1))), fun h2 => ⟨(p2 h2), ⟨fun h3 => (ab_R.fg 4 rfl (ab_R.fg 5 rfl (l2 h2 h3))), fun h4 => ⟨(p3 h2 h4), ⟨(p3 h2 h4), ⟨(p4 h2 h4), ⟨fun h5 => ⟨(p5 h2 h4 h5), ⟨(p5 h2 h4 h5), (l3 h2 h4 h5)⟩⟩, fun h6 => ⟨(p6 h2 h4 h6), ⟨(p7 h2 h4 h6), (l4 h2 h4 h6)⟩⟩⟩⟩⟩⟩⟩⟩⟩⟩)
-- ===== RootChunks$Row.copyFrom
def P_X1_copyFrom : List ab_I := [(0, .aload_n 1, 1, []), (1, .getfield 9, 4, []), (4, .iconst 0, 5, []), (5, .aload_n 0, 6, []), (6, .getfield 9, 9, []), (9, .iconst 0, 10, []), (10, .bipush 60, 12, []), (12, .invokestatic 34, 15, []), (15, .aload_n 1, 16, []), (16, .getfield 15, 19, []), (19, .iconst 0, 20, []), (20, .aload_n 0, 21, []), (21, .getfield 15, 24, []), (24, .iconst 0, 25, []), (25, .bipush 60, 27, []), (27, .invokestatic 34, 30, []), (30, .aload_n 1, 31, []), (31, .getfield 18, 34, []), (34, .iconst 0, 35, []), (35, .aload_n 0, 36, []), (36, .getfield 18, 39, []), (39, .iconst 0, 40, []), (40, .bipush 60, 42, []), (42, .invokestatic 34, 45, []), (45, .aload_n 1, 46, []), (46, .getfield 21, 49, []), (49, .iconst 0, 50, []), (50, .aload_n 0, 51, []), (51, .getfield 21, 54, []), (54, .iconst 0, 55, []), (55, .bipush 60, 57, []), (57, .invokestatic 34, 60, []), (60, .aload_n 0, 61, []), (61, .aload_n 1, 62, []), (62, .getfield 24, 65, []), (65, .putfield 24, 68, []), (68, .aload_n 0, 69, []), (69, .aload_n 1, 70, []), (70, .getfield 28, 73, []), (73, .putfield 28, 76, []), (76, .aload_n 0, 77, []), (77, .aload_n 1, 78, []), (78, .getfield 31, 81, []), (81, .putfield 31, 84, []), (84, .return_, 85, [])]
def E_X1_copyFrom : ab_E := (T_X1, [], [(12, 2), (27, 2), (42, 2), (57, 2)], 9)
def M_X1_copyFrom : List (Nat × ab_MI) := []
def mi_X1_copyFrom : ab_MI := (yX1_copyFrom, cX1_copyFrom, 2, ab_rty 9, 1, 70)
theorem pk_X1_copyFrom : P_X1_copyFrom.all (ab_okI cX1_copyFrom) = true := by decide +kernel
theorem ck_X1_copyFrom : P_X1_copyFrom.all (ab_okC1 "RootChunks$Row" M_X1_copyFrom E_X1_copyFrom (1, 70)) = true := by decide +kernel
set_option maxRecDepth 100000 in
theorem b_X1_copyFrom_0 {Q : ab_Q} {rK : Int → Int} {rL : Int → Int} {rT : Int → Int} {rS : Int → Int} {rn : Int} {rc : Int} {rw : Int} {qK : Int → Int} {qL : Int → Int} {qT : Int → Int} {qS : Int → Int} {qn : Int} {qc : Int} {qw : Int} (l1 : Q none (rw2_cs ((ab_cpy qK rK 0 0 60), (ab_cpy qL rL 0 0 60), (ab_cpy qT rT 0 0 60), (ab_cpy qS rS 0 0 60), qn, qc, qw) (qK, qL, qT, qS, qn, qc, qw))) (p1 : (0 ≤ (0 : Int) ∧ 0 ≤ (0 : Int) ∧ 0 ≤ (60 : Int) ∧ (0 : Int) + 60 ≤ 60 ∧ (0 : Int) + 60 ≤ 60) := by intros; (try unfold ab_r); omega) : ab_R E_X1_copyFrom P_X1_copyFrom Q 0 [some (.inr (.inl (some 0))), some (.inr (.inl (some 5)))] [] (rw2_cs (rK, rL, rT, rS, rn, rc, rw) (qK, qL, qT, qS, qn, qc, qw)) :=
  ab_R.steps [] 46 (show ((0 ≤ (0 : Int) ∧ 0 ≤ (0 : Int) ∧ 0 ≤ (60 : Int) ∧ (0 : Int) + 60 ≤ 60 ∧ (0 : Int) + 60 ≤ 60) ∧ ((0 ≤ (0 : Int) ∧ 0 ≤ (0 : Int) ∧ 0 ≤ (60 : Int) ∧ (0 : Int) + 60 ≤ 60 ∧ (0 : Int) + 60 ≤ 60) ∧ ((0 ≤ (0 : Int) ∧ 0 ≤ (0 : Int) ∧ 0 ≤ (60 : Int) ∧ (0 : Int) + 60 ≤ 60 ∧ (0 : Int) + 60 ≤ 60) ∧ ((0 ≤ (0 : Int) ∧ 0 ≤ (0 : Int) ∧ 0 ≤ (60 : Int) ∧ (0 : Int) + 60 ≤ 60 ∧ (0 : Int) + 60 ≤ 60) ∧ Q none (rw2_cs ((ab_cpy qK rK 0 0 60), (ab_cpy qL rL 0 0 60), (ab_cpy qT rT 0 0 60), (ab_cpy qS rS 0 0 60), qn, qc, qw) (qK, qL, qT, qS, qn, qc, qw)))))) from ⟨p1, ⟨p1, ⟨p1, ⟨p1, l1⟩⟩⟩⟩)
theorem vc_X1_longestChunk {av : List ab_V} {cs : List ab_C} {Q : ab_Q} (h : sp_X1_longestChunk av cs Q) : (ab_lv0 av).length ≤ 3 ∧ ab_R E_X1_longestChunk P_X1_longestChunk Q 0 (ab_ent av 3) [] cs := by
  obtain ⟨⟨K, L, T, S, n, cc, w⟩, q, rfl, rfl, hR, hW, hQ⟩ := h
  refine ⟨Nat.le_of_ble_eq_true rfl, ?_⟩
  have hcc : cc = (q.length : Nat) := hR.2.2.2.2.2
  have hcl := hW.chunks
  have hfl := hW.2
  have loop : ∀ (B A : List mq_K) (c m : Int), q = A ++ B → c = A.length → 0 ≤ m → m ≤ 60 → mq_lg B m = mq_lg q 0 → ab_R E_X1_longestChunk P_X1_longestChunk Q 4 [some (.inr (.inl (some 0))), some (.inl m), some (.inl c)] [] (rw_cs (K, L, T, S, n, cc, w)) := by
    intro B
    induction B with
    | nil =>
      intro A c m g1 g2 g3 g4 g5
      rw [List.append_nil] at g1; subst g1
      refine b_X1_longestChunk_4 (fun _ => ?_) (fun _ => by omega)
      have e : mq_lg [] m = m := rfl
      rw [← e, g5]; exact hQ
    | cons k B ih =>
      intro A c m g1 g2 g3 g4 g5
      have e1 := hR.len (c := A.length) (k := k) (by rw [g1]; simp)
      dsimp only at e1
      rw [← g2] at e1
      have e2 : q.length = A.length + (B.length + 1) := by rw [g1]; simp
      have e3 : k.1.length ≤ 60 := by
        rw [g1, mq_flat_mid, List.length_append, List.length_append] at hfl; omega
      refine b_X1_longestChunk_4 (fun _ => by omega) (fun _ => ih (A ++ [k]) _ _ (by simpa using g1) (by simp; omega) (by split <;> omega) (by split <;> omega) ?_)
      rw [e1]; exact g5
  exact b_X1_longestChunk_0 (loop q [] 0 0 rfl rfl (by omega) (by omega) rfl)
theorem mt_X1_longestChunk (l : Launch) : ab_MT l mi_X1_longestChunk sp_X1_longestChunk := ab_MT.of (own := "RootChunks$Row") (E := E_X1_longestChunk) (P := P_X1_longestChunk) (M := M_X1_longestChunk) (nL := 3) (ty := 0) (by decide) rfl rfl tk_X1 pk_X1_longestChunk ck_X1_longestChunk ab_CT'.nil (fun av cs Q h => vc_X1_longestChunk h)
theorem vc_X1_waitingTurns {av : List ab_V} {cs : List ab_C} {Q : ab_Q} (h : sp_X1_waitingTurns av cs Q) : (ab_lv0 av).length ≤ 3 ∧ ab_R E_X1_waitingTurns P_X1_waitingTurns Q 0 (ab_ent av 3) [] cs := by
  obtain ⟨⟨K, L, T, S, n, cc, w⟩, q, rfl, rfl, hR, hW, hQ⟩ := h
  refine ⟨Nat.le_of_ble_eq_true rfl, ?_⟩
  have hcc : cc = (q.length : Nat) := hR.2.2.2.2.2
  have hcl := hW.chunks
  have loop : ∀ (B A : List mq_K) (c m : Int), q = A ++ B → c = A.length → mq_wt B m = mq_wt q 0 → ab_R E_X1_waitingTurns P_X1_waitingTurns Q 4 [some (.inr (.inl (some 0))), some (.inl m), some (.inl c)] [] (rw_cs (K, L, T, S, n, cc, w)) := by
    intro B
    induction B with
    | nil =>
      intro A c m g1 g2 g5
      rw [List.append_nil] at g1; subst g1
      refine b_X1_waitingTurns_4 (fun _ => ?_) (fun _ => by omega)
      have e : mq_wt [] m = m := rfl
      rw [← e, g5]; exact hQ
    | cons k B ih =>
      intro A c m g1 g2 g5
      have e1 := hR.turn (c := A.length) (k := k) (by rw [g1]; simp)
      dsimp only at e1
      rw [← g2] at e1
      have e2 : q.length = A.length + (B.length + 1) := by rw [g1]; simp
      refine b_X1_waitingTurns_4 (fun _ => by omega) (fun _ => ih (A ++ [k]) _ _ (by simpa using g1) (by simp; omega) ?_)
      rw [e1]; exact g5
  exact b_X1_waitingTurns_0 (loop q [] 0 0 rfl rfl rfl)
theorem mt_X1_waitingTurns (l : Launch) : ab_MT l mi_X1_waitingTurns sp_X1_waitingTurns := ab_MT.of (own := "RootChunks$Row") (E := E_X1_waitingTurns) (P := P_X1_waitingTurns) (M := M_X1_waitingTurns) (nL := 3) (ty := 0) (by decide) rfl rfl tk_X1 pk_X1_waitingTurns ck_X1_waitingTurns ab_CT'.nil (fun av cs Q h => vc_X1_waitingTurns h)
theorem vc_X1_waitingSums {av : List ab_V} {cs : List ab_C} {Q : ab_Q} (h : sp_X1_waitingSums av cs Q) : (ab_lv0 av).length ≤ 3 ∧ ab_R E_X1_waitingSums P_X1_waitingSums Q 0 (ab_ent av 3) [] cs := by
  obtain ⟨⟨K, L, T, S, n, cc, w⟩, q, rfl, rfl, hR, hW, hQ⟩ := h
  refine ⟨Nat.le_of_ble_eq_true rfl, ?_⟩
  have hcc : cc = (q.length : Nat) := hR.2.2.2.2.2
  have hcl := hW.chunks
  have loop : ∀ (B A : List mq_K) (c m : Int), q = A ++ B → c = A.length → mq_ws B m = mq_ws q 0 → ab_R E_X1_waitingSums P_X1_waitingSums Q 4 [some (.inr (.inl (some 0))), some (.inl m), some (.inl c)] [] (rw_cs (K, L, T, S, n, cc, w)) := by
    intro B
    induction B with
    | nil =>
      intro A c m g1 g2 g5
      rw [List.append_nil] at g1; subst g1
      refine b_X1_waitingSums_4 (fun _ => ?_) (fun _ _ => by omega) (fun _ _ => by omega)
      have e : mq_ws [] m = m := rfl
      rw [← e, g5]; exact hQ
    | cons k B ih =>
      intro A c m g1 g2 g5
      have e1 := hR.sum (c := A.length) (k := k) (by rw [g1]; simp)
      dsimp only at e1
      rw [← g2] at e1
      have e2 : q.length = A.length + (B.length + 1) := by rw [g1]; simp
      have hs := (hW.1 k (by rw [g1]; simp)).sum
      have e0 : mq_ws (k :: B) m = mq_ws B (if k.2.2 = 0 then m else m + 1) := rfl
      rw [e0] at g5
      refine b_X1_waitingSums_4 (fun _ => by omega) (fun _ hz => ih (A ++ [k]) _ _ (by simpa using g1) (by simp; omega) ?_) (fun _ hz => ih (A ++ [k]) _ _ (by simpa using g1) (by simp; omega) ?_)
      · rw [if_pos (by omega)] at g5; exact g5
      · rw [if_neg (by omega)] at g5; exact g5
  exact b_X1_waitingSums_0 (loop q [] 0 0 rfl rfl rfl)
theorem mt_X1_waitingSums (l : Launch) : ab_MT l mi_X1_waitingSums sp_X1_waitingSums := ab_MT.of (own := "RootChunks$Row") (E := E_X1_waitingSums) (P := P_X1_waitingSums) (M := M_X1_waitingSums) (nL := 3) (ty := 0) (by decide) rfl rfl tk_X1 pk_X1_waitingSums ck_X1_waitingSums ab_CT'.nil (fun av cs Q h => vc_X1_waitingSums h)
theorem vc_X1_layOut {av : List ab_V} {cs : List ab_C} {Q : ab_Q} (h : sp_X1_layOut av cs Q) : (ab_lv0 av).length ≤ 6 ∧ ab_R E_X1_layOut P_X1_layOut Q 0 (ab_ent av 6) [] cs := by
  obtain ⟨⟨K, L, T, S, n, cc, w⟩, q, f, rfl, rfl, hR, hW, hQ⟩ := h
  refine ⟨Nat.le_of_ble_eq_true rfl, ?_⟩
  have hcc : cc = (q.length : Nat) := hR.2.2.2.2.2
  have hcl := hW.chunks
  have hfl := hW.2
  have loop : ∀ (B A : List mq_K) (c st : Int) (g : Int → Int), q = A ++ B → c = A.length → st = (mq_flat A).length → mq_al g (mq_all A) → ab_R E_X1_layOut P_X1_layOut Q 4 [some (.inr (.inl (some 0))), some (.inr (.inl (some 5))), some (.inl st), some (.inl c), none, none] [] (rwa_cs (K, L, T, S, n, cc, w) g) := by
    intro B
    induction B with
    | nil =>
      intro A c st g g1 g2 g3 g4
      rw [List.append_nil] at g1; subst g1
      exact b_X1_layOut_4 (fun _ => hQ g g4) (fun _ => by omega)
    | cons k B ih =>
      intro A c st g g1 g2 g3 g4
      subst g1
      have e1 := hR.len (mq_at_app A k B)
      have et := hR.turn (mq_at_app A k B)
      have es := hR.sum (mq_at_app A k B)
      have ek := fun {j : Nat} {x : Int} (hj : k.1[j]? = some x) => hR.kept hj
      dsimp only at e1 et es ek
      rw [← g2] at e1 et es
      rw [List.length_append, List.length_cons] at hcc hcl
      rw [mq_flat_mid, List.length_append, List.length_append] at hfl
      have ht := (hW.1 k (by simp)).2.1
      have inner : ∀ (m : Nat) (p : Int) (g' : Int → Int), st + k.1.length - p = m → st ≤ p → mq_al g' (mq_all A ++ (mq_row k).take (p - st).toNat) → ab_R E_X1_layOut P_X1_layOut Q 27 [some (.inr (.inl (some 0))), some (.inr (.inl (some 5))), some (.inl st), some (.inl c), some (.inl ((st + L c) - 1)), some (.inl p)] [] (rwa_cs (K, L, T, S, n, cc, w) g') := by
        intro m
        induction m with
        | zero =>
          intro p g' q1 q2 q3
          refine b_X1_layOut_27 (fun _ => ?_) (fun _ _ => by omega) (fun _ _ _ => by omega) (fun _ _ _ => by omega)
          refine ih (A ++ [k]) _ _ _ (by simp) (by simp; omega) ?_ ?_
          · rw [mq_flat_app, mq_flat_cons]; simp [mq_flat]; simp [mq_flat] at g3; omega
          · rw [mq_all_app, mq_all_cons]
            rw [List.take_of_length_le (by rw [mq_row_len]; omega)] at q3
            simpa [mq_all] using q3
        | succ m ihm =>
          intro p g' q1 q2 q3
          have hj : (p - st).toNat < (mq_row k).length := by rw [mq_row_len]; omega
          have hx : (mq_row k)[(p - st).toNat]? = some (mq_row k)[(p - st).toNat] := List.getElem?_eq_getElem hj
          obtain ⟨y, hy, e⟩ := mq_row_at hx
          have ey := ek hy
          have nxt : ∀ v : Int, v = y + k.2.2 → mq_al (ab_up g' p v) (mq_all A ++ (mq_row k).take (p + 1 - st).toNat) := by
            intro v hv
            rw [show (p + 1 - st).toNat = (p - st).toNat + 1 by omega, List.take_succ, hx, ← List.append_assoc]
            refine mq_al_app.mpr ⟨q3.eq (fun i hi => ?_), fun i x hi => ?_⟩
            · rw [List.length_append, mq_all_len, List.length_take] at hi
              unfold ab_up; rw [if_neg (by omega)]
            · match i with
              | 0 =>
                have := Option.some.inj hi
                show ab_up g' p v (((mq_all A ++ (mq_row k).take (p - st).toNat).length : Int) + ((0 : Nat) : Int)) = x
                rw [List.length_append, mq_all_len, List.length_take]
                unfold ab_up
                rw [if_pos (by omega), hv, ← e]
                exact this
              | i + 1 => cases hi
          refine b_X1_layOut_27 (fun _ => by omega) (fun _ _ => by omega) (fun _ _ ht2 => ihm _ _ (by omega) (by omega) (nxt _ ?_)) (fun _ _ ht2 => ihm _ _ (by omega) (by omega) (nxt _ ?_)) (p4 := fun _ _ => by unfold ab_r; omega)
          · rw [if_neg (by omega)] at ey
            rw [show (((mq_flat A).length + (p - st).toNat : Nat) : Int) = p by omega] at ey
            rw [es, ey]
            omega
          · rw [if_pos (by omega)] at ey
            rw [show (((mq_flat A).length + (k.1.length - 1 - (p - st).toNat) : Nat) : Int) = st + (st + L c - 1) - p by omega] at ey
            rw [es, ey]
            omega
      refine b_X1_layOut_4 (fun _ => by omega) (fun _ => inner k.1.length st g (by omega) (by omega) ?_)
      simpa using g4
  exact b_X1_layOut_0 (loop q [] 0 0 f rfl rfl rfl (mq_al_nil f))
theorem mt_X1_layOut (l : Launch) : ab_MT l mi_X1_layOut sp_X1_layOut := ab_MT.of (own := "RootChunks$Row") (E := E_X1_layOut) (P := P_X1_layOut) (M := M_X1_layOut) (nL := 6) (ty := 9) (by decide) rfl rfl tk_X1 pk_X1_layOut ck_X1_layOut ab_CT'.nil (fun av cs Q h => vc_X1_layOut h)
theorem mq_al_cpy {f g : Int → Int} {l : List Int} (h : mq_al f l) (hl : l.length ≤ 60) : mq_al (ab_cpy f g 0 0 60) l := h.eq (fun i hi => by
  unfold ab_cpy
  rw [if_pos (by omega)]
  congr 1; omega)
theorem vc_X1_copyFrom {av : List ab_V} {cs : List ab_C} {Q : ab_Q} (h : sp_X1_copyFrom av cs Q) : (ab_lv0 av).length ≤ 2 ∧ ab_R E_X1_copyFrom P_X1_copyFrom Q 0 (ab_ent av 2) [] cs := by
  obtain ⟨⟨K, L, T, S, n, cc, w⟩, ⟨qK, qL, qT, qS, qn, qc, qw⟩, q, rfl, rfl, hR, hW, hQ⟩ := h
  refine ⟨Nat.le_of_ble_eq_true rfl, ?_⟩
  obtain ⟨r1, r2, r3, r4, r5, r6⟩ := hR
  have hcl := hW.chunks
  have hfl := hW.2
  exact b_X1_copyFrom_0 (hQ _ ⟨mq_al_cpy r1 hfl, mq_al_cpy r2 (by simp; omega), mq_al_cpy r3 (by simp; omega), mq_al_cpy r4 (by simp; omega), r5, r6⟩ rfl)
theorem mt_X1_copyFrom (l : Launch) : ab_MT l mi_X1_copyFrom sp_X1_copyFrom := ab_MT.of (own := "RootChunks$Row") (E := E_X1_copyFrom) (P := P_X1_copyFrom) (M := M_X1_copyFrom) (nL := 2) (ty := 9) (by decide) rfl rfl tk_X1 pk_X1_copyFrom ck_X1_copyFrom ab_CT'.nil (fun av cs Q h => vc_X1_copyFrom h)
end
section
/-! THE REFERENCE: what its methods do to its row -/
def sp_X3_startOf : ab_Sp := fun av cs Q => ∃ (s : Int → Int) (z : mc_T) (g : mg_T) (q : List mq_K) (c : Nat) (k : Int), av = [.inr (.inl (some 0)), .inl k] ∧ cs = md_cs s z g ∧ mq_R (md_v s) q ∧ mq_W q ∧ k = (c : Int) ∧ c ≤ q.length ∧ Q (some (.inl ((mq_flat (q.take c)).length : Int))) (md_cs s z g)
def sp_X3_chunkAt : ab_Sp := fun av cs Q => ∃ (s : Int → Int) (z : mc_T) (g : mg_T) (A : List mq_K) (k : mq_K) (B : List mq_K) (p : Int), av = [.inr (.inl (some 0)), .inl p] ∧ cs = md_cs s z g ∧ mq_R (md_v s) (A ++ k :: B) ∧ mq_W (A ++ k :: B) ∧ (mq_flat A).length ≤ p ∧ p < (mq_flat A).length + k.1.length ∧ Q (some (.inl (A.length : Int))) (md_cs s z g)
def sp_X3_valueAt : ab_Sp := fun av cs Q => ∃ (s : Int → Int) (z : mc_T) (g : mg_T) (q : List mq_K) (p : Int) (i : Nat) (x : Int), av = [.inr (.inl (some 0)), .inl p] ∧ cs = md_cs s z g ∧ mq_R (md_v s) q ∧ mq_W q ∧ p = (i : Int) ∧ (mq_all q)[i]? = some x ∧ Q (some (.inl x)) (md_cs s z g)
def sp_X3_carries : ab_Sp := fun av cs Q => ∃ (s : Int → Int) (z : mc_T) (g : mg_T) (A : List mq_K) (k : mq_K) (B : List mq_K) (c : Int), av = [.inr (.inl (some 0)), .inl c] ∧ cs = md_cs s z g ∧ mq_R (md_v s) (A ++ k :: B) ∧ mq_W (A ++ k :: B) ∧ c = A.length ∧
  ∀ (s' : Int → Int) (z' : mc_T), mq_R (md_v s') (A ++ (mq_row k, 0, 0) :: B) → s' 2 = s 2 + mq_cost k → Q none (md_cs s' z' g)
def sp_X3_parts : ab_Sp := fun av cs Q => ∃ (s : Int → Int) (z : mc_T) (g : mg_T) (A : List mq_K) (l : List Int) (B : List mq_K) (f : Nat) (c x : Int), av = [.inr (.inl (some 0)), .inl c, .inl x] ∧ cs = md_cs s z g ∧ mq_R (md_v s) (A ++ (l, 0, 0) :: B) ∧ mq_W (A ++ (l, 0, 0) :: B) ∧ c = A.length ∧ x = f ∧ 0 < f ∧ f < l.length ∧
  ∀ (s' : Int → Int), mq_R (md_v s') (A ++ (l.take f, 0, 0) :: (l.drop f, 0, 0) :: B) → s' 2 = s 2 + ((l.length : Int) - f) → Q none (md_cs s' z g)
def sp_X3_closes : ab_Sp := fun av cs Q => ∃ (s : Int → Int) (z : mc_T) (g : mg_T) (k : Int), av = [.inr (.inl (some 0)), .inl k] ∧ cs = md_cs s z g ∧ 0 ≤ k ∧ k < s 1 ∧ s 1 ≤ 60 ∧
  ∀ (s' : Int → Int), s' 0 = s 0 → s' 1 = s 1 - 1 → s' 2 = s 2 → (∀ j : Int, 0 ≤ j → j < 60 → s' (3 + j) = s (3 + j)) → (∀ c : Int, 0 ≤ c → c < s 1 - 1 → s' (63 + c) = mq_del (fun c => s (63 + c)) (s 1) k c ∧ s' (127 + c) = mq_del (fun c => s (127 + c)) (s 1) k c ∧ s' (191 + c) = mq_del (fun c => s (191 + c)) (s 1) k c) → Q none (md_cs s' z g)
def sp_X3_cuts : ab_Sp := fun av cs Q => ∃ (s : Int → Int) (z : mc_T) (g : mg_T) (q : List mq_K) (d : Nat) (p : Int), av = [.inr (.inl (some 0)), .inl p] ∧ cs = md_cs s z g ∧ mq_R (md_v s) q ∧ mq_W q ∧ p = d ∧ d ≤ (mq_flat q).length ∧
  ∀ (s' : Int → Int) (z' : mc_T), mq_R (md_v s') ((mq_cut q d).1 ++ (mq_cut q d).2.1) → s' 2 = s 2 + (mq_cut q d).2.2 → Q none (md_cs s' z' g)
def sp_X3_chunkFrom : ab_Sp := fun av cs Q => ∃ (s : Int → Int) (z : mc_T) (g : mg_T) (A B : List mq_K) (p : Int), av = [.inr (.inl (some 0)), .inl p] ∧ cs = md_cs s z g ∧ mq_R (md_v s) (A ++ B) ∧ mq_W (A ++ B) ∧ p = (mq_flat A).length ∧ Q (some (.inl (A.length : Int))) (md_cs s z g)
def sp_X3_root : ab_Sp := fun av cs Q => ∃ (s : Int → Int) (z : mc_T) (g : mg_T) (q : List mq_K), av = [.inr (.inl (some 0))] ∧ cs = md_cs s z g ∧ mq_R (md_v s) q ∧ mq_W q ∧ Q (some (.inl (mq_rt (mq_flat q).length : Int))) (md_cs s z g)
-- ===== RootChunksModel.startOf
def P_X3_startOf : List ab_I := [(0, .iconst 0, 1, []), (1, .istore_n 2, 2, []), (2, .iconst 0, 3, []), (3, .istore_n 3, 4, []), (4, .iload_n 3, 5, []), (5, .iload_n 1, 6, []), (6, .if_icmp .ge 21, 9, [((0 : Int), 27)]), (9, .iload_n 2, 10, []), (10, .aload_n 0, 11, []), (11, .getfield 7, 14, []), (14, .bipush 63, 16, []), (16, .iload_n 3, 17, []), (17, .iadd, 18, []), (18, .iaload, 19, []), (19, .iadd, 20, []), (20, .istore_n 2, 21, []), (21, .iinc 3 1, 24, []), (24, .goto (-20), 27, [((0 : Int), 4)]), (27, .iload_n 2, 28, []), (28, .ireturn, 29, [])]
def E_X3_startOf : ab_E := (T_X3, [], [], 0)
def M_X3_startOf : List (Nat × ab_MI) := []
def mi_X3_startOf : ab_MI := (yX3_startOf, cX3_startOf, 4, ab_rty 0, 1, 70)
theorem pk_X3_startOf : P_X3_startOf.all (ab_okI cX3_startOf) = true := by decide +kernel
theorem ck_X3_startOf : P_X3_startOf.all (ab_okC1 "RootChunksModel" M_X3_startOf E_X3_startOf (1, 70)) = true := by decide +kernel
set_option maxRecDepth 100000 in
theorem b_X3_startOf_0 {Q : ab_Q} {k : Int} {s_ : Int → Int} {z_ : mc_T} {g_ : mg_T} (l1 : ab_R E_X3_startOf P_X3_startOf Q 4 [some (.inr (.inl (some 0))), some (.inl k), some (.inl 0), some (.inl 0)] [] (md_cs s_ z_ g_))  : ab_R E_X3_startOf P_X3_startOf Q 0 [some (.inr (.inl (some 0))), some (.inl k), none, none] [] (md_cs s_ z_ g_) :=
  ab_R.steps [4] 6 (show ab_R E_X3_startOf P_X3_startOf Q 4 [some (.inr (.inl (some 0))), some (.inl k), some (.inl 0), some (.inl 0)] [] (md_cs s_ z_ g_) from l1)
set_option maxRecDepth 100000 in
theorem b_X3_startOf_4 {Q : ab_Q} {k : Int} {st : Int} {c : Int} {s_ : Int → Int} {z_ : mc_T} {g_ : mg_T} (l1 : k ≤ c → Q (some (.inl st)) (md_cs s_ z_ g_)) (l2 : c < k → ab_R E_X3_startOf P_X3_startOf Q 4 [some (.inr (.inl (some 0))), some (.inl k), some (.inl (st + (s_ (63 + c)))), some (.inl (c + 1))] [] (md_cs s_ z_ g_)) (p1 : (ab_r c ∧ ab_r k) := by intros; (try unfold ab_r); omega) (p2 : c < k → (0 ≤ (63 + c) ∧ (63 + c) < 255) := by intros; (try unfold ab_r); omega) : ab_R E_X3_startOf P_X3_startOf Q 4 [some (.inr (.inl (some 0))), some (.inl k), some (.inl st), some (.inl c)] [] (md_cs s_ z_ g_) :=
  ab_R.steps [4] 16 (show ((ab_r c ∧ ab_r k) ∧ ((k ≤ c → Q (some (.inl st)) (md_cs s_ z_ g_)) ∧ (c < k → ((0 ≤ (63 + c) ∧ (63 + c) < 255) ∧ ab_R E_X3_startOf P_X3_startOf Q 4 [some (.inr (.inl (some 0))), some (.inl k), some (.inl (st + (s_ (63 + c)))), some (.inl (c + 1))] [] (md_cs s_ z_ g_))))) from ⟨p1, ⟨fun h1 => (l1 h1), fun h2 => ⟨(p2 h2), (l2 h2)⟩⟩⟩)
-- ===== RootChunksModel.chunkAt
def P_X3_chunkAt : List ab_I := [(0, .iconst 0, 1, []), (1, .istore_n 2, 2, []), (2, .aload_n 0, 3, []), (3, .getfield 7, 6, []), (6, .bipush 63, 8, []), (8, .iaload, 9, []), (9, .istore_n 3, 10, []), (10, .iload_n 3, 11, []), (11, .iload_n 1, 12, []), (12, .if_icmp .gt 21, 15, [((0 : Int), 33)]), (15, .iinc 2 1, 18, []), (18, .iload_n 3, 19, []), (19, .aload_n 0, 20, []), (20, .getfield 7, 23, []), (23, .bipush 63, 25, []), (25, .iload_n 2, 26, []), (26, .iadd, 27, []), (27, .iaload, 28, []), (28, .iadd, 29, []), (29, .istore_n 3, 30, []), (30, .goto (-20), 33, [((0 : Int), 10)]), (33, .iload_n 2, 34, []), (34, .ireturn, 35, [])]
def E_X3_chunkAt : ab_E := (T_X3, [], [], 0)
def M_X3_chunkAt : List (Nat × ab_MI) := []
def mi_X3_chunkAt : ab_MI := (yX3_chunkAt, cX3_chunkAt, 4, ab_rty 0, 1, 70)
theorem pk_X3_chunkAt : P_X3_chunkAt.all (ab_okI cX3_chunkAt) = true := by decide +kernel
theorem ck_X3_chunkAt : P_X3_chunkAt.all (ab_okC1 "RootChunksModel" M_X3_chunkAt E_X3_chunkAt (1, 70)) = true := by decide +kernel
set_option maxRecDepth 100000 in
theorem b_X3_chunkAt_0 {Q : ab_Q} {p : Int} {s_ : Int → Int} {z_ : mc_T} {g_ : mg_T} (l1 : ab_R E_X3_chunkAt P_X3_chunkAt Q 10 [some (.inr (.inl (some 0))), some (.inl p), some (.inl 0), some (.inl (s_ 63))] [] (md_cs s_ z_ g_)) (p1 : (0 ≤ (63 : Int) ∧ (63 : Int) < 255) := by intros; (try unfold ab_r); omega) : ab_R E_X3_chunkAt P_X3_chunkAt Q 0 [some (.inr (.inl (some 0))), some (.inl p), none, none] [] (md_cs s_ z_ g_) :=
  ab_R.steps [10] 9 (show ((0 ≤ (63 : Int) ∧ (63 : Int) < 255) ∧ ab_R E_X3_chunkAt P_X3_chunkAt Q 10 [some (.inr (.inl (some 0))), some (.inl p), some (.inl 0), some (.inl (s_ 63))] [] (md_cs s_ z_ g_)) from ⟨p1, l1⟩)
set_option maxRecDepth 100000 in
theorem b_X3_chunkAt_10 {Q : ab_Q} {p : Int} {c : Int} {en : Int} {s_ : Int → Int} {z_ : mc_T} {g_ : mg_T} (l1 : p < en → Q (some (.inl c)) (md_cs s_ z_ g_)) (l2 : en ≤ p → ab_R E_X3_chunkAt P_X3_chunkAt Q 10 [some (.inr (.inl (some 0))), some (.inl p), some (.inl (c + 1)), some (.inl (en + (s_ (63 + (c + 1)))))] [] (md_cs s_ z_ g_)) (p1 : (ab_r en ∧ ab_r p) := by intros; (try unfold ab_r); omega) (p2 : en ≤ p → (0 ≤ (63 + (c + 1)) ∧ (63 + (c + 1)) < 255) := by intros; (try unfold ab_r); omega) : ab_R E_X3_chunkAt P_X3_chunkAt Q 10 [some (.inr (.inl (some 0))), some (.inl p), some (.inl c), some (.inl en)] [] (md_cs s_ z_ g_) :=
  ab_R.steps [10] 16 (show ((ab_r en ∧ ab_r p) ∧ ((p < en → Q (some (.inl c)) (md_cs s_ z_ g_)) ∧ (en ≤ p → ((0 ≤ (63 + (c + 1)) ∧ (63 + (c + 1)) < 255) ∧ ab_R E_X3_chunkAt P_X3_chunkAt Q 10 [some (.inr (.inl (some 0))), some (.inl p), some (.inl (c + 1)), some (.inl (en + (s_ (63 + (c + 1)))))] [] (md_cs s_ z_ g_))))) from ⟨p1, ⟨fun h1 => (l1 h1), fun h2 => ⟨(p2 h2), (l2 h2)⟩⟩⟩)
-- ===== RootChunksModel.valueAt
def P_X3_valueAt : List ab_I := [(0, .aload_n 0, 1, []), (1, .iload_n 1, 2, []), (2, .invokevirtual 54, 5, []), (5, .istore_n 2, 6, []), (6, .aload_n 0, 7, []), (7, .iload_n 2, 8, []), (8, .invokevirtual 58, 11, []), (11, .istore_n 3, 12, []), (12, .aload_n 0, 13, []), (13, .getfield 7, 16, []), (16, .bipush 127, 18, []), (18, .iload_n 2, 19, []), (19, .iadd, 20, []), (20, .iaload, 21, []), (21, .iconst 1, 22, []), (22, .if_icmp .ne 23, 25, [((0 : Int), 45)]), (25, .iconst 2, 26, []), (26, .iload_n 3, 27, []), (27, .imul, 28, []), (28, .aload_n 0, 29, []), (29, .getfield 7, 32, []), (32, .bipush 63, 34, []), (34, .iload_n 2, 35, []), (35, .iadd, 36, []), (36, .iaload, 37, []), (37, .iadd, 38, []), (38, .iconst 1, 39, []), (39, .isub, 40, []), (40, .iload_n 1, 41, []), (41, .isub, 42, []), (42, .goto 4, 45, [((0 : Int), 46)]), (45, .iload_n 1, 46, []), (46, .istore 4, 48, []), (48, .aload_n 0, 49, []), (49, .getfield 7, 52, []), (52, .iconst 3, 53, []), (53, .iload 4, 55, []), (55, .iadd, 56, []), (56, .iaload, 57, []), (57, .aload_n 0, 58, []), (58, .getfield 7, 61, []), (61, .sipush 191, 64, []), (64, .iload_n 2, 65, []), (65, .iadd, 66, []), (66, .iaload, 67, []), (67, .iadd, 68, []), (68, .ireturn, 69, [])]
def E_X3_valueAt : ab_E := (T_X3, [(2, (2, 3, [], 0, sp_X3_chunkAt)), (8, (2, 3, [], 0, sp_X3_startOf))], [], 0)
def M_X3_valueAt : List (Nat × ab_MI) := [(2, mi_X3_chunkAt), (8, mi_X3_startOf)]
def mi_X3_valueAt : ab_MI := (yX3_valueAt, cX3_valueAt, 5, ab_rty 0, 2, 93)
theorem pk_X3_valueAt : P_X3_valueAt.all (ab_okI cX3_valueAt) = true := by decide +kernel
theorem ck_X3_valueAt : P_X3_valueAt.all (ab_okC1 "RootChunksModel" M_X3_valueAt E_X3_valueAt (2, 93)) = true := by decide +kernel
set_option maxRecDepth 100000 in
theorem b_X3_valueAt_0 {Q : ab_Q} {p : Int} {s_ : Int → Int} {z_ : mc_T} {g_ : mg_T} (l1 : sp_X3_chunkAt [.inr (.inl (some 0)), .inl p] (md_cs s_ z_ g_) (fun r_ k_ => ∃ (x_ : Int), r_ = some (.inl x_) ∧ k_ = (md_cs s_ z_ g_) ∧ ab_R E_X3_valueAt P_X3_valueAt Q 5 [some (.inr (.inl (some 0))), some (.inl p), none, none, none] [.inl x_] (md_cs s_ z_ g_)))  : ab_R E_X3_valueAt P_X3_valueAt Q 0 [some (.inr (.inl (some 0))), some (.inl p), none, none, none] [] (md_cs s_ z_ g_) :=
  ab_R.steps [5, 11] 4 (show ab_cl sp_X3_chunkAt [.inr (.inl (some 0)), .inl p] (md_cs s_ z_ g_) (fun r_ k_ => k_.length = ((md_cs s_ z_ g_)).length → ab_R E_X3_valueAt P_X3_valueAt Q 5 [some (.inr (.inl (some 0))), some (.inl p), none, none, none] (ab_ret r_ []) k_) from ⟨_, l1, fun r_ k_ hz _ => by obtain ⟨x_, rfl, rfl, hR⟩ := hz; exact hR⟩)
set_option maxRecDepth 100000 in
theorem b_X3_valueAt_5 {Q : ab_Q} {p : Int} {t0 : Int} {s_ : Int → Int} {z_ : mc_T} {g_ : mg_T} (l1 : sp_X3_startOf [.inr (.inl (some 0)), .inl t0] (md_cs s_ z_ g_) (fun r_ k_ => ∃ (x_ : Int), r_ = some (.inl x_) ∧ k_ = (md_cs s_ z_ g_) ∧ ab_R E_X3_valueAt P_X3_valueAt Q 11 [some (.inr (.inl (some 0))), some (.inl p), some (.inl t0), none, none] [.inl x_] (md_cs s_ z_ g_)))  : ab_R E_X3_valueAt P_X3_valueAt Q 5 [some (.inr (.inl (some 0))), some (.inl p), none, none, none] [.inl t0] (md_cs s_ z_ g_) :=
  ab_R.steps [5, 11] 5 (show ab_cl sp_X3_startOf [.inr (.inl (some 0)), .inl t0] (md_cs s_ z_ g_) (fun r_ k_ => k_.length = ((md_cs s_ z_ g_)).length → ab_R E_X3_valueAt P_X3_valueAt Q 11 [some (.inr (.inl (some 0))), some (.inl p), some (.inl t0), none, none] (ab_ret r_ []) k_) from ⟨_, l1, fun r_ k_ hz _ => by obtain ⟨x_, rfl, rfl, hR⟩ := hz; exact hR⟩)
set_option maxRecDepth 100000 in
theorem b_X3_valueAt_11 {Q : ab_Q} {p : Int} {c : Int} {t0 : Int} {s_ : Int → Int} {z_ : mc_T} {g_ : mg_T} (l1 : ¬ (s_ (127 + c)) = (1 : Int) → Q (some (.inl ((s_ (3 + p)) + (s_ (191 + c))))) (md_cs s_ z_ g_)) (l2 : (s_ (127 + c)) = (1 : Int) → Q (some (.inl ((s_ (3 + ((((2 * t0) + (s_ (63 + c))) - 1) - p))) + (s_ (191 + c))))) (md_cs s_ z_ g_)) (p1 : (0 ≤ (127 + c) ∧ (127 + c) < 255) := by intros; (try unfold ab_r); omega) (p2 : (ab_r (s_ (127 + c)) ∧ ab_r 1) := by intros; (try unfold ab_r); omega) (p3 : ¬ (s_ (127 + c)) = (1 : Int) → (0 ≤ (3 + p) ∧ (3 + p) < 255) := by intros; (try unfold ab_r); omega) (p4 : ¬ (s_ (127 + c)) = (1 : Int) → (0 ≤ (191 + c) ∧ (191 + c) < 255) := by intros; (try unfold ab_r); omega) (p5 : (s_ (127 + c)) = (1 : Int) → (0 ≤ (63 + c) ∧ (63 + c) < 255) := by intros; (try unfold ab_r); omega) (p6 : (s_ (127 + c)) = (1 : Int) → (0 ≤ (3 + ((((2 * t0) + (s_ (63 + c))) - 1) - p)) ∧ (3 + ((((2 * t0) + (s_ (63 + c))) - 1) - p)) < 255) := by intros; (try unfold ab_r); omega) (p7 : (s_ (127 + c)) = (1 : Int) → (0 ≤ (191 + c) ∧ (191 + c) < 255) := by intros; (try unfold ab_r); omega) : ab_R E_X3_valueAt P_X3_valueAt Q 11 [some (.inr (.inl (some 0))), some (.inl p), some (.inl c), none, none] [.inl t0] (md_cs s_ z_ g_) :=
  ab_R.steps [5, 11] 40 (show ((0 ≤ (127 + c) ∧ (127 + c) < 255) ∧ ((ab_r (s_ (127 + c)) ∧ ab_r 1) ∧ ((¬ (s_ (127 + c)) = (1 : Int) → ((0 ≤ (3 + p) ∧ (3 + p) < 255) ∧ ((0 ≤ (191 + c) ∧ (191 + c) < 255) ∧ Q (some (.inl ((s_ (3 + p)) + (s_ (191 + c))))) (md_cs s_ z_ g_)))) ∧ ((s_ (127 + c)) = (1 : Int) → ((0 ≤ (63 + c) ∧ (63 + c) < 255) ∧ ((0 ≤ (3 + ((((2 * t0) + (s_ (63 + c))) - 1) - p)) ∧ (3 + ((((2 * t0) + (s_ (63 + c))) - 1) - p)) < 255) ∧ ((0 ≤ (191 + c) ∧ (191 + c) < 255) ∧ Q (some (.inl ((s_ (3 + ((((2 * t0) + (s_ (63 + c))) - 1) - p))) + (s_ (191 + c))))) (md_cs s_ z_ g_)))))))) from ⟨p1, ⟨p2, ⟨fun h1 => ⟨(p3 h1), ⟨(p4 h1), (l1 h1)⟩⟩, fun h2 => ⟨(p5 h2), ⟨(p6 h2), ⟨(p7 h2), (l2 h2)⟩⟩⟩⟩⟩⟩)
-- ===== RootChunksModel.carries
def P_X3_carries : List ab_I := [(0, .aload_n 0, 1, []), (1, .getfield 7, 4, []), (4, .bipush 127, 6, []), (6, .iload_n 1, 7, []), (7, .iadd, 8, []), (8, .iaload, 9, []), (9, .ifCond .ne 17, 12, [((0 : Int), 26)]), (12, .aload_n 0, 13, []), (13, .getfield 7, 16, []), (16, .sipush 191, 19, []), (19, .iload_n 1, 20, []), (20, .iadd, 21, []), (21, .iaload, 22, []), (22, .ifCond .ne 4, 25, [((0 : Int), 26)]), (25, .return_, 26, []), (26, .aload_n 0, 27, []), (27, .iload_n 1, 28, []), (28, .invokevirtual 58, 31, []), (31, .istore_n 2, 32, []), (32, .aload_n 0, 33, []), (33, .getfield 7, 36, []), (36, .bipush 63, 38, []), (38, .iload_n 1, 39, []), (39, .iadd, 40, []), (40, .iaload, 41, []), (41, .istore_n 3, 42, []), (42, .iconst 0, 43, []), (43, .istore 4, 45, []), (45, .iload 4, 47, []), (47, .iload_n 3, 48, []), (48, .if_icmp .ge 24, 51, [((0 : Int), 72)]), (51, .aload_n 0, 52, []), (52, .getfield 32, 55, []), (55, .iload 4, 57, []), (57, .aload_n 0, 58, []), (58, .iload_n 2, 59, []), (59, .iload 4, 61, []), (61, .iadd, 62, []), (62, .invokevirtual 61, 65, []), (65, .iastore, 66, []), (66, .iinc 4 1, 69, []), (69, .goto (-24), 72, [((0 : Int), 45)]), (72, .iconst 0, 73, []), (73, .istore 4, 75, []), (75, .iload 4, 77, []), (77, .iload_n 3, 78, []), (78, .if_icmp .ge 27, 81, [((0 : Int), 105)]), (81, .aload_n 0, 82, []), (82, .getfield 7, 85, []), (85, .iconst 3, 86, []), (86, .iload_n 2, 87, []), (87, .iadd, 88, []), (88, .iload 4, 90, []), (90, .iadd, 91, []), (91, .aload_n 0, 92, []), (92, .getfield 32, 95, []), (95, .iload 4, 97, []), (97, .iaload, 98, []), (98, .iastore, 99, []), (99, .iinc 4 1, 102, []), (102, .goto (-27), 105, [((0 : Int), 75)]), (105, .aload_n 0, 106, []), (106, .getfield 7, 109, []), (109, .bipush 127, 111, []), (111, .iload_n 1, 112, []), (112, .iadd, 113, []), (113, .iconst 0, 114, []), (114, .iastore, 115, []), (115, .aload_n 0, 116, []), (116, .getfield 7, 119, []), (119, .sipush 191, 122, []), (122, .iload_n 1, 123, []), (123, .iadd, 124, []), (124, .iconst 0, 125, []), (125, .iastore, 126, []), (126, .aload_n 0, 127, []), (127, .getfield 7, 130, []), (130, .iconst 2, 131, []), (131, .dup2, 132, []), (132, .iaload, 133, []), (133, .iload_n 3, 134, []), (134, .iadd, 135, []), (135, .iastore, 136, []), (136, .return_, 137, [])]
def E_X3_carries : ab_E := (T_X3, [(28, (2, 3, [], 0, sp_X3_startOf)), (62, (2, 3, [], 0, sp_X3_valueAt))], [], 9)
def M_X3_carries : List (Nat × ab_MI) := [(28, mi_X3_startOf), (62, mi_X3_valueAt)]
def mi_X3_carries : ab_MI := (yX3_carries, cX3_carries, 5, ab_rty 9, 3, 117)
theorem pk_X3_carries : P_X3_carries.all (ab_okI cX3_carries) = true := by decide +kernel
theorem ck_X3_carries : P_X3_carries.all (ab_okC1 "RootChunksModel" M_X3_carries E_X3_carries (3, 117)) = true := by decide +kernel
set_option maxRecDepth 100000 in
theorem b_X3_carries_0 {Q : ab_Q} {c : Int} {s_ : Int → Int} {z_od : Int → Int} {z_nk : Int → Int} {z_nl : Int → Int} {z_nt : Int → Int} {z_ns : Int → Int} {g_ : mg_T} (l1 : ¬ (s_ (127 + c)) = (0 : Int) → sp_X3_startOf [.inr (.inl (some 0)), .inl c] (md_cs s_ (z_od, z_nk, z_nl, z_nt, z_ns) g_) (fun r_ k_ => ∃ (x_ : Int), r_ = some (.inl x_) ∧ k_ = (md_cs s_ (z_od, z_nk, z_nl, z_nt, z_ns) g_) ∧ ab_R E_X3_carries P_X3_carries Q 31 [some (.inr (.inl (some 0))), some (.inl c), none, none, none] [.inl x_] (md_cs s_ (z_od, z_nk, z_nl, z_nt, z_ns) g_))) (l2 : (s_ (127 + c)) = (0 : Int) → ¬ (s_ (191 + c)) = (0 : Int) → sp_X3_startOf [.inr (.inl (some 0)), .inl c] (md_cs s_ (z_od, z_nk, z_nl, z_nt, z_ns) g_) (fun r_ k_ => ∃ (x_ : Int), r_ = some (.inl x_) ∧ k_ = (md_cs s_ (z_od, z_nk, z_nl, z_nt, z_ns) g_) ∧ ab_R E_X3_carries P_X3_carries Q 31 [some (.inr (.inl (some 0))), some (.inl c), none, none, none] [.inl x_] (md_cs s_ (z_od, z_nk, z_nl, z_nt, z_ns) g_))) (l3 : (s_ (127 + c)) = (0 : Int) → (s_ (191 + c)) = (0 : Int) → Q none (md_cs s_ (z_od, z_nk, z_nl, z_nt, z_ns) g_)) (p1 : (0 ≤ (127 + c) ∧ (127 + c) < 255) := by intros; (try unfold ab_r); omega) (p2 : ab_r (s_ (127 + c)) := by intros; (try unfold ab_r); omega) (p3 : (s_ (127 + c)) = (0 : Int) → (0 ≤ (191 + c) ∧ (191 + c) < 255) := by intros; (try unfold ab_r); omega) (p4 : (s_ (127 + c)) = (0 : Int) → ab_r (s_ (191 + c)) := by intros; (try unfold ab_r); omega) : ab_R E_X3_carries P_X3_carries Q 0 [some (.inr (.inl (some 0))), some (.inl c), none, none, none] [] (md_cs s_ (z_od, z_nk, z_nl, z_nt, z_ns) g_) :=
  ab_R.steps [31, 45, 65, 75] 18 (show ((0 ≤ (127 + c) ∧ (127 + c) < 255) ∧ (ab_r (s_ (127 + c)) ∧ ((¬ (s_ (127 + c)) = (0 : Int) → ab_cl sp_X3_startOf [.inr (.inl (some 0)), .inl c] (md_cs s_ (z_od, z_nk, z_nl, z_nt, z_ns) g_) (fun r_ k_ => k_.length = ((md_cs s_ (z_od, z_nk, z_nl, z_nt, z_ns) g_)).length → ab_R E_X3_carries P_X3_carries Q 31 [some (.inr (.inl (some 0))), some (.inl c), none, none, none] (ab_ret r_ []) k_)) ∧ ((s_ (127 + c)) = (0 : Int) → ((0 ≤ (191 + c) ∧ (191 + c) < 255) ∧ (ab_r (s_ (191 + c)) ∧ ((¬ (s_ (191 + c)) = (0 : Int) → ab_cl sp_X3_startOf [.inr (.inl (some 0)), .inl c] (md_cs s_ (z_od, z_nk, z_nl, z_nt, z_ns) g_) (fun r_ k_ => k_.length = ((md_cs s_ (z_od, z_nk, z_nl, z_nt, z_ns) g_)).length → ab_R E_X3_carries P_X3_carries Q 31 [some (.inr (.inl (some 0))), some (.inl c), none, none, none] (ab_ret r_ []) k_)) ∧ ((s_ (191 + c)) = (0 : Int) → Q none (md_cs s_ (z_od, z_nk, z_nl, z_nt, z_ns) g_))))))))) from ⟨p1, ⟨p2, ⟨fun h1 => ⟨_, (l1 h1), fun r_ k_ hz _ => by obtain ⟨x_, rfl, rfl, hR⟩ := hz; exact hR⟩, fun h2 => ⟨(p3 h2), ⟨(p4 h2), ⟨fun h3 => ⟨_, (l2 h2 h3), fun r_ k_ hz _ => by obtain ⟨x_, rfl, rfl, hR⟩ := hz; exact hR⟩, fun h4 => (l3 h2 h4)⟩⟩⟩⟩⟩⟩)
set_option maxRecDepth 100000 in
theorem b_X3_carries_31 {Q : ab_Q} {c : Int} {t0 : Int} {s_ : Int → Int} {z_od : Int → Int} {z_nk : Int → Int} {z_nl : Int → Int} {z_nt : Int → Int} {z_ns : Int → Int} {g_ : mg_T} (l1 : ab_R E_X3_carries P_X3_carries Q 45 [some (.inr (.inl (some 0))), some (.inl c), some (.inl t0), some (.inl (s_ (63 + c))), some (.inl 0)] [] (md_cs s_ (z_od, z_nk, z_nl, z_nt, z_ns) g_)) (p1 : (0 ≤ (63 + c) ∧ (63 + c) < 255) := by intros; (try unfold ab_r); omega) : ab_R E_X3_carries P_X3_carries Q 31 [some (.inr (.inl (some 0))), some (.inl c), none, none, none] [.inl t0] (md_cs s_ (z_od, z_nk, z_nl, z_nt, z_ns) g_) :=
  ab_R.steps [31, 45, 65, 75] 12 (show ((0 ≤ (63 + c) ∧ (63 + c) < 255) ∧ ab_R E_X3_carries P_X3_carries Q 45 [some (.inr (.inl (some 0))), some (.inl c), some (.inl t0), some (.inl (s_ (63 + c))), some (.inl 0)] [] (md_cs s_ (z_od, z_nk, z_nl, z_nt, z_ns) g_)) from ⟨p1, l1⟩)
set_option maxRecDepth 100000 in
theorem b_X3_carries_45 {Q : ab_Q} {c : Int} {st : Int} {n : Int} {k : Int} {s_ : Int → Int} {z_od : Int → Int} {z_nk : Int → Int} {z_nl : Int → Int} {z_nt : Int → Int} {z_ns : Int → Int} {g_ : mg_T} (l1 : n ≤ k → ab_R E_X3_carries P_X3_carries Q 75 [some (.inr (.inl (some 0))), some (.inl c), some (.inl st), some (.inl n), some (.inl 0)] [] (md_cs s_ (z_od, z_nk, z_nl, z_nt, z_ns) g_)) (l2 : k < n → sp_X3_valueAt [.inr (.inl (some 0)), .inl (st + k)] (md_cs s_ (z_od, z_nk, z_nl, z_nt, z_ns) g_) (fun r_ k_ => ∃ (x_ : Int), r_ = some (.inl x_) ∧ k_ = (md_cs s_ (z_od, z_nk, z_nl, z_nt, z_ns) g_) ∧ ab_R E_X3_carries P_X3_carries Q 65 [some (.inr (.inl (some 0))), some (.inl c), some (.inl st), some (.inl n), some (.inl k)] [.inl x_, .inl k, .inr (.inl (some 8))] (md_cs s_ (z_od, z_nk, z_nl, z_nt, z_ns) g_))) (p1 : (ab_r k ∧ ab_r n) := by intros; (try unfold ab_r); omega) : ab_R E_X3_carries P_X3_carries Q 45 [some (.inr (.inl (some 0))), some (.inl c), some (.inl st), some (.inl n), some (.inl k)] [] (md_cs s_ (z_od, z_nk, z_nl, z_nt, z_ns) g_) :=
  ab_R.steps [31, 45, 65, 75] 12 (show ((ab_r k ∧ ab_r n) ∧ ((n ≤ k → ab_R E_X3_carries P_X3_carries Q 75 [some (.inr (.inl (some 0))), some (.inl c), some (.inl st), some (.inl n), some (.inl 0)] [] (md_cs s_ (z_od, z_nk, z_nl, z_nt, z_ns) g_)) ∧ (k < n → ab_cl sp_X3_valueAt [.inr (.inl (some 0)), .inl (st + k)] (md_cs s_ (z_od, z_nk, z_nl, z_nt, z_ns) g_) (fun r_ k_ => k_.length = ((md_cs s_ (z_od, z_nk, z_nl, z_nt, z_ns) g_)).length → ab_R E_X3_carries P_X3_carries Q 65 [some (.inr (.inl (some 0))), some (.inl c), some (.inl st), some (.inl n), some (.inl k)] (ab_ret r_ [.inl k, .inr (.inl (some 8))]) k_)))) from ⟨p1, ⟨fun h1 => (l1 h1), fun h2 => ⟨_, (l2 h2), fun r_ k_ hz _ => by obtain ⟨x_, rfl, rfl, hR⟩ := hz; exact hR⟩⟩⟩)
set_option maxRecDepth 100000 in
theorem b_X3_carries_65 {Q : ab_Q} {c : Int} {st : Int} {n : Int} {k : Int} {t0 : Int} {t1 : Int} {s_ : Int → Int} {z_od : Int → Int} {z_nk : Int → Int} {z_nl : Int → Int} {z_nt : Int → Int} {z_ns : Int → Int} {g_ : mg_T} (l1 : ab_R E_X3_carries P_X3_carries Q 45 [some (.inr (.inl (some 0))), some (.inl c), some (.inl st), some (.inl n), some (.inl (k + 1))] [] (md_cs s_ (z_od, (ab_up z_nk t1 t0), z_nl, z_nt, z_ns) g_)) (p1 : (0 ≤ t1 ∧ t1 < 64) := by intros; (try unfold ab_r); omega) : ab_R E_X3_carries P_X3_carries Q 65 [some (.inr (.inl (some 0))), some (.inl c), some (.inl st), some (.inl n), some (.inl k)] [.inl t0, .inl t1, .inr (.inl (some 8))] (md_cs s_ (z_od, z_nk, z_nl, z_nt, z_ns) g_) :=
  ab_R.steps [31, 45, 65, 75] 5 (show ((0 ≤ t1 ∧ t1 < 64) ∧ ab_R E_X3_carries P_X3_carries Q 45 [some (.inr (.inl (some 0))), some (.inl c), some (.inl st), some (.inl n), some (.inl (k + 1))] [] (md_cs s_ (z_od, (ab_up z_nk t1 t0), z_nl, z_nt, z_ns) g_)) from ⟨p1, l1⟩)
set_option maxRecDepth 100000 in
theorem b_X3_carries_75 {Q : ab_Q} {c : Int} {st : Int} {n : Int} {k : Int} {s_ : Int → Int} {z_od : Int → Int} {z_nk : Int → Int} {z_nl : Int → Int} {z_nt : Int → Int} {z_ns : Int → Int} {g_ : mg_T} (l1 : n ≤ k → Q none (md_cs ((ab_up (ab_up (ab_up s_ (127 + c) 0) (191 + c) 0) 2 (((ab_up (ab_up s_ (127 + c) 0) (191 + c) 0) 2) + n))) (z_od, z_nk, z_nl, z_nt, z_ns) g_)) (l2 : k < n → ab_R E_X3_carries P_X3_carries Q 75 [some (.inr (.inl (some 0))), some (.inl c), some (.inl st), some (.inl n), some (.inl (k + 1))] [] (md_cs ((ab_up s_ ((3 + st) + k) (z_nk k))) (z_od, z_nk, z_nl, z_nt, z_ns) g_)) (p1 : (ab_r k ∧ ab_r n) := by intros; (try unfold ab_r); omega) (p2 : n ≤ k → (0 ≤ (127 + c) ∧ (127 + c) < 255) := by intros; (try unfold ab_r); omega) (p3 : n ≤ k → (0 ≤ (191 + c) ∧ (191 + c) < 255) := by intros; (try unfold ab_r); omega) (p4 : n ≤ k → (0 ≤ (2 : Int) ∧ (2 : Int) < 255) := by intros; (try unfold ab_r); omega) (p5 : k < n → (0 ≤ k ∧ k < 64) := by intros; (try unfold ab_r); omega) (p6 : k < n → (0 ≤ ((3 + st) + k) ∧ ((3 + st) + k) < 255) := by intros; (try unfold ab_r); omega) : ab_R E_X3_carries P_X3_carries Q 75 [some (.inr (.inl (some 0))), some (.inl c), some (.inl st), some (.inl n), some (.inl k)] [] (md_cs s_ (z_od, z_nk, z_nl, z_nt, z_ns) g_) :=
  ab_R.steps [31, 45, 65, 75] 27 (show ((ab_r k ∧ ab_r n) ∧ ((n ≤ k → ((0 ≤ (127 + c) ∧ (127 + c) < 255) ∧ ((0 ≤ (191 + c) ∧ (191 + c) < 255) ∧ ((0 ≤ (2 : Int) ∧ (2 : Int) < 255) ∧ ((0 ≤ (2 : Int) ∧ (2 : Int) < 255) ∧ Q none (md_cs ((ab_up (ab_up (ab_up s_ (127 + c) 0) (191 + c) 0) 2 (((ab_up (ab_up s_ (127 + c) 0) (191 + c) 0) 2) + n))) (z_od, z_nk, z_nl, z_nt, z_ns) g_)))))) ∧ (k < n → ((0 ≤ k ∧ k < 64) ∧ ((0 ≤ ((3 + st) + k) ∧ ((3 + st) + k) < 255) ∧ ab_R E_X3_carries P_X3_carries Q 75 [some (.inr (.inl (some 0))), some (.inl c), some (.inl st), some (.inl n), some (.inl (k + 1))] [] (md_cs ((ab_up s_ ((3 + st) + k) (z_nk k))) (z_od, z_nk, z_nl, z_nt, z_ns) g_)))))) from ⟨p1, ⟨fun h1 => ⟨(p2 h1), ⟨(p3 h1), ⟨(p4 h1), ⟨(p4 h1), (l1 h1)⟩⟩⟩⟩, fun h2 => ⟨(p5 h2), ⟨(p6 h2), (l2 h2)⟩⟩⟩⟩)
-- ===== RootChunksModel.parts
def P_X3_parts : List ab_I := [(0, .aload_n 0, 1, []), (1, .getfield 7, 4, []), (4, .iconst 1, 5, []), (5, .iaload, 6, []), (6, .istore_n 3, 7, []), (7, .iload_n 3, 8, []), (8, .iload_n 1, 9, []), (9, .iconst 1, 10, []), (10, .iadd, 11, []), (11, .if_icmp .le 71, 14, [((0 : Int), 82)]), (14, .aload_n 0, 15, []), (15, .getfield 7, 18, []), (18, .bipush 63, 20, []), (20, .iload_n 3, 21, []), (21, .iadd, 22, []), (22, .aload_n 0, 23, []), (23, .getfield 7, 26, []), (26, .bipush 63, 28, []), (28, .iload_n 3, 29, []), (29, .iadd, 30, []), (30, .iconst 1, 31, []), (31, .isub, 32, []), (32, .iaload, 33, []), (33, .iastore, 34, []), (34, .aload_n 0, 35, []), (35, .getfield 7, 38, []), (38, .bipush 127, 40, []), (40, .iload_n 3, 41, []), (41, .iadd, 42, []), (42, .aload_n 0, 43, []), (43, .getfield 7, 46, []), (46, .bipush 127, 48, []), (48, .iload_n 3, 49, []), (49, .iadd, 50, []), (50, .iconst 1, 51, []), (51, .isub, 52, []), (52, .iaload, 53, []), (53, .iastore, 54, []), (54, .aload_n 0, 55, []), (55, .getfield 7, 58, []), (58, .sipush 191, 61, []), (61, .iload_n 3, 62, []), (62, .iadd, 63, []), (63, .aload_n 0, 64, []), (64, .getfield 7, 67, []), (67, .sipush 191, 70, []), (70, .iload_n 3, 71, []), (71, .iadd, 72, []), (72, .iconst 1, 73, []), (73, .isub, 74, []), (74, .iaload, 75, []), (75, .iastore, 76, []), (76, .iinc 3 (-1), 79, []), (79, .goto (-72), 82, [((0 : Int), 7)]), (82, .aload_n 0, 83, []), (83, .getfield 7, 86, []), (86, .bipush 63, 88, []), (88, .iload_n 1, 89, []), (89, .iadd, 90, []), (90, .iconst 1, 91, []), (91, .iadd, 92, []), (92, .aload_n 0, 93, []), (93, .getfield 7, 96, []), (96, .bipush 63, 98, []), (98, .iload_n 1, 99, []), (99, .iadd, 100, []), (100, .iaload, 101, []), (101, .iload_n 2, 102, []), (102, .isub, 103, []), (103, .iastore, 104, []), (104, .aload_n 0, 105, []), (105, .getfield 7, 108, []), (108, .bipush 63, 110, []), (110, .iload_n 1, 111, []), (111, .iadd, 112, []), (112, .iload_n 2, 113, []), (113, .iastore, 114, []), (114, .aload_n 0, 115, []), (115, .getfield 7, 118, []), (118, .bipush 127, 120, []), (120, .iload_n 1, 121, []), (121, .iadd, 122, []), (122, .iconst 1, 123, []), (123, .iadd, 124, []), (124, .iconst 0, 125, []), (125, .iastore, 126, []), (126, .aload_n 0, 127, []), (127, .getfield 7, 130, []), (130, .sipush 191, 133, []), (133, .iload_n 1, 134, []), (134, .iadd, 135, []), (135, .iconst 1, 136, []), (136, .iadd, 137, []), (137, .iconst 0, 138, []), (138, .iastore, 139, []), (139, .aload_n 0, 140, []), (140, .getfield 7, 143, []), (143, .iconst 1, 144, []), (144, .dup2, 145, []), (145, .iaload, 146, []), (146, .iconst 1, 147, []), (147, .iadd, 148, []), (148, .iastore, 149, []), (149, .aload_n 0, 150, []), (150, .getfield 7, 153, []), (153, .iconst 2, 154, []), (154, .dup2, 155, []), (155, .iaload, 156, []), (156, .aload_n 0, 157, []), (157, .getfield 7, 160, []), (160, .bipush 63, 162, []), (162, .iload_n 1, 163, []), (163, .iadd, 164, []), (164, .iconst 1, 165, []), (165, .iadd, 166, []), (166, .iaload, 167, []), (167, .iadd, 168, []), (168, .iastore, 169, []), (169, .return_, 170, [])]
def E_X3_parts : ab_E := (T_X3, [], [], 9)
def M_X3_parts : List (Nat × ab_MI) := []
def mi_X3_parts : ab_MI := (yX3_parts, cX3_parts, 4, ab_rty 9, 1, 70)
theorem pk_X3_parts : P_X3_parts.all (ab_okI cX3_parts) = true := by decide +kernel
theorem ck_X3_parts : P_X3_parts.all (ab_okC1 "RootChunksModel" M_X3_parts E_X3_parts (1, 70)) = true := by decide +kernel
set_option maxRecDepth 100000 in
theorem b_X3_parts_0 {Q : ab_Q} {c : Int} {fi : Int} {s_ : Int → Int} {z_ : mc_T} {g_ : mg_T} (l1 : ab_R E_X3_parts P_X3_parts Q 7 [some (.inr (.inl (some 0))), some (.inl c), some (.inl fi), some (.inl (s_ 1))] [] (md_cs s_ z_ g_)) (p1 : (0 ≤ (1 : Int) ∧ (1 : Int) < 255) := by intros; (try unfold ab_r); omega) : ab_R E_X3_parts P_X3_parts Q 0 [some (.inr (.inl (some 0))), some (.inl c), some (.inl fi), none] [] (md_cs s_ z_ g_) :=
  ab_R.steps [7] 7 (show ((0 ≤ (1 : Int) ∧ (1 : Int) < 255) ∧ ab_R E_X3_parts P_X3_parts Q 7 [some (.inr (.inl (some 0))), some (.inl c), some (.inl fi), some (.inl (s_ 1))] [] (md_cs s_ z_ g_)) from ⟨p1, l1⟩)
set_option maxRecDepth 100000 in
theorem b_X3_parts_7 {Q : ab_Q} {c : Int} {fi : Int} {k : Int} {s_ : Int → Int} {z_ : mc_T} {g_ : mg_T} (l1 : k ≤ (c + 1) → Q none (md_cs ((ab_up (ab_up (ab_up (ab_up (ab_up (ab_up s_ ((63 + c) + 1) ((s_ (63 + c)) - fi)) (63 + c) fi) ((127 + c) + 1) 0) ((191 + c) + 1) 0) 1 (((ab_up (ab_up (ab_up (ab_up s_ ((63 + c) + 1) ((s_ (63 + c)) - fi)) (63 + c) fi) ((127 + c) + 1) 0) ((191 + c) + 1) 0) 1) + 1)) 2 (((ab_up (ab_up (ab_up (ab_up (ab_up s_ ((63 + c) + 1) ((s_ (63 + c)) - fi)) (63 + c) fi) ((127 + c) + 1) 0) ((191 + c) + 1) 0) 1 (((ab_up (ab_up (ab_up (ab_up s_ ((63 + c) + 1) ((s_ (63 + c)) - fi)) (63 + c) fi) ((127 + c) + 1) 0) ((191 + c) + 1) 0) 1) + 1)) 2) + ((ab_up (ab_up (ab_up (ab_up (ab_up s_ ((63 + c) + 1) ((s_ (63 + c)) - fi)) (63 + c) fi) ((127 + c) + 1) 0) ((191 + c) + 1) 0) 1 (((ab_up (ab_up (ab_up (ab_up s_ ((63 + c) + 1) ((s_ (63 + c)) - fi)) (63 + c) fi) ((127 + c) + 1) 0) ((191 + c) + 1) 0) 1) + 1)) ((63 + c) + 1))))) z_ g_)) (l2 : (c + 1) < k → ab_R E_X3_parts P_X3_parts Q 7 [some (.inr (.inl (some 0))), some (.inl c), some (.inl fi), some (.inl (k + (-1)))] [] (md_cs ((ab_up (ab_up (ab_up s_ (63 + k) (s_ ((63 + k) - 1))) (127 + k) ((ab_up s_ (63 + k) (s_ ((63 + k) - 1))) ((127 + k) - 1))) (191 + k) ((ab_up (ab_up s_ (63 + k) (s_ ((63 + k) - 1))) (127 + k) ((ab_up s_ (63 + k) (s_ ((63 + k) - 1))) ((127 + k) - 1))) ((191 + k) - 1)))) z_ g_)) (p1 : (ab_r k ∧ ab_r (c + 1)) := by intros; (try unfold ab_r); omega) (p2 : k ≤ (c + 1) → (0 ≤ (63 + c) ∧ (63 + c) < 255) := by intros; (try unfold ab_r); omega) (p3 : k ≤ (c + 1) → (0 ≤ ((63 + c) + 1) ∧ ((63 + c) + 1) < 255) := by intros; (try unfold ab_r); omega) (p4 : k ≤ (c + 1) → (0 ≤ ((127 + c) + 1) ∧ ((127 + c) + 1) < 255) := by intros; (try unfold ab_r); omega) (p5 : k ≤ (c + 1) → (0 ≤ ((191 + c) + 1) ∧ ((191 + c) + 1) < 255) := by intros; (try unfold ab_r); omega) (p6 : k ≤ (c + 1) → (0 ≤ (1 : Int) ∧ (1 : Int) < 255) := by intros; (try unfold ab_r); omega) (p7 : k ≤ (c + 1) → (0 ≤ (2 : Int) ∧ (2 : Int) < 255) := by intros; (try unfold ab_r); omega) (p8 : (c + 1) < k → (0 ≤ ((63 + k) - 1) ∧ ((63 + k) - 1) < 255) := by intros; (try unfold ab_r); omega) (p9 : (c + 1) < k → (0 ≤ (63 + k) ∧ (63 + k) < 255) := by intros; (try unfold ab_r); omega) (p10 : (c + 1) < k → (0 ≤ ((127 + k) - 1) ∧ ((127 + k) - 1) < 255) := by intros; (try unfold ab_r); omega) (p11 : (c + 1) < k → (0 ≤ (127 + k) ∧ (127 + k) < 255) := by intros; (try unfold ab_r); omega) (p12 : (c + 1) < k → (0 ≤ ((191 + k) - 1) ∧ ((191 + k) - 1) < 255) := by intros; (try unfold ab_r); omega) (p13 : (c + 1) < k → (0 ≤ (191 + k) ∧ (191 + k) < 255) := by intros; (try unfold ab_r); omega) : ab_R E_X3_parts P_X3_parts Q 7 [some (.inr (.inl (some 0))), some (.inl c), some (.inl fi), some (.inl k)] [] (md_cs s_ z_ g_) :=
  ab_R.steps [7] 71 (show ((ab_r k ∧ ab_r (c + 1)) ∧ ((k ≤ (c + 1) → ((0 ≤ (63 + c) ∧ (63 + c) < 255) ∧ ((0 ≤ ((63 + c) + 1) ∧ ((63 + c) + 1) < 255) ∧ ((0 ≤ (63 + c) ∧ (63 + c) < 255) ∧ ((0 ≤ ((127 + c) + 1) ∧ ((127 + c) + 1) < 255) ∧ ((0 ≤ ((191 + c) + 1) ∧ ((191 + c) + 1) < 255) ∧ ((0 ≤ (1 : Int) ∧ (1 : Int) < 255) ∧ ((0 ≤ (1 : Int) ∧ (1 : Int) < 255) ∧ ((0 ≤ (2 : Int) ∧ (2 : Int) < 255) ∧ ((0 ≤ ((63 + c) + 1) ∧ ((63 + c) + 1) < 255) ∧ ((0 ≤ (2 : Int) ∧ (2 : Int) < 255) ∧ Q none (md_cs ((ab_up (ab_up (ab_up (ab_up (ab_up (ab_up s_ ((63 + c) + 1) ((s_ (63 + c)) - fi)) (63 + c) fi) ((127 + c) + 1) 0) ((191 + c) + 1) 0) 1 (((ab_up (ab_up (ab_up (ab_up s_ ((63 + c) + 1) ((s_ (63 + c)) - fi)) (63 + c) fi) ((127 + c) + 1) 0) ((191 + c) + 1) 0) 1) + 1)) 2 (((ab_up (ab_up (ab_up (ab_up (ab_up s_ ((63 + c) + 1) ((s_ (63 + c)) - fi)) (63 + c) fi) ((127 + c) + 1) 0) ((191 + c) + 1) 0) 1 (((ab_up (ab_up (ab_up (ab_up s_ ((63 + c) + 1) ((s_ (63 + c)) - fi)) (63 + c) fi) ((127 + c) + 1) 0) ((191 + c) + 1) 0) 1) + 1)) 2) + ((ab_up (ab_up (ab_up (ab_up (ab_up s_ ((63 + c) + 1) ((s_ (63 + c)) - fi)) (63 + c) fi) ((127 + c) + 1) 0) ((191 + c) + 1) 0) 1 (((ab_up (ab_up (ab_up (ab_up s_ ((63 + c) + 1) ((s_ (63 + c)) - fi)) (63 + c) fi) ((127 + c) + 1) 0) ((191 + c) + 1) 0) 1) + 1)) ((63 + c) + 1))))) z_ g_)))))))))))) ∧ ((c + 1) < k → ((0 ≤ ((63 + k) - 1) ∧ ((63 + k) - 1) < 255) ∧ ((0 ≤ (63 + k) ∧ (63 + k) < 255) ∧ ((0 ≤ ((127 + k) - 1) ∧ ((127 + k) - 1) < 255) ∧ ((0 ≤ (127 + k) ∧ (127 + k) < 255) ∧ ((0 ≤ ((191 + k) - 1) ∧ ((191 + k) - 1) < 255) ∧ ((0 ≤ (191 + k) ∧ (191 + k) < 255) ∧ ab_R E_X3_parts P_X3_parts Q 7 [some (.inr (.inl (some 0))), some (.inl c), some (.inl fi), some (.inl (k + (-1)))] [] (md_cs ((ab_up (ab_up (ab_up s_ (63 + k) (s_ ((63 + k) - 1))) (127 + k) ((ab_up s_ (63 + k) (s_ ((63 + k) - 1))) ((127 + k) - 1))) (191 + k) ((ab_up (ab_up s_ (63 + k) (s_ ((63 + k) - 1))) (127 + k) ((ab_up s_ (63 + k) (s_ ((63 + k) - 1))) ((127 + k) - 1))) ((191 + k) - 1)))) z_ g_)))))))))) from ⟨p1, ⟨fun h1 => ⟨(p2 h1), ⟨(p3 h1), ⟨(p2 h1), ⟨(p4 h1), ⟨(p5 h1), ⟨(p6 h1), ⟨(p6 h1), ⟨(p7 h1), ⟨(p3 h1), ⟨(p7 h1), (l1 h1)⟩⟩⟩⟩⟩⟩⟩⟩⟩⟩, fun h2 => ⟨(p8 h2), ⟨(p9 h2), ⟨(p10 h2), ⟨(p11 h2), ⟨(p12 h2), ⟨(p13 h2), (l2 h2)⟩⟩⟩⟩⟩⟩⟩⟩)
-- ===== RootChunksModel.closes
def P_X3_closes : List ab_I := [(0, .iload_n 1, 1, []), (1, .istore_n 2, 2, []), (2, .iload_n 2, 3, []), (3, .aload_n 0, 4, []), (4, .getfield 7, 7, []), (7, .iconst 1, 8, []), (8, .iaload, 9, []), (9, .iconst 1, 10, []), (10, .isub, 11, []), (11, .if_icmp .ge 71, 14, [((0 : Int), 82)]), (14, .aload_n 0, 15, []), (15, .getfield 7, 18, []), (18, .bipush 63, 20, []), (20, .iload_n 2, 21, []), (21, .iadd, 22, []), (22, .aload_n 0, 23, []), (23, .getfield 7, 26, []), (26, .bipush 63, 28, []), (28, .iload_n 2, 29, []), (29, .iadd, 30, []), (30, .iconst 1, 31, []), (31, .iadd, 32, []), (32, .iaload, 33, []), (33, .iastore, 34, []), (34, .aload_n 0, 35, []), (35, .getfield 7, 38, []), (38, .bipush 127, 40, []), (40, .iload_n 2, 41, []), (41, .iadd, 42, []), (42, .aload_n 0, 43, []), (43, .getfield 7, 46, []), (46, .bipush 127, 48, []), (48, .iload_n 2, 49, []), (49, .iadd, 50, []), (50, .iconst 1, 51, []), (51, .iadd, 52, []), (52, .iaload, 53, []), (53, .iastore, 54, []), (54, .aload_n 0, 55, []), (55, .getfield 7, 58, []), (58, .sipush 191, 61, []), (61, .iload_n 2, 62, []), (62, .iadd, 63, []), (63, .aload_n 0, 64, []), (64, .getfield 7, 67, []), (67, .sipush 191, 70, []), (70, .iload_n 2, 71, []), (71, .iadd, 72, []), (72, .iconst 1, 73, []), (73, .iadd, 74, []), (74, .iaload, 75, []), (75, .iastore, 76, []), (76, .iinc 2 1, 79, []), (79, .goto (-77), 82, [((0 : Int), 2)]), (82, .aload_n 0, 83, []), (83, .getfield 7, 86, []), (86, .iconst 1, 87, []), (87, .dup2, 88, []), (88, .iaload, 89, []), (89, .iconst 1, 90, []), (90, .isub, 91, []), (91, .iastore, 92, []), (92, .aload_n 0, 93, []), (93, .getfield 7, 96, []), (96, .bipush 63, 98, []), (98, .aload_n 0, 99, []), (99, .getfield 7, 102, []), (102, .iconst 1, 103, []), (103, .iaload, 104, []), (104, .iadd, 105, []), (105, .iconst 0, 106, []), (106, .iastore, 107, []), (107, .aload_n 0, 108, []), (108, .getfield 7, 111, []), (111, .bipush 127, 113, []), (113, .aload_n 0, 114, []), (114, .getfield 7, 117, []), (117, .iconst 1, 118, []), (118, .iaload, 119, []), (119, .iadd, 120, []), (120, .iconst 0, 121, []), (121, .iastore, 122, []), (122, .aload_n 0, 123, []), (123, .getfield 7, 126, []), (126, .sipush 191, 129, []), (129, .aload_n 0, 130, []), (130, .getfield 7, 133, []), (133, .iconst 1, 134, []), (134, .iaload, 135, []), (135, .iadd, 136, []), (136, .iconst 0, 137, []), (137, .iastore, 138, []), (138, .return_, 139, [])]
def E_X3_closes : ab_E := (T_X3, [], [], 9)
def M_X3_closes : List (Nat × ab_MI) := []
def mi_X3_closes : ab_MI := (yX3_closes, cX3_closes, 3, ab_rty 9, 1, 70)
theorem pk_X3_closes : P_X3_closes.all (ab_okI cX3_closes) = true := by decide +kernel
theorem ck_X3_closes : P_X3_closes.all (ab_okC1 "RootChunksModel" M_X3_closes E_X3_closes (1, 70)) = true := by decide +kernel
set_option maxRecDepth 100000 in
theorem b_X3_closes_0 {Q : ab_Q} {c : Int} {s_ : Int → Int} {z_ : mc_T} {g_ : mg_T} (l1 : ab_R E_X3_closes P_X3_closes Q 2 [some (.inr (.inl (some 0))), some (.inl c), some (.inl c)] [] (md_cs s_ z_ g_))  : ab_R E_X3_closes P_X3_closes Q 0 [some (.inr (.inl (some 0))), some (.inl c), none] [] (md_cs s_ z_ g_) :=
  ab_R.steps [2] 4 (show ab_R E_X3_closes P_X3_closes Q 2 [some (.inr (.inl (some 0))), some (.inl c), some (.inl c)] [] (md_cs s_ z_ g_) from l1)
set_option maxRecDepth 100000 in
theorem b_X3_closes_2 {Q : ab_Q} {c : Int} {k : Int} {s_ : Int → Int} {z_ : mc_T} {g_ : mg_T} (l1 : ((s_ 1) - 1) ≤ k → Q none (md_cs ((ab_up (ab_up (ab_up (ab_up s_ 1 ((s_ 1) - 1)) (63 + ((ab_up s_ 1 ((s_ 1) - 1)) 1)) 0) (127 + ((ab_up (ab_up s_ 1 ((s_ 1) - 1)) (63 + ((ab_up s_ 1 ((s_ 1) - 1)) 1)) 0) 1)) 0) (191 + ((ab_up (ab_up (ab_up s_ 1 ((s_ 1) - 1)) (63 + ((ab_up s_ 1 ((s_ 1) - 1)) 1)) 0) (127 + ((ab_up (ab_up s_ 1 ((s_ 1) - 1)) (63 + ((ab_up s_ 1 ((s_ 1) - 1)) 1)) 0) 1)) 0) 1)) 0)) z_ g_)) (l2 : k < ((s_ 1) - 1) → ab_R E_X3_closes P_X3_closes Q 2 [some (.inr (.inl (some 0))), some (.inl c), some (.inl (k + 1))] [] (md_cs ((ab_up (ab_up (ab_up s_ (63 + k) (s_ ((63 + k) + 1))) (127 + k) ((ab_up s_ (63 + k) (s_ ((63 + k) + 1))) ((127 + k) + 1))) (191 + k) ((ab_up (ab_up s_ (63 + k) (s_ ((63 + k) + 1))) (127 + k) ((ab_up s_ (63 + k) (s_ ((63 + k) + 1))) ((127 + k) + 1))) ((191 + k) + 1)))) z_ g_)) (p1 : (0 ≤ (1 : Int) ∧ (1 : Int) < 255) := by intros; (try unfold ab_r); omega) (p2 : (ab_r k ∧ ab_r ((s_ 1) - 1)) := by intros; (try unfold ab_r); omega) (p3 : ((s_ 1) - 1) ≤ k → (0 ≤ (1 : Int) ∧ (1 : Int) < 255) := by intros; (try unfold ab_r); omega) (p4 : ((s_ 1) - 1) ≤ k → (0 ≤ (63 + ((ab_up s_ 1 ((s_ 1) - 1)) 1)) ∧ (63 + ((ab_up s_ 1 ((s_ 1) - 1)) 1)) < 255) := by intros; (try unfold ab_r); omega) (p5 : ((s_ 1) - 1) ≤ k → (0 ≤ (127 + ((ab_up (ab_up s_ 1 ((s_ 1) - 1)) (63 + ((ab_up s_ 1 ((s_ 1) - 1)) 1)) 0) 1)) ∧ (127 + ((ab_up (ab_up s_ 1 ((s_ 1) - 1)) (63 + ((ab_up s_ 1 ((s_ 1) - 1)) 1)) 0) 1)) < 255) := by intros; (try unfold ab_r); omega) (p6 : ((s_ 1) - 1) ≤ k → (0 ≤ (191 + ((ab_up (ab_up (ab_up s_ 1 ((s_ 1) - 1)) (63 + ((ab_up s_ 1 ((s_ 1) - 1)) 1)) 0) (127 + ((ab_up (ab_up s_ 1 ((s_ 1) - 1)) (63 + ((ab_up s_ 1 ((s_ 1) - 1)) 1)) 0) 1)) 0) 1)) ∧ (191 + ((ab_up (ab_up (ab_up s_ 1 ((s_ 1) - 1)) (63 + ((ab_up s_ 1 ((s_ 1) - 1)) 1)) 0) (127 + ((ab_up (ab_up s_ 1 ((s_ 1) - 1)) (63 + ((ab_up s_ 1 ((s_ 1) - 1)) 1)) 0) 1)) 0) 1)) < 255) := by intros; (try unfold ab_r); omega) (p7 : k < ((s_ 1) - 1) → (0 ≤ ((63 + k) + 1) ∧ ((63 + k) + 1) < 255) := by intros; (try unfold ab_r); omega) (p8 : k < ((s_ 1) - 1) → (0 ≤ (63 + k) ∧ (63 + k) < 255) := by intros; (try unfold ab_r); omega) (p9 : k < ((s_ 1) - 1) → (0 ≤ ((127 + k) + 1) ∧ ((127 + k) + 1) < 255) := by intros; (try unfold ab_r); omega) (p10 : k < ((s_ 1) - 1) → (0 ≤ (127 + k) ∧ (127 + k) < 255) := by intros; (try unfold ab_r); omega) (p11 : k < ((s_ 1) - 1) → (0 ≤ ((191 + k) + 1) ∧ ((191 + k) + 1) < 255) := by intros; (try unfold ab_r); omega) (p12 : k < ((s_ 1) - 1) → (0 ≤ (191 + k) ∧ (191 + k) < 255) := by intros; (try unfold ab_r); omega) : ab_R E_X3_closes P_X3_closes Q 2 [some (.inr (.inl (some 0))), some (.inl c), some (.inl k)] [] (md_cs s_ z_ g_) :=
  ab_R.steps [2] 54 (show ((0 ≤ (1 : Int) ∧ (1 : Int) < 255) ∧ ((ab_r k ∧ ab_r ((s_ 1) - 1)) ∧ ((((s_ 1) - 1) ≤ k → ((0 ≤ (1 : Int) ∧ (1 : Int) < 255) ∧ ((0 ≤ (1 : Int) ∧ (1 : Int) < 255) ∧ ((0 ≤ (1 : Int) ∧ (1 : Int) < 255) ∧ ((0 ≤ (63 + ((ab_up s_ 1 ((s_ 1) - 1)) 1)) ∧ (63 + ((ab_up s_ 1 ((s_ 1) - 1)) 1)) < 255) ∧ ((0 ≤ (1 : Int) ∧ (1 : Int) < 255) ∧ ((0 ≤ (127 + ((ab_up (ab_up s_ 1 ((s_ 1) - 1)) (63 + ((ab_up s_ 1 ((s_ 1) - 1)) 1)) 0) 1)) ∧ (127 + ((ab_up (ab_up s_ 1 ((s_ 1) - 1)) (63 + ((ab_up s_ 1 ((s_ 1) - 1)) 1)) 0) 1)) < 255) ∧ ((0 ≤ (1 : Int) ∧ (1 : Int) < 255) ∧ ((0 ≤ (191 + ((ab_up (ab_up (ab_up s_ 1 ((s_ 1) - 1)) (63 + ((ab_up s_ 1 ((s_ 1) - 1)) 1)) 0) (127 + ((ab_up (ab_up s_ 1 ((s_ 1) - 1)) (63 + ((ab_up s_ 1 ((s_ 1) - 1)) 1)) 0) 1)) 0) 1)) ∧ (191 + ((ab_up (ab_up (ab_up s_ 1 ((s_ 1) - 1)) (63 + ((ab_up s_ 1 ((s_ 1) - 1)) 1)) 0) (127 + ((ab_up (ab_up s_ 1 ((s_ 1) - 1)) (63 + ((ab_up s_ 1 ((s_ 1) - 1)) 1)) 0) 1)) 0) 1)) < 255) ∧ Q none (md_cs ((ab_up (ab_up (ab_up (ab_up s_ 1 ((s_ 1) - 1)) (63 + ((ab_up s_ 1 ((s_ 1) - 1)) 1)) 0) (127 + ((ab_up (ab_up s_ 1 ((s_ 1) - 1)) (63 + ((ab_up s_ 1 ((s_ 1) - 1)) 1)) 0) 1)) 0) (191 + ((ab_up (ab_up (ab_up s_ 1 ((s_ 1) - 1)) (63 + ((ab_up s_ 1 ((s_ 1) - 1)) 1)) 0) (127 + ((ab_up (ab_up s_ 1 ((s_ 1) - 1)) (63 + ((ab_up s_ 1 ((s_ 1) - 1)) 1)) 0) 1)) 0) 1)) 0)) z_ g_)))))))))) ∧ (k < ((s_ 1) - 1) → ((0 ≤ ((63 + k) + 1) ∧ ((63 + k) + 1) < 255) ∧ ((0 ≤ (63 + k) ∧ (63 + k) < 255) ∧ ((0 ≤ ((127 + k) + 1) ∧ ((127 + k) + 1) < 255) ∧ ((0 ≤ (127 + k) ∧ (127 + k) < 255) ∧ ((0 ≤ ((191 + k) + 1) ∧ ((191 + k) + 1) < 255) ∧ ((0 ≤ (191 + k) ∧ (191 + k) < 255) ∧ ab_R E_X3_closes P_X3_closes Q 2 [some (.inr (.inl (some 0))), some (.inl c), some (.inl (k + 1))] [] (md_cs ((ab_up (ab_up (ab_up s_ (63 + k) (s_ ((63 + k) + 1))) (127 + k) ((ab_up s_ (63 + k) (s_ ((63 + k) + 1))) ((127 + k) + 1))) (191 + k) ((ab_up (ab_up s_ (63 + k) (s_ ((63 + k) + 1))) (127 + k) ((ab_up s_ (63 + k) (s_ ((63 + k) + 1))) ((127 + k) + 1))) ((191 + k) + 1)))) z_ g_))))))))))) from ⟨p1, ⟨p2, ⟨fun h1 => ⟨(p3 h1), ⟨(p3 h1), ⟨(p3 h1), ⟨(p4 h1), ⟨(p3 h1), ⟨(p5 h1), ⟨(p3 h1), ⟨(p6 h1), (l1 h1)⟩⟩⟩⟩⟩⟩⟩⟩, fun h2 => ⟨(p7 h2), ⟨(p8 h2), ⟨(p9 h2), ⟨(p10 h2), ⟨(p11 h2), ⟨(p12 h2), (l2 h2)⟩⟩⟩⟩⟩⟩⟩⟩⟩)
-- ===== RootChunksModel.cuts
def P_X3_cuts : List ab_I := [(0, .iload_n 1, 1, []), (1, .ifCond .eq 13, 4, [((0 : Int), 14)]), (4, .iload_n 1, 5, []), (5, .aload_n 0, 6, []), (6, .getfield 7, 9, []), (9, .iconst 0, 10, []), (10, .iaload, 11, []), (11, .if_icmp .lt 4, 14, [((0 : Int), 15)]), (14, .return_, 15, []), (15, .aload_n 0, 16, []), (16, .iload_n 1, 17, []), (17, .invokevirtual 54, 20, []), (20, .istore_n 2, 21, []), (21, .aload_n 0, 22, []), (22, .iload_n 2, 23, []), (23, .invokevirtual 58, 26, []), (26, .istore_n 3, 27, []), (27, .iload_n 3, 28, []), (28, .iload_n 1, 29, []), (29, .if_icmp .ge 16, 32, [((0 : Int), 45)]), (32, .aload_n 0, 33, []), (33, .iload_n 2, 34, []), (34, .invokevirtual 64, 37, []), (37, .aload_n 0, 38, []), (38, .iload_n 2, 39, []), (39, .iload_n 1, 40, []), (40, .iload_n 3, 41, []), (41, .isub, 42, []), (42, .invokevirtual 68, 45, []), (45, .return_, 46, [])]
def E_X3_cuts : ab_E := (T_X3, [(17, (2, 3, [], 0, sp_X3_chunkAt)), (23, (2, 3, [], 0, sp_X3_startOf)), (34, (2, 3, [], 0, sp_X3_carries)), (42, (3, 3, [], 0, sp_X3_parts))], [], 9)
def M_X3_cuts : List (Nat × ab_MI) := [(17, mi_X3_chunkAt), (23, mi_X3_startOf), (34, mi_X3_carries), (42, mi_X3_parts)]
def mi_X3_cuts : ab_MI := (yX3_cuts, cX3_cuts, 4, ab_rty 9, 4, 141)
theorem pk_X3_cuts : P_X3_cuts.all (ab_okI cX3_cuts) = true := by decide +kernel
theorem ck_X3_cuts : P_X3_cuts.all (ab_okC1 "RootChunksModel" M_X3_cuts E_X3_cuts (4, 141)) = true := by decide +kernel
set_option maxRecDepth 100000 in
theorem b_X3_cuts_0 {Q : ab_Q} {p : Int} {s_ : Int → Int} {z_ : mc_T} {g_ : mg_T} (l1 : p = (0 : Int) → Q none (md_cs s_ z_ g_)) (l2 : ¬ p = (0 : Int) → p < (s_ 0) → sp_X3_chunkAt [.inr (.inl (some 0)), .inl p] (md_cs s_ z_ g_) (fun r_ k_ => ∃ (x_ : Int), r_ = some (.inl x_) ∧ k_ = (md_cs s_ z_ g_) ∧ ab_R E_X3_cuts P_X3_cuts Q 20 [some (.inr (.inl (some 0))), some (.inl p), none, none] [.inl x_] (md_cs s_ z_ g_))) (l3 : ¬ p = (0 : Int) → (s_ 0) ≤ p → Q none (md_cs s_ z_ g_)) (p1 : ab_r p := by intros; (try unfold ab_r); omega) (p2 : ¬ p = (0 : Int) → (0 ≤ (0 : Int) ∧ (0 : Int) < 255) := by intros; (try unfold ab_r); omega) (p3 : ¬ p = (0 : Int) → (ab_r p ∧ ab_r (s_ 0)) := by intros; (try unfold ab_r); omega) : ab_R E_X3_cuts P_X3_cuts Q 0 [some (.inr (.inl (some 0))), some (.inl p), none, none] [] (md_cs s_ z_ g_) :=
  ab_R.steps [20, 26, 37, 45] 12 (show (ab_r p ∧ ((p = (0 : Int) → Q none (md_cs s_ z_ g_)) ∧ (¬ p = (0 : Int) → ((0 ≤ (0 : Int) ∧ (0 : Int) < 255) ∧ ((ab_r p ∧ ab_r (s_ 0)) ∧ ((p < (s_ 0) → ab_cl sp_X3_chunkAt [.inr (.inl (some 0)), .inl p] (md_cs s_ z_ g_) (fun r_ k_ => k_.length = ((md_cs s_ z_ g_)).length → ab_R E_X3_cuts P_X3_cuts Q 20 [some (.inr (.inl (some 0))), some (.inl p), none, none] (ab_ret r_ []) k_)) ∧ ((s_ 0) ≤ p → Q none (md_cs s_ z_ g_)))))))) from ⟨p1, ⟨fun h1 => (l1 h1), fun h2 => ⟨(p2 h2), ⟨(p3 h2), ⟨fun h3 => ⟨_, (l2 h2 h3), fun r_ k_ hz _ => by obtain ⟨x_, rfl, rfl, hR⟩ := hz; exact hR⟩, fun h4 => (l3 h2 h4)⟩⟩⟩⟩⟩)
set_option maxRecDepth 100000 in
theorem b_X3_cuts_20 {Q : ab_Q} {p : Int} {t0 : Int} {s_ : Int → Int} {z_ : mc_T} {g_ : mg_T} (l1 : sp_X3_startOf [.inr (.inl (some 0)), .inl t0] (md_cs s_ z_ g_) (fun r_ k_ => ∃ (x_ : Int), r_ = some (.inl x_) ∧ k_ = (md_cs s_ z_ g_) ∧ ab_R E_X3_cuts P_X3_cuts Q 26 [some (.inr (.inl (some 0))), some (.inl p), some (.inl t0), none] [.inl x_] (md_cs s_ z_ g_)))  : ab_R E_X3_cuts P_X3_cuts Q 20 [some (.inr (.inl (some 0))), some (.inl p), none, none] [.inl t0] (md_cs s_ z_ g_) :=
  ab_R.steps [20, 26, 37, 45] 5 (show ab_cl sp_X3_startOf [.inr (.inl (some 0)), .inl t0] (md_cs s_ z_ g_) (fun r_ k_ => k_.length = ((md_cs s_ z_ g_)).length → ab_R E_X3_cuts P_X3_cuts Q 26 [some (.inr (.inl (some 0))), some (.inl p), some (.inl t0), none] (ab_ret r_ []) k_) from ⟨_, l1, fun r_ k_ hz _ => by obtain ⟨x_, rfl, rfl, hR⟩ := hz; exact hR⟩)
set_option maxRecDepth 100000 in
theorem b_X3_cuts_26 {Q : ab_Q} {p : Int} {c : Int} {t0 : Int} {s_ : Int → Int} {z_ : mc_T} {g_ : mg_T} (l1 : p ≤ t0 → ab_R E_X3_cuts P_X3_cuts Q 45 [some (.inr (.inl (some 0))), some (.inl p), some (.inl c), some (.inl t0)] [] (md_cs s_ z_ g_)) (l2 : t0 < p → sp_X3_carries [.inr (.inl (some 0)), .inl c] (md_cs s_ z_ g_) (fun r_ k_ => ∃ (s_' : Int → Int), ∃ (z_' : mc_T), ∃ (g_' : mg_T), r_ = none ∧ k_ = (md_cs (s_') z_' g_') ∧ ab_R E_X3_cuts P_X3_cuts Q 37 [some (.inr (.inl (some 0))), some (.inl p), some (.inl c), some (.inl t0)] [] (md_cs (s_') z_' g_'))) (p1 : (ab_r t0 ∧ ab_r p) := by intros; (try unfold ab_r); omega) : ab_R E_X3_cuts P_X3_cuts Q 26 [some (.inr (.inl (some 0))), some (.inl p), some (.inl c), none] [.inl t0] (md_cs s_ z_ g_) :=
  ab_R.steps [20, 26, 37, 45] 8 (show ((ab_r t0 ∧ ab_r p) ∧ ((p ≤ t0 → ab_R E_X3_cuts P_X3_cuts Q 45 [some (.inr (.inl (some 0))), some (.inl p), some (.inl c), some (.inl t0)] [] (md_cs s_ z_ g_)) ∧ (t0 < p → ab_cl sp_X3_carries [.inr (.inl (some 0)), .inl c] (md_cs s_ z_ g_) (fun r_ k_ => k_.length = ((md_cs s_ z_ g_)).length → ab_R E_X3_cuts P_X3_cuts Q 37 [some (.inr (.inl (some 0))), some (.inl p), some (.inl c), some (.inl t0)] (ab_ret r_ []) k_)))) from ⟨p1, ⟨fun h1 => (l1 h1), fun h2 => ⟨_, (l2 h2), fun r_ k_ hz _ => by obtain ⟨s_', z_', g_', rfl, rfl, hR⟩ := hz; exact hR⟩⟩⟩)
set_option maxRecDepth 100000 in
theorem b_X3_cuts_37 {Q : ab_Q} {p : Int} {c : Int} {st : Int} {s_ : Int → Int} {z_ : mc_T} {g_ : mg_T} (l1 : sp_X3_parts [.inr (.inl (some 0)), .inl c, .inl (p - st)] (md_cs s_ z_ g_) (fun r_ k_ => ∃ (s_' : Int → Int), ∃ (z_' : mc_T), ∃ (g_' : mg_T), r_ = none ∧ k_ = (md_cs (s_') z_' g_') ∧ ab_R E_X3_cuts P_X3_cuts Q 45 [some (.inr (.inl (some 0))), some (.inl p), some (.inl c), some (.inl st)] [] (md_cs (s_') z_' g_')))  : ab_R E_X3_cuts P_X3_cuts Q 37 [some (.inr (.inl (some 0))), some (.inl p), some (.inl c), some (.inl st)] [] (md_cs s_ z_ g_) :=
  ab_R.steps [20, 26, 37, 45] 7 (show ab_cl sp_X3_parts [.inr (.inl (some 0)), .inl c, .inl (p - st)] (md_cs s_ z_ g_) (fun r_ k_ => k_.length = ((md_cs s_ z_ g_)).length → ab_R E_X3_cuts P_X3_cuts Q 45 [some (.inr (.inl (some 0))), some (.inl p), some (.inl c), some (.inl st)] (ab_ret r_ []) k_) from ⟨_, l1, fun r_ k_ hz _ => by obtain ⟨s_', z_', g_', rfl, rfl, hR⟩ := hz; exact hR⟩)
set_option maxRecDepth 100000 in
theorem b_X3_cuts_45 {Q : ab_Q} {p : Int} {c : Int} {st : Int} {s_ : Int → Int} {z_ : mc_T} {g_ : mg_T} (l1 : Q none (md_cs s_ z_ g_))  : ab_R E_X3_cuts P_X3_cuts Q 45 [some (.inr (.inl (some 0))), some (.inl p), some (.inl c), some (.inl st)] [] (md_cs s_ z_ g_) :=
  ab_R.steps [20, 26, 37, 45] 2 (show Q none (md_cs s_ z_ g_) from l1)
-- ===== RootChunksModel.chunkFrom
def P_X3_chunkFrom : List ab_I := [(0, .iconst 0, 1, []), (1, .istore_n 2, 2, []), (2, .iload_n 2, 3, []), (3, .aload_n 0, 4, []), (4, .getfield 7, 7, []), (7, .iconst 1, 8, []), (8, .iaload, 9, []), (9, .if_icmp .ge 18, 12, [((0 : Int), 27)]), (12, .aload_n 0, 13, []), (13, .iload_n 2, 14, []), (14, .invokevirtual 58, 17, []), (17, .iload_n 1, 18, []), (18, .if_icmp .ge 9, 21, [((0 : Int), 27)]), (21, .iinc 2 1, 24, []), (24, .goto (-22), 27, [((0 : Int), 2)]), (27, .iload_n 2, 28, []), (28, .ireturn, 29, [])]
def E_X3_chunkFrom : ab_E := (T_X3, [(14, (2, 3, [], 0, sp_X3_startOf))], [], 0)
def M_X3_chunkFrom : List (Nat × ab_MI) := [(14, mi_X3_startOf)]
def mi_X3_chunkFrom : ab_MI := (yX3_chunkFrom, cX3_chunkFrom, 3, ab_rty 0, 2, 93)
theorem pk_X3_chunkFrom : P_X3_chunkFrom.all (ab_okI cX3_chunkFrom) = true := by decide +kernel
theorem ck_X3_chunkFrom : P_X3_chunkFrom.all (ab_okC1 "RootChunksModel" M_X3_chunkFrom E_X3_chunkFrom (2, 93)) = true := by decide +kernel
set_option maxRecDepth 100000 in
theorem b_X3_chunkFrom_0 {Q : ab_Q} {p : Int} {s_ : Int → Int} {z_ : mc_T} {g_ : mg_T} (l1 : ab_R E_X3_chunkFrom P_X3_chunkFrom Q 2 [some (.inr (.inl (some 0))), some (.inl p), some (.inl 0)] [] (md_cs s_ z_ g_))  : ab_R E_X3_chunkFrom P_X3_chunkFrom Q 0 [some (.inr (.inl (some 0))), some (.inl p), none] [] (md_cs s_ z_ g_) :=
  ab_R.steps [2, 17] 4 (show ab_R E_X3_chunkFrom P_X3_chunkFrom Q 2 [some (.inr (.inl (some 0))), some (.inl p), some (.inl 0)] [] (md_cs s_ z_ g_) from l1)
set_option maxRecDepth 100000 in
theorem b_X3_chunkFrom_2 {Q : ab_Q} {p : Int} {c : Int} {s_ : Int → Int} {z_ : mc_T} {g_ : mg_T} (l1 : (s_ 1) ≤ c → Q (some (.inl c)) (md_cs s_ z_ g_)) (l2 : c < (s_ 1) → sp_X3_startOf [.inr (.inl (some 0)), .inl c] (md_cs s_ z_ g_) (fun r_ k_ => ∃ (x_ : Int), r_ = some (.inl x_) ∧ k_ = (md_cs s_ z_ g_) ∧ ab_R E_X3_chunkFrom P_X3_chunkFrom Q 17 [some (.inr (.inl (some 0))), some (.inl p), some (.inl c)] [.inl x_] (md_cs s_ z_ g_))) (p1 : (0 ≤ (1 : Int) ∧ (1 : Int) < 255) := by intros; (try unfold ab_r); omega) (p2 : (ab_r c ∧ ab_r (s_ 1)) := by intros; (try unfold ab_r); omega) : ab_R E_X3_chunkFrom P_X3_chunkFrom Q 2 [some (.inr (.inl (some 0))), some (.inl p), some (.inl c)] [] (md_cs s_ z_ g_) :=
  ab_R.steps [2, 17] 10 (show ((0 ≤ (1 : Int) ∧ (1 : Int) < 255) ∧ ((ab_r c ∧ ab_r (s_ 1)) ∧ (((s_ 1) ≤ c → Q (some (.inl c)) (md_cs s_ z_ g_)) ∧ (c < (s_ 1) → ab_cl sp_X3_startOf [.inr (.inl (some 0)), .inl c] (md_cs s_ z_ g_) (fun r_ k_ => k_.length = ((md_cs s_ z_ g_)).length → ab_R E_X3_chunkFrom P_X3_chunkFrom Q 17 [some (.inr (.inl (some 0))), some (.inl p), some (.inl c)] (ab_ret r_ []) k_))))) from ⟨p1, ⟨p2, ⟨fun h1 => (l1 h1), fun h2 => ⟨_, (l2 h2), fun r_ k_ hz _ => by obtain ⟨x_, rfl, rfl, hR⟩ := hz; exact hR⟩⟩⟩⟩)
set_option maxRecDepth 100000 in
theorem b_X3_chunkFrom_17 {Q : ab_Q} {p : Int} {c : Int} {t0 : Int} {s_ : Int → Int} {z_ : mc_T} {g_ : mg_T} (l1 : p ≤ t0 → Q (some (.inl c)) (md_cs s_ z_ g_)) (l2 : t0 < p → ab_R E_X3_chunkFrom P_X3_chunkFrom Q 2 [some (.inr (.inl (some 0))), some (.inl p), some (.inl (c + 1))] [] (md_cs s_ z_ g_)) (p1 : (ab_r t0 ∧ ab_r p) := by intros; (try unfold ab_r); omega) : ab_R E_X3_chunkFrom P_X3_chunkFrom Q 17 [some (.inr (.inl (some 0))), some (.inl p), some (.inl c)] [.inl t0] (md_cs s_ z_ g_) :=
  ab_R.steps [2, 17] 6 (show ((ab_r t0 ∧ ab_r p) ∧ ((p ≤ t0 → Q (some (.inl c)) (md_cs s_ z_ g_)) ∧ (t0 < p → ab_R E_X3_chunkFrom P_X3_chunkFrom Q 2 [some (.inr (.inl (some 0))), some (.inl p), some (.inl (c + 1))] [] (md_cs s_ z_ g_)))) from ⟨p1, ⟨fun h1 => (l1 h1), fun h2 => (l2 h2)⟩⟩)
-- ===== RootChunksModel.root
def P_X3_root : List ab_I := [(0, .iconst 1, 1, []), (1, .istore_n 1, 2, []), (2, .iload_n 1, 3, []), (3, .iconst 1, 4, []), (4, .iadd, 5, []), (5, .iload_n 1, 6, []), (6, .iconst 1, 7, []), (7, .iadd, 8, []), (8, .imul, 9, []), (9, .aload_n 0, 10, []), (10, .getfield 7, 13, []), (13, .iconst 0, 14, []), (14, .iaload, 15, []), (15, .if_icmp .gt 9, 18, [((0 : Int), 24)]), (18, .iinc 1 1, 21, []), (21, .goto (-19), 24, [((0 : Int), 2)]), (24, .iload_n 1, 25, []), (25, .ireturn, 26, [])]
def E_X3_root : ab_E := (T_X3, [], [], 0)
def M_X3_root : List (Nat × ab_MI) := []
def mi_X3_root : ab_MI := (yX3_root, cX3_root, 2, ab_rty 0, 1, 70)
theorem pk_X3_root : P_X3_root.all (ab_okI cX3_root) = true := by decide +kernel
theorem ck_X3_root : P_X3_root.all (ab_okC1 "RootChunksModel" M_X3_root E_X3_root (1, 70)) = true := by decide +kernel
set_option maxRecDepth 100000 in
theorem b_X3_root_0 {Q : ab_Q} {s_ : Int → Int} {z_ : mc_T} {g_ : mg_T} (l1 : ab_R E_X3_root P_X3_root Q 2 [some (.inr (.inl (some 0))), some (.inl 1)] [] (md_cs s_ z_ g_))  : ab_R E_X3_root P_X3_root Q 0 [some (.inr (.inl (some 0))), none] [] (md_cs s_ z_ g_) :=
  ab_R.steps [2] 4 (show ab_R E_X3_root P_X3_root Q 2 [some (.inr (.inl (some 0))), some (.inl 1)] [] (md_cs s_ z_ g_) from l1)
set_option maxRecDepth 100000 in
theorem b_X3_root_2 {Q : ab_Q} {rt : Int} {s_ : Int → Int} {z_ : mc_T} {g_ : mg_T} (l1 : (s_ 0) < ((rt + 1) * (rt + 1)) → Q (some (.inl rt)) (md_cs s_ z_ g_)) (l2 : ((rt + 1) * (rt + 1)) ≤ (s_ 0) → ab_R E_X3_root P_X3_root Q 2 [some (.inr (.inl (some 0))), some (.inl (rt + 1))] [] (md_cs s_ z_ g_)) (p1 : (0 ≤ (0 : Int) ∧ (0 : Int) < 255) := by intros; (try unfold ab_r); omega) (p2 : (ab_r ((rt + 1) * (rt + 1)) ∧ ab_r (s_ 0)) := by intros; (try unfold ab_r); omega) : ab_R E_X3_root P_X3_root Q 2 [some (.inr (.inl (some 0))), some (.inl rt)] [] (md_cs s_ z_ g_) :=
  ab_R.steps [2] 16 (show ((0 ≤ (0 : Int) ∧ (0 : Int) < 255) ∧ ((ab_r ((rt + 1) * (rt + 1)) ∧ ab_r (s_ 0)) ∧ (((s_ 0) < ((rt + 1) * (rt + 1)) → Q (some (.inl rt)) (md_cs s_ z_ g_)) ∧ (((rt + 1) * (rt + 1)) ≤ (s_ 0) → ab_R E_X3_root P_X3_root Q 2 [some (.inr (.inl (some 0))), some (.inl (rt + 1))] [] (md_cs s_ z_ g_))))) from ⟨p1, ⟨p2, ⟨fun h1 => (l1 h1), fun h2 => (l2 h2)⟩⟩⟩)
theorem vc_X3_startOf {av : List ab_V} {cs : List ab_C} {Q : ab_Q} (h : sp_X3_startOf av cs Q) : (ab_lv0 av).length ≤ 4 ∧ ab_R E_X3_startOf P_X3_startOf Q 0 (ab_ent av 4) [] cs := by
  obtain ⟨s, z, g, q, c, k, rfl, rfl, hR, hW, hk, hc, hQ⟩ := h
  refine ⟨Nat.le_of_ble_eq_true rfl, ?_⟩
  have hcl := hW.chunks
  have loop : ∀ (d i : Nat) (x st : Int), d + i = c → x = i → st = (mq_flat (q.take i)).length → ab_R E_X3_startOf P_X3_startOf Q 4 [some (.inr (.inl (some 0))), some (.inl k), some (.inl st), some (.inl x)] [] (md_cs s z g) := by
    intro d
    induction d with
    | zero =>
      intro i x st h1 h2 h3
      have e : i = c := by omega
      subst e
      subst h3
      exact b_X3_startOf_4 (fun _ => hQ) (fun _ => by omega)
    | succ d ih =>
      intro i x st h1 h2 h3
      obtain ⟨kk, hkk, -⟩ := mq_split (q := q) (c := i) (by omega)
      have e1 : s (63 + (i : Int)) = _ := hR.len hkk
      have e2 := mq_take_succ hkk
      rw [← h2] at e1
      exact b_X3_startOf_4 (fun _ => by omega) (fun _ => ih (i + 1) _ _ (by omega) (by omega) (by omega))
  exact b_X3_startOf_0 (loop c 0 0 0 (by omega) rfl rfl)
theorem mt_X3_startOf (l : Launch) : ab_MT l mi_X3_startOf sp_X3_startOf := ab_MT.of (own := "RootChunksModel") (E := E_X3_startOf) (P := P_X3_startOf) (M := M_X3_startOf) (nL := 4) (ty := 0) (by decide) rfl rfl tk_X3 pk_X3_startOf ck_X3_startOf ab_CT'.nil (fun av cs Q h => vc_X3_startOf h)
theorem vc_X3_chunkAt {av : List ab_V} {cs : List ab_C} {Q : ab_Q} (h : sp_X3_chunkAt av cs Q) : (ab_lv0 av).length ≤ 4 ∧ ab_R E_X3_chunkAt P_X3_chunkAt Q 0 (ab_ent av 4) [] cs := by
  obtain ⟨s, z, g, A, k, B, p, rfl, rfl, hR, hW, hp1, hp2, hQ⟩ := h
  refine ⟨Nat.le_of_ble_eq_true rfl, ?_⟩
  have hcl := hW.chunks
  have hfl := hW.2
  rw [List.length_append, List.length_cons] at hcl
  have hA : (mq_flat A).length + k.1.length ≤ 60 := by
    rw [mq_flat_app, mq_flat_cons, List.length_append, List.length_append] at hfl
    omega
  have loop : ∀ (d i : Nat) (x en : Int), d + i = A.length → x = i → en = (mq_flat ((A ++ k :: B).take (i + 1))).length → ab_R E_X3_chunkAt P_X3_chunkAt Q 10 [some (.inr (.inl (some 0))), some (.inl p), some (.inl x), some (.inl en)] [] (md_cs s z g) := by
    intro d
    induction d with
    | zero =>
      intro i x en h1 h2 h3
      have e : i = A.length := by omega
      subst e
      rw [mq_take_succ (mq_at_app A k B), mq_take_app] at h3
      refine b_X3_chunkAt_10 (fun _ => ?_) (fun _ => by omega)
      rw [h2]
      exact hQ
    | succ d ih =>
      intro i x en h1 h2 h3
      have e3 : (mq_flat ((A ++ k :: B).take (i + 1))).length ≤ (mq_flat A).length := by
        rw [List.take_append_of_le_length (by omega)]
        exact mq_take_le A (i + 1)
      obtain ⟨kk, hkk, -⟩ := mq_split (q := A ++ k :: B) (c := i + 1) (by rw [List.length_append]; simp; omega)
      have e1 : s (63 + ((i + 1 : Nat) : Int)) = _ := hR.len hkk
      have e2 := mq_take_succ hkk
      rw [show (((i + 1 : Nat)) : Int) = x + 1 by omega] at e1
      exact b_X3_chunkAt_10 (fun _ => by omega) (fun _ => ih (i + 1) _ _ (by omega) (by omega) (by omega))
  refine b_X3_chunkAt_0 (loop A.length 0 0 _ (by omega) rfl ?_)
  obtain ⟨kk, hkk, -⟩ := mq_split (q := A ++ k :: B) (c := 0) (by simp; omega)
  have e1 : s (63 + ((0 : Nat) : Int)) = _ := hR.len hkk
  have e2 := mq_take_succ hkk
  rw [show (63 : Int) + ((0 : Nat) : Int) = 63 by omega] at e1
  simp [mq_flat] at e2
  simp [mq_flat]
  omega
theorem mt_X3_chunkAt (l : Launch) : ab_MT l mi_X3_chunkAt sp_X3_chunkAt := ab_MT.of (own := "RootChunksModel") (E := E_X3_chunkAt) (P := P_X3_chunkAt) (M := M_X3_chunkAt) (nL := 4) (ty := 0) (by decide) rfl rfl tk_X3 pk_X3_chunkAt ck_X3_chunkAt ab_CT'.nil (fun av cs Q h => vc_X3_chunkAt h)
theorem vc_X3_valueAt {av : List ab_V} {cs : List ab_C} {Q : ab_Q} (h : sp_X3_valueAt av cs Q) : (ab_lv0 av).length ≤ 5 ∧ ab_R E_X3_valueAt P_X3_valueAt Q 0 (ab_ent av 5) [] cs := by
  obtain ⟨s, z, g, q, p, i, x, rfl, rfl, hR, hW, hp, hx, hQ⟩ := h
  refine ⟨Nat.le_of_ble_eq_true rfl, ?_⟩
  have hil := (List.getElem?_eq_some_iff.mp hx).1
  rw [mq_all_len] at hil
  obtain ⟨A, k, B, rfl, h1, h2⟩ := mq_hold hil
  have hcl := hW.chunks
  have hfl := hW.2
  rw [List.length_append, List.length_cons] at hcl
  have hA : (mq_flat A).length + k.1.length ≤ 60 := by
    rw [mq_flat_app, mq_flat_cons, List.length_append, List.length_append] at hfl
    omega
  have hrow : (mq_row k)[i - (mq_flat A).length]? = some x := by
    rw [mq_all_app, mq_all_cons, List.getElem?_append_right (by rw [mq_all_len]; exact h1), mq_all_len] at hx
    rwa [List.getElem?_append_left (by rw [mq_row_len]; omega)] at hx
  obtain ⟨y, hy, rfl⟩ := mq_row_at hrow
  have e1 : s (63 + (A.length : Int)) = _ := hR.len (mq_at_app A k B)
  have e2 : s (127 + (A.length : Int)) = _ := hR.turn (mq_at_app A k B)
  have e3 : s (191 + (A.length : Int)) = _ := hR.sum (mq_at_app A k B)
  have e4 : s (3 + (((mq_flat A).length + _ : Nat) : Int)) = _ := hR.kept hy
  have ht := (hW.1 k (by simp)).2.1
  refine b_X3_valueAt_0 ⟨_, _, _, A, k, B, p, rfl, rfl, hR, hW, by omega, by omega, _, rfl, rfl, ?_⟩
  refine b_X3_valueAt_5 ⟨_, _, _, A ++ k :: B, A.length, _, rfl, rfl, hR, hW, rfl, by rw [List.length_append]; omega, _, rfl, rfl, ?_⟩
  rw [mq_take_app]
  refine b_X3_valueAt_11 (fun ht => ?_) (fun ht => ?_) (p2 := ?_)
  · rw [if_neg (by rw [← e2]; exact ht)] at e4
    rw [show (((mq_flat A).length + (i - (mq_flat A).length) : Nat) : Int) = p by omega] at e4
    rw [e4, e3]
    exact hQ
  · rw [if_pos (by rw [← e2]; exact ht)] at e4
    rw [show 3 + (((mq_flat A).length + (k.1.length - 1 - (i - (mq_flat A).length)) : Nat) : Int) = 3 + (2 * ((mq_flat A).length : Int) + s (63 + (A.length : Int)) - 1 - p) by omega] at e4
    rw [e4, e3]
    exact hQ
  · unfold ab_r
    omega
theorem mt_X3_valueAt (l : Launch) : ab_MT l mi_X3_valueAt sp_X3_valueAt := ab_MT.of (own := "RootChunksModel") (E := E_X3_valueAt) (P := P_X3_valueAt) (M := M_X3_valueAt) (nL := 5) (ty := 0) (by decide) rfl rfl tk_X3 pk_X3_valueAt ck_X3_valueAt (ab_CT'.cons (mt_X3_chunkAt l) (ab_CT'.cons (mt_X3_startOf l) ab_CT'.nil)) (fun av cs Q h => vc_X3_valueAt h)
theorem vc_X3_carries {av : List ab_V} {cs : List ab_C} {Q : ab_Q} (h : sp_X3_carries av cs Q) : (ab_lv0 av).length ≤ 5 ∧ ab_R E_X3_carries P_X3_carries Q 0 (ab_ent av 5) [] cs := by
  obtain ⟨s, ⟨od, nk, nl, nt, ns⟩, g, A, k, B, c, rfl, rfl, hR, hW, hc, hQ⟩ := h
  refine ⟨Nat.le_of_ble_eq_true rfl, ?_⟩
  have hcl := hW.chunks
  have hfl := hW.2
  rw [List.length_append, List.length_cons] at hcl
  have hA : (mq_flat A).length + k.1.length ≤ 60 := by
    rw [mq_flat_app, mq_flat_cons, List.length_append, List.length_append] at hfl
    omega
  have e1 : s (63 + (A.length : Int)) = _ := hR.len (mq_at_app A k B)
  have e2 : s (127 + (A.length : Int)) = _ := hR.turn (mq_at_app A k B)
  have e3 : s (191 + (A.length : Int)) = _ := hR.sum (mq_at_app A k B)
  rw [← hc] at e1 e2 e3
  have hok := hW.1 k (by simp)
  have ht := hok.2.1
  have hsb := hok.sum
  have main : ¬ (k.2.1 = 0 ∧ k.2.2 = 0) → sp_X3_startOf [.inr (.inl (some 0)), .inl c] (md_cs s (od, nk, nl, nt, ns) g) (fun r_ k_ => ∃ (x_ : Int), r_ = some (.inl x_) ∧ k_ = (md_cs s (od, nk, nl, nt, ns) g) ∧ ab_R E_X3_carries P_X3_carries Q 31 [some (.inr (.inl (some 0))), some (.inl c), none, none, none] [.inl x_] (md_cs s (od, nk, nl, nt, ns) g)) := by
    intro hwt
    refine ⟨_, _, _, _, A.length, _, rfl, rfl, hR, hW, hc, by simp, _, rfl, rfl, ?_⟩
    rw [mq_take_app]
    generalize hst : ((mq_flat A).length : Int) = st
    have second : ∀ (nk' : Int → Int), (∀ (j : Nat) (x : Int), (mq_row k)[j]? = some x → nk' j = x) → ∀ (m : Nat) (i : Int) (s' : Int → Int), (k.1.length : Int) - i = m → 0 ≤ i → (∀ j : Int, s' j = if 3 + st ≤ j ∧ j < 3 + st + i then nk' (j - (3 + st)) else s j) →
        ab_R E_X3_carries P_X3_carries Q 75 [some (.inr (.inl (some 0))), some (.inl c), some (.inl st), some (.inl (s (63 + c))), some (.inl i)] [] (md_cs s' (od, nk', nl, nt, ns) g) := by
      intro nk' hnk m
      induction m with
      | zero =>
        intro i s' g1 g2 g3
        refine b_X3_carries_75 (fun _ => ?_) (fun _ => by omega)
        refine hQ _ _ ?_ ?_
        · have h0 := mq_R_settle (K' := fun j => s' (3 + j)) (w' := 0) hR (fun j hj => ?_) (fun j hj => ?_) (fun j x hj => ?_)
          · rw [← hc] at h0
            refine mq_R_ext h0 (mq_W_settle hW) (fun j j1 j2 => ?_) (fun j j1 j2 => ?_) (fun j j1 j2 => ?_) (fun j j1 j2 => ?_) ?_ ?_
            · show ab_up _ _ _ (3 + j) = s' (3 + j)
              unfold ab_up
              rw [if_neg (by omega), if_neg (by omega), if_neg (by omega)]
            · simp only [List.length_append, List.length_cons] at j2
              show ab_up _ _ _ (63 + j) = s (63 + j)
              unfold ab_up
              rw [if_neg (by omega), if_neg (by omega), if_neg (by omega), g3, if_neg (by omega)]
            · simp only [List.length_append, List.length_cons] at j2
              show ab_up _ _ _ (127 + j) = ab_up (fun c => s (127 + c)) c 0 j
              unfold ab_up
              rw [if_neg (by omega), if_neg (by omega)]
              by_cases y : j = c
              · rw [if_pos (by omega), if_pos y]
              · rw [if_neg (by omega), if_neg y, g3, if_neg (by omega)]
            · simp only [List.length_append, List.length_cons] at j2
              show ab_up _ _ _ (191 + j) = ab_up (fun c => s (191 + c)) c 0 j
              unfold ab_up
              rw [if_neg (by omega)]
              by_cases y : j = c
              · rw [if_pos (by omega), if_pos y]
              · rw [if_neg (by omega), if_neg (by omega), if_neg y, g3, if_neg (by omega)]
            · show ab_up _ _ _ 0 = s 0
              repeat rw [ab_up_ne (by omega)]
              rw [g3, if_neg (by omega)]
            · show ab_up _ _ _ 1 = s 1
              repeat rw [ab_up_ne (by omega)]
              rw [g3, if_neg (by omega)]
          · show s' (3 + j) = s (3 + j)
            rw [g3, if_neg (by omega)]
          · show s' (3 + j) = s (3 + j)
            rw [g3, if_neg (by omega)]
          · have hjl := (List.getElem?_eq_some_iff.mp hj).1
            rw [mq_row_len] at hjl
            show s' (3 + (((mq_flat A).length : Int) + j)) = x
            rw [g3, if_pos (by omega), show 3 + (((mq_flat A).length : Int) + j) - (3 + st) = j by omega]
            exact hnk j x hj
        · unfold ab_up
          rw [if_pos rfl, if_neg (by omega), if_neg (by omega), g3, if_neg (by omega), e1]
          unfold mq_cost
          rw [if_neg hwt]
      | succ m ih =>
        intro i s' g1 g2 g3
        refine b_X3_carries_75 (fun _ => by omega) (fun _ => ih (i + 1) _ (by omega) (by omega) (fun j => ?_))
        unfold ab_up
        by_cases y : j = 3 + st + i
        · rw [if_pos y, if_pos (by omega), show j - (3 + st) = i by omega]
        · rw [if_neg y, g3]
          by_cases y2 : 3 + st ≤ j ∧ j < 3 + st + i
          · rw [if_pos y2, if_pos (by omega)]
          · rw [if_neg y2, if_neg (by omega)]
    have first : ∀ (m : Nat) (i : Int) (nk' : Int → Int), (k.1.length : Int) - i = m → 0 ≤ i → (∀ (j : Nat) (x : Int), (j : Int) < i → (mq_row k)[j]? = some x → nk' j = x) →
        ab_R E_X3_carries P_X3_carries Q 45 [some (.inr (.inl (some 0))), some (.inl c), some (.inl st), some (.inl (s (63 + c))), some (.inl i)] [] (md_cs s (od, nk', nl, nt, ns) g) := by
      intro m
      induction m with
      | zero =>
        intro i nk' g1 g2 g3
        refine b_X3_carries_45 (fun _ => second nk' (fun j x hj => g3 j x ?_ hj) k.1.length 0 s (by omega) (by omega) (fun j => by rw [if_neg (by omega)])) (fun _ => by omega)
        have hjl := (List.getElem?_eq_some_iff.mp hj).1
        rw [mq_row_len] at hjl
        omega
      | succ m ih =>
        intro i nk' g1 g2 g3
        have hj : i.toNat < (mq_row k).length := by rw [mq_row_len]; omega
        have hx : (mq_row k)[i.toNat]? = some (mq_row k)[i.toNat] := List.getElem?_eq_getElem hj
        refine b_X3_carries_45 (fun _ => by omega) (fun _ => ⟨_, _, _, A ++ k :: B, _, (mq_flat A).length + i.toNat, (mq_row k)[i.toNat], rfl, rfl, hR, hW, by omega, ?_, _, rfl, rfl, ?_⟩)
        · rw [mq_all_app, mq_all_cons, List.getElem?_append_right (by rw [mq_all_len]; omega), mq_all_len, show (mq_flat A).length + i.toNat - (mq_flat A).length = i.toNat by omega, List.getElem?_append_left hj]
          exact hx
        · refine b_X3_carries_65 (ih (i + 1) _ (by omega) (by omega) (fun j x j1 j2 => ?_))
          unfold ab_up
          by_cases y : (j : Int) = i
          · rw [if_pos y]
            have : j = i.toNat := by omega
            subst this
            rw [hx] at j2
            exact Option.some.inj j2
          · rw [if_neg y]
            exact g3 j x (by omega) j2
    exact b_X3_carries_31 (first k.1.length 0 nk (by omega) (by omega) (fun j x j1 _ => by omega))
  refine b_X3_carries_0 (fun h1 => main (by omega)) (fun h1 h2 => main (by omega)) (fun h1 h2 => ?_)
  obtain ⟨c1, c2, c3⟩ := mq_cost_0 (k := k) (by omega) (by omega)
  refine hQ _ _ (by rw [← c3]; exact hR) ?_
  rw [c2]
  omega
theorem mt_X3_carries (l : Launch) : ab_MT l mi_X3_carries sp_X3_carries := ab_MT.of (own := "RootChunksModel") (E := E_X3_carries) (P := P_X3_carries) (M := M_X3_carries) (nL := 5) (ty := 9) (by decide) rfl rfl tk_X3 pk_X3_carries ck_X3_carries (ab_CT'.cons (mt_X3_startOf l) (ab_CT'.cons (mt_X3_valueAt l) ab_CT'.nil)) (fun av cs Q h => vc_X3_carries h)
theorem vc_X3_parts {av : List ab_V} {cs : List ab_C} {Q : ab_Q} (h : sp_X3_parts av cs Q) : (ab_lv0 av).length ≤ 4 ∧ ab_R E_X3_parts P_X3_parts Q 0 (ab_ent av 4) [] cs := by
  obtain ⟨s, z, g, A, l, B, f, c, x, rfl, rfl, hR, hW, hc, hx, h0, h1, hQ⟩ := h
  refine ⟨Nat.le_of_ble_eq_true rfl, ?_⟩
  have W2 := mq_W_part hW h0 h1
  have hcl := W2.chunks
  rw [List.length_append, List.length_cons, List.length_cons] at hcl
  have hn : s 1 = ((A ++ (l, 0, 0) :: B).length : Nat) := hR.2.2.2.2.2
  rw [List.length_append, List.length_cons] at hn
  have e1 : s (63 + (A.length : Int)) = _ := hR.len (mq_at_app A (l, 0, 0) B)
  dsimp only at e1
  rw [← hc] at e1
  have loop : ∀ (m : Nat) (k : Int) (s' : Int → Int), k - (c + 1) = m → k ≤ s 1 → (∀ j : Int, s' j = if (63 + k < j ∧ j ≤ 63 + s 1) ∨ (127 + k < j ∧ j ≤ 127 + s 1) ∨ (191 + k < j ∧ j ≤ 191 + s 1) then s (j - 1) else s j) →
      ab_R E_X3_parts P_X3_parts Q 7 [some (.inr (.inl (some 0))), some (.inl c), some (.inl x), some (.inl k)] [] (md_cs s' z g) := by
    intro m
    induction m with
    | zero =>
      intro k s' g1 g2 g3
      have ek : k = c + 1 := by omega
      subst ek
      refine b_X3_parts_7 (fun _ => ?_) (fun _ => by omega)
      have o : ∀ j : Int, (j < 63 ∨ j = 63 + c) → s' j = s j := fun j hj => by rw [g3, if_neg (by omega)]
      have hr := mq_R_part (w' := 0) hR (f := f) (by omega)
      rw [← hc, ← hx] at hr
      refine hQ _ (mq_R_ext hr W2 (fun j j1 j2 => ?_) (fun j j1 j2 => ?_) (fun j j1 j2 => ?_) (fun j j1 j2 => ?_) ?_ ?_) ?_
      · show ab_up _ _ _ (3 + j) = s (3 + j)
        rw [ab_up_ne (by omega), ab_up_ne (by omega), ab_up_ne (by omega), ab_up_ne (by omega), ab_up_ne (by omega), ab_up_ne (by omega), o _ (by omega)]
      · simp only [List.length_append, List.length_cons] at j2
        show ab_up _ _ _ (63 + j) = mq_ins (ab_up (fun c => s (63 + c)) c x) (s 1) (c + 1) ((l.length : Int) - x) j
        rw [ab_up_ne (by omega), ab_up_ne (by omega), ab_up_ne (by omega), ab_up_ne (by omega)]
        unfold mq_ins
        by_cases y : j = c + 1
        · rw [ab_up_ne (by omega), ab_up_eq (by omega), if_pos y, o (63 + c) (by omega), e1]
        · rw [if_neg y]
          by_cases y2 : j = c
          · rw [ab_up_eq (by omega), if_neg (by omega), ab_up_eq y2]
          · rw [ab_up_ne (by omega), ab_up_ne (by omega), g3]
            by_cases y3 : c + 1 < j ∧ j ≤ s 1
            · rw [if_pos y3, if_pos (by omega), ab_up_ne (by omega)]
              show s (63 + j - 1) = s (63 + (j - 1))
              congr 1; omega
            · rw [if_neg y3, if_neg (by omega), ab_up_ne (by omega)]
      · simp only [List.length_append, List.length_cons] at j2
        show ab_up _ _ _ (127 + j) = mq_ins (fun c => s (127 + c)) (s 1) (c + 1) 0 j
        rw [ab_up_ne (by omega), ab_up_ne (by omega), ab_up_ne (by omega)]
        unfold mq_ins
        by_cases y : j = c + 1
        · rw [ab_up_eq (by omega), if_pos y]
        · rw [ab_up_ne (by omega), ab_up_ne (by omega), ab_up_ne (by omega), if_neg y, g3]
          by_cases y3 : c + 1 < j ∧ j ≤ s 1
          · rw [if_pos y3, if_pos (by omega)]
            show s (127 + j - 1) = s (127 + (j - 1))
            congr 1; omega
          · rw [if_neg y3, if_neg (by omega)]
      · simp only [List.length_append, List.length_cons] at j2
        show ab_up _ _ _ (191 + j) = mq_ins (fun c => s (191 + c)) (s 1) (c + 1) 0 j
        rw [ab_up_ne (by omega), ab_up_ne (by omega)]
        unfold mq_ins
        by_cases y : j = c + 1
        · rw [ab_up_eq (by omega), if_pos y]
        · rw [ab_up_ne (by omega), ab_up_ne (by omega), ab_up_ne (by omega), ab_up_ne (by omega), if_neg y, g3]
          by_cases y3 : c + 1 < j ∧ j ≤ s 1
          · rw [if_pos y3, if_pos (by omega)]
            show s (191 + j - 1) = s (191 + (j - 1))
            congr 1; omega
          · rw [if_neg y3, if_neg (by omega)]
      · show ab_up _ _ _ 0 = s 0
        repeat rw [ab_up_ne (by omega)]
        exact o _ (by omega)
      · show ab_up _ _ _ 1 + 1 = s 1 + 1
        repeat rw [ab_up_ne (by omega)]
        rw [o _ (by omega)]
      · rw [ab_up_eq rfl]
        rw [ab_up_ne (show (2 : Int) ≠ 1 by omega), ab_up_ne (show (2 : Int) ≠ 191 + c + 1 by omega), ab_up_ne (show (2 : Int) ≠ 127 + c + 1 by omega), ab_up_ne (show (2 : Int) ≠ 63 + c by omega), ab_up_ne (show (2 : Int) ≠ 63 + c + 1 by omega), o 2 (by omega)]
        rw [ab_up_ne (show (63 : Int) + c + 1 ≠ 1 by omega), ab_up_ne (show (63 : Int) + c + 1 ≠ 191 + c + 1 by omega), ab_up_ne (show (63 : Int) + c + 1 ≠ 127 + c + 1 by omega), ab_up_ne (show (63 : Int) + c + 1 ≠ 63 + c by omega), ab_up_eq rfl, o (63 + c) (by omega), e1]
        omega
    | succ m ih =>
      intro k s' g1 g2 g3
      refine b_X3_parts_7 (fun _ => by omega) (fun _ => ih _ _ (by omega) (by omega) (fun j => ?_))
      have o : ∀ j : Int, (j = 63 + k - 1 ∨ j = 127 + k - 1 ∨ j = 191 + k - 1) → s' j = s j := fun j hj => by rw [g3, if_neg (by omega)]
      rw [ab_up_ne (show 127 + k - 1 ≠ 63 + k by omega), ab_up_ne (show 191 + k - 1 ≠ 127 + k by omega), ab_up_ne (show 191 + k - 1 ≠ 63 + k by omega), o (63 + k - 1) (by omega), o (127 + k - 1) (by omega), o (191 + k - 1) (by omega)]
      by_cases y1 : j = 191 + k
      · rw [ab_up_eq y1, if_pos (by omega), y1]
      · rw [ab_up_ne y1]
        by_cases y2 : j = 127 + k
        · rw [ab_up_eq y2, if_pos (by omega), y2]
        · rw [ab_up_ne y2]
          by_cases y3 : j = 63 + k
          · rw [ab_up_eq y3, if_pos (by omega), y3]
          · rw [ab_up_ne y3, g3]
            by_cases y4 : (63 + k < j ∧ j ≤ 63 + s 1) ∨ (127 + k < j ∧ j ≤ 127 + s 1) ∨ (191 + k < j ∧ j ≤ 191 + s 1)
            · rw [if_pos y4, if_pos (by omega)]
            · rw [if_neg y4, if_neg (by omega)]
  exact b_X3_parts_0 (loop B.length (s 1) s (by omega) (by omega) (fun j => by rw [if_neg (by omega)]))
theorem mt_X3_parts (l : Launch) : ab_MT l mi_X3_parts sp_X3_parts := ab_MT.of (own := "RootChunksModel") (E := E_X3_parts) (P := P_X3_parts) (M := M_X3_parts) (nL := 4) (ty := 9) (by decide) rfl rfl tk_X3 pk_X3_parts ck_X3_parts ab_CT'.nil (fun av cs Q h => vc_X3_parts h)
theorem vc_X3_closes {av : List ab_V} {cs : List ab_C} {Q : ab_Q} (h : sp_X3_closes av cs Q) : (ab_lv0 av).length ≤ 3 ∧ ab_R E_X3_closes P_X3_closes Q 0 (ab_ent av 3) [] cs := by
  obtain ⟨s, z, g, c, rfl, rfl, h0, h1, h2, hQ⟩ := h
  refine ⟨Nat.le_of_ble_eq_true rfl, ?_⟩
  have loop : ∀ (m : Nat) (k : Int) (s' : Int → Int), s 1 - 1 - k = m → c ≤ k → (∀ j : Int, s' j = if (63 + c ≤ j ∧ j < 63 + k) ∨ (127 + c ≤ j ∧ j < 127 + k) ∨ (191 + c ≤ j ∧ j < 191 + k) then s (j + 1) else s j) →
      ab_R E_X3_closes P_X3_closes Q 2 [some (.inr (.inl (some 0))), some (.inl c), some (.inl k)] [] (md_cs s' z g) := by
    intro m
    induction m with
    | zero =>
      intro k s' g1 g2 g3
      have o : ∀ j : Int, j < 63 → s' j = s j := fun j hj => by rw [g3, if_neg (by omega)]
      have o1 := o 1 (by omega)
      have f1 : ab_up s' 1 (s' 1 - 1) 1 = s 1 - 1 := by rw [ab_up_eq rfl, o1]
      have f2 : ab_up (ab_up s' 1 (s' 1 - 1)) (63 + ab_up s' 1 (s' 1 - 1) 1) 0 1 = s 1 - 1 := by rw [ab_up_ne (by omega), f1]
      have f3 : ab_up (ab_up (ab_up s' 1 (s' 1 - 1)) (63 + ab_up s' 1 (s' 1 - 1) 1) 0) (127 + ab_up (ab_up s' 1 (s' 1 - 1)) (63 + ab_up s' 1 (s' 1 - 1) 1) 0 1) 0 1 = s 1 - 1 := by rw [ab_up_ne (by omega), f2]
      refine b_X3_closes_2 (fun _ => ?_) (fun _ => by omega)
      rw [f3, f2, f1]
      refine hQ _ ?_ ?_ ?_ (fun j j1 j2 => ?_) (fun j j1 j2 => ⟨?_, ?_, ?_⟩)
      · rw [ab_up_ne (by omega), ab_up_ne (by omega), ab_up_ne (by omega), ab_up_ne (by omega), o _ (by omega)]
      · rw [ab_up_ne (by omega), ab_up_ne (by omega), ab_up_ne (by omega), ab_up_eq rfl, o1]
      · rw [ab_up_ne (by omega), ab_up_ne (by omega), ab_up_ne (by omega), ab_up_ne (by omega), o _ (by omega)]
      · rw [ab_up_ne (by omega), ab_up_ne (by omega), ab_up_ne (by omega), ab_up_ne (by omega), o _ (by omega)]
      · rw [ab_up_ne (by omega), ab_up_ne (by omega), ab_up_ne (by omega), ab_up_ne (by omega), g3]
        unfold mq_del
        by_cases y : c ≤ j ∧ j < s 1 - 1
        · rw [if_pos y, if_pos (by omega)]
          congr 1; omega
        · rw [if_neg y, if_neg (by omega)]
      · rw [ab_up_ne (by omega), ab_up_ne (by omega), ab_up_ne (by omega), ab_up_ne (by omega), g3]
        unfold mq_del
        by_cases y : c ≤ j ∧ j < s 1 - 1
        · rw [if_pos y, if_pos (by omega)]
          congr 1; omega
        · rw [if_neg y, if_neg (by omega)]
      · rw [ab_up_ne (by omega), ab_up_ne (by omega), ab_up_ne (by omega), ab_up_ne (by omega), g3]
        unfold mq_del
        by_cases y : c ≤ j ∧ j < s 1 - 1
        · rw [if_pos y, if_pos (by omega)]
          congr 1; omega
        · rw [if_neg y, if_neg (by omega)]
    | succ m ih =>
      intro k s' g1 g2 g3
      have o : ∀ j : Int, j < 63 → s' j = s j := fun j hj => by rw [g3, if_neg (by omega)]
      have o1 := o 1 (by omega)
      refine b_X3_closes_2 (fun _ => by omega) (fun _ => ih _ _ (by omega) (by omega) (fun j => ?_)) (p4 := fun _ => by omega) (p5 := fun _ => by omega) (p6 := fun _ => by omega)
      have o2 : ∀ j : Int, (j = 63 + k + 1 ∨ j = 127 + k + 1 ∨ j = 191 + k + 1) → s' j = s j := fun j hj => by rw [g3, if_neg (by omega)]
      rw [ab_up_ne (show 127 + k + 1 ≠ 63 + k by omega), ab_up_ne (show 191 + k + 1 ≠ 127 + k by omega), ab_up_ne (show 191 + k + 1 ≠ 63 + k by omega), o2 (63 + k + 1) (by omega), o2 (127 + k + 1) (by omega), o2 (191 + k + 1) (by omega)]
      by_cases y1 : j = 191 + k
      · rw [ab_up_eq y1, if_pos (by omega), y1]
      · rw [ab_up_ne y1]
        by_cases y2 : j = 127 + k
        · rw [ab_up_eq y2, if_pos (by omega), y2]
        · rw [ab_up_ne y2]
          by_cases y3 : j = 63 + k
          · rw [ab_up_eq y3, if_pos (by omega), y3]
          · rw [ab_up_ne y3, g3]
            by_cases y4 : (63 + c ≤ j ∧ j < 63 + k) ∨ (127 + c ≤ j ∧ j < 127 + k) ∨ (191 + c ≤ j ∧ j < 191 + k)
            · rw [if_pos y4, if_pos (by omega)]
            · rw [if_neg y4, if_neg (by omega)]
  exact b_X3_closes_0 (loop (s 1 - 1 - c).toNat c s (by omega) (by omega) (fun j => by rw [if_neg (by omega)]))
theorem mt_X3_closes (l : Launch) : ab_MT l mi_X3_closes sp_X3_closes := ab_MT.of (own := "RootChunksModel") (E := E_X3_closes) (P := P_X3_closes) (M := M_X3_closes) (nL := 3) (ty := 9) (by decide) rfl rfl tk_X3 pk_X3_closes ck_X3_closes ab_CT'.nil (fun av cs Q h => vc_X3_closes h)
theorem vc_X3_cuts {av : List ab_V} {cs : List ab_C} {Q : ab_Q} (h : sp_X3_cuts av cs Q) : (ab_lv0 av).length ≤ 4 ∧ ab_R E_X3_cuts P_X3_cuts Q 0 (ab_ent av 4) [] cs := by
  obtain ⟨s, z, g, q, d, p, rfl, rfl, hR, hW, hp, hd, hQ⟩ := h
  refine ⟨Nat.le_of_ble_eq_true rfl, ?_⟩
  have hfl := hW.2
  have hn : s 0 = ((mq_flat q).length : Nat) := hR.2.2.2.2.1
  refine b_X3_cuts_0 (fun h1 => ?_) (fun h1 h2 => ?_) (fun h1 h2 => ?_)
  · have : d = 0 := by omega
    subst this
    rw [mq_cut_0] at hQ
    exact hQ s z hR (by show s 2 = s 2 + 0; omega)
  · obtain ⟨A, k, B, rfl, a1, a2⟩ := mq_hold (q := q) (p := d) (by omega)
    have ho := hW.1
    refine ⟨_, _, _, A, k, B, _, rfl, rfl, hR, hW, by omega, by omega, _, rfl, rfl, ?_⟩
    refine b_X3_cuts_20 ⟨_, _, _, _, A.length, _, rfl, rfl, hR, hW, rfl, by simp, _, rfl, rfl, ?_⟩
    rw [mq_take_app]
    have hcut := mq_cut_app (A := A) (B := k :: B) (d := d - (mq_flat A).length) (fun k hk => ho k (by simp [hk]))
    rw [show (mq_flat A).length + (d - (mq_flat A).length) = d by omega] at hcut
    rw [mq_flat_mid, List.length_append, List.length_append] at hfl
    refine b_X3_cuts_26 (fun h3 => ?_) (fun h3 => ?_)
    · refine b_X3_cuts_45 ?_
      rw [hcut, show d - (mq_flat A).length = 0 by omega, mq_cut_0, List.append_nil] at hQ
      exact hQ s z hR (by show s 2 = s 2 + 0; omega)
    · have hcut2 : mq_cut (A ++ k :: B) d = (A ++ [((mq_row k).take (d - (mq_flat A).length), 0, 0)], ((mq_row k).drop (d - (mq_flat A).length), 0, 0) :: B, mq_cost k + ((k.1.length : Int) - (d - (mq_flat A).length : Nat))) := by
        rw [hcut]
        conv => lhs; unfold mq_cut
        rw [if_neg (by omega), if_pos (by omega)]
      rw [hcut2] at hQ
      refine ⟨_, _, _, A, k, B, _, rfl, rfl, hR, hW, rfl, fun s1 z1 hr1 hw1 => ⟨s1, z1, g, rfl, rfl, ?_⟩⟩
      refine b_X3_cuts_37 ⟨_, _, _, A, mq_row k, B, d - (mq_flat A).length, _, _, rfl, rfl, hr1, mq_W_settle hW, rfl, by omega, by omega, by rw [mq_row_len]; omega, fun s2 hr2 hw2 => ⟨s2, z1, g, rfl, rfl, ?_⟩⟩
      refine b_X3_cuts_45 (hQ s2 z1 (by simpa using hr2) ?_)
      rw [mq_row_len] at hw2
      dsimp only
      omega
  · have : d = (mq_flat q).length := by omega
    subst this
    rw [mq_cut_end hW.1] at hQ
    exact hQ s z (by simpa using hR) (by show s 2 = s 2 + 0; omega)
theorem mt_X3_cuts (l : Launch) : ab_MT l mi_X3_cuts sp_X3_cuts := ab_MT.of (own := "RootChunksModel") (E := E_X3_cuts) (P := P_X3_cuts) (M := M_X3_cuts) (nL := 4) (ty := 9) (by decide) rfl rfl tk_X3 pk_X3_cuts ck_X3_cuts (ab_CT'.cons (mt_X3_chunkAt l) (ab_CT'.cons (mt_X3_startOf l) (ab_CT'.cons (mt_X3_carries l) (ab_CT'.cons (mt_X3_parts l) ab_CT'.nil)))) (fun av cs Q h => vc_X3_cuts h)
theorem vc_X3_chunkFrom {av : List ab_V} {cs : List ab_C} {Q : ab_Q} (h : sp_X3_chunkFrom av cs Q) : (ab_lv0 av).length ≤ 3 ∧ ab_R E_X3_chunkFrom P_X3_chunkFrom Q 0 (ab_ent av 3) [] cs := by
  obtain ⟨s, z, g, A, B, p, rfl, rfl, hR, hW, hp, hQ⟩ := h
  refine ⟨Nat.le_of_ble_eq_true rfl, ?_⟩
  have hcl := hW.chunks
  have hfl := hW.2
  have hn : s 1 = ((A ++ B).length : Nat) := hR.2.2.2.2.2
  rw [List.length_append] at hcl hn
  rw [mq_flat_app, List.length_append] at hfl
  have loop : ∀ (d i : Nat) (x : Int), d + i = A.length → x = i → ab_R E_X3_chunkFrom P_X3_chunkFrom Q 2 [some (.inr (.inl (some 0))), some (.inl p), some (.inl x)] [] (md_cs s z g) := by
    intro d
    induction d with
    | zero =>
      intro i x h1 h2
      have e : i = A.length := by omega
      subst e
      refine b_X3_chunkFrom_2 (fun _ => ?_) (fun _ => ?_)
      · rw [h2]; exact hQ
      · refine ⟨_, _, _, _, A.length, _, rfl, rfl, hR, hW, h2, by simp, _, rfl, rfl, ?_⟩
        rw [List.take_left]
        refine b_X3_chunkFrom_17 (fun _ => ?_) (fun _ => by omega)
        rw [h2]; exact hQ
    | succ d ih =>
      intro i x h1 h2
      refine b_X3_chunkFrom_2 (fun _ => by omega) (fun _ => ?_)
      refine ⟨_, _, _, _, i, _, rfl, rfl, hR, hW, h2, by simp; omega, _, rfl, rfl, ?_⟩
      have e3 : (mq_flat ((A ++ B).take i)).length < (mq_flat A).length := by
        rw [List.take_append_of_le_length (by omega)]
        obtain ⟨kk, hkk, e⟩ := mq_split (q := A) (c := i) (by omega)
        have e2 := mq_take_succ hkk
        have h0 := (hW.1 kk (List.mem_append_left _ (List.mem_of_getElem? hkk))).1
        have := mq_take_le A (i + 1)
        omega
      exact b_X3_chunkFrom_17 (fun _ => by omega) (fun _ => ih (i + 1) _ (by omega) (by omega))
  exact b_X3_chunkFrom_0 (loop A.length 0 0 (by omega) rfl)
theorem mt_X3_chunkFrom (l : Launch) : ab_MT l mi_X3_chunkFrom sp_X3_chunkFrom := ab_MT.of (own := "RootChunksModel") (E := E_X3_chunkFrom) (P := P_X3_chunkFrom) (M := M_X3_chunkFrom) (nL := 3) (ty := 0) (by decide) rfl rfl tk_X3 pk_X3_chunkFrom ck_X3_chunkFrom (ab_CT'.cons (mt_X3_startOf l) ab_CT'.nil) (fun av cs Q h => vc_X3_chunkFrom h)
theorem vc_X3_root {av : List ab_V} {cs : List ab_C} {Q : ab_Q} (h : sp_X3_root av cs Q) : (ab_lv0 av).length ≤ 2 ∧ ab_R E_X3_root P_X3_root Q 0 (ab_ent av 2) [] cs := by
  obtain ⟨s, z, g, q, rfl, rfl, hR, hW, hQ⟩ := h
  refine ⟨Nat.le_of_ble_eq_true rfl, ?_⟩
  have hfl := hW.2
  have hn : s 0 = ((mq_flat q).length : Nat) := hR.2.2.2.2.1
  generalize (mq_flat q).length = y at hfl hn hQ
  have fin : ∀ x : Int, x = (mq_rt y : Int) → Q (some (.inl x)) (md_cs s z g) := fun x e => by rw [e]; exact hQ
  have f7 : ∀ x : Int, x = 7 → 49 ≤ y → ab_R E_X3_root P_X3_root Q 2 [some (.inr (.inl (some 0))), some (.inl x)] [] (md_cs s z g) := by
    intro x e g; subst e
    exact b_X3_root_2 (fun _ => fin _ (mq_rt_is (by omega))) (fun _ => by omega)
  have f6 : ∀ x : Int, x = 6 → 36 ≤ y → ab_R E_X3_root P_X3_root Q 2 [some (.inr (.inl (some 0))), some (.inl x)] [] (md_cs s z g) := by
    intro x e g; subst e
    exact b_X3_root_2 (fun _ => fin _ (mq_rt_is (by omega))) (fun _ => f7 _ (by omega) (by omega))
  have f5 : ∀ x : Int, x = 5 → 25 ≤ y → ab_R E_X3_root P_X3_root Q 2 [some (.inr (.inl (some 0))), some (.inl x)] [] (md_cs s z g) := by
    intro x e g; subst e
    exact b_X3_root_2 (fun _ => fin _ (mq_rt_is (by omega))) (fun _ => f6 _ (by omega) (by omega))
  have f4 : ∀ x : Int, x = 4 → 16 ≤ y → ab_R E_X3_root P_X3_root Q 2 [some (.inr (.inl (some 0))), some (.inl x)] [] (md_cs s z g) := by
    intro x e g; subst e
    exact b_X3_root_2 (fun _ => fin _ (mq_rt_is (by omega))) (fun _ => f5 _ (by omega) (by omega))
  have f3 : ∀ x : Int, x = 3 → 9 ≤ y → ab_R E_X3_root P_X3_root Q 2 [some (.inr (.inl (some 0))), some (.inl x)] [] (md_cs s z g) := by
    intro x e g; subst e
    exact b_X3_root_2 (fun _ => fin _ (mq_rt_is (by omega))) (fun _ => f4 _ (by omega) (by omega))
  have f2 : ∀ x : Int, x = 2 → 4 ≤ y → ab_R E_X3_root P_X3_root Q 2 [some (.inr (.inl (some 0))), some (.inl x)] [] (md_cs s z g) := by
    intro x e g; subst e
    exact b_X3_root_2 (fun _ => fin _ (mq_rt_is (by omega))) (fun _ => f3 _ (by omega) (by omega))
  refine b_X3_root_0 ?_
  exact b_X3_root_2 (fun _ => fin _ (mq_rt_is (by omega))) (fun _ => f2 _ (by omega) (by omega))
theorem mt_X3_root (l : Launch) : ab_MT l mi_X3_root sp_X3_root := ab_MT.of (own := "RootChunksModel") (E := E_X3_root) (P := P_X3_root) (M := M_X3_root) (nL := 2) (ty := 0) (by decide) rfl rfl tk_X3 pk_X3_root ck_X3_root ab_CT'.nil (fun av cs Q h => vc_X3_root h)
end
section
/-! THE REFERENCE: reordered, evened out, changed -/
def sp_X3_reorders : ab_Sp := fun av cs Q => ∃ (s : Int → Int) (od nk nl nt ns : Int → Int) (g : mg_T) (q q' : List mq_K), av = [.inr (.inl (some 0))] ∧ cs = md_cs s (od, nk, nl, nt, ns) g ∧ mq_R (md_v s) q ∧ mq_W q ∧ q'.length = q.length ∧ (mq_flat q').length = (mq_flat q).length ∧ (∀ i : Nat, i < q.length → ∃ c : Nat, od i = c ∧ c < q.length ∧ q'[i]? = q[c]?) ∧
  ∀ (s' : Int → Int) (z' : mc_T), mq_R (md_v s') q' → s' 2 = s 2 → Q none (md_cs s' z' g)
def sp_X3_evens : ab_Sp := fun av cs Q => ∃ (s : Int → Int) (z : mc_T) (g : mg_T) (q : List mq_K), av = [.inr (.inl (some 0))] ∧ cs = md_cs s z g ∧ mq_R (md_v s) q ∧ mq_W q ∧
  ∀ (s' : Int → Int) (z' : mc_T), mq_R (md_v s') (mq_ev q).1 → s' 2 = s 2 + (mq_ev q).2 → Q none (md_cs s' z' g)
-- ===== RootChunksModel.reorders
def P_X3_reorders : List ab_I := [(0, .iconst 0, 1, []), (1, .istore_n 1, 2, []), (2, .iconst 0, 3, []), (3, .istore_n 2, 4, []), (4, .iload_n 2, 5, []), (5, .aload_n 0, 6, []), (6, .getfield 7, 9, []), (9, .iconst 1, 10, []), (10, .iaload, 11, []), (11, .if_icmp .ge 113, 14, [((0 : Int), 124)]), (14, .aload_n 0, 15, []), (15, .getfield 29, 18, []), (18, .iload_n 2, 19, []), (19, .iaload, 20, []), (20, .istore_n 3, 21, []), (21, .aload_n 0, 22, []), (22, .iload_n 3, 23, []), (23, .invokevirtual 58, 26, []), (26, .istore 4, 28, []), (28, .iconst 0, 29, []), (29, .istore 5, 31, []), (31, .iload 5, 33, []), (33, .aload_n 0, 34, []), (34, .getfield 7, 37, []), (37, .bipush 63, 39, []), (39, .iload_n 3, 40, []), (40, .iadd, 41, []), (41, .iaload, 42, []), (42, .if_icmp .ge 30, 45, [((0 : Int), 72)]), (45, .aload_n 0, 46, []), (46, .getfield 32, 49, []), (49, .iload_n 1, 50, []), (50, .aload_n 0, 51, []), (51, .getfield 7, 54, []), (54, .iconst 3, 55, []), (55, .iload 4, 57, []), (57, .iadd, 58, []), (58, .iload 5, 60, []), (60, .iadd, 61, []), (61, .iaload, 62, []), (62, .iastore, 63, []), (63, .iinc 1 1, 66, []), (66, .iinc 5 1, 69, []), (69, .goto (-38), 72, [((0 : Int), 31)]), (72, .aload_n 0, 73, []), (73, .getfield 35, 76, []), (76, .iload_n 2, 77, []), (77, .aload_n 0, 78, []), (78, .getfield 7, 81, []), (81, .bipush 63, 83, []), (83, .iload_n 3, 84, []), (84, .iadd, 85, []), (85, .iaload, 86, []), (86, .iastore, 87, []), (87, .aload_n 0, 88, []), (88, .getfield 38, 91, []), (91, .iload_n 2, 92, []), (92, .aload_n 0, 93, []), (93, .getfield 7, 96, []), (96, .bipush 127, 98, []), (98, .iload_n 3, 99, []), (99, .iadd, 100, []), (100, .iaload, 101, []), (101, .iastore, 102, []), (102, .aload_n 0, 103, []), (103, .getfield 41, 106, []), (106, .iload_n 2, 107, []), (107, .aload_n 0, 108, []), (108, .getfield 7, 111, []), (111, .sipush 191, 114, []), (114, .iload_n 3, 115, []), (115, .iadd, 116, []), (116, .iaload, 117, []), (117, .iastore, 118, []), (118, .iinc 2 1, 121, []), (121, .goto (-117), 124, [((0 : Int), 4)]), (124, .iconst 0, 125, []), (125, .istore_n 2, 126, []), (126, .iload_n 2, 127, []), (127, .iload_n 1, 128, []), (128, .if_icmp .ge 23, 131, [((0 : Int), 151)]), (131, .aload_n 0, 132, []), (132, .getfield 7, 135, []), (135, .iconst 3, 136, []), (136, .iload_n 2, 137, []), (137, .iadd, 138, []), (138, .aload_n 0, 139, []), (139, .getfield 32, 142, []), (142, .iload_n 2, 143, []), (143, .iaload, 144, []), (144, .iastore, 145, []), (145, .iinc 2 1, 148, []), (148, .goto (-22), 151, [((0 : Int), 126)]), (151, .iconst 0, 152, []), (152, .istore_n 2, 153, []), (153, .iload_n 2, 154, []), (154, .aload_n 0, 155, []), (155, .getfield 7, 158, []), (158, .iconst 1, 159, []), (159, .iaload, 160, []), (160, .if_icmp .ge 55, 163, [((0 : Int), 215)]), (163, .aload_n 0, 164, []), (164, .getfield 7, 167, []), (167, .bipush 63, 169, []), (169, .iload_n 2, 170, []), (170, .iadd, 171, []), (171, .aload_n 0, 172, []), (172, .getfield 35, 175, []), (175, .iload_n 2, 176, []), (176, .iaload, 177, []), (177, .iastore, 178, []), (178, .aload_n 0, 179, []), (179, .getfield 7, 182, []), (182, .bipush 127, 184, []), (184, .iload_n 2, 185, []), (185, .iadd, 186, []), (186, .aload_n 0, 187, []), (187, .getfield 38, 190, []), (190, .iload_n 2, 191, []), (191, .iaload, 192, []), (192, .iastore, 193, []), (193, .aload_n 0, 194, []), (194, .getfield 7, 197, []), (197, .sipush 191, 200, []), (200, .iload_n 2, 201, []), (201, .iadd, 202, []), (202, .aload_n 0, 203, []), (203, .getfield 41, 206, []), (206, .iload_n 2, 207, []), (207, .iaload, 208, []), (208, .iastore, 209, []), (209, .iinc 2 1, 212, []), (212, .goto (-59), 215, [((0 : Int), 153)]), (215, .return_, 216, [])]
def E_X3_reorders : ab_E := (T_X3, [(23, (2, 3, [], 0, sp_X3_startOf))], [], 9)
def M_X3_reorders : List (Nat × ab_MI) := [(23, mi_X3_startOf)]
def mi_X3_reorders : ab_MI := (yX3_reorders, cX3_reorders, 6, ab_rty 9, 2, 93)
theorem pk_X3_reorders : P_X3_reorders.all (ab_okI cX3_reorders) = true := by decide +kernel
theorem ck_X3_reorders : P_X3_reorders.all (ab_okC1 "RootChunksModel" M_X3_reorders E_X3_reorders (2, 93)) = true := by decide +kernel
set_option maxRecDepth 100000 in
theorem b_X3_reorders_0 {Q : ab_Q} {s_ : Int → Int} {z_od : Int → Int} {z_nk : Int → Int} {z_nl : Int → Int} {z_nt : Int → Int} {z_ns : Int → Int} {g_ : mg_T} (l1 : ab_R E_X3_reorders P_X3_reorders Q 4 [some (.inr (.inl (some 0))), some (.inl 0), some (.inl 0), none, none, none] [] (md_cs s_ (z_od, z_nk, z_nl, z_nt, z_ns) g_))  : ab_R E_X3_reorders P_X3_reorders Q 0 [some (.inr (.inl (some 0))), none, none, none, none, none] [] (md_cs s_ (z_od, z_nk, z_nl, z_nt, z_ns) g_) :=
  ab_R.steps [4, 26, 31, 126, 153] 6 (show ab_R E_X3_reorders P_X3_reorders Q 4 [some (.inr (.inl (some 0))), some (.inl 0), some (.inl 0), none, none, none] [] (md_cs s_ (z_od, z_nk, z_nl, z_nt, z_ns) g_) from l1)
set_option maxRecDepth 100000 in
theorem b_X3_reorders_4 {Q : ab_Q} {to : Int} {k : Int} {s_ : Int → Int} {z_od : Int → Int} {z_nk : Int → Int} {z_nl : Int → Int} {z_nt : Int → Int} {z_ns : Int → Int} {g_ : mg_T} (l1 : (s_ 1) ≤ k → ab_R E_X3_reorders P_X3_reorders Q 126 [some (.inr (.inl (some 0))), some (.inl to), some (.inl 0), none, none, none] [] (md_cs s_ (z_od, z_nk, z_nl, z_nt, z_ns) g_)) (l2 : k < (s_ 1) → sp_X3_startOf [.inr (.inl (some 0)), .inl (z_od k)] (md_cs s_ (z_od, z_nk, z_nl, z_nt, z_ns) g_) (fun r_ k_ => ∃ (x_ : Int), r_ = some (.inl x_) ∧ k_ = (md_cs s_ (z_od, z_nk, z_nl, z_nt, z_ns) g_) ∧ ab_R E_X3_reorders P_X3_reorders Q 26 [some (.inr (.inl (some 0))), some (.inl to), some (.inl k), some (.inl (z_od k)), none, none] [.inl x_] (md_cs s_ (z_od, z_nk, z_nl, z_nt, z_ns) g_))) (p1 : (0 ≤ (1 : Int) ∧ (1 : Int) < 255) := by intros; (try unfold ab_r); omega) (p2 : (ab_r k ∧ ab_r (s_ 1)) := by intros; (try unfold ab_r); omega) (p3 : k < (s_ 1) → (0 ≤ k ∧ k < 64) := by intros; (try unfold ab_r); omega) : ab_R E_X3_reorders P_X3_reorders Q 4 [some (.inr (.inl (some 0))), some (.inl to), some (.inl k), none, none, none] [] (md_cs s_ (z_od, z_nk, z_nl, z_nt, z_ns) g_) :=
  ab_R.steps [4, 26, 31, 126, 153] 15 (show ((0 ≤ (1 : Int) ∧ (1 : Int) < 255) ∧ ((ab_r k ∧ ab_r (s_ 1)) ∧ (((s_ 1) ≤ k → ab_R E_X3_reorders P_X3_reorders Q 126 [some (.inr (.inl (some 0))), some (.inl to), some (.inl 0), none, none, none] [] (md_cs s_ (z_od, z_nk, z_nl, z_nt, z_ns) g_)) ∧ (k < (s_ 1) → ((0 ≤ k ∧ k < 64) ∧ ab_cl sp_X3_startOf [.inr (.inl (some 0)), .inl (z_od k)] (md_cs s_ (z_od, z_nk, z_nl, z_nt, z_ns) g_) (fun r_ k_ => k_.length = ((md_cs s_ (z_od, z_nk, z_nl, z_nt, z_ns) g_)).length → ab_R E_X3_reorders P_X3_reorders Q 26 [some (.inr (.inl (some 0))), some (.inl to), some (.inl k), some (.inl (z_od k)), none, none] (ab_ret r_ []) k_)))))) from ⟨p1, ⟨p2, ⟨fun h1 => (l1 h1), fun h2 => ⟨(p3 h2), ⟨_, (l2 h2), fun r_ k_ hz _ => by obtain ⟨x_, rfl, rfl, hR⟩ := hz; exact hR⟩⟩⟩⟩⟩)
set_option maxRecDepth 100000 in
theorem b_X3_reorders_26 {Q : ab_Q} {to : Int} {k : Int} {c : Int} {t0 : Int} {s_ : Int → Int} {z_od : Int → Int} {z_nk : Int → Int} {z_nl : Int → Int} {z_nt : Int → Int} {z_ns : Int → Int} {g_ : mg_T} (l1 : ab_R E_X3_reorders P_X3_reorders Q 31 [some (.inr (.inl (some 0))), some (.inl to), some (.inl k), some (.inl c), some (.inl t0), some (.inl 0)] [] (md_cs s_ (z_od, z_nk, z_nl, z_nt, z_ns) g_))  : ab_R E_X3_reorders P_X3_reorders Q 26 [some (.inr (.inl (some 0))), some (.inl to), some (.inl k), some (.inl c), none, none] [.inl t0] (md_cs s_ (z_od, z_nk, z_nl, z_nt, z_ns) g_) :=
  ab_R.steps [4, 26, 31, 126, 153] 5 (show ab_R E_X3_reorders P_X3_reorders Q 31 [some (.inr (.inl (some 0))), some (.inl to), some (.inl k), some (.inl c), some (.inl t0), some (.inl 0)] [] (md_cs s_ (z_od, z_nk, z_nl, z_nt, z_ns) g_) from l1)
set_option maxRecDepth 100000 in
theorem b_X3_reorders_31 {Q : ab_Q} {to : Int} {k : Int} {c : Int} {st : Int} {i : Int} {s_ : Int → Int} {z_od : Int → Int} {z_nk : Int → Int} {z_nl : Int → Int} {z_nt : Int → Int} {z_ns : Int → Int} {g_ : mg_T} (l1 : (s_ (63 + c)) ≤ i → ab_R E_X3_reorders P_X3_reorders Q 4 [some (.inr (.inl (some 0))), some (.inl to), some (.inl (k + 1)), none, none, none] [] (md_cs s_ (z_od, z_nk, (ab_up z_nl k (s_ (63 + c))), (ab_up z_nt k (s_ (127 + c))), (ab_up z_ns k (s_ (191 + c)))) g_)) (l2 : i < (s_ (63 + c)) → ab_R E_X3_reorders P_X3_reorders Q 31 [some (.inr (.inl (some 0))), some (.inl (to + 1)), some (.inl k), some (.inl c), some (.inl st), some (.inl (i + 1))] [] (md_cs s_ (z_od, (ab_up z_nk to (s_ ((3 + st) + i))), z_nl, z_nt, z_ns) g_)) (p1 : (0 ≤ (63 + c) ∧ (63 + c) < 255) := by intros; (try unfold ab_r); omega) (p2 : (ab_r i ∧ ab_r (s_ (63 + c))) := by intros; (try unfold ab_r); omega) (p3 : (s_ (63 + c)) ≤ i → (0 ≤ (63 + c) ∧ (63 + c) < 255) := by intros; (try unfold ab_r); omega) (p4 : (s_ (63 + c)) ≤ i → (0 ≤ k ∧ k < 64) := by intros; (try unfold ab_r); omega) (p5 : (s_ (63 + c)) ≤ i → (0 ≤ (127 + c) ∧ (127 + c) < 255) := by intros; (try unfold ab_r); omega) (p6 : (s_ (63 + c)) ≤ i → (0 ≤ (191 + c) ∧ (191 + c) < 255) := by intros; (try unfold ab_r); omega) (p7 : i < (s_ (63 + c)) → (0 ≤ ((3 + st) + i) ∧ ((3 + st) + i) < 255) := by intros; (try unfold ab_r); omega) (p8 : i < (s_ (63 + c)) → (0 ≤ to ∧ to < 64) := by intros; (try unfold ab_r); omega) : ab_R E_X3_reorders P_X3_reorders Q 31 [some (.inr (.inl (some 0))), some (.inl to), some (.inl k), some (.inl c), some (.inl st), some (.inl i)] [] (md_cs s_ (z_od, z_nk, z_nl, z_nt, z_ns) g_) :=
  ab_R.steps [4, 26, 31, 126, 153] 42 (show ((0 ≤ (63 + c) ∧ (63 + c) < 255) ∧ ((ab_r i ∧ ab_r (s_ (63 + c))) ∧ (((s_ (63 + c)) ≤ i → ((0 ≤ (63 + c) ∧ (63 + c) < 255) ∧ ((0 ≤ k ∧ k < 64) ∧ ((0 ≤ (127 + c) ∧ (127 + c) < 255) ∧ ((0 ≤ k ∧ k < 64) ∧ ((0 ≤ (191 + c) ∧ (191 + c) < 255) ∧ ((0 ≤ k ∧ k < 64) ∧ ab_R E_X3_reorders P_X3_reorders Q 4 [some (.inr (.inl (some 0))), some (.inl to), some (.inl (k + 1)), some (.inl c), some (.inl st), some (.inl i)] [] (md_cs s_ (z_od, z_nk, (ab_up z_nl k (s_ (63 + c))), (ab_up z_nt k (s_ (127 + c))), (ab_up z_ns k (s_ (191 + c)))) g_)))))))) ∧ (i < (s_ (63 + c)) → ((0 ≤ ((3 + st) + i) ∧ ((3 + st) + i) < 255) ∧ ((0 ≤ to ∧ to < 64) ∧ ab_R E_X3_reorders P_X3_reorders Q 31 [some (.inr (.inl (some 0))), some (.inl (to + 1)), some (.inl k), some (.inl c), some (.inl st), some (.inl (i + 1))] [] (md_cs s_ (z_od, (ab_up z_nk to (s_ ((3 + st) + i))), z_nl, z_nt, z_ns) g_))))))) from ⟨p1, ⟨p2, ⟨fun h1 => ⟨(p3 h1), ⟨(p4 h1), ⟨(p5 h1), ⟨(p4 h1), ⟨(p6 h1), ⟨(p4 h1), (ab_R.fg 3 rfl (ab_R.fg 4 rfl (ab_R.fg 5 rfl (l1 h1))))⟩⟩⟩⟩⟩⟩, fun h2 => ⟨(p7 h2), ⟨(p8 h2), (l2 h2)⟩⟩⟩⟩⟩)
set_option maxRecDepth 100000 in
theorem b_X3_reorders_126 {Q : ab_Q} {to : Int} {k : Int} {s_ : Int → Int} {z_od : Int → Int} {z_nk : Int → Int} {z_nl : Int → Int} {z_nt : Int → Int} {z_ns : Int → Int} {g_ : mg_T} (l1 : to ≤ k → ab_R E_X3_reorders P_X3_reorders Q 153 [some (.inr (.inl (some 0))), some (.inl to), some (.inl 0), none, none, none] [] (md_cs s_ (z_od, z_nk, z_nl, z_nt, z_ns) g_)) (l2 : k < to → ab_R E_X3_reorders P_X3_reorders Q 126 [some (.inr (.inl (some 0))), some (.inl to), some (.inl (k + 1)), none, none, none] [] (md_cs ((ab_up s_ (3 + k) (z_nk k))) (z_od, z_nk, z_nl, z_nt, z_ns) g_)) (p1 : (ab_r k ∧ ab_r to) := by intros; (try unfold ab_r); omega) (p2 : k < to → (0 ≤ k ∧ k < 64) := by intros; (try unfold ab_r); omega) (p3 : k < to → (0 ≤ (3 + k) ∧ (3 + k) < 255) := by intros; (try unfold ab_r); omega) : ab_R E_X3_reorders P_X3_reorders Q 126 [some (.inr (.inl (some 0))), some (.inl to), some (.inl k), none, none, none] [] (md_cs s_ (z_od, z_nk, z_nl, z_nt, z_ns) g_) :=
  ab_R.steps [4, 26, 31, 126, 153] 17 (show ((ab_r k ∧ ab_r to) ∧ ((to ≤ k → ab_R E_X3_reorders P_X3_reorders Q 153 [some (.inr (.inl (some 0))), some (.inl to), some (.inl 0), none, none, none] [] (md_cs s_ (z_od, z_nk, z_nl, z_nt, z_ns) g_)) ∧ (k < to → ((0 ≤ k ∧ k < 64) ∧ ((0 ≤ (3 + k) ∧ (3 + k) < 255) ∧ ab_R E_X3_reorders P_X3_reorders Q 126 [some (.inr (.inl (some 0))), some (.inl to), some (.inl (k + 1)), none, none, none] [] (md_cs ((ab_up s_ (3 + k) (z_nk k))) (z_od, z_nk, z_nl, z_nt, z_ns) g_)))))) from ⟨p1, ⟨fun h1 => (l1 h1), fun h2 => ⟨(p2 h2), ⟨(p3 h2), (l2 h2)⟩⟩⟩⟩)
set_option maxRecDepth 100000 in
theorem b_X3_reorders_153 {Q : ab_Q} {to : Int} {k : Int} {s_ : Int → Int} {z_od : Int → Int} {z_nk : Int → Int} {z_nl : Int → Int} {z_nt : Int → Int} {z_ns : Int → Int} {g_ : mg_T} (l1 : (s_ 1) ≤ k → Q none (md_cs s_ (z_od, z_nk, z_nl, z_nt, z_ns) g_)) (l2 : k < (s_ 1) → ab_R E_X3_reorders P_X3_reorders Q 153 [some (.inr (.inl (some 0))), some (.inl to), some (.inl (k + 1)), none, none, none] [] (md_cs ((ab_up (ab_up (ab_up s_ (63 + k) (z_nl k)) (127 + k) (z_nt k)) (191 + k) (z_ns k))) (z_od, z_nk, z_nl, z_nt, z_ns) g_)) (p1 : (0 ≤ (1 : Int) ∧ (1 : Int) < 255) := by intros; (try unfold ab_r); omega) (p2 : (ab_r k ∧ ab_r (s_ 1)) := by intros; (try unfold ab_r); omega) (p3 : k < (s_ 1) → (0 ≤ k ∧ k < 64) := by intros; (try unfold ab_r); omega) (p4 : k < (s_ 1) → (0 ≤ (63 + k) ∧ (63 + k) < 255) := by intros; (try unfold ab_r); omega) (p5 : k < (s_ 1) → (0 ≤ (127 + k) ∧ (127 + k) < 255) := by intros; (try unfold ab_r); omega) (p6 : k < (s_ 1) → (0 ≤ (191 + k) ∧ (191 + k) < 255) := by intros; (try unfold ab_r); omega) : ab_R E_X3_reorders P_X3_reorders Q 153 [some (.inr (.inl (some 0))), some (.inl to), some (.inl k), none, none, none] [] (md_cs s_ (z_od, z_nk, z_nl, z_nt, z_ns) g_) :=
  ab_R.steps [4, 26, 31, 126, 153] 40 (show ((0 ≤ (1 : Int) ∧ (1 : Int) < 255) ∧ ((ab_r k ∧ ab_r (s_ 1)) ∧ (((s_ 1) ≤ k → Q none (md_cs s_ (z_od, z_nk, z_nl, z_nt, z_ns) g_)) ∧ (k < (s_ 1) → ((0 ≤ k ∧ k < 64) ∧ ((0 ≤ (63 + k) ∧ (63 + k) < 255) ∧ ((0 ≤ k ∧ k < 64) ∧ ((0 ≤ (127 + k) ∧ (127 + k) < 255) ∧ ((0 ≤ k ∧ k < 64) ∧ ((0 ≤ (191 + k) ∧ (191 + k) < 255) ∧ ab_R E_X3_reorders P_X3_reorders Q 153 [some (.inr (.inl (some 0))), some (.inl to), some (.inl (k + 1)), none, none, none] [] (md_cs ((ab_up (ab_up (ab_up s_ (63 + k) (z_nl k)) (127 + k) (z_nt k)) (191 + k) (z_ns k))) (z_od, z_nk, z_nl, z_nt, z_ns) g_))))))))))) from ⟨p1, ⟨p2, ⟨fun h1 => (l1 h1), fun h2 => ⟨(p3 h2), ⟨(p4 h2), ⟨(p3 h2), ⟨(p5 h2), ⟨(p3 h2), ⟨(p6 h2), (l2 h2)⟩⟩⟩⟩⟩⟩⟩⟩⟩)
-- ===== RootChunksModel.evens
def P_X3_evens : List ab_I := [(0, .aload_n 0, 1, []), (1, .invokevirtual 72, 4, []), (4, .istore_n 1, 5, []), (5, .iconst 0, 6, []), (6, .istore_n 2, 7, []), (7, .iload_n 2, 8, []), (8, .aload_n 0, 9, []), (9, .getfield 7, 12, []), (12, .iconst 1, 13, []), (13, .iaload, 14, []), (14, .if_icmp .ge 35, 17, [((0 : Int), 49)]), (17, .aload_n 0, 18, []), (18, .getfield 7, 21, []), (21, .bipush 63, 23, []), (23, .iload_n 2, 24, []), (24, .iadd, 25, []), (25, .iaload, 26, []), (26, .iconst 2, 27, []), (27, .iload_n 1, 28, []), (28, .imul, 29, []), (29, .if_icmp .le 14, 32, [((0 : Int), 43)]), (32, .aload_n 0, 33, []), (33, .iload_n 2, 34, []), (34, .invokevirtual 64, 37, []), (37, .aload_n 0, 38, []), (38, .iload_n 2, 39, []), (39, .iload_n 1, 40, []), (40, .invokevirtual 68, 43, []), (43, .iinc 2 1, 46, []), (46, .goto (-39), 49, [((0 : Int), 7)]), (49, .iconst 0, 50, []), (50, .istore_n 2, 51, []), (51, .iload_n 2, 52, []), (52, .aload_n 0, 53, []), (53, .getfield 7, 56, []), (56, .iconst 1, 57, []), (57, .iaload, 58, []), (58, .iconst 1, 59, []), (59, .isub, 60, []), (60, .if_icmp .ge 108, 63, [((0 : Int), 168)]), (63, .aload_n 0, 64, []), (64, .getfield 7, 67, []), (67, .bipush 63, 69, []), (69, .iload_n 2, 70, []), (70, .iadd, 71, []), (71, .iaload, 72, []), (72, .aload_n 0, 73, []), (73, .getfield 7, 76, []), (76, .bipush 63, 78, []), (78, .iload_n 2, 79, []), (79, .iadd, 80, []), (80, .iconst 1, 81, []), (81, .iadd, 82, []), (82, .iaload, 83, []), (83, .iadd, 84, []), (84, .iload_n 1, 85, []), (85, .if_icmp .gt 77, 88, [((0 : Int), 162)]), (88, .aload_n 0, 89, []), (89, .iload_n 2, 90, []), (90, .invokevirtual 64, 93, []), (93, .aload_n 0, 94, []), (94, .iload_n 2, 95, []), (95, .iconst 1, 96, []), (96, .iadd, 97, []), (97, .invokevirtual 64, 100, []), (100, .aload_n 0, 101, []), (101, .getfield 7, 104, []), (104, .iconst 2, 105, []), (105, .dup2, 106, []), (106, .iaload, 107, []), (107, .aload_n 0, 108, []), (108, .getfield 7, 111, []), (111, .bipush 63, 113, []), (113, .iload_n 2, 114, []), (114, .iadd, 115, []), (115, .iconst 1, 116, []), (116, .iadd, 117, []), (117, .iaload, 118, []), (118, .iadd, 119, []), (119, .iastore, 120, []), (120, .aload_n 0, 121, []), (121, .getfield 7, 124, []), (124, .bipush 63, 126, []), (126, .iload_n 2, 127, []), (127, .iadd, 128, []), (128, .iaload, 129, []), (129, .aload_n 0, 130, []), (130, .getfield 7, 133, []), (133, .bipush 63, 135, []), (135, .iload_n 2, 136, []), (136, .iadd, 137, []), (137, .iconst 1, 138, []), (138, .iadd, 139, []), (139, .iaload, 140, []), (140, .iadd, 141, []), (141, .istore_n 3, 142, []), (142, .aload_n 0, 143, []), (143, .iload_n 2, 144, []), (144, .iconst 1, 145, []), (145, .iadd, 146, []), (146, .invokevirtual 76, 149, []), (149, .aload_n 0, 150, []), (150, .getfield 7, 153, []), (153, .bipush 63, 155, []), (155, .iload_n 2, 156, []), (156, .iadd, 157, []), (157, .iload_n 3, 158, []), (158, .iastore, 159, []), (159, .goto (-108), 162, [((0 : Int), 51)]), (162, .iinc 2 1, 165, []), (165, .goto (-114), 168, [((0 : Int), 51)]), (168, .return_, 169, [])]
def E_X3_evens : ab_E := (T_X3, [(1, (1, 3, [], 0, sp_X3_root)), (34, (2, 3, [], 0, sp_X3_carries)), (40, (3, 3, [], 0, sp_X3_parts)), (90, (2, 3, [], 0, sp_X3_carries)), (97, (2, 3, [], 0, sp_X3_carries)), (146, (2, 3, [], 0, sp_X3_closes))], [], 9)
def M_X3_evens : List (Nat × ab_MI) := [(1, mi_X3_root), (34, mi_X3_carries), (40, mi_X3_parts), (90, mi_X3_carries), (97, mi_X3_carries), (146, mi_X3_closes)]
def mi_X3_evens : ab_MI := (yX3_evens, cX3_evens, 4, ab_rty 9, 4, 141)
theorem pk_X3_evens : P_X3_evens.all (ab_okI cX3_evens) = true := by decide +kernel
theorem ck_X3_evens : P_X3_evens.all (ab_okC1 "RootChunksModel" M_X3_evens E_X3_evens (4, 141)) = true := by decide +kernel
set_option maxRecDepth 100000 in
theorem b_X3_evens_0 {Q : ab_Q} {s_ : Int → Int} {z_ : mc_T} {g_ : mg_T} (l1 : sp_X3_root [.inr (.inl (some 0))] (md_cs s_ z_ g_) (fun r_ k_ => ∃ (x_ : Int), r_ = some (.inl x_) ∧ k_ = (md_cs s_ z_ g_) ∧ ab_R E_X3_evens P_X3_evens Q 4 [some (.inr (.inl (some 0))), none, none, none] [.inl x_] (md_cs s_ z_ g_)))  : ab_R E_X3_evens P_X3_evens Q 0 [some (.inr (.inl (some 0))), none, none, none] [] (md_cs s_ z_ g_) :=
  ab_R.steps [4, 7, 37, 43, 51, 93, 100, 149] 3 (show ab_cl sp_X3_root [.inr (.inl (some 0))] (md_cs s_ z_ g_) (fun r_ k_ => k_.length = ((md_cs s_ z_ g_)).length → ab_R E_X3_evens P_X3_evens Q 4 [some (.inr (.inl (some 0))), none, none, none] (ab_ret r_ []) k_) from ⟨_, l1, fun r_ k_ hz _ => by obtain ⟨x_, rfl, rfl, hR⟩ := hz; exact hR⟩)
set_option maxRecDepth 100000 in
theorem b_X3_evens_4 {Q : ab_Q} {t0 : Int} {s_ : Int → Int} {z_ : mc_T} {g_ : mg_T} (l1 : ab_R E_X3_evens P_X3_evens Q 7 [some (.inr (.inl (some 0))), some (.inl t0), some (.inl 0), none] [] (md_cs s_ z_ g_))  : ab_R E_X3_evens P_X3_evens Q 4 [some (.inr (.inl (some 0))), none, none, none] [.inl t0] (md_cs s_ z_ g_) :=
  ab_R.steps [4, 7, 37, 43, 51, 93, 100, 149] 5 (show ab_R E_X3_evens P_X3_evens Q 7 [some (.inr (.inl (some 0))), some (.inl t0), some (.inl 0), none] [] (md_cs s_ z_ g_) from l1)
set_option maxRecDepth 100000 in
theorem b_X3_evens_7 {Q : ab_Q} {rt : Int} {c : Int} {s_ : Int → Int} {z_ : mc_T} {g_ : mg_T} (l1 : (s_ 1) ≤ c → ab_R E_X3_evens P_X3_evens Q 51 [some (.inr (.inl (some 0))), some (.inl rt), some (.inl 0), none] [] (md_cs s_ z_ g_)) (l2 : c < (s_ 1) → (s_ (63 + c)) ≤ (2 * rt) → ab_R E_X3_evens P_X3_evens Q 43 [some (.inr (.inl (some 0))), some (.inl rt), some (.inl c), none] [] (md_cs s_ z_ g_)) (l3 : c < (s_ 1) → (2 * rt) < (s_ (63 + c)) → sp_X3_carries [.inr (.inl (some 0)), .inl c] (md_cs s_ z_ g_) (fun r_ k_ => ∃ (s_' : Int → Int), ∃ (z_' : mc_T), ∃ (g_' : mg_T), r_ = none ∧ k_ = (md_cs (s_') z_' g_') ∧ ab_R E_X3_evens P_X3_evens Q 37 [some (.inr (.inl (some 0))), some (.inl rt), some (.inl c), none] [] (md_cs (s_') z_' g_'))) (p1 : (0 ≤ (1 : Int) ∧ (1 : Int) < 255) := by intros; (try unfold ab_r); omega) (p2 : (ab_r c ∧ ab_r (s_ 1)) := by intros; (try unfold ab_r); omega) (p3 : c < (s_ 1) → (0 ≤ (63 + c) ∧ (63 + c) < 255) := by intros; (try unfold ab_r); omega) (p4 : c < (s_ 1) → (ab_r (s_ (63 + c)) ∧ ab_r (2 * rt)) := by intros; (try unfold ab_r); omega) : ab_R E_X3_evens P_X3_evens Q 7 [some (.inr (.inl (some 0))), some (.inl rt), some (.inl c), none] [] (md_cs s_ z_ g_) :=
  ab_R.steps [4, 7, 37, 43, 51, 93, 100, 149] 20 (show ((0 ≤ (1 : Int) ∧ (1 : Int) < 255) ∧ ((ab_r c ∧ ab_r (s_ 1)) ∧ (((s_ 1) ≤ c → ab_R E_X3_evens P_X3_evens Q 51 [some (.inr (.inl (some 0))), some (.inl rt), some (.inl 0), none] [] (md_cs s_ z_ g_)) ∧ (c < (s_ 1) → ((0 ≤ (63 + c) ∧ (63 + c) < 255) ∧ ((ab_r (s_ (63 + c)) ∧ ab_r (2 * rt)) ∧ (((s_ (63 + c)) ≤ (2 * rt) → ab_R E_X3_evens P_X3_evens Q 43 [some (.inr (.inl (some 0))), some (.inl rt), some (.inl c), none] [] (md_cs s_ z_ g_)) ∧ ((2 * rt) < (s_ (63 + c)) → ab_cl sp_X3_carries [.inr (.inl (some 0)), .inl c] (md_cs s_ z_ g_) (fun r_ k_ => k_.length = ((md_cs s_ z_ g_)).length → ab_R E_X3_evens P_X3_evens Q 37 [some (.inr (.inl (some 0))), some (.inl rt), some (.inl c), none] (ab_ret r_ []) k_))))))))) from ⟨p1, ⟨p2, ⟨fun h1 => (l1 h1), fun h2 => ⟨(p3 h2), ⟨(p4 h2), ⟨fun h3 => (l2 h2 h3), fun h4 => ⟨_, (l3 h2 h4), fun r_ k_ hz _ => by obtain ⟨s_', z_', g_', rfl, rfl, hR⟩ := hz; exact hR⟩⟩⟩⟩⟩⟩⟩)
set_option maxRecDepth 100000 in
theorem b_X3_evens_37 {Q : ab_Q} {rt : Int} {c : Int} {s_ : Int → Int} {z_ : mc_T} {g_ : mg_T} (l1 : sp_X3_parts [.inr (.inl (some 0)), .inl c, .inl rt] (md_cs s_ z_ g_) (fun r_ k_ => ∃ (s_' : Int → Int), ∃ (z_' : mc_T), ∃ (g_' : mg_T), r_ = none ∧ k_ = (md_cs (s_') z_' g_') ∧ ab_R E_X3_evens P_X3_evens Q 43 [some (.inr (.inl (some 0))), some (.inl rt), some (.inl c), none] [] (md_cs (s_') z_' g_')))  : ab_R E_X3_evens P_X3_evens Q 37 [some (.inr (.inl (some 0))), some (.inl rt), some (.inl c), none] [] (md_cs s_ z_ g_) :=
  ab_R.steps [4, 7, 37, 43, 51, 93, 100, 149] 5 (show ab_cl sp_X3_parts [.inr (.inl (some 0)), .inl c, .inl rt] (md_cs s_ z_ g_) (fun r_ k_ => k_.length = ((md_cs s_ z_ g_)).length → ab_R E_X3_evens P_X3_evens Q 43 [some (.inr (.inl (some 0))), some (.inl rt), some (.inl c), none] (ab_ret r_ []) k_) from ⟨_, l1, fun r_ k_ hz _ => by obtain ⟨s_', z_', g_', rfl, rfl, hR⟩ := hz; exact hR⟩)
set_option maxRecDepth 100000 in
theorem b_X3_evens_43 {Q : ab_Q} {rt : Int} {c : Int} {s_ : Int → Int} {z_ : mc_T} {g_ : mg_T} (l1 : ab_R E_X3_evens P_X3_evens Q 7 [some (.inr (.inl (some 0))), some (.inl rt), some (.inl (c + 1)), none] [] (md_cs s_ z_ g_))  : ab_R E_X3_evens P_X3_evens Q 43 [some (.inr (.inl (some 0))), some (.inl rt), some (.inl c), none] [] (md_cs s_ z_ g_) :=
  ab_R.steps [4, 7, 37, 43, 51, 93, 100, 149] 4 (show ab_R E_X3_evens P_X3_evens Q 7 [some (.inr (.inl (some 0))), some (.inl rt), some (.inl (c + 1)), none] [] (md_cs s_ z_ g_) from l1)
set_option maxRecDepth 100000 in
theorem b_X3_evens_51 {Q : ab_Q} {rt : Int} {c : Int} {s_ : Int → Int} {z_ : mc_T} {g_ : mg_T} (l1 : ((s_ 1) - 1) ≤ c → Q none (md_cs s_ z_ g_)) (l2 : c < ((s_ 1) - 1) → rt < ((s_ (63 + c)) + (s_ ((63 + c) + 1))) → ab_R E_X3_evens P_X3_evens Q 51 [some (.inr (.inl (some 0))), some (.inl rt), some (.inl (c + 1)), none] [] (md_cs s_ z_ g_)) (l3 : c < ((s_ 1) - 1) → ((s_ (63 + c)) + (s_ ((63 + c) + 1))) ≤ rt → sp_X3_carries [.inr (.inl (some 0)), .inl c] (md_cs s_ z_ g_) (fun r_ k_ => ∃ (s_' : Int → Int), ∃ (z_' : mc_T), ∃ (g_' : mg_T), r_ = none ∧ k_ = (md_cs (s_') z_' g_') ∧ ab_R E_X3_evens P_X3_evens Q 93 [some (.inr (.inl (some 0))), some (.inl rt), some (.inl c), none] [] (md_cs (s_') z_' g_'))) (p1 : (0 ≤ (1 : Int) ∧ (1 : Int) < 255) := by intros; (try unfold ab_r); omega) (p2 : (ab_r c ∧ ab_r ((s_ 1) - 1)) := by intros; (try unfold ab_r); omega) (p3 : c < ((s_ 1) - 1) → (0 ≤ (63 + c) ∧ (63 + c) < 255) := by intros; (try unfold ab_r); omega) (p4 : c < ((s_ 1) - 1) → (0 ≤ ((63 + c) + 1) ∧ ((63 + c) + 1) < 255) := by intros; (try unfold ab_r); omega) (p5 : c < ((s_ 1) - 1) → (ab_r ((s_ (63 + c)) + (s_ ((63 + c) + 1))) ∧ ab_r rt) := by intros; (try unfold ab_r); omega) : ab_R E_X3_evens P_X3_evens Q 51 [some (.inr (.inl (some 0))), some (.inl rt), some (.inl c), none] [] (md_cs s_ z_ g_) :=
  ab_R.steps [4, 7, 37, 43, 51, 93, 100, 149] 29 (show ((0 ≤ (1 : Int) ∧ (1 : Int) < 255) ∧ ((ab_r c ∧ ab_r ((s_ 1) - 1)) ∧ ((((s_ 1) - 1) ≤ c → Q none (md_cs s_ z_ g_)) ∧ (c < ((s_ 1) - 1) → ((0 ≤ (63 + c) ∧ (63 + c) < 255) ∧ ((0 ≤ ((63 + c) + 1) ∧ ((63 + c) + 1) < 255) ∧ ((ab_r ((s_ (63 + c)) + (s_ ((63 + c) + 1))) ∧ ab_r rt) ∧ ((rt < ((s_ (63 + c)) + (s_ ((63 + c) + 1))) → ab_R E_X3_evens P_X3_evens Q 51 [some (.inr (.inl (some 0))), some (.inl rt), some (.inl (c + 1)), none] [] (md_cs s_ z_ g_)) ∧ (((s_ (63 + c)) + (s_ ((63 + c) + 1))) ≤ rt → ab_cl sp_X3_carries [.inr (.inl (some 0)), .inl c] (md_cs s_ z_ g_) (fun r_ k_ => k_.length = ((md_cs s_ z_ g_)).length → ab_R E_X3_evens P_X3_evens Q 93 [some (.inr (.inl (some 0))), some (.inl rt), some (.inl c), none] (ab_ret r_ []) k_)))))))))) from ⟨p1, ⟨p2, ⟨fun h1 => (l1 h1), fun h2 => ⟨(p3 h2), ⟨(p4 h2), ⟨(p5 h2), ⟨fun h3 => (l2 h2 h3), fun h4 => ⟨_, (l3 h2 h4), fun r_ k_ hz _ => by obtain ⟨s_', z_', g_', rfl, rfl, hR⟩ := hz; exact hR⟩⟩⟩⟩⟩⟩⟩⟩)
set_option maxRecDepth 100000 in
theorem b_X3_evens_93 {Q : ab_Q} {rt : Int} {c : Int} {s_ : Int → Int} {z_ : mc_T} {g_ : mg_T} (l1 : sp_X3_carries [.inr (.inl (some 0)), .inl (c + 1)] (md_cs s_ z_ g_) (fun r_ k_ => ∃ (s_' : Int → Int), ∃ (z_' : mc_T), ∃ (g_' : mg_T), r_ = none ∧ k_ = (md_cs (s_') z_' g_') ∧ ab_R E_X3_evens P_X3_evens Q 100 [some (.inr (.inl (some 0))), some (.inl rt), some (.inl c), none] [] (md_cs (s_') z_' g_')))  : ab_R E_X3_evens P_X3_evens Q 93 [some (.inr (.inl (some 0))), some (.inl rt), some (.inl c), none] [] (md_cs s_ z_ g_) :=
  ab_R.steps [4, 7, 37, 43, 51, 93, 100, 149] 6 (show ab_cl sp_X3_carries [.inr (.inl (some 0)), .inl (c + 1)] (md_cs s_ z_ g_) (fun r_ k_ => k_.length = ((md_cs s_ z_ g_)).length → ab_R E_X3_evens P_X3_evens Q 100 [some (.inr (.inl (some 0))), some (.inl rt), some (.inl c), none] (ab_ret r_ []) k_) from ⟨_, l1, fun r_ k_ hz _ => by obtain ⟨s_', z_', g_', rfl, rfl, hR⟩ := hz; exact hR⟩)
set_option maxRecDepth 100000 in
theorem b_X3_evens_100 {Q : ab_Q} {rt : Int} {c : Int} {s_ : Int → Int} {z_ : mc_T} {g_ : mg_T} (l1 : sp_X3_closes [.inr (.inl (some 0)), .inl (c + 1)] (md_cs ((ab_up s_ 2 ((s_ 2) + (s_ ((63 + c) + 1))))) z_ g_) (fun r_ k_ => ∃ (s_' : Int → Int), ∃ (z_' : mc_T), ∃ (g_' : mg_T), r_ = none ∧ k_ = (md_cs (s_') z_' g_') ∧ ab_R E_X3_evens P_X3_evens Q 149 [some (.inr (.inl (some 0))), some (.inl rt), some (.inl c), some (.inl (((ab_up s_ 2 ((s_ 2) + (s_ ((63 + c) + 1)))) (63 + c)) + ((ab_up s_ 2 ((s_ 2) + (s_ ((63 + c) + 1)))) ((63 + c) + 1))))] [] (md_cs (s_') z_' g_'))) (p1 : (0 ≤ (2 : Int) ∧ (2 : Int) < 255) := by intros; (try unfold ab_r); omega) (p2 : (0 ≤ ((63 + c) + 1) ∧ ((63 + c) + 1) < 255) := by intros; (try unfold ab_r); omega) (p3 : (0 ≤ (63 + c) ∧ (63 + c) < 255) := by intros; (try unfold ab_r); omega) : ab_R E_X3_evens P_X3_evens Q 100 [some (.inr (.inl (some 0))), some (.inl rt), some (.inl c), none] [] (md_cs s_ z_ g_) :=
  ab_R.steps [4, 7, 37, 43, 51, 93, 100, 149] 37 (show ((0 ≤ (2 : Int) ∧ (2 : Int) < 255) ∧ ((0 ≤ ((63 + c) + 1) ∧ ((63 + c) + 1) < 255) ∧ ((0 ≤ (2 : Int) ∧ (2 : Int) < 255) ∧ ((0 ≤ (63 + c) ∧ (63 + c) < 255) ∧ ((0 ≤ ((63 + c) + 1) ∧ ((63 + c) + 1) < 255) ∧ ab_cl sp_X3_closes [.inr (.inl (some 0)), .inl (c + 1)] (md_cs ((ab_up s_ 2 ((s_ 2) + (s_ ((63 + c) + 1))))) z_ g_) (fun r_ k_ => k_.length = ((md_cs ((ab_up s_ 2 ((s_ 2) + (s_ ((63 + c) + 1))))) z_ g_)).length → ab_R E_X3_evens P_X3_evens Q 149 [some (.inr (.inl (some 0))), some (.inl rt), some (.inl c), some (.inl (((ab_up s_ 2 ((s_ 2) + (s_ ((63 + c) + 1)))) (63 + c)) + ((ab_up s_ 2 ((s_ 2) + (s_ ((63 + c) + 1)))) ((63 + c) + 1))))] (ab_ret r_ []) k_)))))) from ⟨p1, ⟨p2, ⟨p1, ⟨p3, ⟨p2, ⟨_, l1, fun r_ k_ hz _ => by obtain ⟨s_', z_', g_', rfl, rfl, hR⟩ := hz; exact hR⟩⟩⟩⟩⟩⟩)
set_option maxRecDepth 100000 in
theorem b_X3_evens_149 {Q : ab_Q} {rt : Int} {c : Int} {bo : Int} {s_ : Int → Int} {z_ : mc_T} {g_ : mg_T} (l1 : ab_R E_X3_evens P_X3_evens Q 51 [some (.inr (.inl (some 0))), some (.inl rt), some (.inl c), none] [] (md_cs ((ab_up s_ (63 + c) bo)) z_ g_)) (p1 : (0 ≤ (63 + c) ∧ (63 + c) < 255) := by intros; (try unfold ab_r); omega) : ab_R E_X3_evens P_X3_evens Q 149 [some (.inr (.inl (some 0))), some (.inl rt), some (.inl c), some (.inl bo)] [] (md_cs s_ z_ g_) :=
  ab_R.steps [4, 7, 37, 43, 51, 93, 100, 149] 10 (show ((0 ≤ (63 + c) ∧ (63 + c) < 255) ∧ ab_R E_X3_evens P_X3_evens Q 51 [some (.inr (.inl (some 0))), some (.inl rt), some (.inl c), some (.inl bo)] [] (md_cs ((ab_up s_ (63 + c) bo)) z_ g_)) from ⟨p1, (ab_R.fg 3 rfl l1)⟩)
theorem mq_al_snoc {f : Int → Int} {X : List Int} {x n : Int} (h : mq_al f X) (hn : n = X.length) : mq_al (ab_up f n x) (X ++ [x]) :=
  mq_al_app.mpr ⟨h.eq (fun i hi => ab_up_ne (by omega)), fun i y hy => by
    match i with
    | 0 =>
      have := Option.some.inj hy
      show ab_up f n x ((X.length : Int) + ((0 : Nat) : Int)) = y
      rw [ab_up_eq (by omega)]; exact this
    | i + 1 => cases hy⟩
theorem vc_X3_reorders {av : List ab_V} {cs : List ab_C} {Q : ab_Q} (h : sp_X3_reorders av cs Q) : (ab_lv0 av).length ≤ 6 ∧ ab_R E_X3_reorders P_X3_reorders Q 0 (ab_ent av 6) [] cs := by
  obtain ⟨s, od, nk, nl, nt, ns, g, q, q', rfl, rfl, hR, hW, hl, hfl, hod, hQ⟩ := h
  refine ⟨Nat.le_of_ble_eq_true rfl, ?_⟩
  have hcl := hW.chunks
  have hf := hW.2
  have hs1 : s 1 = (q.length : Nat) := hR.2.2.2.2.2
  -- the rows of chunks are laid
  have third : ∀ (nk nl nt ns : Int → Int) (to : Int), to = (mq_flat q').length → mq_al nk (mq_flat q') → mq_al nl (q'.map mq_len) → mq_al nt (q'.map (fun k => k.2.1)) → mq_al ns (q'.map (fun k => k.2.2)) →
      ∀ (m : Nat) (k : Int) (s' : Int → Int), q.length - k = m → 0 ≤ k → (∀ j : Int, s' j = if 3 ≤ j ∧ j < 3 + to then nk (j - 3) else if 63 ≤ j ∧ j < 63 + k then nl (j - 63) else if 127 ≤ j ∧ j < 127 + k then nt (j - 127) else if 191 ≤ j ∧ j < 191 + k then ns (j - 191) else s j) →
      ab_R E_X3_reorders P_X3_reorders Q 153 [some (.inr (.inl (some 0))), some (.inl to), some (.inl k), none, none, none] [] (md_cs s' (od, nk, nl, nt, ns) g) := by
    intro nk nl nt ns to t0 t1 t2 t3 t4 m
    induction m with
    | zero =>
      intro k s' g1 g2 g3
      have o1 : s' 1 = s 1 := by rw [g3, if_neg (by omega), if_neg (by omega), if_neg (by omega), if_neg (by omega)]
      have o0 : s' 0 = s 0 := by rw [g3, if_neg (by omega), if_neg (by omega), if_neg (by omega), if_neg (by omega)]
      have o2 : s' 2 = s 2 := by rw [g3, if_neg (by omega), if_neg (by omega), if_neg (by omega), if_neg (by omega)]
      refine b_X3_reorders_153 (fun _ => hQ _ _ ⟨?_, ?_, ?_, ?_, ?_, ?_⟩ o2) (fun _ => by omega)
      · refine t1.eq (fun i hi => ?_)
        show s' (3 + (i : Int)) = _
        rw [g3, if_pos (by omega)]; congr 1; omega
      · refine t2.eq (fun i hi => ?_)
        rw [List.length_map] at hi
        show s' (63 + (i : Int)) = _
        rw [g3, if_neg (by omega), if_pos (by omega)]; congr 1; omega
      · refine t3.eq (fun i hi => ?_)
        rw [List.length_map] at hi
        show s' (127 + (i : Int)) = _
        rw [g3, if_neg (by omega), if_neg (by omega), if_pos (by omega)]; congr 1; omega
      · refine t4.eq (fun i hi => ?_)
        rw [List.length_map] at hi
        show s' (191 + (i : Int)) = _
        rw [g3, if_neg (by omega), if_neg (by omega), if_neg (by omega), if_pos (by omega)]; congr 1; omega
      · show s' 0 = _
        rw [o0, hfl]; exact hR.2.2.2.2.1
      · show s' 1 = _
        rw [o1, hl]; exact hs1
    | succ m ih =>
      intro k s' g1 g2 g3
      have o1 : s' 1 = s 1 := by rw [g3, if_neg (by omega), if_neg (by omega), if_neg (by omega), if_neg (by omega)]
      refine b_X3_reorders_153 (fun _ => by omega) (fun _ => ih (k + 1) _ (by omega) (by omega) (fun j => ?_))
      by_cases y1 : j = 191 + k
      · rw [ab_up_eq y1, if_neg (by omega), if_neg (by omega), if_neg (by omega), if_pos (by omega)]; congr 1; omega
      · rw [ab_up_ne y1]
        by_cases y2 : j = 127 + k
        · rw [ab_up_eq y2, if_neg (by omega), if_neg (by omega), if_pos (by omega)]; congr 1; omega
        · rw [ab_up_ne y2]
          by_cases y3 : j = 63 + k
          · rw [ab_up_eq y3, if_neg (by omega), if_pos (by omega)]; congr 1; omega
          · rw [ab_up_ne y3, g3]
            by_cases z1 : 3 ≤ j ∧ j < 3 + to
            · rw [if_pos z1, if_pos z1]
            · rw [if_neg z1, if_neg z1]
              by_cases z2 : 63 ≤ j ∧ j < 63 + k
              · rw [if_pos z2, if_pos (show 63 ≤ j ∧ j < 63 + (k + 1) by omega)]
              · rw [if_neg z2, if_neg (show ¬ (63 ≤ j ∧ j < 63 + (k + 1)) by omega)]
                by_cases z3 : 127 ≤ j ∧ j < 127 + k
                · rw [if_pos z3, if_pos (show 127 ≤ j ∧ j < 127 + (k + 1) by omega)]
                · rw [if_neg z3, if_neg (show ¬ (127 ≤ j ∧ j < 127 + (k + 1)) by omega)]
                  by_cases z4 : 191 ≤ j ∧ j < 191 + k
                  · rw [if_pos z4, if_pos (show 191 ≤ j ∧ j < 191 + (k + 1) by omega)]
                  · rw [if_neg z4, if_neg (show ¬ (191 ≤ j ∧ j < 191 + (k + 1)) by omega)]
  have second : ∀ (nk nl nt ns : Int → Int) (to : Int), to = (mq_flat q').length → mq_al nk (mq_flat q') → mq_al nl (q'.map mq_len) → mq_al nt (q'.map (fun k => k.2.1)) → mq_al ns (q'.map (fun k => k.2.2)) →
      ∀ (m : Nat) (k : Int) (s' : Int → Int), to - k = m → 0 ≤ k → (∀ j : Int, s' j = if 3 ≤ j ∧ j < 3 + k then nk (j - 3) else s j) →
      ab_R E_X3_reorders P_X3_reorders Q 126 [some (.inr (.inl (some 0))), some (.inl to), some (.inl k), none, none, none] [] (md_cs s' (od, nk, nl, nt, ns) g) := by
    intro nk nl nt ns to t0 t1 t2 t3 t4 m
    induction m with
    | zero =>
      intro k s' g1 g2 g3
      refine b_X3_reorders_126 (fun _ => third nk nl nt ns to t0 t1 t2 t3 t4 q.length 0 s' (by omega) (by omega) (fun j => ?_)) (fun _ => by omega)
      rw [g3, if_neg (show ¬ (63 ≤ j ∧ j < 63 + 0) by omega), if_neg (show ¬ (127 ≤ j ∧ j < 127 + 0) by omega), if_neg (show ¬ (191 ≤ j ∧ j < 191 + 0) by omega), show to = k by omega]
    | succ m ih =>
      intro k s' g1 g2 g3
      refine b_X3_reorders_126 (fun _ => by omega) (fun _ => ih (k + 1) _ (by omega) (by omega) (fun j => ?_))
      by_cases y : j = 3 + k
      · rw [ab_up_eq y, if_pos (by omega)]; congr 1; omega
      · rw [ab_up_ne y, g3]
        by_cases z : 3 ≤ j ∧ j < 3 + k
        · rw [if_pos z, if_pos (by omega)]
        · rw [if_neg z, if_neg (by omega)]
  have first : ∀ (B A : List mq_K) (nk nl nt ns : Int → Int) (to k : Int), q' = A ++ B → k = A.length → to = (mq_flat A).length → mq_al nk (mq_flat A) → mq_al nl (A.map mq_len) → mq_al nt (A.map (fun k => k.2.1)) → mq_al ns (A.map (fun k => k.2.2)) →
      ab_R E_X3_reorders P_X3_reorders Q 4 [some (.inr (.inl (some 0))), some (.inl to), some (.inl k), none, none, none] [] (md_cs s (od, nk, nl, nt, ns) g) := by
    intro B
    induction B with
    | nil =>
      intro A nk nl nt ns to k g1 g2 g3 t1 t2 t3 t4
      rw [List.append_nil] at g1; subst g1
      exact b_X3_reorders_4 (fun _ => second nk nl nt ns to g3 t1 t2 t3 t4 to.toNat 0 s (by omega) (by omega) (fun j => by rw [if_neg (by omega)])) (fun _ => by omega)
    | cons kk B ih =>
      intro A nk nl nt ns to k g1 g2 g3 t1 t2 t3 t4
      have hlen : A.length + (B.length + 1) = q.length := by rw [← hl, g1]; simp
      obtain ⟨c, c1, c2, c3⟩ := hod A.length (by omega)
      rw [g1, mq_at_app] at c3
      have c3 := c3.symm
      rw [← g2] at c1
      refine b_X3_reorders_4 (fun _ => by omega) (fun _ => ⟨_, _, _, q, c, _, rfl, rfl, hR, hW, c1, by omega, _, rfl, rfl, ?_⟩)
      refine b_X3_reorders_26 ?_
      rw [c1]
      have e1 : s (63 + (c : Int)) = _ := hR.len c3
      have e2 : s (127 + (c : Int)) = _ := hR.turn c3
      have e3 : s (191 + (c : Int)) = _ := hR.sum c3
      have hk1 := mq_take_succ c3
      have hk2 := mq_take_le q (c + 1)
      obtain ⟨k2, k3, k4⟩ := mq_split c2
      have : k2 = kk := by rw [k3] at c3; exact Option.some.inj c3
      subst this
      have hft : (mq_flat A).length + k2.1.length ≤ 60 := by
        have : (mq_flat q').length = (mq_flat A).length + (k2.1.length + (mq_flat B).length) := by rw [g1, mq_flat_mid]; simp
        omega
      have hk : ∀ (j : Nat) (x : Int), k2.1[j]? = some x → s (3 + (((mq_flat (q.take c)).length + j : Nat) : Int)) = x := fun j x hj => by
        have h0 := hR
        rw [k4] at h0
        exact h0.kept hj
      have inner : ∀ (m : Nat) (i to' : Int) (nk' : Int → Int), k2.1.length - i = m → 0 ≤ i → to' = (mq_flat A).length + i → mq_al nk' (mq_flat A ++ k2.1.take i.toNat) →
          ab_R E_X3_reorders P_X3_reorders Q 31 [some (.inr (.inl (some 0))), some (.inl to'), some (.inl k), some (.inl (c : Int)), some (.inl ((mq_flat (q.take c)).length : Int)), some (.inl i)] [] (md_cs s (od, nk', nl, nt, ns) g) := by
        intro m
        induction m with
        | zero =>
          intro i to' nk' q1 q2 q3 q4
          refine b_X3_reorders_31 (fun _ => ?_) (fun _ => by omega)
          rw [List.take_of_length_le (by omega)] at q4
          refine ih (A ++ [k2]) nk' _ _ _ _ _ (by simpa using g1) (by simp; omega) ?_ ?_ ?_ ?_ ?_
          · rw [mq_flat_app, mq_flat_cons]; simp [mq_flat]; simp [mq_flat] at q3; omega
          · rw [mq_flat_app, mq_flat_cons]; simpa [mq_flat] using q4
          · rw [List.map_append, e1]; exact mq_al_snoc t2 (by simp; omega)
          · rw [List.map_append, e2]; exact mq_al_snoc t3 (by simp; omega)
          · rw [List.map_append, e3]; exact mq_al_snoc t4 (by simp; omega)
        | succ m ihm =>
          intro i to' nk' q1 q2 q3 q4
          have hj : i.toNat < k2.1.length := by omega
          have hx : k2.1[i.toNat]? = some k2.1[i.toNat] := List.getElem?_eq_getElem hj
          refine b_X3_reorders_31 (fun _ => by omega) (fun _ => ihm (i + 1) _ _ (by omega) (by omega) (by omega) ?_)
          have hv := hk _ _ hx
          rw [show 3 + (((mq_flat (q.take c)).length + i.toNat : Nat) : Int) = 3 + ((mq_flat (q.take c)).length : Int) + i by omega] at hv
          rw [hv, show (i + 1).toNat = i.toNat + 1 by omega, List.take_succ, hx, ← List.append_assoc]
          exact mq_al_snoc q4 (by rw [List.length_append, List.length_take]; omega)
      exact inner k2.1.length 0 to nk (by omega) (by omega) (by omega) (by simpa using t1)
  exact b_X3_reorders_0 (first q' [] nk nl nt ns 0 0 rfl rfl rfl (mq_al_nil _) (mq_al_nil _) (mq_al_nil _) (mq_al_nil _))
theorem mt_X3_reorders (l : Launch) : ab_MT l mi_X3_reorders sp_X3_reorders := ab_MT.of (own := "RootChunksModel") (E := E_X3_reorders) (P := P_X3_reorders) (M := M_X3_reorders) (nL := 6) (ty := 9) (by decide) rfl rfl tk_X3 pk_X3_reorders ck_X3_reorders (ab_CT'.cons (mt_X3_startOf l) ab_CT'.nil) (fun av cs Q h => vc_X3_reorders h)
theorem vc_X3_evens {av : List ab_V} {cs : List ab_C} {Q : ab_Q} (h : sp_X3_evens av cs Q) : (ab_lv0 av).length ≤ 4 ∧ ab_R E_X3_evens P_X3_evens Q 0 (ab_ent av 4) [] cs := by
  obtain ⟨s, z, g, q, rfl, rfl, hR, hW, hQ⟩ := h
  refine ⟨Nat.le_of_ble_eq_true rfl, ?_⟩
  have hrt := mq_rt_in (mq_flat q).length
  refine b_X3_evens_0 ⟨_, _, _, q, rfl, rfl, hR, hW, _, rfl, rfl, ?_⟩
  refine b_X3_evens_4 ?_
  have hev : mq_ev q = ((mq_js (mq_rt (mq_flat q).length) (mq_pt (mq_rt (mq_flat q).length) 60 q).1).1, (mq_pt (mq_rt (mq_flat q).length) 60 q).2 + (mq_js (mq_rt (mq_flat q).length) (mq_pt (mq_rt (mq_flat q).length) 60 q).1).2) := rfl
  rw [hev] at hQ
  clear hev
  generalize mq_rt (mq_flat q).length = t at hrt hQ ⊢
  generalize hx : (t : Int) = x
  have part : ∀ (m : Nat) (A B : List mq_K) (s1 : Int → Int) (z1 : mc_T) (c : Int), m + A.length = 60 → mq_R (md_v s1) (A ++ B) → mq_W (A ++ B) → c = A.length →
      (∀ (s' : Int → Int) (z' : mc_T), mq_R (md_v s') (A ++ (mq_pt t m B).1) → s' 2 = s1 2 + (mq_pt t m B).2 → ab_R E_X3_evens P_X3_evens Q 51 [some (.inr (.inl (some 0))), some (.inl x), some (.inl 0), none] [] (md_cs s' z' g)) →
      ab_R E_X3_evens P_X3_evens Q 7 [some (.inr (.inl (some 0))), some (.inl x), some (.inl c), none] [] (md_cs s1 z1 g) := by
    intro m
    induction m with
    | zero =>
      intro A B s1 z1 c g0 g1 g2 g3 g5
      have hcc : s1 1 = ((A ++ B).length : Nat) := g1.2.2.2.2.2
      have hcl := g2.chunks
      refine b_X3_evens_7 (fun _ => g5 _ _ g1 ?_) (fun _ _ => by omega) (fun _ _ => by omega) (p3 := fun _ => by omega) (p4 := fun _ => by omega)
      show s1 2 = s1 2 + 0; omega
    | succ m ih =>
      intro A B s1 z1 c g0 g1 g2 g3 g5
      have hcc : s1 1 = ((A ++ B).length : Nat) := g1.2.2.2.2.2
      have hcl := g2.chunks
      have hfl := g2.2
      rw [List.length_append] at hcc hcl
      cases B with
      | nil =>
        rw [List.length_nil] at hcc
        refine b_X3_evens_7 (fun _ => g5 _ _ g1 ?_) (fun _ _ => by omega) (fun _ _ => by omega) (p3 := fun _ => by omega) (p4 := fun _ => by omega)
        show s1 2 = s1 2 + 0; omega
      | cons k B =>
        rw [List.length_cons] at hcc hcl
        have e1 : s1 (63 + (A.length : Int)) = _ := g1.len (mq_at_app A k B)
        rw [← g3] at e1
        rw [mq_flat_mid, List.length_append, List.length_append] at hfl
        refine b_X3_evens_7 (fun _ => by omega) (fun _ hs => ?_) (fun _ hs => ?_)
        · refine b_X3_evens_43 (ih (A ++ [k]) B _ _ _ (by simp; omega) (by simpa using g1) (by simpa using g2) (by simp; omega) (fun s' z' q1 q2 => g5 s' z' ?_ ?_))
          · unfold mq_pt
            rw [if_neg (by omega)]
            simpa using q1
          · unfold mq_pt
            rw [if_neg (by omega)]
            exact q2
        · refine ⟨_, _, _, A, k, B, _, rfl, rfl, g1, g2, g3, fun s2 z2 hr2 hw2 => ⟨s2, z2, g, rfl, rfl, ?_⟩⟩
          have W2 := mq_W_settle g2
          refine b_X3_evens_37 ⟨_, _, _, A, mq_row k, B, t, _, _, rfl, rfl, hr2, W2, g3, hx.symm, by omega, by rw [mq_row_len]; omega, fun s3 hr3 hw3 => ⟨s3, z2, g, rfl, rfl, ?_⟩⟩
          have W3 := mq_W_part (f := t) W2 (by omega) (by rw [mq_row_len]; omega)
          rw [mq_row_len] at hw3
          refine b_X3_evens_43 (ih (A ++ [((mq_row k).take t, 0, 0)]) (((mq_row k).drop t, 0, 0) :: B) _ _ _ (by simp; omega) (by simpa using hr3) (by simpa using W3) (by simp; omega) (fun s' z' q1 q2 => g5 s' z' ?_ ?_))
          · unfold mq_pt
            rw [if_pos (by omega)]
            simpa using q1
          · unfold mq_pt
            rw [if_pos (by omega)]
            dsimp only at q2 ⊢
            omega
  have join : ∀ (B A : List mq_K) (k : mq_K) (s1 : Int → Int) (z1 : mc_T) (c : Int), mq_R (md_v s1) (A ++ k :: B) → mq_W (A ++ k :: B) → c = A.length →
      (∀ (s' : Int → Int) (z' : mc_T), mq_R (md_v s') (A ++ (mq_jn t k B).1) → s' 2 = s1 2 + (mq_jn t k B).2 → Q none (md_cs s' z' g)) →
      ab_R E_X3_evens P_X3_evens Q 51 [some (.inr (.inl (some 0))), some (.inl x), some (.inl c), none] [] (md_cs s1 z1 g) := by
    intro B
    induction B with
    | nil =>
      intro A k s1 z1 c g1 g2 g3 g5
      have hcc : s1 1 = ((A ++ [k]).length : Nat) := g1.2.2.2.2.2
      have hcl := g2.chunks
      rw [List.length_append] at hcc hcl
      simp at hcc hcl
      refine b_X3_evens_51 (fun _ => g5 _ _ g1 ?_) (fun _ _ => by omega) (fun _ _ => by omega) (p3 := fun _ => by omega) (p4 := fun _ => by omega) (p5 := fun _ => by omega)
      show s1 2 = s1 2 + 0; omega
    | cons k2 B ih =>
      intro A k s1 z1 c g1 g2 g3 g5
      have hcc : s1 1 = ((A ++ k :: k2 :: B).length : Nat) := g1.2.2.2.2.2
      have hcl := g2.chunks
      have hfl := g2.2
      rw [List.length_append] at hcc hcl
      rw [List.length_cons, List.length_cons] at hcc hcl
      rw [mq_flat_mid, mq_flat_cons, List.length_append, List.length_append, List.length_append] at hfl
      have e1 : s1 (63 + (A.length : Int)) = _ := g1.len (mq_at_app A k (k2 :: B))
      have e2 : s1 (63 + ((A.length + 1 : Nat) : Int)) = _ := g1.len (c := A.length + 1) (k := k2) (by rw [List.getElem?_append_right (by omega), show A.length + 1 - A.length = 1 by omega]; rfl)
      rw [← g3] at e1
      rw [show 63 + (((A.length + 1 : Nat)) : Int) = 63 + c + 1 by omega] at e2
      refine b_X3_evens_51 (fun _ => by omega) (fun _ hs => ?_) (fun _ hs => ?_)
      · refine ih (A ++ [k]) k2 _ _ _ (by simpa using g1) (by simpa using g2) (by simp; omega) (fun s' z' q1 q2 => g5 s' z' ?_ ?_)
        · unfold mq_jn
          rw [if_neg (by omega)]
          simpa using q1
        · unfold mq_jn
          rw [if_neg (by omega)]
          exact q2
      · refine ⟨_, _, _, A, k, k2 :: B, _, rfl, rfl, g1, g2, g3, fun s2 z2 hr2 hw2 => ⟨s2, z2, g, rfl, rfl, ?_⟩⟩
        have W2 := mq_W_settle g2
        have hr2' : mq_R (md_v s2) ((A ++ [(mq_row k, 0, 0)]) ++ k2 :: B) := by simpa using hr2
        have W2' : mq_W ((A ++ [(mq_row k, 0, 0)]) ++ k2 :: B) := by simpa using W2
        refine b_X3_evens_93 ⟨_, _, _, A ++ [(mq_row k, 0, 0)], k2, B, _, rfl, rfl, hr2', W2', by simp; omega, fun s3 z3 hr3 hw3 => ⟨s3, z3, g, rfl, rfl, ?_⟩⟩
        have W3 := mq_W_settle W2'
        have hr3' : mq_R (md_v s3) (A ++ (mq_row k, 0, 0) :: (mq_row k2, 0, 0) :: B) := by simpa using hr3
        have W3' : mq_W (A ++ (mq_row k, 0, 0) :: (mq_row k2, 0, 0) :: B) := by simpa using W3
        have hc3 : s3 1 = ((A ++ (mq_row k, 0, 0) :: (mq_row k2, 0, 0) :: B).length : Nat) := hr3'.2.2.2.2.2
        rw [List.length_append] at hc3
        rw [List.length_cons, List.length_cons] at hc3
        have e4 : s3 (63 + (A.length : Int)) = _ := hr3'.len (mq_at_app A _ _)
        have e5 : s3 (63 + ((A.length + 1 : Nat) : Int)) = _ := hr3'.len (c := A.length + 1) (k := (mq_row k2, 0, 0)) (by rw [List.getElem?_append_right (by omega), show A.length + 1 - A.length = 1 by omega]; rfl)
        rw [← g3, mq_row_len] at e4
        rw [show 63 + (((A.length + 1 : Nat)) : Int) = 63 + c + 1 by omega, mq_row_len] at e5
        refine b_X3_evens_100 ⟨_, _, _, _, rfl, rfl, by omega, ?_, ?_, fun s4 f0 f1 f2 f3 f4 => ⟨s4, z3, g, rfl, rfl, ?_⟩⟩
        · rw [ab_up_ne (by omega)]; omega
        · rw [ab_up_ne (by omega)]; omega
        rw [ab_up_ne (show (63 : Int) + c ≠ 2 by omega), ab_up_ne (show (63 : Int) + c + 1 ≠ 2 by omega)]
        rw [ab_up_ne (show (0 : Int) ≠ 2 by omega)] at f0
        rw [ab_up_ne (show (1 : Int) ≠ 2 by omega)] at f1 f4
        rw [ab_up_eq rfl] at f2
        have W4 : mq_W (A ++ (mq_row k ++ mq_row k2, 0, 0) :: B) := by
          have o1 := g2.1 k (by simp)
          have o2 := g2.1 k2 (by simp)
          refine mq_W_all g2 (fun y hy => ?_) ?_
          · rcases List.mem_append.mp hy with hy | hy
            · exact g2.1 y (List.mem_append_left _ hy)
            · rcases List.mem_cons.mp hy with rfl | hy
              · refine mq_ok_done (by rw [List.length_append, mq_row_len, mq_row_len]; have := o1.1; omega) (fun z hz => ?_)
                rcases List.mem_append.mp hz with hz | hz
                · exact o1.2.2.2 z hz
                · exact o2.2.2.2 z hz
              · exact g2.1 y (by simp [hy])
          · rw [mq_all_app, mq_all_app, mq_all_cons, mq_all_cons, mq_all_cons, mq_row_done, List.append_assoc]
        have hj := mq_R_join (w' := 0) hr3'
        rw [mq_row_len, mq_row_len] at hj
        have hj2 : mq_R (md_v (ab_up s4 (63 + c) (s3 (63 + c) + s3 (63 + c + 1)))) (A ++ (mq_row k ++ mq_row k2, 0, 0) :: B) := by
          refine mq_R_ext hj W4 (fun j j1 j2 => ?_) (fun j j1 j2 => ?_) (fun j j1 j2 => ?_) (fun j j1 j2 => ?_) ?_ ?_
          · show ab_up _ _ _ (3 + j) = s3 (3 + j)
            rw [ab_up_ne (by omega), f3 j j1 j2, ab_up_ne (by omega)]
          · simp only [List.length_append, List.length_cons] at j2
            show ab_up _ _ _ (63 + j) = mq_del (ab_up (fun c => s3 (63 + c)) A.length _) (s3 1) (A.length + 1) j
            rw [← g3]
            by_cases y : j = c
            · rw [ab_up_eq (by omega)]
              unfold mq_del
              rw [if_neg (by omega), ab_up_eq y, e4, e5]
            · rw [ab_up_ne (by omega), (f4 j j1 (by omega)).1]
              unfold mq_del
              by_cases y2 : c + 1 ≤ j ∧ j < s3 1 - 1
              · rw [if_pos y2, if_pos y2]; dsimp only; rw [ab_up_ne (by omega), ab_up_ne (by omega)]
              · rw [if_neg y2, if_neg y2]; dsimp only; rw [ab_up_ne (by omega), ab_up_ne (by omega)]
          · simp only [List.length_append, List.length_cons] at j2
            show ab_up _ _ _ (127 + j) = mq_del (fun c => s3 (127 + c)) (s3 1) (A.length + 1) j
            rw [← g3, ab_up_ne (by omega), (f4 j j1 (by omega)).2.1]
            unfold mq_del
            by_cases y2 : c + 1 ≤ j ∧ j < s3 1 - 1
            · rw [if_pos y2, if_pos y2]; dsimp only; rw [ab_up_ne (by omega)]
            · rw [if_neg y2, if_neg y2]; dsimp only; rw [ab_up_ne (by omega)]
          · simp only [List.length_append, List.length_cons] at j2
            show ab_up _ _ _ (191 + j) = mq_del (fun c => s3 (191 + c)) (s3 1) (A.length + 1) j
            rw [← g3, ab_up_ne (by omega), (f4 j j1 (by omega)).2.2]
            unfold mq_del
            by_cases y2 : c + 1 ≤ j ∧ j < s3 1 - 1
            · rw [if_pos y2, if_pos y2]; dsimp only; rw [ab_up_ne (by omega)]
            · rw [if_neg y2, if_neg y2]; dsimp only; rw [ab_up_ne (by omega)]
          · show ab_up _ _ _ 0 = s3 0
            rw [ab_up_ne (by omega), f0]
          · show ab_up _ _ _ 1 = s3 1 - 1
            rw [ab_up_ne (by omega), f1]
        refine b_X3_evens_149 (ih A (mq_row k ++ mq_row k2, 0, 0) _ _ _ hj2 W4 g3 (fun s' z' q1 q2 => g5 s' z' ?_ ?_))
        · unfold mq_jn
          rw [if_pos (by omega)]
          exact q1
        · unfold mq_jn
          rw [if_pos (by omega)]
          rw [ab_up_ne (by omega)] at q2
          dsimp only at q2 ⊢
          omega
  refine part 60 [] q s z 0 rfl hR hW rfl (fun s2 z2 hr2 hw2 => ?_)
  have W2 : mq_W (mq_pt t 60 q).1 := mq_pt_W hrt.1 hW
  rw [List.nil_append] at hr2
  dsimp only at hQ
  have hw3 : ∀ (s' : Int → Int) (z' : mc_T), mq_R (md_v s') (mq_js t (mq_pt t 60 q).1).1 → s' 2 = s2 2 + (mq_js t (mq_pt t 60 q).1).2 → Q none (md_cs s' z' g) := fun s' z' q1 q2 => hQ s' z' q1 (by omega)
  generalize (mq_pt t 60 q).1 = q2 at hr2 W2 hw3
  cases q2 with
  | nil =>
    have hcc : s2 1 = 0 := hr2.2.2.2.2.2
    refine b_X3_evens_51 (fun _ => hw3 _ _ hr2 ?_) (fun _ _ => by omega) (fun _ _ => by omega) (p3 := fun _ => by omega) (p4 := fun _ => by omega) (p5 := fun _ => by omega)
    show s2 2 = s2 2 + 0; omega
  | cons k B => exact join B [] k s2 z2 0 hr2 W2 rfl hw3
theorem mt_X3_evens (l : Launch) : ab_MT l mi_X3_evens sp_X3_evens := ab_MT.of (own := "RootChunksModel") (E := E_X3_evens) (P := P_X3_evens) (M := M_X3_evens) (nL := 4) (ty := 9) (by decide) rfl rfl tk_X3 pk_X3_evens ck_X3_evens (ab_CT'.cons (mt_X3_root l) (ab_CT'.cons (mt_X3_carries l) (ab_CT'.cons (mt_X3_parts l) (ab_CT'.cons (mt_X3_carries l) (ab_CT'.cons (mt_X3_carries l) (ab_CT'.cons (mt_X3_closes l) ab_CT'.nil)))))) (fun av cs Q h => vc_X3_evens h)
end
section
/-! THE REFERENCE'S CHANGES -/
def sp_X3_puts : ab_Sp := fun av cs Q => ∃ (s : Int → Int) (z : mc_T) (g : mg_T) (q : List mq_K) (d : Nat) (p v : Int), av = [.inr (.inl (some 0)), .inl p, .inl v] ∧ cs = md_cs s z g ∧ mq_R (md_v s) q ∧ mq_W q ∧ p = d ∧ d ≤ (mq_flat q).length ∧ (mq_flat q).length < 60 ∧ -99999 ≤ v ∧ v ≤ 99999 ∧
  ∀ (s' : Int → Int) (z' : mc_T), mq_R (md_v s') (mq_ev (mq_put q d v).1).1 → s' 2 = s 2 + (mq_put q d v).2 + (mq_ev (mq_put q d v).1).2 → Q none (md_cs s' z' g)
def sp_X3_takes : ab_Sp := fun av cs Q => ∃ (s : Int → Int) (z : mc_T) (g : mg_T) (q : List mq_K) (d : Nat) (p : Int), av = [.inr (.inl (some 0)), .inl p] ∧ cs = md_cs s z g ∧ mq_R (md_v s) q ∧ mq_W q ∧ p = d ∧ d < (mq_flat q).length ∧
  ∀ (s' : Int → Int) (z' : mc_T), mq_R (md_v s') (mq_ev (mq_tak q d).1).1 → s' 2 = s 2 + (mq_tak q d).2 + (mq_ev (mq_tak q d).1).2 → Q none (md_cs s' z' g)
def sp_X3_sets : ab_Sp := fun av cs Q => ∃ (s : Int → Int) (z : mc_T) (g : mg_T) (q : List mq_K) (d : Nat) (p v : Int), av = [.inr (.inl (some 0)), .inl p, .inl v] ∧ cs = md_cs s z g ∧ mq_R (md_v s) q ∧ mq_W q ∧ p = d ∧ d < (mq_flat q).length ∧ -99999 ≤ v ∧ v ≤ 99999 ∧
  ∀ (s' : Int → Int) (z' : mc_T), mq_R (md_v s') (mq_ev (mq_set q d v).1).1 → s' 2 = s 2 + (mq_set q d v).2 + (mq_ev (mq_set q d v).1).2 → Q none (md_cs s' z' g)
-- ===== RootChunksModel.puts
def P_X3_puts : List ab_I := [(0, .aload_n 0, 1, []), (1, .iload_n 1, 2, []), (2, .invokevirtual 79, 5, []), (5, .aload_n 0, 6, []), (6, .iload_n 1, 7, []), (7, .invokevirtual 82, 10, []), (10, .istore_n 3, 11, []), (11, .aload_n 0, 12, []), (12, .getfield 7, 15, []), (15, .iconst 0, 16, []), (16, .iaload, 17, []), (17, .istore 4, 19, []), (19, .iload 4, 21, []), (21, .iload_n 1, 22, []), (22, .if_icmp .le 29, 25, [((0 : Int), 51)]), (25, .aload_n 0, 26, []), (26, .getfield 7, 29, []), (29, .iconst 3, 30, []), (30, .iload 4, 32, []), (32, .iadd, 33, []), (33, .aload_n 0, 34, []), (34, .getfield 7, 37, []), (37, .iconst 3, 38, []), (38, .iload 4, 40, []), (40, .iadd, 41, []), (41, .iconst 1, 42, []), (42, .isub, 43, []), (43, .iaload, 44, []), (44, .iastore, 45, []), (45, .iinc 4 (-1), 48, []), (48, .goto (-29), 51, [((0 : Int), 19)]), (51, .aload_n 0, 52, []), (52, .getfield 7, 55, []), (55, .iconst 1, 56, []), (56, .iaload, 57, []), (57, .istore 4, 59, []), (59, .iload 4, 61, []), (61, .iload_n 3, 62, []), (62, .if_icmp .le 77, 65, [((0 : Int), 139)]), (65, .aload_n 0, 66, []), (66, .getfield 7, 69, []), (69, .bipush 63, 71, []), (71, .iload 4, 73, []), (73, .iadd, 74, []), (74, .aload_n 0, 75, []), (75, .getfield 7, 78, []), (78, .bipush 63, 80, []), (80, .iload 4, 82, []), (82, .iadd, 83, []), (83, .iconst 1, 84, []), (84, .isub, 85, []), (85, .iaload, 86, []), (86, .iastore, 87, []), (87, .aload_n 0, 88, []), (88, .getfield 7, 91, []), (91, .bipush 127, 93, []), (93, .iload 4, 95, []), (95, .iadd, 96, []), (96, .aload_n 0, 97, []), (97, .getfield 7, 100, []), (100, .bipush 127, 102, []), (102, .iload 4, 104, []), (104, .iadd, 105, []), (105, .iconst 1, 106, []), (106, .isub, 107, []), (107, .iaload, 108, []), (108, .iastore, 109, []), (109, .aload_n 0, 110, []), (110, .getfield 7, 113, []), (113, .sipush 191, 116, []), (116, .iload 4, 118, []), (118, .iadd, 119, []), (119, .aload_n 0, 120, []), (120, .getfield 7, 123, []), (123, .sipush 191, 126, []), (126, .iload 4, 128, []), (128, .iadd, 129, []), (129, .iconst 1, 130, []), (130, .isub, 131, []), (131, .iaload, 132, []), (132, .iastore, 133, []), (133, .iinc 4 (-1), 136, []), (136, .goto (-77), 139, [((0 : Int), 59)]), (139, .aload_n 0, 140, []), (140, .getfield 7, 143, []), (143, .iconst 3, 144, []), (144, .iload_n 1, 145, []), (145, .iadd, 146, []), (146, .iload_n 2, 147, []), (147, .iastore, 148, []), (148, .aload_n 0, 149, []), (149, .getfield 7, 152, []), (152, .bipush 63, 154, []), (154, .iload_n 3, 155, []), (155, .iadd, 156, []), (156, .iconst 1, 157, []), (157, .iastore, 158, []), (158, .aload_n 0, 159, []), (159, .getfield 7, 162, []), (162, .bipush 127, 164, []), (164, .iload_n 3, 165, []), (165, .iadd, 166, []), (166, .iconst 0, 167, []), (167, .iastore, 168, []), (168, .aload_n 0, 169, []), (169, .getfield 7, 172, []), (172, .sipush 191, 175, []), (175, .iload_n 3, 176, []), (176, .iadd, 177, []), (177, .iconst 0, 178, []), (178, .iastore, 179, []), (179, .aload_n 0, 180, []), (180, .getfield 7, 183, []), (183, .iconst 1, 184, []), (184, .dup2, 185, []), (185, .iaload, 186, []), (186, .iconst 1, 187, []), (187, .iadd, 188, []), (188, .iastore, 189, []), (189, .aload_n 0, 190, []), (190, .getfield 7, 193, []), (193, .iconst 0, 194, []), (194, .dup2, 195, []), (195, .iaload, 196, []), (196, .iconst 1, 197, []), (197, .iadd, 198, []), (198, .iastore, 199, []), (199, .aload_n 0, 200, []), (200, .getfield 7, 203, []), (203, .iconst 2, 204, []), (204, .dup2, 205, []), (205, .iaload, 206, []), (206, .iconst 1, 207, []), (207, .iadd, 208, []), (208, .iastore, 209, []), (209, .aload_n 0, 210, []), (210, .invokevirtual 85, 213, []), (213, .return_, 214, [])]
def E_X3_puts : ab_E := (T_X3, [(2, (2, 3, [], 0, sp_X3_cuts)), (7, (2, 3, [], 0, sp_X3_chunkFrom)), (210, (1, 3, [], 0, sp_X3_evens))], [], 9)
def M_X3_puts : List (Nat × ab_MI) := [(2, mi_X3_cuts), (7, mi_X3_chunkFrom), (210, mi_X3_evens)]
def mi_X3_puts : ab_MI := (yX3_puts, cX3_puts, 5, ab_rty 9, 5, 164)
theorem pk_X3_puts : P_X3_puts.all (ab_okI cX3_puts) = true := by decide +kernel
theorem ck_X3_puts : P_X3_puts.all (ab_okC1 "RootChunksModel" M_X3_puts E_X3_puts (5, 164)) = true := by decide +kernel
set_option maxRecDepth 100000 in
theorem b_X3_puts_0 {Q : ab_Q} {p : Int} {v : Int} {s_ : Int → Int} {z_ : mc_T} {g_ : mg_T} (l1 : sp_X3_cuts [.inr (.inl (some 0)), .inl p] (md_cs s_ z_ g_) (fun r_ k_ => ∃ (s_' : Int → Int), ∃ (z_' : mc_T), ∃ (g_' : mg_T), r_ = none ∧ k_ = (md_cs (s_') z_' g_') ∧ ab_R E_X3_puts P_X3_puts Q 5 [some (.inr (.inl (some 0))), some (.inl p), some (.inl v), none, none] [] (md_cs (s_') z_' g_')))  : ab_R E_X3_puts P_X3_puts Q 0 [some (.inr (.inl (some 0))), some (.inl p), some (.inl v), none, none] [] (md_cs s_ z_ g_) :=
  ab_R.steps [5, 10, 19, 59, 213] 4 (show ab_cl sp_X3_cuts [.inr (.inl (some 0)), .inl p] (md_cs s_ z_ g_) (fun r_ k_ => k_.length = ((md_cs s_ z_ g_)).length → ab_R E_X3_puts P_X3_puts Q 5 [some (.inr (.inl (some 0))), some (.inl p), some (.inl v), none, none] (ab_ret r_ []) k_) from ⟨_, l1, fun r_ k_ hz _ => by obtain ⟨s_', z_', g_', rfl, rfl, hR⟩ := hz; exact hR⟩)
set_option maxRecDepth 100000 in
theorem b_X3_puts_5 {Q : ab_Q} {p : Int} {v : Int} {s_ : Int → Int} {z_ : mc_T} {g_ : mg_T} (l1 : sp_X3_chunkFrom [.inr (.inl (some 0)), .inl p] (md_cs s_ z_ g_) (fun r_ k_ => ∃ (x_ : Int), r_ = some (.inl x_) ∧ k_ = (md_cs s_ z_ g_) ∧ ab_R E_X3_puts P_X3_puts Q 10 [some (.inr (.inl (some 0))), some (.inl p), some (.inl v), none, none] [.inl x_] (md_cs s_ z_ g_)))  : ab_R E_X3_puts P_X3_puts Q 5 [some (.inr (.inl (some 0))), some (.inl p), some (.inl v), none, none] [] (md_cs s_ z_ g_) :=
  ab_R.steps [5, 10, 19, 59, 213] 4 (show ab_cl sp_X3_chunkFrom [.inr (.inl (some 0)), .inl p] (md_cs s_ z_ g_) (fun r_ k_ => k_.length = ((md_cs s_ z_ g_)).length → ab_R E_X3_puts P_X3_puts Q 10 [some (.inr (.inl (some 0))), some (.inl p), some (.inl v), none, none] (ab_ret r_ []) k_) from ⟨_, l1, fun r_ k_ hz _ => by obtain ⟨x_, rfl, rfl, hR⟩ := hz; exact hR⟩)
set_option maxRecDepth 100000 in
theorem b_X3_puts_10 {Q : ab_Q} {p : Int} {v : Int} {t0 : Int} {s_ : Int → Int} {z_ : mc_T} {g_ : mg_T} (l1 : ab_R E_X3_puts P_X3_puts Q 19 [some (.inr (.inl (some 0))), some (.inl p), some (.inl v), some (.inl t0), some (.inl (s_ 0))] [] (md_cs s_ z_ g_)) (p1 : (0 ≤ (0 : Int) ∧ (0 : Int) < 255) := by intros; (try unfold ab_r); omega) : ab_R E_X3_puts P_X3_puts Q 10 [some (.inr (.inl (some 0))), some (.inl p), some (.inl v), none, none] [.inl t0] (md_cs s_ z_ g_) :=
  ab_R.steps [5, 10, 19, 59, 213] 8 (show ((0 ≤ (0 : Int) ∧ (0 : Int) < 255) ∧ ab_R E_X3_puts P_X3_puts Q 19 [some (.inr (.inl (some 0))), some (.inl p), some (.inl v), some (.inl t0), some (.inl (s_ 0))] [] (md_cs s_ z_ g_)) from ⟨p1, l1⟩)
set_option maxRecDepth 100000 in
theorem b_X3_puts_19 {Q : ab_Q} {p : Int} {v : Int} {c : Int} {k : Int} {s_ : Int → Int} {z_ : mc_T} {g_ : mg_T} (l1 : k ≤ p → ab_R E_X3_puts P_X3_puts Q 59 [some (.inr (.inl (some 0))), some (.inl p), some (.inl v), some (.inl c), some (.inl (s_ 1))] [] (md_cs s_ z_ g_)) (l2 : p < k → ab_R E_X3_puts P_X3_puts Q 19 [some (.inr (.inl (some 0))), some (.inl p), some (.inl v), some (.inl c), some (.inl (k + (-1)))] [] (md_cs ((ab_up s_ (3 + k) (s_ ((3 + k) - 1)))) z_ g_)) (p1 : (ab_r k ∧ ab_r p) := by intros; (try unfold ab_r); omega) (p2 : k ≤ p → (0 ≤ (1 : Int) ∧ (1 : Int) < 255) := by intros; (try unfold ab_r); omega) (p3 : p < k → (0 ≤ ((3 + k) - 1) ∧ ((3 + k) - 1) < 255) := by intros; (try unfold ab_r); omega) (p4 : p < k → (0 ≤ (3 + k) ∧ (3 + k) < 255) := by intros; (try unfold ab_r); omega) : ab_R E_X3_puts P_X3_puts Q 19 [some (.inr (.inl (some 0))), some (.inl p), some (.inl v), some (.inl c), some (.inl k)] [] (md_cs s_ z_ g_) :=
  ab_R.steps [5, 10, 19, 59, 213] 21 (show ((ab_r k ∧ ab_r p) ∧ ((k ≤ p → ((0 ≤ (1 : Int) ∧ (1 : Int) < 255) ∧ ab_R E_X3_puts P_X3_puts Q 59 [some (.inr (.inl (some 0))), some (.inl p), some (.inl v), some (.inl c), some (.inl (s_ 1))] [] (md_cs s_ z_ g_))) ∧ (p < k → ((0 ≤ ((3 + k) - 1) ∧ ((3 + k) - 1) < 255) ∧ ((0 ≤ (3 + k) ∧ (3 + k) < 255) ∧ ab_R E_X3_puts P_X3_puts Q 19 [some (.inr (.inl (some 0))), some (.inl p), some (.inl v), some (.inl c), some (.inl (k + (-1)))] [] (md_cs ((ab_up s_ (3 + k) (s_ ((3 + k) - 1)))) z_ g_)))))) from ⟨p1, ⟨fun h1 => ⟨(p2 h1), (l1 h1)⟩, fun h2 => ⟨(p3 h2), ⟨(p4 h2), (l2 h2)⟩⟩⟩⟩)
set_option maxRecDepth 100000 in
theorem b_X3_puts_59 {Q : ab_Q} {p : Int} {v : Int} {c : Int} {k : Int} {s_ : Int → Int} {z_ : mc_T} {g_ : mg_T} (l1 : k ≤ c → sp_X3_evens [.inr (.inl (some 0))] (md_cs ((ab_up (ab_up (ab_up (ab_up (ab_up (ab_up (ab_up s_ (3 + p) v) (63 + c) 1) (127 + c) 0) (191 + c) 0) 1 (((ab_up (ab_up (ab_up (ab_up s_ (3 + p) v) (63 + c) 1) (127 + c) 0) (191 + c) 0) 1) + 1)) 0 (((ab_up (ab_up (ab_up (ab_up (ab_up s_ (3 + p) v) (63 + c) 1) (127 + c) 0) (191 + c) 0) 1 (((ab_up (ab_up (ab_up (ab_up s_ (3 + p) v) (63 + c) 1) (127 + c) 0) (191 + c) 0) 1) + 1)) 0) + 1)) 2 (((ab_up (ab_up (ab_up (ab_up (ab_up (ab_up s_ (3 + p) v) (63 + c) 1) (127 + c) 0) (191 + c) 0) 1 (((ab_up (ab_up (ab_up (ab_up s_ (3 + p) v) (63 + c) 1) (127 + c) 0) (191 + c) 0) 1) + 1)) 0 (((ab_up (ab_up (ab_up (ab_up (ab_up s_ (3 + p) v) (63 + c) 1) (127 + c) 0) (191 + c) 0) 1 (((ab_up (ab_up (ab_up (ab_up s_ (3 + p) v) (63 + c) 1) (127 + c) 0) (191 + c) 0) 1) + 1)) 0) + 1)) 2) + 1))) z_ g_) (fun r_ k_ => ∃ (s_' : Int → Int), ∃ (z_' : mc_T), ∃ (g_' : mg_T), r_ = none ∧ k_ = (md_cs (s_') z_' g_') ∧ ab_R E_X3_puts P_X3_puts Q 213 [some (.inr (.inl (some 0))), some (.inl p), some (.inl v), some (.inl c), some (.inl k)] [] (md_cs (s_') z_' g_'))) (l2 : c < k → ab_R E_X3_puts P_X3_puts Q 59 [some (.inr (.inl (some 0))), some (.inl p), some (.inl v), some (.inl c), some (.inl (k + (-1)))] [] (md_cs ((ab_up (ab_up (ab_up s_ (63 + k) (s_ ((63 + k) - 1))) (127 + k) ((ab_up s_ (63 + k) (s_ ((63 + k) - 1))) ((127 + k) - 1))) (191 + k) ((ab_up (ab_up s_ (63 + k) (s_ ((63 + k) - 1))) (127 + k) ((ab_up s_ (63 + k) (s_ ((63 + k) - 1))) ((127 + k) - 1))) ((191 + k) - 1)))) z_ g_)) (p1 : (ab_r k ∧ ab_r c) := by intros; (try unfold ab_r); omega) (p2 : k ≤ c → (0 ≤ (3 + p) ∧ (3 + p) < 255) := by intros; (try unfold ab_r); omega) (p3 : k ≤ c → (0 ≤ (63 + c) ∧ (63 + c) < 255) := by intros; (try unfold ab_r); omega) (p4 : k ≤ c → (0 ≤ (127 + c) ∧ (127 + c) < 255) := by intros; (try unfold ab_r); omega) (p5 : k ≤ c → (0 ≤ (191 + c) ∧ (191 + c) < 255) := by intros; (try unfold ab_r); omega) (p6 : k ≤ c → (0 ≤ (1 : Int) ∧ (1 : Int) < 255) := by intros; (try unfold ab_r); omega) (p7 : k ≤ c → (0 ≤ (0 : Int) ∧ (0 : Int) < 255) := by intros; (try unfold ab_r); omega) (p8 : k ≤ c → (0 ≤ (2 : Int) ∧ (2 : Int) < 255) := by intros; (try unfold ab_r); omega) (p9 : c < k → (0 ≤ ((63 + k) - 1) ∧ ((63 + k) - 1) < 255) := by intros; (try unfold ab_r); omega) (p10 : c < k → (0 ≤ (63 + k) ∧ (63 + k) < 255) := by intros; (try unfold ab_r); omega) (p11 : c < k → (0 ≤ ((127 + k) - 1) ∧ ((127 + k) - 1) < 255) := by intros; (try unfold ab_r); omega) (p12 : c < k → (0 ≤ (127 + k) ∧ (127 + k) < 255) := by intros; (try unfold ab_r); omega) (p13 : c < k → (0 ≤ ((191 + k) - 1) ∧ ((191 + k) - 1) < 255) := by intros; (try unfold ab_r); omega) (p14 : c < k → (0 ≤ (191 + k) ∧ (191 + k) < 255) := by intros; (try unfold ab_r); omega) : ab_R E_X3_puts P_X3_puts Q 59 [some (.inr (.inl (some 0))), some (.inl p), some (.inl v), some (.inl c), some (.inl k)] [] (md_cs s_ z_ g_) :=
  ab_R.steps [5, 10, 19, 59, 213] 58 (show ((ab_r k ∧ ab_r c) ∧ ((k ≤ c → ((0 ≤ (3 + p) ∧ (3 + p) < 255) ∧ ((0 ≤ (63 + c) ∧ (63 + c) < 255) ∧ ((0 ≤ (127 + c) ∧ (127 + c) < 255) ∧ ((0 ≤ (191 + c) ∧ (191 + c) < 255) ∧ ((0 ≤ (1 : Int) ∧ (1 : Int) < 255) ∧ ((0 ≤ (1 : Int) ∧ (1 : Int) < 255) ∧ ((0 ≤ (0 : Int) ∧ (0 : Int) < 255) ∧ ((0 ≤ (0 : Int) ∧ (0 : Int) < 255) ∧ ((0 ≤ (2 : Int) ∧ (2 : Int) < 255) ∧ ((0 ≤ (2 : Int) ∧ (2 : Int) < 255) ∧ ab_cl sp_X3_evens [.inr (.inl (some 0))] (md_cs ((ab_up (ab_up (ab_up (ab_up (ab_up (ab_up (ab_up s_ (3 + p) v) (63 + c) 1) (127 + c) 0) (191 + c) 0) 1 (((ab_up (ab_up (ab_up (ab_up s_ (3 + p) v) (63 + c) 1) (127 + c) 0) (191 + c) 0) 1) + 1)) 0 (((ab_up (ab_up (ab_up (ab_up (ab_up s_ (3 + p) v) (63 + c) 1) (127 + c) 0) (191 + c) 0) 1 (((ab_up (ab_up (ab_up (ab_up s_ (3 + p) v) (63 + c) 1) (127 + c) 0) (191 + c) 0) 1) + 1)) 0) + 1)) 2 (((ab_up (ab_up (ab_up (ab_up (ab_up (ab_up s_ (3 + p) v) (63 + c) 1) (127 + c) 0) (191 + c) 0) 1 (((ab_up (ab_up (ab_up (ab_up s_ (3 + p) v) (63 + c) 1) (127 + c) 0) (191 + c) 0) 1) + 1)) 0 (((ab_up (ab_up (ab_up (ab_up (ab_up s_ (3 + p) v) (63 + c) 1) (127 + c) 0) (191 + c) 0) 1 (((ab_up (ab_up (ab_up (ab_up s_ (3 + p) v) (63 + c) 1) (127 + c) 0) (191 + c) 0) 1) + 1)) 0) + 1)) 2) + 1))) z_ g_) (fun r_ k_ => k_.length = ((md_cs ((ab_up (ab_up (ab_up (ab_up (ab_up (ab_up (ab_up s_ (3 + p) v) (63 + c) 1) (127 + c) 0) (191 + c) 0) 1 (((ab_up (ab_up (ab_up (ab_up s_ (3 + p) v) (63 + c) 1) (127 + c) 0) (191 + c) 0) 1) + 1)) 0 (((ab_up (ab_up (ab_up (ab_up (ab_up s_ (3 + p) v) (63 + c) 1) (127 + c) 0) (191 + c) 0) 1 (((ab_up (ab_up (ab_up (ab_up s_ (3 + p) v) (63 + c) 1) (127 + c) 0) (191 + c) 0) 1) + 1)) 0) + 1)) 2 (((ab_up (ab_up (ab_up (ab_up (ab_up (ab_up s_ (3 + p) v) (63 + c) 1) (127 + c) 0) (191 + c) 0) 1 (((ab_up (ab_up (ab_up (ab_up s_ (3 + p) v) (63 + c) 1) (127 + c) 0) (191 + c) 0) 1) + 1)) 0 (((ab_up (ab_up (ab_up (ab_up (ab_up s_ (3 + p) v) (63 + c) 1) (127 + c) 0) (191 + c) 0) 1 (((ab_up (ab_up (ab_up (ab_up s_ (3 + p) v) (63 + c) 1) (127 + c) 0) (191 + c) 0) 1) + 1)) 0) + 1)) 2) + 1))) z_ g_)).length → ab_R E_X3_puts P_X3_puts Q 213 [some (.inr (.inl (some 0))), some (.inl p), some (.inl v), some (.inl c), some (.inl k)] (ab_ret r_ []) k_)))))))))))) ∧ (c < k → ((0 ≤ ((63 + k) - 1) ∧ ((63 + k) - 1) < 255) ∧ ((0 ≤ (63 + k) ∧ (63 + k) < 255) ∧ ((0 ≤ ((127 + k) - 1) ∧ ((127 + k) - 1) < 255) ∧ ((0 ≤ (127 + k) ∧ (127 + k) < 255) ∧ ((0 ≤ ((191 + k) - 1) ∧ ((191 + k) - 1) < 255) ∧ ((0 ≤ (191 + k) ∧ (191 + k) < 255) ∧ ab_R E_X3_puts P_X3_puts Q 59 [some (.inr (.inl (some 0))), some (.inl p), some (.inl v), some (.inl c), some (.inl (k + (-1)))] [] (md_cs ((ab_up (ab_up (ab_up s_ (63 + k) (s_ ((63 + k) - 1))) (127 + k) ((ab_up s_ (63 + k) (s_ ((63 + k) - 1))) ((127 + k) - 1))) (191 + k) ((ab_up (ab_up s_ (63 + k) (s_ ((63 + k) - 1))) (127 + k) ((ab_up s_ (63 + k) (s_ ((63 + k) - 1))) ((127 + k) - 1))) ((191 + k) - 1)))) z_ g_)))))))))) from ⟨p1, ⟨fun h1 => ⟨(p2 h1), ⟨(p3 h1), ⟨(p4 h1), ⟨(p5 h1), ⟨(p6 h1), ⟨(p6 h1), ⟨(p7 h1), ⟨(p7 h1), ⟨(p8 h1), ⟨(p8 h1), ⟨_, (l1 h1), fun r_ k_ hz _ => by obtain ⟨s_', z_', g_', rfl, rfl, hR⟩ := hz; exact hR⟩⟩⟩⟩⟩⟩⟩⟩⟩⟩⟩, fun h2 => ⟨(p9 h2), ⟨(p10 h2), ⟨(p11 h2), ⟨(p12 h2), ⟨(p13 h2), ⟨(p14 h2), (l2 h2)⟩⟩⟩⟩⟩⟩⟩⟩)
set_option maxRecDepth 100000 in
theorem b_X3_puts_213 {Q : ab_Q} {p : Int} {v : Int} {c : Int} {k : Int} {s_ : Int → Int} {z_ : mc_T} {g_ : mg_T} (l1 : Q none (md_cs s_ z_ g_))  : ab_R E_X3_puts P_X3_puts Q 213 [some (.inr (.inl (some 0))), some (.inl p), some (.inl v), some (.inl c), some (.inl k)] [] (md_cs s_ z_ g_) :=
  ab_R.steps [5, 10, 19, 59, 213] 2 (show Q none (md_cs s_ z_ g_) from l1)
-- ===== RootChunksModel.takes
def P_X3_takes : List ab_I := [(0, .aload_n 0, 1, []), (1, .iload_n 1, 2, []), (2, .invokevirtual 79, 5, []), (5, .aload_n 0, 6, []), (6, .iload_n 1, 7, []), (7, .iconst 1, 8, []), (8, .iadd, 9, []), (9, .invokevirtual 79, 12, []), (12, .aload_n 0, 13, []), (13, .iload_n 1, 14, []), (14, .invokevirtual 82, 17, []), (17, .istore_n 2, 18, []), (18, .iload_n 1, 19, []), (19, .istore_n 3, 20, []), (20, .iload_n 3, 21, []), (21, .aload_n 0, 22, []), (22, .getfield 7, 25, []), (25, .iconst 0, 26, []), (26, .iaload, 27, []), (27, .iconst 1, 28, []), (28, .isub, 29, []), (29, .if_icmp .ge 27, 32, [((0 : Int), 56)]), (32, .aload_n 0, 33, []), (33, .getfield 7, 36, []), (36, .iconst 3, 37, []), (37, .iload_n 3, 38, []), (38, .iadd, 39, []), (39, .aload_n 0, 40, []), (40, .getfield 7, 43, []), (43, .iconst 3, 44, []), (44, .iload_n 3, 45, []), (45, .iadd, 46, []), (46, .iconst 1, 47, []), (47, .iadd, 48, []), (48, .iaload, 49, []), (49, .iastore, 50, []), (50, .iinc 3 1, 53, []), (53, .goto (-33), 56, [((0 : Int), 20)]), (56, .aload_n 0, 57, []), (57, .getfield 7, 60, []), (60, .iconst 0, 61, []), (61, .dup2, 62, []), (62, .iaload, 63, []), (63, .iconst 1, 64, []), (64, .isub, 65, []), (65, .iastore, 66, []), (66, .aload_n 0, 67, []), (67, .getfield 7, 70, []), (70, .iconst 3, 71, []), (71, .aload_n 0, 72, []), (72, .getfield 7, 75, []), (75, .iconst 0, 76, []), (76, .iaload, 77, []), (77, .iadd, 78, []), (78, .iconst 0, 79, []), (79, .iastore, 80, []), (80, .aload_n 0, 81, []), (81, .iload_n 2, 82, []), (82, .invokevirtual 76, 85, []), (85, .aload_n 0, 86, []), (86, .invokevirtual 85, 89, []), (89, .return_, 90, [])]
def E_X3_takes : ab_E := (T_X3, [(2, (2, 3, [], 0, sp_X3_cuts)), (9, (2, 3, [], 0, sp_X3_cuts)), (14, (2, 3, [], 0, sp_X3_chunkFrom)), (82, (2, 3, [], 0, sp_X3_closes)), (86, (1, 3, [], 0, sp_X3_evens))], [], 9)
def M_X3_takes : List (Nat × ab_MI) := [(2, mi_X3_cuts), (9, mi_X3_cuts), (14, mi_X3_chunkFrom), (82, mi_X3_closes), (86, mi_X3_evens)]
def mi_X3_takes : ab_MI := (yX3_takes, cX3_takes, 4, ab_rty 9, 5, 164)
theorem pk_X3_takes : P_X3_takes.all (ab_okI cX3_takes) = true := by decide +kernel
theorem ck_X3_takes : P_X3_takes.all (ab_okC1 "RootChunksModel" M_X3_takes E_X3_takes (5, 164)) = true := by decide +kernel
set_option maxRecDepth 100000 in
theorem b_X3_takes_0 {Q : ab_Q} {p : Int} {s_ : Int → Int} {z_ : mc_T} {g_ : mg_T} (l1 : sp_X3_cuts [.inr (.inl (some 0)), .inl p] (md_cs s_ z_ g_) (fun r_ k_ => ∃ (s_' : Int → Int), ∃ (z_' : mc_T), ∃ (g_' : mg_T), r_ = none ∧ k_ = (md_cs (s_') z_' g_') ∧ ab_R E_X3_takes P_X3_takes Q 5 [some (.inr (.inl (some 0))), some (.inl p), none, none] [] (md_cs (s_') z_' g_')))  : ab_R E_X3_takes P_X3_takes Q 0 [some (.inr (.inl (some 0))), some (.inl p), none, none] [] (md_cs s_ z_ g_) :=
  ab_R.steps [5, 12, 17, 20, 85, 89] 4 (show ab_cl sp_X3_cuts [.inr (.inl (some 0)), .inl p] (md_cs s_ z_ g_) (fun r_ k_ => k_.length = ((md_cs s_ z_ g_)).length → ab_R E_X3_takes P_X3_takes Q 5 [some (.inr (.inl (some 0))), some (.inl p), none, none] (ab_ret r_ []) k_) from ⟨_, l1, fun r_ k_ hz _ => by obtain ⟨s_', z_', g_', rfl, rfl, hR⟩ := hz; exact hR⟩)
set_option maxRecDepth 100000 in
theorem b_X3_takes_5 {Q : ab_Q} {p : Int} {s_ : Int → Int} {z_ : mc_T} {g_ : mg_T} (l1 : sp_X3_cuts [.inr (.inl (some 0)), .inl (p + 1)] (md_cs s_ z_ g_) (fun r_ k_ => ∃ (s_' : Int → Int), ∃ (z_' : mc_T), ∃ (g_' : mg_T), r_ = none ∧ k_ = (md_cs (s_') z_' g_') ∧ ab_R E_X3_takes P_X3_takes Q 12 [some (.inr (.inl (some 0))), some (.inl p), none, none] [] (md_cs (s_') z_' g_')))  : ab_R E_X3_takes P_X3_takes Q 5 [some (.inr (.inl (some 0))), some (.inl p), none, none] [] (md_cs s_ z_ g_) :=
  ab_R.steps [5, 12, 17, 20, 85, 89] 6 (show ab_cl sp_X3_cuts [.inr (.inl (some 0)), .inl (p + 1)] (md_cs s_ z_ g_) (fun r_ k_ => k_.length = ((md_cs s_ z_ g_)).length → ab_R E_X3_takes P_X3_takes Q 12 [some (.inr (.inl (some 0))), some (.inl p), none, none] (ab_ret r_ []) k_) from ⟨_, l1, fun r_ k_ hz _ => by obtain ⟨s_', z_', g_', rfl, rfl, hR⟩ := hz; exact hR⟩)
set_option maxRecDepth 100000 in
theorem b_X3_takes_12 {Q : ab_Q} {p : Int} {s_ : Int → Int} {z_ : mc_T} {g_ : mg_T} (l1 : sp_X3_chunkFrom [.inr (.inl (some 0)), .inl p] (md_cs s_ z_ g_) (fun r_ k_ => ∃ (x_ : Int), r_ = some (.inl x_) ∧ k_ = (md_cs s_ z_ g_) ∧ ab_R E_X3_takes P_X3_takes Q 17 [some (.inr (.inl (some 0))), some (.inl p), none, none] [.inl x_] (md_cs s_ z_ g_)))  : ab_R E_X3_takes P_X3_takes Q 12 [some (.inr (.inl (some 0))), some (.inl p), none, none] [] (md_cs s_ z_ g_) :=
  ab_R.steps [5, 12, 17, 20, 85, 89] 4 (show ab_cl sp_X3_chunkFrom [.inr (.inl (some 0)), .inl p] (md_cs s_ z_ g_) (fun r_ k_ => k_.length = ((md_cs s_ z_ g_)).length → ab_R E_X3_takes P_X3_takes Q 17 [some (.inr (.inl (some 0))), some (.inl p), none, none] (ab_ret r_ []) k_) from ⟨_, l1, fun r_ k_ hz _ => by obtain ⟨x_, rfl, rfl, hR⟩ := hz; exact hR⟩)
set_option maxRecDepth 100000 in
theorem b_X3_takes_17 {Q : ab_Q} {p : Int} {t0 : Int} {s_ : Int → Int} {z_ : mc_T} {g_ : mg_T} (l1 : ab_R E_X3_takes P_X3_takes Q 20 [some (.inr (.inl (some 0))), some (.inl p), some (.inl t0), some (.inl p)] [] (md_cs s_ z_ g_))  : ab_R E_X3_takes P_X3_takes Q 17 [some (.inr (.inl (some 0))), some (.inl p), none, none] [.inl t0] (md_cs s_ z_ g_) :=
  ab_R.steps [5, 12, 17, 20, 85, 89] 5 (show ab_R E_X3_takes P_X3_takes Q 20 [some (.inr (.inl (some 0))), some (.inl p), some (.inl t0), some (.inl p)] [] (md_cs s_ z_ g_) from l1)
set_option maxRecDepth 100000 in
theorem b_X3_takes_20 {Q : ab_Q} {p : Int} {c : Int} {k : Int} {s_ : Int → Int} {z_ : mc_T} {g_ : mg_T} (l1 : ((s_ 0) - 1) ≤ k → sp_X3_closes [.inr (.inl (some 0)), .inl c] (md_cs ((ab_up (ab_up s_ 0 ((s_ 0) - 1)) (3 + ((ab_up s_ 0 ((s_ 0) - 1)) 0)) 0)) z_ g_) (fun r_ k_ => ∃ (s_' : Int → Int), ∃ (z_' : mc_T), ∃ (g_' : mg_T), r_ = none ∧ k_ = (md_cs (s_') z_' g_') ∧ ab_R E_X3_takes P_X3_takes Q 85 [some (.inr (.inl (some 0))), some (.inl p), some (.inl c), some (.inl k)] [] (md_cs (s_') z_' g_'))) (l2 : k < ((s_ 0) - 1) → ab_R E_X3_takes P_X3_takes Q 20 [some (.inr (.inl (some 0))), some (.inl p), some (.inl c), some (.inl (k + 1))] [] (md_cs ((ab_up s_ (3 + k) (s_ ((3 + k) + 1)))) z_ g_)) (p1 : (0 ≤ (0 : Int) ∧ (0 : Int) < 255) := by intros; (try unfold ab_r); omega) (p2 : (ab_r k ∧ ab_r ((s_ 0) - 1)) := by intros; (try unfold ab_r); omega) (p3 : ((s_ 0) - 1) ≤ k → (0 ≤ (0 : Int) ∧ (0 : Int) < 255) := by intros; (try unfold ab_r); omega) (p4 : ((s_ 0) - 1) ≤ k → (0 ≤ (3 + ((ab_up s_ 0 ((s_ 0) - 1)) 0)) ∧ (3 + ((ab_up s_ 0 ((s_ 0) - 1)) 0)) < 255) := by intros; (try unfold ab_r); omega) (p5 : k < ((s_ 0) - 1) → (0 ≤ ((3 + k) + 1) ∧ ((3 + k) + 1) < 255) := by intros; (try unfold ab_r); omega) (p6 : k < ((s_ 0) - 1) → (0 ≤ (3 + k) ∧ (3 + k) < 255) := by intros; (try unfold ab_r); omega) : ab_R E_X3_takes P_X3_takes Q 20 [some (.inr (.inl (some 0))), some (.inl p), some (.inl c), some (.inl k)] [] (md_cs s_ z_ g_) :=
  ab_R.steps [5, 12, 17, 20, 85, 89] 30 (show ((0 ≤ (0 : Int) ∧ (0 : Int) < 255) ∧ ((ab_r k ∧ ab_r ((s_ 0) - 1)) ∧ ((((s_ 0) - 1) ≤ k → ((0 ≤ (0 : Int) ∧ (0 : Int) < 255) ∧ ((0 ≤ (0 : Int) ∧ (0 : Int) < 255) ∧ ((0 ≤ (0 : Int) ∧ (0 : Int) < 255) ∧ ((0 ≤ (3 + ((ab_up s_ 0 ((s_ 0) - 1)) 0)) ∧ (3 + ((ab_up s_ 0 ((s_ 0) - 1)) 0)) < 255) ∧ ab_cl sp_X3_closes [.inr (.inl (some 0)), .inl c] (md_cs ((ab_up (ab_up s_ 0 ((s_ 0) - 1)) (3 + ((ab_up s_ 0 ((s_ 0) - 1)) 0)) 0)) z_ g_) (fun r_ k_ => k_.length = ((md_cs ((ab_up (ab_up s_ 0 ((s_ 0) - 1)) (3 + ((ab_up s_ 0 ((s_ 0) - 1)) 0)) 0)) z_ g_)).length → ab_R E_X3_takes P_X3_takes Q 85 [some (.inr (.inl (some 0))), some (.inl p), some (.inl c), some (.inl k)] (ab_ret r_ []) k_)))))) ∧ (k < ((s_ 0) - 1) → ((0 ≤ ((3 + k) + 1) ∧ ((3 + k) + 1) < 255) ∧ ((0 ≤ (3 + k) ∧ (3 + k) < 255) ∧ ab_R E_X3_takes P_X3_takes Q 20 [some (.inr (.inl (some 0))), some (.inl p), some (.inl c), some (.inl (k + 1))] [] (md_cs ((ab_up s_ (3 + k) (s_ ((3 + k) + 1)))) z_ g_))))))) from ⟨p1, ⟨p2, ⟨fun h1 => ⟨(p3 h1), ⟨(p3 h1), ⟨(p3 h1), ⟨(p4 h1), ⟨_, (l1 h1), fun r_ k_ hz _ => by obtain ⟨s_', z_', g_', rfl, rfl, hR⟩ := hz; exact hR⟩⟩⟩⟩⟩, fun h2 => ⟨(p5 h2), ⟨(p6 h2), (l2 h2)⟩⟩⟩⟩⟩)
set_option maxRecDepth 100000 in
theorem b_X3_takes_85 {Q : ab_Q} {p : Int} {c : Int} {k : Int} {s_ : Int → Int} {z_ : mc_T} {g_ : mg_T} (l1 : sp_X3_evens [.inr (.inl (some 0))] (md_cs s_ z_ g_) (fun r_ k_ => ∃ (s_' : Int → Int), ∃ (z_' : mc_T), ∃ (g_' : mg_T), r_ = none ∧ k_ = (md_cs (s_') z_' g_') ∧ ab_R E_X3_takes P_X3_takes Q 89 [some (.inr (.inl (some 0))), some (.inl p), some (.inl c), some (.inl k)] [] (md_cs (s_') z_' g_')))  : ab_R E_X3_takes P_X3_takes Q 85 [some (.inr (.inl (some 0))), some (.inl p), some (.inl c), some (.inl k)] [] (md_cs s_ z_ g_) :=
  ab_R.steps [5, 12, 17, 20, 85, 89] 3 (show ab_cl sp_X3_evens [.inr (.inl (some 0))] (md_cs s_ z_ g_) (fun r_ k_ => k_.length = ((md_cs s_ z_ g_)).length → ab_R E_X3_takes P_X3_takes Q 89 [some (.inr (.inl (some 0))), some (.inl p), some (.inl c), some (.inl k)] (ab_ret r_ []) k_) from ⟨_, l1, fun r_ k_ hz _ => by obtain ⟨s_', z_', g_', rfl, rfl, hR⟩ := hz; exact hR⟩)
set_option maxRecDepth 100000 in
theorem b_X3_takes_89 {Q : ab_Q} {p : Int} {c : Int} {k : Int} {s_ : Int → Int} {z_ : mc_T} {g_ : mg_T} (l1 : Q none (md_cs s_ z_ g_))  : ab_R E_X3_takes P_X3_takes Q 89 [some (.inr (.inl (some 0))), some (.inl p), some (.inl c), some (.inl k)] [] (md_cs s_ z_ g_) :=
  ab_R.steps [5, 12, 17, 20, 85, 89] 2 (show Q none (md_cs s_ z_ g_) from l1)
-- ===== RootChunksModel.sets
def P_X3_sets : List ab_I := [(0, .aload_n 0, 1, []), (1, .aload_n 0, 2, []), (2, .iload_n 1, 3, []), (3, .invokevirtual 54, 6, []), (6, .invokevirtual 64, 9, []), (9, .aload_n 0, 10, []), (10, .getfield 7, 13, []), (13, .iconst 3, 14, []), (14, .iload_n 1, 15, []), (15, .iadd, 16, []), (16, .iload_n 2, 17, []), (17, .iastore, 18, []), (18, .aload_n 0, 19, []), (19, .getfield 7, 22, []), (22, .iconst 2, 23, []), (23, .dup2, 24, []), (24, .iaload, 25, []), (25, .iconst 1, 26, []), (26, .iadd, 27, []), (27, .iastore, 28, []), (28, .aload_n 0, 29, []), (29, .invokevirtual 85, 32, []), (32, .return_, 33, [])]
def E_X3_sets : ab_E := (T_X3, [(3, (2, 3, [], 0, sp_X3_chunkAt)), (6, (2, 3, [], 0, sp_X3_carries)), (29, (1, 3, [], 0, sp_X3_evens))], [], 9)
def M_X3_sets : List (Nat × ab_MI) := [(3, mi_X3_chunkAt), (6, mi_X3_carries), (29, mi_X3_evens)]
def mi_X3_sets : ab_MI := (yX3_sets, cX3_sets, 3, ab_rty 9, 5, 164)
theorem pk_X3_sets : P_X3_sets.all (ab_okI cX3_sets) = true := by decide +kernel
theorem ck_X3_sets : P_X3_sets.all (ab_okC1 "RootChunksModel" M_X3_sets E_X3_sets (5, 164)) = true := by decide +kernel
set_option maxRecDepth 100000 in
theorem b_X3_sets_0 {Q : ab_Q} {p : Int} {v : Int} {s_ : Int → Int} {z_ : mc_T} {g_ : mg_T} (l1 : sp_X3_chunkAt [.inr (.inl (some 0)), .inl p] (md_cs s_ z_ g_) (fun r_ k_ => ∃ (x_ : Int), r_ = some (.inl x_) ∧ k_ = (md_cs s_ z_ g_) ∧ ab_R E_X3_sets P_X3_sets Q 6 [some (.inr (.inl (some 0))), some (.inl p), some (.inl v)] [.inl x_, .inr (.inl (some 0))] (md_cs s_ z_ g_)))  : ab_R E_X3_sets P_X3_sets Q 0 [some (.inr (.inl (some 0))), some (.inl p), some (.inl v)] [] (md_cs s_ z_ g_) :=
  ab_R.steps [6, 9, 32] 5 (show ab_cl sp_X3_chunkAt [.inr (.inl (some 0)), .inl p] (md_cs s_ z_ g_) (fun r_ k_ => k_.length = ((md_cs s_ z_ g_)).length → ab_R E_X3_sets P_X3_sets Q 6 [some (.inr (.inl (some 0))), some (.inl p), some (.inl v)] (ab_ret r_ [.inr (.inl (some 0))]) k_) from ⟨_, l1, fun r_ k_ hz _ => by obtain ⟨x_, rfl, rfl, hR⟩ := hz; exact hR⟩)
set_option maxRecDepth 100000 in
theorem b_X3_sets_6 {Q : ab_Q} {p : Int} {v : Int} {t0 : Int} {s_ : Int → Int} {z_ : mc_T} {g_ : mg_T} (l1 : sp_X3_carries [.inr (.inl (some 0)), .inl t0] (md_cs s_ z_ g_) (fun r_ k_ => ∃ (s_' : Int → Int), ∃ (z_' : mc_T), ∃ (g_' : mg_T), r_ = none ∧ k_ = (md_cs (s_') z_' g_') ∧ ab_R E_X3_sets P_X3_sets Q 9 [some (.inr (.inl (some 0))), some (.inl p), some (.inl v)] [] (md_cs (s_') z_' g_')))  : ab_R E_X3_sets P_X3_sets Q 6 [some (.inr (.inl (some 0))), some (.inl p), some (.inl v)] [.inl t0, .inr (.inl (some 0))] (md_cs s_ z_ g_) :=
  ab_R.steps [6, 9, 32] 2 (show ab_cl sp_X3_carries [.inr (.inl (some 0)), .inl t0] (md_cs s_ z_ g_) (fun r_ k_ => k_.length = ((md_cs s_ z_ g_)).length → ab_R E_X3_sets P_X3_sets Q 9 [some (.inr (.inl (some 0))), some (.inl p), some (.inl v)] (ab_ret r_ []) k_) from ⟨_, l1, fun r_ k_ hz _ => by obtain ⟨s_', z_', g_', rfl, rfl, hR⟩ := hz; exact hR⟩)
set_option maxRecDepth 100000 in
theorem b_X3_sets_9 {Q : ab_Q} {p : Int} {v : Int} {s_ : Int → Int} {z_ : mc_T} {g_ : mg_T} (l1 : sp_X3_evens [.inr (.inl (some 0))] (md_cs ((ab_up (ab_up s_ (3 + p) v) 2 (((ab_up s_ (3 + p) v) 2) + 1))) z_ g_) (fun r_ k_ => ∃ (s_' : Int → Int), ∃ (z_' : mc_T), ∃ (g_' : mg_T), r_ = none ∧ k_ = (md_cs (s_') z_' g_') ∧ ab_R E_X3_sets P_X3_sets Q 32 [some (.inr (.inl (some 0))), some (.inl p), some (.inl v)] [] (md_cs (s_') z_' g_'))) (p1 : (0 ≤ (3 + p) ∧ (3 + p) < 255) := by intros; (try unfold ab_r); omega) (p2 : (0 ≤ (2 : Int) ∧ (2 : Int) < 255) := by intros; (try unfold ab_r); omega) : ab_R E_X3_sets P_X3_sets Q 9 [some (.inr (.inl (some 0))), some (.inl p), some (.inl v)] [] (md_cs s_ z_ g_) :=
  ab_R.steps [6, 9, 32] 18 (show ((0 ≤ (3 + p) ∧ (3 + p) < 255) ∧ ((0 ≤ (2 : Int) ∧ (2 : Int) < 255) ∧ ((0 ≤ (2 : Int) ∧ (2 : Int) < 255) ∧ ab_cl sp_X3_evens [.inr (.inl (some 0))] (md_cs ((ab_up (ab_up s_ (3 + p) v) 2 (((ab_up s_ (3 + p) v) 2) + 1))) z_ g_) (fun r_ k_ => k_.length = ((md_cs ((ab_up (ab_up s_ (3 + p) v) 2 (((ab_up s_ (3 + p) v) 2) + 1))) z_ g_)).length → ab_R E_X3_sets P_X3_sets Q 32 [some (.inr (.inl (some 0))), some (.inl p), some (.inl v)] (ab_ret r_ []) k_)))) from ⟨p1, ⟨p2, ⟨p2, ⟨_, l1, fun r_ k_ hz _ => by obtain ⟨s_', z_', g_', rfl, rfl, hR⟩ := hz; exact hR⟩⟩⟩⟩)
set_option maxRecDepth 100000 in
theorem b_X3_sets_32 {Q : ab_Q} {p : Int} {v : Int} {s_ : Int → Int} {z_ : mc_T} {g_ : mg_T} (l1 : Q none (md_cs s_ z_ g_))  : ab_R E_X3_sets P_X3_sets Q 32 [some (.inr (.inl (some 0))), some (.inl p), some (.inl v)] [] (md_cs s_ z_ g_) :=
  ab_R.steps [6, 9, 32] 2 (show Q none (md_cs s_ z_ g_) from l1)
theorem vc_X3_puts {av : List ab_V} {cs : List ab_C} {Q : ab_Q} (h : sp_X3_puts av cs Q) : (ab_lv0 av).length ≤ 5 ∧ ab_R E_X3_puts P_X3_puts Q 0 (ab_ent av 5) [] cs := by
  obtain ⟨s, z, g, q, d, p, v, rfl, rfl, hR, hW, hp, hd, hl, hv1, hv2, hQ⟩ := h
  refine ⟨Nat.le_of_ble_eq_true rfl, ?_⟩
  have hW2 := mq_W_put (v := v) hW hd hl ⟨hv1, hv2⟩
  refine b_X3_puts_0 ⟨_, _, _, q, d, _, rfl, rfl, hR, hW, hp, hd, fun s1 z1 hr1 hw1 => ⟨_, z1, g, rfl, rfl, ?_⟩⟩
  have hW1 := mq_cut_W hW hd
  obtain ⟨y1, y2⟩ := mq_cut_len hd
  obtain ⟨A, B, w, hc⟩ : ∃ A B w, mq_cut q d = (A, B, w) := ⟨_, _, _, rfl⟩
  have hpq : mq_put q d v = (A ++ ([v], 0, 0) :: B, w + 1) := by unfold mq_put; rw [hc]
  rw [hc] at hr1 hw1 hW1 y1 y2
  rw [hpq] at hQ hW2
  dsimp only at hr1 hw1 hW1 y1 y2 hQ hW2
  have n1 : s1 0 = ((mq_flat (A ++ B)).length : Nat) := hr1.2.2.2.2.1
  have c1 : s1 1 = ((A ++ B).length : Nat) := hr1.2.2.2.2.2
  have hpos := mq_flat_pos hW1.1
  rw [mq_flat_app, List.length_append] at n1 hpos
  rw [List.length_append] at c1 hpos
  refine b_X3_puts_5 ⟨_, _, _, A, B, _, rfl, rfl, hr1, hW1, by omega, _, rfl, rfl, ?_⟩
  refine b_X3_puts_10 ?_
  have second : ∀ (s2 : Int → Int), (∀ j : Int, s2 j = if 3 + p < j ∧ j ≤ 3 + s1 0 then s1 (j - 1) else s1 j) → ∀ (m : Nat) (k : Int) (s3 : Int → Int), k = A.length + m → k ≤ s1 1 → (∀ j : Int, s3 j = if (63 + k < j ∧ j ≤ 63 + s1 1) ∨ (127 + k < j ∧ j ≤ 127 + s1 1) ∨ (191 + k < j ∧ j ≤ 191 + s1 1) then s2 (j - 1) else s2 j) →
      ab_R E_X3_puts P_X3_puts Q 59 [some (.inr (.inl (some 0))), some (.inl p), some (.inl v), some (.inl (A.length : Int)), some (.inl k)] [] (md_cs s3 z1 g) := by
    intro s2 g0 m
    induction m with
    | zero =>
      intro k s3 g1 g2 g3
      refine b_X3_puts_59 (fun _ => ?_) (fun _ => by omega)
      have o : ∀ j : Int, j ≤ 3 + s1 0 → s3 j = if 3 + p < j then s1 (j - 1) else s1 j := fun j hj => by
        rw [g3, if_neg (by omega), g0]
        by_cases y : 3 + p < j
        · rw [if_pos y, if_pos ⟨y, hj⟩]
        · rw [if_neg y, if_neg (by omega)]
      have o2 : ∀ j : Int, 63 ≤ j → s3 j = if (63 + k < j ∧ j ≤ 63 + s1 1) ∨ (127 + k < j ∧ j ≤ 127 + s1 1) ∨ (191 + k < j ∧ j ≤ 191 + s1 1) then s1 (j - 1) else s1 j := fun j hj => by
        rw [g3]
        by_cases y : (63 + k < j ∧ j ≤ 63 + s1 1) ∨ (127 + k < j ∧ j ≤ 127 + s1 1) ∨ (191 + k < j ∧ j ≤ 191 + s1 1)
        · rw [if_pos y, if_pos y, g0, if_neg (by omega)]
        · rw [if_neg y, if_neg y, g0, if_neg (by omega)]
      have o0 := o 0 (by omega)
      have o1 := o 1 (by omega)
      have ow := o 2 (by omega)
      rw [if_neg (by omega)] at o0 o1 ow
      have hput := mq_R_put (w' := 0) (v := v) hr1
      refine ⟨_, _, _, A ++ ([v], 0, 0) :: B, rfl, rfl, mq_R_ext2 hput (fun j j1 j2 => ?_) (fun j j1 j2 => ?_) (fun j j1 j2 => ?_) (fun j j1 j2 => ?_) ?_ ?_, hW2, fun s' z' q1 q2 => ⟨s', z', g, rfl, rfl, b_X3_puts_213 (hQ s' z' q1 ?_)⟩⟩
      · have : (mq_flat (A ++ ([v], 0, 0) :: B)).length = (mq_flat A).length + (1 + (mq_flat B).length) := by rw [mq_flat_mid]; simp; omega
        show ab_up _ _ _ (3 + j) = mq_ins (fun j => s1 (3 + j)) (s1 0) (mq_flat A).length v j
        unfold mq_ins
        by_cases y : j = p
        · rw [if_pos (by omega)]
          repeat (first | rw [ab_up_ne (by omega)] | rw [ab_up_eq (by omega)])
        · rw [if_neg (by omega)]
          repeat rw [ab_up_ne (by omega)]
          rw [o _ (by omega)]
          by_cases y3 : p < j
          · rw [if_pos (by omega), if_pos (by omega)]
            congr 1; omega
          · rw [if_neg (by omega), if_neg (by omega)]
      · rw [List.length_append, List.length_cons] at j2
        show ab_up _ _ _ (63 + j) = mq_ins (fun c => s1 (63 + c)) (s1 1) A.length 1 j
        unfold mq_ins
        by_cases y : j = A.length
        · rw [if_pos y]
          repeat (first | rw [ab_up_ne (by omega)] | rw [ab_up_eq (by omega)])
        · rw [if_neg y]
          repeat rw [ab_up_ne (by omega)]
          rw [o2 _ (by omega)]
          by_cases y3 : (A.length : Int) < j
          · rw [if_pos (by omega), if_pos (by omega)]
            congr 1; omega
          · rw [if_neg (by omega), if_neg (by omega)]
      · rw [List.length_append, List.length_cons] at j2
        show ab_up _ _ _ (127 + j) = mq_ins (fun c => s1 (127 + c)) (s1 1) A.length 0 j
        unfold mq_ins
        by_cases y : j = A.length
        · rw [if_pos y]
          repeat (first | rw [ab_up_ne (by omega)] | rw [ab_up_eq (by omega)])
        · rw [if_neg y]
          repeat rw [ab_up_ne (by omega)]
          rw [o2 _ (by omega)]
          by_cases y3 : (A.length : Int) < j
          · rw [if_pos (by omega), if_pos (by omega)]
            congr 1; omega
          · rw [if_neg (by omega), if_neg (by omega)]
      · rw [List.length_append, List.length_cons] at j2
        show ab_up _ _ _ (191 + j) = mq_ins (fun c => s1 (191 + c)) (s1 1) A.length 0 j
        unfold mq_ins
        by_cases y : j = A.length
        · rw [if_pos y]
          repeat (first | rw [ab_up_ne (by omega)] | rw [ab_up_eq (by omega)])
        · rw [if_neg y]
          repeat rw [ab_up_ne (by omega)]
          rw [o2 _ (by omega)]
          by_cases y3 : (A.length : Int) < j
          · rw [if_pos (by omega), if_pos (by omega)]
            congr 1; omega
          · rw [if_neg (by omega), if_neg (by omega)]
      · dsimp only [md_v]
        repeat (first | rw [ab_up_ne (by omega)] | rw [ab_up_eq (by omega)])
        omega
      · dsimp only [md_v]
        repeat (first | rw [ab_up_ne (by omega)] | rw [ab_up_eq (by omega)])
        omega
      · have e2 : ∀ f : Int → Int, ∀ x : Int, ab_up f 2 x 2 = x := fun f x => ab_up_eq rfl
        rw [e2] at q2
        rw [q2]
        repeat rw [ab_up_ne (by omega)]
        omega
    | succ m ih =>
      intro k s3 g1 g2 g3
      refine b_X3_puts_59 (fun _ => by omega) (fun _ => ih _ _ (by omega) (by omega) (fun j => ?_))
      have o : ∀ j : Int, (j = 63 + k - 1 ∨ j = 127 + k - 1 ∨ j = 191 + k - 1) → s3 j = s2 j := fun j hj => by rw [g3, if_neg (by omega)]
      rw [ab_up_ne (show 127 + k - 1 ≠ 63 + k by omega), ab_up_ne (show 191 + k - 1 ≠ 127 + k by omega), ab_up_ne (show 191 + k - 1 ≠ 63 + k by omega), o (63 + k - 1) (by omega), o (127 + k - 1) (by omega), o (191 + k - 1) (by omega)]
      by_cases y1 : j = 191 + k
      · rw [ab_up_eq y1, if_pos (by omega), y1]
      · rw [ab_up_ne y1]
        by_cases y2 : j = 127 + k
        · rw [ab_up_eq y2, if_pos (by omega), y2]
        · rw [ab_up_ne y2]
          by_cases y3 : j = 63 + k
          · rw [ab_up_eq y3, if_pos (by omega), y3]
          · rw [ab_up_ne y3, g3]
            by_cases y4 : (63 + k < j ∧ j ≤ 63 + s1 1) ∨ (127 + k < j ∧ j ≤ 127 + s1 1) ∨ (191 + k < j ∧ j ≤ 191 + s1 1)
            · rw [if_pos y4, if_pos (by omega)]
            · rw [if_neg y4, if_neg (by omega)]
  have first : ∀ (m : Nat) (k : Int) (s2 : Int → Int), k = p + m → k ≤ s1 0 → (∀ j : Int, s2 j = if 3 + k < j ∧ j ≤ 3 + s1 0 then s1 (j - 1) else s1 j) →
      ab_R E_X3_puts P_X3_puts Q 19 [some (.inr (.inl (some 0))), some (.inl p), some (.inl v), some (.inl (A.length : Int)), some (.inl k)] [] (md_cs s2 z1 g) := by
    intro m
    induction m with
    | zero =>
      intro k s2 g1 g2 g3
      have o1 : s2 1 = s1 1 := by rw [g3, if_neg (by omega)]
      refine b_X3_puts_19 (fun _ => ?_) (fun _ => by omega)
      rw [o1]
      exact second s2 (fun j => by rw [g3, show k = p by omega]) B.length (s1 1) s2 (by omega) (by omega) (fun j => by rw [if_neg (by omega)])
    | succ m ih =>
      intro k s2 g1 g2 g3
      refine b_X3_puts_19 (fun _ => by omega) (fun _ => ih _ _ (by omega) (by omega) (fun j => ?_))
      have o : s2 (3 + k - 1) = s1 (3 + k - 1) := by rw [g3, if_neg (by omega)]
      rw [o]
      by_cases y : j = 3 + k
      · rw [ab_up_eq y, if_pos (by omega), y]
      · rw [ab_up_ne y, g3]
        by_cases y2 : 3 + k < j ∧ j ≤ 3 + s1 0
        · rw [if_pos y2, if_pos (by omega)]
        · rw [if_neg y2, if_neg (by omega)]
  exact first ((mq_flat q).length - d) (s1 0) s1 (by omega) (by omega) (fun j => by rw [if_neg (by omega)])
theorem mt_X3_puts (l : Launch) : ab_MT l mi_X3_puts sp_X3_puts := ab_MT.of (own := "RootChunksModel") (E := E_X3_puts) (P := P_X3_puts) (M := M_X3_puts) (nL := 5) (ty := 9) (by decide) rfl rfl tk_X3 pk_X3_puts ck_X3_puts (ab_CT'.cons (mt_X3_cuts l) (ab_CT'.cons (mt_X3_chunkFrom l) (ab_CT'.cons (mt_X3_evens l) ab_CT'.nil))) (fun av cs Q h => vc_X3_puts h)
theorem vc_X3_takes {av : List ab_V} {cs : List ab_C} {Q : ab_Q} (h : sp_X3_takes av cs Q) : (ab_lv0 av).length ≤ 4 ∧ ab_R E_X3_takes P_X3_takes Q 0 (ab_ent av 4) [] cs := by
  obtain ⟨s, z, g, q, d, p, rfl, rfl, hR, hW, hp, hd, hQ⟩ := h
  refine ⟨Nat.le_of_ble_eq_true rfl, ?_⟩
  have hWt := mq_W_tak hW hd
  obtain ⟨A, M, B, w1, w2, t1, t2, t3, t4, t5, t6, t7, t8, t9⟩ := mq_two (f := d) (n := 1) hW (by omega)
  have hpq : mq_tak q d = (A ++ B, w1 + w2) := by unfold mq_tak; rw [t1]
  rw [hpq] at hQ hWt
  dsimp only at hQ hWt
  have hfl := hW.2
  have hcl := t6.chunks
  refine b_X3_takes_0 ⟨_, _, _, q, d, _, rfl, rfl, hR, hW, hp, by omega, fun s1 z1 hr1 hw1 => ⟨_, z1, g, rfl, rfl, ?_⟩⟩
  refine b_X3_takes_5 ⟨_, _, _, _, d + 1, _, rfl, rfl, hr1, t3, by omega, by omega, fun s2 z2 hr2 hw2 => ⟨_, z2, g, rfl, rfl, ?_⟩⟩
  rw [t5] at hr2 hw2
  rw [t2] at hw1
  dsimp only at hr2 hw2
  have hr2' : mq_R (md_v s2) (A ++ (M ++ B)) := by simpa using hr2
  refine b_X3_takes_12 ⟨_, _, _, A, M ++ B, _, rfl, rfl, hr2', t6, by omega, _, rfl, rfl, ?_⟩
  obtain ⟨k, hM⟩ : ∃ k, M = [k] := by
    have := mq_flat_pos (q := M) (fun k hk => t6.1 k (by simp [hk]))
    match M, t8, this with
    | [], t8, _ => simp [mq_flat] at t8
    | [k], _, _ => exact ⟨k, rfl⟩
    | k :: k2 :: M, t8, h => simp at h; omega
  subst hM
  have hk1 : k.1.length = 1 := by simpa [mq_flat] using t8
  have n2 : s2 0 = ((mq_flat (A ++ ([k] ++ B))).length : Nat) := hr2'.2.2.2.2.1
  have c2 : s2 1 = ((A ++ ([k] ++ B)).length : Nat) := hr2'.2.2.2.2.2
  simp only [mq_flat_app, List.length_append, List.length_cons, List.length_nil] at n2 c2 hcl
  refine b_X3_takes_17 ?_
  have loop : ∀ (m : Nat) (i : Int) (s3 : Int → Int), s2 0 - 1 - i = m → p ≤ i → (∀ j : Int, s3 j = if 3 + p ≤ j ∧ j < 3 + i then s2 (j + 1) else s2 j) →
      ab_R E_X3_takes P_X3_takes Q 20 [some (.inr (.inl (some 0))), some (.inl p), some (.inl (A.length : Int)), some (.inl i)] [] (md_cs s3 z2 g) := by
    intro m
    induction m with
    | zero =>
      intro i s3 g1 g2 g3
      have o0 : s3 0 = s2 0 := by rw [g3, if_neg (by omega)]
      have o1 : s3 1 = s2 1 := by rw [g3, if_neg (by omega)]
      have ow : s3 2 = s2 2 := by rw [g3, if_neg (by omega)]
      have x0 : ab_up s3 0 (s3 0 - 1) 0 = s2 0 - 1 := by rw [ab_up_eq rfl, o0]
      refine b_X3_takes_20 (fun _ => ?_) (fun _ => by omega) (p4 := fun _ => by rw [x0]; omega)
      rw [x0]
      generalize hF : ab_up (ab_up s3 0 (s3 0 - 1)) (3 + (s2 0 - 1)) 0 = F
      have F0 : F 0 = s2 0 - 1 := by rw [← hF, ab_up_ne (by omega), x0]
      have F1 : F 1 = s2 1 := by rw [← hF, ab_up_ne (by omega), ab_up_ne (by omega), o1]
      have F2 : F 2 = s2 2 := by rw [← hF, ab_up_ne (by omega), ab_up_ne (by omega), ow]
      have FK : ∀ j : Int, 3 ≤ j → j < 3 + (s2 0 - 1) → F j = s3 j := fun j j1 j2 => by rw [← hF, ab_up_ne (by omega), ab_up_ne (by omega)]
      have FC : ∀ j : Int, 63 ≤ j → F j = s2 j := fun j j1 => by rw [← hF, ab_up_ne (by omega), ab_up_ne (by omega), g3, if_neg (by omega)]
      refine ⟨_, _, _, _, rfl, rfl, by omega, by omega, by omega, fun s4 f0 f1 f2 f3 f4 => ⟨s4, z2, g, rfl, rfl, ?_⟩⟩
      have htk := mq_R_take (w' := 0) (show mq_R (md_v s2) (A ++ k :: B) from hr2') hk1
      refine b_X3_takes_85 ⟨_, _, _, A ++ B, rfl, rfl, mq_R_ext2 htk (fun j j1 j2 => ?_) (fun j j1 j2 => ?_) (fun j j1 j2 => ?_) (fun j j1 j2 => ?_) ?_ ?_, hWt, fun s' z' q1 q2 => ⟨s', z', g, rfl, rfl, b_X3_takes_89 (hQ s' z' q1 (by omega))⟩⟩
      · rw [mq_flat_app, List.length_append] at j2
        show s4 (3 + j) = mq_del (fun j => s2 (3 + j)) (s2 0) (mq_flat A).length j
        unfold mq_del
        rw [f3 j j1 (by omega), FK _ (by omega) (by omega), g3]
        by_cases y : 3 + p ≤ 3 + j ∧ 3 + j < 3 + i
        · rw [if_pos y, if_pos (by omega)]
          congr 1; omega
        · rw [if_neg y, if_neg (by omega)]
      · rw [List.length_append] at j2
        show s4 (63 + j) = mq_del (fun c => s2 (63 + c)) (s2 1) A.length j
        rw [(f4 j j1 (by omega)).1, F1]
        unfold mq_del
        dsimp only
        rw [FC (63 + j) (by omega), FC (63 + (j + 1)) (by omega)]
      · rw [List.length_append] at j2
        show s4 (127 + j) = mq_del (fun c => s2 (127 + c)) (s2 1) A.length j
        rw [(f4 j j1 (by omega)).2.1, F1]
        unfold mq_del
        dsimp only
        rw [FC (127 + j) (by omega), FC (127 + (j + 1)) (by omega)]
      · rw [List.length_append] at j2
        show s4 (191 + j) = mq_del (fun c => s2 (191 + c)) (s2 1) A.length j
        rw [(f4 j j1 (by omega)).2.2, F1]
        unfold mq_del
        dsimp only
        rw [FC (191 + j) (by omega), FC (191 + (j + 1)) (by omega)]
      · show s4 0 = s2 0 - 1
        omega
      · show s4 1 = s2 1 - 1
        omega
    | succ m ih =>
      intro i s3 g1 g2 g3
      have o0 : s3 0 = s2 0 := by rw [g3, if_neg (by omega)]
      refine b_X3_takes_20 (fun _ => by omega) (fun _ => ih _ _ (by omega) (by omega) (fun j => ?_)) (p4 := fun _ => by omega)
      have o : s3 (3 + i + 1) = s2 (3 + i + 1) := by rw [g3, if_neg (by omega)]
      rw [o]
      by_cases y : j = 3 + i
      · rw [ab_up_eq y, if_pos (by omega), y]
      · rw [ab_up_ne y, g3]
        by_cases y2 : 3 + p ≤ j ∧ j < 3 + i
        · rw [if_pos y2, if_pos (by omega)]
        · rw [if_neg y2, if_neg (by omega)]
  exact loop (s2 0 - 1 - p).toNat p s2 (by omega) (by omega) (fun j => by rw [if_neg (by omega)])
theorem mt_X3_takes (l : Launch) : ab_MT l mi_X3_takes sp_X3_takes := ab_MT.of (own := "RootChunksModel") (E := E_X3_takes) (P := P_X3_takes) (M := M_X3_takes) (nL := 4) (ty := 9) (by decide) rfl rfl tk_X3 pk_X3_takes ck_X3_takes (ab_CT'.cons (mt_X3_cuts l) (ab_CT'.cons (mt_X3_cuts l) (ab_CT'.cons (mt_X3_chunkFrom l) (ab_CT'.cons (mt_X3_closes l) (ab_CT'.cons (mt_X3_evens l) ab_CT'.nil))))) (fun av cs Q h => vc_X3_takes h)
theorem vc_X3_sets {av : List ab_V} {cs : List ab_C} {Q : ab_Q} (h : sp_X3_sets av cs Q) : (ab_lv0 av).length ≤ 3 ∧ ab_R E_X3_sets P_X3_sets Q 0 (ab_ent av 3) [] cs := by
  obtain ⟨s, z, g, q, d, p, v, rfl, rfl, hR, hW, hp, hd, hv1, hv2, hQ⟩ := h
  refine ⟨Nat.le_of_ble_eq_true rfl, ?_⟩
  have hWt := mq_W_set (v := v) hW hd ⟨hv1, hv2⟩
  obtain ⟨A, k, B, rfl, h1, h2⟩ := mq_hold hd
  have hfl := hW.2
  have hcl := hW.chunks
  rw [mq_flat_mid, List.length_append, List.length_append] at hfl
  have hs := mq_set_app (A := A) (k := k) (B := B) (d := d - (mq_flat A).length) (v := v) (by omega)
  rw [show (mq_flat A).length + (d - (mq_flat A).length) = d by omega] at hs
  rw [hs] at hQ hWt
  dsimp only at hQ hWt
  refine b_X3_sets_0 ⟨_, _, _, A, k, B, _, rfl, rfl, hR, hW, by omega, by omega, _, rfl, rfl, ?_⟩
  refine b_X3_sets_6 ⟨_, _, _, A, k, B, _, rfl, rfl, hR, hW, rfl, fun s1 z1 hr1 hw1 => ⟨s1, z1, g, rfl, rfl, ?_⟩⟩
  have hset := mq_R_set (w' := 0) (d := d - (mq_flat A).length) (v := v) hr1 (by rw [mq_row_len]; omega)
  rw [show ((mq_flat A).length : Int) + ((d - (mq_flat A).length : Nat) : Int) = p by omega] at hset
  refine b_X3_sets_9 ⟨_, _, _, A ++ ((mq_row k).set (d - (mq_flat A).length) v, 0, 0) :: B, rfl, rfl, mq_R_ext2 hset (fun j j1 j2 => ?_) (fun j j1 j2 => ?_) (fun j j1 j2 => ?_) (fun j j1 j2 => ?_) ?_ ?_, hWt, fun s' z' q1 q2 => ⟨s', z', g, rfl, rfl, b_X3_sets_32 (hQ s' z' q1 ?_)⟩⟩
  · show ab_up _ _ _ (3 + j) = ab_up (fun j => s1 (3 + j)) p v j
    by_cases y : j = p
    · rw [ab_up_eq y, ab_up_ne (by omega), ab_up_eq (by omega)]
    · rw [ab_up_ne y, ab_up_ne (by omega), ab_up_ne (by omega)]
  · show ab_up _ _ _ (63 + j) = s1 (63 + j)
    repeat rw [ab_up_ne (by omega)]
  · show ab_up _ _ _ (127 + j) = s1 (127 + j)
    repeat rw [ab_up_ne (by omega)]
  · show ab_up _ _ _ (191 + j) = s1 (191 + j)
    repeat rw [ab_up_ne (by omega)]
  · dsimp only [md_v]
    repeat rw [ab_up_ne (by omega)]
  · dsimp only [md_v]
    repeat rw [ab_up_ne (by omega)]
  · rw [ab_up_eq rfl, ab_up_ne (by omega)] at q2
    omega
theorem mt_X3_sets (l : Launch) : ab_MT l mi_X3_sets sp_X3_sets := ab_MT.of (own := "RootChunksModel") (E := E_X3_sets) (P := P_X3_sets) (M := M_X3_sets) (nL := 3) (ty := 9) (by decide) rfl rfl tk_X3 pk_X3_sets ck_X3_sets (ab_CT'.cons (mt_X3_chunkAt l) (ab_CT'.cons (mt_X3_carries l) (ab_CT'.cons (mt_X3_evens l) ab_CT'.nil))) (fun av cs Q h => vc_X3_sets h)
end
section
def sp_X3_turns : ab_Sp := fun av cs Q => ∃ (s : Int → Int) (z : mc_T) (g : mg_T) (q : List mq_K) (f n : Nat) (x y : Int), av = [.inr (.inl (some 0)), .inl x, .inl y] ∧ cs = md_cs s z g ∧ mq_R (md_v s) q ∧ mq_W q ∧ x = f ∧ y + 1 = x + n ∧ f + n ≤ (mq_flat q).length ∧
  ∀ (s' : Int → Int) (z' : mc_T), mq_R (md_v s') (mq_ev (mq_trn q f n).1).1 → s' 2 = s 2 + (mq_trn q f n).2 + (mq_ev (mq_trn q f n).1).2 → Q none (md_cs s' z' g)
def sp_X3_addsTo : ab_Sp := fun av cs Q => ∃ (s : Int → Int) (z : mc_T) (g : mg_T) (q : List mq_K) (f n : Nat) (x y v : Int), av = [.inr (.inl (some 0)), .inl x, .inl y, .inl v] ∧ cs = md_cs s z g ∧ mq_R (md_v s) q ∧ mq_W q ∧ x = f ∧ y + 1 = x + n ∧ f + n ≤ (mq_flat q).length ∧ (∀ x ∈ ((mq_all q).drop f).take n, -99999 ≤ x + v ∧ x + v ≤ 99999) ∧
  ∀ (s' : Int → Int) (z' : mc_T), mq_R (md_v s') (mq_ev (mq_add q f n v).1).1 → s' 2 = s 2 + (mq_add q f n v).2 + (mq_ev (mq_add q f n v).1).2 → Q none (md_cs s' z' g)
-- ===== RootChunksModel.turns
def P_X3_turns : List ab_I := [(0, .aload_n 0, 1, []), (1, .iload_n 1, 2, []), (2, .invokevirtual 79, 5, []), (5, .aload_n 0, 6, []), (6, .iload_n 2, 7, []), (7, .iconst 1, 8, []), (8, .iadd, 9, []), (9, .invokevirtual 79, 12, []), (12, .aload_n 0, 13, []), (13, .iload_n 1, 14, []), (14, .invokevirtual 82, 17, []), (17, .istore_n 3, 18, []), (18, .aload_n 0, 19, []), (19, .iload_n 2, 20, []), (20, .iconst 1, 21, []), (21, .iadd, 22, []), (22, .invokevirtual 82, 25, []), (25, .istore 4, 27, []), (27, .iconst 0, 28, []), (28, .istore 5, 30, []), (30, .iload 5, 32, []), (32, .aload_n 0, 33, []), (33, .getfield 7, 36, []), (36, .iconst 1, 37, []), (37, .iaload, 38, []), (38, .if_icmp .ge 43, 41, [((0 : Int), 81)]), (41, .aload_n 0, 42, []), (42, .getfield 29, 45, []), (45, .iload 5, 47, []), (47, .iload 5, 49, []), (49, .iload_n 3, 50, []), (50, .if_icmp .lt 10, 53, [((0 : Int), 60)]), (53, .iload 5, 55, []), (55, .iload 4, 57, []), (57, .if_icmp .lt 8, 60, [((0 : Int), 65)]), (60, .iload 5, 62, []), (62, .goto 12, 65, [((0 : Int), 74)]), (65, .iload_n 3, 66, []), (66, .iload 4, 68, []), (68, .iadd, 69, []), (69, .iconst 1, 70, []), (70, .isub, 71, []), (71, .iload 5, 73, []), (73, .isub, 74, []), (74, .iastore, 75, []), (75, .iinc 5 1, 78, []), (78, .goto (-48), 81, [((0 : Int), 30)]), (81, .aload_n 0, 82, []), (82, .invokevirtual 88, 85, []), (85, .iload_n 3, 86, []), (86, .istore 5, 88, []), (88, .iload 5, 90, []), (90, .iload 4, 92, []), (92, .if_icmp .ge 31, 95, [((0 : Int), 123)]), (95, .aload_n 0, 96, []), (96, .getfield 7, 99, []), (99, .bipush 127, 101, []), (101, .iload 5, 103, []), (103, .iadd, 104, []), (104, .iconst 1, 105, []), (105, .aload_n 0, 106, []), (106, .getfield 7, 109, []), (109, .bipush 127, 111, []), (111, .iload 5, 113, []), (113, .iadd, 114, []), (114, .iaload, 115, []), (115, .isub, 116, []), (116, .iastore, 117, []), (117, .iinc 5 1, 120, []), (120, .goto (-32), 123, [((0 : Int), 88)]), (123, .aload_n 0, 124, []), (124, .invokevirtual 85, 127, []), (127, .return_, 128, [])]
def E_X3_turns : ab_E := (T_X3, [(2, (2, 3, [], 0, sp_X3_cuts)), (9, (2, 3, [], 0, sp_X3_cuts)), (14, (2, 3, [], 0, sp_X3_chunkFrom)), (22, (2, 3, [], 0, sp_X3_chunkFrom)), (82, (1, 3, [], 0, sp_X3_reorders)), (124, (1, 3, [], 0, sp_X3_evens))], [], 9)
def M_X3_turns : List (Nat × ab_MI) := [(2, mi_X3_cuts), (9, mi_X3_cuts), (14, mi_X3_chunkFrom), (22, mi_X3_chunkFrom), (82, mi_X3_reorders), (124, mi_X3_evens)]
def mi_X3_turns : ab_MI := (yX3_turns, cX3_turns, 6, ab_rty 9, 5, 164)
theorem pk_X3_turns : P_X3_turns.all (ab_okI cX3_turns) = true := by decide +kernel
theorem ck_X3_turns : P_X3_turns.all (ab_okC1 "RootChunksModel" M_X3_turns E_X3_turns (5, 164)) = true := by decide +kernel
set_option maxRecDepth 100000 in
theorem b_X3_turns_0 {Q : ab_Q} {fr : Int} {to : Int} {s_ : Int → Int} {z_od : Int → Int} {z_nk : Int → Int} {z_nl : Int → Int} {z_nt : Int → Int} {z_ns : Int → Int} {g_ : mg_T} (l1 : sp_X3_cuts [.inr (.inl (some 0)), .inl fr] (md_cs s_ (z_od, z_nk, z_nl, z_nt, z_ns) g_) (fun r_ k_ => ∃ (s_' : Int → Int), ∃ (z_' : mc_T), ∃ (g_' : mg_T), r_ = none ∧ k_ = (md_cs (s_') z_' g_') ∧ ab_R E_X3_turns P_X3_turns Q 5 [some (.inr (.inl (some 0))), some (.inl fr), some (.inl to), none, none, none] [] (md_cs (s_') z_' g_')))  : ab_R E_X3_turns P_X3_turns Q 0 [some (.inr (.inl (some 0))), some (.inl fr), some (.inl to), none, none, none] [] (md_cs s_ (z_od, z_nk, z_nl, z_nt, z_ns) g_) :=
  ab_R.steps [5, 12, 17, 25, 30, 85, 88, 127] 4 (show ab_cl sp_X3_cuts [.inr (.inl (some 0)), .inl fr] (md_cs s_ (z_od, z_nk, z_nl, z_nt, z_ns) g_) (fun r_ k_ => k_.length = ((md_cs s_ (z_od, z_nk, z_nl, z_nt, z_ns) g_)).length → ab_R E_X3_turns P_X3_turns Q 5 [some (.inr (.inl (some 0))), some (.inl fr), some (.inl to), none, none, none] (ab_ret r_ []) k_) from ⟨_, l1, fun r_ k_ hz _ => by obtain ⟨s_', z_', g_', rfl, rfl, hR⟩ := hz; exact hR⟩)
set_option maxRecDepth 100000 in
theorem b_X3_turns_5 {Q : ab_Q} {fr : Int} {to : Int} {s_ : Int → Int} {z_od : Int → Int} {z_nk : Int → Int} {z_nl : Int → Int} {z_nt : Int → Int} {z_ns : Int → Int} {g_ : mg_T} (l1 : sp_X3_cuts [.inr (.inl (some 0)), .inl (to + 1)] (md_cs s_ (z_od, z_nk, z_nl, z_nt, z_ns) g_) (fun r_ k_ => ∃ (s_' : Int → Int), ∃ (z_' : mc_T), ∃ (g_' : mg_T), r_ = none ∧ k_ = (md_cs (s_') z_' g_') ∧ ab_R E_X3_turns P_X3_turns Q 12 [some (.inr (.inl (some 0))), some (.inl fr), some (.inl to), none, none, none] [] (md_cs (s_') z_' g_')))  : ab_R E_X3_turns P_X3_turns Q 5 [some (.inr (.inl (some 0))), some (.inl fr), some (.inl to), none, none, none] [] (md_cs s_ (z_od, z_nk, z_nl, z_nt, z_ns) g_) :=
  ab_R.steps [5, 12, 17, 25, 30, 85, 88, 127] 6 (show ab_cl sp_X3_cuts [.inr (.inl (some 0)), .inl (to + 1)] (md_cs s_ (z_od, z_nk, z_nl, z_nt, z_ns) g_) (fun r_ k_ => k_.length = ((md_cs s_ (z_od, z_nk, z_nl, z_nt, z_ns) g_)).length → ab_R E_X3_turns P_X3_turns Q 12 [some (.inr (.inl (some 0))), some (.inl fr), some (.inl to), none, none, none] (ab_ret r_ []) k_) from ⟨_, l1, fun r_ k_ hz _ => by obtain ⟨s_', z_', g_', rfl, rfl, hR⟩ := hz; exact hR⟩)
set_option maxRecDepth 100000 in
theorem b_X3_turns_12 {Q : ab_Q} {fr : Int} {to : Int} {s_ : Int → Int} {z_od : Int → Int} {z_nk : Int → Int} {z_nl : Int → Int} {z_nt : Int → Int} {z_ns : Int → Int} {g_ : mg_T} (l1 : sp_X3_chunkFrom [.inr (.inl (some 0)), .inl fr] (md_cs s_ (z_od, z_nk, z_nl, z_nt, z_ns) g_) (fun r_ k_ => ∃ (x_ : Int), r_ = some (.inl x_) ∧ k_ = (md_cs s_ (z_od, z_nk, z_nl, z_nt, z_ns) g_) ∧ ab_R E_X3_turns P_X3_turns Q 17 [some (.inr (.inl (some 0))), some (.inl fr), some (.inl to), none, none, none] [.inl x_] (md_cs s_ (z_od, z_nk, z_nl, z_nt, z_ns) g_)))  : ab_R E_X3_turns P_X3_turns Q 12 [some (.inr (.inl (some 0))), some (.inl fr), some (.inl to), none, none, none] [] (md_cs s_ (z_od, z_nk, z_nl, z_nt, z_ns) g_) :=
  ab_R.steps [5, 12, 17, 25, 30, 85, 88, 127] 4 (show ab_cl sp_X3_chunkFrom [.inr (.inl (some 0)), .inl fr] (md_cs s_ (z_od, z_nk, z_nl, z_nt, z_ns) g_) (fun r_ k_ => k_.length = ((md_cs s_ (z_od, z_nk, z_nl, z_nt, z_ns) g_)).length → ab_R E_X3_turns P_X3_turns Q 17 [some (.inr (.inl (some 0))), some (.inl fr), some (.inl to), none, none, none] (ab_ret r_ []) k_) from ⟨_, l1, fun r_ k_ hz _ => by obtain ⟨x_, rfl, rfl, hR⟩ := hz; exact hR⟩)
set_option maxRecDepth 100000 in
theorem b_X3_turns_17 {Q : ab_Q} {fr : Int} {to : Int} {t0 : Int} {s_ : Int → Int} {z_od : Int → Int} {z_nk : Int → Int} {z_nl : Int → Int} {z_nt : Int → Int} {z_ns : Int → Int} {g_ : mg_T} (l1 : sp_X3_chunkFrom [.inr (.inl (some 0)), .inl (to + 1)] (md_cs s_ (z_od, z_nk, z_nl, z_nt, z_ns) g_) (fun r_ k_ => ∃ (x_ : Int), r_ = some (.inl x_) ∧ k_ = (md_cs s_ (z_od, z_nk, z_nl, z_nt, z_ns) g_) ∧ ab_R E_X3_turns P_X3_turns Q 25 [some (.inr (.inl (some 0))), some (.inl fr), some (.inl to), some (.inl t0), none, none] [.inl x_] (md_cs s_ (z_od, z_nk, z_nl, z_nt, z_ns) g_)))  : ab_R E_X3_turns P_X3_turns Q 17 [some (.inr (.inl (some 0))), some (.inl fr), some (.inl to), none, none, none] [.inl t0] (md_cs s_ (z_od, z_nk, z_nl, z_nt, z_ns) g_) :=
  ab_R.steps [5, 12, 17, 25, 30, 85, 88, 127] 7 (show ab_cl sp_X3_chunkFrom [.inr (.inl (some 0)), .inl (to + 1)] (md_cs s_ (z_od, z_nk, z_nl, z_nt, z_ns) g_) (fun r_ k_ => k_.length = ((md_cs s_ (z_od, z_nk, z_nl, z_nt, z_ns) g_)).length → ab_R E_X3_turns P_X3_turns Q 25 [some (.inr (.inl (some 0))), some (.inl fr), some (.inl to), some (.inl t0), none, none] (ab_ret r_ []) k_) from ⟨_, l1, fun r_ k_ hz _ => by obtain ⟨x_, rfl, rfl, hR⟩ := hz; exact hR⟩)
set_option maxRecDepth 100000 in
theorem b_X3_turns_25 {Q : ab_Q} {fr : Int} {to : Int} {a : Int} {t0 : Int} {s_ : Int → Int} {z_od : Int → Int} {z_nk : Int → Int} {z_nl : Int → Int} {z_nt : Int → Int} {z_ns : Int → Int} {g_ : mg_T} (l1 : ab_R E_X3_turns P_X3_turns Q 30 [some (.inr (.inl (some 0))), some (.inl fr), some (.inl to), some (.inl a), some (.inl t0), some (.inl 0)] [] (md_cs s_ (z_od, z_nk, z_nl, z_nt, z_ns) g_))  : ab_R E_X3_turns P_X3_turns Q 25 [some (.inr (.inl (some 0))), some (.inl fr), some (.inl to), some (.inl a), none, none] [.inl t0] (md_cs s_ (z_od, z_nk, z_nl, z_nt, z_ns) g_) :=
  ab_R.steps [5, 12, 17, 25, 30, 85, 88, 127] 5 (show ab_R E_X3_turns P_X3_turns Q 30 [some (.inr (.inl (some 0))), some (.inl fr), some (.inl to), some (.inl a), some (.inl t0), some (.inl 0)] [] (md_cs s_ (z_od, z_nk, z_nl, z_nt, z_ns) g_) from l1)
set_option maxRecDepth 100000 in
theorem b_X3_turns_30 {Q : ab_Q} {fr : Int} {to : Int} {a : Int} {b : Int} {c : Int} {s_ : Int → Int} {z_od : Int → Int} {z_nk : Int → Int} {z_nl : Int → Int} {z_nt : Int → Int} {z_ns : Int → Int} {g_ : mg_T} (l1 : (s_ 1) ≤ c → sp_X3_reorders [.inr (.inl (some 0))] (md_cs s_ (z_od, z_nk, z_nl, z_nt, z_ns) g_) (fun r_ k_ => ∃ (s_' : Int → Int), ∃ (z_' : mc_T), ∃ (g_' : mg_T), r_ = none ∧ k_ = (md_cs (s_') z_' g_') ∧ ab_R E_X3_turns P_X3_turns Q 85 [some (.inr (.inl (some 0))), some (.inl fr), some (.inl to), some (.inl a), some (.inl b), some (.inl c)] [] (md_cs (s_') z_' g_'))) (l2 : c < (s_ 1) → c < a → ab_R E_X3_turns P_X3_turns Q 30 [some (.inr (.inl (some 0))), some (.inl fr), some (.inl to), some (.inl a), some (.inl b), some (.inl (c + 1))] [] (md_cs s_ ((ab_up z_od c c), z_nk, z_nl, z_nt, z_ns) g_)) (l3 : c < (s_ 1) → a ≤ c → c < b → ab_R E_X3_turns P_X3_turns Q 30 [some (.inr (.inl (some 0))), some (.inl fr), some (.inl to), some (.inl a), some (.inl b), some (.inl (c + 1))] [] (md_cs s_ ((ab_up z_od c (((a + b) - 1) - c)), z_nk, z_nl, z_nt, z_ns) g_)) (l4 : c < (s_ 1) → a ≤ c → b ≤ c → ab_R E_X3_turns P_X3_turns Q 30 [some (.inr (.inl (some 0))), some (.inl fr), some (.inl to), some (.inl a), some (.inl b), some (.inl (c + 1))] [] (md_cs s_ ((ab_up z_od c c), z_nk, z_nl, z_nt, z_ns) g_)) (p1 : (0 ≤ (1 : Int) ∧ (1 : Int) < 255) := by intros; (try unfold ab_r); omega) (p2 : (ab_r c ∧ ab_r (s_ 1)) := by intros; (try unfold ab_r); omega) (p3 : c < (s_ 1) → (ab_r c ∧ ab_r a) := by intros; (try unfold ab_r); omega) (p4 : c < (s_ 1) → c < a → (0 ≤ c ∧ c < 64) := by intros; (try unfold ab_r); omega) (p5 : c < (s_ 1) → a ≤ c → (ab_r c ∧ ab_r b) := by intros; (try unfold ab_r); omega) (p6 : c < (s_ 1) → a ≤ c → c < b → (0 ≤ c ∧ c < 64) := by intros; (try unfold ab_r); omega) (p7 : c < (s_ 1) → a ≤ c → b ≤ c → (0 ≤ c ∧ c < 64) := by intros; (try unfold ab_r); omega) : ab_R E_X3_turns P_X3_turns Q 30 [some (.inr (.inl (some 0))), some (.inl fr), some (.inl to), some (.inl a), some (.inl b), some (.inl c)] [] (md_cs s_ (z_od, z_nk, z_nl, z_nt, z_ns) g_) :=
  ab_R.steps [5, 12, 17, 25, 30, 85, 88, 127] 27 (show ((0 ≤ (1 : Int) ∧ (1 : Int) < 255) ∧ ((ab_r c ∧ ab_r (s_ 1)) ∧ (((s_ 1) ≤ c → ab_cl sp_X3_reorders [.inr (.inl (some 0))] (md_cs s_ (z_od, z_nk, z_nl, z_nt, z_ns) g_) (fun r_ k_ => k_.length = ((md_cs s_ (z_od, z_nk, z_nl, z_nt, z_ns) g_)).length → ab_R E_X3_turns P_X3_turns Q 85 [some (.inr (.inl (some 0))), some (.inl fr), some (.inl to), some (.inl a), some (.inl b), some (.inl c)] (ab_ret r_ []) k_)) ∧ (c < (s_ 1) → ((ab_r c ∧ ab_r a) ∧ ((c < a → ((0 ≤ c ∧ c < 64) ∧ ab_R E_X3_turns P_X3_turns Q 30 [some (.inr (.inl (some 0))), some (.inl fr), some (.inl to), some (.inl a), some (.inl b), some (.inl (c + 1))] [] (md_cs s_ ((ab_up z_od c c), z_nk, z_nl, z_nt, z_ns) g_))) ∧ (a ≤ c → ((ab_r c ∧ ab_r b) ∧ ((c < b → ((0 ≤ c ∧ c < 64) ∧ ab_R E_X3_turns P_X3_turns Q 30 [some (.inr (.inl (some 0))), some (.inl fr), some (.inl to), some (.inl a), some (.inl b), some (.inl (c + 1))] [] (md_cs s_ ((ab_up z_od c (((a + b) - 1) - c)), z_nk, z_nl, z_nt, z_ns) g_))) ∧ (b ≤ c → ((0 ≤ c ∧ c < 64) ∧ ab_R E_X3_turns P_X3_turns Q 30 [some (.inr (.inl (some 0))), some (.inl fr), some (.inl to), some (.inl a), some (.inl b), some (.inl (c + 1))] [] (md_cs s_ ((ab_up z_od c c), z_nk, z_nl, z_nt, z_ns) g_)))))))))))) from ⟨p1, ⟨p2, ⟨fun h1 => ⟨_, (l1 h1), fun r_ k_ hz _ => by obtain ⟨s_', z_', g_', rfl, rfl, hR⟩ := hz; exact hR⟩, fun h2 => ⟨(p3 h2), ⟨fun h3 => ⟨(p4 h2 h3), (l2 h2 h3)⟩, fun h4 => ⟨(p5 h2 h4), ⟨fun h5 => ⟨(p6 h2 h4 h5), (l3 h2 h4 h5)⟩, fun h6 => ⟨(p7 h2 h4 h6), (l4 h2 h4 h6)⟩⟩⟩⟩⟩⟩⟩⟩)
set_option maxRecDepth 100000 in
theorem b_X3_turns_85 {Q : ab_Q} {fr : Int} {to : Int} {a : Int} {b : Int} {c : Int} {s_ : Int → Int} {z_od : Int → Int} {z_nk : Int → Int} {z_nl : Int → Int} {z_nt : Int → Int} {z_ns : Int → Int} {g_ : mg_T} (l1 : ab_R E_X3_turns P_X3_turns Q 88 [some (.inr (.inl (some 0))), some (.inl fr), some (.inl to), some (.inl a), some (.inl b), some (.inl a)] [] (md_cs s_ (z_od, z_nk, z_nl, z_nt, z_ns) g_))  : ab_R E_X3_turns P_X3_turns Q 85 [some (.inr (.inl (some 0))), some (.inl fr), some (.inl to), some (.inl a), some (.inl b), some (.inl c)] [] (md_cs s_ (z_od, z_nk, z_nl, z_nt, z_ns) g_) :=
  ab_R.steps [5, 12, 17, 25, 30, 85, 88, 127] 4 (show ab_R E_X3_turns P_X3_turns Q 88 [some (.inr (.inl (some 0))), some (.inl fr), some (.inl to), some (.inl a), some (.inl b), some (.inl a)] [] (md_cs s_ (z_od, z_nk, z_nl, z_nt, z_ns) g_) from l1)
set_option maxRecDepth 100000 in
theorem b_X3_turns_88 {Q : ab_Q} {fr : Int} {to : Int} {a : Int} {b : Int} {c : Int} {s_ : Int → Int} {z_od : Int → Int} {z_nk : Int → Int} {z_nl : Int → Int} {z_nt : Int → Int} {z_ns : Int → Int} {g_ : mg_T} (l1 : b ≤ c → sp_X3_evens [.inr (.inl (some 0))] (md_cs s_ (z_od, z_nk, z_nl, z_nt, z_ns) g_) (fun r_ k_ => ∃ (s_' : Int → Int), ∃ (z_' : mc_T), ∃ (g_' : mg_T), r_ = none ∧ k_ = (md_cs (s_') z_' g_') ∧ ab_R E_X3_turns P_X3_turns Q 127 [some (.inr (.inl (some 0))), some (.inl fr), some (.inl to), some (.inl a), some (.inl b), some (.inl c)] [] (md_cs (s_') z_' g_'))) (l2 : c < b → ab_R E_X3_turns P_X3_turns Q 88 [some (.inr (.inl (some 0))), some (.inl fr), some (.inl to), some (.inl a), some (.inl b), some (.inl (c + 1))] [] (md_cs ((ab_up s_ (127 + c) (1 - (s_ (127 + c))))) (z_od, z_nk, z_nl, z_nt, z_ns) g_)) (p1 : (ab_r c ∧ ab_r b) := by intros; (try unfold ab_r); omega) (p2 : c < b → (0 ≤ (127 + c) ∧ (127 + c) < 255) := by intros; (try unfold ab_r); omega) : ab_R E_X3_turns P_X3_turns Q 88 [some (.inr (.inl (some 0))), some (.inl fr), some (.inl to), some (.inl a), some (.inl b), some (.inl c)] [] (md_cs s_ (z_od, z_nk, z_nl, z_nt, z_ns) g_) :=
  ab_R.steps [5, 12, 17, 25, 30, 85, 88, 127] 21 (show ((ab_r c ∧ ab_r b) ∧ ((b ≤ c → ab_cl sp_X3_evens [.inr (.inl (some 0))] (md_cs s_ (z_od, z_nk, z_nl, z_nt, z_ns) g_) (fun r_ k_ => k_.length = ((md_cs s_ (z_od, z_nk, z_nl, z_nt, z_ns) g_)).length → ab_R E_X3_turns P_X3_turns Q 127 [some (.inr (.inl (some 0))), some (.inl fr), some (.inl to), some (.inl a), some (.inl b), some (.inl c)] (ab_ret r_ []) k_)) ∧ (c < b → ((0 ≤ (127 + c) ∧ (127 + c) < 255) ∧ ((0 ≤ (127 + c) ∧ (127 + c) < 255) ∧ ab_R E_X3_turns P_X3_turns Q 88 [some (.inr (.inl (some 0))), some (.inl fr), some (.inl to), some (.inl a), some (.inl b), some (.inl (c + 1))] [] (md_cs ((ab_up s_ (127 + c) (1 - (s_ (127 + c))))) (z_od, z_nk, z_nl, z_nt, z_ns) g_)))))) from ⟨p1, ⟨fun h1 => ⟨_, (l1 h1), fun r_ k_ hz _ => by obtain ⟨s_', z_', g_', rfl, rfl, hR⟩ := hz; exact hR⟩, fun h2 => ⟨(p2 h2), ⟨(p2 h2), (l2 h2)⟩⟩⟩⟩)
set_option maxRecDepth 100000 in
theorem b_X3_turns_127 {Q : ab_Q} {fr : Int} {to : Int} {a : Int} {b : Int} {c : Int} {s_ : Int → Int} {z_od : Int → Int} {z_nk : Int → Int} {z_nl : Int → Int} {z_nt : Int → Int} {z_ns : Int → Int} {g_ : mg_T} (l1 : Q none (md_cs s_ (z_od, z_nk, z_nl, z_nt, z_ns) g_))  : ab_R E_X3_turns P_X3_turns Q 127 [some (.inr (.inl (some 0))), some (.inl fr), some (.inl to), some (.inl a), some (.inl b), some (.inl c)] [] (md_cs s_ (z_od, z_nk, z_nl, z_nt, z_ns) g_) :=
  ab_R.steps [5, 12, 17, 25, 30, 85, 88, 127] 2 (show Q none (md_cs s_ (z_od, z_nk, z_nl, z_nt, z_ns) g_) from l1)
-- ===== RootChunksModel.addsTo
def P_X3_addsTo : List ab_I := [(0, .aload_n 0, 1, []), (1, .iload_n 1, 2, []), (2, .invokevirtual 79, 5, []), (5, .aload_n 0, 6, []), (6, .iload_n 2, 7, []), (7, .iconst 1, 8, []), (8, .iadd, 9, []), (9, .invokevirtual 79, 12, []), (12, .aload_n 0, 13, []), (13, .iload_n 2, 14, []), (14, .iconst 1, 15, []), (15, .iadd, 16, []), (16, .invokevirtual 82, 19, []), (19, .istore 4, 21, []), (21, .aload_n 0, 22, []), (22, .iload_n 1, 23, []), (23, .invokevirtual 82, 26, []), (26, .istore 5, 28, []), (28, .iload 5, 30, []), (30, .iload 4, 32, []), (32, .if_icmp .ge 24, 35, [((0 : Int), 56)]), (35, .aload_n 0, 36, []), (36, .getfield 7, 39, []), (39, .sipush 191, 42, []), (42, .iload 5, 44, []), (44, .iadd, 45, []), (45, .dup2, 46, []), (46, .iaload, 47, []), (47, .iload_n 3, 48, []), (48, .iadd, 49, []), (49, .iastore, 50, []), (50, .iinc 5 1, 53, []), (53, .goto (-25), 56, [((0 : Int), 28)]), (56, .aload_n 0, 57, []), (57, .invokevirtual 85, 60, []), (60, .return_, 61, [])]
def E_X3_addsTo : ab_E := (T_X3, [(2, (2, 3, [], 0, sp_X3_cuts)), (9, (2, 3, [], 0, sp_X3_cuts)), (16, (2, 3, [], 0, sp_X3_chunkFrom)), (23, (2, 3, [], 0, sp_X3_chunkFrom)), (57, (1, 3, [], 0, sp_X3_evens))], [], 9)
def M_X3_addsTo : List (Nat × ab_MI) := [(2, mi_X3_cuts), (9, mi_X3_cuts), (16, mi_X3_chunkFrom), (23, mi_X3_chunkFrom), (57, mi_X3_evens)]
def mi_X3_addsTo : ab_MI := (yX3_addsTo, cX3_addsTo, 6, ab_rty 9, 5, 164)
theorem pk_X3_addsTo : P_X3_addsTo.all (ab_okI cX3_addsTo) = true := by decide +kernel
theorem ck_X3_addsTo : P_X3_addsTo.all (ab_okC1 "RootChunksModel" M_X3_addsTo E_X3_addsTo (5, 164)) = true := by decide +kernel
set_option maxRecDepth 100000 in
theorem b_X3_addsTo_0 {Q : ab_Q} {fr : Int} {to : Int} {bb : Int} {s_ : Int → Int} {z_ : mc_T} {g_ : mg_T} (l1 : sp_X3_cuts [.inr (.inl (some 0)), .inl fr] (md_cs s_ z_ g_) (fun r_ k_ => ∃ (s_' : Int → Int), ∃ (z_' : mc_T), ∃ (g_' : mg_T), r_ = none ∧ k_ = (md_cs (s_') z_' g_') ∧ ab_R E_X3_addsTo P_X3_addsTo Q 5 [some (.inr (.inl (some 0))), some (.inl fr), some (.inl to), some (.inl bb), none, none] [] (md_cs (s_') z_' g_')))  : ab_R E_X3_addsTo P_X3_addsTo Q 0 [some (.inr (.inl (some 0))), some (.inl fr), some (.inl to), some (.inl bb), none, none] [] (md_cs s_ z_ g_) :=
  ab_R.steps [5, 12, 19, 26, 28, 60] 4 (show ab_cl sp_X3_cuts [.inr (.inl (some 0)), .inl fr] (md_cs s_ z_ g_) (fun r_ k_ => k_.length = ((md_cs s_ z_ g_)).length → ab_R E_X3_addsTo P_X3_addsTo Q 5 [some (.inr (.inl (some 0))), some (.inl fr), some (.inl to), some (.inl bb), none, none] (ab_ret r_ []) k_) from ⟨_, l1, fun r_ k_ hz _ => by obtain ⟨s_', z_', g_', rfl, rfl, hR⟩ := hz; exact hR⟩)
set_option maxRecDepth 100000 in
theorem b_X3_addsTo_5 {Q : ab_Q} {fr : Int} {to : Int} {bb : Int} {s_ : Int → Int} {z_ : mc_T} {g_ : mg_T} (l1 : sp_X3_cuts [.inr (.inl (some 0)), .inl (to + 1)] (md_cs s_ z_ g_) (fun r_ k_ => ∃ (s_' : Int → Int), ∃ (z_' : mc_T), ∃ (g_' : mg_T), r_ = none ∧ k_ = (md_cs (s_') z_' g_') ∧ ab_R E_X3_addsTo P_X3_addsTo Q 12 [some (.inr (.inl (some 0))), some (.inl fr), some (.inl to), some (.inl bb), none, none] [] (md_cs (s_') z_' g_')))  : ab_R E_X3_addsTo P_X3_addsTo Q 5 [some (.inr (.inl (some 0))), some (.inl fr), some (.inl to), some (.inl bb), none, none] [] (md_cs s_ z_ g_) :=
  ab_R.steps [5, 12, 19, 26, 28, 60] 6 (show ab_cl sp_X3_cuts [.inr (.inl (some 0)), .inl (to + 1)] (md_cs s_ z_ g_) (fun r_ k_ => k_.length = ((md_cs s_ z_ g_)).length → ab_R E_X3_addsTo P_X3_addsTo Q 12 [some (.inr (.inl (some 0))), some (.inl fr), some (.inl to), some (.inl bb), none, none] (ab_ret r_ []) k_) from ⟨_, l1, fun r_ k_ hz _ => by obtain ⟨s_', z_', g_', rfl, rfl, hR⟩ := hz; exact hR⟩)
set_option maxRecDepth 100000 in
theorem b_X3_addsTo_12 {Q : ab_Q} {fr : Int} {to : Int} {bb : Int} {s_ : Int → Int} {z_ : mc_T} {g_ : mg_T} (l1 : sp_X3_chunkFrom [.inr (.inl (some 0)), .inl (to + 1)] (md_cs s_ z_ g_) (fun r_ k_ => ∃ (x_ : Int), r_ = some (.inl x_) ∧ k_ = (md_cs s_ z_ g_) ∧ ab_R E_X3_addsTo P_X3_addsTo Q 19 [some (.inr (.inl (some 0))), some (.inl fr), some (.inl to), some (.inl bb), none, none] [.inl x_] (md_cs s_ z_ g_)))  : ab_R E_X3_addsTo P_X3_addsTo Q 12 [some (.inr (.inl (some 0))), some (.inl fr), some (.inl to), some (.inl bb), none, none] [] (md_cs s_ z_ g_) :=
  ab_R.steps [5, 12, 19, 26, 28, 60] 6 (show ab_cl sp_X3_chunkFrom [.inr (.inl (some 0)), .inl (to + 1)] (md_cs s_ z_ g_) (fun r_ k_ => k_.length = ((md_cs s_ z_ g_)).length → ab_R E_X3_addsTo P_X3_addsTo Q 19 [some (.inr (.inl (some 0))), some (.inl fr), some (.inl to), some (.inl bb), none, none] (ab_ret r_ []) k_) from ⟨_, l1, fun r_ k_ hz _ => by obtain ⟨x_, rfl, rfl, hR⟩ := hz; exact hR⟩)
set_option maxRecDepth 100000 in
theorem b_X3_addsTo_19 {Q : ab_Q} {fr : Int} {to : Int} {bb : Int} {t0 : Int} {s_ : Int → Int} {z_ : mc_T} {g_ : mg_T} (l1 : sp_X3_chunkFrom [.inr (.inl (some 0)), .inl fr] (md_cs s_ z_ g_) (fun r_ k_ => ∃ (x_ : Int), r_ = some (.inl x_) ∧ k_ = (md_cs s_ z_ g_) ∧ ab_R E_X3_addsTo P_X3_addsTo Q 26 [some (.inr (.inl (some 0))), some (.inl fr), some (.inl to), some (.inl bb), some (.inl t0), none] [.inl x_] (md_cs s_ z_ g_)))  : ab_R E_X3_addsTo P_X3_addsTo Q 19 [some (.inr (.inl (some 0))), some (.inl fr), some (.inl to), some (.inl bb), none, none] [.inl t0] (md_cs s_ z_ g_) :=
  ab_R.steps [5, 12, 19, 26, 28, 60] 5 (show ab_cl sp_X3_chunkFrom [.inr (.inl (some 0)), .inl fr] (md_cs s_ z_ g_) (fun r_ k_ => k_.length = ((md_cs s_ z_ g_)).length → ab_R E_X3_addsTo P_X3_addsTo Q 26 [some (.inr (.inl (some 0))), some (.inl fr), some (.inl to), some (.inl bb), some (.inl t0), none] (ab_ret r_ []) k_) from ⟨_, l1, fun r_ k_ hz _ => by obtain ⟨x_, rfl, rfl, hR⟩ := hz; exact hR⟩)
set_option maxRecDepth 100000 in
theorem b_X3_addsTo_26 {Q : ab_Q} {fr : Int} {to : Int} {bb : Int} {en : Int} {t0 : Int} {s_ : Int → Int} {z_ : mc_T} {g_ : mg_T} (l1 : ab_R E_X3_addsTo P_X3_addsTo Q 28 [some (.inr (.inl (some 0))), some (.inl fr), some (.inl to), some (.inl bb), some (.inl en), some (.inl t0)] [] (md_cs s_ z_ g_))  : ab_R E_X3_addsTo P_X3_addsTo Q 26 [some (.inr (.inl (some 0))), some (.inl fr), some (.inl to), some (.inl bb), some (.inl en), none] [.inl t0] (md_cs s_ z_ g_) :=
  ab_R.steps [5, 12, 19, 26, 28, 60] 3 (show ab_R E_X3_addsTo P_X3_addsTo Q 28 [some (.inr (.inl (some 0))), some (.inl fr), some (.inl to), some (.inl bb), some (.inl en), some (.inl t0)] [] (md_cs s_ z_ g_) from l1)
set_option maxRecDepth 100000 in
theorem b_X3_addsTo_28 {Q : ab_Q} {fr : Int} {to : Int} {bb : Int} {en : Int} {c : Int} {s_ : Int → Int} {z_ : mc_T} {g_ : mg_T} (l1 : en ≤ c → sp_X3_evens [.inr (.inl (some 0))] (md_cs s_ z_ g_) (fun r_ k_ => ∃ (s_' : Int → Int), ∃ (z_' : mc_T), ∃ (g_' : mg_T), r_ = none ∧ k_ = (md_cs (s_') z_' g_') ∧ ab_R E_X3_addsTo P_X3_addsTo Q 60 [some (.inr (.inl (some 0))), some (.inl fr), some (.inl to), some (.inl bb), some (.inl en), some (.inl c)] [] (md_cs (s_') z_' g_'))) (l2 : c < en → ab_R E_X3_addsTo P_X3_addsTo Q 28 [some (.inr (.inl (some 0))), some (.inl fr), some (.inl to), some (.inl bb), some (.inl en), some (.inl (c + 1))] [] (md_cs ((ab_up s_ (191 + c) ((s_ (191 + c)) + bb))) z_ g_)) (p1 : (ab_r c ∧ ab_r en) := by intros; (try unfold ab_r); omega) (p2 : c < en → (0 ≤ (191 + c) ∧ (191 + c) < 255) := by intros; (try unfold ab_r); omega) : ab_R E_X3_addsTo P_X3_addsTo Q 28 [some (.inr (.inl (some 0))), some (.inl fr), some (.inl to), some (.inl bb), some (.inl en), some (.inl c)] [] (md_cs s_ z_ g_) :=
  ab_R.steps [5, 12, 19, 26, 28, 60] 17 (show ((ab_r c ∧ ab_r en) ∧ ((en ≤ c → ab_cl sp_X3_evens [.inr (.inl (some 0))] (md_cs s_ z_ g_) (fun r_ k_ => k_.length = ((md_cs s_ z_ g_)).length → ab_R E_X3_addsTo P_X3_addsTo Q 60 [some (.inr (.inl (some 0))), some (.inl fr), some (.inl to), some (.inl bb), some (.inl en), some (.inl c)] (ab_ret r_ []) k_)) ∧ (c < en → ((0 ≤ (191 + c) ∧ (191 + c) < 255) ∧ ((0 ≤ (191 + c) ∧ (191 + c) < 255) ∧ ab_R E_X3_addsTo P_X3_addsTo Q 28 [some (.inr (.inl (some 0))), some (.inl fr), some (.inl to), some (.inl bb), some (.inl en), some (.inl (c + 1))] [] (md_cs ((ab_up s_ (191 + c) ((s_ (191 + c)) + bb))) z_ g_)))))) from ⟨p1, ⟨fun h1 => ⟨_, (l1 h1), fun r_ k_ hz _ => by obtain ⟨s_', z_', g_', rfl, rfl, hR⟩ := hz; exact hR⟩, fun h2 => ⟨(p2 h2), ⟨(p2 h2), (l2 h2)⟩⟩⟩⟩)
set_option maxRecDepth 100000 in
theorem b_X3_addsTo_60 {Q : ab_Q} {fr : Int} {to : Int} {bb : Int} {en : Int} {c : Int} {s_ : Int → Int} {z_ : mc_T} {g_ : mg_T} (l1 : Q none (md_cs s_ z_ g_))  : ab_R E_X3_addsTo P_X3_addsTo Q 60 [some (.inr (.inl (some 0))), some (.inl fr), some (.inl to), some (.inl bb), some (.inl en), some (.inl c)] [] (md_cs s_ z_ g_) :=
  ab_R.steps [5, 12, 19, 26, 28, 60] 2 (show Q none (md_cs s_ z_ g_) from l1)
theorem mq_R_mid {s s' : Int → Int} {A M B : List mq_K} {g : mq_K → mq_K} (hR : mq_R (md_v s) (A ++ (M ++ B))) (hW : mq_W (A ++ (M ++ B))) (hg : ∀ k, (g k).1 = k.1) (h0 : ∀ j : Int, j < 127 → s' j = s j) (h1 : ∀ i : Int, 0 ≤ i → i < (A ++ (M ++ B)).length → (i < A.length ∨ (A.length : Int) + M.length ≤ i) → s' (127 + i) = s (127 + i) ∧ s' (191 + i) = s (191 + i)) (h2 : ∀ (i : Nat) (k : mq_K), A.length ≤ i → i < A.length + M.length → (A ++ (M ++ B))[i]? = some k → s' (127 + (i : Int)) = (g k).2.1 ∧ s' (191 + (i : Int)) = (g k).2.2) : mq_R (md_v s') (A ++ (M.map g ++ B)) := by
  have hcl := hW.chunks
  have hfl := hW.2
  refine mq_R_pt ?_ (fun i k hk => ?_) ?_ ?_
  · rw [mq_flat_midmap hg]
    exact mq_al.eq hR.1 (fun i hi => by
      show s' (3 + (i : Int)) = s (3 + (i : Int))
      exact h0 _ (by omega))
  · rw [mq_midmap] at hk
    by_cases y : A.length ≤ i ∧ i < A.length + M.length
    · rw [if_pos y] at hk
      obtain ⟨k0, hk0, rfl⟩ := Option.map_eq_some_iff.mp hk
      obtain ⟨e1, e2⟩ := h2 i k0 y.1 y.2 hk0
      refine ⟨?_, e1, e2⟩
      rw [hg, h0 _ (by have := (List.getElem?_eq_some_iff.mp hk0).1; omega)]
      exact hR.len hk0
    · rw [if_neg y] at hk
      have hi := (List.getElem?_eq_some_iff.mp hk).1
      obtain ⟨e1, e2⟩ := h1 i (by omega) (by omega) (by omega)
      refine ⟨?_, e1.trans (hR.turn hk), e2.trans (hR.sum hk)⟩
      rw [h0 _ (by omega)]
      exact hR.len hk
  · rw [mq_flat_midmap hg, h0 0 (by omega)]
    exact hR.2.2.2.2.1
  · rw [h0 1 (by omega)]
    have h := hR.2.2.2.2.2
    rw [show (A ++ (M.map g ++ B)).length = (A ++ (M ++ B)).length by simp]
    exact h
theorem vc_X3_turns {av : List ab_V} {cs : List ab_C} {Q : ab_Q} (h : sp_X3_turns av cs Q) : (ab_lv0 av).length ≤ 6 ∧ ab_R E_X3_turns P_X3_turns Q 0 (ab_ent av 6) [] cs := by
  obtain ⟨s, ⟨od, nk, nl, nt, ns⟩, g, q, f, n, x, y, rfl, rfl, hR, hW, hx, hy, hfn, hQ⟩ := h
  refine ⟨Nat.le_of_ble_eq_true rfl, ?_⟩
  have hWt := mq_W_trn hW hfn
  obtain ⟨A, M, B, w1, w2, t1, t2, t3, t4, t5, t6, t7, t8, t9⟩ := mq_two hW hfn
  have hpq : mq_trn q f n = (A ++ (M.reverse.map mq_flip ++ B), w1 + w2) := by unfold mq_trn; rw [t1]
  rw [hpq] at hQ hWt
  dsimp only at hQ hWt
  have hfl := hW.2
  have hcl := t6.chunks
  refine b_X3_turns_0 ⟨_, _, _, q, f, _, rfl, rfl, hR, hW, hx, by omega, fun s1 z1 hr1 hw1 => ⟨_, z1, g, rfl, rfl, ?_⟩⟩
  obtain ⟨od1, nk1, nl1, nt1, ns1⟩ := z1
  refine b_X3_turns_5 ⟨_, _, _, _, f + n, _, rfl, rfl, hr1, t3, by omega, by omega, fun s2 z2 hr2 hw2 => ⟨_, z2, g, rfl, rfl, ?_⟩⟩
  obtain ⟨od2, nk2, nl2, nt2, ns2⟩ := z2
  rw [t5] at hr2 hw2
  rw [t2] at hw1
  dsimp only at hr2 hw2
  have hr2' : mq_R (md_v s2) (A ++ (M ++ B)) := by simpa using hr2
  have t6' : mq_W ((A ++ M) ++ B) := by simpa using t6
  refine b_X3_turns_12 ⟨_, _, _, A, M ++ B, _, rfl, rfl, hr2', t6, by omega, _, rfl, rfl, ?_⟩
  refine b_X3_turns_17 ⟨_, _, _, A ++ M, B, _, rfl, rfl, hr2, t6', by rw [mq_flat_app, List.length_append]; omega, _, rfl, rfl, ?_⟩
  refine b_X3_turns_25 ?_
  have c2 : s2 1 = ((A ++ (M ++ B)).length : Nat) := hr2'.2.2.2.2.2
  simp only [List.length_append] at c2 hcl ⊢
  generalize ha : (A.length : Int) = a
  generalize hb : ((A.length + M.length : Nat) : Int) = b
  have third : ∀ (z3 : mc_T) (s3 : Int → Int), mq_R (md_v s3) (A ++ (M.reverse ++ B)) → mq_W (A ++ (M.reverse ++ B)) → s3 2 = s2 2 → ∀ (m : Nat) (c : Int) (s4 : Int → Int), c + m = b → a ≤ c → (∀ j : Int, s4 j = if 127 + a ≤ j ∧ j < 127 + c then 1 - s3 j else s3 j) →
      ab_R E_X3_turns P_X3_turns Q 88 [some (.inr (.inl (some 0))), some (.inl x), some (.inl y), some (.inl a), some (.inl b), some (.inl c)] [] (md_cs s4 z3 g) := by
    intro z3 s3 hr3 hW3 hw3 m
    obtain ⟨od3, nk3, nl3, nt3, ns3⟩ := z3
    induction m with
    | zero =>
      intro c s4 g1 g2 g3
      have hm : mq_R (md_v s4) (A ++ (M.reverse.map mq_flip ++ B)) := by
        refine mq_R_mid hr3 hW3 (fun k => rfl) (fun j hj => by rw [g3, if_neg (by omega)]) (fun i i1 i2 i3 => ⟨?_, ?_⟩) (fun i k i1 i2 hk => ⟨?_, ?_⟩)
        · rw [List.length_reverse] at i3
          rw [g3, if_neg (by omega)]
        · simp only [List.length_append, List.length_reverse] at i2
          rw [g3, if_neg (by omega)]
        · rw [List.length_reverse] at i2
          rw [g3, if_pos (by omega)]
          have e : s3 (127 + (i : Int)) = _ := hr3.turn hk
          rw [e]; rfl
        · rw [List.length_reverse] at i2
          rw [g3, if_neg (by omega)]
          have e : s3 (191 + (i : Int)) = _ := hr3.sum hk
          rw [e]; rfl
      have o2 : s4 2 = s3 2 := by rw [g3, if_neg (by omega)]
      refine b_X3_turns_88 (fun _ => ⟨_, _, _, _, rfl, rfl, hm, hWt, fun s' z' q1 q2 => ⟨s', z', g, rfl, rfl, ?_⟩⟩) (fun _ => by omega)
      obtain ⟨od5, nk5, nl5, nt5, ns5⟩ := z'
      exact b_X3_turns_127 (hQ s' _ q1 (by omega))
    | succ m ih =>
      intro c s4 g1 g2 g3
      refine b_X3_turns_88 (fun _ => by omega) (fun _ => ih _ _ (by omega) (by omega) (fun j => ?_))
      have o : s4 (127 + c) = s3 (127 + c) := by rw [g3, if_neg (by omega)]
      rw [o]
      by_cases y1 : j = 127 + c
      · rw [ab_up_eq y1, if_pos (by omega), y1]
      · rw [ab_up_ne y1, g3]
        by_cases y2 : 127 + a ≤ j ∧ j < 127 + c
        · rw [if_pos y2, if_pos (by omega)]
        · rw [if_neg y2, if_neg (by omega)]
  have first : ∀ (m : Nat) (c : Int) (od3 : Int → Int), c + m = s2 1 → 0 ≤ c → (∀ i : Int, 0 ≤ i → i < c → od3 i = if a ≤ i ∧ i < b then a + b - 1 - i else i) →
      ab_R E_X3_turns P_X3_turns Q 30 [some (.inr (.inl (some 0))), some (.inl x), some (.inl y), some (.inl a), some (.inl b), some (.inl c)] [] (md_cs s2 (od3, nk2, nl2, nt2, ns2) g) := by
    intro m
    induction m with
    | zero =>
      intro c od3 g1 g2 g3
      have hW3 : mq_W (A ++ (M.reverse ++ B)) := mq_W_perm t6 (fun k hk => by simpa using hk) (by simp only [mq_flat_app, List.length_append, mq_flat_rev])
      refine b_X3_turns_30 (fun _ => ⟨s2, od3, _, _, _, _, _, A ++ (M ++ B), A ++ (M.reverse ++ B), rfl, rfl, hr2', t6, by simp, by simp only [mq_flat_app, List.length_append, mq_flat_rev], fun i hi => ?_, fun s3 z3 hr3 hw3 => ⟨s3, z3, g, rfl, rfl, ?_⟩⟩) (fun _ _ => by omega) (fun _ _ _ => by omega) (fun _ _ _ => by omega)
      · simp only [List.length_append] at hi
        by_cases y1 : a ≤ i ∧ (i : Int) < b
        · refine ⟨A.length + (A.length + M.length) - 1 - i, ?_, by simp only [List.length_append]; omega, ?_⟩
          · rw [g3 i (by omega) (by omega), if_pos y1]; omega
          · rw [List.getElem?_append_right (by omega), List.getElem?_append_left (by rw [List.length_reverse]; omega), List.getElem?_reverse (by omega), List.getElem?_append_right (by omega), List.getElem?_append_left (by omega)]
            congr 1; omega
        · refine ⟨i, ?_, by simp only [List.length_append]; omega, ?_⟩
          · rw [g3 i (by omega) (by omega), if_neg y1]
          · by_cases y2 : i < A.length
            · rw [List.getElem?_append_left y2, List.getElem?_append_left y2]
            · rw [List.getElem?_append_right (by omega), List.getElem?_append_right (by rw [List.length_reverse]; omega), List.getElem?_append_right (by omega), List.getElem?_append_right (by omega), List.length_reverse]
      · obtain ⟨od4, nk4, nl4, nt4, ns4⟩ := z3
        exact b_X3_turns_85 (third _ s3 hr3 hW3 hw3 M.length a s3 (by omega) (by omega) (fun j => by rw [if_neg (by omega)]))
    | succ m ih =>
      intro c od3 g1 g2 g3
      refine b_X3_turns_30 (fun _ => by omega) (fun _ _ => ih _ _ (by omega) (by omega) (fun i i1 i2 => ?_)) (fun _ _ _ => ih _ _ (by omega) (by omega) (fun i i1 i2 => ?_)) (fun _ _ _ => ih _ _ (by omega) (by omega) (fun i i1 i2 => ?_))
      · by_cases y1 : i = c
        · rw [ab_up_eq y1, if_neg (by omega), y1]
        · rw [ab_up_ne y1]; exact g3 i i1 (by omega)
      · by_cases y1 : i = c
        · rw [ab_up_eq y1, if_pos (by omega), y1]
        · rw [ab_up_ne y1]; exact g3 i i1 (by omega)
      · by_cases y1 : i = c
        · rw [ab_up_eq y1, if_neg (by omega), y1]
        · rw [ab_up_ne y1]; exact g3 i i1 (by omega)
  exact first (A.length + (M.length + B.length)) 0 od2 (by omega) (by omega) (fun i i1 i2 => by omega)
theorem mt_X3_turns (l : Launch) : ab_MT l mi_X3_turns sp_X3_turns := ab_MT.of (own := "RootChunksModel") (E := E_X3_turns) (P := P_X3_turns) (M := M_X3_turns) (nL := 6) (ty := 9) (by decide) rfl rfl tk_X3 pk_X3_turns ck_X3_turns (ab_CT'.cons (mt_X3_cuts l) (ab_CT'.cons (mt_X3_cuts l) (ab_CT'.cons (mt_X3_chunkFrom l) (ab_CT'.cons (mt_X3_chunkFrom l) (ab_CT'.cons (mt_X3_reorders l) (ab_CT'.cons (mt_X3_evens l) ab_CT'.nil)))))) (fun av cs Q h => vc_X3_turns h)
theorem vc_X3_addsTo {av : List ab_V} {cs : List ab_C} {Q : ab_Q} (h : sp_X3_addsTo av cs Q) : (ab_lv0 av).length ≤ 6 ∧ ab_R E_X3_addsTo P_X3_addsTo Q 0 (ab_ent av 6) [] cs := by
  obtain ⟨s, z, g, q, f, n, x, y, v, rfl, rfl, hR, hW, hx, hy, hfn, hv, hQ⟩ := h
  refine ⟨Nat.le_of_ble_eq_true rfl, ?_⟩
  have hWt := mq_W_add hW hfn hv
  obtain ⟨A, M, B, w1, w2, t1, t2, t3, t4, t5, t6, t7, t8, t9⟩ := mq_two hW hfn
  have hpq : mq_add q f n v = (A ++ (M.map (mq_addk v) ++ B), w1 + w2) := by unfold mq_add; rw [t1]
  rw [hpq] at hQ hWt
  dsimp only at hQ hWt
  have hfl := hW.2
  have hcl := t6.chunks
  refine b_X3_addsTo_0 ⟨_, _, _, q, f, _, rfl, rfl, hR, hW, hx, by omega, fun s1 z1 hr1 hw1 => ⟨_, z1, g, rfl, rfl, ?_⟩⟩
  refine b_X3_addsTo_5 ⟨_, _, _, _, f + n, _, rfl, rfl, hr1, t3, by omega, by omega, fun s2 z2 hr2 hw2 => ⟨_, z2, g, rfl, rfl, ?_⟩⟩
  rw [t5] at hr2 hw2
  rw [t2] at hw1
  dsimp only at hr2 hw2
  have hr2' : mq_R (md_v s2) (A ++ (M ++ B)) := by simpa using hr2
  have t6' : mq_W ((A ++ M) ++ B) := by simpa using t6
  refine b_X3_addsTo_12 ⟨_, _, _, A ++ M, B, _, rfl, rfl, hr2, t6', by rw [mq_flat_app, List.length_append]; omega, _, rfl, rfl, ?_⟩
  refine b_X3_addsTo_19 ⟨_, _, _, A, M ++ B, _, rfl, rfl, hr2', t6, by omega, _, rfl, rfl, ?_⟩
  refine b_X3_addsTo_26 ?_
  simp only [List.length_append] at hcl ⊢
  generalize ha : (A.length : Int) = a
  generalize hb : ((A.length + M.length : Nat) : Int) = b
  have loop : ∀ (m : Nat) (c : Int) (s4 : Int → Int), c + m = b → a ≤ c → (∀ j : Int, s4 j = if 191 + a ≤ j ∧ j < 191 + c then s2 j + v else s2 j) →
      ab_R E_X3_addsTo P_X3_addsTo Q 28 [some (.inr (.inl (some 0))), some (.inl x), some (.inl y), some (.inl v), some (.inl b), some (.inl c)] [] (md_cs s4 z2 g) := by
    intro m
    induction m with
    | zero =>
      intro c s4 g1 g2 g3
      have hm : mq_R (md_v s4) (A ++ (M.map (mq_addk v) ++ B)) := by
        refine mq_R_mid hr2' t6 (fun k => rfl) (fun j hj => by rw [g3, if_neg (by omega)]) (fun i i1 i2 i3 => ⟨?_, ?_⟩) (fun i k i1 i2 hk => ⟨?_, ?_⟩)
        · simp only [List.length_append] at i2
          rw [g3, if_neg (by omega)]
        · rw [g3, if_neg (by omega)]
        · rw [g3, if_neg (by omega)]
          have e : s2 (127 + (i : Int)) = _ := hr2'.turn hk
          rw [e]; rfl
        · rw [g3, if_pos (by omega)]
          have e : s2 (191 + (i : Int)) = _ := hr2'.sum hk
          rw [e]; rfl
      have o2 : s4 2 = s2 2 := by rw [g3, if_neg (by omega)]
      exact b_X3_addsTo_28 (fun _ => ⟨_, _, _, _, rfl, rfl, hm, hWt, fun s' z' q1 q2 => ⟨s', z', g, rfl, rfl, b_X3_addsTo_60 (hQ s' _ q1 (by omega))⟩⟩) (fun _ => by omega)
    | succ m ih =>
      intro c s4 g1 g2 g3
      refine b_X3_addsTo_28 (fun _ => by omega) (fun _ => ih _ _ (by omega) (by omega) (fun j => ?_))
      have o : s4 (191 + c) = s2 (191 + c) := by rw [g3, if_neg (by omega)]
      rw [o]
      by_cases y1 : j = 191 + c
      · rw [ab_up_eq y1, if_pos (by omega), y1]
      · rw [ab_up_ne y1, g3]
        by_cases y2 : 191 + a ≤ j ∧ j < 191 + c
        · rw [if_pos y2, if_pos (by omega)]
        · rw [if_neg y2, if_neg (by omega)]
  exact loop M.length a s2 (by omega) (by omega) (fun j => by rw [if_neg (by omega)])
theorem mt_X3_addsTo (l : Launch) : ab_MT l mi_X3_addsTo sp_X3_addsTo := ab_MT.of (own := "RootChunksModel") (E := E_X3_addsTo) (P := P_X3_addsTo) (M := M_X3_addsTo) (nL := 6) (ty := 9) (by decide) rfl rfl tk_X3 pk_X3_addsTo ck_X3_addsTo (ab_CT'.cons (mt_X3_cuts l) (ab_CT'.cons (mt_X3_cuts l) (ab_CT'.cons (mt_X3_chunkFrom l) (ab_CT'.cons (mt_X3_chunkFrom l) (ab_CT'.cons (mt_X3_evens l) ab_CT'.nil))))) (fun av cs Q h => vc_X3_addsTo h)
end
section
def sp_X3_shifts : ab_Sp := fun av cs Q => ∃ (s : Int → Int) (z : mc_T) (g : mg_T) (q : List mq_K) (f n d : Nat) (x y p : Int), av = [.inr (.inl (some 0)), .inl x, .inl y, .inl p] ∧ cs = md_cs s z g ∧ mq_R (md_v s) q ∧ mq_W q ∧ x = f ∧ y + 1 = x + n ∧ f + n ≤ (mq_flat q).length ∧ p = d ∧ d + n ≤ (mq_flat q).length ∧ 0 < n ∧
  ∀ (s' : Int → Int) (z' : mc_T), mq_R (md_v s') (mq_mov q f n d).1 → s' 2 = s 2 + (mq_mov q f n d).2 → Q none (md_cs s' z' g)
-- ===== RootChunksModel.shifts
def P_X3_shifts : List ab_I := [(0, .aload_n 0, 1, []), (1, .iload_n 1, 2, []), (2, .invokevirtual 79, 5, []), (5, .aload_n 0, 6, []), (6, .iload_n 2, 7, []), (7, .iconst 1, 8, []), (8, .iadd, 9, []), (9, .invokevirtual 79, 12, []), (12, .aload_n 0, 13, []), (13, .iload_n 1, 14, []), (14, .invokevirtual 82, 17, []), (17, .istore 4, 19, []), (19, .aload_n 0, 20, []), (20, .iload_n 2, 21, []), (21, .iconst 1, 22, []), (22, .iadd, 23, []), (23, .invokevirtual 82, 26, []), (26, .istore 5, 28, []), (28, .iload 5, 30, []), (30, .iload 4, 32, []), (32, .isub, 33, []), (33, .istore 6, 35, []), (35, .aload_n 0, 36, []), (36, .getfield 7, 39, []), (39, .iconst 1, 40, []), (40, .iaload, 41, []), (41, .iload 6, 43, []), (43, .isub, 44, []), (44, .istore 7, 46, []), (46, .iconst 0, 47, []), (47, .istore 8, 49, []), (49, .iload 8, 51, []), (51, .iload 7, 53, []), (53, .if_icmp .ge 33, 56, [((0 : Int), 86)]), (56, .aload_n 0, 57, []), (57, .getfield 29, 60, []), (60, .iload 8, 62, []), (62, .iload 8, 64, []), (64, .iload 4, 66, []), (66, .if_icmp .ge 8, 69, [((0 : Int), 74)]), (69, .iload 8, 71, []), (71, .goto 8, 74, [((0 : Int), 79)]), (74, .iload 8, 76, []), (76, .iload 6, 78, []), (78, .iadd, 79, []), (79, .iastore, 80, []), (80, .iinc 8 1, 83, []), (83, .goto (-34), 86, [((0 : Int), 49)]), (86, .iconst 0, 87, []), (87, .istore 8, 89, []), (89, .iload 8, 91, []), (91, .iload 6, 93, []), (93, .if_icmp .ge 24, 96, [((0 : Int), 117)]), (96, .aload_n 0, 97, []), (97, .getfield 29, 100, []), (100, .iload 7, 102, []), (102, .iload 8, 104, []), (104, .iadd, 105, []), (105, .iload 4, 107, []), (107, .iload 8, 109, []), (109, .iadd, 110, []), (110, .iastore, 111, []), (111, .iinc 8 1, 114, []), (114, .goto (-25), 117, [((0 : Int), 89)]), (117, .aload_n 0, 118, []), (118, .invokevirtual 88, 121, []), (121, .aload_n 0, 122, []), (122, .getfield 7, 125, []), (125, .iconst 0, 126, []), (126, .iaload, 127, []), (127, .iload_n 2, 128, []), (128, .iload_n 1, 129, []), (129, .isub, 130, []), (130, .iconst 1, 131, []), (131, .iadd, 132, []), (132, .isub, 133, []), (133, .istore 8, 135, []), (135, .iload_n 3, 136, []), (136, .iload 8, 138, []), (138, .if_icmp .ge 8, 141, [((0 : Int), 146)]), (141, .aload_n 0, 142, []), (142, .iload_n 3, 143, []), (143, .invokevirtual 79, 146, []), (146, .aload_n 0, 147, []), (147, .getfield 7, 150, []), (150, .iconst 1, 151, []), (151, .iaload, 152, []), (152, .iload 6, 154, []), (154, .isub, 155, []), (155, .istore 7, 157, []), (157, .iload_n 3, 158, []), (158, .iload 8, 160, []), (160, .if_icmp .ne 8, 163, [((0 : Int), 168)]), (163, .iload 7, 165, []), (165, .goto 8, 168, [((0 : Int), 173)]), (168, .aload_n 0, 169, []), (169, .iload_n 3, 170, []), (170, .invokevirtual 82, 173, []), (173, .istore 9, 175, []), (175, .iconst 0, 176, []), (176, .istore 10, 178, []), (178, .iload 10, 180, []), (180, .aload_n 0, 181, []), (181, .getfield 7, 184, []), (184, .iconst 1, 185, []), (185, .iaload, 186, []), (186, .if_icmp .ge 54, 189, [((0 : Int), 240)]), (189, .aload_n 0, 190, []), (190, .getfield 29, 193, []), (193, .iload 10, 195, []), (195, .iload 10, 197, []), (197, .iload 9, 199, []), (199, .if_icmp .ge 8, 202, [((0 : Int), 207)]), (202, .iload 10, 204, []), (204, .goto 29, 207, [((0 : Int), 233)]), (207, .iload 10, 209, []), (209, .iload 9, 211, []), (211, .iload 6, 213, []), (213, .iadd, 214, []), (214, .if_icmp .ge 14, 217, [((0 : Int), 228)]), (217, .iload 7, 219, []), (219, .iload 10, 221, []), (221, .iadd, 222, []), (222, .iload 9, 224, []), (224, .isub, 225, []), (225, .goto 8, 228, [((0 : Int), 233)]), (228, .iload 10, 230, []), (230, .iload 6, 232, []), (232, .isub, 233, []), (233, .iastore, 234, []), (234, .iinc 10 1, 237, []), (237, .goto (-59), 240, [((0 : Int), 178)]), (240, .aload_n 0, 241, []), (241, .invokevirtual 88, 244, []), (244, .return_, 245, [])]
def E_X3_shifts : ab_E := (T_X3, [(2, (2, 3, [], 0, sp_X3_cuts)), (9, (2, 3, [], 0, sp_X3_cuts)), (14, (2, 3, [], 0, sp_X3_chunkFrom)), (23, (2, 3, [], 0, sp_X3_chunkFrom)), (118, (1, 3, [], 0, sp_X3_reorders)), (143, (2, 3, [], 0, sp_X3_cuts)), (170, (2, 3, [], 0, sp_X3_chunkFrom)), (241, (1, 3, [], 0, sp_X3_reorders))], [], 9)
def M_X3_shifts : List (Nat × ab_MI) := [(2, mi_X3_cuts), (9, mi_X3_cuts), (14, mi_X3_chunkFrom), (23, mi_X3_chunkFrom), (118, mi_X3_reorders), (143, mi_X3_cuts), (170, mi_X3_chunkFrom), (241, mi_X3_reorders)]
def mi_X3_shifts : ab_MI := (yX3_shifts, cX3_shifts, 11, ab_rty 9, 5, 164)
theorem pk_X3_shifts : P_X3_shifts.all (ab_okI cX3_shifts) = true := by decide +kernel
theorem ck_X3_shifts : P_X3_shifts.all (ab_okC1 "RootChunksModel" M_X3_shifts E_X3_shifts (5, 164)) = true := by decide +kernel
set_option maxRecDepth 100000 in
theorem b_X3_shifts_0 {Q : ab_Q} {fr : Int} {to : Int} {p : Int} {s_ : Int → Int} {z_od : Int → Int} {z_nk : Int → Int} {z_nl : Int → Int} {z_nt : Int → Int} {z_ns : Int → Int} {g_ : mg_T} (l1 : sp_X3_cuts [.inr (.inl (some 0)), .inl fr] (md_cs s_ (z_od, z_nk, z_nl, z_nt, z_ns) g_) (fun r_ k_ => ∃ (s_' : Int → Int), ∃ (z_' : mc_T), ∃ (g_' : mg_T), r_ = none ∧ k_ = (md_cs (s_') z_' g_') ∧ ab_R E_X3_shifts P_X3_shifts Q 5 [some (.inr (.inl (some 0))), some (.inl fr), some (.inl to), some (.inl p), none, none, none, none, none, none, none] [] (md_cs (s_') z_' g_')))  : ab_R E_X3_shifts P_X3_shifts Q 0 [some (.inr (.inl (some 0))), some (.inl fr), some (.inl to), some (.inl p), none, none, none, none, none, none, none] [] (md_cs s_ (z_od, z_nk, z_nl, z_nt, z_ns) g_) :=
  ab_R.steps [5, 12, 17, 26, 49, 89, 121, 146, 173, 178, 244] 4 (show ab_cl sp_X3_cuts [.inr (.inl (some 0)), .inl fr] (md_cs s_ (z_od, z_nk, z_nl, z_nt, z_ns) g_) (fun r_ k_ => k_.length = ((md_cs s_ (z_od, z_nk, z_nl, z_nt, z_ns) g_)).length → ab_R E_X3_shifts P_X3_shifts Q 5 [some (.inr (.inl (some 0))), some (.inl fr), some (.inl to), some (.inl p), none, none, none, none, none, none, none] (ab_ret r_ []) k_) from ⟨_, l1, fun r_ k_ hz _ => by obtain ⟨s_', z_', g_', rfl, rfl, hR⟩ := hz; exact hR⟩)
set_option maxRecDepth 100000 in
theorem b_X3_shifts_5 {Q : ab_Q} {fr : Int} {to : Int} {p : Int} {s_ : Int → Int} {z_od : Int → Int} {z_nk : Int → Int} {z_nl : Int → Int} {z_nt : Int → Int} {z_ns : Int → Int} {g_ : mg_T} (l1 : sp_X3_cuts [.inr (.inl (some 0)), .inl (to + 1)] (md_cs s_ (z_od, z_nk, z_nl, z_nt, z_ns) g_) (fun r_ k_ => ∃ (s_' : Int → Int), ∃ (z_' : mc_T), ∃ (g_' : mg_T), r_ = none ∧ k_ = (md_cs (s_') z_' g_') ∧ ab_R E_X3_shifts P_X3_shifts Q 12 [some (.inr (.inl (some 0))), some (.inl fr), some (.inl to), some (.inl p), none, none, none, none, none, none, none] [] (md_cs (s_') z_' g_')))  : ab_R E_X3_shifts P_X3_shifts Q 5 [some (.inr (.inl (some 0))), some (.inl fr), some (.inl to), some (.inl p), none, none, none, none, none, none, none] [] (md_cs s_ (z_od, z_nk, z_nl, z_nt, z_ns) g_) :=
  ab_R.steps [5, 12, 17, 26, 49, 89, 121, 146, 173, 178, 244] 6 (show ab_cl sp_X3_cuts [.inr (.inl (some 0)), .inl (to + 1)] (md_cs s_ (z_od, z_nk, z_nl, z_nt, z_ns) g_) (fun r_ k_ => k_.length = ((md_cs s_ (z_od, z_nk, z_nl, z_nt, z_ns) g_)).length → ab_R E_X3_shifts P_X3_shifts Q 12 [some (.inr (.inl (some 0))), some (.inl fr), some (.inl to), some (.inl p), none, none, none, none, none, none, none] (ab_ret r_ []) k_) from ⟨_, l1, fun r_ k_ hz _ => by obtain ⟨s_', z_', g_', rfl, rfl, hR⟩ := hz; exact hR⟩)
set_option maxRecDepth 100000 in
theorem b_X3_shifts_12 {Q : ab_Q} {fr : Int} {to : Int} {p : Int} {s_ : Int → Int} {z_od : Int → Int} {z_nk : Int → Int} {z_nl : Int → Int} {z_nt : Int → Int} {z_ns : Int → Int} {g_ : mg_T} (l1 : sp_X3_chunkFrom [.inr (.inl (some 0)), .inl fr] (md_cs s_ (z_od, z_nk, z_nl, z_nt, z_ns) g_) (fun r_ k_ => ∃ (x_ : Int), r_ = some (.inl x_) ∧ k_ = (md_cs s_ (z_od, z_nk, z_nl, z_nt, z_ns) g_) ∧ ab_R E_X3_shifts P_X3_shifts Q 17 [some (.inr (.inl (some 0))), some (.inl fr), some (.inl to), some (.inl p), none, none, none, none, none, none, none] [.inl x_] (md_cs s_ (z_od, z_nk, z_nl, z_nt, z_ns) g_)))  : ab_R E_X3_shifts P_X3_shifts Q 12 [some (.inr (.inl (some 0))), some (.inl fr), some (.inl to), some (.inl p), none, none, none, none, none, none, none] [] (md_cs s_ (z_od, z_nk, z_nl, z_nt, z_ns) g_) :=
  ab_R.steps [5, 12, 17, 26, 49, 89, 121, 146, 173, 178, 244] 4 (show ab_cl sp_X3_chunkFrom [.inr (.inl (some 0)), .inl fr] (md_cs s_ (z_od, z_nk, z_nl, z_nt, z_ns) g_) (fun r_ k_ => k_.length = ((md_cs s_ (z_od, z_nk, z_nl, z_nt, z_ns) g_)).length → ab_R E_X3_shifts P_X3_shifts Q 17 [some (.inr (.inl (some 0))), some (.inl fr), some (.inl to), some (.inl p), none, none, none, none, none, none, none] (ab_ret r_ []) k_) from ⟨_, l1, fun r_ k_ hz _ => by obtain ⟨x_, rfl, rfl, hR⟩ := hz; exact hR⟩)
set_option maxRecDepth 100000 in
theorem b_X3_shifts_17 {Q : ab_Q} {fr : Int} {to : Int} {p : Int} {t0 : Int} {s_ : Int → Int} {z_od : Int → Int} {z_nk : Int → Int} {z_nl : Int → Int} {z_nt : Int → Int} {z_ns : Int → Int} {g_ : mg_T} (l1 : sp_X3_chunkFrom [.inr (.inl (some 0)), .inl (to + 1)] (md_cs s_ (z_od, z_nk, z_nl, z_nt, z_ns) g_) (fun r_ k_ => ∃ (x_ : Int), r_ = some (.inl x_) ∧ k_ = (md_cs s_ (z_od, z_nk, z_nl, z_nt, z_ns) g_) ∧ ab_R E_X3_shifts P_X3_shifts Q 26 [some (.inr (.inl (some 0))), some (.inl fr), some (.inl to), some (.inl p), some (.inl t0), none, none, none, none, none, none] [.inl x_] (md_cs s_ (z_od, z_nk, z_nl, z_nt, z_ns) g_)))  : ab_R E_X3_shifts P_X3_shifts Q 17 [some (.inr (.inl (some 0))), some (.inl fr), some (.inl to), some (.inl p), none, none, none, none, none, none, none] [.inl t0] (md_cs s_ (z_od, z_nk, z_nl, z_nt, z_ns) g_) :=
  ab_R.steps [5, 12, 17, 26, 49, 89, 121, 146, 173, 178, 244] 7 (show ab_cl sp_X3_chunkFrom [.inr (.inl (some 0)), .inl (to + 1)] (md_cs s_ (z_od, z_nk, z_nl, z_nt, z_ns) g_) (fun r_ k_ => k_.length = ((md_cs s_ (z_od, z_nk, z_nl, z_nt, z_ns) g_)).length → ab_R E_X3_shifts P_X3_shifts Q 26 [some (.inr (.inl (some 0))), some (.inl fr), some (.inl to), some (.inl p), some (.inl t0), none, none, none, none, none, none] (ab_ret r_ []) k_) from ⟨_, l1, fun r_ k_ hz _ => by obtain ⟨x_, rfl, rfl, hR⟩ := hz; exact hR⟩)
set_option maxRecDepth 100000 in
theorem b_X3_shifts_26 {Q : ab_Q} {fr : Int} {to : Int} {p : Int} {a : Int} {t0 : Int} {s_ : Int → Int} {z_od : Int → Int} {z_nk : Int → Int} {z_nl : Int → Int} {z_nt : Int → Int} {z_ns : Int → Int} {g_ : mg_T} (l1 : ab_R E_X3_shifts P_X3_shifts Q 49 [some (.inr (.inl (some 0))), some (.inl fr), some (.inl to), some (.inl p), some (.inl a), some (.inl t0), some (.inl (t0 - a)), some (.inl ((s_ 1) - (t0 - a))), some (.inl 0), none, none] [] (md_cs s_ (z_od, z_nk, z_nl, z_nt, z_ns) g_)) (p1 : (0 ≤ (1 : Int) ∧ (1 : Int) < 255) := by intros; (try unfold ab_r); omega) : ab_R E_X3_shifts P_X3_shifts Q 26 [some (.inr (.inl (some 0))), some (.inl fr), some (.inl to), some (.inl p), some (.inl a), none, none, none, none, none, none] [.inl t0] (md_cs s_ (z_od, z_nk, z_nl, z_nt, z_ns) g_) :=
  ab_R.steps [5, 12, 17, 26, 49, 89, 121, 146, 173, 178, 244] 16 (show ((0 ≤ (1 : Int) ∧ (1 : Int) < 255) ∧ ab_R E_X3_shifts P_X3_shifts Q 49 [some (.inr (.inl (some 0))), some (.inl fr), some (.inl to), some (.inl p), some (.inl a), some (.inl t0), some (.inl (t0 - a)), some (.inl ((s_ 1) - (t0 - a))), some (.inl 0), none, none] [] (md_cs s_ (z_od, z_nk, z_nl, z_nt, z_ns) g_)) from ⟨p1, l1⟩)
set_option maxRecDepth 100000 in
theorem b_X3_shifts_49 {Q : ab_Q} {fr : Int} {to : Int} {p : Int} {a : Int} {en : Int} {mn : Int} {ot : Int} {lf : Int} {s_ : Int → Int} {z_od : Int → Int} {z_nk : Int → Int} {z_nl : Int → Int} {z_nt : Int → Int} {z_ns : Int → Int} {g_ : mg_T} (l1 : ot ≤ lf → ab_R E_X3_shifts P_X3_shifts Q 89 [some (.inr (.inl (some 0))), some (.inl fr), some (.inl to), some (.inl p), some (.inl a), some (.inl en), some (.inl mn), some (.inl ot), some (.inl 0), none, none] [] (md_cs s_ (z_od, z_nk, z_nl, z_nt, z_ns) g_)) (l2 : lf < ot → a ≤ lf → ab_R E_X3_shifts P_X3_shifts Q 49 [some (.inr (.inl (some 0))), some (.inl fr), some (.inl to), some (.inl p), some (.inl a), some (.inl en), some (.inl mn), some (.inl ot), some (.inl (lf + 1)), none, none] [] (md_cs s_ ((ab_up z_od lf (lf + mn)), z_nk, z_nl, z_nt, z_ns) g_)) (l3 : lf < ot → lf < a → ab_R E_X3_shifts P_X3_shifts Q 49 [some (.inr (.inl (some 0))), some (.inl fr), some (.inl to), some (.inl p), some (.inl a), some (.inl en), some (.inl mn), some (.inl ot), some (.inl (lf + 1)), none, none] [] (md_cs s_ ((ab_up z_od lf lf), z_nk, z_nl, z_nt, z_ns) g_)) (p1 : (ab_r lf ∧ ab_r ot) := by intros; (try unfold ab_r); omega) (p2 : lf < ot → (ab_r lf ∧ ab_r a) := by intros; (try unfold ab_r); omega) (p3 : lf < ot → a ≤ lf → (0 ≤ lf ∧ lf < 64) := by intros; (try unfold ab_r); omega) (p4 : lf < ot → lf < a → (0 ≤ lf ∧ lf < 64) := by intros; (try unfold ab_r); omega) : ab_R E_X3_shifts P_X3_shifts Q 49 [some (.inr (.inl (some 0))), some (.inl fr), some (.inl to), some (.inl p), some (.inl a), some (.inl en), some (.inl mn), some (.inl ot), some (.inl lf), none, none] [] (md_cs s_ (z_od, z_nk, z_nl, z_nt, z_ns) g_) :=
  ab_R.steps [5, 12, 17, 26, 49, 89, 121, 146, 173, 178, 244] 17 (show ((ab_r lf ∧ ab_r ot) ∧ ((ot ≤ lf → ab_R E_X3_shifts P_X3_shifts Q 89 [some (.inr (.inl (some 0))), some (.inl fr), some (.inl to), some (.inl p), some (.inl a), some (.inl en), some (.inl mn), some (.inl ot), some (.inl 0), none, none] [] (md_cs s_ (z_od, z_nk, z_nl, z_nt, z_ns) g_)) ∧ (lf < ot → ((ab_r lf ∧ ab_r a) ∧ ((a ≤ lf → ((0 ≤ lf ∧ lf < 64) ∧ ab_R E_X3_shifts P_X3_shifts Q 49 [some (.inr (.inl (some 0))), some (.inl fr), some (.inl to), some (.inl p), some (.inl a), some (.inl en), some (.inl mn), some (.inl ot), some (.inl (lf + 1)), none, none] [] (md_cs s_ ((ab_up z_od lf (lf + mn)), z_nk, z_nl, z_nt, z_ns) g_))) ∧ (lf < a → ((0 ≤ lf ∧ lf < 64) ∧ ab_R E_X3_shifts P_X3_shifts Q 49 [some (.inr (.inl (some 0))), some (.inl fr), some (.inl to), some (.inl p), some (.inl a), some (.inl en), some (.inl mn), some (.inl ot), some (.inl (lf + 1)), none, none] [] (md_cs s_ ((ab_up z_od lf lf), z_nk, z_nl, z_nt, z_ns) g_)))))))) from ⟨p1, ⟨fun h1 => (l1 h1), fun h2 => ⟨(p2 h2), ⟨fun h3 => ⟨(p3 h2 h3), (l2 h2 h3)⟩, fun h4 => ⟨(p4 h2 h4), (l3 h2 h4)⟩⟩⟩⟩⟩)
set_option maxRecDepth 100000 in
theorem b_X3_shifts_89 {Q : ab_Q} {fr : Int} {to : Int} {p : Int} {a : Int} {en : Int} {mn : Int} {ot : Int} {lf : Int} {s_ : Int → Int} {z_od : Int → Int} {z_nk : Int → Int} {z_nl : Int → Int} {z_nt : Int → Int} {z_ns : Int → Int} {g_ : mg_T} (l1 : mn ≤ lf → sp_X3_reorders [.inr (.inl (some 0))] (md_cs s_ (z_od, z_nk, z_nl, z_nt, z_ns) g_) (fun r_ k_ => ∃ (s_' : Int → Int), ∃ (z_' : mc_T), ∃ (g_' : mg_T), r_ = none ∧ k_ = (md_cs (s_') z_' g_') ∧ ab_R E_X3_shifts P_X3_shifts Q 121 [some (.inr (.inl (some 0))), some (.inl fr), some (.inl to), some (.inl p), some (.inl a), some (.inl en), some (.inl mn), some (.inl ot), some (.inl lf), none, none] [] (md_cs (s_') z_' g_'))) (l2 : lf < mn → ab_R E_X3_shifts P_X3_shifts Q 89 [some (.inr (.inl (some 0))), some (.inl fr), some (.inl to), some (.inl p), some (.inl a), some (.inl en), some (.inl mn), some (.inl ot), some (.inl (lf + 1)), none, none] [] (md_cs s_ ((ab_up z_od (ot + lf) (a + lf)), z_nk, z_nl, z_nt, z_ns) g_)) (p1 : (ab_r lf ∧ ab_r mn) := by intros; (try unfold ab_r); omega) (p2 : lf < mn → (0 ≤ (ot + lf) ∧ (ot + lf) < 64) := by intros; (try unfold ab_r); omega) : ab_R E_X3_shifts P_X3_shifts Q 89 [some (.inr (.inl (some 0))), some (.inl fr), some (.inl to), some (.inl p), some (.inl a), some (.inl en), some (.inl mn), some (.inl ot), some (.inl lf), none, none] [] (md_cs s_ (z_od, z_nk, z_nl, z_nt, z_ns) g_) :=
  ab_R.steps [5, 12, 17, 26, 49, 89, 121, 146, 173, 178, 244] 16 (show ((ab_r lf ∧ ab_r mn) ∧ ((mn ≤ lf → ab_cl sp_X3_reorders [.inr (.inl (some 0))] (md_cs s_ (z_od, z_nk, z_nl, z_nt, z_ns) g_) (fun r_ k_ => k_.length = ((md_cs s_ (z_od, z_nk, z_nl, z_nt, z_ns) g_)).length → ab_R E_X3_shifts P_X3_shifts Q 121 [some (.inr (.inl (some 0))), some (.inl fr), some (.inl to), some (.inl p), some (.inl a), some (.inl en), some (.inl mn), some (.inl ot), some (.inl lf), none, none] (ab_ret r_ []) k_)) ∧ (lf < mn → ((0 ≤ (ot + lf) ∧ (ot + lf) < 64) ∧ ab_R E_X3_shifts P_X3_shifts Q 89 [some (.inr (.inl (some 0))), some (.inl fr), some (.inl to), some (.inl p), some (.inl a), some (.inl en), some (.inl mn), some (.inl ot), some (.inl (lf + 1)), none, none] [] (md_cs s_ ((ab_up z_od (ot + lf) (a + lf)), z_nk, z_nl, z_nt, z_ns) g_))))) from ⟨p1, ⟨fun h1 => ⟨_, (l1 h1), fun r_ k_ hz _ => by obtain ⟨s_', z_', g_', rfl, rfl, hR⟩ := hz; exact hR⟩, fun h2 => ⟨(p2 h2), (l2 h2)⟩⟩⟩)
set_option maxRecDepth 100000 in
theorem b_X3_shifts_121 {Q : ab_Q} {fr : Int} {to : Int} {p : Int} {a : Int} {en : Int} {mn : Int} {ot : Int} {lf : Int} {s_ : Int → Int} {z_od : Int → Int} {z_nk : Int → Int} {z_nl : Int → Int} {z_nt : Int → Int} {z_ns : Int → Int} {g_ : mg_T} (l1 : ((s_ 0) - ((to - fr) + 1)) ≤ p → ab_R E_X3_shifts P_X3_shifts Q 146 [some (.inr (.inl (some 0))), some (.inl fr), some (.inl to), some (.inl p), some (.inl a), some (.inl en), some (.inl mn), some (.inl ot), some (.inl ((s_ 0) - ((to - fr) + 1))), none, none] [] (md_cs s_ (z_od, z_nk, z_nl, z_nt, z_ns) g_)) (l2 : p < ((s_ 0) - ((to - fr) + 1)) → sp_X3_cuts [.inr (.inl (some 0)), .inl p] (md_cs s_ (z_od, z_nk, z_nl, z_nt, z_ns) g_) (fun r_ k_ => ∃ (s_' : Int → Int), ∃ (z_' : mc_T), ∃ (g_' : mg_T), r_ = none ∧ k_ = (md_cs (s_') z_' g_') ∧ ab_R E_X3_shifts P_X3_shifts Q 146 [some (.inr (.inl (some 0))), some (.inl fr), some (.inl to), some (.inl p), some (.inl a), some (.inl en), some (.inl mn), some (.inl ot), some (.inl ((s_ 0) - ((to - fr) + 1))), none, none] [] (md_cs (s_') z_' g_'))) (p1 : (0 ≤ (0 : Int) ∧ (0 : Int) < 255) := by intros; (try unfold ab_r); omega) (p2 : (ab_r p ∧ ab_r ((s_ 0) - ((to - fr) + 1))) := by intros; (try unfold ab_r); omega) : ab_R E_X3_shifts P_X3_shifts Q 121 [some (.inr (.inl (some 0))), some (.inl fr), some (.inl to), some (.inl p), some (.inl a), some (.inl en), some (.inl mn), some (.inl ot), some (.inl lf), none, none] [] (md_cs s_ (z_od, z_nk, z_nl, z_nt, z_ns) g_) :=
  ab_R.steps [5, 12, 17, 26, 49, 89, 121, 146, 173, 178, 244] 18 (show ((0 ≤ (0 : Int) ∧ (0 : Int) < 255) ∧ ((ab_r p ∧ ab_r ((s_ 0) - ((to - fr) + 1))) ∧ ((((s_ 0) - ((to - fr) + 1)) ≤ p → ab_R E_X3_shifts P_X3_shifts Q 146 [some (.inr (.inl (some 0))), some (.inl fr), some (.inl to), some (.inl p), some (.inl a), some (.inl en), some (.inl mn), some (.inl ot), some (.inl ((s_ 0) - ((to - fr) + 1))), none, none] [] (md_cs s_ (z_od, z_nk, z_nl, z_nt, z_ns) g_)) ∧ (p < ((s_ 0) - ((to - fr) + 1)) → ab_cl sp_X3_cuts [.inr (.inl (some 0)), .inl p] (md_cs s_ (z_od, z_nk, z_nl, z_nt, z_ns) g_) (fun r_ k_ => k_.length = ((md_cs s_ (z_od, z_nk, z_nl, z_nt, z_ns) g_)).length → ab_R E_X3_shifts P_X3_shifts Q 146 [some (.inr (.inl (some 0))), some (.inl fr), some (.inl to), some (.inl p), some (.inl a), some (.inl en), some (.inl mn), some (.inl ot), some (.inl ((s_ 0) - ((to - fr) + 1))), none, none] (ab_ret r_ []) k_))))) from ⟨p1, ⟨p2, ⟨fun h1 => (l1 h1), fun h2 => ⟨_, (l2 h2), fun r_ k_ hz _ => by obtain ⟨s_', z_', g_', rfl, rfl, hR⟩ := hz; exact hR⟩⟩⟩⟩)
set_option maxRecDepth 100000 in
theorem b_X3_shifts_146 {Q : ab_Q} {fr : Int} {to : Int} {p : Int} {a : Int} {en : Int} {mn : Int} {ot : Int} {lf : Int} {s_ : Int → Int} {z_od : Int → Int} {z_nk : Int → Int} {z_nl : Int → Int} {z_nt : Int → Int} {z_ns : Int → Int} {g_ : mg_T} (l1 : ¬ p = lf → sp_X3_chunkFrom [.inr (.inl (some 0)), .inl p] (md_cs s_ (z_od, z_nk, z_nl, z_nt, z_ns) g_) (fun r_ k_ => ∃ (x_ : Int), r_ = some (.inl x_) ∧ k_ = (md_cs s_ (z_od, z_nk, z_nl, z_nt, z_ns) g_) ∧ ab_R E_X3_shifts P_X3_shifts Q 173 [some (.inr (.inl (some 0))), some (.inl fr), some (.inl to), some (.inl p), some (.inl a), some (.inl en), some (.inl mn), some (.inl ((s_ 1) - mn)), some (.inl lf), none, none] [.inl x_] (md_cs s_ (z_od, z_nk, z_nl, z_nt, z_ns) g_))) (l2 : p = lf → ab_R E_X3_shifts P_X3_shifts Q 173 [some (.inr (.inl (some 0))), some (.inl fr), some (.inl to), some (.inl p), some (.inl a), some (.inl en), some (.inl mn), some (.inl ((s_ 1) - mn)), some (.inl lf), none, none] [.inl ((s_ 1) - mn)] (md_cs s_ (z_od, z_nk, z_nl, z_nt, z_ns) g_)) (p1 : (0 ≤ (1 : Int) ∧ (1 : Int) < 255) := by intros; (try unfold ab_r); omega) (p2 : (ab_r p ∧ ab_r lf) := by intros; (try unfold ab_r); omega) : ab_R E_X3_shifts P_X3_shifts Q 146 [some (.inr (.inl (some 0))), some (.inl fr), some (.inl to), some (.inl p), some (.inl a), some (.inl en), some (.inl mn), some (.inl ot), some (.inl lf), none, none] [] (md_cs s_ (z_od, z_nk, z_nl, z_nt, z_ns) g_) :=
  ab_R.steps [5, 12, 17, 26, 49, 89, 121, 146, 173, 178, 244] 14 (show ((0 ≤ (1 : Int) ∧ (1 : Int) < 255) ∧ ((ab_r p ∧ ab_r lf) ∧ ((¬ p = lf → ab_cl sp_X3_chunkFrom [.inr (.inl (some 0)), .inl p] (md_cs s_ (z_od, z_nk, z_nl, z_nt, z_ns) g_) (fun r_ k_ => k_.length = ((md_cs s_ (z_od, z_nk, z_nl, z_nt, z_ns) g_)).length → ab_R E_X3_shifts P_X3_shifts Q 173 [some (.inr (.inl (some 0))), some (.inl fr), some (.inl to), some (.inl p), some (.inl a), some (.inl en), some (.inl mn), some (.inl ((s_ 1) - mn)), some (.inl lf), none, none] (ab_ret r_ []) k_)) ∧ (p = lf → ab_R E_X3_shifts P_X3_shifts Q 173 [some (.inr (.inl (some 0))), some (.inl fr), some (.inl to), some (.inl p), some (.inl a), some (.inl en), some (.inl mn), some (.inl ((s_ 1) - mn)), some (.inl lf), none, none] [.inl ((s_ 1) - mn)] (md_cs s_ (z_od, z_nk, z_nl, z_nt, z_ns) g_))))) from ⟨p1, ⟨p2, ⟨fun h1 => ⟨_, (l1 h1), fun r_ k_ hz _ => by obtain ⟨x_, rfl, rfl, hR⟩ := hz; exact hR⟩, fun h2 => (l2 h2)⟩⟩⟩)
set_option maxRecDepth 100000 in
theorem b_X3_shifts_173 {Q : ab_Q} {fr : Int} {to : Int} {p : Int} {a : Int} {en : Int} {mn : Int} {ot : Int} {lf : Int} {t0 : Int} {s_ : Int → Int} {z_od : Int → Int} {z_nk : Int → Int} {z_nl : Int → Int} {z_nt : Int → Int} {z_ns : Int → Int} {g_ : mg_T} (l1 : ab_R E_X3_shifts P_X3_shifts Q 178 [some (.inr (.inl (some 0))), some (.inl fr), some (.inl to), some (.inl p), some (.inl a), some (.inl en), some (.inl mn), some (.inl ot), some (.inl lf), some (.inl t0), some (.inl 0)] [] (md_cs s_ (z_od, z_nk, z_nl, z_nt, z_ns) g_))  : ab_R E_X3_shifts P_X3_shifts Q 173 [some (.inr (.inl (some 0))), some (.inl fr), some (.inl to), some (.inl p), some (.inl a), some (.inl en), some (.inl mn), some (.inl ot), some (.inl lf), none, none] [.inl t0] (md_cs s_ (z_od, z_nk, z_nl, z_nt, z_ns) g_) :=
  ab_R.steps [5, 12, 17, 26, 49, 89, 121, 146, 173, 178, 244] 5 (show ab_R E_X3_shifts P_X3_shifts Q 178 [some (.inr (.inl (some 0))), some (.inl fr), some (.inl to), some (.inl p), some (.inl a), some (.inl en), some (.inl mn), some (.inl ot), some (.inl lf), some (.inl t0), some (.inl 0)] [] (md_cs s_ (z_od, z_nk, z_nl, z_nt, z_ns) g_) from l1)
set_option maxRecDepth 100000 in
theorem b_X3_shifts_178 {Q : ab_Q} {fr : Int} {to : Int} {p : Int} {a : Int} {en : Int} {mn : Int} {ot : Int} {lf : Int} {ah : Int} {v10 : Int} {s_ : Int → Int} {z_od : Int → Int} {z_nk : Int → Int} {z_nl : Int → Int} {z_nt : Int → Int} {z_ns : Int → Int} {g_ : mg_T} (l1 : (s_ 1) ≤ v10 → sp_X3_reorders [.inr (.inl (some 0))] (md_cs s_ (z_od, z_nk, z_nl, z_nt, z_ns) g_) (fun r_ k_ => ∃ (s_' : Int → Int), ∃ (z_' : mc_T), ∃ (g_' : mg_T), r_ = none ∧ k_ = (md_cs (s_') z_' g_') ∧ ab_R E_X3_shifts P_X3_shifts Q 244 [some (.inr (.inl (some 0))), some (.inl fr), some (.inl to), some (.inl p), some (.inl a), some (.inl en), some (.inl mn), some (.inl ot), some (.inl lf), some (.inl ah), some (.inl v10)] [] (md_cs (s_') z_' g_'))) (l2 : v10 < (s_ 1) → ah ≤ v10 → (ah + mn) ≤ v10 → ab_R E_X3_shifts P_X3_shifts Q 178 [some (.inr (.inl (some 0))), some (.inl fr), some (.inl to), some (.inl p), some (.inl a), some (.inl en), some (.inl mn), some (.inl ot), some (.inl lf), some (.inl ah), some (.inl (v10 + 1))] [] (md_cs s_ ((ab_up z_od v10 (v10 - mn)), z_nk, z_nl, z_nt, z_ns) g_)) (l3 : v10 < (s_ 1) → ah ≤ v10 → v10 < (ah + mn) → ab_R E_X3_shifts P_X3_shifts Q 178 [some (.inr (.inl (some 0))), some (.inl fr), some (.inl to), some (.inl p), some (.inl a), some (.inl en), some (.inl mn), some (.inl ot), some (.inl lf), some (.inl ah), some (.inl (v10 + 1))] [] (md_cs s_ ((ab_up z_od v10 ((ot + v10) - ah)), z_nk, z_nl, z_nt, z_ns) g_)) (l4 : v10 < (s_ 1) → v10 < ah → ab_R E_X3_shifts P_X3_shifts Q 178 [some (.inr (.inl (some 0))), some (.inl fr), some (.inl to), some (.inl p), some (.inl a), some (.inl en), some (.inl mn), some (.inl ot), some (.inl lf), some (.inl ah), some (.inl (v10 + 1))] [] (md_cs s_ ((ab_up z_od v10 v10), z_nk, z_nl, z_nt, z_ns) g_)) (p1 : (0 ≤ (1 : Int) ∧ (1 : Int) < 255) := by intros; (try unfold ab_r); omega) (p2 : (ab_r v10 ∧ ab_r (s_ 1)) := by intros; (try unfold ab_r); omega) (p3 : v10 < (s_ 1) → (ab_r v10 ∧ ab_r ah) := by intros; (try unfold ab_r); omega) (p4 : v10 < (s_ 1) → ah ≤ v10 → (ab_r v10 ∧ ab_r (ah + mn)) := by intros; (try unfold ab_r); omega) (p5 : v10 < (s_ 1) → ah ≤ v10 → (ah + mn) ≤ v10 → (0 ≤ v10 ∧ v10 < 64) := by intros; (try unfold ab_r); omega) (p6 : v10 < (s_ 1) → ah ≤ v10 → v10 < (ah + mn) → (0 ≤ v10 ∧ v10 < 64) := by intros; (try unfold ab_r); omega) (p7 : v10 < (s_ 1) → v10 < ah → (0 ≤ v10 ∧ v10 < 64) := by intros; (try unfold ab_r); omega) : ab_R E_X3_shifts P_X3_shifts Q 178 [some (.inr (.inl (some 0))), some (.inl fr), some (.inl to), some (.inl p), some (.inl a), some (.inl en), some (.inl mn), some (.inl ot), some (.inl lf), some (.inl ah), some (.inl v10)] [] (md_cs s_ (z_od, z_nk, z_nl, z_nt, z_ns) g_) :=
  ab_R.steps [5, 12, 17, 26, 49, 89, 121, 146, 173, 178, 244] 28 (show ((0 ≤ (1 : Int) ∧ (1 : Int) < 255) ∧ ((ab_r v10 ∧ ab_r (s_ 1)) ∧ (((s_ 1) ≤ v10 → ab_cl sp_X3_reorders [.inr (.inl (some 0))] (md_cs s_ (z_od, z_nk, z_nl, z_nt, z_ns) g_) (fun r_ k_ => k_.length = ((md_cs s_ (z_od, z_nk, z_nl, z_nt, z_ns) g_)).length → ab_R E_X3_shifts P_X3_shifts Q 244 [some (.inr (.inl (some 0))), some (.inl fr), some (.inl to), some (.inl p), some (.inl a), some (.inl en), some (.inl mn), some (.inl ot), some (.inl lf), some (.inl ah), some (.inl v10)] (ab_ret r_ []) k_)) ∧ (v10 < (s_ 1) → ((ab_r v10 ∧ ab_r ah) ∧ ((ah ≤ v10 → ((ab_r v10 ∧ ab_r (ah + mn)) ∧ (((ah + mn) ≤ v10 → ((0 ≤ v10 ∧ v10 < 64) ∧ ab_R E_X3_shifts P_X3_shifts Q 178 [some (.inr (.inl (some 0))), some (.inl fr), some (.inl to), some (.inl p), some (.inl a), some (.inl en), some (.inl mn), some (.inl ot), some (.inl lf), some (.inl ah), some (.inl (v10 + 1))] [] (md_cs s_ ((ab_up z_od v10 (v10 - mn)), z_nk, z_nl, z_nt, z_ns) g_))) ∧ (v10 < (ah + mn) → ((0 ≤ v10 ∧ v10 < 64) ∧ ab_R E_X3_shifts P_X3_shifts Q 178 [some (.inr (.inl (some 0))), some (.inl fr), some (.inl to), some (.inl p), some (.inl a), some (.inl en), some (.inl mn), some (.inl ot), some (.inl lf), some (.inl ah), some (.inl (v10 + 1))] [] (md_cs s_ ((ab_up z_od v10 ((ot + v10) - ah)), z_nk, z_nl, z_nt, z_ns) g_)))))) ∧ (v10 < ah → ((0 ≤ v10 ∧ v10 < 64) ∧ ab_R E_X3_shifts P_X3_shifts Q 178 [some (.inr (.inl (some 0))), some (.inl fr), some (.inl to), some (.inl p), some (.inl a), some (.inl en), some (.inl mn), some (.inl ot), some (.inl lf), some (.inl ah), some (.inl (v10 + 1))] [] (md_cs s_ ((ab_up z_od v10 v10), z_nk, z_nl, z_nt, z_ns) g_))))))))) from ⟨p1, ⟨p2, ⟨fun h1 => ⟨_, (l1 h1), fun r_ k_ hz _ => by obtain ⟨s_', z_', g_', rfl, rfl, hR⟩ := hz; exact hR⟩, fun h2 => ⟨(p3 h2), ⟨fun h3 => ⟨(p4 h2 h3), ⟨fun h4 => ⟨(p5 h2 h3 h4), (l2 h2 h3 h4)⟩, fun h5 => ⟨(p6 h2 h3 h5), (l3 h2 h3 h5)⟩⟩⟩, fun h6 => ⟨(p7 h2 h6), (l4 h2 h6)⟩⟩⟩⟩⟩⟩)
set_option maxRecDepth 100000 in
theorem b_X3_shifts_244 {Q : ab_Q} {fr : Int} {to : Int} {p : Int} {a : Int} {en : Int} {mn : Int} {ot : Int} {lf : Int} {ah : Int} {v10 : Int} {s_ : Int → Int} {z_od : Int → Int} {z_nk : Int → Int} {z_nl : Int → Int} {z_nt : Int → Int} {z_ns : Int → Int} {g_ : mg_T} (l1 : Q none (md_cs s_ (z_od, z_nk, z_nl, z_nt, z_ns) g_))  : ab_R E_X3_shifts P_X3_shifts Q 244 [some (.inr (.inl (some 0))), some (.inl fr), some (.inl to), some (.inl p), some (.inl a), some (.inl en), some (.inl mn), some (.inl ot), some (.inl lf), some (.inl ah), some (.inl v10)] [] (md_cs s_ (z_od, z_nk, z_nl, z_nt, z_ns) g_) :=
  ab_R.steps [5, 12, 17, 26, 49, 89, 121, 146, 173, 178, 244] 2 (show Q none (md_cs s_ (z_od, z_nk, z_nl, z_nt, z_ns) g_) from l1)
theorem vc_X3_shifts {av : List ab_V} {cs : List ab_C} {Q : ab_Q} (h : sp_X3_shifts av cs Q) : (ab_lv0 av).length ≤ 11 ∧ ab_R E_X3_shifts P_X3_shifts Q 0 (ab_ent av 11) [] cs := by
  obtain ⟨s, ⟨od, nk, nl, nt, ns⟩, g, q, f, n, d, x, y, p, rfl, rfl, hR, hW, hx, hy, hfn, hp, hd, hn, hQ⟩ := h
  refine ⟨Nat.le_of_ble_eq_true rfl, ?_⟩
  obtain ⟨A, M, B, w1, w2, t1, t2, t3, t4, t5, t6, t7, t8, t9⟩ := mq_two hW hfn
  obtain ⟨C, D, w3, hcd⟩ : ∃ C D w3, mq_cut (A ++ B) d = (C, D, w3) := ⟨_, _, _, rfl⟩
  have hpq : mq_mov q f n d = (C ++ (M ++ D), w1 + w2 + w3) := by unfold mq_mov; rw [t1]; dsimp only; rw [hcd]
  rw [hpq] at hQ
  dsimp only at hQ
  have hfl := hW.2
  have hcl := t6.chunks
  have oAB : ∀ k ∈ A ++ B, mq_ok k := fun k hk => t6.1 k (by rcases List.mem_append.mp hk with hk | hk <;> simp [hk])
  have lAB : (mq_flat (A ++ B)).length = (mq_flat q).length - n := by rw [mq_flat_app, List.length_append]; omega
  obtain ⟨yc1, yc2⟩ := mq_cut_len (q := A ++ B) (d := d) (by omega)
  obtain ⟨oc1, oc2⟩ := mq_cut_ok (d := d) oAB
  rw [hcd] at yc1 yc2 oc1 oc2
  dsimp only at yc1 yc2 oc1 oc2
  have oM : ∀ k ∈ M, mq_ok k := fun k hk => t6.1 k (by simp [hk])
  have hWABM : mq_W (A ++ (B ++ M)) := mq_W_perm t6 (fun k hk => by simp only [List.mem_append] at hk ⊢; rcases hk with h | h | h <;> simp [h]) (by simp only [mq_flat_app, List.length_append]; omega)
  have hWCDM : mq_W (C ++ (D ++ M)) := ⟨fun k hk => by
    rcases List.mem_append.mp hk with h | h
    · exact oc1 k h
    · rcases List.mem_append.mp h with h | h
      · exact oc2 k h
      · exact oM k h, by simp only [mq_flat_app, List.length_append]; omega⟩
  have hWCMD : mq_W (C ++ (M ++ D)) := mq_W_perm hWCDM (fun k hk => by simp only [List.mem_append] at hk ⊢; rcases hk with h | h | h <;> simp [h]) (by simp only [mq_flat_app, List.length_append]; omega)
  have hcl4 := hWCDM.chunks
  refine b_X3_shifts_0 ⟨_, _, _, q, f, _, rfl, rfl, hR, hW, hx, by omega, fun s1 z1 hr1 hw1 => ⟨_, z1, g, rfl, rfl, ?_⟩⟩
  obtain ⟨od1, nk1, nl1, nt1, ns1⟩ := z1
  refine b_X3_shifts_5 ⟨_, _, _, _, f + n, _, rfl, rfl, hr1, t3, by omega, by omega, fun s2 z2 hr2 hw2 => ⟨_, z2, g, rfl, rfl, ?_⟩⟩
  obtain ⟨od2, nk2, nl2, nt2, ns2⟩ := z2
  rw [t5] at hr2 hw2
  rw [t2] at hw1
  dsimp only at hr2 hw2
  have hr2' : mq_R (md_v s2) (A ++ (M ++ B)) := by simpa using hr2
  have t6' : mq_W ((A ++ M) ++ B) := by simpa using t6
  refine b_X3_shifts_12 ⟨_, _, _, A, M ++ B, _, rfl, rfl, hr2', t6, by omega, _, rfl, rfl, ?_⟩
  refine b_X3_shifts_17 ⟨_, _, _, A ++ M, B, _, rfl, rfl, hr2, t6', by rw [mq_flat_app, List.length_append]; omega, _, rfl, rfl, ?_⟩
  refine b_X3_shifts_26 ?_
  have c2 : s2 1 = ((A ++ (M ++ B)).length : Nat) := hr2'.2.2.2.2.2
  simp only [List.length_append] at c2 hcl hcl4 ⊢
  generalize ha : (A.length : Int) = a
  generalize hb : ((A.length + M.length : Nat) : Int) = b
  rw [show s2 1 - (b - a) = ((A.length + B.length : Nat) : Int) by omega, show b - a = (M.length : Int) by omega]
  generalize hmn : (M.length : Int) = mn
  generalize hot : ((A.length + B.length : Nat) : Int) = ot
  -- the last order: the span goes behind what is ahead
  have fifth : ∀ (s5 : Int → Int) (nk nl nt ns : Int → Int) (lf ot5 ah : Int), mq_R (md_v s5) (C ++ (D ++ M)) → s5 2 = s2 2 + w3 → ah = C.length → ot5 = C.length + D.length → ∀ (m : Nat) (c : Int) (od3 : Int → Int), c + m = s5 1 → 0 ≤ c → (∀ i : Int, 0 ≤ i → i < c → od3 i = if i < ah then i else if i < ah + mn then ot5 + i - ah else i - mn) →
      ab_R E_X3_shifts P_X3_shifts Q 178 [some (.inr (.inl (some 0))), some (.inl x), some (.inl y), some (.inl p), some (.inl a), some (.inl b), some (.inl mn), some (.inl ot5), some (.inl lf), some (.inl ah), some (.inl c)] [] (md_cs s5 (od3, nk, nl, nt, ns) g) := by
    intro s5 nk nl nt ns lf ot5 ah hr5 hw5 hah hot5 m
    have c5 : s5 1 = ((C ++ (D ++ M)).length : Nat) := hr5.2.2.2.2.2
    simp only [List.length_append] at c5
    induction m with
    | zero =>
      intro c od3 g1 g2 g3
      refine b_X3_shifts_178 (fun _ => ⟨s5, od3, _, _, _, _, _, C ++ (D ++ M), C ++ (M ++ D), rfl, rfl, hr5, hWCDM, by simp; omega, by simp only [mq_flat_app, List.length_append]; omega, fun i hi => ?_, fun s6 z6 hr6 hw6 => ⟨s6, z6, g, rfl, rfl, ?_⟩⟩) (fun _ _ _ => by omega) (fun _ _ _ => by omega) (fun _ _ => by omega)
      · simp only [List.length_append] at hi
        by_cases y1 : i < C.length
        · refine ⟨i, ?_, by simp only [List.length_append]; omega, ?_⟩
          · rw [g3 i (by omega) (by omega), if_pos (by omega)]
          · rw [List.getElem?_append_left y1, List.getElem?_append_left y1]
        · by_cases y2 : i < C.length + M.length
          · refine ⟨D.length + i, ?_, by simp only [List.length_append]; omega, ?_⟩
            · rw [g3 i (by omega) (by omega), if_neg (by omega), if_pos (by omega)]; omega
            · rw [List.getElem?_append_right (by omega), List.getElem?_append_left (by omega), List.getElem?_append_right (by omega), List.getElem?_append_right (by omega)]
              congr 1; omega
          · refine ⟨i - M.length, ?_, by simp only [List.length_append]; omega, ?_⟩
            · rw [g3 i (by omega) (by omega), if_neg (by omega), if_neg (by omega)]; omega
            · rw [List.getElem?_append_right (by omega), List.getElem?_append_right (by omega), List.getElem?_append_right (by omega), List.getElem?_append_left (by omega)]
              congr 1; omega
      · obtain ⟨od6, nk6, nl6, nt6, ns6⟩ := z6
        exact b_X3_shifts_244 (hQ s6 _ hr6 (by omega))
    | succ m ih =>
      intro c od3 g1 g2 g3
      refine b_X3_shifts_178 (fun _ => by omega) (fun _ _ _ => ih _ _ (by omega) (by omega) (fun i i1 i2 => ?_)) (fun _ _ _ => ih _ _ (by omega) (by omega) (fun i i1 i2 => ?_)) (fun _ _ => ih _ _ (by omega) (by omega) (fun i i1 i2 => ?_))
      · by_cases y1 : i = c
        · rw [ab_up_eq y1, if_neg (by omega), if_neg (by omega), y1]
        · rw [ab_up_ne y1]; exact g3 i i1 (by omega)
      · by_cases y1 : i = c
        · rw [ab_up_eq y1, if_neg (by omega), if_pos (by omega), y1]
        · rw [ab_up_ne y1]; exact g3 i i1 (by omega)
      · by_cases y1 : i = c
        · rw [ab_up_eq y1, if_pos (by omega), y1]
        · rw [ab_up_ne y1]; exact g3 i i1 (by omega)
  have fourth : ∀ (s3 : Int → Int) (z3 : mc_T) (lf : Int), mq_R (md_v s3) (A ++ (B ++ M)) → s3 2 = s2 2 → ab_R E_X3_shifts P_X3_shifts Q 121 [some (.inr (.inl (some 0))), some (.inl x), some (.inl y), some (.inl p), some (.inl a), some (.inl b), some (.inl mn), some (.inl ot), some (.inl lf), none, none] [] (md_cs s3 z3 g) := by
    intro s3 z3 lf hr3 hw3
    obtain ⟨od3, nk3, nl3, nt3, ns3⟩ := z3
    have n3 : s3 0 = ((mq_flat (A ++ (B ++ M))).length : Nat) := hr3.2.2.2.2.1
    have c3 : s3 1 = ((A ++ (B ++ M)).length : Nat) := hr3.2.2.2.2.2
    simp only [List.length_append, mq_flat_app] at n3 c3
    have hlf : s3 0 - (y - x + 1) = (((mq_flat q).length - n : Nat) : Int) := by omega
    refine b_X3_shifts_121 (fun hc => ?_) (fun hc => ?_)
    · -- the place is behind all the others
      have hde : d = (mq_flat (A ++ B)).length := by omega
      have hce := mq_cut_end oAB
      rw [← hde, hcd] at hce
      obtain ⟨rfl, rfl, rfl⟩ : C = A ++ B ∧ D = [] ∧ w3 = 0 := by
        injection hce with e1 e2
        injection e2 with e2 e3
        exact ⟨e1, e2, e3⟩
      refine b_X3_shifts_146 (fun hc2 => by omega) (fun hc2 => ?_)
      refine b_X3_shifts_173 (fifth s3 _ _ _ _ _ _ _ (by simpa using hr3) (by omega) (by rw [List.length_append]; omega) (by rw [List.length_append, List.length_nil]; omega) (s3 1).toNat 0 _ (by omega) (by omega) (fun i i1 i2 => by omega))
    · have hr3' : mq_R (md_v s3) ((A ++ B) ++ M) := by simpa using hr3
      have hW3' : mq_W ((A ++ B) ++ M) := by simpa using hWABM
      have hcl3 := mq_cut_left (C := M) (d := d) oAB (by omega)
      rw [hcd] at hcl3
      dsimp only at hcl3
      refine ⟨_, _, _, (A ++ B) ++ M, d, _, rfl, rfl, hr3', hW3', hp, by rw [mq_flat_app, List.length_append]; omega, fun s4 z4 hr4 hw4 => ⟨s4, z4, g, rfl, rfl, ?_⟩⟩
      rw [hcl3] at hr4 hw4
      dsimp only at hr4 hw4
      obtain ⟨od4, nk4, nl4, nt4, ns4⟩ := z4
      have c4 : s4 1 = ((C ++ (D ++ M)).length : Nat) := hr4.2.2.2.2.2
      simp only [List.length_append] at c4
      refine b_X3_shifts_146 (fun hc2 => ?_) (fun hc2 => by omega)
      refine ⟨_, _, _, C, D ++ M, _, rfl, rfl, hr4, hWCDM, by omega, _, rfl, rfl, ?_⟩
      exact b_X3_shifts_173 (fifth s4 _ _ _ _ _ _ _ hr4 (by omega) rfl (by omega) (s4 1).toNat 0 _ (by omega) (by omega) (fun i i1 i2 => by omega))
  have third : ∀ (m : Nat) (c : Int) (od3 : Int → Int), c + m = mn → 0 ≤ c → (∀ i : Int, 0 ≤ i → i < ot + c → od3 i = if i < a then i else if i < ot then i + mn else a + (i - ot)) →
      ab_R E_X3_shifts P_X3_shifts Q 89 [some (.inr (.inl (some 0))), some (.inl x), some (.inl y), some (.inl p), some (.inl a), some (.inl b), some (.inl mn), some (.inl ot), some (.inl c), none, none] [] (md_cs s2 (od3, nk2, nl2, nt2, ns2) g) := by
    intro m
    induction m with
    | zero =>
      intro c od3 g1 g2 g3
      refine b_X3_shifts_89 (fun _ => ⟨s2, od3, _, _, _, _, _, A ++ (M ++ B), A ++ (B ++ M), rfl, rfl, hr2', t6, by simp; omega, by simp only [mq_flat_app, List.length_append]; omega, fun i hi => ?_, fun s3 z3 hr3 hw3 => ⟨s3, z3, g, rfl, rfl, ?_⟩⟩) (fun _ => by omega)
      · simp only [List.length_append] at hi
        by_cases y1 : i < A.length
        · refine ⟨i, ?_, by simp only [List.length_append]; omega, ?_⟩
          · rw [g3 i (by omega) (by omega), if_pos (by omega)]
          · rw [List.getElem?_append_left y1, List.getElem?_append_left y1]
        · by_cases y2 : i < A.length + B.length
          · refine ⟨M.length + i, ?_, by simp only [List.length_append]; omega, ?_⟩
            · rw [g3 i (by omega) (by omega), if_neg (by omega), if_pos (by omega)]; omega
            · rw [List.getElem?_append_right (by omega), List.getElem?_append_left (by omega), List.getElem?_append_right (by omega), List.getElem?_append_right (by omega)]
              congr 1; omega
          · refine ⟨i - B.length, ?_, by simp only [List.length_append]; omega, ?_⟩
            · rw [g3 i (by omega) (by omega), if_neg (by omega), if_neg (by omega)]; omega
            · rw [List.getElem?_append_right (by omega), List.getElem?_append_right (by omega), List.getElem?_append_right (by omega), List.getElem?_append_left (by omega)]
              congr 1; omega
      · obtain ⟨od4, nk4, nl4, nt4, ns4⟩ := z3
        exact fourth s3 _ c hr3 hw3
    | succ m ih =>
      intro c od3 g1 g2 g3
      refine b_X3_shifts_89 (fun _ => by omega) (fun _ => ih _ _ (by omega) (by omega) (fun i i1 i2 => ?_))
      by_cases y1 : i = ot + c
      · rw [ab_up_eq y1, if_neg (by omega), if_neg (by omega)]; omega
      · rw [ab_up_ne y1]; exact g3 i i1 (by omega)
  have first : ∀ (m : Nat) (c : Int) (od3 : Int → Int), c + m = ot → 0 ≤ c → (∀ i : Int, 0 ≤ i → i < c → od3 i = if i < a then i else i + mn) →
      ab_R E_X3_shifts P_X3_shifts Q 49 [some (.inr (.inl (some 0))), some (.inl x), some (.inl y), some (.inl p), some (.inl a), some (.inl b), some (.inl mn), some (.inl ot), some (.inl c), none, none] [] (md_cs s2 (od3, nk2, nl2, nt2, ns2) g) := by
    intro m
    induction m with
    | zero =>
      intro c od3 g1 g2 g3
      refine b_X3_shifts_49 (fun _ => third M.length 0 od3 (by omega) (by omega) (fun i i1 i2 => ?_)) (fun _ _ => by omega) (fun _ _ => by omega)
      rw [g3 i i1 (by omega)]
      by_cases y1 : i < a
      · rw [if_pos y1, if_pos y1]
      · rw [if_neg y1, if_neg y1, if_pos (by omega)]
    | succ m ih =>
      intro c od3 g1 g2 g3
      refine b_X3_shifts_49 (fun _ => by omega) (fun _ _ => ih _ _ (by omega) (by omega) (fun i i1 i2 => ?_)) (fun _ _ => ih _ _ (by omega) (by omega) (fun i i1 i2 => ?_))
      · by_cases y1 : i = c
        · rw [ab_up_eq y1, if_neg (by omega), y1]
        · rw [ab_up_ne y1]; exact g3 i i1 (by omega)
      · by_cases y1 : i = c
        · rw [ab_up_eq y1, if_pos (by omega), y1]
        · rw [ab_up_ne y1]; exact g3 i i1 (by omega)
  exact first (A.length + B.length) 0 od2 (by omega) (by omega) (fun i i1 i2 => by omega)
theorem mt_X3_shifts (l : Launch) : ab_MT l mi_X3_shifts sp_X3_shifts := ab_MT.of (own := "RootChunksModel") (E := E_X3_shifts) (P := P_X3_shifts) (M := M_X3_shifts) (nL := 11) (ty := 9) (by decide) rfl rfl tk_X3 pk_X3_shifts ck_X3_shifts (ab_CT'.cons (mt_X3_cuts l) (ab_CT'.cons (mt_X3_cuts l) (ab_CT'.cons (mt_X3_chunkFrom l) (ab_CT'.cons (mt_X3_chunkFrom l) (ab_CT'.cons (mt_X3_reorders l) (ab_CT'.cons (mt_X3_cuts l) (ab_CT'.cons (mt_X3_chunkFrom l) (ab_CT'.cons (mt_X3_reorders l) ab_CT'.nil)))))))) (fun av cs Q h => vc_X3_shifts h)
end
section
/-! THE REFERENCE'S ERRORS -/
def sp_X3_in : ab_Sp := fun av cs Q => ∃ (v a b : Int), av = [.inl v, .inl a, .inl b] ∧ ab_r v ∧ ab_r a ∧ ab_r b ∧ Q (some (.inl (if a ≤ v ∧ v ≤ b then 1 else 0))) cs
def sp_X3_isValue : ab_Sp := fun av cs Q => ∃ (v : Int), av = [.inl v] ∧ ab_r v ∧ Q (some (.inl (if mq_vl v then 1 else 0))) cs
def sp_X3_isPlace : ab_Sp := fun av cs Q => ∃ (s : Int → Int) (z : mc_T) (g : mg_T) (q : List mq_K) (p : Int), av = [.inr (.inl (some 0)), .inl p] ∧ cs = md_cs s z g ∧ mq_R (md_v s) q ∧ mq_W q ∧ ab_r p ∧ Q (some (.inl (if mq_pl q p then 1 else 0))) (md_cs s z g)
def sp_X3_refusesSpan : ab_Sp := fun av cs Q => ∃ (s : Int → Int) (z : mc_T) (g : mg_T) (q : List mq_K) (a b : Int), av = [.inr (.inl (some 0)), .inl a, .inl b] ∧ cs = md_cs s z g ∧ mq_R (md_v s) q ∧ mq_W q ∧ ab_r a ∧ ab_r b ∧ Q (some (.inl (mq_eSpan q a b))) (md_cs s z g)
def sp_X3_refusesPut : ab_Sp := fun av cs Q => ∃ (s : Int → Int) (z : mc_T) (g : mg_T) (q : List mq_K) (p v : Int), av = [.inr (.inl (some 0)), .inl p, .inl v] ∧ cs = md_cs s z g ∧ mq_R (md_v s) q ∧ mq_W q ∧ ab_r p ∧ ab_r v ∧ Q (some (.inl (mq_ePut q p v))) (md_cs s z g)
def sp_X3_refusesSet : ab_Sp := fun av cs Q => ∃ (s : Int → Int) (z : mc_T) (g : mg_T) (q : List mq_K) (p v : Int), av = [.inr (.inl (some 0)), .inl p, .inl v] ∧ cs = md_cs s z g ∧ mq_R (md_v s) q ∧ mq_W q ∧ ab_r p ∧ ab_r v ∧ Q (some (.inl (mq_eSet q p v))) (md_cs s z g)
def sp_X3_refusesBy : ab_Sp := fun av cs Q => ∃ (s : Int → Int) (z : mc_T) (g : mg_T) (q : List mq_K) (a b v : Int), av = [.inr (.inl (some 0)), .inl a, .inl b, .inl v] ∧ cs = md_cs s z g ∧ mq_R (md_v s) q ∧ mq_W q ∧ ab_r a ∧ ab_r b ∧ ab_r v ∧ Q (some (.inl (mq_eBy q a b v))) (md_cs s z g)
def sp_X3_refusesAdd : ab_Sp := fun av cs Q => ∃ (s : Int → Int) (z : mc_T) (g : mg_T) (q : List mq_K) (a b v : Int), av = [.inr (.inl (some 0)), .inl a, .inl b, .inl v] ∧ cs = md_cs s z g ∧ mq_R (md_v s) q ∧ mq_W q ∧ ab_r a ∧ ab_r b ∧ ab_r v ∧ Q (some (.inl (mq_eAdd q a b v))) (md_cs s z g)
def sp_X3_refusesMove : ab_Sp := fun av cs Q => ∃ (s : Int → Int) (z : mc_T) (g : mg_T) (q : List mq_K) (a b p : Int), av = [.inr (.inl (some 0)), .inl a, .inl b, .inl p] ∧ cs = md_cs s z g ∧ mq_R (md_v s) q ∧ mq_W q ∧ ab_r a ∧ ab_r b ∧ ab_r p ∧ Q (some (.inl (mq_eMove q a b p))) (md_cs s z g)
-- ===== RootChunksModel.in
def P_X3_in : List ab_I := [(0, .iload_n 0, 1, []), (1, .iload_n 1, 2, []), (2, .if_icmp .lt 12, 5, [((0 : Int), 14)]), (5, .iload_n 0, 6, []), (6, .iload_n 2, 7, []), (7, .if_icmp .gt 7, 10, [((0 : Int), 14)]), (10, .iconst 1, 11, []), (11, .goto 4, 14, [((0 : Int), 15)]), (14, .iconst 0, 15, []), (15, .ireturn, 16, [])]
def E_X3_in : ab_E := (T_X3, [], [], 2)
def M_X3_in : List (Nat × ab_MI) := []
def mi_X3_in : ab_MI := (yX3_in, cX3_in, 3, ab_rty 2, 1, 70)
theorem pk_X3_in : P_X3_in.all (ab_okI cX3_in) = true := by decide +kernel
theorem ck_X3_in : P_X3_in.all (ab_okC1 "RootChunksModel" M_X3_in E_X3_in (1, 70)) = true := by decide +kernel
set_option maxRecDepth 100000 in
theorem b_X3_in_0 {Q : ab_Q} {v : Int} {a : Int} {b : Int} {cs : List ab_C} (l1 : v < a → Q (some (.inl 0)) cs) (l2 : a ≤ v → b < v → Q (some (.inl 0)) cs) (l3 : a ≤ v → v ≤ b → Q (some (.inl 1)) cs) (p1 : (ab_r v ∧ ab_r a) := by intros; (try unfold ab_r); omega) (p2 : v < a → ((0 : Int) = 0 ∨ (0 : Int) = 1) := by intros; (try unfold ab_r); omega) (p3 : a ≤ v → (ab_r v ∧ ab_r b) := by intros; (try unfold ab_r); omega) (p4 : a ≤ v → b < v → ((0 : Int) = 0 ∨ (0 : Int) = 1) := by intros; (try unfold ab_r); omega) (p5 : a ≤ v → v ≤ b → ((1 : Int) = 0 ∨ (1 : Int) = 1) := by intros; (try unfold ab_r); omega) : ab_R E_X3_in P_X3_in Q 0 [some (.inl v), some (.inl a), some (.inl b)] [] cs :=
  ab_R.steps [] 10 (show ((ab_r v ∧ ab_r a) ∧ ((v < a → (((0 : Int) = 0 ∨ (0 : Int) = 1) ∧ Q (some (.inl 0)) cs)) ∧ (a ≤ v → ((ab_r v ∧ ab_r b) ∧ ((b < v → (((0 : Int) = 0 ∨ (0 : Int) = 1) ∧ Q (some (.inl 0)) cs)) ∧ (v ≤ b → (((1 : Int) = 0 ∨ (1 : Int) = 1) ∧ Q (some (.inl 1)) cs))))))) from ⟨p1, ⟨fun h1 => ⟨(p2 h1), (l1 h1)⟩, fun h2 => ⟨(p3 h2), ⟨fun h3 => ⟨(p4 h2 h3), (l2 h2 h3)⟩, fun h4 => ⟨(p5 h2 h4), (l3 h2 h4)⟩⟩⟩⟩⟩)
-- ===== RootChunksModel.isValue
def P_X3_isValue : List ab_I := [(0, .iload_n 0, 1, []), (1, .sipush (-999), 4, []), (4, .sipush 999, 7, []), (7, .invokestatic 91, 10, []), (10, .ireturn, 11, [])]
def E_X3_isValue : ab_E := (T_X3, [(7, (3, 99, [], 0, sp_X3_in))], [], 2)
def M_X3_isValue : List (Nat × ab_MI) := [(7, mi_X3_in)]
def mi_X3_isValue : ab_MI := (yX3_isValue, cX3_isValue, 1, ab_rty 2, 2, 92)
theorem pk_X3_isValue : P_X3_isValue.all (ab_okI cX3_isValue) = true := by decide +kernel
theorem ck_X3_isValue : P_X3_isValue.all (ab_okC1 "RootChunksModel" M_X3_isValue E_X3_isValue (2, 92)) = true := by decide +kernel
set_option maxRecDepth 100000 in
theorem b_X3_isValue_0 {Q : ab_Q} {v : Int} {cs : List ab_C} (l1 : sp_X3_in [.inl v, .inl (-999), .inl 999] cs (fun r_ k_ => ∃ (x_ : Int), r_ = some (.inl x_) ∧ k_ = cs ∧ ab_R E_X3_isValue P_X3_isValue Q 10 [some (.inl v)] [.inl x_] cs))  : ab_R E_X3_isValue P_X3_isValue Q 0 [some (.inl v)] [] cs :=
  ab_R.steps [10] 5 (show ab_cl sp_X3_in [.inl v, .inl (-999), .inl 999] cs (fun r_ k_ => k_.length = (cs).length → ab_R E_X3_isValue P_X3_isValue Q 10 [some (.inl v)] (ab_ret r_ []) k_) from ⟨_, l1, fun r_ k_ hz _ => by obtain ⟨x_, rfl, rfl, hR⟩ := hz; exact hR⟩)
set_option maxRecDepth 100000 in
theorem b_X3_isValue_10 {Q : ab_Q} {v : Int} {t0 : Int} {cs : List ab_C} (l1 : Q (some (.inl t0)) cs) (p1 : (t0 = 0 ∨ t0 = 1) := by intros; (try unfold ab_r); omega) : ab_R E_X3_isValue P_X3_isValue Q 10 [some (.inl v)] [.inl t0] cs :=
  ab_R.steps [10] 2 (show ((t0 = 0 ∨ t0 = 1) ∧ Q (some (.inl t0)) cs) from ⟨p1, l1⟩)
-- ===== RootChunksModel.isPlace
def P_X3_isPlace : List ab_I := [(0, .iload_n 1, 1, []), (1, .iconst 0, 2, []), (2, .aload_n 0, 3, []), (3, .getfield 7, 6, []), (6, .iconst 0, 7, []), (7, .iaload, 8, []), (8, .iconst 1, 9, []), (9, .isub, 10, []), (10, .invokestatic 91, 13, []), (13, .ireturn, 14, [])]
def E_X3_isPlace : ab_E := (T_X3, [(10, (3, 99, [], 0, sp_X3_in))], [], 2)
def M_X3_isPlace : List (Nat × ab_MI) := [(10, mi_X3_in)]
def mi_X3_isPlace : ab_MI := (yX3_isPlace, cX3_isPlace, 2, ab_rty 2, 2, 92)
theorem pk_X3_isPlace : P_X3_isPlace.all (ab_okI cX3_isPlace) = true := by decide +kernel
theorem ck_X3_isPlace : P_X3_isPlace.all (ab_okC1 "RootChunksModel" M_X3_isPlace E_X3_isPlace (2, 92)) = true := by decide +kernel
set_option maxRecDepth 100000 in
theorem b_X3_isPlace_0 {Q : ab_Q} {p : Int} {s_ : Int → Int} {z_ : mc_T} {g_ : mg_T} (l1 : sp_X3_in [.inl p, .inl 0, .inl ((s_ 0) - 1)] (md_cs s_ z_ g_) (fun r_ k_ => ∃ (x_ : Int), r_ = some (.inl x_) ∧ k_ = (md_cs s_ z_ g_) ∧ ab_R E_X3_isPlace P_X3_isPlace Q 13 [some (.inr (.inl (some 0))), some (.inl p)] [.inl x_] (md_cs s_ z_ g_))) (p1 : (0 ≤ (0 : Int) ∧ (0 : Int) < 255) := by intros; (try unfold ab_r); omega) : ab_R E_X3_isPlace P_X3_isPlace Q 0 [some (.inr (.inl (some 0))), some (.inl p)] [] (md_cs s_ z_ g_) :=
  ab_R.steps [13] 10 (show ((0 ≤ (0 : Int) ∧ (0 : Int) < 255) ∧ ab_cl sp_X3_in [.inl p, .inl 0, .inl ((s_ 0) - 1)] (md_cs s_ z_ g_) (fun r_ k_ => k_.length = ((md_cs s_ z_ g_)).length → ab_R E_X3_isPlace P_X3_isPlace Q 13 [some (.inr (.inl (some 0))), some (.inl p)] (ab_ret r_ []) k_)) from ⟨p1, ⟨_, l1, fun r_ k_ hz _ => by obtain ⟨x_, rfl, rfl, hR⟩ := hz; exact hR⟩⟩)
set_option maxRecDepth 100000 in
theorem b_X3_isPlace_13 {Q : ab_Q} {p : Int} {t0 : Int} {s_ : Int → Int} {z_ : mc_T} {g_ : mg_T} (l1 : Q (some (.inl t0)) (md_cs s_ z_ g_)) (p1 : (t0 = 0 ∨ t0 = 1) := by intros; (try unfold ab_r); omega) : ab_R E_X3_isPlace P_X3_isPlace Q 13 [some (.inr (.inl (some 0))), some (.inl p)] [.inl t0] (md_cs s_ z_ g_) :=
  ab_R.steps [13] 2 (show ((t0 = 0 ∨ t0 = 1) ∧ Q (some (.inl t0)) (md_cs s_ z_ g_)) from ⟨p1, l1⟩)
-- ===== RootChunksModel.refusesSpan
def P_X3_refusesSpan : List ab_I := [(0, .aload_n 0, 1, []), (1, .iload_n 1, 2, []), (2, .invokevirtual 95, 5, []), (5, .ifCond .eq 11, 8, [((0 : Int), 16)]), (8, .aload_n 0, 9, []), (9, .iload_n 2, 10, []), (10, .invokevirtual 95, 13, []), (13, .ifCond .ne 5, 16, [((0 : Int), 18)]), (16, .iconst (-1), 17, []), (17, .ireturn, 18, []), (18, .iload_n 2, 19, []), (19, .iload_n 1, 20, []), (20, .if_icmp .ge 8, 23, [((0 : Int), 28)]), (23, .bipush (-2), 25, []), (25, .goto 4, 28, [((0 : Int), 29)]), (28, .iconst 0, 29, []), (29, .ireturn, 30, [])]
def E_X3_refusesSpan : ab_E := (T_X3, [(2, (2, 3, [], 0, sp_X3_isPlace)), (10, (2, 3, [], 0, sp_X3_isPlace))], [], 0)
def M_X3_refusesSpan : List (Nat × ab_MI) := [(2, mi_X3_isPlace), (10, mi_X3_isPlace)]
def mi_X3_refusesSpan : ab_MI := (yX3_refusesSpan, cX3_refusesSpan, 3, ab_rty 0, 3, 113)
theorem pk_X3_refusesSpan : P_X3_refusesSpan.all (ab_okI cX3_refusesSpan) = true := by decide +kernel
theorem ck_X3_refusesSpan : P_X3_refusesSpan.all (ab_okC1 "RootChunksModel" M_X3_refusesSpan E_X3_refusesSpan (3, 113)) = true := by decide +kernel
set_option maxRecDepth 100000 in
theorem b_X3_refusesSpan_0 {Q : ab_Q} {a : Int} {b : Int} {s_ : Int → Int} {z_ : mc_T} {g_ : mg_T} (l1 : sp_X3_isPlace [.inr (.inl (some 0)), .inl a] (md_cs s_ z_ g_) (fun r_ k_ => ∃ (x_ : Int), r_ = some (.inl x_) ∧ k_ = (md_cs s_ z_ g_) ∧ ab_R E_X3_refusesSpan P_X3_refusesSpan Q 5 [some (.inr (.inl (some 0))), some (.inl a), some (.inl b)] [.inl x_] (md_cs s_ z_ g_)))  : ab_R E_X3_refusesSpan P_X3_refusesSpan Q 0 [some (.inr (.inl (some 0))), some (.inl a), some (.inl b)] [] (md_cs s_ z_ g_) :=
  ab_R.steps [5, 13] 4 (show ab_cl sp_X3_isPlace [.inr (.inl (some 0)), .inl a] (md_cs s_ z_ g_) (fun r_ k_ => k_.length = ((md_cs s_ z_ g_)).length → ab_R E_X3_refusesSpan P_X3_refusesSpan Q 5 [some (.inr (.inl (some 0))), some (.inl a), some (.inl b)] (ab_ret r_ []) k_) from ⟨_, l1, fun r_ k_ hz _ => by obtain ⟨x_, rfl, rfl, hR⟩ := hz; exact hR⟩)
set_option maxRecDepth 100000 in
theorem b_X3_refusesSpan_5 {Q : ab_Q} {a : Int} {b : Int} {t0 : Int} {s_ : Int → Int} {z_ : mc_T} {g_ : mg_T} (l1 : t0 = (0 : Int) → Q (some (.inl (-1))) (md_cs s_ z_ g_)) (l2 : ¬ t0 = (0 : Int) → sp_X3_isPlace [.inr (.inl (some 0)), .inl b] (md_cs s_ z_ g_) (fun r_ k_ => ∃ (x_ : Int), r_ = some (.inl x_) ∧ k_ = (md_cs s_ z_ g_) ∧ ab_R E_X3_refusesSpan P_X3_refusesSpan Q 13 [some (.inr (.inl (some 0))), some (.inl a), some (.inl b)] [.inl x_] (md_cs s_ z_ g_))) (p1 : ab_r t0 := by intros; (try unfold ab_r); omega) : ab_R E_X3_refusesSpan P_X3_refusesSpan Q 5 [some (.inr (.inl (some 0))), some (.inl a), some (.inl b)] [.inl t0] (md_cs s_ z_ g_) :=
  ab_R.steps [5, 13] 5 (show (ab_r t0 ∧ ((t0 = (0 : Int) → Q (some (.inl (-1))) (md_cs s_ z_ g_)) ∧ (¬ t0 = (0 : Int) → ab_cl sp_X3_isPlace [.inr (.inl (some 0)), .inl b] (md_cs s_ z_ g_) (fun r_ k_ => k_.length = ((md_cs s_ z_ g_)).length → ab_R E_X3_refusesSpan P_X3_refusesSpan Q 13 [some (.inr (.inl (some 0))), some (.inl a), some (.inl b)] (ab_ret r_ []) k_)))) from ⟨p1, ⟨fun h1 => (l1 h1), fun h2 => ⟨_, (l2 h2), fun r_ k_ hz _ => by obtain ⟨x_, rfl, rfl, hR⟩ := hz; exact hR⟩⟩⟩)
set_option maxRecDepth 100000 in
theorem b_X3_refusesSpan_13 {Q : ab_Q} {a : Int} {b : Int} {t0 : Int} {s_ : Int → Int} {z_ : mc_T} {g_ : mg_T} (l1 : ¬ t0 = (0 : Int) → a ≤ b → Q (some (.inl 0)) (md_cs s_ z_ g_)) (l2 : ¬ t0 = (0 : Int) → b < a → Q (some (.inl (-2))) (md_cs s_ z_ g_)) (l3 : t0 = (0 : Int) → Q (some (.inl (-1))) (md_cs s_ z_ g_)) (p1 : ab_r t0 := by intros; (try unfold ab_r); omega) (p2 : ¬ t0 = (0 : Int) → (ab_r b ∧ ab_r a) := by intros; (try unfold ab_r); omega) : ab_R E_X3_refusesSpan P_X3_refusesSpan Q 13 [some (.inr (.inl (some 0))), some (.inl a), some (.inl b)] [.inl t0] (md_cs s_ z_ g_) :=
  ab_R.steps [5, 13] 8 (show (ab_r t0 ∧ ((¬ t0 = (0 : Int) → ((ab_r b ∧ ab_r a) ∧ ((a ≤ b → Q (some (.inl 0)) (md_cs s_ z_ g_)) ∧ (b < a → Q (some (.inl (-2))) (md_cs s_ z_ g_))))) ∧ (t0 = (0 : Int) → Q (some (.inl (-1))) (md_cs s_ z_ g_)))) from ⟨p1, ⟨fun h1 => ⟨(p2 h1), ⟨fun h2 => (l1 h1 h2), fun h3 => (l2 h1 h3)⟩⟩, fun h4 => (l3 h4)⟩⟩)
-- ===== RootChunksModel.refusesPut
def P_X3_refusesPut : List ab_I := [(0, .iload_n 1, 1, []), (1, .iconst 0, 2, []), (2, .aload_n 0, 3, []), (3, .getfield 7, 6, []), (6, .iconst 0, 7, []), (7, .iaload, 8, []), (8, .invokestatic 91, 11, []), (11, .ifCond .ne 5, 14, [((0 : Int), 16)]), (14, .iconst (-1), 15, []), (15, .ireturn, 16, []), (16, .iload_n 2, 17, []), (17, .invokestatic 99, 20, []), (20, .ifCond .ne 6, 23, [((0 : Int), 26)]), (23, .bipush (-2), 25, []), (25, .ireturn, 26, []), (26, .aload_n 0, 27, []), (27, .getfield 7, 30, []), (30, .iconst 0, 31, []), (31, .iaload, 32, []), (32, .bipush 60, 34, []), (34, .if_icmp .ne 8, 37, [((0 : Int), 42)]), (37, .bipush (-4), 39, []), (39, .goto 4, 42, [((0 : Int), 43)]), (42, .iconst 0, 43, []), (43, .ireturn, 44, [])]
def E_X3_refusesPut : ab_E := (T_X3, [(8, (3, 99, [], 0, sp_X3_in)), (17, (1, 99, [], 0, sp_X3_isValue))], [], 0)
def M_X3_refusesPut : List (Nat × ab_MI) := [(8, mi_X3_in), (17, mi_X3_isValue)]
def mi_X3_refusesPut : ab_MI := (yX3_refusesPut, cX3_refusesPut, 3, ab_rty 0, 3, 112)
theorem pk_X3_refusesPut : P_X3_refusesPut.all (ab_okI cX3_refusesPut) = true := by decide +kernel
theorem ck_X3_refusesPut : P_X3_refusesPut.all (ab_okC1 "RootChunksModel" M_X3_refusesPut E_X3_refusesPut (3, 112)) = true := by decide +kernel
set_option maxRecDepth 100000 in
theorem b_X3_refusesPut_0 {Q : ab_Q} {p : Int} {v : Int} {s_ : Int → Int} {z_ : mc_T} {g_ : mg_T} (l1 : sp_X3_in [.inl p, .inl 0, .inl (s_ 0)] (md_cs s_ z_ g_) (fun r_ k_ => ∃ (x_ : Int), r_ = some (.inl x_) ∧ k_ = (md_cs s_ z_ g_) ∧ ab_R E_X3_refusesPut P_X3_refusesPut Q 11 [some (.inr (.inl (some 0))), some (.inl p), some (.inl v)] [.inl x_] (md_cs s_ z_ g_))) (p1 : (0 ≤ (0 : Int) ∧ (0 : Int) < 255) := by intros; (try unfold ab_r); omega) : ab_R E_X3_refusesPut P_X3_refusesPut Q 0 [some (.inr (.inl (some 0))), some (.inl p), some (.inl v)] [] (md_cs s_ z_ g_) :=
  ab_R.steps [11, 20] 8 (show ((0 ≤ (0 : Int) ∧ (0 : Int) < 255) ∧ ab_cl sp_X3_in [.inl p, .inl 0, .inl (s_ 0)] (md_cs s_ z_ g_) (fun r_ k_ => k_.length = ((md_cs s_ z_ g_)).length → ab_R E_X3_refusesPut P_X3_refusesPut Q 11 [some (.inr (.inl (some 0))), some (.inl p), some (.inl v)] (ab_ret r_ []) k_)) from ⟨p1, ⟨_, l1, fun r_ k_ hz _ => by obtain ⟨x_, rfl, rfl, hR⟩ := hz; exact hR⟩⟩)
set_option maxRecDepth 100000 in
theorem b_X3_refusesPut_11 {Q : ab_Q} {p : Int} {v : Int} {t0 : Int} {s_ : Int → Int} {z_ : mc_T} {g_ : mg_T} (l1 : ¬ t0 = (0 : Int) → sp_X3_isValue [.inl v] (md_cs s_ z_ g_) (fun r_ k_ => ∃ (x_ : Int), r_ = some (.inl x_) ∧ k_ = (md_cs s_ z_ g_) ∧ ab_R E_X3_refusesPut P_X3_refusesPut Q 20 [some (.inr (.inl (some 0))), some (.inl p), some (.inl v)] [.inl x_] (md_cs s_ z_ g_))) (l2 : t0 = (0 : Int) → Q (some (.inl (-1))) (md_cs s_ z_ g_)) (p1 : ab_r t0 := by intros; (try unfold ab_r); omega) : ab_R E_X3_refusesPut P_X3_refusesPut Q 11 [some (.inr (.inl (some 0))), some (.inl p), some (.inl v)] [.inl t0] (md_cs s_ z_ g_) :=
  ab_R.steps [11, 20] 4 (show (ab_r t0 ∧ ((¬ t0 = (0 : Int) → ab_cl sp_X3_isValue [.inl v] (md_cs s_ z_ g_) (fun r_ k_ => k_.length = ((md_cs s_ z_ g_)).length → ab_R E_X3_refusesPut P_X3_refusesPut Q 20 [some (.inr (.inl (some 0))), some (.inl p), some (.inl v)] (ab_ret r_ []) k_)) ∧ (t0 = (0 : Int) → Q (some (.inl (-1))) (md_cs s_ z_ g_)))) from ⟨p1, ⟨fun h1 => ⟨_, (l1 h1), fun r_ k_ hz _ => by obtain ⟨x_, rfl, rfl, hR⟩ := hz; exact hR⟩, fun h2 => (l2 h2)⟩⟩)
set_option maxRecDepth 100000 in
theorem b_X3_refusesPut_20 {Q : ab_Q} {p : Int} {v : Int} {t0 : Int} {s_ : Int → Int} {z_ : mc_T} {g_ : mg_T} (l1 : ¬ t0 = (0 : Int) → ¬ (s_ 0) = (60 : Int) → Q (some (.inl 0)) (md_cs s_ z_ g_)) (l2 : ¬ t0 = (0 : Int) → (s_ 0) = (60 : Int) → Q (some (.inl (-4))) (md_cs s_ z_ g_)) (l3 : t0 = (0 : Int) → Q (some (.inl (-2))) (md_cs s_ z_ g_)) (p1 : ab_r t0 := by intros; (try unfold ab_r); omega) (p2 : ¬ t0 = (0 : Int) → (0 ≤ (0 : Int) ∧ (0 : Int) < 255) := by intros; (try unfold ab_r); omega) (p3 : ¬ t0 = (0 : Int) → (ab_r (s_ 0) ∧ ab_r 60) := by intros; (try unfold ab_r); omega) : ab_R E_X3_refusesPut P_X3_refusesPut Q 20 [some (.inr (.inl (some 0))), some (.inl p), some (.inl v)] [.inl t0] (md_cs s_ z_ g_) :=
  ab_R.steps [11, 20] 11 (show (ab_r t0 ∧ ((¬ t0 = (0 : Int) → ((0 ≤ (0 : Int) ∧ (0 : Int) < 255) ∧ ((ab_r (s_ 0) ∧ ab_r 60) ∧ ((¬ (s_ 0) = (60 : Int) → Q (some (.inl 0)) (md_cs s_ z_ g_)) ∧ ((s_ 0) = (60 : Int) → Q (some (.inl (-4))) (md_cs s_ z_ g_)))))) ∧ (t0 = (0 : Int) → Q (some (.inl (-2))) (md_cs s_ z_ g_)))) from ⟨p1, ⟨fun h1 => ⟨(p2 h1), ⟨(p3 h1), ⟨fun h2 => (l1 h1 h2), fun h3 => (l2 h1 h3)⟩⟩⟩, fun h4 => (l3 h4)⟩⟩)
-- ===== RootChunksModel.refusesSet
def P_X3_refusesSet : List ab_I := [(0, .aload_n 0, 1, []), (1, .iload_n 1, 2, []), (2, .invokevirtual 95, 5, []), (5, .ifCond .ne 5, 8, [((0 : Int), 10)]), (8, .iconst (-1), 9, []), (9, .ireturn, 10, []), (10, .iload_n 2, 11, []), (11, .invokestatic 99, 14, []), (14, .ifCond .eq 7, 17, [((0 : Int), 21)]), (17, .iconst 0, 18, []), (18, .goto 5, 21, [((0 : Int), 23)]), (21, .bipush (-2), 23, []), (23, .ireturn, 24, [])]
def E_X3_refusesSet : ab_E := (T_X3, [(2, (2, 3, [], 0, sp_X3_isPlace)), (11, (1, 99, [], 0, sp_X3_isValue))], [], 0)
def M_X3_refusesSet : List (Nat × ab_MI) := [(2, mi_X3_isPlace), (11, mi_X3_isValue)]
def mi_X3_refusesSet : ab_MI := (yX3_refusesSet, cX3_refusesSet, 3, ab_rty 0, 3, 113)
theorem pk_X3_refusesSet : P_X3_refusesSet.all (ab_okI cX3_refusesSet) = true := by decide +kernel
theorem ck_X3_refusesSet : P_X3_refusesSet.all (ab_okC1 "RootChunksModel" M_X3_refusesSet E_X3_refusesSet (3, 113)) = true := by decide +kernel
set_option maxRecDepth 100000 in
theorem b_X3_refusesSet_0 {Q : ab_Q} {p : Int} {v : Int} {s_ : Int → Int} {z_ : mc_T} {g_ : mg_T} (l1 : sp_X3_isPlace [.inr (.inl (some 0)), .inl p] (md_cs s_ z_ g_) (fun r_ k_ => ∃ (x_ : Int), r_ = some (.inl x_) ∧ k_ = (md_cs s_ z_ g_) ∧ ab_R E_X3_refusesSet P_X3_refusesSet Q 5 [some (.inr (.inl (some 0))), some (.inl p), some (.inl v)] [.inl x_] (md_cs s_ z_ g_)))  : ab_R E_X3_refusesSet P_X3_refusesSet Q 0 [some (.inr (.inl (some 0))), some (.inl p), some (.inl v)] [] (md_cs s_ z_ g_) :=
  ab_R.steps [5, 14] 4 (show ab_cl sp_X3_isPlace [.inr (.inl (some 0)), .inl p] (md_cs s_ z_ g_) (fun r_ k_ => k_.length = ((md_cs s_ z_ g_)).length → ab_R E_X3_refusesSet P_X3_refusesSet Q 5 [some (.inr (.inl (some 0))), some (.inl p), some (.inl v)] (ab_ret r_ []) k_) from ⟨_, l1, fun r_ k_ hz _ => by obtain ⟨x_, rfl, rfl, hR⟩ := hz; exact hR⟩)
set_option maxRecDepth 100000 in
theorem b_X3_refusesSet_5 {Q : ab_Q} {p : Int} {v : Int} {t0 : Int} {s_ : Int → Int} {z_ : mc_T} {g_ : mg_T} (l1 : ¬ t0 = (0 : Int) → sp_X3_isValue [.inl v] (md_cs s_ z_ g_) (fun r_ k_ => ∃ (x_ : Int), r_ = some (.inl x_) ∧ k_ = (md_cs s_ z_ g_) ∧ ab_R E_X3_refusesSet P_X3_refusesSet Q 14 [some (.inr (.inl (some 0))), some (.inl p), some (.inl v)] [.inl x_] (md_cs s_ z_ g_))) (l2 : t0 = (0 : Int) → Q (some (.inl (-1))) (md_cs s_ z_ g_)) (p1 : ab_r t0 := by intros; (try unfold ab_r); omega) : ab_R E_X3_refusesSet P_X3_refusesSet Q 5 [some (.inr (.inl (some 0))), some (.inl p), some (.inl v)] [.inl t0] (md_cs s_ z_ g_) :=
  ab_R.steps [5, 14] 4 (show (ab_r t0 ∧ ((¬ t0 = (0 : Int) → ab_cl sp_X3_isValue [.inl v] (md_cs s_ z_ g_) (fun r_ k_ => k_.length = ((md_cs s_ z_ g_)).length → ab_R E_X3_refusesSet P_X3_refusesSet Q 14 [some (.inr (.inl (some 0))), some (.inl p), some (.inl v)] (ab_ret r_ []) k_)) ∧ (t0 = (0 : Int) → Q (some (.inl (-1))) (md_cs s_ z_ g_)))) from ⟨p1, ⟨fun h1 => ⟨_, (l1 h1), fun r_ k_ hz _ => by obtain ⟨x_, rfl, rfl, hR⟩ := hz; exact hR⟩, fun h2 => (l2 h2)⟩⟩)
set_option maxRecDepth 100000 in
theorem b_X3_refusesSet_14 {Q : ab_Q} {p : Int} {v : Int} {t0 : Int} {s_ : Int → Int} {z_ : mc_T} {g_ : mg_T} (l1 : t0 = (0 : Int) → Q (some (.inl (-2))) (md_cs s_ z_ g_)) (l2 : ¬ t0 = (0 : Int) → Q (some (.inl 0)) (md_cs s_ z_ g_)) (p1 : ab_r t0 := by intros; (try unfold ab_r); omega) : ab_R E_X3_refusesSet P_X3_refusesSet Q 14 [some (.inr (.inl (some 0))), some (.inl p), some (.inl v)] [.inl t0] (md_cs s_ z_ g_) :=
  ab_R.steps [5, 14] 5 (show (ab_r t0 ∧ ((t0 = (0 : Int) → Q (some (.inl (-2))) (md_cs s_ z_ g_)) ∧ (¬ t0 = (0 : Int) → Q (some (.inl 0)) (md_cs s_ z_ g_)))) from ⟨p1, ⟨fun h1 => (l1 h1), fun h2 => (l2 h2)⟩⟩)
-- ===== RootChunksModel.refusesBy
def P_X3_refusesBy : List ab_I := [(0, .aload_n 0, 1, []), (1, .iload_n 1, 2, []), (2, .iload_n 2, 3, []), (3, .invokevirtual 102, 6, []), (6, .istore 4, 8, []), (8, .iload 4, 10, []), (10, .ifCond .ne 15, 13, [((0 : Int), 25)]), (13, .iload_n 3, 14, []), (14, .invokestatic 99, 17, []), (17, .ifCond .ne 8, 20, [((0 : Int), 25)]), (20, .bipush (-2), 22, []), (22, .goto 5, 25, [((0 : Int), 27)]), (25, .iload 4, 27, []), (27, .ireturn, 28, [])]
def E_X3_refusesBy : ab_E := (T_X3, [(3, (3, 3, [], 0, sp_X3_refusesSpan)), (14, (1, 99, [], 0, sp_X3_isValue))], [], 0)
def M_X3_refusesBy : List (Nat × ab_MI) := [(3, mi_X3_refusesSpan), (14, mi_X3_isValue)]
def mi_X3_refusesBy : ab_MI := (yX3_refusesBy, cX3_refusesBy, 5, ab_rty 0, 4, 135)
theorem pk_X3_refusesBy : P_X3_refusesBy.all (ab_okI cX3_refusesBy) = true := by decide +kernel
theorem ck_X3_refusesBy : P_X3_refusesBy.all (ab_okC1 "RootChunksModel" M_X3_refusesBy E_X3_refusesBy (4, 135)) = true := by decide +kernel
set_option maxRecDepth 100000 in
theorem b_X3_refusesBy_0 {Q : ab_Q} {a : Int} {b : Int} {v : Int} {s_ : Int → Int} {z_ : mc_T} {g_ : mg_T} (l1 : sp_X3_refusesSpan [.inr (.inl (some 0)), .inl a, .inl b] (md_cs s_ z_ g_) (fun r_ k_ => ∃ (x_ : Int), r_ = some (.inl x_) ∧ k_ = (md_cs s_ z_ g_) ∧ ab_R E_X3_refusesBy P_X3_refusesBy Q 6 [some (.inr (.inl (some 0))), some (.inl a), some (.inl b), some (.inl v), none] [.inl x_] (md_cs s_ z_ g_)))  : ab_R E_X3_refusesBy P_X3_refusesBy Q 0 [some (.inr (.inl (some 0))), some (.inl a), some (.inl b), some (.inl v), none] [] (md_cs s_ z_ g_) :=
  ab_R.steps [6, 17] 5 (show ab_cl sp_X3_refusesSpan [.inr (.inl (some 0)), .inl a, .inl b] (md_cs s_ z_ g_) (fun r_ k_ => k_.length = ((md_cs s_ z_ g_)).length → ab_R E_X3_refusesBy P_X3_refusesBy Q 6 [some (.inr (.inl (some 0))), some (.inl a), some (.inl b), some (.inl v), none] (ab_ret r_ []) k_) from ⟨_, l1, fun r_ k_ hz _ => by obtain ⟨x_, rfl, rfl, hR⟩ := hz; exact hR⟩)
set_option maxRecDepth 100000 in
theorem b_X3_refusesBy_6 {Q : ab_Q} {a : Int} {b : Int} {v : Int} {t0 : Int} {s_ : Int → Int} {z_ : mc_T} {g_ : mg_T} (l1 : ¬ t0 = (0 : Int) → Q (some (.inl t0)) (md_cs s_ z_ g_)) (l2 : t0 = (0 : Int) → sp_X3_isValue [.inl v] (md_cs s_ z_ g_) (fun r_ k_ => ∃ (x_ : Int), r_ = some (.inl x_) ∧ k_ = (md_cs s_ z_ g_) ∧ ab_R E_X3_refusesBy P_X3_refusesBy Q 17 [some (.inr (.inl (some 0))), some (.inl a), some (.inl b), some (.inl v), some (.inl t0)] [.inl x_] (md_cs s_ z_ g_))) (p1 : ab_r t0 := by intros; (try unfold ab_r); omega) : ab_R E_X3_refusesBy P_X3_refusesBy Q 6 [some (.inr (.inl (some 0))), some (.inl a), some (.inl b), some (.inl v), none] [.inl t0] (md_cs s_ z_ g_) :=
  ab_R.steps [6, 17] 6 (show (ab_r t0 ∧ ((¬ t0 = (0 : Int) → Q (some (.inl t0)) (md_cs s_ z_ g_)) ∧ (t0 = (0 : Int) → ab_cl sp_X3_isValue [.inl v] (md_cs s_ z_ g_) (fun r_ k_ => k_.length = ((md_cs s_ z_ g_)).length → ab_R E_X3_refusesBy P_X3_refusesBy Q 17 [some (.inr (.inl (some 0))), some (.inl a), some (.inl b), some (.inl v), some (.inl t0)] (ab_ret r_ []) k_)))) from ⟨p1, ⟨fun h1 => (l1 h1), fun h2 => ⟨_, (l2 h2), fun r_ k_ hz _ => by obtain ⟨x_, rfl, rfl, hR⟩ := hz; exact hR⟩⟩⟩)
set_option maxRecDepth 100000 in
theorem b_X3_refusesBy_17 {Q : ab_Q} {a : Int} {b : Int} {v : Int} {e : Int} {t0 : Int} {s_ : Int → Int} {z_ : mc_T} {g_ : mg_T} (l1 : ¬ t0 = (0 : Int) → Q (some (.inl e)) (md_cs s_ z_ g_)) (l2 : t0 = (0 : Int) → Q (some (.inl (-2))) (md_cs s_ z_ g_)) (p1 : ab_r t0 := by intros; (try unfold ab_r); omega) : ab_R E_X3_refusesBy P_X3_refusesBy Q 17 [some (.inr (.inl (some 0))), some (.inl a), some (.inl b), some (.inl v), some (.inl e)] [.inl t0] (md_cs s_ z_ g_) :=
  ab_R.steps [6, 17] 5 (show (ab_r t0 ∧ ((¬ t0 = (0 : Int) → Q (some (.inl e)) (md_cs s_ z_ g_)) ∧ (t0 = (0 : Int) → Q (some (.inl (-2))) (md_cs s_ z_ g_)))) from ⟨p1, ⟨fun h1 => (l1 h1), fun h2 => (l2 h2)⟩⟩)
-- ===== RootChunksModel.refusesAdd
def P_X3_refusesAdd : List ab_I := [(0, .aload_n 0, 1, []), (1, .iload_n 1, 2, []), (2, .iload_n 2, 3, []), (3, .iload_n 3, 4, []), (4, .invokevirtual 106, 7, []), (7, .istore 4, 9, []), (9, .iload_n 1, 10, []), (10, .istore 5, 12, []), (12, .iload 5, 14, []), (14, .iload_n 2, 15, []), (15, .if_icmp .gt 40, 18, [((0 : Int), 55)]), (18, .iload 4, 20, []), (20, .ifCond .ne 35, 23, [((0 : Int), 55)]), (23, .aload_n 0, 24, []), (24, .iload 5, 26, []), (26, .invokevirtual 61, 29, []), (29, .iload_n 3, 30, []), (30, .iadd, 31, []), (31, .ldc 110, 33, []), (33, .ldc 111, 35, []), (35, .invokestatic 91, 38, []), (38, .ifCond .eq 7, 41, [((0 : Int), 45)]), (41, .iconst 0, 42, []), (42, .goto 5, 45, [((0 : Int), 47)]), (45, .bipush (-5), 47, []), (47, .istore 4, 49, []), (49, .iinc 5 1, 52, []), (52, .goto (-40), 55, [((0 : Int), 12)]), (55, .iload 4, 57, []), (57, .ireturn, 58, [])]
def E_X3_refusesAdd : ab_E := (T_X3, [(4, (4, 3, [], 0, sp_X3_refusesBy)), (26, (2, 3, [], 0, sp_X3_valueAt)), (35, (3, 99, [], 0, sp_X3_in))], [], 0)
def M_X3_refusesAdd : List (Nat × ab_MI) := [(4, mi_X3_refusesBy), (26, mi_X3_valueAt), (35, mi_X3_in)]
def mi_X3_refusesAdd : ab_MI := (yX3_refusesAdd, cX3_refusesAdd, 6, ab_rty 0, 5, 159)
theorem pk_X3_refusesAdd : P_X3_refusesAdd.all (ab_okI cX3_refusesAdd) = true := by decide +kernel
theorem ck_X3_refusesAdd : P_X3_refusesAdd.all (ab_okC1 "RootChunksModel" M_X3_refusesAdd E_X3_refusesAdd (5, 159)) = true := by decide +kernel
set_option maxRecDepth 100000 in
theorem b_X3_refusesAdd_0 {Q : ab_Q} {a : Int} {b : Int} {v : Int} {s_ : Int → Int} {z_ : mc_T} {g_ : mg_T} (l1 : sp_X3_refusesBy [.inr (.inl (some 0)), .inl a, .inl b, .inl v] (md_cs s_ z_ g_) (fun r_ k_ => ∃ (x_ : Int), r_ = some (.inl x_) ∧ k_ = (md_cs s_ z_ g_) ∧ ab_R E_X3_refusesAdd P_X3_refusesAdd Q 7 [some (.inr (.inl (some 0))), some (.inl a), some (.inl b), some (.inl v), none, none] [.inl x_] (md_cs s_ z_ g_)))  : ab_R E_X3_refusesAdd P_X3_refusesAdd Q 0 [some (.inr (.inl (some 0))), some (.inl a), some (.inl b), some (.inl v), none, none] [] (md_cs s_ z_ g_) :=
  ab_R.steps [7, 12, 29, 38] 6 (show ab_cl sp_X3_refusesBy [.inr (.inl (some 0)), .inl a, .inl b, .inl v] (md_cs s_ z_ g_) (fun r_ k_ => k_.length = ((md_cs s_ z_ g_)).length → ab_R E_X3_refusesAdd P_X3_refusesAdd Q 7 [some (.inr (.inl (some 0))), some (.inl a), some (.inl b), some (.inl v), none, none] (ab_ret r_ []) k_) from ⟨_, l1, fun r_ k_ hz _ => by obtain ⟨x_, rfl, rfl, hR⟩ := hz; exact hR⟩)
set_option maxRecDepth 100000 in
theorem b_X3_refusesAdd_7 {Q : ab_Q} {a : Int} {b : Int} {v : Int} {t0 : Int} {s_ : Int → Int} {z_ : mc_T} {g_ : mg_T} (l1 : ab_R E_X3_refusesAdd P_X3_refusesAdd Q 12 [some (.inr (.inl (some 0))), some (.inl a), some (.inl b), some (.inl v), some (.inl t0), some (.inl a)] [] (md_cs s_ z_ g_))  : ab_R E_X3_refusesAdd P_X3_refusesAdd Q 7 [some (.inr (.inl (some 0))), some (.inl a), some (.inl b), some (.inl v), none, none] [.inl t0] (md_cs s_ z_ g_) :=
  ab_R.steps [7, 12, 29, 38] 5 (show ab_R E_X3_refusesAdd P_X3_refusesAdd Q 12 [some (.inr (.inl (some 0))), some (.inl a), some (.inl b), some (.inl v), some (.inl t0), some (.inl a)] [] (md_cs s_ z_ g_) from l1)
set_option maxRecDepth 100000 in
theorem b_X3_refusesAdd_12 {Q : ab_Q} {a : Int} {b : Int} {v : Int} {e : Int} {p : Int} {s_ : Int → Int} {z_ : mc_T} {g_ : mg_T} (l1 : b < p → Q (some (.inl e)) (md_cs s_ z_ g_)) (l2 : p ≤ b → ¬ e = (0 : Int) → Q (some (.inl e)) (md_cs s_ z_ g_)) (l3 : p ≤ b → e = (0 : Int) → sp_X3_valueAt [.inr (.inl (some 0)), .inl p] (md_cs s_ z_ g_) (fun r_ k_ => ∃ (x_ : Int), r_ = some (.inl x_) ∧ k_ = (md_cs s_ z_ g_) ∧ ab_R E_X3_refusesAdd P_X3_refusesAdd Q 29 [some (.inr (.inl (some 0))), some (.inl a), some (.inl b), some (.inl v), some (.inl e), some (.inl p)] [.inl x_] (md_cs s_ z_ g_))) (p1 : (ab_r p ∧ ab_r b) := by intros; (try unfold ab_r); omega) (p2 : p ≤ b → ab_r e := by intros; (try unfold ab_r); omega) : ab_R E_X3_refusesAdd P_X3_refusesAdd Q 12 [some (.inr (.inl (some 0))), some (.inl a), some (.inl b), some (.inl v), some (.inl e), some (.inl p)] [] (md_cs s_ z_ g_) :=
  ab_R.steps [7, 12, 29, 38] 9 (show ((ab_r p ∧ ab_r b) ∧ ((b < p → Q (some (.inl e)) (md_cs s_ z_ g_)) ∧ (p ≤ b → (ab_r e ∧ ((¬ e = (0 : Int) → Q (some (.inl e)) (md_cs s_ z_ g_)) ∧ (e = (0 : Int) → ab_cl sp_X3_valueAt [.inr (.inl (some 0)), .inl p] (md_cs s_ z_ g_) (fun r_ k_ => k_.length = ((md_cs s_ z_ g_)).length → ab_R E_X3_refusesAdd P_X3_refusesAdd Q 29 [some (.inr (.inl (some 0))), some (.inl a), some (.inl b), some (.inl v), some (.inl e), some (.inl p)] (ab_ret r_ []) k_))))))) from ⟨p1, ⟨fun h1 => (l1 h1), fun h2 => ⟨(p2 h2), ⟨fun h3 => (l2 h2 h3), fun h4 => ⟨_, (l3 h2 h4), fun r_ k_ hz _ => by obtain ⟨x_, rfl, rfl, hR⟩ := hz; exact hR⟩⟩⟩⟩⟩)
set_option maxRecDepth 100000 in
theorem b_X3_refusesAdd_29 {Q : ab_Q} {a : Int} {b : Int} {v : Int} {e : Int} {p : Int} {t0 : Int} {s_ : Int → Int} {z_ : mc_T} {g_ : mg_T} (l1 : sp_X3_in [.inl (t0 + v), .inl (-99999), .inl 99999] (md_cs s_ z_ g_) (fun r_ k_ => ∃ (x_ : Int), r_ = some (.inl x_) ∧ k_ = (md_cs s_ z_ g_) ∧ ab_R E_X3_refusesAdd P_X3_refusesAdd Q 38 [some (.inr (.inl (some 0))), some (.inl a), some (.inl b), some (.inl v), some (.inl e), some (.inl p)] [.inl x_] (md_cs s_ z_ g_)))  : ab_R E_X3_refusesAdd P_X3_refusesAdd Q 29 [some (.inr (.inl (some 0))), some (.inl a), some (.inl b), some (.inl v), some (.inl e), some (.inl p)] [.inl t0] (md_cs s_ z_ g_) :=
  ab_R.steps [7, 12, 29, 38] 6 (show ab_cl sp_X3_in [.inl (t0 + v), .inl (-99999), .inl 99999] (md_cs s_ z_ g_) (fun r_ k_ => k_.length = ((md_cs s_ z_ g_)).length → ab_R E_X3_refusesAdd P_X3_refusesAdd Q 38 [some (.inr (.inl (some 0))), some (.inl a), some (.inl b), some (.inl v), some (.inl e), some (.inl p)] (ab_ret r_ []) k_) from ⟨_, l1, fun r_ k_ hz _ => by obtain ⟨x_, rfl, rfl, hR⟩ := hz; exact hR⟩)
set_option maxRecDepth 100000 in
theorem b_X3_refusesAdd_38 {Q : ab_Q} {a : Int} {b : Int} {v : Int} {e : Int} {p : Int} {t0 : Int} {s_ : Int → Int} {z_ : mc_T} {g_ : mg_T} (l1 : t0 = (0 : Int) → ab_R E_X3_refusesAdd P_X3_refusesAdd Q 12 [some (.inr (.inl (some 0))), some (.inl a), some (.inl b), some (.inl v), some (.inl (-5)), some (.inl (p + 1))] [] (md_cs s_ z_ g_)) (l2 : ¬ t0 = (0 : Int) → ab_R E_X3_refusesAdd P_X3_refusesAdd Q 12 [some (.inr (.inl (some 0))), some (.inl a), some (.inl b), some (.inl v), some (.inl 0), some (.inl (p + 1))] [] (md_cs s_ z_ g_)) (p1 : ab_r t0 := by intros; (try unfold ab_r); omega) : ab_R E_X3_refusesAdd P_X3_refusesAdd Q 38 [some (.inr (.inl (some 0))), some (.inl a), some (.inl b), some (.inl v), some (.inl e), some (.inl p)] [.inl t0] (md_cs s_ z_ g_) :=
  ab_R.steps [7, 12, 29, 38] 8 (show (ab_r t0 ∧ ((t0 = (0 : Int) → ab_R E_X3_refusesAdd P_X3_refusesAdd Q 12 [some (.inr (.inl (some 0))), some (.inl a), some (.inl b), some (.inl v), some (.inl (-5)), some (.inl (p + 1))] [] (md_cs s_ z_ g_)) ∧ (¬ t0 = (0 : Int) → ab_R E_X3_refusesAdd P_X3_refusesAdd Q 12 [some (.inr (.inl (some 0))), some (.inl a), some (.inl b), some (.inl v), some (.inl 0), some (.inl (p + 1))] [] (md_cs s_ z_ g_)))) from ⟨p1, ⟨fun h1 => (l1 h1), fun h2 => (l2 h2)⟩⟩)
-- ===== RootChunksModel.refusesMove
def P_X3_refusesMove : List ab_I := [(0, .aload_n 0, 1, []), (1, .iload_n 1, 2, []), (2, .iload_n 2, 3, []), (3, .invokevirtual 102, 6, []), (6, .istore 4, 8, []), (8, .iload 4, 10, []), (10, .ifCond .ne 28, 13, [((0 : Int), 38)]), (13, .iload_n 3, 14, []), (14, .iconst 0, 15, []), (15, .aload_n 0, 16, []), (16, .getfield 7, 19, []), (19, .iconst 0, 20, []), (20, .iaload, 21, []), (21, .iload_n 2, 22, []), (22, .iload_n 1, 23, []), (23, .isub, 24, []), (24, .iconst 1, 25, []), (25, .iadd, 26, []), (26, .isub, 27, []), (27, .invokestatic 91, 30, []), (30, .ifCond .ne 8, 33, [((0 : Int), 38)]), (33, .bipush (-2), 35, []), (35, .goto 5, 38, [((0 : Int), 40)]), (38, .iload 4, 40, []), (40, .ireturn, 41, [])]
def E_X3_refusesMove : ab_E := (T_X3, [(3, (3, 3, [], 0, sp_X3_refusesSpan)), (27, (3, 99, [], 0, sp_X3_in))], [], 0)
def M_X3_refusesMove : List (Nat × ab_MI) := [(3, mi_X3_refusesSpan), (27, mi_X3_in)]
def mi_X3_refusesMove : ab_MI := (yX3_refusesMove, cX3_refusesMove, 5, ab_rty 0, 4, 135)
theorem pk_X3_refusesMove : P_X3_refusesMove.all (ab_okI cX3_refusesMove) = true := by decide +kernel
theorem ck_X3_refusesMove : P_X3_refusesMove.all (ab_okC1 "RootChunksModel" M_X3_refusesMove E_X3_refusesMove (4, 135)) = true := by decide +kernel
set_option maxRecDepth 100000 in
theorem b_X3_refusesMove_0 {Q : ab_Q} {a : Int} {b : Int} {p : Int} {s_ : Int → Int} {z_ : mc_T} {g_ : mg_T} (l1 : sp_X3_refusesSpan [.inr (.inl (some 0)), .inl a, .inl b] (md_cs s_ z_ g_) (fun r_ k_ => ∃ (x_ : Int), r_ = some (.inl x_) ∧ k_ = (md_cs s_ z_ g_) ∧ ab_R E_X3_refusesMove P_X3_refusesMove Q 6 [some (.inr (.inl (some 0))), some (.inl a), some (.inl b), some (.inl p), none] [.inl x_] (md_cs s_ z_ g_)))  : ab_R E_X3_refusesMove P_X3_refusesMove Q 0 [some (.inr (.inl (some 0))), some (.inl a), some (.inl b), some (.inl p), none] [] (md_cs s_ z_ g_) :=
  ab_R.steps [6, 30] 5 (show ab_cl sp_X3_refusesSpan [.inr (.inl (some 0)), .inl a, .inl b] (md_cs s_ z_ g_) (fun r_ k_ => k_.length = ((md_cs s_ z_ g_)).length → ab_R E_X3_refusesMove P_X3_refusesMove Q 6 [some (.inr (.inl (some 0))), some (.inl a), some (.inl b), some (.inl p), none] (ab_ret r_ []) k_) from ⟨_, l1, fun r_ k_ hz _ => by obtain ⟨x_, rfl, rfl, hR⟩ := hz; exact hR⟩)
set_option maxRecDepth 100000 in
theorem b_X3_refusesMove_6 {Q : ab_Q} {a : Int} {b : Int} {p : Int} {t0 : Int} {s_ : Int → Int} {z_ : mc_T} {g_ : mg_T} (l1 : ¬ t0 = (0 : Int) → Q (some (.inl t0)) (md_cs s_ z_ g_)) (l2 : t0 = (0 : Int) → sp_X3_in [.inl p, .inl 0, .inl ((s_ 0) - ((b - a) + 1))] (md_cs s_ z_ g_) (fun r_ k_ => ∃ (x_ : Int), r_ = some (.inl x_) ∧ k_ = (md_cs s_ z_ g_) ∧ ab_R E_X3_refusesMove P_X3_refusesMove Q 30 [some (.inr (.inl (some 0))), some (.inl a), some (.inl b), some (.inl p), some (.inl t0)] [.inl x_] (md_cs s_ z_ g_))) (p1 : ab_r t0 := by intros; (try unfold ab_r); omega) (p2 : t0 = (0 : Int) → (0 ≤ (0 : Int) ∧ (0 : Int) < 255) := by intros; (try unfold ab_r); omega) : ab_R E_X3_refusesMove P_X3_refusesMove Q 6 [some (.inr (.inl (some 0))), some (.inl a), some (.inl b), some (.inl p), none] [.inl t0] (md_cs s_ z_ g_) :=
  ab_R.steps [6, 30] 17 (show (ab_r t0 ∧ ((¬ t0 = (0 : Int) → Q (some (.inl t0)) (md_cs s_ z_ g_)) ∧ (t0 = (0 : Int) → ((0 ≤ (0 : Int) ∧ (0 : Int) < 255) ∧ ab_cl sp_X3_in [.inl p, .inl 0, .inl ((s_ 0) - ((b - a) + 1))] (md_cs s_ z_ g_) (fun r_ k_ => k_.length = ((md_cs s_ z_ g_)).length → ab_R E_X3_refusesMove P_X3_refusesMove Q 30 [some (.inr (.inl (some 0))), some (.inl a), some (.inl b), some (.inl p), some (.inl t0)] (ab_ret r_ []) k_))))) from ⟨p1, ⟨fun h1 => (l1 h1), fun h2 => ⟨(p2 h2), ⟨_, (l2 h2), fun r_ k_ hz _ => by obtain ⟨x_, rfl, rfl, hR⟩ := hz; exact hR⟩⟩⟩⟩)
set_option maxRecDepth 100000 in
theorem b_X3_refusesMove_30 {Q : ab_Q} {a : Int} {b : Int} {p : Int} {e : Int} {t0 : Int} {s_ : Int → Int} {z_ : mc_T} {g_ : mg_T} (l1 : ¬ t0 = (0 : Int) → Q (some (.inl e)) (md_cs s_ z_ g_)) (l2 : t0 = (0 : Int) → Q (some (.inl (-2))) (md_cs s_ z_ g_)) (p1 : ab_r t0 := by intros; (try unfold ab_r); omega) : ab_R E_X3_refusesMove P_X3_refusesMove Q 30 [some (.inr (.inl (some 0))), some (.inl a), some (.inl b), some (.inl p), some (.inl e)] [.inl t0] (md_cs s_ z_ g_) :=
  ab_R.steps [6, 30] 5 (show (ab_r t0 ∧ ((¬ t0 = (0 : Int) → Q (some (.inl e)) (md_cs s_ z_ g_)) ∧ (t0 = (0 : Int) → Q (some (.inl (-2))) (md_cs s_ z_ g_)))) from ⟨p1, ⟨fun h1 => (l1 h1), fun h2 => (l2 h2)⟩⟩)
theorem vc_X3_in {av : List ab_V} {cs : List ab_C} {Q : ab_Q} (h : sp_X3_in av cs Q) : (ab_lv0 av).length ≤ 3 ∧ ab_R E_X3_in P_X3_in Q 0 (ab_ent av 3) [] cs := by
  obtain ⟨v, a, b, rfl, hv, ha, hb, hQ⟩ := h
  refine ⟨Nat.le_of_ble_eq_true rfl, ?_⟩
  unfold ab_r at hv ha hb
  refine b_X3_in_0 (fun h1 => ?_) (fun h1 h2 => ?_) (fun h1 h2 => ?_)
  · rwa [if_neg (by omega)] at hQ
  · rwa [if_neg (by omega)] at hQ
  · rwa [if_pos (by omega)] at hQ
theorem mt_X3_in (l : Launch) : ab_MT l mi_X3_in sp_X3_in := ab_MT.of (own := "RootChunksModel") (E := E_X3_in) (P := P_X3_in) (M := M_X3_in) (nL := 3) (ty := 2) (by decide) rfl rfl tk_X3 pk_X3_in ck_X3_in ab_CT'.nil (fun av cs Q h => vc_X3_in h)
theorem vc_X3_isValue {av : List ab_V} {cs : List ab_C} {Q : ab_Q} (h : sp_X3_isValue av cs Q) : (ab_lv0 av).length ≤ 1 ∧ ab_R E_X3_isValue P_X3_isValue Q 0 (ab_ent av 1) [] cs := by
  obtain ⟨v, rfl, hv, hQ⟩ := h
  refine ⟨Nat.le_of_ble_eq_true rfl, ?_⟩
  refine b_X3_isValue_0 ⟨_, _, _, rfl, hv, by unfold ab_r; omega, by unfold ab_r; omega, _, rfl, rfl, ?_⟩
  exact b_X3_isValue_10 hQ (p1 := by split <;> simp)
theorem mt_X3_isValue (l : Launch) : ab_MT l mi_X3_isValue sp_X3_isValue := ab_MT.of (own := "RootChunksModel") (E := E_X3_isValue) (P := P_X3_isValue) (M := M_X3_isValue) (nL := 1) (ty := 2) (by decide) rfl rfl tk_X3 pk_X3_isValue ck_X3_isValue (ab_CT'.cons (mt_X3_in l) ab_CT'.nil) (fun av cs Q h => vc_X3_isValue h)
theorem vc_X3_isPlace {av : List ab_V} {cs : List ab_C} {Q : ab_Q} (h : sp_X3_isPlace av cs Q) : (ab_lv0 av).length ≤ 2 ∧ ab_R E_X3_isPlace P_X3_isPlace Q 0 (ab_ent av 2) [] cs := by
  obtain ⟨s, z, g, q, p, rfl, rfl, hR, hW, hp, hQ⟩ := h
  refine ⟨Nat.le_of_ble_eq_true rfl, ?_⟩
  have hn : s 0 = ((mq_flat q).length : Nat) := hR.2.2.2.2.1
  have hfl := hW.2
  refine b_X3_isPlace_0 ⟨_, _, _, rfl, hp, by unfold ab_r; omega, by unfold ab_r; omega, _, rfl, rfl, ?_⟩
  refine b_X3_isPlace_13 ?_ (p1 := by split <;> simp)
  by_cases y : mq_pl q p
  · have y2 := y
    unfold mq_pl mq_n at y2
    rw [if_pos y] at hQ
    rwa [if_pos (by omega)]
  · have y2 := y
    unfold mq_pl mq_n at y2
    rw [if_neg y] at hQ
    rwa [if_neg (by omega)]
theorem mt_X3_isPlace (l : Launch) : ab_MT l mi_X3_isPlace sp_X3_isPlace := ab_MT.of (own := "RootChunksModel") (E := E_X3_isPlace) (P := P_X3_isPlace) (M := M_X3_isPlace) (nL := 2) (ty := 2) (by decide) rfl rfl tk_X3 pk_X3_isPlace ck_X3_isPlace (ab_CT'.cons (mt_X3_in l) ab_CT'.nil) (fun av cs Q h => vc_X3_isPlace h)
theorem vc_X3_refusesSpan {av : List ab_V} {cs : List ab_C} {Q : ab_Q} (h : sp_X3_refusesSpan av cs Q) : (ab_lv0 av).length ≤ 3 ∧ ab_R E_X3_refusesSpan P_X3_refusesSpan Q 0 (ab_ent av 3) [] cs := by
  obtain ⟨s, z, g, q, a, b, rfl, rfl, hR, hW, ha, hb, hQ⟩ := h
  refine ⟨Nat.le_of_ble_eq_true rfl, ?_⟩
  unfold mq_eSpan at hQ
  refine b_X3_refusesSpan_0 ⟨_, _, _, _, _, rfl, rfl, hR, hW, ha, _, rfl, rfl, ?_⟩
  by_cases y : mq_pl q a
  · rw [if_pos y] at hQ ⊢
    refine b_X3_refusesSpan_5 (fun h => by omega) (fun _ => ⟨_, _, _, _, _, rfl, rfl, hR, hW, hb, _, rfl, rfl, ?_⟩)
    by_cases y2 : mq_pl q b
    · rw [if_pos y2] at hQ ⊢
      refine b_X3_refusesSpan_13 (fun _ h => ?_) (fun _ h => ?_) (fun h => by omega) (p2 := fun _ => ⟨hb, ha⟩)
      · rwa [if_neg (by omega)] at hQ
      · rwa [if_pos (by omega)] at hQ
    · rw [if_neg y2] at hQ ⊢
      exact b_X3_refusesSpan_13 (fun h => absurd rfl h) (fun h => absurd rfl h) (fun _ => hQ) (p2 := fun _ => ⟨hb, ha⟩)
  · rw [if_neg y] at hQ ⊢
    exact b_X3_refusesSpan_5 (fun _ => hQ) (fun h => absurd rfl h)
theorem mt_X3_refusesSpan (l : Launch) : ab_MT l mi_X3_refusesSpan sp_X3_refusesSpan := ab_MT.of (own := "RootChunksModel") (E := E_X3_refusesSpan) (P := P_X3_refusesSpan) (M := M_X3_refusesSpan) (nL := 3) (ty := 0) (by decide) rfl rfl tk_X3 pk_X3_refusesSpan ck_X3_refusesSpan (ab_CT'.cons (mt_X3_isPlace l) (ab_CT'.cons (mt_X3_isPlace l) ab_CT'.nil)) (fun av cs Q h => vc_X3_refusesSpan h)
theorem vc_X3_refusesPut {av : List ab_V} {cs : List ab_C} {Q : ab_Q} (h : sp_X3_refusesPut av cs Q) : (ab_lv0 av).length ≤ 3 ∧ ab_R E_X3_refusesPut P_X3_refusesPut Q 0 (ab_ent av 3) [] cs := by
  obtain ⟨s, z, g, q, p, v, rfl, rfl, hR, hW, hp, hv, hQ⟩ := h
  refine ⟨Nat.le_of_ble_eq_true rfl, ?_⟩
  have hn : s 0 = ((mq_flat q).length : Nat) := hR.2.2.2.2.1
  have hfl := hW.2
  unfold mq_ePut at hQ
  have e : mq_n q = s 0 := hn.symm
  rw [e] at hQ
  refine b_X3_refusesPut_0 ⟨_, _, _, rfl, hp, by unfold ab_r; omega, by unfold ab_r; omega, _, rfl, rfl, ?_⟩
  by_cases y : 0 ≤ p ∧ p ≤ s 0
  · rw [if_pos y] at hQ ⊢
    refine b_X3_refusesPut_11 (fun _ => ⟨_, rfl, hv, _, rfl, rfl, ?_⟩) (fun h => by omega)
    by_cases y2 : mq_vl v
    · rw [if_pos y2] at hQ ⊢
      refine b_X3_refusesPut_20 (fun _ h => ?_) (fun _ h => ?_) (fun h => by omega)
      · rwa [if_neg h] at hQ
      · rwa [if_pos h] at hQ
    · rw [if_neg y2] at hQ ⊢
      exact b_X3_refusesPut_20 (fun h => absurd rfl h) (fun h => absurd rfl h) (fun _ => hQ)
  · rw [if_neg y] at hQ ⊢
    exact b_X3_refusesPut_11 (fun h => absurd rfl h) (fun _ => hQ)
theorem mt_X3_refusesPut (l : Launch) : ab_MT l mi_X3_refusesPut sp_X3_refusesPut := ab_MT.of (own := "RootChunksModel") (E := E_X3_refusesPut) (P := P_X3_refusesPut) (M := M_X3_refusesPut) (nL := 3) (ty := 0) (by decide) rfl rfl tk_X3 pk_X3_refusesPut ck_X3_refusesPut (ab_CT'.cons (mt_X3_in l) (ab_CT'.cons (mt_X3_isValue l) ab_CT'.nil)) (fun av cs Q h => vc_X3_refusesPut h)
theorem vc_X3_refusesSet {av : List ab_V} {cs : List ab_C} {Q : ab_Q} (h : sp_X3_refusesSet av cs Q) : (ab_lv0 av).length ≤ 3 ∧ ab_R E_X3_refusesSet P_X3_refusesSet Q 0 (ab_ent av 3) [] cs := by
  obtain ⟨s, z, g, q, p, v, rfl, rfl, hR, hW, hp, hv, hQ⟩ := h
  refine ⟨Nat.le_of_ble_eq_true rfl, ?_⟩
  unfold mq_eSet at hQ
  refine b_X3_refusesSet_0 ⟨_, _, _, _, _, rfl, rfl, hR, hW, hp, _, rfl, rfl, ?_⟩
  by_cases y : mq_pl q p
  · rw [if_pos y] at hQ ⊢
    refine b_X3_refusesSet_5 (fun _ => ⟨_, rfl, hv, _, rfl, rfl, ?_⟩) (fun h => by omega)
    by_cases y2 : mq_vl v
    · rw [if_pos y2] at hQ ⊢
      exact b_X3_refusesSet_14 (fun h => by omega) (fun _ => hQ)
    · rw [if_neg y2] at hQ ⊢
      exact b_X3_refusesSet_14 (fun _ => hQ) (fun h => absurd rfl h)
  · rw [if_neg y] at hQ ⊢
    exact b_X3_refusesSet_5 (fun h => absurd rfl h) (fun _ => hQ)
theorem mt_X3_refusesSet (l : Launch) : ab_MT l mi_X3_refusesSet sp_X3_refusesSet := ab_MT.of (own := "RootChunksModel") (E := E_X3_refusesSet) (P := P_X3_refusesSet) (M := M_X3_refusesSet) (nL := 3) (ty := 0) (by decide) rfl rfl tk_X3 pk_X3_refusesSet ck_X3_refusesSet (ab_CT'.cons (mt_X3_isPlace l) (ab_CT'.cons (mt_X3_isValue l) ab_CT'.nil)) (fun av cs Q h => vc_X3_refusesSet h)
theorem vc_X3_refusesBy {av : List ab_V} {cs : List ab_C} {Q : ab_Q} (h : sp_X3_refusesBy av cs Q) : (ab_lv0 av).length ≤ 5 ∧ ab_R E_X3_refusesBy P_X3_refusesBy Q 0 (ab_ent av 5) [] cs := by
  obtain ⟨s, z, g, q, a, b, v, rfl, rfl, hR, hW, ha, hb, hv, hQ⟩ := h
  refine ⟨Nat.le_of_ble_eq_true rfl, ?_⟩
  unfold mq_eBy at hQ
  have hin := mq_eSpan_in q a b
  refine b_X3_refusesBy_0 ⟨_, _, _, _, _, _, rfl, rfl, hR, hW, ha, hb, _, rfl, rfl, ?_⟩
  refine b_X3_refusesBy_6 (fun h => ?_) (fun h => ⟨_, rfl, hv, _, rfl, rfl, ?_⟩)
  · rwa [if_neg h] at hQ
  · rw [if_pos h] at hQ
    by_cases y2 : mq_vl v
    · rw [if_pos y2] at hQ ⊢
      refine b_X3_refusesBy_17 (fun _ => ?_) (fun h => by omega)
      rw [h]; exact hQ
    · rw [if_neg y2] at hQ ⊢
      exact b_X3_refusesBy_17 (fun h => absurd rfl h) (fun _ => hQ)
theorem mt_X3_refusesBy (l : Launch) : ab_MT l mi_X3_refusesBy sp_X3_refusesBy := ab_MT.of (own := "RootChunksModel") (E := E_X3_refusesBy) (P := P_X3_refusesBy) (M := M_X3_refusesBy) (nL := 5) (ty := 0) (by decide) rfl rfl tk_X3 pk_X3_refusesBy ck_X3_refusesBy (ab_CT'.cons (mt_X3_refusesSpan l) (ab_CT'.cons (mt_X3_isValue l) ab_CT'.nil)) (fun av cs Q h => vc_X3_refusesBy h)
theorem vc_X3_refusesAdd {av : List ab_V} {cs : List ab_C} {Q : ab_Q} (h : sp_X3_refusesAdd av cs Q) : (ab_lv0 av).length ≤ 6 ∧ ab_R E_X3_refusesAdd P_X3_refusesAdd Q 0 (ab_ent av 6) [] cs := by
  obtain ⟨s, z, g, q, a, b, v, rfl, rfl, hR, hW, ha, hb, hv, hQ⟩ := h
  refine ⟨Nat.le_of_ble_eq_true rfl, ?_⟩
  have hfl := hW.2
  have hin := mq_eBy_in q a b v
  refine b_X3_refusesAdd_0 ⟨_, _, _, _, _, _, _, rfl, rfl, hR, hW, ha, hb, hv, _, rfl, rfl, ?_⟩
  refine b_X3_refusesAdd_7 ?_
  unfold mq_eAdd at hQ
  by_cases y : mq_eBy q a b v = 0
  · rw [if_pos y] at hQ
    rw [y]
    obtain ⟨y1, y2⟩ := mq_eBy_0 y
    have y3 := mq_eSpan_0 y1
    unfold mq_n at y3
    unfold mq_vl at y2
    unfold ab_r at ha hb
    have loop : ∀ (m : Nat) (p : Int), b + 1 - p = m → a ≤ p → Q (some (.inl (if mq_fits v (mq_sp q p b) = true then 0 else -5))) (md_cs s z g) → ab_R E_X3_refusesAdd P_X3_refusesAdd Q 12 [some (.inr (.inl (some 0))), some (.inl a), some (.inl b), some (.inl v), some (.inl 0), some (.inl p)] [] (md_cs s z g) := by
      intro m
      induction m with
      | zero =>
        intro p g1 g2 g3
        rw [mq_sp_nil q p b (by omega)] at g3
        exact b_X3_refusesAdd_12 (fun _ => g3) (fun h => by omega) (fun h => by omega)
      | succ m ih =>
        intro p g1 g2 g3
        obtain ⟨x, hx, e⟩ := mq_sp_cons (q := q) (p := p) (b := b) (by omega) (by omega) (by unfold mq_n; omega)
        have hxin := mq_all_in hW x (List.mem_of_getElem? hx)
        rw [e] at g3
        refine b_X3_refusesAdd_12 (fun h => by omega) (fun _ h => absurd rfl h) (fun _ _ => ⟨_, _, _, q, _, p.toNat, x, rfl, rfl, hR, hW, by omega, hx, _, rfl, rfl, ?_⟩)
        refine b_X3_refusesAdd_29 ⟨_, _, _, rfl, by unfold ab_r; omega, by unfold ab_r; omega, by unfold ab_r; omega, _, rfl, rfl, ?_⟩
        by_cases w : -99999 ≤ x + v ∧ x + v ≤ 99999
        · rw [if_pos w]
          refine b_X3_refusesAdd_38 (fun h => by omega) (fun _ => ih _ (by omega) (by omega) ?_)
          have : mq_fits v (x :: mq_sp q (p + 1) b) = mq_fits v (mq_sp q (p + 1) b) := by
            unfold mq_fits
            rw [List.all_cons, decide_eq_true w, Bool.true_and]
          rwa [this] at g3
        · rw [if_neg w]
          have : mq_fits v (x :: mq_sp q (p + 1) b) = false := by
            unfold mq_fits
            rw [List.all_cons, decide_eq_false w, Bool.false_and]
          rw [this, if_neg (by simp)] at g3
          refine b_X3_refusesAdd_38 (fun _ => ?_) (fun h => absurd rfl h)
          by_cases w2 : b < p + 1
          · exact b_X3_refusesAdd_12 (fun _ => g3) (fun h => by omega) (fun h => by omega)
          · exact b_X3_refusesAdd_12 (fun h => by omega) (fun _ _ => g3) (fun _ h => by omega)
    exact loop (b + 1 - a).toNat a (by omega) (by omega) hQ
  · rw [if_neg y] at hQ
    by_cases w2 : b < a
    · exact b_X3_refusesAdd_12 (fun _ => hQ) (fun h => by omega) (fun h => by omega) (p1 := ⟨ha, hb⟩)
    · exact b_X3_refusesAdd_12 (fun h => by omega) (fun _ _ => hQ) (fun _ h => absurd h y) (p1 := ⟨ha, hb⟩)
theorem mt_X3_refusesAdd (l : Launch) : ab_MT l mi_X3_refusesAdd sp_X3_refusesAdd := ab_MT.of (own := "RootChunksModel") (E := E_X3_refusesAdd) (P := P_X3_refusesAdd) (M := M_X3_refusesAdd) (nL := 6) (ty := 0) (by decide) rfl rfl tk_X3 pk_X3_refusesAdd ck_X3_refusesAdd (ab_CT'.cons (mt_X3_refusesBy l) (ab_CT'.cons (mt_X3_valueAt l) (ab_CT'.cons (mt_X3_in l) ab_CT'.nil))) (fun av cs Q h => vc_X3_refusesAdd h)
theorem vc_X3_refusesMove {av : List ab_V} {cs : List ab_C} {Q : ab_Q} (h : sp_X3_refusesMove av cs Q) : (ab_lv0 av).length ≤ 5 ∧ ab_R E_X3_refusesMove P_X3_refusesMove Q 0 (ab_ent av 5) [] cs := by
  obtain ⟨s, z, g, q, a, b, p, rfl, rfl, hR, hW, ha, hb, hp, hQ⟩ := h
  refine ⟨Nat.le_of_ble_eq_true rfl, ?_⟩
  have hn : s 0 = ((mq_flat q).length : Nat) := hR.2.2.2.2.1
  have hfl := hW.2
  unfold mq_eMove at hQ
  have e : mq_n q = s 0 := hn.symm
  rw [e] at hQ
  have hin := mq_eSpan_in q a b
  refine b_X3_refusesMove_0 ⟨_, _, _, _, _, _, rfl, rfl, hR, hW, ha, hb, _, rfl, rfl, ?_⟩
  refine b_X3_refusesMove_6 (fun h => ?_) (fun h => ?_)
  · rwa [if_neg h] at hQ
  · rw [if_pos h] at hQ
    have y3 := mq_eSpan_0 h
    rw [e] at y3
    refine ⟨_, _, _, rfl, hp, by unfold ab_r; omega, by unfold ab_r; omega, _, rfl, rfl, ?_⟩
    by_cases y2 : 0 ≤ p ∧ p ≤ s 0 - (b - a + 1)
    · rw [if_pos y2] at hQ ⊢
      refine b_X3_refusesMove_30 (fun _ => ?_) (fun h => by omega)
      rw [h]; exact hQ
    · rw [if_neg y2] at hQ ⊢
      exact b_X3_refusesMove_30 (fun h => absurd rfl h) (fun _ => hQ)
theorem mt_X3_refusesMove (l : Launch) : ab_MT l mi_X3_refusesMove sp_X3_refusesMove := ab_MT.of (own := "RootChunksModel") (E := E_X3_refusesMove) (P := P_X3_refusesMove) (M := M_X3_refusesMove) (nL := 5) (ty := 0) (by decide) rfl rfl tk_X3 pk_X3_refusesMove ck_X3_refusesMove (ab_CT'.cons (mt_X3_refusesSpan l) (ab_CT'.cons (mt_X3_in l) ab_CT'.nil)) (fun av cs Q h => vc_X3_refusesMove h)
end
section
/-! THE REFERENCE: what is remembered, and some counts -/
def mh_st (s : Int → Int) (x : List mq_K × Int) : Prop := mq_R (md_v s) x.1 ∧ mq_W x.1 ∧ s 2 = x.2
def mh_U (un : Int → Int) (um : Int) (h : List (List mq_K × Int)) : Prop := um = (h.length : Nat) ∧ h.length ≤ 6 ∧ ∀ (i : Nat) (x : List mq_K × Int), h[i]? = some x → mh_st (fun k => un (255 * i + k)) x
def mh_push (h : List (List mq_K × Int)) (x : List mq_K × Int) : List (List mq_K × Int) := (if h.length = 6 then h.drop 1 else h) ++ [x]
theorem mh_st_ext {s s' : Int → Int} {x : List mq_K × Int} (h : mh_st s x) (e : ∀ j : Int, 0 ≤ j → j < 255 → s' j = s j) : mh_st s' x := by
  obtain ⟨hR, hW, hw⟩ := h
  have hcl := hW.chunks
  have hfl := hW.2
  refine ⟨mq_R_ext2 hR (fun j j1 j2 => e _ (by omega) (by omega)) (fun j j1 j2 => e _ (by omega) (by omega)) (fun j j1 j2 => e _ (by omega) (by omega)) (fun j j1 j2 => e _ (by omega) (by omega)) (e 0 (by omega) (by omega)) (e 1 (by omega) (by omega)), hW, ?_⟩
  rw [e 2 (by omega) (by omega)]; exact hw
def mf_rol (q : List mq_K) (a b c : Int) : List mq_K × Int := if c % (b - a + 1) = 0 then (q, 0) else mq_mov q a.toNat (c % (b - a + 1)).toNat (b + 1 - c % (b - a + 1)).toNat
def mf_less (v : Int) (l : List Int) : Int := (l.countP (fun x => decide (x < v)) : Nat)
def mf_like (v : Int) (l : List Int) : Int := (l.countP (fun x => decide (x = v)) : Nat)
def sp_X3_records : ab_Sp := fun av cs Q => ∃ (s : Int → Int) (z : mc_T) (th : Int) (as un : Int → Int) (um : Int) (sl hs pd : Int → Int) (ln at_ iw : Int) (os : Int → Int) (om : Int) (x : List mq_K × Int) (h : List (List mq_K × Int)), av = [.inr (.inl (some 0))] ∧ cs = md_cs s z (th, as, un, um, sl, hs, pd, ln, at_, iw, os, om) ∧ mh_st s x ∧ mh_U un um h ∧
  ∀ (un' : Int → Int) (um' : Int), mh_U un' um' (mh_push h x) → Q none (md_cs s z (th, as, un', um', sl, hs, pd, ln, at_, iw, os, om))
def sp_X3_rotates : ab_Sp := fun av cs Q => ∃ (s : Int → Int) (z : mc_T) (g : mg_T) (q : List mq_K) (a b v : Int), av = [.inr (.inl (some 0)), .inl a, .inl b, .inl v] ∧ cs = md_cs s z g ∧ mq_R (md_v s) q ∧ mq_W q ∧ mq_eBy q a b v = 0 ∧
  ∀ (s' : Int → Int) (z' : mc_T), mq_R (md_v s') (mq_ev (mf_rol q a b v).1).1 → s' 2 = s 2 + (mf_rol q a b v).2 + (mq_ev (mf_rol q a b v).1).2 → Q none (md_cs s' z' g)
def sp_X3_longest : ab_Sp := fun av cs Q => ∃ (s : Int → Int) (z : mc_T) (g : mg_T) (q : List mq_K), av = [.inr (.inl (some 0))] ∧ cs = md_cs s z g ∧ mq_R (md_v s) q ∧ mq_W q ∧ Q (some (.inl (mq_lg q 0))) (md_cs s z g)
def sp_X3_waiting : ab_Sp := fun av cs Q => ∃ (s : Int → Int) (z : mc_T) (g : mg_T) (q : List mq_K) (a r : Int), av = [.inr (.inl (some 0)), .inl a] ∧ cs = md_cs s z g ∧ mq_R (md_v s) q ∧ mq_W q ∧ (a = 127 ∧ r = mq_wt q 0 ∨ a = 191 ∧ r = mq_ws q 0) ∧ Q (some (.inl r)) (md_cs s z g)
def sp_X3_lesser : ab_Sp := fun av cs Q => ∃ (s : Int → Int) (z : mc_T) (g : mg_T) (q : List mq_K) (a b v : Int), av = [.inr (.inl (some 0)), .inl a, .inl b, .inl v] ∧ cs = md_cs s z g ∧ mq_R (md_v s) q ∧ mq_W q ∧ 0 ≤ a ∧ a ≤ b + 1 ∧ b < mq_n q ∧ -99999 ≤ v ∧ v ≤ 99999 ∧ Q (some (.inl (mf_less v (mq_sp q a b)))) (md_cs s z g)
def sp_X3_alike : ab_Sp := fun av cs Q => ∃ (s : Int → Int) (z : mc_T) (g : mg_T) (q : List mq_K) (a b v : Int), av = [.inr (.inl (some 0)), .inl a, .inl b, .inl v] ∧ cs = md_cs s z g ∧ mq_R (md_v s) q ∧ mq_W q ∧ 0 ≤ a ∧ a ≤ b + 1 ∧ b < mq_n q ∧ -99999 ≤ v ∧ v ≤ 99999 ∧ Q (some (.inl (mf_like v (mq_sp q a b)))) (md_cs s z g)
-- ===== RootChunksModel.records
def P_X3_records : List ab_I := [(0, .aload_n 0, 1, []), (1, .getfield 51, 4, []), (4, .bipush 6, 6, []), (6, .if_icmp .ne 44, 9, [((0 : Int), 50)]), (9, .iconst 0, 10, []), (10, .istore_n 1, 11, []), (11, .iload_n 1, 12, []), (12, .sipush 1275, 15, []), (15, .if_icmp .ge 25, 18, [((0 : Int), 40)]), (18, .aload_n 0, 19, []), (19, .getfield 16, 22, []), (22, .iload_n 1, 23, []), (23, .aload_n 0, 24, []), (24, .getfield 16, 27, []), (27, .iload_n 1, 28, []), (28, .sipush 255, 31, []), (31, .iadd, 32, []), (32, .iaload, 33, []), (33, .iastore, 34, []), (34, .iinc 1 1, 37, []), (37, .goto (-26), 40, [((0 : Int), 11)]), (40, .aload_n 0, 41, []), (41, .dup, 42, []), (42, .getfield 51, 45, []), (45, .iconst 1, 46, []), (46, .isub, 47, []), (47, .putfield 51, 50, []), (50, .iconst 0, 51, []), (51, .istore_n 1, 52, []), (52, .iload_n 1, 53, []), (53, .sipush 255, 56, []), (56, .if_icmp .ge 30, 59, [((0 : Int), 86)]), (59, .aload_n 0, 60, []), (60, .getfield 16, 63, []), (63, .sipush 255, 66, []), (66, .aload_n 0, 67, []), (67, .getfield 51, 70, []), (70, .imul, 71, []), (71, .iload_n 1, 72, []), (72, .iadd, 73, []), (73, .aload_n 0, 74, []), (74, .getfield 7, 77, []), (77, .iload_n 1, 78, []), (78, .iaload, 79, []), (79, .iastore, 80, []), (80, .iinc 1 1, 83, []), (83, .goto (-31), 86, [((0 : Int), 52)]), (86, .aload_n 0, 87, []), (87, .dup, 88, []), (88, .getfield 51, 91, []), (91, .iconst 1, 92, []), (92, .iadd, 93, []), (93, .putfield 51, 96, []), (96, .return_, 97, [])]
def E_X3_records : ab_E := (T_X3, [], [], 9)
def M_X3_records : List (Nat × ab_MI) := []
def mi_X3_records : ab_MI := (yX3_records, cX3_records, 2, ab_rty 9, 1, 70)
theorem pk_X3_records : P_X3_records.all (ab_okI cX3_records) = true := by decide +kernel
theorem ck_X3_records : P_X3_records.all (ab_okC1 "RootChunksModel" M_X3_records E_X3_records (1, 70)) = true := by decide +kernel
set_option maxRecDepth 100000 in
theorem b_X3_records_0 {Q : ab_Q} {s_ : Int → Int} {z_ : mc_T} {g_th : Int} {g_as : Int → Int} {g_un : Int → Int} {g_um : Int} {g_sl : Int → Int} {g_hs : Int → Int} {g_pd : Int → Int} {g_ln : Int} {g_at : Int} {g_iw : Int} {g_os : Int → Int} {g_om : Int} (l1 : ¬ g_um = (6 : Int) → ab_R E_X3_records P_X3_records Q 52 [some (.inr (.inl (some 0))), some (.inl 0)] [] (md_cs s_ z_ (g_th, g_as, g_un, g_um, g_sl, g_hs, g_pd, g_ln, g_at, g_iw, g_os, g_om))) (l2 : g_um = (6 : Int) → ab_R E_X3_records P_X3_records Q 11 [some (.inr (.inl (some 0))), some (.inl 0)] [] (md_cs s_ z_ (g_th, g_as, g_un, g_um, g_sl, g_hs, g_pd, g_ln, g_at, g_iw, g_os, g_om))) (p1 : (ab_r g_um ∧ ab_r 6) := by intros; (try unfold ab_r); omega) : ab_R E_X3_records P_X3_records Q 0 [some (.inr (.inl (some 0))), none] [] (md_cs s_ z_ (g_th, g_as, g_un, g_um, g_sl, g_hs, g_pd, g_ln, g_at, g_iw, g_os, g_om)) :=
  ab_R.steps [11, 52] 8 (show ((ab_r g_um ∧ ab_r 6) ∧ ((¬ g_um = (6 : Int) → ab_R E_X3_records P_X3_records Q 52 [some (.inr (.inl (some 0))), some (.inl 0)] [] (md_cs s_ z_ (g_th, g_as, g_un, g_um, g_sl, g_hs, g_pd, g_ln, g_at, g_iw, g_os, g_om))) ∧ (g_um = (6 : Int) → ab_R E_X3_records P_X3_records Q 11 [some (.inr (.inl (some 0))), some (.inl 0)] [] (md_cs s_ z_ (g_th, g_as, g_un, g_um, g_sl, g_hs, g_pd, g_ln, g_at, g_iw, g_os, g_om))))) from ⟨p1, ⟨fun h1 => (l1 h1), fun h2 => (l2 h2)⟩⟩)
set_option maxRecDepth 100000 in
theorem b_X3_records_11 {Q : ab_Q} {k : Int} {s_ : Int → Int} {z_ : mc_T} {g_th : Int} {g_as : Int → Int} {g_un : Int → Int} {g_um : Int} {g_sl : Int → Int} {g_hs : Int → Int} {g_pd : Int → Int} {g_ln : Int} {g_at : Int} {g_iw : Int} {g_os : Int → Int} {g_om : Int} (l1 : (1275 : Int) ≤ k → ab_R E_X3_records P_X3_records Q 52 [some (.inr (.inl (some 0))), some (.inl 0)] [] (md_cs s_ z_ (g_th, g_as, g_un, (g_um - 1), g_sl, g_hs, g_pd, g_ln, g_at, g_iw, g_os, g_om))) (l2 : k < (1275 : Int) → ab_R E_X3_records P_X3_records Q 11 [some (.inr (.inl (some 0))), some (.inl (k + 1))] [] (md_cs s_ z_ (g_th, g_as, (ab_up g_un k (g_un (k + 255))), g_um, g_sl, g_hs, g_pd, g_ln, g_at, g_iw, g_os, g_om))) (p1 : (ab_r k ∧ ab_r 1275) := by intros; (try unfold ab_r); omega) (p2 : k < (1275 : Int) → (0 ≤ (k + 255) ∧ (k + 255) < 1530) := by intros; (try unfold ab_r); omega) (p3 : k < (1275 : Int) → (0 ≤ k ∧ k < 1530) := by intros; (try unfold ab_r); omega) : ab_R E_X3_records P_X3_records Q 11 [some (.inr (.inl (some 0))), some (.inl k)] [] (md_cs s_ z_ (g_th, g_as, g_un, g_um, g_sl, g_hs, g_pd, g_ln, g_at, g_iw, g_os, g_om)) :=
  ab_R.steps [11, 52] 17 (show ((ab_r k ∧ ab_r 1275) ∧ (((1275 : Int) ≤ k → ab_R E_X3_records P_X3_records Q 52 [some (.inr (.inl (some 0))), some (.inl 0)] [] (md_cs s_ z_ (g_th, g_as, g_un, (g_um - 1), g_sl, g_hs, g_pd, g_ln, g_at, g_iw, g_os, g_om))) ∧ (k < (1275 : Int) → ((0 ≤ (k + 255) ∧ (k + 255) < 1530) ∧ ((0 ≤ k ∧ k < 1530) ∧ ab_R E_X3_records P_X3_records Q 11 [some (.inr (.inl (some 0))), some (.inl (k + 1))] [] (md_cs s_ z_ (g_th, g_as, (ab_up g_un k (g_un (k + 255))), g_um, g_sl, g_hs, g_pd, g_ln, g_at, g_iw, g_os, g_om))))))) from ⟨p1, ⟨fun h1 => (l1 h1), fun h2 => ⟨(p2 h2), ⟨(p3 h2), (l2 h2)⟩⟩⟩⟩)
set_option maxRecDepth 100000 in
theorem b_X3_records_52 {Q : ab_Q} {k : Int} {s_ : Int → Int} {z_ : mc_T} {g_th : Int} {g_as : Int → Int} {g_un : Int → Int} {g_um : Int} {g_sl : Int → Int} {g_hs : Int → Int} {g_pd : Int → Int} {g_ln : Int} {g_at : Int} {g_iw : Int} {g_os : Int → Int} {g_om : Int} (l1 : (255 : Int) ≤ k → Q none (md_cs s_ z_ (g_th, g_as, g_un, (g_um + 1), g_sl, g_hs, g_pd, g_ln, g_at, g_iw, g_os, g_om))) (l2 : k < (255 : Int) → ab_R E_X3_records P_X3_records Q 52 [some (.inr (.inl (some 0))), some (.inl (k + 1))] [] (md_cs s_ z_ (g_th, g_as, (ab_up g_un ((255 * g_um) + k) (s_ k)), g_um, g_sl, g_hs, g_pd, g_ln, g_at, g_iw, g_os, g_om))) (p1 : (ab_r k ∧ ab_r 255) := by intros; (try unfold ab_r); omega) (p2 : k < (255 : Int) → (0 ≤ k ∧ k < 255) := by intros; (try unfold ab_r); omega) (p3 : k < (255 : Int) → (0 ≤ ((255 * g_um) + k) ∧ ((255 * g_um) + k) < 1530) := by intros; (try unfold ab_r); omega) : ab_R E_X3_records P_X3_records Q 52 [some (.inr (.inl (some 0))), some (.inl k)] [] (md_cs s_ z_ (g_th, g_as, g_un, g_um, g_sl, g_hs, g_pd, g_ln, g_at, g_iw, g_os, g_om)) :=
  ab_R.steps [11, 52] 20 (show ((ab_r k ∧ ab_r 255) ∧ (((255 : Int) ≤ k → Q none (md_cs s_ z_ (g_th, g_as, g_un, (g_um + 1), g_sl, g_hs, g_pd, g_ln, g_at, g_iw, g_os, g_om))) ∧ (k < (255 : Int) → ((0 ≤ k ∧ k < 255) ∧ ((0 ≤ ((255 * g_um) + k) ∧ ((255 * g_um) + k) < 1530) ∧ ab_R E_X3_records P_X3_records Q 52 [some (.inr (.inl (some 0))), some (.inl (k + 1))] [] (md_cs s_ z_ (g_th, g_as, (ab_up g_un ((255 * g_um) + k) (s_ k)), g_um, g_sl, g_hs, g_pd, g_ln, g_at, g_iw, g_os, g_om))))))) from ⟨p1, ⟨fun h1 => (l1 h1), fun h2 => ⟨(p2 h2), ⟨(p3 h2), (l2 h2)⟩⟩⟩⟩)
-- ===== RootChunksModel.rotates
def P_X3_rotates : List ab_I := [(0, .iload_n 2, 1, []), (1, .iload_n 1, 2, []), (2, .isub, 3, []), (3, .iconst 1, 4, []), (4, .iadd, 5, []), (5, .istore 4, 7, []), (7, .iload_n 3, 8, []), (8, .iload 4, 10, []), (10, .irem, 11, []), (11, .istore 5, 13, []), (13, .iload 5, 15, []), (15, .ifCond .ge 11, 18, [((0 : Int), 26)]), (18, .iload 5, 20, []), (20, .iload 4, 22, []), (22, .iadd, 23, []), (23, .goto 5, 26, [((0 : Int), 28)]), (26, .iload 5, 28, []), (28, .istore 5, 30, []), (30, .iload 5, 32, []), (32, .ifCond .le 21, 35, [((0 : Int), 53)]), (35, .aload_n 0, 36, []), (36, .iload_n 1, 37, []), (37, .iload_n 1, 38, []), (38, .iload 5, 40, []), (40, .iadd, 41, []), (41, .iconst 1, 42, []), (42, .isub, 43, []), (43, .iload_n 1, 44, []), (44, .iload 4, 46, []), (46, .iadd, 47, []), (47, .iload 5, 49, []), (49, .isub, 50, []), (50, .invokevirtual 112, 53, []), (53, .aload_n 0, 54, []), (54, .invokevirtual 85, 57, []), (57, .return_, 58, [])]
def E_X3_rotates : ab_E := (T_X3, [(50, (4, 3, [], 0, sp_X3_shifts)), (54, (1, 3, [], 0, sp_X3_evens))], [], 9)
def M_X3_rotates : List (Nat × ab_MI) := [(50, mi_X3_shifts), (54, mi_X3_evens)]
def mi_X3_rotates : ab_MI := (yX3_rotates, cX3_rotates, 6, ab_rty 9, 6, 194)
theorem pk_X3_rotates : P_X3_rotates.all (ab_okI cX3_rotates) = true := by decide +kernel
theorem ck_X3_rotates : P_X3_rotates.all (ab_okC1 "RootChunksModel" M_X3_rotates E_X3_rotates (6, 194)) = true := by decide +kernel
set_option maxRecDepth 100000 in
theorem b_X3_rotates_0 {Q : ab_Q} {a : Int} {b : Int} {v : Int} {s_ : Int → Int} {z_ : mc_T} {g_ : mg_T} (l1 : (0 : Int) ≤ ((v).tmod ((b - a) + 1)) → ((v).tmod ((b - a) + 1)) ≤ (0 : Int) → ab_R E_X3_rotates P_X3_rotates Q 53 [some (.inr (.inl (some 0))), some (.inl a), some (.inl b), some (.inl v), some (.inl ((b - a) + 1)), some (.inl ((v).tmod ((b - a) + 1)))] [] (md_cs s_ z_ g_)) (l2 : (0 : Int) ≤ ((v).tmod ((b - a) + 1)) → (0 : Int) < ((v).tmod ((b - a) + 1)) → sp_X3_shifts [.inr (.inl (some 0)), .inl a, .inl ((a + ((v).tmod ((b - a) + 1))) - 1), .inl ((a + ((b - a) + 1)) - ((v).tmod ((b - a) + 1)))] (md_cs s_ z_ g_) (fun r_ k_ => ∃ (s_' : Int → Int), ∃ (z_' : mc_T), ∃ (g_' : mg_T), r_ = none ∧ k_ = (md_cs (s_') z_' g_') ∧ ab_R E_X3_rotates P_X3_rotates Q 53 [some (.inr (.inl (some 0))), some (.inl a), some (.inl b), some (.inl v), some (.inl ((b - a) + 1)), some (.inl ((v).tmod ((b - a) + 1)))] [] (md_cs (s_') z_' g_'))) (l3 : ((v).tmod ((b - a) + 1)) < (0 : Int) → (((v).tmod ((b - a) + 1)) + ((b - a) + 1)) ≤ (0 : Int) → ab_R E_X3_rotates P_X3_rotates Q 53 [some (.inr (.inl (some 0))), some (.inl a), some (.inl b), some (.inl v), some (.inl ((b - a) + 1)), some (.inl (((v).tmod ((b - a) + 1)) + ((b - a) + 1)))] [] (md_cs s_ z_ g_)) (l4 : ((v).tmod ((b - a) + 1)) < (0 : Int) → (0 : Int) < (((v).tmod ((b - a) + 1)) + ((b - a) + 1)) → sp_X3_shifts [.inr (.inl (some 0)), .inl a, .inl ((a + (((v).tmod ((b - a) + 1)) + ((b - a) + 1))) - 1), .inl ((a + ((b - a) + 1)) - (((v).tmod ((b - a) + 1)) + ((b - a) + 1)))] (md_cs s_ z_ g_) (fun r_ k_ => ∃ (s_' : Int → Int), ∃ (z_' : mc_T), ∃ (g_' : mg_T), r_ = none ∧ k_ = (md_cs (s_') z_' g_') ∧ ab_R E_X3_rotates P_X3_rotates Q 53 [some (.inr (.inl (some 0))), some (.inl a), some (.inl b), some (.inl v), some (.inl ((b - a) + 1)), some (.inl (((v).tmod ((b - a) + 1)) + ((b - a) + 1)))] [] (md_cs (s_') z_' g_'))) (p1 : (ab_r v ∧ ab_r ((b - a) + 1) ∧ ¬ ((b - a) + 1) = 0) := by intros; (try unfold ab_r); omega) (p2 : ab_r ((v).tmod ((b - a) + 1)) := by intros; (try unfold ab_r); omega) (p3 : (0 : Int) ≤ ((v).tmod ((b - a) + 1)) → ab_r ((v).tmod ((b - a) + 1)) := by intros; (try unfold ab_r); omega) (p4 : ((v).tmod ((b - a) + 1)) < (0 : Int) → ab_r (((v).tmod ((b - a) + 1)) + ((b - a) + 1)) := by intros; (try unfold ab_r); omega) : ab_R E_X3_rotates P_X3_rotates Q 0 [some (.inr (.inl (some 0))), some (.inl a), some (.inl b), some (.inl v), none, none] [] (md_cs s_ z_ g_) :=
  ab_R.steps [53, 57] 33 (show ((ab_r v ∧ ab_r ((b - a) + 1) ∧ ¬ ((b - a) + 1) = 0) ∧ (ab_r ((v).tmod ((b - a) + 1)) ∧ (((0 : Int) ≤ ((v).tmod ((b - a) + 1)) → (ab_r ((v).tmod ((b - a) + 1)) ∧ ((((v).tmod ((b - a) + 1)) ≤ (0 : Int) → ab_R E_X3_rotates P_X3_rotates Q 53 [some (.inr (.inl (some 0))), some (.inl a), some (.inl b), some (.inl v), some (.inl ((b - a) + 1)), some (.inl ((v).tmod ((b - a) + 1)))] [] (md_cs s_ z_ g_)) ∧ ((0 : Int) < ((v).tmod ((b - a) + 1)) → ab_cl sp_X3_shifts [.inr (.inl (some 0)), .inl a, .inl ((a + ((v).tmod ((b - a) + 1))) - 1), .inl ((a + ((b - a) + 1)) - ((v).tmod ((b - a) + 1)))] (md_cs s_ z_ g_) (fun r_ k_ => k_.length = ((md_cs s_ z_ g_)).length → ab_R E_X3_rotates P_X3_rotates Q 53 [some (.inr (.inl (some 0))), some (.inl a), some (.inl b), some (.inl v), some (.inl ((b - a) + 1)), some (.inl ((v).tmod ((b - a) + 1)))] (ab_ret r_ []) k_))))) ∧ (((v).tmod ((b - a) + 1)) < (0 : Int) → (ab_r (((v).tmod ((b - a) + 1)) + ((b - a) + 1)) ∧ (((((v).tmod ((b - a) + 1)) + ((b - a) + 1)) ≤ (0 : Int) → ab_R E_X3_rotates P_X3_rotates Q 53 [some (.inr (.inl (some 0))), some (.inl a), some (.inl b), some (.inl v), some (.inl ((b - a) + 1)), some (.inl (((v).tmod ((b - a) + 1)) + ((b - a) + 1)))] [] (md_cs s_ z_ g_)) ∧ ((0 : Int) < (((v).tmod ((b - a) + 1)) + ((b - a) + 1)) → ab_cl sp_X3_shifts [.inr (.inl (some 0)), .inl a, .inl ((a + (((v).tmod ((b - a) + 1)) + ((b - a) + 1))) - 1), .inl ((a + ((b - a) + 1)) - (((v).tmod ((b - a) + 1)) + ((b - a) + 1)))] (md_cs s_ z_ g_) (fun r_ k_ => k_.length = ((md_cs s_ z_ g_)).length → ab_R E_X3_rotates P_X3_rotates Q 53 [some (.inr (.inl (some 0))), some (.inl a), some (.inl b), some (.inl v), some (.inl ((b - a) + 1)), some (.inl (((v).tmod ((b - a) + 1)) + ((b - a) + 1)))] (ab_ret r_ []) k_)))))))) from ⟨p1, ⟨p2, ⟨fun h1 => ⟨(p3 h1), ⟨fun h2 => (l1 h1 h2), fun h3 => ⟨_, (l2 h1 h3), fun r_ k_ hz _ => by obtain ⟨s_', z_', g_', rfl, rfl, hR⟩ := hz; exact hR⟩⟩⟩, fun h4 => ⟨(p4 h4), ⟨fun h5 => (l3 h4 h5), fun h6 => ⟨_, (l4 h4 h6), fun r_ k_ hz _ => by obtain ⟨s_', z_', g_', rfl, rfl, hR⟩ := hz; exact hR⟩⟩⟩⟩⟩⟩)
set_option maxRecDepth 100000 in
theorem b_X3_rotates_53 {Q : ab_Q} {a : Int} {b : Int} {v : Int} {mn : Int} {fi : Int} {s_ : Int → Int} {z_ : mc_T} {g_ : mg_T} (l1 : sp_X3_evens [.inr (.inl (some 0))] (md_cs s_ z_ g_) (fun r_ k_ => ∃ (s_' : Int → Int), ∃ (z_' : mc_T), ∃ (g_' : mg_T), r_ = none ∧ k_ = (md_cs (s_') z_' g_') ∧ ab_R E_X3_rotates P_X3_rotates Q 57 [some (.inr (.inl (some 0))), some (.inl a), some (.inl b), some (.inl v), some (.inl mn), some (.inl fi)] [] (md_cs (s_') z_' g_')))  : ab_R E_X3_rotates P_X3_rotates Q 53 [some (.inr (.inl (some 0))), some (.inl a), some (.inl b), some (.inl v), some (.inl mn), some (.inl fi)] [] (md_cs s_ z_ g_) :=
  ab_R.steps [53, 57] 3 (show ab_cl sp_X3_evens [.inr (.inl (some 0))] (md_cs s_ z_ g_) (fun r_ k_ => k_.length = ((md_cs s_ z_ g_)).length → ab_R E_X3_rotates P_X3_rotates Q 57 [some (.inr (.inl (some 0))), some (.inl a), some (.inl b), some (.inl v), some (.inl mn), some (.inl fi)] (ab_ret r_ []) k_) from ⟨_, l1, fun r_ k_ hz _ => by obtain ⟨s_', z_', g_', rfl, rfl, hR⟩ := hz; exact hR⟩)
set_option maxRecDepth 100000 in
theorem b_X3_rotates_57 {Q : ab_Q} {a : Int} {b : Int} {v : Int} {mn : Int} {fi : Int} {s_ : Int → Int} {z_ : mc_T} {g_ : mg_T} (l1 : Q none (md_cs s_ z_ g_))  : ab_R E_X3_rotates P_X3_rotates Q 57 [some (.inr (.inl (some 0))), some (.inl a), some (.inl b), some (.inl v), some (.inl mn), some (.inl fi)] [] (md_cs s_ z_ g_) :=
  ab_R.steps [53, 57] 2 (show Q none (md_cs s_ z_ g_) from l1)
-- ===== RootChunksModel.longest
def P_X3_longest : List ab_I := [(0, .iconst 0, 1, []), (1, .istore_n 1, 2, []), (2, .iconst 0, 3, []), (3, .istore_n 2, 4, []), (4, .iload_n 2, 5, []), (5, .aload_n 0, 6, []), (6, .getfield 7, 9, []), (9, .iconst 1, 10, []), (10, .iaload, 11, []), (11, .if_icmp .ge 36, 14, [((0 : Int), 47)]), (14, .aload_n 0, 15, []), (15, .getfield 7, 18, []), (18, .bipush 63, 20, []), (20, .iload_n 2, 21, []), (21, .iadd, 22, []), (22, .iaload, 23, []), (23, .iload_n 1, 24, []), (24, .if_icmp .le 15, 27, [((0 : Int), 39)]), (27, .aload_n 0, 28, []), (28, .getfield 7, 31, []), (31, .bipush 63, 33, []), (33, .iload_n 2, 34, []), (34, .iadd, 35, []), (35, .iaload, 36, []), (36, .goto 4, 39, [((0 : Int), 40)]), (39, .iload_n 1, 40, []), (40, .istore_n 1, 41, []), (41, .iinc 2 1, 44, []), (44, .goto (-40), 47, [((0 : Int), 4)]), (47, .iload_n 1, 48, []), (48, .ireturn, 49, [])]
def E_X3_longest : ab_E := (T_X3, [], [], 0)
def M_X3_longest : List (Nat × ab_MI) := []
def mi_X3_longest : ab_MI := (yX3_longest, cX3_longest, 3, ab_rty 0, 1, 70)
theorem pk_X3_longest : P_X3_longest.all (ab_okI cX3_longest) = true := by decide +kernel
theorem ck_X3_longest : P_X3_longest.all (ab_okC1 "RootChunksModel" M_X3_longest E_X3_longest (1, 70)) = true := by decide +kernel
set_option maxRecDepth 100000 in
theorem b_X3_longest_0 {Q : ab_Q} {s_ : Int → Int} {z_ : mc_T} {g_ : mg_T} (l1 : ab_R E_X3_longest P_X3_longest Q 4 [some (.inr (.inl (some 0))), some (.inl 0), some (.inl 0)] [] (md_cs s_ z_ g_))  : ab_R E_X3_longest P_X3_longest Q 0 [some (.inr (.inl (some 0))), none, none] [] (md_cs s_ z_ g_) :=
  ab_R.steps [4] 6 (show ab_R E_X3_longest P_X3_longest Q 4 [some (.inr (.inl (some 0))), some (.inl 0), some (.inl 0)] [] (md_cs s_ z_ g_) from l1)
set_option maxRecDepth 100000 in
theorem b_X3_longest_4 {Q : ab_Q} {m : Int} {c : Int} {s_ : Int → Int} {z_ : mc_T} {g_ : mg_T} (l1 : (s_ 1) ≤ c → Q (some (.inl m)) (md_cs s_ z_ g_)) (l2 : c < (s_ 1) → (s_ (63 + c)) ≤ m → ab_R E_X3_longest P_X3_longest Q 4 [some (.inr (.inl (some 0))), some (.inl m), some (.inl (c + 1))] [] (md_cs s_ z_ g_)) (l3 : c < (s_ 1) → m < (s_ (63 + c)) → ab_R E_X3_longest P_X3_longest Q 4 [some (.inr (.inl (some 0))), some (.inl (s_ (63 + c))), some (.inl (c + 1))] [] (md_cs s_ z_ g_)) (p1 : (0 ≤ (1 : Int) ∧ (1 : Int) < 255) := by intros; (try unfold ab_r); omega) (p2 : (ab_r c ∧ ab_r (s_ 1)) := by intros; (try unfold ab_r); omega) (p3 : c < (s_ 1) → (0 ≤ (63 + c) ∧ (63 + c) < 255) := by intros; (try unfold ab_r); omega) (p4 : c < (s_ 1) → (ab_r (s_ (63 + c)) ∧ ab_r m) := by intros; (try unfold ab_r); omega) (p5 : c < (s_ 1) → m < (s_ (63 + c)) → (0 ≤ (63 + c) ∧ (63 + c) < 255) := by intros; (try unfold ab_r); omega) : ab_R E_X3_longest P_X3_longest Q 4 [some (.inr (.inl (some 0))), some (.inl m), some (.inl c)] [] (md_cs s_ z_ g_) :=
  ab_R.steps [4] 26 (show ((0 ≤ (1 : Int) ∧ (1 : Int) < 255) ∧ ((ab_r c ∧ ab_r (s_ 1)) ∧ (((s_ 1) ≤ c → Q (some (.inl m)) (md_cs s_ z_ g_)) ∧ (c < (s_ 1) → ((0 ≤ (63 + c) ∧ (63 + c) < 255) ∧ ((ab_r (s_ (63 + c)) ∧ ab_r m) ∧ (((s_ (63 + c)) ≤ m → ab_R E_X3_longest P_X3_longest Q 4 [some (.inr (.inl (some 0))), some (.inl m), some (.inl (c + 1))] [] (md_cs s_ z_ g_)) ∧ (m < (s_ (63 + c)) → ((0 ≤ (63 + c) ∧ (63 + c) < 255) ∧ ab_R E_X3_longest P_X3_longest Q 4 [some (.inr (.inl (some 0))), some (.inl (s_ (63 + c))), some (.inl (c + 1))] [] (md_cs s_ z_ g_)))))))))) from ⟨p1, ⟨p2, ⟨fun h1 => (l1 h1), fun h2 => ⟨(p3 h2), ⟨(p4 h2), ⟨fun h3 => (l2 h2 h3), fun h4 => ⟨(p5 h2 h4), (l3 h2 h4)⟩⟩⟩⟩⟩⟩⟩)
-- ===== RootChunksModel.waiting
def P_X3_waiting : List ab_I := [(0, .iconst 0, 1, []), (1, .istore_n 2, 2, []), (2, .iconst 0, 3, []), (3, .istore_n 3, 4, []), (4, .iload_n 3, 5, []), (5, .aload_n 0, 6, []), (6, .getfield 7, 9, []), (9, .iconst 1, 10, []), (10, .iaload, 11, []), (11, .if_icmp .ge 28, 14, [((0 : Int), 39)]), (14, .iload_n 2, 15, []), (15, .aload_n 0, 16, []), (16, .getfield 7, 19, []), (19, .iload_n 1, 20, []), (20, .iload_n 3, 21, []), (21, .iadd, 22, []), (22, .iaload, 23, []), (23, .ifCond .eq 7, 26, [((0 : Int), 30)]), (26, .iconst 1, 27, []), (27, .goto 4, 30, [((0 : Int), 31)]), (30, .iconst 0, 31, []), (31, .iadd, 32, []), (32, .istore_n 2, 33, []), (33, .iinc 3 1, 36, []), (36, .goto (-32), 39, [((0 : Int), 4)]), (39, .iload_n 2, 40, []), (40, .ireturn, 41, [])]
def E_X3_waiting : ab_E := (T_X3, [], [], 0)
def M_X3_waiting : List (Nat × ab_MI) := []
def mi_X3_waiting : ab_MI := (yX3_waiting, cX3_waiting, 4, ab_rty 0, 1, 70)
theorem pk_X3_waiting : P_X3_waiting.all (ab_okI cX3_waiting) = true := by decide +kernel
theorem ck_X3_waiting : P_X3_waiting.all (ab_okC1 "RootChunksModel" M_X3_waiting E_X3_waiting (1, 70)) = true := by decide +kernel
set_option maxRecDepth 100000 in
theorem b_X3_waiting_0 {Q : ab_Q} {a : Int} {s_ : Int → Int} {z_ : mc_T} {g_ : mg_T} (l1 : ab_R E_X3_waiting P_X3_waiting Q 4 [some (.inr (.inl (some 0))), some (.inl a), some (.inl 0), some (.inl 0)] [] (md_cs s_ z_ g_))  : ab_R E_X3_waiting P_X3_waiting Q 0 [some (.inr (.inl (some 0))), some (.inl a), none, none] [] (md_cs s_ z_ g_) :=
  ab_R.steps [4] 6 (show ab_R E_X3_waiting P_X3_waiting Q 4 [some (.inr (.inl (some 0))), some (.inl a), some (.inl 0), some (.inl 0)] [] (md_cs s_ z_ g_) from l1)
set_option maxRecDepth 100000 in
theorem b_X3_waiting_4 {Q : ab_Q} {a : Int} {n : Int} {c : Int} {s_ : Int → Int} {z_ : mc_T} {g_ : mg_T} (l1 : (s_ 1) ≤ c → Q (some (.inl n)) (md_cs s_ z_ g_)) (l2 : c < (s_ 1) → (s_ (a + c)) = (0 : Int) → ab_R E_X3_waiting P_X3_waiting Q 4 [some (.inr (.inl (some 0))), some (.inl a), some (.inl (n + 0)), some (.inl (c + 1))] [] (md_cs s_ z_ g_)) (l3 : c < (s_ 1) → ¬ (s_ (a + c)) = (0 : Int) → ab_R E_X3_waiting P_X3_waiting Q 4 [some (.inr (.inl (some 0))), some (.inl a), some (.inl (n + 1)), some (.inl (c + 1))] [] (md_cs s_ z_ g_)) (p1 : (0 ≤ (1 : Int) ∧ (1 : Int) < 255) := by intros; (try unfold ab_r); omega) (p2 : (ab_r c ∧ ab_r (s_ 1)) := by intros; (try unfold ab_r); omega) (p3 : c < (s_ 1) → (0 ≤ (a + c) ∧ (a + c) < 255) := by intros; (try unfold ab_r); omega) (p4 : c < (s_ 1) → ab_r (s_ (a + c)) := by intros; (try unfold ab_r); omega) : ab_R E_X3_waiting P_X3_waiting Q 4 [some (.inr (.inl (some 0))), some (.inl a), some (.inl n), some (.inl c)] [] (md_cs s_ z_ g_) :=
  ab_R.steps [4] 22 (show ((0 ≤ (1 : Int) ∧ (1 : Int) < 255) ∧ ((ab_r c ∧ ab_r (s_ 1)) ∧ (((s_ 1) ≤ c → Q (some (.inl n)) (md_cs s_ z_ g_)) ∧ (c < (s_ 1) → ((0 ≤ (a + c) ∧ (a + c) < 255) ∧ (ab_r (s_ (a + c)) ∧ (((s_ (a + c)) = (0 : Int) → ab_R E_X3_waiting P_X3_waiting Q 4 [some (.inr (.inl (some 0))), some (.inl a), some (.inl (n + 0)), some (.inl (c + 1))] [] (md_cs s_ z_ g_)) ∧ (¬ (s_ (a + c)) = (0 : Int) → ab_R E_X3_waiting P_X3_waiting Q 4 [some (.inr (.inl (some 0))), some (.inl a), some (.inl (n + 1)), some (.inl (c + 1))] [] (md_cs s_ z_ g_))))))))) from ⟨p1, ⟨p2, ⟨fun h1 => (l1 h1), fun h2 => ⟨(p3 h2), ⟨(p4 h2), ⟨fun h3 => (l2 h2 h3), fun h4 => (l3 h2 h4)⟩⟩⟩⟩⟩⟩)
-- ===== RootChunksModel.lesser
def P_X3_lesser : List ab_I := [(0, .iconst 0, 1, []), (1, .istore 4, 3, []), (3, .iload_n 1, 4, []), (4, .istore 5, 6, []), (6, .iload 5, 8, []), (8, .iload_n 2, 9, []), (9, .if_icmp .gt 29, 12, [((0 : Int), 38)]), (12, .iload 4, 14, []), (14, .aload_n 0, 15, []), (15, .iload 5, 17, []), (17, .invokevirtual 61, 20, []), (20, .iload_n 3, 21, []), (21, .if_icmp .ge 7, 24, [((0 : Int), 28)]), (24, .iconst 1, 25, []), (25, .goto 4, 28, [((0 : Int), 29)]), (28, .iconst 0, 29, []), (29, .iadd, 30, []), (30, .istore 4, 32, []), (32, .iinc 5 1, 35, []), (35, .goto (-29), 38, [((0 : Int), 6)]), (38, .iload 4, 40, []), (40, .ireturn, 41, [])]
def E_X3_lesser : ab_E := (T_X3, [(17, (2, 3, [], 0, sp_X3_valueAt))], [], 0)
def M_X3_lesser : List (Nat × ab_MI) := [(17, mi_X3_valueAt)]
def mi_X3_lesser : ab_MI := (yX3_lesser, cX3_lesser, 6, ab_rty 0, 3, 117)
theorem pk_X3_lesser : P_X3_lesser.all (ab_okI cX3_lesser) = true := by decide +kernel
theorem ck_X3_lesser : P_X3_lesser.all (ab_okC1 "RootChunksModel" M_X3_lesser E_X3_lesser (3, 117)) = true := by decide +kernel
set_option maxRecDepth 100000 in
theorem b_X3_lesser_0 {Q : ab_Q} {a : Int} {b : Int} {v : Int} {s_ : Int → Int} {z_ : mc_T} {g_ : mg_T} (l1 : ab_R E_X3_lesser P_X3_lesser Q 6 [some (.inr (.inl (some 0))), some (.inl a), some (.inl b), some (.inl v), some (.inl 0), some (.inl a)] [] (md_cs s_ z_ g_))  : ab_R E_X3_lesser P_X3_lesser Q 0 [some (.inr (.inl (some 0))), some (.inl a), some (.inl b), some (.inl v), none, none] [] (md_cs s_ z_ g_) :=
  ab_R.steps [6, 20] 6 (show ab_R E_X3_lesser P_X3_lesser Q 6 [some (.inr (.inl (some 0))), some (.inl a), some (.inl b), some (.inl v), some (.inl 0), some (.inl a)] [] (md_cs s_ z_ g_) from l1)
set_option maxRecDepth 100000 in
theorem b_X3_lesser_6 {Q : ab_Q} {a : Int} {b : Int} {v : Int} {n : Int} {p : Int} {s_ : Int → Int} {z_ : mc_T} {g_ : mg_T} (l1 : b < p → Q (some (.inl n)) (md_cs s_ z_ g_)) (l2 : p ≤ b → sp_X3_valueAt [.inr (.inl (some 0)), .inl p] (md_cs s_ z_ g_) (fun r_ k_ => ∃ (x_ : Int), r_ = some (.inl x_) ∧ k_ = (md_cs s_ z_ g_) ∧ ab_R E_X3_lesser P_X3_lesser Q 20 [some (.inr (.inl (some 0))), some (.inl a), some (.inl b), some (.inl v), some (.inl n), some (.inl p)] [.inl x_, .inl n] (md_cs s_ z_ g_))) (p1 : (ab_r p ∧ ab_r b) := by intros; (try unfold ab_r); omega) : ab_R E_X3_lesser P_X3_lesser Q 6 [some (.inr (.inl (some 0))), some (.inl a), some (.inl b), some (.inl v), some (.inl n), some (.inl p)] [] (md_cs s_ z_ g_) :=
  ab_R.steps [6, 20] 8 (show ((ab_r p ∧ ab_r b) ∧ ((b < p → Q (some (.inl n)) (md_cs s_ z_ g_)) ∧ (p ≤ b → ab_cl sp_X3_valueAt [.inr (.inl (some 0)), .inl p] (md_cs s_ z_ g_) (fun r_ k_ => k_.length = ((md_cs s_ z_ g_)).length → ab_R E_X3_lesser P_X3_lesser Q 20 [some (.inr (.inl (some 0))), some (.inl a), some (.inl b), some (.inl v), some (.inl n), some (.inl p)] (ab_ret r_ [.inl n]) k_)))) from ⟨p1, ⟨fun h1 => (l1 h1), fun h2 => ⟨_, (l2 h2), fun r_ k_ hz _ => by obtain ⟨x_, rfl, rfl, hR⟩ := hz; exact hR⟩⟩⟩)
set_option maxRecDepth 100000 in
theorem b_X3_lesser_20 {Q : ab_Q} {a : Int} {b : Int} {v : Int} {n : Int} {p : Int} {t0 : Int} {t1 : Int} {s_ : Int → Int} {z_ : mc_T} {g_ : mg_T} (l1 : v ≤ t0 → ab_R E_X3_lesser P_X3_lesser Q 6 [some (.inr (.inl (some 0))), some (.inl a), some (.inl b), some (.inl v), some (.inl (t1 + 0)), some (.inl (p + 1))] [] (md_cs s_ z_ g_)) (l2 : t0 < v → ab_R E_X3_lesser P_X3_lesser Q 6 [some (.inr (.inl (some 0))), some (.inl a), some (.inl b), some (.inl v), some (.inl (t1 + 1)), some (.inl (p + 1))] [] (md_cs s_ z_ g_)) (p1 : (ab_r t0 ∧ ab_r v) := by intros; (try unfold ab_r); omega) : ab_R E_X3_lesser P_X3_lesser Q 20 [some (.inr (.inl (some 0))), some (.inl a), some (.inl b), some (.inl v), some (.inl n), some (.inl p)] [.inl t0, .inl t1] (md_cs s_ z_ g_) :=
  ab_R.steps [6, 20] 10 (show ((ab_r t0 ∧ ab_r v) ∧ ((v ≤ t0 → ab_R E_X3_lesser P_X3_lesser Q 6 [some (.inr (.inl (some 0))), some (.inl a), some (.inl b), some (.inl v), some (.inl (t1 + 0)), some (.inl (p + 1))] [] (md_cs s_ z_ g_)) ∧ (t0 < v → ab_R E_X3_lesser P_X3_lesser Q 6 [some (.inr (.inl (some 0))), some (.inl a), some (.inl b), some (.inl v), some (.inl (t1 + 1)), some (.inl (p + 1))] [] (md_cs s_ z_ g_)))) from ⟨p1, ⟨fun h1 => (l1 h1), fun h2 => (l2 h2)⟩⟩)
-- ===== RootChunksModel.alike
def P_X3_alike : List ab_I := [(0, .iconst 0, 1, []), (1, .istore 4, 3, []), (3, .iload_n 1, 4, []), (4, .istore 5, 6, []), (6, .iload 5, 8, []), (8, .iload_n 2, 9, []), (9, .if_icmp .gt 29, 12, [((0 : Int), 38)]), (12, .iload 4, 14, []), (14, .aload_n 0, 15, []), (15, .iload 5, 17, []), (17, .invokevirtual 61, 20, []), (20, .iload_n 3, 21, []), (21, .if_icmp .ne 7, 24, [((0 : Int), 28)]), (24, .iconst 1, 25, []), (25, .goto 4, 28, [((0 : Int), 29)]), (28, .iconst 0, 29, []), (29, .iadd, 30, []), (30, .istore 4, 32, []), (32, .iinc 5 1, 35, []), (35, .goto (-29), 38, [((0 : Int), 6)]), (38, .iload 4, 40, []), (40, .ireturn, 41, [])]
def E_X3_alike : ab_E := (T_X3, [(17, (2, 3, [], 0, sp_X3_valueAt))], [], 0)
def M_X3_alike : List (Nat × ab_MI) := [(17, mi_X3_valueAt)]
def mi_X3_alike : ab_MI := (yX3_alike, cX3_alike, 6, ab_rty 0, 3, 117)
theorem pk_X3_alike : P_X3_alike.all (ab_okI cX3_alike) = true := by decide +kernel
theorem ck_X3_alike : P_X3_alike.all (ab_okC1 "RootChunksModel" M_X3_alike E_X3_alike (3, 117)) = true := by decide +kernel
set_option maxRecDepth 100000 in
theorem b_X3_alike_0 {Q : ab_Q} {a : Int} {b : Int} {v : Int} {s_ : Int → Int} {z_ : mc_T} {g_ : mg_T} (l1 : ab_R E_X3_alike P_X3_alike Q 6 [some (.inr (.inl (some 0))), some (.inl a), some (.inl b), some (.inl v), some (.inl 0), some (.inl a)] [] (md_cs s_ z_ g_))  : ab_R E_X3_alike P_X3_alike Q 0 [some (.inr (.inl (some 0))), some (.inl a), some (.inl b), some (.inl v), none, none] [] (md_cs s_ z_ g_) :=
  ab_R.steps [6, 20] 6 (show ab_R E_X3_alike P_X3_alike Q 6 [some (.inr (.inl (some 0))), some (.inl a), some (.inl b), some (.inl v), some (.inl 0), some (.inl a)] [] (md_cs s_ z_ g_) from l1)
set_option maxRecDepth 100000 in
theorem b_X3_alike_6 {Q : ab_Q} {a : Int} {b : Int} {v : Int} {n : Int} {p : Int} {s_ : Int → Int} {z_ : mc_T} {g_ : mg_T} (l1 : b < p → Q (some (.inl n)) (md_cs s_ z_ g_)) (l2 : p ≤ b → sp_X3_valueAt [.inr (.inl (some 0)), .inl p] (md_cs s_ z_ g_) (fun r_ k_ => ∃ (x_ : Int), r_ = some (.inl x_) ∧ k_ = (md_cs s_ z_ g_) ∧ ab_R E_X3_alike P_X3_alike Q 20 [some (.inr (.inl (some 0))), some (.inl a), some (.inl b), some (.inl v), some (.inl n), some (.inl p)] [.inl x_, .inl n] (md_cs s_ z_ g_))) (p1 : (ab_r p ∧ ab_r b) := by intros; (try unfold ab_r); omega) : ab_R E_X3_alike P_X3_alike Q 6 [some (.inr (.inl (some 0))), some (.inl a), some (.inl b), some (.inl v), some (.inl n), some (.inl p)] [] (md_cs s_ z_ g_) :=
  ab_R.steps [6, 20] 8 (show ((ab_r p ∧ ab_r b) ∧ ((b < p → Q (some (.inl n)) (md_cs s_ z_ g_)) ∧ (p ≤ b → ab_cl sp_X3_valueAt [.inr (.inl (some 0)), .inl p] (md_cs s_ z_ g_) (fun r_ k_ => k_.length = ((md_cs s_ z_ g_)).length → ab_R E_X3_alike P_X3_alike Q 20 [some (.inr (.inl (some 0))), some (.inl a), some (.inl b), some (.inl v), some (.inl n), some (.inl p)] (ab_ret r_ [.inl n]) k_)))) from ⟨p1, ⟨fun h1 => (l1 h1), fun h2 => ⟨_, (l2 h2), fun r_ k_ hz _ => by obtain ⟨x_, rfl, rfl, hR⟩ := hz; exact hR⟩⟩⟩)
set_option maxRecDepth 100000 in
theorem b_X3_alike_20 {Q : ab_Q} {a : Int} {b : Int} {v : Int} {n : Int} {p : Int} {t0 : Int} {t1 : Int} {s_ : Int → Int} {z_ : mc_T} {g_ : mg_T} (l1 : ¬ t0 = v → ab_R E_X3_alike P_X3_alike Q 6 [some (.inr (.inl (some 0))), some (.inl a), some (.inl b), some (.inl v), some (.inl (t1 + 0)), some (.inl (p + 1))] [] (md_cs s_ z_ g_)) (l2 : t0 = v → ab_R E_X3_alike P_X3_alike Q 6 [some (.inr (.inl (some 0))), some (.inl a), some (.inl b), some (.inl v), some (.inl (t1 + 1)), some (.inl (p + 1))] [] (md_cs s_ z_ g_)) (p1 : (ab_r t0 ∧ ab_r v) := by intros; (try unfold ab_r); omega) : ab_R E_X3_alike P_X3_alike Q 20 [some (.inr (.inl (some 0))), some (.inl a), some (.inl b), some (.inl v), some (.inl n), some (.inl p)] [.inl t0, .inl t1] (md_cs s_ z_ g_) :=
  ab_R.steps [6, 20] 10 (show ((ab_r t0 ∧ ab_r v) ∧ ((¬ t0 = v → ab_R E_X3_alike P_X3_alike Q 6 [some (.inr (.inl (some 0))), some (.inl a), some (.inl b), some (.inl v), some (.inl (t1 + 0)), some (.inl (p + 1))] [] (md_cs s_ z_ g_)) ∧ (t0 = v → ab_R E_X3_alike P_X3_alike Q 6 [some (.inr (.inl (some 0))), some (.inl a), some (.inl b), some (.inl v), some (.inl (t1 + 1)), some (.inl (p + 1))] [] (md_cs s_ z_ g_)))) from ⟨p1, ⟨fun h1 => (l1 h1), fun h2 => (l2 h2)⟩⟩)
theorem mf_tmod (v n : Int) (h : 0 < n) : (0 ≤ v.tmod n → v.tmod n = v % n) ∧ (v.tmod n < 0 → v.tmod n + n = v % n) ∧ -n < v.tmod n ∧ v.tmod n < n ∧ 0 ≤ v % n ∧ v % n < n := by
  have h1 := Int.emod_nonneg v (b := n) (by omega)
  have h2 := Int.emod_lt_of_pos v h
  have e := Int.tmod_eq_emod (a := v) (b := n)
  split at e <;> omega
theorem mf_less_cons (v x : Int) (l : List Int) : mf_less v (x :: l) = mf_less v l + (if x < v then 1 else 0) := by
  unfold mf_less
  rw [List.countP_cons]
  by_cases h : x < v
  · simp [h]
  · simp [h]
theorem mf_like_cons (v x : Int) (l : List Int) : mf_like v (x :: l) = mf_like v l + (if x = v then 1 else 0) := by
  unfold mf_like
  rw [List.countP_cons]
  by_cases h : x = v
  · simp [h]
  · simp [h]
theorem mh_U_push {un un' : Int → Int} {um : Int} {h : List (List mq_K × Int)} {s : Int → Int} {x : List mq_K × Int} (hU : mh_U un um h) (hs : mh_st s x) (hl : h.length < 6) (e : ∀ j : Int, 0 ≤ j → j < 1530 → un' j = if 255 * um ≤ j ∧ j < 255 * um + 255 then s (j - 255 * um) else un j) : mh_U un' (um + 1) (h ++ [x]) := by
  obtain ⟨h1, h2, h3⟩ := hU
  refine ⟨by rw [List.length_append, List.length_singleton]; omega, by rw [List.length_append, List.length_singleton]; omega, fun i y hy => ?_⟩
  by_cases z : i < h.length
  · rw [List.getElem?_append_left z] at hy
    refine mh_st_ext (h3 i y hy) (fun j j1 j2 => ?_)
    rw [e _ (by omega) (by omega), if_neg (by omega)]
  · have hi := (List.getElem?_eq_some_iff.mp hy).1
    rw [List.length_append, List.length_singleton] at hi
    have hi2 : i = h.length := by omega
    subst hi2
    have : y = x := by simpa using hy.symm
    subst this
    refine mh_st_ext hs (fun j j1 j2 => ?_)
    rw [e _ (by omega) (by omega), if_pos (by omega)]
    congr 1; omega
theorem mh_U_drop {un un' : Int → Int} {um : Int} {h : List (List mq_K × Int)} (hU : mh_U un um h) (hl : h.length = 6) (e : ∀ j : Int, 0 ≤ j → j < 1275 → un' j = un (j + 255)) : mh_U un' (um - 1) (h.drop 1) := by
  obtain ⟨h1, h2, h3⟩ := hU
  refine ⟨by rw [List.length_drop]; omega, by rw [List.length_drop]; omega, fun i y hy => ?_⟩
  have hi := (List.getElem?_eq_some_iff.mp hy).1
  rw [List.length_drop] at hi
  rw [List.getElem?_drop] at hy
  refine mh_st_ext (h3 _ y hy) (fun j j1 j2 => ?_)
  rw [e _ (by omega) (by omega)]
  congr 1; omega
theorem vc_X3_records {av : List ab_V} {cs : List ab_C} {Q : ab_Q} (h : sp_X3_records av cs Q) : (ab_lv0 av).length ≤ 2 ∧ ab_R E_X3_records P_X3_records Q 0 (ab_ent av 2) [] cs := by
  obtain ⟨s, z, th, as, un, um, sl, hs, pd, ln, at_, iw, os, om, x, h, rfl, rfl, hst, hU, hQ⟩ := h
  refine ⟨Nat.le_of_ble_eq_true rfl, ?_⟩
  have second : ∀ (un1 : Int → Int) (um1 : Int) (h1 : List (List mq_K × Int)), mh_U un1 um1 h1 → h1.length < 6 → mh_push h x = h1 ++ [x] → ∀ (m : Nat) (k : Int) (un2 : Int → Int), k + m = 255 → 0 ≤ k → (∀ j : Int, un2 j = if 255 * um1 ≤ j ∧ j < 255 * um1 + k then s (j - 255 * um1) else un1 j) →
      ab_R E_X3_records P_X3_records Q 52 [some (.inr (.inl (some 0))), some (.inl k)] [] (md_cs s z (th, as, un2, um1, sl, hs, pd, ln, at_, iw, os, om)) := by
    intro un1 um1 h1 hU1 hl1 hp m
    have hum := hU1.1
    induction m with
    | zero =>
      intro k un2 g1 g2 g3
      refine b_X3_records_52 (fun _ => hQ _ _ ?_) (fun _ => by omega)
      rw [hp]
      refine mh_U_push hU1 hst hl1 (fun j _ _ => ?_)
      rw [g3, show k = 255 by omega]
    | succ m ih =>
      intro k un2 g1 g2 g3
      refine b_X3_records_52 (fun _ => by omega) (fun _ => ih _ _ (by omega) (by omega) (fun j => ?_))
      by_cases y : j = 255 * um1 + k
      · rw [ab_up_eq y, if_pos (by omega)]
        congr 1; omega
      · rw [ab_up_ne y, g3]
        by_cases y2 : 255 * um1 ≤ j ∧ j < 255 * um1 + k
        · rw [if_pos y2, if_pos (by omega)]
        · rw [if_neg y2, if_neg (by omega)]
  have hum := hU.1
  have hle := hU.2.1
  refine b_X3_records_0 (fun h6 => ?_) (fun h6 => ?_)
  · refine second un um h hU (by omega) ?_ 255 0 un rfl (by omega) (fun j => by rw [if_neg (by omega)])
    unfold mh_push
    rw [if_neg (by omega)]
  · have hl6 : h.length = 6 := by omega
    have first : ∀ (m : Nat) (k : Int) (un2 : Int → Int), k + m = 1275 → 0 ≤ k → (∀ j : Int, un2 j = if 0 ≤ j ∧ j < k then un (j + 255) else un j) →
        ab_R E_X3_records P_X3_records Q 11 [some (.inr (.inl (some 0))), some (.inl k)] [] (md_cs s z (th, as, un2, um, sl, hs, pd, ln, at_, iw, os, om)) := by
      intro m
      induction m with
      | zero =>
        intro k un2 g1 g2 g3
        refine b_X3_records_11 (fun _ => ?_) (fun _ => by omega)
        refine second un2 (um - 1) (h.drop 1) (mh_U_drop hU hl6 (fun j j1 j2 => ?_)) (by rw [List.length_drop]; omega) ?_ 255 0 un2 rfl (by omega) (fun j => by rw [if_neg (by omega)])
        · rw [g3, if_pos (by omega)]
        · unfold mh_push
          rw [if_pos hl6]
      | succ m ih =>
        intro k un2 g1 g2 g3
        refine b_X3_records_11 (fun _ => by omega) (fun _ => ih _ _ (by omega) (by omega) (fun j => ?_))
        have o : un2 (k + 255) = un (k + 255) := by rw [g3, if_neg (by omega)]
        rw [o]
        by_cases y : j = k
        · rw [ab_up_eq y, if_pos (by omega), y]
        · rw [ab_up_ne y, g3]
          by_cases y2 : 0 ≤ j ∧ j < k
          · rw [if_pos y2, if_pos (by omega)]
          · rw [if_neg y2, if_neg (by omega)]
    exact first 1275 0 un rfl (by omega) (fun j => by rw [if_neg (by omega)])
theorem mt_X3_records (l : Launch) : ab_MT l mi_X3_records sp_X3_records := ab_MT.of (own := "RootChunksModel") (E := E_X3_records) (P := P_X3_records) (M := M_X3_records) (nL := 2) (ty := 9) (by decide) rfl rfl tk_X3 pk_X3_records ck_X3_records ab_CT'.nil (fun av cs Q h => vc_X3_records h)
theorem vc_X3_rotates {av : List ab_V} {cs : List ab_C} {Q : ab_Q} (h : sp_X3_rotates av cs Q) : (ab_lv0 av).length ≤ 6 ∧ ab_R E_X3_rotates P_X3_rotates Q 0 (ab_ent av 6) [] cs := by
  obtain ⟨s, z, g, q, a, b, v, rfl, rfl, hR, hW, he, hQ⟩ := h
  refine ⟨Nat.le_of_ble_eq_true rfl, ?_⟩
  obtain ⟨e1, e2⟩ := mq_eBy_0 he
  have e3 := mq_eSpan_0 e1
  unfold mq_n at e3
  unfold mq_vl at e2
  have hfl := hW.2
  obtain ⟨t1, t2, t3, t4, t5, t6⟩ := mf_tmod v (b - a + 1) (by omega)
  have fin : ∀ (mn fi : Int) (s1 : Int → Int) (z1 : mc_T), mq_R (md_v s1) (mf_rol q a b v).1 → mq_W (mf_rol q a b v).1 → s1 2 = s 2 + (mf_rol q a b v).2 → ab_R E_X3_rotates P_X3_rotates Q 53 [some (.inr (.inl (some 0))), some (.inl a), some (.inl b), some (.inl v), some (.inl mn), some (.inl fi)] [] (md_cs s1 z1 g) := by
    intro mn fi s1 z1 q1 q2 q3
    exact b_X3_rotates_53 ⟨_, _, _, _, rfl, rfl, q1, q2, fun s' z' r1 r2 => ⟨s', z', g, rfl, rfl, b_X3_rotates_57 (hQ s' z' r1 (by omega))⟩⟩
  have none_ : v % (b - a + 1) = 0 → ∀ (mn fi : Int), ab_R E_X3_rotates P_X3_rotates Q 53 [some (.inr (.inl (some 0))), some (.inl a), some (.inl b), some (.inl v), some (.inl mn), some (.inl fi)] [] (md_cs s z g) := by
    intro h0 mn fi
    have hz : mf_rol q a b v = (q, 0) := by unfold mf_rol; rw [if_pos h0]
    exact fin mn fi s z (by rw [hz]; exact hR) (by rw [hz]; exact hW) (by rw [hz]; dsimp only; omega)
  have some_ : ∀ r : Int, r = v % (b - a + 1) → 0 < r → ∀ (mn : Int), sp_X3_shifts [.inr (.inl (some 0)), .inl a, .inl ((a + r) - 1), .inl ((a + ((b - a) + 1)) - r)] (md_cs s z g) (fun r_ k_ => ∃ (s_' : Int → Int), ∃ (z_' : mc_T), ∃ (g_' : mg_T), r_ = none ∧ k_ = (md_cs (s_') z_' g_') ∧ ab_R E_X3_rotates P_X3_rotates Q 53 [some (.inr (.inl (some 0))), some (.inl a), some (.inl b), some (.inl v), some (.inl mn), some (.inl r)] [] (md_cs (s_') z_' g_')) := by
    intro r hr h0 mn
    have hz : mf_rol q a b v = mq_mov q a.toNat r.toNat (b + 1 - r).toNat := by unfold mf_rol; rw [if_neg (by omega), hr]
    refine ⟨_, _, _, q, a.toNat, r.toNat, (b + 1 - r).toNat, _, _, _, rfl, rfl, hR, hW, by omega, by omega, by omega, by omega, by omega, by omega, fun s1 z1 q1 q2 => ⟨s1, z1, g, rfl, rfl, ?_⟩⟩
    exact fin mn r s1 z1 (by rw [hz]; exact q1) (by rw [hz]; exact mq_W_mov hW (by omega) (by omega)) (by rw [hz]; exact q2)
  refine b_X3_rotates_0 (fun h1 h2 => none_ (by omega) _ _) (fun h1 h2 => some_ _ (t1 h1) h2 _) (fun h1 h2 => none_ (by omega) _ _) (fun h1 h2 => some_ _ (t2 h1) h2 _)
theorem mt_X3_rotates (l : Launch) : ab_MT l mi_X3_rotates sp_X3_rotates := ab_MT.of (own := "RootChunksModel") (E := E_X3_rotates) (P := P_X3_rotates) (M := M_X3_rotates) (nL := 6) (ty := 9) (by decide) rfl rfl tk_X3 pk_X3_rotates ck_X3_rotates (ab_CT'.cons (mt_X3_shifts l) (ab_CT'.cons (mt_X3_evens l) ab_CT'.nil)) (fun av cs Q h => vc_X3_rotates h)
theorem vc_X3_longest {av : List ab_V} {cs : List ab_C} {Q : ab_Q} (h : sp_X3_longest av cs Q) : (ab_lv0 av).length ≤ 3 ∧ ab_R E_X3_longest P_X3_longest Q 0 (ab_ent av 3) [] cs := by
  obtain ⟨s, z, g, q, rfl, rfl, hR, hW, hQ⟩ := h
  refine ⟨Nat.le_of_ble_eq_true rfl, ?_⟩
  have hcc : s 1 = (q.length : Nat) := hR.2.2.2.2.2
  have hcl := hW.chunks
  have hfl := hW.2
  have loop : ∀ (B A : List mq_K) (c m : Int), q = A ++ B → c = A.length → 0 ≤ m → m ≤ 60 → mq_lg B m = mq_lg q 0 → ab_R E_X3_longest P_X3_longest Q 4 [some (.inr (.inl (some 0))), some (.inl m), some (.inl c)] [] (md_cs s z g) := by
    intro B
    induction B with
    | nil =>
      intro A c m g1 g2 g3 g4 g5
      rw [List.append_nil] at g1; subst g1
      refine b_X3_longest_4 (fun _ => ?_) (fun _ _ => by omega) (fun _ _ => by omega) (p4 := fun _ => by omega)
      have e : mq_lg [] m = m := rfl
      rw [← e, g5]; exact hQ
    | cons k B ih =>
      intro A c m g1 g2 g3 g4 g5
      have e1 : s (63 + (A.length : Int)) = _ := hR.len (c := A.length) (k := k) (by rw [g1]; simp)
      rw [← g2] at e1
      have e2 : q.length = A.length + (B.length + 1) := by rw [g1]; simp
      have e3 : k.1.length ≤ 60 := by
        rw [g1, mq_flat_mid, List.length_append, List.length_append] at hfl; omega
      have e4 : mq_lg (k :: B) m = mq_lg B (if m < k.1.length then k.1.length else m) := rfl
      rw [e4] at g5
      refine b_X3_longest_4 (fun _ => by omega) (fun _ hc => ih (A ++ [k]) _ _ (by simpa using g1) (by simp; omega) (by omega) (by omega) ?_) (fun _ hc => ih (A ++ [k]) _ _ (by simpa using g1) (by simp; omega) (by omega) (by omega) ?_)
      · rw [if_neg (by omega)] at g5; exact g5
      · rw [if_pos (by omega)] at g5; rw [e1]; exact g5
  exact b_X3_longest_0 (loop q [] 0 0 rfl rfl (by omega) (by omega) rfl)
theorem mt_X3_longest (l : Launch) : ab_MT l mi_X3_longest sp_X3_longest := ab_MT.of (own := "RootChunksModel") (E := E_X3_longest) (P := P_X3_longest) (M := M_X3_longest) (nL := 3) (ty := 0) (by decide) rfl rfl tk_X3 pk_X3_longest ck_X3_longest ab_CT'.nil (fun av cs Q h => vc_X3_longest h)
theorem vc_X3_waiting {av : List ab_V} {cs : List ab_C} {Q : ab_Q} (h : sp_X3_waiting av cs Q) : (ab_lv0 av).length ≤ 4 ∧ ab_R E_X3_waiting P_X3_waiting Q 0 (ab_ent av 4) [] cs := by
  obtain ⟨s, z, g, q, a, r, rfl, rfl, hR, hW, ha, hQ⟩ := h
  refine ⟨Nat.le_of_ble_eq_true rfl, ?_⟩
  have hcc : s 1 = (q.length : Nat) := hR.2.2.2.2.2
  have hcl := hW.chunks
  rcases ha with ⟨rfl, rfl⟩ | ⟨rfl, rfl⟩
  · have loop : ∀ (B A : List mq_K) (c m : Int), q = A ++ B → c = A.length → mq_wt B m = mq_wt q 0 → ab_R E_X3_waiting P_X3_waiting Q 4 [some (.inr (.inl (some 0))), some (.inl 127), some (.inl m), some (.inl c)] [] (md_cs s z g) := by
      intro B
      induction B with
      | nil =>
        intro A c m g1 g2 g5
        rw [List.append_nil] at g1; subst g1
        refine b_X3_waiting_4 (fun _ => ?_) (fun _ _ => by omega) (fun _ _ => by omega) (p4 := fun _ => by omega)
        have e : mq_wt [] m = m := rfl
        rw [← e, g5]; exact hQ
      | cons k B ih =>
        intro A c m g1 g2 g5
        have e1 : s (127 + (A.length : Int)) = _ := hR.turn (c := A.length) (k := k) (by rw [g1]; simp)
        rw [← g2] at e1
        have e2 : q.length = A.length + (B.length + 1) := by rw [g1]; simp
        have ht := (hW.1 k (by rw [g1]; simp)).2.1
        have e4 : mq_wt (k :: B) m = mq_wt B (m + k.2.1) := rfl
        rw [e4] at g5
        refine b_X3_waiting_4 (fun _ => by omega) (fun _ hc => ih (A ++ [k]) _ _ (by simpa using g1) (by simp; omega) ?_) (fun _ hc => ih (A ++ [k]) _ _ (by simpa using g1) (by simp; omega) ?_)
        · rw [show k.2.1 = 0 by omega] at g5; exact g5
        · rw [show k.2.1 = 1 by omega] at g5; exact g5
    exact b_X3_waiting_0 (loop q [] 0 0 rfl rfl rfl)
  · have loop : ∀ (B A : List mq_K) (c m : Int), q = A ++ B → c = A.length → mq_ws B m = mq_ws q 0 → ab_R E_X3_waiting P_X3_waiting Q 4 [some (.inr (.inl (some 0))), some (.inl 191), some (.inl m), some (.inl c)] [] (md_cs s z g) := by
      intro B
      induction B with
      | nil =>
        intro A c m g1 g2 g5
        rw [List.append_nil] at g1; subst g1
        refine b_X3_waiting_4 (fun _ => ?_) (fun _ _ => by omega) (fun _ _ => by omega) (p4 := fun _ => by omega)
        have e : mq_ws [] m = m := rfl
        rw [← e, g5]; exact hQ
      | cons k B ih =>
        intro A c m g1 g2 g5
        have e1 : s (191 + (A.length : Int)) = _ := hR.sum (c := A.length) (k := k) (by rw [g1]; simp)
        rw [← g2] at e1
        have e2 : q.length = A.length + (B.length + 1) := by rw [g1]; simp
        have hs := (hW.1 k (by rw [g1]; simp)).sum
        have e4 : mq_ws (k :: B) m = mq_ws B (if k.2.2 = 0 then m else m + 1) := rfl
        rw [e4] at g5
        refine b_X3_waiting_4 (fun _ => by omega) (fun _ hc => ih (A ++ [k]) _ _ (by simpa using g1) (by simp; omega) ?_) (fun _ hc => ih (A ++ [k]) _ _ (by simpa using g1) (by simp; omega) ?_)
        · rw [if_pos (by omega)] at g5
          rw [show m + 0 = m by omega]; exact g5
        · rw [if_neg (by omega)] at g5; exact g5
    exact b_X3_waiting_0 (loop q [] 0 0 rfl rfl rfl)
theorem mt_X3_waiting (l : Launch) : ab_MT l mi_X3_waiting sp_X3_waiting := ab_MT.of (own := "RootChunksModel") (E := E_X3_waiting) (P := P_X3_waiting) (M := M_X3_waiting) (nL := 4) (ty := 0) (by decide) rfl rfl tk_X3 pk_X3_waiting ck_X3_waiting ab_CT'.nil (fun av cs Q h => vc_X3_waiting h)
theorem vc_X3_lesser {av : List ab_V} {cs : List ab_C} {Q : ab_Q} (h : sp_X3_lesser av cs Q) : (ab_lv0 av).length ≤ 6 ∧ ab_R E_X3_lesser P_X3_lesser Q 0 (ab_ent av 6) [] cs := by
  obtain ⟨s, z, g, q, a, b, v, rfl, rfl, hR, hW, h1, h2, h3, h4, h5, hQ⟩ := h
  refine ⟨Nat.le_of_ble_eq_true rfl, ?_⟩
  have hfl := hW.2
  have h3' := h3
  unfold mq_n at h3'
  have loop : ∀ (m : Nat) (p n : Int), b + 1 - p = m → 0 ≤ p → n + mf_less v (mq_sp q p b) = mf_less v (mq_sp q a b) → ab_R E_X3_lesser P_X3_lesser Q 6 [some (.inr (.inl (some 0))), some (.inl a), some (.inl b), some (.inl v), some (.inl n), some (.inl p)] [] (md_cs s z g) := by
    intro m
    induction m with
    | zero =>
      intro p n g1 g2 g3
      rw [mq_sp_nil q p b (by omega)] at g3
      refine b_X3_lesser_6 (fun _ => ?_) (fun h => by omega)
      have : mf_less v [] = 0 := rfl
      rw [show n = mf_less v (mq_sp q a b) by omega]; exact hQ
    | succ m ih =>
      intro p n g1 g2 g3
      obtain ⟨x, hx, e⟩ := mq_sp_cons (q := q) (p := p) (b := b) (by omega) (by omega) h3
      have hxin := mq_all_in hW x (List.mem_of_getElem? hx)
      rw [e, mf_less_cons] at g3
      refine b_X3_lesser_6 (fun h => by omega) (fun _ => ⟨_, _, _, q, _, p.toNat, x, rfl, rfl, hR, hW, by omega, hx, _, rfl, rfl, ?_⟩)
      refine b_X3_lesser_20 (fun hc => ih _ _ (by omega) (by omega) ?_) (fun hc => ih _ _ (by omega) (by omega) ?_)
      · rw [if_neg (by omega)] at g3; omega
      · rw [if_pos (by omega)] at g3; omega
  exact b_X3_lesser_0 (loop (b + 1 - a).toNat a 0 (by omega) (by omega) (by omega))
theorem mt_X3_lesser (l : Launch) : ab_MT l mi_X3_lesser sp_X3_lesser := ab_MT.of (own := "RootChunksModel") (E := E_X3_lesser) (P := P_X3_lesser) (M := M_X3_lesser) (nL := 6) (ty := 0) (by decide) rfl rfl tk_X3 pk_X3_lesser ck_X3_lesser (ab_CT'.cons (mt_X3_valueAt l) ab_CT'.nil) (fun av cs Q h => vc_X3_lesser h)
theorem vc_X3_alike {av : List ab_V} {cs : List ab_C} {Q : ab_Q} (h : sp_X3_alike av cs Q) : (ab_lv0 av).length ≤ 6 ∧ ab_R E_X3_alike P_X3_alike Q 0 (ab_ent av 6) [] cs := by
  obtain ⟨s, z, g, q, a, b, v, rfl, rfl, hR, hW, h1, h2, h3, h4, h5, hQ⟩ := h
  refine ⟨Nat.le_of_ble_eq_true rfl, ?_⟩
  have hfl := hW.2
  have h3' := h3
  unfold mq_n at h3'
  have loop : ∀ (m : Nat) (p n : Int), b + 1 - p = m → 0 ≤ p → n + mf_like v (mq_sp q p b) = mf_like v (mq_sp q a b) → ab_R E_X3_alike P_X3_alike Q 6 [some (.inr (.inl (some 0))), some (.inl a), some (.inl b), some (.inl v), some (.inl n), some (.inl p)] [] (md_cs s z g) := by
    intro m
    induction m with
    | zero =>
      intro p n g1 g2 g3
      rw [mq_sp_nil q p b (by omega)] at g3
      refine b_X3_alike_6 (fun _ => ?_) (fun h => by omega)
      have : mf_like v [] = 0 := rfl
      rw [show n = mf_like v (mq_sp q a b) by omega]; exact hQ
    | succ m ih =>
      intro p n g1 g2 g3
      obtain ⟨x, hx, e⟩ := mq_sp_cons (q := q) (p := p) (b := b) (by omega) (by omega) h3
      have hxin := mq_all_in hW x (List.mem_of_getElem? hx)
      rw [e, mf_like_cons] at g3
      refine b_X3_alike_6 (fun h => by omega) (fun _ => ⟨_, _, _, q, _, p.toNat, x, rfl, rfl, hR, hW, by omega, hx, _, rfl, rfl, ?_⟩)
      refine b_X3_alike_20 (fun hc => ih _ _ (by omega) (by omega) ?_) (fun hc => ih _ _ (by omega) (by omega) ?_)
      · rw [if_neg (by omega)] at g3; omega
      · rw [if_pos (by omega)] at g3; omega
  exact b_X3_alike_0 (loop (b + 1 - a).toNat a 0 (by omega) (by omega) (by omega))
theorem mt_X3_alike (l : Launch) : ab_MT l mi_X3_alike sp_X3_alike := ab_MT.of (own := "RootChunksModel") (E := E_X3_alike) (P := P_X3_alike) (M := M_X3_alike) (nL := 6) (ty := 0) (by decide) rfl rfl tk_X3 pk_X3_alike ck_X3_alike (ab_CT'.cons (mt_X3_valueAt l) ab_CT'.nil) (fun av cs Q h => vc_X3_alike h)
end
section
/-! WHAT A CHANGE DOES, for both programs: the row with its work, what is remembered, what is saved, the pad -/
abbrev mS_X : Type := List mq_K × Int
abbrev mS_T : Type := mS_X × List mS_X × (Option mS_X × Option mS_X) × List Int
def mf_ch (r : mS_X) : mS_X := ((mq_ev r.1).1, r.2 + (mq_ev r.1).2)
def mf_do (k : Int) (q : List mq_K) (a b c : Int) : mS_X :=
  if k = 112 then mf_ch (mq_put q a.toNat b) else if k = 99 then mf_ch (mq_tak q a.toNat) else if k = 115 then mf_ch (mq_set q a.toNat b) else if k = 116 then mf_ch (mq_trn q a.toNat (b + 1 - a).toNat) else if k = 97 then mf_ch (mq_add q a.toNat (b + 1 - a).toNat c) else if k = 109 then mf_ch (mq_mov q a.toNat (b + 1 - a).toNat c.toNat) else mf_ch (mf_rol q a b c)
def mf_err (k : Int) (q : List mq_K) (a b c : Int) : Int :=
  if k = 112 then mq_ePut q a b else if k = 99 then mq_eCut q a else if k = 115 then mq_eSet q a b else if k = 116 then mq_eSpan q a b else if k = 97 then mq_eAdd q a b c else if k = 109 then mq_eMove q a b c else mq_eBy q a b c
def mq_v (q : List mq_K) (a : Int) : Int := (mq_all q).getD a.toNat 0
def mf_ans (k : Int) (q q' : List mq_K) (a : Int) : Int := if k = 112 then mq_n q' else if k = 99 ∨ k = 115 then mq_v q a + 100000 else (q'.length : Nat)
def mf_change (k : Int) (S : mS_T) (a b c : Int) : Int × mS_T :=
  if mf_err k S.1.1 a b c = 0 then (mf_ans k S.1.1 (mf_do k S.1.1 a b c).1 a, (((mf_do k S.1.1 a b c).1, S.1.2 + (mf_do k S.1.1 a b c).2), mh_push S.2.1 S.1, S.2.2)) else (mf_err k S.1.1 a b c, S)
def mh_o (sl : Int → Int) (h : Int) (o : Option mS_X) : Prop := match o with
  | none => h = 0
  | some x => h = 1 ∧ mh_st sl x
def mh_S (sl hs : Int → Int) (o : Option mS_X × Option mS_X) : Prop := mh_o sl (hs 0) o.1 ∧ mh_o (fun k => sl (255 + k)) (hs 1) o.2
def mh_P (pd : Int → Int) (ln : Int) (p : List Int) : Prop := mq_al pd p ∧ ln = (p.length : Nat) ∧ p.length ≤ 80 ∧ ∀ x ∈ p, 33 ≤ x ∧ x ≤ 126
def mh_inv (s : Int → Int) (g : mg_T) (S : mS_T) : Prop := mh_st s S.1 ∧ mh_U g.2.2.1 g.2.2.2.1 S.2.1 ∧ mh_S g.2.2.2.2.1 g.2.2.2.2.2.1 S.2.2.1 ∧ mh_P g.2.2.2.2.2.2.1 g.2.2.2.2.2.2.2.1 S.2.2.2
def mh_out (Q : ab_Q) (r : Int × mS_T) : Prop := ∀ (s' : Int → Int) (z' : mc_T) (g' : mg_T), mh_inv s' g' r.2 → g'.1 = 0 → Q (some (.inl r.1)) (md_cs s' z' g')
def mh_in1 (F : mS_T → Int → Int × mS_T) : ab_Sp := fun av cs Q => ∃ (s : Int → Int) (z : mc_T) (g : mg_T) (S : mS_T) (a : Int), av = [.inr (.inl (some 0)), .inl a] ∧ cs = md_cs s z g ∧ mh_inv s g S ∧ ab_r a ∧ mh_out Q (F S a)
def mh_in2 (F : mS_T → Int → Int → Int × mS_T) : ab_Sp := fun av cs Q => ∃ (s : Int → Int) (z : mc_T) (g : mg_T) (S : mS_T) (a b : Int), av = [.inr (.inl (some 0)), .inl a, .inl b] ∧ cs = md_cs s z g ∧ mh_inv s g S ∧ ab_r a ∧ ab_r b ∧ mh_out Q (F S a b)
def mh_in3 (F : mS_T → Int → Int → Int → Int × mS_T) : ab_Sp := fun av cs Q => ∃ (s : Int → Int) (z : mc_T) (g : mg_T) (S : mS_T) (a b c : Int), av = [.inr (.inl (some 0)), .inl a, .inl b, .inl c] ∧ cs = md_cs s z g ∧ mh_inv s g S ∧ ab_r a ∧ ab_r b ∧ ab_r c ∧ mh_out Q (F S a b c)
def sp_X3_putIn : ab_Sp := mh_in2 (fun S a b => mf_change 112 S a b 0)
def sp_X3_takeOut : ab_Sp := mh_in1 (fun S a => mf_change 99 S a 0 0)
def sp_X3_set : ab_Sp := mh_in2 (fun S a b => mf_change 115 S a b 0)
def sp_X3_turn : ab_Sp := mh_in2 (fun S a b => mf_change 116 S a b 0)
def sp_X3_add : ab_Sp := mh_in3 (fun S a b c => mf_change 97 S a b c)
def sp_X3_move : ab_Sp := mh_in3 (fun S a b c => mf_change 109 S a b c)
def sp_X3_rotate : ab_Sp := mh_in3 (fun S a b c => mf_change 114 S a b c)
-- ===== RootChunksModel.putIn
def P_X3_putIn : List ab_I := [(0, .aload_n 0, 1, []), (1, .iconst 0, 2, []), (2, .putfield 47, 5, []), (5, .aload_n 0, 6, []), (6, .iload_n 1, 7, []), (7, .iload_n 2, 8, []), (8, .invokevirtual 116, 11, []), (11, .istore_n 3, 12, []), (12, .iload_n 3, 13, []), (13, .ifCond .eq 5, 16, [((0 : Int), 18)]), (16, .iload_n 3, 17, []), (17, .ireturn, 18, []), (18, .aload_n 0, 19, []), (19, .invokevirtual 119, 22, []), (22, .aload_n 0, 23, []), (23, .iload_n 1, 24, []), (24, .iload_n 2, 25, []), (25, .invokevirtual 122, 28, []), (28, .aload_n 0, 29, []), (29, .getfield 7, 32, []), (32, .iconst 0, 33, []), (33, .iaload, 34, []), (34, .ireturn, 35, [])]
def E_X3_putIn : ab_E := (T_X3, [(8, (3, 3, [], 0, sp_X3_refusesPut)), (19, (1, 3, [], 0, sp_X3_records)), (25, (3, 3, [], 0, sp_X3_puts))], [], 0)
def M_X3_putIn : List (Nat × ab_MI) := [(8, mi_X3_refusesPut), (19, mi_X3_records), (25, mi_X3_puts)]
def mi_X3_putIn : ab_MI := (yX3_putIn, cX3_putIn, 4, ab_rty 0, 6, 188)
theorem pk_X3_putIn : P_X3_putIn.all (ab_okI cX3_putIn) = true := by decide +kernel
theorem ck_X3_putIn : P_X3_putIn.all (ab_okC1 "RootChunksModel" M_X3_putIn E_X3_putIn (6, 188)) = true := by decide +kernel
set_option maxRecDepth 100000 in
theorem b_X3_putIn_0 {Q : ab_Q} {a : Int} {b : Int} {s_ : Int → Int} {z_ : mc_T} {g_th : Int} {g_as : Int → Int} {g_un : Int → Int} {g_um : Int} {g_sl : Int → Int} {g_hs : Int → Int} {g_pd : Int → Int} {g_ln : Int} {g_at : Int} {g_iw : Int} {g_os : Int → Int} {g_om : Int} (l1 : sp_X3_refusesPut [.inr (.inl (some 0)), .inl a, .inl b] (md_cs s_ z_ (0, g_as, g_un, g_um, g_sl, g_hs, g_pd, g_ln, g_at, g_iw, g_os, g_om)) (fun r_ k_ => ∃ (x_ : Int), r_ = some (.inl x_) ∧ k_ = (md_cs s_ z_ (0, g_as, g_un, g_um, g_sl, g_hs, g_pd, g_ln, g_at, g_iw, g_os, g_om)) ∧ ab_R E_X3_putIn P_X3_putIn Q 11 [some (.inr (.inl (some 0))), some (.inl a), some (.inl b), none] [.inl x_] (md_cs s_ z_ (0, g_as, g_un, g_um, g_sl, g_hs, g_pd, g_ln, g_at, g_iw, g_os, g_om))))  : ab_R E_X3_putIn P_X3_putIn Q 0 [some (.inr (.inl (some 0))), some (.inl a), some (.inl b), none] [] (md_cs s_ z_ (g_th, g_as, g_un, g_um, g_sl, g_hs, g_pd, g_ln, g_at, g_iw, g_os, g_om)) :=
  ab_R.steps [11, 22, 28] 8 (show ab_cl sp_X3_refusesPut [.inr (.inl (some 0)), .inl a, .inl b] (md_cs s_ z_ (0, g_as, g_un, g_um, g_sl, g_hs, g_pd, g_ln, g_at, g_iw, g_os, g_om)) (fun r_ k_ => k_.length = ((md_cs s_ z_ (0, g_as, g_un, g_um, g_sl, g_hs, g_pd, g_ln, g_at, g_iw, g_os, g_om))).length → ab_R E_X3_putIn P_X3_putIn Q 11 [some (.inr (.inl (some 0))), some (.inl a), some (.inl b), none] (ab_ret r_ []) k_) from ⟨_, l1, fun r_ k_ hz _ => by obtain ⟨x_, rfl, rfl, hR⟩ := hz; exact hR⟩)
set_option maxRecDepth 100000 in
theorem b_X3_putIn_11 {Q : ab_Q} {a : Int} {b : Int} {t0 : Int} {s_ : Int → Int} {z_ : mc_T} {g_th : Int} {g_as : Int → Int} {g_un : Int → Int} {g_um : Int} {g_sl : Int → Int} {g_hs : Int → Int} {g_pd : Int → Int} {g_ln : Int} {g_at : Int} {g_iw : Int} {g_os : Int → Int} {g_om : Int} (l1 : t0 = (0 : Int) → sp_X3_records [.inr (.inl (some 0))] (md_cs s_ z_ (g_th, g_as, g_un, g_um, g_sl, g_hs, g_pd, g_ln, g_at, g_iw, g_os, g_om)) (fun r_ k_ => ∃ (s_' : Int → Int), ∃ (z_' : mc_T), ∃ (g_' : mg_T), r_ = none ∧ k_ = (md_cs (s_') z_' g_') ∧ ab_R E_X3_putIn P_X3_putIn Q 22 [some (.inr (.inl (some 0))), some (.inl a), some (.inl b), some (.inl t0)] [] (md_cs (s_') z_' g_'))) (l2 : ¬ t0 = (0 : Int) → Q (some (.inl t0)) (md_cs s_ z_ (g_th, g_as, g_un, g_um, g_sl, g_hs, g_pd, g_ln, g_at, g_iw, g_os, g_om))) (p1 : ab_r t0 := by intros; (try unfold ab_r); omega) : ab_R E_X3_putIn P_X3_putIn Q 11 [some (.inr (.inl (some 0))), some (.inl a), some (.inl b), none] [.inl t0] (md_cs s_ z_ (g_th, g_as, g_un, g_um, g_sl, g_hs, g_pd, g_ln, g_at, g_iw, g_os, g_om)) :=
  ab_R.steps [11, 22, 28] 6 (show (ab_r t0 ∧ ((t0 = (0 : Int) → ab_cl sp_X3_records [.inr (.inl (some 0))] (md_cs s_ z_ (g_th, g_as, g_un, g_um, g_sl, g_hs, g_pd, g_ln, g_at, g_iw, g_os, g_om)) (fun r_ k_ => k_.length = ((md_cs s_ z_ (g_th, g_as, g_un, g_um, g_sl, g_hs, g_pd, g_ln, g_at, g_iw, g_os, g_om))).length → ab_R E_X3_putIn P_X3_putIn Q 22 [some (.inr (.inl (some 0))), some (.inl a), some (.inl b), some (.inl t0)] (ab_ret r_ []) k_)) ∧ (¬ t0 = (0 : Int) → Q (some (.inl t0)) (md_cs s_ z_ (g_th, g_as, g_un, g_um, g_sl, g_hs, g_pd, g_ln, g_at, g_iw, g_os, g_om))))) from ⟨p1, ⟨fun h1 => ⟨_, (l1 h1), fun r_ k_ hz _ => by obtain ⟨s_', z_', g_', rfl, rfl, hR⟩ := hz; exact hR⟩, fun h2 => (l2 h2)⟩⟩)
set_option maxRecDepth 100000 in
theorem b_X3_putIn_22 {Q : ab_Q} {a : Int} {b : Int} {e : Int} {s_ : Int → Int} {z_ : mc_T} {g_th : Int} {g_as : Int → Int} {g_un : Int → Int} {g_um : Int} {g_sl : Int → Int} {g_hs : Int → Int} {g_pd : Int → Int} {g_ln : Int} {g_at : Int} {g_iw : Int} {g_os : Int → Int} {g_om : Int} (l1 : sp_X3_puts [.inr (.inl (some 0)), .inl a, .inl b] (md_cs s_ z_ (g_th, g_as, g_un, g_um, g_sl, g_hs, g_pd, g_ln, g_at, g_iw, g_os, g_om)) (fun r_ k_ => ∃ (s_' : Int → Int), ∃ (z_' : mc_T), ∃ (g_' : mg_T), r_ = none ∧ k_ = (md_cs (s_') z_' g_') ∧ ab_R E_X3_putIn P_X3_putIn Q 28 [some (.inr (.inl (some 0))), some (.inl a), some (.inl b), some (.inl e)] [] (md_cs (s_') z_' g_')))  : ab_R E_X3_putIn P_X3_putIn Q 22 [some (.inr (.inl (some 0))), some (.inl a), some (.inl b), some (.inl e)] [] (md_cs s_ z_ (g_th, g_as, g_un, g_um, g_sl, g_hs, g_pd, g_ln, g_at, g_iw, g_os, g_om)) :=
  ab_R.steps [11, 22, 28] 5 (show ab_cl sp_X3_puts [.inr (.inl (some 0)), .inl a, .inl b] (md_cs s_ z_ (g_th, g_as, g_un, g_um, g_sl, g_hs, g_pd, g_ln, g_at, g_iw, g_os, g_om)) (fun r_ k_ => k_.length = ((md_cs s_ z_ (g_th, g_as, g_un, g_um, g_sl, g_hs, g_pd, g_ln, g_at, g_iw, g_os, g_om))).length → ab_R E_X3_putIn P_X3_putIn Q 28 [some (.inr (.inl (some 0))), some (.inl a), some (.inl b), some (.inl e)] (ab_ret r_ []) k_) from ⟨_, l1, fun r_ k_ hz _ => by obtain ⟨s_', z_', g_', rfl, rfl, hR⟩ := hz; exact hR⟩)
set_option maxRecDepth 100000 in
theorem b_X3_putIn_28 {Q : ab_Q} {a : Int} {b : Int} {e : Int} {s_ : Int → Int} {z_ : mc_T} {g_th : Int} {g_as : Int → Int} {g_un : Int → Int} {g_um : Int} {g_sl : Int → Int} {g_hs : Int → Int} {g_pd : Int → Int} {g_ln : Int} {g_at : Int} {g_iw : Int} {g_os : Int → Int} {g_om : Int} (l1 : Q (some (.inl (s_ 0))) (md_cs s_ z_ (g_th, g_as, g_un, g_um, g_sl, g_hs, g_pd, g_ln, g_at, g_iw, g_os, g_om))) (p1 : (0 ≤ (0 : Int) ∧ (0 : Int) < 255) := by intros; (try unfold ab_r); omega) : ab_R E_X3_putIn P_X3_putIn Q 28 [some (.inr (.inl (some 0))), some (.inl a), some (.inl b), some (.inl e)] [] (md_cs s_ z_ (g_th, g_as, g_un, g_um, g_sl, g_hs, g_pd, g_ln, g_at, g_iw, g_os, g_om)) :=
  ab_R.steps [11, 22, 28] 6 (show ((0 ≤ (0 : Int) ∧ (0 : Int) < 255) ∧ Q (some (.inl (s_ 0))) (md_cs s_ z_ (g_th, g_as, g_un, g_um, g_sl, g_hs, g_pd, g_ln, g_at, g_iw, g_os, g_om))) from ⟨p1, l1⟩)
-- ===== RootChunksModel.takeOut
def P_X3_takeOut : List ab_I := [(0, .aload_n 0, 1, []), (1, .iconst 0, 2, []), (2, .putfield 47, 5, []), (5, .aload_n 0, 6, []), (6, .iload_n 1, 7, []), (7, .invokevirtual 95, 10, []), (10, .ifCond .ne 5, 13, [((0 : Int), 15)]), (13, .iconst (-1), 14, []), (14, .ireturn, 15, []), (15, .aload_n 0, 16, []), (16, .invokevirtual 119, 19, []), (19, .aload_n 0, 20, []), (20, .iload_n 1, 21, []), (21, .invokevirtual 61, 24, []), (24, .istore_n 2, 25, []), (25, .aload_n 0, 26, []), (26, .iload_n 1, 27, []), (27, .invokevirtual 125, 30, []), (30, .iload_n 2, 31, []), (31, .ldc 128, 33, []), (33, .iadd, 34, []), (34, .ireturn, 35, [])]
def E_X3_takeOut : ab_E := (T_X3, [(7, (2, 3, [], 0, sp_X3_isPlace)), (16, (1, 3, [], 0, sp_X3_records)), (21, (2, 3, [], 0, sp_X3_valueAt)), (27, (2, 3, [], 0, sp_X3_takes))], [], 0)
def M_X3_takeOut : List (Nat × ab_MI) := [(7, mi_X3_isPlace), (16, mi_X3_records), (21, mi_X3_valueAt), (27, mi_X3_takes)]
def mi_X3_takeOut : ab_MI := (yX3_takeOut, cX3_takeOut, 3, ab_rty 0, 6, 187)
theorem pk_X3_takeOut : P_X3_takeOut.all (ab_okI cX3_takeOut) = true := by decide +kernel
theorem ck_X3_takeOut : P_X3_takeOut.all (ab_okC1 "RootChunksModel" M_X3_takeOut E_X3_takeOut (6, 187)) = true := by decide +kernel
set_option maxRecDepth 100000 in
theorem b_X3_takeOut_0 {Q : ab_Q} {a : Int} {s_ : Int → Int} {z_ : mc_T} {g_th : Int} {g_as : Int → Int} {g_un : Int → Int} {g_um : Int} {g_sl : Int → Int} {g_hs : Int → Int} {g_pd : Int → Int} {g_ln : Int} {g_at : Int} {g_iw : Int} {g_os : Int → Int} {g_om : Int} (l1 : sp_X3_isPlace [.inr (.inl (some 0)), .inl a] (md_cs s_ z_ (0, g_as, g_un, g_um, g_sl, g_hs, g_pd, g_ln, g_at, g_iw, g_os, g_om)) (fun r_ k_ => ∃ (x_ : Int), r_ = some (.inl x_) ∧ k_ = (md_cs s_ z_ (0, g_as, g_un, g_um, g_sl, g_hs, g_pd, g_ln, g_at, g_iw, g_os, g_om)) ∧ ab_R E_X3_takeOut P_X3_takeOut Q 10 [some (.inr (.inl (some 0))), some (.inl a), none] [.inl x_] (md_cs s_ z_ (0, g_as, g_un, g_um, g_sl, g_hs, g_pd, g_ln, g_at, g_iw, g_os, g_om))))  : ab_R E_X3_takeOut P_X3_takeOut Q 0 [some (.inr (.inl (some 0))), some (.inl a), none] [] (md_cs s_ z_ (g_th, g_as, g_un, g_um, g_sl, g_hs, g_pd, g_ln, g_at, g_iw, g_os, g_om)) :=
  ab_R.steps [10, 19, 24, 30] 7 (show ab_cl sp_X3_isPlace [.inr (.inl (some 0)), .inl a] (md_cs s_ z_ (0, g_as, g_un, g_um, g_sl, g_hs, g_pd, g_ln, g_at, g_iw, g_os, g_om)) (fun r_ k_ => k_.length = ((md_cs s_ z_ (0, g_as, g_un, g_um, g_sl, g_hs, g_pd, g_ln, g_at, g_iw, g_os, g_om))).length → ab_R E_X3_takeOut P_X3_takeOut Q 10 [some (.inr (.inl (some 0))), some (.inl a), none] (ab_ret r_ []) k_) from ⟨_, l1, fun r_ k_ hz _ => by obtain ⟨x_, rfl, rfl, hR⟩ := hz; exact hR⟩)
set_option maxRecDepth 100000 in
theorem b_X3_takeOut_10 {Q : ab_Q} {a : Int} {t0 : Int} {s_ : Int → Int} {z_ : mc_T} {g_th : Int} {g_as : Int → Int} {g_un : Int → Int} {g_um : Int} {g_sl : Int → Int} {g_hs : Int → Int} {g_pd : Int → Int} {g_ln : Int} {g_at : Int} {g_iw : Int} {g_os : Int → Int} {g_om : Int} (l1 : ¬ t0 = (0 : Int) → sp_X3_records [.inr (.inl (some 0))] (md_cs s_ z_ (g_th, g_as, g_un, g_um, g_sl, g_hs, g_pd, g_ln, g_at, g_iw, g_os, g_om)) (fun r_ k_ => ∃ (s_' : Int → Int), ∃ (z_' : mc_T), ∃ (g_' : mg_T), r_ = none ∧ k_ = (md_cs (s_') z_' g_') ∧ ab_R E_X3_takeOut P_X3_takeOut Q 19 [some (.inr (.inl (some 0))), some (.inl a), none] [] (md_cs (s_') z_' g_'))) (l2 : t0 = (0 : Int) → Q (some (.inl (-1))) (md_cs s_ z_ (g_th, g_as, g_un, g_um, g_sl, g_hs, g_pd, g_ln, g_at, g_iw, g_os, g_om))) (p1 : ab_r t0 := by intros; (try unfold ab_r); omega) : ab_R E_X3_takeOut P_X3_takeOut Q 10 [some (.inr (.inl (some 0))), some (.inl a), none] [.inl t0] (md_cs s_ z_ (g_th, g_as, g_un, g_um, g_sl, g_hs, g_pd, g_ln, g_at, g_iw, g_os, g_om)) :=
  ab_R.steps [10, 19, 24, 30] 4 (show (ab_r t0 ∧ ((¬ t0 = (0 : Int) → ab_cl sp_X3_records [.inr (.inl (some 0))] (md_cs s_ z_ (g_th, g_as, g_un, g_um, g_sl, g_hs, g_pd, g_ln, g_at, g_iw, g_os, g_om)) (fun r_ k_ => k_.length = ((md_cs s_ z_ (g_th, g_as, g_un, g_um, g_sl, g_hs, g_pd, g_ln, g_at, g_iw, g_os, g_om))).length → ab_R E_X3_takeOut P_X3_takeOut Q 19 [some (.inr (.inl (some 0))), some (.inl a), none] (ab_ret r_ []) k_)) ∧ (t0 = (0 : Int) → Q (some (.inl (-1))) (md_cs s_ z_ (g_th, g_as, g_un, g_um, g_sl, g_hs, g_pd, g_ln, g_at, g_iw, g_os, g_om))))) from ⟨p1, ⟨fun h1 => ⟨_, (l1 h1), fun r_ k_ hz _ => by obtain ⟨s_', z_', g_', rfl, rfl, hR⟩ := hz; exact hR⟩, fun h2 => (l2 h2)⟩⟩)
set_option maxRecDepth 100000 in
theorem b_X3_takeOut_19 {Q : ab_Q} {a : Int} {s_ : Int → Int} {z_ : mc_T} {g_th : Int} {g_as : Int → Int} {g_un : Int → Int} {g_um : Int} {g_sl : Int → Int} {g_hs : Int → Int} {g_pd : Int → Int} {g_ln : Int} {g_at : Int} {g_iw : Int} {g_os : Int → Int} {g_om : Int} (l1 : sp_X3_valueAt [.inr (.inl (some 0)), .inl a] (md_cs s_ z_ (g_th, g_as, g_un, g_um, g_sl, g_hs, g_pd, g_ln, g_at, g_iw, g_os, g_om)) (fun r_ k_ => ∃ (x_ : Int), r_ = some (.inl x_) ∧ k_ = (md_cs s_ z_ (g_th, g_as, g_un, g_um, g_sl, g_hs, g_pd, g_ln, g_at, g_iw, g_os, g_om)) ∧ ab_R E_X3_takeOut P_X3_takeOut Q 24 [some (.inr (.inl (some 0))), some (.inl a), none] [.inl x_] (md_cs s_ z_ (g_th, g_as, g_un, g_um, g_sl, g_hs, g_pd, g_ln, g_at, g_iw, g_os, g_om))))  : ab_R E_X3_takeOut P_X3_takeOut Q 19 [some (.inr (.inl (some 0))), some (.inl a), none] [] (md_cs s_ z_ (g_th, g_as, g_un, g_um, g_sl, g_hs, g_pd, g_ln, g_at, g_iw, g_os, g_om)) :=
  ab_R.steps [10, 19, 24, 30] 4 (show ab_cl sp_X3_valueAt [.inr (.inl (some 0)), .inl a] (md_cs s_ z_ (g_th, g_as, g_un, g_um, g_sl, g_hs, g_pd, g_ln, g_at, g_iw, g_os, g_om)) (fun r_ k_ => k_.length = ((md_cs s_ z_ (g_th, g_as, g_un, g_um, g_sl, g_hs, g_pd, g_ln, g_at, g_iw, g_os, g_om))).length → ab_R E_X3_takeOut P_X3_takeOut Q 24 [some (.inr (.inl (some 0))), some (.inl a), none] (ab_ret r_ []) k_) from ⟨_, l1, fun r_ k_ hz _ => by obtain ⟨x_, rfl, rfl, hR⟩ := hz; exact hR⟩)
set_option maxRecDepth 100000 in
theorem b_X3_takeOut_24 {Q : ab_Q} {a : Int} {t0 : Int} {s_ : Int → Int} {z_ : mc_T} {g_th : Int} {g_as : Int → Int} {g_un : Int → Int} {g_um : Int} {g_sl : Int → Int} {g_hs : Int → Int} {g_pd : Int → Int} {g_ln : Int} {g_at : Int} {g_iw : Int} {g_os : Int → Int} {g_om : Int} (l1 : sp_X3_takes [.inr (.inl (some 0)), .inl a] (md_cs s_ z_ (g_th, g_as, g_un, g_um, g_sl, g_hs, g_pd, g_ln, g_at, g_iw, g_os, g_om)) (fun r_ k_ => ∃ (s_' : Int → Int), ∃ (z_' : mc_T), ∃ (g_' : mg_T), r_ = none ∧ k_ = (md_cs (s_') z_' g_') ∧ ab_R E_X3_takeOut P_X3_takeOut Q 30 [some (.inr (.inl (some 0))), some (.inl a), some (.inl t0)] [] (md_cs (s_') z_' g_')))  : ab_R E_X3_takeOut P_X3_takeOut Q 24 [some (.inr (.inl (some 0))), some (.inl a), none] [.inl t0] (md_cs s_ z_ (g_th, g_as, g_un, g_um, g_sl, g_hs, g_pd, g_ln, g_at, g_iw, g_os, g_om)) :=
  ab_R.steps [10, 19, 24, 30] 5 (show ab_cl sp_X3_takes [.inr (.inl (some 0)), .inl a] (md_cs s_ z_ (g_th, g_as, g_un, g_um, g_sl, g_hs, g_pd, g_ln, g_at, g_iw, g_os, g_om)) (fun r_ k_ => k_.length = ((md_cs s_ z_ (g_th, g_as, g_un, g_um, g_sl, g_hs, g_pd, g_ln, g_at, g_iw, g_os, g_om))).length → ab_R E_X3_takeOut P_X3_takeOut Q 30 [some (.inr (.inl (some 0))), some (.inl a), some (.inl t0)] (ab_ret r_ []) k_) from ⟨_, l1, fun r_ k_ hz _ => by obtain ⟨s_', z_', g_', rfl, rfl, hR⟩ := hz; exact hR⟩)
set_option maxRecDepth 100000 in
theorem b_X3_takeOut_30 {Q : ab_Q} {a : Int} {hd : Int} {s_ : Int → Int} {z_ : mc_T} {g_th : Int} {g_as : Int → Int} {g_un : Int → Int} {g_um : Int} {g_sl : Int → Int} {g_hs : Int → Int} {g_pd : Int → Int} {g_ln : Int} {g_at : Int} {g_iw : Int} {g_os : Int → Int} {g_om : Int} (l1 : Q (some (.inl (hd + 100000))) (md_cs s_ z_ (g_th, g_as, g_un, g_um, g_sl, g_hs, g_pd, g_ln, g_at, g_iw, g_os, g_om)))  : ab_R E_X3_takeOut P_X3_takeOut Q 30 [some (.inr (.inl (some 0))), some (.inl a), some (.inl hd)] [] (md_cs s_ z_ (g_th, g_as, g_un, g_um, g_sl, g_hs, g_pd, g_ln, g_at, g_iw, g_os, g_om)) :=
  ab_R.steps [10, 19, 24, 30] 5 (show Q (some (.inl (hd + 100000))) (md_cs s_ z_ (g_th, g_as, g_un, g_um, g_sl, g_hs, g_pd, g_ln, g_at, g_iw, g_os, g_om)) from l1)
-- ===== RootChunksModel.set
def P_X3_set : List ab_I := [(0, .aload_n 0, 1, []), (1, .iconst 0, 2, []), (2, .putfield 47, 5, []), (5, .aload_n 0, 6, []), (6, .iload_n 1, 7, []), (7, .iload_n 2, 8, []), (8, .invokevirtual 129, 11, []), (11, .istore_n 3, 12, []), (12, .iload_n 3, 13, []), (13, .ifCond .eq 5, 16, [((0 : Int), 18)]), (16, .iload_n 3, 17, []), (17, .ireturn, 18, []), (18, .aload_n 0, 19, []), (19, .invokevirtual 119, 22, []), (22, .aload_n 0, 23, []), (23, .iload_n 1, 24, []), (24, .invokevirtual 61, 27, []), (27, .istore 4, 29, []), (29, .aload_n 0, 30, []), (30, .iload_n 1, 31, []), (31, .iload_n 2, 32, []), (32, .invokevirtual 132, 35, []), (35, .iload 4, 37, []), (37, .ldc 128, 39, []), (39, .iadd, 40, []), (40, .ireturn, 41, [])]
def E_X3_set : ab_E := (T_X3, [(8, (3, 3, [], 0, sp_X3_refusesSet)), (19, (1, 3, [], 0, sp_X3_records)), (24, (2, 3, [], 0, sp_X3_valueAt)), (32, (3, 3, [], 0, sp_X3_sets))], [], 0)
def M_X3_set : List (Nat × ab_MI) := [(8, mi_X3_refusesSet), (19, mi_X3_records), (24, mi_X3_valueAt), (32, mi_X3_sets)]
def mi_X3_set : ab_MI := (yX3_set, cX3_set, 5, ab_rty 0, 6, 186)
theorem pk_X3_set : P_X3_set.all (ab_okI cX3_set) = true := by decide +kernel
theorem ck_X3_set : P_X3_set.all (ab_okC1 "RootChunksModel" M_X3_set E_X3_set (6, 186)) = true := by decide +kernel
set_option maxRecDepth 100000 in
theorem b_X3_set_0 {Q : ab_Q} {a : Int} {b : Int} {s_ : Int → Int} {z_ : mc_T} {g_th : Int} {g_as : Int → Int} {g_un : Int → Int} {g_um : Int} {g_sl : Int → Int} {g_hs : Int → Int} {g_pd : Int → Int} {g_ln : Int} {g_at : Int} {g_iw : Int} {g_os : Int → Int} {g_om : Int} (l1 : sp_X3_refusesSet [.inr (.inl (some 0)), .inl a, .inl b] (md_cs s_ z_ (0, g_as, g_un, g_um, g_sl, g_hs, g_pd, g_ln, g_at, g_iw, g_os, g_om)) (fun r_ k_ => ∃ (x_ : Int), r_ = some (.inl x_) ∧ k_ = (md_cs s_ z_ (0, g_as, g_un, g_um, g_sl, g_hs, g_pd, g_ln, g_at, g_iw, g_os, g_om)) ∧ ab_R E_X3_set P_X3_set Q 11 [some (.inr (.inl (some 0))), some (.inl a), some (.inl b), none, none] [.inl x_] (md_cs s_ z_ (0, g_as, g_un, g_um, g_sl, g_hs, g_pd, g_ln, g_at, g_iw, g_os, g_om))))  : ab_R E_X3_set P_X3_set Q 0 [some (.inr (.inl (some 0))), some (.inl a), some (.inl b), none, none] [] (md_cs s_ z_ (g_th, g_as, g_un, g_um, g_sl, g_hs, g_pd, g_ln, g_at, g_iw, g_os, g_om)) :=
  ab_R.steps [11, 22, 27, 35] 8 (show ab_cl sp_X3_refusesSet [.inr (.inl (some 0)), .inl a, .inl b] (md_cs s_ z_ (0, g_as, g_un, g_um, g_sl, g_hs, g_pd, g_ln, g_at, g_iw, g_os, g_om)) (fun r_ k_ => k_.length = ((md_cs s_ z_ (0, g_as, g_un, g_um, g_sl, g_hs, g_pd, g_ln, g_at, g_iw, g_os, g_om))).length → ab_R E_X3_set P_X3_set Q 11 [some (.inr (.inl (some 0))), some (.inl a), some (.inl b), none, none] (ab_ret r_ []) k_) from ⟨_, l1, fun r_ k_ hz _ => by obtain ⟨x_, rfl, rfl, hR⟩ := hz; exact hR⟩)
set_option maxRecDepth 100000 in
theorem b_X3_set_11 {Q : ab_Q} {a : Int} {b : Int} {t0 : Int} {s_ : Int → Int} {z_ : mc_T} {g_th : Int} {g_as : Int → Int} {g_un : Int → Int} {g_um : Int} {g_sl : Int → Int} {g_hs : Int → Int} {g_pd : Int → Int} {g_ln : Int} {g_at : Int} {g_iw : Int} {g_os : Int → Int} {g_om : Int} (l1 : t0 = (0 : Int) → sp_X3_records [.inr (.inl (some 0))] (md_cs s_ z_ (g_th, g_as, g_un, g_um, g_sl, g_hs, g_pd, g_ln, g_at, g_iw, g_os, g_om)) (fun r_ k_ => ∃ (s_' : Int → Int), ∃ (z_' : mc_T), ∃ (g_' : mg_T), r_ = none ∧ k_ = (md_cs (s_') z_' g_') ∧ ab_R E_X3_set P_X3_set Q 22 [some (.inr (.inl (some 0))), some (.inl a), some (.inl b), some (.inl t0), none] [] (md_cs (s_') z_' g_'))) (l2 : ¬ t0 = (0 : Int) → Q (some (.inl t0)) (md_cs s_ z_ (g_th, g_as, g_un, g_um, g_sl, g_hs, g_pd, g_ln, g_at, g_iw, g_os, g_om))) (p1 : ab_r t0 := by intros; (try unfold ab_r); omega) : ab_R E_X3_set P_X3_set Q 11 [some (.inr (.inl (some 0))), some (.inl a), some (.inl b), none, none] [.inl t0] (md_cs s_ z_ (g_th, g_as, g_un, g_um, g_sl, g_hs, g_pd, g_ln, g_at, g_iw, g_os, g_om)) :=
  ab_R.steps [11, 22, 27, 35] 6 (show (ab_r t0 ∧ ((t0 = (0 : Int) → ab_cl sp_X3_records [.inr (.inl (some 0))] (md_cs s_ z_ (g_th, g_as, g_un, g_um, g_sl, g_hs, g_pd, g_ln, g_at, g_iw, g_os, g_om)) (fun r_ k_ => k_.length = ((md_cs s_ z_ (g_th, g_as, g_un, g_um, g_sl, g_hs, g_pd, g_ln, g_at, g_iw, g_os, g_om))).length → ab_R E_X3_set P_X3_set Q 22 [some (.inr (.inl (some 0))), some (.inl a), some (.inl b), some (.inl t0), none] (ab_ret r_ []) k_)) ∧ (¬ t0 = (0 : Int) → Q (some (.inl t0)) (md_cs s_ z_ (g_th, g_as, g_un, g_um, g_sl, g_hs, g_pd, g_ln, g_at, g_iw, g_os, g_om))))) from ⟨p1, ⟨fun h1 => ⟨_, (l1 h1), fun r_ k_ hz _ => by obtain ⟨s_', z_', g_', rfl, rfl, hR⟩ := hz; exact hR⟩, fun h2 => (l2 h2)⟩⟩)
set_option maxRecDepth 100000 in
theorem b_X3_set_22 {Q : ab_Q} {a : Int} {b : Int} {e : Int} {s_ : Int → Int} {z_ : mc_T} {g_th : Int} {g_as : Int → Int} {g_un : Int → Int} {g_um : Int} {g_sl : Int → Int} {g_hs : Int → Int} {g_pd : Int → Int} {g_ln : Int} {g_at : Int} {g_iw : Int} {g_os : Int → Int} {g_om : Int} (l1 : sp_X3_valueAt [.inr (.inl (some 0)), .inl a] (md_cs s_ z_ (g_th, g_as, g_un, g_um, g_sl, g_hs, g_pd, g_ln, g_at, g_iw, g_os, g_om)) (fun r_ k_ => ∃ (x_ : Int), r_ = some (.inl x_) ∧ k_ = (md_cs s_ z_ (g_th, g_as, g_un, g_um, g_sl, g_hs, g_pd, g_ln, g_at, g_iw, g_os, g_om)) ∧ ab_R E_X3_set P_X3_set Q 27 [some (.inr (.inl (some 0))), some (.inl a), some (.inl b), some (.inl e), none] [.inl x_] (md_cs s_ z_ (g_th, g_as, g_un, g_um, g_sl, g_hs, g_pd, g_ln, g_at, g_iw, g_os, g_om))))  : ab_R E_X3_set P_X3_set Q 22 [some (.inr (.inl (some 0))), some (.inl a), some (.inl b), some (.inl e), none] [] (md_cs s_ z_ (g_th, g_as, g_un, g_um, g_sl, g_hs, g_pd, g_ln, g_at, g_iw, g_os, g_om)) :=
  ab_R.steps [11, 22, 27, 35] 4 (show ab_cl sp_X3_valueAt [.inr (.inl (some 0)), .inl a] (md_cs s_ z_ (g_th, g_as, g_un, g_um, g_sl, g_hs, g_pd, g_ln, g_at, g_iw, g_os, g_om)) (fun r_ k_ => k_.length = ((md_cs s_ z_ (g_th, g_as, g_un, g_um, g_sl, g_hs, g_pd, g_ln, g_at, g_iw, g_os, g_om))).length → ab_R E_X3_set P_X3_set Q 27 [some (.inr (.inl (some 0))), some (.inl a), some (.inl b), some (.inl e), none] (ab_ret r_ []) k_) from ⟨_, l1, fun r_ k_ hz _ => by obtain ⟨x_, rfl, rfl, hR⟩ := hz; exact hR⟩)
set_option maxRecDepth 100000 in
theorem b_X3_set_27 {Q : ab_Q} {a : Int} {b : Int} {e : Int} {t0 : Int} {s_ : Int → Int} {z_ : mc_T} {g_th : Int} {g_as : Int → Int} {g_un : Int → Int} {g_um : Int} {g_sl : Int → Int} {g_hs : Int → Int} {g_pd : Int → Int} {g_ln : Int} {g_at : Int} {g_iw : Int} {g_os : Int → Int} {g_om : Int} (l1 : sp_X3_sets [.inr (.inl (some 0)), .inl a, .inl b] (md_cs s_ z_ (g_th, g_as, g_un, g_um, g_sl, g_hs, g_pd, g_ln, g_at, g_iw, g_os, g_om)) (fun r_ k_ => ∃ (s_' : Int → Int), ∃ (z_' : mc_T), ∃ (g_' : mg_T), r_ = none ∧ k_ = (md_cs (s_') z_' g_') ∧ ab_R E_X3_set P_X3_set Q 35 [some (.inr (.inl (some 0))), some (.inl a), some (.inl b), some (.inl e), some (.inl t0)] [] (md_cs (s_') z_' g_')))  : ab_R E_X3_set P_X3_set Q 27 [some (.inr (.inl (some 0))), some (.inl a), some (.inl b), some (.inl e), none] [.inl t0] (md_cs s_ z_ (g_th, g_as, g_un, g_um, g_sl, g_hs, g_pd, g_ln, g_at, g_iw, g_os, g_om)) :=
  ab_R.steps [11, 22, 27, 35] 6 (show ab_cl sp_X3_sets [.inr (.inl (some 0)), .inl a, .inl b] (md_cs s_ z_ (g_th, g_as, g_un, g_um, g_sl, g_hs, g_pd, g_ln, g_at, g_iw, g_os, g_om)) (fun r_ k_ => k_.length = ((md_cs s_ z_ (g_th, g_as, g_un, g_um, g_sl, g_hs, g_pd, g_ln, g_at, g_iw, g_os, g_om))).length → ab_R E_X3_set P_X3_set Q 35 [some (.inr (.inl (some 0))), some (.inl a), some (.inl b), some (.inl e), some (.inl t0)] (ab_ret r_ []) k_) from ⟨_, l1, fun r_ k_ hz _ => by obtain ⟨s_', z_', g_', rfl, rfl, hR⟩ := hz; exact hR⟩)
set_option maxRecDepth 100000 in
theorem b_X3_set_35 {Q : ab_Q} {a : Int} {b : Int} {e : Int} {hd : Int} {s_ : Int → Int} {z_ : mc_T} {g_th : Int} {g_as : Int → Int} {g_un : Int → Int} {g_um : Int} {g_sl : Int → Int} {g_hs : Int → Int} {g_pd : Int → Int} {g_ln : Int} {g_at : Int} {g_iw : Int} {g_os : Int → Int} {g_om : Int} (l1 : Q (some (.inl (hd + 100000))) (md_cs s_ z_ (g_th, g_as, g_un, g_um, g_sl, g_hs, g_pd, g_ln, g_at, g_iw, g_os, g_om)))  : ab_R E_X3_set P_X3_set Q 35 [some (.inr (.inl (some 0))), some (.inl a), some (.inl b), some (.inl e), some (.inl hd)] [] (md_cs s_ z_ (g_th, g_as, g_un, g_um, g_sl, g_hs, g_pd, g_ln, g_at, g_iw, g_os, g_om)) :=
  ab_R.steps [11, 22, 27, 35] 5 (show Q (some (.inl (hd + 100000))) (md_cs s_ z_ (g_th, g_as, g_un, g_um, g_sl, g_hs, g_pd, g_ln, g_at, g_iw, g_os, g_om)) from l1)
-- ===== RootChunksModel.turn
def P_X3_turn : List ab_I := [(0, .aload_n 0, 1, []), (1, .iconst 0, 2, []), (2, .putfield 47, 5, []), (5, .aload_n 0, 6, []), (6, .iload_n 1, 7, []), (7, .iload_n 2, 8, []), (8, .invokevirtual 102, 11, []), (11, .istore_n 3, 12, []), (12, .iload_n 3, 13, []), (13, .ifCond .eq 5, 16, [((0 : Int), 18)]), (16, .iload_n 3, 17, []), (17, .ireturn, 18, []), (18, .aload_n 0, 19, []), (19, .invokevirtual 119, 22, []), (22, .aload_n 0, 23, []), (23, .iload_n 1, 24, []), (24, .iload_n 2, 25, []), (25, .invokevirtual 135, 28, []), (28, .aload_n 0, 29, []), (29, .getfield 7, 32, []), (32, .iconst 1, 33, []), (33, .iaload, 34, []), (34, .ireturn, 35, [])]
def E_X3_turn : ab_E := (T_X3, [(8, (3, 3, [], 0, sp_X3_refusesSpan)), (19, (1, 3, [], 0, sp_X3_records)), (25, (3, 3, [], 0, sp_X3_turns))], [], 0)
def M_X3_turn : List (Nat × ab_MI) := [(8, mi_X3_refusesSpan), (19, mi_X3_records), (25, mi_X3_turns)]
def mi_X3_turn : ab_MI := (yX3_turn, cX3_turn, 4, ab_rty 0, 6, 189)
theorem pk_X3_turn : P_X3_turn.all (ab_okI cX3_turn) = true := by decide +kernel
theorem ck_X3_turn : P_X3_turn.all (ab_okC1 "RootChunksModel" M_X3_turn E_X3_turn (6, 189)) = true := by decide +kernel
set_option maxRecDepth 100000 in
theorem b_X3_turn_0 {Q : ab_Q} {a : Int} {b : Int} {s_ : Int → Int} {z_ : mc_T} {g_th : Int} {g_as : Int → Int} {g_un : Int → Int} {g_um : Int} {g_sl : Int → Int} {g_hs : Int → Int} {g_pd : Int → Int} {g_ln : Int} {g_at : Int} {g_iw : Int} {g_os : Int → Int} {g_om : Int} (l1 : sp_X3_refusesSpan [.inr (.inl (some 0)), .inl a, .inl b] (md_cs s_ z_ (0, g_as, g_un, g_um, g_sl, g_hs, g_pd, g_ln, g_at, g_iw, g_os, g_om)) (fun r_ k_ => ∃ (x_ : Int), r_ = some (.inl x_) ∧ k_ = (md_cs s_ z_ (0, g_as, g_un, g_um, g_sl, g_hs, g_pd, g_ln, g_at, g_iw, g_os, g_om)) ∧ ab_R E_X3_turn P_X3_turn Q 11 [some (.inr (.inl (some 0))), some (.inl a), some (.inl b), none] [.inl x_] (md_cs s_ z_ (0, g_as, g_un, g_um, g_sl, g_hs, g_pd, g_ln, g_at, g_iw, g_os, g_om))))  : ab_R E_X3_turn P_X3_turn Q 0 [some (.inr (.inl (some 0))), some (.inl a), some (.inl b), none] [] (md_cs s_ z_ (g_th, g_as, g_un, g_um, g_sl, g_hs, g_pd, g_ln, g_at, g_iw, g_os, g_om)) :=
  ab_R.steps [11, 22, 28] 8 (show ab_cl sp_X3_refusesSpan [.inr (.inl (some 0)), .inl a, .inl b] (md_cs s_ z_ (0, g_as, g_un, g_um, g_sl, g_hs, g_pd, g_ln, g_at, g_iw, g_os, g_om)) (fun r_ k_ => k_.length = ((md_cs s_ z_ (0, g_as, g_un, g_um, g_sl, g_hs, g_pd, g_ln, g_at, g_iw, g_os, g_om))).length → ab_R E_X3_turn P_X3_turn Q 11 [some (.inr (.inl (some 0))), some (.inl a), some (.inl b), none] (ab_ret r_ []) k_) from ⟨_, l1, fun r_ k_ hz _ => by obtain ⟨x_, rfl, rfl, hR⟩ := hz; exact hR⟩)
set_option maxRecDepth 100000 in
theorem b_X3_turn_11 {Q : ab_Q} {a : Int} {b : Int} {t0 : Int} {s_ : Int → Int} {z_ : mc_T} {g_th : Int} {g_as : Int → Int} {g_un : Int → Int} {g_um : Int} {g_sl : Int → Int} {g_hs : Int → Int} {g_pd : Int → Int} {g_ln : Int} {g_at : Int} {g_iw : Int} {g_os : Int → Int} {g_om : Int} (l1 : t0 = (0 : Int) → sp_X3_records [.inr (.inl (some 0))] (md_cs s_ z_ (g_th, g_as, g_un, g_um, g_sl, g_hs, g_pd, g_ln, g_at, g_iw, g_os, g_om)) (fun r_ k_ => ∃ (s_' : Int → Int), ∃ (z_' : mc_T), ∃ (g_' : mg_T), r_ = none ∧ k_ = (md_cs (s_') z_' g_') ∧ ab_R E_X3_turn P_X3_turn Q 22 [some (.inr (.inl (some 0))), some (.inl a), some (.inl b), some (.inl t0)] [] (md_cs (s_') z_' g_'))) (l2 : ¬ t0 = (0 : Int) → Q (some (.inl t0)) (md_cs s_ z_ (g_th, g_as, g_un, g_um, g_sl, g_hs, g_pd, g_ln, g_at, g_iw, g_os, g_om))) (p1 : ab_r t0 := by intros; (try unfold ab_r); omega) : ab_R E_X3_turn P_X3_turn Q 11 [some (.inr (.inl (some 0))), some (.inl a), some (.inl b), none] [.inl t0] (md_cs s_ z_ (g_th, g_as, g_un, g_um, g_sl, g_hs, g_pd, g_ln, g_at, g_iw, g_os, g_om)) :=
  ab_R.steps [11, 22, 28] 6 (show (ab_r t0 ∧ ((t0 = (0 : Int) → ab_cl sp_X3_records [.inr (.inl (some 0))] (md_cs s_ z_ (g_th, g_as, g_un, g_um, g_sl, g_hs, g_pd, g_ln, g_at, g_iw, g_os, g_om)) (fun r_ k_ => k_.length = ((md_cs s_ z_ (g_th, g_as, g_un, g_um, g_sl, g_hs, g_pd, g_ln, g_at, g_iw, g_os, g_om))).length → ab_R E_X3_turn P_X3_turn Q 22 [some (.inr (.inl (some 0))), some (.inl a), some (.inl b), some (.inl t0)] (ab_ret r_ []) k_)) ∧ (¬ t0 = (0 : Int) → Q (some (.inl t0)) (md_cs s_ z_ (g_th, g_as, g_un, g_um, g_sl, g_hs, g_pd, g_ln, g_at, g_iw, g_os, g_om))))) from ⟨p1, ⟨fun h1 => ⟨_, (l1 h1), fun r_ k_ hz _ => by obtain ⟨s_', z_', g_', rfl, rfl, hR⟩ := hz; exact hR⟩, fun h2 => (l2 h2)⟩⟩)
set_option maxRecDepth 100000 in
theorem b_X3_turn_22 {Q : ab_Q} {a : Int} {b : Int} {e : Int} {s_ : Int → Int} {z_ : mc_T} {g_th : Int} {g_as : Int → Int} {g_un : Int → Int} {g_um : Int} {g_sl : Int → Int} {g_hs : Int → Int} {g_pd : Int → Int} {g_ln : Int} {g_at : Int} {g_iw : Int} {g_os : Int → Int} {g_om : Int} (l1 : sp_X3_turns [.inr (.inl (some 0)), .inl a, .inl b] (md_cs s_ z_ (g_th, g_as, g_un, g_um, g_sl, g_hs, g_pd, g_ln, g_at, g_iw, g_os, g_om)) (fun r_ k_ => ∃ (s_' : Int → Int), ∃ (z_' : mc_T), ∃ (g_' : mg_T), r_ = none ∧ k_ = (md_cs (s_') z_' g_') ∧ ab_R E_X3_turn P_X3_turn Q 28 [some (.inr (.inl (some 0))), some (.inl a), some (.inl b), some (.inl e)] [] (md_cs (s_') z_' g_')))  : ab_R E_X3_turn P_X3_turn Q 22 [some (.inr (.inl (some 0))), some (.inl a), some (.inl b), some (.inl e)] [] (md_cs s_ z_ (g_th, g_as, g_un, g_um, g_sl, g_hs, g_pd, g_ln, g_at, g_iw, g_os, g_om)) :=
  ab_R.steps [11, 22, 28] 5 (show ab_cl sp_X3_turns [.inr (.inl (some 0)), .inl a, .inl b] (md_cs s_ z_ (g_th, g_as, g_un, g_um, g_sl, g_hs, g_pd, g_ln, g_at, g_iw, g_os, g_om)) (fun r_ k_ => k_.length = ((md_cs s_ z_ (g_th, g_as, g_un, g_um, g_sl, g_hs, g_pd, g_ln, g_at, g_iw, g_os, g_om))).length → ab_R E_X3_turn P_X3_turn Q 28 [some (.inr (.inl (some 0))), some (.inl a), some (.inl b), some (.inl e)] (ab_ret r_ []) k_) from ⟨_, l1, fun r_ k_ hz _ => by obtain ⟨s_', z_', g_', rfl, rfl, hR⟩ := hz; exact hR⟩)
set_option maxRecDepth 100000 in
theorem b_X3_turn_28 {Q : ab_Q} {a : Int} {b : Int} {e : Int} {s_ : Int → Int} {z_ : mc_T} {g_th : Int} {g_as : Int → Int} {g_un : Int → Int} {g_um : Int} {g_sl : Int → Int} {g_hs : Int → Int} {g_pd : Int → Int} {g_ln : Int} {g_at : Int} {g_iw : Int} {g_os : Int → Int} {g_om : Int} (l1 : Q (some (.inl (s_ 1))) (md_cs s_ z_ (g_th, g_as, g_un, g_um, g_sl, g_hs, g_pd, g_ln, g_at, g_iw, g_os, g_om))) (p1 : (0 ≤ (1 : Int) ∧ (1 : Int) < 255) := by intros; (try unfold ab_r); omega) : ab_R E_X3_turn P_X3_turn Q 28 [some (.inr (.inl (some 0))), some (.inl a), some (.inl b), some (.inl e)] [] (md_cs s_ z_ (g_th, g_as, g_un, g_um, g_sl, g_hs, g_pd, g_ln, g_at, g_iw, g_os, g_om)) :=
  ab_R.steps [11, 22, 28] 6 (show ((0 ≤ (1 : Int) ∧ (1 : Int) < 255) ∧ Q (some (.inl (s_ 1))) (md_cs s_ z_ (g_th, g_as, g_un, g_um, g_sl, g_hs, g_pd, g_ln, g_at, g_iw, g_os, g_om))) from ⟨p1, l1⟩)
-- ===== RootChunksModel.add
def P_X3_add : List ab_I := [(0, .aload_n 0, 1, []), (1, .iconst 0, 2, []), (2, .putfield 47, 5, []), (5, .aload_n 0, 6, []), (6, .iload_n 1, 7, []), (7, .iload_n 2, 8, []), (8, .iload_n 3, 9, []), (9, .invokevirtual 138, 12, []), (12, .istore 4, 14, []), (14, .iload 4, 16, []), (16, .ifCond .eq 6, 19, [((0 : Int), 22)]), (19, .iload 4, 21, []), (21, .ireturn, 22, []), (22, .aload_n 0, 23, []), (23, .invokevirtual 119, 26, []), (26, .aload_n 0, 27, []), (27, .iload_n 1, 28, []), (28, .iload_n 2, 29, []), (29, .iload_n 3, 30, []), (30, .invokevirtual 141, 33, []), (33, .aload_n 0, 34, []), (34, .getfield 7, 37, []), (37, .iconst 1, 38, []), (38, .iaload, 39, []), (39, .ireturn, 40, [])]
def E_X3_add : ab_E := (T_X3, [(9, (4, 3, [], 0, sp_X3_refusesAdd)), (23, (1, 3, [], 0, sp_X3_records)), (30, (4, 3, [], 0, sp_X3_addsTo))], [], 0)
def M_X3_add : List (Nat × ab_MI) := [(9, mi_X3_refusesAdd), (23, mi_X3_records), (30, mi_X3_addsTo)]
def mi_X3_add : ab_MI := (yX3_add, cX3_add, 5, ab_rty 0, 6, 189)
theorem pk_X3_add : P_X3_add.all (ab_okI cX3_add) = true := by decide +kernel
theorem ck_X3_add : P_X3_add.all (ab_okC1 "RootChunksModel" M_X3_add E_X3_add (6, 189)) = true := by decide +kernel
set_option maxRecDepth 100000 in
theorem b_X3_add_0 {Q : ab_Q} {a : Int} {b : Int} {v : Int} {s_ : Int → Int} {z_ : mc_T} {g_th : Int} {g_as : Int → Int} {g_un : Int → Int} {g_um : Int} {g_sl : Int → Int} {g_hs : Int → Int} {g_pd : Int → Int} {g_ln : Int} {g_at : Int} {g_iw : Int} {g_os : Int → Int} {g_om : Int} (l1 : sp_X3_refusesAdd [.inr (.inl (some 0)), .inl a, .inl b, .inl v] (md_cs s_ z_ (0, g_as, g_un, g_um, g_sl, g_hs, g_pd, g_ln, g_at, g_iw, g_os, g_om)) (fun r_ k_ => ∃ (x_ : Int), r_ = some (.inl x_) ∧ k_ = (md_cs s_ z_ (0, g_as, g_un, g_um, g_sl, g_hs, g_pd, g_ln, g_at, g_iw, g_os, g_om)) ∧ ab_R E_X3_add P_X3_add Q 12 [some (.inr (.inl (some 0))), some (.inl a), some (.inl b), some (.inl v), none] [.inl x_] (md_cs s_ z_ (0, g_as, g_un, g_um, g_sl, g_hs, g_pd, g_ln, g_at, g_iw, g_os, g_om))))  : ab_R E_X3_add P_X3_add Q 0 [some (.inr (.inl (some 0))), some (.inl a), some (.inl b), some (.inl v), none] [] (md_cs s_ z_ (g_th, g_as, g_un, g_um, g_sl, g_hs, g_pd, g_ln, g_at, g_iw, g_os, g_om)) :=
  ab_R.steps [12, 26, 33] 9 (show ab_cl sp_X3_refusesAdd [.inr (.inl (some 0)), .inl a, .inl b, .inl v] (md_cs s_ z_ (0, g_as, g_un, g_um, g_sl, g_hs, g_pd, g_ln, g_at, g_iw, g_os, g_om)) (fun r_ k_ => k_.length = ((md_cs s_ z_ (0, g_as, g_un, g_um, g_sl, g_hs, g_pd, g_ln, g_at, g_iw, g_os, g_om))).length → ab_R E_X3_add P_X3_add Q 12 [some (.inr (.inl (some 0))), some (.inl a), some (.inl b), some (.inl v), none] (ab_ret r_ []) k_) from ⟨_, l1, fun r_ k_ hz _ => by obtain ⟨x_, rfl, rfl, hR⟩ := hz; exact hR⟩)
set_option maxRecDepth 100000 in
theorem b_X3_add_12 {Q : ab_Q} {a : Int} {b : Int} {v : Int} {t0 : Int} {s_ : Int → Int} {z_ : mc_T} {g_th : Int} {g_as : Int → Int} {g_un : Int → Int} {g_um : Int} {g_sl : Int → Int} {g_hs : Int → Int} {g_pd : Int → Int} {g_ln : Int} {g_at : Int} {g_iw : Int} {g_os : Int → Int} {g_om : Int} (l1 : t0 = (0 : Int) → sp_X3_records [.inr (.inl (some 0))] (md_cs s_ z_ (g_th, g_as, g_un, g_um, g_sl, g_hs, g_pd, g_ln, g_at, g_iw, g_os, g_om)) (fun r_ k_ => ∃ (s_' : Int → Int), ∃ (z_' : mc_T), ∃ (g_' : mg_T), r_ = none ∧ k_ = (md_cs (s_') z_' g_') ∧ ab_R E_X3_add P_X3_add Q 26 [some (.inr (.inl (some 0))), some (.inl a), some (.inl b), some (.inl v), some (.inl t0)] [] (md_cs (s_') z_' g_'))) (l2 : ¬ t0 = (0 : Int) → Q (some (.inl t0)) (md_cs s_ z_ (g_th, g_as, g_un, g_um, g_sl, g_hs, g_pd, g_ln, g_at, g_iw, g_os, g_om))) (p1 : ab_r t0 := by intros; (try unfold ab_r); omega) : ab_R E_X3_add P_X3_add Q 12 [some (.inr (.inl (some 0))), some (.inl a), some (.inl b), some (.inl v), none] [.inl t0] (md_cs s_ z_ (g_th, g_as, g_un, g_um, g_sl, g_hs, g_pd, g_ln, g_at, g_iw, g_os, g_om)) :=
  ab_R.steps [12, 26, 33] 6 (show (ab_r t0 ∧ ((t0 = (0 : Int) → ab_cl sp_X3_records [.inr (.inl (some 0))] (md_cs s_ z_ (g_th, g_as, g_un, g_um, g_sl, g_hs, g_pd, g_ln, g_at, g_iw, g_os, g_om)) (fun r_ k_ => k_.length = ((md_cs s_ z_ (g_th, g_as, g_un, g_um, g_sl, g_hs, g_pd, g_ln, g_at, g_iw, g_os, g_om))).length → ab_R E_X3_add P_X3_add Q 26 [some (.inr (.inl (some 0))), some (.inl a), some (.inl b), some (.inl v), some (.inl t0)] (ab_ret r_ []) k_)) ∧ (¬ t0 = (0 : Int) → Q (some (.inl t0)) (md_cs s_ z_ (g_th, g_as, g_un, g_um, g_sl, g_hs, g_pd, g_ln, g_at, g_iw, g_os, g_om))))) from ⟨p1, ⟨fun h1 => ⟨_, (l1 h1), fun r_ k_ hz _ => by obtain ⟨s_', z_', g_', rfl, rfl, hR⟩ := hz; exact hR⟩, fun h2 => (l2 h2)⟩⟩)
set_option maxRecDepth 100000 in
theorem b_X3_add_26 {Q : ab_Q} {a : Int} {b : Int} {v : Int} {e : Int} {s_ : Int → Int} {z_ : mc_T} {g_th : Int} {g_as : Int → Int} {g_un : Int → Int} {g_um : Int} {g_sl : Int → Int} {g_hs : Int → Int} {g_pd : Int → Int} {g_ln : Int} {g_at : Int} {g_iw : Int} {g_os : Int → Int} {g_om : Int} (l1 : sp_X3_addsTo [.inr (.inl (some 0)), .inl a, .inl b, .inl v] (md_cs s_ z_ (g_th, g_as, g_un, g_um, g_sl, g_hs, g_pd, g_ln, g_at, g_iw, g_os, g_om)) (fun r_ k_ => ∃ (s_' : Int → Int), ∃ (z_' : mc_T), ∃ (g_' : mg_T), r_ = none ∧ k_ = (md_cs (s_') z_' g_') ∧ ab_R E_X3_add P_X3_add Q 33 [some (.inr (.inl (some 0))), some (.inl a), some (.inl b), some (.inl v), some (.inl e)] [] (md_cs (s_') z_' g_')))  : ab_R E_X3_add P_X3_add Q 26 [some (.inr (.inl (some 0))), some (.inl a), some (.inl b), some (.inl v), some (.inl e)] [] (md_cs s_ z_ (g_th, g_as, g_un, g_um, g_sl, g_hs, g_pd, g_ln, g_at, g_iw, g_os, g_om)) :=
  ab_R.steps [12, 26, 33] 6 (show ab_cl sp_X3_addsTo [.inr (.inl (some 0)), .inl a, .inl b, .inl v] (md_cs s_ z_ (g_th, g_as, g_un, g_um, g_sl, g_hs, g_pd, g_ln, g_at, g_iw, g_os, g_om)) (fun r_ k_ => k_.length = ((md_cs s_ z_ (g_th, g_as, g_un, g_um, g_sl, g_hs, g_pd, g_ln, g_at, g_iw, g_os, g_om))).length → ab_R E_X3_add P_X3_add Q 33 [some (.inr (.inl (some 0))), some (.inl a), some (.inl b), some (.inl v), some (.inl e)] (ab_ret r_ []) k_) from ⟨_, l1, fun r_ k_ hz _ => by obtain ⟨s_', z_', g_', rfl, rfl, hR⟩ := hz; exact hR⟩)
set_option maxRecDepth 100000 in
theorem b_X3_add_33 {Q : ab_Q} {a : Int} {b : Int} {v : Int} {e : Int} {s_ : Int → Int} {z_ : mc_T} {g_th : Int} {g_as : Int → Int} {g_un : Int → Int} {g_um : Int} {g_sl : Int → Int} {g_hs : Int → Int} {g_pd : Int → Int} {g_ln : Int} {g_at : Int} {g_iw : Int} {g_os : Int → Int} {g_om : Int} (l1 : Q (some (.inl (s_ 1))) (md_cs s_ z_ (g_th, g_as, g_un, g_um, g_sl, g_hs, g_pd, g_ln, g_at, g_iw, g_os, g_om))) (p1 : (0 ≤ (1 : Int) ∧ (1 : Int) < 255) := by intros; (try unfold ab_r); omega) : ab_R E_X3_add P_X3_add Q 33 [some (.inr (.inl (some 0))), some (.inl a), some (.inl b), some (.inl v), some (.inl e)] [] (md_cs s_ z_ (g_th, g_as, g_un, g_um, g_sl, g_hs, g_pd, g_ln, g_at, g_iw, g_os, g_om)) :=
  ab_R.steps [12, 26, 33] 6 (show ((0 ≤ (1 : Int) ∧ (1 : Int) < 255) ∧ Q (some (.inl (s_ 1))) (md_cs s_ z_ (g_th, g_as, g_un, g_um, g_sl, g_hs, g_pd, g_ln, g_at, g_iw, g_os, g_om))) from ⟨p1, l1⟩)
-- ===== RootChunksModel.move
def P_X3_move : List ab_I := [(0, .aload_n 0, 1, []), (1, .iconst 0, 2, []), (2, .putfield 47, 5, []), (5, .aload_n 0, 6, []), (6, .iload_n 1, 7, []), (7, .iload_n 2, 8, []), (8, .iload_n 3, 9, []), (9, .invokevirtual 144, 12, []), (12, .istore 4, 14, []), (14, .iload 4, 16, []), (16, .ifCond .eq 6, 19, [((0 : Int), 22)]), (19, .iload 4, 21, []), (21, .ireturn, 22, []), (22, .aload_n 0, 23, []), (23, .invokevirtual 119, 26, []), (26, .aload_n 0, 27, []), (27, .iload_n 1, 28, []), (28, .iload_n 2, 29, []), (29, .iload_n 3, 30, []), (30, .invokevirtual 112, 33, []), (33, .aload_n 0, 34, []), (34, .invokevirtual 85, 37, []), (37, .aload_n 0, 38, []), (38, .getfield 7, 41, []), (41, .iconst 1, 42, []), (42, .iaload, 43, []), (43, .ireturn, 44, [])]
def E_X3_move : ab_E := (T_X3, [(9, (4, 3, [], 0, sp_X3_refusesMove)), (23, (1, 3, [], 0, sp_X3_records)), (30, (4, 3, [], 0, sp_X3_shifts)), (34, (1, 3, [], 0, sp_X3_evens))], [], 0)
def M_X3_move : List (Nat × ab_MI) := [(9, mi_X3_refusesMove), (23, mi_X3_records), (30, mi_X3_shifts), (34, mi_X3_evens)]
def mi_X3_move : ab_MI := (yX3_move, cX3_move, 5, ab_rty 0, 6, 194)
theorem pk_X3_move : P_X3_move.all (ab_okI cX3_move) = true := by decide +kernel
theorem ck_X3_move : P_X3_move.all (ab_okC1 "RootChunksModel" M_X3_move E_X3_move (6, 194)) = true := by decide +kernel
set_option maxRecDepth 100000 in
theorem b_X3_move_0 {Q : ab_Q} {a : Int} {b : Int} {v : Int} {s_ : Int → Int} {z_ : mc_T} {g_th : Int} {g_as : Int → Int} {g_un : Int → Int} {g_um : Int} {g_sl : Int → Int} {g_hs : Int → Int} {g_pd : Int → Int} {g_ln : Int} {g_at : Int} {g_iw : Int} {g_os : Int → Int} {g_om : Int} (l1 : sp_X3_refusesMove [.inr (.inl (some 0)), .inl a, .inl b, .inl v] (md_cs s_ z_ (0, g_as, g_un, g_um, g_sl, g_hs, g_pd, g_ln, g_at, g_iw, g_os, g_om)) (fun r_ k_ => ∃ (x_ : Int), r_ = some (.inl x_) ∧ k_ = (md_cs s_ z_ (0, g_as, g_un, g_um, g_sl, g_hs, g_pd, g_ln, g_at, g_iw, g_os, g_om)) ∧ ab_R E_X3_move P_X3_move Q 12 [some (.inr (.inl (some 0))), some (.inl a), some (.inl b), some (.inl v), none] [.inl x_] (md_cs s_ z_ (0, g_as, g_un, g_um, g_sl, g_hs, g_pd, g_ln, g_at, g_iw, g_os, g_om))))  : ab_R E_X3_move P_X3_move Q 0 [some (.inr (.inl (some 0))), some (.inl a), some (.inl b), some (.inl v), none] [] (md_cs s_ z_ (g_th, g_as, g_un, g_um, g_sl, g_hs, g_pd, g_ln, g_at, g_iw, g_os, g_om)) :=
  ab_R.steps [12, 26, 33, 37] 9 (show ab_cl sp_X3_refusesMove [.inr (.inl (some 0)), .inl a, .inl b, .inl v] (md_cs s_ z_ (0, g_as, g_un, g_um, g_sl, g_hs, g_pd, g_ln, g_at, g_iw, g_os, g_om)) (fun r_ k_ => k_.length = ((md_cs s_ z_ (0, g_as, g_un, g_um, g_sl, g_hs, g_pd, g_ln, g_at, g_iw, g_os, g_om))).length → ab_R E_X3_move P_X3_move Q 12 [some (.inr (.inl (some 0))), some (.inl a), some (.inl b), some (.inl v), none] (ab_ret r_ []) k_) from ⟨_, l1, fun r_ k_ hz _ => by obtain ⟨x_, rfl, rfl, hR⟩ := hz; exact hR⟩)
set_option maxRecDepth 100000 in
theorem b_X3_move_12 {Q : ab_Q} {a : Int} {b : Int} {v : Int} {t0 : Int} {s_ : Int → Int} {z_ : mc_T} {g_th : Int} {g_as : Int → Int} {g_un : Int → Int} {g_um : Int} {g_sl : Int → Int} {g_hs : Int → Int} {g_pd : Int → Int} {g_ln : Int} {g_at : Int} {g_iw : Int} {g_os : Int → Int} {g_om : Int} (l1 : t0 = (0 : Int) → sp_X3_records [.inr (.inl (some 0))] (md_cs s_ z_ (g_th, g_as, g_un, g_um, g_sl, g_hs, g_pd, g_ln, g_at, g_iw, g_os, g_om)) (fun r_ k_ => ∃ (s_' : Int → Int), ∃ (z_' : mc_T), ∃ (g_' : mg_T), r_ = none ∧ k_ = (md_cs (s_') z_' g_') ∧ ab_R E_X3_move P_X3_move Q 26 [some (.inr (.inl (some 0))), some (.inl a), some (.inl b), some (.inl v), some (.inl t0)] [] (md_cs (s_') z_' g_'))) (l2 : ¬ t0 = (0 : Int) → Q (some (.inl t0)) (md_cs s_ z_ (g_th, g_as, g_un, g_um, g_sl, g_hs, g_pd, g_ln, g_at, g_iw, g_os, g_om))) (p1 : ab_r t0 := by intros; (try unfold ab_r); omega) : ab_R E_X3_move P_X3_move Q 12 [some (.inr (.inl (some 0))), some (.inl a), some (.inl b), some (.inl v), none] [.inl t0] (md_cs s_ z_ (g_th, g_as, g_un, g_um, g_sl, g_hs, g_pd, g_ln, g_at, g_iw, g_os, g_om)) :=
  ab_R.steps [12, 26, 33, 37] 6 (show (ab_r t0 ∧ ((t0 = (0 : Int) → ab_cl sp_X3_records [.inr (.inl (some 0))] (md_cs s_ z_ (g_th, g_as, g_un, g_um, g_sl, g_hs, g_pd, g_ln, g_at, g_iw, g_os, g_om)) (fun r_ k_ => k_.length = ((md_cs s_ z_ (g_th, g_as, g_un, g_um, g_sl, g_hs, g_pd, g_ln, g_at, g_iw, g_os, g_om))).length → ab_R E_X3_move P_X3_move Q 26 [some (.inr (.inl (some 0))), some (.inl a), some (.inl b), some (.inl v), some (.inl t0)] (ab_ret r_ []) k_)) ∧ (¬ t0 = (0 : Int) → Q (some (.inl t0)) (md_cs s_ z_ (g_th, g_as, g_un, g_um, g_sl, g_hs, g_pd, g_ln, g_at, g_iw, g_os, g_om))))) from ⟨p1, ⟨fun h1 => ⟨_, (l1 h1), fun r_ k_ hz _ => by obtain ⟨s_', z_', g_', rfl, rfl, hR⟩ := hz; exact hR⟩, fun h2 => (l2 h2)⟩⟩)
set_option maxRecDepth 100000 in
theorem b_X3_move_26 {Q : ab_Q} {a : Int} {b : Int} {v : Int} {e : Int} {s_ : Int → Int} {z_ : mc_T} {g_th : Int} {g_as : Int → Int} {g_un : Int → Int} {g_um : Int} {g_sl : Int → Int} {g_hs : Int → Int} {g_pd : Int → Int} {g_ln : Int} {g_at : Int} {g_iw : Int} {g_os : Int → Int} {g_om : Int} (l1 : sp_X3_shifts [.inr (.inl (some 0)), .inl a, .inl b, .inl v] (md_cs s_ z_ (g_th, g_as, g_un, g_um, g_sl, g_hs, g_pd, g_ln, g_at, g_iw, g_os, g_om)) (fun r_ k_ => ∃ (s_' : Int → Int), ∃ (z_' : mc_T), ∃ (g_' : mg_T), r_ = none ∧ k_ = (md_cs (s_') z_' g_') ∧ ab_R E_X3_move P_X3_move Q 33 [some (.inr (.inl (some 0))), some (.inl a), some (.inl b), some (.inl v), some (.inl e)] [] (md_cs (s_') z_' g_')))  : ab_R E_X3_move P_X3_move Q 26 [some (.inr (.inl (some 0))), some (.inl a), some (.inl b), some (.inl v), some (.inl e)] [] (md_cs s_ z_ (g_th, g_as, g_un, g_um, g_sl, g_hs, g_pd, g_ln, g_at, g_iw, g_os, g_om)) :=
  ab_R.steps [12, 26, 33, 37] 6 (show ab_cl sp_X3_shifts [.inr (.inl (some 0)), .inl a, .inl b, .inl v] (md_cs s_ z_ (g_th, g_as, g_un, g_um, g_sl, g_hs, g_pd, g_ln, g_at, g_iw, g_os, g_om)) (fun r_ k_ => k_.length = ((md_cs s_ z_ (g_th, g_as, g_un, g_um, g_sl, g_hs, g_pd, g_ln, g_at, g_iw, g_os, g_om))).length → ab_R E_X3_move P_X3_move Q 33 [some (.inr (.inl (some 0))), some (.inl a), some (.inl b), some (.inl v), some (.inl e)] (ab_ret r_ []) k_) from ⟨_, l1, fun r_ k_ hz _ => by obtain ⟨s_', z_', g_', rfl, rfl, hR⟩ := hz; exact hR⟩)
set_option maxRecDepth 100000 in
theorem b_X3_move_33 {Q : ab_Q} {a : Int} {b : Int} {v : Int} {e : Int} {s_ : Int → Int} {z_ : mc_T} {g_th : Int} {g_as : Int → Int} {g_un : Int → Int} {g_um : Int} {g_sl : Int → Int} {g_hs : Int → Int} {g_pd : Int → Int} {g_ln : Int} {g_at : Int} {g_iw : Int} {g_os : Int → Int} {g_om : Int} (l1 : sp_X3_evens [.inr (.inl (some 0))] (md_cs s_ z_ (g_th, g_as, g_un, g_um, g_sl, g_hs, g_pd, g_ln, g_at, g_iw, g_os, g_om)) (fun r_ k_ => ∃ (s_' : Int → Int), ∃ (z_' : mc_T), ∃ (g_' : mg_T), r_ = none ∧ k_ = (md_cs (s_') z_' g_') ∧ ab_R E_X3_move P_X3_move Q 37 [some (.inr (.inl (some 0))), some (.inl a), some (.inl b), some (.inl v), some (.inl e)] [] (md_cs (s_') z_' g_')))  : ab_R E_X3_move P_X3_move Q 33 [some (.inr (.inl (some 0))), some (.inl a), some (.inl b), some (.inl v), some (.inl e)] [] (md_cs s_ z_ (g_th, g_as, g_un, g_um, g_sl, g_hs, g_pd, g_ln, g_at, g_iw, g_os, g_om)) :=
  ab_R.steps [12, 26, 33, 37] 3 (show ab_cl sp_X3_evens [.inr (.inl (some 0))] (md_cs s_ z_ (g_th, g_as, g_un, g_um, g_sl, g_hs, g_pd, g_ln, g_at, g_iw, g_os, g_om)) (fun r_ k_ => k_.length = ((md_cs s_ z_ (g_th, g_as, g_un, g_um, g_sl, g_hs, g_pd, g_ln, g_at, g_iw, g_os, g_om))).length → ab_R E_X3_move P_X3_move Q 37 [some (.inr (.inl (some 0))), some (.inl a), some (.inl b), some (.inl v), some (.inl e)] (ab_ret r_ []) k_) from ⟨_, l1, fun r_ k_ hz _ => by obtain ⟨s_', z_', g_', rfl, rfl, hR⟩ := hz; exact hR⟩)
set_option maxRecDepth 100000 in
theorem b_X3_move_37 {Q : ab_Q} {a : Int} {b : Int} {v : Int} {e : Int} {s_ : Int → Int} {z_ : mc_T} {g_th : Int} {g_as : Int → Int} {g_un : Int → Int} {g_um : Int} {g_sl : Int → Int} {g_hs : Int → Int} {g_pd : Int → Int} {g_ln : Int} {g_at : Int} {g_iw : Int} {g_os : Int → Int} {g_om : Int} (l1 : Q (some (.inl (s_ 1))) (md_cs s_ z_ (g_th, g_as, g_un, g_um, g_sl, g_hs, g_pd, g_ln, g_at, g_iw, g_os, g_om))) (p1 : (0 ≤ (1 : Int) ∧ (1 : Int) < 255) := by intros; (try unfold ab_r); omega) : ab_R E_X3_move P_X3_move Q 37 [some (.inr (.inl (some 0))), some (.inl a), some (.inl b), some (.inl v), some (.inl e)] [] (md_cs s_ z_ (g_th, g_as, g_un, g_um, g_sl, g_hs, g_pd, g_ln, g_at, g_iw, g_os, g_om)) :=
  ab_R.steps [12, 26, 33, 37] 6 (show ((0 ≤ (1 : Int) ∧ (1 : Int) < 255) ∧ Q (some (.inl (s_ 1))) (md_cs s_ z_ (g_th, g_as, g_un, g_um, g_sl, g_hs, g_pd, g_ln, g_at, g_iw, g_os, g_om))) from ⟨p1, l1⟩)
-- ===== RootChunksModel.rotate
def P_X3_rotate : List ab_I := [(0, .aload_n 0, 1, []), (1, .iconst 0, 2, []), (2, .putfield 47, 5, []), (5, .aload_n 0, 6, []), (6, .iload_n 1, 7, []), (7, .iload_n 2, 8, []), (8, .iload_n 3, 9, []), (9, .invokevirtual 106, 12, []), (12, .istore 4, 14, []), (14, .iload 4, 16, []), (16, .ifCond .eq 6, 19, [((0 : Int), 22)]), (19, .iload 4, 21, []), (21, .ireturn, 22, []), (22, .aload_n 0, 23, []), (23, .invokevirtual 119, 26, []), (26, .aload_n 0, 27, []), (27, .iload_n 1, 28, []), (28, .iload_n 2, 29, []), (29, .iload_n 3, 30, []), (30, .invokevirtual 147, 33, []), (33, .aload_n 0, 34, []), (34, .getfield 7, 37, []), (37, .iconst 1, 38, []), (38, .iaload, 39, []), (39, .ireturn, 40, [])]
def E_X3_rotate : ab_E := (T_X3, [(9, (4, 3, [], 0, sp_X3_refusesBy)), (23, (1, 3, [], 0, sp_X3_records)), (30, (4, 3, [], 0, sp_X3_rotates))], [], 0)
def M_X3_rotate : List (Nat × ab_MI) := [(9, mi_X3_refusesBy), (23, mi_X3_records), (30, mi_X3_rotates)]
def mi_X3_rotate : ab_MI := (yX3_rotate, cX3_rotate, 5, ab_rty 0, 7, 219)
theorem pk_X3_rotate : P_X3_rotate.all (ab_okI cX3_rotate) = true := by decide +kernel
theorem ck_X3_rotate : P_X3_rotate.all (ab_okC1 "RootChunksModel" M_X3_rotate E_X3_rotate (7, 219)) = true := by decide +kernel
set_option maxRecDepth 100000 in
theorem b_X3_rotate_0 {Q : ab_Q} {a : Int} {b : Int} {v : Int} {s_ : Int → Int} {z_ : mc_T} {g_th : Int} {g_as : Int → Int} {g_un : Int → Int} {g_um : Int} {g_sl : Int → Int} {g_hs : Int → Int} {g_pd : Int → Int} {g_ln : Int} {g_at : Int} {g_iw : Int} {g_os : Int → Int} {g_om : Int} (l1 : sp_X3_refusesBy [.inr (.inl (some 0)), .inl a, .inl b, .inl v] (md_cs s_ z_ (0, g_as, g_un, g_um, g_sl, g_hs, g_pd, g_ln, g_at, g_iw, g_os, g_om)) (fun r_ k_ => ∃ (x_ : Int), r_ = some (.inl x_) ∧ k_ = (md_cs s_ z_ (0, g_as, g_un, g_um, g_sl, g_hs, g_pd, g_ln, g_at, g_iw, g_os, g_om)) ∧ ab_R E_X3_rotate P_X3_rotate Q 12 [some (.inr (.inl (some 0))), some (.inl a), some (.inl b), some (.inl v), none] [.inl x_] (md_cs s_ z_ (0, g_as, g_un, g_um, g_sl, g_hs, g_pd, g_ln, g_at, g_iw, g_os, g_om))))  : ab_R E_X3_rotate P_X3_rotate Q 0 [some (.inr (.inl (some 0))), some (.inl a), some (.inl b), some (.inl v), none] [] (md_cs s_ z_ (g_th, g_as, g_un, g_um, g_sl, g_hs, g_pd, g_ln, g_at, g_iw, g_os, g_om)) :=
  ab_R.steps [12, 26, 33] 9 (show ab_cl sp_X3_refusesBy [.inr (.inl (some 0)), .inl a, .inl b, .inl v] (md_cs s_ z_ (0, g_as, g_un, g_um, g_sl, g_hs, g_pd, g_ln, g_at, g_iw, g_os, g_om)) (fun r_ k_ => k_.length = ((md_cs s_ z_ (0, g_as, g_un, g_um, g_sl, g_hs, g_pd, g_ln, g_at, g_iw, g_os, g_om))).length → ab_R E_X3_rotate P_X3_rotate Q 12 [some (.inr (.inl (some 0))), some (.inl a), some (.inl b), some (.inl v), none] (ab_ret r_ []) k_) from ⟨_, l1, fun r_ k_ hz _ => by obtain ⟨x_, rfl, rfl, hR⟩ := hz; exact hR⟩)
set_option maxRecDepth 100000 in
theorem b_X3_rotate_12 {Q : ab_Q} {a : Int} {b : Int} {v : Int} {t0 : Int} {s_ : Int → Int} {z_ : mc_T} {g_th : Int} {g_as : Int → Int} {g_un : Int → Int} {g_um : Int} {g_sl : Int → Int} {g_hs : Int → Int} {g_pd : Int → Int} {g_ln : Int} {g_at : Int} {g_iw : Int} {g_os : Int → Int} {g_om : Int} (l1 : t0 = (0 : Int) → sp_X3_records [.inr (.inl (some 0))] (md_cs s_ z_ (g_th, g_as, g_un, g_um, g_sl, g_hs, g_pd, g_ln, g_at, g_iw, g_os, g_om)) (fun r_ k_ => ∃ (s_' : Int → Int), ∃ (z_' : mc_T), ∃ (g_' : mg_T), r_ = none ∧ k_ = (md_cs (s_') z_' g_') ∧ ab_R E_X3_rotate P_X3_rotate Q 26 [some (.inr (.inl (some 0))), some (.inl a), some (.inl b), some (.inl v), some (.inl t0)] [] (md_cs (s_') z_' g_'))) (l2 : ¬ t0 = (0 : Int) → Q (some (.inl t0)) (md_cs s_ z_ (g_th, g_as, g_un, g_um, g_sl, g_hs, g_pd, g_ln, g_at, g_iw, g_os, g_om))) (p1 : ab_r t0 := by intros; (try unfold ab_r); omega) : ab_R E_X3_rotate P_X3_rotate Q 12 [some (.inr (.inl (some 0))), some (.inl a), some (.inl b), some (.inl v), none] [.inl t0] (md_cs s_ z_ (g_th, g_as, g_un, g_um, g_sl, g_hs, g_pd, g_ln, g_at, g_iw, g_os, g_om)) :=
  ab_R.steps [12, 26, 33] 6 (show (ab_r t0 ∧ ((t0 = (0 : Int) → ab_cl sp_X3_records [.inr (.inl (some 0))] (md_cs s_ z_ (g_th, g_as, g_un, g_um, g_sl, g_hs, g_pd, g_ln, g_at, g_iw, g_os, g_om)) (fun r_ k_ => k_.length = ((md_cs s_ z_ (g_th, g_as, g_un, g_um, g_sl, g_hs, g_pd, g_ln, g_at, g_iw, g_os, g_om))).length → ab_R E_X3_rotate P_X3_rotate Q 26 [some (.inr (.inl (some 0))), some (.inl a), some (.inl b), some (.inl v), some (.inl t0)] (ab_ret r_ []) k_)) ∧ (¬ t0 = (0 : Int) → Q (some (.inl t0)) (md_cs s_ z_ (g_th, g_as, g_un, g_um, g_sl, g_hs, g_pd, g_ln, g_at, g_iw, g_os, g_om))))) from ⟨p1, ⟨fun h1 => ⟨_, (l1 h1), fun r_ k_ hz _ => by obtain ⟨s_', z_', g_', rfl, rfl, hR⟩ := hz; exact hR⟩, fun h2 => (l2 h2)⟩⟩)
set_option maxRecDepth 100000 in
theorem b_X3_rotate_26 {Q : ab_Q} {a : Int} {b : Int} {v : Int} {e : Int} {s_ : Int → Int} {z_ : mc_T} {g_th : Int} {g_as : Int → Int} {g_un : Int → Int} {g_um : Int} {g_sl : Int → Int} {g_hs : Int → Int} {g_pd : Int → Int} {g_ln : Int} {g_at : Int} {g_iw : Int} {g_os : Int → Int} {g_om : Int} (l1 : sp_X3_rotates [.inr (.inl (some 0)), .inl a, .inl b, .inl v] (md_cs s_ z_ (g_th, g_as, g_un, g_um, g_sl, g_hs, g_pd, g_ln, g_at, g_iw, g_os, g_om)) (fun r_ k_ => ∃ (s_' : Int → Int), ∃ (z_' : mc_T), ∃ (g_' : mg_T), r_ = none ∧ k_ = (md_cs (s_') z_' g_') ∧ ab_R E_X3_rotate P_X3_rotate Q 33 [some (.inr (.inl (some 0))), some (.inl a), some (.inl b), some (.inl v), some (.inl e)] [] (md_cs (s_') z_' g_')))  : ab_R E_X3_rotate P_X3_rotate Q 26 [some (.inr (.inl (some 0))), some (.inl a), some (.inl b), some (.inl v), some (.inl e)] [] (md_cs s_ z_ (g_th, g_as, g_un, g_um, g_sl, g_hs, g_pd, g_ln, g_at, g_iw, g_os, g_om)) :=
  ab_R.steps [12, 26, 33] 6 (show ab_cl sp_X3_rotates [.inr (.inl (some 0)), .inl a, .inl b, .inl v] (md_cs s_ z_ (g_th, g_as, g_un, g_um, g_sl, g_hs, g_pd, g_ln, g_at, g_iw, g_os, g_om)) (fun r_ k_ => k_.length = ((md_cs s_ z_ (g_th, g_as, g_un, g_um, g_sl, g_hs, g_pd, g_ln, g_at, g_iw, g_os, g_om))).length → ab_R E_X3_rotate P_X3_rotate Q 33 [some (.inr (.inl (some 0))), some (.inl a), some (.inl b), some (.inl v), some (.inl e)] (ab_ret r_ []) k_) from ⟨_, l1, fun r_ k_ hz _ => by obtain ⟨s_', z_', g_', rfl, rfl, hR⟩ := hz; exact hR⟩)
set_option maxRecDepth 100000 in
theorem b_X3_rotate_33 {Q : ab_Q} {a : Int} {b : Int} {v : Int} {e : Int} {s_ : Int → Int} {z_ : mc_T} {g_th : Int} {g_as : Int → Int} {g_un : Int → Int} {g_um : Int} {g_sl : Int → Int} {g_hs : Int → Int} {g_pd : Int → Int} {g_ln : Int} {g_at : Int} {g_iw : Int} {g_os : Int → Int} {g_om : Int} (l1 : Q (some (.inl (s_ 1))) (md_cs s_ z_ (g_th, g_as, g_un, g_um, g_sl, g_hs, g_pd, g_ln, g_at, g_iw, g_os, g_om))) (p1 : (0 ≤ (1 : Int) ∧ (1 : Int) < 255) := by intros; (try unfold ab_r); omega) : ab_R E_X3_rotate P_X3_rotate Q 33 [some (.inr (.inl (some 0))), some (.inl a), some (.inl b), some (.inl v), some (.inl e)] [] (md_cs s_ z_ (g_th, g_as, g_un, g_um, g_sl, g_hs, g_pd, g_ln, g_at, g_iw, g_os, g_om)) :=
  ab_R.steps [12, 26, 33] 6 (show ((0 ≤ (1 : Int) ∧ (1 : Int) < 255) ∧ Q (some (.inl (s_ 1))) (md_cs s_ z_ (g_th, g_as, g_un, g_um, g_sl, g_hs, g_pd, g_ln, g_at, g_iw, g_os, g_om))) from ⟨p1, l1⟩)
theorem mq_ePut_0 {q : List mq_K} {p v : Int} (hW : mq_W q) (h : mq_ePut q p v = 0) : 0 ≤ p ∧ p ≤ mq_n q ∧ mq_n q < 60 ∧ mq_vl v := by
  have hfl := hW.2
  unfold mq_ePut at h
  split at h
  · next h1 =>
    split at h
    · next h2 =>
      split at h
      · omega
      · next h3 => exact ⟨h1.1, h1.2, by unfold mq_n at h3 ⊢; omega, h2⟩
    · omega
  · omega
theorem mq_eCut_0 {q : List mq_K} {p : Int} (h : mq_eCut q p = 0) : mq_pl q p := by
  unfold mq_eCut at h
  split at h
  · assumption
  · omega
theorem mq_eSet_0 {q : List mq_K} {p v : Int} (h : mq_eSet q p v = 0) : mq_pl q p ∧ mq_vl v := by
  unfold mq_eSet at h
  split at h
  · next h1 =>
    split at h
    · next h2 => exact ⟨h1, h2⟩
    · omega
  · omega
theorem mq_eAdd_0 {q : List mq_K} {a b v : Int} (h : mq_eAdd q a b v = 0) : mq_eSpan q a b = 0 ∧ ∀ x ∈ mq_sp q a b, -99999 ≤ x + v ∧ x + v ≤ 99999 := by
  unfold mq_eAdd at h
  split at h
  · next h1 =>
    split at h
    · next h2 =>
      refine ⟨(mq_eBy_0 h1).1, fun x hx => ?_⟩
      unfold mq_fits at h2
      exact of_decide_eq_true (List.all_eq_true.mp h2 x hx)
    · omega
  · next h1 => exact absurd h h1
theorem mq_eMove_0 {q : List mq_K} {a b p : Int} (h : mq_eMove q a b p = 0) : mq_eSpan q a b = 0 ∧ 0 ≤ p ∧ p ≤ mq_n q - (b - a + 1) := by
  unfold mq_eMove at h
  split at h
  · next h1 =>
    split at h
    · next h2 => exact ⟨h1, h2⟩
    · omega
  · next h1 => exact absurd h h1
theorem mf_rol_W {q : List mq_K} {a b c : Int} (hW : mq_W q) (h : mq_eBy q a b c = 0) : mq_W (mf_rol q a b c).1 := by
  have h1 := mq_eSpan_0 (mq_eBy_0 h).1
  unfold mq_n at h1
  obtain ⟨-, -, -, -, t5, t6⟩ := mf_tmod c (b - a + 1) (by omega)
  unfold mf_rol
  split
  · exact hW
  · exact mq_W_mov hW (by omega) (by omega)
theorem mf_do_W {k : Int} {q : List mq_K} {a b c : Int} (hW : mq_W q) (h : mf_err k q a b c = 0) : mq_W (mf_do k q a b c).1 := by
  unfold mf_do
  unfold mf_err at h
  by_cases k1 : k = 112
  · rw [if_pos k1] at h ⊢
    obtain ⟨e1, e2, e3, e4⟩ := mq_ePut_0 hW h
    unfold mq_n at e2 e3
    unfold mq_vl at e4
    exact mq_ev_W (mq_W_put hW (by omega) (by omega) (by omega))
  rw [if_neg k1] at h ⊢
  by_cases k2 : k = 99
  · rw [if_pos k2] at h ⊢
    have e := mq_eCut_0 h
    unfold mq_pl mq_n at e
    exact mq_ev_W (mq_W_tak hW (by omega))
  rw [if_neg k2] at h ⊢
  by_cases k3 : k = 115
  · rw [if_pos k3] at h ⊢
    obtain ⟨e, e2⟩ := mq_eSet_0 h
    unfold mq_pl mq_n at e
    unfold mq_vl at e2
    exact mq_ev_W (mq_W_set hW (by omega) (by omega))
  rw [if_neg k3] at h ⊢
  by_cases k4 : k = 116
  · rw [if_pos k4] at h ⊢
    have e := mq_eSpan_0 h
    unfold mq_n at e
    exact mq_ev_W (mq_W_trn hW (by omega))
  rw [if_neg k4] at h ⊢
  by_cases k5 : k = 97
  · rw [if_pos k5] at h ⊢
    obtain ⟨e0, e1⟩ := mq_eAdd_0 h
    have e := mq_eSpan_0 e0
    unfold mq_n at e
    exact mq_ev_W (mq_W_add hW (by omega) e1)
  rw [if_neg k5] at h ⊢
  by_cases k6 : k = 109
  · rw [if_pos k6] at h ⊢
    obtain ⟨e0, e1, e2⟩ := mq_eMove_0 h
    have e := mq_eSpan_0 e0
    unfold mq_n at e e2
    exact mq_ev_W (mq_W_mov hW (by omega) (by omega))
  rw [if_neg k6] at h ⊢
  exact mq_ev_W (mf_rol_W hW h)
theorem mh_err {Q : ab_Q} {k : Int} {S : mS_T} {a b c : Int} (hQ : mh_out Q (mf_change k S a b c)) (he : ¬ mf_err k S.1.1 a b c = 0) {s' : Int → Int} {z' : mc_T} {g' : mg_T} (hI : mh_inv s' g' S) (h0 : g'.1 = 0) : Q (some (.inl (mf_err k S.1.1 a b c))) (md_cs s' z' g') := by
  unfold mf_change at hQ
  rw [if_neg he] at hQ
  exact hQ s' z' g' hI h0
theorem mh_fin {Q : ab_Q} {k : Int} {S : mS_T} {a b c : Int} (hQ : mh_out Q (mf_change k S a b c)) (he : mf_err k S.1.1 a b c = 0) {s' : Int → Int} {z' : mc_T} {g' : mg_T} (hW : mq_W S.1.1) (hR : mq_R (md_v s') (mf_do k S.1.1 a b c).1) (hw : s' 2 = S.1.2 + (mf_do k S.1.1 a b c).2) (hU : mh_U g'.2.2.1 g'.2.2.2.1 (mh_push S.2.1 S.1)) (hS : mh_S g'.2.2.2.2.1 g'.2.2.2.2.2.1 S.2.2.1) (hP : mh_P g'.2.2.2.2.2.2.1 g'.2.2.2.2.2.2.2.1 S.2.2.2) (h0 : g'.1 = 0) {x : Int} (hx : x = mf_ans k S.1.1 (mf_do k S.1.1 a b c).1 a) : Q (some (.inl x)) (md_cs s' z' g') := by
  unfold mf_change at hQ
  rw [if_pos he] at hQ
  rw [hx]
  exact hQ s' z' g' ⟨⟨hR, mf_do_W hW he, hw⟩, hU, hS, hP⟩ h0
theorem mq_v_is {q : List mq_K} {a : Int} (h : mq_pl q a) : (mq_all q)[a.toNat]? = some (mq_v q a) := by
  unfold mq_pl mq_n at h
  have hl : a.toNat < (mq_all q).length := by rw [mq_all_len]; omega
  unfold mq_v
  rw [List.getD_eq_getElem?_getD, List.getElem?_eq_getElem hl]
  rfl
theorem vc_X3_putIn {av : List ab_V} {cs : List ab_C} {Q : ab_Q} (h : sp_X3_putIn av cs Q) : (ab_lv0 av).length ≤ 4 ∧ ab_R E_X3_putIn P_X3_putIn Q 0 (ab_ent av 4) [] cs := by
  obtain ⟨s, z, ⟨th, as, un, um, sl, hs, pd, ln, at_, iw, os, om⟩, S, a, b, rfl, rfl, ⟨hst, hU, hS, hP⟩, ha, hb, hQ⟩ := h
  refine ⟨Nat.le_of_ble_eq_true rfl, ?_⟩
  obtain ⟨hR, hW, hw⟩ := id hst
  refine b_X3_putIn_0 ⟨_, _, _, S.1.1, _, _, rfl, rfl, hR, hW, ha, hb, _, rfl, rfl, ?_⟩
  have hrr : ab_r (mq_ePut S.1.1 a b) := by unfold mq_ePut ab_r; split; (split; (split <;> omega); omega); omega
  refine b_X3_putIn_11 (fun he => ?_) (fun he => mh_err hQ he ⟨hst, hU, hS, hP⟩ rfl) (p1 := hrr)
  obtain ⟨e1, e2, e3, e4⟩ := mq_ePut_0 hW he
  unfold mq_n at e2 e3
  unfold mq_vl at e4
  refine ⟨_, _, _, _, _, _, _, _, _, _, _, _, _, _, _, _, rfl, rfl, hst, hU, fun un' um' hU' => ⟨_, _, _, rfl, rfl, ?_⟩⟩
  refine b_X3_putIn_22 ⟨_, _, _, S.1.1, a.toNat, _, _, rfl, rfl, hR, hW, by omega, by omega, by omega, by omega, by omega, fun s' z' q1 q2 => ⟨_, _, _, rfl, rfl, ?_⟩⟩
  refine b_X3_putIn_28 (mh_fin (g' := (0, as, un', um', sl, hs, pd, ln, at_, iw, os, om)) hQ he hW q1 ?_ hU' hS hP rfl ?_)
  · rw [q2, hw]; unfold mf_do; rw [if_pos rfl]; unfold mf_ch; dsimp only; omega
  · exact q1.2.2.2.2.1
theorem mt_X3_putIn (l : Launch) : ab_MT l mi_X3_putIn sp_X3_putIn := ab_MT.of (own := "RootChunksModel") (E := E_X3_putIn) (P := P_X3_putIn) (M := M_X3_putIn) (nL := 4) (ty := 0) (by decide) rfl rfl tk_X3 pk_X3_putIn ck_X3_putIn (ab_CT'.cons (mt_X3_refusesPut l) (ab_CT'.cons (mt_X3_records l) (ab_CT'.cons (mt_X3_puts l) ab_CT'.nil))) (fun av cs Q h => vc_X3_putIn h)
theorem vc_X3_takeOut {av : List ab_V} {cs : List ab_C} {Q : ab_Q} (h : sp_X3_takeOut av cs Q) : (ab_lv0 av).length ≤ 3 ∧ ab_R E_X3_takeOut P_X3_takeOut Q 0 (ab_ent av 3) [] cs := by
  obtain ⟨s, z, ⟨th, as, un, um, sl, hs, pd, ln, at_, iw, os, om⟩, S, a, rfl, rfl, ⟨hst, hU, hS, hP⟩, ha, hQ⟩ := h
  refine ⟨Nat.le_of_ble_eq_true rfl, ?_⟩
  obtain ⟨hR, hW, hw⟩ := id hst
  have ee : mf_err 99 S.1.1 a 0 0 = mq_eCut S.1.1 a := rfl
  refine b_X3_takeOut_0 ⟨_, _, _, S.1.1, _, rfl, rfl, hR, hW, ha, _, rfl, rfl, ?_⟩
  by_cases y : mq_pl S.1.1 a
  · rw [if_pos y]
    have he : mf_err 99 S.1.1 a 0 0 = 0 := by rw [ee]; unfold mq_eCut; rw [if_pos y]
    have hv := mq_v_is y
    have y2 := y
    unfold mq_pl mq_n at y2
    refine b_X3_takeOut_10 (fun _ => ?_) (fun h => by omega)
    refine ⟨_, _, _, _, _, _, _, _, _, _, _, _, _, _, _, _, rfl, rfl, hst, hU, fun un' um' hU' => ⟨_, _, _, rfl, rfl, ?_⟩⟩
    refine b_X3_takeOut_19 ⟨_, _, _, S.1.1, _, a.toNat, _, rfl, rfl, hR, hW, by omega, hv, _, rfl, rfl, ?_⟩
    refine b_X3_takeOut_24 ⟨_, _, _, S.1.1, a.toNat, _, rfl, rfl, hR, hW, by omega, by omega, fun s' z' q1 q2 => ⟨_, _, _, rfl, rfl, ?_⟩⟩
    refine b_X3_takeOut_30 (mh_fin (g' := (0, as, un', um', sl, hs, pd, ln, at_, iw, os, om)) hQ he hW q1 ?_ hU' hS hP rfl rfl)
    rw [q2, hw]; unfold mf_do; rw [if_neg (by omega), if_pos rfl]; unfold mf_ch; dsimp only; omega
  · rw [if_neg y]
    have he : mf_err 99 S.1.1 a 0 0 = -1 := by rw [ee]; unfold mq_eCut; rw [if_neg y]
    refine b_X3_takeOut_10 (fun h => absurd rfl h) (fun _ => ?_)
    have := mh_err (z' := z) (g' := (0, as, un, um, sl, hs, pd, ln, at_, iw, os, om)) hQ (by omega) ⟨hst, hU, hS, hP⟩ rfl
    rw [he] at this
    exact this
theorem mt_X3_takeOut (l : Launch) : ab_MT l mi_X3_takeOut sp_X3_takeOut := ab_MT.of (own := "RootChunksModel") (E := E_X3_takeOut) (P := P_X3_takeOut) (M := M_X3_takeOut) (nL := 3) (ty := 0) (by decide) rfl rfl tk_X3 pk_X3_takeOut ck_X3_takeOut (ab_CT'.cons (mt_X3_isPlace l) (ab_CT'.cons (mt_X3_records l) (ab_CT'.cons (mt_X3_valueAt l) (ab_CT'.cons (mt_X3_takes l) ab_CT'.nil)))) (fun av cs Q h => vc_X3_takeOut h)
theorem vc_X3_set {av : List ab_V} {cs : List ab_C} {Q : ab_Q} (h : sp_X3_set av cs Q) : (ab_lv0 av).length ≤ 5 ∧ ab_R E_X3_set P_X3_set Q 0 (ab_ent av 5) [] cs := by
  obtain ⟨s, z, ⟨th, as, un, um, sl, hs, pd, ln, at_, iw, os, om⟩, S, a, b, rfl, rfl, ⟨hst, hU, hS, hP⟩, ha, hb, hQ⟩ := h
  refine ⟨Nat.le_of_ble_eq_true rfl, ?_⟩
  obtain ⟨hR, hW, hw⟩ := id hst
  refine b_X3_set_0 ⟨_, _, _, S.1.1, _, _, rfl, rfl, hR, hW, ha, hb, _, rfl, rfl, ?_⟩
  have hrr : ab_r (mq_eSet S.1.1 a b) := by unfold mq_eSet ab_r; split; (split <;> omega); omega
  refine b_X3_set_11 (fun he => ?_) (fun he => mh_err hQ he ⟨hst, hU, hS, hP⟩ rfl) (p1 := hrr)
  obtain ⟨y, e4⟩ := mq_eSet_0 he
  have hv := mq_v_is y
  unfold mq_pl mq_n at y
  unfold mq_vl at e4
  refine ⟨_, _, _, _, _, _, _, _, _, _, _, _, _, _, _, _, rfl, rfl, hst, hU, fun un' um' hU' => ⟨_, _, _, rfl, rfl, ?_⟩⟩
  refine b_X3_set_22 ⟨_, _, _, S.1.1, _, a.toNat, _, rfl, rfl, hR, hW, by omega, hv, _, rfl, rfl, ?_⟩
  refine b_X3_set_27 ⟨_, _, _, S.1.1, a.toNat, _, _, rfl, rfl, hR, hW, by omega, by omega, by omega, by omega, fun s' z' q1 q2 => ⟨_, _, _, rfl, rfl, ?_⟩⟩
  refine b_X3_set_35 (mh_fin (g' := (0, as, un', um', sl, hs, pd, ln, at_, iw, os, om)) hQ he hW q1 ?_ hU' hS hP rfl rfl)
  rw [q2, hw]; unfold mf_do; rw [if_neg (by omega), if_neg (by omega), if_pos rfl]; unfold mf_ch; dsimp only; omega
theorem mt_X3_set (l : Launch) : ab_MT l mi_X3_set sp_X3_set := ab_MT.of (own := "RootChunksModel") (E := E_X3_set) (P := P_X3_set) (M := M_X3_set) (nL := 5) (ty := 0) (by decide) rfl rfl tk_X3 pk_X3_set ck_X3_set (ab_CT'.cons (mt_X3_refusesSet l) (ab_CT'.cons (mt_X3_records l) (ab_CT'.cons (mt_X3_valueAt l) (ab_CT'.cons (mt_X3_sets l) ab_CT'.nil)))) (fun av cs Q h => vc_X3_set h)
theorem vc_X3_turn {av : List ab_V} {cs : List ab_C} {Q : ab_Q} (h : sp_X3_turn av cs Q) : (ab_lv0 av).length ≤ 4 ∧ ab_R E_X3_turn P_X3_turn Q 0 (ab_ent av 4) [] cs := by
  obtain ⟨s, z, ⟨th, as, un, um, sl, hs, pd, ln, at_, iw, os, om⟩, S, a, b, rfl, rfl, ⟨hst, hU, hS, hP⟩, ha, hb, hQ⟩ := h
  refine ⟨Nat.le_of_ble_eq_true rfl, ?_⟩
  obtain ⟨hR, hW, hw⟩ := id hst
  refine b_X3_turn_0 ⟨_, _, _, S.1.1, _, _, rfl, rfl, hR, hW, ha, hb, _, rfl, rfl, ?_⟩
  have hrr : ab_r (mq_eSpan S.1.1 a b) := by have := mq_eSpan_in S.1.1 a b; unfold ab_r; omega
  refine b_X3_turn_11 (fun he => ?_) (fun he => mh_err hQ he ⟨hst, hU, hS, hP⟩ rfl) (p1 := hrr)
  have e := mq_eSpan_0 he
  unfold mq_n at e
  refine ⟨_, _, _, _, _, _, _, _, _, _, _, _, _, _, _, _, rfl, rfl, hst, hU, fun un' um' hU' => ⟨_, _, _, rfl, rfl, ?_⟩⟩
  refine b_X3_turn_22 ⟨_, _, _, S.1.1, a.toNat, (b + 1 - a).toNat, _, _, rfl, rfl, hR, hW, by omega, by omega, by omega, fun s' z' q1 q2 => ⟨_, _, _, rfl, rfl, ?_⟩⟩
  refine b_X3_turn_28 (mh_fin (g' := (0, as, un', um', sl, hs, pd, ln, at_, iw, os, om)) hQ he hW q1 ?_ hU' hS hP rfl q1.2.2.2.2.2)
  rw [q2, hw]; unfold mf_do; rw [if_neg (by omega), if_neg (by omega), if_neg (by omega), if_pos rfl]; unfold mf_ch; dsimp only; omega
theorem mt_X3_turn (l : Launch) : ab_MT l mi_X3_turn sp_X3_turn := ab_MT.of (own := "RootChunksModel") (E := E_X3_turn) (P := P_X3_turn) (M := M_X3_turn) (nL := 4) (ty := 0) (by decide) rfl rfl tk_X3 pk_X3_turn ck_X3_turn (ab_CT'.cons (mt_X3_refusesSpan l) (ab_CT'.cons (mt_X3_records l) (ab_CT'.cons (mt_X3_turns l) ab_CT'.nil))) (fun av cs Q h => vc_X3_turn h)
theorem vc_X3_add {av : List ab_V} {cs : List ab_C} {Q : ab_Q} (h : sp_X3_add av cs Q) : (ab_lv0 av).length ≤ 5 ∧ ab_R E_X3_add P_X3_add Q 0 (ab_ent av 5) [] cs := by
  obtain ⟨s, z, ⟨th, as, un, um, sl, hs, pd, ln, at_, iw, os, om⟩, S, a, b, v, rfl, rfl, ⟨hst, hU, hS, hP⟩, ha, hb, hv, hQ⟩ := h
  refine ⟨Nat.le_of_ble_eq_true rfl, ?_⟩
  obtain ⟨hR, hW, hw⟩ := id hst
  refine b_X3_add_0 ⟨_, _, _, S.1.1, _, _, _, rfl, rfl, hR, hW, ha, hb, hv, _, rfl, rfl, ?_⟩
  have hrr : ab_r (mq_eAdd S.1.1 a b v) := by
    have := mq_eBy_in S.1.1 a b v
    unfold mq_eAdd ab_r; split; (split <;> omega); omega
  refine b_X3_add_12 (fun he => ?_) (fun he => mh_err hQ he ⟨hst, hU, hS, hP⟩ rfl) (p1 := hrr)
  obtain ⟨e0, e1⟩ := mq_eAdd_0 he
  have e := mq_eSpan_0 e0
  unfold mq_n at e
  refine ⟨_, _, _, _, _, _, _, _, _, _, _, _, _, _, _, _, rfl, rfl, hst, hU, fun un' um' hU' => ⟨_, _, _, rfl, rfl, ?_⟩⟩
  refine b_X3_add_26 ⟨_, _, _, S.1.1, a.toNat, (b + 1 - a).toNat, _, _, _, rfl, rfl, hR, hW, by omega, by omega, by omega, e1, fun s' z' q1 q2 => ⟨_, _, _, rfl, rfl, ?_⟩⟩
  refine b_X3_add_33 (mh_fin (g' := (0, as, un', um', sl, hs, pd, ln, at_, iw, os, om)) hQ he hW q1 ?_ hU' hS hP rfl q1.2.2.2.2.2)
  rw [q2, hw]; unfold mf_do; rw [if_neg (by omega), if_neg (by omega), if_neg (by omega), if_neg (by omega), if_pos rfl]; unfold mf_ch; dsimp only; omega
theorem mt_X3_add (l : Launch) : ab_MT l mi_X3_add sp_X3_add := ab_MT.of (own := "RootChunksModel") (E := E_X3_add) (P := P_X3_add) (M := M_X3_add) (nL := 5) (ty := 0) (by decide) rfl rfl tk_X3 pk_X3_add ck_X3_add (ab_CT'.cons (mt_X3_refusesAdd l) (ab_CT'.cons (mt_X3_records l) (ab_CT'.cons (mt_X3_addsTo l) ab_CT'.nil))) (fun av cs Q h => vc_X3_add h)
theorem vc_X3_move {av : List ab_V} {cs : List ab_C} {Q : ab_Q} (h : sp_X3_move av cs Q) : (ab_lv0 av).length ≤ 5 ∧ ab_R E_X3_move P_X3_move Q 0 (ab_ent av 5) [] cs := by
  obtain ⟨s, z, ⟨th, as, un, um, sl, hs, pd, ln, at_, iw, os, om⟩, S, a, b, v, rfl, rfl, ⟨hst, hU, hS, hP⟩, ha, hb, hv, hQ⟩ := h
  refine ⟨Nat.le_of_ble_eq_true rfl, ?_⟩
  obtain ⟨hR, hW, hw⟩ := id hst
  refine b_X3_move_0 ⟨_, _, _, S.1.1, _, _, _, rfl, rfl, hR, hW, ha, hb, hv, _, rfl, rfl, ?_⟩
  have hrr : ab_r (mq_eMove S.1.1 a b v) := by
    have := mq_eSpan_in S.1.1 a b
    unfold mq_eMove ab_r; split; (split <;> omega); omega
  refine b_X3_move_12 (fun he => ?_) (fun he => mh_err hQ he ⟨hst, hU, hS, hP⟩ rfl) (p1 := hrr)
  obtain ⟨e0, e1, e2⟩ := mq_eMove_0 he
  have e := mq_eSpan_0 e0
  unfold mq_n at e e2
  refine ⟨_, _, _, _, _, _, _, _, _, _, _, _, _, _, _, _, rfl, rfl, hst, hU, fun un' um' hU' => ⟨_, _, _, rfl, rfl, ?_⟩⟩
  refine b_X3_move_26 ⟨_, _, _, S.1.1, a.toNat, (b + 1 - a).toNat, v.toNat, _, _, _, rfl, rfl, hR, hW, by omega, by omega, by omega, by omega, by omega, by omega, fun s' z' q1 q2 => ⟨_, _, _, rfl, rfl, ?_⟩⟩
  refine b_X3_move_33 ⟨_, _, _, _, rfl, rfl, q1, mq_W_mov hW (by omega) (by omega), fun s2 z2 r1 r2 => ⟨_, _, _, rfl, rfl, ?_⟩⟩
  refine b_X3_move_37 (mh_fin (g' := (0, as, un', um', sl, hs, pd, ln, at_, iw, os, om)) hQ he hW r1 ?_ hU' hS hP rfl r1.2.2.2.2.2)
  rw [r2, q2, hw]; unfold mf_do; rw [if_neg (by omega), if_neg (by omega), if_neg (by omega), if_neg (by omega), if_neg (by omega), if_pos rfl]; unfold mf_ch; dsimp only; omega
theorem mt_X3_move (l : Launch) : ab_MT l mi_X3_move sp_X3_move := ab_MT.of (own := "RootChunksModel") (E := E_X3_move) (P := P_X3_move) (M := M_X3_move) (nL := 5) (ty := 0) (by decide) rfl rfl tk_X3 pk_X3_move ck_X3_move (ab_CT'.cons (mt_X3_refusesMove l) (ab_CT'.cons (mt_X3_records l) (ab_CT'.cons (mt_X3_shifts l) (ab_CT'.cons (mt_X3_evens l) ab_CT'.nil)))) (fun av cs Q h => vc_X3_move h)
theorem vc_X3_rotate {av : List ab_V} {cs : List ab_C} {Q : ab_Q} (h : sp_X3_rotate av cs Q) : (ab_lv0 av).length ≤ 5 ∧ ab_R E_X3_rotate P_X3_rotate Q 0 (ab_ent av 5) [] cs := by
  obtain ⟨s, z, ⟨th, as, un, um, sl, hs, pd, ln, at_, iw, os, om⟩, S, a, b, v, rfl, rfl, ⟨hst, hU, hS, hP⟩, ha, hb, hv, hQ⟩ := h
  refine ⟨Nat.le_of_ble_eq_true rfl, ?_⟩
  obtain ⟨hR, hW, hw⟩ := id hst
  refine b_X3_rotate_0 ⟨_, _, _, S.1.1, _, _, _, rfl, rfl, hR, hW, ha, hb, hv, _, rfl, rfl, ?_⟩
  have hrr : ab_r (mq_eBy S.1.1 a b v) := by have := mq_eBy_in S.1.1 a b v; unfold ab_r; omega
  refine b_X3_rotate_12 (fun he => ?_) (fun he => mh_err hQ he ⟨hst, hU, hS, hP⟩ rfl) (p1 := hrr)
  refine ⟨_, _, _, _, _, _, _, _, _, _, _, _, _, _, _, _, rfl, rfl, hst, hU, fun un' um' hU' => ⟨_, _, _, rfl, rfl, ?_⟩⟩
  refine b_X3_rotate_26 ⟨_, _, _, S.1.1, _, _, _, rfl, rfl, hR, hW, he, fun s' z' q1 q2 => ⟨_, _, _, rfl, rfl, ?_⟩⟩
  refine b_X3_rotate_33 (mh_fin (g' := (0, as, un', um', sl, hs, pd, ln, at_, iw, os, om)) hQ he hW q1 ?_ hU' hS hP rfl q1.2.2.2.2.2)
  rw [q2, hw]; unfold mf_do; rw [if_neg (by omega), if_neg (by omega), if_neg (by omega), if_neg (by omega), if_neg (by omega), if_neg (by omega)]; unfold mf_ch; dsimp only; omega
theorem mt_X3_rotate (l : Launch) : ab_MT l mi_X3_rotate sp_X3_rotate := ab_MT.of (own := "RootChunksModel") (E := E_X3_rotate) (P := P_X3_rotate) (M := M_X3_rotate) (nL := 5) (ty := 0) (by decide) rfl rfl tk_X3 pk_X3_rotate ck_X3_rotate (ab_CT'.cons (mt_X3_refusesBy l) (ab_CT'.cons (mt_X3_records l) (ab_CT'.cons (mt_X3_rotates l) ab_CT'.nil))) (fun av cs Q h => vc_X3_rotate h)
end
