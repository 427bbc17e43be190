section
-- ===== PART A: goes FIRST, ahead of the names: the tables' words, and 'selects' of the private methods out of them =====
/-- a private method of a class that the tables say can be made, by its rows of tables_1 -/
def lw_okq (q : MethodName × Nat) : Prop := (q.1.cls ≠ "java/lang/invoke/MethodHandle" ∧ q.1.cls ≠ "java/lang/invoke/VarHandle") ∧ Cond.instantiable q.1.cls q.2 ∈ tables_1 ∧ Cond.privateMethod q.1 ∈ tables_1 ∧ Cond.instanceMethod q.1 ∈ tables_1
theorem lw_p0 : lw_okq (⟨"RootChunks", "change", "(CIII)I"⟩, 8) := ⟨⟨by decide +kernel, by decide +kernel⟩, List.mem_of_getElem? (i := 12) (by decide +kernel), List.mem_of_getElem? (i := 119) (by decide +kernel), List.mem_of_getElem? (i := 120) (by decide +kernel)⟩
theorem lw_p1 : lw_okq (⟨"RootChunks", "errorOf", "(CIII)I"⟩, 8) := ⟨⟨by decide +kernel, by decide +kernel⟩, List.mem_of_getElem? (i := 12) (by decide +kernel), List.mem_of_getElem? (i := 123) (by decide +kernel), List.mem_of_getElem? (i := 124) (by decide +kernel)⟩
theorem lw_p2 : lw_okq (⟨"RootChunks", "putError", "(II)I"⟩, 8) := ⟨⟨by decide +kernel, by decide +kernel⟩, List.mem_of_getElem? (i := 12) (by decide +kernel), List.mem_of_getElem? (i := 127) (by decide +kernel), List.mem_of_getElem? (i := 128) (by decide +kernel)⟩
theorem lw_p3 : lw_okq (⟨"RootChunks$Row", "has", "(I)Z"⟩, 7) := ⟨⟨by decide +kernel, by decide +kernel⟩, List.mem_of_getElem? (i := 20) (by decide +kernel), List.mem_of_getElem? (i := 134) (by decide +kernel), List.mem_of_getElem? (i := 135) (by decide +kernel)⟩
theorem lw_p4 : lw_okq (⟨"RootChunks", "addError", "(III)I"⟩, 8) := ⟨⟨by decide +kernel, by decide +kernel⟩, List.mem_of_getElem? (i := 12) (by decide +kernel), List.mem_of_getElem? (i := 138) (by decide +kernel), List.mem_of_getElem? (i := 139) (by decide +kernel)⟩
theorem lw_p5 : lw_okq (⟨"RootChunks", "rollError", "(III)I"⟩, 8) := ⟨⟨by decide +kernel, by decide +kernel⟩, List.mem_of_getElem? (i := 12) (by decide +kernel), List.mem_of_getElem? (i := 142) (by decide +kernel), List.mem_of_getElem? (i := 143) (by decide +kernel)⟩
theorem lw_p6 : lw_okq (⟨"RootChunks", "spanError", "(II)I"⟩, 8) := ⟨⟨by decide +kernel, by decide +kernel⟩, List.mem_of_getElem? (i := 12) (by decide +kernel), List.mem_of_getElem? (i := 146) (by decide +kernel), List.mem_of_getElem? (i := 147) (by decide +kernel)⟩
theorem lw_p7 : lw_okq (⟨"RootChunks$Row", "layOut", "([I)V"⟩, 7) := ⟨⟨by decide +kernel, by decide +kernel⟩, List.mem_of_getElem? (i := 20) (by decide +kernel), List.mem_of_getElem? (i := 150) (by decide +kernel), List.mem_of_getElem? (i := 151) (by decide +kernel)⟩
theorem lw_p8 : lw_okq (⟨"RootChunks", "moveError", "(III)I"⟩, 8) := ⟨⟨by decide +kernel, by decide +kernel⟩, List.mem_of_getElem? (i := 12) (by decide +kernel), List.mem_of_getElem? (i := 155) (by decide +kernel), List.mem_of_getElem? (i := 156) (by decide +kernel)⟩
theorem lw_p9 : lw_okq (⟨"RootChunks", "remember", "()V"⟩, 8) := ⟨⟨by decide +kernel, by decide +kernel⟩, List.mem_of_getElem? (i := 12) (by decide +kernel), List.mem_of_getElem? (i := 159) (by decide +kernel), List.mem_of_getElem? (i := 160) (by decide +kernel)⟩
theorem lw_p10 : lw_okq (⟨"RootChunks$Row", "copyFrom", "(LRootChunks$Row;)V"⟩, 7) := ⟨⟨by decide +kernel, by decide +kernel⟩, List.mem_of_getElem? (i := 20) (by decide +kernel), List.mem_of_getElem? (i := 163) (by decide +kernel), List.mem_of_getElem? (i := 164) (by decide +kernel)⟩
theorem lw_p11 : lw_okq (⟨"RootChunks", "apply", "(CIII)I"⟩, 8) := ⟨⟨by decide +kernel, by decide +kernel⟩, List.mem_of_getElem? (i := 12) (by decide +kernel), List.mem_of_getElem? (i := 170) (by decide +kernel), List.mem_of_getElem? (i := 171) (by decide +kernel)⟩
theorem lw_p12 : lw_okq (⟨"RootChunks$Row", "numberAt", "(I)I"⟩, 7) := ⟨⟨by decide +kernel, by decide +kernel⟩, List.mem_of_getElem? (i := 20) (by decide +kernel), List.mem_of_getElem? (i := 174) (by decide +kernel), List.mem_of_getElem? (i := 175) (by decide +kernel)⟩
theorem lw_p13 : lw_okq (⟨"RootChunks$Row", "chunkHolding", "(I)I"⟩, 7) := ⟨⟨by decide +kernel, by decide +kernel⟩, List.mem_of_getElem? (i := 20) (by decide +kernel), List.mem_of_getElem? (i := 178) (by decide +kernel), List.mem_of_getElem? (i := 179) (by decide +kernel)⟩
theorem lw_p14 : lw_okq (⟨"RootChunks$Row", "startOf", "(I)I"⟩, 7) := ⟨⟨by decide +kernel, by decide +kernel⟩, List.mem_of_getElem? (i := 20) (by decide +kernel), List.mem_of_getElem? (i := 182) (by decide +kernel), List.mem_of_getElem? (i := 183) (by decide +kernel)⟩
theorem lw_p15 : lw_okq (⟨"RootChunks$Row", "insert", "(II)V"⟩, 7) := ⟨⟨by decide +kernel, by decide +kernel⟩, List.mem_of_getElem? (i := 20) (by decide +kernel), List.mem_of_getElem? (i := 186) (by decide +kernel), List.mem_of_getElem? (i := 187) (by decide +kernel)⟩
def lw_privs_1 : List (MethodName × Nat) := [(⟨"RootChunks", "change", "(CIII)I"⟩, 8), (⟨"RootChunks", "errorOf", "(CIII)I"⟩, 8), (⟨"RootChunks", "putError", "(II)I"⟩, 8), (⟨"RootChunks$Row", "has", "(I)Z"⟩, 7), (⟨"RootChunks", "addError", "(III)I"⟩, 8), (⟨"RootChunks", "rollError", "(III)I"⟩, 8), (⟨"RootChunks", "spanError", "(II)I"⟩, 8), (⟨"RootChunks$Row", "layOut", "([I)V"⟩, 7), (⟨"RootChunks", "moveError", "(III)I"⟩, 8), (⟨"RootChunks", "remember", "()V"⟩, 8), (⟨"RootChunks$Row", "copyFrom", "(LRootChunks$Row;)V"⟩, 7), (⟨"RootChunks", "apply", "(CIII)I"⟩, 8), (⟨"RootChunks$Row", "numberAt", "(I)I"⟩, 7), (⟨"RootChunks$Row", "chunkHolding", "(I)I"⟩, 7), (⟨"RootChunks$Row", "startOf", "(I)I"⟩, 7), (⟨"RootChunks$Row", "insert", "(II)V"⟩, 7)]
theorem lw_r1 : ∀ q ∈ lw_privs_1, lw_okq q := List.forall_mem_cons.mpr ⟨lw_p0, List.forall_mem_cons.mpr ⟨lw_p1, List.forall_mem_cons.mpr ⟨lw_p2, List.forall_mem_cons.mpr ⟨lw_p3, List.forall_mem_cons.mpr ⟨lw_p4, List.forall_mem_cons.mpr ⟨lw_p5, List.forall_mem_cons.mpr ⟨lw_p6, List.forall_mem_cons.mpr ⟨lw_p7, List.forall_mem_cons.mpr ⟨lw_p8, List.forall_mem_cons.mpr ⟨lw_p9, List.forall_mem_cons.mpr ⟨lw_p10, List.forall_mem_cons.mpr ⟨lw_p11, List.forall_mem_cons.mpr ⟨lw_p12, List.forall_mem_cons.mpr ⟨lw_p13, List.forall_mem_cons.mpr ⟨lw_p14, List.forall_mem_cons.mpr ⟨lw_p15, fun _ h => absurd h List.not_mem_nil⟩⟩⟩⟩⟩⟩⟩⟩⟩⟩⟩⟩⟩⟩⟩⟩
theorem lw_p16 : lw_okq (⟨"RootChunks$Row", "cutAt", "(I)I"⟩, 7) := ⟨⟨by decide +kernel, by decide +kernel⟩, List.mem_of_getElem? (i := 20) (by decide +kernel), List.mem_of_getElem? (i := 190) (by decide +kernel), List.mem_of_getElem? (i := 191) (by decide +kernel)⟩
theorem lw_p17 : lw_okq (⟨"RootChunks$Row", "settle", "(II)V"⟩, 7) := ⟨⟨by decide +kernel, by decide +kernel⟩, List.mem_of_getElem? (i := 20) (by decide +kernel), List.mem_of_getElem? (i := 194) (by decide +kernel), List.mem_of_getElem? (i := 195) (by decide +kernel)⟩
theorem lw_p18 : lw_okq (⟨"RootChunks$Row", "part", "(II)V"⟩, 7) := ⟨⟨by decide +kernel, by decide +kernel⟩, List.mem_of_getElem? (i := 20) (by decide +kernel), List.mem_of_getElem? (i := 201) (by decide +kernel), List.mem_of_getElem? (i := 202) (by decide +kernel)⟩
theorem lw_p19 : lw_okq (⟨"RootChunks$Row", "openChunk", "(II)V"⟩, 7) := ⟨⟨by decide +kernel, by decide +kernel⟩, List.mem_of_getElem? (i := 20) (by decide +kernel), List.mem_of_getElem? (i := 205) (by decide +kernel), List.mem_of_getElem? (i := 206) (by decide +kernel)⟩
theorem lw_p20 : lw_okq (⟨"RootChunks$Row", "remove", "(I)V"⟩, 7) := ⟨⟨by decide +kernel, by decide +kernel⟩, List.mem_of_getElem? (i := 20) (by decide +kernel), List.mem_of_getElem? (i := 209) (by decide +kernel), List.mem_of_getElem? (i := 210) (by decide +kernel)⟩
theorem lw_p21 : lw_okq (⟨"RootChunks$Row", "closeChunk", "(I)V"⟩, 7) := ⟨⟨by decide +kernel, by decide +kernel⟩, List.mem_of_getElem? (i := 20) (by decide +kernel), List.mem_of_getElem? (i := 213) (by decide +kernel), List.mem_of_getElem? (i := 214) (by decide +kernel)⟩
theorem lw_p22 : lw_okq (⟨"RootChunks$Row", "replace", "(II)V"⟩, 7) := ⟨⟨by decide +kernel, by decide +kernel⟩, List.mem_of_getElem? (i := 20) (by decide +kernel), List.mem_of_getElem? (i := 217) (by decide +kernel), List.mem_of_getElem? (i := 218) (by decide +kernel)⟩
theorem lw_p23 : lw_okq (⟨"RootChunks$Row", "turnSpan", "(II)V"⟩, 7) := ⟨⟨by decide +kernel, by decide +kernel⟩, List.mem_of_getElem? (i := 20) (by decide +kernel), List.mem_of_getElem? (i := 221) (by decide +kernel), List.mem_of_getElem? (i := 222) (by decide +kernel)⟩
theorem lw_p24 : lw_okq (⟨"RootChunks$Row", "reverseChunks", "(II)V"⟩, 7) := ⟨⟨by decide +kernel, by decide +kernel⟩, List.mem_of_getElem? (i := 20) (by decide +kernel), List.mem_of_getElem? (i := 225) (by decide +kernel), List.mem_of_getElem? (i := 226) (by decide +kernel)⟩
theorem lw_p25 : lw_okq (⟨"RootChunks$Row", "addToSpan", "(III)V"⟩, 7) := ⟨⟨by decide +kernel, by decide +kernel⟩, List.mem_of_getElem? (i := 20) (by decide +kernel), List.mem_of_getElem? (i := 229) (by decide +kernel), List.mem_of_getElem? (i := 230) (by decide +kernel)⟩
theorem lw_p26 : lw_okq (⟨"RootChunks$Row", "moveSpan", "(III)V"⟩, 7) := ⟨⟨by decide +kernel, by decide +kernel⟩, List.mem_of_getElem? (i := 20) (by decide +kernel), List.mem_of_getElem? (i := 233) (by decide +kernel), List.mem_of_getElem? (i := 234) (by decide +kernel)⟩
theorem lw_p27 : lw_okq (⟨"RootChunks$Row", "exchangeChunks", "(III)V"⟩, 7) := ⟨⟨by decide +kernel, by decide +kernel⟩, List.mem_of_getElem? (i := 20) (by decide +kernel), List.mem_of_getElem? (i := 237) (by decide +kernel), List.mem_of_getElem? (i := 238) (by decide +kernel)⟩
theorem lw_p28 : lw_okq (⟨"RootChunks$Row", "evenOut", "()V"⟩, 7) := ⟨⟨by decide +kernel, by decide +kernel⟩, List.mem_of_getElem? (i := 20) (by decide +kernel), List.mem_of_getElem? (i := 247) (by decide +kernel), List.mem_of_getElem? (i := 248) (by decide +kernel)⟩
theorem lw_p29 : lw_okq (⟨"RootChunks$Row", "rootOfLength", "()I"⟩, 7) := ⟨⟨by decide +kernel, by decide +kernel⟩, List.mem_of_getElem? (i := 20) (by decide +kernel), List.mem_of_getElem? (i := 251) (by decide +kernel), List.mem_of_getElem? (i := 252) (by decide +kernel)⟩
theorem lw_p30 : lw_okq (⟨"RootChunks$Row", "partLongChunks", "(I)V"⟩, 7) := ⟨⟨by decide +kernel, by decide +kernel⟩, List.mem_of_getElem? (i := 20) (by decide +kernel), List.mem_of_getElem? (i := 255) (by decide +kernel), List.mem_of_getElem? (i := 256) (by decide +kernel)⟩
theorem lw_p31 : lw_okq (⟨"RootChunks$Row", "joinShortChunks", "(I)V"⟩, 7) := ⟨⟨by decide +kernel, by decide +kernel⟩, List.mem_of_getElem? (i := 20) (by decide +kernel), List.mem_of_getElem? (i := 259) (by decide +kernel), List.mem_of_getElem? (i := 260) (by decide +kernel)⟩
def lw_privs_2 : List (MethodName × Nat) := [(⟨"RootChunks$Row", "cutAt", "(I)I"⟩, 7), (⟨"RootChunks$Row", "settle", "(II)V"⟩, 7), (⟨"RootChunks$Row", "part", "(II)V"⟩, 7), (⟨"RootChunks$Row", "openChunk", "(II)V"⟩, 7), (⟨"RootChunks$Row", "remove", "(I)V"⟩, 7), (⟨"RootChunks$Row", "closeChunk", "(I)V"⟩, 7), (⟨"RootChunks$Row", "replace", "(II)V"⟩, 7), (⟨"RootChunks$Row", "turnSpan", "(II)V"⟩, 7), (⟨"RootChunks$Row", "reverseChunks", "(II)V"⟩, 7), (⟨"RootChunks$Row", "addToSpan", "(III)V"⟩, 7), (⟨"RootChunks$Row", "moveSpan", "(III)V"⟩, 7), (⟨"RootChunks$Row", "exchangeChunks", "(III)V"⟩, 7), (⟨"RootChunks$Row", "evenOut", "()V"⟩, 7), (⟨"RootChunks$Row", "rootOfLength", "()I"⟩, 7), (⟨"RootChunks$Row", "partLongChunks", "(I)V"⟩, 7), (⟨"RootChunks$Row", "joinShortChunks", "(I)V"⟩, 7)]
theorem lw_r2 : ∀ q ∈ lw_privs_2, lw_okq q := List.forall_mem_cons.mpr ⟨lw_p16, List.forall_mem_cons.mpr ⟨lw_p17, List.forall_mem_cons.mpr ⟨lw_p18, List.forall_mem_cons.mpr ⟨lw_p19, List.forall_mem_cons.mpr ⟨lw_p20, List.forall_mem_cons.mpr ⟨lw_p21, List.forall_mem_cons.mpr ⟨lw_p22, List.forall_mem_cons.mpr ⟨lw_p23, List.forall_mem_cons.mpr ⟨lw_p24, List.forall_mem_cons.mpr ⟨lw_p25, List.forall_mem_cons.mpr ⟨lw_p26, List.forall_mem_cons.mpr ⟨lw_p27, List.forall_mem_cons.mpr ⟨lw_p28, List.forall_mem_cons.mpr ⟨lw_p29, List.forall_mem_cons.mpr ⟨lw_p30, List.forall_mem_cons.mpr ⟨lw_p31, fun _ h => absurd h List.not_mem_nil⟩⟩⟩⟩⟩⟩⟩⟩⟩⟩⟩⟩⟩⟩⟩⟩
theorem lw_p32 : lw_okq (⟨"RootChunks$Row", "longestChunk", "()I"⟩, 7) := ⟨⟨by decide +kernel, by decide +kernel⟩, List.mem_of_getElem? (i := 20) (by decide +kernel), List.mem_of_getElem? (i := 302) (by decide +kernel), List.mem_of_getElem? (i := 303) (by decide +kernel)⟩
theorem lw_p33 : lw_okq (⟨"RootChunks$Row", "waitingTurns", "()I"⟩, 7) := ⟨⟨by decide +kernel, by decide +kernel⟩, List.mem_of_getElem? (i := 20) (by decide +kernel), List.mem_of_getElem? (i := 307) (by decide +kernel), List.mem_of_getElem? (i := 308) (by decide +kernel)⟩
theorem lw_p34 : lw_okq (⟨"RootChunks$Row", "waitingSums", "()I"⟩, 7) := ⟨⟨by decide +kernel, by decide +kernel⟩, List.mem_of_getElem? (i := 20) (by decide +kernel), List.mem_of_getElem? (i := 311) (by decide +kernel), List.mem_of_getElem? (i := 312) (by decide +kernel)⟩
theorem lw_p35 : lw_okq (⟨"RootChunks", "countBelow", "(III)I"⟩, 8) := ⟨⟨by decide +kernel, by decide +kernel⟩, List.mem_of_getElem? (i := 12) (by decide +kernel), List.mem_of_getElem? (i := 319) (by decide +kernel), List.mem_of_getElem? (i := 320) (by decide +kernel)⟩
theorem lw_p36 : lw_okq (⟨"RootChunks", "firstPlaceOf", "(III)I"⟩, 8) := ⟨⟨by decide +kernel, by decide +kernel⟩, List.mem_of_getElem? (i := 12) (by decide +kernel), List.mem_of_getElem? (i := 336) (by decide +kernel), List.mem_of_getElem? (i := 337) (by decide +kernel)⟩
theorem lw_p37 : lw_okq (⟨"RootChunks$Pad", "append", "(C)V"⟩, 5) := ⟨⟨by decide +kernel, by decide +kernel⟩, List.mem_of_getElem? (i := 62) (by decide +kernel), List.mem_of_getElem? (i := 359) (by decide +kernel), List.mem_of_getElem? (i := 360) (by decide +kernel)⟩
theorem lw_p38 : lw_okq (⟨"RootChunks$Pad", "firstFault", "()I"⟩, 5) := ⟨⟨by decide +kernel, by decide +kernel⟩, List.mem_of_getElem? (i := 62) (by decide +kernel), List.mem_of_getElem? (i := 371) (by decide +kernel), List.mem_of_getElem? (i := 372) (by decide +kernel)⟩
theorem lw_p39 : lw_okq (⟨"RootChunks$Pad", "readOrder", "()Z"⟩, 5) := ⟨⟨by decide +kernel, by decide +kernel⟩, List.mem_of_getElem? (i := 62) (by decide +kernel), List.mem_of_getElem? (i := 375) (by decide +kernel), List.mem_of_getElem? (i := 376) (by decide +kernel)⟩
theorem lw_p40 : lw_okq (⟨"RootChunks$Pad", "next", "()C"⟩, 5) := ⟨⟨by decide +kernel, by decide +kernel⟩, List.mem_of_getElem? (i := 62) (by decide +kernel), List.mem_of_getElem? (i := 379) (by decide +kernel), List.mem_of_getElem? (i := 380) (by decide +kernel)⟩
theorem lw_p41 : lw_okq (⟨"RootChunks$Pad", "readNumber", "(IZ)Z"⟩, 5) := ⟨⟨by decide +kernel, by decide +kernel⟩, List.mem_of_getElem? (i := 62) (by decide +kernel), List.mem_of_getElem? (i := 442) (by decide +kernel), List.mem_of_getElem? (i := 443) (by decide +kernel)⟩
theorem lw_p42 : lw_okq (⟨"RootChunks$Pad", "skip", "(C)Z"⟩, 5) := ⟨⟨by decide +kernel, by decide +kernel⟩, List.mem_of_getElem? (i := 62) (by decide +kernel), List.mem_of_getElem? (i := 446) (by decide +kernel), List.mem_of_getElem? (i := 447) (by decide +kernel)⟩
theorem lw_p43 : lw_okq (⟨"RootChunksModel", "refusesPut", "(II)I"⟩, 18) := ⟨⟨by decide +kernel, by decide +kernel⟩, List.mem_of_getElem? (i := 473) (by decide +kernel), List.mem_of_getElem? (i := 538) (by decide +kernel), List.mem_of_getElem? (i := 539) (by decide +kernel)⟩
theorem lw_p44 : lw_okq (⟨"RootChunksModel", "records", "()V"⟩, 18) := ⟨⟨by decide +kernel, by decide +kernel⟩, List.mem_of_getElem? (i := 473) (by decide +kernel), List.mem_of_getElem? (i := 548) (by decide +kernel), List.mem_of_getElem? (i := 549) (by decide +kernel)⟩
theorem lw_p45 : lw_okq (⟨"RootChunksModel", "puts", "(II)V"⟩, 18) := ⟨⟨by decide +kernel, by decide +kernel⟩, List.mem_of_getElem? (i := 473) (by decide +kernel), List.mem_of_getElem? (i := 552) (by decide +kernel), List.mem_of_getElem? (i := 553) (by decide +kernel)⟩
theorem lw_p46 : lw_okq (⟨"RootChunksModel", "cuts", "(I)V"⟩, 18) := ⟨⟨by decide +kernel, by decide +kernel⟩, List.mem_of_getElem? (i := 473) (by decide +kernel), List.mem_of_getElem? (i := 556) (by decide +kernel), List.mem_of_getElem? (i := 557) (by decide +kernel)⟩
theorem lw_p47 : lw_okq (⟨"RootChunksModel", "chunkAt", "(I)I"⟩, 18) := ⟨⟨by decide +kernel, by decide +kernel⟩, List.mem_of_getElem? (i := 473) (by decide +kernel), List.mem_of_getElem? (i := 560) (by decide +kernel), List.mem_of_getElem? (i := 561) (by decide +kernel)⟩
def lw_privs_3 : List (MethodName × Nat) := [(⟨"RootChunks$Row", "longestChunk", "()I"⟩, 7), (⟨"RootChunks$Row", "waitingTurns", "()I"⟩, 7), (⟨"RootChunks$Row", "waitingSums", "()I"⟩, 7), (⟨"RootChunks", "countBelow", "(III)I"⟩, 8), (⟨"RootChunks", "firstPlaceOf", "(III)I"⟩, 8), (⟨"RootChunks$Pad", "append", "(C)V"⟩, 5), (⟨"RootChunks$Pad", "firstFault", "()I"⟩, 5), (⟨"RootChunks$Pad", "readOrder", "()Z"⟩, 5), (⟨"RootChunks$Pad", "next", "()C"⟩, 5), (⟨"RootChunks$Pad", "readNumber", "(IZ)Z"⟩, 5), (⟨"RootChunks$Pad", "skip", "(C)Z"⟩, 5), (⟨"RootChunksModel", "refusesPut", "(II)I"⟩, 18), (⟨"RootChunksModel", "records", "()V"⟩, 18), (⟨"RootChunksModel", "puts", "(II)V"⟩, 18), (⟨"RootChunksModel", "cuts", "(I)V"⟩, 18), (⟨"RootChunksModel", "chunkAt", "(I)I"⟩, 18)]
theorem lw_r3 : ∀ q ∈ lw_privs_3, lw_okq q := List.forall_mem_cons.mpr ⟨lw_p32, List.forall_mem_cons.mpr ⟨lw_p33, List.forall_mem_cons.mpr ⟨lw_p34, List.forall_mem_cons.mpr ⟨lw_p35, List.forall_mem_cons.mpr ⟨lw_p36, List.forall_mem_cons.mpr ⟨lw_p37, List.forall_mem_cons.mpr ⟨lw_p38, List.forall_mem_cons.mpr ⟨lw_p39, List.forall_mem_cons.mpr ⟨lw_p40, List.forall_mem_cons.mpr ⟨lw_p41, List.forall_mem_cons.mpr ⟨lw_p42, List.forall_mem_cons.mpr ⟨lw_p43, List.forall_mem_cons.mpr ⟨lw_p44, List.forall_mem_cons.mpr ⟨lw_p45, List.forall_mem_cons.mpr ⟨lw_p46, List.forall_mem_cons.mpr ⟨lw_p47, fun _ h => absurd h List.not_mem_nil⟩⟩⟩⟩⟩⟩⟩⟩⟩⟩⟩⟩⟩⟩⟩⟩
theorem lw_p48 : lw_okq (⟨"RootChunksModel", "startOf", "(I)I"⟩, 18) := ⟨⟨by decide +kernel, by decide +kernel⟩, List.mem_of_getElem? (i := 473) (by decide +kernel), List.mem_of_getElem? (i := 564) (by decide +kernel), List.mem_of_getElem? (i := 565) (by decide +kernel)⟩
theorem lw_p49 : lw_okq (⟨"RootChunksModel", "carries", "(I)V"⟩, 18) := ⟨⟨by decide +kernel, by decide +kernel⟩, List.mem_of_getElem? (i := 473) (by decide +kernel), List.mem_of_getElem? (i := 568) (by decide +kernel), List.mem_of_getElem? (i := 569) (by decide +kernel)⟩
theorem lw_p50 : lw_okq (⟨"RootChunksModel", "valueAt", "(I)I"⟩, 18) := ⟨⟨by decide +kernel, by decide +kernel⟩, List.mem_of_getElem? (i := 473) (by decide +kernel), List.mem_of_getElem? (i := 572) (by decide +kernel), List.mem_of_getElem? (i := 573) (by decide +kernel)⟩
theorem lw_p51 : lw_okq (⟨"RootChunksModel", "parts", "(II)V"⟩, 18) := ⟨⟨by decide +kernel, by decide +kernel⟩, List.mem_of_getElem? (i := 473) (by decide +kernel), List.mem_of_getElem? (i := 576) (by decide +kernel), List.mem_of_getElem? (i := 577) (by decide +kernel)⟩
theorem lw_p52 : lw_okq (⟨"RootChunksModel", "chunkFrom", "(I)I"⟩, 18) := ⟨⟨by decide +kernel, by decide +kernel⟩, List.mem_of_getElem? (i := 473) (by decide +kernel), List.mem_of_getElem? (i := 580) (by decide +kernel), List.mem_of_getElem? (i := 581) (by decide +kernel)⟩
theorem lw_p53 : lw_okq (⟨"RootChunksModel", "evens", "()V"⟩, 18) := ⟨⟨by decide +kernel, by decide +kernel⟩, List.mem_of_getElem? (i := 473) (by decide +kernel), List.mem_of_getElem? (i := 584) (by decide +kernel), List.mem_of_getElem? (i := 585) (by decide +kernel)⟩
theorem lw_p54 : lw_okq (⟨"RootChunksModel", "root", "()I"⟩, 18) := ⟨⟨by decide +kernel, by decide +kernel⟩, List.mem_of_getElem? (i := 473) (by decide +kernel), List.mem_of_getElem? (i := 588) (by decide +kernel), List.mem_of_getElem? (i := 589) (by decide +kernel)⟩
theorem lw_p55 : lw_okq (⟨"RootChunksModel", "closes", "(I)V"⟩, 18) := ⟨⟨by decide +kernel, by decide +kernel⟩, List.mem_of_getElem? (i := 473) (by decide +kernel), List.mem_of_getElem? (i := 592) (by decide +kernel), List.mem_of_getElem? (i := 593) (by decide +kernel)⟩
theorem lw_p56 : lw_okq (⟨"RootChunksModel", "isPlace", "(I)Z"⟩, 18) := ⟨⟨by decide +kernel, by decide +kernel⟩, List.mem_of_getElem? (i := 473) (by decide +kernel), List.mem_of_getElem? (i := 600) (by decide +kernel), List.mem_of_getElem? (i := 601) (by decide +kernel)⟩
theorem lw_p57 : lw_okq (⟨"RootChunksModel", "takes", "(I)V"⟩, 18) := ⟨⟨by decide +kernel, by decide +kernel⟩, List.mem_of_getElem? (i := 473) (by decide +kernel), List.mem_of_getElem? (i := 604) (by decide +kernel), List.mem_of_getElem? (i := 605) (by decide +kernel)⟩
theorem lw_p58 : lw_okq (⟨"RootChunksModel", "refusesSet", "(II)I"⟩, 18) := ⟨⟨by decide +kernel, by decide +kernel⟩, List.mem_of_getElem? (i := 473) (by decide +kernel), List.mem_of_getElem? (i := 613) (by decide +kernel), List.mem_of_getElem? (i := 614) (by decide +kernel)⟩
theorem lw_p59 : lw_okq (⟨"RootChunksModel", "sets", "(II)V"⟩, 18) := ⟨⟨by decide +kernel, by decide +kernel⟩, List.mem_of_getElem? (i := 473) (by decide +kernel), List.mem_of_getElem? (i := 617) (by decide +kernel), List.mem_of_getElem? (i := 618) (by decide +kernel)⟩
theorem lw_p60 : lw_okq (⟨"RootChunksModel", "refusesSpan", "(II)I"⟩, 18) := ⟨⟨by decide +kernel, by decide +kernel⟩, List.mem_of_getElem? (i := 473) (by decide +kernel), List.mem_of_getElem? (i := 625) (by decide +kernel), List.mem_of_getElem? (i := 626) (by decide +kernel)⟩
theorem lw_p61 : lw_okq (⟨"RootChunksModel", "turns", "(II)V"⟩, 18) := ⟨⟨by decide +kernel, by decide +kernel⟩, List.mem_of_getElem? (i := 473) (by decide +kernel), List.mem_of_getElem? (i := 629) (by decide +kernel), List.mem_of_getElem? (i := 630) (by decide +kernel)⟩
theorem lw_p62 : lw_okq (⟨"RootChunksModel", "reorders", "()V"⟩, 18) := ⟨⟨by decide +kernel, by decide +kernel⟩, List.mem_of_getElem? (i := 473) (by decide +kernel), List.mem_of_getElem? (i := 633) (by decide +kernel), List.mem_of_getElem? (i := 634) (by decide +kernel)⟩
theorem lw_p63 : lw_okq (⟨"RootChunksModel", "refusesAdd", "(III)I"⟩, 18) := ⟨⟨by decide +kernel, by decide +kernel⟩, List.mem_of_getElem? (i := 473) (by decide +kernel), List.mem_of_getElem? (i := 641) (by decide +kernel), List.mem_of_getElem? (i := 642) (by decide +kernel)⟩
def lw_privs_4 : List (MethodName × Nat) := [(⟨"RootChunksModel", "startOf", "(I)I"⟩, 18), (⟨"RootChunksModel", "carries", "(I)V"⟩, 18), (⟨"RootChunksModel", "valueAt", "(I)I"⟩, 18), (⟨"RootChunksModel", "parts", "(II)V"⟩, 18), (⟨"RootChunksModel", "chunkFrom", "(I)I"⟩, 18), (⟨"RootChunksModel", "evens", "()V"⟩, 18), (⟨"RootChunksModel", "root", "()I"⟩, 18), (⟨"RootChunksModel", "closes", "(I)V"⟩, 18), (⟨"RootChunksModel", "isPlace", "(I)Z"⟩, 18), (⟨"RootChunksModel", "takes", "(I)V"⟩, 18), (⟨"RootChunksModel", "refusesSet", "(II)I"⟩, 18), (⟨"RootChunksModel", "sets", "(II)V"⟩, 18), (⟨"RootChunksModel", "refusesSpan", "(II)I"⟩, 18), (⟨"RootChunksModel", "turns", "(II)V"⟩, 18), (⟨"RootChunksModel", "reorders", "()V"⟩, 18), (⟨"RootChunksModel", "refusesAdd", "(III)I"⟩, 18)]
theorem lw_r4 : ∀ q ∈ lw_privs_4, lw_okq q := List.forall_mem_cons.mpr ⟨lw_p48, List.forall_mem_cons.mpr ⟨lw_p49, List.forall_mem_cons.mpr ⟨lw_p50, List.forall_mem_cons.mpr ⟨lw_p51, List.forall_mem_cons.mpr ⟨lw_p52, List.forall_mem_cons.mpr ⟨lw_p53, List.forall_mem_cons.mpr ⟨lw_p54, List.forall_mem_cons.mpr ⟨lw_p55, List.forall_mem_cons.mpr ⟨lw_p56, List.forall_mem_cons.mpr ⟨lw_p57, List.forall_mem_cons.mpr ⟨lw_p58, List.forall_mem_cons.mpr ⟨lw_p59, List.forall_mem_cons.mpr ⟨lw_p60, List.forall_mem_cons.mpr ⟨lw_p61, List.forall_mem_cons.mpr ⟨lw_p62, List.forall_mem_cons.mpr ⟨lw_p63, fun _ h => absurd h List.not_mem_nil⟩⟩⟩⟩⟩⟩⟩⟩⟩⟩⟩⟩⟩⟩⟩⟩
theorem lw_p64 : lw_okq (⟨"RootChunksModel", "refusesBy", "(III)I"⟩, 18) := ⟨⟨by decide +kernel, by decide +kernel⟩, List.mem_of_getElem? (i := 473) (by decide +kernel), List.mem_of_getElem? (i := 645) (by decide +kernel), List.mem_of_getElem? (i := 646) (by decide +kernel)⟩
theorem lw_p65 : lw_okq (⟨"RootChunksModel", "addsTo", "(III)V"⟩, 18) := ⟨⟨by decide +kernel, by decide +kernel⟩, List.mem_of_getElem? (i := 473) (by decide +kernel), List.mem_of_getElem? (i := 651) (by decide +kernel), List.mem_of_getElem? (i := 652) (by decide +kernel)⟩
theorem lw_p66 : lw_okq (⟨"RootChunksModel", "refusesMove", "(III)I"⟩, 18) := ⟨⟨by decide +kernel, by decide +kernel⟩, List.mem_of_getElem? (i := 473) (by decide +kernel), List.mem_of_getElem? (i := 659) (by decide +kernel), List.mem_of_getElem? (i := 660) (by decide +kernel)⟩
theorem lw_p67 : lw_okq (⟨"RootChunksModel", "shifts", "(III)V"⟩, 18) := ⟨⟨by decide +kernel, by decide +kernel⟩, List.mem_of_getElem? (i := 473) (by decide +kernel), List.mem_of_getElem? (i := 663) (by decide +kernel), List.mem_of_getElem? (i := 664) (by decide +kernel)⟩
theorem lw_p68 : lw_okq (⟨"RootChunksModel", "rotates", "(III)V"⟩, 18) := ⟨⟨by decide +kernel, by decide +kernel⟩, List.mem_of_getElem? (i := 473) (by decide +kernel), List.mem_of_getElem? (i := 671) (by decide +kernel), List.mem_of_getElem? (i := 672) (by decide +kernel)⟩
theorem lw_p69 : lw_okq (⟨"RootChunksModel", "longest", "()I"⟩, 18) := ⟨⟨by decide +kernel, by decide +kernel⟩, List.mem_of_getElem? (i := 473) (by decide +kernel), List.mem_of_getElem? (i := 687) (by decide +kernel), List.mem_of_getElem? (i := 688) (by decide +kernel)⟩
theorem lw_p70 : lw_okq (⟨"RootChunksModel", "waiting", "(I)I"⟩, 18) := ⟨⟨by decide +kernel, by decide +kernel⟩, List.mem_of_getElem? (i := 473) (by decide +kernel), List.mem_of_getElem? (i := 691) (by decide +kernel), List.mem_of_getElem? (i := 692) (by decide +kernel)⟩
theorem lw_p71 : lw_okq (⟨"RootChunksModel", "lesser", "(III)I"⟩, 18) := ⟨⟨by decide +kernel, by decide +kernel⟩, List.mem_of_getElem? (i := 473) (by decide +kernel), List.mem_of_getElem? (i := 699) (by decide +kernel), List.mem_of_getElem? (i := 700) (by decide +kernel)⟩
theorem lw_p72 : lw_okq (⟨"RootChunksModel", "alike", "(III)I"⟩, 18) := ⟨⟨by decide +kernel, by decide +kernel⟩, List.mem_of_getElem? (i := 473) (by decide +kernel), List.mem_of_getElem? (i := 703) (by decide +kernel), List.mem_of_getElem? (i := 704) (by decide +kernel)⟩
theorem lw_p73 : lw_okq (⟨"RootChunksModel", "reads", "()I"⟩, 18) := ⟨⟨by decide +kernel, by decide +kernel⟩, List.mem_of_getElem? (i := 473) (by decide +kernel), List.mem_of_getElem? (i := 741) (by decide +kernel), List.mem_of_getElem? (i := 742) (by decide +kernel)⟩
theorem lw_p74 : lw_okq (⟨"RootChunksModel", "readsOrder", "()V"⟩, 18) := ⟨⟨by decide +kernel, by decide +kernel⟩, List.mem_of_getElem? (i := 473) (by decide +kernel), List.mem_of_getElem? (i := 745) (by decide +kernel), List.mem_of_getElem? (i := 746) (by decide +kernel)⟩
theorem lw_p75 : lw_okq (⟨"RootChunksModel", "sign", "()I"⟩, 18) := ⟨⟨by decide +kernel, by decide +kernel⟩, List.mem_of_getElem? (i := 473) (by decide +kernel), List.mem_of_getElem? (i := 749) (by decide +kernel), List.mem_of_getElem? (i := 750) (by decide +kernel)⟩
theorem lw_p76 : lw_okq (⟨"RootChunksModel", "wantsWord", "(I)V"⟩, 18) := ⟨⟨by decide +kernel, by decide +kernel⟩, List.mem_of_getElem? (i := 473) (by decide +kernel), List.mem_of_getElem? (i := 753) (by decide +kernel), List.mem_of_getElem? (i := 754) (by decide +kernel)⟩
theorem lw_p77 : lw_okq (⟨"RootChunksModel", "wantsTwo", "(II)V"⟩, 18) := ⟨⟨by decide +kernel, by decide +kernel⟩, List.mem_of_getElem? (i := 473) (by decide +kernel), List.mem_of_getElem? (i := 757) (by decide +kernel), List.mem_of_getElem? (i := 758) (by decide +kernel)⟩
theorem lw_p78 : lw_okq (⟨"RootChunksModel", "wants", "(I)V"⟩, 18) := ⟨⟨by decide +kernel, by decide +kernel⟩, List.mem_of_getElem? (i := 473) (by decide +kernel), List.mem_of_getElem? (i := 761) (by decide +kernel), List.mem_of_getElem? (i := 762) (by decide +kernel)⟩
theorem lw_p79 : lw_okq (⟨"RootChunksModel", "number", "()I"⟩, 18) := ⟨⟨by decide +kernel, by decide +kernel⟩, List.mem_of_getElem? (i := 473) (by decide +kernel), List.mem_of_getElem? (i := 765) (by decide +kernel), List.mem_of_getElem? (i := 766) (by decide +kernel)⟩
def lw_privs_5 : List (MethodName × Nat) := [(⟨"RootChunksModel", "refusesBy", "(III)I"⟩, 18), (⟨"RootChunksModel", "addsTo", "(III)V"⟩, 18), (⟨"RootChunksModel", "refusesMove", "(III)I"⟩, 18), (⟨"RootChunksModel", "shifts", "(III)V"⟩, 18), (⟨"RootChunksModel", "rotates", "(III)V"⟩, 18), (⟨"RootChunksModel", "longest", "()I"⟩, 18), (⟨"RootChunksModel", "waiting", "(I)I"⟩, 18), (⟨"RootChunksModel", "lesser", "(III)I"⟩, 18), (⟨"RootChunksModel", "alike", "(III)I"⟩, 18), (⟨"RootChunksModel", "reads", "()I"⟩, 18), (⟨"RootChunksModel", "readsOrder", "()V"⟩, 18), (⟨"RootChunksModel", "sign", "()I"⟩, 18), (⟨"RootChunksModel", "wantsWord", "(I)V"⟩, 18), (⟨"RootChunksModel", "wantsTwo", "(II)V"⟩, 18), (⟨"RootChunksModel", "wants", "(I)V"⟩, 18), (⟨"RootChunksModel", "number", "()I"⟩, 18)]
theorem lw_r5 : ∀ q ∈ lw_privs_5, lw_okq q := List.forall_mem_cons.mpr ⟨lw_p64, List.forall_mem_cons.mpr ⟨lw_p65, List.forall_mem_cons.mpr ⟨lw_p66, List.forall_mem_cons.mpr ⟨lw_p67, List.forall_mem_cons.mpr ⟨lw_p68, List.forall_mem_cons.mpr ⟨lw_p69, List.forall_mem_cons.mpr ⟨lw_p70, List.forall_mem_cons.mpr ⟨lw_p71, List.forall_mem_cons.mpr ⟨lw_p72, List.forall_mem_cons.mpr ⟨lw_p73, List.forall_mem_cons.mpr ⟨lw_p74, List.forall_mem_cons.mpr ⟨lw_p75, List.forall_mem_cons.mpr ⟨lw_p76, List.forall_mem_cons.mpr ⟨lw_p77, List.forall_mem_cons.mpr ⟨lw_p78, List.forall_mem_cons.mpr ⟨lw_p79, fun _ h => absurd h List.not_mem_nil⟩⟩⟩⟩⟩⟩⟩⟩⟩⟩⟩⟩⟩⟩⟩⟩
theorem lw_p80 : lw_okq (⟨"RootChunksModel", "value", "()I"⟩, 18) := ⟨⟨by decide +kernel, by decide +kernel⟩, List.mem_of_getElem? (i := 473) (by decide +kernel), List.mem_of_getElem? (i := 769) (by decide +kernel), List.mem_of_getElem? (i := 770) (by decide +kernel)⟩
theorem lw_p81 : lw_okq (⟨"RootChunksModel", "refuses", "(IIII)I"⟩, 18) := ⟨⟨by decide +kernel, by decide +kernel⟩, List.mem_of_getElem? (i := 473) (by decide +kernel), List.mem_of_getElem? (i := 777) (by decide +kernel), List.mem_of_getElem? (i := 778) (by decide +kernel)⟩
theorem lw_p82 : lw_okq (⟨"RootChunksModel", "does", "(IIII)V"⟩, 18) := ⟨⟨by decide +kernel, by decide +kernel⟩, List.mem_of_getElem? (i := 473) (by decide +kernel), List.mem_of_getElem? (i := 781) (by decide +kernel), List.mem_of_getElem? (i := 782) (by decide +kernel)⟩
def lw_privs_6 : List (MethodName × Nat) := [(⟨"RootChunksModel", "value", "()I"⟩, 18), (⟨"RootChunksModel", "refuses", "(IIII)I"⟩, 18), (⟨"RootChunksModel", "does", "(IIII)V"⟩, 18)]
theorem lw_r6 : ∀ q ∈ lw_privs_6, lw_okq q := List.forall_mem_cons.mpr ⟨lw_p80, List.forall_mem_cons.mpr ⟨lw_p81, List.forall_mem_cons.mpr ⟨lw_p82, fun _ h => absurd h List.not_mem_nil⟩⟩⟩
def lw_privs : List (MethodName × Nat) := lw_privs_1 ++ (lw_privs_2 ++ (lw_privs_3 ++ (lw_privs_4 ++ (lw_privs_5 ++ (lw_privs_6)))))
def lw_tbl : List Cond := k2_sels lw_privs ++ tables_1
theorem lw_privs_ok : ∀ q ∈ lw_privs, lw_okq q := by
  show ∀ q ∈ lw_privs_1 ++ (lw_privs_2 ++ (lw_privs_3 ++ (lw_privs_4 ++ (lw_privs_5 ++ (lw_privs_6))))), lw_okq q
  exact List.forall_mem_append.mpr ⟨lw_r1, List.forall_mem_append.mpr ⟨lw_r2, List.forall_mem_append.mpr ⟨lw_r3, List.forall_mem_append.mpr ⟨lw_r4, List.forall_mem_append.mpr ⟨lw_r5, lw_r6⟩⟩⟩⟩⟩
-- ===== end of PART A; then your names; then what follows =====
def RX0 : String := "RootChunks$Pad"
def TX0 : u_T := fun k => match k with
  | 0 => ("RootChunks$Pad", "characters", "[C", true)
  | 1 => ("RootChunks$Pad", "length", "I", false)
  | 2 => ("RootChunks$Pad", "position", "I", false)
  | 3 => ("RootChunks$Pad", "kind", "C", false)
  | _ => ("RootChunks$Pad", "given", "[I", true)
def tyX0 : Nat → FieldType := fun k => match k with
  | 0 => .array .char
  | 1 => .int
  | 2 => .int
  | 3 => .char
  | _ => .array .int
abbrev wsX00 : List Cond := u_ws RX0 TX0 5
theorem nmX0 : ∀ a, a < 5 → ∀ b, b < 5 → a ≠ b → (TX0 a).2.1 ≠ (TX0 b).2.1 := by decide +kernel
theorem tyX0_ok : ∀ k, k < 5 → parseFieldDescriptor (TX0 k).2.2.1 = some (tyX0 k) := by decide +kernel
abbrev cX0_init : ByteArray := prog_2_method_1_code
def yX0_init : MethodName := ⟨RX0, "<init>", "()V"⟩
abbrev cX0_append : ByteArray := prog_2_method_2_code
def yX0_append : MethodName := ⟨RX0, "append", "(C)V"⟩
abbrev cX0_firstFault : ByteArray := prog_2_method_3_code
def yX0_firstFault : MethodName := ⟨RX0, "firstFault", "()I"⟩
abbrev cX0_readOrder : ByteArray := prog_2_method_4_code
def yX0_readOrder : MethodName := ⟨RX0, "readOrder", "()Z"⟩
abbrev cX0_shapeOf : ByteArray := prog_2_method_5_code
def yX0_shapeOf : MethodName := ⟨RX0, "shapeOf", "(C)Ljava/lang/String;"⟩
abbrev cX0_readNumber : ByteArray := prog_2_method_6_code
def yX0_readNumber : MethodName := ⟨RX0, "readNumber", "(IZ)Z"⟩
abbrev cX0_skip : ByteArray := prog_2_method_7_code
def yX0_skip : MethodName := ⟨RX0, "skip", "(C)Z"⟩
abbrev cX0_next : ByteArray := prog_2_method_8_code
def yX0_next : MethodName := ⟨RX0, "next", "()C"⟩
def RX1 : String := "RootChunks$Row"
def TX1 : u_T := fun k => match k with
  | 0 => ("RootChunks$Row", "kept", "[I", true)
  | 1 => ("RootChunks$Row", "lengths", "[I", true)
  | 2 => ("RootChunks$Row", "turns", "[I", true)
  | 3 => ("RootChunks$Row", "sums", "[I", true)
  | 4 => ("RootChunks$Row", "length", "I", false)
  | 5 => ("RootChunks$Row", "chunks", "I", false)
  | _ => ("RootChunks$Row", "work", "I", false)
def tyX1 : Nat → FieldType := fun k => match k with
  | 0 => .array .int
  | 1 => .array .int
  | 2 => .array .int
  | 3 => .array .int
  | 4 => .int
  | 5 => .int
  | _ => .int
abbrev wsX10 : List Cond := u_ws RX1 TX1 7
theorem nmX1 : ∀ a, a < 7 → ∀ b, b < 7 → a ≠ b → (TX1 a).2.1 ≠ (TX1 b).2.1 := by decide +kernel
theorem tyX1_ok : ∀ k, k < 7 → parseFieldDescriptor (TX1 k).2.2.1 = some (tyX1 k) := by decide +kernel
abbrev cX1_init : ByteArray := prog_3_method_1_code
def yX1_init : MethodName := ⟨RX1, "<init>", "()V"⟩
abbrev cX1_copyFrom : ByteArray := prog_3_method_2_code
def yX1_copyFrom : MethodName := ⟨RX1, "copyFrom", "(LRootChunks$Row;)V"⟩
abbrev cX1_has : ByteArray := prog_3_method_3_code
def yX1_has : MethodName := ⟨RX1, "has", "(I)Z"⟩
abbrev cX1_startOf : ByteArray := prog_3_method_4_code
def yX1_startOf : MethodName := ⟨RX1, "startOf", "(I)I"⟩
abbrev cX1_chunkHolding : ByteArray := prog_3_method_5_code
def yX1_chunkHolding : MethodName := ⟨RX1, "chunkHolding", "(I)I"⟩
abbrev cX1_numberAt : ByteArray := prog_3_method_6_code
def yX1_numberAt : MethodName := ⟨RX1, "numberAt", "(I)I"⟩
abbrev cX1_layOut : ByteArray := prog_3_method_7_code
def yX1_layOut : MethodName := ⟨RX1, "layOut", "([I)V"⟩
abbrev cX1_rootOfLength : ByteArray := prog_3_method_8_code
def yX1_rootOfLength : MethodName := ⟨RX1, "rootOfLength", "()I"⟩
abbrev cX1_longestChunk : ByteArray := prog_3_method_9_code
def yX1_longestChunk : MethodName := ⟨RX1, "longestChunk", "()I"⟩
abbrev cX1_waitingTurns : ByteArray := prog_3_method_10_code
def yX1_waitingTurns : MethodName := ⟨RX1, "waitingTurns", "()I"⟩
abbrev cX1_waitingSums : ByteArray := prog_3_method_11_code
def yX1_waitingSums : MethodName := ⟨RX1, "waitingSums", "()I"⟩
abbrev cX1_insert : ByteArray := prog_3_method_12_code
def yX1_insert : MethodName := ⟨RX1, "insert", "(II)V"⟩
abbrev cX1_remove : ByteArray := prog_3_method_13_code
def yX1_remove : MethodName := ⟨RX1, "remove", "(I)V"⟩
abbrev cX1_replace : ByteArray := prog_3_method_14_code
def yX1_replace : MethodName := ⟨RX1, "replace", "(II)V"⟩
abbrev cX1_turnSpan : ByteArray := prog_3_method_15_code
def yX1_turnSpan : MethodName := ⟨RX1, "turnSpan", "(II)V"⟩
abbrev cX1_addToSpan : ByteArray := prog_3_method_16_code
def yX1_addToSpan : MethodName := ⟨RX1, "addToSpan", "(III)V"⟩
abbrev cX1_moveSpan : ByteArray := prog_3_method_17_code
def yX1_moveSpan : MethodName := ⟨RX1, "moveSpan", "(III)V"⟩
abbrev cX1_cutAt : ByteArray := prog_3_method_18_code
def yX1_cutAt : MethodName := ⟨RX1, "cutAt", "(I)I"⟩
abbrev cX1_part : ByteArray := prog_3_method_19_code
def yX1_part : MethodName := ⟨RX1, "part", "(II)V"⟩
abbrev cX1_settle : ByteArray := prog_3_method_20_code
def yX1_settle : MethodName := ⟨RX1, "settle", "(II)V"⟩
abbrev cX1_openChunk : ByteArray := prog_3_method_21_code
def yX1_openChunk : MethodName := ⟨RX1, "openChunk", "(II)V"⟩
abbrev cX1_closeChunk : ByteArray := prog_3_method_22_code
def yX1_closeChunk : MethodName := ⟨RX1, "closeChunk", "(I)V"⟩
abbrev cX1_reverseChunks : ByteArray := prog_3_method_23_code
def yX1_reverseChunks : MethodName := ⟨RX1, "reverseChunks", "(II)V"⟩
abbrev cX1_exchangeChunks : ByteArray := prog_3_method_24_code
def yX1_exchangeChunks : MethodName := ⟨RX1, "exchangeChunks", "(III)V"⟩
abbrev cX1_evenOut : ByteArray := prog_3_method_25_code
def yX1_evenOut : MethodName := ⟨RX1, "evenOut", "()V"⟩
abbrev cX1_partLongChunks : ByteArray := prog_3_method_26_code
def yX1_partLongChunks : MethodName := ⟨RX1, "partLongChunks", "(I)V"⟩
abbrev cX1_joinShortChunks : ByteArray := prog_3_method_27_code
def yX1_joinShortChunks : MethodName := ⟨RX1, "joinShortChunks", "(I)V"⟩
abbrev cX1_mirror : ByteArray := prog_3_method_28_code
def yX1_mirror : MethodName := ⟨RX1, "mirror", "([III)V"⟩
def RX2 : String := "RootChunks"
def TX2 : u_T := fun k => match k with
  | 0 => ("RootChunks", "row", "LRootChunks$Row;", true)
  | 1 => ("RootChunks", "trial", "LRootChunks$Row;", true)
  | 2 => ("RootChunks", "history", "[LRootChunks$Row;", true)
  | 3 => ("RootChunks", "undoable", "I", false)
  | 4 => ("RootChunks", "slots", "[LRootChunks$Row;", true)
  | 5 => ("RootChunks", "slotUsed", "[Z", true)
  | 6 => ("RootChunks", "pad", "LRootChunks$Pad;", true)
  | _ => ("RootChunks", "standing", "[I", true)
def tyX2 : Nat → FieldType := fun k => match k with
  | 0 => .object "RootChunks$Row"
  | 1 => .object "RootChunks$Row"
  | 2 => .array (.object "RootChunks$Row")
  | 3 => .int
  | 4 => .array (.object "RootChunks$Row")
  | 5 => .array .boolean
  | 6 => .object "RootChunks$Pad"
  | _ => .array .int
abbrev wsX20 : List Cond := u_ws RX2 TX2 8
theorem nmX2 : ∀ a, a < 8 → ∀ b, b < 8 → a ≠ b → (TX2 a).2.1 ≠ (TX2 b).2.1 := by decide +kernel
theorem tyX2_ok : ∀ k, k < 8 → parseFieldDescriptor (TX2 k).2.2.1 = some (tyX2 k) := by decide +kernel
abbrev cX2_init : ByteArray := prog_1_method_1_code
def yX2_init : MethodName := ⟨RX2, "<init>", "()V"⟩
abbrev cX2_putIn : ByteArray := prog_1_method_2_code
def yX2_putIn : MethodName := ⟨RX2, "putIn", "(II)I"⟩
abbrev cX2_takeOut : ByteArray := prog_1_method_3_code
def yX2_takeOut : MethodName := ⟨RX2, "takeOut", "(I)I"⟩
abbrev cX2_set : ByteArray := prog_1_method_4_code
def yX2_set : MethodName := ⟨RX2, "set", "(II)I"⟩
abbrev cX2_turn : ByteArray := prog_1_method_5_code
def yX2_turn : MethodName := ⟨RX2, "turn", "(II)I"⟩
abbrev cX2_add : ByteArray := prog_1_method_6_code
def yX2_add : MethodName := ⟨RX2, "add", "(III)I"⟩
abbrev cX2_move : ByteArray := prog_1_method_7_code
def yX2_move : MethodName := ⟨RX2, "move", "(III)I"⟩
abbrev cX2_rotate : ByteArray := prog_1_method_8_code
def yX2_rotate : MethodName := ⟨RX2, "rotate", "(III)I"⟩
abbrev cX2_at : ByteArray := prog_1_method_9_code
def yX2_at : MethodName := ⟨RX2, "at", "(I)I"⟩
abbrev cX2_chunk : ByteArray := prog_1_method_10_code
def yX2_chunk : MethodName := ⟨RX2, "chunk", "(II)I"⟩
abbrev cX2_count : ByteArray := prog_1_method_11_code
def yX2_count : MethodName := ⟨RX2, "count", "(I)I"⟩
abbrev cX2_kth : ByteArray := prog_1_method_12_code
def yX2_kth : MethodName := ⟨RX2, "kth", "(III)I"⟩
abbrev cX2_below : ByteArray := prog_1_method_13_code
def yX2_below : MethodName := ⟨RX2, "below", "(III)I"⟩
abbrev cX2_sum : ByteArray := prog_1_method_14_code
def yX2_sum : MethodName := ⟨RX2, "sum", "(II)I"⟩
abbrev cX2_unlike : ByteArray := prog_1_method_15_code
def yX2_unlike : MethodName := ⟨RX2, "unlike", "(II)I"⟩
abbrev cX2_find : ByteArray := prog_1_method_16_code
def yX2_find : MethodName := ⟨RX2, "find", "(II)I"⟩
abbrev cX2_costOfTurn : ByteArray := prog_1_method_17_code
def yX2_costOfTurn : MethodName := ⟨RX2, "costOfTurn", "(II)I"⟩
abbrev cX2_put : ByteArray := prog_1_method_18_code
def yX2_put : MethodName := ⟨RX2, "put", "(J)I"⟩
abbrev cX2_wipe : ByteArray := prog_1_method_19_code
def yX2_wipe : MethodName := ⟨RX2, "wipe", "()I"⟩
abbrev cX2_fault : ByteArray := prog_1_method_20_code
def yX2_fault : MethodName := ⟨RX2, "fault", "()I"⟩
abbrev cX2_carryOut : ByteArray := prog_1_method_21_code
def yX2_carryOut : MethodName := ⟨RX2, "carryOut", "()I"⟩
abbrev cX2_undo : ByteArray := prog_1_method_22_code
def yX2_undo : MethodName := ⟨RX2, "undo", "()I"⟩
abbrev cX2_save : ByteArray := prog_1_method_23_code
def yX2_save : MethodName := ⟨RX2, "save", "(I)I"⟩
abbrev cX2_restore : ByteArray := prog_1_method_24_code
def yX2_restore : MethodName := ⟨RX2, "restore", "(I)I"⟩
abbrev cX2_change : ByteArray := prog_1_method_25_code
def yX2_change : MethodName := ⟨RX2, "change", "(CIII)I"⟩
abbrev cX2_errorOf : ByteArray := prog_1_method_26_code
def yX2_errorOf : MethodName := ⟨RX2, "errorOf", "(CIII)I"⟩
abbrev cX2_apply : ByteArray := prog_1_method_27_code
def yX2_apply : MethodName := ⟨RX2, "apply", "(CIII)I"⟩
abbrev cX2_rolledOff : ByteArray := prog_1_method_28_code
def yX2_rolledOff : MethodName := ⟨RX2, "rolledOff", "(III)I"⟩
abbrev cX2_spanError : ByteArray := prog_1_method_29_code
def yX2_spanError : MethodName := ⟨RX2, "spanError", "(II)I"⟩
abbrev cX2_putError : ByteArray := prog_1_method_30_code
def yX2_putError : MethodName := ⟨RX2, "putError", "(II)I"⟩
abbrev cX2_addError : ByteArray := prog_1_method_31_code
def yX2_addError : MethodName := ⟨RX2, "addError", "(III)I"⟩
abbrev cX2_moveError : ByteArray := prog_1_method_32_code
def yX2_moveError : MethodName := ⟨RX2, "moveError", "(III)I"⟩
abbrev cX2_rollError : ByteArray := prog_1_method_33_code
def yX2_rollError : MethodName := ⟨RX2, "rollError", "(III)I"⟩
abbrev cX2_outside : ByteArray := prog_1_method_34_code
def yX2_outside : MethodName := ⟨RX2, "outside", "(II)Z"⟩
abbrev cX2_remember : ByteArray := prog_1_method_35_code
def yX2_remember : MethodName := ⟨RX2, "remember", "()V"⟩
abbrev cX2_countBelow : ByteArray := prog_1_method_36_code
def yX2_countBelow : MethodName := ⟨RX2, "countBelow", "(III)I"⟩
abbrev cX2_firstPlaceOf : ByteArray := prog_1_method_37_code
def yX2_firstPlaceOf : MethodName := ⟨RX2, "firstPlaceOf", "(III)I"⟩
abbrev cX2_countCharacters : ByteArray := prog_1_method_38_code
def yX2_countCharacters : MethodName := ⟨RX2, "countCharacters", "(J)I"⟩
abbrev cX2_codeOf : ByteArray := prog_1_method_39_code
def yX2_codeOf : MethodName := ⟨RX2, "codeOf", "(JI)I"⟩
abbrev cX2_makeRows : ByteArray := prog_1_method_40_code
def yX2_makeRows : MethodName := ⟨RX2, "makeRows", "(I)[LRootChunks$Row;"⟩
def RX3 : String := "RootChunksModel"
def TX3 : u_T := fun k => match k with
  | 0 => ("RootChunksModel", "thrown", "I", false)
  | 1 => ("RootChunksModel", "s", "[I", true)
  | 2 => ("RootChunksModel", "aside", "[I", true)
  | 3 => ("RootChunksModel", "undos", "[I", true)
  | 4 => ("RootChunksModel", "undoMany", "I", false)
  | 5 => ("RootChunksModel", "slots", "[I", true)
  | 6 => ("RootChunksModel", "hasSlot", "[Z", true)
  | 7 => ("RootChunksModel", "pad", "[I", true)
  | 8 => ("RootChunksModel", "length", "I", false)
  | 9 => ("RootChunksModel", "order", "[I", true)
  | 10 => ("RootChunksModel", "newKept", "[I", true)
  | 11 => ("RootChunksModel", "newLong", "[I", true)
  | 12 => ("RootChunksModel", "newTurned", "[I", true)
  | 13 => ("RootChunksModel", "newSum", "[I", true)
  | 14 => ("RootChunksModel", "at", "I", false)
  | 15 => ("RootChunksModel", "isWell", "Z", false)
  | 16 => ("RootChunksModel", "orders", "[I", true)
  | _ => ("RootChunksModel", "orderMany", "I", false)
def tyX3 : Nat → FieldType := fun k => match k with
  | 0 => .int
  | 1 => .array .int
  | 2 => .array .int
  | 3 => .array .int
  | 4 => .int
  | 5 => .array .int
  | 6 => .array .boolean
  | 7 => .array .int
  | 8 => .int
  | 9 => .array .int
  | 10 => .array .int
  | 11 => .array .int
  | 12 => .array .int
  | 13 => .array .int
  | 14 => .int
  | 15 => .boolean
  | 16 => .array .int
  | _ => .int
abbrev wsX30 : List Cond := u_ws RX3 TX3 18
theorem nmX3 : ∀ a, a < 18 → ∀ b, b < 18 → a ≠ b → (TX3 a).2.1 ≠ (TX3 b).2.1 := by decide +kernel
theorem tyX3_ok : ∀ k, k < 18 → parseFieldDescriptor (TX3 k).2.2.1 = some (tyX3 k) := by decide +kernel
abbrev cX3_init : ByteArray := prog_5_method_1_code
def yX3_init : MethodName := ⟨RX3, "<init>", "()V"⟩
abbrev cX3_in : ByteArray := prog_5_method_3_code
def yX3_in : MethodName := ⟨RX3, "in", "(III)Z"⟩
abbrev cX3_records : ByteArray := prog_5_method_4_code
def yX3_records : MethodName := ⟨RX3, "records", "()V"⟩
abbrev cX3_startOf : ByteArray := prog_5_method_5_code
def yX3_startOf : MethodName := ⟨RX3, "startOf", "(I)I"⟩
abbrev cX3_chunkAt : ByteArray := prog_5_method_6_code
def yX3_chunkAt : MethodName := ⟨RX3, "chunkAt", "(I)I"⟩
abbrev cX3_valueAt : ByteArray := prog_5_method_7_code
def yX3_valueAt : MethodName := ⟨RX3, "valueAt", "(I)I"⟩
abbrev cX3_carries : ByteArray := prog_5_method_8_code
def yX3_carries : MethodName := ⟨RX3, "carries", "(I)V"⟩
abbrev cX3_parts : ByteArray := prog_5_method_9_code
def yX3_parts : MethodName := ⟨RX3, "parts", "(II)V"⟩
abbrev cX3_closes : ByteArray := prog_5_method_10_code
def yX3_closes : MethodName := ⟨RX3, "closes", "(I)V"⟩
abbrev cX3_cuts : ByteArray := prog_5_method_11_code
def yX3_cuts : MethodName := ⟨RX3, "cuts", "(I)V"⟩
abbrev cX3_chunkFrom : ByteArray := prog_5_method_12_code
def yX3_chunkFrom : MethodName := ⟨RX3, "chunkFrom", "(I)I"⟩
abbrev cX3_reorders : ByteArray := prog_5_method_13_code
def yX3_reorders : MethodName := ⟨RX3, "reorders", "()V"⟩
abbrev cX3_root : ByteArray := prog_5_method_14_code
def yX3_root : MethodName := ⟨RX3, "root", "()I"⟩
abbrev cX3_evens : ByteArray := prog_5_method_15_code
def yX3_evens : MethodName := ⟨RX3, "evens", "()V"⟩
abbrev cX3_puts : ByteArray := prog_5_method_16_code
def yX3_puts : MethodName := ⟨RX3, "puts", "(II)V"⟩
abbrev cX3_takes : ByteArray := prog_5_method_17_code
def yX3_takes : MethodName := ⟨RX3, "takes", "(I)V"⟩
abbrev cX3_sets : ByteArray := prog_5_method_18_code
def yX3_sets : MethodName := ⟨RX3, "sets", "(II)V"⟩
abbrev cX3_turns : ByteArray := prog_5_method_19_code
def yX3_turns : MethodName := ⟨RX3, "turns", "(II)V"⟩
abbrev cX3_addsTo : ByteArray := prog_5_method_20_code
def yX3_addsTo : MethodName := ⟨RX3, "addsTo", "(III)V"⟩
abbrev cX3_shifts : ByteArray := prog_5_method_21_code
def yX3_shifts : MethodName := ⟨RX3, "shifts", "(III)V"⟩
abbrev cX3_isPlace : ByteArray := prog_5_method_22_code
def yX3_isPlace : MethodName := ⟨RX3, "isPlace", "(I)Z"⟩
abbrev cX3_isValue : ByteArray := prog_5_method_23_code
def yX3_isValue : MethodName := ⟨RX3, "isValue", "(I)Z"⟩
abbrev cX3_refusesSpan : ByteArray := prog_5_method_24_code
def yX3_refusesSpan : MethodName := ⟨RX3, "refusesSpan", "(II)I"⟩
abbrev cX3_refusesPut : ByteArray := prog_5_method_25_code
def yX3_refusesPut : MethodName := ⟨RX3, "refusesPut", "(II)I"⟩
abbrev cX3_refusesSet : ByteArray := prog_5_method_26_code
def yX3_refusesSet : MethodName := ⟨RX3, "refusesSet", "(II)I"⟩
abbrev cX3_refusesBy : ByteArray := prog_5_method_27_code
def yX3_refusesBy : MethodName := ⟨RX3, "refusesBy", "(III)I"⟩
abbrev cX3_refusesAdd : ByteArray := prog_5_method_28_code
def yX3_refusesAdd : MethodName := ⟨RX3, "refusesAdd", "(III)I"⟩
abbrev cX3_refusesMove : ByteArray := prog_5_method_29_code
def yX3_refusesMove : MethodName := ⟨RX3, "refusesMove", "(III)I"⟩
abbrev cX3_rotates : ByteArray := prog_5_method_30_code
def yX3_rotates : MethodName := ⟨RX3, "rotates", "(III)V"⟩
abbrev cX3_putIn : ByteArray := prog_5_method_31_code
def yX3_putIn : MethodName := ⟨RX3, "putIn", "(II)I"⟩
abbrev cX3_takeOut : ByteArray := prog_5_method_32_code
def yX3_takeOut : MethodName := ⟨RX3, "takeOut", "(I)I"⟩
abbrev cX3_set : ByteArray := prog_5_method_33_code
def yX3_set : MethodName := ⟨RX3, "set", "(II)I"⟩
abbrev cX3_turn : ByteArray := prog_5_method_34_code
def yX3_turn : MethodName := ⟨RX3, "turn", "(II)I"⟩
abbrev cX3_add : ByteArray := prog_5_method_35_code
def yX3_add : MethodName := ⟨RX3, "add", "(III)I"⟩
abbrev cX3_move : ByteArray := prog_5_method_36_code
def yX3_move : MethodName := ⟨RX3, "move", "(III)I"⟩
abbrev cX3_rotate : ByteArray := prog_5_method_37_code
def yX3_rotate : MethodName := ⟨RX3, "rotate", "(III)I"⟩
abbrev cX3_at : ByteArray := prog_5_method_38_code
def yX3_at : MethodName := ⟨RX3, "at", "(I)I"⟩
abbrev cX3_chunk : ByteArray := prog_5_method_39_code
def yX3_chunk : MethodName := ⟨RX3, "chunk", "(II)I"⟩
abbrev cX3_longest : ByteArray := prog_5_method_40_code
def yX3_longest : MethodName := ⟨RX3, "longest", "()I"⟩
abbrev cX3_waiting : ByteArray := prog_5_method_41_code
def yX3_waiting : MethodName := ⟨RX3, "waiting", "(I)I"⟩
abbrev cX3_count : ByteArray := prog_5_method_42_code
def yX3_count : MethodName := ⟨RX3, "count", "(I)I"⟩
abbrev cX3_lesser : ByteArray := prog_5_method_43_code
def yX3_lesser : MethodName := ⟨RX3, "lesser", "(III)I"⟩
abbrev cX3_alike : ByteArray := prog_5_method_44_code
def yX3_alike : MethodName := ⟨RX3, "alike", "(III)I"⟩
abbrev cX3_kth : ByteArray := prog_5_method_45_code
def yX3_kth : MethodName := ⟨RX3, "kth", "(III)I"⟩
abbrev cX3_below : ByteArray := prog_5_method_46_code
def yX3_below : MethodName := ⟨RX3, "below", "(III)I"⟩
abbrev cX3_sum : ByteArray := prog_5_method_47_code
def yX3_sum : MethodName := ⟨RX3, "sum", "(II)I"⟩
abbrev cX3_unlike : ByteArray := prog_5_method_48_code
def yX3_unlike : MethodName := ⟨RX3, "unlike", "(II)I"⟩
abbrev cX3_find : ByteArray := prog_5_method_49_code
def yX3_find : MethodName := ⟨RX3, "find", "(II)I"⟩
abbrev cX3_costOfTurn : ByteArray := prog_5_method_50_code
def yX3_costOfTurn : MethodName := ⟨RX3, "costOfTurn", "(II)I"⟩
abbrev cX3_put : ByteArray := prog_5_method_51_code
def yX3_put : MethodName := ⟨RX3, "put", "(J)I"⟩
abbrev cX3_wipe : ByteArray := prog_5_method_52_code
def yX3_wipe : MethodName := ⟨RX3, "wipe", "()I"⟩
abbrev cX3_sign : ByteArray := prog_5_method_53_code
def yX3_sign : MethodName := ⟨RX3, "sign", "()I"⟩
abbrev cX3_wants : ByteArray := prog_5_method_54_code
def yX3_wants : MethodName := ⟨RX3, "wants", "(I)V"⟩
abbrev cX3_wantsTwo : ByteArray := prog_5_method_55_code
def yX3_wantsTwo : MethodName := ⟨RX3, "wantsTwo", "(II)V"⟩
abbrev cX3_number : ByteArray := prog_5_method_56_code
def yX3_number : MethodName := ⟨RX3, "number", "()I"⟩
abbrev cX3_value : ByteArray := prog_5_method_57_code
def yX3_value : MethodName := ⟨RX3, "value", "()I"⟩
abbrev cX3_wantsWord : ByteArray := prog_5_method_58_code
def yX3_wantsWord : MethodName := ⟨RX3, "wantsWord", "(I)V"⟩
abbrev cX3_readsOrder : ByteArray := prog_5_method_59_code
def yX3_readsOrder : MethodName := ⟨RX3, "readsOrder", "()V"⟩
abbrev cX3_reads : ByteArray := prog_5_method_60_code
def yX3_reads : MethodName := ⟨RX3, "reads", "()I"⟩
abbrev cX3_fault : ByteArray := prog_5_method_61_code
def yX3_fault : MethodName := ⟨RX3, "fault", "()I"⟩
abbrev cX3_refuses : ByteArray := prog_5_method_62_code
def yX3_refuses : MethodName := ⟨RX3, "refuses", "(IIII)I"⟩
abbrev cX3_does : ByteArray := prog_5_method_63_code
def yX3_does : MethodName := ⟨RX3, "does", "(IIII)V"⟩
abbrev cX3_carryOut : ByteArray := prog_5_method_64_code
def yX3_carryOut : MethodName := ⟨RX3, "carryOut", "()I"⟩
abbrev cX3_undo : ByteArray := prog_5_method_65_code
def yX3_undo : MethodName := ⟨RX3, "undo", "()I"⟩
abbrev cX3_save : ByteArray := prog_5_method_66_code
def yX3_save : MethodName := ⟨RX3, "save", "(I)I"⟩
abbrev cX3_restore : ByteArray := prog_5_method_67_code
def yX3_restore : MethodName := ⟨RX3, "restore", "(I)I"⟩
def RJ9 : String := "java/lang/Math"
def TJ9 : u_T := fun k => match k with
  | _ => ("", "", "", false)
def tyJ9 : Nat → FieldType := fun k => match k with
  | _ => .int
abbrev wsJ90 : List Cond := u_ws RJ9 TJ9 0
theorem nmJ9 : ∀ a, a < 0 → ∀ b, b < 0 → a ≠ b → (TJ9 a).2.1 ≠ (TJ9 b).2.1 := by decide +kernel
theorem tyJ9_ok : ∀ k, k < 0 → parseFieldDescriptor (TJ9 k).2.2.1 = some (tyJ9 k) := by decide +kernel
abbrev cJ9_floorMod_7cf53 : ByteArray := prog_6_method_50_code
def yJ9_floorMod_7cf53 : MethodName := ⟨RJ9, "floorMod", "(II)I"⟩
abbrev cJ9_max_7cf53 : ByteArray := prog_6_method_65_code
def yJ9_max_7cf53 : MethodName := ⟨RJ9, "max", "(II)I"⟩
def RJ0 : String := "java/lang/String"
def TJ0 : u_T := fun k => match k with
  | _ => ("", "", "", false)
def tyJ0 : Nat → FieldType := fun k => match k with
  | _ => .int
abbrev wsJ00 : List Cond := u_ws RJ0 TJ0 0
theorem nmJ0 : ∀ a, a < 0 → ∀ b, b < 0 → a ≠ b → (TJ0 a).2.1 ≠ (TJ0 b).2.1 := by decide +kernel
theorem tyJ0_ok : ∀ k, k < 0 → parseFieldDescriptor (TJ0 k).2.2.1 = some (tyJ0 k) := by decide +kernel
abbrev cJ0_length_8abf5 : ByteArray := prog_7_method_54_code
def yJ0_length_8abf5 : MethodName := ⟨RJ0, "length", "()I"⟩
abbrev cJ0_isEmpty_aae02 : ByteArray := prog_7_method_55_code
def yJ0_isEmpty_aae02 : MethodName := ⟨RJ0, "isEmpty", "()Z"⟩
abbrev cJ0_charAt_5068e : ByteArray := prog_7_method_56_code
def yJ0_charAt_5068e : MethodName := ⟨RJ0, "charAt", "(I)C"⟩
abbrev cJ0_coder_7d493 : ByteArray := prog_7_method_152_code
def yJ0_coder_7d493 : MethodName := ⟨RJ0, "coder", "()B"⟩
abbrev cJ0_isLatin1_aae02 : ByteArray := prog_7_method_154_code
def yJ0_isLatin1_aae02 : MethodName := ⟨RJ0, "isLatin1", "()Z"⟩
abbrev cJ0_checkIndex_df160 : ByteArray := prog_7_method_155_code
def yJ0_checkIndex_df160 : MethodName := ⟨RJ0, "checkIndex", "(II)V"⟩
def RJ1 : String := "java/lang/StringLatin1"
def TJ1 : u_T := fun k => match k with
  | _ => ("", "", "", false)
def tyJ1 : Nat → FieldType := fun k => match k with
  | _ => .int
abbrev wsJ10 : List Cond := u_ws RJ1 TJ1 0
theorem nmJ1 : ∀ a, a < 0 → ∀ b, b < 0 → a ≠ b → (TJ1 a).2.1 ≠ (TJ1 b).2.1 := by decide +kernel
theorem tyJ1_ok : ∀ k, k < 0 → parseFieldDescriptor (TJ1 k).2.2.1 = some (tyJ1 k) := by decide +kernel
abbrev cJ1_charAt_3b067 : ByteArray := prog_8_method_2_code
def yJ1_charAt_3b067 : MethodName := ⟨RJ1, "charAt", "([BI)C"⟩
def RJ2 : String := "java/lang/StringUTF16"
def TJ2 : u_T := fun k => match k with
  | _ => ("", "", "", false)
def tyJ2 : Nat → FieldType := fun k => match k with
  | _ => .int
abbrev wsJ20 : List Cond := u_ws RJ2 TJ2 0
theorem nmJ2 : ∀ a, a < 0 → ∀ b, b < 0 → a ≠ b → (TJ2 a).2.1 ≠ (TJ2 b).2.1 := by decide +kernel
theorem tyJ2_ok : ∀ k, k < 0 → parseFieldDescriptor (TJ2 k).2.2.1 = some (tyJ2 k) := by decide +kernel
abbrev cJ2_getChar_3b067 : ByteArray := prog_9_method_5_code
def yJ2_getChar_3b067 : MethodName := ⟨RJ2, "getChar", "([BI)C"⟩
abbrev cJ2_length_9d52b : ByteArray := prog_9_method_6_code
def yJ2_length_9d52b : MethodName := ⟨RJ2, "length", "([B)I"⟩
abbrev cJ2_charAt_3b067 : ByteArray := prog_9_method_83_code
def yJ2_charAt_3b067 : MethodName := ⟨RJ2, "charAt", "([BI)C"⟩
abbrev cJ2_checkIndex_2214a : ByteArray := prog_9_method_91_code
def yJ2_checkIndex_2214a : MethodName := ⟨RJ2, "checkIndex", "(I[B)V"⟩
def RJ10 : String := "java/lang/System"
def TJ10 : u_T := fun k => match k with
  | _ => ("", "", "", false)
def tyJ10 : Nat → FieldType := fun k => match k with
  | _ => .int
abbrev wsJ100 : List Cond := u_ws RJ10 TJ10 0
theorem nmJ10 : ∀ a, a < 0 → ∀ b, b < 0 → a ≠ b → (TJ10 a).2.1 ≠ (TJ10 b).2.1 := by decide +kernel
theorem tyJ10_ok : ∀ k, k < 0 → parseFieldDescriptor (TJ10 k).2.2.1 = some (tyJ10 k) := by decide +kernel
def RJ3 : String := "jdk/internal/util/Preconditions"
def TJ3 : u_T := fun k => match k with
  | _ => ("", "", "", false)
def tyJ3 : Nat → FieldType := fun k => match k with
  | _ => .int
abbrev wsJ30 : List Cond := u_ws RJ3 TJ3 0
theorem nmJ3 : ∀ a, a < 0 → ∀ b, b < 0 → a ≠ b → (TJ3 a).2.1 ≠ (TJ3 b).2.1 := by decide +kernel
theorem tyJ3_ok : ∀ k, k < 0 → parseFieldDescriptor (TJ3 k).2.2.1 = some (tyJ3 k) := by decide +kernel
abbrev cJ3_checkIndex_8e157 : ByteArray := prog_11_method_11_code
def yJ3_checkIndex_8e157 : MethodName := ⟨RJ3, "checkIndex", "(IILjava/util/function/BiFunction;)I"⟩
def RL : String := "RootChunksLaw"
abbrev cL_law : ByteArray := code
def yL_law : MethodName := ⟨RL, "law", "([I)Z"⟩
abbrev vwCl : List vw_C := [(RX0, TX0, 5), (RX1, TX1, 7), (RX2, TX2, 8), (RX3, TX3, 18)]
theorem inX0 : ∀ w ∈ wsX00, w ∈ lw_tbl := by decide +kernel
theorem inX1 : ∀ w ∈ wsX10, w ∈ lw_tbl := by decide +kernel
theorem inX2 : ∀ w ∈ wsX20, w ∈ lw_tbl := by decide +kernel
theorem inX3 : ∀ w ∈ wsX30, w ∈ lw_tbl := by decide +kernel
end
section
/-! THE ABSTRACT MACHINE: values are whole numbers (an int is one of them, cut to 32 bits), references are the places of a list of cells. -/
abbrev ab_V : Type := Int ⊕ (Option Nat ⊕ Int64)
abbrev ab_C : Type := (Nat × List ab_V) ⊕ ((Nat × Nat × (Int → Int)) ⊕ List (Option Nat))
abbrev ab_L : Type := List (Option ab_V)
abbrev ab_Q : Type := Option ab_V → List ab_C → Prop
abbrev ab_Sp : Type := List ab_V → List ab_C → ab_Q → Prop
/-- a row of code: where it stands, the instruction, where the next one stands, where it may go -/
abbrev ab_I : Type := Nat × Instr × Nat × List (Int × Nat)
/-- a call: how many arguments it takes (the receiver too), the receiver's class (99: static), which cells it is given (none: all), how many of them are its world, what it does -/
abbrev ab_CI : Type := Nat × Nat × List Nat × Nat × ab_Sp
/-- what a class's pool tells: fields (index; class, slot, nest mate, type), numbers, long numbers -/
abbrev ab_T : Type := List (Nat × Nat × Nat × Bool × Nat) × List (Nat × Int) × List (Nat × Int64)
/-- a method's: pool, calls by where they stand, known calls (1: Math.max, 2: arraycopy), return type -/
abbrev ab_E : Type := ab_T × List (Nat × ab_CI) × List (Nat × Nat) × Nat
def ab_look {α : Type} : List (Nat × α) → Nat → Option α
  | [], _ => none
  | a :: l, k => match Nat.beq a.1 k with
    | true => some a.2
    | false => ab_look l k
def ab_r (a : Int) : Prop := -2147483648 ≤ a ∧ a < 2147483648
def ab_K : Type := Nat → ab_L → List ab_V → List ab_C → Prop
def ab_i1 (st : List ab_V) (f : Int → List ab_V → Prop) : Prop := match st with
  | .inl a :: r => f a r
  | _ => False
def ab_i2 (st : List ab_V) (f : Int → Int → List ab_V → Prop) : Prop := match st with
  | .inl b :: .inl a :: r => f a b r
  | _ => False
def ab_l1 (st : List ab_V) (f : Int64 → List ab_V → Prop) : Prop := match st with
  | .inr (.inr a) :: r => f a r
  | _ => False
def ab_l2 (st : List ab_V) (f : Int64 → Int64 → List ab_V → Prop) : Prop := match st with
  | .inr (.inr b) :: .inr (.inr a) :: r => f a b r
  | _ => False
def ab_li (st : List ab_V) (f : Int64 → Int → List ab_V → Prop) : Prop := match st with
  | .inl b :: .inr (.inr a) :: r => f a b r
  | _ => False
def ab_p1 (st : List ab_V) (f : Nat → List ab_V → Prop) : Prop := match st with
  | .inr (.inl (some k)) :: r => f k r
  | _ => False
def ab_pi (st : List ab_V) (f : Nat → Int → List ab_V → Prop) : Prop := match st with
  | .inl i :: .inr (.inl (some k)) :: r => f k i r
  | _ => False
def ab_pii (st : List ab_V) (f : Nat → Int → Int → List ab_V → Prop) : Prop := match st with
  | .inl x :: .inl i :: .inr (.inl (some k)) :: r => f k i x r
  | _ => False
def ab_c1 : ab_V → Bool
  | .inr (.inr _) => false
  | _ => true
def ab_cat : List ab_V → Nat
  | [] => 0
  | v :: r => (match ab_c1 v with | true => 1 | false => 2) + ab_cat r
def ab_ldI (lv : ab_L) (i : Nat) (f : Int → Prop) : Prop := match lv[i]? with
  | some (some (.inl a)) => f a
  | _ => False
def ab_ldP (lv : ab_L) (i : Nat) (f : Option Nat → Prop) : Prop := match lv[i]? with
  | some (some (.inr (.inl a))) => f a
  | _ => False
def ab_ldL (lv : ab_L) (i : Nat) (f : Int64 → Prop) : Prop := match lv[i]? with
  | some (some (.inr (.inr a))) => f a
  | _ => False
/-- no long number ends at a place -/
def ab_nl (lv : ab_L) : Nat → Bool
  | 0 => true
  | j + 1 => match lv[j]? with
    | some (some v) => ab_c1 v
    | _ => true
def ab_st1 (lv : ab_L) (i : Nat) (v : ab_V) (f : ab_L → Prop) : Prop := match ab_nl lv i, Nat.blt i lv.length with
  | true, true => f (lv.set i (some v))
  | _, _ => False
def ab_st2 (lv : ab_L) (i : Nat) (v : ab_V) (f : ab_L → Prop) : Prop := match ab_nl lv i, Nat.blt (i + 1) lv.length with
  | true, true => f ((lv.set i (some v)).set (i + 1) none)
  | _, _ => False
def ab_br (c : ClassFile.Cond) (a b : Int) (T F : Prop) : Prop := match c with
  | .eq => (a = b → T) ∧ (¬ a = b → F)
  | .ne => (¬ a = b → T) ∧ (a = b → F)
  | .lt => (a < b → T) ∧ (b ≤ a → F)
  | .ge => (b ≤ a → T) ∧ (a < b → F)
  | .gt => (b < a → T) ∧ (a ≤ b → F)
  | .le => (a ≤ b → T) ∧ (b < a → F)
def ab_sw (a : Int) (d : Nat) (f : Nat → Prop) : List (Int × Nat) → Prop
  | [] => f d
  | (v, t) :: r => (a = v → f t) ∧ (¬ a = v → ab_sw a d f r)
def ab_tg (tg : List (Int × Nat)) : Nat := match tg with
  | [] => 0
  | x :: _ => x.2
def ab_fit (ty : Nat) (v : ab_V) (f : Prop) : Prop := match ty, v with
  | 0, .inl _ => f
  | 1, .inl a => (0 ≤ a ∧ a < 65536) ∧ f
  | 2, .inl a => (a = 0 ∨ a = 1) ∧ f
  | _, _ => False
def ab_getf (T : ab_T) (ix k : Nat) (cs : List ab_C) (f : ab_V → Prop) : Prop := match ab_look T.1 ix, cs[k]? with
  | some (ci, fi, _, _), some (.inl (cj, fs)) => match Nat.beq ci cj, fs[fi]? with
    | true, some v => f v
    | _, _ => False
  | _, _ => False
def ab_putf (T : ab_T) (ix k : Nat) (v : ab_V) (cs : List ab_C) (f : List ab_C → Prop) : Prop := match ab_look T.1 ix, cs[k]? with
  | some (ci, fi, _, ty), some (.inl (cj, fs)) => match Nat.beq ci cj, Nat.blt fi fs.length with
    | true, true => ab_fit ty v (f (cs.set k (.inl (cj, fs.set fi v))))
    | _, _ => False
  | _, _ => False
def ab_arr (t k : Nat) (cs : List ab_C) (f : Nat → (Int → Int) → Prop) : Prop := match cs[k]? with
  | some (.inr (.inl (t', n, g))) => match Nat.beq t t' with
    | true => f n g
    | false => False
  | _ => False
def ab_up (f : Int → Int) (i x : Int) : Int → Int := fun j => if j = i then x else f j
def ab_cpy (f g : Int → Int) (sp dp n : Int) : Int → Int := fun k => if dp ≤ k ∧ k < dp + n then f (sp + (k - dp)) else g k
def ab_len (k : Nat) (cs : List ab_C) (f : Nat → Prop) : Prop := match cs[k]? with
  | some (.inr (.inl (_, n, _))) => f n
  | some (.inr (.inr l)) => f l.length
  | _ => False
def ab_rarr (k : Nat) (cs : List ab_C) (f : List (Option Nat) → Prop) : Prop := match cs[k]? with
  | some (.inr (.inr l)) => f l
  | _ => False
def ab_obj (ci k : Nat) (cs : List ab_C) (f : Prop) : Prop := match cs[k]? with
  | some (.inl (cj, _)) => match Nat.beq ci cj with
    | true => f
    | false => False
  | _ => False
/-! calls: the callee's places among the caller's -/
def ab_pos : List Nat → Nat → Nat
  | [], _ => 0
  | a :: l, k => match Nat.beq a k with
    | true => 0
    | false => ab_pos l k + 1
def ab_unV (is : List Nat) : ab_V → ab_V
  | .inr (.inl (some k)) => .inr (.inl (some (ab_pos is k)))
  | v => v
def ab_reV (is : List Nat) : ab_V → ab_V
  | .inr (.inl (some k)) => .inr (.inl (some (is.getD k 0)))
  | v => v
def ab_okV (is : List Nat) : ab_V → Bool
  | .inr (.inl (some k)) => Nat.blt (ab_pos is k) is.length
  | _ => true
def ab_unC (is : List Nat) : ab_C → ab_C
  | .inl (ci, fs) => .inl (ci, fs.map (ab_unV is))
  | .inr (.inl a) => .inr (.inl a)
  | .inr (.inr l) => .inr (.inr (l.map (fun o => o.map (fun k => ab_pos is k))))
def ab_reC (is : List Nat) : ab_C → ab_C
  | .inl (ci, fs) => .inl (ci, fs.map (ab_reV is))
  | .inr (.inl a) => .inr (.inl a)
  | .inr (.inr l) => .inr (.inr (l.map (fun o => o.map (fun k => is.getD k 0))))
def ab_okC (is : List Nat) : ab_C → Bool
  | .inl (_, fs) => fs.all (ab_okV is)
  | .inr (.inl _) => true
  | .inr (.inr l) => l.all (fun o => match o with | some k => Nat.blt (ab_pos is k) is.length | none => true)
/-- the cells at some places -/
def ab_pick (cs : List ab_C) : List Nat → List ab_C
  | [] => []
  | i :: is => match cs[i]? with
    | some c => c :: ab_pick cs is
    | none => ab_pick cs is
/-- other cells at some places -/
def ab_back (jd : List Nat) : List Nat → List ab_C → List ab_C → List ab_C
  | i :: is, c :: cs', cs => ab_back jd is cs' (cs.set i (ab_reC jd c))
  | _, _, cs => cs
def ab_nd : List Nat → Bool
  | [] => true
  | a :: l => match Nat.blt (ab_pos l a) l.length with
    | true => false
    | false => ab_nd l
def ab_ret (r : Option ab_V) (st : List ab_V) : List ab_V := match r with
  | some v => v :: st
  | none => st
/-- what a contract gives, weakened -/
def ab_cl (sp : ab_Sp) (args : List ab_V) (cs : List ab_C) (Q : ab_Q) : Prop := ∃ Q0 : ab_Q, sp args cs Q0 ∧ ∀ r cs', Q0 r cs' → Q r cs'
def ab_rcv (c n : Nat) (st : List ab_V) (cs : List ab_C) (f : Prop) : Prop := match Nat.beq c 99 with
  | true => f
  | false => match st.drop (n - 1) with
    | .inr (.inl (some k)) :: _ => ab_obj c k cs f
    | _ => False
def ab_call (ci : ab_CI) (st : List ab_V) (cs : List ab_C) (f : List ab_V → List ab_C → Prop) : Prop := match ci with
  | (n, c, is, n0, sp) => match Nat.ble n st.length, Nat.ble (ab_cat (st.drop n)) 8 with
    | true, true => ab_rcv c n st cs (match is with
      | [] => ab_cl sp (st.take n).reverse cs (fun r cs' => cs'.length = cs.length → f (ab_ret r (st.drop n)) cs')
      | _ => match (st.take n).all (ab_okV is), (ab_pick cs (is.take n0)).all (ab_okC is), Nat.beq (ab_pick cs (is.take n0)).length n0, ab_nd is with
        | true, true, true, true => ab_cl sp ((st.take n).reverse.map (ab_unV is)) ((ab_pick cs (is.take n0)).map (ab_unC is)) (fun r cs' => cs'.length = n0 → f (ab_ret (r.map (ab_reV is)) (st.drop n)) (ab_back is (is.take n0) cs' cs))
        | _, _, _, _ => False)
    | _, _ => False
def ab_rt (ty : Nat) (a : Int) (f : Prop) : Prop := match ty with
  | 0 => f
  | 1 => (0 ≤ a ∧ a < 65536) ∧ f
  | 2 => (a = 0 ∨ a = 1) ∧ f
  | _ => False
/-- what has to hold before an instruction, that what is wanted behind it holds -/
def ab_w (E : ab_E) (Q : ab_Q) (K : ab_K) (q : ab_I) (lv : ab_L) (st : List ab_V) (cs : List ab_C) : Prop := match q with
  | (pc, i, nx, tg) => match i with
    | .iconst n => K nx lv (.inl n :: st) cs
    | .bipush n => K nx lv (.inl n :: st) cs
    | .sipush n => K nx lv (.inl n :: st) cs
    | .lconst n => K nx lv (.inr (.inr (Int64.ofNat n)) :: st) cs
    | .ldc ix => match ab_look E.1.2.1 ix with
      | some v => K nx lv (.inl v :: st) cs
      | none => False
    | .ldc2_w ix => match ab_look E.1.2.2 ix with
      | some v => K nx lv (.inr (.inr v) :: st) cs
      | none => False
    | .iload_n k => ab_ldI lv k (fun a => K nx lv (.inl a :: st) cs)
    | .iload k => ab_ldI lv k (fun a => K nx lv (.inl a :: st) cs)
    | .aload_n k => ab_ldP lv k (fun a => K nx lv (.inr (.inl a) :: st) cs)
    | .aload k => ab_ldP lv k (fun a => K nx lv (.inr (.inl a) :: st) cs)
    | .lload_n k => ab_ldL lv k (fun a => K nx lv (.inr (.inr a) :: st) cs)
    | .lload k => ab_ldL lv k (fun a => K nx lv (.inr (.inr a) :: st) cs)
    | .istore_n k => ab_i1 st (fun a r => ab_st1 lv k (.inl a) (fun lv' => K nx lv' r cs))
    | .istore k => ab_i1 st (fun a r => ab_st1 lv k (.inl a) (fun lv' => K nx lv' r cs))
    | .astore_n k => ab_p1 st (fun a r => ab_st1 lv k (.inr (.inl (some a))) (fun lv' => K nx lv' r cs))
    | .astore k => ab_p1 st (fun a r => ab_st1 lv k (.inr (.inl (some a))) (fun lv' => K nx lv' r cs))
    | .lstore_n k => ab_l1 st (fun a r => ab_st2 lv k (.inr (.inr a)) (fun lv' => K nx lv' r cs))
    | .lstore k => ab_l1 st (fun a r => ab_st2 lv k (.inr (.inr a)) (fun lv' => K nx lv' r cs))
    | .iinc k n => ab_ldI lv k (fun a => ab_st1 lv k (.inl (a + n)) (fun lv' => K nx lv' st cs))
    | .iadd => ab_i2 st (fun a b r => K nx lv (.inl (a + b) :: r) cs)
    | .isub => ab_i2 st (fun a b r => K nx lv (.inl (a - b) :: r) cs)
    | .imul => ab_i2 st (fun a b r => K nx lv (.inl (a * b) :: r) cs)
    | .ineg => ab_i1 st (fun a r => K nx lv (.inl (-a) :: r) cs)
    | .irem => ab_i2 st (fun a b r => (ab_r a ∧ ab_r b ∧ ¬ b = 0) ∧ K nx lv (.inl (a.tmod b) :: r) cs)
    | .ixor => ab_i2 st (fun a b r => K nx lv (.inl ((Int32.ofInt a ^^^ Int32.ofInt b).toInt) :: r) cs)
    | .iand => ab_i2 st (fun a b r => K nx lv (.inl ((Int32.ofInt a &&& Int32.ofInt b).toInt) :: r) cs)
    | .i2l => ab_i1 st (fun a r => K nx lv (.inr (.inr (Int32.ofInt a).toInt64) :: r) cs)
    | .l2i => ab_l1 st (fun a r => K nx lv (.inl a.toInt32.toInt :: r) cs)
    | .i2c => ab_i1 st (fun a r => (0 ≤ a ∧ a < 65536) ∧ K nx lv (.inl a :: r) cs)
    | .land => ab_l2 st (fun a b r => K nx lv (.inr (.inr (a &&& b)) :: r) cs)
    | .lor => ab_l2 st (fun a b r => K nx lv (.inr (.inr (a ||| b)) :: r) cs)
    | .lcmp => ab_l2 st (fun a b r => K nx lv (.inl (lg_cmp a b).toInt :: r) cs)
    | .lushr => ab_li st (fun a b r => K nx lv (.inr (.inr (a.toUInt64 >>> ((Int32.ofInt b).toInt64.toUInt64 &&& Int64.toUInt64 63)).toInt64) :: r) cs)
    | .lshl => ab_li st (fun a b r => K nx lv (.inr (.inr (a <<< ((Int32.ofInt b).toInt64 &&& 63))) :: r) cs)
    | .dup => match st with
      | v :: r => match ab_c1 v with
        | true => K nx lv (v :: v :: r) cs
        | false => False
      | _ => False
    | .dup2 => match st with
      | v :: w :: r => match ab_c1 v, ab_c1 w with
        | true, true => K nx lv (v :: w :: v :: w :: r) cs
        | _, _ => False
      | _ => False
    | .pop => match st with
      | v :: r => match ab_c1 v with
        | true => K nx lv r cs
        | false => False
      | _ => False
    | .ifCond c _ => ab_i1 st (fun a r => ab_r a ∧ ab_br c a 0 (K (ab_tg tg) lv r cs) (K nx lv r cs))
    | .if_icmp c _ => ab_i2 st (fun a b r => (ab_r a ∧ ab_r b) ∧ ab_br c a b (K (ab_tg tg) lv r cs) (K nx lv r cs))
    | .goto _ => K (ab_tg tg) lv st cs
    | .tableswitch _ _ _ _ => ab_i1 st (fun a r => ab_r a ∧ ab_sw a (ab_tg tg) (fun t => K t lv r cs) (tg.drop 1))
    | .getfield ix => ab_p1 st (fun k r => ab_getf E.1 ix k cs (fun v => K nx lv (v :: r) cs))
    | .putfield ix => match st with
      | v :: .inr (.inl (some k)) :: r => ab_putf E.1 ix k v cs (fun cs' => K nx lv r cs')
      | _ => False
    | .iaload => ab_pi st (fun k i r => ab_arr 0 k cs (fun n f => (0 ≤ i ∧ i < n) ∧ K nx lv (.inl (f i) :: r) cs))
    | .caload => ab_pi st (fun k i r => ab_arr 1 k cs (fun n f => (0 ≤ i ∧ i < n) ∧ K nx lv (.inl (f i) :: r) cs))
    | .baload => ab_pi st (fun k i r => ab_arr 2 k cs (fun n f => (0 ≤ i ∧ i < n) ∧ K nx lv (.inl (f i) :: r) cs))
    | .iastore => ab_pii st (fun k i x r => ab_arr 0 k cs (fun n f => (0 ≤ i ∧ i < n) ∧ K nx lv r (cs.set k (.inr (.inl (0, n, ab_up f i x))))))
    | .castore => ab_pii st (fun k i x r => ab_arr 1 k cs (fun n f => (0 ≤ i ∧ i < n ∧ 0 ≤ x ∧ x < 65536) ∧ K nx lv r (cs.set k (.inr (.inl (1, n, ab_up f i x))))))
    | .bastore => ab_pii st (fun k i x r => ab_arr 2 k cs (fun n f => (0 ≤ i ∧ i < n ∧ (x = 0 ∨ x = 1)) ∧ K nx lv r (cs.set k (.inr (.inl (2, n, ab_up f i x))))))
    | .aaload => ab_pi st (fun k i r => ab_rarr k cs (fun l => (0 ≤ i ∧ i < l.length) ∧ K nx lv (.inr (.inl (l.getD i.toNat none)) :: r) cs))
    | .aastore => match st with
      | .inr (.inl (some v)) :: .inl i :: .inr (.inl (some k)) :: r => ab_rarr k cs (fun l => ab_obj 1 v cs ((0 ≤ i ∧ i < l.length) ∧ K nx lv r (cs.set k (.inr (.inr (l.set i.toNat (some v)))))))
      | _ => False
    | .arraylength => ab_p1 st (fun k r => ab_len k cs (fun n => K nx lv (.inl n :: r) cs))
    | .invokevirtual _ => match ab_look E.2.1 pc with
      | some ci => ab_call ci st cs (fun st' cs' => K nx lv st' cs')
      | none => False
    | .invokestatic _ => match ab_look E.2.1 pc with
      | some ci => ab_call ci st cs (fun st' cs' => K nx lv st' cs')
      | none => match ab_look E.2.2.1 pc with
        | some 1 => ab_i2 st (fun a b r => match Nat.ble (ab_cat r) 8 with
          | true => (ab_r a ∧ ab_r b) ∧ K nx lv (.inl (if a < b then b else a) :: r) cs
          | false => False)
        | some 2 => match st with
          | .inl n :: .inl dp :: .inr (.inl (some d)) :: .inl sp :: .inr (.inl (some k)) :: r => ab_arr 0 k cs (fun n0 f => ab_arr 0 d cs (fun n1 g => match Nat.ble (ab_cat r) 8 with
            | true => (0 ≤ sp ∧ 0 ≤ dp ∧ 0 ≤ n ∧ sp + n ≤ n0 ∧ dp + n ≤ n1 ∧ n0 < 1000000 ∧ n1 < 1000000) ∧ K nx lv r (cs.set d (.inr (.inl (0, n1, ab_cpy f g sp dp n))))
            | false => False))
          | _ => False
        | _ => False
    | .ireturn => match st with
      | [.inl a] => ab_rt E.2.2.2 a (Q (some (.inl a)) cs)
      | _ => False
    | .return_ => match st with
      | [] => match Nat.beq E.2.2.2 9 with
        | true => Q none cs
        | false => False
      | _ => False
    | _ => False
/-- the walk, by the code's rows: it ends, and what is wanted holds at its end -/
def ab_find (P : List ab_I) (pc : Nat) : Option ab_I := match P with
  | [] => none
  | q :: l => match Nat.beq q.1 pc with
    | true => some q
    | false => ab_find l pc
def ab_R (E : ab_E) (P : List ab_I) (Q : ab_Q) : ab_K := fun pc lv st cs =>
  ∀ Z : ab_K, (∀ (pc : Nat) (lv : ab_L) (st : List ab_V) (cs : List ab_C) (q : ab_I) (K0 : ab_K), ab_find P pc = some q → ab_w E Q K0 q lv st cs → (∀ pc' lv' st' cs', K0 pc' lv' st' cs' → Z pc' lv' st' cs') → Z pc lv st cs) → Z pc lv st cs
def ab_ws (E : ab_E) (P : List ab_I) (Q : ab_Q) (K : ab_K) : Nat → ab_K
  | 0 => K
  | n + 1 => fun pc lv st cs => match ab_find P pc with
    | some q => ab_w E Q (ab_ws E P Q K n) q lv st cs
    | none => False
theorem ab_R.step {E : ab_E} {P : List ab_I} {Q : ab_Q} {pc : Nat} {lv : ab_L} {st : List ab_V} {cs : List ab_C} {q : ab_I} {K : ab_K} (hq : ab_find P pc = some q) (h : ab_w E Q K q lv st cs) (hK : ∀ pc' lv' st' cs', K pc' lv' st' cs' → ab_R E P Q pc' lv' st' cs') : ab_R E P Q pc lv st cs :=
  fun Z hZ => hZ pc lv st cs q K hq h (fun pc' lv' st' cs' k => hK pc' lv' st' cs' k Z hZ)
theorem ab_R.steps {E : ab_E} {P : List ab_I} {Q : ab_Q} : ∀ (n : Nat) {pc : Nat} {lv : ab_L} {st : List ab_V} {cs : List ab_C}, ab_ws E P Q (ab_R E P Q) n pc lv st cs → ab_R E P Q pc lv st cs
  | 0, _, _, _, _, h => h
  | n + 1, pc, lv, st, cs, h => by
    unfold ab_ws at h
    split at h
    · next q hq => exact ab_R.step hq h (fun pc' lv' st' cs' k => ab_R.steps n k)
    · exact h.elim
end
