section ABS
variable {p : Program} {l : Launch} {e : Env} {R : Room} {s : State} {m : MethodId} {args : Array Value} {below : List Frame} {meth : Method} {c : Code} {own : String} {cc : ByteArray} {nL : Nat} {G : ab_G} {ad : Nat → Nat} {A : Nat → Prop} {N cells slots : Nat} {Qw : State → Prop} {E : ab_E} {Qr : ab_Q} {K : ab_K}
/-- an instruction that calls nothing, reads and writes no cell, and doesn't return -/
def ab_pure : Instr → Bool
  | .getfield _ => false
  | .putfield _ => false
  | .iaload => false
  | .caload => false
  | .baload => false
  | .iastore => false
  | .castore => false
  | .bastore => false
  | .aaload => false
  | .aastore => false
  | .arraylength => false
  | .invokevirtual _ => false
  | .invokestatic _ => false
  | .ireturn => false
  | .lreturn => false
  | .return_ => false
  | .tableswitch _ _ _ _ => false
  | _ => true
set_option maxHeartbeats 4000000 in
theorem ab_s_pure (X : ab_X own cc nL p s m args meth c G) (hT : ab_okT own E.1 = true) {pc nx : Nat} {i : Instr} {tg : List (Int × Nat)} (hq : ab_okI cc (pc, i, nx, tg) = true) {lv : ab_L} {st : List ab_V} {cs : List ab_C}
    (hpu : ab_pure i = true) (h : ab_w E Qr K (pc, i, nx, tg) lv st cs) (hK : ∀ pc' lv' st' cs', K pc' lv' st' cs' → ab_W p l e R s m args below meth c nL G ad A N cells slots Qw pc' lv' st' cs') : ab_W p l e R s m args below meth c nL G ad A N cells slots Qw pc lv st cs := by
  obtain ⟨hx, hb, hml, hown, hts, hKK, hlk⟩ := id X
  obtain ⟨hd0, hg⟩ := ab_and hq
  have hd : decode cc pc = .ok (i, nx - pc) := of_decide_eq_true hd0
  intro hN H locs ls hP hS hl
  have go : ∀ {pc' : Nat} {lv' : ab_L} {st' : List ab_V} {ls' : Array Slot}, K pc' lv' st' cs → ab_lh ad ls' nL lv' → W p l e R s m args below meth c H locs cells slots Qw (F0 m pc' ls' (st'.map (ab_c ad))) := fun k hl' => hK _ _ _ _ k hN H locs _ hP hS hl'
  have e1 : ∀ {d : Nat}, Nat.beq nx (pc + d) = true → nx = pc + d ∧ nx - pc = d := fun h => by
    have := Nat.eq_of_beq_eq_true h
    omega
  cases i with
  | iconst n =>
    obtain ⟨rfl, e2⟩ := e1 hg; rw [e2] at hd
    exact lv_iconst hx hb hd rfl (go h hl)
  | bipush n =>
    obtain ⟨h1, h2⟩ := ab_and hg
    obtain ⟨rfl, e2⟩ := e1 h2; rw [e2] at hd
    exact lv_bipush hx hb hd (of_decide_eq_true h1) (go h hl)
  | sipush n =>
    obtain ⟨h1, h2⟩ := ab_and hg
    obtain ⟨rfl, e2⟩ := e1 h2; rw [e2] at hd
    exact lv_sipush hx hb hd (of_decide_eq_true h1) (go h hl)
  | lconst n =>
    obtain ⟨rfl, e2⟩ := e1 hg; rw [e2] at hd
    exact lv_lconst hx hb hd rfl (go h hl)
  | ldc ix =>
    obtain ⟨rfl, e2⟩ := e1 hg; rw [e2] at hd
    have h' : (match ab_look E.1.2.1 ix with
      | some v => K (pc + 2) lv (.inl v :: st) cs
      | none => False) := h
    split at h'
    · next v hv =>
      have h3 := List.all_eq_true.mp (ab_and (ab_and hT).2).1 _ (ab_look_in hv)
      exact lv_ldc hx hb hown (hts _ (ab_inB.to h3)) hd (go h' hl)
    · exact h'.elim
  | ldc2_w ix =>
    obtain ⟨rfl, e2⟩ := e1 hg; rw [e2] at hd
    have h' : (match ab_look E.1.2.2 ix with
      | some v => K (pc + 3) lv (.inr (.inr v) :: st) cs
      | none => False) := h
    split at h'
    · next v hv =>
      have h3 := List.all_eq_true.mp (ab_and (ab_and hT).2).2 _ (ab_look_in hv)
      exact lv_ldc2 hx hb hown (hts _ (ab_inB.to h3)) hd (go h' hl)
    · exact h'.elim
  | iload_n k =>
    obtain ⟨rfl, e2⟩ := e1 hg; rw [e2] at hd
    obtain ⟨a, h1, h2⟩ := ab_ldI.of h
    exact lv_iload_n hx hb hd rfl (hl.2.2.2 _ _ h1) (go h2 hl)
  | iload k =>
    obtain ⟨rfl, e2⟩ := e1 hg; rw [e2] at hd
    obtain ⟨a, h1, h2⟩ := ab_ldI.of h
    exact lv_iload hx hb hd (hl.2.2.2 _ _ h1) (go h2 hl)
  | aload_n k =>
    obtain ⟨rfl, e2⟩ := e1 hg; rw [e2] at hd
    obtain ⟨a, h1, h2⟩ := ab_ldP.of h
    cases a with
    | none => exact lv_aload_nN hx hb hd rfl (hl.2.2.2 _ _ h1) (go h2 hl)
    | some a => exact lv_aload_n hx hb hd rfl (hl.2.2.2 _ _ h1) (go h2 hl)
  | aload k =>
    obtain ⟨rfl, e2⟩ := e1 hg; rw [e2] at hd
    obtain ⟨a, h1, h2⟩ := ab_ldP.of h
    cases a with
    | none => exact lv_aloadN hx hb hd (hl.2.2.2 _ _ h1) (go h2 hl)
    | some a => exact lv_aload hx hb hd (hl.2.2.2 _ _ h1) (go h2 hl)
  | lload_n k =>
    obtain ⟨rfl, e2⟩ := e1 hg; rw [e2] at hd
    obtain ⟨a, h1, h2⟩ := ab_ldL.of h
    exact lv_lload_n hx hb hd rfl (hl.2.2.2 _ _ h1) (go h2 hl)
  | lload k =>
    obtain ⟨rfl, e2⟩ := e1 hg; rw [e2] at hd
    obtain ⟨a, h1, h2⟩ := ab_ldL.of h
    exact lv_lload hx hb hd (hl.2.2.2 _ _ h1) (go h2 hl)
  | istore_n k =>
    obtain ⟨rfl, e2⟩ := e1 hg; rw [e2] at hd
    obtain ⟨a, r, rfl, h1⟩ := ab_i1.of h
    obtain ⟨h2, h3, h4⟩ := ab_st1.of h1
    exact lv_istore_n hx hb hd rfl hl.has (hl.2.2.1 ▸ h3) rfl (fun ls' h' => go h4 (hl.set1 h2 (hl.2.2.1 ▸ h3) h'))
  | istore k =>
    obtain ⟨rfl, e2⟩ := e1 hg; rw [e2] at hd
    obtain ⟨a, r, rfl, h1⟩ := ab_i1.of h
    obtain ⟨h2, h3, h4⟩ := ab_st1.of h1
    exact lv_istore hx hb hd hl.has (hl.2.2.1 ▸ h3) rfl (fun ls' h' => go h4 (hl.set1 h2 (hl.2.2.1 ▸ h3) h'))
  | astore_n k =>
    obtain ⟨rfl, e2⟩ := e1 hg; rw [e2] at hd
    obtain ⟨a, r, rfl, h1⟩ := ab_p1.of h
    obtain ⟨h2, h3, h4⟩ := ab_st1.of h1
    exact lv_astore_n hx hb hd rfl hl.has (hl.2.2.1 ▸ h3) rfl (fun ls' h' => go h4 (hl.set1 h2 (hl.2.2.1 ▸ h3) h'))
  | astore k =>
    obtain ⟨rfl, e2⟩ := e1 hg; rw [e2] at hd
    obtain ⟨a, r, rfl, h1⟩ := ab_p1.of h
    obtain ⟨h2, h3, h4⟩ := ab_st1.of h1
    exact lv_astore hx hb hd hl.has (hl.2.2.1 ▸ h3) rfl (fun ls' h' => go h4 (hl.set1 h2 (hl.2.2.1 ▸ h3) h'))
  | lstore_n k =>
    obtain ⟨rfl, e2⟩ := e1 hg; rw [e2] at hd
    obtain ⟨a, r, rfl, h1⟩ := ab_l1.of h
    obtain ⟨h2, h3, h4⟩ := ab_st2.of h1
    exact lv_lstore_n hx hb hd rfl hl.has (hl.2.2.1 ▸ h3) rfl (fun ls' h' => go h4 (hl.set2 h2 (hl.2.2.1 ▸ h3) h'))
  | lstore k =>
    obtain ⟨rfl, e2⟩ := e1 hg; rw [e2] at hd
    obtain ⟨a, r, rfl, h1⟩ := ab_l1.of h
    obtain ⟨h2, h3, h4⟩ := ab_st2.of h1
    exact lv_lstore hx hb hd hl.has (hl.2.2.1 ▸ h3) rfl (fun ls' h' => go h4 (hl.set2 h2 (hl.2.2.1 ▸ h3) h'))
  | iinc k n =>
    obtain ⟨rfl, e2⟩ := e1 hg; rw [e2] at hd
    obtain ⟨a, h0, h1⟩ := ab_ldI.of h
    obtain ⟨h2, h3, h4⟩ := ab_st1.of h1
    have hm : (k, Value.int (Int32.ofInt a)) ∈ ab_ll ad lv := ab_ll_in.mpr ⟨_, h0, rfl⟩
    obtain ⟨j, hj⟩ := List.getElem?_of_mem hm
    exact lv_iinc (v := Int32.ofInt (a + n)) hx hb hd hl.has hj (Int32.ofInt_add a n).symm (hl.2.2.1 ▸ h3) rfl (fun ls' h' => go h4 (hl.set1 h2 (hl.2.2.1 ▸ h3) h'))
  | iadd =>
    obtain ⟨rfl, e2⟩ := e1 hg; rw [show pc + ab_ln .iadd - pc = 1 from e2] at hd
    obtain ⟨a, b, r, rfl, h1⟩ := ab_i2.of h
    refine lv_iadd hx hb hd ?_
    rw [← Int32.ofInt_add]
    exact go h1 hl
  | isub =>
    obtain ⟨rfl, e2⟩ := e1 hg; rw [show pc + ab_ln .isub - pc = 1 from e2] at hd
    obtain ⟨a, b, r, rfl, h1⟩ := ab_i2.of h
    refine lv_isub hx hb hd ?_
    rw [← Int32.ofInt_sub]
    exact go h1 hl
  | imul =>
    obtain ⟨rfl, e2⟩ := e1 hg; rw [show pc + ab_ln .imul - pc = 1 from e2] at hd
    obtain ⟨a, b, r, rfl, h1⟩ := ab_i2.of h
    refine lv_imul hx hb hd ?_
    rw [← Int32.ofInt_mul]
    exact go h1 hl
  | ineg =>
    obtain ⟨rfl, e2⟩ := e1 hg; rw [show pc + ab_ln .ineg - pc = 1 from e2] at hd
    obtain ⟨a, r, rfl, h1⟩ := ab_i1.of h
    refine lv_ineg hx hb hd ?_
    rw [← Int32.ofInt_neg]
    exact go h1 hl
  | irem =>
    obtain ⟨rfl, e2⟩ := e1 hg; rw [show pc + ab_ln .irem - pc = 1 from e2] at hd
    obtain ⟨a, b, r, rfl, ⟨ha, hb', h0⟩, h1⟩ := ab_i2.of h
    refine lv_irem hx hb hd (fun q => h0 ((ab_eqI hb' ab_r0).mp q)) ?_
    rw [ab_rem ha hb']
    exact go h1 hl
  | ixor =>
    obtain ⟨rfl, e2⟩ := e1 hg; rw [show pc + ab_ln .ixor - pc = 1 from e2] at hd
    obtain ⟨a, b, r, rfl, h1⟩ := ab_i2.of h
    refine lv_ixor hx hb hd ?_
    have h2 := go h1 hl
    rwa [List.map_cons, show ab_c ad (.inl ((Int32.ofInt a ^^^ Int32.ofInt b).toInt)) = .int (Int32.ofInt a ^^^ Int32.ofInt b) by rw [ab_c, Int32.ofInt_toInt]] at h2
  | iand =>
    obtain ⟨rfl, e2⟩ := e1 hg; rw [show pc + ab_ln .iand - pc = 1 from e2] at hd
    obtain ⟨a, b, r, rfl, h1⟩ := ab_i2.of h
    refine lv_iand hx hb hd ?_
    have h2 := go h1 hl
    rwa [List.map_cons, show ab_c ad (.inl ((Int32.ofInt a &&& Int32.ofInt b).toInt)) = .int (Int32.ofInt a &&& Int32.ofInt b) by rw [ab_c, Int32.ofInt_toInt]] at h2
  | i2l =>
    obtain ⟨rfl, e2⟩ := e1 hg; rw [show pc + ab_ln .i2l - pc = 1 from e2] at hd
    obtain ⟨a, r, rfl, h1⟩ := ab_i1.of h
    exact lv_i2l hx hb hd rfl (go h1 hl)
  | l2i =>
    obtain ⟨rfl, e2⟩ := e1 hg; rw [show pc + ab_ln .l2i - pc = 1 from e2] at hd
    obtain ⟨a, r, rfl, h1⟩ := ab_l1.of h
    refine lv_l2i hx hb hd rfl ?_
    have h2 := go h1 hl
    rwa [List.map_cons, show ab_c ad (.inl (a.toInt32.toInt)) = .int a.toInt32 by rw [ab_c, Int32.ofInt_toInt]] at h2
  | i2c =>
    obtain ⟨rfl, e2⟩ := e1 hg; rw [show pc + ab_ln .i2c - pc = 1 from e2] at hd
    obtain ⟨a, r, rfl, ⟨h5, h6⟩, h1⟩ := ab_i1.of h
    refine lv_i2c (v := Int32.ofInt a) hx hb hd ?_ (go h1 hl)
    have h7 := (ab_narC h5 h6).1
    obtain ⟨n, rfl⟩ := Int.eq_ofNat_of_zero_le h5
    rw [pk_char]
    show nI ((nI n).toBitVec.toNat % 65536) = nI n
    rw [pk_tn (by omega), Nat.mod_eq_of_lt (by omega)]
  | ladd =>
    obtain ⟨rfl, e2⟩ := e1 hg; rw [show pc + ab_ln .ladd - pc = 1 from e2] at hd
    obtain ⟨a, b, r, rfl, h1⟩ := ab_l2.of h
    exact lv_ladd hx hb hd (go h1 hl)
  | lmul =>
    obtain ⟨rfl, e2⟩ := e1 hg; rw [show pc + ab_ln .lmul - pc = 1 from e2] at hd
    obtain ⟨a, b, r, rfl, h1⟩ := ab_l2.of h
    exact lv_lmul hx hb hd (go h1 hl)
  | ishr =>
    obtain ⟨rfl, e2⟩ := e1 hg; rw [show pc + ab_ln .ishr - pc = 1 from e2] at hd
    obtain ⟨a, b, r, rfl, h1⟩ := ab_i2.of h
    refine lv_ishr hx hb hd ?_
    have h2 := go h1 hl
    rwa [List.map_cons, show ab_c ad (.inl ((Int32.ofInt a >>> (Int32.ofInt b &&& 31)).toInt)) = .int (Int32.ofInt a >>> (Int32.ofInt b &&& 31)) by rw [ab_c, Int32.ofInt_toInt]] at h2
  | land =>
    obtain ⟨rfl, e2⟩ := e1 hg; rw [show pc + ab_ln .land - pc = 1 from e2] at hd
    obtain ⟨a, b, r, rfl, h1⟩ := ab_l2.of h
    exact lv_land hx hb hd (go h1 hl)
  | lor =>
    obtain ⟨rfl, e2⟩ := e1 hg; rw [show pc + ab_ln .lor - pc = 1 from e2] at hd
    obtain ⟨a, b, r, rfl, h1⟩ := ab_l2.of h
    exact lv_lor hx hb hd (go h1 hl)
  | lcmp =>
    obtain ⟨rfl, e2⟩ := e1 hg; rw [show pc + ab_ln .lcmp - pc = 1 from e2] at hd
    obtain ⟨a, b, r, rfl, h1⟩ := ab_l2.of h
    refine W.lcmp hx hb hd ?_
    have h2 := go h1 hl
    rwa [List.map_cons, show ab_c ad (.inl ((lg_cmp a b).toInt)) = .int (lg_cmp a b) by rw [ab_c, Int32.ofInt_toInt]] at h2
  | lushr =>
    obtain ⟨rfl, e2⟩ := e1 hg; rw [show pc + ab_ln .lushr - pc = 1 from e2] at hd
    obtain ⟨a, b, r, rfl, h1⟩ := ab_li.of h
    exact lv_lushr hx hb hd rfl (go h1 hl)
  | lshl =>
    obtain ⟨rfl, e2⟩ := e1 hg; rw [show pc + ab_ln .lshl - pc = 1 from e2] at hd
    obtain ⟨a, b, r, rfl, h1⟩ := ab_li.of h
    exact lv_lshl hx hb hd rfl (go h1 hl)
  | dup =>
    obtain ⟨rfl, e2⟩ := e1 hg; rw [show pc + ab_ln .dup - pc = 1 from e2] at hd
    unfold ab_w at h
    dsimp only at h
    split at h
    · next v r =>
      split at h
      · next hv => exact lv_dup hx hb hd (ab_cat1 hv) (go h hl)
      · exact h.elim
    · exact h.elim
  | dup2 =>
    obtain ⟨rfl, e2⟩ := e1 hg; rw [show pc + ab_ln .dup2 - pc = 1 from e2] at hd
    unfold ab_w at h
    dsimp only at h
    split at h
    · next v w r =>
      split at h
      · next hv hw => exact lv_dup2_11 hx hb hd (ab_cat1 hv) (ab_cat1 hw) (go h hl)
      · exact h.elim
    · exact h.elim
  | pop =>
    obtain ⟨rfl, e2⟩ := e1 hg; rw [show pc + ab_ln .pop - pc = 1 from e2] at hd
    unfold ab_w at h
    dsimp only at h
    split at h
    · next v r =>
      split at h
      · next hv => exact lv_pop hx hb hd (ab_cat1 hv) (go h hl)
      · exact h.elim
    · exact h.elim
  | ifCond cnd o =>
    obtain ⟨h1, h2⟩ := ab_and hg
    have ht := of_decide_eq_true h1
    obtain ⟨rfl, e2⟩ := e1 h2; rw [e2] at hd
    obtain ⟨a, r, rfl, ha, h1⟩ := ab_i1.of h
    have q1 : Int32.ofInt a = 0 ↔ a = 0 := ab_eqI ha ab_r0
    have q2 : Int32.ofInt a < 0 ↔ a < 0 := ab_ltI ha ab_r0
    have q3 : 0 ≤ Int32.ofInt a ↔ 0 ≤ a := ab_leI ab_r0 ha
    have q4 : 0 < Int32.ofInt a ↔ 0 < a := ab_ltI ab_r0 ha
    have q5 : Int32.ofInt a ≤ 0 ↔ a ≤ 0 := ab_leI ha ab_r0
    rcases ab_br.of h1 with ⟨rfl, k1, k2⟩ | ⟨rfl, k1, k2⟩ | ⟨rfl, k1, k2⟩ | ⟨rfl, k1, k2⟩ | ⟨rfl, k1, k2⟩ | ⟨rfl, k1, k2⟩
    · exact lv_if_eq hx hb hd ht (fun z => go (k1 (q1.mp z)) hl) (fun z => go (k2 (fun y => z (q1.mpr y))) hl)
    · exact lv_if_ne hx hb hd ht (fun z => go (k1 (fun y => z (q1.mpr y))) hl) (fun z => go (k2 (q1.mp z)) hl)
    · exact lv_if_lt hx hb hd ht (fun z => go (k1 (q2.mp z)) hl) (fun z => go (k2 (fun y => z (q2.mpr y))) hl)
    · exact lv_if_ge hx hb hd ht (fun z => go (k1 (q3.mp z)) hl) (fun z => go (k2 (fun y => z (q3.mpr y))) hl)
    · exact lv_if_gt hx hb hd ht (fun z => go (k1 (q4.mp z)) hl) (fun z => go (k2 (fun y => z (q4.mpr y))) hl)
    · exact lv_if_le hx hb hd ht (fun z => go (k1 (q5.mp z)) hl) (fun z => go (k2 (fun y => z (q5.mpr y))) hl)
  | if_icmp cnd o =>
    obtain ⟨h1, h2⟩ := ab_and hg
    have ht := of_decide_eq_true h1
    obtain ⟨rfl, e2⟩ := e1 h2; rw [e2] at hd
    obtain ⟨a, b, r, rfl, ⟨ha, hbb⟩, h1⟩ := ab_i2.of h
    have q1 : Int32.ofInt a = Int32.ofInt b ↔ a = b := ab_eqI ha hbb
    have q2 : Int32.ofInt a < Int32.ofInt b ↔ a < b := ab_ltI ha hbb
    have q3 : Int32.ofInt b ≤ Int32.ofInt a ↔ b ≤ a := ab_leI hbb ha
    have q4 : Int32.ofInt b < Int32.ofInt a ↔ b < a := ab_ltI hbb ha
    have q5 : Int32.ofInt a ≤ Int32.ofInt b ↔ a ≤ b := ab_leI ha hbb
    rcases ab_br.of h1 with ⟨rfl, k1, k2⟩ | ⟨rfl, k1, k2⟩ | ⟨rfl, k1, k2⟩ | ⟨rfl, k1, k2⟩ | ⟨rfl, k1, k2⟩ | ⟨rfl, k1, k2⟩
    · exact lv_icmp_eq hx hb hd ht (fun z => go (k1 (q1.mp z)) hl) (fun z => go (k2 (fun y => z (q1.mpr y))) hl)
    · exact lv_icmp_ne hx hb hd ht (fun z => go (k1 (fun y => z (q1.mpr y))) hl) (fun z => go (k2 (q1.mp z)) hl)
    · exact lv_icmp_lt hx hb hd ht (fun z => go (k1 (q2.mp z)) hl) (fun z => go (k2 (fun y => z (q2.mpr y))) hl)
    · exact lv_icmp_ge hx hb hd ht (fun z => go (k1 (q3.mp z)) hl) (fun z => go (k2 (fun y => z (q3.mpr y))) hl)
    · exact lv_icmp_gt hx hb hd ht (fun z => go (k1 (q4.mp z)) hl) (fun z => go (k2 (fun y => z (q4.mpr y))) hl)
    · exact lv_icmp_le hx hb hd ht (fun z => go (k1 (q5.mp z)) hl) (fun z => go (k2 (fun y => z (q5.mpr y))) hl)
  | goto o =>
    obtain ⟨h1, h2⟩ := ab_and hg
    have ht := of_decide_eq_true h1
    obtain ⟨rfl, e2⟩ := e1 h2; rw [e2] at hd
    exact lv_goto hx hb hd ht (go h hl)
  | _ => first | exact (show False from h).elim | cases hpu
end ABS
