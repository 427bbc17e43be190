/-! THE TEXTS OF THE PAD'S ORDERS: the JDK's members over them -/
def sj_Z (adK adV : Nat → Nat) (A : Nat → Prop) (U : State) (H : Heap) : Prop := vk_S 8 ab_sl ab_sb adK adV A U H ∧ va_Z "java/lang/String" "COMPACT_STRINGS" "Z" (.int 1) A U H ∧ va_Zq "jdk/internal/util/Preconditions" "SIOOBE_FORMATTER" "Ljava/util/function/BiFunction;" A U H
def sj_Pc (av : List Value) (adK adV : Nat → Nat) (sz : Nat) : Array Value → State → Prop := va_Pc av (fun U => U.heap.size = sz ∧ sj_Z adK adV (fun q => sz ≤ q) U U.heap)
theorem sj_Z.to {adK adV : Nat → Nat} {A B : Nat → Prop} {s U : State} {H : Heap} {locs : List Loc} (h : sj_Z adK adV A s s.heap) (hS : va_S A s.heap H locs) (hW : s.WarmedH U.vm) (hU : U.heap = H) (hAB : ∀ q, B q → A q) : sj_Z adK adV B U U.heap := by
  obtain ⟨h1, h3, h4⟩ := h
  rw [hU]
  exact ⟨((h1.kept hS.2.1).moved hW.alike).narrow hAB, ((h3.kept hS.2.1).moved hW.alike).narrow hAB, ((h4.kept hS.2.1).moved hW.alike).narrow hAB⟩
theorem sj_blind {av : List Value} {adK adV : Nat → Nat} {sz : Nat} : FrameBlind (sj_Pc av adK adV sz) := by
  intro a U g mk ⟨h0, h1, h2, h3, h4⟩
  have ha : U.vm.Alike (U.calling g mk a).vm := Vm.Alike.refl U.vm
  exact ⟨h0, h1, h2.moved ha, h3.moved ha, h4.moved ha⟩
theorem sj_b0 {av : List Value} {sz : Nat} : FrameBlind (va_Pc av (fun U => U.heap.size = sz)) := fun _ _ _ _ h => h
def sj_c (i k : Nat) : Int32 := ((((ab_sb.getD i []).getD k 0) &&& 255).toUInt32 % 65536).toInt32
theorem sj_shr : ∀ i < 8, Int32.ofNat (ab_sl.getD i 0) >>> ((0 : Int32) &&& 31) = Int32.ofNat (ab_sl.getD i 0) := by decide +kernel
theorem sj_nar0 : ∀ i < 8, ∀ k < ab_sl.getD i 0, (sj_c i k).toUInt32.toUInt16.toUInt32.toInt32 = sj_c i k := by decide +kernel
theorem sj_nar (i : Nat) (hi : i < 8) (k : Nat) (hk : k < ab_sl.getD i 0) : narrow .char (.int (sj_c i k)) = .int (sj_c i k) := congrArg Value.int (sj_nar0 i hi k hk)
theorem sj_emp : ∀ i < 8, (Int32.ofNat (ab_sl.getD i 0) = 0 ↔ ab_sl.getD i 0 = 0) := by decide +kernel
theorem sj_sml : ∀ i < 8, ab_sl.getD i 0 < 16 := by decide +kernel
theorem sj_hts {args : Array Value} {s : State} (h : ∀ w ∈ ab_TB, w.before args s = true) {w : Cond} (hw : ab_inB w = true) : w.before args s = true := h w (ab_inB.to hw)
theorem sj_ge {j : Nat} (h : j < 2 ^ 31) : ¬ Int32.ofNat j < 0 := nI_pos h
theorem sj_lt {j n : Nat} (h : j < n) (hn : n < 2 ^ 31) : Int32.ofNat j < Int32.ofNat n := nI_lt h hn
theorem sj_in {j n : Nat} (h : j < n) (hn : n < 2 ^ 31) : vp_in (Int32.ofNat j) n := vp_in_nI h hn
theorem sj_cl {j : Nat} (h : j < 2 ^ 31) : (Int32.ofNat j).toNatClampNeg = j := nI_clamp h
theorem dk_J0_coder_7d493_0 : decode cJ0_coder_7d493 0 = .ok (.getstatic 38, 3) := by decide +kernel
theorem dk_J0_coder_7d493_3 : decode cJ0_coder_7d493 3 = .ok (.ifCond .eq 10, 3) := by decide +kernel
theorem dk_J0_coder_7d493_6 : decode cJ0_coder_7d493 6 = .ok (.aload_n 0, 1) := by decide +kernel
theorem dk_J0_coder_7d493_7 : decode cJ0_coder_7d493 7 = .ok (.getfield 15, 3) := by decide +kernel
theorem dk_J0_coder_7d493_10 : decode cJ0_coder_7d493 10 = .ok (.goto 4, 3) := by decide +kernel
theorem dk_J0_coder_7d493_13 : decode cJ0_coder_7d493 13 = .ok (.iconst 1, 1) := by decide +kernel
theorem dk_J0_coder_7d493_14 : decode cJ0_coder_7d493 14 = .ok (.ireturn, 1) := by decide +kernel
set_option maxRecDepth 100000 in
set_option maxHeartbeats 1000000 in
theorem sj_J0_coder_7d493 (l : Launch) (adK adV : Nat → Nat) (i : Nat) (hi : i < 8) (sz : Nat) : Met l yJ0_coder_7d493 (.code yJ0_coder_7d493 cJ0_coder_7d493 1 (some .byte) :: ab_TB) { frames := 1, cells := 0, slots := 0, locals := 0 } (sj_Pc [.ref (adK i)] adK adV sz) (va_Qi (fun (r : Int32) (_ : Unit) => r = (0)) (fun _ _ => True) (fun q => sz ≤ q)) 0 0 (fun q => sz ≤ q) := by
  refine va_MetF (cc := cJ0_coder_7d493) (maxL := 1) (ret := some .byte) (by decide +kernel) rfl ?_
  intro p e s m args below meth c s₁ B hml hv
  obtain ⟨rfl, hsz, hZ⟩ := hv
  have hx := B.exec
  have hb := B.bytes
  have hr := B.returns
  have hts0 := atoms_spec (ws := .code yJ0_coder_7d493 cJ0_coder_7d493 1 (some .byte) :: ab_TB) B.pre
  have hts : ∀ w ∈ ab_TB, w.before ([.ref (adK i)] : List Value).toArray s = true := fun w hw => hts0 w (List.mem_cons_of_mem _ hw)
  have hown : s.vm.findClass RJ0 = some m.cls := findClass_of_methodNamed B.named
  have hlocks := B.notSynchronized
  subst hsz
  have hS : va_S (fun q => s.heap.size ≤ q) s.heap s.heap [] := va_S.rf
  have hl := lv_entry ([.ref (adK i)] : List Value) (n := 1) (Nat.le_of_ble_eq_true rfl)
  rw [lg_entry_eq]
  generalize (lg_sl ([.ref (adK i)] : List Value) ++ List.replicate (1 - (lg_sl ([.ref (adK i)] : List Value)).length) Slot.unset).toArray = ls at hl ⊢
  have hl : lv_has ls 1 [(0, .ref (adK i))] := hl
  refine va_gets (C := "java/lang/String") (n := "COMPACT_STRINGS") (d := "Z") (own := RJ0) (ref := "java/lang/String") (index := 38) hx hb hZ.2.1 hS hown (sj_hts hts (w := .fieldLink RJ0 38 "java/lang/String" "COMPACT_STRINGS" "Z") (by decide +kernel)) (fun _ h => h) dk_J0_coder_7d493_0 ?_
  refine lv_if_eq (tgt := 13) hx hb dk_J0_coder_7d493_3 (by decide) (fun h => absurd h (by decide)) (fun _ => ?_)
  refine lv_aload_n hx hb dk_J0_coder_7d493_6 rfl (lv_at hl 0 rfl) ?_
  refine vk_getf (o := "java/lang/String") (n := "coder") (d := "B") (own := RJ0) (ref := "java/lang/String") (index := 15) hx hb (hZ.1.1 i hi).2.1 hS hown (sj_hts hts (w := .fieldLink RJ0 15 "java/lang/String" "coder" "B") (by decide +kernel)) (fun _ h => h) dk_J0_coder_7d493_7 ?_
  refine lv_goto (tgt := 14) hx hb dk_J0_coder_7d493_10 (by decide) ?_
  exact W.zret (v := 0) (ty := .byte) hx hb hr (congrArg Value.int (show (0 : Int32).toInt8.toInt32 = 0 by decide)) (fun t ht hW => ⟨⟨0, (), rfl, rfl, trivial⟩, hS.F ht⟩) hS.2.2 dk_J0_coder_7d493_14
theorem dk_J0_length_8abf5_0 : decode cJ0_length_8abf5 0 = .ok (.aload_n 0, 1) := by decide +kernel
theorem dk_J0_length_8abf5_1 : decode cJ0_length_8abf5 1 = .ok (.getfield 9, 3) := by decide +kernel
theorem dk_J0_length_8abf5_4 : decode cJ0_length_8abf5 4 = .ok (.arraylength, 1) := by decide +kernel
theorem dk_J0_length_8abf5_5 : decode cJ0_length_8abf5 5 = .ok (.aload_n 0, 1) := by decide +kernel
theorem dk_J0_length_8abf5_6 : decode cJ0_length_8abf5 6 = .ok (.invokevirtual 335, 3) := by decide +kernel
theorem dk_J0_length_8abf5_9 : decode cJ0_length_8abf5 9 = .ok (.ishr, 1) := by decide +kernel
theorem dk_J0_length_8abf5_10 : decode cJ0_length_8abf5 10 = .ok (.ireturn, 1) := by decide +kernel
set_option maxRecDepth 100000 in
set_option maxHeartbeats 1000000 in
theorem sj_J0_length_8abf5 (l : Launch) (adK adV : Nat → Nat) (i : Nat) (hi : i < 8) (sz : Nat) : Met l yJ0_length_8abf5 (.code yJ0_length_8abf5 cJ0_length_8abf5 1 (some .int) :: ab_TB) { frames := 2, cells := 0, slots := 0, locals := 20 } (sj_Pc [.ref (adK i)] adK adV sz) (va_Qi (fun (r : Int32) (_ : Unit) => r = (Int32.ofNat (ab_sl.getD i 0))) (fun _ _ => True) (fun q => sz ≤ q)) 0 0 (fun q => sz ≤ q) := by
  refine va_MetF (cc := cJ0_length_8abf5) (maxL := 1) (ret := some .int) (by decide +kernel) rfl ?_
  intro p e s m args below meth c s₁ B hml hv
  obtain ⟨rfl, hsz, hZ⟩ := hv
  have hx := B.exec
  have hb := B.bytes
  have hr := B.returns
  have hts0 := atoms_spec (ws := .code yJ0_length_8abf5 cJ0_length_8abf5 1 (some .int) :: ab_TB) B.pre
  have hts : ∀ w ∈ ab_TB, w.before ([.ref (adK i)] : List Value).toArray s = true := fun w hw => hts0 w (List.mem_cons_of_mem _ hw)
  have hown : s.vm.findClass RJ0 = some m.cls := findClass_of_methodNamed B.named
  have hlocks := B.notSynchronized
  subst hsz
  have hS : va_S (fun q => s.heap.size ≤ q) s.heap s.heap [] := va_S.rf
  have hl := lv_entry ([.ref (adK i)] : List Value) (n := 1) (Nat.le_of_ble_eq_true rfl)
  rw [lg_entry_eq]
  generalize (lg_sl ([.ref (adK i)] : List Value) ++ List.replicate (1 - (lg_sl ([.ref (adK i)] : List Value)).length) Slot.unset).toArray = ls at hl ⊢
  have hl : lv_has ls 1 [(0, .ref (adK i))] := hl
  refine lv_aload_n hx hb dk_J0_length_8abf5_0 rfl (lv_at hl 0 rfl) ?_
  refine vk_getf (o := "java/lang/String") (n := "value") (d := "[B") (own := RJ0) (ref := "java/lang/String") (index := 9) hx hb (hZ.1.1 i hi).2.2.1 hS hown (sj_hts hts (w := .fieldLink RJ0 9 "java/lang/String" "value" "[B") (by decide +kernel)) (fun _ h => h) dk_J0_length_8abf5_1 ?_
  refine va_tlen (ty := .byte) hx hb (hZ.1.1 i hi).2.2.2 hS (v := Int32.ofNat (ab_sl.getD i 0)) rfl dk_J0_length_8abf5_4 ?_
  refine lv_aload_n hx hb dk_J0_length_8abf5_5 rfl (lv_at hl 0 rfl) ?_
  refine va_calli (va_runV (mc := 0) (ms := 0) (As := []) (rest := [.int (Int32.ofNat (ab_sl.getD i 0))]) ⟨hx, hb, hml, hown, hts⟩ (sj_J0_coder_7d493 l adK adV i hi s.heap.size) ⟨callB_of 0 hts (ab_good (y := yJ0_coder_7d493) (b := cJ0_coder_7d493) (mL := 1) (ret := some .byte) (by decide +kernel)) rfl rfl rfl (sj_hts hts (w := .initialized yJ0_coder_7d493.cls) (by decide +kernel)) (sj_hts hts (w := .methodLink RJ0 335 yJ0_coder_7d493) (by decide +kernel)) ⟨by decide +kernel, by decide +kernel, by decide +kernel⟩ ⟨Nat.le_of_ble_eq_true rfl, Nat.le_of_ble_eq_true rfl⟩, (sj_hts hts (w := .instanceMethod yJ0_coder_7d493) (by decide +kernel)), (sj_hts hts (w := .selects RJ0 yJ0_coder_7d493 yJ0_coder_7d493) (by decide +kernel))⟩ ⟨sj_blind, vk_recv hZ.1 hi hS, fun U hU hW => ⟨rfl, by rw [hU], hZ.to hS hW hU (fun q hq => Nat.le_trans hS.1 hq)⟩⟩ rfl rfl hl.1 rfl (lv_room (Nat.le_of_ble_eq_true rfl)) dk_J0_length_8abf5_6 ⟨Nat.zero_le _, Nat.zero_le _⟩) hS (fun q h1 h2 => absurd h1 (Nat.not_lt.mpr h2)) (fun q hq => Nat.le_trans hS.1 hq) (fun r u t H1 locs1 ht hvm hw hB hsz1 hk1 hS => ?_)
  subst hw
  refine lv_ishr hx hb dk_J0_length_8abf5_9 ?_
  rw [sj_shr i hi]
  exact W.iret (v := Int32.ofNat (ab_sl.getD i 0)) hx hb hr (fun t ht hW => ⟨⟨_, (), rfl, rfl, trivial⟩, hS.F ht⟩) hS.2.2 dk_J0_length_8abf5_10
theorem dk_J0_isEmpty_aae02_0 : decode cJ0_isEmpty_aae02 0 = .ok (.aload_n 0, 1) := by decide +kernel
theorem dk_J0_isEmpty_aae02_1 : decode cJ0_isEmpty_aae02 1 = .ok (.getfield 9, 3) := by decide +kernel
theorem dk_J0_isEmpty_aae02_4 : decode cJ0_isEmpty_aae02 4 = .ok (.arraylength, 1) := by decide +kernel
theorem dk_J0_isEmpty_aae02_5 : decode cJ0_isEmpty_aae02 5 = .ok (.ifCond .ne 7, 3) := by decide +kernel
theorem dk_J0_isEmpty_aae02_8 : decode cJ0_isEmpty_aae02 8 = .ok (.iconst 1, 1) := by decide +kernel
theorem dk_J0_isEmpty_aae02_9 : decode cJ0_isEmpty_aae02 9 = .ok (.goto 4, 3) := by decide +kernel
theorem dk_J0_isEmpty_aae02_12 : decode cJ0_isEmpty_aae02 12 = .ok (.iconst 0, 1) := by decide +kernel
theorem dk_J0_isEmpty_aae02_13 : decode cJ0_isEmpty_aae02 13 = .ok (.ireturn, 1) := by decide +kernel
set_option maxRecDepth 100000 in
set_option maxHeartbeats 1000000 in
theorem sj_J0_isEmpty_aae02 (l : Launch) (adK adV : Nat → Nat) (i : Nat) (hi : i < 8) (sz : Nat) : Met l yJ0_isEmpty_aae02 (.code yJ0_isEmpty_aae02 cJ0_isEmpty_aae02 1 (some .boolean) :: ab_TB) { frames := 1, cells := 0, slots := 0, locals := 0 } (sj_Pc [.ref (adK i)] adK adV sz) (va_Qi (fun (r : Int32) (_ : Unit) => r = (if ab_sl.getD i 0 = 0 then 1 else 0)) (fun _ _ => True) (fun q => sz ≤ q)) 0 0 (fun q => sz ≤ q) := by
  refine va_MetF (cc := cJ0_isEmpty_aae02) (maxL := 1) (ret := some .boolean) (by decide +kernel) rfl ?_
  intro p e s m args below meth c s₁ B hml hv
  obtain ⟨rfl, hsz, hZ⟩ := hv
  have hx := B.exec
  have hb := B.bytes
  have hr := B.returns
  have hts0 := atoms_spec (ws := .code yJ0_isEmpty_aae02 cJ0_isEmpty_aae02 1 (some .boolean) :: ab_TB) B.pre
  have hts : ∀ w ∈ ab_TB, w.before ([.ref (adK i)] : List Value).toArray s = true := fun w hw => hts0 w (List.mem_cons_of_mem _ hw)
  have hown : s.vm.findClass RJ0 = some m.cls := findClass_of_methodNamed B.named
  have hlocks := B.notSynchronized
  subst hsz
  have hS : va_S (fun q => s.heap.size ≤ q) s.heap s.heap [] := va_S.rf
  have hl := lv_entry ([.ref (adK i)] : List Value) (n := 1) (Nat.le_of_ble_eq_true rfl)
  rw [lg_entry_eq]
  generalize (lg_sl ([.ref (adK i)] : List Value) ++ List.replicate (1 - (lg_sl ([.ref (adK i)] : List Value)).length) Slot.unset).toArray = ls at hl ⊢
  have hl : lv_has ls 1 [(0, .ref (adK i))] := hl
  refine lv_aload_n hx hb dk_J0_isEmpty_aae02_0 rfl (lv_at hl 0 rfl) ?_
  refine vk_getf (o := "java/lang/String") (n := "value") (d := "[B") (own := RJ0) (ref := "java/lang/String") (index := 9) hx hb (hZ.1.1 i hi).2.2.1 hS hown (sj_hts hts (w := .fieldLink RJ0 9 "java/lang/String" "value" "[B") (by decide +kernel)) (fun _ h => h) dk_J0_isEmpty_aae02_1 ?_
  refine va_tlen (ty := .byte) hx hb (hZ.1.1 i hi).2.2.2 hS (v := Int32.ofNat (ab_sl.getD i 0)) rfl dk_J0_isEmpty_aae02_4 ?_
  have he := sj_emp i hi
  refine lv_if_ne (tgt := 12) hx hb dk_J0_isEmpty_aae02_5 (by decide) (fun h => ?_) (fun h => ?_)
  · refine lv_iconst (v := 0) hx hb dk_J0_isEmpty_aae02_12 (by decide) ?_
    exact W.zret (v := 0) (ty := .boolean) hx hb hr (congrArg Value.int (show (0 : Int32) &&& 1 = 0 by decide)) (fun t ht hW => ⟨⟨0, (), rfl, by rw [if_neg (fun q => h (he.mpr q))], trivial⟩, hS.F ht⟩) hS.2.2 dk_J0_isEmpty_aae02_13
  · refine lv_iconst (v := 1) hx hb dk_J0_isEmpty_aae02_8 (by decide) ?_
    refine lv_goto (tgt := 13) hx hb dk_J0_isEmpty_aae02_9 (by decide) ?_
    exact W.zret (v := 1) (ty := .boolean) hx hb hr (congrArg Value.int (show (1 : Int32) &&& 1 = 1 by decide)) (fun t ht hW => ⟨⟨1, (), rfl, by rw [if_pos (he.mp h)], trivial⟩, hS.F ht⟩) hS.2.2 dk_J0_isEmpty_aae02_13
theorem dk_J0_isLatin1_aae02_0 : decode cJ0_isLatin1_aae02 0 = .ok (.getstatic 38, 3) := by decide +kernel
theorem dk_J0_isLatin1_aae02_3 : decode cJ0_isLatin1_aae02 3 = .ok (.ifCond .eq 14, 3) := by decide +kernel
theorem dk_J0_isLatin1_aae02_6 : decode cJ0_isLatin1_aae02 6 = .ok (.aload_n 0, 1) := by decide +kernel
theorem dk_J0_isLatin1_aae02_7 : decode cJ0_isLatin1_aae02 7 = .ok (.getfield 15, 3) := by decide +kernel
theorem dk_J0_isLatin1_aae02_10 : decode cJ0_isLatin1_aae02 10 = .ok (.ifCond .ne 7, 3) := by decide +kernel
theorem dk_J0_isLatin1_aae02_13 : decode cJ0_isLatin1_aae02 13 = .ok (.iconst 1, 1) := by decide +kernel
theorem dk_J0_isLatin1_aae02_14 : decode cJ0_isLatin1_aae02 14 = .ok (.goto 4, 3) := by decide +kernel
theorem dk_J0_isLatin1_aae02_17 : decode cJ0_isLatin1_aae02 17 = .ok (.iconst 0, 1) := by decide +kernel
theorem dk_J0_isLatin1_aae02_18 : decode cJ0_isLatin1_aae02 18 = .ok (.ireturn, 1) := by decide +kernel
set_option maxRecDepth 100000 in
set_option maxHeartbeats 1000000 in
theorem sj_J0_isLatin1_aae02 (l : Launch) (adK adV : Nat → Nat) (i : Nat) (hi : i < 8) (sz : Nat) : Met l yJ0_isLatin1_aae02 (.code yJ0_isLatin1_aae02 cJ0_isLatin1_aae02 1 (some .boolean) :: ab_TB) { frames := 1, cells := 0, slots := 0, locals := 0 } (sj_Pc [.ref (adK i)] adK adV sz) (va_Qi (fun (r : Int32) (_ : Unit) => r = (1)) (fun _ _ => True) (fun q => sz ≤ q)) 0 0 (fun q => sz ≤ q) := by
  refine va_MetF (cc := cJ0_isLatin1_aae02) (maxL := 1) (ret := some .boolean) (by decide +kernel) rfl ?_
  intro p e s m args below meth c s₁ B hml hv
  obtain ⟨rfl, hsz, hZ⟩ := hv
  have hx := B.exec
  have hb := B.bytes
  have hr := B.returns
  have hts0 := atoms_spec (ws := .code yJ0_isLatin1_aae02 cJ0_isLatin1_aae02 1 (some .boolean) :: ab_TB) B.pre
  have hts : ∀ w ∈ ab_TB, w.before ([.ref (adK i)] : List Value).toArray s = true := fun w hw => hts0 w (List.mem_cons_of_mem _ hw)
  have hown : s.vm.findClass RJ0 = some m.cls := findClass_of_methodNamed B.named
  have hlocks := B.notSynchronized
  subst hsz
  have hS : va_S (fun q => s.heap.size ≤ q) s.heap s.heap [] := va_S.rf
  have hl := lv_entry ([.ref (adK i)] : List Value) (n := 1) (Nat.le_of_ble_eq_true rfl)
  rw [lg_entry_eq]
  generalize (lg_sl ([.ref (adK i)] : List Value) ++ List.replicate (1 - (lg_sl ([.ref (adK i)] : List Value)).length) Slot.unset).toArray = ls at hl ⊢
  have hl : lv_has ls 1 [(0, .ref (adK i))] := hl
  refine va_gets (C := "java/lang/String") (n := "COMPACT_STRINGS") (d := "Z") (own := RJ0) (ref := "java/lang/String") (index := 38) hx hb hZ.2.1 hS hown (sj_hts hts (w := .fieldLink RJ0 38 "java/lang/String" "COMPACT_STRINGS" "Z") (by decide +kernel)) (fun _ h => h) dk_J0_isLatin1_aae02_0 ?_
  refine lv_if_eq (tgt := 17) hx hb dk_J0_isLatin1_aae02_3 (by decide) (fun h => absurd h (by decide)) (fun _ => ?_)
  refine lv_aload_n hx hb dk_J0_isLatin1_aae02_6 rfl (lv_at hl 0 rfl) ?_
  refine vk_getf (o := "java/lang/String") (n := "coder") (d := "B") (own := RJ0) (ref := "java/lang/String") (index := 15) hx hb (hZ.1.1 i hi).2.1 hS hown (sj_hts hts (w := .fieldLink RJ0 15 "java/lang/String" "coder" "B") (by decide +kernel)) (fun _ h => h) dk_J0_isLatin1_aae02_7 ?_
  refine lv_if_ne (tgt := 17) hx hb dk_J0_isLatin1_aae02_10 (by decide) (fun h => absurd rfl h) (fun _ => ?_)
  refine lv_iconst (v := 1) hx hb dk_J0_isLatin1_aae02_13 (by decide) ?_
  refine lv_goto (tgt := 18) hx hb dk_J0_isLatin1_aae02_14 (by decide) ?_
  exact W.zret (v := 1) (ty := .boolean) hx hb hr (congrArg Value.int (show (1 : Int32) &&& 1 = 1 by decide)) (fun t ht hW => ⟨⟨1, (), rfl, rfl, trivial⟩, hS.F ht⟩) hS.2.2 dk_J0_isLatin1_aae02_18
theorem dk_J3_checkIndex_8e157_0 : decode cJ3_checkIndex_8e157 0 = .ok (.iload_n 0, 1) := by decide +kernel
theorem dk_J3_checkIndex_8e157_1 : decode cJ3_checkIndex_8e157 1 = .ok (.ifCond .lt 8, 3) := by decide +kernel
theorem dk_J3_checkIndex_8e157_4 : decode cJ3_checkIndex_8e157 4 = .ok (.iload_n 0, 1) := by decide +kernel
theorem dk_J3_checkIndex_8e157_5 : decode cJ3_checkIndex_8e157 5 = .ok (.iload_n 1, 1) := by decide +kernel
theorem dk_J3_checkIndex_8e157_6 : decode cJ3_checkIndex_8e157 6 = .ok (.if_icmp .lt 10, 3) := by decide +kernel
theorem dk_J3_checkIndex_8e157_9 : decode cJ3_checkIndex_8e157 9 = .ok (.aload_n 2, 1) := by decide +kernel
theorem dk_J3_checkIndex_8e157_10 : decode cJ3_checkIndex_8e157 10 = .ok (.iload_n 0, 1) := by decide +kernel
theorem dk_J3_checkIndex_8e157_11 : decode cJ3_checkIndex_8e157 11 = .ok (.iload_n 1, 1) := by decide +kernel
theorem dk_J3_checkIndex_8e157_12 : decode cJ3_checkIndex_8e157 12 = .ok (.invokestatic 95, 3) := by decide +kernel
theorem dk_J3_checkIndex_8e157_15 : decode cJ3_checkIndex_8e157 15 = .ok (.athrow, 1) := by decide +kernel
theorem dk_J3_checkIndex_8e157_16 : decode cJ3_checkIndex_8e157 16 = .ok (.iload_n 0, 1) := by decide +kernel
theorem dk_J3_checkIndex_8e157_17 : decode cJ3_checkIndex_8e157 17 = .ok (.ireturn, 1) := by decide +kernel
set_option maxRecDepth 100000 in
set_option maxHeartbeats 1000000 in
theorem sj_J3_checkIndex_8e157_n (l : Launch) (a n : Int32) (ha : ¬ a < 0) (hn : a < n) (sz : Nat) : Met l yJ3_checkIndex_8e157 (.code yJ3_checkIndex_8e157 cJ3_checkIndex_8e157 3 (some .int) :: ab_TB) { frames := 1, cells := 0, slots := 0, locals := 0 } (va_Pc [.int a, .int n, .null] (fun U => U.heap.size = sz)) (va_Qi (fun (r : Int32) (_ : Unit) => r = (a)) (fun _ _ => True) (fun q => sz ≤ q)) 0 0 (fun q => sz ≤ q) := by
  refine va_MetF (cc := cJ3_checkIndex_8e157) (maxL := 3) (ret := some .int) (by decide +kernel) rfl ?_
  intro p e s m args below meth c s₁ B hml hv
  obtain ⟨rfl, hsz⟩ := hv
  have hx := B.exec
  have hb := B.bytes
  have hr := B.returns
  have hts0 := atoms_spec (ws := .code yJ3_checkIndex_8e157 cJ3_checkIndex_8e157 3 (some .int) :: ab_TB) B.pre
  have hts : ∀ w ∈ ab_TB, w.before ([.int a, .int n, .null] : List Value).toArray s = true := fun w hw => hts0 w (List.mem_cons_of_mem _ hw)
  have hown : s.vm.findClass RJ3 = some m.cls := findClass_of_methodNamed B.named
  have hlocks := B.notSynchronized
  subst hsz
  have hS : va_S (fun q => s.heap.size ≤ q) s.heap s.heap [] := va_S.rf
  have hl := lv_entry ([.int a, .int n, .null] : List Value) (n := 3) (Nat.le_of_ble_eq_true rfl)
  rw [lg_entry_eq]
  generalize (lg_sl ([.int a, .int n, .null] : List Value) ++ List.replicate (3 - (lg_sl ([.int a, .int n, .null] : List Value)).length) Slot.unset).toArray = ls at hl ⊢
  have hl : lv_has ls 3 [(0, .int a), (1, .int n), (2, .null)] := hl
  refine lv_iload_n hx hb dk_J3_checkIndex_8e157_0 rfl (lv_at hl 0 rfl) ?_
  refine lv_if_lt (tgt := 9) hx hb dk_J3_checkIndex_8e157_1 (by decide) (fun h => absurd h ha) (fun _ => ?_)
  refine lv_iload_n hx hb dk_J3_checkIndex_8e157_4 rfl (lv_at hl 0 rfl) ?_
  refine lv_iload_n hx hb dk_J3_checkIndex_8e157_5 rfl (lv_at hl 1 rfl) ?_
  refine lv_icmp_lt (tgt := 16) hx hb dk_J3_checkIndex_8e157_6 (by decide) (fun _ => ?_) (fun h => absurd hn h)
  refine lv_iload_n hx hb dk_J3_checkIndex_8e157_16 rfl (lv_at hl 0 rfl) ?_
  exact W.iret (v := a) hx hb hr (fun t ht hW => ⟨⟨a, (), rfl, rfl, trivial⟩, hS.F ht⟩) hS.2.2 dk_J3_checkIndex_8e157_17
-- with a formatter
set_option maxRecDepth 100000 in
set_option maxHeartbeats 1000000 in
theorem sj_J3_checkIndex_8e157_r (l : Launch) (a n : Int32) (q0 : Nat) (ha : ¬ a < 0) (hn : a < n) (sz : Nat) : Met l yJ3_checkIndex_8e157 (.code yJ3_checkIndex_8e157 cJ3_checkIndex_8e157 3 (some .int) :: ab_TB) { frames := 1, cells := 0, slots := 0, locals := 0 } (va_Pc [.int a, .int n, .ref q0] (fun U => U.heap.size = sz)) (va_Qi (fun (r : Int32) (_ : Unit) => r = (a)) (fun _ _ => True) (fun q => sz ≤ q)) 0 0 (fun q => sz ≤ q) := by
  refine va_MetF (cc := cJ3_checkIndex_8e157) (maxL := 3) (ret := some .int) (by decide +kernel) rfl ?_
  intro p e s m args below meth c s₁ B hml hv
  obtain ⟨rfl, hsz⟩ := hv
  have hx := B.exec
  have hb := B.bytes
  have hr := B.returns
  have hts0 := atoms_spec (ws := .code yJ3_checkIndex_8e157 cJ3_checkIndex_8e157 3 (some .int) :: ab_TB) B.pre
  have hts : ∀ w ∈ ab_TB, w.before ([.int a, .int n, .ref q0] : List Value).toArray s = true := fun w hw => hts0 w (List.mem_cons_of_mem _ hw)
  have hown : s.vm.findClass RJ3 = some m.cls := findClass_of_methodNamed B.named
  have hlocks := B.notSynchronized
  subst hsz
  have hS : va_S (fun q => s.heap.size ≤ q) s.heap s.heap [] := va_S.rf
  have hl := lv_entry ([.int a, .int n, .ref q0] : List Value) (n := 3) (Nat.le_of_ble_eq_true rfl)
  rw [lg_entry_eq]
  generalize (lg_sl ([.int a, .int n, .ref q0] : List Value) ++ List.replicate (3 - (lg_sl ([.int a, .int n, .ref q0] : List Value)).length) Slot.unset).toArray = ls at hl ⊢
  have hl : lv_has ls 3 [(0, .int a), (1, .int n), (2, .ref q0)] := hl
  refine lv_iload_n hx hb dk_J3_checkIndex_8e157_0 rfl (lv_at hl 0 rfl) ?_
  refine lv_if_lt (tgt := 9) hx hb dk_J3_checkIndex_8e157_1 (by decide) (fun h => absurd h ha) (fun _ => ?_)
  refine lv_iload_n hx hb dk_J3_checkIndex_8e157_4 rfl (lv_at hl 0 rfl) ?_
  refine lv_iload_n hx hb dk_J3_checkIndex_8e157_5 rfl (lv_at hl 1 rfl) ?_
  refine lv_icmp_lt (tgt := 16) hx hb dk_J3_checkIndex_8e157_6 (by decide) (fun _ => ?_) (fun h => absurd hn h)
  refine lv_iload_n hx hb dk_J3_checkIndex_8e157_16 rfl (lv_at hl 0 rfl) ?_
  exact W.iret (v := a) hx hb hr (fun t ht hW => ⟨⟨a, (), rfl, rfl, trivial⟩, hS.F ht⟩) hS.2.2 dk_J3_checkIndex_8e157_17
theorem dk_J0_checkIndex_df160_0 : decode cJ0_checkIndex_df160 0 = .ok (.iload_n 0, 1) := by decide +kernel
theorem dk_J0_checkIndex_df160_1 : decode cJ0_checkIndex_df160 1 = .ok (.iload_n 1, 1) := by decide +kernel
theorem dk_J0_checkIndex_df160_2 : decode cJ0_checkIndex_df160 2 = .ok (.getstatic 1053, 3) := by decide +kernel
theorem dk_J0_checkIndex_df160_5 : decode cJ0_checkIndex_df160 5 = .ok (.invokestatic 1059, 3) := by decide +kernel
theorem dk_J0_checkIndex_df160_8 : decode cJ0_checkIndex_df160 8 = .ok (.pop, 1) := by decide +kernel
theorem dk_J0_checkIndex_df160_9 : decode cJ0_checkIndex_df160 9 = .ok (.return_, 1) := by decide +kernel
set_option maxRecDepth 100000 in
set_option maxHeartbeats 1000000 in
theorem sj_J0_checkIndex_df160 (l : Launch) (adK adV : Nat → Nat) (a n : Int32) (ha : ¬ a < 0) (hn : a < n) (sz : Nat) : Met l yJ0_checkIndex_df160 (.code yJ0_checkIndex_df160 cJ0_checkIndex_df160 2 (none) :: ab_TB) { frames := 2, cells := 0, slots := 0, locals := 22 } (sj_Pc [.int a, .int n] adK adV sz) (va_Qv (fun (_ : Unit) => True) (fun _ _ => True) (fun q => sz ≤ q)) 0 0 (fun q => sz ≤ q) := by
  refine va_MetF (cc := cJ0_checkIndex_df160) (maxL := 2) (ret := none) (by decide +kernel) rfl ?_
  intro p e s m args below meth c s₁ B hml hv
  obtain ⟨rfl, hsz, hZ⟩ := hv
  have hx := B.exec
  have hb := B.bytes
  have hr := B.returns
  have hts0 := atoms_spec (ws := .code yJ0_checkIndex_df160 cJ0_checkIndex_df160 2 (none) :: ab_TB) B.pre
  have hts : ∀ w ∈ ab_TB, w.before ([.int a, .int n] : List Value).toArray s = true := fun w hw => hts0 w (List.mem_cons_of_mem _ hw)
  have hown : s.vm.findClass RJ0 = some m.cls := findClass_of_methodNamed B.named
  have hlocks := B.notSynchronized
  subst hsz
  have hS : va_S (fun q => s.heap.size ≤ q) s.heap s.heap [] := va_S.rf
  have hl := lv_entry ([.int a, .int n] : List Value) (n := 2) (Nat.le_of_ble_eq_true rfl)
  rw [lg_entry_eq]
  generalize (lg_sl ([.int a, .int n] : List Value) ++ List.replicate (2 - (lg_sl ([.int a, .int n] : List Value)).length) Slot.unset).toArray = ls at hl ⊢
  have hl : lv_has ls 2 [(0, .int a), (1, .int n)] := hl
  rcases hZ.2.2 with hv2 | ⟨q0, hv2⟩
  · refine lv_iload_n hx hb dk_J0_checkIndex_df160_0 rfl (lv_at hl 0 rfl) ?_
    refine lv_iload_n hx hb dk_J0_checkIndex_df160_1 rfl (lv_at hl 1 rfl) ?_
    refine va_gets (C := "jdk/internal/util/Preconditions") (n := "SIOOBE_FORMATTER") (d := "Ljava/util/function/BiFunction;") (own := RJ0) (ref := "jdk/internal/util/Preconditions") (index := 1053) hx hb hv2 hS hown (sj_hts hts (w := .fieldLink RJ0 1053 "jdk/internal/util/Preconditions" "SIOOBE_FORMATTER" "Ljava/util/function/BiFunction;") (by decide +kernel)) (fun _ h => h) dk_J0_checkIndex_df160_2 ?_
    refine va_calli (va_runS (mc := 0) (ms := 0) (As := [.int a, .int n, .null]) (rest := []) ⟨hx, hb, hml, hown, hts⟩ (sj_J3_checkIndex_8e157_n l a n ha hn s.heap.size) ⟨callB_of 3 hts (ab_good (y := yJ3_checkIndex_8e157) (b := cJ3_checkIndex_8e157) (mL := 3) (ret := some .int) (by decide +kernel)) rfl rfl rfl (sj_hts hts (w := .initialized yJ3_checkIndex_8e157.cls) (by decide +kernel)) (sj_hts hts (w := .methodLink RJ0 1059 yJ3_checkIndex_8e157) (by decide +kernel)) ⟨by decide +kernel, by decide +kernel, by decide +kernel⟩ ⟨Nat.le_of_ble_eq_true rfl, Nat.le_of_ble_eq_true rfl⟩, (sj_hts hts (w := .static yJ3_checkIndex_8e157) (by decide +kernel))⟩ ⟨sj_b0, fun U hU hW => ⟨rfl, congrArg Array.size hU⟩⟩ rfl rfl hl.1 rfl (lv_room (Nat.le_of_ble_eq_true rfl)) dk_J0_checkIndex_df160_5 ⟨Nat.zero_le _, Nat.zero_le _⟩) hS (fun q h1 h2 => absurd h1 (Nat.not_lt.mpr h2)) (fun q hq => Nat.le_trans hS.1 hq) (fun r u t H1 locs1 ht hvm hw hB hsz1 hk1 hS => ?_)
    refine lv_pop hx hb dk_J0_checkIndex_df160_8 rfl ?_
    exact W.vret hx hb hr (fun t ht hW => ⟨⟨(), rfl, trivial, trivial⟩, hS.F ht⟩) hS.2.2 dk_J0_checkIndex_df160_9
  · refine lv_iload_n hx hb dk_J0_checkIndex_df160_0 rfl (lv_at hl 0 rfl) ?_
    refine lv_iload_n hx hb dk_J0_checkIndex_df160_1 rfl (lv_at hl 1 rfl) ?_
    refine va_gets (C := "jdk/internal/util/Preconditions") (n := "SIOOBE_FORMATTER") (d := "Ljava/util/function/BiFunction;") (own := RJ0) (ref := "jdk/internal/util/Preconditions") (index := 1053) hx hb hv2 hS hown (sj_hts hts (w := .fieldLink RJ0 1053 "jdk/internal/util/Preconditions" "SIOOBE_FORMATTER" "Ljava/util/function/BiFunction;") (by decide +kernel)) (fun _ h => h) dk_J0_checkIndex_df160_2 ?_
    refine va_calli (va_runS (mc := 0) (ms := 0) (As := [.int a, .int n, .ref q0]) (rest := []) ⟨hx, hb, hml, hown, hts⟩ (sj_J3_checkIndex_8e157_r l a n q0 ha hn s.heap.size) ⟨callB_of 3 hts (ab_good (y := yJ3_checkIndex_8e157) (b := cJ3_checkIndex_8e157) (mL := 3) (ret := some .int) (by decide +kernel)) rfl rfl rfl (sj_hts hts (w := .initialized yJ3_checkIndex_8e157.cls) (by decide +kernel)) (sj_hts hts (w := .methodLink RJ0 1059 yJ3_checkIndex_8e157) (by decide +kernel)) ⟨by decide +kernel, by decide +kernel, by decide +kernel⟩ ⟨Nat.le_of_ble_eq_true rfl, Nat.le_of_ble_eq_true rfl⟩, (sj_hts hts (w := .static yJ3_checkIndex_8e157) (by decide +kernel))⟩ ⟨sj_b0, fun U hU hW => ⟨rfl, congrArg Array.size hU⟩⟩ rfl rfl hl.1 rfl (lv_room (Nat.le_of_ble_eq_true rfl)) dk_J0_checkIndex_df160_5 ⟨Nat.zero_le _, Nat.zero_le _⟩) hS (fun q h1 h2 => absurd h1 (Nat.not_lt.mpr h2)) (fun q hq => Nat.le_trans hS.1 hq) (fun r u t H1 locs1 ht hvm hw hB hsz1 hk1 hS => ?_)
    refine lv_pop hx hb dk_J0_checkIndex_df160_8 rfl ?_
    exact W.vret hx hb hr (fun t ht hW => ⟨⟨(), rfl, trivial, trivial⟩, hS.F ht⟩) hS.2.2 dk_J0_checkIndex_df160_9
theorem dk_J1_charAt_3b067_0 : decode cJ1_charAt_3b067 0 = .ok (.iload_n 1, 1) := by decide +kernel
theorem dk_J1_charAt_3b067_1 : decode cJ1_charAt_3b067 1 = .ok (.aload_n 0, 1) := by decide +kernel
theorem dk_J1_charAt_3b067_2 : decode cJ1_charAt_3b067 2 = .ok (.arraylength, 1) := by decide +kernel
theorem dk_J1_charAt_3b067_3 : decode cJ1_charAt_3b067 3 = .ok (.invokestatic 9, 3) := by decide +kernel
theorem dk_J1_charAt_3b067_6 : decode cJ1_charAt_3b067 6 = .ok (.aload_n 0, 1) := by decide +kernel
theorem dk_J1_charAt_3b067_7 : decode cJ1_charAt_3b067 7 = .ok (.iload_n 1, 1) := by decide +kernel
theorem dk_J1_charAt_3b067_8 : decode cJ1_charAt_3b067 8 = .ok (.baload, 1) := by decide +kernel
theorem dk_J1_charAt_3b067_9 : decode cJ1_charAt_3b067 9 = .ok (.sipush 255, 3) := by decide +kernel
theorem dk_J1_charAt_3b067_12 : decode cJ1_charAt_3b067 12 = .ok (.iand, 1) := by decide +kernel
theorem dk_J1_charAt_3b067_13 : decode cJ1_charAt_3b067 13 = .ok (.i2c, 1) := by decide +kernel
theorem dk_J1_charAt_3b067_14 : decode cJ1_charAt_3b067 14 = .ok (.ireturn, 1) := by decide +kernel
set_option maxRecDepth 100000 in
set_option maxHeartbeats 1000000 in
theorem sj_J1_charAt_3b067 (l : Launch) (adK adV : Nat → Nat) (i : Nat) (hi : i < 8) (j : Nat) (hj : j < ab_sl.getD i 0) (sz : Nat) : Met l yJ1_charAt_3b067 (.code yJ1_charAt_3b067 cJ1_charAt_3b067 2 (some .char) :: ab_TB) { frames := 3, cells := 0, slots := 0, locals := 43 } (sj_Pc [.ref (adV i), .int (Int32.ofNat j)] adK adV sz) (va_Qi (fun (r : Int32) (_ : Unit) => r = (sj_c i j)) (fun _ _ => True) (fun q => sz ≤ q)) 0 0 (fun q => sz ≤ q) := by
  refine va_MetF (cc := cJ1_charAt_3b067) (maxL := 2) (ret := some .char) (by decide +kernel) rfl ?_
  intro p e s m args below meth c s₁ B hml hv
  obtain ⟨rfl, hsz, hZ⟩ := hv
  have hx := B.exec
  have hb := B.bytes
  have hr := B.returns
  have hts0 := atoms_spec (ws := .code yJ1_charAt_3b067 cJ1_charAt_3b067 2 (some .char) :: ab_TB) B.pre
  have hts : ∀ w ∈ ab_TB, w.before ([.ref (adV i), .int (Int32.ofNat j)] : List Value).toArray s = true := fun w hw => hts0 w (List.mem_cons_of_mem _ hw)
  have hown : s.vm.findClass RJ1 = some m.cls := findClass_of_methodNamed B.named
  have hlocks := B.notSynchronized
  subst hsz
  have hS : va_S (fun q => s.heap.size ≤ q) s.heap s.heap [] := va_S.rf
  have hl := lv_entry ([.ref (adV i), .int (Int32.ofNat j)] : List Value) (n := 2) (Nat.le_of_ble_eq_true rfl)
  rw [lg_entry_eq]
  generalize (lg_sl ([.ref (adV i), .int (Int32.ofNat j)] : List Value) ++ List.replicate (2 - (lg_sl ([.ref (adV i), .int (Int32.ofNat j)] : List Value)).length) Slot.unset).toArray = ls at hl ⊢
  have hl : lv_has ls 2 [(0, .ref (adV i)), (1, .int (Int32.ofNat j))] := hl
  have hs := sj_sml i hi
  have hj31 : j < 2 ^ 31 := by omega
  refine lv_iload_n hx hb dk_J1_charAt_3b067_0 rfl (lv_at hl 1 rfl) ?_
  refine lv_aload_n hx hb dk_J1_charAt_3b067_1 rfl (lv_at hl 0 rfl) ?_
  refine va_tlen (ty := .byte) hx hb (hZ.1.1 i hi).2.2.2 hS (v := Int32.ofNat (ab_sl.getD i 0)) rfl dk_J1_charAt_3b067_2 ?_
  refine va_callv (va_runS (mc := 0) (ms := 0) (As := [.int (Int32.ofNat j), .int (Int32.ofNat (ab_sl.getD i 0))]) (rest := []) ⟨hx, hb, hml, hown, hts⟩ (sj_J0_checkIndex_df160 l adK adV (Int32.ofNat j) (Int32.ofNat (ab_sl.getD i 0)) (sj_ge hj31) (sj_lt hj (by omega)) s.heap.size) ⟨callB_of 2 hts (ab_good (y := yJ0_checkIndex_df160) (b := cJ0_checkIndex_df160) (mL := 2) (ret := none) (by decide +kernel)) rfl rfl rfl (sj_hts hts (w := .initialized yJ0_checkIndex_df160.cls) (by decide +kernel)) (sj_hts hts (w := .methodLink RJ1 9 yJ0_checkIndex_df160) (by decide +kernel)) ⟨by decide +kernel, by decide +kernel, by decide +kernel⟩ ⟨Nat.le_of_ble_eq_true rfl, Nat.le_of_ble_eq_true rfl⟩, (sj_hts hts (w := .static yJ0_checkIndex_df160) (by decide +kernel))⟩ ⟨sj_blind, fun U hU hW => ⟨rfl, by rw [hU], hZ.to hS hW hU (fun q hq => Nat.le_trans hS.1 hq)⟩⟩ rfl rfl hl.1 rfl (lv_room (Nat.le_of_ble_eq_true rfl)) dk_J1_charAt_3b067_3 ⟨Nat.zero_le _, Nat.zero_le _⟩) hS (fun q h1 h2 => absurd h1 (Nat.not_lt.mpr h2)) (fun q hq => Nat.le_trans hS.1 hq) (fun u t H1 locs1 ht hvm hw hB hsz1 hk1 hS => ?_)
  refine lv_aload_n hx hb dk_J1_charAt_3b067_6 rfl (lv_at hl 0 rfl) ?_
  refine lv_iload_n hx hb dk_J1_charAt_3b067_7 rfl (lv_at hl 1 rfl) ?_
  refine va_tb hx hb (hZ.1.1 i hi).2.2.2 hS (i := Int32.ofNat j) (sj_in hj (by omega)) (v := .int ((ab_sb.getD i []).getD j 0)) (by rw [sj_cl hj31]) dk_J1_charAt_3b067_8 ?_
  refine lv_sipush (v := 255) hx hb dk_J1_charAt_3b067_9 (by decide) ?_
  refine lv_iand hx hb dk_J1_charAt_3b067_12 ?_
  refine lv_i2c (v := sj_c i j) hx hb dk_J1_charAt_3b067_13 rfl ?_
  exact W.zret (v := sj_c i j) (ty := .char) hx hb hr (sj_nar i hi j hj) (fun t ht hW => ⟨⟨_, (), rfl, rfl, trivial⟩, hS.F ht⟩) hS.2.2 dk_J1_charAt_3b067_14
theorem dk_J0_charAt_5068e_0 : decode cJ0_charAt_5068e 0 = .ok (.aload_n 0, 1) := by decide +kernel
theorem dk_J0_charAt_5068e_1 : decode cJ0_charAt_5068e 1 = .ok (.invokevirtual 492, 3) := by decide +kernel
theorem dk_J0_charAt_5068e_4 : decode cJ0_charAt_5068e 4 = .ok (.ifCond .eq 12, 3) := by decide +kernel
theorem dk_J0_charAt_5068e_7 : decode cJ0_charAt_5068e 7 = .ok (.aload_n 0, 1) := by decide +kernel
theorem dk_J0_charAt_5068e_8 : decode cJ0_charAt_5068e 8 = .ok (.getfield 9, 3) := by decide +kernel
theorem dk_J0_charAt_5068e_11 : decode cJ0_charAt_5068e 11 = .ok (.iload_n 1, 1) := by decide +kernel
theorem dk_J0_charAt_5068e_12 : decode cJ0_charAt_5068e 12 = .ok (.invokestatic 495, 3) := by decide +kernel
theorem dk_J0_charAt_5068e_15 : decode cJ0_charAt_5068e 15 = .ok (.ireturn, 1) := by decide +kernel
theorem dk_J0_charAt_5068e_16 : decode cJ0_charAt_5068e 16 = .ok (.aload_n 0, 1) := by decide +kernel
theorem dk_J0_charAt_5068e_17 : decode cJ0_charAt_5068e 17 = .ok (.getfield 9, 3) := by decide +kernel
theorem dk_J0_charAt_5068e_20 : decode cJ0_charAt_5068e 20 = .ok (.iload_n 1, 1) := by decide +kernel
theorem dk_J0_charAt_5068e_21 : decode cJ0_charAt_5068e 21 = .ok (.invokestatic 498, 3) := by decide +kernel
theorem dk_J0_charAt_5068e_24 : decode cJ0_charAt_5068e 24 = .ok (.ireturn, 1) := by decide +kernel
set_option maxRecDepth 100000 in
set_option maxHeartbeats 1000000 in
theorem sj_J0_charAt_5068e (l : Launch) (adK adV : Nat → Nat) (i : Nat) (hi : i < 8) (j : Nat) (hj : j < ab_sl.getD i 0) (sz : Nat) : Met l yJ0_charAt_5068e (.code yJ0_charAt_5068e cJ0_charAt_5068e 2 (some .char) :: ab_TB) { frames := 4, cells := 0, slots := 0, locals := 64 } (sj_Pc [.ref (adK i), .int (Int32.ofNat j)] adK adV sz) (va_Qi (fun (r : Int32) (_ : Unit) => r = (sj_c i j)) (fun _ _ => True) (fun q => sz ≤ q)) 0 0 (fun q => sz ≤ q) := by
  refine va_MetF (cc := cJ0_charAt_5068e) (maxL := 2) (ret := some .char) (by decide +kernel) rfl ?_
  intro p e s m args below meth c s₁ B hml hv
  obtain ⟨rfl, hsz, hZ⟩ := hv
  have hx := B.exec
  have hb := B.bytes
  have hr := B.returns
  have hts0 := atoms_spec (ws := .code yJ0_charAt_5068e cJ0_charAt_5068e 2 (some .char) :: ab_TB) B.pre
  have hts : ∀ w ∈ ab_TB, w.before ([.ref (adK i), .int (Int32.ofNat j)] : List Value).toArray s = true := fun w hw => hts0 w (List.mem_cons_of_mem _ hw)
  have hown : s.vm.findClass RJ0 = some m.cls := findClass_of_methodNamed B.named
  have hlocks := B.notSynchronized
  subst hsz
  have hS : va_S (fun q => s.heap.size ≤ q) s.heap s.heap [] := va_S.rf
  have hl := lv_entry ([.ref (adK i), .int (Int32.ofNat j)] : List Value) (n := 2) (Nat.le_of_ble_eq_true rfl)
  rw [lg_entry_eq]
  generalize (lg_sl ([.ref (adK i), .int (Int32.ofNat j)] : List Value) ++ List.replicate (2 - (lg_sl ([.ref (adK i), .int (Int32.ofNat j)] : List Value)).length) Slot.unset).toArray = ls at hl ⊢
  have hl : lv_has ls 2 [(0, .ref (adK i)), (1, .int (Int32.ofNat j))] := hl
  refine lv_aload_n hx hb dk_J0_charAt_5068e_0 rfl (lv_at hl 0 rfl) ?_
  refine va_calli (va_runV (mc := 0) (ms := 0) (As := []) (rest := []) ⟨hx, hb, hml, hown, hts⟩ (sj_J0_isLatin1_aae02 l adK adV i hi s.heap.size) ⟨callB_of 0 hts (ab_good (y := yJ0_isLatin1_aae02) (b := cJ0_isLatin1_aae02) (mL := 1) (ret := some .boolean) (by decide +kernel)) rfl rfl rfl (sj_hts hts (w := .initialized yJ0_isLatin1_aae02.cls) (by decide +kernel)) (sj_hts hts (w := .methodLink RJ0 492 yJ0_isLatin1_aae02) (by decide +kernel)) ⟨by decide +kernel, by decide +kernel, by decide +kernel⟩ ⟨Nat.le_of_ble_eq_true rfl, Nat.le_of_ble_eq_true rfl⟩, (sj_hts hts (w := .instanceMethod yJ0_isLatin1_aae02) (by decide +kernel)), (sj_hts hts (w := .selects RJ0 yJ0_isLatin1_aae02 yJ0_isLatin1_aae02) (by decide +kernel))⟩ ⟨sj_blind, vk_recv hZ.1 hi hS, fun U hU hW => ⟨rfl, by rw [hU], hZ.to hS hW hU (fun q hq => Nat.le_trans hS.1 hq)⟩⟩ rfl rfl hl.1 rfl (lv_room (Nat.le_of_ble_eq_true rfl)) dk_J0_charAt_5068e_1 ⟨Nat.zero_le _, Nat.zero_le _⟩) hS (fun q h1 h2 => absurd h1 (Nat.not_lt.mpr h2)) (fun q hq => Nat.le_trans hS.1 hq) (fun r u t H1 locs1 ht hvm hw hB hsz1 hk1 hS => ?_)
  subst hw
  refine lv_if_eq (tgt := 16) hx hb dk_J0_charAt_5068e_4 (by decide) (fun h => absurd h (by decide)) (fun _ => ?_)
  refine lv_aload_n hx hb dk_J0_charAt_5068e_7 rfl (lv_at hl 0 rfl) ?_
  refine vk_getf (o := "java/lang/String") (n := "value") (d := "[B") (own := RJ0) (ref := "java/lang/String") (index := 9) hx hb (hZ.1.1 i hi).2.2.1 hS hown (sj_hts hts (w := .fieldLink RJ0 9 "java/lang/String" "value" "[B") (by decide +kernel)) (fun _ h => h) dk_J0_charAt_5068e_8 ?_
  refine lv_iload_n hx hb dk_J0_charAt_5068e_11 rfl (lv_at hl 1 rfl) ?_
  have hH1 := hsz1
  refine va_calli (va_runS (mc := 0) (ms := 0) (As := [.ref (adV i), .int (Int32.ofNat j)]) (rest := []) ⟨hx, hb, hml, hown, hts⟩ (sj_J1_charAt_3b067 l adK adV i hi j hj H1.size) ⟨callB_of 2 hts (ab_good (y := yJ1_charAt_3b067) (b := cJ1_charAt_3b067) (mL := 2) (ret := some .char) (by decide +kernel)) rfl rfl rfl (sj_hts hts (w := .initialized yJ1_charAt_3b067.cls) (by decide +kernel)) (sj_hts hts (w := .methodLink RJ0 495 yJ1_charAt_3b067) (by decide +kernel)) ⟨by decide +kernel, by decide +kernel, by decide +kernel⟩ ⟨Nat.le_of_ble_eq_true rfl, Nat.le_of_ble_eq_true rfl⟩, (sj_hts hts (w := .static yJ1_charAt_3b067) (by decide +kernel))⟩ ⟨sj_blind, fun U hU hW => ⟨rfl, by rw [hU], hZ.to hS hW hU (fun q hq => Nat.le_trans hS.1 hq)⟩⟩ rfl rfl hl.1 rfl (lv_room (Nat.le_of_ble_eq_true rfl)) dk_J0_charAt_5068e_12 ⟨Nat.zero_le _, Nat.zero_le _⟩) hS (fun q h1 h2 => absurd h1 (Nat.not_lt.mpr h2)) (fun q hq => Nat.le_trans hS.1 hq) (fun r u t H1 locs1 ht hvm hw hB hsz1 hk1 hS => ?_)
  subst hw
  exact W.zret (v := sj_c i j) (ty := .char) hx hb hr (sj_nar i hi j hj) (fun t ht hW => ⟨⟨_, (), rfl, rfl, trivial⟩, hS.F ht⟩) hS.2.2 dk_J0_charAt_5068e_15
