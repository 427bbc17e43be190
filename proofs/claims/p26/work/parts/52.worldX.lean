/-! THE WHOLE OBJECT'S WORLD, and small helps of the class -/
def xz_cs (u : Int) (r : rw_T) (q : rw_T) (o : List (Option Nat)) (h0 : rw_T) (h1 : rw_T) (h2 : rw_T) (h3 : rw_T) (h4 : rw_T) (h5 : rw_T) (s0 : rw_T) (s1 : rw_T) (z : Int → Int) (p : pd_T) (f : Int → Int) : List ab_C := [.inl (2, [.inr (.inl (some 1)), .inr (.inl (some 6)), .inr (.inl (some 11)), .inl u, .inr (.inl (some 42)), .inr (.inl (some 53)), .inr (.inl (some 54)), .inr (.inl (some 57))]), .inl (1, [.inr (.inl (some 2)), .inr (.inl (some 3)), .inr (.inl (some 4)), .inr (.inl (some 5)), .inl r.2.2.2.2.1, .inl r.2.2.2.2.2.1, .inl r.2.2.2.2.2.2]), .inr (.inl (0, 60, r.1)), .inr (.inl (0, 60, r.2.1)), .inr (.inl (0, 60, r.2.2.1)), .inr (.inl (0, 60, r.2.2.2.1)), .inl (1, [.inr (.inl (some 7)), .inr (.inl (some 8)), .inr (.inl (some 9)), .inr (.inl (some 10)), .inl q.2.2.2.2.1, .inl q.2.2.2.2.2.1, .inl q.2.2.2.2.2.2]), .inr (.inl (0, 60, q.1)), .inr (.inl (0, 60, q.2.1)), .inr (.inl (0, 60, q.2.2.1)), .inr (.inl (0, 60, q.2.2.2.1)), .inr (.inr o), .inl (1, [.inr (.inl (some 13)), .inr (.inl (some 14)), .inr (.inl (some 15)), .inr (.inl (some 16)), .inl h0.2.2.2.2.1, .inl h0.2.2.2.2.2.1, .inl h0.2.2.2.2.2.2]), .inr (.inl (0, 60, h0.1)), .inr (.inl (0, 60, h0.2.1)), .inr (.inl (0, 60, h0.2.2.1)), .inr (.inl (0, 60, h0.2.2.2.1)), .inl (1, [.inr (.inl (some 18)), .inr (.inl (some 19)), .inr (.inl (some 20)), .inr (.inl (some 21)), .inl h1.2.2.2.2.1, .inl h1.2.2.2.2.2.1, .inl h1.2.2.2.2.2.2]), .inr (.inl (0, 60, h1.1)), .inr (.inl (0, 60, h1.2.1)), .inr (.inl (0, 60, h1.2.2.1)), .inr (.inl (0, 60, h1.2.2.2.1)), .inl (1, [.inr (.inl (some 23)), .inr (.inl (some 24)), .inr (.inl (some 25)), .inr (.inl (some 26)), .inl h2.2.2.2.2.1, .inl h2.2.2.2.2.2.1, .inl h2.2.2.2.2.2.2]), .inr (.inl (0, 60, h2.1)), .inr (.inl (0, 60, h2.2.1)), .inr (.inl (0, 60, h2.2.2.1)), .inr (.inl (0, 60, h2.2.2.2.1)), .inl (1, [.inr (.inl (some 28)), .inr (.inl (some 29)), .inr (.inl (some 30)), .inr (.inl (some 31)), .inl h3.2.2.2.2.1, .inl h3.2.2.2.2.2.1, .inl h3.2.2.2.2.2.2]), .inr (.inl (0, 60, h3.1)), .inr (.inl (0, 60, h3.2.1)), .inr (.inl (0, 60, h3.2.2.1)), .inr (.inl (0, 60, h3.2.2.2.1)), .inl (1, [.inr (.inl (some 33)), .inr (.inl (some 34)), .inr (.inl (some 35)), .inr (.inl (some 36)), .inl h4.2.2.2.2.1, .inl h4.2.2.2.2.2.1, .inl h4.2.2.2.2.2.2]), .inr (.inl (0, 60, h4.1)), .inr (.inl (0, 60, h4.2.1)), .inr (.inl (0, 60, h4.2.2.1)), .inr (.inl (0, 60, h4.2.2.2.1)), .inl (1, [.inr (.inl (some 38)), .inr (.inl (some 39)), .inr (.inl (some 40)), .inr (.inl (some 41)), .inl h5.2.2.2.2.1, .inl h5.2.2.2.2.2.1, .inl h5.2.2.2.2.2.2]), .inr (.inl (0, 60, h5.1)), .inr (.inl (0, 60, h5.2.1)), .inr (.inl (0, 60, h5.2.2.1)), .inr (.inl (0, 60, h5.2.2.2.1)), .inr (.inr [some 43, some 48]), .inl (1, [.inr (.inl (some 44)), .inr (.inl (some 45)), .inr (.inl (some 46)), .inr (.inl (some 47)), .inl s0.2.2.2.2.1, .inl s0.2.2.2.2.2.1, .inl s0.2.2.2.2.2.2]), .inr (.inl (0, 60, s0.1)), .inr (.inl (0, 60, s0.2.1)), .inr (.inl (0, 60, s0.2.2.1)), .inr (.inl (0, 60, s0.2.2.2.1)), .inl (1, [.inr (.inl (some 49)), .inr (.inl (some 50)), .inr (.inl (some 51)), .inr (.inl (some 52)), .inl s1.2.2.2.2.1, .inl s1.2.2.2.2.2.1, .inl s1.2.2.2.2.2.2]), .inr (.inl (0, 60, s1.1)), .inr (.inl (0, 60, s1.2.1)), .inr (.inl (0, 60, s1.2.2.1)), .inr (.inl (0, 60, s1.2.2.2.1)), .inr (.inl (2, 2, z)), .inl (0, [.inr (.inl (some 55)), .inl p.2.2.1, .inl p.2.2.2.1, .inl p.2.2.2.2, .inr (.inl (some 56))]), .inr (.inl (1, 80, p.1)), .inr (.inl (0, 3, p.2.1)), .inr (.inl (0, 60, f))]
theorem ab_rarrI {k : Nat} {cs : List ab_C} {l : List (Option Nat)} {f : List (Option Nat) → Prop} (h : cs[k]? = some (.inr (.inr l))) (hl : l.length < 1000000) (hf : f l) : ab_rarr k cs f := by
  unfold ab_rarr
  rw [h]
  dsimp only
  rw [show Nat.blt l.length 1000000 = true from Nat.ble_eq_true_of_le hl]
  exact hf
theorem ab_objI {ci k : Nat} {cs : List ab_C} {f : Prop} (h : ∃ fs, cs[k]? = some (.inl (ci, fs))) (hf : f) : ab_obj ci k cs f := by
  obtain ⟨fs, h⟩ := h
  unfold ab_obj
  rw [h]
  dsimp only
  rw [show Nat.beq ci ci = true from Nat.beq_refl ci]
  exact hf
/-- the same of a class that the machine has entries for -/
theorem ab_MT.ofF {l : Launch} {y : MethodName} {cc : ByteArray} {nL : Nat} {ty fr lc : Nat} {own : String} {E : ab_E} {P : List ab_I} {M : List (Nat × ab_MI)} {sp : ab_Sp} (hy : plainFor y = true) (hown : y.cls = own) (hty : E.2.2.2 = ty) (hT : ab_okT own E.1 = true) (hP0 : P.all (ab_okI cc) = true) (hP1 : P.all (ab_okC1 own M E (fr, lc)) = true) (hC : ab_CT l M E)
    (h : ∀ (av : List ab_V) (cs : List ab_C) (Q : ab_Q), sp av cs Q → (ab_lv0 av).length ≤ nL ∧ ab_R E P Q 0 (ab_ent av nL) [] cs) : ab_MT l (y, cc, nL, ab_rty ty, fr, lc) sp := by
  intro G ad av cs Q sz hsp
  obtain ⟨hlen, hR⟩ := h av cs Q hsp
  refine va_MetF (cc := cc) (maxL := nL) (ret := ab_rty ty) hy rfl ?_
  intro p e s m args below meth c s₁ B hml hv
  obtain ⟨rfl, hsz, hP, hKK, hD0, hZ⟩ := hv
  have hx := B.exec
  have hb := B.bytes
  have hr := B.returns
  have hts0 := atoms_spec (ws := .code y cc nL (ab_rty ty) :: ab_TB) B.pre
  have hts : ∀ w ∈ ab_TB, w.before (av.map (ab_c ad)).toArray s = true := fun w hw => hts0 w (List.mem_cons_of_mem _ hw)
  have hfc : s.vm.findClass own = some m.cls := by rw [← hown]; exact findClass_of_methodNamed B.named
  have hlocks := B.notSynchronized
  subst hsz
  have X : ab_X own cc nL p s m (av.map (ab_c ad)).toArray meth c G := ⟨hx, hb, hml, hfc, hts, hKK, hlocks⟩
  have hD : ab_Dn (ab_A ad cs.length s.heap.size) ad cs.length := ⟨hD0.1, fun k hk => Or.inl ⟨k, hk, rfl⟩⟩
  have hW := ab_sound (R := { frames := fr, cells := 0, slots := 0, locals := lc }) (cells := 0) (slots := 0) (below := below) (e := e) X hZ (by rw [hty]; exact hr) hT hP0 hP1 hC hD (fun q hq => Or.inr hq) ⟨Nat.le_refl 0, Nat.le_refl 0⟩ hR
  rw [lg_entry_eq]
  have hle := ab_lv0_len ad av
  have hl := lv_entry (av.map (ab_c ad)) (n := nL) (by rw [← hle]; exact hlen)
  refine hW rfl s.heap [] _ hP va_S.rf ⟨hl.1, hl.2.1, ?_, fun i v hi => ?_⟩
  · unfold ab_ent
    rw [List.length_append, List.length_replicate]
    omega
  · unfold ab_ent at hi
    have hil : i < (ab_lv0 av).length := by
      rcases Nat.lt_or_ge i (ab_lv0 av).length with q | q
      · exact q
      · rw [List.getElem?_append_right q] at hi
        have := List.eq_of_mem_replicate (List.mem_of_getElem? hi)
        cases this
    rw [List.getElem?_append_left hil] at hi
    have := ab_lv0_at ad av 0 i v hi
    rw [Nat.zero_add] at this
    exact hl.2.2 _ this
def T_J9 : ab_T := ([], [], [])
theorem tk_J9 : ab_okT "java/lang/Math" T_J9 = true := by decide +kernel
def sp_J9_floorMod_7cf53 : ab_Sp := fun av cs Q => ∃ (a b : Int), av = [.inl a, .inl b] ∧ ab_r a ∧ ab_r b ∧ 0 < b ∧ Q (some (.inl (a % b))) cs
def sp_X2_outside : ab_Sp := fun av cs Q => ∃ (v g : Int), av = [.inl v, .inl g] ∧ ab_r v ∧ 0 ≤ g ∧ g ≤ 100000 ∧ Q (some (.inl (if -g ≤ v ∧ v ≤ g then 0 else 1))) cs
def sp_X2_rolledOff : ab_Sp := fun av cs Q => ∃ (a b v : Int), av = [.inl a, .inl b, .inl v] ∧ 0 ≤ a ∧ a ≤ b ∧ b ≤ 1000 ∧ ab_r v ∧ Q (some (.inl (v % (b - a + 1)))) cs
def P_J9_floorMod_7cf53 : List ab_I := [(0, .iload_n 0, 1, []), (1, .iload_n 1, 2, []), (2, .irem, 3, []), (3, .istore_n 2, 4, []), (4, .iload_n 0, 5, []), (5, .iload_n 1, 6, []), (6, .ixor, 7, []), (7, .ifCond .ge 11, 10, [((0 : Int), 18)]), (10, .iload_n 2, 11, []), (11, .ifCond .eq 7, 14, [((0 : Int), 18)]), (14, .iload_n 2, 15, []), (15, .iload_n 1, 16, []), (16, .iadd, 17, []), (17, .ireturn, 18, []), (18, .iload_n 2, 19, []), (19, .ireturn, 20, [])]
def E_J9_floorMod_7cf53 : ab_E := (T_J9, [], [], 0)
def M_J9_floorMod_7cf53 : List (Nat × ab_MI) := []
def mi_J9_floorMod_7cf53 : ab_MI := (yJ9_floorMod_7cf53, cJ9_floorMod_7cf53, 3, ab_rty 0, 1, 70)
theorem pk_J9_floorMod_7cf53 : P_J9_floorMod_7cf53.all (ab_okI cJ9_floorMod_7cf53) = true := by decide +kernel
theorem ck_J9_floorMod_7cf53 : P_J9_floorMod_7cf53.all (ab_okC1 "java/lang/Math" M_J9_floorMod_7cf53 E_J9_floorMod_7cf53 (1, 70)) = true := by decide +kernel
set_option maxRecDepth 100000 in
theorem b_J9_floorMod_7cf53_0 {Q : ab_Q} {a : Int} {b : Int} {cs : List ab_C} (l1 : (0 : Int) ≤ ((Int32.ofInt a ^^^ Int32.ofInt b).toInt) → Q (some (.inl ((a).tmod b))) cs) (l2 : ((Int32.ofInt a ^^^ Int32.ofInt b).toInt) < (0 : Int) → ((a).tmod b) = (0 : Int) → Q (some (.inl ((a).tmod b))) cs) (l3 : ((Int32.ofInt a ^^^ Int32.ofInt b).toInt) < (0 : Int) → ¬ ((a).tmod b) = (0 : Int) → Q (some (.inl (((a).tmod b) + b))) cs) (p1 : (ab_r a ∧ ab_r b ∧ ¬ b = 0) := by intros; (try unfold ab_r); omega) (p2 : ab_r ((Int32.ofInt a ^^^ Int32.ofInt b).toInt) := by intros; (try unfold ab_r); omega) (p3 : ((Int32.ofInt a ^^^ Int32.ofInt b).toInt) < (0 : Int) → ab_r ((a).tmod b) := by intros; (try unfold ab_r); omega) : ab_R E_J9_floorMod_7cf53 P_J9_floorMod_7cf53 Q 0 [some (.inl a), some (.inl b), none] [] cs :=
  ab_R.steps [] 15 (show ((ab_r a ∧ ab_r b ∧ ¬ b = 0) ∧ (ab_r ((Int32.ofInt a ^^^ Int32.ofInt b).toInt) ∧ (((0 : Int) ≤ ((Int32.ofInt a ^^^ Int32.ofInt b).toInt) → Q (some (.inl ((a).tmod b))) cs) ∧ (((Int32.ofInt a ^^^ Int32.ofInt b).toInt) < (0 : Int) → (ab_r ((a).tmod b) ∧ ((((a).tmod b) = (0 : Int) → Q (some (.inl ((a).tmod b))) cs) ∧ (¬ ((a).tmod b) = (0 : Int) → Q (some (.inl (((a).tmod b) + b))) cs))))))) from ⟨p1, ⟨p2, ⟨fun h1 => (l1 h1), fun h2 => ⟨(p3 h2), ⟨fun h3 => (l2 h2 h3), fun h4 => (l3 h2 h4)⟩⟩⟩⟩⟩)
def P_X2_outside : List ab_I := [(0, .iload_n 0, 1, []), (1, .iload_n 1, 2, []), (2, .ineg, 3, []), (3, .if_icmp .lt 8, 6, [((0 : Int), 11)]), (6, .iload_n 0, 7, []), (7, .iload_n 1, 8, []), (8, .if_icmp .le 7, 11, [((0 : Int), 15)]), (11, .iconst 1, 12, []), (12, .goto 4, 15, [((0 : Int), 16)]), (15, .iconst 0, 16, []), (16, .ireturn, 17, [])]
def E_X2_outside : ab_E := (T_X2, [], [], 2)
def M_X2_outside : List (Nat × ab_MI) := []
def mi_X2_outside : ab_MI := (yX2_outside, cX2_outside, 2, ab_rty 2, 1, 70)
theorem pk_X2_outside : P_X2_outside.all (ab_okI cX2_outside) = true := by decide +kernel
theorem ck_X2_outside : P_X2_outside.all (ab_okC1 "RootChunks" M_X2_outside E_X2_outside (1, 70)) = true := by decide +kernel
set_option maxRecDepth 100000 in
theorem b_X2_outside_0 {Q : ab_Q} {v : Int} {g : Int} {cs : List ab_C} (l1 : v < (-g) → Q (some (.inl 1)) cs) (l2 : (-g) ≤ v → v ≤ g → Q (some (.inl 0)) cs) (l3 : (-g) ≤ v → g < v → Q (some (.inl 1)) cs) (p1 : (ab_r v ∧ ab_r (-g)) := by intros; (try unfold ab_r); omega) (p2 : v < (-g) → ((1 : Int) = 0 ∨ (1 : Int) = 1) := by intros; (try unfold ab_r); omega) (p3 : (-g) ≤ v → (ab_r v ∧ ab_r g) := by intros; (try unfold ab_r); omega) (p4 : (-g) ≤ v → v ≤ g → ((0 : Int) = 0 ∨ (0 : Int) = 1) := by intros; (try unfold ab_r); omega) (p5 : (-g) ≤ v → g < v → ((1 : Int) = 0 ∨ (1 : Int) = 1) := by intros; (try unfold ab_r); omega) : ab_R E_X2_outside P_X2_outside Q 0 [some (.inl v), some (.inl g)] [] cs :=
  ab_R.steps [] 11 (show ((ab_r v ∧ ab_r (-g)) ∧ ((v < (-g) → (((1 : Int) = 0 ∨ (1 : Int) = 1) ∧ Q (some (.inl 1)) cs)) ∧ ((-g) ≤ v → ((ab_r v ∧ ab_r g) ∧ ((v ≤ g → (((0 : Int) = 0 ∨ (0 : Int) = 1) ∧ Q (some (.inl 0)) cs)) ∧ (g < v → (((1 : Int) = 0 ∨ (1 : Int) = 1) ∧ Q (some (.inl 1)) cs))))))) from ⟨p1, ⟨fun h1 => ⟨(p2 h1), (l1 h1)⟩, fun h2 => ⟨(p3 h2), ⟨fun h3 => ⟨(p4 h2 h3), (l2 h2 h3)⟩, fun h4 => ⟨(p5 h2 h4), (l3 h2 h4)⟩⟩⟩⟩⟩)
def P_X2_rolledOff : List ab_I := [(0, .iload_n 1, 1, []), (1, .iload_n 0, 2, []), (2, .isub, 3, []), (3, .iconst 1, 4, []), (4, .iadd, 5, []), (5, .istore_n 3, 6, []), (6, .iload_n 3, 7, []), (7, .iconst 1, 8, []), (8, .if_icmp .ge 7, 11, [((0 : Int), 15)]), (11, .iconst 0, 12, []), (12, .goto 8, 15, [((0 : Int), 20)]), (15, .iload_n 2, 16, []), (16, .iload_n 3, 17, []), (17, .invokestatic 203, 20, []), (20, .ireturn, 21, [])]
def E_X2_rolledOff : ab_E := (T_X2, [(17, (2, 99, [], 0, sp_J9_floorMod_7cf53))], [], 0)
def M_X2_rolledOff : List (Nat × ab_MI) := [(17, mi_J9_floorMod_7cf53)]
def mi_X2_rolledOff : ab_MI := (yX2_rolledOff, cX2_rolledOff, 4, ab_rty 0, 2, 92)
theorem pk_X2_rolledOff : P_X2_rolledOff.all (ab_okI cX2_rolledOff) = true := by decide +kernel
theorem ck_X2_rolledOff : P_X2_rolledOff.all (ab_okC1 "RootChunks" M_X2_rolledOff E_X2_rolledOff (2, 92)) = true := by decide +kernel
set_option maxRecDepth 100000 in
theorem b_X2_rolledOff_0 {Q : ab_Q} {a : Int} {b : Int} {v : Int} {cs : List ab_C} (l1 : (1 : Int) ≤ ((b - a) + 1) → sp_J9_floorMod_7cf53 [.inl v, .inl ((b - a) + 1)] cs (fun r_ k_ => ∃ (x_ : Int), r_ = some (.inl x_) ∧ k_ = cs ∧ ab_R E_X2_rolledOff P_X2_rolledOff Q 20 [some (.inl a), some (.inl b), some (.inl v), some (.inl ((b - a) + 1))] [.inl x_] cs)) (l2 : ((b - a) + 1) < (1 : Int) → ab_R E_X2_rolledOff P_X2_rolledOff Q 20 [some (.inl a), some (.inl b), some (.inl v), some (.inl ((b - a) + 1))] [.inl 0] cs) (p1 : (ab_r ((b - a) + 1) ∧ ab_r 1) := by intros; (try unfold ab_r); omega) : ab_R E_X2_rolledOff P_X2_rolledOff Q 0 [some (.inl a), some (.inl b), some (.inl v), none] [] cs :=
  ab_R.steps [20] 13 (show ((ab_r ((b - a) + 1) ∧ ab_r 1) ∧ (((1 : Int) ≤ ((b - a) + 1) → ab_cl sp_J9_floorMod_7cf53 [.inl v, .inl ((b - a) + 1)] cs (fun r_ k_ => k_.length = (cs).length → ab_R E_X2_rolledOff P_X2_rolledOff Q 20 [some (.inl a), some (.inl b), some (.inl v), some (.inl ((b - a) + 1))] (ab_ret r_ []) k_)) ∧ (((b - a) + 1) < (1 : Int) → ab_R E_X2_rolledOff P_X2_rolledOff Q 20 [some (.inl a), some (.inl b), some (.inl v), some (.inl ((b - a) + 1))] [.inl 0] cs))) from ⟨p1, ⟨fun h1 => ⟨_, (l1 h1), fun r_ k_ hz _ => by obtain ⟨x_, rfl, rfl, hR⟩ := hz; exact hR⟩, fun h2 => (l2 h2)⟩⟩)
set_option maxRecDepth 100000 in
theorem b_X2_rolledOff_20 {Q : ab_Q} {a : Int} {b : Int} {v : Int} {sz : Int} {t0 : Int} {cs : List ab_C} (l1 : Q (some (.inl t0)) cs)  : ab_R E_X2_rolledOff P_X2_rolledOff Q 20 [some (.inl a), some (.inl b), some (.inl v), some (.inl sz)] [.inl t0] cs :=
  ab_R.steps [20] 2 (show Q (some (.inl t0)) cs from l1)
theorem mx_xor {a b : Int} (ha : ab_r a) (hb : ab_r b) (h0 : 0 < b) : (Int32.ofInt a ^^^ Int32.ofInt b).toInt < 0 ↔ a < 0 := by
  have e : ((Int32.ofInt a ^^^ Int32.ofInt b).toBitVec).msb = ((Int32.ofInt a).toBitVec.msb ^^ (Int32.ofInt b).toBitVec.msb) := BitVec.msb_xor
  rw [BitVec.msb_eq_toInt, BitVec.msb_eq_toInt, BitVec.msb_eq_toInt] at e
  have e1 : (Int32.ofInt a).toBitVec.toInt = a := ab_toI ha
  have e2 : (Int32.ofInt b).toBitVec.toInt = b := ab_toI hb
  have e3 : (Int32.ofInt a ^^^ Int32.ofInt b).toBitVec.toInt = (Int32.ofInt a ^^^ Int32.ofInt b).toInt := rfl
  rw [e1, e2, e3] at e
  rw [show decide (b < 0) = false from decide_eq_false (by omega)] at e
  constructor
  · intro h
    rw [decide_eq_true h] at e
    by_cases g : a < 0
    · exact g
    · rw [decide_eq_false g] at e; cases e
  · intro h
    rw [decide_eq_true h] at e
    by_cases g : (Int32.ofInt a ^^^ Int32.ofInt b).toInt < 0
    · exact g
    · rw [decide_eq_false g] at e; cases e
theorem vc_J9_floorMod_7cf53 {av : List ab_V} {cs : List ab_C} {Q : ab_Q} (h : sp_J9_floorMod_7cf53 av cs Q) : (ab_lv0 av).length ≤ 3 ∧ ab_R E_J9_floorMod_7cf53 P_J9_floorMod_7cf53 Q 0 (ab_ent av 3) [] cs := by
  obtain ⟨a, b, rfl, ha, hb, h0, hQ⟩ := h
  refine ⟨Nat.le_of_ble_eq_true rfl, ?_⟩
  have hx := mx_xor ha hb h0
  obtain ⟨t1, t2, t3, t4, t5, t6⟩ := mf_tmod a b h0
  have hs : 0 ≤ a → 0 ≤ a.tmod b := fun h => Int.tmod_nonneg b h
  have hs2 : a < 0 → a.tmod b ≤ 0 := fun h => by
    have := Int.tmod_nonneg b (a := -a) (by omega)
    rw [Int.neg_tmod] at this
    omega
  refine b_J9_floorMod_7cf53_0 (fun h => ?_) (fun h e => ?_) (fun h e => ?_) (p1 := ⟨ha, hb, by omega⟩) (p2 := mb_ri _) (p3 := fun _ => by unfold ab_r at hb ⊢; omega)
  · rw [t1 (hs (by omega))]; exact hQ
  · rw [t1 (by omega)]; exact hQ
  · rw [t2 (by have := hs2 (hx.mp h); omega)]; exact hQ
theorem mt_J9_floorMod_7cf53 (l : Launch) : ab_MT l mi_J9_floorMod_7cf53 sp_J9_floorMod_7cf53 := ab_MT.ofF (own := "java/lang/Math") (E := E_J9_floorMod_7cf53) (P := P_J9_floorMod_7cf53) (M := M_J9_floorMod_7cf53) (nL := 3) (ty := 0) (by decide +kernel) rfl rfl tk_J9 pk_J9_floorMod_7cf53 ck_J9_floorMod_7cf53 ab_CT'.nil (fun av cs Q h => vc_J9_floorMod_7cf53 h)
theorem vc_X2_outside {av : List ab_V} {cs : List ab_C} {Q : ab_Q} (h : sp_X2_outside av cs Q) : (ab_lv0 av).length ≤ 2 ∧ ab_R E_X2_outside P_X2_outside Q 0 (ab_ent av 2) [] cs := by
  obtain ⟨v, g, rfl, hv, h0, h1, hQ⟩ := h
  refine ⟨Nat.le_of_ble_eq_true rfl, ?_⟩
  unfold ab_r at hv
  refine b_X2_outside_0 (fun h => ?_) (fun h h2 => ?_) (fun h h2 => ?_)
  · rwa [if_neg (by omega)] at hQ
  · rwa [if_pos (by omega)] at hQ
  · rwa [if_neg (by omega)] at hQ
theorem mt_X2_outside (l : Launch) : ab_MT l mi_X2_outside sp_X2_outside := ab_MT.of (own := "RootChunks") (E := E_X2_outside) (P := P_X2_outside) (M := M_X2_outside) (nL := 2) (ty := 2) (by decide) rfl rfl tk_X2 pk_X2_outside ck_X2_outside ab_CT'.nil (fun av cs Q h => vc_X2_outside h)
theorem vc_X2_rolledOff {av : List ab_V} {cs : List ab_C} {Q : ab_Q} (h : sp_X2_rolledOff av cs Q) : (ab_lv0 av).length ≤ 4 ∧ ab_R E_X2_rolledOff P_X2_rolledOff Q 0 (ab_ent av 4) [] cs := by
  obtain ⟨a, b, v, rfl, h0, h1, h2, hv, hQ⟩ := h
  refine ⟨Nat.le_of_ble_eq_true rfl, ?_⟩
  exact b_X2_rolledOff_0 (fun _ => ⟨_, _, rfl, hv, by unfold ab_r; omega, by omega, _, rfl, rfl, b_X2_rolledOff_20 hQ⟩) (fun h => by omega)
theorem mt_X2_rolledOff (l : Launch) : ab_MT l mi_X2_rolledOff sp_X2_rolledOff := ab_MT.of (own := "RootChunks") (E := E_X2_rolledOff) (P := P_X2_rolledOff) (M := M_X2_rolledOff) (nL := 4) (ty := 0) (by decide) rfl rfl tk_X2 pk_X2_rolledOff ck_X2_rolledOff (ab_CT'.cons (mt_J9_floorMod_7cf53 l) ab_CT'.nil) (fun av cs Q h => vc_X2_rolledOff h)
