/-! FEWER LOCALS: what is wanted of fewer known locals holds of more -/
def ab_sub (a b : ab_L) : Prop := a.length = b.length ∧ ∀ i : Nat, a[i]? = b[i]? ∨ (a[i]? = some none ∧ ∃ v, b[i]? = some (some v) ∧ ab_c1 v = true)
theorem ab_sub.rf (a : ab_L) : ab_sub a a := ⟨rfl, fun _ => Or.inl rfl⟩
theorem ab_sub.at {a b : ab_L} (h : ab_sub a b) {i : Nat} {v : ab_V} (hi : a[i]? = some (some v)) : b[i]? = some (some v) := by
  rcases h.2 i with e | ⟨e, -⟩
  · rw [← e]; exact hi
  · rw [hi] at e; cases e
theorem ab_sub.set {a b : ab_L} (h : ab_sub a b) (i : Nat) (x : Option ab_V) : ab_sub (a.set i x) (b.set i x) := by
  refine ⟨by rw [List.length_set, List.length_set]; exact h.1, fun j => ?_⟩
  rw [List.getElem?_set, List.getElem?_set, h.1]
  by_cases e : i = j
  · rw [if_pos e, if_pos e]; exact Or.inl rfl
  · rw [if_neg e, if_neg e]; exact h.2 j
theorem ab_sub.nl {a b : ab_L} (h : ab_sub a b) {i : Nat} (hi : ab_nl a i = true) : ab_nl b i = true := by
  cases i with
  | zero => rfl
  | succ j =>
    have hi' : (match a[j]? with | some (some v) => ab_c1 v | _ => true) = true := hi
    show (match b[j]? with | some (some v) => ab_c1 v | _ => true) = true
    rcases h.2 j with e | ⟨e, v, e2, e3⟩
    · rw [← e]; exact hi'
    · rw [e2]; exact e3
theorem ab_ldI.sub {a b : ab_L} (hs : ab_sub a b) {i : Nat} {f g : Int → Prop} (h : ab_ldI a i f) (hfg : ∀ x, f x → g x) : ab_ldI b i g := by
  obtain ⟨x, h1, h2⟩ := ab_ldI.of h
  unfold ab_ldI
  rw [hs.at h1]
  exact hfg x h2
theorem ab_ldP.sub {a b : ab_L} (hs : ab_sub a b) {i : Nat} {f g : Option Nat → Prop} (h : ab_ldP a i f) (hfg : ∀ x, f x → g x) : ab_ldP b i g := by
  obtain ⟨x, h1, h2⟩ := ab_ldP.of h
  unfold ab_ldP
  rw [hs.at h1]
  exact hfg x h2
theorem ab_ldL.sub {a b : ab_L} (hs : ab_sub a b) {i : Nat} {f g : Int64 → Prop} (h : ab_ldL a i f) (hfg : ∀ x, f x → g x) : ab_ldL b i g := by
  obtain ⟨x, h1, h2⟩ := ab_ldL.of h
  unfold ab_ldL
  rw [hs.at h1]
  exact hfg x h2
theorem ab_st1.sub {a b : ab_L} (hs : ab_sub a b) {i : Nat} {v : ab_V} {f g : ab_L → Prop} (h : ab_st1 a i v f) (hfg : ∀ x y, ab_sub x y → f x → g y) : ab_st1 b i v g := by
  obtain ⟨h1, h2, h3⟩ := ab_st1.of h
  unfold ab_st1
  rw [hs.nl h1, show Nat.blt i b.length = true from Nat.ble_eq.mpr (hs.1 ▸ h2)]
  exact hfg _ _ (hs.set i _) h3
theorem ab_st2.sub {a b : ab_L} (hs : ab_sub a b) {i : Nat} {v : ab_V} {f g : ab_L → Prop} (h : ab_st2 a i v f) (hfg : ∀ x y, ab_sub x y → f x → g y) : ab_st2 b i v g := by
  obtain ⟨h1, h2, h3⟩ := ab_st2.of h
  unfold ab_st2
  rw [hs.nl h1, show Nat.blt (i + 1) b.length = true from Nat.ble_eq.mpr (hs.1 ▸ h2)]
  exact hfg _ _ ((hs.set i _).set (i + 1) _) h3
theorem ab_i1.mo {st : List ab_V} {f g : Int → List ab_V → Prop} (h : ab_i1 st f) (hfg : ∀ a r, f a r → g a r) : ab_i1 st g := by
  obtain ⟨a, r, rfl, h1⟩ := ab_i1.of h
  exact hfg _ _ h1
theorem ab_i2.mo {st : List ab_V} {f g : Int → Int → List ab_V → Prop} (h : ab_i2 st f) (hfg : ∀ a b r, f a b r → g a b r) : ab_i2 st g := by
  obtain ⟨a, b, r, rfl, h1⟩ := ab_i2.of h
  exact hfg _ _ _ h1
theorem ab_l1.mo {st : List ab_V} {f g : Int64 → List ab_V → Prop} (h : ab_l1 st f) (hfg : ∀ a r, f a r → g a r) : ab_l1 st g := by
  obtain ⟨a, r, rfl, h1⟩ := ab_l1.of h
  exact hfg _ _ h1
theorem ab_l2.mo {st : List ab_V} {f g : Int64 → Int64 → List ab_V → Prop} (h : ab_l2 st f) (hfg : ∀ a b r, f a b r → g a b r) : ab_l2 st g := by
  obtain ⟨a, b, r, rfl, h1⟩ := ab_l2.of h
  exact hfg _ _ _ h1
theorem ab_li.mo {st : List ab_V} {f g : Int64 → Int → List ab_V → Prop} (h : ab_li st f) (hfg : ∀ a b r, f a b r → g a b r) : ab_li st g := by
  obtain ⟨a, b, r, rfl, h1⟩ := ab_li.of h
  exact hfg _ _ _ h1
theorem ab_p1.mo {st : List ab_V} {f g : Nat → List ab_V → Prop} (h : ab_p1 st f) (hfg : ∀ a r, f a r → g a r) : ab_p1 st g := by
  obtain ⟨a, r, rfl, h1⟩ := ab_p1.of h
  exact hfg _ _ h1
theorem ab_pi.mo {st : List ab_V} {f g : Nat → Int → List ab_V → Prop} (h : ab_pi st f) (hfg : ∀ a b r, f a b r → g a b r) : ab_pi st g := by
  obtain ⟨a, b, r, rfl, h1⟩ := ab_pi.of h
  exact hfg _ _ _ h1
theorem ab_pii.mo {st : List ab_V} {f g : Nat → Int → Int → List ab_V → Prop} (h : ab_pii st f) (hfg : ∀ a b x r, f a b x r → g a b x r) : ab_pii st g := by
  obtain ⟨a, b, x, r, rfl, h1⟩ := ab_pii.of h
  exact hfg _ _ _ _ h1
theorem ab_br.mo {c : ClassFile.Cond} {a b : Int} {T F T' F' : Prop} (h : ab_br c a b T F) (hT : T → T') (hF : F → F') : ab_br c a b T' F' := by
  cases c <;> exact ⟨fun z => by first | exact hT (h.1 z) | exact hF (h.1 z), fun z => by first | exact hF (h.2 z) | exact hT (h.2 z)⟩
theorem ab_sw.mo {a : Int} {d : Nat} {f g : Nat → Prop} (hfg : ∀ t, f t → g t) : ∀ {r : List (Int × Nat)}, ab_sw a d f r → ab_sw a d g r
  | [], h => hfg _ h
  | (_, _) :: _, h => ⟨fun z => hfg _ (h.1 z), fun z => ab_sw.mo hfg (h.2 z)⟩
theorem ab_getf.mo {T : ab_T} {ix k : Nat} {cs : List ab_C} {f g : ab_V → Prop} (h : ab_getf T ix k cs f) (hfg : ∀ v, f v → g v) : ab_getf T ix k cs g := by
  unfold ab_getf at h ⊢
  split at h
  · split at h
    · exact hfg _ h
    · exact h
  · exact h
theorem ab_fit.mo {ty : Nat} {v : ab_V} {f g : Prop} (h : ab_fit ty v f) (hfg : f → g) : ab_fit ty v g := by
  unfold ab_fit at h ⊢
  split at h
  · exact hfg h
  · exact ⟨h.1, hfg h.2⟩
  · exact ⟨h.1, hfg h.2⟩
  · exact h
theorem ab_putf.mo {T : ab_T} {ix k : Nat} {v : ab_V} {cs : List ab_C} {f g : List ab_C → Prop} (h : ab_putf T ix k v cs f) (hfg : ∀ v, f v → g v) : ab_putf T ix k v cs g := by
  unfold ab_putf at h ⊢
  split at h
  · split at h
    · exact h.mo (hfg _)
    · exact h
  · exact h
theorem ab_arr.mo {t k : Nat} {cs : List ab_C} {f g : Nat → (Int → Int) → Prop} (h : ab_arr t k cs f) (hfg : ∀ n z, f n z → g n z) : ab_arr t k cs g := by
  unfold ab_arr at h ⊢
  split at h
  · split at h
    · exact hfg _ _ h
    · exact h
  · exact h
theorem ab_rarr.mo {k : Nat} {cs : List ab_C} {f g : List (Option Nat) → Prop} (h : ab_rarr k cs f) (hfg : ∀ n, f n → g n) : ab_rarr k cs g := by
  unfold ab_rarr at h ⊢
  split at h
  · split at h
    · exact hfg _ h
    · exact h
  · exact h
theorem ab_obj.mo {t k : Nat} {cs : List ab_C} {f g : Prop} (h : ab_obj t k cs f) (hfg : f → g) : ab_obj t k cs g := by
  unfold ab_obj at h ⊢
  split at h
  · split at h
    · exact hfg h
    · exact h
  · exact h
theorem ab_len.mo {k : Nat} {cs : List ab_C} {f g : Nat → Prop} (h : ab_len k cs f) (hfg : ∀ n, f n → g n) : ab_len k cs g := by
  unfold ab_len at h ⊢
  split at h
  · split at h
    · exact hfg _ h
    · exact h
  · exact hfg _ h
  · exact h
theorem ab_cl.mo {sp : ab_Sp} {av : List ab_V} {cs : List ab_C} {Q Q' : ab_Q} (h : ab_cl sp av cs Q) (hq : ∀ r c, Q r c → Q' r c) : ab_cl sp av cs Q' := by
  obtain ⟨Q0, h1, h2⟩ := h
  exact ⟨Q0, h1, fun r c q => hq r c (h2 r c q)⟩
theorem ab_rcv.mo {c n : Nat} {st : List ab_V} {cs : List ab_C} {f g : Prop} (h : ab_rcv c n st cs f) (hfg : f → g) : ab_rcv c n st cs g := by
  unfold ab_rcv at h ⊢
  split at h
  · exact hfg h
  · split at h
    · exact h.mo hfg
    · exact h
theorem ab_call.mo {ci : ab_CI} {st : List ab_V} {cs : List ab_C} {f g : List ab_V → List ab_C → Prop} (h : ab_call ci st cs f) (hfg : ∀ a b, f a b → g a b) : ab_call ci st cs g := by
  obtain ⟨n, c, is, n0, sp⟩ := ci
  unfold ab_call at h ⊢
  dsimp only at h ⊢
  split at h
  · refine h.mo (fun h => ?_)
    split at h
    · exact h.mo (fun r c q z => hfg _ _ (q z))
    · split at h
      · exact h.mo (fun r c q z => hfg _ _ (q z))
      · exact h
  · exact h
set_option maxHeartbeats 4000000 in
theorem ab_w_sub {E : ab_E} {Q : ab_Q} {K0 K1 : ab_K} {q : ab_I} {a b : ab_L} {st : List ab_V} {cs : List ab_C} (hs : ab_sub a b) (h : ab_w E Q K0 q a st cs) (hK : ∀ pc x y st cs, ab_sub x y → K0 pc x st cs → K1 pc y st cs) : ab_w E Q K1 q b st cs := by
  obtain ⟨pc, i, nx, tg⟩ := q
  have go : ∀ {pc st cs}, K0 pc a st cs → K1 pc b st cs := fun k => hK _ _ _ _ _ hs k
  cases i with
  | iconst n => exact go h
  | bipush n => exact go h
  | sipush n => exact go h
  | lconst n => exact go h
  | ldc ix =>
    unfold ab_w at h ⊢
    dsimp only at h ⊢
    split at h
    · exact go h
    · exact h
  | ldc2_w ix =>
    unfold ab_w at h ⊢
    dsimp only at h ⊢
    split at h
    · exact go h
    · exact h
  | iload_n k => exact ab_ldI.sub hs h (fun _ => go)
  | iload k => exact ab_ldI.sub hs h (fun _ => go)
  | aload_n k => exact ab_ldP.sub hs h (fun _ => go)
  | aload k => exact ab_ldP.sub hs h (fun _ => go)
  | lload_n k => exact ab_ldL.sub hs h (fun _ => go)
  | lload k => exact ab_ldL.sub hs h (fun _ => go)
  | istore_n k => exact ab_i1.mo h (fun x r z => ab_st1.sub hs z (fun _ _ u => hK _ _ _ _ _ u))
  | istore k => exact ab_i1.mo h (fun x r z => ab_st1.sub hs z (fun _ _ u => hK _ _ _ _ _ u))
  | astore_n k => exact ab_p1.mo h (fun x r z => ab_st1.sub hs z (fun _ _ u => hK _ _ _ _ _ u))
  | astore k => exact ab_p1.mo h (fun x r z => ab_st1.sub hs z (fun _ _ u => hK _ _ _ _ _ u))
  | lstore_n k => exact ab_l1.mo h (fun x r z => ab_st2.sub hs z (fun _ _ u => hK _ _ _ _ _ u))
  | lstore k => exact ab_l1.mo h (fun x r z => ab_st2.sub hs z (fun _ _ u => hK _ _ _ _ _ u))
  | iinc k n => exact ab_ldI.sub hs h (fun x z => ab_st1.sub hs z (fun _ _ u => hK _ _ _ _ _ u))
  | iadd => exact ab_i2.mo h (fun _ _ _ => go)
  | isub => exact ab_i2.mo h (fun _ _ _ => go)
  | imul => exact ab_i2.mo h (fun _ _ _ => go)
  | ineg => exact ab_i1.mo h (fun _ _ => go)
  | irem => exact ab_i2.mo h (fun _ _ _ z => ⟨z.1, go z.2⟩)
  | ixor => exact ab_i2.mo h (fun _ _ _ => go)
  | iand => exact ab_i2.mo h (fun _ _ _ => go)
  | i2l => exact ab_i1.mo h (fun _ _ => go)
  | l2i => exact ab_l1.mo h (fun _ _ => go)
  | i2c => exact ab_i1.mo h (fun _ _ z => ⟨z.1, go z.2⟩)
  | land => exact ab_l2.mo h (fun _ _ _ => go)
  | ladd => exact ab_l2.mo h (fun _ _ _ => go)
  | lmul => exact ab_l2.mo h (fun _ _ _ => go)
  | ishr => exact ab_i2.mo h (fun _ _ _ => go)
  | lor => exact ab_l2.mo h (fun _ _ _ => go)
  | lcmp => exact ab_l2.mo h (fun _ _ _ => go)
  | lushr => exact ab_li.mo h (fun _ _ _ => go)
  | lshl => exact ab_li.mo h (fun _ _ _ => go)
  | dup =>
    unfold ab_w at h ⊢
    dsimp only at h ⊢
    split at h
    · split at h
      · exact go h
      · exact h
    · exact h
  | dup2 =>
    unfold ab_w at h ⊢
    dsimp only at h ⊢
    split at h
    · split at h
      · exact go h
      · exact h
    · exact h
  | pop =>
    unfold ab_w at h ⊢
    dsimp only at h ⊢
    split at h
    · split at h
      · exact go h
      · exact h
    · exact h
  | ifCond c o => exact ab_i1.mo h (fun _ _ z => ⟨z.1, z.2.mo go go⟩)
  | if_icmp c o => exact ab_i2.mo h (fun _ _ _ z => ⟨z.1, z.2.mo go go⟩)
  | goto o => exact go h
  | tableswitch d lo hi offs => exact ab_i1.mo h (fun _ _ z => ⟨z.1, z.2.mo (fun _ => go)⟩)
  | getfield ix => exact ab_p1.mo h (fun _ _ z => z.mo (fun _ => go))
  | putfield ix =>
    unfold ab_w at h ⊢
    dsimp only at h ⊢
    split at h
    · exact ab_putf.mo h (fun _ => go)
    · exact h
  | iaload => exact ab_pi.mo h (fun _ _ _ z => z.mo (fun _ _ u => ⟨u.1, go u.2⟩))
  | caload => exact ab_pi.mo h (fun _ _ _ z => z.mo (fun _ _ u => ⟨u.1, go u.2⟩))
  | baload => exact ab_pi.mo h (fun _ _ _ z => z.mo (fun _ _ u => ⟨u.1, go u.2⟩))
  | iastore => exact ab_pii.mo h (fun _ _ _ _ z => z.mo (fun _ _ u => ⟨u.1, go u.2⟩))
  | castore => exact ab_pii.mo h (fun _ _ _ _ z => z.mo (fun _ _ u => ⟨u.1, go u.2⟩))
  | bastore => exact ab_pii.mo h (fun _ _ _ _ z => z.mo (fun _ _ u => ⟨u.1, go u.2⟩))
  | aaload => exact ab_pi.mo h (fun _ _ _ z => z.mo (fun _ u => ⟨u.1, go u.2⟩))
  | aastore =>
    unfold ab_w at h ⊢
    dsimp only at h ⊢
    split at h
    · exact ab_rarr.mo h (fun _ z => z.mo (fun u => ⟨u.1, go u.2⟩))
    · exact h
  | arraylength => exact ab_p1.mo h (fun _ _ z => z.mo (fun _ => go))
  | invokevirtual ix =>
    unfold ab_w at h ⊢
    dsimp only at h ⊢
    split at h
    · exact ab_call.mo h (fun _ _ => go)
    · exact h
  | invokestatic ix =>
    unfold ab_w at h ⊢
    dsimp only at h ⊢
    split at h
    · exact ab_call.mo h (fun _ _ => go)
    · split at h
      · refine ab_i2.mo h (fun _ _ _ z => ?_)
        split at z
        · exact ⟨z.1, go z.2⟩
        · exact z
      · split at h
        · refine ab_arr.mo h (fun _ _ z => ab_arr.mo z (fun _ _ u => ?_))
          split at u
          · exact ⟨u.1, go u.2⟩
          · exact u
        · exact h
      · exact h
  | ireturn => exact h
  | return_ => exact h
  | lreturn => exact h
  | _ => exact (show False from h).elim
theorem ab_R.sub {E : ab_E} {P : List ab_I} {Q : ab_Q} {pc : Nat} {a b : ab_L} {st : List ab_V} {cs : List ab_C} (hs : ab_sub a b) (h : ab_R E P Q pc a st cs) : ab_R E P Q pc b st cs := by
  refine h (fun pc a st cs => ∀ b, ab_sub a b → ab_R E P Q pc b st cs) ?_ b hs
  intro pc a st cs q K0 hf hw hK b hs
  exact ab_R.step hf (K := fun pc y st cs => ∃ x, ab_sub x y ∧ K0 pc x st cs) (ab_w_sub hs hw (fun pc x y st cs u k => ⟨x, u, k⟩)) (fun pc y st cs ⟨x, u, k⟩ => hK pc x st cs k y u)
/-- forget a local -/
def ab_fgo (lv : ab_L) (k : Nat) : Bool := match lv[k]? with
  | some (some v) => ab_c1 v
  | _ => true
theorem ab_sub.fg (lv : ab_L) (k : Nat) (h : ab_fgo lv k = true) : ab_sub (lv.set k none) lv := by
  refine ⟨List.length_set, fun i => ?_⟩
  rw [List.getElem?_set]
  by_cases e : k = i
  · subst e
    rw [if_pos rfl]
    by_cases hl : k < lv.length
    · rw [if_pos hl]
      rw [List.getElem?_eq_getElem hl]
      cases hv : lv[k] with
      | none => exact Or.inl rfl
      | some v =>
        unfold ab_fgo at h
        rw [List.getElem?_eq_getElem hl, hv] at h
        exact Or.inr ⟨rfl, v, rfl, h⟩
    · rw [if_neg hl, List.getElem?_eq_none (by omega)]
      exact Or.inl rfl
  · rw [if_neg e]; exact Or.inl rfl
theorem ab_R.fg {E : ab_E} {P : List ab_I} {Q : ab_Q} {pc : Nat} {lv : ab_L} {st : List ab_V} {cs : List ab_C} (k : Nat) (h0 : ab_fgo lv k = true) (h : ab_R E P Q pc (lv.set k none) st cs) : ab_R E P Q pc lv st cs := ab_R.sub (ab_sub.fg lv k h0) h
/-! contracts of the callees, one behind another -/
def ab_CT' (l : Launch) (M : List (Nat × ab_MI)) (C : List (Nat × ab_CI)) : Prop := ∀ (pc : Nat) (ci : ab_CI) (mi : ab_MI), ab_look C pc = some ci → ab_look M pc = some mi → ab_MT l mi ci.2.2.2.2
theorem ab_CT'.nil {l : Launch} {M : List (Nat × ab_MI)} : ab_CT' l M [] := fun _ _ _ h _ => by cases h
theorem ab_CT'.cons {l : Launch} {M : List (Nat × ab_MI)} {C : List (Nat × ab_CI)} {k : Nat} {mi : ab_MI} {ci : ab_CI} (h : ab_MT l mi ci.2.2.2.2) (hr : ab_CT' l M C) : ab_CT' l ((k, mi) :: M) ((k, ci) :: C) := by
  intro pc ci' mi' h1 h2
  unfold ab_look at h1 h2
  split at h1
  · next e =>
    dsimp only at e
    rw [e] at h2
    cases h1; cases h2
    exact h
  · next e =>
    dsimp only at e
    rw [e] at h2
    exact hr pc ci' mi' h1 h2
theorem ab_cl.of {sp : ab_Sp} {args : List ab_V} {cs : List ab_C} {Q : ab_Q} (h : sp args cs Q) : ab_cl sp args cs Q := ⟨Q, h, fun _ _ q => q⟩
