/-! THE LAW'S WALK: the script is the place 2000, never written -/
def lx_w (f : Int → Int) (L : Int) (E : ab_E) (K : ab_K) (q : ab_I) (lv : ab_L) (st : List ab_V) (cs : List ab_C) : Prop := match q.2.1 with
  | .iaload => match st with
    | .inl i :: .inr (.inl (some k)) :: r => match Nat.beq k 2000 with
      | true => (0 ≤ i ∧ i < L) ∧ K q.2.2.1 lv (.inl (f i) :: r) cs
      | false => False
    | _ => False
  | .arraylength => match st with
    | .inr (.inl (some k)) :: r => match Nat.beq k 2000 with
      | true => K q.2.2.1 lv (.inl L :: r) cs
      | false => False
    | _ => False
  | .ireturn => match st with
    | [.inl a] => a = 1
    | _ => False
  | .if_icmp .eq _ => ab_i2 st (fun a b r => a = b ∧ K (ab_tg q.2.2.2) lv r cs)
  | .invokevirtual _ => ab_w E (fun _ _ => False) K q lv st cs
  | .tableswitch _ _ _ _ => ab_w E (fun _ _ => False) K q lv st cs
  | i => match ab_pure i with
    | true => ab_w E (fun _ _ => False) K q lv st cs
    | false => False
def lx_R (f : Int → Int) (L : Int) (E : ab_E) (P : List ab_I) : ab_K := fun pc lv st cs =>
  ∀ Z : ab_K, (∀ (pc : Nat) (lv : ab_L) (st : List ab_V) (cs : List ab_C) (q : ab_I) (K0 : ab_K), ab_find P pc = some q → lx_w f L E K0 q lv st cs → (∀ pc' lv' st' cs', K0 pc' lv' st' cs' → Z pc' lv' st' cs') → Z pc lv st cs) → Z pc lv st cs
def lx_ws (f : Int → Int) (L : Int) (E : ab_E) (P : List ab_I) (K : ab_K) (stops : List Nat) : Nat → ab_K
  | 0 => K
  | n + 1 => fun pc lv st cs => match ab_find P pc with
    | some q => lx_w f L E (fun pc' lv' st' cs' => match ab_mem stops pc' with
      | true => K pc' lv' st' cs'
      | false => lx_ws f L E P K stops n pc' lv' st' cs') q lv st cs
    | none => False
theorem lx_R.step {f : Int → Int} {L : Int} {E : ab_E} {P : List ab_I} {pc : Nat} {lv : ab_L} {st : List ab_V} {cs : List ab_C} {q : ab_I} {K : ab_K} (hq : ab_find P pc = some q) (h : lx_w f L E K q lv st cs) (hK : ∀ pc' lv' st' cs', K pc' lv' st' cs' → lx_R f L E P pc' lv' st' cs') : lx_R f L E P pc lv st cs :=
  fun Z hZ => hZ pc lv st cs q K hq h (fun pc' lv' st' cs' k => hK pc' lv' st' cs' k Z hZ)
theorem lx_R.steps {f : Int → Int} {L : Int} {E : ab_E} {P : List ab_I} (stops : List Nat) : ∀ (n : Nat) {pc : Nat} {lv : ab_L} {st : List ab_V} {cs : List ab_C}, lx_ws f L E P (lx_R f L E P) stops n pc lv st cs → lx_R f L E P pc lv st cs
  | 0, _, _, _, _, h => h
  | n + 1, pc, lv, st, cs, h => by
    unfold lx_ws at h
    split at h
    · next q hq =>
      refine lx_R.step hq h (fun pc' lv' st' cs' k => ?_)
      split at k
      · exact k
      · exact lx_R.steps stops n k
    · exact h.elim
theorem lx_callE {n c : Nat} {is : List Nat} {n0 : Nat} {sp : ab_Sp} {st : List ab_V} {cs : List ab_C} {f : List ab_V → List ab_C → Prop} {k : Nat} {rest : List ab_V} (h1 : Nat.ble n st.length = true) (h2 : Nat.ble (ab_cat (st.drop n)) 8 = true) (hc : Nat.beq c 99 = false) (h3 : st.drop (n - 1) = .inr (.inl (some k)) :: rest) (hobj : ∃ fs, cs[k]? = some (.inl (c, fs))) (his : is ≠ []) (h4 : (st.take n).all (ab_okV is) = true) (e2 : (ab_pick cs (is.take n0)).all (ab_okC is) = true) (e3 : Nat.beq (ab_pick cs (is.take n0)).length n0 = true) (e4 : ab_nd is = true)
    (hcl : ab_cl sp ((st.take n).reverse.map (ab_unV is)) ((ab_pick cs (is.take n0)).map (ab_unC is)) (fun r cs' => cs'.length = n0 → f (ab_ret (r.map (ab_reV is)) (st.drop n)) (ab_back is (is.take n0) cs' cs))) : ab_call (n, c, is, n0, sp) st cs f := by
  cases is with
  | nil => exact absurd rfl his
  | cons i is =>
    unfold ab_call
    dsimp only
    rw [h1, h2]
    dsimp only
    unfold ab_rcv
    rw [hc]
    dsimp only
    rw [h3]
    dsimp only
    refine ab_objI hobj ?_
    rw [h4, e2, e3, e4]
    exact hcl
theorem lx_pick : ∀ (b a d : List ab_C), ab_pick (a ++ (b ++ d)) (List.range' a.length b.length) = b
  | [], a, d => rfl
  | c :: b, a, d => by
    rw [List.length_cons, List.range'_succ]
    unfold ab_pick
    rw [show (a ++ (c :: b ++ d))[a.length]? = some c by rw [List.getElem?_append_right (Nat.le_refl _), Nat.sub_self]; rfl]
    dsimp only
    have h := lx_pick b (a ++ [c]) d
    rw [show a ++ [c] ++ (b ++ d) = a ++ (c :: b ++ d) by simp, show (a ++ [c]).length = a.length + 1 by simp] at h
    rw [h]
theorem lx_back (jd : List Nat) : ∀ (cs' b a d : List ab_C), cs'.length = b.length → ab_back jd (List.range' a.length b.length) cs' (a ++ (b ++ d)) = a ++ (cs'.map (ab_reC jd) ++ d)
  | [], [], a, d, _ => rfl
  | [], _ :: _, _, _, h => by cases h
  | _ :: _, [], _, _, h => by cases h
  | c :: cs', e :: b, a, d, h => by
    rw [List.length_cons, List.range'_succ]
    unfold ab_back
    have h1 : (a ++ (e :: b ++ d)).set a.length (ab_reC jd c) = a ++ [ab_reC jd c] ++ (b ++ d) := by
      rw [List.set_append_right _ _ (Nat.le_refl _), Nat.sub_self]
      simp
    rw [h1]
    have h2 := lx_back jd cs' b (a ++ [ab_reC jd c]) d (Nat.succ.inj h)
    rw [show (a ++ [ab_reC jd c]).length = a.length + 1 by simp] at h2
    rw [h2, List.map_cons]
    simp
def lx_isX : List Nat := [0, 1, 2, 3, 4, 5, 6, 7, 8, 9, 10, 11, 12, 13, 14, 15, 16, 17, 18, 19, 20, 21, 22, 23, 24, 25, 26, 27, 28, 29, 30, 31, 32, 33, 34, 35, 36, 37, 38, 39, 40, 41, 42, 43, 44, 45, 46, 47, 48, 49, 50, 51, 52, 53, 54, 55, 56, 57]
def lx_isM : List Nat := [58, 59, 60, 61, 62, 63, 64, 65, 66, 67, 68, 69, 70]
def lx_md (s : Int → Int) (z : mc_T) (g : mg_T) : List ab_C := (md_cs s z g).map (ab_reC lx_isM)
theorem lx_mx_len (X : mx_W) : (mx_cs X).length = 58 := rfl
theorem lx_md_len (s : Int → Int) (z : mc_T) (g : mg_T) : (lx_md s z g).length = 13 := rfl
theorem lx_isX_r : lx_isX.take 58 = List.range' 0 58 := by decide +kernel
theorem lx_isM_r : lx_isM.take 13 = List.range' 58 13 := by decide +kernel
theorem lx_six {d : Nat} (h : d < 6) {P : Nat → Prop} (h0 : P 0) (h1 : P 1) (h2 : P 2) (h3 : P 3) (h4 : P 4) (h5 : P 5) : P d := by
  match d, h with
  | 0, _ => exact h0
  | 1, _ => exact h1
  | 2, _ => exact h2
  | 3, _ => exact h3
  | 4, _ => exact h4
  | 5, _ => exact h5
theorem lx_o_un (d : Nat) (h : d < 6) : ab_unC lx_isX (.inr (.inr (mx_o d))) = .inr (.inr (mx_o d)) := lx_six h (P := fun d => ab_unC lx_isX (.inr (.inr (mx_o d))) = .inr (.inr (mx_o d))) rfl rfl rfl rfl rfl rfl
theorem lx_o_re (d : Nat) (h : d < 6) : ab_reC lx_isX (.inr (.inr (mx_o d))) = .inr (.inr (mx_o d)) := lx_six h (P := fun d => ab_reC lx_isX (.inr (.inr (mx_o d))) = .inr (.inr (mx_o d))) rfl rfl rfl rfl rfl rfl
theorem lx_o_ok (d : Nat) (h : d < 6) : ab_okC lx_isX (.inr (.inr (mx_o d))) = true := lx_six h (P := fun d => ab_okC lx_isX (.inr (.inr (mx_o d))) = true) rfl rfl rfl rfl rfl rfl
theorem lx_inv_o {X : mx_W} {S : mS_T} (h : mx_inv X S) : ∃ d, d < 6 ∧ X.2.2.2.1 = mx_o d := by
  obtain ⟨-, ⟨d, -, -, h1, h2, -⟩, -⟩ := h
  exact ⟨d, h1, h2⟩
set_option maxRecDepth 100000 in
theorem lx_mx_un {X : mx_W} {S : mS_T} (h : mx_inv X S) : (mx_cs X).map (ab_unC lx_isX) = mx_cs X := by
  obtain ⟨d, hd, ho⟩ := lx_inv_o h
  obtain ⟨u, r, q, o, h, s0, s1, z, p, f⟩ := X
  dsimp only at ho
  subst ho
  have e := lx_o_un d hd
  generalize mx_o d = o at e ⊢
  unfold mx_cs xz_cs
  dsimp only
  simp only [List.map_cons, List.map_nil]
  rw [e]
  rfl
set_option maxRecDepth 100000 in
theorem lx_mx_re {X : mx_W} {S : mS_T} (h : mx_inv X S) : (mx_cs X).map (ab_reC lx_isX) = mx_cs X := by
  obtain ⟨d, hd, ho⟩ := lx_inv_o h
  obtain ⟨u, r, q, o, h, s0, s1, z, p, f⟩ := X
  dsimp only at ho
  subst ho
  have e := lx_o_re d hd
  generalize mx_o d = o at e ⊢
  unfold mx_cs xz_cs
  dsimp only
  simp only [List.map_cons, List.map_nil]
  rw [e]
  rfl
set_option maxRecDepth 100000 in
theorem lx_mx_ok {X : mx_W} {S : mS_T} (h : mx_inv X S) : (mx_cs X).all (ab_okC lx_isX) = true := by
  obtain ⟨d, hd, ho⟩ := lx_inv_o h
  obtain ⟨u, r, q, o, h, s0, s1, z, p, f⟩ := X
  dsimp only at ho
  subst ho
  have e := lx_o_ok d hd
  generalize mx_o d = o at e ⊢
  unfold mx_cs xz_cs
  dsimp only
  simp only [List.all_cons, List.all_nil]
  rw [e]
  rfl
theorem lx_md_un (s : Int → Int) (z : mc_T) (g : mg_T) : (lx_md s z g).map (ab_unC lx_isM) = md_cs s z g := rfl
theorem lx_md_ok (s : Int → Int) (z : mc_T) (g : mg_T) : (lx_md s z g).all (ab_okC lx_isM) = true := rfl
theorem lx_pickX (X : mx_W) (s : Int → Int) (z : mc_T) (g : mg_T) : ab_pick (mx_cs X ++ lx_md s z g) (lx_isX.take 58) = mx_cs X := by
  rw [lx_isX_r]
  exact lx_pick (mx_cs X) [] (lx_md s z g)
theorem lx_pickM (X : mx_W) (s : Int → Int) (z : mc_T) (g : mg_T) : ab_pick (mx_cs X ++ lx_md s z g) (lx_isM.take 13) = lx_md s z g := by
  rw [lx_isM_r]
  have h := lx_pick (lx_md s z g) (mx_cs X) []
  rw [List.append_nil] at h
  exact h
theorem lx_backX {X X' : mx_W} {S' : mS_T} (h : mx_inv X' S') (s : Int → Int) (z : mc_T) (g : mg_T) : ab_back lx_isX (lx_isX.take 58) (mx_cs X') (mx_cs X ++ lx_md s z g) = mx_cs X' ++ lx_md s z g := by
  rw [lx_isX_r]
  have e := lx_back lx_isX (mx_cs X') (mx_cs X) [] (lx_md s z g) rfl
  rw [lx_mx_re h] at e
  exact e
theorem lx_backM (X : mx_W) (s s' : Int → Int) (z z' : mc_T) (g g' : mg_T) : ab_back lx_isM (lx_isM.take 13) (md_cs s' z' g') (mx_cs X ++ lx_md s z g) = mx_cs X ++ lx_md s' z' g' := by
  rw [lx_isM_r]
  have e := lx_back lx_isM (md_cs s' z' g') (lx_md s z g) (mx_cs X) [] rfl
  rw [List.append_nil, List.append_nil] at e
  exact e
/-- a call of the class -/
theorem lx_cX {n : Nat} {sp : ab_Sp} {st st' av rest : List ab_V} {X : mx_W} {S : mS_T} {s : Int → Int} {z : mc_T} {g : mg_T} {r : Int × mS_T} {f : List ab_V → List ab_C → Prop} (hX : mx_inv X S) (hsp : ∀ Q, mx_out Q r → sp av (mx_cs X) Q) (hf : ∀ X', mx_inv X' r.2 → f (.inl r.1 :: st') (mx_cs X' ++ lx_md s z g))
    (h1 : Nat.ble n st.length = true) (h2 : Nat.ble (ab_cat st') 8 = true) (h3 : st.drop (n - 1) = .inr (.inl (some 0)) :: rest) (h4 : (st.take n).all (ab_okV lx_isX) = true) (h5 : (st.take n).reverse.map (ab_unV lx_isX) = av) (h6 : st.drop n = st') : ab_call (n, 2, lx_isX, 58, sp) st (mx_cs X ++ lx_md s z g) f := by
  subst h5
  subst h6
  refine lx_callE h1 h2 rfl h3 ⟨_, rfl⟩ (by decide) h4 ?_ ?_ (by decide +kernel) ?_
  · rw [lx_pickX]; exact lx_mx_ok hX
  · rw [lx_pickX]; rfl
  · rw [lx_pickX, lx_mx_un hX]
    refine ⟨fun r1 k => ∃ X', mx_inv X' r.2 ∧ r1 = some (.inl r.1) ∧ k = mx_cs X', hsp _ (fun X' h => ⟨X', h, rfl, rfl⟩), ?_⟩
    rintro r1 k ⟨X', h, rfl, rfl⟩ -
    rw [lx_backX h]
    exact hf X' h
/-- a call of the reference -/
theorem lx_cM {n : Nat} {sp : ab_Sp} {st st' av rest : List ab_V} {X : mx_W} {s : Int → Int} {z : mc_T} {g : mg_T} {r : Int × mS_T} {f : List ab_V → List ab_C → Prop} (hsp : ∀ Q, mh_out Q r → sp av (md_cs s z g) Q) (hf : ∀ s' z' g', mh_inv s' g' r.2 → f (.inl r.1 :: st') (mx_cs X ++ lx_md s' z' g'))
    (h1 : Nat.ble n st.length = true) (h2 : Nat.ble (ab_cat st') 8 = true) (h3 : st.drop (n - 1) = .inr (.inl (some 58)) :: rest) (h4 : (st.take n).all (ab_okV lx_isM) = true) (h5 : (st.take n).reverse.map (ab_unV lx_isM) = av) (h6 : st.drop n = st') : ab_call (n, 3, lx_isM, 13, sp) st (mx_cs X ++ lx_md s z g) f := by
  subst h5
  subst h6
  refine lx_callE h1 h2 rfl h3 ⟨_, rfl⟩ (by decide) h4 ?_ ?_ (by decide +kernel) ?_
  · rw [lx_pickM]; exact lx_md_ok s z g
  · rw [lx_pickM]; rfl
  · rw [lx_pickM, lx_md_un]
    refine ⟨fun r1 k => ∃ s' z' g', mh_inv s' g' r.2 ∧ r1 = some (.inl r.1) ∧ k = md_cs s' z' g', hsp _ (fun s' z' g' h _ => ⟨s', z', g', h, rfl, rfl⟩), ?_⟩
    rintro r1 k ⟨s', z', g', h, rfl, rfl⟩ -
    rw [lx_backM]
    exact hf s' z' g' h
theorem lx_x0 {F : mS_T → Int × mS_T} {X : mx_W} {S : mS_T} (hX : mx_inv X S) : ∀ Q, mx_out Q (F S) → mx_in0 F [.inr (.inl (some 0))] (mx_cs X) Q := fun Q h => by unfold mx_in0; exact ⟨X, S, rfl, rfl, hX, h⟩
theorem lx_x1 {F : mS_T → Int → Int × mS_T} {X : mx_W} {S : mS_T} {a : Int} (hX : mx_inv X S) (ha : ab_r a) : ∀ Q, mx_out Q (F S a) → mx_in1 F [.inr (.inl (some 0)), .inl a] (mx_cs X) Q := fun Q h => by unfold mx_in1; exact ⟨X, S, a, rfl, rfl, hX, ha, h⟩
theorem lx_x2 {F : mS_T → Int → Int → Int × mS_T} {X : mx_W} {S : mS_T} {a b : Int} (hX : mx_inv X S) (ha : ab_r a) (hb : ab_r b) : ∀ Q, mx_out Q (F S a b) → mx_in2 F [.inr (.inl (some 0)), .inl a, .inl b] (mx_cs X) Q := fun Q h => by unfold mx_in2; exact ⟨X, S, a, b, rfl, rfl, hX, ha, hb, h⟩
theorem lx_x3 {F : mS_T → Int → Int → Int → Int × mS_T} {X : mx_W} {S : mS_T} {a b d : Int} (hX : mx_inv X S) (ha : ab_r a) (hb : ab_r b) (hd : ab_r d) : ∀ Q, mx_out Q (F S a b d) → mx_in3 F [.inr (.inl (some 0)), .inl a, .inl b, .inl d] (mx_cs X) Q := fun Q h => by unfold mx_in3; exact ⟨X, S, a, b, d, rfl, rfl, hX, ha, hb, hd, h⟩
theorem lx_xL {F : mS_T → Int64 → Int × mS_T} {X : mx_W} {S : mS_T} {a : Int64} (hX : mx_inv X S) : ∀ Q, mx_out Q (F S a) → mx_inL F [.inr (.inl (some 0)), .inr (.inr a)] (mx_cs X) Q := fun Q h => by unfold mx_inL; exact ⟨X, S, a, rfl, rfl, hX, h⟩
theorem lx_m0 {F : mS_T → Int × mS_T} {s : Int → Int} {z : mc_T} {g : mg_T} {S : mS_T} (hM : mh_inv s g S) : ∀ Q, mh_out Q (F S) → mh_in0 F [.inr (.inl (some 0))] (md_cs s z g) Q := fun Q h => by unfold mh_in0; exact ⟨s, z, g, S, rfl, rfl, hM, h⟩
theorem lx_m1 {F : mS_T → Int → Int × mS_T} {s : Int → Int} {z : mc_T} {g : mg_T} {S : mS_T} {a : Int} (hM : mh_inv s g S) (ha : ab_r a) : ∀ Q, mh_out Q (F S a) → mh_in1 F [.inr (.inl (some 0)), .inl a] (md_cs s z g) Q := fun Q h => by unfold mh_in1; exact ⟨s, z, g, S, a, rfl, rfl, hM, ha, h⟩
theorem lx_m2 {F : mS_T → Int → Int → Int × mS_T} {s : Int → Int} {z : mc_T} {g : mg_T} {S : mS_T} {a b : Int} (hM : mh_inv s g S) (ha : ab_r a) (hb : ab_r b) : ∀ Q, mh_out Q (F S a b) → mh_in2 F [.inr (.inl (some 0)), .inl a, .inl b] (md_cs s z g) Q := fun Q h => by unfold mh_in2; exact ⟨s, z, g, S, a, b, rfl, rfl, hM, ha, hb, h⟩
theorem lx_m3 {F : mS_T → Int → Int → Int → Int × mS_T} {s : Int → Int} {z : mc_T} {g : mg_T} {S : mS_T} {a b d : Int} (hM : mh_inv s g S) (ha : ab_r a) (hb : ab_r b) (hd : ab_r d) : ∀ Q, mh_out Q (F S a b d) → mh_in3 F [.inr (.inl (some 0)), .inl a, .inl b, .inl d] (md_cs s z g) Q := fun Q h => by unfold mh_in3; exact ⟨s, z, g, S, a, b, d, rfl, rfl, hM, ha, hb, hd, h⟩
theorem lx_mL {F : mS_T → Int64 → Int × mS_T} {s : Int → Int} {z : mc_T} {g : mg_T} {S : mS_T} {a : Int64} (hM : mh_inv s g S) : ∀ Q, mh_out Q (F S a) → mh_inL F [.inr (.inl (some 0)), .inr (.inr a)] (md_cs s z g) Q := fun Q h => by unfold mh_inL; exact ⟨s, z, g, S, a, rfl, rfl, hM, h⟩
