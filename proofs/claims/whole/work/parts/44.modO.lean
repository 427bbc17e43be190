/-! TEXTS: carried out -/
theorem mp_nm_v {p : List Int} {i j v : Int} (h : mp_nm p i = some (j, v)) : 0 ≤ v ∧ v ≤ 999 := by
  unfold mp_nm at h
  split at h
  · next d0 =>
    unfold mp_dg at d0
    split at h
    · obtain ⟨e1, e2⟩ := Prod.mk.inj (Option.some.inj h); omega
    · split at h
      · next d1 =>
        unfold mp_dg at d1
        split at h
        · next d2 =>
          unfold mp_dg at d2
          obtain ⟨e1, e2⟩ := Prod.mk.inj (Option.some.inj h); omega
        · obtain ⟨e1, e2⟩ := Prod.mk.inj (Option.some.inj h); omega
      · obtain ⟨e1, e2⟩ := Prod.mk.inj (Option.some.inj h); omega
  · cases h
theorem mp_num_v (p : List Int) (x : Int × Int) : 0 ≤ (mp_num p x).2 ∧ (mp_num p x).2 ≤ 999 := by
  unfold mp_num
  split
  · cases e : mp_nm p x.1 with
    | none => dsimp only; omega
    | some r =>
      obtain ⟨j, v⟩ := r
      have := mp_nm_v e
      dsimp only
      omega
  · dsimp only; omega
theorem mp_val_v (p : List Int) (x : Int × Int) : -999 ≤ (mp_val p x).2 ∧ (mp_val p x).2 ≤ 999 := by
  unfold mp_val
  split
  · have := mp_num_v p (x.1 + 1, x.2)
    dsimp only
    omega
  · have := mp_num_v p x
    omega
abbrev mo_ok (o : mo_T) : Prop := mp_is o.1 ∧ ab_r o.2.1 ∧ ab_r o.2.2.1 ∧ ab_r o.2.2.2
theorem mp_ord_ok {p : List Int} {i : Int} (h : (mp_ord p i).1.2 = 1) : mo_ok (mp_ord p i).2 := by
  unfold mp_ord at h ⊢
  split at h
  · next hk =>
    rw [if_pos hk]
    refine ⟨hk, ?_, ?_, ?_⟩
    · dsimp only
      have := mp_num_v p (mp_chs p (mp_rest (mp_nx p i)) (i + 1, 1))
      show ab_r (mp_num p (mp_chs p (mp_rest (mp_nx p i)) (i + 1, 1))).2
      unfold ab_r; omega
    · dsimp only
      generalize (mp_n1 p (mp_nx p i) (i + 1, 1)).1 = x
      unfold mp_n2
      split
      · have := mp_num_v p (mp_ch p 45 x); unfold ab_r; omega
      · unfold ab_r; dsimp only; omega
    · dsimp only
      generalize (mp_n2 p (mp_nx p i) (mp_n1 p (mp_nx p i) (i + 1, 1)).1).1 = x
      unfold mp_n3
      split
      · have := mp_num_v p (mp_ch p 62 x); unfold ab_r; omega
      · split
        · unfold ab_r; dsimp only; omega
        · have := mp_val_v p (mp_ch p 61 x); unfold ab_r; omega
  · dsimp only at h; omega
theorem mp_all_ok {p : List Int} : ∀ (n : Nat) (i : Int), ∀ o ∈ (mp_all p n i).2, mo_ok o
  | 0, i, o, h => by unfold mp_all at h; simp at h
  | n + 1, i, o, h => by
    unfold mp_all at h
    split at h
    · next hy =>
      split at h
      · split at h
        · rcases List.mem_cons.mp h with rfl | h
          · exact mp_ord_ok hy
          · exact mp_all_ok n _ o h
        · rw [List.mem_singleton.mp h]; exact mp_ord_ok hy
      · rw [List.mem_singleton.mp h]; exact mp_ord_ok hy
    · simp at h
theorem mf_err_in (k : Int) (q : List mq_K) (a b c : Int) : -5 ≤ mf_err k q a b c ∧ mf_err k q a b c ≤ 0 := by
  have h1 := mq_eSpan_in q a b
  have h2 := mq_eBy_in q a b c
  unfold mf_err
  split
  · unfold mq_ePut; split; (split; (split <;> omega); omega); omega
  split
  · unfold mq_eCut; split <;> omega
  split
  · unfold mq_eSet; split; (split <;> omega); omega
  split
  · omega
  split
  · unfold mq_eAdd; split; (split <;> omega); omega
  split
  · unfold mq_eMove; split; (split <;> omega); omega
  · omega
theorem vc_X3_carryOut {av : List ab_V} {cs : List ab_C} {Q : ab_Q} (h : sp_X3_carryOut av cs Q) : (ab_lv0 av).length ≤ 5 ∧ ab_R E_X3_carryOut P_X3_carryOut Q 0 (ab_ent av 5) [] cs := by
  obtain ⟨s, z, ⟨th, as, un, um, sl, hs, pd, ln, at_, iw, os, om⟩, S, rfl, rfl, ⟨hst, hU, hS, hP⟩, hQ⟩ := h
  refine ⟨Nat.le_of_ble_eq_true rfl, ?_⟩
  unfold mf_out at hQ
  have hok := mp_all_ok (p := S.2.2.2) 80 0
  refine b_X3_carryOut_0 ⟨_, _, _, _, _, _, _, _, _, _, _, _, _, _, S.2.2.2, rfl, rfl, hP, fun at' iw' os' om' hos => ⟨_, _, _, _, rfl, rfl, ?_⟩⟩
  have hr1 : ab_r (mp_all S.2.2.2 80 0).1 := by
    by_cases y : (mp_all S.2.2.2 80 0).1 = -6
    · rw [y]; unfold ab_r; omega
    · have bound : ∀ (n : Nat) (i : Int), 0 ≤ i → i ≤ 81 → -6 ≤ (mp_all S.2.2.2 n i).1 ∧ (mp_all S.2.2.2 n i).1 ≤ 200 := by
        intro n
        induction n with
        | zero => intro i h0 h1; unfold mp_all; dsimp only; omega
        | succ n ih =>
          intro i h0 h1
          have ho := mp_ord_in (p := S.2.2.2) h0 (by omega)
          have hl80 := hP.2.2.1
          unfold mp_all
          split
          · split
            · split
              · have := ih ((mp_ord S.2.2.2 i).1.1 + 1) (by omega) (by omega)
                dsimp only; omega
              · dsimp only; omega
            · dsimp only; omega
          · dsimp only; omega
      have := bound 80 0 (by omega) (by omega)
      unfold ab_r; omega
  refine b_X3_carryOut_9 (fun h6 => ?_) (fun h6 => ?_) (p1 := ⟨hr1, by unfold ab_r; omega⟩)
  · rw [if_pos h6] at hQ
    refine ⟨_, _, _, _, _, _, _, _, _, _, _, _, _, _, _, _, rfl, rfl, hst, hU, fun un' um' hU' => ⟨_, _, _, rfl, rfl, ?_⟩⟩
    refine b_X3_carryOut_21 ?_
    generalize (mp_all S.2.2.2 80 0).2 = L at hQ hos hok
    have hom := hos.1
    have hle := hos.2.1
    have loop : ∀ (l A : List mo_T) (x : mS_X) (s2 : Int → Int) (z2 : mc_T) (n : Int), L = A ++ l → n = (A.length : Nat) → mh_st s2 x → mf_ex L S.1 0 = mf_ex l x n → ab_R E_X3_carryOut P_X3_carryOut Q 28 [some (.inr (.inl (some 0))), some (.inl n), none, none, none] [] (md_cs s2 z2 (0, as, un', um', sl, hs, pd, 0, at', iw', os', om')) := by
      intro l
      induction l with
      | nil =>
        intro A x s2 z2 n g1 g2 g3 g4
        rw [List.append_nil] at g1; subst g1
        refine b_X3_carryOut_28 (fun _ => ?_) (fun h => by omega)
        rw [g4] at hQ
        have := hQ s2 z2 (0, as, un', um', sl, hs, pd, 0, at', iw', os', om') ⟨g3, hU', hS, mq_al_nil _, rfl, by simp, fun x hx => by simp at hx⟩ rfl
        rw [show om' = n by omega] at this ⊢
        exact this
      | cons o l ih =>
        intro A x s2 z2 n g1 g2 g3 g4
        have hlen : L.length = A.length + (l.length + 1) := by rw [g1]; simp
        obtain ⟨k, a, b, v⟩ := o
        obtain ⟨e1, e2, e3, e4⟩ := hos.2.2 A.length (k, a, b, v) (by rw [g1]; simp)
        obtain ⟨k1, k2, k3, k4⟩ := hok (k, a, b, v) (by rw [g1]; simp)
        rw [← g2] at e1 e2 e3 e4
        dsimp only at e1 e2 e3 e4 k1 k2 k3 k4
        have her := mf_err_in k x.1 a (mo_b k b v) v
        refine b_X3_carryOut_28 (fun h => by omega) (fun _ => ?_)
        rw [e1, e2, e3, e4]
        refine ⟨_, _, _, x.1, (k, a, b, v), rfl, rfl, g3.1, g3.2.1, k1, k2, k3, k4, _, rfl, rfl, ?_⟩
        have ex1 : mf_ex ((k, a, b, v) :: l) x n = if mo_err x.1 (k, a, b, v) = 0 then mf_ex l ((mo_do x.1 (k, a, b, v)).1, x.2 + (mo_do x.1 (k, a, b, v)).2) (n + 1) else (n, x) := by
          conv => lhs; unfold mf_ex
        rw [ex1] at g4
        refine b_X3_carryOut_86 (fun h0 => ?_) (fun h0 => ?_) (p1 := by show ab_r (mf_err k x.1 a (mo_b k b v) v); unfold ab_r; omega)
        · rw [if_pos h0] at g4
          rw [e1]
          refine ⟨_, _, _, x.1, (k, a, b, v), rfl, rfl, g3.1, g3.2.1, k1, h0, fun s' z' q1 q2 => ⟨_, _, _, rfl, rfl, ?_⟩⟩
          refine b_X3_carryOut_107 (ih (A ++ [(k, a, b, v)]) ((mo_do x.1 (k, a, b, v)).1, x.2 + (mo_do x.1 (k, a, b, v)).2) s' z' (n + 1) (by rw [g1]; simp) (by rw [List.length_append, List.length_singleton]; omega) ⟨q1, mf_do_W g3.2.1 h0, ?_⟩ g4)
          rw [q2, g3.2.2]
        · rw [if_neg h0] at g4
          rw [g4] at hQ
          exact hQ s2 z2 (0, as, un', um', sl, hs, pd, 0, at', iw', os', om') ⟨g3, hU', hS, mq_al_nil _, rfl, by simp, fun x hx => by simp at hx⟩ rfl
    exact loop L [] S.1 s z 0 rfl rfl hst rfl
  · rw [if_neg h6] at hQ
    exact hQ s z (0, as, un, um, sl, hs, pd, ln, at', iw', os', om') ⟨hst, hU, hS, hP⟩ rfl
theorem mt_X3_carryOut (l : Launch) : ab_MT l mi_X3_carryOut sp_X3_carryOut := ab_MT.of (own := "RootChunksModel") (E := E_X3_carryOut) (P := P_X3_carryOut) (M := M_X3_carryOut) (nL := 5) (ty := 0) (by decide) rfl rfl tk_X3 pk_X3_carryOut ck_X3_carryOut (ab_CT'.cons (mt_X3_reads l) (ab_CT'.cons (mt_X3_records l) (ab_CT'.cons (mt_X3_refuses l) (ab_CT'.cons (mt_X3_does l) ab_CT'.nil)))) (fun av cs Q h => vc_X3_carryOut h)
