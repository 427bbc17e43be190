/-! TEXTS: read to the end -/
theorem mp_ch_up {p : List Int} {c : Int} (x : Int × Int) : x.1 ≤ (mp_ch p c x).1 := by
  unfold mp_ch
  split <;> dsimp only <;> omega
theorem mp_chs_up {p : List Int} : ∀ (l : List Int) (x : Int × Int), x.1 ≤ (mp_chs p l x).1
  | [], x => Int.le_refl _
  | c :: l, x => Int.le_trans (mp_ch_up x) (mp_chs_up l (mp_ch p c x))
theorem mp_n2_in {p : List Int} {k : Int} {x : Int × Int} (h : mp_in x.2 x.1) (h2 : x.1 ≤ 1000) : mp_in (mp_n2 p k x).1.2 (mp_n2 p k x).1.1 ∧ (mp_n2 p k x).1.1 ≤ x.1 + 4 ∧ x.1 ≤ (mp_n2 p k x).1.1 ∧ ((mp_n2 p k x).1.2 = 1 → x.2 = 1) := by
  unfold mp_n2
  split
  · have y2 : mp_in (mp_ch p 45 x).2 (mp_ch p 45 x).1 ∧ (mp_ch p 45 x).1 ≤ x.1 + 1 := mp_ch_in (p := p) (c := 45) (at_ := x.1) (iw := x.2) h (by omega)
    have y3 := mp_num_in (p := p) (x := mp_ch p 45 x) y2.1 (by omega)
    have y4 := mp_ch_up (p := p) (c := 45) x
    exact ⟨y3.1, by omega, by omega, fun h => mp_ch_on (y3.2.2.2 h).1⟩
  · exact ⟨h, by dsimp only; omega, by dsimp only; omega, fun h => h⟩
theorem mp_n3_in {p : List Int} {k : Int} {x : Int × Int} (h : mp_in x.2 x.1) (h2 : x.1 ≤ 1000) : mp_in (mp_n3 p k x).1.2 (mp_n3 p k x).1.1 ∧ (mp_n3 p k x).1.1 ≤ x.1 + 5 ∧ x.1 ≤ (mp_n3 p k x).1.1 ∧ ((mp_n3 p k x).1.2 = 1 → x.2 = 1) := by
  unfold mp_n3
  split
  · have y2 : mp_in (mp_ch p 62 x).2 (mp_ch p 62 x).1 ∧ (mp_ch p 62 x).1 ≤ x.1 + 1 := mp_ch_in (p := p) (c := 62) (at_ := x.1) (iw := x.2) h (by omega)
    have y3 := mp_num_in (p := p) (x := mp_ch p 62 x) y2.1 (by omega)
    have y4 := mp_ch_up (p := p) (c := 62) x
    exact ⟨y3.1, by omega, by omega, fun h => mp_ch_on (y3.2.2.2 h).1⟩
  · split
    · exact ⟨h, by dsimp only; omega, by dsimp only; omega, fun h => h⟩
    · have y2 : mp_in (mp_ch p 61 x).2 (mp_ch p 61 x).1 ∧ (mp_ch p 61 x).1 ≤ x.1 + 1 := mp_ch_in (p := p) (c := 61) (at_ := x.1) (iw := x.2) h (by omega)
      have y3 := mp_val_in (p := p) (x := mp_ch p 61 x) y2.1 (by omega)
      have y4 := mp_ch_up (p := p) (c := 61) x
      exact ⟨y3.1, by omega, by omega, fun h => mp_ch_on (y3.2.2.2 h)⟩
/-- how far an order goes -/
theorem mp_ord_in {p : List Int} {i : Int} (h0 : 0 ≤ i) (h1 : i ≤ 100) : mp_in (mp_ord p i).1.2 (mp_ord p i).1.1 ∧ (mp_ord p i).1.1 ≤ i + 20 ∧ i ≤ (mp_ord p i).1.1 ∧ ((mp_ord p i).1.2 = 1 → i + 2 ≤ (mp_ord p i).1.1 ∧ mp_is (mp_ord p i).2.1) := by
  unfold mp_ord
  by_cases hk : mp_is (mp_nx p i)
  · rw [if_pos hk]
    dsimp only
    generalize mp_nx p i = k at *
    have x0 : mp_in (1 : Int) (i + 1) := ⟨Or.inr rfl, by omega, by omega⟩
    have hrl := mp_rest_len k
    have x1 := mp_chs_in (p := p) (mp_rest k) (i + 1, 1) x0 (by dsimp only; omega)
    have x1u := mp_chs_up (p := p) (mp_rest k) (i + 1, 1)
    dsimp only at x1 x1u
    have x2 := mp_num_in (p := p) x1.1 (by omega)
    have en1 : mp_n1 p k (i + 1, 1) = mp_num p (mp_chs p (mp_rest k) (i + 1, 1)) := rfl
    rw [← en1] at x2
    generalize mp_n1 p k (i + 1, 1) = N1 at *
    have x3 := mp_n2_in (p := p) (k := k) (x := N1.1) x2.1 (by omega)
    generalize mp_n2 p k N1.1 = N2 at *
    have x4 := mp_n3_in (p := p) (k := k) (x := N2.1) x3.1 (by omega)
    refine ⟨x4.1, by omega, by omega, fun h => ⟨?_, hk⟩⟩
    have := x2.2.2.2 (x3.2.2.2 (x4.2.2.2 h))
    omega
  · rw [if_neg hk]
    dsimp only
    exact ⟨⟨Or.inl rfl, h0, by omega⟩, by omega, by omega, fun h => by omega⟩
theorem mh_os_snoc {os : Int → Int} {om : Int} {l : List mo_T} (h : mh_os os om l) (hl : l.length < 32) (o : mo_T) : mh_os (mp_os os om o) (om + 1) (l ++ [o]) := by
  obtain ⟨h1, h2, h3⟩ := h
  refine ⟨by rw [List.length_append, List.length_singleton]; omega, by rw [List.length_append, List.length_singleton]; omega, fun i y hy => ?_⟩
  unfold mp_os
  by_cases z : i < l.length
  · rw [List.getElem?_append_left z] at hy
    have e := h3 i y hy
    refine ⟨?_, ?_, ?_, ?_⟩ <;> (repeat rw [ab_up_ne (by omega)])
    · exact e.1
    · exact e.2.1
    · exact e.2.2.1
    · exact e.2.2.2
  · have hi := (List.getElem?_eq_some_iff.mp hy).1
    rw [List.length_append, List.length_singleton] at hi
    have hi2 : i = l.length := by omega
    subst hi2
    have : y = o := by simpa using hy.symm
    subst this
    refine ⟨?_, ?_, ?_, ?_⟩ <;> (repeat (first | rw [ab_up_ne (by omega)] | rw [ab_up_eq (by omega)]))
theorem vc_X3_reads {av : List ab_V} {cs : List ab_C} {Q : ab_Q} (h : sp_X3_reads av cs Q) : (ab_lv0 av).length ≤ 1 ∧ ab_R E_X3_reads P_X3_reads Q 0 (ab_ent av 1) [] cs := by
  obtain ⟨s, z, th, as, un, um, sl, hs, pd, ln, at_, iw, os, om, p, rfl, rfl, hP, hQ⟩ := h
  refine ⟨Nat.le_of_ble_eq_true rfl, ?_⟩
  have hln := hP.2.1
  have hl80 := hP.2.2.1
  generalize hw : mp_all p 80 0 = W at hQ
  have main : ∀ (n : Nat) (i om : Int) (os : Int → Int) (acc : List mo_T), 0 ≤ i → i ≤ ln → 3 * om ≤ i → 240 - 3 * (n : Int) ≤ i → mh_os os om acc → (W = ((mp_all p n i).1, acc ++ (mp_all p n i).2)) → ∀ pc, (pc = 19 ∨ pc = 54) →
      sp_X3_readsOrder [.inr (.inl (some 0))] (md_cs s z (th, as, un, um, sl, hs, pd, ln, i, 1, os, om)) (fun r_ k_ => ∃ (s_' : Int → Int), ∃ (z_' : mc_T), ∃ (g_' : mg_T), r_ = none ∧ k_ = (md_cs (s_') z_' g_') ∧ ab_R E_X3_reads P_X3_reads Q pc [some (.inr (.inl (some 0)))] [] (md_cs (s_') z_' g_')) := by
    intro n
    induction n with
    | zero => intro i om os acc g0 g1 g2 g3 g4 g5; omega
    | succ n ih =>
      intro i om os acc g0 g1 g2 g3 g4 g5 pc hpc
      have hlen := g4.1
      have ho := mp_ord_in (p := p) g0 (by omega)
      have lift : ∀ (g' : mg_T), ab_R E_X3_reads P_X3_reads Q 19 [some (.inr (.inl (some 0)))] [] (md_cs s z g') → ab_R E_X3_reads P_X3_reads Q pc [some (.inr (.inl (some 0)))] [] (md_cs s z g') := by
        intro g' hg
        rcases hpc with rfl | rfl
        · exact hg
        · exact b_X3_reads_54 hg
      unfold mp_all at g5
      refine ⟨_, _, _, _, _, _, _, _, _, _, _, _, _, p, rfl, rfl, hP, g0, by omega, by omega, by omega, fun hn => ⟨_, _, _, rfl, rfl, ?_⟩, fun hy => ⟨_, _, _, rfl, rfl, ?_⟩⟩
      · rw [if_neg hn, List.append_nil] at g5
        refine lift _ (b_X3_reads_19 (fun _ _ => ?_) (fun _ h => absurd rfl h) (fun h => absurd rfl h) (fun h => absurd rfl h) (fun h => absurd rfl h))
        have := hQ (mp_ord p i).1.1 0 os om (by rw [g5]; exact g4)
        rw [g5] at this
        exact this
      · rw [if_pos hy] at g5
        have ho2 := ho.2.2.2 hy
        have hs := mh_os_snoc g4 (by omega) (mp_ord p i).2
        refine lift _ (b_X3_reads_19 (fun h => absurd h (by omega)) (fun h => absurd h (by omega)) (fun _ _ h => absurd h (by omega)) (fun _ hle _ => ?_) (fun _ hlt => ?_) (p2 := by intros; unfold ab_r; omega))
        · rw [if_neg (by omega)] at g5
          have := hQ (mp_ord p i).1.1 1 _ _ (by rw [g5]; exact hs)
          rw [g5] at this
          exact this
        · rw [if_pos (by omega)] at g5
          refine ⟨_, _, _, _, _, _, _, _, _, _, _, _, _, _, p, _, rfl, rfl, hP, ⟨Or.inr rfl, by omega, by omega⟩, by unfold ab_r; omega, _, _, _, rfl, rfl, ?_⟩
          by_cases hc : mp_nx p (mp_ord p i).1.1 = 59
          · rw [if_pos hc] at g5
            have e : mp_ch p 59 ((mp_ord p i).1.1, 1) = ((mp_ord p i).1.1 + 1, 1) := by unfold mp_ch; rw [if_pos ⟨rfl, hc⟩]
            rw [e]
            refine b_X3_reads_43 (fun h => absurd h (by omega)) (fun _ => ?_)
            exact ih ((mp_ord p i).1.1 + 1) (om + 1) _ (acc ++ [(mp_ord p i).2]) (by omega) (by omega) (by omega) (by omega) hs (by rw [g5, List.append_assoc]; rfl) 54 (Or.inr rfl)
          · rw [if_neg hc] at g5
            have e : mp_ch p 59 ((mp_ord p i).1.1, 1) = ((mp_ord p i).1.1, 0) := by unfold mp_ch; rw [if_neg (fun h => hc h.2)]
            rw [e]
            refine b_X3_reads_43 (fun _ => ?_) (fun h => absurd rfl h)
            refine b_X3_reads_19 (fun _ _ => ?_) (fun _ h => absurd rfl h) (fun h => absurd rfl h) (fun h => absurd rfl h) (fun h => absurd rfl h)
            have := hQ (mp_ord p i).1.1 0 _ _ (by rw [g5]; exact hs)
            rw [g5] at this
            exact this
  refine b_X3_reads_0 (main 80 0 0 os [] (by omega) (by omega) (by omega) (by omega) ⟨rfl, by simp, fun i o h => by simp at h⟩ (by rw [← hw]; rfl) 19 (Or.inl rfl))
theorem mt_X3_reads (l : Launch) : ab_MT l mi_X3_reads sp_X3_reads := ab_MT.of (own := "RootChunksModel") (E := E_X3_reads) (P := P_X3_reads) (M := M_X3_reads) (nL := 1) (ty := 0) (by decide) rfl rfl tk_X3 pk_X3_reads ck_X3_reads (ab_CT'.cons (mt_X3_readsOrder l) (ab_CT'.cons (mt_X3_wants l) (ab_CT'.cons (mt_X3_readsOrder l) ab_CT'.nil))) (fun av cs Q h => vc_X3_reads h)
theorem vc_X3_fault {av : List ab_V} {cs : List ab_C} {Q : ab_Q} (h : sp_X3_fault av cs Q) : (ab_lv0 av).length ≤ 1 ∧ ab_R E_X3_fault P_X3_fault Q 0 (ab_ent av 1) [] cs := by
  obtain ⟨s, z, ⟨th, as, un, um, sl, hs, pd, ln, at_, iw, os, om⟩, S, rfl, rfl, ⟨hst, hU, hS, hP⟩, hQ⟩ := h
  refine ⟨Nat.le_of_ble_eq_true rfl, ?_⟩
  exact b_X3_fault_0 ⟨_, _, _, _, _, _, _, _, _, _, _, _, _, _, S.2.2.2, rfl, rfl, hP, fun at' iw' os' om' _ => ⟨_, _, _, _, rfl, rfl, b_X3_fault_9 (hQ s z (0, as, un, um, sl, hs, pd, ln, at', iw', os', om') ⟨hst, hU, hS, hP⟩ rfl)⟩⟩
theorem mt_X3_fault (l : Launch) : ab_MT l mi_X3_fault sp_X3_fault := ab_MT.of (own := "RootChunksModel") (E := E_X3_fault) (P := P_X3_fault) (M := M_X3_fault) (nL := 1) (ty := 0) (by decide) rfl rfl tk_X3 pk_X3_fault ck_X3_fault (ab_CT'.cons (mt_X3_reads l) ab_CT'.nil) (fun av cs Q h => vc_X3_fault h)
