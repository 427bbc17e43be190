theorem vc_X1_addToSpan {av : List ab_V} {cs : List ab_C} {Q : ab_Q} (h : sp_X1_addToSpan av cs Q) : (ab_lv0 av).length ≤ 7 ∧ ab_R E_X1_addToSpan P_X1_addToSpan Q 0 (ab_ent av 7) [] cs := by
  obtain ⟨⟨K, L, T, S, n, cc, w⟩, q, f, m, x, y, v, rfl, rfl, hR, hW, hx, hy, hfm, hQ⟩ := h
  refine ⟨Nat.le_of_ble_eq_true rfl, ?_⟩
  refine b_X1_addToSpan_0 ⟨_, q, f, _, rfl, rfl, hR, hW, hx, by omega, fun r1 hr1 hw1 => ⟨_, r1, rfl, rfl, ?_⟩⟩
  obtain ⟨K1, L1, T1, S1, n1, c1, w1⟩ := r1
  have hW1 := mq_cut_W (d := f) hW (by omega)
  obtain ⟨z1, z2⟩ := mq_cut_len (q := q) (d := f) (by omega)
  obtain ⟨o1, o2⟩ := mq_cut_ok (d := f) hW.1
  have hc2 := mq_cut_app (B := (mq_cut q f).2.1) (d := m) o1
  rw [z1] at hc2
  refine b_X1_addToSpan_5 ⟨_, _, f + m, _, rfl, rfl, hr1, hW1, by omega, by rw [mq_flat_app, List.length_append, z1, z2]; omega, fun r2 hr2 hw2 => ⟨_, r2, rfl, rfl, ?_⟩⟩
  obtain ⟨K2, L2, T2, S2, n2, c2, w2⟩ := r2
  rw [hc2] at hr2 hw2 ⊢
  have hWs := mq_span_W (f := f) (n := m) hW hfm
  have hr2' : mq_R (K2, L2, T2, S2, n2, c2, w2) ((mq_span q f m).1 ++ ((mq_span q f m).2.1 ++ (mq_span q f m).2.2.1)) := by
    have : mq_R (K2, L2, T2, S2, n2, c2, w2) (((mq_cut q f).1 ++ (mq_cut (mq_cut q f).2.1 m).1) ++ (mq_cut (mq_cut q f).2.1 m).2.1) := hr2
    rw [List.append_assoc] at this
    exact this
  have hb : (((mq_cut q f).1 ++ (mq_cut (mq_cut q f).2.1 m).1).length : Int) = ((mq_span q f m).1.length : Int) + (mq_span q f m).2.1.length := by rw [List.length_append]; exact Int.natCast_add _ _
  rw [hb]
  have hcl := hWs.chunks
  simp only [List.length_append] at hcl
  have loop : ∀ (M2 M1 : List mq_K) (c : Int) (S4 : Int → Int), (mq_span q f m).2.1 = M1 ++ M2 → c = ((mq_span q f m).1.length : Int) + M1.length → mq_al S4 ((mq_span q f m).1.map (fun k => k.2.2) ++ ((M1.map (mq_addk v)).map (fun k => k.2.2) ++ (M2.map (fun k => k.2.2) ++ (mq_span q f m).2.2.1.map (fun k => k.2.2)))) →
      ab_R E_X1_addToSpan P_X1_addToSpan Q 20 [some (.inr (.inl (some 0))), some (.inl x), some (.inl y), some (.inl v), some (.inl ((mq_span q f m).1.length : Int)), some (.inl (((mq_span q f m).1.length : Int) + (mq_span q f m).2.1.length)), some (.inl c)] [] (rw_cs (K2, L2, T2, S4, n2, c2, w2)) := by
    intro M2
    induction M2 with
    | nil =>
      intro M1 c S4 g1 g2 g3
      rw [List.append_nil] at g1
      have hlen : M1.length = (mq_span q f m).2.1.length := by rw [g1]
      refine b_X1_addToSpan_20 (fun _ => ?_) (fun _ => by omega)
      obtain ⟨q1, q2, q3, q4, q5, q6⟩ := hr2'
      have ef : mq_flat (mq_add q f m v).1 = mq_flat ((mq_span q f m).1 ++ ((mq_span q f m).2.1 ++ (mq_span q f m).2.2.1)) := by
        unfold mq_add
        dsimp only
        simp only [mq_flat_app]
        congr 2
        unfold mq_flat
        rw [List.flatMap_map]
        rfl
      refine hQ _ ⟨?_, ?_, ?_, ?_, ?_, ?_⟩ ?_
      · rw [ef]; exact q1
      · have e : (mq_add q f m v).1.map mq_len = ((mq_span q f m).1 ++ ((mq_span q f m).2.1 ++ (mq_span q f m).2.2.1)).map mq_len := by
          unfold mq_add
          dsimp only
          simp only [List.map_append, List.map_map]
          rfl
        rw [e]; exact q2
      · have e : (mq_add q f m v).1.map (fun k => k.2.1) = ((mq_span q f m).1 ++ ((mq_span q f m).2.1 ++ (mq_span q f m).2.2.1)).map (fun k => k.2.1) := by
          unfold mq_add
          dsimp only
          simp only [List.map_append, List.map_map]
          rfl
        rw [e]; exact q3
      · have e : (mq_add q f m v).1.map (fun k => k.2.2) = (mq_span q f m).1.map (fun k => k.2.2) ++ ((M1.map (mq_addk v)).map (fun k => k.2.2) ++ (mq_span q f m).2.2.1.map (fun k => k.2.2)) := by
          unfold mq_add
          dsimp only
          rw [g1]
          simp only [List.map_append]
        rw [e]
        simpa using g3
      · rw [ef]; exact q5
      · have e : (mq_add q f m v).1.length = ((mq_span q f m).1 ++ ((mq_span q f m).2.1 ++ (mq_span q f m).2.2.1)).length := by
          unfold mq_add
          dsimp only
          simp only [List.length_append, List.length_map]
        rw [e]; exact q6
      · dsimp only at hw1 hw2 ⊢
        unfold mq_add mq_span
        dsimp only
        omega
    | cons k M2 ih =>
      intro M1 c S4 g1 g2 g3
      have hlen : M1.length + (M2.length + 1) = (mq_span q f m).2.1.length := by
        have := congrArg List.length g1
        simp at this
        omega
      refine b_X1_addToSpan_20 (fun _ => by omega) (fun _ => ih (M1 ++ [k]) _ _ (by simpa using g1) (by simp; omega) ?_)
      have e1 : S4 c = k.2.2 := by
        have := g3 ((mq_span q f m).1.length + M1.length) k.2.2 (by simp)
        rw [show (((mq_span q f m).1.length + M1.length : Nat) : Int) = c by omega] at this
        exact this
      have g4 := mq_al_up (X := (mq_span q f m).1.map (fun k => k.2.2) ++ (M1.map (mq_addk v)).map (fun k => k.2.2)) (y := k.2.2) (Z := M2.map (fun k => k.2.2) ++ (mq_span q f m).2.2.1.map (fun k => k.2.2)) (x := S4 c + v) (f := S4) (by simpa using g3)
      rw [show (((mq_span q f m).1.map (fun k => k.2.2) ++ (M1.map (mq_addk v)).map (fun k => k.2.2)).length : Int) = c by simp; omega] at g4
      rw [e1] at g4 ⊢
      simpa [mq_addk] using g4
  refine b_X1_addToSpan_14 (loop (mq_span q f m).2.1 [] _ S2 rfl (by show ((mq_span q f m).1.length : Int) = ((mq_span q f m).1.length : Int) + (([] : List mq_K).length : Int); simp) ?_)
  have := hr2'.2.2.2.1
  simpa using this
theorem mt_X1_addToSpan (l : Launch) : ab_MT l mi_X1_addToSpan sp_X1_addToSpan := ab_MT.of (own := "RootChunks$Row") (E := E_X1_addToSpan) (P := P_X1_addToSpan) (M := M_X1_addToSpan) (nL := 7) (ty := 9) (by decide) rfl rfl tk_X1 pk_X1_addToSpan ck_X1_addToSpan (ab_CT'.cons (mt_X1_cutAt l) (ab_CT'.cons (mt_X1_cutAt l) ab_CT'.nil)) (fun av cs Q h => vc_X1_addToSpan h)
theorem vc_X1_moveSpan {av : List ab_V} {cs : List ab_C} {Q : ab_Q} (h : sp_X1_moveSpan av cs Q) : (ab_lv0 av).length ≤ 5 ∧ ab_R E_X1_moveSpan P_X1_moveSpan Q 0 (ab_ent av 5) [] cs := by
  obtain ⟨⟨K, L, T, S, n, cc, w⟩, q, f, m, d, x, y, p, rfl, rfl, hR, hW, hx, hy, hfm, hp, hdm, hQ⟩ := h
  refine ⟨Nat.le_of_ble_eq_true rfl, ?_⟩
  have hfl := hW.2
  refine b_X1_moveSpan_0 ⟨_, q, f, _, rfl, rfl, hR, hW, hx, by omega, fun r1 hr1 hw1 => ⟨_, r1, rfl, rfl, ?_⟩⟩
  obtain ⟨K1, L1, T1, S1, n1, c1, w1⟩ := r1
  have hW1 := mq_cut_W (d := f) hW (by omega)
  obtain ⟨z1, z2⟩ := mq_cut_len (q := q) (d := f) (by omega)
  obtain ⟨o1, o2⟩ := mq_cut_ok (d := f) hW.1
  have hc2 := mq_cut_app (B := (mq_cut q f).2.1) (d := m) o1
  rw [z1] at hc2
  refine b_X1_moveSpan_10 ⟨_, _, f + m, _, rfl, rfl, hr1, hW1, by omega, by rw [mq_flat_app, List.length_append, z1, z2]; omega, fun r2 hr2 hw2 => ⟨_, r2, rfl, rfl, ?_⟩⟩
  obtain ⟨K2, L2, T2, S2, n2, c2, w2⟩ := r2
  rw [hc2] at hr2 hw2
  have hWs := mq_span_W (f := f) (n := m) hW hfm
  obtain ⟨s1, s2, s3, p1, p2, p3, -⟩ := mq_span_in (f := f) (n := m) hW hfm
  have hr2' : mq_R (K2, L2, T2, S2, n2, c2, w2) ((mq_span q f m).1 ++ ((mq_span q f m).2.1 ++ (mq_span q f m).2.2.1)) := by
    have : mq_R (K2, L2, T2, S2, n2, c2, w2) (((mq_cut q f).1 ++ (mq_cut (mq_cut q f).2.1 m).1) ++ (mq_cut (mq_cut q f).2.1 m).2.1) := hr2
    rw [List.append_assoc] at this
    exact this
  have hw2' : w2 = w + (mq_span q f m).2.2.2 := by
    dsimp only at hw1 hw2
    unfold mq_span
    dsimp only
    omega
  have hQ' : ∀ r' : rw_T, mq_R r' (mq_mov q f m d).1 → r'.2.2.2.2.2.2 = w + (mq_mov q f m d).2 → Q none (rw_cs r') := hQ
  clear hQ hr2 hw2 hc2 hr1 hw1 hW1
  unfold mq_mov at hQ'
  generalize hA : (mq_span q f m).1 = A at s1 p1 hWs hr2' hQ'
  generalize hM : (mq_span q f m).2.1 = M at s2 p2 hWs hr2' hQ'
  generalize hB : (mq_span q f m).2.2.1 = B at s3 p3 hWs hr2' hQ'
  generalize hs : (mq_span q f m).2.2.2 = dw at hw2' hQ'
  have hsl := hWs.2
  simp only [mq_flat_app, List.length_append] at hsl
  refine b_X1_moveSpan_17 (fun hc => ?_) (fun hc => ?_)
  · -- behind the span
    have q1 := mq_cut_at (B := M ++ B) p1
    refine ⟨_, A ++ (M ++ B), (mq_flat A).length, _, rfl, rfl, hr2', hWs, by omega, by simp only [mq_flat_app, List.length_append]; omega, fun r3 hr3 hw3 => ⟨_, r3, rfl, rfl, ?_⟩⟩
    rw [q1] at hr3 hw3 ⊢
    obtain ⟨K3, L3, T3, S3, n3, c3, w3⟩ := r3
    have p12 : ∀ k ∈ A ++ M, mq_ok k := fun k hk => (List.mem_append.mp hk).elim (p1 k) (p2 k)
    have q2 := mq_cut_at (B := B) p12
    refine b_X1_moveSpan_52 ⟨_, (A ++ M) ++ B, (mq_flat (A ++ M)).length, _, rfl, rfl, by simpa using hr3, by simpa using hWs, by simp only [mq_flat_app, List.length_append]; omega, by simp only [mq_flat_app, List.length_append]; omega, fun r4 hr4 hw4 => ⟨_, r4, rfl, rfl, ?_⟩⟩
    rw [q2] at hr4 hw4 ⊢
    obtain ⟨K4, L4, T4, S4, n4, c4, w4⟩ := r4
    have q3 := mq_cut_app (B := B) (d := d - f) p12
    have q4 := mq_cut_app (B := B) (d := d - f) p1
    rw [show (mq_flat A).length + (d - f) = d by omega] at q4
    rw [q4] at hQ'
    have bl : (d - f) ≤ (mq_flat B).length := by omega
    have W5 := mq_cut_W (d := (mq_flat (A ++ M)).length + (d - f)) (q := (A ++ M) ++ B) (by simpa using hWs) (by simp only [mq_flat_app, List.length_append]; omega)
    rw [q3] at W5
    refine b_X1_moveSpan_58 ⟨_, (A ++ M) ++ B, (mq_flat (A ++ M)).length + (d - f), _, rfl, rfl, hr4, by simpa using hWs, by simp only [mq_flat_app, List.length_append]; omega, by simp only [mq_flat_app, List.length_append]; omega, fun r5 hr5 hw5 => ⟨_, r5, rfl, rfl, ?_⟩⟩
    rw [q3] at hr5 hw5 ⊢
    obtain ⟨K5, L5, T5, S5, n5, c5, w5⟩ := r5
    refine b_X1_moveSpan_68 ⟨_, A, M, (mq_cut B (d - f)).1, (mq_cut B (d - f)).2.1, _, _, _, rfl, rfl, by simpa using hr5, by simpa using W5, rfl, by simp, by simp; omega, fun r6 hr6 hw6 => ⟨r6, rfl, rfl, ?_⟩⟩
    obtain ⟨K6, L6, T6, S6, n6, c6, w6⟩ := r6
    refine b_X1_moveSpan_71 (hQ' _ (by simpa using hr6) ?_)
    dsimp only at hw3 hw4 hw5 hw6 ⊢
    omega
  · -- ahead of it
    have q1 := mq_cut_left (C := M ++ B) (d := d) p1 (by omega)
    have q1' := mq_cut_left (C := B) (d := d) p1 (by omega)
    rw [q1'] at hQ'
    obtain ⟨y1, y2⟩ := mq_cut_ok (d := d) p1
    obtain ⟨y3, y4⟩ := mq_cut_len (q := A) (d := d) (by omega)
    have W3 := mq_cut_W (d := d) hWs (by simp only [mq_flat_app, List.length_append]; omega)
    rw [q1] at W3
    refine ⟨_, A ++ (M ++ B), d, _, rfl, rfl, hr2', hWs, hp, by simp only [mq_flat_app, List.length_append]; omega, fun r3 hr3 hw3 => ⟨_, r3, rfl, rfl, ?_⟩⟩
    rw [q1] at hr3 hw3 ⊢
    obtain ⟨K3, L3, T3, S3, n3, c3, w3⟩ := r3
    dsimp only at W3 hr3 hw3 ⊢
    generalize (mq_cut A d).1 = A1 at *
    generalize (mq_cut A d).2.1 = A2 at *
    generalize (mq_cut A d).2.2 = dw2 at *
    have p12 : ∀ k ∈ A1 ++ A2, mq_ok k := fun k hk => (List.mem_append.mp hk).elim (y1 k) (y2 k)
    have p123 : ∀ k ∈ (A1 ++ A2) ++ M, mq_ok k := fun k hk => (List.mem_append.mp hk).elim (p12 k) (p2 k)
    have q2 := mq_cut_at (B := M ++ B) p12
    have q3 := mq_cut_at (B := B) p123
    have W3' := W3
    have hsl2 := W3.2
    simp only [mq_flat_app, List.length_append] at hsl2
    refine b_X1_moveSpan_29 ⟨_, (A1 ++ A2) ++ (M ++ B), (mq_flat (A1 ++ A2)).length, _, rfl, rfl, by simpa using hr3, by simpa using W3, by simp only [mq_flat_app, List.length_append]; omega, by simp only [mq_flat_app, List.length_append]; omega, fun r4 hr4 hw4 => ⟨_, r4, rfl, rfl, ?_⟩⟩
    rw [q2] at hr4 hw4 ⊢
    obtain ⟨K4, L4, T4, S4, n4, c4, w4⟩ := r4
    refine b_X1_moveSpan_34 ⟨_, ((A1 ++ A2) ++ M) ++ B, (mq_flat ((A1 ++ A2) ++ M)).length, _, rfl, rfl, by simpa using hr4, by simpa using W3, by simp only [mq_flat_app, List.length_append]; omega, by simp only [mq_flat_app, List.length_append]; omega, fun r5 hr5 hw5 => ⟨_, r5, rfl, rfl, ?_⟩⟩
    rw [q3] at hr5 hw5 ⊢
    obtain ⟨K5, L5, T5, S5, n5, c5, w5⟩ := r5
    refine b_X1_moveSpan_40 ⟨_, A1, A2, M, B, _, _, _, rfl, rfl, by simpa using hr5, by simpa using W3, rfl, by simp, by simp; omega, fun r6 hr6 hw6 => ⟨r6, rfl, rfl, ?_⟩⟩
    obtain ⟨K6, L6, T6, S6, n6, c6, w6⟩ := r6
    refine b_X1_moveSpan_43 (b_X1_moveSpan_71 (hQ' _ (by simpa using hr6) ?_))
    dsimp only at hw3 hw4 hw5 hw6 ⊢
    omega
theorem mt_X1_moveSpan (l : Launch) : ab_MT l mi_X1_moveSpan sp_X1_moveSpan := ab_MT.of (own := "RootChunks$Row") (E := E_X1_moveSpan) (P := P_X1_moveSpan) (M := M_X1_moveSpan) (nL := 5) (ty := 9) (by decide) rfl rfl tk_X1 pk_X1_moveSpan ck_X1_moveSpan (ab_CT'.cons (mt_X1_cutAt l) (ab_CT'.cons (mt_X1_cutAt l) (ab_CT'.cons (mt_X1_cutAt l) (ab_CT'.cons (mt_X1_cutAt l) (ab_CT'.cons (mt_X1_cutAt l) (ab_CT'.cons (mt_X1_exchangeChunks l) (ab_CT'.cons (mt_X1_cutAt l) (ab_CT'.cons (mt_X1_cutAt l) (ab_CT'.cons (mt_X1_cutAt l) (ab_CT'.cons (mt_X1_exchangeChunks l) ab_CT'.nil)))))))))) (fun av cs Q h => vc_X1_moveSpan h)
def sp_X1_longestChunk : ab_Sp := fun av cs Q => ∃ (r : rw_T) (q : List mq_K), av = [.inr (.inl (some 0))] ∧ cs = rw_cs r ∧ mq_R r q ∧ mq_W q ∧ Q (some (.inl (mq_lg q 0))) (rw_cs r)
def sp_X1_waitingTurns : ab_Sp := fun av cs Q => ∃ (r : rw_T) (q : List mq_K), av = [.inr (.inl (some 0))] ∧ cs = rw_cs r ∧ mq_R r q ∧ mq_W q ∧ Q (some (.inl (mq_wt q 0))) (rw_cs r)
def sp_X1_waitingSums : ab_Sp := fun av cs Q => ∃ (r : rw_T) (q : List mq_K), av = [.inr (.inl (some 0))] ∧ cs = rw_cs r ∧ mq_R r q ∧ mq_W q ∧ Q (some (.inl (mq_ws q 0))) (rw_cs r)
def sp_X1_layOut : ab_Sp := fun av cs Q => ∃ (r : rw_T) (q : List mq_K) (f : Int → Int), av = [.inr (.inl (some 0)), .inr (.inl (some 5))] ∧ cs = rwa_cs r f ∧ mq_R r q ∧ mq_W q ∧ ∀ f', mq_al f' (mq_all q) → Q none (rwa_cs r f')
def sp_X1_copyFrom : ab_Sp := fun av cs Q => ∃ (r r0 : rw_T) (q : List mq_K), av = [.inr (.inl (some 0)), .inr (.inl (some 5))] ∧ cs = rw2_cs r r0 ∧ mq_R r0 q ∧ mq_W q ∧ ∀ r', mq_R r' q → r'.2.2.2.2.2.2 = r0.2.2.2.2.2.2 → Q none (rw2_cs r' r0)
def P_X1_longestChunk : List ab_I := [(0, .iconst 0, 1, []), (1, .istore_n 1, 2, []), (2, .iconst 0, 3, []), (3, .istore_n 2, 4, []), (4, .iload_n 2, 5, []), (5, .aload_n 0, 6, []), (6, .getfield 28, 9, []), (9, .if_icmp .ge 20, 12, [((0 : Int), 29)]), (12, .iload_n 1, 13, []), (13, .aload_n 0, 14, []), (14, .getfield 15, 17, []), (17, .iload_n 2, 18, []), (18, .iaload, 19, []), (19, .invokestatic 47, 22, []), (22, .istore_n 1, 23, []), (23, .iinc 2 1, 26, []), (26, .goto (-22), 29, [((0 : Int), 4)]), (29, .iload_n 1, 30, []), (30, .ireturn, 31, [])]
def E_X1_longestChunk : ab_E := (T_X1, [], [(19, 1)], 0)
def M_X1_longestChunk : List (Nat × ab_MI) := []
def mi_X1_longestChunk : ab_MI := (yX1_longestChunk, cX1_longestChunk, 3, ab_rty 0, 1, 70)
theorem pk_X1_longestChunk : P_X1_longestChunk.all (ab_okI cX1_longestChunk) = true := by decide +kernel
theorem ck_X1_longestChunk : P_X1_longestChunk.all (ab_okC1 "RootChunks$Row" M_X1_longestChunk E_X1_longestChunk (1, 70)) = true := by decide +kernel
set_option maxRecDepth 100000 in
theorem b_X1_longestChunk_0 {Q : ab_Q} {rK : Int → Int} {rL : Int → Int} {rT : Int → Int} {rS : Int → Int} {rn : Int} {rc : Int} {rw : Int} (l1 : ab_R E_X1_longestChunk P_X1_longestChunk Q 4 [some (.inr (.inl (some 0))), some (.inl 0), some (.inl 0)] [] (rw_cs (rK, rL, rT, rS, rn, rc, rw)))  : ab_R E_X1_longestChunk P_X1_longestChunk Q 0 [some (.inr (.inl (some 0))), none, none] [] (rw_cs (rK, rL, rT, rS, rn, rc, rw)) :=
  ab_R.steps [4] 6 (show ab_R E_X1_longestChunk P_X1_longestChunk Q 4 [some (.inr (.inl (some 0))), some (.inl 0), some (.inl 0)] [] (rw_cs (rK, rL, rT, rS, rn, rc, rw)) from l1)
set_option maxRecDepth 100000 in
theorem b_X1_longestChunk_4 {Q : ab_Q} {m : Int} {c : Int} {rK : Int → Int} {rL : Int → Int} {rT : Int → Int} {rS : Int → Int} {rn : Int} {rc : Int} {rw : Int} (l1 : rc ≤ c → Q (some (.inl m)) (rw_cs (rK, rL, rT, rS, rn, rc, rw))) (l2 : c < rc → ab_R E_X1_longestChunk P_X1_longestChunk Q 4 [some (.inr (.inl (some 0))), some (.inl (if m < (rL c) then (rL c) else m)), some (.inl (c + 1))] [] (rw_cs (rK, rL, rT, rS, rn, rc, rw))) (p1 : (ab_r c ∧ ab_r rc) := by intros; (try unfold ab_r); omega) (p2 : c < rc → (0 ≤ c ∧ c < 60) := by intros; (try unfold ab_r); omega) (p3 : c < rc → (ab_r m ∧ ab_r (rL c)) := by intros; (try unfold ab_r); omega) : ab_R E_X1_longestChunk P_X1_longestChunk Q 4 [some (.inr (.inl (some 0))), some (.inl m), some (.inl c)] [] (rw_cs (rK, rL, rT, rS, rn, rc, rw)) :=
  ab_R.steps [4] 15 (show ((ab_r c ∧ ab_r rc) ∧ ((rc ≤ c → Q (some (.inl m)) (rw_cs (rK, rL, rT, rS, rn, rc, rw))) ∧ (c < rc → ((0 ≤ c ∧ c < 60) ∧ ((ab_r m ∧ ab_r (rL c)) ∧ ab_R E_X1_longestChunk P_X1_longestChunk Q 4 [some (.inr (.inl (some 0))), some (.inl (if m < (rL c) then (rL c) else m)), some (.inl (c + 1))] [] (rw_cs (rK, rL, rT, rS, rn, rc, rw))))))) from ⟨p1, ⟨fun h1 => (l1 h1), fun h2 => ⟨(p2 h2), ⟨(p3 h2), (l2 h2)⟩⟩⟩⟩)
def P_X1_waitingTurns : List ab_I := [(0, .iconst 0, 1, []), (1, .istore_n 1, 2, []), (2, .iconst 0, 3, []), (3, .istore_n 2, 4, []), (4, .iload_n 2, 5, []), (5, .aload_n 0, 6, []), (6, .getfield 28, 9, []), (9, .if_icmp .ge 18, 12, [((0 : Int), 27)]), (12, .iload_n 1, 13, []), (13, .aload_n 0, 14, []), (14, .getfield 18, 17, []), (17, .iload_n 2, 18, []), (18, .iaload, 19, []), (19, .iadd, 20, []), (20, .istore_n 1, 21, []), (21, .iinc 2 1, 24, []), (24, .goto (-20), 27, [((0 : Int), 4)]), (27, .iload_n 1, 28, []), (28, .ireturn, 29, [])]
def E_X1_waitingTurns : ab_E := (T_X1, [], [], 0)
def M_X1_waitingTurns : List (Nat × ab_MI) := []
def mi_X1_waitingTurns : ab_MI := (yX1_waitingTurns, cX1_waitingTurns, 3, ab_rty 0, 1, 70)
theorem pk_X1_waitingTurns : P_X1_waitingTurns.all (ab_okI cX1_waitingTurns) = true := by decide +kernel
theorem ck_X1_waitingTurns : P_X1_waitingTurns.all (ab_okC1 "RootChunks$Row" M_X1_waitingTurns E_X1_waitingTurns (1, 70)) = true := by decide +kernel
set_option maxRecDepth 100000 in
theorem b_X1_waitingTurns_0 {Q : ab_Q} {rK : Int → Int} {rL : Int → Int} {rT : Int → Int} {rS : Int → Int} {rn : Int} {rc : Int} {rw : Int} (l1 : ab_R E_X1_waitingTurns P_X1_waitingTurns Q 4 [some (.inr (.inl (some 0))), some (.inl 0), some (.inl 0)] [] (rw_cs (rK, rL, rT, rS, rn, rc, rw)))  : ab_R E_X1_waitingTurns P_X1_waitingTurns Q 0 [some (.inr (.inl (some 0))), none, none] [] (rw_cs (rK, rL, rT, rS, rn, rc, rw)) :=
  ab_R.steps [4] 6 (show ab_R E_X1_waitingTurns P_X1_waitingTurns Q 4 [some (.inr (.inl (some 0))), some (.inl 0), some (.inl 0)] [] (rw_cs (rK, rL, rT, rS, rn, rc, rw)) from l1)
set_option maxRecDepth 100000 in
theorem b_X1_waitingTurns_4 {Q : ab_Q} {m : Int} {c : Int} {rK : Int → Int} {rL : Int → Int} {rT : Int → Int} {rS : Int → Int} {rn : Int} {rc : Int} {rw : Int} (l1 : rc ≤ c → Q (some (.inl m)) (rw_cs (rK, rL, rT, rS, rn, rc, rw))) (l2 : c < rc → ab_R E_X1_waitingTurns P_X1_waitingTurns Q 4 [some (.inr (.inl (some 0))), some (.inl (m + (rT c))), some (.inl (c + 1))] [] (rw_cs (rK, rL, rT, rS, rn, rc, rw))) (p1 : (ab_r c ∧ ab_r rc) := by intros; (try unfold ab_r); omega) (p2 : c < rc → (0 ≤ c ∧ c < 60) := by intros; (try unfold ab_r); omega) : ab_R E_X1_waitingTurns P_X1_waitingTurns Q 4 [some (.inr (.inl (some 0))), some (.inl m), some (.inl c)] [] (rw_cs (rK, rL, rT, rS, rn, rc, rw)) :=
  ab_R.steps [4] 15 (show ((ab_r c ∧ ab_r rc) ∧ ((rc ≤ c → Q (some (.inl m)) (rw_cs (rK, rL, rT, rS, rn, rc, rw))) ∧ (c < rc → ((0 ≤ c ∧ c < 60) ∧ ab_R E_X1_waitingTurns P_X1_waitingTurns Q 4 [some (.inr (.inl (some 0))), some (.inl (m + (rT c))), some (.inl (c + 1))] [] (rw_cs (rK, rL, rT, rS, rn, rc, rw)))))) from ⟨p1, ⟨fun h1 => (l1 h1), fun h2 => ⟨(p2 h2), (l2 h2)⟩⟩⟩)
def P_X1_waitingSums : List ab_I := [(0, .iconst 0, 1, []), (1, .istore_n 1, 2, []), (2, .iconst 0, 3, []), (3, .istore_n 2, 4, []), (4, .iload_n 2, 5, []), (5, .aload_n 0, 6, []), (6, .getfield 28, 9, []), (9, .if_icmp .ge 21, 12, [((0 : Int), 30)]), (12, .aload_n 0, 13, []), (13, .getfield 21, 16, []), (16, .iload_n 2, 17, []), (17, .iaload, 18, []), (18, .ifCond .eq 6, 21, [((0 : Int), 24)]), (21, .iinc 1 1, 24, []), (24, .iinc 2 1, 27, []), (27, .goto (-23), 30, [((0 : Int), 4)]), (30, .iload_n 1, 31, []), (31, .ireturn, 32, [])]
def E_X1_waitingSums : ab_E := (T_X1, [], [], 0)
def M_X1_waitingSums : List (Nat × ab_MI) := []
def mi_X1_waitingSums : ab_MI := (yX1_waitingSums, cX1_waitingSums, 3, ab_rty 0, 1, 70)
theorem pk_X1_waitingSums : P_X1_waitingSums.all (ab_okI cX1_waitingSums) = true := by decide +kernel
theorem ck_X1_waitingSums : P_X1_waitingSums.all (ab_okC1 "RootChunks$Row" M_X1_waitingSums E_X1_waitingSums (1, 70)) = true := by decide +kernel
set_option maxRecDepth 100000 in
theorem b_X1_waitingSums_0 {Q : ab_Q} {rK : Int → Int} {rL : Int → Int} {rT : Int → Int} {rS : Int → Int} {rn : Int} {rc : Int} {rw : Int} (l1 : ab_R E_X1_waitingSums P_X1_waitingSums Q 4 [some (.inr (.inl (some 0))), some (.inl 0), some (.inl 0)] [] (rw_cs (rK, rL, rT, rS, rn, rc, rw)))  : ab_R E_X1_waitingSums P_X1_waitingSums Q 0 [some (.inr (.inl (some 0))), none, none] [] (rw_cs (rK, rL, rT, rS, rn, rc, rw)) :=
  ab_R.steps [4] 6 (show ab_R E_X1_waitingSums P_X1_waitingSums Q 4 [some (.inr (.inl (some 0))), some (.inl 0), some (.inl 0)] [] (rw_cs (rK, rL, rT, rS, rn, rc, rw)) from l1)
set_option maxRecDepth 100000 in
theorem b_X1_waitingSums_4 {Q : ab_Q} {m : Int} {c : Int} {rK : Int → Int} {rL : Int → Int} {rT : Int → Int} {rS : Int → Int} {rn : Int} {rc : Int} {rw : Int} (l1 : rc ≤ c → Q (some (.inl m)) (rw_cs (rK, rL, rT, rS, rn, rc, rw))) (l2 : c < rc → (rS c) = (0 : Int) → ab_R E_X1_waitingSums P_X1_waitingSums Q 4 [some (.inr (.inl (some 0))), some (.inl m), some (.inl (c + 1))] [] (rw_cs (rK, rL, rT, rS, rn, rc, rw))) (l3 : c < rc → ¬ (rS c) = (0 : Int) → ab_R E_X1_waitingSums P_X1_waitingSums Q 4 [some (.inr (.inl (some 0))), some (.inl (m + 1)), some (.inl (c + 1))] [] (rw_cs (rK, rL, rT, rS, rn, rc, rw))) (p1 : (ab_r c ∧ ab_r rc) := by intros; (try unfold ab_r); omega) (p2 : c < rc → (0 ≤ c ∧ c < 60) := by intros; (try unfold ab_r); omega) (p3 : c < rc → ab_r (rS c) := by intros; (try unfold ab_r); omega) : ab_R E_X1_waitingSums P_X1_waitingSums Q 4 [some (.inr (.inl (some 0))), some (.inl m), some (.inl c)] [] (rw_cs (rK, rL, rT, rS, rn, rc, rw)) :=
  ab_R.steps [4] 14 (show ((ab_r c ∧ ab_r rc) ∧ ((rc ≤ c → Q (some (.inl m)) (rw_cs (rK, rL, rT, rS, rn, rc, rw))) ∧ (c < rc → ((0 ≤ c ∧ c < 60) ∧ (ab_r (rS c) ∧ (((rS c) = (0 : Int) → ab_R E_X1_waitingSums P_X1_waitingSums Q 4 [some (.inr (.inl (some 0))), some (.inl m), some (.inl (c + 1))] [] (rw_cs (rK, rL, rT, rS, rn, rc, rw))) ∧ (¬ (rS c) = (0 : Int) → ab_R E_X1_waitingSums P_X1_waitingSums Q 4 [some (.inr (.inl (some 0))), some (.inl (m + 1)), some (.inl (c + 1))] [] (rw_cs (rK, rL, rT, rS, rn, rc, rw))))))))) from ⟨p1, ⟨fun h1 => (l1 h1), fun h2 => ⟨(p2 h2), ⟨(p3 h2), ⟨fun h3 => (l2 h2 h3), fun h4 => (l3 h2 h4)⟩⟩⟩⟩⟩)
def P_X1_layOut : List ab_I := [(0, .iconst 0, 1, []), (1, .istore_n 2, 2, []), (2, .iconst 0, 3, []), (3, .istore_n 3, 4, []), (4, .iload_n 3, 5, []), (5, .aload_n 0, 6, []), (6, .getfield 28, 9, []), (9, .if_icmp .ge 92, 12, [((0 : Int), 101)]), (12, .iload_n 2, 13, []), (13, .aload_n 0, 14, []), (14, .getfield 15, 17, []), (17, .iload_n 3, 18, []), (18, .iaload, 19, []), (19, .iadd, 20, []), (20, .iconst 1, 21, []), (21, .isub, 22, []), (22, .istore 4, 24, []), (24, .iload_n 2, 25, []), (25, .istore 5, 27, []), (27, .iload 5, 29, []), (29, .iload 4, 31, []), (31, .if_icmp .gt 59, 34, [((0 : Int), 90)]), (34, .iload 5, 36, []), (36, .aload_n 1, 37, []), (37, .arraylength, 38, []), (38, .if_icmp .ge 52, 41, [((0 : Int), 90)]), (41, .aload_n 1, 42, []), (42, .iload 5, 44, []), (44, .aload_n 0, 45, []), (45, .getfield 21, 48, []), (48, .iload_n 3, 49, []), (49, .iaload, 50, []), (50, .aload_n 0, 51, []), (51, .getfield 18, 54, []), (54, .iload_n 3, 55, []), (55, .iaload, 56, []), (56, .iconst 1, 57, []), (57, .if_icmp .ne 18, 60, [((0 : Int), 75)]), (60, .aload_n 0, 61, []), (61, .getfield 9, 64, []), (64, .iload_n 2, 65, []), (65, .iload 4, 67, []), (67, .iadd, 68, []), (68, .iload 5, 70, []), (70, .isub, 71, []), (71, .iaload, 72, []), (72, .goto 10, 75, [((0 : Int), 82)]), (75, .aload_n 0, 76, []), (76, .getfield 9, 79, []), (79, .iload 5, 81, []), (81, .iaload, 82, []), (82, .iadd, 83, []), (83, .iastore, 84, []), (84, .iinc 5 1, 87, []), (87, .goto (-60), 90, [((0 : Int), 27)]), (90, .iload 4, 92, []), (92, .iconst 1, 93, []), (93, .iadd, 94, []), (94, .istore_n 2, 95, []), (95, .iinc 3 1, 98, []), (98, .goto (-94), 101, [((0 : Int), 4)]), (101, .return_, 102, [])]
def E_X1_layOut : ab_E := (T_X1, [], [], 9)
def M_X1_layOut : List (Nat × ab_MI) := []
def mi_X1_layOut : ab_MI := (yX1_layOut, cX1_layOut, 6, ab_rty 9, 1, 70)
theorem pk_X1_layOut : P_X1_layOut.all (ab_okI cX1_layOut) = true := by decide +kernel
theorem ck_X1_layOut : P_X1_layOut.all (ab_okC1 "RootChunks$Row" M_X1_layOut E_X1_layOut (1, 70)) = true := by decide +kernel
set_option maxRecDepth 100000 in
theorem b_X1_layOut_0 {Q : ab_Q} {rK : Int → Int} {rL : Int → Int} {rT : Int → Int} {rS : Int → Int} {rn : Int} {rc : Int} {rw : Int} {f : Int → Int} (l1 : ab_R E_X1_layOut P_X1_layOut Q 4 [some (.inr (.inl (some 0))), some (.inr (.inl (some 5))), some (.inl 0), some (.inl 0), none, none] [] (rwa_cs (rK, rL, rT, rS, rn, rc, rw) f))  : ab_R E_X1_layOut P_X1_layOut Q 0 [some (.inr (.inl (some 0))), some (.inr (.inl (some 5))), none, none, none, none] [] (rwa_cs (rK, rL, rT, rS, rn, rc, rw) f) :=
  ab_R.steps [4, 27] 6 (show ab_R E_X1_layOut P_X1_layOut Q 4 [some (.inr (.inl (some 0))), some (.inr (.inl (some 5))), some (.inl 0), some (.inl 0), none, none] [] (rwa_cs (rK, rL, rT, rS, rn, rc, rw) f) from l1)
set_option maxRecDepth 100000 in
theorem b_X1_layOut_4 {Q : ab_Q} {st : Int} {c : Int} {rK : Int → Int} {rL : Int → Int} {rT : Int → Int} {rS : Int → Int} {rn : Int} {rc : Int} {rw : Int} {f : Int → Int} (l1 : rc ≤ c → Q none (rwa_cs (rK, rL, rT, rS, rn, rc, rw) f)) (l2 : c < rc → ab_R E_X1_layOut P_X1_layOut Q 27 [some (.inr (.inl (some 0))), some (.inr (.inl (some 5))), some (.inl st), some (.inl c), some (.inl ((st + (rL c)) - 1)), some (.inl st)] [] (rwa_cs (rK, rL, rT, rS, rn, rc, rw) f)) (p1 : (ab_r c ∧ ab_r rc) := by intros; (try unfold ab_r); omega) (p2 : c < rc → (0 ≤ c ∧ c < 60) := by intros; (try unfold ab_r); omega) : ab_R E_X1_layOut P_X1_layOut Q 4 [some (.inr (.inl (some 0))), some (.inr (.inl (some 5))), some (.inl st), some (.inl c), none, none] [] (rwa_cs (rK, rL, rT, rS, rn, rc, rw) f) :=
  ab_R.steps [4, 27] 17 (show ((ab_r c ∧ ab_r rc) ∧ ((rc ≤ c → Q none (rwa_cs (rK, rL, rT, rS, rn, rc, rw) f)) ∧ (c < rc → ((0 ≤ c ∧ c < 60) ∧ ab_R E_X1_layOut P_X1_layOut Q 27 [some (.inr (.inl (some 0))), some (.inr (.inl (some 5))), some (.inl st), some (.inl c), some (.inl ((st + (rL c)) - 1)), some (.inl st)] [] (rwa_cs (rK, rL, rT, rS, rn, rc, rw) f))))) from ⟨p1, ⟨fun h1 => (l1 h1), fun h2 => ⟨(p2 h2), (l2 h2)⟩⟩⟩)
set_option maxRecDepth 100000 in
theorem b_X1_layOut_27 {Q : ab_Q} {st : Int} {c : Int} {la : Int} {p : Int} {rK : Int → Int} {rL : Int → Int} {rT : Int → Int} {rS : Int → Int} {rn : Int} {rc : Int} {rw : Int} {f : Int → Int} (l1 : la < p → ab_R E_X1_layOut P_X1_layOut Q 4 [some (.inr (.inl (some 0))), some (.inr (.inl (some 5))), some (.inl (la + 1)), some (.inl (c + 1)), none, none] [] (rwa_cs (rK, rL, rT, rS, rn, rc, rw) f)) (l2 : p ≤ la → (60 : Int) ≤ p → ab_R E_X1_layOut P_X1_layOut Q 4 [some (.inr (.inl (some 0))), some (.inr (.inl (some 5))), some (.inl (la + 1)), some (.inl (c + 1)), none, none] [] (rwa_cs (rK, rL, rT, rS, rn, rc, rw) f)) (l3 : p ≤ la → p < (60 : Int) → ¬ (rT c) = (1 : Int) → ab_R E_X1_layOut P_X1_layOut Q 27 [some (.inr (.inl (some 0))), some (.inr (.inl (some 5))), some (.inl st), some (.inl c), some (.inl la), some (.inl (p + 1))] [] (rwa_cs (rK, rL, rT, rS, rn, rc, rw) ((ab_up f p ((rS c) + (rK p)))))) (l4 : p ≤ la → p < (60 : Int) → (rT c) = (1 : Int) → ab_R E_X1_layOut P_X1_layOut Q 27 [some (.inr (.inl (some 0))), some (.inr (.inl (some 5))), some (.inl st), some (.inl c), some (.inl la), some (.inl (p + 1))] [] (rwa_cs (rK, rL, rT, rS, rn, rc, rw) ((ab_up f p ((rS c) + (rK ((st + la) - p))))))) (p1 : (ab_r p ∧ ab_r la) := by intros; (try unfold ab_r); omega) (p2 : p ≤ la → (ab_r p ∧ ab_r 60) := by intros; (try unfold ab_r); omega) (p3 : p ≤ la → p < (60 : Int) → (0 ≤ c ∧ c < 60) := by intros; (try unfold ab_r); omega) (p4 : p ≤ la → p < (60 : Int) → (ab_r (rT c) ∧ ab_r 1) := by intros; (try unfold ab_r); omega) (p5 : p ≤ la → p < (60 : Int) → ¬ (rT c) = (1 : Int) → (0 ≤ p ∧ p < 60) := by intros; (try unfold ab_r); omega) (p6 : p ≤ la → p < (60 : Int) → (rT c) = (1 : Int) → (0 ≤ ((st + la) - p) ∧ ((st + la) - p) < 60) := by intros; (try unfold ab_r); omega) (p7 : p ≤ la → p < (60 : Int) → (rT c) = (1 : Int) → (0 ≤ p ∧ p < 60) := by intros; (try unfold ab_r); omega) : ab_R E_X1_layOut P_X1_layOut Q 27 [some (.inr (.inl (some 0))), some (.inr (.inl (some 5))), some (.inl st), some (.inl c), some (.inl la), some (.inl p)] [] (rwa_cs (rK, rL, rT, rS, rn, rc, rw) f) :=
  ab_R.steps [4, 27] 34 (show ((ab_r p ∧ ab_r la) ∧ ((la < p → ab_R E_X1_layOut P_X1_layOut Q 4 [some (.inr (.inl (some 0))), some (.inr (.inl (some 5))), some (.inl (la + 1)), some (.inl (c + 1)), some (.inl la), some (.inl p)] [] (rwa_cs (rK, rL, rT, rS, rn, rc, rw) f)) ∧ (p ≤ la → ((ab_r p ∧ ab_r 60) ∧ (((60 : Int) ≤ p → ab_R E_X1_layOut P_X1_layOut Q 4 [some (.inr (.inl (some 0))), some (.inr (.inl (some 5))), some (.inl (la + 1)), some (.inl (c + 1)), some (.inl la), some (.inl p)] [] (rwa_cs (rK, rL, rT, rS, rn, rc, rw) f)) ∧ (p < (60 : Int) → ((0 ≤ c ∧ c < 60) ∧ ((0 ≤ c ∧ c < 60) ∧ ((ab_r (rT c) ∧ ab_r 1) ∧ ((¬ (rT c) = (1 : Int) → ((0 ≤ p ∧ p < 60) ∧ ((0 ≤ p ∧ p < 60) ∧ ab_R E_X1_layOut P_X1_layOut Q 27 [some (.inr (.inl (some 0))), some (.inr (.inl (some 5))), some (.inl st), some (.inl c), some (.inl la), some (.inl (p + 1))] [] (rwa_cs (rK, rL, rT, rS, rn, rc, rw) ((ab_up f p ((rS c) + (rK p)))))))) ∧ ((rT c) = (1 : Int) → ((0 ≤ ((st + la) - p) ∧ ((st + la) - p) < 60) ∧ ((0 ≤ p ∧ p < 60) ∧ ab_R E_X1_layOut P_X1_layOut Q 27 [some (.inr (.inl (some 0))), some (.inr (.inl (some 5))), some (.inl st), some (.inl c), some (.inl la), some (.inl (p + 1))] [] (rwa_cs (rK, rL, rT, rS, rn, rc, rw) ((ab_up f p ((rS c) + (rK ((st + la) - p))))))))))))))))))) from ⟨p1, ⟨fun h1 => (ab_R.fg 4 rfl (ab_R.fg 5 rfl (l1 h1))), fun h2 => ⟨(p2 h2), ⟨fun h3 => (ab_R.fg 4 rfl (ab_R.fg 5 rfl (l2 h2 h3))), fun h4 => ⟨(p3 h2 h4), ⟨(p3 h2 h4), ⟨(p4 h2 h4), ⟨fun h5 => ⟨(p5 h2 h4 h5), ⟨(p5 h2 h4 h5), (l3 h2 h4 h5)⟩⟩, fun h6 => ⟨(p6 h2 h4 h6), ⟨(p7 h2 h4 h6), (l4 h2 h4 h6)⟩⟩⟩⟩⟩⟩⟩⟩⟩⟩)
def P_X1_copyFrom : List ab_I := [(0, .aload_n 1, 1, []), (1, .getfield 9, 4, []), (4, .iconst 0, 5, []), (5, .aload_n 0, 6, []), (6, .getfield 9, 9, []), (9, .iconst 0, 10, []), (10, .bipush 60, 12, []), (12, .invokestatic 34, 15, []), (15, .aload_n 1, 16, []), (16, .getfield 15, 19, []), (19, .iconst 0, 20, []), (20, .aload_n 0, 21, []), (21, .getfield 15, 24, []), (24, .iconst 0, 25, []), (25, .bipush 60, 27, []), (27, .invokestatic 34, 30, []), (30, .aload_n 1, 31, []), (31, .getfield 18, 34, []), (34, .iconst 0, 35, []), (35, .aload_n 0, 36, []), (36, .getfield 18, 39, []), (39, .iconst 0, 40, []), (40, .bipush 60, 42, []), (42, .invokestatic 34, 45, []), (45, .aload_n 1, 46, []), (46, .getfield 21, 49, []), (49, .iconst 0, 50, []), (50, .aload_n 0, 51, []), (51, .getfield 21, 54, []), (54, .iconst 0, 55, []), (55, .bipush 60, 57, []), (57, .invokestatic 34, 60, []), (60, .aload_n 0, 61, []), (61, .aload_n 1, 62, []), (62, .getfield 24, 65, []), (65, .putfield 24, 68, []), (68, .aload_n 0, 69, []), (69, .aload_n 1, 70, []), (70, .getfield 28, 73, []), (73, .putfield 28, 76, []), (76, .aload_n 0, 77, []), (77, .aload_n 1, 78, []), (78, .getfield 31, 81, []), (81, .putfield 31, 84, []), (84, .return_, 85, [])]
def E_X1_copyFrom : ab_E := (T_X1, [], [(12, 2), (27, 2), (42, 2), (57, 2)], 9)
def M_X1_copyFrom : List (Nat × ab_MI) := []
def mi_X1_copyFrom : ab_MI := (yX1_copyFrom, cX1_copyFrom, 2, ab_rty 9, 1, 70)
theorem pk_X1_copyFrom : P_X1_copyFrom.all (ab_okI cX1_copyFrom) = true := by decide +kernel
theorem ck_X1_copyFrom : P_X1_copyFrom.all (ab_okC1 "RootChunks$Row" M_X1_copyFrom E_X1_copyFrom (1, 70)) = true := by decide +kernel
set_option maxRecDepth 100000 in
theorem b_X1_copyFrom_0 {Q : ab_Q} {rK : Int → Int} {rL : Int → Int} {rT : Int → Int} {rS : Int → Int} {rn : Int} {rc : Int} {rw : Int} {qK : Int → Int} {qL : Int → Int} {qT : Int → Int} {qS : Int → Int} {qn : Int} {qc : Int} {qw : Int} (l1 : Q none (rw2_cs ((ab_cpy qK rK 0 0 60), (ab_cpy qL rL 0 0 60), (ab_cpy qT rT 0 0 60), (ab_cpy qS rS 0 0 60), qn, qc, qw) (qK, qL, qT, qS, qn, qc, qw))) (p1 : (0 ≤ (0 : Int) ∧ 0 ≤ (0 : Int) ∧ 0 ≤ (60 : Int) ∧ (0 : Int) + 60 ≤ 60 ∧ (0 : Int) + 60 ≤ 60) := by intros; (try unfold ab_r); omega) : ab_R E_X1_copyFrom P_X1_copyFrom Q 0 [some (.inr (.inl (some 0))), some (.inr (.inl (some 5)))] [] (rw2_cs (rK, rL, rT, rS, rn, rc, rw) (qK, qL, qT, qS, qn, qc, qw)) :=
  ab_R.steps [] 46 (show ((0 ≤ (0 : Int) ∧ 0 ≤ (0 : Int) ∧ 0 ≤ (60 : Int) ∧ (0 : Int) + 60 ≤ 60 ∧ (0 : Int) + 60 ≤ 60) ∧ ((0 ≤ (0 : Int) ∧ 0 ≤ (0 : Int) ∧ 0 ≤ (60 : Int) ∧ (0 : Int) + 60 ≤ 60 ∧ (0 : Int) + 60 ≤ 60) ∧ ((0 ≤ (0 : Int) ∧ 0 ≤ (0 : Int) ∧ 0 ≤ (60 : Int) ∧ (0 : Int) + 60 ≤ 60 ∧ (0 : Int) + 60 ≤ 60) ∧ ((0 ≤ (0 : Int) ∧ 0 ≤ (0 : Int) ∧ 0 ≤ (60 : Int) ∧ (0 : Int) + 60 ≤ 60 ∧ (0 : Int) + 60 ≤ 60) ∧ Q none (rw2_cs ((ab_cpy qK rK 0 0 60), (ab_cpy qL rL 0 0 60), (ab_cpy qT rT 0 0 60), (ab_cpy qS rS 0 0 60), qn, qc, qw) (qK, qL, qT, qS, qn, qc, qw)))))) from ⟨p1, ⟨p1, ⟨p1, ⟨p1, l1⟩⟩⟩⟩)
theorem vc_X1_longestChunk {av : List ab_V} {cs : List ab_C} {Q : ab_Q} (h : sp_X1_longestChunk av cs Q) : (ab_lv0 av).length ≤ 3 ∧ ab_R E_X1_longestChunk P_X1_longestChunk Q 0 (ab_ent av 3) [] cs := by
  obtain ⟨⟨K, L, T, S, n, cc, w⟩, q, rfl, rfl, hR, hW, hQ⟩ := h
  refine ⟨Nat.le_of_ble_eq_true rfl, ?_⟩
  have hcc : cc = (q.length : Nat) := hR.2.2.2.2.2
  have hcl := hW.chunks
  have hfl := hW.2
  have loop : ∀ (B A : List mq_K) (c m : Int), q = A ++ B → c = A.length → 0 ≤ m → m ≤ 60 → mq_lg B m = mq_lg q 0 → ab_R E_X1_longestChunk P_X1_longestChunk Q 4 [some (.inr (.inl (some 0))), some (.inl m), some (.inl c)] [] (rw_cs (K, L, T, S, n, cc, w)) := by
    intro B
    induction B with
    | nil =>
      intro A c m g1 g2 g3 g4 g5
      rw [List.append_nil] at g1; subst g1
      refine b_X1_longestChunk_4 (fun _ => ?_) (fun _ => by omega)
      have e : mq_lg [] m = m := rfl
      rw [← e, g5]; exact hQ
    | cons k B ih =>
      intro A c m g1 g2 g3 g4 g5
      have e1 := hR.len (c := A.length) (k := k) (by rw [g1]; simp)
      dsimp only at e1
      rw [← g2] at e1
      have e2 : q.length = A.length + (B.length + 1) := by rw [g1]; simp
      have e3 : k.1.length ≤ 60 := by
        rw [g1, mq_flat_mid, List.length_append, List.length_append] at hfl; omega
      refine b_X1_longestChunk_4 (fun _ => by omega) (fun _ => ih (A ++ [k]) _ _ (by simpa using g1) (by simp; omega) (by split <;> omega) (by split <;> omega) ?_)
      rw [e1]; exact g5
  exact b_X1_longestChunk_0 (loop q [] 0 0 rfl rfl (by omega) (by omega) rfl)
theorem mt_X1_longestChunk (l : Launch) : ab_MT l mi_X1_longestChunk sp_X1_longestChunk := ab_MT.of (own := "RootChunks$Row") (E := E_X1_longestChunk) (P := P_X1_longestChunk) (M := M_X1_longestChunk) (nL := 3) (ty := 0) (by decide) rfl rfl tk_X1 pk_X1_longestChunk ck_X1_longestChunk ab_CT'.nil (fun av cs Q h => vc_X1_longestChunk h)
theorem vc_X1_waitingTurns {av : List ab_V} {cs : List ab_C} {Q : ab_Q} (h : sp_X1_waitingTurns av cs Q) : (ab_lv0 av).length ≤ 3 ∧ ab_R E_X1_waitingTurns P_X1_waitingTurns Q 0 (ab_ent av 3) [] cs := by
  obtain ⟨⟨K, L, T, S, n, cc, w⟩, q, rfl, rfl, hR, hW, hQ⟩ := h
  refine ⟨Nat.le_of_ble_eq_true rfl, ?_⟩
  have hcc : cc = (q.length : Nat) := hR.2.2.2.2.2
  have hcl := hW.chunks
  have loop : ∀ (B A : List mq_K) (c m : Int), q = A ++ B → c = A.length → mq_wt B m = mq_wt q 0 → ab_R E_X1_waitingTurns P_X1_waitingTurns Q 4 [some (.inr (.inl (some 0))), some (.inl m), some (.inl c)] [] (rw_cs (K, L, T, S, n, cc, w)) := by
    intro B
    induction B with
    | nil =>
      intro A c m g1 g2 g5
      rw [List.append_nil] at g1; subst g1
      refine b_X1_waitingTurns_4 (fun _ => ?_) (fun _ => by omega)
      have e : mq_wt [] m = m := rfl
      rw [← e, g5]; exact hQ
    | cons k B ih =>
      intro A c m g1 g2 g5
      have e1 := hR.turn (c := A.length) (k := k) (by rw [g1]; simp)
      dsimp only at e1
      rw [← g2] at e1
      have e2 : q.length = A.length + (B.length + 1) := by rw [g1]; simp
      refine b_X1_waitingTurns_4 (fun _ => by omega) (fun _ => ih (A ++ [k]) _ _ (by simpa using g1) (by simp; omega) ?_)
      rw [e1]; exact g5
  exact b_X1_waitingTurns_0 (loop q [] 0 0 rfl rfl rfl)
theorem mt_X1_waitingTurns (l : Launch) : ab_MT l mi_X1_waitingTurns sp_X1_waitingTurns := ab_MT.of (own := "RootChunks$Row") (E := E_X1_waitingTurns) (P := P_X1_waitingTurns) (M := M_X1_waitingTurns) (nL := 3) (ty := 0) (by decide) rfl rfl tk_X1 pk_X1_waitingTurns ck_X1_waitingTurns ab_CT'.nil (fun av cs Q h => vc_X1_waitingTurns h)
theorem vc_X1_waitingSums {av : List ab_V} {cs : List ab_C} {Q : ab_Q} (h : sp_X1_waitingSums av cs Q) : (ab_lv0 av).length ≤ 3 ∧ ab_R E_X1_waitingSums P_X1_waitingSums Q 0 (ab_ent av 3) [] cs := by
  obtain ⟨⟨K, L, T, S, n, cc, w⟩, q, rfl, rfl, hR, hW, hQ⟩ := h
  refine ⟨Nat.le_of_ble_eq_true rfl, ?_⟩
  have hcc : cc = (q.length : Nat) := hR.2.2.2.2.2
  have hcl := hW.chunks
  have loop : ∀ (B A : List mq_K) (c m : Int), q = A ++ B → c = A.length → mq_ws B m = mq_ws q 0 → ab_R E_X1_waitingSums P_X1_waitingSums Q 4 [some (.inr (.inl (some 0))), some (.inl m), some (.inl c)] [] (rw_cs (K, L, T, S, n, cc, w)) := by
    intro B
    induction B with
    | nil =>
      intro A c m g1 g2 g5
      rw [List.append_nil] at g1; subst g1
      refine b_X1_waitingSums_4 (fun _ => ?_) (fun _ _ => by omega) (fun _ _ => by omega)
      have e : mq_ws [] m = m := rfl
      rw [← e, g5]; exact hQ
    | cons k B ih =>
      intro A c m g1 g2 g5
      have e1 := hR.sum (c := A.length) (k := k) (by rw [g1]; simp)
      dsimp only at e1
      rw [← g2] at e1
      have e2 : q.length = A.length + (B.length + 1) := by rw [g1]; simp
      have hs := (hW.1 k (by rw [g1]; simp)).sum
      have e0 : mq_ws (k :: B) m = mq_ws B (if k.2.2 = 0 then m else m + 1) := rfl
      rw [e0] at g5
      refine b_X1_waitingSums_4 (fun _ => by omega) (fun _ hz => ih (A ++ [k]) _ _ (by simpa using g1) (by simp; omega) ?_) (fun _ hz => ih (A ++ [k]) _ _ (by simpa using g1) (by simp; omega) ?_)
      · rw [if_pos (by omega)] at g5; exact g5
      · rw [if_neg (by omega)] at g5; exact g5
  exact b_X1_waitingSums_0 (loop q [] 0 0 rfl rfl rfl)
theorem mt_X1_waitingSums (l : Launch) : ab_MT l mi_X1_waitingSums sp_X1_waitingSums := ab_MT.of (own := "RootChunks$Row") (E := E_X1_waitingSums) (P := P_X1_waitingSums) (M := M_X1_waitingSums) (nL := 3) (ty := 0) (by decide) rfl rfl tk_X1 pk_X1_waitingSums ck_X1_waitingSums ab_CT'.nil (fun av cs Q h => vc_X1_waitingSums h)
theorem vc_X1_layOut {av : List ab_V} {cs : List ab_C} {Q : ab_Q} (h : sp_X1_layOut av cs Q) : (ab_lv0 av).length ≤ 6 ∧ ab_R E_X1_layOut P_X1_layOut Q 0 (ab_ent av 6) [] cs := by
  obtain ⟨⟨K, L, T, S, n, cc, w⟩, q, f, rfl, rfl, hR, hW, hQ⟩ := h
  refine ⟨Nat.le_of_ble_eq_true rfl, ?_⟩
  have hcc : cc = (q.length : Nat) := hR.2.2.2.2.2
  have hcl := hW.chunks
  have hfl := hW.2
  have loop : ∀ (B A : List mq_K) (c st : Int) (g : Int → Int), q = A ++ B → c = A.length → st = (mq_flat A).length → mq_al g (mq_all A) → ab_R E_X1_layOut P_X1_layOut Q 4 [some (.inr (.inl (some 0))), some (.inr (.inl (some 5))), some (.inl st), some (.inl c), none, none] [] (rwa_cs (K, L, T, S, n, cc, w) g) := by
    intro B
    induction B with
    | nil =>
      intro A c st g g1 g2 g3 g4
      rw [List.append_nil] at g1; subst g1
      exact b_X1_layOut_4 (fun _ => hQ g g4) (fun _ => by omega)
    | cons k B ih =>
      intro A c st g g1 g2 g3 g4
      subst g1
      have e1 := hR.len (mq_at_app A k B)
      have et := hR.turn (mq_at_app A k B)
      have es := hR.sum (mq_at_app A k B)
      have ek := fun {j : Nat} {x : Int} (hj : k.1[j]? = some x) => hR.kept hj
      dsimp only at e1 et es ek
      rw [← g2] at e1 et es
      rw [List.length_append, List.length_cons] at hcc hcl
      rw [mq_flat_mid, List.length_append, List.length_append] at hfl
      have ht := (hW.1 k (by simp)).2.1
      have inner : ∀ (m : Nat) (p : Int) (g' : Int → Int), st + k.1.length - p = m → st ≤ p → mq_al g' (mq_all A ++ (mq_row k).take (p - st).toNat) → ab_R E_X1_layOut P_X1_layOut Q 27 [some (.inr (.inl (some 0))), some (.inr (.inl (some 5))), some (.inl st), some (.inl c), some (.inl ((st + L c) - 1)), some (.inl p)] [] (rwa_cs (K, L, T, S, n, cc, w) g') := by
        intro m
        induction m with
        | zero =>
          intro p g' q1 q2 q3
          refine b_X1_layOut_27 (fun _ => ?_) (fun _ _ => by omega) (fun _ _ _ => by omega) (fun _ _ _ => by omega)
          refine ih (A ++ [k]) _ _ _ (by simp) (by simp; omega) ?_ ?_
          · rw [mq_flat_app, mq_flat_cons]; simp [mq_flat]; simp [mq_flat] at g3; omega
          · rw [mq_all_app, mq_all_cons]
            rw [List.take_of_length_le (by rw [mq_row_len]; omega)] at q3
            simpa [mq_all] using q3
        | succ m ihm =>
          intro p g' q1 q2 q3
          have hj : (p - st).toNat < (mq_row k).length := by rw [mq_row_len]; omega
          have hx : (mq_row k)[(p - st).toNat]? = some (mq_row k)[(p - st).toNat] := List.getElem?_eq_getElem hj
          obtain ⟨y, hy, e⟩ := mq_row_at hx
          have ey := ek hy
          have nxt : ∀ v : Int, v = y + k.2.2 → mq_al (ab_up g' p v) (mq_all A ++ (mq_row k).take (p + 1 - st).toNat) := by
            intro v hv
            rw [show (p + 1 - st).toNat = (p - st).toNat + 1 by omega, List.take_succ, hx, ← List.append_assoc]
            refine mq_al_app.mpr ⟨q3.eq (fun i hi => ?_), fun i x hi => ?_⟩
            · rw [List.length_append, mq_all_len, List.length_take] at hi
              unfold ab_up; rw [if_neg (by omega)]
            · match i with
              | 0 =>
                have := Option.some.inj hi
                show ab_up g' p v (((mq_all A ++ (mq_row k).take (p - st).toNat).length : Int) + ((0 : Nat) : Int)) = x
                rw [List.length_append, mq_all_len, List.length_take]
                unfold ab_up
                rw [if_pos (by omega), hv, ← e]
                exact this
              | i + 1 => cases hi
          refine b_X1_layOut_27 (fun _ => by omega) (fun _ _ => by omega) (fun _ _ ht2 => ihm _ _ (by omega) (by omega) (nxt _ ?_)) (fun _ _ ht2 => ihm _ _ (by omega) (by omega) (nxt _ ?_)) (p4 := fun _ _ => by unfold ab_r; omega)
          · rw [if_neg (by omega)] at ey
            rw [show (((mq_flat A).length + (p - st).toNat : Nat) : Int) = p by omega] at ey
            rw [es, ey]
            omega
          · rw [if_pos (by omega)] at ey
            rw [show (((mq_flat A).length + (k.1.length - 1 - (p - st).toNat) : Nat) : Int) = st + (st + L c - 1) - p by omega] at ey
            rw [es, ey]
            omega
      refine b_X1_layOut_4 (fun _ => by omega) (fun _ => inner k.1.length st g (by omega) (by omega) ?_)
      simpa using g4
  exact b_X1_layOut_0 (loop q [] 0 0 f rfl rfl rfl (mq_al_nil f))
theorem mt_X1_layOut (l : Launch) : ab_MT l mi_X1_layOut sp_X1_layOut := ab_MT.of (own := "RootChunks$Row") (E := E_X1_layOut) (P := P_X1_layOut) (M := M_X1_layOut) (nL := 6) (ty := 9) (by decide) rfl rfl tk_X1 pk_X1_layOut ck_X1_layOut ab_CT'.nil (fun av cs Q h => vc_X1_layOut h)
theorem mq_al_cpy {f g : Int → Int} {l : List Int} (h : mq_al f l) (hl : l.length ≤ 60) : mq_al (ab_cpy f g 0 0 60) l := h.eq (fun i hi => by
  unfold ab_cpy
  rw [if_pos (by omega)]
  congr 1; omega)
theorem vc_X1_copyFrom {av : List ab_V} {cs : List ab_C} {Q : ab_Q} (h : sp_X1_copyFrom av cs Q) : (ab_lv0 av).length ≤ 2 ∧ ab_R E_X1_copyFrom P_X1_copyFrom Q 0 (ab_ent av 2) [] cs := by
  obtain ⟨⟨K, L, T, S, n, cc, w⟩, ⟨qK, qL, qT, qS, qn, qc, qw⟩, q, rfl, rfl, hR, hW, hQ⟩ := h
  refine ⟨Nat.le_of_ble_eq_true rfl, ?_⟩
  obtain ⟨r1, r2, r3, r4, r5, r6⟩ := hR
  have hcl := hW.chunks
  have hfl := hW.2
  exact b_X1_copyFrom_0 (hQ _ ⟨mq_al_cpy r1 hfl, mq_al_cpy r2 (by simp; omega), mq_al_cpy r3 (by simp; omega), mq_al_cpy r4 (by simp; omega), r5, r6⟩ rfl)
theorem mt_X1_copyFrom (l : Launch) : ab_MT l mi_X1_copyFrom sp_X1_copyFrom := ab_MT.of (own := "RootChunks$Row") (E := E_X1_copyFrom) (P := P_X1_copyFrom) (M := M_X1_copyFrom) (nL := 2) (ty := 9) (by decide) rfl rfl tk_X1 pk_X1_copyFrom ck_X1_copyFrom ab_CT'.nil (fun av cs Q h => vc_X1_copyFrom h)

