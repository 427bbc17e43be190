/-! THE WORLD AT THE LOOP'S HEAD -/
def lx_rz : rw_T := (fun _ => 0, fun _ => 0, fun _ => 0, fun _ => 0, 0, 0, 0)
def lx_X0 : mx_W := (0, lx_rz, lx_rz, mx_o 0, fun _ => lx_rz, lx_rz, lx_rz, fun _ => 0, (fun _ => 0, fun _ => 0, 0, 0, 0), fun _ => 0)
def lx_S0 : mS_T := (([], 0), [], (none, none), [])
def lx_cs0 : List ab_C := mx_cs lx_X0
def lx_W0 (cI cO cZ cC : ClassId) (n : Nat → Nat) : va_W := kw_Cls (n 0) (n 1) (n 2) (n 3) (n 4) (n 5) (n 6) (n 7) (n 8) (n 9) (n 10) (n 11) (n 12) (n 13) (n 14) (n 15) (n 16) (n 17) (n 18) (n 19) (n 20) (n 21) (n 22) (n 23) (n 24) (n 25) (n 26) (n 27) (n 28) (n 29) (n 30) (n 31) (n 32) (n 33) (n 34) (n 35) (n 36) (n 37) (n 38) (n 39) (n 40) (n 41) (n 42) (n 43) (n 44) (n 45) (n 46) (n 47) (n 48) (n 49) (n 50) (n 51) (n 52) (n 53) (n 54) (n 55) (n 56) (n 57) cI cO cZ cC
def lx_pt (G : ab_G) (n : Nat → Nat) (k : Nat) : Prop := ∃ c, lx_cs0[k]? = some c ∧ (lx_W0 (G.2 0) (G.2 3) (G.2 2) (G.2 1) n)[k]? = some (n k, ab_e G n c)
theorem lx_six_e (n : Nat → Nat) : (fun j : Nat => ((mx_o 0).getD j none).map n) = va_up (va_up (va_up (va_up (va_up (va_up (fun _ => none) 0 (some (n 12))) 1 (some (n 17))) 2 (some (n 22))) 3 (some (n 27))) 4 (some (n 32))) 5 (some (n 37)) := by
  funext j
  match j with
  | 0 => rfl
  | 1 => rfl
  | 2 => rfl
  | 3 => rfl
  | 4 => rfl
  | 5 => rfl
  | j + 6 => simp [va_up, mx_o]
theorem lx_two_e (n : Nat → Nat) : (fun j : Nat => (([some 43, some 48] : List (Option Nat)).getD j none).map n) = va_up (va_up (fun _ => none) 0 (some (n 43))) 1 (some (n 48)) := by
  funext j
  match j with
  | 0 => rfl
  | 1 => rfl
  | j + 2 => simp [va_up]
theorem lx_more {P : Nat → Prop} {n : Nat} (h : ∀ k : Nat, k < n → P k) (hn : P n) : ∀ k : Nat, k < n + 1 → P k := fun k hk => by
  rcases Nat.lt_or_ge k n with q | q
  · exact h k q
  · have e : k = n := by omega
    rw [e]
    exact hn
set_option maxRecDepth 100000 in
set_option maxHeartbeats 4000000 in
theorem lx_pts (G : ab_G) (n : Nat → Nat) : ∀ k : Nat, k < 58 → lx_pt G n k := by
  have a0 : ∀ k : Nat, k < 0 → lx_pt G n k := fun k h => absurd h (Nat.not_lt_zero k)
  have a1 : ∀ k : Nat, k < 1 → lx_pt G n k := lx_more a0 ⟨_, rfl, rfl⟩
  have a2 : ∀ k : Nat, k < 2 → lx_pt G n k := lx_more a1 ⟨_, rfl, rfl⟩
  have a3 : ∀ k : Nat, k < 3 → lx_pt G n k := lx_more a2 ⟨_, rfl, rfl⟩
  have a4 : ∀ k : Nat, k < 4 → lx_pt G n k := lx_more a3 ⟨_, rfl, rfl⟩
  have a5 : ∀ k : Nat, k < 5 → lx_pt G n k := lx_more a4 ⟨_, rfl, rfl⟩
  have a6 : ∀ k : Nat, k < 6 → lx_pt G n k := lx_more a5 ⟨_, rfl, rfl⟩
  have a7 : ∀ k : Nat, k < 7 → lx_pt G n k := lx_more a6 ⟨_, rfl, rfl⟩
  have a8 : ∀ k : Nat, k < 8 → lx_pt G n k := lx_more a7 ⟨_, rfl, rfl⟩
  have a9 : ∀ k : Nat, k < 9 → lx_pt G n k := lx_more a8 ⟨_, rfl, rfl⟩
  have a10 : ∀ k : Nat, k < 10 → lx_pt G n k := lx_more a9 ⟨_, rfl, rfl⟩
  have a11 : ∀ k : Nat, k < 11 → lx_pt G n k := lx_more a10 ⟨_, rfl, rfl⟩
  have a12 : ∀ k : Nat, k < 12 → lx_pt G n k := lx_more a11 ⟨.inr (.inr (mx_o 0)), rfl, by unfold ab_e; dsimp only; rw [lx_six_e]; rfl⟩
  have a13 : ∀ k : Nat, k < 13 → lx_pt G n k := lx_more a12 ⟨_, rfl, rfl⟩
  have a14 : ∀ k : Nat, k < 14 → lx_pt G n k := lx_more a13 ⟨_, rfl, rfl⟩
  have a15 : ∀ k : Nat, k < 15 → lx_pt G n k := lx_more a14 ⟨_, rfl, rfl⟩
  have a16 : ∀ k : Nat, k < 16 → lx_pt G n k := lx_more a15 ⟨_, rfl, rfl⟩
  have a17 : ∀ k : Nat, k < 17 → lx_pt G n k := lx_more a16 ⟨_, rfl, rfl⟩
  have a18 : ∀ k : Nat, k < 18 → lx_pt G n k := lx_more a17 ⟨_, rfl, rfl⟩
  have a19 : ∀ k : Nat, k < 19 → lx_pt G n k := lx_more a18 ⟨_, rfl, rfl⟩
  have a20 : ∀ k : Nat, k < 20 → lx_pt G n k := lx_more a19 ⟨_, rfl, rfl⟩
  have a21 : ∀ k : Nat, k < 21 → lx_pt G n k := lx_more a20 ⟨_, rfl, rfl⟩
  have a22 : ∀ k : Nat, k < 22 → lx_pt G n k := lx_more a21 ⟨_, rfl, rfl⟩
  have a23 : ∀ k : Nat, k < 23 → lx_pt G n k := lx_more a22 ⟨_, rfl, rfl⟩
  have a24 : ∀ k : Nat, k < 24 → lx_pt G n k := lx_more a23 ⟨_, rfl, rfl⟩
  have a25 : ∀ k : Nat, k < 25 → lx_pt G n k := lx_more a24 ⟨_, rfl, rfl⟩
  have a26 : ∀ k : Nat, k < 26 → lx_pt G n k := lx_more a25 ⟨_, rfl, rfl⟩
  have a27 : ∀ k : Nat, k < 27 → lx_pt G n k := lx_more a26 ⟨_, rfl, rfl⟩
  have a28 : ∀ k : Nat, k < 28 → lx_pt G n k := lx_more a27 ⟨_, rfl, rfl⟩
  have a29 : ∀ k : Nat, k < 29 → lx_pt G n k := lx_more a28 ⟨_, rfl, rfl⟩
  have a30 : ∀ k : Nat, k < 30 → lx_pt G n k := lx_more a29 ⟨_, rfl, rfl⟩
  have a31 : ∀ k : Nat, k < 31 → lx_pt G n k := lx_more a30 ⟨_, rfl, rfl⟩
  have a32 : ∀ k : Nat, k < 32 → lx_pt G n k := lx_more a31 ⟨_, rfl, rfl⟩
  have a33 : ∀ k : Nat, k < 33 → lx_pt G n k := lx_more a32 ⟨_, rfl, rfl⟩
  have a34 : ∀ k : Nat, k < 34 → lx_pt G n k := lx_more a33 ⟨_, rfl, rfl⟩
  have a35 : ∀ k : Nat, k < 35 → lx_pt G n k := lx_more a34 ⟨_, rfl, rfl⟩
  have a36 : ∀ k : Nat, k < 36 → lx_pt G n k := lx_more a35 ⟨_, rfl, rfl⟩
  have a37 : ∀ k : Nat, k < 37 → lx_pt G n k := lx_more a36 ⟨_, rfl, rfl⟩
  have a38 : ∀ k : Nat, k < 38 → lx_pt G n k := lx_more a37 ⟨_, rfl, rfl⟩
  have a39 : ∀ k : Nat, k < 39 → lx_pt G n k := lx_more a38 ⟨_, rfl, rfl⟩
  have a40 : ∀ k : Nat, k < 40 → lx_pt G n k := lx_more a39 ⟨_, rfl, rfl⟩
  have a41 : ∀ k : Nat, k < 41 → lx_pt G n k := lx_more a40 ⟨_, rfl, rfl⟩
  have a42 : ∀ k : Nat, k < 42 → lx_pt G n k := lx_more a41 ⟨_, rfl, rfl⟩
  have a43 : ∀ k : Nat, k < 43 → lx_pt G n k := lx_more a42 ⟨.inr (.inr [some 43, some 48]), rfl, by unfold ab_e; dsimp only; rw [lx_two_e]; rfl⟩
  have a44 : ∀ k : Nat, k < 44 → lx_pt G n k := lx_more a43 ⟨_, rfl, rfl⟩
  have a45 : ∀ k : Nat, k < 45 → lx_pt G n k := lx_more a44 ⟨_, rfl, rfl⟩
  have a46 : ∀ k : Nat, k < 46 → lx_pt G n k := lx_more a45 ⟨_, rfl, rfl⟩
  have a47 : ∀ k : Nat, k < 47 → lx_pt G n k := lx_more a46 ⟨_, rfl, rfl⟩
  have a48 : ∀ k : Nat, k < 48 → lx_pt G n k := lx_more a47 ⟨_, rfl, rfl⟩
  have a49 : ∀ k : Nat, k < 49 → lx_pt G n k := lx_more a48 ⟨_, rfl, rfl⟩
  have a50 : ∀ k : Nat, k < 50 → lx_pt G n k := lx_more a49 ⟨_, rfl, rfl⟩
  have a51 : ∀ k : Nat, k < 51 → lx_pt G n k := lx_more a50 ⟨_, rfl, rfl⟩
  have a52 : ∀ k : Nat, k < 52 → lx_pt G n k := lx_more a51 ⟨_, rfl, rfl⟩
  have a53 : ∀ k : Nat, k < 53 → lx_pt G n k := lx_more a52 ⟨_, rfl, rfl⟩
  have a54 : ∀ k : Nat, k < 54 → lx_pt G n k := lx_more a53 ⟨_, rfl, rfl⟩
  have a55 : ∀ k : Nat, k < 55 → lx_pt G n k := lx_more a54 ⟨_, rfl, rfl⟩
  have a56 : ∀ k : Nat, k < 56 → lx_pt G n k := lx_more a55 ⟨_, rfl, rfl⟩
  have a57 : ∀ k : Nat, k < 57 → lx_pt G n k := lx_more a56 ⟨_, rfl, rfl⟩
  have a58 : ∀ k : Nat, k < 58 → lx_pt G n k := lx_more a57 ⟨_, rfl, rfl⟩
  exact a58
theorem lx_cs0_len : lx_cs0.length = 58 := rfl
theorem lx_world {G : ab_G} {n : Nat → Nat} {A : Nat → Prop} {H : Heap} (hP : va_P G.1 vwCl (lx_W0 (G.2 0) (G.2 3) (G.2 2) (G.2 1) n) H) (hD : va_D A (lx_W0 (G.2 0) (G.2 3) (G.2 2) (G.2 1) n)) : va_P G.1 vwCl (ab_cs G n lx_cs0) H ∧ ab_Dn A n 58 := by
  refine ⟨fun k q hk => ?_, fun i j hi hj hij => ?_, fun k hk => ?_⟩
  · obtain ⟨c, hc, rfl⟩ := ab_cs_of hk
    obtain ⟨c2, h1, h2⟩ := lx_pts G n k (by rw [← lx_cs0_len]; exact ab_lt_of hc)
    rw [h1] at hc
    rw [← Option.some.inj hc]
    exact hP k _ h2
  · obtain ⟨c1, -, h1⟩ := lx_pts G n i hi
    obtain ⟨c2, -, h2⟩ := lx_pts G n j hj
    exact hD.1 i j _ _ h1 h2 hij
  · obtain ⟨c1, -, h1⟩ := lx_pts G n k hk
    exact hD.2 k _ h1
theorem lx_al (f : Int → Int) : mq_al f [] := by unfold mq_al; intro i x h; cases h
theorem lx_mq (r : rw_T) (h4 : r.2.2.2.2.1 = 0) (h5 : r.2.2.2.2.2.1 = 0) : mq_R r [] := ⟨lx_al _, lx_al _, lx_al _, lx_al _, h4, h5⟩
theorem lx_mW : mq_W [] := ⟨fun k h => (by cases h), Nat.zero_le 60⟩
theorem lx_mP (f : Int → Int) : mh_P f 0 [] := ⟨lx_al f, rfl, Nat.zero_le 80, fun x h => (by cases h)⟩
theorem lx_invX : mx_inv lx_X0 lx_S0 := by
  refine ⟨⟨lx_mq _ rfl rfl, lx_mW, rfl⟩, ⟨0, rfl, Nat.zero_le 6, by omega, rfl, fun i x h => by cases h⟩, ⟨rfl, rfl⟩, lx_mP _, ⟨?_, ?_, ?_⟩, Int.le_refl 0, ?_⟩
  · exact ab_r0
  · exact ab_r0
  · exact ab_r0
  · show (0 : Int) ≤ 1000
    omega
