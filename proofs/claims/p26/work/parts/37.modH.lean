/-! WHAT A CHANGE DOES, for both programs: the row with its work, what is remembered, what is saved, the pad -/
abbrev mS_X : Type := List mq_K × Int
abbrev mS_T : Type := mS_X × List mS_X × (Option mS_X × Option mS_X) × List Int
def mf_ch (r : mS_X) : mS_X := ((mq_ev r.1).1, r.2 + (mq_ev r.1).2)
def mf_do (k : Int) (q : List mq_K) (a b c : Int) : mS_X :=
  if k = 112 then mf_ch (mq_put q a.toNat b) else if k = 99 then mf_ch (mq_tak q a.toNat) else if k = 115 then mf_ch (mq_set q a.toNat b) else if k = 116 then mf_ch (mq_trn q a.toNat (b + 1 - a).toNat) else if k = 97 then mf_ch (mq_add q a.toNat (b + 1 - a).toNat c) else if k = 109 then mf_ch (mq_mov q a.toNat (b + 1 - a).toNat c.toNat) else mf_ch (mf_rol q a b c)
def mf_err (k : Int) (q : List mq_K) (a b c : Int) : Int :=
  if k = 112 then mq_ePut q a b else if k = 99 then mq_eCut q a else if k = 115 then mq_eSet q a b else if k = 116 then mq_eSpan q a b else if k = 97 then mq_eAdd q a b c else if k = 109 then mq_eMove q a b c else mq_eBy q a b c
def mq_v (q : List mq_K) (a : Int) : Int := (mq_all q).getD a.toNat 0
def mf_ans (k : Int) (q q' : List mq_K) (a : Int) : Int := if k = 112 then mq_n q' else if k = 99 ∨ k = 115 then mq_v q a + 100000 else (q'.length : Nat)
def mf_change (k : Int) (S : mS_T) (a b c : Int) : Int × mS_T :=
  if mf_err k S.1.1 a b c = 0 then (mf_ans k S.1.1 (mf_do k S.1.1 a b c).1 a, (((mf_do k S.1.1 a b c).1, S.1.2 + (mf_do k S.1.1 a b c).2), mh_push S.2.1 S.1, S.2.2)) else (mf_err k S.1.1 a b c, S)
def mh_P (pd : Int → Int) (ln : Int) (p : List Int) : Prop := mq_al pd p ∧ ln = (p.length : Nat) ∧ p.length ≤ 80 ∧ ∀ x ∈ p, 33 ≤ x ∧ x ≤ 126
theorem mq_ePut_0 {q : List mq_K} {p v : Int} (hW : mq_W q) (h : mq_ePut q p v = 0) : 0 ≤ p ∧ p ≤ mq_n q ∧ mq_n q < 60 ∧ mq_vl v := by
  have hfl := hW.2
  unfold mq_ePut at h
  split at h
  · next h1 =>
    split at h
    · next h2 =>
      split at h
      · omega
      · next h3 => exact ⟨h1.1, h1.2, by unfold mq_n at h3 ⊢; omega, h2⟩
    · omega
  · omega
theorem mq_eCut_0 {q : List mq_K} {p : Int} (h : mq_eCut q p = 0) : mq_pl q p := by
  unfold mq_eCut at h
  split at h
  · assumption
  · omega
theorem mq_eSet_0 {q : List mq_K} {p v : Int} (h : mq_eSet q p v = 0) : mq_pl q p ∧ mq_vl v := by
  unfold mq_eSet at h
  split at h
  · next h1 =>
    split at h
    · next h2 => exact ⟨h1, h2⟩
    · omega
  · omega
theorem mq_eAdd_0 {q : List mq_K} {a b v : Int} (h : mq_eAdd q a b v = 0) : mq_eSpan q a b = 0 ∧ ∀ x ∈ mq_sp q a b, -99999 ≤ x + v ∧ x + v ≤ 99999 := by
  unfold mq_eAdd at h
  split at h
  · next h1 =>
    split at h
    · next h2 =>
      refine ⟨(mq_eBy_0 h1).1, fun x hx => ?_⟩
      unfold mq_fits at h2
      exact of_decide_eq_true (List.all_eq_true.mp h2 x hx)
    · omega
  · next h1 => exact absurd h h1
theorem mq_eMove_0 {q : List mq_K} {a b p : Int} (h : mq_eMove q a b p = 0) : mq_eSpan q a b = 0 ∧ 0 ≤ p ∧ p ≤ mq_n q - (b - a + 1) := by
  unfold mq_eMove at h
  split at h
  · next h1 =>
    split at h
    · next h2 => exact ⟨h1, h2⟩
    · omega
  · next h1 => exact absurd h h1
theorem mf_rol_W {q : List mq_K} {a b c : Int} (hW : mq_W q) (h : mq_eBy q a b c = 0) : mq_W (mf_rol q a b c).1 := by
  have h1 := mq_eSpan_0 (mq_eBy_0 h).1
  unfold mq_n at h1
  obtain ⟨-, -, -, -, t5, t6⟩ := mf_tmod c (b - a + 1) (by omega)
  unfold mf_rol
  split
  · exact hW
  · exact mq_W_mov hW (by omega) (by omega)
theorem mf_do_W {k : Int} {q : List mq_K} {a b c : Int} (hW : mq_W q) (h : mf_err k q a b c = 0) : mq_W (mf_do k q a b c).1 := by
  unfold mf_do
  unfold mf_err at h
  by_cases k1 : k = 112
  · rw [if_pos k1] at h ⊢
    obtain ⟨e1, e2, e3, e4⟩ := mq_ePut_0 hW h
    unfold mq_n at e2 e3
    unfold mq_vl at e4
    exact mq_ev_W (mq_W_put hW (by omega) (by omega) (by omega))
  rw [if_neg k1] at h ⊢
  by_cases k2 : k = 99
  · rw [if_pos k2] at h ⊢
    have e := mq_eCut_0 h
    unfold mq_pl mq_n at e
    exact mq_ev_W (mq_W_tak hW (by omega))
  rw [if_neg k2] at h ⊢
  by_cases k3 : k = 115
  · rw [if_pos k3] at h ⊢
    obtain ⟨e, e2⟩ := mq_eSet_0 h
    unfold mq_pl mq_n at e
    unfold mq_vl at e2
    exact mq_ev_W (mq_W_set hW (by omega) (by omega))
  rw [if_neg k3] at h ⊢
  by_cases k4 : k = 116
  · rw [if_pos k4] at h ⊢
    have e := mq_eSpan_0 h
    unfold mq_n at e
    exact mq_ev_W (mq_W_trn hW (by omega))
  rw [if_neg k4] at h ⊢
  by_cases k5 : k = 97
  · rw [if_pos k5] at h ⊢
    obtain ⟨e0, e1⟩ := mq_eAdd_0 h
    have e := mq_eSpan_0 e0
    unfold mq_n at e
    exact mq_ev_W (mq_W_add hW (by omega) e1)
  rw [if_neg k5] at h ⊢
  by_cases k6 : k = 109
  · rw [if_pos k6] at h ⊢
    obtain ⟨e0, e1, e2⟩ := mq_eMove_0 h
    have e := mq_eSpan_0 e0
    unfold mq_n at e e2
    exact mq_ev_W (mq_W_mov hW (by omega) (by omega))
  rw [if_neg k6] at h ⊢
  exact mq_ev_W (mf_rol_W hW h)
theorem mq_v_is {q : List mq_K} {a : Int} (h : mq_pl q a) : (mq_all q)[a.toNat]? = some (mq_v q a) := by
  unfold mq_pl mq_n at h
  have hl : a.toNat < (mq_all q).length := by rw [mq_all_len]; omega
  unfold mq_v
  rw [List.getD_eq_getElem?_getD, List.getElem?_eq_getElem hl]
  rfl
