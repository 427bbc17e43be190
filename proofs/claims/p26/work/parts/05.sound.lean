/-! EACH INSTRUCTION, OVER THE MACHINE -/
theorem ab_ldI.of {lv : ab_L} {i : Nat} {f : Int → Prop} (h : ab_ldI lv i f) : ∃ a, lv[i]? = some (some (.inl a)) ∧ f a := by
  unfold ab_ldI at h
  split at h
  · next a e => exact ⟨a, e, h⟩
  · exact h.elim
theorem ab_ldP.of {lv : ab_L} {i : Nat} {f : Option Nat → Prop} (h : ab_ldP lv i f) : ∃ a, lv[i]? = some (some (.inr (.inl a))) ∧ f a := by
  unfold ab_ldP at h
  split at h
  · next a e => exact ⟨a, e, h⟩
  · exact h.elim
theorem ab_ldL.of {lv : ab_L} {i : Nat} {f : Int64 → Prop} (h : ab_ldL lv i f) : ∃ a, lv[i]? = some (some (.inr (.inr a))) ∧ f a := by
  unfold ab_ldL at h
  split at h
  · next a e => exact ⟨a, e, h⟩
  · exact h.elim
theorem ab_st1.of {lv : ab_L} {i : Nat} {v : ab_V} {f : ab_L → Prop} (h : ab_st1 lv i v f) : ab_nl lv i = true ∧ i < lv.length ∧ f (lv.set i (some v)) := by
  unfold ab_st1 at h
  split at h
  · next e1 e2 => exact ⟨e1, Nat.le_of_ble_eq_true e2, h⟩
  · exact h.elim
theorem ab_st2.of {lv : ab_L} {i : Nat} {v : ab_V} {f : ab_L → Prop} (h : ab_st2 lv i v f) : ab_nl lv i = true ∧ i + 1 < lv.length ∧ f ((lv.set i (some v)).set (i + 1) none) := by
  unfold ab_st2 at h
  split at h
  · next e1 e2 => exact ⟨e1, Nat.le_of_ble_eq_true e2, h⟩
  · exact h.elim
theorem ab_i1.of {st : List ab_V} {f : Int → List ab_V → Prop} (h : ab_i1 st f) : ∃ a r, st = .inl a :: r ∧ f a r := by
  unfold ab_i1 at h
  split at h
  · next a r => exact ⟨a, r, rfl, h⟩
  · exact h.elim
theorem ab_i2.of {st : List ab_V} {f : Int → Int → List ab_V → Prop} (h : ab_i2 st f) : ∃ a b r, st = .inl b :: .inl a :: r ∧ f a b r := by
  unfold ab_i2 at h
  split at h
  · next b a r => exact ⟨a, b, r, rfl, h⟩
  · exact h.elim
theorem ab_l1.of {st : List ab_V} {f : Int64 → List ab_V → Prop} (h : ab_l1 st f) : ∃ a r, st = .inr (.inr a) :: r ∧ f a r := by
  unfold ab_l1 at h
  split at h
  · next a r => exact ⟨a, r, rfl, h⟩
  · exact h.elim
theorem ab_l2.of {st : List ab_V} {f : Int64 → Int64 → List ab_V → Prop} (h : ab_l2 st f) : ∃ a b r, st = .inr (.inr b) :: .inr (.inr a) :: r ∧ f a b r := by
  unfold ab_l2 at h
  split at h
  · next b a r => exact ⟨a, b, r, rfl, h⟩
  · exact h.elim
theorem ab_li.of {st : List ab_V} {f : Int64 → Int → List ab_V → Prop} (h : ab_li st f) : ∃ a b r, st = .inl b :: .inr (.inr a) :: r ∧ f a b r := by
  unfold ab_li at h
  split at h
  · next b a r => exact ⟨a, b, r, rfl, h⟩
  · exact h.elim
theorem ab_p1.of {st : List ab_V} {f : Nat → List ab_V → Prop} (h : ab_p1 st f) : ∃ k r, st = .inr (.inl (some k)) :: r ∧ f k r := by
  unfold ab_p1 at h
  split at h
  · next k r => exact ⟨k, r, rfl, h⟩
  · exact h.elim
theorem ab_pi.of {st : List ab_V} {f : Nat → Int → List ab_V → Prop} (h : ab_pi st f) : ∃ k i r, st = .inl i :: .inr (.inl (some k)) :: r ∧ f k i r := by
  unfold ab_pi at h
  split at h
  · next i k r => exact ⟨k, i, r, rfl, h⟩
  · exact h.elim
theorem ab_pii.of {st : List ab_V} {f : Nat → Int → Int → List ab_V → Prop} (h : ab_pii st f) : ∃ k i x r, st = .inl x :: .inl i :: .inr (.inl (some k)) :: r ∧ f k i x r := by
  unfold ab_pii at h
  split at h
  · next x i k r => exact ⟨k, i, x, r, rfl, h⟩
  · exact h.elim
theorem ab_arr.of {t k : Nat} {cs : List ab_C} {f : Nat → (Int → Int) → Prop} (h : ab_arr t k cs f) : ∃ n g, cs[k]? = some (.inr (.inl (t, n, g))) ∧ n < 1000000 ∧ f n g := by
  unfold ab_arr at h
  split at h
  · next t' n g e =>
    split at h
    · next e1 e2 => exact ⟨n, g, by rw [e, Nat.eq_of_beq_eq_true e1], Nat.le_of_ble_eq_true e2, h⟩
    · exact h.elim
  · exact h.elim
theorem ab_rarr.of {k : Nat} {cs : List ab_C} {f : List (Option Nat) → Prop} (h : ab_rarr k cs f) : ∃ g, cs[k]? = some (.inr (.inr g)) ∧ g.length < 1000000 ∧ f g := by
  unfold ab_rarr at h
  split at h
  · next g e =>
    split at h
    · next e2 => exact ⟨g, e, Nat.le_of_ble_eq_true e2, h⟩
    · exact h.elim
  · exact h.elim
theorem ab_obj.of {ci k : Nat} {cs : List ab_C} {f : Prop} (h : ab_obj ci k cs f) : ∃ fs, cs[k]? = some (.inl (ci, fs)) ∧ f := by
  unfold ab_obj at h
  split at h
  · next cj fs e =>
    split at h
    · next e1 => exact ⟨fs, by rw [e, Nat.eq_of_beq_eq_true e1], h⟩
    · exact h.elim
  · exact h.elim
theorem ab_getf.of {T : ab_T} {ix k : Nat} {cs : List ab_C} {f : ab_V → Prop} (h : ab_getf T ix k cs f) : ∃ ci fi nest ty fs v, ab_look T.1 ix = some (ci, fi, nest, ty) ∧ cs[k]? = some (.inl (ci, fs)) ∧ fs[fi]? = some v ∧ f v := by
  unfold ab_getf at h
  split at h
  · next ci fi nest ty cj fs e1 e2 =>
    split at h
    · next v e3 e4 =>
      have e5 := Nat.eq_of_beq_eq_true e3
      subst e5
      exact ⟨ci, fi, nest, ty, fs, v, e1, e2, e4, h⟩
    · exact h.elim
  · exact h.elim
theorem ab_putf.of {T : ab_T} {ix k : Nat} {v : ab_V} {cs : List ab_C} {f : List ab_C → Prop} (h : ab_putf T ix k v cs f) : ∃ ci fi nest ty fs, ab_look T.1 ix = some (ci, fi, nest, ty) ∧ cs[k]? = some (.inl (ci, fs)) ∧ fi < fs.length ∧ ab_fit ty v (f (cs.set k (.inl (ci, fs.set fi v)))) := by
  unfold ab_putf at h
  split at h
  · next ci fi nest ty cj fs e1 e2 =>
    split at h
    · next e3 e4 =>
      have e5 := Nat.eq_of_beq_eq_true e3
      subst e5
      exact ⟨ci, fi, nest, ty, fs, e1, e2, Nat.le_of_ble_eq_true e4, h⟩
    · exact h.elim
  · exact h.elim
theorem ab_narC {a : Int} (h0 : 0 ≤ a) (h1 : a < 65536) : narrow .char (.int (Int32.ofInt a)) = .int (Int32.ofInt a) ∧ fits .char (.int (Int32.ofInt a)) = true := by
  obtain ⟨n, rfl⟩ := Int.eq_ofNat_of_zero_le h0
  exact pk_charN (q := n) (by omega)
theorem ab_narB {a : Int} (h : a = 0 ∨ a = 1) : narrow .boolean (.int (Int32.ofInt a)) = .int (Int32.ofInt a) ∧ fits .boolean (.int (Int32.ofInt a)) = true := by
  rcases h with rfl | rfl <;> decide +kernel
theorem ab_fit.of {ty : Nat} {v : ab_V} {f : Prop} (h : ab_fit ty v f) : ty ≤ 2 ∧ f ∧ ∀ ad, narrow (ab_ty ty) (ab_c ad v) = ab_c ad v ∧ fits (ab_ty ty) (ab_c ad v) = true := by
  unfold ab_fit at h
  split at h
  · next a => exact ⟨by omega, h, fun ad => ⟨rfl, rfl⟩⟩
  · next a => exact ⟨by omega, h.2, fun ad => ab_narC h.1.1 h.1.2⟩
  · next a => exact ⟨by omega, h.2, fun ad => ab_narB h.1⟩
  · exact h.elim
theorem ab_upE (f : Int → Int) (i x : Int) (hi : 0 ≤ i) (hr : ab_r i) : (fun j : Nat => Int32.ofInt (ab_up f i x j)) = upd (fun j : Nat => Int32.ofInt (f j)) (Int32.ofInt i).toNatClampNeg (Int32.ofInt x) := by
  have e : ((Int32.ofInt i).toNatClampNeg : Int) = i := by
    show (((Int32.ofInt i).toInt).toNat : Int) = i
    rw [ab_toI hr]
    exact Int.toNat_of_nonneg hi
  funext j
  unfold ab_up upd
  by_cases h : (j : Int) = i
  · rw [if_pos h, if_pos (by omega)]
  · rw [if_neg h, if_neg (by omega)]
theorem ab_rem {a b : Int} (ha : ab_r a) (hb : ab_r b) : Int32.ofInt a - Int32.ofInt a / Int32.ofInt b * Int32.ofInt b = Int32.ofInt (a.tmod b) := by
  have e : (Int32.ofInt a) / (Int32.ofInt b) = Int32.ofInt (a.tdiv b) := by
    apply Int32.toInt_inj.mp
    rw [Int32.toInt_div, ab_toI ha, ab_toI hb, Int32.toInt_ofInt]
  rw [e, ← Int32.ofInt_mul, ← Int32.ofInt_sub]
  congr 1
  have := Int.mul_tdiv_add_tmod a b
  rw [Int.mul_comm] at this
  omega
theorem ab_br.of {cc : ClassFile.Cond} {a b : Int} {T F : Prop} (h : ab_br cc a b T F) : (cc = .eq ∧ (a = b → T) ∧ (¬ a = b → F)) ∨ (cc = .ne ∧ (¬ a = b → T) ∧ (a = b → F)) ∨ (cc = .lt ∧ (a < b → T) ∧ (¬ a < b → F)) ∨ (cc = .ge ∧ (b ≤ a → T) ∧ (¬ b ≤ a → F)) ∨ (cc = .gt ∧ (b < a → T) ∧ (¬ b < a → F)) ∨ (cc = .le ∧ (a ≤ b → T) ∧ (¬ a ≤ b → F)) := by
  cases cc
  · exact Or.inl ⟨rfl, h⟩
  · exact Or.inr (Or.inl ⟨rfl, h⟩)
  · exact Or.inr (Or.inr (Or.inl ⟨rfl, h.1, fun q => h.2 (by omega)⟩))
  · exact Or.inr (Or.inr (Or.inr (Or.inl ⟨rfl, h.1, fun q => h.2 (by omega)⟩)))
  · exact Or.inr (Or.inr (Or.inr (Or.inr (Or.inl ⟨rfl, h.1, fun q => h.2 (by omega)⟩))))
  · exact Or.inr (Or.inr (Or.inr (Or.inr (Or.inr ⟨rfl, h.1, fun q => h.2 (by omega)⟩))))
theorem ab_sw.of {a : Int} {d : Nat} {f : Nat → Prop} : ∀ {r : List (Int × Nat)}, ab_sw a d f r → (∃ (j t : Nat), r[j]? = some (a, t) ∧ f t) ∨ ((∀ q ∈ r, q.1 ≠ a) ∧ f d)
  | [], h => Or.inr ⟨fun q hq => (by cases hq), h⟩
  | (v, t) :: r, h => by
    by_cases e : a = v
    · subst e
      exact Or.inl ⟨0, t, rfl, h.1 rfl⟩
    · rcases ab_sw.of (h.2 e) with ⟨j, t', h1, h2⟩ | ⟨h1, h2⟩
      · exact Or.inl ⟨j + 1, t', h1, h2⟩
      · refine Or.inr ⟨fun q hq => ?_, h2⟩
        rcases List.mem_cons.mp hq with rfl | hq
        · exact fun z => e z.symm
        · exact h1 q hq
