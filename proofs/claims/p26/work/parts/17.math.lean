/-! THE REFERENCE'S ROW, SEEN AS THE CLASS'S -/
theorem ab_up_ne {f : Int → Int} {i x j : Int} (h : j ≠ i) : ab_up f i x j = f j := by unfold ab_up; rw [if_neg h]
theorem ab_up_eq {f : Int → Int} {i x j : Int} (h : j = i) : ab_up f i x j = x := by unfold ab_up; rw [if_pos h]

