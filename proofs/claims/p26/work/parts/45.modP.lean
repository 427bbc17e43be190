/-! WHAT IS PUT INTO THE PAD: the bytes of the number, the lowest first, up to one that is 0 -/
theorem mb_ri (x : Int32) : ab_r x.toInt := by
  have h1 := Int32.le_toInt x
  have h2 := Int32.toInt_lt x
  unfold ab_r; omega
