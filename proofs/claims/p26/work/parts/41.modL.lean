/-! TEXTS: an order -/
abbrev mp_is (c : Int) : Prop := c = 112 ∨ c = 99 ∨ c = 115 ∨ c = 116 ∨ c = 97 ∨ c = 109 ∨ c = 114
