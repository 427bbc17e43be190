/-! TEXTS: carried out -/
theorem mf_err_in (k : Int) (q : List mq_K) (a b c : Int) : -5 ≤ mf_err k q a b c ∧ mf_err k q a b c ≤ 0 := by
  have h1 := mq_eSpan_in q a b
  have h2 := mq_eBy_in q a b c
  unfold mf_err
  split
  · unfold mq_ePut; split; (split; (split <;> omega); omega); omega
  split
  · unfold mq_eCut; split <;> omega
  split
  · unfold mq_eSet; split; (split <;> omega); omega
  split
  · omega
  split
  · unfold mq_eAdd; split; (split <;> omega); omega
  split
  · unfold mq_eMove; split; (split <;> omega); omega
  · omega
