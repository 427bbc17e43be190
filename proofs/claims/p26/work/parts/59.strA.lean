/-! THE TEXTS OF THE PAD'S ORDERS: the JDK's members over them -/
theorem sj_hts {args : Array Value} {s : State} (h : ∀ w ∈ ab_TB, w.before args s = true) {w : Cond} (hw : ab_inB w = true) : w.before args s = true := h w (ab_inB.to hw)
