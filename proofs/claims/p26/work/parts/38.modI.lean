/-! QUESTIONS -/
def mf_at (q : List mq_K) (a : Int) : Int := if mq_pl q a then mq_v q a + 100000 else -1
def mf_ck (q : List mq_K) (c : Int) : mq_K := q.getD c.toNat ([], 0, 0)
def mf_start (q : List mq_K) (c : Int) : Int := ((mq_flat (q.take c.toNat)).length : Nat)
def mf_chunk (q : List mq_K) (c w : Int) : Int := if 0 ≤ c ∧ c < (q.length : Nat) then (if w = 0 then ((mf_ck q c).1.length : Nat) else if w = 1 then mf_start q c else if w = 2 then (mf_ck q c).2.1 else if w = 3 then (mf_ck q c).2.2 + 100000 else if w = 4 then (if (mf_ck q c).2.1 = 1 then mf_start q c + ((mf_ck q c).1.length : Nat) - 1 else mf_start q c) else -2) else -1
def mf_count (S : mS_T) (w : Int) : Int := if w = 0 then mq_n S.1.1 else if w = 1 then (S.1.1.length : Nat) else if w = 2 then (mq_rt (mq_flat S.1.1).length : Nat) else if w = 3 then S.1.2 else if w = 4 then mq_lg S.1.1 0 else if w = 5 then mq_wt S.1.1 0 else if w = 6 then mq_ws S.1.1 0 else if w = 7 then (S.2.2.2.length : Nat) else if w = 8 then (S.2.1.length : Nat) else -2
