/-! QUESTIONS, undone, saved -/
def mf_undo (S : mS_T) : Int × mS_T := match S.2.1.getLast? with
  | none => (-5, S)
  | some x => (((S.2.1.length - 1 : Nat) : Int), (x, S.2.1.dropLast, S.2.2))
def mf_save (S : mS_T) (a : Int) : Int × mS_T := if a = 0 then (mq_n S.1.1, (S.1, S.2.1, (some S.1, S.2.2.1.2), S.2.2.2)) else if a = 1 then (mq_n S.1.1, (S.1, S.2.1, (S.2.2.1.1, some S.1), S.2.2.2)) else (-2, S)
def mf_rest (S : mS_T) (o : Option mS_X) : Int × mS_T := match o with
  | none => (-5, S)
  | some x => (mq_n x.1, (x, mh_push S.2.1 S.1, S.2.2))
def mf_restore (S : mS_T) (a : Int) : Int × mS_T := if a = 0 then mf_rest S S.2.2.1.1 else if a = 1 then mf_rest S S.2.2.1.2 else (-2, S)
