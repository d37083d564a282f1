/-- the receiver is of the method's class -/
def e_rc (c : Nat) (as : List Value) (m : e_M) : Bool := decide (as.length = (g_k c).1) && (match (g_k c).2.1 with
  | 0 => true
  | 2 => (match as with
    | .ref _ :: _ => true
    | _ => false)
  | _ => (match as with
    | .ref o :: _ => if g_own c = 13 then decide (o = 1002) else (match m.1[o]? with
      | some (ci, _) => decide (ci = g_own c) && decide (ci < 11)
      | none => false)
    | _ => false))
