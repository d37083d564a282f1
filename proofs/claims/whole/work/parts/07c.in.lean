/-- a call begins -/
theorem s_S_in {X : e_X} {d c : Nat} {as ls : List Value} {m : e_M} (h : e_rq c as m = true) (he : e_ent (g_mx c) as = ls) : s_S X (d + 1) c as m = s_j X d c 0 ls [] m := by
  subst he
  show e_S g_P g_mx e_rq X (d + 1) c as m = _
  rw [e_S, if_pos h]
  rfl
