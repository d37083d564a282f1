/-! PAIRS: trace -/
section
variable {X : e_X} {d : Nat} {I J : Nat → Int → Int}
theorem q_trace (h : Rel I J) {a : Int} (ha : rg a) : pr X d I J 166 295 [.int (iI a)] := by
  obtain ⟨t1, t2, t3⟩ := h.2.2.2.2.2.2.1
  by_cases q : 0 ≤ a ∧ a < I 55 1
  · have e := t3 a q.1 q.2
    refine ⟨I 56 a, I, J, I, J, ?_, ?_, h⟩
    · simp (disch := omega) only [v_166_0, u_166_0, x_iload1, x_sipush, x_aload0, k_0_8, f_55_1, x_isub, x_call3_0, x_call3_1, x_call3_2, x_call3_3, x_call3_4, e_k_s, e_k_i, List.nil_append, List.cons_append, x_ifCond_eq, x_ifCond_eqb, x_goto, u_166_22, k_55_0, x_jsr, u_166_31, x_ireturn, ia_56, b_in, ↓reduceIte, b01_0, ite_not, if_true, if_false, Int.reduceLT, Int.reduceEq]
    · simp (disch := omega) only [v_295_69, u_295_0, x_iload1, x_sipush, x_aload0, f_69_36, x_isub, x_call3_0, x_call3_1, x_call3_2, x_call3_3, x_call3_4, e_k_s, e_k_i, List.nil_append, List.cons_append, x_ifCond_eq, x_ifCond_eqb, k_69_35, x_goto, u_295_23, x_jsr, u_295_25, x_ireturn, ia_89, m_in, t2, ← e, ↓reduceIte, b01_0, ite_not, if_true, if_false, Int.reduceLT, Int.reduceEq]
  · refine ⟨-3, I, J, I, J, ?_, ?_, h⟩
    · simp (disch := omega) only [v_166_0, u_166_0, x_iload1, x_sipush, x_aload0, k_0_8, f_55_1, x_isub, x_call3_0, x_call3_1, x_call3_2, x_call3_3, x_call3_4, e_k_s, e_k_i, List.nil_append, List.cons_append, x_ifCond_eq, x_ifCond_eqb, x_goto, u_166_22, k_55_0, x_jsr, u_166_31, x_ireturn, ia_56, b_nin, ↓reduceIte, b01_0, ite_not, if_true, if_false, Int.reduceLT, Int.reduceEq]
    · simp (disch := omega) only [v_295_69, u_295_0, x_iload1, x_sipush, x_aload0, f_69_36, x_isub, x_call3_0, x_call3_1, x_call3_2, x_call3_3, x_call3_4, e_k_s, e_k_i, List.nil_append, List.cons_append, x_ifCond_eq, x_ifCond_eqb, k_69_35, x_goto, u_295_23, x_jsr, u_295_25, x_ireturn, ia_89, m_nin, t2, ↓reduceIte, b01_0, ite_not, if_true, if_false, Int.reduceLT, Int.reduceEq]
end
