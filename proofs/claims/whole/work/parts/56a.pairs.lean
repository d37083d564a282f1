/-! PAIRS: shelf, taken -/
theorem SF_ch {I I' : Nat → Int → Int} (h : SF I) {a : Nat} (hk : ∀ q : Nat, q < 4 → q ≠ a → (∀ k, I' (65 + q) k = I (65 + q) k) ∧ I' 87 q = I 87 q ∧ I' 88 q = I 88 q) (ha : (I' (65 + a) 0 = 0 ∧ I' 87 a = 0 ∧ I' 88 a = I' (65 + a) 1 ∧ 0 ≤ I' (65 + a) 1 ∧ I' (65 + a) 1 ≤ 5) ∨ (I' (65 + a) 0 = 1 ∧ (0 ≤ I' (65 + a) 2 ∧ I' (65 + a) 2 ≤ 4) ∧ I' 87 a = 10 + I' (65 + a) 2 ∧ I' 88 a = I' (65 + a) 3 ∧ 0 ≤ I' (65 + a) 3 ∧ I' (65 + a) 3 ≤ 40) ∨ (I' (65 + a) 0 = 2 ∧ I' 87 a = -1)) : SF I' := by
  intro q hq
  by_cases e : q = a
  · subst e
    exact ha
  · obtain ⟨e1, e2, e3⟩ := hk q hq e
    rw [e1, e1, e1, e1, e2, e3]
    exact h q hq
section
variable {X : e_X} {d : Nat} {I J : Nat → Int → Int}
theorem q_shelfp0 (h : Rel I J) {c : Int} (hc : 0 ≤ c ∧ c < I 1 9) : pr X d I J 162 286 [.int (iI 0), .int (iI 0), .int (iI c)] := by
  have hn6 := h.1.1.1
  have e6 := h.1.2.2.2.1.2.1
  have e2 := m_isp (X := X) (d := d + 27) (I := up (up I 65 0 0) 65 1 c) (J := J) (k := c) (n := I 1 9) e6 ⟨by constructor <;> omega, hn6⟩
  rw [if_pos hc] at e2
  refine ⟨1, up (up I 65 0 0) 65 1 c, J, up (up (up (up I 65 0 0) 65 1 c) 87 0 0) 88 0 c, J, ?_, ?_, Rel_shelf h (fun o k _ z => ?_) (SF_ch (a := 0) h.2.2.2.2.2.1 (fun q hq hq2 => ?_) (Or.inl ⟨rfl, rfl, rfl, hc.1, by show c ≤ 5; omega⟩))⟩
  · simp (disch := omega) only [v_162_0, u_162_0, x_iload1, x_sipush, x_call3_0, x_call3_1, x_call3_2, x_call3_3, x_call3_4, e_k_s, e_k_i, List.nil_append, List.cons_append, x_ifCond_ne, x_ifCond_neb, x_iload2, x_ifCond_eq, x_ifCond_eqb, x_jsr, u_162_18, x_ireturn, u_162_20, x_aload0, k_0_0, x_iload3, x_call2_0, x_call2_1, x_call2_2, x_call2_3, x_call2_4, u_162_37, x_if_icmp_ne, u_162_53, k_0_7, k_0_6, x_goto, u_162_88, u_162_99, aa_53_0, aa_53_1, aa_53_2, aa_53_3, aa_54_0, aa_54_1, aa_54_2, aa_54_3, v_66_65, v_66_66, v_66_67, v_66_68, u_66_0, p_65_0, p_65_1, x_return, b_in, t_in, ↓reduceIte, b01_0, ite_not, if_true, if_false, Int.reduceLT, Int.reduceEq]
  · simp (disch := omega) only [v_286_69, u_286_0, x_iload1, x_call1_0, x_call1_1, x_call1_2, x_call1_3, x_call1_4, e_k_s, e_k_i, List.nil_append, List.cons_append, x_ifCond_eq, x_ifCond_eqb, x_iload2, x_sipush, x_call3_0, x_call3_1, x_call3_2, x_call3_3, x_call3_4, x_ifCond_ne, x_ifCond_neb, x_aload0, x_iload3, x_call2_0, x_call2_1, x_call2_2, x_call2_3, x_call2_4, x_jsr, u_286_28, x_if_icmp_ne, u_286_40, x_ireturn, u_286_42, k_69_33, x_goto, u_286_55, k_69_30, x_ifCond_lt, x_iadd, u_286_81, u_286_82, k_69_34, u_286_96, k_69_31, u_286_110, u_286_111, ia_84, is_84, ia_85, is_85, ia_87, is_87, ia_88, is_88, m_shi, m_in, e2, ↓reduceIte, b01_0, ite_not, if_true, if_false, Int.reduceLT, Int.reduceEq]
  · unfold eSF at z
    unfold up
    (repeat' split) <;> first | rfl | (exfalso; omega)
  · refine ⟨fun k => ?_, ?_, ?_⟩ <;> (unfold up; (repeat' split) <;> first | rfl | (exfalso; omega))
theorem q_shelfn0 (h : Rel I J) {c : Int} (hc : rg c) : pr X d I J 162 286 [.int (iI 0), .int (iI 2), .int (iI c)] := by
  refine ⟨1, up (up I 65 0 2) 65 1 c, J, up (up (up (up I 65 0 2) 65 1 c) 87 0 (-1)) 88 0 0, J, ?_, ?_, Rel_shelf h (fun o k _ z => ?_) (SF_ch (a := 0) h.2.2.2.2.2.1 (fun q hq hq2 => ?_) (Or.inr (Or.inr ⟨rfl, rfl⟩)))⟩
  · simp (disch := omega) only [v_162_0, u_162_0, x_iload1, x_sipush, x_call3_0, x_call3_1, x_call3_2, x_call3_3, x_call3_4, e_k_s, e_k_i, List.nil_append, List.cons_append, x_ifCond_ne, x_ifCond_neb, x_iload2, x_ifCond_eq, x_ifCond_eqb, x_jsr, u_162_18, x_ireturn, u_162_20, x_aload0, k_0_0, x_iload3, x_call2_0, x_call2_1, x_call2_2, x_call2_3, x_call2_4, u_162_37, x_if_icmp_ne, u_162_53, k_0_7, k_0_6, x_goto, u_162_88, u_162_99, aa_53_0, aa_53_1, aa_53_2, aa_53_3, aa_54_0, aa_54_1, aa_54_2, aa_54_3, v_66_65, v_66_66, v_66_67, v_66_68, u_66_0, p_65_0, p_65_1, x_return, b_in, ↓reduceIte, b01_0, ite_not, if_true, if_false, Int.reduceLT, Int.reduceEq]
  · simp (disch := omega) only [v_286_69, u_286_0, x_iload1, x_call1_0, x_call1_1, x_call1_2, x_call1_3, x_call1_4, e_k_s, e_k_i, List.nil_append, List.cons_append, x_ifCond_eq, x_ifCond_eqb, x_iload2, x_sipush, x_call3_0, x_call3_1, x_call3_2, x_call3_3, x_call3_4, x_ifCond_ne, x_ifCond_neb, x_aload0, x_iload3, x_call2_0, x_call2_1, x_call2_2, x_call2_3, x_call2_4, x_jsr, u_286_28, x_if_icmp_ne, u_286_40, x_ireturn, u_286_42, k_69_33, x_goto, u_286_55, k_69_30, x_ifCond_lt, x_iadd, u_286_81, u_286_82, k_69_34, u_286_96, k_69_31, u_286_110, u_286_111, ia_84, is_84, ia_85, is_85, ia_87, is_87, ia_88, is_88, m_shi, m_in, Int.reduceNeg, ↓reduceIte, b01_0, ite_not, if_true, if_false, Int.reduceLT, Int.reduceEq]
  · unfold eSF at z
    unfold up
    (repeat' split) <;> first | rfl | (exfalso; omega)
  · refine ⟨fun k => ?_, ?_, ?_⟩ <;> (unfold up; (repeat' split) <;> first | rfl | (exfalso; omega))
theorem q_shelf0_0 (h : Rel I J) : pr X d I J 162 286 [.int (iI 0), .int (iI 1), .int (iI 0)] := by
  obtain ⟨h1, h2, h3, h4, -⟩ := h.2.2.2.2.1 0 (by decide)
  have h1 : -1 ≤ I 57 1 ∧ I 57 1 ≤ 4 := h1
  have h2 : 0 ≤ I 57 2 ∧ I 57 2 ≤ 40 := h2
  have h3 : I 84 0 = I 57 1 := h3
  have h4 : I 85 0 = I 57 2 := h4
  by_cases q : I 57 1 = -1
  · have g3 : up (up (up I 65 0 2) 65 2 (-1)) 65 3 (I 57 2) 84 0 = -1 := h3.trans q
    have g4 : up (up (up (up I 65 0 2) 65 2 (-1)) 65 3 (I 57 2)) 87 0 (-1) 85 0 = I 57 2 := h4
    refine ⟨1, up (up (up I 65 0 2) 65 2 (-1)) 65 3 (I 57 2), J, up (up (up (up (up I 65 0 2) 65 2 (-1)) 65 3 (I 57 2)) 87 0 (-1)) 88 0 (I 57 2), J, ?_, ?_, Rel_shelf h (fun o k _ z => ?_) (SF_ch (a := 0) h.2.2.2.2.2.1 (fun q hq hq2 => ?_) (Or.inr (Or.inr ⟨rfl, rfl⟩)))⟩
    · simp (disch := omega) only [v_162_0, u_162_0, x_iload1, x_sipush, x_call3_0, x_call3_1, x_call3_2, x_call3_3, x_call3_4, e_k_s, e_k_i, List.nil_append, List.cons_append, x_ifCond_ne, x_ifCond_neb, x_iload2, x_ifCond_eq, x_ifCond_eqb, x_jsr, u_162_18, x_ireturn, u_162_20, x_aload0, k_0_0, x_iload3, x_call2_0, x_call2_1, x_call2_2, x_call2_3, x_call2_4, u_162_37, x_if_icmp_ne, u_162_53, k_0_7, k_0_6, f_57_1, f_57_2, x_goto, u_162_88, u_162_99, aa_53_0, aa_53_1, aa_53_2, aa_53_3, aa_54_0, aa_54_1, aa_54_2, aa_54_3, v_65_65, v_65_66, v_65_67, v_65_68, u_65_0, u_65_10, u_65_11, p_65_0, p_65_2, p_65_3, x_return, b_in, q, Int.reduceNeg, ↓reduceIte, b01_0, ite_not, if_true, if_false, Int.reduceLT, Int.reduceEq]
    · simp (disch := omega) only [v_286_69, u_286_0, x_iload1, x_call1_0, x_call1_1, x_call1_2, x_call1_3, x_call1_4, e_k_s, e_k_i, List.nil_append, List.cons_append, x_ifCond_eq, x_ifCond_eqb, x_iload2, x_sipush, x_call3_0, x_call3_1, x_call3_2, x_call3_3, x_call3_4, x_ifCond_ne, x_ifCond_neb, x_aload0, x_iload3, x_call2_0, x_call2_1, x_call2_2, x_call2_3, x_call2_4, x_jsr, u_286_28, x_if_icmp_ne, u_286_40, x_ireturn, u_286_42, k_69_33, x_goto, u_286_55, k_69_30, x_ifCond_lt, x_iadd, u_286_81, u_286_82, k_69_34, u_286_96, k_69_31, u_286_110, u_286_111, ia_84, is_84, ia_85, is_85, ia_87, is_87, ia_88, is_88, m_shi, m_in, g3, g4, Int.reduceNeg, ↓reduceIte, b01_0, ite_not, if_true, if_false, Int.reduceLT, Int.reduceEq]
    · unfold eSF at z
      unfold up
      (repeat' split) <;> first | rfl | (exfalso; omega)
    · refine ⟨fun k => ?_, ?_, ?_⟩ <;> (unfold up; (repeat' split) <;> first | rfl | (exfalso; omega))
  · have g3 : up (up (up I 65 0 1) 65 2 (I 57 1)) 65 3 (I 57 2) 84 0 = I 57 1 := h3
    have g4 : up (up (up (up I 65 0 1) 65 2 (I 57 1)) 65 3 (I 57 2)) 87 0 (10 + I 57 1) 85 0 = I 57 2 := h4
    refine ⟨1, up (up (up I 65 0 1) 65 2 (I 57 1)) 65 3 (I 57 2), J, up (up (up (up (up I 65 0 1) 65 2 (I 57 1)) 65 3 (I 57 2)) 87 0 (10 + I 57 1)) 88 0 (I 57 2), J, ?_, ?_, Rel_shelf h (fun o k _ z => ?_) (SF_ch (a := 0) h.2.2.2.2.2.1 (fun q hq hq2 => ?_) (Or.inr (Or.inl ⟨rfl, ⟨by show 0 ≤ I 57 1; omega, h1.2⟩, rfl, rfl, h2.1, h2.2⟩)))⟩
    · simp (disch := omega) only [v_162_0, u_162_0, x_iload1, x_sipush, x_call3_0, x_call3_1, x_call3_2, x_call3_3, x_call3_4, e_k_s, e_k_i, List.nil_append, List.cons_append, x_ifCond_ne, x_ifCond_neb, x_iload2, x_ifCond_eq, x_ifCond_eqb, x_jsr, u_162_18, x_ireturn, u_162_20, x_aload0, k_0_0, x_iload3, x_call2_0, x_call2_1, x_call2_2, x_call2_3, x_call2_4, u_162_37, x_if_icmp_ne, u_162_53, k_0_7, k_0_6, f_57_1, f_57_2, x_goto, u_162_88, u_162_99, aa_53_0, aa_53_1, aa_53_2, aa_53_3, aa_54_0, aa_54_1, aa_54_2, aa_54_3, v_65_65, v_65_66, v_65_67, v_65_68, u_65_0, u_65_10, u_65_11, p_65_0, p_65_2, p_65_3, x_return, b_in, ↓reduceIte, b01_0, ite_not, if_true, if_false, Int.reduceLT, Int.reduceEq]
      (repeat' split) <;> first | rfl | (exfalso; omega)
    · simp (disch := omega) only [v_286_69, u_286_0, x_iload1, x_call1_0, x_call1_1, x_call1_2, x_call1_3, x_call1_4, e_k_s, e_k_i, List.nil_append, List.cons_append, x_ifCond_eq, x_ifCond_eqb, x_iload2, x_sipush, x_call3_0, x_call3_1, x_call3_2, x_call3_3, x_call3_4, x_ifCond_ne, x_ifCond_neb, x_aload0, x_iload3, x_call2_0, x_call2_1, x_call2_2, x_call2_3, x_call2_4, x_jsr, u_286_28, x_if_icmp_ne, u_286_40, x_ireturn, u_286_42, k_69_33, x_goto, u_286_55, k_69_30, x_ifCond_lt, x_iadd, u_286_81, u_286_82, k_69_34, u_286_96, k_69_31, u_286_110, u_286_111, ia_84, is_84, ia_85, is_85, ia_87, is_87, ia_88, is_88, m_shi, m_in, g3, g4, ↓reduceIte, b01_0, ite_not, if_true, if_false, Int.reduceLT, Int.reduceEq]
      rw [if_neg (by omega)]
    · unfold eSF at z
      unfold up
      (repeat' split) <;> first | rfl | (exfalso; omega)
    · refine ⟨fun k => ?_, ?_, ?_⟩ <;> (unfold up; (repeat' split) <;> first | rfl | (exfalso; omega))
theorem q_shelf0_1 (h : Rel I J) : pr X d I J 162 286 [.int (iI 0), .int (iI 1), .int (iI 1)] := by
  obtain ⟨h1, h2, h3, h4, -⟩ := h.2.2.2.2.1 1 (by decide)
  have h1 : -1 ≤ I 59 1 ∧ I 59 1 ≤ 4 := h1
  have h2 : 0 ≤ I 59 2 ∧ I 59 2 ≤ 40 := h2
  have h3 : I 84 1 = I 59 1 := h3
  have h4 : I 85 1 = I 59 2 := h4
  by_cases q : I 59 1 = -1
  · have g3 : up (up (up I 65 0 2) 65 2 (-1)) 65 3 (I 59 2) 84 1 = -1 := h3.trans q
    have g4 : up (up (up (up I 65 0 2) 65 2 (-1)) 65 3 (I 59 2)) 87 0 (-1) 85 1 = I 59 2 := h4
    refine ⟨1, up (up (up I 65 0 2) 65 2 (-1)) 65 3 (I 59 2), J, up (up (up (up (up I 65 0 2) 65 2 (-1)) 65 3 (I 59 2)) 87 0 (-1)) 88 0 (I 59 2), J, ?_, ?_, Rel_shelf h (fun o k _ z => ?_) (SF_ch (a := 0) h.2.2.2.2.2.1 (fun q hq hq2 => ?_) (Or.inr (Or.inr ⟨rfl, rfl⟩)))⟩
    · simp (disch := omega) only [v_162_0, u_162_0, x_iload1, x_sipush, x_call3_0, x_call3_1, x_call3_2, x_call3_3, x_call3_4, e_k_s, e_k_i, List.nil_append, List.cons_append, x_ifCond_ne, x_ifCond_neb, x_iload2, x_ifCond_eq, x_ifCond_eqb, x_jsr, u_162_18, x_ireturn, u_162_20, x_aload0, k_0_0, x_iload3, x_call2_0, x_call2_1, x_call2_2, x_call2_3, x_call2_4, u_162_37, x_if_icmp_ne, u_162_53, k_0_7, k_0_6, f_59_1, f_59_2, x_goto, u_162_88, u_162_99, aa_53_0, aa_53_1, aa_53_2, aa_53_3, aa_54_0, aa_54_1, aa_54_2, aa_54_3, v_65_65, v_65_66, v_65_67, v_65_68, u_65_0, u_65_10, u_65_11, p_65_0, p_65_2, p_65_3, x_return, b_in, q, Int.reduceNeg, ↓reduceIte, b01_0, ite_not, if_true, if_false, Int.reduceLT, Int.reduceEq]
    · simp (disch := omega) only [v_286_69, u_286_0, x_iload1, x_call1_0, x_call1_1, x_call1_2, x_call1_3, x_call1_4, e_k_s, e_k_i, List.nil_append, List.cons_append, x_ifCond_eq, x_ifCond_eqb, x_iload2, x_sipush, x_call3_0, x_call3_1, x_call3_2, x_call3_3, x_call3_4, x_ifCond_ne, x_ifCond_neb, x_aload0, x_iload3, x_call2_0, x_call2_1, x_call2_2, x_call2_3, x_call2_4, x_jsr, u_286_28, x_if_icmp_ne, u_286_40, x_ireturn, u_286_42, k_69_33, x_goto, u_286_55, k_69_30, x_ifCond_lt, x_iadd, u_286_81, u_286_82, k_69_34, u_286_96, k_69_31, u_286_110, u_286_111, ia_84, is_84, ia_85, is_85, ia_87, is_87, ia_88, is_88, m_shi, m_in, g3, g4, Int.reduceNeg, ↓reduceIte, b01_0, ite_not, if_true, if_false, Int.reduceLT, Int.reduceEq]
    · unfold eSF at z
      unfold up
      (repeat' split) <;> first | rfl | (exfalso; omega)
    · refine ⟨fun k => ?_, ?_, ?_⟩ <;> (unfold up; (repeat' split) <;> first | rfl | (exfalso; omega))
  · have g3 : up (up (up I 65 0 1) 65 2 (I 59 1)) 65 3 (I 59 2) 84 1 = I 59 1 := h3
    have g4 : up (up (up (up I 65 0 1) 65 2 (I 59 1)) 65 3 (I 59 2)) 87 0 (10 + I 59 1) 85 1 = I 59 2 := h4
    refine ⟨1, up (up (up I 65 0 1) 65 2 (I 59 1)) 65 3 (I 59 2), J, up (up (up (up (up I 65 0 1) 65 2 (I 59 1)) 65 3 (I 59 2)) 87 0 (10 + I 59 1)) 88 0 (I 59 2), J, ?_, ?_, Rel_shelf h (fun o k _ z => ?_) (SF_ch (a := 0) h.2.2.2.2.2.1 (fun q hq hq2 => ?_) (Or.inr (Or.inl ⟨rfl, ⟨by show 0 ≤ I 59 1; omega, h1.2⟩, rfl, rfl, h2.1, h2.2⟩)))⟩
    · simp (disch := omega) only [v_162_0, u_162_0, x_iload1, x_sipush, x_call3_0, x_call3_1, x_call3_2, x_call3_3, x_call3_4, e_k_s, e_k_i, List.nil_append, List.cons_append, x_ifCond_ne, x_ifCond_neb, x_iload2, x_ifCond_eq, x_ifCond_eqb, x_jsr, u_162_18, x_ireturn, u_162_20, x_aload0, k_0_0, x_iload3, x_call2_0, x_call2_1, x_call2_2, x_call2_3, x_call2_4, u_162_37, x_if_icmp_ne, u_162_53, k_0_7, k_0_6, f_59_1, f_59_2, x_goto, u_162_88, u_162_99, aa_53_0, aa_53_1, aa_53_2, aa_53_3, aa_54_0, aa_54_1, aa_54_2, aa_54_3, v_65_65, v_65_66, v_65_67, v_65_68, u_65_0, u_65_10, u_65_11, p_65_0, p_65_2, p_65_3, x_return, b_in, ↓reduceIte, b01_0, ite_not, if_true, if_false, Int.reduceLT, Int.reduceEq]
      (repeat' split) <;> first | rfl | (exfalso; omega)
    · simp (disch := omega) only [v_286_69, u_286_0, x_iload1, x_call1_0, x_call1_1, x_call1_2, x_call1_3, x_call1_4, e_k_s, e_k_i, List.nil_append, List.cons_append, x_ifCond_eq, x_ifCond_eqb, x_iload2, x_sipush, x_call3_0, x_call3_1, x_call3_2, x_call3_3, x_call3_4, x_ifCond_ne, x_ifCond_neb, x_aload0, x_iload3, x_call2_0, x_call2_1, x_call2_2, x_call2_3, x_call2_4, x_jsr, u_286_28, x_if_icmp_ne, u_286_40, x_ireturn, u_286_42, k_69_33, x_goto, u_286_55, k_69_30, x_ifCond_lt, x_iadd, u_286_81, u_286_82, k_69_34, u_286_96, k_69_31, u_286_110, u_286_111, ia_84, is_84, ia_85, is_85, ia_87, is_87, ia_88, is_88, m_shi, m_in, g3, g4, ↓reduceIte, b01_0, ite_not, if_true, if_false, Int.reduceLT, Int.reduceEq]
      rw [if_neg (by omega)]
    · unfold eSF at z
      unfold up
      (repeat' split) <;> first | rfl | (exfalso; omega)
    · refine ⟨fun k => ?_, ?_, ?_⟩ <;> (unfold up; (repeat' split) <;> first | rfl | (exfalso; omega))
theorem q_shelf0_2 (h : Rel I J) : pr X d I J 162 286 [.int (iI 0), .int (iI 1), .int (iI 2)] := by
  obtain ⟨h1, h2, h3, h4, -⟩ := h.2.2.2.2.1 2 (by decide)
  have h1 : -1 ≤ I 61 1 ∧ I 61 1 ≤ 4 := h1
  have h2 : 0 ≤ I 61 2 ∧ I 61 2 ≤ 40 := h2
  have h3 : I 84 2 = I 61 1 := h3
  have h4 : I 85 2 = I 61 2 := h4
  by_cases q : I 61 1 = -1
  · have g3 : up (up (up I 65 0 2) 65 2 (-1)) 65 3 (I 61 2) 84 2 = -1 := h3.trans q
    have g4 : up (up (up (up I 65 0 2) 65 2 (-1)) 65 3 (I 61 2)) 87 0 (-1) 85 2 = I 61 2 := h4
    refine ⟨1, up (up (up I 65 0 2) 65 2 (-1)) 65 3 (I 61 2), J, up (up (up (up (up I 65 0 2) 65 2 (-1)) 65 3 (I 61 2)) 87 0 (-1)) 88 0 (I 61 2), J, ?_, ?_, Rel_shelf h (fun o k _ z => ?_) (SF_ch (a := 0) h.2.2.2.2.2.1 (fun q hq hq2 => ?_) (Or.inr (Or.inr ⟨rfl, rfl⟩)))⟩
    · simp (disch := omega) only [v_162_0, u_162_0, x_iload1, x_sipush, x_call3_0, x_call3_1, x_call3_2, x_call3_3, x_call3_4, e_k_s, e_k_i, List.nil_append, List.cons_append, x_ifCond_ne, x_ifCond_neb, x_iload2, x_ifCond_eq, x_ifCond_eqb, x_jsr, u_162_18, x_ireturn, u_162_20, x_aload0, k_0_0, x_iload3, x_call2_0, x_call2_1, x_call2_2, x_call2_3, x_call2_4, u_162_37, x_if_icmp_ne, u_162_53, k_0_7, k_0_6, f_61_1, f_61_2, x_goto, u_162_88, u_162_99, aa_53_0, aa_53_1, aa_53_2, aa_53_3, aa_54_0, aa_54_1, aa_54_2, aa_54_3, v_65_65, v_65_66, v_65_67, v_65_68, u_65_0, u_65_10, u_65_11, p_65_0, p_65_2, p_65_3, x_return, b_in, q, Int.reduceNeg, ↓reduceIte, b01_0, ite_not, if_true, if_false, Int.reduceLT, Int.reduceEq]
    · simp (disch := omega) only [v_286_69, u_286_0, x_iload1, x_call1_0, x_call1_1, x_call1_2, x_call1_3, x_call1_4, e_k_s, e_k_i, List.nil_append, List.cons_append, x_ifCond_eq, x_ifCond_eqb, x_iload2, x_sipush, x_call3_0, x_call3_1, x_call3_2, x_call3_3, x_call3_4, x_ifCond_ne, x_ifCond_neb, x_aload0, x_iload3, x_call2_0, x_call2_1, x_call2_2, x_call2_3, x_call2_4, x_jsr, u_286_28, x_if_icmp_ne, u_286_40, x_ireturn, u_286_42, k_69_33, x_goto, u_286_55, k_69_30, x_ifCond_lt, x_iadd, u_286_81, u_286_82, k_69_34, u_286_96, k_69_31, u_286_110, u_286_111, ia_84, is_84, ia_85, is_85, ia_87, is_87, ia_88, is_88, m_shi, m_in, g3, g4, Int.reduceNeg, ↓reduceIte, b01_0, ite_not, if_true, if_false, Int.reduceLT, Int.reduceEq]
    · unfold eSF at z
      unfold up
      (repeat' split) <;> first | rfl | (exfalso; omega)
    · refine ⟨fun k => ?_, ?_, ?_⟩ <;> (unfold up; (repeat' split) <;> first | rfl | (exfalso; omega))
  · have g3 : up (up (up I 65 0 1) 65 2 (I 61 1)) 65 3 (I 61 2) 84 2 = I 61 1 := h3
    have g4 : up (up (up (up I 65 0 1) 65 2 (I 61 1)) 65 3 (I 61 2)) 87 0 (10 + I 61 1) 85 2 = I 61 2 := h4
    refine ⟨1, up (up (up I 65 0 1) 65 2 (I 61 1)) 65 3 (I 61 2), J, up (up (up (up (up I 65 0 1) 65 2 (I 61 1)) 65 3 (I 61 2)) 87 0 (10 + I 61 1)) 88 0 (I 61 2), J, ?_, ?_, Rel_shelf h (fun o k _ z => ?_) (SF_ch (a := 0) h.2.2.2.2.2.1 (fun q hq hq2 => ?_) (Or.inr (Or.inl ⟨rfl, ⟨by show 0 ≤ I 61 1; omega, h1.2⟩, rfl, rfl, h2.1, h2.2⟩)))⟩
    · simp (disch := omega) only [v_162_0, u_162_0, x_iload1, x_sipush, x_call3_0, x_call3_1, x_call3_2, x_call3_3, x_call3_4, e_k_s, e_k_i, List.nil_append, List.cons_append, x_ifCond_ne, x_ifCond_neb, x_iload2, x_ifCond_eq, x_ifCond_eqb, x_jsr, u_162_18, x_ireturn, u_162_20, x_aload0, k_0_0, x_iload3, x_call2_0, x_call2_1, x_call2_2, x_call2_3, x_call2_4, u_162_37, x_if_icmp_ne, u_162_53, k_0_7, k_0_6, f_61_1, f_61_2, x_goto, u_162_88, u_162_99, aa_53_0, aa_53_1, aa_53_2, aa_53_3, aa_54_0, aa_54_1, aa_54_2, aa_54_3, v_65_65, v_65_66, v_65_67, v_65_68, u_65_0, u_65_10, u_65_11, p_65_0, p_65_2, p_65_3, x_return, b_in, ↓reduceIte, b01_0, ite_not, if_true, if_false, Int.reduceLT, Int.reduceEq]
      (repeat' split) <;> first | rfl | (exfalso; omega)
    · simp (disch := omega) only [v_286_69, u_286_0, x_iload1, x_call1_0, x_call1_1, x_call1_2, x_call1_3, x_call1_4, e_k_s, e_k_i, List.nil_append, List.cons_append, x_ifCond_eq, x_ifCond_eqb, x_iload2, x_sipush, x_call3_0, x_call3_1, x_call3_2, x_call3_3, x_call3_4, x_ifCond_ne, x_ifCond_neb, x_aload0, x_iload3, x_call2_0, x_call2_1, x_call2_2, x_call2_3, x_call2_4, x_jsr, u_286_28, x_if_icmp_ne, u_286_40, x_ireturn, u_286_42, k_69_33, x_goto, u_286_55, k_69_30, x_ifCond_lt, x_iadd, u_286_81, u_286_82, k_69_34, u_286_96, k_69_31, u_286_110, u_286_111, ia_84, is_84, ia_85, is_85, ia_87, is_87, ia_88, is_88, m_shi, m_in, g3, g4, ↓reduceIte, b01_0, ite_not, if_true, if_false, Int.reduceLT, Int.reduceEq]
      rw [if_neg (by omega)]
    · unfold eSF at z
      unfold up
      (repeat' split) <;> first | rfl | (exfalso; omega)
    · refine ⟨fun k => ?_, ?_, ?_⟩ <;> (unfold up; (repeat' split) <;> first | rfl | (exfalso; omega))
theorem q_shelf0_3 (h : Rel I J) : pr X d I J 162 286 [.int (iI 0), .int (iI 1), .int (iI 3)] := by
  obtain ⟨h1, h2, h3, h4, -⟩ := h.2.2.2.2.1 3 (by decide)
  have h1 : -1 ≤ I 63 1 ∧ I 63 1 ≤ 4 := h1
  have h2 : 0 ≤ I 63 2 ∧ I 63 2 ≤ 40 := h2
  have h3 : I 84 3 = I 63 1 := h3
  have h4 : I 85 3 = I 63 2 := h4
  by_cases q : I 63 1 = -1
  · have g3 : up (up (up I 65 0 2) 65 2 (-1)) 65 3 (I 63 2) 84 3 = -1 := h3.trans q
    have g4 : up (up (up (up I 65 0 2) 65 2 (-1)) 65 3 (I 63 2)) 87 0 (-1) 85 3 = I 63 2 := h4
    refine ⟨1, up (up (up I 65 0 2) 65 2 (-1)) 65 3 (I 63 2), J, up (up (up (up (up I 65 0 2) 65 2 (-1)) 65 3 (I 63 2)) 87 0 (-1)) 88 0 (I 63 2), J, ?_, ?_, Rel_shelf h (fun o k _ z => ?_) (SF_ch (a := 0) h.2.2.2.2.2.1 (fun q hq hq2 => ?_) (Or.inr (Or.inr ⟨rfl, rfl⟩)))⟩
    · simp (disch := omega) only [v_162_0, u_162_0, x_iload1, x_sipush, x_call3_0, x_call3_1, x_call3_2, x_call3_3, x_call3_4, e_k_s, e_k_i, List.nil_append, List.cons_append, x_ifCond_ne, x_ifCond_neb, x_iload2, x_ifCond_eq, x_ifCond_eqb, x_jsr, u_162_18, x_ireturn, u_162_20, x_aload0, k_0_0, x_iload3, x_call2_0, x_call2_1, x_call2_2, x_call2_3, x_call2_4, u_162_37, x_if_icmp_ne, u_162_53, k_0_7, k_0_6, f_63_1, f_63_2, x_goto, u_162_88, u_162_99, aa_53_0, aa_53_1, aa_53_2, aa_53_3, aa_54_0, aa_54_1, aa_54_2, aa_54_3, v_65_65, v_65_66, v_65_67, v_65_68, u_65_0, u_65_10, u_65_11, p_65_0, p_65_2, p_65_3, x_return, b_in, q, Int.reduceNeg, ↓reduceIte, b01_0, ite_not, if_true, if_false, Int.reduceLT, Int.reduceEq]
    · simp (disch := omega) only [v_286_69, u_286_0, x_iload1, x_call1_0, x_call1_1, x_call1_2, x_call1_3, x_call1_4, e_k_s, e_k_i, List.nil_append, List.cons_append, x_ifCond_eq, x_ifCond_eqb, x_iload2, x_sipush, x_call3_0, x_call3_1, x_call3_2, x_call3_3, x_call3_4, x_ifCond_ne, x_ifCond_neb, x_aload0, x_iload3, x_call2_0, x_call2_1, x_call2_2, x_call2_3, x_call2_4, x_jsr, u_286_28, x_if_icmp_ne, u_286_40, x_ireturn, u_286_42, k_69_33, x_goto, u_286_55, k_69_30, x_ifCond_lt, x_iadd, u_286_81, u_286_82, k_69_34, u_286_96, k_69_31, u_286_110, u_286_111, ia_84, is_84, ia_85, is_85, ia_87, is_87, ia_88, is_88, m_shi, m_in, g3, g4, Int.reduceNeg, ↓reduceIte, b01_0, ite_not, if_true, if_false, Int.reduceLT, Int.reduceEq]
    · unfold eSF at z
      unfold up
      (repeat' split) <;> first | rfl | (exfalso; omega)
    · refine ⟨fun k => ?_, ?_, ?_⟩ <;> (unfold up; (repeat' split) <;> first | rfl | (exfalso; omega))
  · have g3 : up (up (up I 65 0 1) 65 2 (I 63 1)) 65 3 (I 63 2) 84 3 = I 63 1 := h3
    have g4 : up (up (up (up I 65 0 1) 65 2 (I 63 1)) 65 3 (I 63 2)) 87 0 (10 + I 63 1) 85 3 = I 63 2 := h4
    refine ⟨1, up (up (up I 65 0 1) 65 2 (I 63 1)) 65 3 (I 63 2), J, up (up (up (up (up I 65 0 1) 65 2 (I 63 1)) 65 3 (I 63 2)) 87 0 (10 + I 63 1)) 88 0 (I 63 2), J, ?_, ?_, Rel_shelf h (fun o k _ z => ?_) (SF_ch (a := 0) h.2.2.2.2.2.1 (fun q hq hq2 => ?_) (Or.inr (Or.inl ⟨rfl, ⟨by show 0 ≤ I 63 1; omega, h1.2⟩, rfl, rfl, h2.1, h2.2⟩)))⟩
    · simp (disch := omega) only [v_162_0, u_162_0, x_iload1, x_sipush, x_call3_0, x_call3_1, x_call3_2, x_call3_3, x_call3_4, e_k_s, e_k_i, List.nil_append, List.cons_append, x_ifCond_ne, x_ifCond_neb, x_iload2, x_ifCond_eq, x_ifCond_eqb, x_jsr, u_162_18, x_ireturn, u_162_20, x_aload0, k_0_0, x_iload3, x_call2_0, x_call2_1, x_call2_2, x_call2_3, x_call2_4, u_162_37, x_if_icmp_ne, u_162_53, k_0_7, k_0_6, f_63_1, f_63_2, x_goto, u_162_88, u_162_99, aa_53_0, aa_53_1, aa_53_2, aa_53_3, aa_54_0, aa_54_1, aa_54_2, aa_54_3, v_65_65, v_65_66, v_65_67, v_65_68, u_65_0, u_65_10, u_65_11, p_65_0, p_65_2, p_65_3, x_return, b_in, ↓reduceIte, b01_0, ite_not, if_true, if_false, Int.reduceLT, Int.reduceEq]
      (repeat' split) <;> first | rfl | (exfalso; omega)
    · simp (disch := omega) only [v_286_69, u_286_0, x_iload1, x_call1_0, x_call1_1, x_call1_2, x_call1_3, x_call1_4, e_k_s, e_k_i, List.nil_append, List.cons_append, x_ifCond_eq, x_ifCond_eqb, x_iload2, x_sipush, x_call3_0, x_call3_1, x_call3_2, x_call3_3, x_call3_4, x_ifCond_ne, x_ifCond_neb, x_aload0, x_iload3, x_call2_0, x_call2_1, x_call2_2, x_call2_3, x_call2_4, x_jsr, u_286_28, x_if_icmp_ne, u_286_40, x_ireturn, u_286_42, k_69_33, x_goto, u_286_55, k_69_30, x_ifCond_lt, x_iadd, u_286_81, u_286_82, k_69_34, u_286_96, k_69_31, u_286_110, u_286_111, ia_84, is_84, ia_85, is_85, ia_87, is_87, ia_88, is_88, m_shi, m_in, g3, g4, ↓reduceIte, b01_0, ite_not, if_true, if_false, Int.reduceLT, Int.reduceEq]
      rw [if_neg (by omega)]
    · unfold eSF at z
      unfold up
      (repeat' split) <;> first | rfl | (exfalso; omega)
    · refine ⟨fun k => ?_, ?_, ?_⟩ <;> (unfold up; (repeat' split) <;> first | rfl | (exfalso; omega))
theorem q_shelf0 (h : Rel I J) {b c : Int} (hb : rg b) (hc : rg c) : pr X d I J 162 286 [.int (iI 0), .int (iI b), .int (iI c)] := by
  have hn6 := h.1.1.1
  have e6 := h.1.2.2.2.1.2.1
  by_cases q0 : 0 ≤ b ∧ b ≤ 2
  · rcases (by omega : b = 0 ∨ b = 1 ∨ b = 2) with rfl | rfl | rfl
    · by_cases q1 : 0 ≤ c ∧ c < I 1 9
      · exact q_shelfp0 h q1
      · have e2 := m_isp (X := X) (d := d + 27) (I := I) (J := J) (k := c) (n := I 1 9) e6 ⟨hc, hn6⟩
        rw [if_neg q1] at e2
        refine ⟨-1, I, J, I, J, ?_, ?_, h⟩
        · simp (disch := omega) only [v_162_0, u_162_0, x_iload1, x_sipush, x_call3_0, x_call3_1, x_call3_2, x_call3_3, x_call3_4, e_k_s, e_k_i, List.nil_append, List.cons_append, x_ifCond_ne, x_ifCond_neb, x_iload2, x_ifCond_eq, x_ifCond_eqb, x_jsr, u_162_18, x_ireturn, u_162_20, x_aload0, k_0_0, x_iload3, x_call2_0, x_call2_1, x_call2_2, x_call2_3, x_call2_4, u_162_37, x_if_icmp_ne, u_162_53, k_0_7, k_0_6, x_goto, u_162_88, u_162_99, aa_53_0, aa_53_1, aa_53_2, aa_53_3, aa_54_0, aa_54_1, aa_54_2, aa_54_3, b_in, t_nin, ↓reduceIte, b01_0, ite_not, if_true, if_false, Int.reduceLT, Int.reduceEq]
        · simp (disch := omega) only [v_286_69, u_286_0, x_iload1, x_call1_0, x_call1_1, x_call1_2, x_call1_3, x_call1_4, e_k_s, e_k_i, List.nil_append, List.cons_append, x_ifCond_eq, x_ifCond_eqb, x_iload2, x_sipush, x_call3_0, x_call3_1, x_call3_2, x_call3_3, x_call3_4, x_ifCond_ne, x_ifCond_neb, x_aload0, x_iload3, x_call2_0, x_call2_1, x_call2_2, x_call2_3, x_call2_4, x_jsr, u_286_28, x_if_icmp_ne, u_286_40, x_ireturn, u_286_42, k_69_33, x_goto, u_286_55, k_69_30, x_ifCond_lt, x_iadd, u_286_81, u_286_82, k_69_34, u_286_96, k_69_31, u_286_110, u_286_111, ia_84, is_84, ia_85, is_85, ia_87, is_87, ia_88, is_88, m_shi, m_in, e2, ↓reduceIte, b01_0, ite_not, if_true, if_false, Int.reduceLT, Int.reduceEq]
    · by_cases q1 : 0 ≤ c ∧ c ≤ 3
      · rcases (by omega : c = 0 ∨ c = 1 ∨ c = 2 ∨ c = 3) with rfl | rfl | rfl | rfl
        · exact q_shelf0_0 h
        · exact q_shelf0_1 h
        · exact q_shelf0_2 h
        · exact q_shelf0_3 h
      · have e2 := m_shk (X := X) (d := d + 27) (I := I) (J := J) hc
        rw [if_neg q1] at e2
        refine ⟨-1, I, J, I, J, ?_, ?_, h⟩
        · simp (disch := omega) only [v_162_0, u_162_0, x_iload1, x_sipush, x_call3_0, x_call3_1, x_call3_2, x_call3_3, x_call3_4, e_k_s, e_k_i, List.nil_append, List.cons_append, x_ifCond_ne, x_ifCond_neb, x_iload2, x_ifCond_eq, x_ifCond_eqb, x_jsr, u_162_18, x_ireturn, u_162_20, x_aload0, k_0_0, x_iload3, x_call2_0, x_call2_1, x_call2_2, x_call2_3, x_call2_4, u_162_37, x_if_icmp_ne, u_162_53, k_0_7, k_0_6, x_goto, u_162_88, u_162_99, aa_53_0, aa_53_1, aa_53_2, aa_53_3, aa_54_0, aa_54_1, aa_54_2, aa_54_3, b_in, b_nin, ↓reduceIte, b01_0, ite_not, if_true, if_false, Int.reduceLT, Int.reduceEq]
        · simp (disch := omega) only [v_286_69, u_286_0, x_iload1, x_call1_0, x_call1_1, x_call1_2, x_call1_3, x_call1_4, e_k_s, e_k_i, List.nil_append, List.cons_append, x_ifCond_eq, x_ifCond_eqb, x_iload2, x_sipush, x_call3_0, x_call3_1, x_call3_2, x_call3_3, x_call3_4, x_ifCond_ne, x_ifCond_neb, x_aload0, x_iload3, x_call2_0, x_call2_1, x_call2_2, x_call2_3, x_call2_4, x_jsr, u_286_28, x_if_icmp_ne, u_286_40, x_ireturn, u_286_42, k_69_33, x_goto, u_286_55, k_69_30, x_ifCond_lt, x_iadd, u_286_81, u_286_82, k_69_34, u_286_96, k_69_31, u_286_110, u_286_111, ia_84, is_84, ia_85, is_85, ia_87, is_87, ia_88, is_88, m_shi, m_in, e2, ↓reduceIte, b01_0, ite_not, if_true, if_false, Int.reduceLT, Int.reduceEq]
    · exact q_shelfn0 h hc
  · refine ⟨-1, I, J, I, J, ?_, ?_, h⟩
    · simp (disch := omega) only [v_162_0, u_162_0, x_iload1, x_sipush, x_call3_0, x_call3_1, x_call3_2, x_call3_3, x_call3_4, e_k_s, e_k_i, List.nil_append, List.cons_append, x_ifCond_ne, x_ifCond_neb, x_iload2, x_ifCond_eq, x_ifCond_eqb, x_jsr, u_162_18, x_ireturn, u_162_20, x_aload0, k_0_0, x_iload3, x_call2_0, x_call2_1, x_call2_2, x_call2_3, x_call2_4, u_162_37, x_if_icmp_ne, u_162_53, k_0_7, k_0_6, x_goto, u_162_88, u_162_99, aa_53_0, aa_53_1, aa_53_2, aa_53_3, aa_54_0, aa_54_1, aa_54_2, aa_54_3, b_in, b_nin, ↓reduceIte, b01_0, ite_not, if_true, if_false, Int.reduceLT, Int.reduceEq]
    · simp (disch := omega) only [v_286_69, u_286_0, x_iload1, x_call1_0, x_call1_1, x_call1_2, x_call1_3, x_call1_4, e_k_s, e_k_i, List.nil_append, List.cons_append, x_ifCond_eq, x_ifCond_eqb, x_iload2, x_sipush, x_call3_0, x_call3_1, x_call3_2, x_call3_3, x_call3_4, x_ifCond_ne, x_ifCond_neb, x_aload0, x_iload3, x_call2_0, x_call2_1, x_call2_2, x_call2_3, x_call2_4, x_jsr, u_286_28, x_if_icmp_ne, u_286_40, x_ireturn, u_286_42, k_69_33, x_goto, u_286_55, k_69_30, x_ifCond_lt, x_iadd, u_286_81, u_286_82, k_69_34, u_286_96, k_69_31, u_286_110, u_286_111, ia_84, is_84, ia_85, is_85, ia_87, is_87, ia_88, is_88, m_shi, m_nin, ↓reduceIte, b01_0, ite_not, if_true, if_false, Int.reduceLT, Int.reduceEq]
theorem q_shelfp1 (h : Rel I J) {c : Int} (hc : 0 ≤ c ∧ c < I 1 9) : pr X d I J 162 286 [.int (iI 1), .int (iI 0), .int (iI c)] := by
  have hn6 := h.1.1.1
  have e6 := h.1.2.2.2.1.2.1
  have e2 := m_isp (X := X) (d := d + 27) (I := up (up I 66 0 0) 66 1 c) (J := J) (k := c) (n := I 1 9) e6 ⟨by constructor <;> omega, hn6⟩
  rw [if_pos hc] at e2
  refine ⟨1, up (up I 66 0 0) 66 1 c, J, up (up (up (up I 66 0 0) 66 1 c) 87 1 0) 88 1 c, J, ?_, ?_, Rel_shelf h (fun o k _ z => ?_) (SF_ch (a := 1) h.2.2.2.2.2.1 (fun q hq hq2 => ?_) (Or.inl ⟨rfl, rfl, rfl, hc.1, by show c ≤ 5; omega⟩))⟩
  · simp (disch := omega) only [v_162_0, u_162_0, x_iload1, x_sipush, x_call3_0, x_call3_1, x_call3_2, x_call3_3, x_call3_4, e_k_s, e_k_i, List.nil_append, List.cons_append, x_ifCond_ne, x_ifCond_neb, x_iload2, x_ifCond_eq, x_ifCond_eqb, x_jsr, u_162_18, x_ireturn, u_162_20, x_aload0, k_0_0, x_iload3, x_call2_0, x_call2_1, x_call2_2, x_call2_3, x_call2_4, u_162_37, x_if_icmp_ne, u_162_53, k_0_7, k_0_6, x_goto, u_162_88, u_162_99, aa_53_0, aa_53_1, aa_53_2, aa_53_3, aa_54_0, aa_54_1, aa_54_2, aa_54_3, v_66_65, v_66_66, v_66_67, v_66_68, u_66_0, p_66_0, p_66_1, x_return, b_in, t_in, ↓reduceIte, b01_0, ite_not, if_true, if_false, Int.reduceLT, Int.reduceEq]
  · simp (disch := omega) only [v_286_69, u_286_0, x_iload1, x_call1_0, x_call1_1, x_call1_2, x_call1_3, x_call1_4, e_k_s, e_k_i, List.nil_append, List.cons_append, x_ifCond_eq, x_ifCond_eqb, x_iload2, x_sipush, x_call3_0, x_call3_1, x_call3_2, x_call3_3, x_call3_4, x_ifCond_ne, x_ifCond_neb, x_aload0, x_iload3, x_call2_0, x_call2_1, x_call2_2, x_call2_3, x_call2_4, x_jsr, u_286_28, x_if_icmp_ne, u_286_40, x_ireturn, u_286_42, k_69_33, x_goto, u_286_55, k_69_30, x_ifCond_lt, x_iadd, u_286_81, u_286_82, k_69_34, u_286_96, k_69_31, u_286_110, u_286_111, ia_84, is_84, ia_85, is_85, ia_87, is_87, ia_88, is_88, m_shi, m_in, e2, ↓reduceIte, b01_0, ite_not, if_true, if_false, Int.reduceLT, Int.reduceEq]
  · unfold eSF at z
    unfold up
    (repeat' split) <;> first | rfl | (exfalso; omega)
  · refine ⟨fun k => ?_, ?_, ?_⟩ <;> (unfold up; (repeat' split) <;> first | rfl | (exfalso; omega))
theorem q_shelfn1 (h : Rel I J) {c : Int} (hc : rg c) : pr X d I J 162 286 [.int (iI 1), .int (iI 2), .int (iI c)] := by
  refine ⟨1, up (up I 66 0 2) 66 1 c, J, up (up (up (up I 66 0 2) 66 1 c) 87 1 (-1)) 88 1 0, J, ?_, ?_, Rel_shelf h (fun o k _ z => ?_) (SF_ch (a := 1) h.2.2.2.2.2.1 (fun q hq hq2 => ?_) (Or.inr (Or.inr ⟨rfl, rfl⟩)))⟩
  · simp (disch := omega) only [v_162_0, u_162_0, x_iload1, x_sipush, x_call3_0, x_call3_1, x_call3_2, x_call3_3, x_call3_4, e_k_s, e_k_i, List.nil_append, List.cons_append, x_ifCond_ne, x_ifCond_neb, x_iload2, x_ifCond_eq, x_ifCond_eqb, x_jsr, u_162_18, x_ireturn, u_162_20, x_aload0, k_0_0, x_iload3, x_call2_0, x_call2_1, x_call2_2, x_call2_3, x_call2_4, u_162_37, x_if_icmp_ne, u_162_53, k_0_7, k_0_6, x_goto, u_162_88, u_162_99, aa_53_0, aa_53_1, aa_53_2, aa_53_3, aa_54_0, aa_54_1, aa_54_2, aa_54_3, v_66_65, v_66_66, v_66_67, v_66_68, u_66_0, p_66_0, p_66_1, x_return, b_in, ↓reduceIte, b01_0, ite_not, if_true, if_false, Int.reduceLT, Int.reduceEq]
  · simp (disch := omega) only [v_286_69, u_286_0, x_iload1, x_call1_0, x_call1_1, x_call1_2, x_call1_3, x_call1_4, e_k_s, e_k_i, List.nil_append, List.cons_append, x_ifCond_eq, x_ifCond_eqb, x_iload2, x_sipush, x_call3_0, x_call3_1, x_call3_2, x_call3_3, x_call3_4, x_ifCond_ne, x_ifCond_neb, x_aload0, x_iload3, x_call2_0, x_call2_1, x_call2_2, x_call2_3, x_call2_4, x_jsr, u_286_28, x_if_icmp_ne, u_286_40, x_ireturn, u_286_42, k_69_33, x_goto, u_286_55, k_69_30, x_ifCond_lt, x_iadd, u_286_81, u_286_82, k_69_34, u_286_96, k_69_31, u_286_110, u_286_111, ia_84, is_84, ia_85, is_85, ia_87, is_87, ia_88, is_88, m_shi, m_in, Int.reduceNeg, ↓reduceIte, b01_0, ite_not, if_true, if_false, Int.reduceLT, Int.reduceEq]
  · unfold eSF at z
    unfold up
    (repeat' split) <;> first | rfl | (exfalso; omega)
  · refine ⟨fun k => ?_, ?_, ?_⟩ <;> (unfold up; (repeat' split) <;> first | rfl | (exfalso; omega))
theorem q_shelf1_0 (h : Rel I J) : pr X d I J 162 286 [.int (iI 1), .int (iI 1), .int (iI 0)] := by
  obtain ⟨h1, h2, h3, h4, -⟩ := h.2.2.2.2.1 0 (by decide)
  have h1 : -1 ≤ I 57 1 ∧ I 57 1 ≤ 4 := h1
  have h2 : 0 ≤ I 57 2 ∧ I 57 2 ≤ 40 := h2
  have h3 : I 84 0 = I 57 1 := h3
  have h4 : I 85 0 = I 57 2 := h4
  by_cases q : I 57 1 = -1
  · have g3 : up (up (up I 66 0 2) 66 2 (-1)) 66 3 (I 57 2) 84 0 = -1 := h3.trans q
    have g4 : up (up (up (up I 66 0 2) 66 2 (-1)) 66 3 (I 57 2)) 87 1 (-1) 85 0 = I 57 2 := h4
    refine ⟨1, up (up (up I 66 0 2) 66 2 (-1)) 66 3 (I 57 2), J, up (up (up (up (up I 66 0 2) 66 2 (-1)) 66 3 (I 57 2)) 87 1 (-1)) 88 1 (I 57 2), J, ?_, ?_, Rel_shelf h (fun o k _ z => ?_) (SF_ch (a := 1) h.2.2.2.2.2.1 (fun q hq hq2 => ?_) (Or.inr (Or.inr ⟨rfl, rfl⟩)))⟩
    · simp (disch := omega) only [v_162_0, u_162_0, x_iload1, x_sipush, x_call3_0, x_call3_1, x_call3_2, x_call3_3, x_call3_4, e_k_s, e_k_i, List.nil_append, List.cons_append, x_ifCond_ne, x_ifCond_neb, x_iload2, x_ifCond_eq, x_ifCond_eqb, x_jsr, u_162_18, x_ireturn, u_162_20, x_aload0, k_0_0, x_iload3, x_call2_0, x_call2_1, x_call2_2, x_call2_3, x_call2_4, u_162_37, x_if_icmp_ne, u_162_53, k_0_7, k_0_6, f_57_1, f_57_2, x_goto, u_162_88, u_162_99, aa_53_0, aa_53_1, aa_53_2, aa_53_3, aa_54_0, aa_54_1, aa_54_2, aa_54_3, v_65_65, v_65_66, v_65_67, v_65_68, u_65_0, u_65_10, u_65_11, p_66_0, p_66_2, p_66_3, x_return, b_in, q, Int.reduceNeg, ↓reduceIte, b01_0, ite_not, if_true, if_false, Int.reduceLT, Int.reduceEq]
    · simp (disch := omega) only [v_286_69, u_286_0, x_iload1, x_call1_0, x_call1_1, x_call1_2, x_call1_3, x_call1_4, e_k_s, e_k_i, List.nil_append, List.cons_append, x_ifCond_eq, x_ifCond_eqb, x_iload2, x_sipush, x_call3_0, x_call3_1, x_call3_2, x_call3_3, x_call3_4, x_ifCond_ne, x_ifCond_neb, x_aload0, x_iload3, x_call2_0, x_call2_1, x_call2_2, x_call2_3, x_call2_4, x_jsr, u_286_28, x_if_icmp_ne, u_286_40, x_ireturn, u_286_42, k_69_33, x_goto, u_286_55, k_69_30, x_ifCond_lt, x_iadd, u_286_81, u_286_82, k_69_34, u_286_96, k_69_31, u_286_110, u_286_111, ia_84, is_84, ia_85, is_85, ia_87, is_87, ia_88, is_88, m_shi, m_in, g3, g4, Int.reduceNeg, ↓reduceIte, b01_0, ite_not, if_true, if_false, Int.reduceLT, Int.reduceEq]
    · unfold eSF at z
      unfold up
      (repeat' split) <;> first | rfl | (exfalso; omega)
    · refine ⟨fun k => ?_, ?_, ?_⟩ <;> (unfold up; (repeat' split) <;> first | rfl | (exfalso; omega))
  · have g3 : up (up (up I 66 0 1) 66 2 (I 57 1)) 66 3 (I 57 2) 84 0 = I 57 1 := h3
    have g4 : up (up (up (up I 66 0 1) 66 2 (I 57 1)) 66 3 (I 57 2)) 87 1 (10 + I 57 1) 85 0 = I 57 2 := h4
    refine ⟨1, up (up (up I 66 0 1) 66 2 (I 57 1)) 66 3 (I 57 2), J, up (up (up (up (up I 66 0 1) 66 2 (I 57 1)) 66 3 (I 57 2)) 87 1 (10 + I 57 1)) 88 1 (I 57 2), J, ?_, ?_, Rel_shelf h (fun o k _ z => ?_) (SF_ch (a := 1) h.2.2.2.2.2.1 (fun q hq hq2 => ?_) (Or.inr (Or.inl ⟨rfl, ⟨by show 0 ≤ I 57 1; omega, h1.2⟩, rfl, rfl, h2.1, h2.2⟩)))⟩
    · simp (disch := omega) only [v_162_0, u_162_0, x_iload1, x_sipush, x_call3_0, x_call3_1, x_call3_2, x_call3_3, x_call3_4, e_k_s, e_k_i, List.nil_append, List.cons_append, x_ifCond_ne, x_ifCond_neb, x_iload2, x_ifCond_eq, x_ifCond_eqb, x_jsr, u_162_18, x_ireturn, u_162_20, x_aload0, k_0_0, x_iload3, x_call2_0, x_call2_1, x_call2_2, x_call2_3, x_call2_4, u_162_37, x_if_icmp_ne, u_162_53, k_0_7, k_0_6, f_57_1, f_57_2, x_goto, u_162_88, u_162_99, aa_53_0, aa_53_1, aa_53_2, aa_53_3, aa_54_0, aa_54_1, aa_54_2, aa_54_3, v_65_65, v_65_66, v_65_67, v_65_68, u_65_0, u_65_10, u_65_11, p_66_0, p_66_2, p_66_3, x_return, b_in, ↓reduceIte, b01_0, ite_not, if_true, if_false, Int.reduceLT, Int.reduceEq]
      (repeat' split) <;> first | rfl | (exfalso; omega)
    · simp (disch := omega) only [v_286_69, u_286_0, x_iload1, x_call1_0, x_call1_1, x_call1_2, x_call1_3, x_call1_4, e_k_s, e_k_i, List.nil_append, List.cons_append, x_ifCond_eq, x_ifCond_eqb, x_iload2, x_sipush, x_call3_0, x_call3_1, x_call3_2, x_call3_3, x_call3_4, x_ifCond_ne, x_ifCond_neb, x_aload0, x_iload3, x_call2_0, x_call2_1, x_call2_2, x_call2_3, x_call2_4, x_jsr, u_286_28, x_if_icmp_ne, u_286_40, x_ireturn, u_286_42, k_69_33, x_goto, u_286_55, k_69_30, x_ifCond_lt, x_iadd, u_286_81, u_286_82, k_69_34, u_286_96, k_69_31, u_286_110, u_286_111, ia_84, is_84, ia_85, is_85, ia_87, is_87, ia_88, is_88, m_shi, m_in, g3, g4, ↓reduceIte, b01_0, ite_not, if_true, if_false, Int.reduceLT, Int.reduceEq]
      rw [if_neg (by omega)]
    · unfold eSF at z
      unfold up
      (repeat' split) <;> first | rfl | (exfalso; omega)
    · refine ⟨fun k => ?_, ?_, ?_⟩ <;> (unfold up; (repeat' split) <;> first | rfl | (exfalso; omega))
theorem q_shelf1_1 (h : Rel I J) : pr X d I J 162 286 [.int (iI 1), .int (iI 1), .int (iI 1)] := by
  obtain ⟨h1, h2, h3, h4, -⟩ := h.2.2.2.2.1 1 (by decide)
  have h1 : -1 ≤ I 59 1 ∧ I 59 1 ≤ 4 := h1
  have h2 : 0 ≤ I 59 2 ∧ I 59 2 ≤ 40 := h2
  have h3 : I 84 1 = I 59 1 := h3
  have h4 : I 85 1 = I 59 2 := h4
  by_cases q : I 59 1 = -1
  · have g3 : up (up (up I 66 0 2) 66 2 (-1)) 66 3 (I 59 2) 84 1 = -1 := h3.trans q
    have g4 : up (up (up (up I 66 0 2) 66 2 (-1)) 66 3 (I 59 2)) 87 1 (-1) 85 1 = I 59 2 := h4
    refine ⟨1, up (up (up I 66 0 2) 66 2 (-1)) 66 3 (I 59 2), J, up (up (up (up (up I 66 0 2) 66 2 (-1)) 66 3 (I 59 2)) 87 1 (-1)) 88 1 (I 59 2), J, ?_, ?_, Rel_shelf h (fun o k _ z => ?_) (SF_ch (a := 1) h.2.2.2.2.2.1 (fun q hq hq2 => ?_) (Or.inr (Or.inr ⟨rfl, rfl⟩)))⟩
    · simp (disch := omega) only [v_162_0, u_162_0, x_iload1, x_sipush, x_call3_0, x_call3_1, x_call3_2, x_call3_3, x_call3_4, e_k_s, e_k_i, List.nil_append, List.cons_append, x_ifCond_ne, x_ifCond_neb, x_iload2, x_ifCond_eq, x_ifCond_eqb, x_jsr, u_162_18, x_ireturn, u_162_20, x_aload0, k_0_0, x_iload3, x_call2_0, x_call2_1, x_call2_2, x_call2_3, x_call2_4, u_162_37, x_if_icmp_ne, u_162_53, k_0_7, k_0_6, f_59_1, f_59_2, x_goto, u_162_88, u_162_99, aa_53_0, aa_53_1, aa_53_2, aa_53_3, aa_54_0, aa_54_1, aa_54_2, aa_54_3, v_65_65, v_65_66, v_65_67, v_65_68, u_65_0, u_65_10, u_65_11, p_66_0, p_66_2, p_66_3, x_return, b_in, q, Int.reduceNeg, ↓reduceIte, b01_0, ite_not, if_true, if_false, Int.reduceLT, Int.reduceEq]
    · simp (disch := omega) only [v_286_69, u_286_0, x_iload1, x_call1_0, x_call1_1, x_call1_2, x_call1_3, x_call1_4, e_k_s, e_k_i, List.nil_append, List.cons_append, x_ifCond_eq, x_ifCond_eqb, x_iload2, x_sipush, x_call3_0, x_call3_1, x_call3_2, x_call3_3, x_call3_4, x_ifCond_ne, x_ifCond_neb, x_aload0, x_iload3, x_call2_0, x_call2_1, x_call2_2, x_call2_3, x_call2_4, x_jsr, u_286_28, x_if_icmp_ne, u_286_40, x_ireturn, u_286_42, k_69_33, x_goto, u_286_55, k_69_30, x_ifCond_lt, x_iadd, u_286_81, u_286_82, k_69_34, u_286_96, k_69_31, u_286_110, u_286_111, ia_84, is_84, ia_85, is_85, ia_87, is_87, ia_88, is_88, m_shi, m_in, g3, g4, Int.reduceNeg, ↓reduceIte, b01_0, ite_not, if_true, if_false, Int.reduceLT, Int.reduceEq]
    · unfold eSF at z
      unfold up
      (repeat' split) <;> first | rfl | (exfalso; omega)
    · refine ⟨fun k => ?_, ?_, ?_⟩ <;> (unfold up; (repeat' split) <;> first | rfl | (exfalso; omega))
  · have g3 : up (up (up I 66 0 1) 66 2 (I 59 1)) 66 3 (I 59 2) 84 1 = I 59 1 := h3
    have g4 : up (up (up (up I 66 0 1) 66 2 (I 59 1)) 66 3 (I 59 2)) 87 1 (10 + I 59 1) 85 1 = I 59 2 := h4
    refine ⟨1, up (up (up I 66 0 1) 66 2 (I 59 1)) 66 3 (I 59 2), J, up (up (up (up (up I 66 0 1) 66 2 (I 59 1)) 66 3 (I 59 2)) 87 1 (10 + I 59 1)) 88 1 (I 59 2), J, ?_, ?_, Rel_shelf h (fun o k _ z => ?_) (SF_ch (a := 1) h.2.2.2.2.2.1 (fun q hq hq2 => ?_) (Or.inr (Or.inl ⟨rfl, ⟨by show 0 ≤ I 59 1; omega, h1.2⟩, rfl, rfl, h2.1, h2.2⟩)))⟩
    · simp (disch := omega) only [v_162_0, u_162_0, x_iload1, x_sipush, x_call3_0, x_call3_1, x_call3_2, x_call3_3, x_call3_4, e_k_s, e_k_i, List.nil_append, List.cons_append, x_ifCond_ne, x_ifCond_neb, x_iload2, x_ifCond_eq, x_ifCond_eqb, x_jsr, u_162_18, x_ireturn, u_162_20, x_aload0, k_0_0, x_iload3, x_call2_0, x_call2_1, x_call2_2, x_call2_3, x_call2_4, u_162_37, x_if_icmp_ne, u_162_53, k_0_7, k_0_6, f_59_1, f_59_2, x_goto, u_162_88, u_162_99, aa_53_0, aa_53_1, aa_53_2, aa_53_3, aa_54_0, aa_54_1, aa_54_2, aa_54_3, v_65_65, v_65_66, v_65_67, v_65_68, u_65_0, u_65_10, u_65_11, p_66_0, p_66_2, p_66_3, x_return, b_in, ↓reduceIte, b01_0, ite_not, if_true, if_false, Int.reduceLT, Int.reduceEq]
      (repeat' split) <;> first | rfl | (exfalso; omega)
    · simp (disch := omega) only [v_286_69, u_286_0, x_iload1, x_call1_0, x_call1_1, x_call1_2, x_call1_3, x_call1_4, e_k_s, e_k_i, List.nil_append, List.cons_append, x_ifCond_eq, x_ifCond_eqb, x_iload2, x_sipush, x_call3_0, x_call3_1, x_call3_2, x_call3_3, x_call3_4, x_ifCond_ne, x_ifCond_neb, x_aload0, x_iload3, x_call2_0, x_call2_1, x_call2_2, x_call2_3, x_call2_4, x_jsr, u_286_28, x_if_icmp_ne, u_286_40, x_ireturn, u_286_42, k_69_33, x_goto, u_286_55, k_69_30, x_ifCond_lt, x_iadd, u_286_81, u_286_82, k_69_34, u_286_96, k_69_31, u_286_110, u_286_111, ia_84, is_84, ia_85, is_85, ia_87, is_87, ia_88, is_88, m_shi, m_in, g3, g4, ↓reduceIte, b01_0, ite_not, if_true, if_false, Int.reduceLT, Int.reduceEq]
      rw [if_neg (by omega)]
    · unfold eSF at z
      unfold up
      (repeat' split) <;> first | rfl | (exfalso; omega)
    · refine ⟨fun k => ?_, ?_, ?_⟩ <;> (unfold up; (repeat' split) <;> first | rfl | (exfalso; omega))
theorem q_shelf1_2 (h : Rel I J) : pr X d I J 162 286 [.int (iI 1), .int (iI 1), .int (iI 2)] := by
  obtain ⟨h1, h2, h3, h4, -⟩ := h.2.2.2.2.1 2 (by decide)
  have h1 : -1 ≤ I 61 1 ∧ I 61 1 ≤ 4 := h1
  have h2 : 0 ≤ I 61 2 ∧ I 61 2 ≤ 40 := h2
  have h3 : I 84 2 = I 61 1 := h3
  have h4 : I 85 2 = I 61 2 := h4
  by_cases q : I 61 1 = -1
  · have g3 : up (up (up I 66 0 2) 66 2 (-1)) 66 3 (I 61 2) 84 2 = -1 := h3.trans q
    have g4 : up (up (up (up I 66 0 2) 66 2 (-1)) 66 3 (I 61 2)) 87 1 (-1) 85 2 = I 61 2 := h4
    refine ⟨1, up (up (up I 66 0 2) 66 2 (-1)) 66 3 (I 61 2), J, up (up (up (up (up I 66 0 2) 66 2 (-1)) 66 3 (I 61 2)) 87 1 (-1)) 88 1 (I 61 2), J, ?_, ?_, Rel_shelf h (fun o k _ z => ?_) (SF_ch (a := 1) h.2.2.2.2.2.1 (fun q hq hq2 => ?_) (Or.inr (Or.inr ⟨rfl, rfl⟩)))⟩
    · simp (disch := omega) only [v_162_0, u_162_0, x_iload1, x_sipush, x_call3_0, x_call3_1, x_call3_2, x_call3_3, x_call3_4, e_k_s, e_k_i, List.nil_append, List.cons_append, x_ifCond_ne, x_ifCond_neb, x_iload2, x_ifCond_eq, x_ifCond_eqb, x_jsr, u_162_18, x_ireturn, u_162_20, x_aload0, k_0_0, x_iload3, x_call2_0, x_call2_1, x_call2_2, x_call2_3, x_call2_4, u_162_37, x_if_icmp_ne, u_162_53, k_0_7, k_0_6, f_61_1, f_61_2, x_goto, u_162_88, u_162_99, aa_53_0, aa_53_1, aa_53_2, aa_53_3, aa_54_0, aa_54_1, aa_54_2, aa_54_3, v_65_65, v_65_66, v_65_67, v_65_68, u_65_0, u_65_10, u_65_11, p_66_0, p_66_2, p_66_3, x_return, b_in, q, Int.reduceNeg, ↓reduceIte, b01_0, ite_not, if_true, if_false, Int.reduceLT, Int.reduceEq]
    · simp (disch := omega) only [v_286_69, u_286_0, x_iload1, x_call1_0, x_call1_1, x_call1_2, x_call1_3, x_call1_4, e_k_s, e_k_i, List.nil_append, List.cons_append, x_ifCond_eq, x_ifCond_eqb, x_iload2, x_sipush, x_call3_0, x_call3_1, x_call3_2, x_call3_3, x_call3_4, x_ifCond_ne, x_ifCond_neb, x_aload0, x_iload3, x_call2_0, x_call2_1, x_call2_2, x_call2_3, x_call2_4, x_jsr, u_286_28, x_if_icmp_ne, u_286_40, x_ireturn, u_286_42, k_69_33, x_goto, u_286_55, k_69_30, x_ifCond_lt, x_iadd, u_286_81, u_286_82, k_69_34, u_286_96, k_69_31, u_286_110, u_286_111, ia_84, is_84, ia_85, is_85, ia_87, is_87, ia_88, is_88, m_shi, m_in, g3, g4, Int.reduceNeg, ↓reduceIte, b01_0, ite_not, if_true, if_false, Int.reduceLT, Int.reduceEq]
    · unfold eSF at z
      unfold up
      (repeat' split) <;> first | rfl | (exfalso; omega)
    · refine ⟨fun k => ?_, ?_, ?_⟩ <;> (unfold up; (repeat' split) <;> first | rfl | (exfalso; omega))
  · have g3 : up (up (up I 66 0 1) 66 2 (I 61 1)) 66 3 (I 61 2) 84 2 = I 61 1 := h3
    have g4 : up (up (up (up I 66 0 1) 66 2 (I 61 1)) 66 3 (I 61 2)) 87 1 (10 + I 61 1) 85 2 = I 61 2 := h4
    refine ⟨1, up (up (up I 66 0 1) 66 2 (I 61 1)) 66 3 (I 61 2), J, up (up (up (up (up I 66 0 1) 66 2 (I 61 1)) 66 3 (I 61 2)) 87 1 (10 + I 61 1)) 88 1 (I 61 2), J, ?_, ?_, Rel_shelf h (fun o k _ z => ?_) (SF_ch (a := 1) h.2.2.2.2.2.1 (fun q hq hq2 => ?_) (Or.inr (Or.inl ⟨rfl, ⟨by show 0 ≤ I 61 1; omega, h1.2⟩, rfl, rfl, h2.1, h2.2⟩)))⟩
    · simp (disch := omega) only [v_162_0, u_162_0, x_iload1, x_sipush, x_call3_0, x_call3_1, x_call3_2, x_call3_3, x_call3_4, e_k_s, e_k_i, List.nil_append, List.cons_append, x_ifCond_ne, x_ifCond_neb, x_iload2, x_ifCond_eq, x_ifCond_eqb, x_jsr, u_162_18, x_ireturn, u_162_20, x_aload0, k_0_0, x_iload3, x_call2_0, x_call2_1, x_call2_2, x_call2_3, x_call2_4, u_162_37, x_if_icmp_ne, u_162_53, k_0_7, k_0_6, f_61_1, f_61_2, x_goto, u_162_88, u_162_99, aa_53_0, aa_53_1, aa_53_2, aa_53_3, aa_54_0, aa_54_1, aa_54_2, aa_54_3, v_65_65, v_65_66, v_65_67, v_65_68, u_65_0, u_65_10, u_65_11, p_66_0, p_66_2, p_66_3, x_return, b_in, ↓reduceIte, b01_0, ite_not, if_true, if_false, Int.reduceLT, Int.reduceEq]
      (repeat' split) <;> first | rfl | (exfalso; omega)
    · simp (disch := omega) only [v_286_69, u_286_0, x_iload1, x_call1_0, x_call1_1, x_call1_2, x_call1_3, x_call1_4, e_k_s, e_k_i, List.nil_append, List.cons_append, x_ifCond_eq, x_ifCond_eqb, x_iload2, x_sipush, x_call3_0, x_call3_1, x_call3_2, x_call3_3, x_call3_4, x_ifCond_ne, x_ifCond_neb, x_aload0, x_iload3, x_call2_0, x_call2_1, x_call2_2, x_call2_3, x_call2_4, x_jsr, u_286_28, x_if_icmp_ne, u_286_40, x_ireturn, u_286_42, k_69_33, x_goto, u_286_55, k_69_30, x_ifCond_lt, x_iadd, u_286_81, u_286_82, k_69_34, u_286_96, k_69_31, u_286_110, u_286_111, ia_84, is_84, ia_85, is_85, ia_87, is_87, ia_88, is_88, m_shi, m_in, g3, g4, ↓reduceIte, b01_0, ite_not, if_true, if_false, Int.reduceLT, Int.reduceEq]
      rw [if_neg (by omega)]
    · unfold eSF at z
      unfold up
      (repeat' split) <;> first | rfl | (exfalso; omega)
    · refine ⟨fun k => ?_, ?_, ?_⟩ <;> (unfold up; (repeat' split) <;> first | rfl | (exfalso; omega))
theorem q_shelf1_3 (h : Rel I J) : pr X d I J 162 286 [.int (iI 1), .int (iI 1), .int (iI 3)] := by
  obtain ⟨h1, h2, h3, h4, -⟩ := h.2.2.2.2.1 3 (by decide)
  have h1 : -1 ≤ I 63 1 ∧ I 63 1 ≤ 4 := h1
  have h2 : 0 ≤ I 63 2 ∧ I 63 2 ≤ 40 := h2
  have h3 : I 84 3 = I 63 1 := h3
  have h4 : I 85 3 = I 63 2 := h4
  by_cases q : I 63 1 = -1
  · have g3 : up (up (up I 66 0 2) 66 2 (-1)) 66 3 (I 63 2) 84 3 = -1 := h3.trans q
    have g4 : up (up (up (up I 66 0 2) 66 2 (-1)) 66 3 (I 63 2)) 87 1 (-1) 85 3 = I 63 2 := h4
    refine ⟨1, up (up (up I 66 0 2) 66 2 (-1)) 66 3 (I 63 2), J, up (up (up (up (up I 66 0 2) 66 2 (-1)) 66 3 (I 63 2)) 87 1 (-1)) 88 1 (I 63 2), J, ?_, ?_, Rel_shelf h (fun o k _ z => ?_) (SF_ch (a := 1) h.2.2.2.2.2.1 (fun q hq hq2 => ?_) (Or.inr (Or.inr ⟨rfl, rfl⟩)))⟩
    · simp (disch := omega) only [v_162_0, u_162_0, x_iload1, x_sipush, x_call3_0, x_call3_1, x_call3_2, x_call3_3, x_call3_4, e_k_s, e_k_i, List.nil_append, List.cons_append, x_ifCond_ne, x_ifCond_neb, x_iload2, x_ifCond_eq, x_ifCond_eqb, x_jsr, u_162_18, x_ireturn, u_162_20, x_aload0, k_0_0, x_iload3, x_call2_0, x_call2_1, x_call2_2, x_call2_3, x_call2_4, u_162_37, x_if_icmp_ne, u_162_53, k_0_7, k_0_6, f_63_1, f_63_2, x_goto, u_162_88, u_162_99, aa_53_0, aa_53_1, aa_53_2, aa_53_3, aa_54_0, aa_54_1, aa_54_2, aa_54_3, v_65_65, v_65_66, v_65_67, v_65_68, u_65_0, u_65_10, u_65_11, p_66_0, p_66_2, p_66_3, x_return, b_in, q, Int.reduceNeg, ↓reduceIte, b01_0, ite_not, if_true, if_false, Int.reduceLT, Int.reduceEq]
    · simp (disch := omega) only [v_286_69, u_286_0, x_iload1, x_call1_0, x_call1_1, x_call1_2, x_call1_3, x_call1_4, e_k_s, e_k_i, List.nil_append, List.cons_append, x_ifCond_eq, x_ifCond_eqb, x_iload2, x_sipush, x_call3_0, x_call3_1, x_call3_2, x_call3_3, x_call3_4, x_ifCond_ne, x_ifCond_neb, x_aload0, x_iload3, x_call2_0, x_call2_1, x_call2_2, x_call2_3, x_call2_4, x_jsr, u_286_28, x_if_icmp_ne, u_286_40, x_ireturn, u_286_42, k_69_33, x_goto, u_286_55, k_69_30, x_ifCond_lt, x_iadd, u_286_81, u_286_82, k_69_34, u_286_96, k_69_31, u_286_110, u_286_111, ia_84, is_84, ia_85, is_85, ia_87, is_87, ia_88, is_88, m_shi, m_in, g3, g4, Int.reduceNeg, ↓reduceIte, b01_0, ite_not, if_true, if_false, Int.reduceLT, Int.reduceEq]
    · unfold eSF at z
      unfold up
      (repeat' split) <;> first | rfl | (exfalso; omega)
    · refine ⟨fun k => ?_, ?_, ?_⟩ <;> (unfold up; (repeat' split) <;> first | rfl | (exfalso; omega))
  · have g3 : up (up (up I 66 0 1) 66 2 (I 63 1)) 66 3 (I 63 2) 84 3 = I 63 1 := h3
    have g4 : up (up (up (up I 66 0 1) 66 2 (I 63 1)) 66 3 (I 63 2)) 87 1 (10 + I 63 1) 85 3 = I 63 2 := h4
    refine ⟨1, up (up (up I 66 0 1) 66 2 (I 63 1)) 66 3 (I 63 2), J, up (up (up (up (up I 66 0 1) 66 2 (I 63 1)) 66 3 (I 63 2)) 87 1 (10 + I 63 1)) 88 1 (I 63 2), J, ?_, ?_, Rel_shelf h (fun o k _ z => ?_) (SF_ch (a := 1) h.2.2.2.2.2.1 (fun q hq hq2 => ?_) (Or.inr (Or.inl ⟨rfl, ⟨by show 0 ≤ I 63 1; omega, h1.2⟩, rfl, rfl, h2.1, h2.2⟩)))⟩
    · simp (disch := omega) only [v_162_0, u_162_0, x_iload1, x_sipush, x_call3_0, x_call3_1, x_call3_2, x_call3_3, x_call3_4, e_k_s, e_k_i, List.nil_append, List.cons_append, x_ifCond_ne, x_ifCond_neb, x_iload2, x_ifCond_eq, x_ifCond_eqb, x_jsr, u_162_18, x_ireturn, u_162_20, x_aload0, k_0_0, x_iload3, x_call2_0, x_call2_1, x_call2_2, x_call2_3, x_call2_4, u_162_37, x_if_icmp_ne, u_162_53, k_0_7, k_0_6, f_63_1, f_63_2, x_goto, u_162_88, u_162_99, aa_53_0, aa_53_1, aa_53_2, aa_53_3, aa_54_0, aa_54_1, aa_54_2, aa_54_3, v_65_65, v_65_66, v_65_67, v_65_68, u_65_0, u_65_10, u_65_11, p_66_0, p_66_2, p_66_3, x_return, b_in, ↓reduceIte, b01_0, ite_not, if_true, if_false, Int.reduceLT, Int.reduceEq]
      (repeat' split) <;> first | rfl | (exfalso; omega)
    · simp (disch := omega) only [v_286_69, u_286_0, x_iload1, x_call1_0, x_call1_1, x_call1_2, x_call1_3, x_call1_4, e_k_s, e_k_i, List.nil_append, List.cons_append, x_ifCond_eq, x_ifCond_eqb, x_iload2, x_sipush, x_call3_0, x_call3_1, x_call3_2, x_call3_3, x_call3_4, x_ifCond_ne, x_ifCond_neb, x_aload0, x_iload3, x_call2_0, x_call2_1, x_call2_2, x_call2_3, x_call2_4, x_jsr, u_286_28, x_if_icmp_ne, u_286_40, x_ireturn, u_286_42, k_69_33, x_goto, u_286_55, k_69_30, x_ifCond_lt, x_iadd, u_286_81, u_286_82, k_69_34, u_286_96, k_69_31, u_286_110, u_286_111, ia_84, is_84, ia_85, is_85, ia_87, is_87, ia_88, is_88, m_shi, m_in, g3, g4, ↓reduceIte, b01_0, ite_not, if_true, if_false, Int.reduceLT, Int.reduceEq]
      rw [if_neg (by omega)]
    · unfold eSF at z
      unfold up
      (repeat' split) <;> first | rfl | (exfalso; omega)
    · refine ⟨fun k => ?_, ?_, ?_⟩ <;> (unfold up; (repeat' split) <;> first | rfl | (exfalso; omega))
theorem q_shelf1 (h : Rel I J) {b c : Int} (hb : rg b) (hc : rg c) : pr X d I J 162 286 [.int (iI 1), .int (iI b), .int (iI c)] := by
  have hn6 := h.1.1.1
  have e6 := h.1.2.2.2.1.2.1
  by_cases q0 : 0 ≤ b ∧ b ≤ 2
  · rcases (by omega : b = 0 ∨ b = 1 ∨ b = 2) with rfl | rfl | rfl
    · by_cases q1 : 0 ≤ c ∧ c < I 1 9
      · exact q_shelfp1 h q1
      · have e2 := m_isp (X := X) (d := d + 27) (I := I) (J := J) (k := c) (n := I 1 9) e6 ⟨hc, hn6⟩
        rw [if_neg q1] at e2
        refine ⟨-1, I, J, I, J, ?_, ?_, h⟩
        · simp (disch := omega) only [v_162_0, u_162_0, x_iload1, x_sipush, x_call3_0, x_call3_1, x_call3_2, x_call3_3, x_call3_4, e_k_s, e_k_i, List.nil_append, List.cons_append, x_ifCond_ne, x_ifCond_neb, x_iload2, x_ifCond_eq, x_ifCond_eqb, x_jsr, u_162_18, x_ireturn, u_162_20, x_aload0, k_0_0, x_iload3, x_call2_0, x_call2_1, x_call2_2, x_call2_3, x_call2_4, u_162_37, x_if_icmp_ne, u_162_53, k_0_7, k_0_6, x_goto, u_162_88, u_162_99, aa_53_0, aa_53_1, aa_53_2, aa_53_3, aa_54_0, aa_54_1, aa_54_2, aa_54_3, b_in, t_nin, ↓reduceIte, b01_0, ite_not, if_true, if_false, Int.reduceLT, Int.reduceEq]
        · simp (disch := omega) only [v_286_69, u_286_0, x_iload1, x_call1_0, x_call1_1, x_call1_2, x_call1_3, x_call1_4, e_k_s, e_k_i, List.nil_append, List.cons_append, x_ifCond_eq, x_ifCond_eqb, x_iload2, x_sipush, x_call3_0, x_call3_1, x_call3_2, x_call3_3, x_call3_4, x_ifCond_ne, x_ifCond_neb, x_aload0, x_iload3, x_call2_0, x_call2_1, x_call2_2, x_call2_3, x_call2_4, x_jsr, u_286_28, x_if_icmp_ne, u_286_40, x_ireturn, u_286_42, k_69_33, x_goto, u_286_55, k_69_30, x_ifCond_lt, x_iadd, u_286_81, u_286_82, k_69_34, u_286_96, k_69_31, u_286_110, u_286_111, ia_84, is_84, ia_85, is_85, ia_87, is_87, ia_88, is_88, m_shi, m_in, e2, ↓reduceIte, b01_0, ite_not, if_true, if_false, Int.reduceLT, Int.reduceEq]
    · by_cases q1 : 0 ≤ c ∧ c ≤ 3
      · rcases (by omega : c = 0 ∨ c = 1 ∨ c = 2 ∨ c = 3) with rfl | rfl | rfl | rfl
        · exact q_shelf1_0 h
        · exact q_shelf1_1 h
        · exact q_shelf1_2 h
        · exact q_shelf1_3 h
      · have e2 := m_shk (X := X) (d := d + 27) (I := I) (J := J) hc
        rw [if_neg q1] at e2
        refine ⟨-1, I, J, I, J, ?_, ?_, h⟩
        · simp (disch := omega) only [v_162_0, u_162_0, x_iload1, x_sipush, x_call3_0, x_call3_1, x_call3_2, x_call3_3, x_call3_4, e_k_s, e_k_i, List.nil_append, List.cons_append, x_ifCond_ne, x_ifCond_neb, x_iload2, x_ifCond_eq, x_ifCond_eqb, x_jsr, u_162_18, x_ireturn, u_162_20, x_aload0, k_0_0, x_iload3, x_call2_0, x_call2_1, x_call2_2, x_call2_3, x_call2_4, u_162_37, x_if_icmp_ne, u_162_53, k_0_7, k_0_6, x_goto, u_162_88, u_162_99, aa_53_0, aa_53_1, aa_53_2, aa_53_3, aa_54_0, aa_54_1, aa_54_2, aa_54_3, b_in, b_nin, ↓reduceIte, b01_0, ite_not, if_true, if_false, Int.reduceLT, Int.reduceEq]
        · simp (disch := omega) only [v_286_69, u_286_0, x_iload1, x_call1_0, x_call1_1, x_call1_2, x_call1_3, x_call1_4, e_k_s, e_k_i, List.nil_append, List.cons_append, x_ifCond_eq, x_ifCond_eqb, x_iload2, x_sipush, x_call3_0, x_call3_1, x_call3_2, x_call3_3, x_call3_4, x_ifCond_ne, x_ifCond_neb, x_aload0, x_iload3, x_call2_0, x_call2_1, x_call2_2, x_call2_3, x_call2_4, x_jsr, u_286_28, x_if_icmp_ne, u_286_40, x_ireturn, u_286_42, k_69_33, x_goto, u_286_55, k_69_30, x_ifCond_lt, x_iadd, u_286_81, u_286_82, k_69_34, u_286_96, k_69_31, u_286_110, u_286_111, ia_84, is_84, ia_85, is_85, ia_87, is_87, ia_88, is_88, m_shi, m_in, e2, ↓reduceIte, b01_0, ite_not, if_true, if_false, Int.reduceLT, Int.reduceEq]
    · exact q_shelfn1 h hc
  · refine ⟨-1, I, J, I, J, ?_, ?_, h⟩
    · simp (disch := omega) only [v_162_0, u_162_0, x_iload1, x_sipush, x_call3_0, x_call3_1, x_call3_2, x_call3_3, x_call3_4, e_k_s, e_k_i, List.nil_append, List.cons_append, x_ifCond_ne, x_ifCond_neb, x_iload2, x_ifCond_eq, x_ifCond_eqb, x_jsr, u_162_18, x_ireturn, u_162_20, x_aload0, k_0_0, x_iload3, x_call2_0, x_call2_1, x_call2_2, x_call2_3, x_call2_4, u_162_37, x_if_icmp_ne, u_162_53, k_0_7, k_0_6, x_goto, u_162_88, u_162_99, aa_53_0, aa_53_1, aa_53_2, aa_53_3, aa_54_0, aa_54_1, aa_54_2, aa_54_3, b_in, b_nin, ↓reduceIte, b01_0, ite_not, if_true, if_false, Int.reduceLT, Int.reduceEq]
    · simp (disch := omega) only [v_286_69, u_286_0, x_iload1, x_call1_0, x_call1_1, x_call1_2, x_call1_3, x_call1_4, e_k_s, e_k_i, List.nil_append, List.cons_append, x_ifCond_eq, x_ifCond_eqb, x_iload2, x_sipush, x_call3_0, x_call3_1, x_call3_2, x_call3_3, x_call3_4, x_ifCond_ne, x_ifCond_neb, x_aload0, x_iload3, x_call2_0, x_call2_1, x_call2_2, x_call2_3, x_call2_4, x_jsr, u_286_28, x_if_icmp_ne, u_286_40, x_ireturn, u_286_42, k_69_33, x_goto, u_286_55, k_69_30, x_ifCond_lt, x_iadd, u_286_81, u_286_82, k_69_34, u_286_96, k_69_31, u_286_110, u_286_111, ia_84, is_84, ia_85, is_85, ia_87, is_87, ia_88, is_88, m_shi, m_nin, ↓reduceIte, b01_0, ite_not, if_true, if_false, Int.reduceLT, Int.reduceEq]
theorem q_shelfp2 (h : Rel I J) {c : Int} (hc : 0 ≤ c ∧ c < I 1 9) : pr X d I J 162 286 [.int (iI 2), .int (iI 0), .int (iI c)] := by
  have hn6 := h.1.1.1
  have e6 := h.1.2.2.2.1.2.1
  have e2 := m_isp (X := X) (d := d + 27) (I := up (up I 67 0 0) 67 1 c) (J := J) (k := c) (n := I 1 9) e6 ⟨by constructor <;> omega, hn6⟩
  rw [if_pos hc] at e2
  refine ⟨1, up (up I 67 0 0) 67 1 c, J, up (up (up (up I 67 0 0) 67 1 c) 87 2 0) 88 2 c, J, ?_, ?_, Rel_shelf h (fun o k _ z => ?_) (SF_ch (a := 2) h.2.2.2.2.2.1 (fun q hq hq2 => ?_) (Or.inl ⟨rfl, rfl, rfl, hc.1, by show c ≤ 5; omega⟩))⟩
  · simp (disch := omega) only [v_162_0, u_162_0, x_iload1, x_sipush, x_call3_0, x_call3_1, x_call3_2, x_call3_3, x_call3_4, e_k_s, e_k_i, List.nil_append, List.cons_append, x_ifCond_ne, x_ifCond_neb, x_iload2, x_ifCond_eq, x_ifCond_eqb, x_jsr, u_162_18, x_ireturn, u_162_20, x_aload0, k_0_0, x_iload3, x_call2_0, x_call2_1, x_call2_2, x_call2_3, x_call2_4, u_162_37, x_if_icmp_ne, u_162_53, k_0_7, k_0_6, x_goto, u_162_88, u_162_99, aa_53_0, aa_53_1, aa_53_2, aa_53_3, aa_54_0, aa_54_1, aa_54_2, aa_54_3, v_66_65, v_66_66, v_66_67, v_66_68, u_66_0, p_67_0, p_67_1, x_return, b_in, t_in, ↓reduceIte, b01_0, ite_not, if_true, if_false, Int.reduceLT, Int.reduceEq]
  · simp (disch := omega) only [v_286_69, u_286_0, x_iload1, x_call1_0, x_call1_1, x_call1_2, x_call1_3, x_call1_4, e_k_s, e_k_i, List.nil_append, List.cons_append, x_ifCond_eq, x_ifCond_eqb, x_iload2, x_sipush, x_call3_0, x_call3_1, x_call3_2, x_call3_3, x_call3_4, x_ifCond_ne, x_ifCond_neb, x_aload0, x_iload3, x_call2_0, x_call2_1, x_call2_2, x_call2_3, x_call2_4, x_jsr, u_286_28, x_if_icmp_ne, u_286_40, x_ireturn, u_286_42, k_69_33, x_goto, u_286_55, k_69_30, x_ifCond_lt, x_iadd, u_286_81, u_286_82, k_69_34, u_286_96, k_69_31, u_286_110, u_286_111, ia_84, is_84, ia_85, is_85, ia_87, is_87, ia_88, is_88, m_shi, m_in, e2, ↓reduceIte, b01_0, ite_not, if_true, if_false, Int.reduceLT, Int.reduceEq]
  · unfold eSF at z
    unfold up
    (repeat' split) <;> first | rfl | (exfalso; omega)
  · refine ⟨fun k => ?_, ?_, ?_⟩ <;> (unfold up; (repeat' split) <;> first | rfl | (exfalso; omega))
theorem q_shelfn2 (h : Rel I J) {c : Int} (hc : rg c) : pr X d I J 162 286 [.int (iI 2), .int (iI 2), .int (iI c)] := by
  refine ⟨1, up (up I 67 0 2) 67 1 c, J, up (up (up (up I 67 0 2) 67 1 c) 87 2 (-1)) 88 2 0, J, ?_, ?_, Rel_shelf h (fun o k _ z => ?_) (SF_ch (a := 2) h.2.2.2.2.2.1 (fun q hq hq2 => ?_) (Or.inr (Or.inr ⟨rfl, rfl⟩)))⟩
  · simp (disch := omega) only [v_162_0, u_162_0, x_iload1, x_sipush, x_call3_0, x_call3_1, x_call3_2, x_call3_3, x_call3_4, e_k_s, e_k_i, List.nil_append, List.cons_append, x_ifCond_ne, x_ifCond_neb, x_iload2, x_ifCond_eq, x_ifCond_eqb, x_jsr, u_162_18, x_ireturn, u_162_20, x_aload0, k_0_0, x_iload3, x_call2_0, x_call2_1, x_call2_2, x_call2_3, x_call2_4, u_162_37, x_if_icmp_ne, u_162_53, k_0_7, k_0_6, x_goto, u_162_88, u_162_99, aa_53_0, aa_53_1, aa_53_2, aa_53_3, aa_54_0, aa_54_1, aa_54_2, aa_54_3, v_66_65, v_66_66, v_66_67, v_66_68, u_66_0, p_67_0, p_67_1, x_return, b_in, ↓reduceIte, b01_0, ite_not, if_true, if_false, Int.reduceLT, Int.reduceEq]
  · simp (disch := omega) only [v_286_69, u_286_0, x_iload1, x_call1_0, x_call1_1, x_call1_2, x_call1_3, x_call1_4, e_k_s, e_k_i, List.nil_append, List.cons_append, x_ifCond_eq, x_ifCond_eqb, x_iload2, x_sipush, x_call3_0, x_call3_1, x_call3_2, x_call3_3, x_call3_4, x_ifCond_ne, x_ifCond_neb, x_aload0, x_iload3, x_call2_0, x_call2_1, x_call2_2, x_call2_3, x_call2_4, x_jsr, u_286_28, x_if_icmp_ne, u_286_40, x_ireturn, u_286_42, k_69_33, x_goto, u_286_55, k_69_30, x_ifCond_lt, x_iadd, u_286_81, u_286_82, k_69_34, u_286_96, k_69_31, u_286_110, u_286_111, ia_84, is_84, ia_85, is_85, ia_87, is_87, ia_88, is_88, m_shi, m_in, Int.reduceNeg, ↓reduceIte, b01_0, ite_not, if_true, if_false, Int.reduceLT, Int.reduceEq]
  · unfold eSF at z
    unfold up
    (repeat' split) <;> first | rfl | (exfalso; omega)
  · refine ⟨fun k => ?_, ?_, ?_⟩ <;> (unfold up; (repeat' split) <;> first | rfl | (exfalso; omega))
theorem q_shelf2_0 (h : Rel I J) : pr X d I J 162 286 [.int (iI 2), .int (iI 1), .int (iI 0)] := by
  obtain ⟨h1, h2, h3, h4, -⟩ := h.2.2.2.2.1 0 (by decide)
  have h1 : -1 ≤ I 57 1 ∧ I 57 1 ≤ 4 := h1
  have h2 : 0 ≤ I 57 2 ∧ I 57 2 ≤ 40 := h2
  have h3 : I 84 0 = I 57 1 := h3
  have h4 : I 85 0 = I 57 2 := h4
  by_cases q : I 57 1 = -1
  · have g3 : up (up (up I 67 0 2) 67 2 (-1)) 67 3 (I 57 2) 84 0 = -1 := h3.trans q
    have g4 : up (up (up (up I 67 0 2) 67 2 (-1)) 67 3 (I 57 2)) 87 2 (-1) 85 0 = I 57 2 := h4
    refine ⟨1, up (up (up I 67 0 2) 67 2 (-1)) 67 3 (I 57 2), J, up (up (up (up (up I 67 0 2) 67 2 (-1)) 67 3 (I 57 2)) 87 2 (-1)) 88 2 (I 57 2), J, ?_, ?_, Rel_shelf h (fun o k _ z => ?_) (SF_ch (a := 2) h.2.2.2.2.2.1 (fun q hq hq2 => ?_) (Or.inr (Or.inr ⟨rfl, rfl⟩)))⟩
    · simp (disch := omega) only [v_162_0, u_162_0, x_iload1, x_sipush, x_call3_0, x_call3_1, x_call3_2, x_call3_3, x_call3_4, e_k_s, e_k_i, List.nil_append, List.cons_append, x_ifCond_ne, x_ifCond_neb, x_iload2, x_ifCond_eq, x_ifCond_eqb, x_jsr, u_162_18, x_ireturn, u_162_20, x_aload0, k_0_0, x_iload3, x_call2_0, x_call2_1, x_call2_2, x_call2_3, x_call2_4, u_162_37, x_if_icmp_ne, u_162_53, k_0_7, k_0_6, f_57_1, f_57_2, x_goto, u_162_88, u_162_99, aa_53_0, aa_53_1, aa_53_2, aa_53_3, aa_54_0, aa_54_1, aa_54_2, aa_54_3, v_65_65, v_65_66, v_65_67, v_65_68, u_65_0, u_65_10, u_65_11, p_67_0, p_67_2, p_67_3, x_return, b_in, q, Int.reduceNeg, ↓reduceIte, b01_0, ite_not, if_true, if_false, Int.reduceLT, Int.reduceEq]
    · simp (disch := omega) only [v_286_69, u_286_0, x_iload1, x_call1_0, x_call1_1, x_call1_2, x_call1_3, x_call1_4, e_k_s, e_k_i, List.nil_append, List.cons_append, x_ifCond_eq, x_ifCond_eqb, x_iload2, x_sipush, x_call3_0, x_call3_1, x_call3_2, x_call3_3, x_call3_4, x_ifCond_ne, x_ifCond_neb, x_aload0, x_iload3, x_call2_0, x_call2_1, x_call2_2, x_call2_3, x_call2_4, x_jsr, u_286_28, x_if_icmp_ne, u_286_40, x_ireturn, u_286_42, k_69_33, x_goto, u_286_55, k_69_30, x_ifCond_lt, x_iadd, u_286_81, u_286_82, k_69_34, u_286_96, k_69_31, u_286_110, u_286_111, ia_84, is_84, ia_85, is_85, ia_87, is_87, ia_88, is_88, m_shi, m_in, g3, g4, Int.reduceNeg, ↓reduceIte, b01_0, ite_not, if_true, if_false, Int.reduceLT, Int.reduceEq]
    · unfold eSF at z
      unfold up
      (repeat' split) <;> first | rfl | (exfalso; omega)
    · refine ⟨fun k => ?_, ?_, ?_⟩ <;> (unfold up; (repeat' split) <;> first | rfl | (exfalso; omega))
  · have g3 : up (up (up I 67 0 1) 67 2 (I 57 1)) 67 3 (I 57 2) 84 0 = I 57 1 := h3
    have g4 : up (up (up (up I 67 0 1) 67 2 (I 57 1)) 67 3 (I 57 2)) 87 2 (10 + I 57 1) 85 0 = I 57 2 := h4
    refine ⟨1, up (up (up I 67 0 1) 67 2 (I 57 1)) 67 3 (I 57 2), J, up (up (up (up (up I 67 0 1) 67 2 (I 57 1)) 67 3 (I 57 2)) 87 2 (10 + I 57 1)) 88 2 (I 57 2), J, ?_, ?_, Rel_shelf h (fun o k _ z => ?_) (SF_ch (a := 2) h.2.2.2.2.2.1 (fun q hq hq2 => ?_) (Or.inr (Or.inl ⟨rfl, ⟨by show 0 ≤ I 57 1; omega, h1.2⟩, rfl, rfl, h2.1, h2.2⟩)))⟩
    · simp (disch := omega) only [v_162_0, u_162_0, x_iload1, x_sipush, x_call3_0, x_call3_1, x_call3_2, x_call3_3, x_call3_4, e_k_s, e_k_i, List.nil_append, List.cons_append, x_ifCond_ne, x_ifCond_neb, x_iload2, x_ifCond_eq, x_ifCond_eqb, x_jsr, u_162_18, x_ireturn, u_162_20, x_aload0, k_0_0, x_iload3, x_call2_0, x_call2_1, x_call2_2, x_call2_3, x_call2_4, u_162_37, x_if_icmp_ne, u_162_53, k_0_7, k_0_6, f_57_1, f_57_2, x_goto, u_162_88, u_162_99, aa_53_0, aa_53_1, aa_53_2, aa_53_3, aa_54_0, aa_54_1, aa_54_2, aa_54_3, v_65_65, v_65_66, v_65_67, v_65_68, u_65_0, u_65_10, u_65_11, p_67_0, p_67_2, p_67_3, x_return, b_in, ↓reduceIte, b01_0, ite_not, if_true, if_false, Int.reduceLT, Int.reduceEq]
      (repeat' split) <;> first | rfl | (exfalso; omega)
    · simp (disch := omega) only [v_286_69, u_286_0, x_iload1, x_call1_0, x_call1_1, x_call1_2, x_call1_3, x_call1_4, e_k_s, e_k_i, List.nil_append, List.cons_append, x_ifCond_eq, x_ifCond_eqb, x_iload2, x_sipush, x_call3_0, x_call3_1, x_call3_2, x_call3_3, x_call3_4, x_ifCond_ne, x_ifCond_neb, x_aload0, x_iload3, x_call2_0, x_call2_1, x_call2_2, x_call2_3, x_call2_4, x_jsr, u_286_28, x_if_icmp_ne, u_286_40, x_ireturn, u_286_42, k_69_33, x_goto, u_286_55, k_69_30, x_ifCond_lt, x_iadd, u_286_81, u_286_82, k_69_34, u_286_96, k_69_31, u_286_110, u_286_111, ia_84, is_84, ia_85, is_85, ia_87, is_87, ia_88, is_88, m_shi, m_in, g3, g4, ↓reduceIte, b01_0, ite_not, if_true, if_false, Int.reduceLT, Int.reduceEq]
      rw [if_neg (by omega)]
    · unfold eSF at z
      unfold up
      (repeat' split) <;> first | rfl | (exfalso; omega)
    · refine ⟨fun k => ?_, ?_, ?_⟩ <;> (unfold up; (repeat' split) <;> first | rfl | (exfalso; omega))
theorem q_shelf2_1 (h : Rel I J) : pr X d I J 162 286 [.int (iI 2), .int (iI 1), .int (iI 1)] := by
  obtain ⟨h1, h2, h3, h4, -⟩ := h.2.2.2.2.1 1 (by decide)
  have h1 : -1 ≤ I 59 1 ∧ I 59 1 ≤ 4 := h1
  have h2 : 0 ≤ I 59 2 ∧ I 59 2 ≤ 40 := h2
  have h3 : I 84 1 = I 59 1 := h3
  have h4 : I 85 1 = I 59 2 := h4
  by_cases q : I 59 1 = -1
  · have g3 : up (up (up I 67 0 2) 67 2 (-1)) 67 3 (I 59 2) 84 1 = -1 := h3.trans q
    have g4 : up (up (up (up I 67 0 2) 67 2 (-1)) 67 3 (I 59 2)) 87 2 (-1) 85 1 = I 59 2 := h4
    refine ⟨1, up (up (up I 67 0 2) 67 2 (-1)) 67 3 (I 59 2), J, up (up (up (up (up I 67 0 2) 67 2 (-1)) 67 3 (I 59 2)) 87 2 (-1)) 88 2 (I 59 2), J, ?_, ?_, Rel_shelf h (fun o k _ z => ?_) (SF_ch (a := 2) h.2.2.2.2.2.1 (fun q hq hq2 => ?_) (Or.inr (Or.inr ⟨rfl, rfl⟩)))⟩
    · simp (disch := omega) only [v_162_0, u_162_0, x_iload1, x_sipush, x_call3_0, x_call3_1, x_call3_2, x_call3_3, x_call3_4, e_k_s, e_k_i, List.nil_append, List.cons_append, x_ifCond_ne, x_ifCond_neb, x_iload2, x_ifCond_eq, x_ifCond_eqb, x_jsr, u_162_18, x_ireturn, u_162_20, x_aload0, k_0_0, x_iload3, x_call2_0, x_call2_1, x_call2_2, x_call2_3, x_call2_4, u_162_37, x_if_icmp_ne, u_162_53, k_0_7, k_0_6, f_59_1, f_59_2, x_goto, u_162_88, u_162_99, aa_53_0, aa_53_1, aa_53_2, aa_53_3, aa_54_0, aa_54_1, aa_54_2, aa_54_3, v_65_65, v_65_66, v_65_67, v_65_68, u_65_0, u_65_10, u_65_11, p_67_0, p_67_2, p_67_3, x_return, b_in, q, Int.reduceNeg, ↓reduceIte, b01_0, ite_not, if_true, if_false, Int.reduceLT, Int.reduceEq]
    · simp (disch := omega) only [v_286_69, u_286_0, x_iload1, x_call1_0, x_call1_1, x_call1_2, x_call1_3, x_call1_4, e_k_s, e_k_i, List.nil_append, List.cons_append, x_ifCond_eq, x_ifCond_eqb, x_iload2, x_sipush, x_call3_0, x_call3_1, x_call3_2, x_call3_3, x_call3_4, x_ifCond_ne, x_ifCond_neb, x_aload0, x_iload3, x_call2_0, x_call2_1, x_call2_2, x_call2_3, x_call2_4, x_jsr, u_286_28, x_if_icmp_ne, u_286_40, x_ireturn, u_286_42, k_69_33, x_goto, u_286_55, k_69_30, x_ifCond_lt, x_iadd, u_286_81, u_286_82, k_69_34, u_286_96, k_69_31, u_286_110, u_286_111, ia_84, is_84, ia_85, is_85, ia_87, is_87, ia_88, is_88, m_shi, m_in, g3, g4, Int.reduceNeg, ↓reduceIte, b01_0, ite_not, if_true, if_false, Int.reduceLT, Int.reduceEq]
    · unfold eSF at z
      unfold up
      (repeat' split) <;> first | rfl | (exfalso; omega)
    · refine ⟨fun k => ?_, ?_, ?_⟩ <;> (unfold up; (repeat' split) <;> first | rfl | (exfalso; omega))
  · have g3 : up (up (up I 67 0 1) 67 2 (I 59 1)) 67 3 (I 59 2) 84 1 = I 59 1 := h3
    have g4 : up (up (up (up I 67 0 1) 67 2 (I 59 1)) 67 3 (I 59 2)) 87 2 (10 + I 59 1) 85 1 = I 59 2 := h4
    refine ⟨1, up (up (up I 67 0 1) 67 2 (I 59 1)) 67 3 (I 59 2), J, up (up (up (up (up I 67 0 1) 67 2 (I 59 1)) 67 3 (I 59 2)) 87 2 (10 + I 59 1)) 88 2 (I 59 2), J, ?_, ?_, Rel_shelf h (fun o k _ z => ?_) (SF_ch (a := 2) h.2.2.2.2.2.1 (fun q hq hq2 => ?_) (Or.inr (Or.inl ⟨rfl, ⟨by show 0 ≤ I 59 1; omega, h1.2⟩, rfl, rfl, h2.1, h2.2⟩)))⟩
    · simp (disch := omega) only [v_162_0, u_162_0, x_iload1, x_sipush, x_call3_0, x_call3_1, x_call3_2, x_call3_3, x_call3_4, e_k_s, e_k_i, List.nil_append, List.cons_append, x_ifCond_ne, x_ifCond_neb, x_iload2, x_ifCond_eq, x_ifCond_eqb, x_jsr, u_162_18, x_ireturn, u_162_20, x_aload0, k_0_0, x_iload3, x_call2_0, x_call2_1, x_call2_2, x_call2_3, x_call2_4, u_162_37, x_if_icmp_ne, u_162_53, k_0_7, k_0_6, f_59_1, f_59_2, x_goto, u_162_88, u_162_99, aa_53_0, aa_53_1, aa_53_2, aa_53_3, aa_54_0, aa_54_1, aa_54_2, aa_54_3, v_65_65, v_65_66, v_65_67, v_65_68, u_65_0, u_65_10, u_65_11, p_67_0, p_67_2, p_67_3, x_return, b_in, ↓reduceIte, b01_0, ite_not, if_true, if_false, Int.reduceLT, Int.reduceEq]
      (repeat' split) <;> first | rfl | (exfalso; omega)
    · simp (disch := omega) only [v_286_69, u_286_0, x_iload1, x_call1_0, x_call1_1, x_call1_2, x_call1_3, x_call1_4, e_k_s, e_k_i, List.nil_append, List.cons_append, x_ifCond_eq, x_ifCond_eqb, x_iload2, x_sipush, x_call3_0, x_call3_1, x_call3_2, x_call3_3, x_call3_4, x_ifCond_ne, x_ifCond_neb, x_aload0, x_iload3, x_call2_0, x_call2_1, x_call2_2, x_call2_3, x_call2_4, x_jsr, u_286_28, x_if_icmp_ne, u_286_40, x_ireturn, u_286_42, k_69_33, x_goto, u_286_55, k_69_30, x_ifCond_lt, x_iadd, u_286_81, u_286_82, k_69_34, u_286_96, k_69_31, u_286_110, u_286_111, ia_84, is_84, ia_85, is_85, ia_87, is_87, ia_88, is_88, m_shi, m_in, g3, g4, ↓reduceIte, b01_0, ite_not, if_true, if_false, Int.reduceLT, Int.reduceEq]
      rw [if_neg (by omega)]
    · unfold eSF at z
      unfold up
      (repeat' split) <;> first | rfl | (exfalso; omega)
    · refine ⟨fun k => ?_, ?_, ?_⟩ <;> (unfold up; (repeat' split) <;> first | rfl | (exfalso; omega))
theorem q_shelf2_2 (h : Rel I J) : pr X d I J 162 286 [.int (iI 2), .int (iI 1), .int (iI 2)] := by
  obtain ⟨h1, h2, h3, h4, -⟩ := h.2.2.2.2.1 2 (by decide)
  have h1 : -1 ≤ I 61 1 ∧ I 61 1 ≤ 4 := h1
  have h2 : 0 ≤ I 61 2 ∧ I 61 2 ≤ 40 := h2
  have h3 : I 84 2 = I 61 1 := h3
  have h4 : I 85 2 = I 61 2 := h4
  by_cases q : I 61 1 = -1
  · have g3 : up (up (up I 67 0 2) 67 2 (-1)) 67 3 (I 61 2) 84 2 = -1 := h3.trans q
    have g4 : up (up (up (up I 67 0 2) 67 2 (-1)) 67 3 (I 61 2)) 87 2 (-1) 85 2 = I 61 2 := h4
    refine ⟨1, up (up (up I 67 0 2) 67 2 (-1)) 67 3 (I 61 2), J, up (up (up (up (up I 67 0 2) 67 2 (-1)) 67 3 (I 61 2)) 87 2 (-1)) 88 2 (I 61 2), J, ?_, ?_, Rel_shelf h (fun o k _ z => ?_) (SF_ch (a := 2) h.2.2.2.2.2.1 (fun q hq hq2 => ?_) (Or.inr (Or.inr ⟨rfl, rfl⟩)))⟩
    · simp (disch := omega) only [v_162_0, u_162_0, x_iload1, x_sipush, x_call3_0, x_call3_1, x_call3_2, x_call3_3, x_call3_4, e_k_s, e_k_i, List.nil_append, List.cons_append, x_ifCond_ne, x_ifCond_neb, x_iload2, x_ifCond_eq, x_ifCond_eqb, x_jsr, u_162_18, x_ireturn, u_162_20, x_aload0, k_0_0, x_iload3, x_call2_0, x_call2_1, x_call2_2, x_call2_3, x_call2_4, u_162_37, x_if_icmp_ne, u_162_53, k_0_7, k_0_6, f_61_1, f_61_2, x_goto, u_162_88, u_162_99, aa_53_0, aa_53_1, aa_53_2, aa_53_3, aa_54_0, aa_54_1, aa_54_2, aa_54_3, v_65_65, v_65_66, v_65_67, v_65_68, u_65_0, u_65_10, u_65_11, p_67_0, p_67_2, p_67_3, x_return, b_in, q, Int.reduceNeg, ↓reduceIte, b01_0, ite_not, if_true, if_false, Int.reduceLT, Int.reduceEq]
    · simp (disch := omega) only [v_286_69, u_286_0, x_iload1, x_call1_0, x_call1_1, x_call1_2, x_call1_3, x_call1_4, e_k_s, e_k_i, List.nil_append, List.cons_append, x_ifCond_eq, x_ifCond_eqb, x_iload2, x_sipush, x_call3_0, x_call3_1, x_call3_2, x_call3_3, x_call3_4, x_ifCond_ne, x_ifCond_neb, x_aload0, x_iload3, x_call2_0, x_call2_1, x_call2_2, x_call2_3, x_call2_4, x_jsr, u_286_28, x_if_icmp_ne, u_286_40, x_ireturn, u_286_42, k_69_33, x_goto, u_286_55, k_69_30, x_ifCond_lt, x_iadd, u_286_81, u_286_82, k_69_34, u_286_96, k_69_31, u_286_110, u_286_111, ia_84, is_84, ia_85, is_85, ia_87, is_87, ia_88, is_88, m_shi, m_in, g3, g4, Int.reduceNeg, ↓reduceIte, b01_0, ite_not, if_true, if_false, Int.reduceLT, Int.reduceEq]
    · unfold eSF at z
      unfold up
      (repeat' split) <;> first | rfl | (exfalso; omega)
    · refine ⟨fun k => ?_, ?_, ?_⟩ <;> (unfold up; (repeat' split) <;> first | rfl | (exfalso; omega))
  · have g3 : up (up (up I 67 0 1) 67 2 (I 61 1)) 67 3 (I 61 2) 84 2 = I 61 1 := h3
    have g4 : up (up (up (up I 67 0 1) 67 2 (I 61 1)) 67 3 (I 61 2)) 87 2 (10 + I 61 1) 85 2 = I 61 2 := h4
    refine ⟨1, up (up (up I 67 0 1) 67 2 (I 61 1)) 67 3 (I 61 2), J, up (up (up (up (up I 67 0 1) 67 2 (I 61 1)) 67 3 (I 61 2)) 87 2 (10 + I 61 1)) 88 2 (I 61 2), J, ?_, ?_, Rel_shelf h (fun o k _ z => ?_) (SF_ch (a := 2) h.2.2.2.2.2.1 (fun q hq hq2 => ?_) (Or.inr (Or.inl ⟨rfl, ⟨by show 0 ≤ I 61 1; omega, h1.2⟩, rfl, rfl, h2.1, h2.2⟩)))⟩
    · simp (disch := omega) only [v_162_0, u_162_0, x_iload1, x_sipush, x_call3_0, x_call3_1, x_call3_2, x_call3_3, x_call3_4, e_k_s, e_k_i, List.nil_append, List.cons_append, x_ifCond_ne, x_ifCond_neb, x_iload2, x_ifCond_eq, x_ifCond_eqb, x_jsr, u_162_18, x_ireturn, u_162_20, x_aload0, k_0_0, x_iload3, x_call2_0, x_call2_1, x_call2_2, x_call2_3, x_call2_4, u_162_37, x_if_icmp_ne, u_162_53, k_0_7, k_0_6, f_61_1, f_61_2, x_goto, u_162_88, u_162_99, aa_53_0, aa_53_1, aa_53_2, aa_53_3, aa_54_0, aa_54_1, aa_54_2, aa_54_3, v_65_65, v_65_66, v_65_67, v_65_68, u_65_0, u_65_10, u_65_11, p_67_0, p_67_2, p_67_3, x_return, b_in, ↓reduceIte, b01_0, ite_not, if_true, if_false, Int.reduceLT, Int.reduceEq]
      (repeat' split) <;> first | rfl | (exfalso; omega)
    · simp (disch := omega) only [v_286_69, u_286_0, x_iload1, x_call1_0, x_call1_1, x_call1_2, x_call1_3, x_call1_4, e_k_s, e_k_i, List.nil_append, List.cons_append, x_ifCond_eq, x_ifCond_eqb, x_iload2, x_sipush, x_call3_0, x_call3_1, x_call3_2, x_call3_3, x_call3_4, x_ifCond_ne, x_ifCond_neb, x_aload0, x_iload3, x_call2_0, x_call2_1, x_call2_2, x_call2_3, x_call2_4, x_jsr, u_286_28, x_if_icmp_ne, u_286_40, x_ireturn, u_286_42, k_69_33, x_goto, u_286_55, k_69_30, x_ifCond_lt, x_iadd, u_286_81, u_286_82, k_69_34, u_286_96, k_69_31, u_286_110, u_286_111, ia_84, is_84, ia_85, is_85, ia_87, is_87, ia_88, is_88, m_shi, m_in, g3, g4, ↓reduceIte, b01_0, ite_not, if_true, if_false, Int.reduceLT, Int.reduceEq]
      rw [if_neg (by omega)]
    · unfold eSF at z
      unfold up
      (repeat' split) <;> first | rfl | (exfalso; omega)
    · refine ⟨fun k => ?_, ?_, ?_⟩ <;> (unfold up; (repeat' split) <;> first | rfl | (exfalso; omega))
theorem q_shelf2_3 (h : Rel I J) : pr X d I J 162 286 [.int (iI 2), .int (iI 1), .int (iI 3)] := by
  obtain ⟨h1, h2, h3, h4, -⟩ := h.2.2.2.2.1 3 (by decide)
  have h1 : -1 ≤ I 63 1 ∧ I 63 1 ≤ 4 := h1
  have h2 : 0 ≤ I 63 2 ∧ I 63 2 ≤ 40 := h2
  have h3 : I 84 3 = I 63 1 := h3
  have h4 : I 85 3 = I 63 2 := h4
  by_cases q : I 63 1 = -1
  · have g3 : up (up (up I 67 0 2) 67 2 (-1)) 67 3 (I 63 2) 84 3 = -1 := h3.trans q
    have g4 : up (up (up (up I 67 0 2) 67 2 (-1)) 67 3 (I 63 2)) 87 2 (-1) 85 3 = I 63 2 := h4
    refine ⟨1, up (up (up I 67 0 2) 67 2 (-1)) 67 3 (I 63 2), J, up (up (up (up (up I 67 0 2) 67 2 (-1)) 67 3 (I 63 2)) 87 2 (-1)) 88 2 (I 63 2), J, ?_, ?_, Rel_shelf h (fun o k _ z => ?_) (SF_ch (a := 2) h.2.2.2.2.2.1 (fun q hq hq2 => ?_) (Or.inr (Or.inr ⟨rfl, rfl⟩)))⟩
    · simp (disch := omega) only [v_162_0, u_162_0, x_iload1, x_sipush, x_call3_0, x_call3_1, x_call3_2, x_call3_3, x_call3_4, e_k_s, e_k_i, List.nil_append, List.cons_append, x_ifCond_ne, x_ifCond_neb, x_iload2, x_ifCond_eq, x_ifCond_eqb, x_jsr, u_162_18, x_ireturn, u_162_20, x_aload0, k_0_0, x_iload3, x_call2_0, x_call2_1, x_call2_2, x_call2_3, x_call2_4, u_162_37, x_if_icmp_ne, u_162_53, k_0_7, k_0_6, f_63_1, f_63_2, x_goto, u_162_88, u_162_99, aa_53_0, aa_53_1, aa_53_2, aa_53_3, aa_54_0, aa_54_1, aa_54_2, aa_54_3, v_65_65, v_65_66, v_65_67, v_65_68, u_65_0, u_65_10, u_65_11, p_67_0, p_67_2, p_67_3, x_return, b_in, q, Int.reduceNeg, ↓reduceIte, b01_0, ite_not, if_true, if_false, Int.reduceLT, Int.reduceEq]
    · simp (disch := omega) only [v_286_69, u_286_0, x_iload1, x_call1_0, x_call1_1, x_call1_2, x_call1_3, x_call1_4, e_k_s, e_k_i, List.nil_append, List.cons_append, x_ifCond_eq, x_ifCond_eqb, x_iload2, x_sipush, x_call3_0, x_call3_1, x_call3_2, x_call3_3, x_call3_4, x_ifCond_ne, x_ifCond_neb, x_aload0, x_iload3, x_call2_0, x_call2_1, x_call2_2, x_call2_3, x_call2_4, x_jsr, u_286_28, x_if_icmp_ne, u_286_40, x_ireturn, u_286_42, k_69_33, x_goto, u_286_55, k_69_30, x_ifCond_lt, x_iadd, u_286_81, u_286_82, k_69_34, u_286_96, k_69_31, u_286_110, u_286_111, ia_84, is_84, ia_85, is_85, ia_87, is_87, ia_88, is_88, m_shi, m_in, g3, g4, Int.reduceNeg, ↓reduceIte, b01_0, ite_not, if_true, if_false, Int.reduceLT, Int.reduceEq]
    · unfold eSF at z
      unfold up
      (repeat' split) <;> first | rfl | (exfalso; omega)
    · refine ⟨fun k => ?_, ?_, ?_⟩ <;> (unfold up; (repeat' split) <;> first | rfl | (exfalso; omega))
  · have g3 : up (up (up I 67 0 1) 67 2 (I 63 1)) 67 3 (I 63 2) 84 3 = I 63 1 := h3
    have g4 : up (up (up (up I 67 0 1) 67 2 (I 63 1)) 67 3 (I 63 2)) 87 2 (10 + I 63 1) 85 3 = I 63 2 := h4
    refine ⟨1, up (up (up I 67 0 1) 67 2 (I 63 1)) 67 3 (I 63 2), J, up (up (up (up (up I 67 0 1) 67 2 (I 63 1)) 67 3 (I 63 2)) 87 2 (10 + I 63 1)) 88 2 (I 63 2), J, ?_, ?_, Rel_shelf h (fun o k _ z => ?_) (SF_ch (a := 2) h.2.2.2.2.2.1 (fun q hq hq2 => ?_) (Or.inr (Or.inl ⟨rfl, ⟨by show 0 ≤ I 63 1; omega, h1.2⟩, rfl, rfl, h2.1, h2.2⟩)))⟩
    · simp (disch := omega) only [v_162_0, u_162_0, x_iload1, x_sipush, x_call3_0, x_call3_1, x_call3_2, x_call3_3, x_call3_4, e_k_s, e_k_i, List.nil_append, List.cons_append, x_ifCond_ne, x_ifCond_neb, x_iload2, x_ifCond_eq, x_ifCond_eqb, x_jsr, u_162_18, x_ireturn, u_162_20, x_aload0, k_0_0, x_iload3, x_call2_0, x_call2_1, x_call2_2, x_call2_3, x_call2_4, u_162_37, x_if_icmp_ne, u_162_53, k_0_7, k_0_6, f_63_1, f_63_2, x_goto, u_162_88, u_162_99, aa_53_0, aa_53_1, aa_53_2, aa_53_3, aa_54_0, aa_54_1, aa_54_2, aa_54_3, v_65_65, v_65_66, v_65_67, v_65_68, u_65_0, u_65_10, u_65_11, p_67_0, p_67_2, p_67_3, x_return, b_in, ↓reduceIte, b01_0, ite_not, if_true, if_false, Int.reduceLT, Int.reduceEq]
      (repeat' split) <;> first | rfl | (exfalso; omega)
    · simp (disch := omega) only [v_286_69, u_286_0, x_iload1, x_call1_0, x_call1_1, x_call1_2, x_call1_3, x_call1_4, e_k_s, e_k_i, List.nil_append, List.cons_append, x_ifCond_eq, x_ifCond_eqb, x_iload2, x_sipush, x_call3_0, x_call3_1, x_call3_2, x_call3_3, x_call3_4, x_ifCond_ne, x_ifCond_neb, x_aload0, x_iload3, x_call2_0, x_call2_1, x_call2_2, x_call2_3, x_call2_4, x_jsr, u_286_28, x_if_icmp_ne, u_286_40, x_ireturn, u_286_42, k_69_33, x_goto, u_286_55, k_69_30, x_ifCond_lt, x_iadd, u_286_81, u_286_82, k_69_34, u_286_96, k_69_31, u_286_110, u_286_111, ia_84, is_84, ia_85, is_85, ia_87, is_87, ia_88, is_88, m_shi, m_in, g3, g4, ↓reduceIte, b01_0, ite_not, if_true, if_false, Int.reduceLT, Int.reduceEq]
      rw [if_neg (by omega)]
    · unfold eSF at z
      unfold up
      (repeat' split) <;> first | rfl | (exfalso; omega)
    · refine ⟨fun k => ?_, ?_, ?_⟩ <;> (unfold up; (repeat' split) <;> first | rfl | (exfalso; omega))
theorem q_shelf2 (h : Rel I J) {b c : Int} (hb : rg b) (hc : rg c) : pr X d I J 162 286 [.int (iI 2), .int (iI b), .int (iI c)] := by
  have hn6 := h.1.1.1
  have e6 := h.1.2.2.2.1.2.1
  by_cases q0 : 0 ≤ b ∧ b ≤ 2
  · rcases (by omega : b = 0 ∨ b = 1 ∨ b = 2) with rfl | rfl | rfl
    · by_cases q1 : 0 ≤ c ∧ c < I 1 9
      · exact q_shelfp2 h q1
      · have e2 := m_isp (X := X) (d := d + 27) (I := I) (J := J) (k := c) (n := I 1 9) e6 ⟨hc, hn6⟩
        rw [if_neg q1] at e2
        refine ⟨-1, I, J, I, J, ?_, ?_, h⟩
        · simp (disch := omega) only [v_162_0, u_162_0, x_iload1, x_sipush, x_call3_0, x_call3_1, x_call3_2, x_call3_3, x_call3_4, e_k_s, e_k_i, List.nil_append, List.cons_append, x_ifCond_ne, x_ifCond_neb, x_iload2, x_ifCond_eq, x_ifCond_eqb, x_jsr, u_162_18, x_ireturn, u_162_20, x_aload0, k_0_0, x_iload3, x_call2_0, x_call2_1, x_call2_2, x_call2_3, x_call2_4, u_162_37, x_if_icmp_ne, u_162_53, k_0_7, k_0_6, x_goto, u_162_88, u_162_99, aa_53_0, aa_53_1, aa_53_2, aa_53_3, aa_54_0, aa_54_1, aa_54_2, aa_54_3, b_in, t_nin, ↓reduceIte, b01_0, ite_not, if_true, if_false, Int.reduceLT, Int.reduceEq]
        · simp (disch := omega) only [v_286_69, u_286_0, x_iload1, x_call1_0, x_call1_1, x_call1_2, x_call1_3, x_call1_4, e_k_s, e_k_i, List.nil_append, List.cons_append, x_ifCond_eq, x_ifCond_eqb, x_iload2, x_sipush, x_call3_0, x_call3_1, x_call3_2, x_call3_3, x_call3_4, x_ifCond_ne, x_ifCond_neb, x_aload0, x_iload3, x_call2_0, x_call2_1, x_call2_2, x_call2_3, x_call2_4, x_jsr, u_286_28, x_if_icmp_ne, u_286_40, x_ireturn, u_286_42, k_69_33, x_goto, u_286_55, k_69_30, x_ifCond_lt, x_iadd, u_286_81, u_286_82, k_69_34, u_286_96, k_69_31, u_286_110, u_286_111, ia_84, is_84, ia_85, is_85, ia_87, is_87, ia_88, is_88, m_shi, m_in, e2, ↓reduceIte, b01_0, ite_not, if_true, if_false, Int.reduceLT, Int.reduceEq]
    · by_cases q1 : 0 ≤ c ∧ c ≤ 3
      · rcases (by omega : c = 0 ∨ c = 1 ∨ c = 2 ∨ c = 3) with rfl | rfl | rfl | rfl
        · exact q_shelf2_0 h
        · exact q_shelf2_1 h
        · exact q_shelf2_2 h
        · exact q_shelf2_3 h
      · have e2 := m_shk (X := X) (d := d + 27) (I := I) (J := J) hc
        rw [if_neg q1] at e2
        refine ⟨-1, I, J, I, J, ?_, ?_, h⟩
        · simp (disch := omega) only [v_162_0, u_162_0, x_iload1, x_sipush, x_call3_0, x_call3_1, x_call3_2, x_call3_3, x_call3_4, e_k_s, e_k_i, List.nil_append, List.cons_append, x_ifCond_ne, x_ifCond_neb, x_iload2, x_ifCond_eq, x_ifCond_eqb, x_jsr, u_162_18, x_ireturn, u_162_20, x_aload0, k_0_0, x_iload3, x_call2_0, x_call2_1, x_call2_2, x_call2_3, x_call2_4, u_162_37, x_if_icmp_ne, u_162_53, k_0_7, k_0_6, x_goto, u_162_88, u_162_99, aa_53_0, aa_53_1, aa_53_2, aa_53_3, aa_54_0, aa_54_1, aa_54_2, aa_54_3, b_in, b_nin, ↓reduceIte, b01_0, ite_not, if_true, if_false, Int.reduceLT, Int.reduceEq]
        · simp (disch := omega) only [v_286_69, u_286_0, x_iload1, x_call1_0, x_call1_1, x_call1_2, x_call1_3, x_call1_4, e_k_s, e_k_i, List.nil_append, List.cons_append, x_ifCond_eq, x_ifCond_eqb, x_iload2, x_sipush, x_call3_0, x_call3_1, x_call3_2, x_call3_3, x_call3_4, x_ifCond_ne, x_ifCond_neb, x_aload0, x_iload3, x_call2_0, x_call2_1, x_call2_2, x_call2_3, x_call2_4, x_jsr, u_286_28, x_if_icmp_ne, u_286_40, x_ireturn, u_286_42, k_69_33, x_goto, u_286_55, k_69_30, x_ifCond_lt, x_iadd, u_286_81, u_286_82, k_69_34, u_286_96, k_69_31, u_286_110, u_286_111, ia_84, is_84, ia_85, is_85, ia_87, is_87, ia_88, is_88, m_shi, m_in, e2, ↓reduceIte, b01_0, ite_not, if_true, if_false, Int.reduceLT, Int.reduceEq]
    · exact q_shelfn2 h hc
  · refine ⟨-1, I, J, I, J, ?_, ?_, h⟩
    · simp (disch := omega) only [v_162_0, u_162_0, x_iload1, x_sipush, x_call3_0, x_call3_1, x_call3_2, x_call3_3, x_call3_4, e_k_s, e_k_i, List.nil_append, List.cons_append, x_ifCond_ne, x_ifCond_neb, x_iload2, x_ifCond_eq, x_ifCond_eqb, x_jsr, u_162_18, x_ireturn, u_162_20, x_aload0, k_0_0, x_iload3, x_call2_0, x_call2_1, x_call2_2, x_call2_3, x_call2_4, u_162_37, x_if_icmp_ne, u_162_53, k_0_7, k_0_6, x_goto, u_162_88, u_162_99, aa_53_0, aa_53_1, aa_53_2, aa_53_3, aa_54_0, aa_54_1, aa_54_2, aa_54_3, b_in, b_nin, ↓reduceIte, b01_0, ite_not, if_true, if_false, Int.reduceLT, Int.reduceEq]
    · simp (disch := omega) only [v_286_69, u_286_0, x_iload1, x_call1_0, x_call1_1, x_call1_2, x_call1_3, x_call1_4, e_k_s, e_k_i, List.nil_append, List.cons_append, x_ifCond_eq, x_ifCond_eqb, x_iload2, x_sipush, x_call3_0, x_call3_1, x_call3_2, x_call3_3, x_call3_4, x_ifCond_ne, x_ifCond_neb, x_aload0, x_iload3, x_call2_0, x_call2_1, x_call2_2, x_call2_3, x_call2_4, x_jsr, u_286_28, x_if_icmp_ne, u_286_40, x_ireturn, u_286_42, k_69_33, x_goto, u_286_55, k_69_30, x_ifCond_lt, x_iadd, u_286_81, u_286_82, k_69_34, u_286_96, k_69_31, u_286_110, u_286_111, ia_84, is_84, ia_85, is_85, ia_87, is_87, ia_88, is_88, m_shi, m_nin, ↓reduceIte, b01_0, ite_not, if_true, if_false, Int.reduceLT, Int.reduceEq]
theorem q_shelfp3 (h : Rel I J) {c : Int} (hc : 0 ≤ c ∧ c < I 1 9) : pr X d I J 162 286 [.int (iI 3), .int (iI 0), .int (iI c)] := by
  have hn6 := h.1.1.1
  have e6 := h.1.2.2.2.1.2.1
  have e2 := m_isp (X := X) (d := d + 27) (I := up (up I 68 0 0) 68 1 c) (J := J) (k := c) (n := I 1 9) e6 ⟨by constructor <;> omega, hn6⟩
  rw [if_pos hc] at e2
  refine ⟨1, up (up I 68 0 0) 68 1 c, J, up (up (up (up I 68 0 0) 68 1 c) 87 3 0) 88 3 c, J, ?_, ?_, Rel_shelf h (fun o k _ z => ?_) (SF_ch (a := 3) h.2.2.2.2.2.1 (fun q hq hq2 => ?_) (Or.inl ⟨rfl, rfl, rfl, hc.1, by show c ≤ 5; omega⟩))⟩
  · simp (disch := omega) only [v_162_0, u_162_0, x_iload1, x_sipush, x_call3_0, x_call3_1, x_call3_2, x_call3_3, x_call3_4, e_k_s, e_k_i, List.nil_append, List.cons_append, x_ifCond_ne, x_ifCond_neb, x_iload2, x_ifCond_eq, x_ifCond_eqb, x_jsr, u_162_18, x_ireturn, u_162_20, x_aload0, k_0_0, x_iload3, x_call2_0, x_call2_1, x_call2_2, x_call2_3, x_call2_4, u_162_37, x_if_icmp_ne, u_162_53, k_0_7, k_0_6, x_goto, u_162_88, u_162_99, aa_53_0, aa_53_1, aa_53_2, aa_53_3, aa_54_0, aa_54_1, aa_54_2, aa_54_3, v_66_65, v_66_66, v_66_67, v_66_68, u_66_0, p_68_0, p_68_1, x_return, b_in, t_in, ↓reduceIte, b01_0, ite_not, if_true, if_false, Int.reduceLT, Int.reduceEq]
  · simp (disch := omega) only [v_286_69, u_286_0, x_iload1, x_call1_0, x_call1_1, x_call1_2, x_call1_3, x_call1_4, e_k_s, e_k_i, List.nil_append, List.cons_append, x_ifCond_eq, x_ifCond_eqb, x_iload2, x_sipush, x_call3_0, x_call3_1, x_call3_2, x_call3_3, x_call3_4, x_ifCond_ne, x_ifCond_neb, x_aload0, x_iload3, x_call2_0, x_call2_1, x_call2_2, x_call2_3, x_call2_4, x_jsr, u_286_28, x_if_icmp_ne, u_286_40, x_ireturn, u_286_42, k_69_33, x_goto, u_286_55, k_69_30, x_ifCond_lt, x_iadd, u_286_81, u_286_82, k_69_34, u_286_96, k_69_31, u_286_110, u_286_111, ia_84, is_84, ia_85, is_85, ia_87, is_87, ia_88, is_88, m_shi, m_in, e2, ↓reduceIte, b01_0, ite_not, if_true, if_false, Int.reduceLT, Int.reduceEq]
  · unfold eSF at z
    unfold up
    (repeat' split) <;> first | rfl | (exfalso; omega)
  · refine ⟨fun k => ?_, ?_, ?_⟩ <;> (unfold up; (repeat' split) <;> first | rfl | (exfalso; omega))
theorem q_shelfn3 (h : Rel I J) {c : Int} (hc : rg c) : pr X d I J 162 286 [.int (iI 3), .int (iI 2), .int (iI c)] := by
  refine ⟨1, up (up I 68 0 2) 68 1 c, J, up (up (up (up I 68 0 2) 68 1 c) 87 3 (-1)) 88 3 0, J, ?_, ?_, Rel_shelf h (fun o k _ z => ?_) (SF_ch (a := 3) h.2.2.2.2.2.1 (fun q hq hq2 => ?_) (Or.inr (Or.inr ⟨rfl, rfl⟩)))⟩
  · simp (disch := omega) only [v_162_0, u_162_0, x_iload1, x_sipush, x_call3_0, x_call3_1, x_call3_2, x_call3_3, x_call3_4, e_k_s, e_k_i, List.nil_append, List.cons_append, x_ifCond_ne, x_ifCond_neb, x_iload2, x_ifCond_eq, x_ifCond_eqb, x_jsr, u_162_18, x_ireturn, u_162_20, x_aload0, k_0_0, x_iload3, x_call2_0, x_call2_1, x_call2_2, x_call2_3, x_call2_4, u_162_37, x_if_icmp_ne, u_162_53, k_0_7, k_0_6, x_goto, u_162_88, u_162_99, aa_53_0, aa_53_1, aa_53_2, aa_53_3, aa_54_0, aa_54_1, aa_54_2, aa_54_3, v_66_65, v_66_66, v_66_67, v_66_68, u_66_0, p_68_0, p_68_1, x_return, b_in, ↓reduceIte, b01_0, ite_not, if_true, if_false, Int.reduceLT, Int.reduceEq]
  · simp (disch := omega) only [v_286_69, u_286_0, x_iload1, x_call1_0, x_call1_1, x_call1_2, x_call1_3, x_call1_4, e_k_s, e_k_i, List.nil_append, List.cons_append, x_ifCond_eq, x_ifCond_eqb, x_iload2, x_sipush, x_call3_0, x_call3_1, x_call3_2, x_call3_3, x_call3_4, x_ifCond_ne, x_ifCond_neb, x_aload0, x_iload3, x_call2_0, x_call2_1, x_call2_2, x_call2_3, x_call2_4, x_jsr, u_286_28, x_if_icmp_ne, u_286_40, x_ireturn, u_286_42, k_69_33, x_goto, u_286_55, k_69_30, x_ifCond_lt, x_iadd, u_286_81, u_286_82, k_69_34, u_286_96, k_69_31, u_286_110, u_286_111, ia_84, is_84, ia_85, is_85, ia_87, is_87, ia_88, is_88, m_shi, m_in, Int.reduceNeg, ↓reduceIte, b01_0, ite_not, if_true, if_false, Int.reduceLT, Int.reduceEq]
  · unfold eSF at z
    unfold up
    (repeat' split) <;> first | rfl | (exfalso; omega)
  · refine ⟨fun k => ?_, ?_, ?_⟩ <;> (unfold up; (repeat' split) <;> first | rfl | (exfalso; omega))
theorem q_shelf3_0 (h : Rel I J) : pr X d I J 162 286 [.int (iI 3), .int (iI 1), .int (iI 0)] := by
  obtain ⟨h1, h2, h3, h4, -⟩ := h.2.2.2.2.1 0 (by decide)
  have h1 : -1 ≤ I 57 1 ∧ I 57 1 ≤ 4 := h1
  have h2 : 0 ≤ I 57 2 ∧ I 57 2 ≤ 40 := h2
  have h3 : I 84 0 = I 57 1 := h3
  have h4 : I 85 0 = I 57 2 := h4
  by_cases q : I 57 1 = -1
  · have g3 : up (up (up I 68 0 2) 68 2 (-1)) 68 3 (I 57 2) 84 0 = -1 := h3.trans q
    have g4 : up (up (up (up I 68 0 2) 68 2 (-1)) 68 3 (I 57 2)) 87 3 (-1) 85 0 = I 57 2 := h4
    refine ⟨1, up (up (up I 68 0 2) 68 2 (-1)) 68 3 (I 57 2), J, up (up (up (up (up I 68 0 2) 68 2 (-1)) 68 3 (I 57 2)) 87 3 (-1)) 88 3 (I 57 2), J, ?_, ?_, Rel_shelf h (fun o k _ z => ?_) (SF_ch (a := 3) h.2.2.2.2.2.1 (fun q hq hq2 => ?_) (Or.inr (Or.inr ⟨rfl, rfl⟩)))⟩
    · simp (disch := omega) only [v_162_0, u_162_0, x_iload1, x_sipush, x_call3_0, x_call3_1, x_call3_2, x_call3_3, x_call3_4, e_k_s, e_k_i, List.nil_append, List.cons_append, x_ifCond_ne, x_ifCond_neb, x_iload2, x_ifCond_eq, x_ifCond_eqb, x_jsr, u_162_18, x_ireturn, u_162_20, x_aload0, k_0_0, x_iload3, x_call2_0, x_call2_1, x_call2_2, x_call2_3, x_call2_4, u_162_37, x_if_icmp_ne, u_162_53, k_0_7, k_0_6, f_57_1, f_57_2, x_goto, u_162_88, u_162_99, aa_53_0, aa_53_1, aa_53_2, aa_53_3, aa_54_0, aa_54_1, aa_54_2, aa_54_3, v_65_65, v_65_66, v_65_67, v_65_68, u_65_0, u_65_10, u_65_11, p_68_0, p_68_2, p_68_3, x_return, b_in, q, Int.reduceNeg, ↓reduceIte, b01_0, ite_not, if_true, if_false, Int.reduceLT, Int.reduceEq]
    · simp (disch := omega) only [v_286_69, u_286_0, x_iload1, x_call1_0, x_call1_1, x_call1_2, x_call1_3, x_call1_4, e_k_s, e_k_i, List.nil_append, List.cons_append, x_ifCond_eq, x_ifCond_eqb, x_iload2, x_sipush, x_call3_0, x_call3_1, x_call3_2, x_call3_3, x_call3_4, x_ifCond_ne, x_ifCond_neb, x_aload0, x_iload3, x_call2_0, x_call2_1, x_call2_2, x_call2_3, x_call2_4, x_jsr, u_286_28, x_if_icmp_ne, u_286_40, x_ireturn, u_286_42, k_69_33, x_goto, u_286_55, k_69_30, x_ifCond_lt, x_iadd, u_286_81, u_286_82, k_69_34, u_286_96, k_69_31, u_286_110, u_286_111, ia_84, is_84, ia_85, is_85, ia_87, is_87, ia_88, is_88, m_shi, m_in, g3, g4, Int.reduceNeg, ↓reduceIte, b01_0, ite_not, if_true, if_false, Int.reduceLT, Int.reduceEq]
    · unfold eSF at z
      unfold up
      (repeat' split) <;> first | rfl | (exfalso; omega)
    · refine ⟨fun k => ?_, ?_, ?_⟩ <;> (unfold up; (repeat' split) <;> first | rfl | (exfalso; omega))
  · have g3 : up (up (up I 68 0 1) 68 2 (I 57 1)) 68 3 (I 57 2) 84 0 = I 57 1 := h3
    have g4 : up (up (up (up I 68 0 1) 68 2 (I 57 1)) 68 3 (I 57 2)) 87 3 (10 + I 57 1) 85 0 = I 57 2 := h4
    refine ⟨1, up (up (up I 68 0 1) 68 2 (I 57 1)) 68 3 (I 57 2), J, up (up (up (up (up I 68 0 1) 68 2 (I 57 1)) 68 3 (I 57 2)) 87 3 (10 + I 57 1)) 88 3 (I 57 2), J, ?_, ?_, Rel_shelf h (fun o k _ z => ?_) (SF_ch (a := 3) h.2.2.2.2.2.1 (fun q hq hq2 => ?_) (Or.inr (Or.inl ⟨rfl, ⟨by show 0 ≤ I 57 1; omega, h1.2⟩, rfl, rfl, h2.1, h2.2⟩)))⟩
    · simp (disch := omega) only [v_162_0, u_162_0, x_iload1, x_sipush, x_call3_0, x_call3_1, x_call3_2, x_call3_3, x_call3_4, e_k_s, e_k_i, List.nil_append, List.cons_append, x_ifCond_ne, x_ifCond_neb, x_iload2, x_ifCond_eq, x_ifCond_eqb, x_jsr, u_162_18, x_ireturn, u_162_20, x_aload0, k_0_0, x_iload3, x_call2_0, x_call2_1, x_call2_2, x_call2_3, x_call2_4, u_162_37, x_if_icmp_ne, u_162_53, k_0_7, k_0_6, f_57_1, f_57_2, x_goto, u_162_88, u_162_99, aa_53_0, aa_53_1, aa_53_2, aa_53_3, aa_54_0, aa_54_1, aa_54_2, aa_54_3, v_65_65, v_65_66, v_65_67, v_65_68, u_65_0, u_65_10, u_65_11, p_68_0, p_68_2, p_68_3, x_return, b_in, ↓reduceIte, b01_0, ite_not, if_true, if_false, Int.reduceLT, Int.reduceEq]
      (repeat' split) <;> first | rfl | (exfalso; omega)
    · simp (disch := omega) only [v_286_69, u_286_0, x_iload1, x_call1_0, x_call1_1, x_call1_2, x_call1_3, x_call1_4, e_k_s, e_k_i, List.nil_append, List.cons_append, x_ifCond_eq, x_ifCond_eqb, x_iload2, x_sipush, x_call3_0, x_call3_1, x_call3_2, x_call3_3, x_call3_4, x_ifCond_ne, x_ifCond_neb, x_aload0, x_iload3, x_call2_0, x_call2_1, x_call2_2, x_call2_3, x_call2_4, x_jsr, u_286_28, x_if_icmp_ne, u_286_40, x_ireturn, u_286_42, k_69_33, x_goto, u_286_55, k_69_30, x_ifCond_lt, x_iadd, u_286_81, u_286_82, k_69_34, u_286_96, k_69_31, u_286_110, u_286_111, ia_84, is_84, ia_85, is_85, ia_87, is_87, ia_88, is_88, m_shi, m_in, g3, g4, ↓reduceIte, b01_0, ite_not, if_true, if_false, Int.reduceLT, Int.reduceEq]
      rw [if_neg (by omega)]
    · unfold eSF at z
      unfold up
      (repeat' split) <;> first | rfl | (exfalso; omega)
    · refine ⟨fun k => ?_, ?_, ?_⟩ <;> (unfold up; (repeat' split) <;> first | rfl | (exfalso; omega))
theorem q_shelf3_1 (h : Rel I J) : pr X d I J 162 286 [.int (iI 3), .int (iI 1), .int (iI 1)] := by
  obtain ⟨h1, h2, h3, h4, -⟩ := h.2.2.2.2.1 1 (by decide)
  have h1 : -1 ≤ I 59 1 ∧ I 59 1 ≤ 4 := h1
  have h2 : 0 ≤ I 59 2 ∧ I 59 2 ≤ 40 := h2
  have h3 : I 84 1 = I 59 1 := h3
  have h4 : I 85 1 = I 59 2 := h4
  by_cases q : I 59 1 = -1
  · have g3 : up (up (up I 68 0 2) 68 2 (-1)) 68 3 (I 59 2) 84 1 = -1 := h3.trans q
    have g4 : up (up (up (up I 68 0 2) 68 2 (-1)) 68 3 (I 59 2)) 87 3 (-1) 85 1 = I 59 2 := h4
    refine ⟨1, up (up (up I 68 0 2) 68 2 (-1)) 68 3 (I 59 2), J, up (up (up (up (up I 68 0 2) 68 2 (-1)) 68 3 (I 59 2)) 87 3 (-1)) 88 3 (I 59 2), J, ?_, ?_, Rel_shelf h (fun o k _ z => ?_) (SF_ch (a := 3) h.2.2.2.2.2.1 (fun q hq hq2 => ?_) (Or.inr (Or.inr ⟨rfl, rfl⟩)))⟩
    · simp (disch := omega) only [v_162_0, u_162_0, x_iload1, x_sipush, x_call3_0, x_call3_1, x_call3_2, x_call3_3, x_call3_4, e_k_s, e_k_i, List.nil_append, List.cons_append, x_ifCond_ne, x_ifCond_neb, x_iload2, x_ifCond_eq, x_ifCond_eqb, x_jsr, u_162_18, x_ireturn, u_162_20, x_aload0, k_0_0, x_iload3, x_call2_0, x_call2_1, x_call2_2, x_call2_3, x_call2_4, u_162_37, x_if_icmp_ne, u_162_53, k_0_7, k_0_6, f_59_1, f_59_2, x_goto, u_162_88, u_162_99, aa_53_0, aa_53_1, aa_53_2, aa_53_3, aa_54_0, aa_54_1, aa_54_2, aa_54_3, v_65_65, v_65_66, v_65_67, v_65_68, u_65_0, u_65_10, u_65_11, p_68_0, p_68_2, p_68_3, x_return, b_in, q, Int.reduceNeg, ↓reduceIte, b01_0, ite_not, if_true, if_false, Int.reduceLT, Int.reduceEq]
    · simp (disch := omega) only [v_286_69, u_286_0, x_iload1, x_call1_0, x_call1_1, x_call1_2, x_call1_3, x_call1_4, e_k_s, e_k_i, List.nil_append, List.cons_append, x_ifCond_eq, x_ifCond_eqb, x_iload2, x_sipush, x_call3_0, x_call3_1, x_call3_2, x_call3_3, x_call3_4, x_ifCond_ne, x_ifCond_neb, x_aload0, x_iload3, x_call2_0, x_call2_1, x_call2_2, x_call2_3, x_call2_4, x_jsr, u_286_28, x_if_icmp_ne, u_286_40, x_ireturn, u_286_42, k_69_33, x_goto, u_286_55, k_69_30, x_ifCond_lt, x_iadd, u_286_81, u_286_82, k_69_34, u_286_96, k_69_31, u_286_110, u_286_111, ia_84, is_84, ia_85, is_85, ia_87, is_87, ia_88, is_88, m_shi, m_in, g3, g4, Int.reduceNeg, ↓reduceIte, b01_0, ite_not, if_true, if_false, Int.reduceLT, Int.reduceEq]
    · unfold eSF at z
      unfold up
      (repeat' split) <;> first | rfl | (exfalso; omega)
    · refine ⟨fun k => ?_, ?_, ?_⟩ <;> (unfold up; (repeat' split) <;> first | rfl | (exfalso; omega))
  · have g3 : up (up (up I 68 0 1) 68 2 (I 59 1)) 68 3 (I 59 2) 84 1 = I 59 1 := h3
    have g4 : up (up (up (up I 68 0 1) 68 2 (I 59 1)) 68 3 (I 59 2)) 87 3 (10 + I 59 1) 85 1 = I 59 2 := h4
    refine ⟨1, up (up (up I 68 0 1) 68 2 (I 59 1)) 68 3 (I 59 2), J, up (up (up (up (up I 68 0 1) 68 2 (I 59 1)) 68 3 (I 59 2)) 87 3 (10 + I 59 1)) 88 3 (I 59 2), J, ?_, ?_, Rel_shelf h (fun o k _ z => ?_) (SF_ch (a := 3) h.2.2.2.2.2.1 (fun q hq hq2 => ?_) (Or.inr (Or.inl ⟨rfl, ⟨by show 0 ≤ I 59 1; omega, h1.2⟩, rfl, rfl, h2.1, h2.2⟩)))⟩
    · simp (disch := omega) only [v_162_0, u_162_0, x_iload1, x_sipush, x_call3_0, x_call3_1, x_call3_2, x_call3_3, x_call3_4, e_k_s, e_k_i, List.nil_append, List.cons_append, x_ifCond_ne, x_ifCond_neb, x_iload2, x_ifCond_eq, x_ifCond_eqb, x_jsr, u_162_18, x_ireturn, u_162_20, x_aload0, k_0_0, x_iload3, x_call2_0, x_call2_1, x_call2_2, x_call2_3, x_call2_4, u_162_37, x_if_icmp_ne, u_162_53, k_0_7, k_0_6, f_59_1, f_59_2, x_goto, u_162_88, u_162_99, aa_53_0, aa_53_1, aa_53_2, aa_53_3, aa_54_0, aa_54_1, aa_54_2, aa_54_3, v_65_65, v_65_66, v_65_67, v_65_68, u_65_0, u_65_10, u_65_11, p_68_0, p_68_2, p_68_3, x_return, b_in, ↓reduceIte, b01_0, ite_not, if_true, if_false, Int.reduceLT, Int.reduceEq]
      (repeat' split) <;> first | rfl | (exfalso; omega)
    · simp (disch := omega) only [v_286_69, u_286_0, x_iload1, x_call1_0, x_call1_1, x_call1_2, x_call1_3, x_call1_4, e_k_s, e_k_i, List.nil_append, List.cons_append, x_ifCond_eq, x_ifCond_eqb, x_iload2, x_sipush, x_call3_0, x_call3_1, x_call3_2, x_call3_3, x_call3_4, x_ifCond_ne, x_ifCond_neb, x_aload0, x_iload3, x_call2_0, x_call2_1, x_call2_2, x_call2_3, x_call2_4, x_jsr, u_286_28, x_if_icmp_ne, u_286_40, x_ireturn, u_286_42, k_69_33, x_goto, u_286_55, k_69_30, x_ifCond_lt, x_iadd, u_286_81, u_286_82, k_69_34, u_286_96, k_69_31, u_286_110, u_286_111, ia_84, is_84, ia_85, is_85, ia_87, is_87, ia_88, is_88, m_shi, m_in, g3, g4, ↓reduceIte, b01_0, ite_not, if_true, if_false, Int.reduceLT, Int.reduceEq]
      rw [if_neg (by omega)]
    · unfold eSF at z
      unfold up
      (repeat' split) <;> first | rfl | (exfalso; omega)
    · refine ⟨fun k => ?_, ?_, ?_⟩ <;> (unfold up; (repeat' split) <;> first | rfl | (exfalso; omega))
theorem q_shelf3_2 (h : Rel I J) : pr X d I J 162 286 [.int (iI 3), .int (iI 1), .int (iI 2)] := by
  obtain ⟨h1, h2, h3, h4, -⟩ := h.2.2.2.2.1 2 (by decide)
  have h1 : -1 ≤ I 61 1 ∧ I 61 1 ≤ 4 := h1
  have h2 : 0 ≤ I 61 2 ∧ I 61 2 ≤ 40 := h2
  have h3 : I 84 2 = I 61 1 := h3
  have h4 : I 85 2 = I 61 2 := h4
  by_cases q : I 61 1 = -1
  · have g3 : up (up (up I 68 0 2) 68 2 (-1)) 68 3 (I 61 2) 84 2 = -1 := h3.trans q
    have g4 : up (up (up (up I 68 0 2) 68 2 (-1)) 68 3 (I 61 2)) 87 3 (-1) 85 2 = I 61 2 := h4
    refine ⟨1, up (up (up I 68 0 2) 68 2 (-1)) 68 3 (I 61 2), J, up (up (up (up (up I 68 0 2) 68 2 (-1)) 68 3 (I 61 2)) 87 3 (-1)) 88 3 (I 61 2), J, ?_, ?_, Rel_shelf h (fun o k _ z => ?_) (SF_ch (a := 3) h.2.2.2.2.2.1 (fun q hq hq2 => ?_) (Or.inr (Or.inr ⟨rfl, rfl⟩)))⟩
    · simp (disch := omega) only [v_162_0, u_162_0, x_iload1, x_sipush, x_call3_0, x_call3_1, x_call3_2, x_call3_3, x_call3_4, e_k_s, e_k_i, List.nil_append, List.cons_append, x_ifCond_ne, x_ifCond_neb, x_iload2, x_ifCond_eq, x_ifCond_eqb, x_jsr, u_162_18, x_ireturn, u_162_20, x_aload0, k_0_0, x_iload3, x_call2_0, x_call2_1, x_call2_2, x_call2_3, x_call2_4, u_162_37, x_if_icmp_ne, u_162_53, k_0_7, k_0_6, f_61_1, f_61_2, x_goto, u_162_88, u_162_99, aa_53_0, aa_53_1, aa_53_2, aa_53_3, aa_54_0, aa_54_1, aa_54_2, aa_54_3, v_65_65, v_65_66, v_65_67, v_65_68, u_65_0, u_65_10, u_65_11, p_68_0, p_68_2, p_68_3, x_return, b_in, q, Int.reduceNeg, ↓reduceIte, b01_0, ite_not, if_true, if_false, Int.reduceLT, Int.reduceEq]
    · simp (disch := omega) only [v_286_69, u_286_0, x_iload1, x_call1_0, x_call1_1, x_call1_2, x_call1_3, x_call1_4, e_k_s, e_k_i, List.nil_append, List.cons_append, x_ifCond_eq, x_ifCond_eqb, x_iload2, x_sipush, x_call3_0, x_call3_1, x_call3_2, x_call3_3, x_call3_4, x_ifCond_ne, x_ifCond_neb, x_aload0, x_iload3, x_call2_0, x_call2_1, x_call2_2, x_call2_3, x_call2_4, x_jsr, u_286_28, x_if_icmp_ne, u_286_40, x_ireturn, u_286_42, k_69_33, x_goto, u_286_55, k_69_30, x_ifCond_lt, x_iadd, u_286_81, u_286_82, k_69_34, u_286_96, k_69_31, u_286_110, u_286_111, ia_84, is_84, ia_85, is_85, ia_87, is_87, ia_88, is_88, m_shi, m_in, g3, g4, Int.reduceNeg, ↓reduceIte, b01_0, ite_not, if_true, if_false, Int.reduceLT, Int.reduceEq]
    · unfold eSF at z
      unfold up
      (repeat' split) <;> first | rfl | (exfalso; omega)
    · refine ⟨fun k => ?_, ?_, ?_⟩ <;> (unfold up; (repeat' split) <;> first | rfl | (exfalso; omega))
  · have g3 : up (up (up I 68 0 1) 68 2 (I 61 1)) 68 3 (I 61 2) 84 2 = I 61 1 := h3
    have g4 : up (up (up (up I 68 0 1) 68 2 (I 61 1)) 68 3 (I 61 2)) 87 3 (10 + I 61 1) 85 2 = I 61 2 := h4
    refine ⟨1, up (up (up I 68 0 1) 68 2 (I 61 1)) 68 3 (I 61 2), J, up (up (up (up (up I 68 0 1) 68 2 (I 61 1)) 68 3 (I 61 2)) 87 3 (10 + I 61 1)) 88 3 (I 61 2), J, ?_, ?_, Rel_shelf h (fun o k _ z => ?_) (SF_ch (a := 3) h.2.2.2.2.2.1 (fun q hq hq2 => ?_) (Or.inr (Or.inl ⟨rfl, ⟨by show 0 ≤ I 61 1; omega, h1.2⟩, rfl, rfl, h2.1, h2.2⟩)))⟩
    · simp (disch := omega) only [v_162_0, u_162_0, x_iload1, x_sipush, x_call3_0, x_call3_1, x_call3_2, x_call3_3, x_call3_4, e_k_s, e_k_i, List.nil_append, List.cons_append, x_ifCond_ne, x_ifCond_neb, x_iload2, x_ifCond_eq, x_ifCond_eqb, x_jsr, u_162_18, x_ireturn, u_162_20, x_aload0, k_0_0, x_iload3, x_call2_0, x_call2_1, x_call2_2, x_call2_3, x_call2_4, u_162_37, x_if_icmp_ne, u_162_53, k_0_7, k_0_6, f_61_1, f_61_2, x_goto, u_162_88, u_162_99, aa_53_0, aa_53_1, aa_53_2, aa_53_3, aa_54_0, aa_54_1, aa_54_2, aa_54_3, v_65_65, v_65_66, v_65_67, v_65_68, u_65_0, u_65_10, u_65_11, p_68_0, p_68_2, p_68_3, x_return, b_in, ↓reduceIte, b01_0, ite_not, if_true, if_false, Int.reduceLT, Int.reduceEq]
      (repeat' split) <;> first | rfl | (exfalso; omega)
    · simp (disch := omega) only [v_286_69, u_286_0, x_iload1, x_call1_0, x_call1_1, x_call1_2, x_call1_3, x_call1_4, e_k_s, e_k_i, List.nil_append, List.cons_append, x_ifCond_eq, x_ifCond_eqb, x_iload2, x_sipush, x_call3_0, x_call3_1, x_call3_2, x_call3_3, x_call3_4, x_ifCond_ne, x_ifCond_neb, x_aload0, x_iload3, x_call2_0, x_call2_1, x_call2_2, x_call2_3, x_call2_4, x_jsr, u_286_28, x_if_icmp_ne, u_286_40, x_ireturn, u_286_42, k_69_33, x_goto, u_286_55, k_69_30, x_ifCond_lt, x_iadd, u_286_81, u_286_82, k_69_34, u_286_96, k_69_31, u_286_110, u_286_111, ia_84, is_84, ia_85, is_85, ia_87, is_87, ia_88, is_88, m_shi, m_in, g3, g4, ↓reduceIte, b01_0, ite_not, if_true, if_false, Int.reduceLT, Int.reduceEq]
      rw [if_neg (by omega)]
    · unfold eSF at z
      unfold up
      (repeat' split) <;> first | rfl | (exfalso; omega)
    · refine ⟨fun k => ?_, ?_, ?_⟩ <;> (unfold up; (repeat' split) <;> first | rfl | (exfalso; omega))
theorem q_shelf3_3 (h : Rel I J) : pr X d I J 162 286 [.int (iI 3), .int (iI 1), .int (iI 3)] := by
  obtain ⟨h1, h2, h3, h4, -⟩ := h.2.2.2.2.1 3 (by decide)
  have h1 : -1 ≤ I 63 1 ∧ I 63 1 ≤ 4 := h1
  have h2 : 0 ≤ I 63 2 ∧ I 63 2 ≤ 40 := h2
  have h3 : I 84 3 = I 63 1 := h3
  have h4 : I 85 3 = I 63 2 := h4
  by_cases q : I 63 1 = -1
  · have g3 : up (up (up I 68 0 2) 68 2 (-1)) 68 3 (I 63 2) 84 3 = -1 := h3.trans q
    have g4 : up (up (up (up I 68 0 2) 68 2 (-1)) 68 3 (I 63 2)) 87 3 (-1) 85 3 = I 63 2 := h4
    refine ⟨1, up (up (up I 68 0 2) 68 2 (-1)) 68 3 (I 63 2), J, up (up (up (up (up I 68 0 2) 68 2 (-1)) 68 3 (I 63 2)) 87 3 (-1)) 88 3 (I 63 2), J, ?_, ?_, Rel_shelf h (fun o k _ z => ?_) (SF_ch (a := 3) h.2.2.2.2.2.1 (fun q hq hq2 => ?_) (Or.inr (Or.inr ⟨rfl, rfl⟩)))⟩
    · simp (disch := omega) only [v_162_0, u_162_0, x_iload1, x_sipush, x_call3_0, x_call3_1, x_call3_2, x_call3_3, x_call3_4, e_k_s, e_k_i, List.nil_append, List.cons_append, x_ifCond_ne, x_ifCond_neb, x_iload2, x_ifCond_eq, x_ifCond_eqb, x_jsr, u_162_18, x_ireturn, u_162_20, x_aload0, k_0_0, x_iload3, x_call2_0, x_call2_1, x_call2_2, x_call2_3, x_call2_4, u_162_37, x_if_icmp_ne, u_162_53, k_0_7, k_0_6, f_63_1, f_63_2, x_goto, u_162_88, u_162_99, aa_53_0, aa_53_1, aa_53_2, aa_53_3, aa_54_0, aa_54_1, aa_54_2, aa_54_3, v_65_65, v_65_66, v_65_67, v_65_68, u_65_0, u_65_10, u_65_11, p_68_0, p_68_2, p_68_3, x_return, b_in, q, Int.reduceNeg, ↓reduceIte, b01_0, ite_not, if_true, if_false, Int.reduceLT, Int.reduceEq]
    · simp (disch := omega) only [v_286_69, u_286_0, x_iload1, x_call1_0, x_call1_1, x_call1_2, x_call1_3, x_call1_4, e_k_s, e_k_i, List.nil_append, List.cons_append, x_ifCond_eq, x_ifCond_eqb, x_iload2, x_sipush, x_call3_0, x_call3_1, x_call3_2, x_call3_3, x_call3_4, x_ifCond_ne, x_ifCond_neb, x_aload0, x_iload3, x_call2_0, x_call2_1, x_call2_2, x_call2_3, x_call2_4, x_jsr, u_286_28, x_if_icmp_ne, u_286_40, x_ireturn, u_286_42, k_69_33, x_goto, u_286_55, k_69_30, x_ifCond_lt, x_iadd, u_286_81, u_286_82, k_69_34, u_286_96, k_69_31, u_286_110, u_286_111, ia_84, is_84, ia_85, is_85, ia_87, is_87, ia_88, is_88, m_shi, m_in, g3, g4, Int.reduceNeg, ↓reduceIte, b01_0, ite_not, if_true, if_false, Int.reduceLT, Int.reduceEq]
    · unfold eSF at z
      unfold up
      (repeat' split) <;> first | rfl | (exfalso; omega)
    · refine ⟨fun k => ?_, ?_, ?_⟩ <;> (unfold up; (repeat' split) <;> first | rfl | (exfalso; omega))
  · have g3 : up (up (up I 68 0 1) 68 2 (I 63 1)) 68 3 (I 63 2) 84 3 = I 63 1 := h3
    have g4 : up (up (up (up I 68 0 1) 68 2 (I 63 1)) 68 3 (I 63 2)) 87 3 (10 + I 63 1) 85 3 = I 63 2 := h4
    refine ⟨1, up (up (up I 68 0 1) 68 2 (I 63 1)) 68 3 (I 63 2), J, up (up (up (up (up I 68 0 1) 68 2 (I 63 1)) 68 3 (I 63 2)) 87 3 (10 + I 63 1)) 88 3 (I 63 2), J, ?_, ?_, Rel_shelf h (fun o k _ z => ?_) (SF_ch (a := 3) h.2.2.2.2.2.1 (fun q hq hq2 => ?_) (Or.inr (Or.inl ⟨rfl, ⟨by show 0 ≤ I 63 1; omega, h1.2⟩, rfl, rfl, h2.1, h2.2⟩)))⟩
    · simp (disch := omega) only [v_162_0, u_162_0, x_iload1, x_sipush, x_call3_0, x_call3_1, x_call3_2, x_call3_3, x_call3_4, e_k_s, e_k_i, List.nil_append, List.cons_append, x_ifCond_ne, x_ifCond_neb, x_iload2, x_ifCond_eq, x_ifCond_eqb, x_jsr, u_162_18, x_ireturn, u_162_20, x_aload0, k_0_0, x_iload3, x_call2_0, x_call2_1, x_call2_2, x_call2_3, x_call2_4, u_162_37, x_if_icmp_ne, u_162_53, k_0_7, k_0_6, f_63_1, f_63_2, x_goto, u_162_88, u_162_99, aa_53_0, aa_53_1, aa_53_2, aa_53_3, aa_54_0, aa_54_1, aa_54_2, aa_54_3, v_65_65, v_65_66, v_65_67, v_65_68, u_65_0, u_65_10, u_65_11, p_68_0, p_68_2, p_68_3, x_return, b_in, ↓reduceIte, b01_0, ite_not, if_true, if_false, Int.reduceLT, Int.reduceEq]
      (repeat' split) <;> first | rfl | (exfalso; omega)
    · simp (disch := omega) only [v_286_69, u_286_0, x_iload1, x_call1_0, x_call1_1, x_call1_2, x_call1_3, x_call1_4, e_k_s, e_k_i, List.nil_append, List.cons_append, x_ifCond_eq, x_ifCond_eqb, x_iload2, x_sipush, x_call3_0, x_call3_1, x_call3_2, x_call3_3, x_call3_4, x_ifCond_ne, x_ifCond_neb, x_aload0, x_iload3, x_call2_0, x_call2_1, x_call2_2, x_call2_3, x_call2_4, x_jsr, u_286_28, x_if_icmp_ne, u_286_40, x_ireturn, u_286_42, k_69_33, x_goto, u_286_55, k_69_30, x_ifCond_lt, x_iadd, u_286_81, u_286_82, k_69_34, u_286_96, k_69_31, u_286_110, u_286_111, ia_84, is_84, ia_85, is_85, ia_87, is_87, ia_88, is_88, m_shi, m_in, g3, g4, ↓reduceIte, b01_0, ite_not, if_true, if_false, Int.reduceLT, Int.reduceEq]
      rw [if_neg (by omega)]
    · unfold eSF at z
      unfold up
      (repeat' split) <;> first | rfl | (exfalso; omega)
    · refine ⟨fun k => ?_, ?_, ?_⟩ <;> (unfold up; (repeat' split) <;> first | rfl | (exfalso; omega))
theorem q_shelf3 (h : Rel I J) {b c : Int} (hb : rg b) (hc : rg c) : pr X d I J 162 286 [.int (iI 3), .int (iI b), .int (iI c)] := by
  have hn6 := h.1.1.1
  have e6 := h.1.2.2.2.1.2.1
  by_cases q0 : 0 ≤ b ∧ b ≤ 2
  · rcases (by omega : b = 0 ∨ b = 1 ∨ b = 2) with rfl | rfl | rfl
    · by_cases q1 : 0 ≤ c ∧ c < I 1 9
      · exact q_shelfp3 h q1
      · have e2 := m_isp (X := X) (d := d + 27) (I := I) (J := J) (k := c) (n := I 1 9) e6 ⟨hc, hn6⟩
        rw [if_neg q1] at e2
        refine ⟨-1, I, J, I, J, ?_, ?_, h⟩
        · simp (disch := omega) only [v_162_0, u_162_0, x_iload1, x_sipush, x_call3_0, x_call3_1, x_call3_2, x_call3_3, x_call3_4, e_k_s, e_k_i, List.nil_append, List.cons_append, x_ifCond_ne, x_ifCond_neb, x_iload2, x_ifCond_eq, x_ifCond_eqb, x_jsr, u_162_18, x_ireturn, u_162_20, x_aload0, k_0_0, x_iload3, x_call2_0, x_call2_1, x_call2_2, x_call2_3, x_call2_4, u_162_37, x_if_icmp_ne, u_162_53, k_0_7, k_0_6, x_goto, u_162_88, u_162_99, aa_53_0, aa_53_1, aa_53_2, aa_53_3, aa_54_0, aa_54_1, aa_54_2, aa_54_3, b_in, t_nin, ↓reduceIte, b01_0, ite_not, if_true, if_false, Int.reduceLT, Int.reduceEq]
        · simp (disch := omega) only [v_286_69, u_286_0, x_iload1, x_call1_0, x_call1_1, x_call1_2, x_call1_3, x_call1_4, e_k_s, e_k_i, List.nil_append, List.cons_append, x_ifCond_eq, x_ifCond_eqb, x_iload2, x_sipush, x_call3_0, x_call3_1, x_call3_2, x_call3_3, x_call3_4, x_ifCond_ne, x_ifCond_neb, x_aload0, x_iload3, x_call2_0, x_call2_1, x_call2_2, x_call2_3, x_call2_4, x_jsr, u_286_28, x_if_icmp_ne, u_286_40, x_ireturn, u_286_42, k_69_33, x_goto, u_286_55, k_69_30, x_ifCond_lt, x_iadd, u_286_81, u_286_82, k_69_34, u_286_96, k_69_31, u_286_110, u_286_111, ia_84, is_84, ia_85, is_85, ia_87, is_87, ia_88, is_88, m_shi, m_in, e2, ↓reduceIte, b01_0, ite_not, if_true, if_false, Int.reduceLT, Int.reduceEq]
    · by_cases q1 : 0 ≤ c ∧ c ≤ 3
      · rcases (by omega : c = 0 ∨ c = 1 ∨ c = 2 ∨ c = 3) with rfl | rfl | rfl | rfl
        · exact q_shelf3_0 h
        · exact q_shelf3_1 h
        · exact q_shelf3_2 h
        · exact q_shelf3_3 h
      · have e2 := m_shk (X := X) (d := d + 27) (I := I) (J := J) hc
        rw [if_neg q1] at e2
        refine ⟨-1, I, J, I, J, ?_, ?_, h⟩
        · simp (disch := omega) only [v_162_0, u_162_0, x_iload1, x_sipush, x_call3_0, x_call3_1, x_call3_2, x_call3_3, x_call3_4, e_k_s, e_k_i, List.nil_append, List.cons_append, x_ifCond_ne, x_ifCond_neb, x_iload2, x_ifCond_eq, x_ifCond_eqb, x_jsr, u_162_18, x_ireturn, u_162_20, x_aload0, k_0_0, x_iload3, x_call2_0, x_call2_1, x_call2_2, x_call2_3, x_call2_4, u_162_37, x_if_icmp_ne, u_162_53, k_0_7, k_0_6, x_goto, u_162_88, u_162_99, aa_53_0, aa_53_1, aa_53_2, aa_53_3, aa_54_0, aa_54_1, aa_54_2, aa_54_3, b_in, b_nin, ↓reduceIte, b01_0, ite_not, if_true, if_false, Int.reduceLT, Int.reduceEq]
        · simp (disch := omega) only [v_286_69, u_286_0, x_iload1, x_call1_0, x_call1_1, x_call1_2, x_call1_3, x_call1_4, e_k_s, e_k_i, List.nil_append, List.cons_append, x_ifCond_eq, x_ifCond_eqb, x_iload2, x_sipush, x_call3_0, x_call3_1, x_call3_2, x_call3_3, x_call3_4, x_ifCond_ne, x_ifCond_neb, x_aload0, x_iload3, x_call2_0, x_call2_1, x_call2_2, x_call2_3, x_call2_4, x_jsr, u_286_28, x_if_icmp_ne, u_286_40, x_ireturn, u_286_42, k_69_33, x_goto, u_286_55, k_69_30, x_ifCond_lt, x_iadd, u_286_81, u_286_82, k_69_34, u_286_96, k_69_31, u_286_110, u_286_111, ia_84, is_84, ia_85, is_85, ia_87, is_87, ia_88, is_88, m_shi, m_in, e2, ↓reduceIte, b01_0, ite_not, if_true, if_false, Int.reduceLT, Int.reduceEq]
    · exact q_shelfn3 h hc
  · refine ⟨-1, I, J, I, J, ?_, ?_, h⟩
    · simp (disch := omega) only [v_162_0, u_162_0, x_iload1, x_sipush, x_call3_0, x_call3_1, x_call3_2, x_call3_3, x_call3_4, e_k_s, e_k_i, List.nil_append, List.cons_append, x_ifCond_ne, x_ifCond_neb, x_iload2, x_ifCond_eq, x_ifCond_eqb, x_jsr, u_162_18, x_ireturn, u_162_20, x_aload0, k_0_0, x_iload3, x_call2_0, x_call2_1, x_call2_2, x_call2_3, x_call2_4, u_162_37, x_if_icmp_ne, u_162_53, k_0_7, k_0_6, x_goto, u_162_88, u_162_99, aa_53_0, aa_53_1, aa_53_2, aa_53_3, aa_54_0, aa_54_1, aa_54_2, aa_54_3, b_in, b_nin, ↓reduceIte, b01_0, ite_not, if_true, if_false, Int.reduceLT, Int.reduceEq]
    · simp (disch := omega) only [v_286_69, u_286_0, x_iload1, x_call1_0, x_call1_1, x_call1_2, x_call1_3, x_call1_4, e_k_s, e_k_i, List.nil_append, List.cons_append, x_ifCond_eq, x_ifCond_eqb, x_iload2, x_sipush, x_call3_0, x_call3_1, x_call3_2, x_call3_3, x_call3_4, x_ifCond_ne, x_ifCond_neb, x_aload0, x_iload3, x_call2_0, x_call2_1, x_call2_2, x_call2_3, x_call2_4, x_jsr, u_286_28, x_if_icmp_ne, u_286_40, x_ireturn, u_286_42, k_69_33, x_goto, u_286_55, k_69_30, x_ifCond_lt, x_iadd, u_286_81, u_286_82, k_69_34, u_286_96, k_69_31, u_286_110, u_286_111, ia_84, is_84, ia_85, is_85, ia_87, is_87, ia_88, is_88, m_shi, m_nin, ↓reduceIte, b01_0, ite_not, if_true, if_false, Int.reduceLT, Int.reduceEq]
theorem q_shelf (h : Rel I J) {a b c : Int} (ha : rg a) (hb : rg b) (hc : rg c) : pr X d I J 162 286 [.int (iI a), .int (iI b), .int (iI c)] := by
  by_cases q : 0 ≤ a ∧ a ≤ 3
  · rcases (by omega : a = 0 ∨ a = 1 ∨ a = 2 ∨ a = 3) with rfl | rfl | rfl | rfl
    · exact q_shelf0 h hb hc
    · exact q_shelf1 h hb hc
    · exact q_shelf2 h hb hc
    · exact q_shelf3 h hb hc
  · have e := m_shk (X := X) (d := d + 27) (I := I) (J := J) ha
    rw [if_neg q] at e
    refine ⟨-1, I, J, I, J, ?_, ?_, h⟩
    · simp (disch := omega) only [v_162_0, u_162_0, x_iload1, x_sipush, x_call3_0, x_call3_1, x_call3_2, x_call3_3, x_call3_4, e_k_s, e_k_i, List.nil_append, List.cons_append, x_ifCond_ne, x_ifCond_neb, x_iload2, x_ifCond_eq, x_ifCond_eqb, x_jsr, u_162_18, x_ireturn, u_162_20, x_aload0, k_0_0, x_iload3, x_call2_0, x_call2_1, x_call2_2, x_call2_3, x_call2_4, u_162_37, x_if_icmp_ne, u_162_53, k_0_7, k_0_6, x_goto, u_162_88, u_162_99, aa_53_0, aa_53_1, aa_53_2, aa_53_3, aa_54_0, aa_54_1, aa_54_2, aa_54_3, b_nin, ↓reduceIte, b01_0, ite_not, if_true, if_false, Int.reduceLT, Int.reduceEq]
    · simp (disch := omega) only [v_286_69, u_286_0, x_iload1, x_call1_0, x_call1_1, x_call1_2, x_call1_3, x_call1_4, e_k_s, e_k_i, List.nil_append, List.cons_append, x_ifCond_eq, x_ifCond_eqb, x_iload2, x_sipush, x_call3_0, x_call3_1, x_call3_2, x_call3_3, x_call3_4, x_ifCond_ne, x_ifCond_neb, x_aload0, x_iload3, x_call2_0, x_call2_1, x_call2_2, x_call2_3, x_call2_4, x_jsr, u_286_28, x_if_icmp_ne, u_286_40, x_ireturn, u_286_42, k_69_33, x_goto, u_286_55, k_69_30, x_ifCond_lt, x_iadd, u_286_81, u_286_82, k_69_34, u_286_96, k_69_31, u_286_110, u_286_111, ia_84, is_84, ia_85, is_85, ia_87, is_87, ia_88, is_88, e, ↓reduceIte, b01_0, ite_not, if_true, if_false, Int.reduceLT, Int.reduceEq]
end
