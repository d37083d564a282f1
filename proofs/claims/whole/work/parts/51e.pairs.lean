/-! PAIRS: gaps, branches, fetching, reports, lots -/
section
variable {X : e_X} {d : Nat} {I J : Nat → Int → Int}
theorem q_gap (h : Rel I J) {a : Int} (ha : rg a) : pr X d I J 134 238 [.int (iI a)] := by
  have hi := h.1.1
  have hself : mk I (I 1 9) (cof I) (I 1 13) (I 73) = I := mk_self h.1.2.2.2.2.2.2
  by_cases q : a = 0 ∨ a = 1
  · have e1 := t_fu (X := X) (d := d + 26) (J := J) hi
    have e1' := t_cn (X := X) (d := d + 26) (J := J) hi
    have e2 := m_gap (X := X) (d := d + 25) (J := J) (M := I) hi h.1.2.2.2.1 (inv_cof hi) (sc := I 1 13) (P := I 73) q
    rw [hself] at e2
    refine pr_q h (I1 := I) ?_ (kp_rfl I) e2 (kp_rfl I)
    rcases q with rfl | rfl
    · rw [if_pos rfl]
      simp (disch := omega) only [v_134_0, u_134_0, x_iload1, x_ifCond_ne, x_ifCond_neb, x_aload0, k_0_0, x_call1_0, x_call1_1, x_call1_2, x_call1_3, x_call1_4, e_k_s, e_k_i, List.nil_append, List.cons_append, x_ireturn, u_134_12, x_sipush, x_if_icmp_ne, x_goto, u_134_27, x_jsr, u_134_28, e1, ↓reduceIte, b01_0, ite_not, if_true, if_false, Int.reduceLT, Int.reduceEq]
      rfl
    · rw [if_neg (by decide)]
      simp (disch := omega) only [v_134_0, u_134_0, x_iload1, x_ifCond_ne, x_ifCond_neb, x_aload0, k_0_0, x_call1_0, x_call1_1, x_call1_2, x_call1_3, x_call1_4, e_k_s, e_k_i, List.nil_append, List.cons_append, x_ireturn, u_134_12, x_sipush, x_if_icmp_ne, x_goto, u_134_27, x_jsr, u_134_28, e1', ↓reduceIte, b01_0, ite_not, if_true, if_false, Int.reduceLT, Int.reduceEq]
      rfl
  · refine ⟨-1, I, J, I, J, ?_, ?_, h⟩
    · simp (disch := omega) only [v_134_0, u_134_0, x_iload1, x_ifCond_ne, x_ifCond_neb, x_aload0, k_0_0, x_call1_0, x_call1_1, x_call1_2, x_call1_3, x_call1_4, e_k_s, e_k_i, List.nil_append, List.cons_append, x_ireturn, u_134_12, x_sipush, x_if_icmp_ne, x_goto, u_134_27, x_jsr, u_134_28, ↓reduceIte, b01_0, ite_not, if_true, if_false, Int.reduceLT, Int.reduceEq]
      rw [if_neg (by omega), if_neg (by omega)]
    · simp (disch := omega) only [v_238_69, u_238_0, x_iload1, x_sipush, x_call3_0, x_call3_1, x_call3_2, x_call3_3, x_call3_4, e_k_s, e_k_i, List.nil_append, List.cons_append, x_ifCond_ne, x_ifCond_neb, x_ireturn, u_238_11, x_istore2i, x_istore2r, x_istore2u, x_istore3i, x_istore3r, x_istore3u, x_istore4i, x_istore4r, x_istore4u, x_jsr, x_iload4, x_ifCond_lt, x_istore5i, x_istore5r, x_istore5u, x_istore6i, x_istore6r, x_istore6u, u_238_31, x_iload6, x_aload0, k_69_0, x_if_icmp_ge, x_iload5, x_ifCond_eq, x_ifCond_eqb, u_238_59, x_goto, u_238_63, u_238_64, x_iinc6i, x_iinc6r, x_iinc6u, u_238_72, x_iload2, x_call2_0, x_call2_1, x_call2_2, x_call2_3, x_call2_4, u_238_86, u_238_87, x_iadd, x_if_icmp_lt, u_238_110, x_iload3, u_238_111, x_iinc4i, x_iinc4r, x_iinc4u, u_238_118, u_238_126, u_238_127, ia_70, m_nin, ↓reduceIte, b01_0, ite_not, if_true, if_false, Int.reduceLT, Int.reduceEq]
theorem q_branches (h : Rel I J) {a : Int} (ha : rg a) : pr X d I J 135 239 [.int (iI a)] := by
  have hi := h.1.1
  have hn := hi.1
  have e6 := h.1.2.2.2.1.2.1
  have hself : mk I (I 1 9) (cof I) (I 1 13) (I 73) = I := mk_self h.1.2.2.2.2.2.2
  by_cases q : -1 ≤ a ∧ a < I 1 9
  · have e2 := m_brs (X := X) (d := d + 26) (J := J) (M := I) hi h.1.2.2.2.1 (c := cof I) (sc := I 1 13) (P := I 73) q
    rw [hself] at e2
    refine pr_q h (I1 := I) ?_ (kp_rfl I) e2 (kp_rfl I)
    show s_S X (d + 30) 135 [.ref 0, .int (iI a)] (mm I J) = some ([.int (iI (if a = -1 then mcb I (I 1 10) (I 1 9).toNat 0 0 else mbc I (I 1 10) a))], mm I J)
    by_cases q2 : a = -1
    · subst q2
      have e1 := t_cbr (X := X) (d := d + 24) (J := J) hi
      rw [cbr_mcb hn _ _ _ (by decide) (by omega)] at e1
      simp (disch := omega) only [v_135_0, u_135_0, x_iload1, x_sipush, x_if_icmp_ne, x_aload0, k_0_0, x_call1_0, x_call1_1, x_call1_2, x_call1_3, x_call1_4, e_k_s, e_k_i, List.nil_append, List.cons_append, x_ireturn, u_135_13, x_call2_0, x_call2_1, x_call2_2, x_call2_3, x_call2_4, x_ifCond_eq, x_ifCond_eqb, x_goto, u_135_35, x_jsr, u_135_36, e1, ↓reduceIte, b01_0, ite_not, if_true, if_false, Int.reduceLT, Int.reduceEq]
    · have e1 := t_brc (X := X) (d := d + 25) (J := J) hi (k := a) (by omega)
      rw [brc_mbc hn (by omega)] at e1
      rw [if_neg q2]
      simp (disch := omega) only [v_135_0, u_135_0, x_iload1, x_sipush, x_if_icmp_ne, x_aload0, k_0_0, x_call1_0, x_call1_1, x_call1_2, x_call1_3, x_call1_4, e_k_s, e_k_i, List.nil_append, List.cons_append, x_ireturn, u_135_13, x_call2_0, x_call2_1, x_call2_2, x_call2_3, x_call2_4, x_ifCond_eq, x_ifCond_eqb, x_goto, u_135_35, x_jsr, u_135_36, t_in, e1, ↓reduceIte, b01_0, ite_not, if_true, if_false, Int.reduceLT, Int.reduceEq]
      rw [if_neg q2]
  · refine ⟨-1, I, J, I, J, ?_, ?_, h⟩
    · simp (disch := omega) only [v_135_0, u_135_0, x_iload1, x_sipush, x_if_icmp_ne, x_aload0, k_0_0, x_call1_0, x_call1_1, x_call1_2, x_call1_3, x_call1_4, e_k_s, e_k_i, List.nil_append, List.cons_append, x_ireturn, u_135_13, x_call2_0, x_call2_1, x_call2_2, x_call2_3, x_call2_4, x_ifCond_eq, x_ifCond_eqb, x_goto, u_135_35, x_jsr, u_135_36, t_nin, ↓reduceIte, b01_0, ite_not, if_true, if_false, Int.reduceLT, Int.reduceEq]
      rw [if_neg (by omega)]
    · simp (disch := omega) only [v_239_69, u_239_0, x_iload1, x_sipush, x_if_icmp_eq, x_aload0, x_call2_0, x_call2_1, x_call2_2, x_call2_3, x_call2_4, e_k_s, e_k_i, List.nil_append, List.cons_append, x_ifCond_ne, x_ifCond_neb, x_ireturn, u_239_15, x_ifCond_lt, u_239_25, x_istore2i, x_istore2r, x_istore2u, x_istore3i, x_istore3r, x_istore3u, x_jsr, u_239_29, x_iload3, k_69_0, x_if_icmp_ge, x_istore4i, x_istore4r, x_istore4u, x_iload2, x_iload4, x_ifCond_eq, x_ifCond_eqb, x_ishl, x_iremI, x_goto, u_239_66, u_239_67, x_iadd, x_iinc3i, x_iinc3r, x_iinc3u, u_239_75, ia_70, m_pnin, ↓reduceIte, b01_0, ite_not, if_true, if_false, Int.reduceLT, Int.reduceEq]
      rw [if_neg (by omega)]
theorem kp_g2 {a b : Int} : kp I (g2 I a b) := fun o k q => by
  unfold g2
  by_cases h1 : o = 69
  · subst h1
    have h16 : k ≠ 16 := fun z => q (by unfold scr; omega)
    have h17 : k ≠ 17 := fun z => q (by unfold scr; omega)
    rw [if_pos rfl, if_neg h16, if_neg h17]
  · rw [if_neg h1]
theorem q_fetch (h : Rel I J) {a b : Int} (ha : rg a) (hb : rg b) : pr X d I J 137 242 [.int (iI a), .int (iI b)] := by
  have hi := h.1.1
  have hn := hi.1
  have hc := inv_cof hi
  have hself : mk I (I 1 9) (cof I) (I 1 13) (I 73) = I := mk_self h.1.2.2.2.2.2.2
  by_cases q1 : 0 ≤ a ∧ a ≤ 40
  · by_cases q2 : 0 ≤ b ∧ b ≤ 1
    · obtain ⟨x, y, e2⟩ := m_fet (X := X) (d := d + 21) (J := J) (M := I) hi h.1.2.2.2.1 hc (sc := I 1 13) (P := I 73) (p := a) (w := b) q1 (by omega)
      rw [fta_m hi hc q1, hself] at e2
      refine pr_q h (I1 := I) ?_ (kp_rfl I) e2 kp_g2
      have e0 := t_all (X := X) (d := d + 28) (J := J) hn
      have e3 := (awy_i hn hi.2.1).1
      have hab := awy_b hi hc
      rw [show (2 : Int) ^ (I 1 9).toNat - 1 - I 1 10 = awy I (I 1 10) from rfl] at e3
      have f1 := t_way (X := X) (d := d + 27) (J := J) hi (p := a) (s := awy I (I 1 10)) q1 hab
      have f2 := t_fft (X := X) (d := d + 26) (J := J) hi (p := a) (s := awy I (I 1 10)) q1 hab
      show s_S X (d + 30) 137 [.ref 0, .int (iI a), .int (iI b)] (mm I J) = some ([.int (iI (fta I (I 1 10) a b))], mm I J)
      unfold fta
      by_cases q3 : b = 0
      · subst q3
        simp (disch := omega) only [v_137_0, u_137_0, x_iload1, x_sipush, x_call3_0, x_call3_1, x_call3_2, x_call3_3, x_call3_4, e_k_s, e_k_i, List.nil_append, List.cons_append, x_ifCond_ne, x_ifCond_neb, x_iload2, x_ifCond_eq, x_ifCond_eqb, x_jsr, u_137_19, x_ireturn, u_137_21, x_aload0, k_0_0, x_call1_0, x_call1_1, x_call1_2, x_call1_3, x_call1_4, f_1_10, x_ixor, x_iand, x_istore3i, x_istore3r, x_istore3u, x_iload3, u_137_53, b_in, e0, e3, f1, ↓reduceIte, b01_0, ite_not, if_true, if_false, Int.reduceLT, Int.reduceEq]
      · have : b = 1 := by omega
        subst this
        simp (disch := omega) only [v_137_0, u_137_0, x_iload1, x_sipush, x_call3_0, x_call3_1, x_call3_2, x_call3_3, x_call3_4, e_k_s, e_k_i, List.nil_append, List.cons_append, x_ifCond_ne, x_ifCond_neb, x_iload2, x_ifCond_eq, x_ifCond_eqb, x_jsr, u_137_19, x_ireturn, u_137_21, x_aload0, k_0_0, x_call1_0, x_call1_1, x_call1_2, x_call1_3, x_call1_4, f_1_10, x_ixor, x_iand, x_istore3i, x_istore3r, x_istore3u, x_iload3, u_137_53, b_in, e0, e3, f2, ↓reduceIte, b01_0, ite_not, if_true, if_false, Int.reduceLT, Int.reduceEq]
    · refine ⟨-1, I, J, I, J, ?_, ?_, h⟩
      · simp (disch := omega) only [v_137_0, u_137_0, x_iload1, x_sipush, x_call3_0, x_call3_1, x_call3_2, x_call3_3, x_call3_4, e_k_s, e_k_i, List.nil_append, List.cons_append, x_ifCond_ne, x_ifCond_neb, x_iload2, x_ifCond_eq, x_ifCond_eqb, x_jsr, u_137_19, x_ireturn, u_137_21, x_aload0, k_0_0, x_call1_0, x_call1_1, x_call1_2, x_call1_3, x_call1_4, f_1_10, x_ixor, x_iand, x_istore3i, x_istore3r, x_istore3u, x_iload3, u_137_53, b_in, b_nin, ↓reduceIte, b01_0, ite_not, if_true, if_false, Int.reduceLT, Int.reduceEq]
      · simp (disch := omega) only [v_242_69, u_242_0, x_iload1, x_sipush, x_call3_0, x_call3_1, x_call3_2, x_call3_3, x_call3_4, e_k_s, e_k_i, List.nil_append, List.cons_append, x_ifCond_eq, x_ifCond_eqb, x_iload2, x_ifCond_ne, x_ifCond_neb, x_jsr, u_242_19, x_ireturn, u_242_21, x_aload0, k_69_0, x_ishl, x_isub, x_call2_0, x_call2_1, x_call2_2, x_call2_3, x_call2_4, x_ixor, x_iand, x_istore3i, x_istore3r, x_istore3u, p_69_16, x_iload3, x_call5_0, x_call5_1, x_call5_2, x_call5_3, x_call5_4, f_69_16, x_goto, u_242_65, u_242_74, f_69_17, u_242_78, ia_70, m_in, m_nin, ↓reduceIte, b01_0, ite_not, if_true, if_false, Int.reduceLT, Int.reduceEq]
  · refine ⟨-1, I, J, I, J, ?_, ?_, h⟩
    · simp (disch := omega) only [v_137_0, u_137_0, x_iload1, x_sipush, x_call3_0, x_call3_1, x_call3_2, x_call3_3, x_call3_4, e_k_s, e_k_i, List.nil_append, List.cons_append, x_ifCond_ne, x_ifCond_neb, x_iload2, x_ifCond_eq, x_ifCond_eqb, x_jsr, u_137_19, x_ireturn, u_137_21, x_aload0, k_0_0, x_call1_0, x_call1_1, x_call1_2, x_call1_3, x_call1_4, f_1_10, x_ixor, x_iand, x_istore3i, x_istore3r, x_istore3u, x_iload3, u_137_53, b_nin, ↓reduceIte, b01_0, ite_not, if_true, if_false, Int.reduceLT, Int.reduceEq]
    · simp (disch := omega) only [v_242_69, u_242_0, x_iload1, x_sipush, x_call3_0, x_call3_1, x_call3_2, x_call3_3, x_call3_4, e_k_s, e_k_i, List.nil_append, List.cons_append, x_ifCond_eq, x_ifCond_eqb, x_iload2, x_ifCond_ne, x_ifCond_neb, x_jsr, u_242_19, x_ireturn, u_242_21, x_aload0, k_69_0, x_ishl, x_isub, x_call2_0, x_call2_1, x_call2_2, x_call2_3, x_call2_4, x_ixor, x_iand, x_istore3i, x_istore3r, x_istore3u, p_69_16, x_iload3, x_call5_0, x_call5_1, x_call5_2, x_call5_3, x_call5_4, f_69_16, x_goto, u_242_65, u_242_74, f_69_17, u_242_78, ia_70, m_nin, ↓reduceIte, b01_0, ite_not, if_true, if_false, Int.reduceLT, Int.reduceEq]
theorem kp_loo {ff : Int} {A B : Int → Int} : kp I (loo I ff A B) := fun o k q => by
  have s := scr_14 q
  unfold loo
  by_cases h1 : o = 69
  · subst h1
    have h27 : k ≠ 27 := fun z => q (by unfold scr; omega)
    rw [if_pos rfl, if_neg h27]
  · rw [if_neg h1, if_neg s.2.2.2.2.2.2.2.2.2.1, if_neg s.2.2.2.2.2.2.2.2.2.2]
theorem q_lost (h : Rel I J) {a : Int} (ha : rg a) : pr X d I J 147 262 [.int (iI a)] := by
  have hi := h.1.1
  have hp := h.1.2.2.1
  have hself : mk I (I 1 9) (cof I) (I 1 13) (I 73) = I := mk_self h.1.2.2.2.2.2.2
  by_cases q : 0 ≤ a ∧ a ≤ 3
  · obtain ⟨ff, A, B, e2⟩ := m_los (X := X) (d := d + 25) (J := J) (M := I) hi h.1.2.2.2.1 hp h.1.2.2.2.2.2.1 (c := cof I) (sc := I 1 13) (P := I 73) q
    rw [lost_same hp q, hself] at e2
    refine pr_q h (I1 := I) ?_ (kp_rfl I) e2 (kp_mk hself kp_loo rfl)
    by_cases q2 : a = 0
    · subst q2
      have e1 := t_cfn (X := X) (d := d + 25) (J := J) hi hp
      simp (disch := omega) only [v_147_0, u_147_0, x_iload1, x_sipush, x_call3_0, x_call3_1, x_call3_2, x_call3_3, x_call3_4, e_k_s, e_k_i, List.nil_append, List.cons_append, x_ifCond_eq, x_ifCond_eqb, x_ireturn, u_147_11, x_ifCond_ne, x_ifCond_neb, x_aload0, k_0_0, x_call1_0, x_call1_1, x_call1_2, x_call1_3, x_call1_4, x_goto, u_147_25, x_call2_0, x_call2_1, x_call2_2, x_call2_3, x_call2_4, x_jsr, u_147_33, b_in, e1, ↓reduceIte, b01_0, ite_not, if_true, if_false, Int.reduceLT, Int.reduceEq]
    · have e1 := t_ffc (X := X) (d := d + 25) (J := J) hi hp (v := a) (by omega)
      rw [if_neg q2]
      simp (disch := omega) only [v_147_0, u_147_0, x_iload1, x_sipush, x_call3_0, x_call3_1, x_call3_2, x_call3_3, x_call3_4, e_k_s, e_k_i, List.nil_append, List.cons_append, x_ifCond_eq, x_ifCond_eqb, x_ireturn, u_147_11, x_ifCond_ne, x_ifCond_neb, x_aload0, k_0_0, x_call1_0, x_call1_1, x_call1_2, x_call1_3, x_call1_4, x_goto, u_147_25, x_call2_0, x_call2_1, x_call2_2, x_call2_3, x_call2_4, x_jsr, u_147_33, b_in, e1, ↓reduceIte, b01_0, ite_not, if_true, if_false, Int.reduceLT, Int.reduceEq]
      rw [if_neg q2]
  · refine ⟨-1, I, J, I, J, ?_, ?_, h⟩
    · simp (disch := omega) only [v_147_0, u_147_0, x_iload1, x_sipush, x_call3_0, x_call3_1, x_call3_2, x_call3_3, x_call3_4, e_k_s, e_k_i, List.nil_append, List.cons_append, x_ifCond_eq, x_ifCond_eqb, x_ireturn, u_147_11, x_ifCond_ne, x_ifCond_neb, x_aload0, k_0_0, x_call1_0, x_call1_1, x_call1_2, x_call1_3, x_call1_4, x_goto, u_147_25, x_call2_0, x_call2_1, x_call2_2, x_call2_3, x_call2_4, x_jsr, u_147_33, b_nin, ↓reduceIte, b01_0, ite_not, if_true, if_false, Int.reduceLT, Int.reduceEq]
    · simp (disch := omega) only [v_262_69, u_262_0, x_iload1, x_sipush, x_call3_0, x_call3_1, x_call3_2, x_call3_3, x_call3_4, e_k_s, e_k_i, List.nil_append, List.cons_append, x_ifCond_ne, x_ifCond_neb, x_ireturn, u_262_11, x_aload0, x_call2_0, x_call2_1, x_call2_2, x_call2_3, x_call2_4, x_istore2i, x_istore2r, x_istore2u, x_ifCond_le, x_iload2, u_262_28, x_goto, u_262_36, x_if_icmp_ne, f_69_27, x_idivI, x_iadd, u_262_53, x_iremI, u_262_71, x_jsr, u_262_78, m_nin, ↓reduceIte, b01_0, ite_not, if_true, if_false, Int.reduceLT, Int.reduceEq]
theorem q_liar (h : Rel I J) : pr X d I J 148 266 [] := by
  have hi := h.1.1
  have hp := h.1.2.2.1
  have hself : mk I (I 1 9) (cof I) (I 1 13) (I 73) = I := mk_self h.1.2.2.2.2.2.2
  obtain ⟨ff, A, B, e2⟩ := m_lia (X := X) (d := d + 25) (J := J) (M := I) hi h.1.2.2.2.1 hp h.1.2.2.2.2.2.1 (c := cof I) (sc := I 1 13) (P := I 73)
  rw [liar_same hp, hself] at e2
  refine pr_q h (I1 := I) ?_ (kp_rfl I) e2 (kp_mk hself kp_loo rfl)
  have e1 := t_llr (X := X) (d := d + 25) (J := J) hi hp
  simp (disch := omega) only [v_148_0, u_148_0, x_aload0, k_0_0, x_call1_0, x_call1_1, x_call1_2, x_call1_3, x_call1_4, e_k_s, e_k_i, List.nil_append, List.cons_append, x_ireturn, e1, ↓reduceIte, b01_0, ite_not, if_true, if_false, Int.reduceLT, Int.reduceEq]
/-- a change of the reports alone -/
theorem Rel_rp (h : Rel I J) {I' : Nat → Int → Int} (hk : ∀ o k, ¬ scr o k → ¬ (15 ≤ o ∧ o ≤ 19) → o ≠ 70 → I' o k = I o k) (hp : rpk I') (hS : ∀ x, x ≠ 8 → x < 74 ∨ 98 ≤ x → I' 70 x = I 70 x) (hP : RP I' (I' 70)) : Rel I' J := by
  have g : ∀ o, 1 ≤ o → o ≤ 13 → I' o = I o := fun o h0 h1 => by
    funext k
    exact hk o k (fun z => by unfold scr at z; omega) (by omega) (by omega)
  have e1 := g 1 (by decide) (by decide)
  have e2 := g 2 (by decide) (by decide)
  have e3 := g 3 (by decide) (by decide)
  have e4 := g 4 (by decide) (by decide)
  have e5 := g 5 (by decide) (by decide)
  have e6 := g 6 (by decide) (by decide)
  have e7 := g 7 (by decide) (by decide)
  have e8 := g 8 (by decide) (by decide)
  have e9 := g 9 (by decide) (by decide)
  have e10 := g 10 (by decide) (by decide)
  have e11 := g 11 (by decide) (by decide)
  have e12 := g 12 (by decide) (by decide)
  have e13 := g 13 (by decide) (by decide)
  obtain ⟨a1, a2, a3, a4, a5, a6, a7⟩ := h.1
  have hn := a1.1
  refine Rel_tb h ⟨?_, rok_eq (by rw [e9]) e10 e11 e12 e13 a2, hp, ?_, RR_eq (by rw [e9]) e10 e11 e12 e13 (hS 7 (by omega) (by omega)) (fun x hx => hS x (by omega) (by omega)) a5, hP, ?_⟩ (fun o k q q1 q2 => hk o k q (by omega) q2)
  · unfold inv
    rw [e1, e2, e3, e4, e5, e6, e7, e8]
    exact a1
  · obtain ⟨b1, b2, b3, b4, b5⟩ := a4
    unfold RE
    rw [e1, e2, e3, e4, e5, e6, e7, e8]
    refine ⟨by rw [hS _ (by omega) (by omega)]; exact b1, by rw [hS _ (by omega) (by omega)]; exact b2, fun k k0 k1 => ?_, fun g g0 g1 => ?_, fun y y0 y1 => ?_⟩
    · rw [hS _ (by omega) (by omega), hS _ (by omega) (by omega), hS _ (by omega) (by omega), hS _ (by omega) (by omega)]
      exact b3 k k0 k1
    · rw [hS _ (by omega) (by omega), hS _ (by omega) (by omega)]
      exact b4 g g0 g1
    · rw [hS _ (by omega) (by omega)]
      exact b5 y y0 y1
  · obtain ⟨c0, c2, c3, c4, c5, c6⟩ := a7
    unfold RC
    rw [e1, hS 0 (by omega) (by omega), hS 2 (by omega) (by omega), hS 3 (by omega) (by omega), hS 4 (by omega) (by omega), hS 5 (by omega) (by omega)]
    refine ⟨c0, c2, c3, c4, c5, fun j j0 j1 => ?_⟩
    rw [hS _ (by omega) (by omega)]
    exact c6 j j0 j1
theorem q_forget (h : Rel I J) : pr X d I J 146 261 [] := by
  have hp := h.1.2.2.1
  have hP := h.1.2.2.2.2.2.1
  refine ⟨I 15 4, up I 15 4 0, J, up (up I 15 4 0) 70 8 0, J, ?_, ?_, ?_⟩
  · simp (disch := omega) only [v_146_0, u_146_0, x_aload0, k_0_0, k_1_8, f_15_4, x_istore1i, x_istore1r, x_istore1u, x_sipush, p_15_4, x_iload1, x_ireturn, ↓reduceIte, b01_0, ite_not, if_true, if_false, Int.reduceLT, Int.reduceEq]
  · have e : up I 15 4 0 70 8 = I 15 4 := by rw [up_o (by decide)]; exact hP.1
    simp (disch := omega) only [v_261_69, u_261_0, x_aload0, x_sipush, x_call3_0, x_call3_1, x_call3_2, x_call3_3, x_call3_4, e_k_s, e_k_i, List.nil_append, List.cons_append, x_ireturn, m_bec, e, ↓reduceIte, b01_0, ite_not, if_true, if_false, Int.reduceLT, Int.reduceEq]
  · refine Rel_rp h (fun o k _ q1 q2 => by rw [up_o q2, up_o (by omega)]) ⟨(by decide : (0 : Int) ≤ 0 ∧ (0 : Int) ≤ 6), fun i i0 i1 => ?_⟩ (fun x hx _ => by rw [up_k hx, up_o (by decide)]) ⟨rfl, fun r r0 r1 => ?_⟩
    · have : i < 0 := i1
      omega
    · have : r < 0 := r1
      omega
theorem q_report (h : Rel I J) {a b l m : Int} (ha : rg a) (hb : rg b) (hl : rg l) (hm : rg m) : pr X d I J 145 260 [.int (iI a), .int (iI b), .int (iI l), .int (iI m)] := by
  obtain ⟨p1, p2⟩ := h.1.2.2.1
  obtain ⟨P1, P2⟩ := h.1.2.2.2.2.2.1
  have main : ∀ t : Int, (t = 40 ∨ t = 9) → (b = 0 → t = 40) → (b ≠ 0 → t = 9) → pr X d I J 145 260 [.int (iI a), .int (iI b), .int (iI l), .int (iI m)] := by
    intro t ht hb0 hb1
    by_cases q1 : 0 ≤ a ∧ a ≤ 15
    · by_cases q2 : 0 ≤ b ∧ b ≤ 1
      · by_cases q3 : 0 ≤ l ∧ l ≤ t
        · by_cases q4 : l ≤ m ∧ m ≤ t
          · by_cases q5 : I 15 4 = 6
            · refine ⟨-2, I, J, I, J, ?_, ?_, h⟩
              · by_cases z : b = 0
                · have := hb0 z
                  subst this
                  simp (disch := omega) only [v_145_0, u_145_0, x_iload1, x_sipush, x_call3_0, x_call3_1, x_call3_2, x_call3_3, x_call3_4, e_k_s, e_k_i, List.nil_append, List.cons_append, x_ifCond_ne, x_ifCond_neb, x_iload2, x_ifCond_eq, x_ifCond_eqb, x_jsr, u_145_19, x_ireturn, u_145_21, x_goto, u_145_30, u_145_32, x_istore5i, x_istore5r, x_istore5u, x_iload3, x_iload5, x_iload4, u_145_55, u_145_57, x_aload0, k_0_0, k_1_8, f_15_4, x_if_icmp_lt, u_145_75, x_call5_0, x_call5_1, x_call5_2, x_call5_3, x_call5_4, z, b_in, q5, ↓reduceIte, b01_0, ite_not, if_true, if_false, Int.reduceLT, Int.reduceEq]
                · have := hb1 z
                  subst this
                  simp (disch := omega) only [v_145_0, u_145_0, x_iload1, x_sipush, x_call3_0, x_call3_1, x_call3_2, x_call3_3, x_call3_4, e_k_s, e_k_i, List.nil_append, List.cons_append, x_ifCond_ne, x_ifCond_neb, x_iload2, x_ifCond_eq, x_ifCond_eqb, x_jsr, u_145_19, x_ireturn, u_145_21, x_goto, u_145_30, u_145_32, x_istore5i, x_istore5r, x_istore5u, x_iload3, x_iload5, x_iload4, u_145_55, u_145_57, x_aload0, k_0_0, k_1_8, f_15_4, x_if_icmp_lt, u_145_75, x_call5_0, x_call5_1, x_call5_2, x_call5_3, x_call5_4, b_in, q5, ↓reduceIte, b01_0, ite_not, if_true, if_false, Int.reduceLT, Int.reduceEq]
                  rw [if_neg z]
              · by_cases z : b = 0
                · have := hb0 z
                  subst this
                  simp (disch := omega) only [v_260_69, u_260_0, x_iload2, x_ifCond_ne, x_ifCond_neb, x_sipush, x_goto, u_260_9, x_jsr, u_260_11, x_istore5i, x_istore5r, x_istore5u, x_iload1, x_call3_0, x_call3_1, x_call3_2, x_call3_3, x_call3_4, e_k_s, e_k_i, List.nil_append, List.cons_append, x_ifCond_eq, x_ifCond_eqb, x_iload3, x_iload5, x_iload4, u_260_53, x_ireturn, u_260_55, x_aload0, k_69_0, x_if_icmp_ne, u_260_70, x_imul, x_iadd, x_istore6i, x_istore6r, x_istore6u, x_iload6, x_dup2, x_isub, ia_70, is_70, z, m_in, P1, q5, ↓reduceIte, b01_0, ite_not, if_true, if_false, Int.reduceLT, Int.reduceEq]
                · have := hb1 z
                  subst this
                  simp (disch := omega) only [v_260_69, u_260_0, x_iload2, x_ifCond_ne, x_ifCond_neb, x_sipush, x_goto, u_260_9, x_jsr, u_260_11, x_istore5i, x_istore5r, x_istore5u, x_iload1, x_call3_0, x_call3_1, x_call3_2, x_call3_3, x_call3_4, e_k_s, e_k_i, List.nil_append, List.cons_append, x_ifCond_eq, x_ifCond_eqb, x_iload3, x_iload5, x_iload4, u_260_53, x_ireturn, u_260_55, x_aload0, k_69_0, x_if_icmp_ne, u_260_70, x_imul, x_iadd, x_istore6i, x_istore6r, x_istore6u, x_iload6, x_dup2, x_isub, ia_70, is_70, m_in, P1, q5, ↓reduceIte, b01_0, ite_not, if_true, if_false, Int.reduceLT, Int.reduceEq]
                  rw [if_neg z]
            · refine ⟨I 15 4, up (up (up (up (up I 16 (I 15 4) a) 17 (I 15 4) b) 18 (I 15 4) l) 19 (I 15 4) m) 15 4 (I 15 4 + 1), J, up (up (up (up (up (up (up (up (up (up I 16 (I 15 4) a) 17 (I 15 4) b) 18 (I 15 4) l) 19 (I 15 4) m) 15 4 (I 15 4 + 1)) 70 (74 + 4 * I 15 4) a) 70 (74 + 4 * I 15 4 + 1) b) 70 (74 + 4 * I 15 4 + 2) l) 70 (74 + 4 * I 15 4 + 3) m) 70 8 (I 15 4 + 1), J, ?_, ?_, ?_⟩
              · have r16 : ∀ (M : Nat → Int → Int) (o : Nat) (k v : Int), o ≠ 15 → up M o k v 15 4 = M 15 4 := fun M o k v ho => up_o (Ne.symm ho)
                have r1 : ∀ k v, up I 16 k v 15 4 = I 15 4 := fun k v => rfl
                have r2 : ∀ (M : Nat → Int → Int) k v, up M 17 k v 15 4 = M 15 4 := fun M k v => rfl
                have r3 : ∀ (M : Nat → Int → Int) k v, up M 18 k v 15 4 = M 15 4 := fun M k v => rfl
                have r4 : ∀ (M : Nat → Int → Int) k v, up M 19 k v 15 4 = M 15 4 := fun M k v => rfl
                by_cases z : b = 0
                · have := hb0 z
                  subst this
                  simp (disch := omega) only [v_145_0, u_145_0, x_iload1, x_sipush, x_call3_0, x_call3_1, x_call3_2, x_call3_3, x_call3_4, e_k_s, e_k_i, List.nil_append, List.cons_append, x_ifCond_ne, x_ifCond_neb, x_iload2, x_ifCond_eq, x_ifCond_eqb, x_jsr, u_145_19, x_ireturn, u_145_21, x_goto, u_145_30, u_145_32, x_istore5i, x_istore5r, x_istore5u, x_iload3, x_iload5, x_iload4, u_145_55, u_145_57, x_aload0, k_0_0, k_1_8, f_15_4, x_if_icmp_lt, u_145_75, x_call5_0, x_call5_1, x_call5_2, x_call5_3, x_call5_4, v_49_15, u_49_0, u_49_12, k_15_0, k_15_1, k_15_2, k_15_3, x_dup_i, x_dup_r, x_dup_x1, x_iadd, p_15_4, is_16, is_17, is_18, is_19, z, b_in, r1, r2, r3, r4, ↓reduceIte, b01_0, ite_not, if_true, if_false, Int.reduceLT, Int.reduceEq]
                  rw [if_pos (by omega), if_pos (by omega)]
                · have := hb1 z
                  subst this
                  simp (disch := omega) only [v_145_0, u_145_0, x_iload1, x_sipush, x_call3_0, x_call3_1, x_call3_2, x_call3_3, x_call3_4, e_k_s, e_k_i, List.nil_append, List.cons_append, x_ifCond_ne, x_ifCond_neb, x_iload2, x_ifCond_eq, x_ifCond_eqb, x_jsr, u_145_19, x_ireturn, u_145_21, x_goto, u_145_30, u_145_32, x_istore5i, x_istore5r, x_istore5u, x_iload3, x_iload5, x_iload4, u_145_55, u_145_57, x_aload0, k_0_0, k_1_8, f_15_4, x_if_icmp_lt, u_145_75, x_call5_0, x_call5_1, x_call5_2, x_call5_3, x_call5_4, v_49_15, u_49_0, u_49_12, k_15_0, k_15_1, k_15_2, k_15_3, x_dup_i, x_dup_r, x_dup_x1, x_iadd, p_15_4, is_16, is_17, is_18, is_19, b_in, r1, r2, r3, r4, ↓reduceIte, b01_0, ite_not, if_true, if_false, Int.reduceLT, Int.reduceEq]
                  rw [if_neg z, if_pos (by omega), if_pos (by omega)]
              · have s0 : up (up (up (up (up I 16 (I 15 4) a) 17 (I 15 4) b) 18 (I 15 4) l) 19 (I 15 4) m) 15 4 (I 15 4 + 1) 70 8 = I 15 4 := P1
                have s1 : ∀ (M : Nat → Int → Int) x v, 74 ≤ x → up M 70 x v 70 8 = M 70 8 := fun M x v hx => up_k (by omega)
                have s2 : I 15 4 + 1 - 1 = I 15 4 := by omega
                by_cases z : b = 0
                · have := hb0 z
                  subst this
                  rw [z] at s0
                  simp (disch := omega) only [v_260_69, u_260_0, x_iload2, x_ifCond_ne, x_ifCond_neb, x_sipush, x_goto, u_260_9, x_jsr, u_260_11, x_istore5i, x_istore5r, x_istore5u, x_iload1, x_call3_0, x_call3_1, x_call3_2, x_call3_3, x_call3_4, e_k_s, e_k_i, List.nil_append, List.cons_append, x_ifCond_eq, x_ifCond_eqb, x_iload3, x_iload5, x_iload4, u_260_53, x_ireturn, u_260_55, x_aload0, k_69_0, x_if_icmp_ne, u_260_70, x_imul, x_iadd, x_istore6i, x_istore6r, x_istore6u, x_iload6, x_dup2, x_isub, ia_70, is_70, z, m_in, s0, s1, up_self, s2, ↓reduceIte, b01_0, ite_not, if_true, if_false, Int.reduceLT, Int.reduceEq]
                  rw [if_neg (by omega)]
                · have := hb1 z
                  subst this
                  simp (disch := omega) only [v_260_69, u_260_0, x_iload2, x_ifCond_ne, x_ifCond_neb, x_sipush, x_goto, u_260_9, x_jsr, u_260_11, x_istore5i, x_istore5r, x_istore5u, x_iload1, x_call3_0, x_call3_1, x_call3_2, x_call3_3, x_call3_4, e_k_s, e_k_i, List.nil_append, List.cons_append, x_ifCond_eq, x_ifCond_eqb, x_iload3, x_iload5, x_iload4, u_260_53, x_ireturn, u_260_55, x_aload0, k_69_0, x_if_icmp_ne, u_260_70, x_imul, x_iadd, x_istore6i, x_istore6r, x_istore6u, x_iload6, x_dup2, x_isub, ia_70, is_70, m_in, s0, s1, up_self, s2, ↓reduceIte, b01_0, ite_not, if_true, if_false, Int.reduceLT, Int.reduceEq]
                  rw [if_neg z, if_neg (by omega)]
              · refine Rel_rp h (fun o k _ z1 z2 => ?_) ⟨?_, fun i i0 i1 => ?_⟩ (fun x hx hx2 => ?_) ⟨?_, fun r r0 r1 => ?_⟩
                · rw [up_o z2, up_o z2, up_o z2, up_o z2, up_o z2, up_o (by omega), up_o (by omega), up_o (by omega), up_o (by omega), up_o (by omega)]
                · show 0 ≤ I 15 4 + 1 ∧ I 15 4 + 1 ≤ 6
                  omega
                · have i1' : i < I 15 4 + 1 := i1
                  show (0 ≤ up I 16 (I 15 4) a 16 i ∧ up I 16 (I 15 4) a 16 i ≤ 15) ∧ (0 ≤ up I 17 (I 15 4) b 17 i ∧ up I 17 (I 15 4) b 17 i ≤ 1) ∧ (0 ≤ up I 18 (I 15 4) l 18 i ∧ up I 18 (I 15 4) l 18 i ≤ 40) ∧ (0 ≤ up I 19 (I 15 4) m 19 i ∧ up I 19 (I 15 4) m 19 i ≤ 40)
                  rw [up_row, up_row, up_row, up_row]
                  by_cases e : i = I 15 4
                  · simp only [if_pos e]
                    omega
                  · simp only [if_neg e]
                    exact p2 i i0 (by omega)
                · rw [up_k hx, up_k (by omega), up_k (by omega), up_k (by omega), up_k (by omega)]
                  rfl
                · rw [up_self]
                  rfl
                · have r1' : r < I 15 4 + 1 := r1
                  show up _ 70 8 _ 70 _ = up I 16 (I 15 4) a 16 r ∧ up _ 70 8 _ 70 _ = up I 17 (I 15 4) b 17 r ∧ up _ 70 8 _ 70 _ = up I 18 (I 15 4) l 18 r ∧ up _ 70 8 _ 70 _ = up I 19 (I 15 4) m 19 r
                  rw [up_k (by omega), up_k (by omega), up_k (by omega), up_k (by omega)]
                  simp only [up_row]
                  by_cases e : r = I 15 4
                  · subst e
                    refine ⟨?_, ?_, ?_, ?_⟩ <;> ((repeat' split) <;> first | rfl | (exfalso; omega))
                  · simp only [if_neg e]
                    obtain ⟨A1, A2, A3, A4⟩ := P2 r r0 (by omega)
                    refine ⟨?_, ?_, ?_, ?_⟩ <;> ((repeat' split) <;> first | assumption | (exfalso; omega))
          · refine ⟨-1, I, J, I, J, ?_, ?_, h⟩
            · by_cases z : b = 0
              · have := hb0 z
                subst this
                simp (disch := omega) only [v_145_0, u_145_0, x_iload1, x_sipush, x_call3_0, x_call3_1, x_call3_2, x_call3_3, x_call3_4, e_k_s, e_k_i, List.nil_append, List.cons_append, x_ifCond_ne, x_ifCond_neb, x_iload2, x_ifCond_eq, x_ifCond_eqb, x_jsr, u_145_19, x_ireturn, u_145_21, x_goto, u_145_30, u_145_32, x_istore5i, x_istore5r, x_istore5u, x_iload3, x_iload5, x_iload4, u_145_55, u_145_57, x_aload0, k_0_0, k_1_8, f_15_4, x_if_icmp_lt, u_145_75, x_call5_0, x_call5_1, x_call5_2, x_call5_3, x_call5_4, z, b_in, b_nin, ↓reduceIte, b01_0, ite_not, if_true, if_false, Int.reduceLT, Int.reduceEq]
              · have := hb1 z
                subst this
                simp (disch := omega) only [v_145_0, u_145_0, x_iload1, x_sipush, x_call3_0, x_call3_1, x_call3_2, x_call3_3, x_call3_4, e_k_s, e_k_i, List.nil_append, List.cons_append, x_ifCond_ne, x_ifCond_neb, x_iload2, x_ifCond_eq, x_ifCond_eqb, x_jsr, u_145_19, x_ireturn, u_145_21, x_goto, u_145_30, u_145_32, x_istore5i, x_istore5r, x_istore5u, x_iload3, x_iload5, x_iload4, u_145_55, u_145_57, x_aload0, k_0_0, k_1_8, f_15_4, x_if_icmp_lt, u_145_75, x_call5_0, x_call5_1, x_call5_2, x_call5_3, x_call5_4, b_in, b_nin, ↓reduceIte, b01_0, ite_not, if_true, if_false, Int.reduceLT, Int.reduceEq]
                rw [if_neg z]
            · by_cases z : b = 0
              · have := hb0 z
                subst this
                simp (disch := omega) only [v_260_69, u_260_0, x_iload2, x_ifCond_ne, x_ifCond_neb, x_sipush, x_goto, u_260_9, x_jsr, u_260_11, x_istore5i, x_istore5r, x_istore5u, x_iload1, x_call3_0, x_call3_1, x_call3_2, x_call3_3, x_call3_4, e_k_s, e_k_i, List.nil_append, List.cons_append, x_ifCond_eq, x_ifCond_eqb, x_iload3, x_iload5, x_iload4, u_260_53, x_ireturn, u_260_55, x_aload0, k_69_0, x_if_icmp_ne, u_260_70, x_imul, x_iadd, x_istore6i, x_istore6r, x_istore6u, x_iload6, x_dup2, x_isub, ia_70, is_70, z, m_in, m_nin, ↓reduceIte, b01_0, ite_not, if_true, if_false, Int.reduceLT, Int.reduceEq]
              · have := hb1 z
                subst this
                simp (disch := omega) only [v_260_69, u_260_0, x_iload2, x_ifCond_ne, x_ifCond_neb, x_sipush, x_goto, u_260_9, x_jsr, u_260_11, x_istore5i, x_istore5r, x_istore5u, x_iload1, x_call3_0, x_call3_1, x_call3_2, x_call3_3, x_call3_4, e_k_s, e_k_i, List.nil_append, List.cons_append, x_ifCond_eq, x_ifCond_eqb, x_iload3, x_iload5, x_iload4, u_260_53, x_ireturn, u_260_55, x_aload0, k_69_0, x_if_icmp_ne, u_260_70, x_imul, x_iadd, x_istore6i, x_istore6r, x_istore6u, x_iload6, x_dup2, x_isub, ia_70, is_70, m_in, m_nin, ↓reduceIte, b01_0, ite_not, if_true, if_false, Int.reduceLT, Int.reduceEq]
                rw [if_neg z]
        · refine ⟨-1, I, J, I, J, ?_, ?_, h⟩
          · by_cases z : b = 0
            · have := hb0 z
              subst this
              simp (disch := omega) only [v_145_0, u_145_0, x_iload1, x_sipush, x_call3_0, x_call3_1, x_call3_2, x_call3_3, x_call3_4, e_k_s, e_k_i, List.nil_append, List.cons_append, x_ifCond_ne, x_ifCond_neb, x_iload2, x_ifCond_eq, x_ifCond_eqb, x_jsr, u_145_19, x_ireturn, u_145_21, x_goto, u_145_30, u_145_32, x_istore5i, x_istore5r, x_istore5u, x_iload3, x_iload5, x_iload4, u_145_55, u_145_57, x_aload0, k_0_0, k_1_8, f_15_4, x_if_icmp_lt, u_145_75, x_call5_0, x_call5_1, x_call5_2, x_call5_3, x_call5_4, z, b_in, b_nin, ↓reduceIte, b01_0, ite_not, if_true, if_false, Int.reduceLT, Int.reduceEq]
            · have := hb1 z
              subst this
              simp (disch := omega) only [v_145_0, u_145_0, x_iload1, x_sipush, x_call3_0, x_call3_1, x_call3_2, x_call3_3, x_call3_4, e_k_s, e_k_i, List.nil_append, List.cons_append, x_ifCond_ne, x_ifCond_neb, x_iload2, x_ifCond_eq, x_ifCond_eqb, x_jsr, u_145_19, x_ireturn, u_145_21, x_goto, u_145_30, u_145_32, x_istore5i, x_istore5r, x_istore5u, x_iload3, x_iload5, x_iload4, u_145_55, u_145_57, x_aload0, k_0_0, k_1_8, f_15_4, x_if_icmp_lt, u_145_75, x_call5_0, x_call5_1, x_call5_2, x_call5_3, x_call5_4, b_in, b_nin, ↓reduceIte, b01_0, ite_not, if_true, if_false, Int.reduceLT, Int.reduceEq]
              rw [if_neg z]
          · by_cases z : b = 0
            · have := hb0 z
              subst this
              simp (disch := omega) only [v_260_69, u_260_0, x_iload2, x_ifCond_ne, x_ifCond_neb, x_sipush, x_goto, u_260_9, x_jsr, u_260_11, x_istore5i, x_istore5r, x_istore5u, x_iload1, x_call3_0, x_call3_1, x_call3_2, x_call3_3, x_call3_4, e_k_s, e_k_i, List.nil_append, List.cons_append, x_ifCond_eq, x_ifCond_eqb, x_iload3, x_iload5, x_iload4, u_260_53, x_ireturn, u_260_55, x_aload0, k_69_0, x_if_icmp_ne, u_260_70, x_imul, x_iadd, x_istore6i, x_istore6r, x_istore6u, x_iload6, x_dup2, x_isub, ia_70, is_70, z, m_in, m_nin, ↓reduceIte, b01_0, ite_not, if_true, if_false, Int.reduceLT, Int.reduceEq]
            · have := hb1 z
              subst this
              simp (disch := omega) only [v_260_69, u_260_0, x_iload2, x_ifCond_ne, x_ifCond_neb, x_sipush, x_goto, u_260_9, x_jsr, u_260_11, x_istore5i, x_istore5r, x_istore5u, x_iload1, x_call3_0, x_call3_1, x_call3_2, x_call3_3, x_call3_4, e_k_s, e_k_i, List.nil_append, List.cons_append, x_ifCond_eq, x_ifCond_eqb, x_iload3, x_iload5, x_iload4, u_260_53, x_ireturn, u_260_55, x_aload0, k_69_0, x_if_icmp_ne, u_260_70, x_imul, x_iadd, x_istore6i, x_istore6r, x_istore6u, x_iload6, x_dup2, x_isub, ia_70, is_70, m_in, m_nin, ↓reduceIte, b01_0, ite_not, if_true, if_false, Int.reduceLT, Int.reduceEq]
              rw [if_neg z]
      · refine ⟨-1, I, J, I, J, ?_, ?_, h⟩
        · simp (disch := omega) only [v_145_0, u_145_0, x_iload1, x_sipush, x_call3_0, x_call3_1, x_call3_2, x_call3_3, x_call3_4, e_k_s, e_k_i, List.nil_append, List.cons_append, x_ifCond_ne, x_ifCond_neb, x_iload2, x_ifCond_eq, x_ifCond_eqb, x_jsr, u_145_19, x_ireturn, u_145_21, x_goto, u_145_30, u_145_32, x_istore5i, x_istore5r, x_istore5u, x_iload3, x_iload5, x_iload4, u_145_55, u_145_57, x_aload0, k_0_0, k_1_8, f_15_4, x_if_icmp_lt, u_145_75, x_call5_0, x_call5_1, x_call5_2, x_call5_3, x_call5_4, b_in, b_nin, ↓reduceIte, b01_0, ite_not, if_true, if_false, Int.reduceLT, Int.reduceEq]
        · simp (disch := omega) only [v_260_69, u_260_0, x_iload2, x_ifCond_ne, x_ifCond_neb, x_sipush, x_goto, u_260_9, x_jsr, u_260_11, x_istore5i, x_istore5r, x_istore5u, x_iload1, x_call3_0, x_call3_1, x_call3_2, x_call3_3, x_call3_4, e_k_s, e_k_i, List.nil_append, List.cons_append, x_ifCond_eq, x_ifCond_eqb, x_iload3, x_iload5, x_iload4, u_260_53, x_ireturn, u_260_55, x_aload0, k_69_0, x_if_icmp_ne, u_260_70, x_imul, x_iadd, x_istore6i, x_istore6r, x_istore6u, x_iload6, x_dup2, x_isub, ia_70, is_70, m_in, m_nin, ↓reduceIte, b01_0, ite_not, if_true, if_false, Int.reduceLT, Int.reduceEq]
          (repeat' split) <;> first | rfl | (exfalso; omega)
    · refine ⟨-1, I, J, I, J, ?_, ?_, h⟩
      · simp (disch := omega) only [v_145_0, u_145_0, x_iload1, x_sipush, x_call3_0, x_call3_1, x_call3_2, x_call3_3, x_call3_4, e_k_s, e_k_i, List.nil_append, List.cons_append, x_ifCond_ne, x_ifCond_neb, x_iload2, x_ifCond_eq, x_ifCond_eqb, x_jsr, u_145_19, x_ireturn, u_145_21, x_goto, u_145_30, u_145_32, x_istore5i, x_istore5r, x_istore5u, x_iload3, x_iload5, x_iload4, u_145_55, u_145_57, x_aload0, k_0_0, k_1_8, f_15_4, x_if_icmp_lt, u_145_75, x_call5_0, x_call5_1, x_call5_2, x_call5_3, x_call5_4, b_nin, ↓reduceIte, b01_0, ite_not, if_true, if_false, Int.reduceLT, Int.reduceEq]
      · simp (disch := omega) only [v_260_69, u_260_0, x_iload2, x_ifCond_ne, x_ifCond_neb, x_sipush, x_goto, u_260_9, x_jsr, u_260_11, x_istore5i, x_istore5r, x_istore5u, x_iload1, x_call3_0, x_call3_1, x_call3_2, x_call3_3, x_call3_4, e_k_s, e_k_i, List.nil_append, List.cons_append, x_ifCond_eq, x_ifCond_eqb, x_iload3, x_iload5, x_iload4, u_260_53, x_ireturn, u_260_55, x_aload0, k_69_0, x_if_icmp_ne, u_260_70, x_imul, x_iadd, x_istore6i, x_istore6r, x_istore6u, x_iload6, x_dup2, x_isub, ia_70, is_70, m_nin, ↓reduceIte, b01_0, ite_not, if_true, if_false, Int.reduceLT, Int.reduceEq]
        (repeat' split) <;> first | rfl | (exfalso; omega)
  by_cases z : b = 0
  · exact main 40 (Or.inl rfl) (fun _ => rfl) (fun y => absurd z y)
  · exact main 9 (Or.inr rfl) (fun y => absurd y z) (fun _ => rfl)
end
