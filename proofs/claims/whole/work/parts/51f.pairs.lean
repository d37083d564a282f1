/-! PAIRS: lots, state, plateOf, plate -/
section
variable {X : e_X} {d : Nat} {I J : Nat → Int → Int}
theorem q_lot (h : Rel I J) : pr X d I J 150 268 [] := by
  have hi := h.1.1
  have hR := h.1.2.1
  have hE := h.1.2.2.2.1
  have hQ := h.1.2.2.2.2.1
  have hC := h.1.2.2.2.2.2.2
  have hc := inv_cof hi
  have h16 := hi.2.2.2.1
  have hy := hi.2.2.1
  have eo := t_over (X := X) (d := d + 28) (I := I) (J := J) (y := I 1 11) (e := I 1 12) rfl rfl ⟨⟨by omega, by omega⟩, ⟨by omega, by omega⟩⟩
  have mo := m_over (X := X) (d := d + 28) (I := I) (J := J) (y := I 1 11) (e := I 1 12) hC.1 hE.1 ⟨⟨by omega, by omega⟩, ⟨by omega, by omega⟩⟩
  by_cases q : I 1 12 ≤ I 1 11
  · rw [if_pos q] at eo mo
    refine ⟨-4, I, J, I, J, ?_, ?_, h⟩
    · simp (disch := omega) only [v_150_0, u_150_0, x_aload0, k_0_0, x_call1_0, x_call1_1, x_call1_2, x_call1_3, x_call1_4, e_k_s, e_k_i, List.nil_append, List.cons_append, x_ifCond_eq, x_ifCond_eqb, x_sipush, x_ireturn, u_150_13, x_call2_0, x_call2_1, x_call2_2, x_call2_3, x_call2_4, eo, ↓reduceIte, b01_0, ite_not, if_true, if_false, Int.reduceLT, Int.reduceEq]
    · simp (disch := omega) only [v_268_69, u_268_0, x_aload0, x_call1_0, x_call1_1, x_call1_2, x_call1_3, x_call1_4, e_k_s, e_k_i, List.nil_append, List.cons_append, x_ifCond_eq, x_ifCond_eqb, x_sipush, x_goto, u_268_12, x_jsr, u_268_16, x_ireturn, mo, ↓reduceIte, b01_0, ite_not, if_true, if_false, Int.reduceLT, Int.reduceEq]
  · rw [if_neg q] at eo
    have hb := zl_b hi.1 (zn (I 1 16))
    have e0 := t_lot (X := X) (d := d + 28) (J := J) hi (c := cof I) (F := I 14) (z := I 1 16)
    rw [up_id, bk_self] at e0
    have hsq : sq (bk (up I 1 16 (zn (I 1 16))) (cof I) (I 14)) I := sq_tr sq_bk (sq_up (by omega))
    obtain ⟨F', e1⟩ := t_pss (X := X) (d := d + 23) (J := J) (I := bk (up I 1 16 (zn (I 1 16))) (cof I) (I 14)) (inv_sq hsq hc hi) (rok_sq hsq hR) (c := cof I) (cok_sq hsq hc) (I 14) (a := zl I (zn (I 1 16))) (by have := hi.1; omega)
    rw [pas_sq hsq, bk_bk] at e1
    have hp := pas_ok hi hc (show I 1 11 < I 1 12 by omega) (zl I (zn (I 1 16)))
    generalize hB : bk (up (bk (up I 1 16 (zn (I 1 16))) (cof I) (I 14)) 1 13 (bk (up I 1 16 (zn (I 1 16))) (cof I) (I 14) 1 13 + (pas I (cof I) (zl I (zn (I 1 16)))).1)) (pas I (cof I) (zl I (zn (I 1 16)))).2 F' = B at e1
    have b70 : B 70 = I 70 := by rw [← hB]; rfl
    have hself : mk B (I 1 9) (cof I) (I 1 13) (B 73) = B := mk_self2 hC b70
    have hid : up B 70 5 (I 1 16) = B := by
      have : B 70 5 = I 1 16 := by rw [b70]; exact hC.2.2.2.2.1
      rw [← this]
      exact up_id
    obtain ⟨P', e2⟩ := m_lot (X := X) (d := d + 20) (J := J) (M := B) hi (by rw [b70]; exact hE) (by rw [b70]; exact hQ) hR hc (show I 1 11 < I 1 12 by omega) (sc := I 1 13) (z := I 1 16) (B 73)
    rw [hid, hself] at e2
    have mo2 := m_over (X := X) (d := d + 28) (I := B) (J := J) (y := I 1 11) (e := I 1 12) (by rw [b70]; exact hC.1) (by rw [b70]; exact hE.1) ⟨⟨by omega, by omega⟩, ⟨by omega, by omega⟩⟩
    rw [if_neg q] at mo2
    have u1 : ∀ k, up B 70 5 (zn (I 1 16)) 1 k = B 1 k := fun k => up_o (by decide)
    refine ⟨(pas I (cof I) (zl I (zn (I 1 16)))).1, B, J, mk (up B 70 5 (zn (I 1 16))) (I 1 9) (pas I (cof I) (zl I (zn (I 1 16)))).2 (I 1 13 + (pas I (cof I) (zl I (zn (I 1 16)))).1) P', J, ?_, ?_, Rel_mk h (fun o k z q1 q2 => ?_) ?_ ?_ ?_ hp.1 ?_ ?_ (fun x hx => ?_)⟩
    · simp (disch := omega) only [v_150_0, u_150_0, x_aload0, k_0_0, x_call1_0, x_call1_1, x_call1_2, x_call1_3, x_call1_4, e_k_s, e_k_i, List.nil_append, List.cons_append, x_ifCond_eq, x_ifCond_eqb, x_sipush, x_ireturn, u_150_13, x_call2_0, x_call2_1, x_call2_2, x_call2_3, x_call2_4, eo, e0, e1, ↓reduceIte, b01_0, ite_not, if_true, if_false, Int.reduceLT, Int.reduceEq]
    · simp (disch := omega) only [v_268_69, u_268_0, x_aload0, x_call1_0, x_call1_1, x_call1_2, x_call1_3, x_call1_4, e_k_s, e_k_i, List.nil_append, List.cons_append, x_ifCond_eq, x_ifCond_eqb, x_sipush, x_goto, u_268_12, x_jsr, u_268_16, x_ireturn, mo2, e2, ↓reduceIte, b01_0, ite_not, if_true, if_false, Int.reduceLT, Int.reduceEq]
    · rw [up_o q2, ← hB, bk_o q1 (scr_14 z).1, up_o q1, bk_o q1 (scr_14 z).1, up_o q1]
    · rw [u1, ← hB]; rfl
    · rw [u1, ← hB]; rfl
    · unfold cof
      rw [u1, u1, u1, u1, ← hB]
      rfl
    · rw [u1, ← hB]; rfl
    · rw [up_self, u1, ← hB]; rfl
    · rw [up_k hx, b70]
theorem q_times (h : Rel I J) {a b : Int} (ha : rg a) (hb : rg b) : pr X d I J 151 270 [.int (iI a), .int (iI b)] := by
  have hi := h.1.1
  have hc := inv_cof hi
  by_cases q1 : 1 ≤ a ∧ a ≤ 40
  · by_cases q2 : 0 ≤ b ∧ b ≤ 999
    · obtain ⟨F', e1⟩ := b_tim (X := X) (d := d + 23) (J := J) hi h.1.2.1 hc (n := a) (v := b) q1 q2 (I 14)
      rw [bk_self] at e1
      have hself : mk (bk I (cof I) F') (I 1 9) (cof I) (I 1 13) (bk I (cof I) F' 73) = bk I (cof I) F' := mk_self2 h.1.2.2.2.2.2.2 rfl
      obtain ⟨L, P', e2⟩ := m_tim (X := X) (d := d + 20) (J := J) (M := bk I (cof I) F') hi h.1.2.2.2.1 h.1.2.2.2.2.1 h.1.2.1 hc (sc := I 1 13) (n := a) (v := b) q1 q2 (bk I (cof I) F' 73)
      rw [hself, show bk I (cof I) F' 70 5 = I 1 16 from h.1.2.2.2.2.2.2.2.2.2.2.1] at e2
      exact pr_q h e1 kp_bk e2 (kp_mk72 hself)
    · refine ⟨-1, I, J, I, J, ?_, ?_, h⟩
      · simp (disch := omega) only [v_151_0, u_151_0, x_iload1, x_sipush, x_call3_0, x_call3_1, x_call3_2, x_call3_3, x_call3_4, e_k_s, e_k_i, List.nil_append, List.cons_append, x_ifCond_ne, x_ifCond_neb, x_iload2, x_ifCond_eq, x_ifCond_eqb, x_jsr, u_151_21, x_ireturn, u_151_23, x_aload0, k_0_0, f_1_16, x_istore3i, x_istore3r, x_istore3u, x_istore4i, x_istore4r, x_istore4u, x_istore5i, x_istore5r, x_istore5u, x_iload5, x_if_icmp_ge, x_call1_0, x_call1_1, x_call1_2, x_call1_3, x_call1_4, x_if_icmp_lt, x_iinc4i, x_iinc4r, x_iinc4u, u_151_57, x_iinc5i, x_iinc5r, x_iinc5u, x_goto, u_151_63, x_iload3, p_1_16, x_iload4, b_in, b_nin, ↓reduceIte, b01_0, ite_not, if_true, if_false, Int.reduceLT, Int.reduceEq]
      · simp (disch := omega) only [v_270_69, u_270_0, x_iload1, x_sipush, x_call3_0, x_call3_1, x_call3_2, x_call3_3, x_call3_4, e_k_s, e_k_i, List.nil_append, List.cons_append, x_ifCond_eq, x_ifCond_eqb, x_iload2, x_ifCond_ne, x_ifCond_neb, x_jsr, u_270_21, x_ireturn, u_270_23, x_aload0, x_call1_0, x_call1_1, x_call1_2, x_call1_3, x_call1_4, x_istore3i, x_istore3r, x_istore3u, x_istore4i, x_istore4r, x_istore4u, x_iload4, x_if_icmp_ge, x_istore5i, x_istore5r, x_istore5u, u_270_41, x_iload5, x_iadd, x_goto, u_270_60, x_iload3, x_if_icmp_lt, u_270_71, u_270_72, k_69_0, x_istore6i, x_istore6r, x_istore6u, x_iload6, x_iinc4i, x_iinc4r, x_iinc4u, u_270_100, ia_70, is_70, m_in, m_nin, ↓reduceIte, b01_0, ite_not, if_true, if_false, Int.reduceLT, Int.reduceEq]
  · refine ⟨-1, I, J, I, J, ?_, ?_, h⟩
    · simp (disch := omega) only [v_151_0, u_151_0, x_iload1, x_sipush, x_call3_0, x_call3_1, x_call3_2, x_call3_3, x_call3_4, e_k_s, e_k_i, List.nil_append, List.cons_append, x_ifCond_ne, x_ifCond_neb, x_iload2, x_ifCond_eq, x_ifCond_eqb, x_jsr, u_151_21, x_ireturn, u_151_23, x_aload0, k_0_0, f_1_16, x_istore3i, x_istore3r, x_istore3u, x_istore4i, x_istore4r, x_istore4u, x_istore5i, x_istore5r, x_istore5u, x_iload5, x_if_icmp_ge, x_call1_0, x_call1_1, x_call1_2, x_call1_3, x_call1_4, x_if_icmp_lt, x_iinc4i, x_iinc4r, x_iinc4u, u_151_57, x_iinc5i, x_iinc5r, x_iinc5u, x_goto, u_151_63, x_iload3, p_1_16, x_iload4, b_nin, ↓reduceIte, b01_0, ite_not, if_true, if_false, Int.reduceLT, Int.reduceEq]
    · simp (disch := omega) only [v_270_69, u_270_0, x_iload1, x_sipush, x_call3_0, x_call3_1, x_call3_2, x_call3_3, x_call3_4, e_k_s, e_k_i, List.nil_append, List.cons_append, x_ifCond_eq, x_ifCond_eqb, x_iload2, x_ifCond_ne, x_ifCond_neb, x_jsr, u_270_21, x_ireturn, u_270_23, x_aload0, x_call1_0, x_call1_1, x_call1_2, x_call1_3, x_call1_4, x_istore3i, x_istore3r, x_istore3u, x_istore4i, x_istore4r, x_istore4u, x_iload4, x_if_icmp_ge, x_istore5i, x_istore5r, x_istore5u, u_270_41, x_iload5, x_iadd, x_goto, u_270_60, x_iload3, x_if_icmp_lt, u_270_71, u_270_72, k_69_0, x_istore6i, x_istore6r, x_istore6u, x_iload6, x_iinc4i, x_iinc4r, x_iinc4u, u_270_100, ia_70, is_70, m_nin, ↓reduceIte, b01_0, ite_not, if_true, if_false, Int.reduceLT, Int.reduceEq]
theorem q_state (h : Rel I J) {a : Int} (ha : rg a) : pr X d I J 122 216 [.int (iI a)] := by
  have hi := h.1.1
  have hE := h.1.2.2.2.1
  have hc := inv_cof hi
  obtain ⟨c0, c2, c3, c4, c5, c6⟩ := id h.1.2.2.2.2.2.2
  have h16 := hi.2.2.2.1
  have hy := hi.2.2.1
  have hself : mk I (I 1 9) (cof I) (I 1 13) (I 73) = I := mk_self h.1.2.2.2.2.2.2
  by_cases q0 : a = 0
  · subst q0
    refine ⟨I 1 11, I, J, I, J, ?_, ?_, h⟩
    · simp (disch := omega) only [v_122_0, u_122_0, x_iload1, x_switch, e_sw_c, e_sw_n, u_122_48, x_aload0, k_0_0, f_1_11, x_ireturn, u_122_56, f_1_12, u_122_64, f_1_13, u_122_72, x_call1_0, x_call1_1, x_call1_2, x_call1_3, x_call1_4, e_k_s, e_k_i, List.nil_append, List.cons_append, x_ifCond_eq, x_ifCond_eqb, x_sipush, x_goto, u_122_86, x_jsr, u_122_87, u_122_88, f_1_10, u_122_96, x_call2_0, x_call2_1, x_call2_2, x_call2_3, x_call2_4, u_122_111, f_1_14, u_122_119, f_1_15, u_122_127, ↓reduceIte, b01_0, ite_not, if_true, if_false, Int.reduceLT, Int.reduceEq]
    · simp (disch := omega) only [v_216_69, u_216_0, x_iload1, x_switch, e_sw_c, e_sw_n, u_216_48, x_aload0, k_69_0, x_sipush, x_ireturn, u_216_55, u_216_62, u_216_69, x_call1_0, x_call1_1, x_call1_2, x_call1_3, x_call1_4, e_k_s, e_k_i, List.nil_append, List.cons_append, x_ifCond_eq, x_ifCond_eqb, x_goto, u_216_80, x_jsr, u_216_81, u_216_82, x_call2_0, x_call2_1, x_call2_2, x_call2_3, x_call2_4, u_216_88, x_if_icmp_ge, x_iadd, u_216_116, u_216_117, u_216_118, u_216_125, u_216_132, ia_70, c0, ↓reduceIte, b01_0, ite_not, if_true, if_false, Int.reduceLT, Int.reduceEq]
  by_cases q1 : a = 1
  · subst q1
    have e := hE.1
    refine ⟨I 1 12, I, J, I, J, ?_, ?_, h⟩
    · simp (disch := omega) only [v_122_0, u_122_0, x_iload1, x_switch, e_sw_c, e_sw_n, u_122_48, x_aload0, k_0_0, f_1_11, x_ireturn, u_122_56, f_1_12, u_122_64, f_1_13, u_122_72, x_call1_0, x_call1_1, x_call1_2, x_call1_3, x_call1_4, e_k_s, e_k_i, List.nil_append, List.cons_append, x_ifCond_eq, x_ifCond_eqb, x_sipush, x_goto, u_122_86, x_jsr, u_122_87, u_122_88, f_1_10, u_122_96, x_call2_0, x_call2_1, x_call2_2, x_call2_3, x_call2_4, u_122_111, f_1_14, u_122_119, f_1_15, u_122_127, ↓reduceIte, b01_0, ite_not, if_true, if_false, Int.reduceLT, Int.reduceEq]
    · simp (disch := omega) only [v_216_69, u_216_0, x_iload1, x_switch, e_sw_c, e_sw_n, u_216_48, x_aload0, k_69_0, x_sipush, x_ireturn, u_216_55, u_216_62, u_216_69, x_call1_0, x_call1_1, x_call1_2, x_call1_3, x_call1_4, e_k_s, e_k_i, List.nil_append, List.cons_append, x_ifCond_eq, x_ifCond_eqb, x_goto, u_216_80, x_jsr, u_216_81, u_216_82, x_call2_0, x_call2_1, x_call2_2, x_call2_3, x_call2_4, u_216_88, x_if_icmp_ge, x_iadd, u_216_116, u_216_117, u_216_118, u_216_125, u_216_132, ia_70, e, ↓reduceIte, b01_0, ite_not, if_true, if_false, Int.reduceLT, Int.reduceEq]
  by_cases q2 : a = 2
  · subst q2
    refine ⟨I 1 13, I, J, I, J, ?_, ?_, h⟩
    · simp (disch := omega) only [v_122_0, u_122_0, x_iload1, x_switch, e_sw_c, e_sw_n, u_122_48, x_aload0, k_0_0, f_1_11, x_ireturn, u_122_56, f_1_12, u_122_64, f_1_13, u_122_72, x_call1_0, x_call1_1, x_call1_2, x_call1_3, x_call1_4, e_k_s, e_k_i, List.nil_append, List.cons_append, x_ifCond_eq, x_ifCond_eqb, x_sipush, x_goto, u_122_86, x_jsr, u_122_87, u_122_88, f_1_10, u_122_96, x_call2_0, x_call2_1, x_call2_2, x_call2_3, x_call2_4, u_122_111, f_1_14, u_122_119, f_1_15, u_122_127, ↓reduceIte, b01_0, ite_not, if_true, if_false, Int.reduceLT, Int.reduceEq]
    · simp (disch := omega) only [v_216_69, u_216_0, x_iload1, x_switch, e_sw_c, e_sw_n, u_216_48, x_aload0, k_69_0, x_sipush, x_ireturn, u_216_55, u_216_62, u_216_69, x_call1_0, x_call1_1, x_call1_2, x_call1_3, x_call1_4, e_k_s, e_k_i, List.nil_append, List.cons_append, x_ifCond_eq, x_ifCond_eqb, x_goto, u_216_80, x_jsr, u_216_81, u_216_82, x_call2_0, x_call2_1, x_call2_2, x_call2_3, x_call2_4, u_216_88, x_if_icmp_ge, x_iadd, u_216_116, u_216_117, u_216_118, u_216_125, u_216_132, ia_70, c2, ↓reduceIte, b01_0, ite_not, if_true, if_false, Int.reduceLT, Int.reduceEq]
  by_cases q3 : a = 3
  · subst q3
    have eo := t_over (X := X) (d := d + 28) (I := I) (J := J) (y := I 1 11) (e := I 1 12) rfl rfl ⟨⟨by omega, by omega⟩, ⟨by omega, by omega⟩⟩
    have mo := m_over (X := X) (d := d + 28) (I := I) (J := J) (y := I 1 11) (e := I 1 12) c0 hE.1 ⟨⟨by omega, by omega⟩, ⟨by omega, by omega⟩⟩
    refine ⟨if I 1 12 ≤ I 1 11 then 1 else 0, I, J, I, J, ?_, ?_, h⟩
    · simp (disch := omega) only [v_122_0, u_122_0, x_iload1, x_switch, e_sw_c, e_sw_n, u_122_48, x_aload0, k_0_0, f_1_11, x_ireturn, u_122_56, f_1_12, u_122_64, f_1_13, u_122_72, x_call1_0, x_call1_1, x_call1_2, x_call1_3, x_call1_4, e_k_s, e_k_i, List.nil_append, List.cons_append, x_ifCond_eq, x_ifCond_eqb, x_sipush, x_goto, u_122_86, x_jsr, u_122_87, u_122_88, f_1_10, u_122_96, x_call2_0, x_call2_1, x_call2_2, x_call2_3, x_call2_4, u_122_111, f_1_14, u_122_119, f_1_15, u_122_127, eo, ↓reduceIte, b01_0, ite_not, if_true, if_false, Int.reduceLT, Int.reduceEq]
      (repeat' split) <;> first | rfl | (exfalso; omega) | (refine sv ?_; omega)
    · simp (disch := omega) only [v_216_69, u_216_0, x_iload1, x_switch, e_sw_c, e_sw_n, u_216_48, x_aload0, k_69_0, x_sipush, x_ireturn, u_216_55, u_216_62, u_216_69, x_call1_0, x_call1_1, x_call1_2, x_call1_3, x_call1_4, e_k_s, e_k_i, List.nil_append, List.cons_append, x_ifCond_eq, x_ifCond_eqb, x_goto, u_216_80, x_jsr, u_216_81, u_216_82, x_call2_0, x_call2_1, x_call2_2, x_call2_3, x_call2_4, u_216_88, x_if_icmp_ge, x_iadd, u_216_116, u_216_117, u_216_118, u_216_125, u_216_132, ia_70, mo, ↓reduceIte, b01_0, ite_not, if_true, if_false, Int.reduceLT, Int.reduceEq]
      (repeat' split) <;> first | rfl | (exfalso; omega) | (refine sv ?_; omega)
  by_cases q4 : a = 4
  · subst q4
    have es := m_those (X := X) (d := d + 27) (J := J) (M := I) hi hE hc (sc := I 1 13) (P := I 73)
    rw [hself] at es
    refine ⟨I 1 10, I, J, I, J, ?_, ?_, h⟩
    · simp (disch := omega) only [v_122_0, u_122_0, x_iload1, x_switch, e_sw_c, e_sw_n, u_122_48, x_aload0, k_0_0, f_1_11, x_ireturn, u_122_56, f_1_12, u_122_64, f_1_13, u_122_72, x_call1_0, x_call1_1, x_call1_2, x_call1_3, x_call1_4, e_k_s, e_k_i, List.nil_append, List.cons_append, x_ifCond_eq, x_ifCond_eqb, x_sipush, x_goto, u_122_86, x_jsr, u_122_87, u_122_88, f_1_10, u_122_96, x_call2_0, x_call2_1, x_call2_2, x_call2_3, x_call2_4, u_122_111, f_1_14, u_122_119, f_1_15, u_122_127, ↓reduceIte, b01_0, ite_not, if_true, if_false, Int.reduceLT, Int.reduceEq]
    · simp (disch := omega) only [v_216_69, u_216_0, x_iload1, x_switch, e_sw_c, e_sw_n, u_216_48, x_aload0, k_69_0, x_sipush, x_ireturn, u_216_55, u_216_62, u_216_69, x_call1_0, x_call1_1, x_call1_2, x_call1_3, x_call1_4, e_k_s, e_k_i, List.nil_append, List.cons_append, x_ifCond_eq, x_ifCond_eqb, x_goto, u_216_80, x_jsr, u_216_81, u_216_82, x_call2_0, x_call2_1, x_call2_2, x_call2_3, x_call2_4, u_216_88, x_if_icmp_ge, x_iadd, u_216_116, u_216_117, u_216_118, u_216_125, u_216_132, ia_70, es, ↓reduceIte, b01_0, ite_not, if_true, if_false, Int.reduceLT, Int.reduceEq]
      rfl
  by_cases q5 : a = 5
  · subst q5
    have en := t_news (X := X) (d := d + 27) (J := J) hi (y := I 1 11) ⟨by omega, by omega⟩
    refine ⟨nws I (I 1 11), I, J, I, J, ?_, ?_, h⟩
    · simp (disch := omega) only [v_122_0, u_122_0, x_iload1, x_switch, e_sw_c, e_sw_n, u_122_48, x_aload0, k_0_0, f_1_11, x_ireturn, u_122_56, f_1_12, u_122_64, f_1_13, u_122_72, x_call1_0, x_call1_1, x_call1_2, x_call1_3, x_call1_4, e_k_s, e_k_i, List.nil_append, List.cons_append, x_ifCond_eq, x_ifCond_eqb, x_sipush, x_goto, u_122_86, x_jsr, u_122_87, u_122_88, f_1_10, u_122_96, x_call2_0, x_call2_1, x_call2_2, x_call2_3, x_call2_4, u_122_111, f_1_14, u_122_119, f_1_15, u_122_127, en, ↓reduceIte, b01_0, ite_not, if_true, if_false, Int.reduceLT, Int.reduceEq]
    · unfold nws
      by_cases z : I 1 11 < 16
      · have e8 := hE.2.2.2.2 (I 1 11) (by omega) z
        rw [if_pos (by omega)]
        simp (disch := omega) only [v_216_69, u_216_0, x_iload1, x_switch, e_sw_c, e_sw_n, u_216_48, x_aload0, k_69_0, x_sipush, x_ireturn, u_216_55, u_216_62, u_216_69, x_call1_0, x_call1_1, x_call1_2, x_call1_3, x_call1_4, e_k_s, e_k_i, List.nil_append, List.cons_append, x_ifCond_eq, x_ifCond_eqb, x_goto, u_216_80, x_jsr, u_216_81, u_216_82, x_call2_0, x_call2_1, x_call2_2, x_call2_3, x_call2_4, u_216_88, x_if_icmp_ge, x_iadd, u_216_116, u_216_117, u_216_118, u_216_125, u_216_132, ia_70, c0, e8, ↓reduceIte, b01_0, ite_not, if_true, if_false, Int.reduceLT, Int.reduceEq]
        rw [if_pos z]
      · rw [if_neg (by omega)]
        simp (disch := omega) only [v_216_69, u_216_0, x_iload1, x_switch, e_sw_c, e_sw_n, u_216_48, x_aload0, k_69_0, x_sipush, x_ireturn, u_216_55, u_216_62, u_216_69, x_call1_0, x_call1_1, x_call1_2, x_call1_3, x_call1_4, e_k_s, e_k_i, List.nil_append, List.cons_append, x_ifCond_eq, x_ifCond_eqb, x_goto, u_216_80, x_jsr, u_216_81, u_216_82, x_call2_0, x_call2_1, x_call2_2, x_call2_3, x_call2_4, u_216_88, x_if_icmp_ge, x_iadd, u_216_116, u_216_117, u_216_118, u_216_125, u_216_132, ia_70, c0, if_neg z, ↓reduceIte, b01_0, ite_not, if_true, if_false, Int.reduceLT, Int.reduceEq]
  by_cases q6 : a = 6
  · subst q6
    refine ⟨I 1 14, I, J, I, J, ?_, ?_, h⟩
    · simp (disch := omega) only [v_122_0, u_122_0, x_iload1, x_switch, e_sw_c, e_sw_n, u_122_48, x_aload0, k_0_0, f_1_11, x_ireturn, u_122_56, f_1_12, u_122_64, f_1_13, u_122_72, x_call1_0, x_call1_1, x_call1_2, x_call1_3, x_call1_4, e_k_s, e_k_i, List.nil_append, List.cons_append, x_ifCond_eq, x_ifCond_eqb, x_sipush, x_goto, u_122_86, x_jsr, u_122_87, u_122_88, f_1_10, u_122_96, x_call2_0, x_call2_1, x_call2_2, x_call2_3, x_call2_4, u_122_111, f_1_14, u_122_119, f_1_15, u_122_127, ↓reduceIte, b01_0, ite_not, if_true, if_false, Int.reduceLT, Int.reduceEq]
    · simp (disch := omega) only [v_216_69, u_216_0, x_iload1, x_switch, e_sw_c, e_sw_n, u_216_48, x_aload0, k_69_0, x_sipush, x_ireturn, u_216_55, u_216_62, u_216_69, x_call1_0, x_call1_1, x_call1_2, x_call1_3, x_call1_4, e_k_s, e_k_i, List.nil_append, List.cons_append, x_ifCond_eq, x_ifCond_eqb, x_goto, u_216_80, x_jsr, u_216_81, u_216_82, x_call2_0, x_call2_1, x_call2_2, x_call2_3, x_call2_4, u_216_88, x_if_icmp_ge, x_iadd, u_216_116, u_216_117, u_216_118, u_216_125, u_216_132, ia_70, c3, ↓reduceIte, b01_0, ite_not, if_true, if_false, Int.reduceLT, Int.reduceEq]
  by_cases q7 : a = 7
  · subst q7
    refine ⟨I 1 15, I, J, I, J, ?_, ?_, h⟩
    · simp (disch := omega) only [v_122_0, u_122_0, x_iload1, x_switch, e_sw_c, e_sw_n, u_122_48, x_aload0, k_0_0, f_1_11, x_ireturn, u_122_56, f_1_12, u_122_64, f_1_13, u_122_72, x_call1_0, x_call1_1, x_call1_2, x_call1_3, x_call1_4, e_k_s, e_k_i, List.nil_append, List.cons_append, x_ifCond_eq, x_ifCond_eqb, x_sipush, x_goto, u_122_86, x_jsr, u_122_87, u_122_88, f_1_10, u_122_96, x_call2_0, x_call2_1, x_call2_2, x_call2_3, x_call2_4, u_122_111, f_1_14, u_122_119, f_1_15, u_122_127, ↓reduceIte, b01_0, ite_not, if_true, if_false, Int.reduceLT, Int.reduceEq]
    · simp (disch := omega) only [v_216_69, u_216_0, x_iload1, x_switch, e_sw_c, e_sw_n, u_216_48, x_aload0, k_69_0, x_sipush, x_ireturn, u_216_55, u_216_62, u_216_69, x_call1_0, x_call1_1, x_call1_2, x_call1_3, x_call1_4, e_k_s, e_k_i, List.nil_append, List.cons_append, x_ifCond_eq, x_ifCond_eqb, x_goto, u_216_80, x_jsr, u_216_81, u_216_82, x_call2_0, x_call2_1, x_call2_2, x_call2_3, x_call2_4, u_216_88, x_if_icmp_ge, x_iadd, u_216_116, u_216_117, u_216_118, u_216_125, u_216_132, ia_70, c4, ↓reduceIte, b01_0, ite_not, if_true, if_false, Int.reduceLT, Int.reduceEq]
  refine ⟨-1, I, J, I, J, ?_, ?_, h⟩
  · simp (disch := omega) only [v_122_0, u_122_0, x_iload1, x_switch, e_sw_c, e_sw_n, u_122_48, x_aload0, k_0_0, f_1_11, x_ireturn, u_122_56, f_1_12, u_122_64, f_1_13, u_122_72, x_call1_0, x_call1_1, x_call1_2, x_call1_3, x_call1_4, e_k_s, e_k_i, List.nil_append, List.cons_append, x_ifCond_eq, x_ifCond_eqb, x_sipush, x_goto, u_122_86, x_jsr, u_122_87, u_122_88, f_1_10, u_122_96, x_call2_0, x_call2_1, x_call2_2, x_call2_3, x_call2_4, u_122_111, f_1_14, u_122_119, f_1_15, u_122_127, q0, q1, q2, q3, q4, q5, q6, q7, ↓reduceIte, b01_0, ite_not, if_true, if_false, Int.reduceLT, Int.reduceEq]
  · simp (disch := omega) only [v_216_69, u_216_0, x_iload1, x_switch, e_sw_c, e_sw_n, u_216_48, x_aload0, k_69_0, x_sipush, x_ireturn, u_216_55, u_216_62, u_216_69, x_call1_0, x_call1_1, x_call1_2, x_call1_3, x_call1_4, e_k_s, e_k_i, List.nil_append, List.cons_append, x_ifCond_eq, x_ifCond_eqb, x_goto, u_216_80, x_jsr, u_216_81, u_216_82, x_call2_0, x_call2_1, x_call2_2, x_call2_3, x_call2_4, u_216_88, x_if_icmp_ge, x_iadd, u_216_116, u_216_117, u_216_118, u_216_125, u_216_132, ia_70, q0, q1, q2, q3, q4, q5, q6, q7, ↓reduceIte, b01_0, ite_not, if_true, if_false, Int.reduceLT, Int.reduceEq]
theorem q_plateOf (h : Rel I J) {a w : Int} (ha : rg a) (hw : rg w) : pr X d I J 110 193 [.int (iI a), .int (iI w)] := by
  have hi := h.1.1
  have hE := h.1.2.2.2.1
  have hc := inv_cof hi
  have hn := hi.1
  have e6 := hE.2.1
  have h16 := hi.2.2.2.1
  have hy := hi.2.2.1
  have hself : mk I (I 1 9) (cof I) (I 1 13) (I 73) = I := mk_self h.1.2.2.2.2.2.2
  by_cases q : 0 ≤ a ∧ a < I 1 9
  · obtain ⟨E0, E1, E2, E3⟩ := hE.2.2.1 a q.1 q.2
    obtain ⟨k1, k2, k3, k4⟩ := hi.2.2.2.2.2.2.1 a q.1 q.2
    have E4 := h.1.2.2.2.2.2.2.2.2.2.2.2 a q.1 q.2
    have hb := bt_01 (I 1 10) a
    by_cases q0 : w = 0
    · subst q0
      refine ⟨I 2 a, I, J, I, J, ?_, ?_, h⟩
      · simp (disch := omega) only [v_110_0, u_110_0, x_aload0, k_0_0, x_iload1, x_call2_0, x_call2_1, x_call2_2, x_call2_3, x_call2_4, e_k_s, e_k_i, List.nil_append, List.cons_append, x_ifCond_ne, x_ifCond_neb, x_sipush, x_ireturn, u_110_13, x_iload2, x_switch, e_sw_c, e_sw_n, u_110_64, k_1_0, u_110_74, k_1_1, u_110_84, k_1_2, u_110_94, k_1_3, u_110_104, x_ifCond_eq, x_ifCond_eqb, x_goto, u_110_119, x_jsr, u_110_120, u_110_121, f_1_11, x_call3_0, x_call3_1, x_call3_2, x_call3_3, x_call3_4, u_110_150, u_110_159, u_110_174, u_110_175, u_110_176, u_110_185, ia_2, ia_3, ia_4, ia_5, t_in, ↓reduceIte, b01_0, ite_not, if_true, if_false, Int.reduceLT, Int.reduceEq]
      · simp (disch := omega) only [v_193_69, u_193_0, x_aload0, x_iload1, x_call2_0, x_call2_1, x_call2_2, x_call2_3, x_call2_4, e_k_s, e_k_i, List.nil_append, List.cons_append, x_ifCond_eq, x_ifCond_eqb, x_iload2, x_sipush, x_call3_0, x_call3_1, x_call3_2, x_call3_3, x_call3_4, x_ifCond_ne, x_ifCond_neb, x_jsr, u_193_18, x_ireturn, u_193_20, x_switch, e_sw_c, e_sw_n, u_193_52, u_193_58, u_193_64, x_goto, u_193_76, u_193_77, u_193_78, u_193_84, m_pin, m_in, m_get, E0, ↓reduceIte, b01_0, ite_not, if_true, if_false, Int.reduceLT, Int.reduceEq]
    by_cases q1 : w = 1
    · subst q1
      refine ⟨I 3 a, I, J, I, J, ?_, ?_, h⟩
      · simp (disch := omega) only [v_110_0, u_110_0, x_aload0, k_0_0, x_iload1, x_call2_0, x_call2_1, x_call2_2, x_call2_3, x_call2_4, e_k_s, e_k_i, List.nil_append, List.cons_append, x_ifCond_ne, x_ifCond_neb, x_sipush, x_ireturn, u_110_13, x_iload2, x_switch, e_sw_c, e_sw_n, u_110_64, k_1_0, u_110_74, k_1_1, u_110_84, k_1_2, u_110_94, k_1_3, u_110_104, x_ifCond_eq, x_ifCond_eqb, x_goto, u_110_119, x_jsr, u_110_120, u_110_121, f_1_11, x_call3_0, x_call3_1, x_call3_2, x_call3_3, x_call3_4, u_110_150, u_110_159, u_110_174, u_110_175, u_110_176, u_110_185, ia_2, ia_3, ia_4, ia_5, t_in, ↓reduceIte, b01_0, ite_not, if_true, if_false, Int.reduceLT, Int.reduceEq]
      · simp (disch := omega) only [v_193_69, u_193_0, x_aload0, x_iload1, x_call2_0, x_call2_1, x_call2_2, x_call2_3, x_call2_4, e_k_s, e_k_i, List.nil_append, List.cons_append, x_ifCond_eq, x_ifCond_eqb, x_iload2, x_sipush, x_call3_0, x_call3_1, x_call3_2, x_call3_3, x_call3_4, x_ifCond_ne, x_ifCond_neb, x_jsr, u_193_18, x_ireturn, u_193_20, x_switch, e_sw_c, e_sw_n, u_193_52, u_193_58, u_193_64, x_goto, u_193_76, u_193_77, u_193_78, u_193_84, m_pin, m_in, m_get, E1, ↓reduceIte, b01_0, ite_not, if_true, if_false, Int.reduceLT, Int.reduceEq]
    by_cases q2 : w = 2
    · subst q2
      refine ⟨I 4 a, I, J, I, J, ?_, ?_, h⟩
      · simp (disch := omega) only [v_110_0, u_110_0, x_aload0, k_0_0, x_iload1, x_call2_0, x_call2_1, x_call2_2, x_call2_3, x_call2_4, e_k_s, e_k_i, List.nil_append, List.cons_append, x_ifCond_ne, x_ifCond_neb, x_sipush, x_ireturn, u_110_13, x_iload2, x_switch, e_sw_c, e_sw_n, u_110_64, k_1_0, u_110_74, k_1_1, u_110_84, k_1_2, u_110_94, k_1_3, u_110_104, x_ifCond_eq, x_ifCond_eqb, x_goto, u_110_119, x_jsr, u_110_120, u_110_121, f_1_11, x_call3_0, x_call3_1, x_call3_2, x_call3_3, x_call3_4, u_110_150, u_110_159, u_110_174, u_110_175, u_110_176, u_110_185, ia_2, ia_3, ia_4, ia_5, t_in, ↓reduceIte, b01_0, ite_not, if_true, if_false, Int.reduceLT, Int.reduceEq]
      · simp (disch := omega) only [v_193_69, u_193_0, x_aload0, x_iload1, x_call2_0, x_call2_1, x_call2_2, x_call2_3, x_call2_4, e_k_s, e_k_i, List.nil_append, List.cons_append, x_ifCond_eq, x_ifCond_eqb, x_iload2, x_sipush, x_call3_0, x_call3_1, x_call3_2, x_call3_3, x_call3_4, x_ifCond_ne, x_ifCond_neb, x_jsr, u_193_18, x_ireturn, u_193_20, x_switch, e_sw_c, e_sw_n, u_193_52, u_193_58, u_193_64, x_goto, u_193_76, u_193_77, u_193_78, u_193_84, m_pin, m_in, m_get, E2, ↓reduceIte, b01_0, ite_not, if_true, if_false, Int.reduceLT, Int.reduceEq]
    by_cases q3 : w = 3
    · subst q3
      refine ⟨I 5 a, I, J, I, J, ?_, ?_, h⟩
      · simp (disch := omega) only [v_110_0, u_110_0, x_aload0, k_0_0, x_iload1, x_call2_0, x_call2_1, x_call2_2, x_call2_3, x_call2_4, e_k_s, e_k_i, List.nil_append, List.cons_append, x_ifCond_ne, x_ifCond_neb, x_sipush, x_ireturn, u_110_13, x_iload2, x_switch, e_sw_c, e_sw_n, u_110_64, k_1_0, u_110_74, k_1_1, u_110_84, k_1_2, u_110_94, k_1_3, u_110_104, x_ifCond_eq, x_ifCond_eqb, x_goto, u_110_119, x_jsr, u_110_120, u_110_121, f_1_11, x_call3_0, x_call3_1, x_call3_2, x_call3_3, x_call3_4, u_110_150, u_110_159, u_110_174, u_110_175, u_110_176, u_110_185, ia_2, ia_3, ia_4, ia_5, t_in, ↓reduceIte, b01_0, ite_not, if_true, if_false, Int.reduceLT, Int.reduceEq]
      · simp (disch := omega) only [v_193_69, u_193_0, x_aload0, x_iload1, x_call2_0, x_call2_1, x_call2_2, x_call2_3, x_call2_4, e_k_s, e_k_i, List.nil_append, List.cons_append, x_ifCond_eq, x_ifCond_eqb, x_iload2, x_sipush, x_call3_0, x_call3_1, x_call3_2, x_call3_3, x_call3_4, x_ifCond_ne, x_ifCond_neb, x_jsr, u_193_18, x_ireturn, u_193_20, x_switch, e_sw_c, e_sw_n, u_193_52, u_193_58, u_193_64, x_goto, u_193_76, u_193_77, u_193_78, u_193_84, m_pin, m_in, m_get, E3, ↓reduceIte, b01_0, ite_not, if_true, if_false, Int.reduceLT, Int.reduceEq]
    by_cases q4 : w = 4
    · subst q4
      have es := t_seat (X := X) (d := d + 28) (I := I) (J := J) (s := I 1 10) (k := a) rfl (inv_s hi) (by omega)
      refine ⟨bt (I 1 10) a, I, J, I, J, ?_, ?_, h⟩
      · by_cases z : bt (I 1 10) a = 1
        · rw [if_pos z] at es
          rw [z]
          simp (disch := omega) only [v_110_0, u_110_0, x_aload0, k_0_0, x_iload1, x_call2_0, x_call2_1, x_call2_2, x_call2_3, x_call2_4, e_k_s, e_k_i, List.nil_append, List.cons_append, x_ifCond_ne, x_ifCond_neb, x_sipush, x_ireturn, u_110_13, x_iload2, x_switch, e_sw_c, e_sw_n, u_110_64, k_1_0, u_110_74, k_1_1, u_110_84, k_1_2, u_110_94, k_1_3, u_110_104, x_ifCond_eq, x_ifCond_eqb, x_goto, u_110_119, x_jsr, u_110_120, u_110_121, f_1_11, x_call3_0, x_call3_1, x_call3_2, x_call3_3, x_call3_4, u_110_150, u_110_159, u_110_174, u_110_175, u_110_176, u_110_185, ia_2, ia_3, ia_4, ia_5, t_in, es, ↓reduceIte, b01_0, ite_not, if_true, if_false, Int.reduceLT, Int.reduceEq]
        · rw [if_neg z] at es
          rw [show bt (I 1 10) a = 0 by omega]
          simp (disch := omega) only [v_110_0, u_110_0, x_aload0, k_0_0, x_iload1, x_call2_0, x_call2_1, x_call2_2, x_call2_3, x_call2_4, e_k_s, e_k_i, List.nil_append, List.cons_append, x_ifCond_ne, x_ifCond_neb, x_sipush, x_ireturn, u_110_13, x_iload2, x_switch, e_sw_c, e_sw_n, u_110_64, k_1_0, u_110_74, k_1_1, u_110_84, k_1_2, u_110_94, k_1_3, u_110_104, x_ifCond_eq, x_ifCond_eqb, x_goto, u_110_119, x_jsr, u_110_120, u_110_121, f_1_11, x_call3_0, x_call3_1, x_call3_2, x_call3_3, x_call3_4, u_110_150, u_110_159, u_110_174, u_110_175, u_110_176, u_110_185, ia_2, ia_3, ia_4, ia_5, t_in, es, ↓reduceIte, b01_0, ite_not, if_true, if_false, Int.reduceLT, Int.reduceEq]
      · simp (disch := omega) only [v_193_69, u_193_0, x_aload0, x_iload1, x_call2_0, x_call2_1, x_call2_2, x_call2_3, x_call2_4, e_k_s, e_k_i, List.nil_append, List.cons_append, x_ifCond_eq, x_ifCond_eqb, x_iload2, x_sipush, x_call3_0, x_call3_1, x_call3_2, x_call3_3, x_call3_4, x_ifCond_ne, x_ifCond_neb, x_jsr, u_193_18, x_ireturn, u_193_20, x_switch, e_sw_c, e_sw_n, u_193_52, u_193_58, u_193_64, x_goto, u_193_76, u_193_77, u_193_78, u_193_84, m_pin, m_in, m_get, E4, ↓reduceIte, b01_0, ite_not, if_true, if_false, Int.reduceLT, Int.reduceEq]
    by_cases q5 : w = 5
    · subst q5
      have e1 := b_span (X := X) (d := d + 28) (I := I) (J := J) (kd := I 2 a) (w := I 4 a) (y := I 1 11) ⟨by omega, by omega⟩ k3 ⟨by omega, by omega⟩
      have e2 := m_spof (X := X) (d := d + 27) (J := J) (M := I) hi hE (y := I 1 11) (m := I 1 14) (sh := I 1 15) (st := I 1 10) hc (sc := I 1 13) (P := I 73) (k := a) q
      rw [show ((I 1 11, I 1 14, I 1 15, I 1 10) : co) = cof I from rfl, hself] at e2
      refine ⟨spn (I 2 a) (I 4 a) (I 1 11), I, J, I, J, ?_, ?_, h⟩
      · simp (disch := omega) only [v_110_0, u_110_0, x_aload0, k_0_0, x_iload1, x_call2_0, x_call2_1, x_call2_2, x_call2_3, x_call2_4, e_k_s, e_k_i, List.nil_append, List.cons_append, x_ifCond_ne, x_ifCond_neb, x_sipush, x_ireturn, u_110_13, x_iload2, x_switch, e_sw_c, e_sw_n, u_110_64, k_1_0, u_110_74, k_1_1, u_110_84, k_1_2, u_110_94, k_1_3, u_110_104, x_ifCond_eq, x_ifCond_eqb, x_goto, u_110_119, x_jsr, u_110_120, u_110_121, f_1_11, x_call3_0, x_call3_1, x_call3_2, x_call3_3, x_call3_4, u_110_150, u_110_159, u_110_174, u_110_175, u_110_176, u_110_185, ia_2, ia_3, ia_4, ia_5, t_in, e1, ↓reduceIte, b01_0, ite_not, if_true, if_false, Int.reduceLT, Int.reduceEq]
      · simp (disch := omega) only [v_193_69, u_193_0, x_aload0, x_iload1, x_call2_0, x_call2_1, x_call2_2, x_call2_3, x_call2_4, e_k_s, e_k_i, List.nil_append, List.cons_append, x_ifCond_eq, x_ifCond_eqb, x_iload2, x_sipush, x_call3_0, x_call3_1, x_call3_2, x_call3_3, x_call3_4, x_ifCond_ne, x_ifCond_neb, x_jsr, u_193_18, x_ireturn, u_193_20, x_switch, e_sw_c, e_sw_n, u_193_52, u_193_58, u_193_64, x_goto, u_193_76, u_193_77, u_193_78, u_193_84, m_pin, m_in, e2, ↓reduceIte, b01_0, ite_not, if_true, if_false, Int.reduceLT, Int.reduceEq]
    by_cases q6 : w = 6
    · subst q6
      have e1 := t_gri (X := X) (d := d + 28) (J := J) hi (k := a) q
      have e2 := m_gr (X := X) (d := d + 27) (J := J) (M := I) hi hE (c := cof I) (sc := I 1 13) (P := I 73) (k := a) q
      rw [hself] at e2
      refine ⟨gr I a, I, J, I, J, ?_, ?_, h⟩
      · simp (disch := omega) only [v_110_0, u_110_0, x_aload0, k_0_0, x_iload1, x_call2_0, x_call2_1, x_call2_2, x_call2_3, x_call2_4, e_k_s, e_k_i, List.nil_append, List.cons_append, x_ifCond_ne, x_ifCond_neb, x_sipush, x_ireturn, u_110_13, x_iload2, x_switch, e_sw_c, e_sw_n, u_110_64, k_1_0, u_110_74, k_1_1, u_110_84, k_1_2, u_110_94, k_1_3, u_110_104, x_ifCond_eq, x_ifCond_eqb, x_goto, u_110_119, x_jsr, u_110_120, u_110_121, f_1_11, x_call3_0, x_call3_1, x_call3_2, x_call3_3, x_call3_4, u_110_150, u_110_159, u_110_174, u_110_175, u_110_176, u_110_185, ia_2, ia_3, ia_4, ia_5, t_in, e1, ↓reduceIte, b01_0, ite_not, if_true, if_false, Int.reduceLT, Int.reduceEq]
      · simp (disch := omega) only [v_193_69, u_193_0, x_aload0, x_iload1, x_call2_0, x_call2_1, x_call2_2, x_call2_3, x_call2_4, e_k_s, e_k_i, List.nil_append, List.cons_append, x_ifCond_eq, x_ifCond_eqb, x_iload2, x_sipush, x_call3_0, x_call3_1, x_call3_2, x_call3_3, x_call3_4, x_ifCond_ne, x_ifCond_neb, x_jsr, u_193_18, x_ireturn, u_193_20, x_switch, e_sw_c, e_sw_n, u_193_52, u_193_58, u_193_64, x_goto, u_193_76, u_193_77, u_193_78, u_193_84, m_pin, m_in, e2, ↓reduceIte, b01_0, ite_not, if_true, if_false, Int.reduceLT, Int.reduceEq]
    by_cases q7 : w = 7
    · subst q7
      have e1 := t_would (X := X) (d := d + 27) (J := J) hi (k := a) q
      have e2 := m_would (X := X) (d := d + 26) (J := J) (M := I) hi hE (y := I 1 11) (m := I 1 14) (sh := I 1 15) (st := I 1 10) hc (sc := I 1 13) (P := I 73) (k := a) q
      rw [show ((I 1 11, I 1 14, I 1 15, I 1 10) : co) = cof I from rfl, hself] at e2
      by_cases z : wsit I a
      · rw [if_pos z] at e1
        rw [if_pos (show wst I (cof I) a from z)] at e2
        refine ⟨1, I, J, I, J, ?_, ?_, h⟩
        · simp (disch := omega) only [v_110_0, u_110_0, x_aload0, k_0_0, x_iload1, x_call2_0, x_call2_1, x_call2_2, x_call2_3, x_call2_4, e_k_s, e_k_i, List.nil_append, List.cons_append, x_ifCond_ne, x_ifCond_neb, x_sipush, x_ireturn, u_110_13, x_iload2, x_switch, e_sw_c, e_sw_n, u_110_64, k_1_0, u_110_74, k_1_1, u_110_84, k_1_2, u_110_94, k_1_3, u_110_104, x_ifCond_eq, x_ifCond_eqb, x_goto, u_110_119, x_jsr, u_110_120, u_110_121, f_1_11, x_call3_0, x_call3_1, x_call3_2, x_call3_3, x_call3_4, u_110_150, u_110_159, u_110_174, u_110_175, u_110_176, u_110_185, ia_2, ia_3, ia_4, ia_5, t_in, e1, ↓reduceIte, b01_0, ite_not, if_true, if_false, Int.reduceLT, Int.reduceEq]
        · simp (disch := omega) only [v_193_69, u_193_0, x_aload0, x_iload1, x_call2_0, x_call2_1, x_call2_2, x_call2_3, x_call2_4, e_k_s, e_k_i, List.nil_append, List.cons_append, x_ifCond_eq, x_ifCond_eqb, x_iload2, x_sipush, x_call3_0, x_call3_1, x_call3_2, x_call3_3, x_call3_4, x_ifCond_ne, x_ifCond_neb, x_jsr, u_193_18, x_ireturn, u_193_20, x_switch, e_sw_c, e_sw_n, u_193_52, u_193_58, u_193_64, x_goto, u_193_76, u_193_77, u_193_78, u_193_84, m_pin, m_in, e2, ↓reduceIte, b01_0, ite_not, if_true, if_false, Int.reduceLT, Int.reduceEq]
      · rw [if_neg z] at e1
        rw [if_neg (show ¬ wst I (cof I) a from z)] at e2
        refine ⟨0, I, J, I, J, ?_, ?_, h⟩
        · simp (disch := omega) only [v_110_0, u_110_0, x_aload0, k_0_0, x_iload1, x_call2_0, x_call2_1, x_call2_2, x_call2_3, x_call2_4, e_k_s, e_k_i, List.nil_append, List.cons_append, x_ifCond_ne, x_ifCond_neb, x_sipush, x_ireturn, u_110_13, x_iload2, x_switch, e_sw_c, e_sw_n, u_110_64, k_1_0, u_110_74, k_1_1, u_110_84, k_1_2, u_110_94, k_1_3, u_110_104, x_ifCond_eq, x_ifCond_eqb, x_goto, u_110_119, x_jsr, u_110_120, u_110_121, f_1_11, x_call3_0, x_call3_1, x_call3_2, x_call3_3, x_call3_4, u_110_150, u_110_159, u_110_174, u_110_175, u_110_176, u_110_185, ia_2, ia_3, ia_4, ia_5, t_in, e1, ↓reduceIte, b01_0, ite_not, if_true, if_false, Int.reduceLT, Int.reduceEq]
        · simp (disch := omega) only [v_193_69, u_193_0, x_aload0, x_iload1, x_call2_0, x_call2_1, x_call2_2, x_call2_3, x_call2_4, e_k_s, e_k_i, List.nil_append, List.cons_append, x_ifCond_eq, x_ifCond_eqb, x_iload2, x_sipush, x_call3_0, x_call3_1, x_call3_2, x_call3_3, x_call3_4, x_ifCond_ne, x_ifCond_neb, x_jsr, u_193_18, x_ireturn, u_193_20, x_switch, e_sw_c, e_sw_n, u_193_52, u_193_58, u_193_64, x_goto, u_193_76, u_193_77, u_193_78, u_193_84, m_pin, m_in, e2, ↓reduceIte, b01_0, ite_not, if_true, if_false, Int.reduceLT, Int.reduceEq]
    by_cases q8 : w = 8
    · subst q8
      have e1 := t_will (X := X) (d := d + 25) (J := J) hi h.1.2.1 (by omega) (k := a) q
      obtain ⟨F', f1⟩ := fct_bk (I := I) (c := cof I) (F := I 14) (k := a)
      have ew : will I a = wil I (cof I) a := by
        have := wil_eq (I := I) (c := cof I) (F := I 14) (k := a)
        rw [bk_self] at this
        exact this
      rw [bk_self] at f1
      rw [f1, ew] at e1
      have hself2 : mk (bk I (cof I) F') (I 1 9) (cof I) (I 1 13) (bk I (cof I) F' 73) = bk I (cof I) F' := mk_self2 h.1.2.2.2.2.2.2 rfl
      obtain ⟨P', e2⟩ := m_will (X := X) (d := d + 24) (J := J) (M := bk I (cof I) F') hi hE h.1.2.2.2.2.1 h.1.2.1 hc (sc := I 1 13) (bk I (cof I) F' 73) (k := a) q
      rw [hself2] at e2
      have e6' : bk I (cof I) F' 70 6 = I 1 9 := e6
      refine pr_q h (v := wil I (cof I) a) (I1 := bk I (cof I) F') ?_ kp_bk (I2 := mk (bk I (cof I) F') (I 1 9) (cof I) (I 1 13) P') ?_ (kp_mk hself2 (kp_rfl _) rfl)
      · simp (disch := omega) only [v_110_0, u_110_0, x_aload0, k_0_0, x_iload1, x_call2_0, x_call2_1, x_call2_2, x_call2_3, x_call2_4, e_k_s, e_k_i, List.nil_append, List.cons_append, x_ifCond_ne, x_ifCond_neb, x_sipush, x_ireturn, u_110_13, x_iload2, x_switch, e_sw_c, e_sw_n, u_110_64, k_1_0, u_110_74, k_1_1, u_110_84, k_1_2, u_110_94, k_1_3, u_110_104, x_ifCond_eq, x_ifCond_eqb, x_goto, u_110_119, x_jsr, u_110_120, u_110_121, f_1_11, x_call3_0, x_call3_1, x_call3_2, x_call3_3, x_call3_4, u_110_150, u_110_159, u_110_174, u_110_175, u_110_176, u_110_185, ia_2, ia_3, ia_4, ia_5, t_in, e1, ↓reduceIte, b01_0, ite_not, if_true, if_false, Int.reduceLT, Int.reduceEq]
      · simp (disch := omega) only [v_193_69, u_193_0, x_aload0, x_iload1, x_call2_0, x_call2_1, x_call2_2, x_call2_3, x_call2_4, e_k_s, e_k_i, List.nil_append, List.cons_append, x_ifCond_eq, x_ifCond_eqb, x_iload2, x_sipush, x_call3_0, x_call3_1, x_call3_2, x_call3_3, x_call3_4, x_ifCond_ne, x_ifCond_neb, x_jsr, u_193_18, x_ireturn, u_193_20, x_switch, e_sw_c, e_sw_n, u_193_52, u_193_58, u_193_64, x_goto, u_193_76, u_193_77, u_193_78, u_193_84, m_pin, m_in, e2, ↓reduceIte, b01_0, ite_not, if_true, if_false, Int.reduceLT, Int.reduceEq]
    refine ⟨-1, I, J, I, J, ?_, ?_, h⟩
    · simp (disch := omega) only [v_110_0, u_110_0, x_aload0, k_0_0, x_iload1, x_call2_0, x_call2_1, x_call2_2, x_call2_3, x_call2_4, e_k_s, e_k_i, List.nil_append, List.cons_append, x_ifCond_ne, x_ifCond_neb, x_sipush, x_ireturn, u_110_13, x_iload2, x_switch, e_sw_c, e_sw_n, u_110_64, k_1_0, u_110_74, k_1_1, u_110_84, k_1_2, u_110_94, k_1_3, u_110_104, x_ifCond_eq, x_ifCond_eqb, x_goto, u_110_119, x_jsr, u_110_120, u_110_121, f_1_11, x_call3_0, x_call3_1, x_call3_2, x_call3_3, x_call3_4, u_110_150, u_110_159, u_110_174, u_110_175, u_110_176, u_110_185, ia_2, ia_3, ia_4, ia_5, t_in, q0, q1, q2, q3, q4, q5, q6, q7, q8, ↓reduceIte, b01_0, ite_not, if_true, if_false, Int.reduceLT, Int.reduceEq]
    · simp (disch := omega) only [v_193_69, u_193_0, x_aload0, x_iload1, x_call2_0, x_call2_1, x_call2_2, x_call2_3, x_call2_4, e_k_s, e_k_i, List.nil_append, List.cons_append, x_ifCond_eq, x_ifCond_eqb, x_iload2, x_sipush, x_call3_0, x_call3_1, x_call3_2, x_call3_3, x_call3_4, x_ifCond_ne, x_ifCond_neb, x_jsr, u_193_18, x_ireturn, u_193_20, x_switch, e_sw_c, e_sw_n, u_193_52, u_193_58, u_193_64, x_goto, u_193_76, u_193_77, u_193_78, u_193_84, m_pin, m_nin, ↓reduceIte, b01_0, ite_not, if_true, if_false, Int.reduceLT, Int.reduceEq]
  · refine ⟨-1, I, J, I, J, ?_, ?_, h⟩
    · simp (disch := omega) only [v_110_0, u_110_0, x_aload0, k_0_0, x_iload1, x_call2_0, x_call2_1, x_call2_2, x_call2_3, x_call2_4, e_k_s, e_k_i, List.nil_append, List.cons_append, x_ifCond_ne, x_ifCond_neb, x_sipush, x_ireturn, u_110_13, x_iload2, x_switch, e_sw_c, e_sw_n, u_110_64, k_1_0, u_110_74, k_1_1, u_110_84, k_1_2, u_110_94, k_1_3, u_110_104, x_ifCond_eq, x_ifCond_eqb, x_goto, u_110_119, x_jsr, u_110_120, u_110_121, f_1_11, x_call3_0, x_call3_1, x_call3_2, x_call3_3, x_call3_4, u_110_150, u_110_159, u_110_174, u_110_175, u_110_176, u_110_185, ia_2, ia_3, ia_4, ia_5, t_nin, ↓reduceIte, b01_0, ite_not, if_true, if_false, Int.reduceLT, Int.reduceEq]
    · simp (disch := omega) only [v_193_69, u_193_0, x_aload0, x_iload1, x_call2_0, x_call2_1, x_call2_2, x_call2_3, x_call2_4, e_k_s, e_k_i, List.nil_append, List.cons_append, x_ifCond_eq, x_ifCond_eqb, x_iload2, x_sipush, x_call3_0, x_call3_1, x_call3_2, x_call3_3, x_call3_4, x_ifCond_ne, x_ifCond_neb, x_jsr, u_193_18, x_ireturn, u_193_20, x_switch, e_sw_c, e_sw_n, u_193_52, u_193_58, u_193_64, x_goto, u_193_76, u_193_77, u_193_78, u_193_84, m_pnin, ↓reduceIte, b01_0, ite_not, if_true, if_false, Int.reduceLT, Int.reduceEq]
end
