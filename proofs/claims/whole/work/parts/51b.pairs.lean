/-! PAIRS: the table, pieces, further -/
theorem TB_r1 {T T' : Nat → Int → Int} {S S' : Int → Int} (h : TB T S) (hr : ∀ o, o ≠ 1 → T' o = T o) (h9 : T' 1 9 = T 1 9) (hi : inv T') (hS : ∀ x, ¬ (0 ≤ x ∧ x ≤ 5) → ¬ (38 ≤ x ∧ x < 74 ∧ (x - 38) % 6 = 4) → S' x = S x) (e1 : S' 1 = T' 1 12) (hC : RC T' S') : TB T' S' := by
  obtain ⟨a1, a2, a3, a4, a5, a6, a7⟩ := h
  have hn := a1.1
  refine ⟨hi, rok_eq (by rw [hr 9 (by decide)]) (hr 10 (by decide)) (hr 11 (by decide)) (hr 12 (by decide)) (hr 13 (by decide)) a2, ?_, ?_, RR_eq (by rw [hr 9 (by decide)]) (hr 10 (by decide)) (hr 11 (by decide)) (hr 12 (by decide)) (hr 13 (by decide)) (hS 7 (by omega) (by omega)) (fun x hx => hS x (by omega) (by omega)) a5, ?_, hC⟩
  · unfold rpk
    rw [hr 15 (by decide), hr 16 (by decide), hr 17 (by decide), hr 18 (by decide), hr 19 (by decide)]
    exact a3
  · obtain ⟨b1, b2, b3, b4, b5⟩ := a4
    unfold RE
    rw [h9, hr 2 (by decide), hr 3 (by decide), hr 4 (by decide), hr 5 (by decide), hr 6 (by decide), hr 7 (by decide), hr 8 (by decide)]
    refine ⟨e1, by rw [hS 6 (by omega) (by omega)]; exact b2, fun k k0 k1 => ?_, fun g g0 g1 => ?_, fun y y0 y1 => ?_⟩
    · rw [hS _ (by omega) (by omega), hS _ (by omega) (by omega), hS _ (by omega) (by omega), hS _ (by omega) (by omega)]
      exact b3 k k0 k1
    · rw [hS _ (by omega) (by omega), hS _ (by omega) (by omega)]
      exact b4 g g0 g1
    · rw [hS _ (by omega) (by omega)]
      exact b5 y y0 y1
  · have a36 := a3.1
    unfold RP
    rw [hr 15 (by decide), hr 16 (by decide), hr 17 (by decide), hr 18 (by decide), hr 19 (by decide), hS 8 (by omega) (by omega)]
    refine ⟨a6.1, fun r r0 r1 => ?_⟩
    rw [hS _ (by omega) (by omega), hS _ (by omega) (by omega), hS _ (by omega) (by omega), hS _ (by omega) (by omega)]
    exact a6.2 r r0 r1
/-- changes of row 1 and the model's row alone -/
theorem Rel_r1 {I I' J : Nat → Int → Int} (h : Rel I J) (hT : TB I' (I' 70)) (hk : ∀ o, o ≠ 1 → o ≠ 70 → I' o = I o) : Rel I' J := Rel_tb h hT (fun o k _ q1 q2 => by rw [hk o (by omega) q2])
section
variable {X : e_X} {d : Nat} {I J : Nat → Int → Int}
theorem q_news (h : Rel I J) {a b : Int} (ha : rg a) (hb : rg b) : pr X d I J 116 210 [.int (iI a), .int (iI b)] := by
  by_cases q1 : 0 ≤ a ∧ a ≤ 15
  · by_cases q2 : 0 ≤ b ∧ b ≤ 15
    · refine ⟨I 8 a, up I 8 a b, J, up (up I 8 a b) 70 (10 + a) b, J, ?_, ?_, Rel_put (by unfold cor; omega) h (inv_u8 h.1.1 q2)⟩
      · simp (disch := omega) only [v_116_0, u_116_0, x_iload1, x_sipush, x_call3_0, x_call3_1, x_call3_2, x_call3_3, x_call3_4, e_k_s, e_k_i, List.nil_append, List.cons_append, x_ifCond_ne, x_ifCond_neb, x_iload2, x_ifCond_eq, x_ifCond_eqb, x_jsr, u_116_20, x_ireturn, u_116_22, x_aload0, k_0_0, k_1_6, b_in, b_put8, ↓reduceIte, b01_0, ite_not, if_true, if_false, Int.reduceLT, Int.reduceEq]
      · have e : up I 8 a b 70 (10 + a) = I 8 a := by
          rw [up_o (by decide)]
          exact h.1.2.2.2.1.2.2.2.2 a (by omega) (by omega)
        simp (disch := omega) only [v_210_69, u_210_0, x_iload1, x_sipush, x_call3_0, x_call3_1, x_call3_2, x_call3_3, x_call3_4, e_k_s, e_k_i, List.nil_append, List.cons_append, x_ifCond_eq, x_ifCond_eqb, x_iload2, x_aload0, x_iadd, x_goto, u_210_32, x_jsr, u_210_33, x_ireturn, m_in, m_bec, e, ↓reduceIte, b01_0, ite_not, if_true, if_false, Int.reduceLT, Int.reduceEq]
    · refine ⟨-1, I, J, I, J, ?_, ?_, h⟩
      · simp (disch := omega) only [v_116_0, u_116_0, x_iload1, x_sipush, x_call3_0, x_call3_1, x_call3_2, x_call3_3, x_call3_4, e_k_s, e_k_i, List.nil_append, List.cons_append, x_ifCond_ne, x_ifCond_neb, x_iload2, x_ifCond_eq, x_ifCond_eqb, x_jsr, u_116_20, x_ireturn, u_116_22, x_aload0, k_0_0, k_1_6, b_in, b_nin, ↓reduceIte, b01_0, ite_not, if_true, if_false, Int.reduceLT, Int.reduceEq]
      · simp (disch := omega) only [v_210_69, u_210_0, x_iload1, x_sipush, x_call3_0, x_call3_1, x_call3_2, x_call3_3, x_call3_4, e_k_s, e_k_i, List.nil_append, List.cons_append, x_ifCond_eq, x_ifCond_eqb, x_iload2, x_aload0, x_iadd, x_goto, u_210_32, x_jsr, u_210_33, x_ireturn, m_in, m_nin, ↓reduceIte, b01_0, ite_not, if_true, if_false, Int.reduceLT, Int.reduceEq]
  · refine ⟨-1, I, J, I, J, ?_, ?_, h⟩
    · simp (disch := omega) only [v_116_0, u_116_0, x_iload1, x_sipush, x_call3_0, x_call3_1, x_call3_2, x_call3_3, x_call3_4, e_k_s, e_k_i, List.nil_append, List.cons_append, x_ifCond_ne, x_ifCond_neb, x_iload2, x_ifCond_eq, x_ifCond_eqb, x_jsr, u_116_20, x_ireturn, u_116_22, x_aload0, k_0_0, k_1_6, b_in, b_nin, ↓reduceIte, b01_0, ite_not, if_true, if_false, Int.reduceLT, Int.reduceEq]
    · simp (disch := omega) only [v_210_69, u_210_0, x_iload1, x_sipush, x_call3_0, x_call3_1, x_call3_2, x_call3_3, x_call3_4, e_k_s, e_k_i, List.nil_append, List.cons_append, x_ifCond_eq, x_ifCond_eqb, x_iload2, x_aload0, x_iadd, x_goto, u_210_32, x_jsr, u_210_33, x_ireturn, m_in, m_nin, ↓reduceIte, b01_0, ite_not, if_true, if_false, Int.reduceLT, Int.reduceEq]
theorem q_home (h : Rel I J) {a b c : Int} (ha : rg a) (hb : rg b) (hc : rg c) : pr X d I J 117 211 [.int (iI a), .int (iI b), .int (iI c)] := by
  by_cases q1 : 0 ≤ a ∧ a ≤ 5
  · by_cases q2 : 0 ≤ b ∧ b ≤ 1
    · by_cases q3 : 0 ≤ c ∧ c ≤ 9
      · have hE := h.1.2.2.2.1.2.2.2.1 a (by omega) (by omega)
        by_cases q4 : b = 0
        · subst q4
          refine ⟨I 6 a, up I 6 a c, J, up (up I 6 a c) 70 (26 + a) c, J, ?_, ?_, Rel_put (by unfold cor; omega) h (inv_u6 h.1.1 q3)⟩
          · simp (disch := omega) only [v_117_0, u_117_0, x_iload1, x_sipush, x_call3_0, x_call3_1, x_call3_2, x_call3_3, x_call3_4, e_k_s, e_k_i, List.nil_append, List.cons_append, x_ifCond_ne, x_ifCond_neb, x_iload2, x_iload3, x_ifCond_eq, x_ifCond_eqb, x_jsr, u_117_28, x_ireturn, u_117_30, x_aload0, k_0_0, k_1_4, x_goto, u_117_44, k_1_5, u_117_51, b_in, b_put6, ↓reduceIte, b01_0, ite_not, if_true, if_false, Int.reduceLT, Int.reduceEq]
          · have e : up I 6 a c 70 (26 + a) = I 6 a := by
              rw [up_o (by decide)]
              exact hE.1
            simp (disch := omega) only [v_211_69, u_211_0, x_iload1, x_call1_0, x_call1_1, x_call1_2, x_call1_3, x_call1_4, e_k_s, e_k_i, List.nil_append, List.cons_append, x_ifCond_eq, x_ifCond_eqb, x_iload2, x_sipush, x_call3_0, x_call3_1, x_call3_2, x_call3_3, x_call3_4, x_iload3, x_aload0, x_ifCond_ne, x_ifCond_neb, x_goto, u_211_33, x_jsr, u_211_35, x_iadd, u_211_44, u_211_45, x_ireturn, m_5, m_9, m_in, m_bec, e, ↓reduceIte, b01_0, ite_not, if_true, if_false, Int.reduceLT, Int.reduceEq]
            rw [if_pos q3, if_pos q1]
        · have : b = 1 := by omega
          subst this
          refine ⟨I 7 a, up I 7 a c, J, up (up I 7 a c) 70 (32 + a) c, J, ?_, ?_, Rel_put (by unfold cor; omega) h (inv_u7 h.1.1 q3)⟩
          · simp (disch := omega) only [v_117_0, u_117_0, x_iload1, x_sipush, x_call3_0, x_call3_1, x_call3_2, x_call3_3, x_call3_4, e_k_s, e_k_i, List.nil_append, List.cons_append, x_ifCond_ne, x_ifCond_neb, x_iload2, x_iload3, x_ifCond_eq, x_ifCond_eqb, x_jsr, u_117_28, x_ireturn, u_117_30, x_aload0, k_0_0, k_1_4, x_goto, u_117_44, k_1_5, u_117_51, b_in, b_put7, ↓reduceIte, b01_0, ite_not, if_true, if_false, Int.reduceLT, Int.reduceEq]
          · have e : up I 7 a c 70 (32 + a) = I 7 a := by
              rw [up_o (by decide)]
              exact hE.2
            simp (disch := omega) only [v_211_69, u_211_0, x_iload1, x_call1_0, x_call1_1, x_call1_2, x_call1_3, x_call1_4, e_k_s, e_k_i, List.nil_append, List.cons_append, x_ifCond_eq, x_ifCond_eqb, x_iload2, x_sipush, x_call3_0, x_call3_1, x_call3_2, x_call3_3, x_call3_4, x_iload3, x_aload0, x_ifCond_ne, x_ifCond_neb, x_goto, u_211_33, x_jsr, u_211_35, x_iadd, u_211_44, u_211_45, x_ireturn, m_5, m_9, m_in, m_bec, e, ↓reduceIte, b01_0, ite_not, if_true, if_false, Int.reduceLT, Int.reduceEq]
            rw [if_pos q3, if_pos q1]
      · refine ⟨-1, I, J, I, J, ?_, ?_, h⟩
        · simp (disch := omega) only [v_117_0, u_117_0, x_iload1, x_sipush, x_call3_0, x_call3_1, x_call3_2, x_call3_3, x_call3_4, e_k_s, e_k_i, List.nil_append, List.cons_append, x_ifCond_ne, x_ifCond_neb, x_iload2, x_iload3, x_ifCond_eq, x_ifCond_eqb, x_jsr, u_117_28, x_ireturn, u_117_30, x_aload0, k_0_0, k_1_4, x_goto, u_117_44, k_1_5, u_117_51, b_in, b_nin, ↓reduceIte, b01_0, ite_not, if_true, if_false, Int.reduceLT, Int.reduceEq]
        · simp (disch := omega) only [v_211_69, u_211_0, x_iload1, x_call1_0, x_call1_1, x_call1_2, x_call1_3, x_call1_4, e_k_s, e_k_i, List.nil_append, List.cons_append, x_ifCond_eq, x_ifCond_eqb, x_iload2, x_sipush, x_call3_0, x_call3_1, x_call3_2, x_call3_3, x_call3_4, x_iload3, x_aload0, x_ifCond_ne, x_ifCond_neb, x_goto, u_211_33, x_jsr, u_211_35, x_iadd, u_211_44, u_211_45, x_ireturn, m_5, m_9, m_in, m_nin, ↓reduceIte, b01_0, ite_not, if_true, if_false, Int.reduceLT, Int.reduceEq]
          rw [if_pos q1, if_neg q3]
    · refine ⟨-1, I, J, I, J, ?_, ?_, h⟩
      · simp (disch := omega) only [v_117_0, u_117_0, x_iload1, x_sipush, x_call3_0, x_call3_1, x_call3_2, x_call3_3, x_call3_4, e_k_s, e_k_i, List.nil_append, List.cons_append, x_ifCond_ne, x_ifCond_neb, x_iload2, x_iload3, x_ifCond_eq, x_ifCond_eqb, x_jsr, u_117_28, x_ireturn, u_117_30, x_aload0, k_0_0, k_1_4, x_goto, u_117_44, k_1_5, u_117_51, b_in, b_nin, ↓reduceIte, b01_0, ite_not, if_true, if_false, Int.reduceLT, Int.reduceEq]
      · simp (disch := omega) only [v_211_69, u_211_0, x_iload1, x_call1_0, x_call1_1, x_call1_2, x_call1_3, x_call1_4, e_k_s, e_k_i, List.nil_append, List.cons_append, x_ifCond_eq, x_ifCond_eqb, x_iload2, x_sipush, x_call3_0, x_call3_1, x_call3_2, x_call3_3, x_call3_4, x_iload3, x_aload0, x_ifCond_ne, x_ifCond_neb, x_goto, u_211_33, x_jsr, u_211_35, x_iadd, u_211_44, u_211_45, x_ireturn, m_5, m_9, m_in, m_nin, ↓reduceIte, b01_0, ite_not, if_true, if_false, Int.reduceLT, Int.reduceEq]
        rw [if_pos q1]
  · refine ⟨-1, I, J, I, J, ?_, ?_, h⟩
    · simp (disch := omega) only [v_117_0, u_117_0, x_iload1, x_sipush, x_call3_0, x_call3_1, x_call3_2, x_call3_3, x_call3_4, e_k_s, e_k_i, List.nil_append, List.cons_append, x_ifCond_ne, x_ifCond_neb, x_iload2, x_iload3, x_ifCond_eq, x_ifCond_eqb, x_jsr, u_117_28, x_ireturn, u_117_30, x_aload0, k_0_0, k_1_4, x_goto, u_117_44, k_1_5, u_117_51, b_in, b_nin, ↓reduceIte, b01_0, ite_not, if_true, if_false, Int.reduceLT, Int.reduceEq]
    · simp (disch := omega) only [v_211_69, u_211_0, x_iload1, x_call1_0, x_call1_1, x_call1_2, x_call1_3, x_call1_4, e_k_s, e_k_i, List.nil_append, List.cons_append, x_ifCond_eq, x_ifCond_eqb, x_iload2, x_sipush, x_call3_0, x_call3_1, x_call3_2, x_call3_3, x_call3_4, x_iload3, x_aload0, x_ifCond_ne, x_ifCond_neb, x_goto, u_211_33, x_jsr, u_211_35, x_iadd, u_211_44, u_211_45, x_ireturn, m_5, m_9, m_in, m_nin, ↓reduceIte, b01_0, ite_not, if_true, if_false, Int.reduceLT, Int.reduceEq]
      rw [if_neg q1]
theorem q_homeOf (h : Rel I J) {a b : Int} (ha : rg a) (hb : rg b) : pr X d I J 118 212 [.int (iI a), .int (iI b)] := by
  by_cases q1 : 0 ≤ a ∧ a ≤ 5
  · by_cases q2 : 0 ≤ b ∧ b ≤ 1
    · have hE := h.1.2.2.2.1.2.2.2.1 a (by omega) (by omega)
      by_cases q4 : b = 0
      · subst q4
        refine ⟨I 6 a, I, J, I, J, ?_, ?_, h⟩
        · simp (disch := omega) only [v_118_0, u_118_0, x_iload1, x_sipush, x_call3_0, x_call3_1, x_call3_2, x_call3_3, x_call3_4, e_k_s, e_k_i, List.nil_append, List.cons_append, x_ifCond_ne, x_ifCond_neb, x_iload2, x_ifCond_eq, x_ifCond_eqb, x_jsr, u_118_18, x_ireturn, u_118_20, x_aload0, k_0_0, k_1_4, x_goto, u_118_36, k_1_5, u_118_45, ia_6, ia_7, b_in, ↓reduceIte, b01_0, ite_not, if_true, if_false, Int.reduceLT, Int.reduceEq]
        · have e := hE.1
          simp (disch := omega) only [v_212_69, u_212_0, x_iload1, x_call1_0, x_call1_1, x_call1_2, x_call1_3, x_call1_4, e_k_s, e_k_i, List.nil_append, List.cons_append, x_ifCond_eq, x_ifCond_eqb, x_iload2, x_sipush, x_call3_0, x_call3_1, x_call3_2, x_call3_3, x_call3_4, x_aload0, k_69_0, x_ifCond_ne, x_ifCond_neb, x_goto, u_212_29, x_jsr, u_212_31, x_iadd, u_212_37, u_212_38, x_ireturn, ia_70, m_5, m_in, e, ↓reduceIte, b01_0, ite_not, if_true, if_false, Int.reduceLT, Int.reduceEq]
          rw [if_pos q1]
      · have : b = 1 := by omega
        subst this
        refine ⟨I 7 a, I, J, I, J, ?_, ?_, h⟩
        · simp (disch := omega) only [v_118_0, u_118_0, x_iload1, x_sipush, x_call3_0, x_call3_1, x_call3_2, x_call3_3, x_call3_4, e_k_s, e_k_i, List.nil_append, List.cons_append, x_ifCond_ne, x_ifCond_neb, x_iload2, x_ifCond_eq, x_ifCond_eqb, x_jsr, u_118_18, x_ireturn, u_118_20, x_aload0, k_0_0, k_1_4, x_goto, u_118_36, k_1_5, u_118_45, ia_6, ia_7, b_in, ↓reduceIte, b01_0, ite_not, if_true, if_false, Int.reduceLT, Int.reduceEq]
        · have e := hE.2
          simp (disch := omega) only [v_212_69, u_212_0, x_iload1, x_call1_0, x_call1_1, x_call1_2, x_call1_3, x_call1_4, e_k_s, e_k_i, List.nil_append, List.cons_append, x_ifCond_eq, x_ifCond_eqb, x_iload2, x_sipush, x_call3_0, x_call3_1, x_call3_2, x_call3_3, x_call3_4, x_aload0, k_69_0, x_ifCond_ne, x_ifCond_neb, x_goto, u_212_29, x_jsr, u_212_31, x_iadd, u_212_37, u_212_38, x_ireturn, ia_70, m_5, m_in, e, ↓reduceIte, b01_0, ite_not, if_true, if_false, Int.reduceLT, Int.reduceEq]
          rw [if_pos q1]
    · refine ⟨-1, I, J, I, J, ?_, ?_, h⟩
      · simp (disch := omega) only [v_118_0, u_118_0, x_iload1, x_sipush, x_call3_0, x_call3_1, x_call3_2, x_call3_3, x_call3_4, e_k_s, e_k_i, List.nil_append, List.cons_append, x_ifCond_ne, x_ifCond_neb, x_iload2, x_ifCond_eq, x_ifCond_eqb, x_jsr, u_118_18, x_ireturn, u_118_20, x_aload0, k_0_0, k_1_4, x_goto, u_118_36, k_1_5, u_118_45, ia_6, ia_7, b_in, b_nin, ↓reduceIte, b01_0, ite_not, if_true, if_false, Int.reduceLT, Int.reduceEq]
      · simp (disch := omega) only [v_212_69, u_212_0, x_iload1, x_call1_0, x_call1_1, x_call1_2, x_call1_3, x_call1_4, e_k_s, e_k_i, List.nil_append, List.cons_append, x_ifCond_eq, x_ifCond_eqb, x_iload2, x_sipush, x_call3_0, x_call3_1, x_call3_2, x_call3_3, x_call3_4, x_aload0, k_69_0, x_ifCond_ne, x_ifCond_neb, x_goto, u_212_29, x_jsr, u_212_31, x_iadd, u_212_37, u_212_38, x_ireturn, ia_70, m_5, m_in, m_nin, ↓reduceIte, b01_0, ite_not, if_true, if_false, Int.reduceLT, Int.reduceEq]
        rw [if_pos q1]
  · refine ⟨-1, I, J, I, J, ?_, ?_, h⟩
    · simp (disch := omega) only [v_118_0, u_118_0, x_iload1, x_sipush, x_call3_0, x_call3_1, x_call3_2, x_call3_3, x_call3_4, e_k_s, e_k_i, List.nil_append, List.cons_append, x_ifCond_ne, x_ifCond_neb, x_iload2, x_ifCond_eq, x_ifCond_eqb, x_jsr, u_118_18, x_ireturn, u_118_20, x_aload0, k_0_0, k_1_4, x_goto, u_118_36, k_1_5, u_118_45, ia_6, ia_7, b_in, b_nin, ↓reduceIte, b01_0, ite_not, if_true, if_false, Int.reduceLT, Int.reduceEq]
    · simp (disch := omega) only [v_212_69, u_212_0, x_iload1, x_call1_0, x_call1_1, x_call1_2, x_call1_3, x_call1_4, e_k_s, e_k_i, List.nil_append, List.cons_append, x_ifCond_eq, x_ifCond_eqb, x_iload2, x_sipush, x_call3_0, x_call3_1, x_call3_2, x_call3_3, x_call3_4, x_aload0, k_69_0, x_ifCond_ne, x_ifCond_neb, x_goto, u_212_29, x_jsr, u_212_31, x_iadd, u_212_37, u_212_38, x_ireturn, ia_70, m_5, m_in, m_nin, ↓reduceIte, b01_0, ite_not, if_true, if_false, Int.reduceLT, Int.reduceEq]
      rw [if_neg q1]
theorem q_remake (h : Rel I J) {a b : Int} (ha : rg a) (hb : rg b) : pr X d I J 115 209 [.int (iI a), .int (iI b)] := by
  have hn := h.1.1.1
  have e6 := h.1.2.2.2.1.2.1
  by_cases q1 : 0 ≤ a ∧ a < I 1 9
  · by_cases q2 : 1 ≤ b ∧ b ≤ 5
    · refine ⟨I 2 a, up I 2 a b, J, up (up I 2 a b) 70 (38 + 6 * a + 0) b, J, ?_, ?_, Rel_put (by unfold cor; omega) h (inv_u2 h.1.1 q2)⟩
      · simp (disch := omega) only [v_115_0, u_115_0, x_aload0, k_0_0, x_iload1, x_call2_0, x_call2_1, x_call2_2, x_call2_3, x_call2_4, e_k_s, e_k_i, List.nil_append, List.cons_append, x_ifCond_eq, x_ifCond_eqb, x_iload2, x_sipush, x_call3_0, x_call3_1, x_call3_2, x_call3_3, x_call3_4, x_jsr, u_115_20, x_ireturn, u_115_22, k_1_0, t_in, b_in, b_put2, ↓reduceIte, b01_0, ite_not, if_true, if_false, Int.reduceLT, Int.reduceEq]
      · have e : up I 2 a b 70 (38 + 6 * a) = I 2 a := by
          rw [up_o (by decide)]
          have := (h.1.2.2.2.1.2.2.1 a (by omega) (by omega)).1
          rw [Int.add_zero] at this
          exact this
        have e6' : up I 2 a b 70 6 = I 1 9 := by rw [up_o (by decide)]; exact e6
        simp (disch := omega) only [v_209_69, u_209_0, x_aload0, x_iload1, x_call2_0, x_call2_1, x_call2_2, x_call2_3, x_call2_4, e_k_s, e_k_i, List.nil_append, List.cons_append, x_ifCond_eq, x_ifCond_eqb, x_iload2, x_sipush, x_call3_0, x_call3_1, x_call3_2, x_call3_3, x_call3_4, x_imul, x_iadd, x_goto, u_209_32, x_jsr, u_209_33, x_ireturn, m_pin, m_in, m_bec, e, ↓reduceIte, b01_0, ite_not, if_true, if_false, Int.reduceLT, Int.reduceEq]
        rw [Int.add_zero]
    · refine ⟨-1, I, J, I, J, ?_, ?_, h⟩
      · simp (disch := omega) only [v_115_0, u_115_0, x_aload0, k_0_0, x_iload1, x_call2_0, x_call2_1, x_call2_2, x_call2_3, x_call2_4, e_k_s, e_k_i, List.nil_append, List.cons_append, x_ifCond_eq, x_ifCond_eqb, x_iload2, x_sipush, x_call3_0, x_call3_1, x_call3_2, x_call3_3, x_call3_4, x_jsr, u_115_20, x_ireturn, u_115_22, k_1_0, t_in, b_nin, ↓reduceIte, b01_0, ite_not, if_true, if_false, Int.reduceLT, Int.reduceEq]
      · simp (disch := omega) only [v_209_69, u_209_0, x_aload0, x_iload1, x_call2_0, x_call2_1, x_call2_2, x_call2_3, x_call2_4, e_k_s, e_k_i, List.nil_append, List.cons_append, x_ifCond_eq, x_ifCond_eqb, x_iload2, x_sipush, x_call3_0, x_call3_1, x_call3_2, x_call3_3, x_call3_4, x_imul, x_iadd, x_goto, u_209_32, x_jsr, u_209_33, x_ireturn, m_pin, m_nin, ↓reduceIte, b01_0, ite_not, if_true, if_false, Int.reduceLT, Int.reduceEq]
  · refine ⟨-1, I, J, I, J, ?_, ?_, h⟩
    · simp (disch := omega) only [v_115_0, u_115_0, x_aload0, k_0_0, x_iload1, x_call2_0, x_call2_1, x_call2_2, x_call2_3, x_call2_4, e_k_s, e_k_i, List.nil_append, List.cons_append, x_ifCond_eq, x_ifCond_eqb, x_iload2, x_sipush, x_call3_0, x_call3_1, x_call3_2, x_call3_3, x_call3_4, x_jsr, u_115_20, x_ireturn, u_115_22, k_1_0, t_nin, ↓reduceIte, b01_0, ite_not, if_true, if_false, Int.reduceLT, Int.reduceEq]
    · simp (disch := omega) only [v_209_69, u_209_0, x_aload0, x_iload1, x_call2_0, x_call2_1, x_call2_2, x_call2_3, x_call2_4, e_k_s, e_k_i, List.nil_append, List.cons_append, x_ifCond_eq, x_ifCond_eqb, x_iload2, x_sipush, x_call3_0, x_call3_1, x_call3_2, x_call3_3, x_call3_4, x_imul, x_iadd, x_goto, u_209_32, x_jsr, u_209_33, x_ireturn, m_pnin, ↓reduceIte, b01_0, ite_not, if_true, if_false, Int.reduceLT, Int.reduceEq]
theorem TB_seat {T : Nat → Int → Int} {S : Int → Int} (h : TB T S) {k v : Int} (hk : 0 ≤ k ∧ k < T 1 9) (hv : v = 0 ∨ v = 1) : TB (up T 1 10 (stb (T 1 10) k v)) (upf S (38 + 6 * k + 4) v) := by
  have hn := h.1.1
  have hs := inv_s h.1
  have hb := stb_b h.1.1 h.1.2.1 hk
  have ht := (stb_i hs (k := k) (by omega)).2.2.2
  obtain ⟨h1, h2, h3, h4, h5, h6, h7, h8, h9⟩ := id h.1
  refine TB_r1 h (fun o ho => by funext b; exact up_o ho) (up_k (by decide)) ?_ (fun x hx hx2 => ?_) ?_ ?_
  · refine ⟨h1, ?_, h3, h4, h5, h6, h7, h8, h9⟩
    rw [up_self]
    show 0 ≤ stb (T 1 10) k v ∧ stb (T 1 10) k v < 2 ^ (T 1 9).toNat
    rcases hv with rfl | rfl <;> omega
  · unfold upf
    rw [if_neg (by omega)]
  · unfold upf
    rw [if_neg (by omega), up_k (by decide)]
    exact h.2.2.2.1.1
  · obtain ⟨c0, c2, c3, c4, c5, c6⟩ := h.2.2.2.2.2.2
    refine ⟨?_, ?_, ?_, ?_, ?_, fun j j0 j1 => ?_⟩
    · unfold upf
      rw [if_neg (by omega), up_k (by decide)]
      exact c0
    · unfold upf
      rw [if_neg (by omega), up_k (by decide)]
      exact c2
    · unfold upf
      rw [if_neg (by omega), up_k (by decide)]
      exact c3
    · unfold upf
      rw [if_neg (by omega), up_k (by decide)]
      exact c4
    · unfold upf
      rw [if_neg (by omega), up_k (by decide)]
      exact c5
    · rw [up_k (by decide)] at j1
      rw [up_self]
      unfold upf
      by_cases q : j = k
      · subst q
        rw [if_pos rfl]
        rcases hv with rfl | rfl
        · rw [(ht j (by omega)).2, if_pos rfl]
        · rw [(ht j (by omega)).1, if_pos rfl]
      · rw [if_neg (by omega), c6 j j0 j1]
        rcases hv with rfl | rfl
        · rw [(ht j (by omega)).2, if_neg q]
        · rw [(ht j (by omega)).1, if_neg q]
theorem Rel_seat (h : Rel I J) {k v : Int} (hk : 0 ≤ k ∧ k < I 1 9) (hv : v = 0 ∨ v = 1) : Rel (up (up I 1 10 (stb (I 1 10) k v)) 70 (38 + 6 * k + 4) v) J := by
  have e70 : up I 1 10 (stb (I 1 10) k v) 70 = I 70 := by
    funext b
    exact up_o (by decide)
  refine Rel_r1 h ?_ (fun o h1 h2 => ?_)
  · rw [up_upf, e70]
    exact TB_eq (fun a _ _ => by funext b; exact up_o (by omega)) (fun a _ _ => by funext b; exact up_o (by omega)) rfl (TB_seat h.1 hk hv)
  · funext b
    rw [up_o h2, up_o h1]
theorem q_change (h : Rel I J) {a w b : Int} (ha : rg a) (hw : rg w) (hb : rg b) : pr X d I J 113 207 [.int (iI a), .int (iI w), .int (iI b)] := by
  have hn := h.1.1.1
  have e6 := h.1.2.2.2.1.2.1
  by_cases q1 : 0 ≤ a ∧ a < I 1 9
  · have hE := h.1.2.2.2.1.2.2.1 a q1.1 q1.2
    have hs := inv_s h.1.1
    have c6 := h.1.2.2.2.2.2.2.2.2.2.2.2 a q1.1 q1.2
    by_cases w1 : w = 1
    · subst w1
      by_cases q2 : 0 ≤ b ∧ b ≤ 39
      · refine ⟨I 3 a, up I 3 a b, J, up (up I 3 a b) 70 (38 + 6 * a + 1) b, J, ?_, ?_, Rel_put (by unfold cor; omega) h (inv_u3 h.1.1 q2)⟩
        · simp (disch := omega) only [v_113_0, u_113_0, x_aload0, k_0_0, x_iload1, x_call2_0, x_call2_1, x_call2_2, x_call2_3, x_call2_4, e_k_s, e_k_i, List.nil_append, List.cons_append, x_ifCond_ne, x_ifCond_neb, x_sipush, x_ireturn, u_113_13, x_iload2, x_switch, e_sw_c, e_sw_n, u_113_44, x_iload3, x_call3_0, x_call3_1, x_call3_2, x_call3_3, x_call3_4, x_ifCond_eq, x_ifCond_eqb, x_goto, u_113_58, k_1_1, x_jsr, u_113_70, u_113_71, u_113_85, k_1_2, u_113_97, u_113_98, u_113_111, k_1_3, u_113_123, u_113_124, u_113_137, x_if_icmp_ne, u_113_151, u_113_152, u_113_155, u_113_156, t_in, b_in, b_put3, ↓reduceIte, b01_0, ite_not, if_true, if_false, Int.reduceLT, Int.reduceEq]
        · have e : up I 3 a b 70 (38 + 6 * a + 1) = I 3 a := by rw [up_o (by decide)]; exact hE.2.1
          have e6' : up I 3 a b 70 6 = I 1 9 := by rw [up_o (by decide)]; exact e6
          simp (disch := omega) only [v_207_69, u_207_0, x_iload2, x_sipush, x_if_icmp_ne, x_goto, u_207_10, u_207_19, u_207_28, x_jsr, u_207_30, x_istore4i, x_istore4r, x_istore4u, x_aload0, x_iload1, x_call2_0, x_call2_1, x_call2_2, x_call2_3, x_call2_4, e_k_s, e_k_i, List.nil_append, List.cons_append, x_ifCond_eq, x_ifCond_eqb, x_call3_0, x_call3_1, x_call3_2, x_call3_3, x_call3_4, x_iload3, x_iload4, x_imul, x_iadd, u_207_76, u_207_77, x_ireturn, m_pin, m_in, m_bec, e, ↓reduceIte, b01_0, ite_not, if_true, if_false, Int.reduceLT, Int.reduceEq]
      · refine ⟨-1, I, J, I, J, ?_, ?_, h⟩
        · simp (disch := omega) only [v_113_0, u_113_0, x_aload0, k_0_0, x_iload1, x_call2_0, x_call2_1, x_call2_2, x_call2_3, x_call2_4, e_k_s, e_k_i, List.nil_append, List.cons_append, x_ifCond_ne, x_ifCond_neb, x_sipush, x_ireturn, u_113_13, x_iload2, x_switch, e_sw_c, e_sw_n, u_113_44, x_iload3, x_call3_0, x_call3_1, x_call3_2, x_call3_3, x_call3_4, x_ifCond_eq, x_ifCond_eqb, x_goto, u_113_58, k_1_1, x_jsr, u_113_70, u_113_71, u_113_85, k_1_2, u_113_97, u_113_98, u_113_111, k_1_3, u_113_123, u_113_124, u_113_137, x_if_icmp_ne, u_113_151, u_113_152, u_113_155, u_113_156, t_in, b_nin, ↓reduceIte, b01_0, ite_not, if_true, if_false, Int.reduceLT, Int.reduceEq]
        · simp (disch := omega) only [v_207_69, u_207_0, x_iload2, x_sipush, x_if_icmp_ne, x_goto, u_207_10, u_207_19, u_207_28, x_jsr, u_207_30, x_istore4i, x_istore4r, x_istore4u, x_aload0, x_iload1, x_call2_0, x_call2_1, x_call2_2, x_call2_3, x_call2_4, e_k_s, e_k_i, List.nil_append, List.cons_append, x_ifCond_eq, x_ifCond_eqb, x_call3_0, x_call3_1, x_call3_2, x_call3_3, x_call3_4, x_iload3, x_iload4, x_imul, x_iadd, u_207_76, u_207_77, x_ireturn, m_pin, m_in, m_nin, ↓reduceIte, b01_0, ite_not, if_true, if_false, Int.reduceLT, Int.reduceEq]
    · by_cases w2 : w = 2
      · subst w2
        by_cases q2 : 0 ≤ b ∧ b ≤ 9
        · refine ⟨I 4 a, up I 4 a b, J, up (up I 4 a b) 70 (38 + 6 * a + 2) b, J, ?_, ?_, Rel_put (by unfold cor; omega) h (inv_u4 h.1.1 q2)⟩
          · simp (disch := omega) only [v_113_0, u_113_0, x_aload0, k_0_0, x_iload1, x_call2_0, x_call2_1, x_call2_2, x_call2_3, x_call2_4, e_k_s, e_k_i, List.nil_append, List.cons_append, x_ifCond_ne, x_ifCond_neb, x_sipush, x_ireturn, u_113_13, x_iload2, x_switch, e_sw_c, e_sw_n, u_113_44, x_iload3, x_call3_0, x_call3_1, x_call3_2, x_call3_3, x_call3_4, x_ifCond_eq, x_ifCond_eqb, x_goto, u_113_58, k_1_1, x_jsr, u_113_70, u_113_71, u_113_85, k_1_2, u_113_97, u_113_98, u_113_111, k_1_3, u_113_123, u_113_124, u_113_137, x_if_icmp_ne, u_113_151, u_113_152, u_113_155, u_113_156, t_in, b_in, b_put4, ↓reduceIte, b01_0, ite_not, if_true, if_false, Int.reduceLT, Int.reduceEq]
          · have e : up I 4 a b 70 (38 + 6 * a + 2) = I 4 a := by rw [up_o (by decide)]; exact hE.2.2.1
            have e6' : up I 4 a b 70 6 = I 1 9 := by rw [up_o (by decide)]; exact e6
            simp (disch := omega) only [v_207_69, u_207_0, x_iload2, x_sipush, x_if_icmp_ne, x_goto, u_207_10, u_207_19, u_207_28, x_jsr, u_207_30, x_istore4i, x_istore4r, x_istore4u, x_aload0, x_iload1, x_call2_0, x_call2_1, x_call2_2, x_call2_3, x_call2_4, e_k_s, e_k_i, List.nil_append, List.cons_append, x_ifCond_eq, x_ifCond_eqb, x_call3_0, x_call3_1, x_call3_2, x_call3_3, x_call3_4, x_iload3, x_iload4, x_imul, x_iadd, u_207_76, u_207_77, x_ireturn, m_pin, m_in, m_bec, e, ↓reduceIte, b01_0, ite_not, if_true, if_false, Int.reduceLT, Int.reduceEq]
        · refine ⟨-1, I, J, I, J, ?_, ?_, h⟩
          · simp (disch := omega) only [v_113_0, u_113_0, x_aload0, k_0_0, x_iload1, x_call2_0, x_call2_1, x_call2_2, x_call2_3, x_call2_4, e_k_s, e_k_i, List.nil_append, List.cons_append, x_ifCond_ne, x_ifCond_neb, x_sipush, x_ireturn, u_113_13, x_iload2, x_switch, e_sw_c, e_sw_n, u_113_44, x_iload3, x_call3_0, x_call3_1, x_call3_2, x_call3_3, x_call3_4, x_ifCond_eq, x_ifCond_eqb, x_goto, u_113_58, k_1_1, x_jsr, u_113_70, u_113_71, u_113_85, k_1_2, u_113_97, u_113_98, u_113_111, k_1_3, u_113_123, u_113_124, u_113_137, x_if_icmp_ne, u_113_151, u_113_152, u_113_155, u_113_156, t_in, b_nin, ↓reduceIte, b01_0, ite_not, if_true, if_false, Int.reduceLT, Int.reduceEq]
          · simp (disch := omega) only [v_207_69, u_207_0, x_iload2, x_sipush, x_if_icmp_ne, x_goto, u_207_10, u_207_19, u_207_28, x_jsr, u_207_30, x_istore4i, x_istore4r, x_istore4u, x_aload0, x_iload1, x_call2_0, x_call2_1, x_call2_2, x_call2_3, x_call2_4, e_k_s, e_k_i, List.nil_append, List.cons_append, x_ifCond_eq, x_ifCond_eqb, x_call3_0, x_call3_1, x_call3_2, x_call3_3, x_call3_4, x_iload3, x_iload4, x_imul, x_iadd, u_207_76, u_207_77, x_ireturn, m_pin, m_in, m_nin, ↓reduceIte, b01_0, ite_not, if_true, if_false, Int.reduceLT, Int.reduceEq]
      · by_cases w3 : w = 3
        · subst w3
          by_cases q2 : 0 ≤ b ∧ b ≤ 5
          · refine ⟨I 5 a, up I 5 a b, J, up (up I 5 a b) 70 (38 + 6 * a + 3) b, J, ?_, ?_, Rel_put (by unfold cor; omega) h (inv_u5 h.1.1 q2)⟩
            · simp (disch := omega) only [v_113_0, u_113_0, x_aload0, k_0_0, x_iload1, x_call2_0, x_call2_1, x_call2_2, x_call2_3, x_call2_4, e_k_s, e_k_i, List.nil_append, List.cons_append, x_ifCond_ne, x_ifCond_neb, x_sipush, x_ireturn, u_113_13, x_iload2, x_switch, e_sw_c, e_sw_n, u_113_44, x_iload3, x_call3_0, x_call3_1, x_call3_2, x_call3_3, x_call3_4, x_ifCond_eq, x_ifCond_eqb, x_goto, u_113_58, k_1_1, x_jsr, u_113_70, u_113_71, u_113_85, k_1_2, u_113_97, u_113_98, u_113_111, k_1_3, u_113_123, u_113_124, u_113_137, x_if_icmp_ne, u_113_151, u_113_152, u_113_155, u_113_156, t_in, b_in, b_put5, ↓reduceIte, b01_0, ite_not, if_true, if_false, Int.reduceLT, Int.reduceEq]
            · have e : up I 5 a b 70 (38 + 6 * a + 3) = I 5 a := by rw [up_o (by decide)]; exact hE.2.2.2
              have e6' : up I 5 a b 70 6 = I 1 9 := by rw [up_o (by decide)]; exact e6
              simp (disch := omega) only [v_207_69, u_207_0, x_iload2, x_sipush, x_if_icmp_ne, x_goto, u_207_10, u_207_19, u_207_28, x_jsr, u_207_30, x_istore4i, x_istore4r, x_istore4u, x_aload0, x_iload1, x_call2_0, x_call2_1, x_call2_2, x_call2_3, x_call2_4, e_k_s, e_k_i, List.nil_append, List.cons_append, x_ifCond_eq, x_ifCond_eqb, x_call3_0, x_call3_1, x_call3_2, x_call3_3, x_call3_4, x_iload3, x_iload4, x_imul, x_iadd, u_207_76, u_207_77, x_ireturn, m_pin, m_in, m_bec, e, ↓reduceIte, b01_0, ite_not, if_true, if_false, Int.reduceLT, Int.reduceEq]
          · refine ⟨-1, I, J, I, J, ?_, ?_, h⟩
            · simp (disch := omega) only [v_113_0, u_113_0, x_aload0, k_0_0, x_iload1, x_call2_0, x_call2_1, x_call2_2, x_call2_3, x_call2_4, e_k_s, e_k_i, List.nil_append, List.cons_append, x_ifCond_ne, x_ifCond_neb, x_sipush, x_ireturn, u_113_13, x_iload2, x_switch, e_sw_c, e_sw_n, u_113_44, x_iload3, x_call3_0, x_call3_1, x_call3_2, x_call3_3, x_call3_4, x_ifCond_eq, x_ifCond_eqb, x_goto, u_113_58, k_1_1, x_jsr, u_113_70, u_113_71, u_113_85, k_1_2, u_113_97, u_113_98, u_113_111, k_1_3, u_113_123, u_113_124, u_113_137, x_if_icmp_ne, u_113_151, u_113_152, u_113_155, u_113_156, t_in, b_nin, ↓reduceIte, b01_0, ite_not, if_true, if_false, Int.reduceLT, Int.reduceEq]
            · simp (disch := omega) only [v_207_69, u_207_0, x_iload2, x_sipush, x_if_icmp_ne, x_goto, u_207_10, u_207_19, u_207_28, x_jsr, u_207_30, x_istore4i, x_istore4r, x_istore4u, x_aload0, x_iload1, x_call2_0, x_call2_1, x_call2_2, x_call2_3, x_call2_4, e_k_s, e_k_i, List.nil_append, List.cons_append, x_ifCond_eq, x_ifCond_eqb, x_call3_0, x_call3_1, x_call3_2, x_call3_3, x_call3_4, x_iload3, x_iload4, x_imul, x_iadd, u_207_76, u_207_77, x_ireturn, m_pin, m_in, m_nin, ↓reduceIte, b01_0, ite_not, if_true, if_false, Int.reduceLT, Int.reduceEq]
        · by_cases w4 : w = 4
          · subst w4
            by_cases q2 : 0 ≤ b ∧ b ≤ 1
            · have e1 := t_put1 (X := X) (d := d + 28) (I := I) (J := J) hs (k := a) (by omega)
              have e0 := t_put0 (X := X) (d := d + 28) (I := I) (J := J) hs (k := a) (by omega)
              by_cases q3 : b = 1
              · subst q3
                refine ⟨bt (I 1 10) a, up I 1 10 (stb (I 1 10) a 1), J, up (up I 1 10 (stb (I 1 10) a 1)) 70 (38 + 6 * a + 4) 1, J, ?_, ?_, Rel_seat h q1 (Or.inr rfl)⟩
                · simp (disch := omega) only [v_113_0, u_113_0, x_aload0, k_0_0, x_iload1, x_call2_0, x_call2_1, x_call2_2, x_call2_3, x_call2_4, e_k_s, e_k_i, List.nil_append, List.cons_append, x_ifCond_ne, x_ifCond_neb, x_sipush, x_ireturn, u_113_13, x_iload2, x_switch, e_sw_c, e_sw_n, u_113_44, x_iload3, x_call3_0, x_call3_1, x_call3_2, x_call3_3, x_call3_4, x_ifCond_eq, x_ifCond_eqb, x_goto, u_113_58, k_1_1, x_jsr, u_113_70, u_113_71, u_113_85, k_1_2, u_113_97, u_113_98, u_113_111, k_1_3, u_113_123, u_113_124, u_113_137, x_if_icmp_ne, u_113_151, u_113_152, u_113_155, u_113_156, t_in, b_in, e1, ↓reduceIte, b01_0, ite_not, if_true, if_false, Int.reduceLT, Int.reduceEq]
                · have e : up I 1 10 (stb (I 1 10) a 1) 70 (38 + 6 * a + 4) = bt (I 1 10) a := by rw [up_o (by decide)]; exact c6
                  have e6' : up I 1 10 (stb (I 1 10) a 1) 70 6 = I 1 9 := by rw [up_o (by decide)]; exact e6
                  simp (disch := omega) only [v_207_69, u_207_0, x_iload2, x_sipush, x_if_icmp_ne, x_goto, u_207_10, u_207_19, u_207_28, x_jsr, u_207_30, x_istore4i, x_istore4r, x_istore4u, x_aload0, x_iload1, x_call2_0, x_call2_1, x_call2_2, x_call2_3, x_call2_4, e_k_s, e_k_i, List.nil_append, List.cons_append, x_ifCond_eq, x_ifCond_eqb, x_call3_0, x_call3_1, x_call3_2, x_call3_3, x_call3_4, x_iload3, x_iload4, x_imul, x_iadd, u_207_76, u_207_77, x_ireturn, m_pin, m_in, m_bec, e, ↓reduceIte, b01_0, ite_not, if_true, if_false, Int.reduceLT, Int.reduceEq]
              · have : b = 0 := by omega
                subst this
                refine ⟨bt (I 1 10) a, up I 1 10 (stb (I 1 10) a 0), J, up (up I 1 10 (stb (I 1 10) a 0)) 70 (38 + 6 * a + 4) 0, J, ?_, ?_, Rel_seat h q1 (Or.inl rfl)⟩
                · simp (disch := omega) only [v_113_0, u_113_0, x_aload0, k_0_0, x_iload1, x_call2_0, x_call2_1, x_call2_2, x_call2_3, x_call2_4, e_k_s, e_k_i, List.nil_append, List.cons_append, x_ifCond_ne, x_ifCond_neb, x_sipush, x_ireturn, u_113_13, x_iload2, x_switch, e_sw_c, e_sw_n, u_113_44, x_iload3, x_call3_0, x_call3_1, x_call3_2, x_call3_3, x_call3_4, x_ifCond_eq, x_ifCond_eqb, x_goto, u_113_58, k_1_1, x_jsr, u_113_70, u_113_71, u_113_85, k_1_2, u_113_97, u_113_98, u_113_111, k_1_3, u_113_123, u_113_124, u_113_137, x_if_icmp_ne, u_113_151, u_113_152, u_113_155, u_113_156, t_in, b_in, e0, ↓reduceIte, b01_0, ite_not, if_true, if_false, Int.reduceLT, Int.reduceEq]
                · have e : up I 1 10 (stb (I 1 10) a 0) 70 (38 + 6 * a + 4) = bt (I 1 10) a := by rw [up_o (by decide)]; exact c6
                  have e6' : up I 1 10 (stb (I 1 10) a 0) 70 6 = I 1 9 := by rw [up_o (by decide)]; exact e6
                  simp (disch := omega) only [v_207_69, u_207_0, x_iload2, x_sipush, x_if_icmp_ne, x_goto, u_207_10, u_207_19, u_207_28, x_jsr, u_207_30, x_istore4i, x_istore4r, x_istore4u, x_aload0, x_iload1, x_call2_0, x_call2_1, x_call2_2, x_call2_3, x_call2_4, e_k_s, e_k_i, List.nil_append, List.cons_append, x_ifCond_eq, x_ifCond_eqb, x_call3_0, x_call3_1, x_call3_2, x_call3_3, x_call3_4, x_iload3, x_iload4, x_imul, x_iadd, u_207_76, u_207_77, x_ireturn, m_pin, m_in, m_bec, e, ↓reduceIte, b01_0, ite_not, if_true, if_false, Int.reduceLT, Int.reduceEq]
            · refine ⟨-1, I, J, I, J, ?_, ?_, h⟩
              · simp (disch := omega) only [v_113_0, u_113_0, x_aload0, k_0_0, x_iload1, x_call2_0, x_call2_1, x_call2_2, x_call2_3, x_call2_4, e_k_s, e_k_i, List.nil_append, List.cons_append, x_ifCond_ne, x_ifCond_neb, x_sipush, x_ireturn, u_113_13, x_iload2, x_switch, e_sw_c, e_sw_n, u_113_44, x_iload3, x_call3_0, x_call3_1, x_call3_2, x_call3_3, x_call3_4, x_ifCond_eq, x_ifCond_eqb, x_goto, u_113_58, k_1_1, x_jsr, u_113_70, u_113_71, u_113_85, k_1_2, u_113_97, u_113_98, u_113_111, k_1_3, u_113_123, u_113_124, u_113_137, x_if_icmp_ne, u_113_151, u_113_152, u_113_155, u_113_156, t_in, b_nin, ↓reduceIte, b01_0, ite_not, if_true, if_false, Int.reduceLT, Int.reduceEq]
              · simp (disch := omega) only [v_207_69, u_207_0, x_iload2, x_sipush, x_if_icmp_ne, x_goto, u_207_10, u_207_19, u_207_28, x_jsr, u_207_30, x_istore4i, x_istore4r, x_istore4u, x_aload0, x_iload1, x_call2_0, x_call2_1, x_call2_2, x_call2_3, x_call2_4, e_k_s, e_k_i, List.nil_append, List.cons_append, x_ifCond_eq, x_ifCond_eqb, x_call3_0, x_call3_1, x_call3_2, x_call3_3, x_call3_4, x_iload3, x_iload4, x_imul, x_iadd, u_207_76, u_207_77, x_ireturn, m_pin, m_in, m_nin, ↓reduceIte, b01_0, ite_not, if_true, if_false, Int.reduceLT, Int.reduceEq]
          · refine ⟨-1, I, J, I, J, ?_, ?_, h⟩
            · simp (disch := omega) only [v_113_0, u_113_0, x_aload0, k_0_0, x_iload1, x_call2_0, x_call2_1, x_call2_2, x_call2_3, x_call2_4, e_k_s, e_k_i, List.nil_append, List.cons_append, x_ifCond_ne, x_ifCond_neb, x_sipush, x_ireturn, u_113_13, x_iload2, x_switch, e_sw_c, e_sw_n, u_113_44, x_iload3, x_call3_0, x_call3_1, x_call3_2, x_call3_3, x_call3_4, x_ifCond_eq, x_ifCond_eqb, x_goto, u_113_58, k_1_1, x_jsr, u_113_70, u_113_71, u_113_85, k_1_2, u_113_97, u_113_98, u_113_111, k_1_3, u_113_123, u_113_124, u_113_137, x_if_icmp_ne, u_113_151, u_113_152, u_113_155, u_113_156, t_in, ↓reduceIte, b01_0, ite_not, if_true, if_false, Int.reduceLT, Int.reduceEq]
              rw [if_neg w1, if_neg w2, if_neg w3, if_neg w4]
            · simp (disch := omega) only [v_207_69, u_207_0, x_iload2, x_sipush, x_if_icmp_ne, x_goto, u_207_10, u_207_19, u_207_28, x_jsr, u_207_30, x_istore4i, x_istore4r, x_istore4u, x_aload0, x_iload1, x_call2_0, x_call2_1, x_call2_2, x_call2_3, x_call2_4, e_k_s, e_k_i, List.nil_append, List.cons_append, x_ifCond_eq, x_ifCond_eqb, x_call3_0, x_call3_1, x_call3_2, x_call3_3, x_call3_4, x_iload3, x_iload4, x_imul, x_iadd, u_207_76, u_207_77, x_ireturn, m_pin, m_nin, ↓reduceIte, b01_0, ite_not, if_true, if_false, Int.reduceLT, Int.reduceEq]
              (repeat' split) <;> first | rfl | (exfalso; omega)
  · refine ⟨-1, I, J, I, J, ?_, ?_, h⟩
    · simp (disch := omega) only [v_113_0, u_113_0, x_aload0, k_0_0, x_iload1, x_call2_0, x_call2_1, x_call2_2, x_call2_3, x_call2_4, e_k_s, e_k_i, List.nil_append, List.cons_append, x_ifCond_ne, x_ifCond_neb, x_sipush, x_ireturn, u_113_13, x_iload2, x_switch, e_sw_c, e_sw_n, u_113_44, x_iload3, x_call3_0, x_call3_1, x_call3_2, x_call3_3, x_call3_4, x_ifCond_eq, x_ifCond_eqb, x_goto, u_113_58, k_1_1, x_jsr, u_113_70, u_113_71, u_113_85, k_1_2, u_113_97, u_113_98, u_113_111, k_1_3, u_113_123, u_113_124, u_113_137, x_if_icmp_ne, u_113_151, u_113_152, u_113_155, u_113_156, t_nin, ↓reduceIte, b01_0, ite_not, if_true, if_false, Int.reduceLT, Int.reduceEq]
    · simp (disch := omega) only [v_207_69, u_207_0, x_iload2, x_sipush, x_if_icmp_ne, x_goto, u_207_10, u_207_19, u_207_28, x_jsr, u_207_30, x_istore4i, x_istore4r, x_istore4u, x_aload0, x_iload1, x_call2_0, x_call2_1, x_call2_2, x_call2_3, x_call2_4, e_k_s, e_k_i, List.nil_append, List.cons_append, x_ifCond_eq, x_ifCond_eqb, x_call3_0, x_call3_1, x_call3_2, x_call3_3, x_call3_4, x_iload3, x_iload4, x_imul, x_iadd, u_207_76, u_207_77, x_ireturn, m_pnin, ↓reduceIte, b01_0, ite_not, if_true, if_false, Int.reduceLT, Int.reduceEq]
      (repeat' split) <;> first | rfl | (exfalso; omega)
end
