/-! PAIRS: a row, a changed row, the judge -/
section
variable {X : e_X} {d : Nat} {I J : Nat → Int → Int}
theorem m_inr {n a b : Int} (e : I 69 29 = n) (hn : 0 ≤ n ∧ n ≤ 4) (ha : rg a) (hb : rg b) : s_S X (d + 2) 273 [.ref 69, .int (iI a), .int (iI b)] (mm I J) = some ([.int (iI (if (0 ≤ a ∧ a < n) ∧ 0 ≤ b ∧ b < 3 then 1 else 0))], mm I J) := by
  by_cases q : 0 ≤ a ∧ a < n
  · by_cases q2 : 0 ≤ b ∧ b < 3
    · rw [if_pos ⟨q, q2⟩]
      simp (disch := omega) only [v_273_69, u_273_0, x_iload1, x_sipush, x_aload0, f_69_29, x_isub, x_call3_0, x_call3_1, x_call3_2, x_call3_3, x_call3_4, e_k_s, e_k_i, List.nil_append, List.cons_append, x_ifCond_eq, x_ifCond_eqb, x_iload2, x_goto, u_273_27, x_jsr, u_273_28, x_zret0, x_zret1, x_zretb, m_in, e, ↓reduceIte, b01_0, ite_not, if_true, if_false, Int.reduceLT, Int.reduceEq]
    · rw [if_neg (fun z => q2 z.2)]
      simp (disch := omega) only [v_273_69, u_273_0, x_iload1, x_sipush, x_aload0, f_69_29, x_isub, x_call3_0, x_call3_1, x_call3_2, x_call3_3, x_call3_4, e_k_s, e_k_i, List.nil_append, List.cons_append, x_ifCond_eq, x_ifCond_eqb, x_iload2, x_goto, u_273_27, x_jsr, u_273_28, x_zret0, x_zret1, x_zretb, m_in, m_nin, e, ↓reduceIte, b01_0, ite_not, if_true, if_false, Int.reduceLT, Int.reduceEq]
  · rw [if_neg (fun z => q z.1)]
    simp (disch := omega) only [v_273_69, u_273_0, x_iload1, x_sipush, x_aload0, f_69_29, x_isub, x_call3_0, x_call3_1, x_call3_2, x_call3_3, x_call3_4, e_k_s, e_k_i, List.nil_append, List.cons_append, x_ifCond_eq, x_ifCond_eqb, x_iload2, x_goto, u_273_27, x_jsr, u_273_28, x_zret0, x_zret1, x_zretb, m_nin, e, ↓reduceIte, b01_0, ite_not, if_true, if_false, Int.reduceLT, Int.reduceEq]
theorem w_inr {n a b : Int} (e : I 51 2 = n) (hn : 0 ≤ n ∧ n ≤ 4) (ha : rg a) (hb : rg b) : s_S X (d + 1) 55 [.ref 51, .int (iI a), .int (iI b)] (mm I J) = some ([.int (iI (if (0 ≤ a ∧ a < n) ∧ 0 ≤ b ∧ b < 3 then 1 else 0))], mm I J) := by
  simp (disch := omega) only [v_55_51, u_55_0, x_iload1, x_ifCond_lt, x_aload0, f_51_2, x_if_icmp_ge, x_iload2, x_sipush, x_goto, u_55_25, x_jsr, u_55_26, x_zret0, x_zret1, x_zretb, e, ↓reduceIte, b01_0, ite_not, if_true, if_false, Int.reduceLT, Int.reduceEq]
  (repeat' split) <;> first | rfl | (exfalso; omega)
theorem q_row (h : Rel I J) {a b : Int} (ha : rg a) (hb : rg b) : pr X d I J 153 272 [.int (iI a), .int (iI b)] := by
  obtain ⟨w1, w2, w3, w4⟩ := h.2.2.2.1
  have e1 := w_inr (X := X) (d := d + 28) (I := I) (J := J) rfl w1 ha hb
  have e2 := m_inr (X := X) (d := d + 27) (I := I) (J := J) w2 w1 ha hb
  by_cases q : (0 ≤ a ∧ a < I 51 2) ∧ 0 ≤ b ∧ b < 3
  · rw [if_pos q] at e1 e2
    have e3 := w4 (3 * a + b) (by omega) (by omega)
    refine ⟨I 52 (3 * a + b), I, J, I, J, ?_, ?_, h⟩
    · simp (disch := omega) only [v_153_0, u_153_0, x_aload0, k_0_5, x_iload1, x_iload2, x_call3_0, x_call3_1, x_call3_2, x_call3_3, x_call3_4, e_k_s, e_k_i, List.nil_append, List.cons_append, x_ifCond_eq, x_ifCond_eqb, k_51_1, x_sipush, x_imul, x_iadd, x_goto, u_153_28, x_jsr, u_153_30, x_ireturn, ia_52, e1, ↓reduceIte, b01_0, ite_not, if_true, if_false, Int.reduceLT, Int.reduceEq]
    · simp (disch := omega) only [v_272_69, u_272_0, x_aload0, x_iload1, x_iload2, x_call3_0, x_call3_1, x_call3_2, x_call3_3, x_call3_4, e_k_s, e_k_i, List.nil_append, List.cons_append, x_ifCond_eq, x_ifCond_eqb, k_69_28, x_sipush, x_imul, x_iadd, x_goto, u_272_22, x_jsr, u_272_24, x_ireturn, ia_83, e2, ← e3, ↓reduceIte, b01_0, ite_not, if_true, if_false, Int.reduceLT, Int.reduceEq]
  · rw [if_neg q] at e1 e2
    refine ⟨-9, I, J, I, J, ?_, ?_, h⟩
    · simp (disch := omega) only [v_153_0, u_153_0, x_aload0, k_0_5, x_iload1, x_iload2, x_call3_0, x_call3_1, x_call3_2, x_call3_3, x_call3_4, e_k_s, e_k_i, List.nil_append, List.cons_append, x_ifCond_eq, x_ifCond_eqb, k_51_1, x_sipush, x_imul, x_iadd, x_goto, u_153_28, x_jsr, u_153_30, x_ireturn, ia_52, e1, ↓reduceIte, b01_0, ite_not, if_true, if_false, Int.reduceLT, Int.reduceEq]
    · simp (disch := omega) only [v_272_69, u_272_0, x_aload0, x_iload1, x_iload2, x_call3_0, x_call3_1, x_call3_2, x_call3_3, x_call3_4, e_k_s, e_k_i, List.nil_append, List.cons_append, x_ifCond_eq, x_ifCond_eqb, k_69_28, x_sipush, x_imul, x_iadd, x_goto, u_272_22, x_jsr, u_272_24, x_ireturn, ia_83, e2, ↓reduceIte, b01_0, ite_not, if_true, if_false, Int.reduceLT, Int.reduceEq]
theorem b_put52 {k v : Int} (h : 0 ≤ k ∧ k < 12) : s_S X (d + 2) 114 [.ref 52, .int (iI k), .int (iI v)] (mm I J) = some ([.int (iI (I 52 k))], mm (up I 52 k v) J) := by
  simp (disch := omega) only [v_114, u_114_0, x_iload1, x_sipush, x_aload0, x_isub, x_call3_0, x_call3_1, x_call3_2, x_call3_3, x_call3_4, e_k_s, e_k_i, List.nil_append, List.cons_append, x_ifCond_eq, x_ifCond_eqb, x_ireturn, u_114_14, x_istore3i, x_istore3r, x_istore3u, x_iload2, x_iload3, al_52, ia_52, is_52, b_in, ↓reduceIte, b01_0, ite_not, if_true, if_false, Int.reduceLT, Int.reduceEq]
theorem q_alter (h : Rel I J) {a b c : Int} (ha : rg a) (hb : rg b) (hc : rg c) : pr X d I J 154 274 [.int (iI a), .int (iI b), .int (iI c)] := by
  obtain ⟨w1, w2, w3, w4⟩ := h.2.2.2.1
  have e1 := w_inr (X := X) (d := d + 28) (I := I) (J := J) rfl w1 ha hb
  have e2 := fun (N : Nat → Int → Int) (z : N 69 29 = I 51 2) => m_inr (X := X) (d := d + 27) (I := N) (J := J) z w1 ha hb
  by_cases q : (0 ≤ a ∧ a < I 51 2) ∧ 0 ≤ b ∧ b < 3
  · rw [if_pos q] at e1
    have e2 := e2 (up I 52 (3 * a + b) c) w2
    rw [if_pos q] at e2
    have e3 := w4 (3 * a + b) (by omega) (by omega)
    have e4 := b_put52 (X := X) (d := d + 27) (I := I) (J := J) (k := 3 * a + b) (v := c) (by omega)
    refine ⟨I 52 (3 * a + b), up I 52 (3 * a + b) c, J, up (up I 52 (3 * a + b) c) 83 (3 * a + b) c, J, ?_, ?_, Rel_rows h (fun o k s z => ?_) ⟨w1, w2, fun i => ?_, fun i i0 i1 => ?_⟩⟩
    · simp (disch := omega) only [v_154_0, u_154_0, x_aload0, k_0_5, x_iload1, x_iload2, x_call3_0, x_call3_1, x_call3_2, x_call3_3, x_call3_4, e_k_s, e_k_i, List.nil_append, List.cons_append, x_ifCond_eq, x_ifCond_eqb, k_51_1, x_sipush, x_imul, x_iadd, x_iload3, x_goto, u_154_31, x_jsr, u_154_33, x_ireturn, e1, e4, ↓reduceIte, b01_0, ite_not, if_true, if_false, Int.reduceLT, Int.reduceEq]
    · have e5 : up I 52 (3 * a + b) c 83 (3 * a + b) = I 52 (3 * a + b) := e3.symm
      simp (disch := omega) only [v_274_69, u_274_0, x_aload0, x_iload1, x_iload2, x_call3_0, x_call3_1, x_call3_2, x_call3_3, x_call3_4, e_k_s, e_k_i, List.nil_append, List.cons_append, x_ifCond_ne, x_ifCond_neb, x_sipush, x_ireturn, u_274_12, k_69_28, x_imul, x_iadd, x_istore4i, x_istore4r, x_istore4u, x_iload3, x_iload4, ia_83, is_83, e2, e5, ↓reduceIte, b01_0, ite_not, if_true, if_false, Int.reduceLT, Int.reduceEq]
    · unfold eRW at z
      unfold up
      rw [if_neg (by omega), if_neg (by omega)]
    · show rg (up I 52 (3 * a + b) c 52 i) ∧ rg (up I 83 (3 * a + b) c 83 i)
      rw [up_row, up_row]
      by_cases z : i = 3 * a + b
      · rw [if_pos z, if_pos z]; exact ⟨hc, hc⟩
      · rw [if_neg z, if_neg z]; exact w3 i
    · show up I 52 (3 * a + b) c 52 i = up I 83 (3 * a + b) c 83 i
      rw [up_row, up_row]
      by_cases z : i = 3 * a + b
      · rw [if_pos z, if_pos z]
      · rw [if_neg z, if_neg z]; exact w4 i i0 i1
  · rw [if_neg q] at e1
    have e2 := e2 I w2
    rw [if_neg q] at e2
    refine ⟨-9, I, J, I, J, ?_, ?_, h⟩
    · simp (disch := omega) only [v_154_0, u_154_0, x_aload0, k_0_5, x_iload1, x_iload2, x_call3_0, x_call3_1, x_call3_2, x_call3_3, x_call3_4, e_k_s, e_k_i, List.nil_append, List.cons_append, x_ifCond_eq, x_ifCond_eqb, k_51_1, x_sipush, x_imul, x_iadd, x_iload3, x_goto, u_154_31, x_jsr, u_154_33, x_ireturn, e1, ↓reduceIte, b01_0, ite_not, if_true, if_false, Int.reduceLT, Int.reduceEq]
    · simp (disch := omega) only [v_274_69, u_274_0, x_aload0, x_iload1, x_iload2, x_call3_0, x_call3_1, x_call3_2, x_call3_3, x_call3_4, e_k_s, e_k_i, List.nil_append, List.cons_append, x_ifCond_ne, x_ifCond_neb, x_sipush, x_ireturn, u_274_12, k_69_28, x_imul, x_iadd, x_istore4i, x_istore4r, x_istore4u, x_iload3, x_iload4, ia_83, is_83, e2, ↓reduceIte, b01_0, ite_not, if_true, if_false, Int.reduceLT, Int.reduceEq]
theorem q_judge (h : Rel I J) : pr X d I J 155 275 [] := by
  obtain ⟨w1, w2, w3, w4⟩ := h.2.2.2.1
  have hi := h.1.1
  have hc := inv_cof hi
  obtain ⟨F', e1⟩ := w_jdg (X := X) (d := d + 22) (J := J) (B := I) (I := I) (sq_rfl I) hi h.1.2.1 hc (C := I 52) (F := I 14) (cn := I 51 2) w1 (fun i _ _ => (w3 i).1)
  rw [rwo_id, bk_self] at e1
  have hself : mk (bk I (cof I) F') (I 1 9) (cof I) (I 1 13) (bk I (cof I) F' 73) = bk I (cof I) F' := mk_self2 h.1.2.2.2.2.2.2 rfl
  obtain ⟨L, P', e2⟩ := m_jdg (X := X) (d := d + 21) (J := J) (M := bk I (cof I) F') hi h.1.2.2.2.1 h.1.2.2.2.2.1 h.1.2.1 hc (sc := I 1 13) (bk I (cof I) F' 73) (by show 0 ≤ I 69 29 ∧ I 69 29 ≤ 4; rw [w2]; exact w1) (fun i _ _ => (w3 i).2)
  have ej : jdg I (bk I (cof I) F' 83) (bk I (cof I) F' 69 29).toNat 0 (cof I) = jdg I (I 52) (I 51 2).toNat 0 (cof I) := by
    show jdg I (I 83) (I 69 29).toNat 0 (cof I) = _
    rw [w2]
    exact (jdg_eq _ _ _ (by decide) (fun i i0 i1 => w4 i i0 (by omega))).symm
  rw [hself, ej] at e2
  refine pr_q h (v := jdg I (I 52) (I 51 2).toNat 0 (cof I)) (I1 := bk I (cof I) F') ?_ kp_bk (I2 := mk (b72 (bk I (cof I) F') L) (I 1 9) (cof I) (I 1 13) P') e2 (kp_mk72 hself)
  simp (disch := omega) only [v_155_0, u_155_0, x_aload0, k_0_5, x_call1_0, x_call1_1, x_call1_2, x_call1_3, x_call1_4, e_k_s, e_k_i, List.nil_append, List.cons_append, x_ireturn, e1, ↓reduceIte, b01_0, ite_not, if_true, if_false, Int.reduceLT, Int.reduceEq]
end
