/-! PAIRS: sheets -/
section
variable {X : e_X} {d : Nat} {I J : Nat → Int → Int}
theorem m_shi {q : Int} (h : 0 ≤ q ∧ q ≤ 3) (hq : rg q) : s_S X (d + 2) 278 [.int (iI q)] (mm I J) = some ([.int (iI 1)], mm I J) := by
  have e := m_shk (X := X) (d := d) (I := I) (J := J) hq
  rw [if_pos h] at e
  exact e
theorem SH_new (h : SH I J) {a r : Nat} {b l x : Int} (ha : a < 4) (hr : r = 57 + 2 * a) (hx : x = (a : Int)) (hb : -1 ≤ b ∧ b ≤ 4) (hl : 0 ≤ l ∧ l ≤ 40) : SH (zrr (up (up (up (up I r 1 b) r 2 l) 84 x b) 85 x l) 86 (40 * x) 40) (zrr J (r + 1) 0 40) := by
  subst hr
  subst hx
  intro q hq
  obtain ⟨h1, h2, h3, h4, h5⟩ := h q hq
  have e1 : zrr (up (up (up (up I (57 + 2 * a) 1 b) (57 + 2 * a) 2 l) 84 (a : Int) b) 85 (a : Int) l) 86 (40 * (a : Int)) 40 (57 + 2 * q) 1 = if q = a then b else I (57 + 2 * q) 1 := by
    unfold zrr up
    (repeat' split) <;> first | rfl | (exfalso; omega)
  have e2 : zrr (up (up (up (up I (57 + 2 * a) 1 b) (57 + 2 * a) 2 l) 84 (a : Int) b) 85 (a : Int) l) 86 (40 * (a : Int)) 40 (57 + 2 * q) 2 = if q = a then l else I (57 + 2 * q) 2 := by
    unfold zrr up
    (repeat' split) <;> first | rfl | (exfalso; omega)
  have e3 : zrr (up (up (up (up I (57 + 2 * a) 1 b) (57 + 2 * a) 2 l) 84 (a : Int) b) 85 (a : Int) l) 86 (40 * (a : Int)) 40 84 q = if q = a then b else I 84 q := by
    unfold zrr up
    (repeat' split) <;> first | rfl | (exfalso; omega)
  have e4 : zrr (up (up (up (up I (57 + 2 * a) 1 b) (57 + 2 * a) 2 l) 84 (a : Int) b) 85 (a : Int) l) 86 (40 * (a : Int)) 40 85 q = if q = a then l else I 85 q := by
    unfold zrr up
    (repeat' split) <;> first | rfl | (exfalso; omega)
  have e5 : ∀ j : Int, 0 ≤ j → j < 40 → zrr (up (up (up (up I (57 + 2 * a) 1 b) (57 + 2 * a) 2 l) 84 (a : Int) b) 85 (a : Int) l) 86 (40 * (a : Int)) 40 86 (40 * q + j) = if q = a then 0 else I 86 (40 * q + j) := fun j j0 j1 => by
    unfold zrr up
    (repeat' split) <;> first | rfl | (exfalso; omega)
  have e6 : ∀ j : Int, 0 ≤ j → j < 40 → zrr J (57 + 2 * a + 1) 0 40 (58 + 2 * q) j = if q = a then 0 else J (58 + 2 * q) j := fun j j0 j1 => by
    unfold zrr
    (repeat' split) <;> first | rfl | (exfalso; omega)
  rw [e1, e2, e3, e4]
  by_cases e : q = a
  · rw [if_pos e, if_pos e, if_pos e, if_pos e]
    refine ⟨hb, hl, rfl, rfl, fun j j0 j1 => ?_⟩
    rw [e5 j j0 j1, e6 j j0 j1, if_pos e, if_pos e]
    decide
  · rw [if_neg e, if_neg e, if_neg e, if_neg e]
    refine ⟨h1, h2, h3, h4, fun j j0 j1 => ?_⟩
    rw [e5 j j0 j1, e6 j j0 j1, if_neg e, if_neg e]
    exact h5 j j0 j1
theorem kp_new {a r : Nat} {b l x : Int} (ha : a < 4) (hr : r = 57 + 2 * a) : kpE (fun o _ => eSH o) I (zrr (up (up (up (up I r 1 b) r 2 l) 84 x b) 85 x l) 86 (40 * x) 40) := fun o k _ z => by
  unfold eSH at z
  unfold zrr up
  (repeat' split) <;> first | rfl | (exfalso; omega)
theorem SH_put (h : SH I J) {a r : Nat} {i v y : Int} (ha : a < 4) (hr : r = 58 + 2 * a) (hy : y = 40 * (a : Int) + i) (hi : 0 ≤ i ∧ i < 40) (hv : rg v) : SH (up I 86 y v) (up J r i v) := by
  subst hr
  subst hy
  intro q hq
  obtain ⟨h1, h2, h3, h4, h5⟩ := h q hq
  rw [up_o (by omega), up_o (by omega), up_o (by omega), up_o (by omega)]
  refine ⟨h1, h2, h3, h4, fun j j0 j1 => ?_⟩
  by_cases e : q = a ∧ j = i
  · obtain ⟨rfl, rfl⟩ := e
    rw [up_self, up_self]
    exact ⟨rfl, hv⟩
  · have e1 : up I 86 (40 * (a : Int) + i) v 86 (40 * q + j) = I 86 (40 * q + j) := by
      unfold up
      rw [if_neg (by omega)]
    have e2 : up J (58 + 2 * a) i v (58 + 2 * q) j = J (58 + 2 * q) j := by
      unfold up
      rw [if_neg (by omega)]
    rw [e1, e2]
    exact h5 j j0 j1
theorem kp_put {y v : Int} : kpE (fun o _ => eSH o) I (up I 86 y v) := fun o k _ z => by
  unfold eSH at z
  rw [up_o (by omega)]
theorem q_sheet0 (h : Rel I J) {b c : Int} (hb : rg b) (hc : rg c) : pr X d I J 156 277 [.int (iI 0), .int (iI b), .int (iI c)] := by
  have hS := h.2.2.2.2.1
  by_cases q1 : -1 ≤ b ∧ b ≤ 4
  · by_cases q2 : b = -1
    · subst q2
      have e1 := s_rel57 (X := X) (d := d + 28) (I := I) (J := J) (k := -1) (v := 0)
      have e2 := m_clr (X := X) (d := d + 28) (I := up (up (up (up I 57 1 (-1)) 57 2 0) 84 0 (-1)) 85 0 0) (J := zrr J 58 0 40) (q := 0) (by decide) (v2 := iI (-1)) (v3 := iI c) 40 0 (by decide) (by decide)
      rw [zrr_0] at e2
      refine ⟨1, up (up I 57 1 (-1)) 57 2 0, zrr J 58 0 40, zrr (up (up (up (up I 57 1 (-1)) 57 2 0) 84 0 (-1)) 85 0 0) 86 (40 * 0) 40, zrr J 58 0 40, ?_, ?_, Rel_sheet h (kp_new (a := 0) (by decide) rfl) (SH_new hS (a := 0) (by decide) rfl rfl (by decide) (by decide))⟩
      · simp (disch := omega) only [v_156_0, u_156_0, x_iload1, x_sipush, x_call3_0, x_call3_1, x_call3_2, x_call3_3, x_call3_4, e_k_s, e_k_i, List.nil_append, List.cons_append, x_ifCond_ne, x_ifCond_neb, x_iload2, x_ifCond_eq, x_ifCond_eqb, x_jsr, u_156_18, x_ireturn, u_156_20, x_if_icmp_eq, x_iload3, x_if_icmp_le, u_156_33, x_ifCond_ge, u_156_45, x_aload0, k_0_6, x_if_icmp_ne, x_goto, u_156_61, u_156_62, aa_53_0, aa_53_1, aa_53_2, aa_53_3, b_in, e1, Int.reduceNeg, ↓reduceIte, b01_0, ite_not, if_true, if_false, Int.reduceLT, Int.reduceEq]
      · simp (disch := omega) only [v_277_69, u_277_0, x_iload1, x_call1_0, x_call1_1, x_call1_2, x_call1_3, x_call1_4, e_k_s, e_k_i, List.nil_append, List.cons_append, x_ifCond_eq, x_ifCond_eqb, x_iload2, x_sipush, x_call3_0, x_call3_1, x_call3_2, x_call3_3, x_call3_4, x_ifCond_lt, x_iload3, x_if_icmp_le, x_jsr, u_277_26, x_ireturn, u_277_28, x_ifCond_ge, u_277_39, x_aload0, k_69_30, k_69_31, x_goto, u_277_59, u_277_60, x_istore4i, x_istore4r, x_istore4u, x_iload4, x_if_icmp_ge, k_69_32, x_imul, x_iadd, x_iinc4i, x_iinc4r, x_iinc4u, u_277_90, is_84, is_85, is_86, m_in, m_shi, e2, Int.reduceNeg, ↓reduceIte, b01_0, ite_not, if_true, if_false, Int.reduceLT, Int.reduceEq]
    · by_cases q3 : 40 < c
      · refine ⟨-1, I, J, I, J, ?_, ?_, h⟩
        · simp (disch := omega) only [v_156_0, u_156_0, x_iload1, x_sipush, x_call3_0, x_call3_1, x_call3_2, x_call3_3, x_call3_4, e_k_s, e_k_i, List.nil_append, List.cons_append, x_ifCond_ne, x_ifCond_neb, x_iload2, x_ifCond_eq, x_ifCond_eqb, x_jsr, u_156_18, x_ireturn, u_156_20, x_if_icmp_eq, x_iload3, x_if_icmp_le, u_156_33, x_ifCond_ge, u_156_45, x_aload0, k_0_6, x_if_icmp_ne, x_goto, u_156_61, u_156_62, aa_53_0, aa_53_1, aa_53_2, aa_53_3, b_in, ↓reduceIte, b01_0, ite_not, if_true, if_false, Int.reduceLT, Int.reduceEq]
          (repeat' split) <;> first | rfl | (exfalso; omega)
        · simp (disch := omega) only [v_277_69, u_277_0, x_iload1, x_call1_0, x_call1_1, x_call1_2, x_call1_3, x_call1_4, e_k_s, e_k_i, List.nil_append, List.cons_append, x_ifCond_eq, x_ifCond_eqb, x_iload2, x_sipush, x_call3_0, x_call3_1, x_call3_2, x_call3_3, x_call3_4, x_ifCond_lt, x_iload3, x_if_icmp_le, x_jsr, u_277_26, x_ireturn, u_277_28, x_ifCond_ge, u_277_39, x_aload0, k_69_30, k_69_31, x_goto, u_277_59, u_277_60, x_istore4i, x_istore4r, x_istore4u, x_iload4, x_if_icmp_ge, k_69_32, x_imul, x_iadd, x_iinc4i, x_iinc4r, x_iinc4u, u_277_90, is_84, is_85, is_86, m_in, m_shi, ↓reduceIte, b01_0, ite_not, if_true, if_false, Int.reduceLT, Int.reduceEq]
          (repeat' split) <;> first | rfl | (exfalso; omega)
      · by_cases q4 : c < 0
        · refine ⟨-14, I, J, I, J, ?_, ?_, h⟩
          · simp (disch := omega) only [v_156_0, u_156_0, x_iload1, x_sipush, x_call3_0, x_call3_1, x_call3_2, x_call3_3, x_call3_4, e_k_s, e_k_i, List.nil_append, List.cons_append, x_ifCond_ne, x_ifCond_neb, x_iload2, x_ifCond_eq, x_ifCond_eqb, x_jsr, u_156_18, x_ireturn, u_156_20, x_if_icmp_eq, x_iload3, x_if_icmp_le, u_156_33, x_ifCond_ge, u_156_45, x_aload0, k_0_6, x_if_icmp_ne, x_goto, u_156_61, u_156_62, aa_53_0, aa_53_1, aa_53_2, aa_53_3, b_in, ↓reduceIte, b01_0, ite_not, if_true, if_false, Int.reduceLT, Int.reduceEq]
            (repeat' split) <;> first | rfl | (exfalso; omega)
          · simp (disch := omega) only [v_277_69, u_277_0, x_iload1, x_call1_0, x_call1_1, x_call1_2, x_call1_3, x_call1_4, e_k_s, e_k_i, List.nil_append, List.cons_append, x_ifCond_eq, x_ifCond_eqb, x_iload2, x_sipush, x_call3_0, x_call3_1, x_call3_2, x_call3_3, x_call3_4, x_ifCond_lt, x_iload3, x_if_icmp_le, x_jsr, u_277_26, x_ireturn, u_277_28, x_ifCond_ge, u_277_39, x_aload0, k_69_30, k_69_31, x_goto, u_277_59, u_277_60, x_istore4i, x_istore4r, x_istore4u, x_iload4, x_if_icmp_ge, k_69_32, x_imul, x_iadd, x_iinc4i, x_iinc4r, x_iinc4u, u_277_90, is_84, is_85, is_86, m_in, m_shi, ↓reduceIte, b01_0, ite_not, if_true, if_false, Int.reduceLT, Int.reduceEq]
            (repeat' split) <;> first | rfl | (exfalso; omega)
        · have e1 := s_rel57 (X := X) (d := d + 28) (I := I) (J := J) (k := b) (v := c)
          have e2 := m_clr (X := X) (d := d + 28) (I := up (up (up (up I 57 1 b) 57 2 c) 84 0 b) 85 0 c) (J := zrr J 58 0 40) (q := 0) (by decide) (v2 := iI b) (v3 := iI c) 40 0 (by decide) (by decide)
          rw [zrr_0] at e2
          refine ⟨1, up (up I 57 1 b) 57 2 c, zrr J 58 0 40, zrr (up (up (up (up I 57 1 b) 57 2 c) 84 0 b) 85 0 c) 86 (40 * 0) 40, zrr J 58 0 40, ?_, ?_, Rel_sheet h (kp_new (a := 0) (by decide) rfl) (SH_new hS (a := 0) (by decide) rfl rfl (by omega) (by omega))⟩
          · simp (disch := omega) only [v_156_0, u_156_0, x_iload1, x_sipush, x_call3_0, x_call3_1, x_call3_2, x_call3_3, x_call3_4, e_k_s, e_k_i, List.nil_append, List.cons_append, x_ifCond_ne, x_ifCond_neb, x_iload2, x_ifCond_eq, x_ifCond_eqb, x_jsr, u_156_18, x_ireturn, u_156_20, x_if_icmp_eq, x_iload3, x_if_icmp_le, u_156_33, x_ifCond_ge, u_156_45, x_aload0, k_0_6, x_if_icmp_ne, x_goto, u_156_61, u_156_62, aa_53_0, aa_53_1, aa_53_2, aa_53_3, b_in, e1, ↓reduceIte, b01_0, ite_not, if_true, if_false, Int.reduceLT, Int.reduceEq]
            (repeat' split) <;> first | rfl | (exfalso; omega)
          · simp (disch := omega) only [v_277_69, u_277_0, x_iload1, x_call1_0, x_call1_1, x_call1_2, x_call1_3, x_call1_4, e_k_s, e_k_i, List.nil_append, List.cons_append, x_ifCond_eq, x_ifCond_eqb, x_iload2, x_sipush, x_call3_0, x_call3_1, x_call3_2, x_call3_3, x_call3_4, x_ifCond_lt, x_iload3, x_if_icmp_le, x_jsr, u_277_26, x_ireturn, u_277_28, x_ifCond_ge, u_277_39, x_aload0, k_69_30, k_69_31, x_goto, u_277_59, u_277_60, x_istore4i, x_istore4r, x_istore4u, x_iload4, x_if_icmp_ge, k_69_32, x_imul, x_iadd, x_iinc4i, x_iinc4r, x_iinc4u, u_277_90, is_84, is_85, is_86, m_in, m_shi, e2, ↓reduceIte, b01_0, ite_not, if_true, if_false, Int.reduceLT, Int.reduceEq]
            (repeat' split) <;> first | rfl | (exfalso; omega)
  · refine ⟨-1, I, J, I, J, ?_, ?_, h⟩
    · simp (disch := omega) only [v_156_0, u_156_0, x_iload1, x_sipush, x_call3_0, x_call3_1, x_call3_2, x_call3_3, x_call3_4, e_k_s, e_k_i, List.nil_append, List.cons_append, x_ifCond_ne, x_ifCond_neb, x_iload2, x_ifCond_eq, x_ifCond_eqb, x_jsr, u_156_18, x_ireturn, u_156_20, x_if_icmp_eq, x_iload3, x_if_icmp_le, u_156_33, x_ifCond_ge, u_156_45, x_aload0, k_0_6, x_if_icmp_ne, x_goto, u_156_61, u_156_62, aa_53_0, aa_53_1, aa_53_2, aa_53_3, b_in, b_nin, ↓reduceIte, b01_0, ite_not, if_true, if_false, Int.reduceLT, Int.reduceEq]
    · simp (disch := omega) only [v_277_69, u_277_0, x_iload1, x_call1_0, x_call1_1, x_call1_2, x_call1_3, x_call1_4, e_k_s, e_k_i, List.nil_append, List.cons_append, x_ifCond_eq, x_ifCond_eqb, x_iload2, x_sipush, x_call3_0, x_call3_1, x_call3_2, x_call3_3, x_call3_4, x_ifCond_lt, x_iload3, x_if_icmp_le, x_jsr, u_277_26, x_ireturn, u_277_28, x_ifCond_ge, u_277_39, x_aload0, k_69_30, k_69_31, x_goto, u_277_59, u_277_60, x_istore4i, x_istore4r, x_istore4u, x_iload4, x_if_icmp_ge, k_69_32, x_imul, x_iadd, x_iinc4i, x_iinc4r, x_iinc4u, u_277_90, is_84, is_85, is_86, m_nin, m_shi, ↓reduceIte, b01_0, ite_not, if_true, if_false, Int.reduceLT, Int.reduceEq]
theorem q_write0 (h : Rel I J) {b c : Int} (hb : rg b) (hc : rg c) : pr X d I J 157 279 [.int (iI 0), .int (iI b), .int (iI c)] := by
  have hS := h.2.2.2.2.1
  obtain ⟨h1, h2, h3, h4, -⟩ := hS 0 (by decide)
  have h1 : -1 ≤ I 57 1 ∧ I 57 1 ≤ 4 := h1
  have h2 : 0 ≤ I 57 2 ∧ I 57 2 ≤ 40 := h2
  have h3 : I 84 0 = I 57 1 := h3
  have h4 : I 85 0 = I 57 2 := h4
  by_cases q1 : I 57 1 = -1
  · refine ⟨-11, I, J, I, J, ?_, ?_, h⟩
    · simp (disch := omega) only [v_157_0, u_157_0, x_iload1, x_sipush, x_call3_0, x_call3_1, x_call3_2, x_call3_3, x_call3_4, e_k_s, e_k_i, List.nil_append, List.cons_append, x_ifCond_eq, x_ifCond_eqb, x_ireturn, u_157_11, x_aload0, k_0_6, f_57_1, x_if_icmp_ne, u_157_27, x_iload2, x_call2_0, x_call2_1, x_call2_2, x_call2_3, x_call2_4, x_ifCond_ne, x_ifCond_neb, u_157_43, x_iload3, aa_53_0, aa_53_1, aa_53_2, aa_53_3, b_in, q1, ↓reduceIte, b01_0, ite_not, if_true, if_false, Int.reduceLT, Int.reduceEq]
    · simp (disch := omega) only [v_279_69, u_279_0, x_iload1, x_call1_0, x_call1_1, x_call1_2, x_call1_3, x_call1_4, e_k_s, e_k_i, List.nil_append, List.cons_append, x_ifCond_ne, x_ifCond_neb, x_sipush, x_ireturn, u_279_9, x_aload0, k_69_30, x_ifCond_ge, u_279_21, x_iload2, k_69_31, x_isub, x_call3_0, x_call3_1, x_call3_2, x_call3_3, x_call3_4, u_279_40, k_69_32, x_imul, x_iadd, x_iload3, x_call2_0, x_call2_1, x_call2_2, x_call2_3, x_call2_4, ia_84, is_84, ia_85, is_85, ia_86, is_86, m_shi, h3, q1, ↓reduceIte, b01_0, ite_not, if_true, if_false, Int.reduceLT, Int.reduceEq]
  · have e1 := s_has57 (X := X) (d := d + 28) (I := I) (J := J) h2 hb
    by_cases q2 : 0 ≤ b ∧ b < I 57 2
    · rw [if_pos q2] at e1
      have e2 := s_wr57 (X := X) (d := d + 27) (I := I) (J := J) (v := c) rfl ⟨by omega, h1.2⟩ h2 q2 hc
      have e3 := fun (M N : Nat → Int → Int) => m_cst (X := X) (d := d + 28) (I := M) (J := N) (k := I 57 1) ⟨by omega, h1.2⟩ hc
      refine ⟨1, I, up J 58 b (cstq (I 57 1) c), up I 86 (40 * 0 + b) (cstq (I 57 1) c), up J 58 b (cstq (I 57 1) c), ?_, ?_, Rel_sheet h kp_put (SH_put hS (a := 0) (by decide) rfl rfl ⟨q2.1, by omega⟩ (cst_rg hc))⟩
      · simp (disch := omega) only [v_157_0, u_157_0, x_iload1, x_sipush, x_call3_0, x_call3_1, x_call3_2, x_call3_3, x_call3_4, e_k_s, e_k_i, List.nil_append, List.cons_append, x_ifCond_eq, x_ifCond_eqb, x_ireturn, u_157_11, x_aload0, k_0_6, f_57_1, x_if_icmp_ne, u_157_27, x_iload2, x_call2_0, x_call2_1, x_call2_2, x_call2_3, x_call2_4, x_ifCond_ne, x_ifCond_neb, u_157_43, x_iload3, aa_53_0, aa_53_1, aa_53_2, aa_53_3, b_in, e1, e2, ↓reduceIte, b01_0, ite_not, if_true, if_false, Int.reduceLT, Int.reduceEq]
        (repeat' split) <;> first | rfl | (exfalso; omega)
      · simp (disch := omega) only [v_279_69, u_279_0, x_iload1, x_call1_0, x_call1_1, x_call1_2, x_call1_3, x_call1_4, e_k_s, e_k_i, List.nil_append, List.cons_append, x_ifCond_ne, x_ifCond_neb, x_sipush, x_ireturn, u_279_9, x_aload0, k_69_30, x_ifCond_ge, u_279_21, x_iload2, k_69_31, x_isub, x_call3_0, x_call3_1, x_call3_2, x_call3_3, x_call3_4, u_279_40, k_69_32, x_imul, x_iadd, x_iload3, x_call2_0, x_call2_1, x_call2_2, x_call2_3, x_call2_4, ia_84, is_84, ia_85, is_85, ia_86, is_86, m_shi, m_in, h3, h4, e3, ↓reduceIte, b01_0, ite_not, if_true, if_false, Int.reduceLT, Int.reduceEq]
        (repeat' split) <;> first | rfl | (exfalso; omega)
    · rw [if_neg q2] at e1
      refine ⟨-12, I, J, I, J, ?_, ?_, h⟩
      · simp (disch := omega) only [v_157_0, u_157_0, x_iload1, x_sipush, x_call3_0, x_call3_1, x_call3_2, x_call3_3, x_call3_4, e_k_s, e_k_i, List.nil_append, List.cons_append, x_ifCond_eq, x_ifCond_eqb, x_ireturn, u_157_11, x_aload0, k_0_6, f_57_1, x_if_icmp_ne, u_157_27, x_iload2, x_call2_0, x_call2_1, x_call2_2, x_call2_3, x_call2_4, x_ifCond_ne, x_ifCond_neb, u_157_43, x_iload3, aa_53_0, aa_53_1, aa_53_2, aa_53_3, b_in, e1, ↓reduceIte, b01_0, ite_not, if_true, if_false, Int.reduceLT, Int.reduceEq]
        (repeat' split) <;> first | rfl | (exfalso; omega)
      · simp (disch := omega) only [v_279_69, u_279_0, x_iload1, x_call1_0, x_call1_1, x_call1_2, x_call1_3, x_call1_4, e_k_s, e_k_i, List.nil_append, List.cons_append, x_ifCond_ne, x_ifCond_neb, x_sipush, x_ireturn, u_279_9, x_aload0, k_69_30, x_ifCond_ge, u_279_21, x_iload2, k_69_31, x_isub, x_call3_0, x_call3_1, x_call3_2, x_call3_3, x_call3_4, u_279_40, k_69_32, x_imul, x_iadd, x_iload3, x_call2_0, x_call2_1, x_call2_2, x_call2_3, x_call2_4, ia_84, is_84, ia_85, is_85, ia_86, is_86, m_shi, m_nin, h3, h4, ↓reduceIte, b01_0, ite_not, if_true, if_false, Int.reduceLT, Int.reduceEq]
        (repeat' split) <;> first | rfl | (exfalso; omega)
theorem q_item0 (h : Rel I J) {b c : Int} (hb : rg b) (hc : rg c) : pr X d I J 158 281 [.int (iI 0), .int (iI b), .int (iI c)] := by
  have hS := h.2.2.2.2.1
  obtain ⟨h1, h2, h3, h4, h5⟩ := hS 0 (by decide)
  have h1 : -1 ≤ I 57 1 ∧ I 57 1 ≤ 4 := h1
  have h2 : 0 ≤ I 57 2 ∧ I 57 2 ≤ 40 := h2
  have h3 : I 84 0 = I 57 1 := h3
  have h4 : I 85 0 = I 57 2 := h4
  by_cases q0 : 0 ≤ b ∧ b ≤ 4
  · have e1 := s_okd57 (X := X) (d := d + 28) (I := I) (J := J) ⟨by omega, by omega⟩ hb
    have e2 := m_okd (X := X) (d := d + 28) (I := I) (J := J) (q := 0) (by decide) (by rw [h3]; exact h1) hb
    rw [h3] at e2
    by_cases q1 : I 57 1 = -1
    · rw [if_pos q1] at e1 e2
      refine ⟨-11, I, J, I, J, ?_, ?_, h⟩
      · simp (disch := omega) only [v_158_0, u_158_0, x_iload1, x_sipush, x_call3_0, x_call3_1, x_call3_2, x_call3_3, x_call3_4, e_k_s, e_k_i, List.nil_append, List.cons_append, x_ifCond_ne, x_ifCond_neb, x_iload2, x_ifCond_eq, x_ifCond_eqb, x_jsr, u_158_18, x_ireturn, u_158_20, x_aload0, k_0_6, x_call2_0, x_call2_1, x_call2_2, x_call2_3, x_call2_4, x_istore4i, x_istore4r, x_istore4u, x_iload4, u_158_40, x_iload3, k_57_0, x_l2i, x_goto, u_158_68, u_158_70, aa_53_0, aa_53_1, aa_53_2, aa_53_3, la_58, b_in, e1, Int.reduceNeg, ↓reduceIte, b01_0, ite_not, if_true, if_false, Int.reduceLT, Int.reduceEq]
      · simp (disch := omega) only [v_281_69, u_281_0, x_iload1, x_call1_0, x_call1_1, x_call1_2, x_call1_3, x_call1_4, e_k_s, e_k_i, List.nil_append, List.cons_append, x_ifCond_eq, x_ifCond_eqb, x_iload2, x_sipush, x_call3_0, x_call3_1, x_call3_2, x_call3_3, x_call3_4, x_ifCond_ne, x_ifCond_neb, x_jsr, u_281_16, x_ireturn, u_281_18, x_aload0, x_istore4i, x_istore4r, x_istore4u, x_iload4, x_goto, u_281_36, x_iload3, k_69_31, x_isub, k_69_32, x_imul, x_iadd, u_281_66, u_281_68, ia_85, ia_86, m_shi, m_in, e2, Int.reduceNeg, ↓reduceIte, b01_0, ite_not, if_true, if_false, Int.reduceLT, Int.reduceEq]
    · rw [if_neg q1] at e1 e2
      by_cases q2 : I 57 1 = b
      · rw [if_pos q2] at e1 e2
        have e3 := s_has57 (X := X) (d := d + 28) (I := I) (J := J) h2 hc
        by_cases q3 : 0 ≤ c ∧ c < I 57 2
        · rw [if_pos q3] at e3
          have e4 : J 58 c = I 86 (40 * 0 + c) := (h5 c q3.1 (by omega)).1
          refine ⟨I 86 (40 * 0 + c), I, J, I, J, ?_, ?_, h⟩
          · simp (disch := omega) only [v_158_0, u_158_0, x_iload1, x_sipush, x_call3_0, x_call3_1, x_call3_2, x_call3_3, x_call3_4, e_k_s, e_k_i, List.nil_append, List.cons_append, x_ifCond_ne, x_ifCond_neb, x_iload2, x_ifCond_eq, x_ifCond_eqb, x_jsr, u_158_18, x_ireturn, u_158_20, x_aload0, k_0_6, x_call2_0, x_call2_1, x_call2_2, x_call2_3, x_call2_4, x_istore4i, x_istore4r, x_istore4u, x_iload4, u_158_40, x_iload3, k_57_0, x_l2i, x_goto, u_158_68, u_158_70, aa_53_0, aa_53_1, aa_53_2, aa_53_3, la_58, b_in, e1, e3, l2i_i, e4, ↓reduceIte, b01_0, ite_not, if_true, if_false, Int.reduceLT, Int.reduceEq]
          · simp (disch := omega) only [v_281_69, u_281_0, x_iload1, x_call1_0, x_call1_1, x_call1_2, x_call1_3, x_call1_4, e_k_s, e_k_i, List.nil_append, List.cons_append, x_ifCond_eq, x_ifCond_eqb, x_iload2, x_sipush, x_call3_0, x_call3_1, x_call3_2, x_call3_3, x_call3_4, x_ifCond_ne, x_ifCond_neb, x_jsr, u_281_16, x_ireturn, u_281_18, x_aload0, x_istore4i, x_istore4r, x_istore4u, x_iload4, x_goto, u_281_36, x_iload3, k_69_31, x_isub, k_69_32, x_imul, x_iadd, u_281_66, u_281_68, ia_85, ia_86, m_shi, m_in, e2, h4, ↓reduceIte, b01_0, ite_not, if_true, if_false, Int.reduceLT, Int.reduceEq]
        · rw [if_neg q3] at e3
          refine ⟨-12, I, J, I, J, ?_, ?_, h⟩
          · simp (disch := omega) only [v_158_0, u_158_0, x_iload1, x_sipush, x_call3_0, x_call3_1, x_call3_2, x_call3_3, x_call3_4, e_k_s, e_k_i, List.nil_append, List.cons_append, x_ifCond_ne, x_ifCond_neb, x_iload2, x_ifCond_eq, x_ifCond_eqb, x_jsr, u_158_18, x_ireturn, u_158_20, x_aload0, k_0_6, x_call2_0, x_call2_1, x_call2_2, x_call2_3, x_call2_4, x_istore4i, x_istore4r, x_istore4u, x_iload4, u_158_40, x_iload3, k_57_0, x_l2i, x_goto, u_158_68, u_158_70, aa_53_0, aa_53_1, aa_53_2, aa_53_3, la_58, b_in, e1, e3, ↓reduceIte, b01_0, ite_not, if_true, if_false, Int.reduceLT, Int.reduceEq]
          · simp (disch := omega) only [v_281_69, u_281_0, x_iload1, x_call1_0, x_call1_1, x_call1_2, x_call1_3, x_call1_4, e_k_s, e_k_i, List.nil_append, List.cons_append, x_ifCond_eq, x_ifCond_eqb, x_iload2, x_sipush, x_call3_0, x_call3_1, x_call3_2, x_call3_3, x_call3_4, x_ifCond_ne, x_ifCond_neb, x_jsr, u_281_16, x_ireturn, u_281_18, x_aload0, x_istore4i, x_istore4r, x_istore4u, x_iload4, x_goto, u_281_36, x_iload3, k_69_31, x_isub, k_69_32, x_imul, x_iadd, u_281_66, u_281_68, ia_85, ia_86, m_shi, m_in, m_nin, e2, h4, ↓reduceIte, b01_0, ite_not, if_true, if_false, Int.reduceLT, Int.reduceEq]
      · rw [if_neg q2] at e1 e2
        refine ⟨-13, I, J, I, J, ?_, ?_, h⟩
        · simp (disch := omega) only [v_158_0, u_158_0, x_iload1, x_sipush, x_call3_0, x_call3_1, x_call3_2, x_call3_3, x_call3_4, e_k_s, e_k_i, List.nil_append, List.cons_append, x_ifCond_ne, x_ifCond_neb, x_iload2, x_ifCond_eq, x_ifCond_eqb, x_jsr, u_158_18, x_ireturn, u_158_20, x_aload0, k_0_6, x_call2_0, x_call2_1, x_call2_2, x_call2_3, x_call2_4, x_istore4i, x_istore4r, x_istore4u, x_iload4, u_158_40, x_iload3, k_57_0, x_l2i, x_goto, u_158_68, u_158_70, aa_53_0, aa_53_1, aa_53_2, aa_53_3, la_58, b_in, e1, Int.reduceNeg, ↓reduceIte, b01_0, ite_not, if_true, if_false, Int.reduceLT, Int.reduceEq]
        · simp (disch := omega) only [v_281_69, u_281_0, x_iload1, x_call1_0, x_call1_1, x_call1_2, x_call1_3, x_call1_4, e_k_s, e_k_i, List.nil_append, List.cons_append, x_ifCond_eq, x_ifCond_eqb, x_iload2, x_sipush, x_call3_0, x_call3_1, x_call3_2, x_call3_3, x_call3_4, x_ifCond_ne, x_ifCond_neb, x_jsr, u_281_16, x_ireturn, u_281_18, x_aload0, x_istore4i, x_istore4r, x_istore4u, x_iload4, x_goto, u_281_36, x_iload3, k_69_31, x_isub, k_69_32, x_imul, x_iadd, u_281_66, u_281_68, ia_85, ia_86, m_shi, m_in, e2, Int.reduceNeg, ↓reduceIte, b01_0, ite_not, if_true, if_false, Int.reduceLT, Int.reduceEq]
  · refine ⟨-1, I, J, I, J, ?_, ?_, h⟩
    · simp (disch := omega) only [v_158_0, u_158_0, x_iload1, x_sipush, x_call3_0, x_call3_1, x_call3_2, x_call3_3, x_call3_4, e_k_s, e_k_i, List.nil_append, List.cons_append, x_ifCond_ne, x_ifCond_neb, x_iload2, x_ifCond_eq, x_ifCond_eqb, x_jsr, u_158_18, x_ireturn, u_158_20, x_aload0, k_0_6, x_call2_0, x_call2_1, x_call2_2, x_call2_3, x_call2_4, x_istore4i, x_istore4r, x_istore4u, x_iload4, u_158_40, x_iload3, x_l2i, x_goto, u_158_68, u_158_70, aa_53_0, aa_53_1, aa_53_2, aa_53_3, b_in, b_nin, ↓reduceIte, b01_0, ite_not, if_true, if_false, Int.reduceLT, Int.reduceEq]
    · simp (disch := omega) only [v_281_69, u_281_0, x_iload1, x_call1_0, x_call1_1, x_call1_2, x_call1_3, x_call1_4, e_k_s, e_k_i, List.nil_append, List.cons_append, x_ifCond_eq, x_ifCond_eqb, x_iload2, x_sipush, x_call3_0, x_call3_1, x_call3_2, x_call3_3, x_call3_4, x_ifCond_ne, x_ifCond_neb, x_jsr, u_281_16, x_ireturn, u_281_18, x_aload0, x_istore4i, x_istore4r, x_istore4u, x_iload4, x_goto, u_281_36, x_iload3, k_69_31, x_isub, k_69_32, x_imul, x_iadd, u_281_66, u_281_68, ia_85, ia_86, m_nin, m_shi, ↓reduceIte, b01_0, ite_not, if_true, if_false, Int.reduceLT, Int.reduceEq]
theorem q_sheet1 (h : Rel I J) {b c : Int} (hb : rg b) (hc : rg c) : pr X d I J 156 277 [.int (iI 1), .int (iI b), .int (iI c)] := by
  have hS := h.2.2.2.2.1
  by_cases q1 : -1 ≤ b ∧ b ≤ 4
  · by_cases q2 : b = -1
    · subst q2
      have e1 := s_rel59 (X := X) (d := d + 28) (I := I) (J := J) (k := -1) (v := 0)
      have e2 := m_clr (X := X) (d := d + 28) (I := up (up (up (up I 59 1 (-1)) 59 2 0) 84 1 (-1)) 85 1 0) (J := zrr J 60 0 40) (q := 1) (by decide) (v2 := iI (-1)) (v3 := iI c) 40 0 (by decide) (by decide)
      rw [zrr_0] at e2
      refine ⟨1, up (up I 59 1 (-1)) 59 2 0, zrr J 60 0 40, zrr (up (up (up (up I 59 1 (-1)) 59 2 0) 84 1 (-1)) 85 1 0) 86 (40 * 1) 40, zrr J 60 0 40, ?_, ?_, Rel_sheet h (kp_new (a := 1) (by decide) rfl) (SH_new hS (a := 1) (by decide) rfl rfl (by decide) (by decide))⟩
      · simp (disch := omega) only [v_156_0, u_156_0, x_iload1, x_sipush, x_call3_0, x_call3_1, x_call3_2, x_call3_3, x_call3_4, e_k_s, e_k_i, List.nil_append, List.cons_append, x_ifCond_ne, x_ifCond_neb, x_iload2, x_ifCond_eq, x_ifCond_eqb, x_jsr, u_156_18, x_ireturn, u_156_20, x_if_icmp_eq, x_iload3, x_if_icmp_le, u_156_33, x_ifCond_ge, u_156_45, x_aload0, k_0_6, x_if_icmp_ne, x_goto, u_156_61, u_156_62, aa_53_0, aa_53_1, aa_53_2, aa_53_3, b_in, e1, Int.reduceNeg, ↓reduceIte, b01_0, ite_not, if_true, if_false, Int.reduceLT, Int.reduceEq]
      · simp (disch := omega) only [v_277_69, u_277_0, x_iload1, x_call1_0, x_call1_1, x_call1_2, x_call1_3, x_call1_4, e_k_s, e_k_i, List.nil_append, List.cons_append, x_ifCond_eq, x_ifCond_eqb, x_iload2, x_sipush, x_call3_0, x_call3_1, x_call3_2, x_call3_3, x_call3_4, x_ifCond_lt, x_iload3, x_if_icmp_le, x_jsr, u_277_26, x_ireturn, u_277_28, x_ifCond_ge, u_277_39, x_aload0, k_69_30, k_69_31, x_goto, u_277_59, u_277_60, x_istore4i, x_istore4r, x_istore4u, x_iload4, x_if_icmp_ge, k_69_32, x_imul, x_iadd, x_iinc4i, x_iinc4r, x_iinc4u, u_277_90, is_84, is_85, is_86, m_in, m_shi, e2, Int.reduceNeg, ↓reduceIte, b01_0, ite_not, if_true, if_false, Int.reduceLT, Int.reduceEq]
    · by_cases q3 : 40 < c
      · refine ⟨-1, I, J, I, J, ?_, ?_, h⟩
        · simp (disch := omega) only [v_156_0, u_156_0, x_iload1, x_sipush, x_call3_0, x_call3_1, x_call3_2, x_call3_3, x_call3_4, e_k_s, e_k_i, List.nil_append, List.cons_append, x_ifCond_ne, x_ifCond_neb, x_iload2, x_ifCond_eq, x_ifCond_eqb, x_jsr, u_156_18, x_ireturn, u_156_20, x_if_icmp_eq, x_iload3, x_if_icmp_le, u_156_33, x_ifCond_ge, u_156_45, x_aload0, k_0_6, x_if_icmp_ne, x_goto, u_156_61, u_156_62, aa_53_0, aa_53_1, aa_53_2, aa_53_3, b_in, ↓reduceIte, b01_0, ite_not, if_true, if_false, Int.reduceLT, Int.reduceEq]
          (repeat' split) <;> first | rfl | (exfalso; omega)
        · simp (disch := omega) only [v_277_69, u_277_0, x_iload1, x_call1_0, x_call1_1, x_call1_2, x_call1_3, x_call1_4, e_k_s, e_k_i, List.nil_append, List.cons_append, x_ifCond_eq, x_ifCond_eqb, x_iload2, x_sipush, x_call3_0, x_call3_1, x_call3_2, x_call3_3, x_call3_4, x_ifCond_lt, x_iload3, x_if_icmp_le, x_jsr, u_277_26, x_ireturn, u_277_28, x_ifCond_ge, u_277_39, x_aload0, k_69_30, k_69_31, x_goto, u_277_59, u_277_60, x_istore4i, x_istore4r, x_istore4u, x_iload4, x_if_icmp_ge, k_69_32, x_imul, x_iadd, x_iinc4i, x_iinc4r, x_iinc4u, u_277_90, is_84, is_85, is_86, m_in, m_shi, ↓reduceIte, b01_0, ite_not, if_true, if_false, Int.reduceLT, Int.reduceEq]
          (repeat' split) <;> first | rfl | (exfalso; omega)
      · by_cases q4 : c < 0
        · refine ⟨-14, I, J, I, J, ?_, ?_, h⟩
          · simp (disch := omega) only [v_156_0, u_156_0, x_iload1, x_sipush, x_call3_0, x_call3_1, x_call3_2, x_call3_3, x_call3_4, e_k_s, e_k_i, List.nil_append, List.cons_append, x_ifCond_ne, x_ifCond_neb, x_iload2, x_ifCond_eq, x_ifCond_eqb, x_jsr, u_156_18, x_ireturn, u_156_20, x_if_icmp_eq, x_iload3, x_if_icmp_le, u_156_33, x_ifCond_ge, u_156_45, x_aload0, k_0_6, x_if_icmp_ne, x_goto, u_156_61, u_156_62, aa_53_0, aa_53_1, aa_53_2, aa_53_3, b_in, ↓reduceIte, b01_0, ite_not, if_true, if_false, Int.reduceLT, Int.reduceEq]
            (repeat' split) <;> first | rfl | (exfalso; omega)
          · simp (disch := omega) only [v_277_69, u_277_0, x_iload1, x_call1_0, x_call1_1, x_call1_2, x_call1_3, x_call1_4, e_k_s, e_k_i, List.nil_append, List.cons_append, x_ifCond_eq, x_ifCond_eqb, x_iload2, x_sipush, x_call3_0, x_call3_1, x_call3_2, x_call3_3, x_call3_4, x_ifCond_lt, x_iload3, x_if_icmp_le, x_jsr, u_277_26, x_ireturn, u_277_28, x_ifCond_ge, u_277_39, x_aload0, k_69_30, k_69_31, x_goto, u_277_59, u_277_60, x_istore4i, x_istore4r, x_istore4u, x_iload4, x_if_icmp_ge, k_69_32, x_imul, x_iadd, x_iinc4i, x_iinc4r, x_iinc4u, u_277_90, is_84, is_85, is_86, m_in, m_shi, ↓reduceIte, b01_0, ite_not, if_true, if_false, Int.reduceLT, Int.reduceEq]
            (repeat' split) <;> first | rfl | (exfalso; omega)
        · have e1 := s_rel59 (X := X) (d := d + 28) (I := I) (J := J) (k := b) (v := c)
          have e2 := m_clr (X := X) (d := d + 28) (I := up (up (up (up I 59 1 b) 59 2 c) 84 1 b) 85 1 c) (J := zrr J 60 0 40) (q := 1) (by decide) (v2 := iI b) (v3 := iI c) 40 0 (by decide) (by decide)
          rw [zrr_0] at e2
          refine ⟨1, up (up I 59 1 b) 59 2 c, zrr J 60 0 40, zrr (up (up (up (up I 59 1 b) 59 2 c) 84 1 b) 85 1 c) 86 (40 * 1) 40, zrr J 60 0 40, ?_, ?_, Rel_sheet h (kp_new (a := 1) (by decide) rfl) (SH_new hS (a := 1) (by decide) rfl rfl (by omega) (by omega))⟩
          · simp (disch := omega) only [v_156_0, u_156_0, x_iload1, x_sipush, x_call3_0, x_call3_1, x_call3_2, x_call3_3, x_call3_4, e_k_s, e_k_i, List.nil_append, List.cons_append, x_ifCond_ne, x_ifCond_neb, x_iload2, x_ifCond_eq, x_ifCond_eqb, x_jsr, u_156_18, x_ireturn, u_156_20, x_if_icmp_eq, x_iload3, x_if_icmp_le, u_156_33, x_ifCond_ge, u_156_45, x_aload0, k_0_6, x_if_icmp_ne, x_goto, u_156_61, u_156_62, aa_53_0, aa_53_1, aa_53_2, aa_53_3, b_in, e1, ↓reduceIte, b01_0, ite_not, if_true, if_false, Int.reduceLT, Int.reduceEq]
            (repeat' split) <;> first | rfl | (exfalso; omega)
          · simp (disch := omega) only [v_277_69, u_277_0, x_iload1, x_call1_0, x_call1_1, x_call1_2, x_call1_3, x_call1_4, e_k_s, e_k_i, List.nil_append, List.cons_append, x_ifCond_eq, x_ifCond_eqb, x_iload2, x_sipush, x_call3_0, x_call3_1, x_call3_2, x_call3_3, x_call3_4, x_ifCond_lt, x_iload3, x_if_icmp_le, x_jsr, u_277_26, x_ireturn, u_277_28, x_ifCond_ge, u_277_39, x_aload0, k_69_30, k_69_31, x_goto, u_277_59, u_277_60, x_istore4i, x_istore4r, x_istore4u, x_iload4, x_if_icmp_ge, k_69_32, x_imul, x_iadd, x_iinc4i, x_iinc4r, x_iinc4u, u_277_90, is_84, is_85, is_86, m_in, m_shi, e2, ↓reduceIte, b01_0, ite_not, if_true, if_false, Int.reduceLT, Int.reduceEq]
            (repeat' split) <;> first | rfl | (exfalso; omega)
  · refine ⟨-1, I, J, I, J, ?_, ?_, h⟩
    · simp (disch := omega) only [v_156_0, u_156_0, x_iload1, x_sipush, x_call3_0, x_call3_1, x_call3_2, x_call3_3, x_call3_4, e_k_s, e_k_i, List.nil_append, List.cons_append, x_ifCond_ne, x_ifCond_neb, x_iload2, x_ifCond_eq, x_ifCond_eqb, x_jsr, u_156_18, x_ireturn, u_156_20, x_if_icmp_eq, x_iload3, x_if_icmp_le, u_156_33, x_ifCond_ge, u_156_45, x_aload0, k_0_6, x_if_icmp_ne, x_goto, u_156_61, u_156_62, aa_53_0, aa_53_1, aa_53_2, aa_53_3, b_in, b_nin, ↓reduceIte, b01_0, ite_not, if_true, if_false, Int.reduceLT, Int.reduceEq]
    · simp (disch := omega) only [v_277_69, u_277_0, x_iload1, x_call1_0, x_call1_1, x_call1_2, x_call1_3, x_call1_4, e_k_s, e_k_i, List.nil_append, List.cons_append, x_ifCond_eq, x_ifCond_eqb, x_iload2, x_sipush, x_call3_0, x_call3_1, x_call3_2, x_call3_3, x_call3_4, x_ifCond_lt, x_iload3, x_if_icmp_le, x_jsr, u_277_26, x_ireturn, u_277_28, x_ifCond_ge, u_277_39, x_aload0, k_69_30, k_69_31, x_goto, u_277_59, u_277_60, x_istore4i, x_istore4r, x_istore4u, x_iload4, x_if_icmp_ge, k_69_32, x_imul, x_iadd, x_iinc4i, x_iinc4r, x_iinc4u, u_277_90, is_84, is_85, is_86, m_nin, m_shi, ↓reduceIte, b01_0, ite_not, if_true, if_false, Int.reduceLT, Int.reduceEq]
theorem q_write1 (h : Rel I J) {b c : Int} (hb : rg b) (hc : rg c) : pr X d I J 157 279 [.int (iI 1), .int (iI b), .int (iI c)] := by
  have hS := h.2.2.2.2.1
  obtain ⟨h1, h2, h3, h4, -⟩ := hS 1 (by decide)
  have h1 : -1 ≤ I 59 1 ∧ I 59 1 ≤ 4 := h1
  have h2 : 0 ≤ I 59 2 ∧ I 59 2 ≤ 40 := h2
  have h3 : I 84 1 = I 59 1 := h3
  have h4 : I 85 1 = I 59 2 := h4
  by_cases q1 : I 59 1 = -1
  · refine ⟨-11, I, J, I, J, ?_, ?_, h⟩
    · simp (disch := omega) only [v_157_0, u_157_0, x_iload1, x_sipush, x_call3_0, x_call3_1, x_call3_2, x_call3_3, x_call3_4, e_k_s, e_k_i, List.nil_append, List.cons_append, x_ifCond_eq, x_ifCond_eqb, x_ireturn, u_157_11, x_aload0, k_0_6, f_59_1, x_if_icmp_ne, u_157_27, x_iload2, x_call2_0, x_call2_1, x_call2_2, x_call2_3, x_call2_4, x_ifCond_ne, x_ifCond_neb, u_157_43, x_iload3, aa_53_0, aa_53_1, aa_53_2, aa_53_3, b_in, q1, ↓reduceIte, b01_0, ite_not, if_true, if_false, Int.reduceLT, Int.reduceEq]
    · simp (disch := omega) only [v_279_69, u_279_0, x_iload1, x_call1_0, x_call1_1, x_call1_2, x_call1_3, x_call1_4, e_k_s, e_k_i, List.nil_append, List.cons_append, x_ifCond_ne, x_ifCond_neb, x_sipush, x_ireturn, u_279_9, x_aload0, k_69_30, x_ifCond_ge, u_279_21, x_iload2, k_69_31, x_isub, x_call3_0, x_call3_1, x_call3_2, x_call3_3, x_call3_4, u_279_40, k_69_32, x_imul, x_iadd, x_iload3, x_call2_0, x_call2_1, x_call2_2, x_call2_3, x_call2_4, ia_84, is_84, ia_85, is_85, ia_86, is_86, m_shi, h3, q1, ↓reduceIte, b01_0, ite_not, if_true, if_false, Int.reduceLT, Int.reduceEq]
  · have e1 := s_has59 (X := X) (d := d + 28) (I := I) (J := J) h2 hb
    by_cases q2 : 0 ≤ b ∧ b < I 59 2
    · rw [if_pos q2] at e1
      have e2 := s_wr59 (X := X) (d := d + 27) (I := I) (J := J) (v := c) rfl ⟨by omega, h1.2⟩ h2 q2 hc
      have e3 := fun (M N : Nat → Int → Int) => m_cst (X := X) (d := d + 28) (I := M) (J := N) (k := I 59 1) ⟨by omega, h1.2⟩ hc
      refine ⟨1, I, up J 60 b (cstq (I 59 1) c), up I 86 (40 * 1 + b) (cstq (I 59 1) c), up J 60 b (cstq (I 59 1) c), ?_, ?_, Rel_sheet h kp_put (SH_put hS (a := 1) (by decide) rfl rfl ⟨q2.1, by omega⟩ (cst_rg hc))⟩
      · simp (disch := omega) only [v_157_0, u_157_0, x_iload1, x_sipush, x_call3_0, x_call3_1, x_call3_2, x_call3_3, x_call3_4, e_k_s, e_k_i, List.nil_append, List.cons_append, x_ifCond_eq, x_ifCond_eqb, x_ireturn, u_157_11, x_aload0, k_0_6, f_59_1, x_if_icmp_ne, u_157_27, x_iload2, x_call2_0, x_call2_1, x_call2_2, x_call2_3, x_call2_4, x_ifCond_ne, x_ifCond_neb, u_157_43, x_iload3, aa_53_0, aa_53_1, aa_53_2, aa_53_3, b_in, e1, e2, ↓reduceIte, b01_0, ite_not, if_true, if_false, Int.reduceLT, Int.reduceEq]
        (repeat' split) <;> first | rfl | (exfalso; omega)
      · simp (disch := omega) only [v_279_69, u_279_0, x_iload1, x_call1_0, x_call1_1, x_call1_2, x_call1_3, x_call1_4, e_k_s, e_k_i, List.nil_append, List.cons_append, x_ifCond_ne, x_ifCond_neb, x_sipush, x_ireturn, u_279_9, x_aload0, k_69_30, x_ifCond_ge, u_279_21, x_iload2, k_69_31, x_isub, x_call3_0, x_call3_1, x_call3_2, x_call3_3, x_call3_4, u_279_40, k_69_32, x_imul, x_iadd, x_iload3, x_call2_0, x_call2_1, x_call2_2, x_call2_3, x_call2_4, ia_84, is_84, ia_85, is_85, ia_86, is_86, m_shi, m_in, h3, h4, e3, ↓reduceIte, b01_0, ite_not, if_true, if_false, Int.reduceLT, Int.reduceEq]
        (repeat' split) <;> first | rfl | (exfalso; omega)
    · rw [if_neg q2] at e1
      refine ⟨-12, I, J, I, J, ?_, ?_, h⟩
      · simp (disch := omega) only [v_157_0, u_157_0, x_iload1, x_sipush, x_call3_0, x_call3_1, x_call3_2, x_call3_3, x_call3_4, e_k_s, e_k_i, List.nil_append, List.cons_append, x_ifCond_eq, x_ifCond_eqb, x_ireturn, u_157_11, x_aload0, k_0_6, f_59_1, x_if_icmp_ne, u_157_27, x_iload2, x_call2_0, x_call2_1, x_call2_2, x_call2_3, x_call2_4, x_ifCond_ne, x_ifCond_neb, u_157_43, x_iload3, aa_53_0, aa_53_1, aa_53_2, aa_53_3, b_in, e1, ↓reduceIte, b01_0, ite_not, if_true, if_false, Int.reduceLT, Int.reduceEq]
        (repeat' split) <;> first | rfl | (exfalso; omega)
      · simp (disch := omega) only [v_279_69, u_279_0, x_iload1, x_call1_0, x_call1_1, x_call1_2, x_call1_3, x_call1_4, e_k_s, e_k_i, List.nil_append, List.cons_append, x_ifCond_ne, x_ifCond_neb, x_sipush, x_ireturn, u_279_9, x_aload0, k_69_30, x_ifCond_ge, u_279_21, x_iload2, k_69_31, x_isub, x_call3_0, x_call3_1, x_call3_2, x_call3_3, x_call3_4, u_279_40, k_69_32, x_imul, x_iadd, x_iload3, x_call2_0, x_call2_1, x_call2_2, x_call2_3, x_call2_4, ia_84, is_84, ia_85, is_85, ia_86, is_86, m_shi, m_nin, h3, h4, ↓reduceIte, b01_0, ite_not, if_true, if_false, Int.reduceLT, Int.reduceEq]
        (repeat' split) <;> first | rfl | (exfalso; omega)
theorem q_item1 (h : Rel I J) {b c : Int} (hb : rg b) (hc : rg c) : pr X d I J 158 281 [.int (iI 1), .int (iI b), .int (iI c)] := by
  have hS := h.2.2.2.2.1
  obtain ⟨h1, h2, h3, h4, h5⟩ := hS 1 (by decide)
  have h1 : -1 ≤ I 59 1 ∧ I 59 1 ≤ 4 := h1
  have h2 : 0 ≤ I 59 2 ∧ I 59 2 ≤ 40 := h2
  have h3 : I 84 1 = I 59 1 := h3
  have h4 : I 85 1 = I 59 2 := h4
  by_cases q0 : 0 ≤ b ∧ b ≤ 4
  · have e1 := s_okd59 (X := X) (d := d + 28) (I := I) (J := J) ⟨by omega, by omega⟩ hb
    have e2 := m_okd (X := X) (d := d + 28) (I := I) (J := J) (q := 1) (by decide) (by rw [h3]; exact h1) hb
    rw [h3] at e2
    by_cases q1 : I 59 1 = -1
    · rw [if_pos q1] at e1 e2
      refine ⟨-11, I, J, I, J, ?_, ?_, h⟩
      · simp (disch := omega) only [v_158_0, u_158_0, x_iload1, x_sipush, x_call3_0, x_call3_1, x_call3_2, x_call3_3, x_call3_4, e_k_s, e_k_i, List.nil_append, List.cons_append, x_ifCond_ne, x_ifCond_neb, x_iload2, x_ifCond_eq, x_ifCond_eqb, x_jsr, u_158_18, x_ireturn, u_158_20, x_aload0, k_0_6, x_call2_0, x_call2_1, x_call2_2, x_call2_3, x_call2_4, x_istore4i, x_istore4r, x_istore4u, x_iload4, u_158_40, x_iload3, k_59_0, x_l2i, x_goto, u_158_68, u_158_70, aa_53_0, aa_53_1, aa_53_2, aa_53_3, la_60, b_in, e1, Int.reduceNeg, ↓reduceIte, b01_0, ite_not, if_true, if_false, Int.reduceLT, Int.reduceEq]
      · simp (disch := omega) only [v_281_69, u_281_0, x_iload1, x_call1_0, x_call1_1, x_call1_2, x_call1_3, x_call1_4, e_k_s, e_k_i, List.nil_append, List.cons_append, x_ifCond_eq, x_ifCond_eqb, x_iload2, x_sipush, x_call3_0, x_call3_1, x_call3_2, x_call3_3, x_call3_4, x_ifCond_ne, x_ifCond_neb, x_jsr, u_281_16, x_ireturn, u_281_18, x_aload0, x_istore4i, x_istore4r, x_istore4u, x_iload4, x_goto, u_281_36, x_iload3, k_69_31, x_isub, k_69_32, x_imul, x_iadd, u_281_66, u_281_68, ia_85, ia_86, m_shi, m_in, e2, Int.reduceNeg, ↓reduceIte, b01_0, ite_not, if_true, if_false, Int.reduceLT, Int.reduceEq]
    · rw [if_neg q1] at e1 e2
      by_cases q2 : I 59 1 = b
      · rw [if_pos q2] at e1 e2
        have e3 := s_has59 (X := X) (d := d + 28) (I := I) (J := J) h2 hc
        by_cases q3 : 0 ≤ c ∧ c < I 59 2
        · rw [if_pos q3] at e3
          have e4 : J 60 c = I 86 (40 * 1 + c) := (h5 c q3.1 (by omega)).1
          refine ⟨I 86 (40 * 1 + c), I, J, I, J, ?_, ?_, h⟩
          · simp (disch := omega) only [v_158_0, u_158_0, x_iload1, x_sipush, x_call3_0, x_call3_1, x_call3_2, x_call3_3, x_call3_4, e_k_s, e_k_i, List.nil_append, List.cons_append, x_ifCond_ne, x_ifCond_neb, x_iload2, x_ifCond_eq, x_ifCond_eqb, x_jsr, u_158_18, x_ireturn, u_158_20, x_aload0, k_0_6, x_call2_0, x_call2_1, x_call2_2, x_call2_3, x_call2_4, x_istore4i, x_istore4r, x_istore4u, x_iload4, u_158_40, x_iload3, k_59_0, x_l2i, x_goto, u_158_68, u_158_70, aa_53_0, aa_53_1, aa_53_2, aa_53_3, la_60, b_in, e1, e3, l2i_i, e4, ↓reduceIte, b01_0, ite_not, if_true, if_false, Int.reduceLT, Int.reduceEq]
          · simp (disch := omega) only [v_281_69, u_281_0, x_iload1, x_call1_0, x_call1_1, x_call1_2, x_call1_3, x_call1_4, e_k_s, e_k_i, List.nil_append, List.cons_append, x_ifCond_eq, x_ifCond_eqb, x_iload2, x_sipush, x_call3_0, x_call3_1, x_call3_2, x_call3_3, x_call3_4, x_ifCond_ne, x_ifCond_neb, x_jsr, u_281_16, x_ireturn, u_281_18, x_aload0, x_istore4i, x_istore4r, x_istore4u, x_iload4, x_goto, u_281_36, x_iload3, k_69_31, x_isub, k_69_32, x_imul, x_iadd, u_281_66, u_281_68, ia_85, ia_86, m_shi, m_in, e2, h4, ↓reduceIte, b01_0, ite_not, if_true, if_false, Int.reduceLT, Int.reduceEq]
        · rw [if_neg q3] at e3
          refine ⟨-12, I, J, I, J, ?_, ?_, h⟩
          · simp (disch := omega) only [v_158_0, u_158_0, x_iload1, x_sipush, x_call3_0, x_call3_1, x_call3_2, x_call3_3, x_call3_4, e_k_s, e_k_i, List.nil_append, List.cons_append, x_ifCond_ne, x_ifCond_neb, x_iload2, x_ifCond_eq, x_ifCond_eqb, x_jsr, u_158_18, x_ireturn, u_158_20, x_aload0, k_0_6, x_call2_0, x_call2_1, x_call2_2, x_call2_3, x_call2_4, x_istore4i, x_istore4r, x_istore4u, x_iload4, u_158_40, x_iload3, k_59_0, x_l2i, x_goto, u_158_68, u_158_70, aa_53_0, aa_53_1, aa_53_2, aa_53_3, la_60, b_in, e1, e3, ↓reduceIte, b01_0, ite_not, if_true, if_false, Int.reduceLT, Int.reduceEq]
          · simp (disch := omega) only [v_281_69, u_281_0, x_iload1, x_call1_0, x_call1_1, x_call1_2, x_call1_3, x_call1_4, e_k_s, e_k_i, List.nil_append, List.cons_append, x_ifCond_eq, x_ifCond_eqb, x_iload2, x_sipush, x_call3_0, x_call3_1, x_call3_2, x_call3_3, x_call3_4, x_ifCond_ne, x_ifCond_neb, x_jsr, u_281_16, x_ireturn, u_281_18, x_aload0, x_istore4i, x_istore4r, x_istore4u, x_iload4, x_goto, u_281_36, x_iload3, k_69_31, x_isub, k_69_32, x_imul, x_iadd, u_281_66, u_281_68, ia_85, ia_86, m_shi, m_in, m_nin, e2, h4, ↓reduceIte, b01_0, ite_not, if_true, if_false, Int.reduceLT, Int.reduceEq]
      · rw [if_neg q2] at e1 e2
        refine ⟨-13, I, J, I, J, ?_, ?_, h⟩
        · simp (disch := omega) only [v_158_0, u_158_0, x_iload1, x_sipush, x_call3_0, x_call3_1, x_call3_2, x_call3_3, x_call3_4, e_k_s, e_k_i, List.nil_append, List.cons_append, x_ifCond_ne, x_ifCond_neb, x_iload2, x_ifCond_eq, x_ifCond_eqb, x_jsr, u_158_18, x_ireturn, u_158_20, x_aload0, k_0_6, x_call2_0, x_call2_1, x_call2_2, x_call2_3, x_call2_4, x_istore4i, x_istore4r, x_istore4u, x_iload4, u_158_40, x_iload3, k_59_0, x_l2i, x_goto, u_158_68, u_158_70, aa_53_0, aa_53_1, aa_53_2, aa_53_3, la_60, b_in, e1, Int.reduceNeg, ↓reduceIte, b01_0, ite_not, if_true, if_false, Int.reduceLT, Int.reduceEq]
        · simp (disch := omega) only [v_281_69, u_281_0, x_iload1, x_call1_0, x_call1_1, x_call1_2, x_call1_3, x_call1_4, e_k_s, e_k_i, List.nil_append, List.cons_append, x_ifCond_eq, x_ifCond_eqb, x_iload2, x_sipush, x_call3_0, x_call3_1, x_call3_2, x_call3_3, x_call3_4, x_ifCond_ne, x_ifCond_neb, x_jsr, u_281_16, x_ireturn, u_281_18, x_aload0, x_istore4i, x_istore4r, x_istore4u, x_iload4, x_goto, u_281_36, x_iload3, k_69_31, x_isub, k_69_32, x_imul, x_iadd, u_281_66, u_281_68, ia_85, ia_86, m_shi, m_in, e2, Int.reduceNeg, ↓reduceIte, b01_0, ite_not, if_true, if_false, Int.reduceLT, Int.reduceEq]
  · refine ⟨-1, I, J, I, J, ?_, ?_, h⟩
    · simp (disch := omega) only [v_158_0, u_158_0, x_iload1, x_sipush, x_call3_0, x_call3_1, x_call3_2, x_call3_3, x_call3_4, e_k_s, e_k_i, List.nil_append, List.cons_append, x_ifCond_ne, x_ifCond_neb, x_iload2, x_ifCond_eq, x_ifCond_eqb, x_jsr, u_158_18, x_ireturn, u_158_20, x_aload0, k_0_6, x_call2_0, x_call2_1, x_call2_2, x_call2_3, x_call2_4, x_istore4i, x_istore4r, x_istore4u, x_iload4, u_158_40, x_iload3, x_l2i, x_goto, u_158_68, u_158_70, aa_53_0, aa_53_1, aa_53_2, aa_53_3, b_in, b_nin, ↓reduceIte, b01_0, ite_not, if_true, if_false, Int.reduceLT, Int.reduceEq]
    · simp (disch := omega) only [v_281_69, u_281_0, x_iload1, x_call1_0, x_call1_1, x_call1_2, x_call1_3, x_call1_4, e_k_s, e_k_i, List.nil_append, List.cons_append, x_ifCond_eq, x_ifCond_eqb, x_iload2, x_sipush, x_call3_0, x_call3_1, x_call3_2, x_call3_3, x_call3_4, x_ifCond_ne, x_ifCond_neb, x_jsr, u_281_16, x_ireturn, u_281_18, x_aload0, x_istore4i, x_istore4r, x_istore4u, x_iload4, x_goto, u_281_36, x_iload3, k_69_31, x_isub, k_69_32, x_imul, x_iadd, u_281_66, u_281_68, ia_85, ia_86, m_nin, m_shi, ↓reduceIte, b01_0, ite_not, if_true, if_false, Int.reduceLT, Int.reduceEq]
theorem q_sheet2 (h : Rel I J) {b c : Int} (hb : rg b) (hc : rg c) : pr X d I J 156 277 [.int (iI 2), .int (iI b), .int (iI c)] := by
  have hS := h.2.2.2.2.1
  by_cases q1 : -1 ≤ b ∧ b ≤ 4
  · by_cases q2 : b = -1
    · subst q2
      have e1 := s_rel61 (X := X) (d := d + 28) (I := I) (J := J) (k := -1) (v := 0)
      have e2 := m_clr (X := X) (d := d + 28) (I := up (up (up (up I 61 1 (-1)) 61 2 0) 84 2 (-1)) 85 2 0) (J := zrr J 62 0 40) (q := 2) (by decide) (v2 := iI (-1)) (v3 := iI c) 40 0 (by decide) (by decide)
      rw [zrr_0] at e2
      refine ⟨1, up (up I 61 1 (-1)) 61 2 0, zrr J 62 0 40, zrr (up (up (up (up I 61 1 (-1)) 61 2 0) 84 2 (-1)) 85 2 0) 86 (40 * 2) 40, zrr J 62 0 40, ?_, ?_, Rel_sheet h (kp_new (a := 2) (by decide) rfl) (SH_new hS (a := 2) (by decide) rfl rfl (by decide) (by decide))⟩
      · simp (disch := omega) only [v_156_0, u_156_0, x_iload1, x_sipush, x_call3_0, x_call3_1, x_call3_2, x_call3_3, x_call3_4, e_k_s, e_k_i, List.nil_append, List.cons_append, x_ifCond_ne, x_ifCond_neb, x_iload2, x_ifCond_eq, x_ifCond_eqb, x_jsr, u_156_18, x_ireturn, u_156_20, x_if_icmp_eq, x_iload3, x_if_icmp_le, u_156_33, x_ifCond_ge, u_156_45, x_aload0, k_0_6, x_if_icmp_ne, x_goto, u_156_61, u_156_62, aa_53_0, aa_53_1, aa_53_2, aa_53_3, b_in, e1, Int.reduceNeg, ↓reduceIte, b01_0, ite_not, if_true, if_false, Int.reduceLT, Int.reduceEq]
      · simp (disch := omega) only [v_277_69, u_277_0, x_iload1, x_call1_0, x_call1_1, x_call1_2, x_call1_3, x_call1_4, e_k_s, e_k_i, List.nil_append, List.cons_append, x_ifCond_eq, x_ifCond_eqb, x_iload2, x_sipush, x_call3_0, x_call3_1, x_call3_2, x_call3_3, x_call3_4, x_ifCond_lt, x_iload3, x_if_icmp_le, x_jsr, u_277_26, x_ireturn, u_277_28, x_ifCond_ge, u_277_39, x_aload0, k_69_30, k_69_31, x_goto, u_277_59, u_277_60, x_istore4i, x_istore4r, x_istore4u, x_iload4, x_if_icmp_ge, k_69_32, x_imul, x_iadd, x_iinc4i, x_iinc4r, x_iinc4u, u_277_90, is_84, is_85, is_86, m_in, m_shi, e2, Int.reduceNeg, ↓reduceIte, b01_0, ite_not, if_true, if_false, Int.reduceLT, Int.reduceEq]
    · by_cases q3 : 40 < c
      · refine ⟨-1, I, J, I, J, ?_, ?_, h⟩
        · simp (disch := omega) only [v_156_0, u_156_0, x_iload1, x_sipush, x_call3_0, x_call3_1, x_call3_2, x_call3_3, x_call3_4, e_k_s, e_k_i, List.nil_append, List.cons_append, x_ifCond_ne, x_ifCond_neb, x_iload2, x_ifCond_eq, x_ifCond_eqb, x_jsr, u_156_18, x_ireturn, u_156_20, x_if_icmp_eq, x_iload3, x_if_icmp_le, u_156_33, x_ifCond_ge, u_156_45, x_aload0, k_0_6, x_if_icmp_ne, x_goto, u_156_61, u_156_62, aa_53_0, aa_53_1, aa_53_2, aa_53_3, b_in, ↓reduceIte, b01_0, ite_not, if_true, if_false, Int.reduceLT, Int.reduceEq]
          (repeat' split) <;> first | rfl | (exfalso; omega)
        · simp (disch := omega) only [v_277_69, u_277_0, x_iload1, x_call1_0, x_call1_1, x_call1_2, x_call1_3, x_call1_4, e_k_s, e_k_i, List.nil_append, List.cons_append, x_ifCond_eq, x_ifCond_eqb, x_iload2, x_sipush, x_call3_0, x_call3_1, x_call3_2, x_call3_3, x_call3_4, x_ifCond_lt, x_iload3, x_if_icmp_le, x_jsr, u_277_26, x_ireturn, u_277_28, x_ifCond_ge, u_277_39, x_aload0, k_69_30, k_69_31, x_goto, u_277_59, u_277_60, x_istore4i, x_istore4r, x_istore4u, x_iload4, x_if_icmp_ge, k_69_32, x_imul, x_iadd, x_iinc4i, x_iinc4r, x_iinc4u, u_277_90, is_84, is_85, is_86, m_in, m_shi, ↓reduceIte, b01_0, ite_not, if_true, if_false, Int.reduceLT, Int.reduceEq]
          (repeat' split) <;> first | rfl | (exfalso; omega)
      · by_cases q4 : c < 0
        · refine ⟨-14, I, J, I, J, ?_, ?_, h⟩
          · simp (disch := omega) only [v_156_0, u_156_0, x_iload1, x_sipush, x_call3_0, x_call3_1, x_call3_2, x_call3_3, x_call3_4, e_k_s, e_k_i, List.nil_append, List.cons_append, x_ifCond_ne, x_ifCond_neb, x_iload2, x_ifCond_eq, x_ifCond_eqb, x_jsr, u_156_18, x_ireturn, u_156_20, x_if_icmp_eq, x_iload3, x_if_icmp_le, u_156_33, x_ifCond_ge, u_156_45, x_aload0, k_0_6, x_if_icmp_ne, x_goto, u_156_61, u_156_62, aa_53_0, aa_53_1, aa_53_2, aa_53_3, b_in, ↓reduceIte, b01_0, ite_not, if_true, if_false, Int.reduceLT, Int.reduceEq]
            (repeat' split) <;> first | rfl | (exfalso; omega)
          · simp (disch := omega) only [v_277_69, u_277_0, x_iload1, x_call1_0, x_call1_1, x_call1_2, x_call1_3, x_call1_4, e_k_s, e_k_i, List.nil_append, List.cons_append, x_ifCond_eq, x_ifCond_eqb, x_iload2, x_sipush, x_call3_0, x_call3_1, x_call3_2, x_call3_3, x_call3_4, x_ifCond_lt, x_iload3, x_if_icmp_le, x_jsr, u_277_26, x_ireturn, u_277_28, x_ifCond_ge, u_277_39, x_aload0, k_69_30, k_69_31, x_goto, u_277_59, u_277_60, x_istore4i, x_istore4r, x_istore4u, x_iload4, x_if_icmp_ge, k_69_32, x_imul, x_iadd, x_iinc4i, x_iinc4r, x_iinc4u, u_277_90, is_84, is_85, is_86, m_in, m_shi, ↓reduceIte, b01_0, ite_not, if_true, if_false, Int.reduceLT, Int.reduceEq]
            (repeat' split) <;> first | rfl | (exfalso; omega)
        · have e1 := s_rel61 (X := X) (d := d + 28) (I := I) (J := J) (k := b) (v := c)
          have e2 := m_clr (X := X) (d := d + 28) (I := up (up (up (up I 61 1 b) 61 2 c) 84 2 b) 85 2 c) (J := zrr J 62 0 40) (q := 2) (by decide) (v2 := iI b) (v3 := iI c) 40 0 (by decide) (by decide)
          rw [zrr_0] at e2
          refine ⟨1, up (up I 61 1 b) 61 2 c, zrr J 62 0 40, zrr (up (up (up (up I 61 1 b) 61 2 c) 84 2 b) 85 2 c) 86 (40 * 2) 40, zrr J 62 0 40, ?_, ?_, Rel_sheet h (kp_new (a := 2) (by decide) rfl) (SH_new hS (a := 2) (by decide) rfl rfl (by omega) (by omega))⟩
          · simp (disch := omega) only [v_156_0, u_156_0, x_iload1, x_sipush, x_call3_0, x_call3_1, x_call3_2, x_call3_3, x_call3_4, e_k_s, e_k_i, List.nil_append, List.cons_append, x_ifCond_ne, x_ifCond_neb, x_iload2, x_ifCond_eq, x_ifCond_eqb, x_jsr, u_156_18, x_ireturn, u_156_20, x_if_icmp_eq, x_iload3, x_if_icmp_le, u_156_33, x_ifCond_ge, u_156_45, x_aload0, k_0_6, x_if_icmp_ne, x_goto, u_156_61, u_156_62, aa_53_0, aa_53_1, aa_53_2, aa_53_3, b_in, e1, ↓reduceIte, b01_0, ite_not, if_true, if_false, Int.reduceLT, Int.reduceEq]
            (repeat' split) <;> first | rfl | (exfalso; omega)
          · simp (disch := omega) only [v_277_69, u_277_0, x_iload1, x_call1_0, x_call1_1, x_call1_2, x_call1_3, x_call1_4, e_k_s, e_k_i, List.nil_append, List.cons_append, x_ifCond_eq, x_ifCond_eqb, x_iload2, x_sipush, x_call3_0, x_call3_1, x_call3_2, x_call3_3, x_call3_4, x_ifCond_lt, x_iload3, x_if_icmp_le, x_jsr, u_277_26, x_ireturn, u_277_28, x_ifCond_ge, u_277_39, x_aload0, k_69_30, k_69_31, x_goto, u_277_59, u_277_60, x_istore4i, x_istore4r, x_istore4u, x_iload4, x_if_icmp_ge, k_69_32, x_imul, x_iadd, x_iinc4i, x_iinc4r, x_iinc4u, u_277_90, is_84, is_85, is_86, m_in, m_shi, e2, ↓reduceIte, b01_0, ite_not, if_true, if_false, Int.reduceLT, Int.reduceEq]
            (repeat' split) <;> first | rfl | (exfalso; omega)
  · refine ⟨-1, I, J, I, J, ?_, ?_, h⟩
    · simp (disch := omega) only [v_156_0, u_156_0, x_iload1, x_sipush, x_call3_0, x_call3_1, x_call3_2, x_call3_3, x_call3_4, e_k_s, e_k_i, List.nil_append, List.cons_append, x_ifCond_ne, x_ifCond_neb, x_iload2, x_ifCond_eq, x_ifCond_eqb, x_jsr, u_156_18, x_ireturn, u_156_20, x_if_icmp_eq, x_iload3, x_if_icmp_le, u_156_33, x_ifCond_ge, u_156_45, x_aload0, k_0_6, x_if_icmp_ne, x_goto, u_156_61, u_156_62, aa_53_0, aa_53_1, aa_53_2, aa_53_3, b_in, b_nin, ↓reduceIte, b01_0, ite_not, if_true, if_false, Int.reduceLT, Int.reduceEq]
    · simp (disch := omega) only [v_277_69, u_277_0, x_iload1, x_call1_0, x_call1_1, x_call1_2, x_call1_3, x_call1_4, e_k_s, e_k_i, List.nil_append, List.cons_append, x_ifCond_eq, x_ifCond_eqb, x_iload2, x_sipush, x_call3_0, x_call3_1, x_call3_2, x_call3_3, x_call3_4, x_ifCond_lt, x_iload3, x_if_icmp_le, x_jsr, u_277_26, x_ireturn, u_277_28, x_ifCond_ge, u_277_39, x_aload0, k_69_30, k_69_31, x_goto, u_277_59, u_277_60, x_istore4i, x_istore4r, x_istore4u, x_iload4, x_if_icmp_ge, k_69_32, x_imul, x_iadd, x_iinc4i, x_iinc4r, x_iinc4u, u_277_90, is_84, is_85, is_86, m_nin, m_shi, ↓reduceIte, b01_0, ite_not, if_true, if_false, Int.reduceLT, Int.reduceEq]
theorem q_write2 (h : Rel I J) {b c : Int} (hb : rg b) (hc : rg c) : pr X d I J 157 279 [.int (iI 2), .int (iI b), .int (iI c)] := by
  have hS := h.2.2.2.2.1
  obtain ⟨h1, h2, h3, h4, -⟩ := hS 2 (by decide)
  have h1 : -1 ≤ I 61 1 ∧ I 61 1 ≤ 4 := h1
  have h2 : 0 ≤ I 61 2 ∧ I 61 2 ≤ 40 := h2
  have h3 : I 84 2 = I 61 1 := h3
  have h4 : I 85 2 = I 61 2 := h4
  by_cases q1 : I 61 1 = -1
  · refine ⟨-11, I, J, I, J, ?_, ?_, h⟩
    · simp (disch := omega) only [v_157_0, u_157_0, x_iload1, x_sipush, x_call3_0, x_call3_1, x_call3_2, x_call3_3, x_call3_4, e_k_s, e_k_i, List.nil_append, List.cons_append, x_ifCond_eq, x_ifCond_eqb, x_ireturn, u_157_11, x_aload0, k_0_6, f_61_1, x_if_icmp_ne, u_157_27, x_iload2, x_call2_0, x_call2_1, x_call2_2, x_call2_3, x_call2_4, x_ifCond_ne, x_ifCond_neb, u_157_43, x_iload3, aa_53_0, aa_53_1, aa_53_2, aa_53_3, b_in, q1, ↓reduceIte, b01_0, ite_not, if_true, if_false, Int.reduceLT, Int.reduceEq]
    · simp (disch := omega) only [v_279_69, u_279_0, x_iload1, x_call1_0, x_call1_1, x_call1_2, x_call1_3, x_call1_4, e_k_s, e_k_i, List.nil_append, List.cons_append, x_ifCond_ne, x_ifCond_neb, x_sipush, x_ireturn, u_279_9, x_aload0, k_69_30, x_ifCond_ge, u_279_21, x_iload2, k_69_31, x_isub, x_call3_0, x_call3_1, x_call3_2, x_call3_3, x_call3_4, u_279_40, k_69_32, x_imul, x_iadd, x_iload3, x_call2_0, x_call2_1, x_call2_2, x_call2_3, x_call2_4, ia_84, is_84, ia_85, is_85, ia_86, is_86, m_shi, h3, q1, ↓reduceIte, b01_0, ite_not, if_true, if_false, Int.reduceLT, Int.reduceEq]
  · have e1 := s_has61 (X := X) (d := d + 28) (I := I) (J := J) h2 hb
    by_cases q2 : 0 ≤ b ∧ b < I 61 2
    · rw [if_pos q2] at e1
      have e2 := s_wr61 (X := X) (d := d + 27) (I := I) (J := J) (v := c) rfl ⟨by omega, h1.2⟩ h2 q2 hc
      have e3 := fun (M N : Nat → Int → Int) => m_cst (X := X) (d := d + 28) (I := M) (J := N) (k := I 61 1) ⟨by omega, h1.2⟩ hc
      refine ⟨1, I, up J 62 b (cstq (I 61 1) c), up I 86 (40 * 2 + b) (cstq (I 61 1) c), up J 62 b (cstq (I 61 1) c), ?_, ?_, Rel_sheet h kp_put (SH_put hS (a := 2) (by decide) rfl rfl ⟨q2.1, by omega⟩ (cst_rg hc))⟩
      · simp (disch := omega) only [v_157_0, u_157_0, x_iload1, x_sipush, x_call3_0, x_call3_1, x_call3_2, x_call3_3, x_call3_4, e_k_s, e_k_i, List.nil_append, List.cons_append, x_ifCond_eq, x_ifCond_eqb, x_ireturn, u_157_11, x_aload0, k_0_6, f_61_1, x_if_icmp_ne, u_157_27, x_iload2, x_call2_0, x_call2_1, x_call2_2, x_call2_3, x_call2_4, x_ifCond_ne, x_ifCond_neb, u_157_43, x_iload3, aa_53_0, aa_53_1, aa_53_2, aa_53_3, b_in, e1, e2, ↓reduceIte, b01_0, ite_not, if_true, if_false, Int.reduceLT, Int.reduceEq]
        (repeat' split) <;> first | rfl | (exfalso; omega)
      · simp (disch := omega) only [v_279_69, u_279_0, x_iload1, x_call1_0, x_call1_1, x_call1_2, x_call1_3, x_call1_4, e_k_s, e_k_i, List.nil_append, List.cons_append, x_ifCond_ne, x_ifCond_neb, x_sipush, x_ireturn, u_279_9, x_aload0, k_69_30, x_ifCond_ge, u_279_21, x_iload2, k_69_31, x_isub, x_call3_0, x_call3_1, x_call3_2, x_call3_3, x_call3_4, u_279_40, k_69_32, x_imul, x_iadd, x_iload3, x_call2_0, x_call2_1, x_call2_2, x_call2_3, x_call2_4, ia_84, is_84, ia_85, is_85, ia_86, is_86, m_shi, m_in, h3, h4, e3, ↓reduceIte, b01_0, ite_not, if_true, if_false, Int.reduceLT, Int.reduceEq]
        (repeat' split) <;> first | rfl | (exfalso; omega)
    · rw [if_neg q2] at e1
      refine ⟨-12, I, J, I, J, ?_, ?_, h⟩
      · simp (disch := omega) only [v_157_0, u_157_0, x_iload1, x_sipush, x_call3_0, x_call3_1, x_call3_2, x_call3_3, x_call3_4, e_k_s, e_k_i, List.nil_append, List.cons_append, x_ifCond_eq, x_ifCond_eqb, x_ireturn, u_157_11, x_aload0, k_0_6, f_61_1, x_if_icmp_ne, u_157_27, x_iload2, x_call2_0, x_call2_1, x_call2_2, x_call2_3, x_call2_4, x_ifCond_ne, x_ifCond_neb, u_157_43, x_iload3, aa_53_0, aa_53_1, aa_53_2, aa_53_3, b_in, e1, ↓reduceIte, b01_0, ite_not, if_true, if_false, Int.reduceLT, Int.reduceEq]
        (repeat' split) <;> first | rfl | (exfalso; omega)
      · simp (disch := omega) only [v_279_69, u_279_0, x_iload1, x_call1_0, x_call1_1, x_call1_2, x_call1_3, x_call1_4, e_k_s, e_k_i, List.nil_append, List.cons_append, x_ifCond_ne, x_ifCond_neb, x_sipush, x_ireturn, u_279_9, x_aload0, k_69_30, x_ifCond_ge, u_279_21, x_iload2, k_69_31, x_isub, x_call3_0, x_call3_1, x_call3_2, x_call3_3, x_call3_4, u_279_40, k_69_32, x_imul, x_iadd, x_iload3, x_call2_0, x_call2_1, x_call2_2, x_call2_3, x_call2_4, ia_84, is_84, ia_85, is_85, ia_86, is_86, m_shi, m_nin, h3, h4, ↓reduceIte, b01_0, ite_not, if_true, if_false, Int.reduceLT, Int.reduceEq]
        (repeat' split) <;> first | rfl | (exfalso; omega)
theorem q_item2 (h : Rel I J) {b c : Int} (hb : rg b) (hc : rg c) : pr X d I J 158 281 [.int (iI 2), .int (iI b), .int (iI c)] := by
  have hS := h.2.2.2.2.1
  obtain ⟨h1, h2, h3, h4, h5⟩ := hS 2 (by decide)
  have h1 : -1 ≤ I 61 1 ∧ I 61 1 ≤ 4 := h1
  have h2 : 0 ≤ I 61 2 ∧ I 61 2 ≤ 40 := h2
  have h3 : I 84 2 = I 61 1 := h3
  have h4 : I 85 2 = I 61 2 := h4
  by_cases q0 : 0 ≤ b ∧ b ≤ 4
  · have e1 := s_okd61 (X := X) (d := d + 28) (I := I) (J := J) ⟨by omega, by omega⟩ hb
    have e2 := m_okd (X := X) (d := d + 28) (I := I) (J := J) (q := 2) (by decide) (by rw [h3]; exact h1) hb
    rw [h3] at e2
    by_cases q1 : I 61 1 = -1
    · rw [if_pos q1] at e1 e2
      refine ⟨-11, I, J, I, J, ?_, ?_, h⟩
      · simp (disch := omega) only [v_158_0, u_158_0, x_iload1, x_sipush, x_call3_0, x_call3_1, x_call3_2, x_call3_3, x_call3_4, e_k_s, e_k_i, List.nil_append, List.cons_append, x_ifCond_ne, x_ifCond_neb, x_iload2, x_ifCond_eq, x_ifCond_eqb, x_jsr, u_158_18, x_ireturn, u_158_20, x_aload0, k_0_6, x_call2_0, x_call2_1, x_call2_2, x_call2_3, x_call2_4, x_istore4i, x_istore4r, x_istore4u, x_iload4, u_158_40, x_iload3, k_61_0, x_l2i, x_goto, u_158_68, u_158_70, aa_53_0, aa_53_1, aa_53_2, aa_53_3, la_62, b_in, e1, Int.reduceNeg, ↓reduceIte, b01_0, ite_not, if_true, if_false, Int.reduceLT, Int.reduceEq]
      · simp (disch := omega) only [v_281_69, u_281_0, x_iload1, x_call1_0, x_call1_1, x_call1_2, x_call1_3, x_call1_4, e_k_s, e_k_i, List.nil_append, List.cons_append, x_ifCond_eq, x_ifCond_eqb, x_iload2, x_sipush, x_call3_0, x_call3_1, x_call3_2, x_call3_3, x_call3_4, x_ifCond_ne, x_ifCond_neb, x_jsr, u_281_16, x_ireturn, u_281_18, x_aload0, x_istore4i, x_istore4r, x_istore4u, x_iload4, x_goto, u_281_36, x_iload3, k_69_31, x_isub, k_69_32, x_imul, x_iadd, u_281_66, u_281_68, ia_85, ia_86, m_shi, m_in, e2, Int.reduceNeg, ↓reduceIte, b01_0, ite_not, if_true, if_false, Int.reduceLT, Int.reduceEq]
    · rw [if_neg q1] at e1 e2
      by_cases q2 : I 61 1 = b
      · rw [if_pos q2] at e1 e2
        have e3 := s_has61 (X := X) (d := d + 28) (I := I) (J := J) h2 hc
        by_cases q3 : 0 ≤ c ∧ c < I 61 2
        · rw [if_pos q3] at e3
          have e4 : J 62 c = I 86 (40 * 2 + c) := (h5 c q3.1 (by omega)).1
          refine ⟨I 86 (40 * 2 + c), I, J, I, J, ?_, ?_, h⟩
          · simp (disch := omega) only [v_158_0, u_158_0, x_iload1, x_sipush, x_call3_0, x_call3_1, x_call3_2, x_call3_3, x_call3_4, e_k_s, e_k_i, List.nil_append, List.cons_append, x_ifCond_ne, x_ifCond_neb, x_iload2, x_ifCond_eq, x_ifCond_eqb, x_jsr, u_158_18, x_ireturn, u_158_20, x_aload0, k_0_6, x_call2_0, x_call2_1, x_call2_2, x_call2_3, x_call2_4, x_istore4i, x_istore4r, x_istore4u, x_iload4, u_158_40, x_iload3, k_61_0, x_l2i, x_goto, u_158_68, u_158_70, aa_53_0, aa_53_1, aa_53_2, aa_53_3, la_62, b_in, e1, e3, l2i_i, e4, ↓reduceIte, b01_0, ite_not, if_true, if_false, Int.reduceLT, Int.reduceEq]
          · simp (disch := omega) only [v_281_69, u_281_0, x_iload1, x_call1_0, x_call1_1, x_call1_2, x_call1_3, x_call1_4, e_k_s, e_k_i, List.nil_append, List.cons_append, x_ifCond_eq, x_ifCond_eqb, x_iload2, x_sipush, x_call3_0, x_call3_1, x_call3_2, x_call3_3, x_call3_4, x_ifCond_ne, x_ifCond_neb, x_jsr, u_281_16, x_ireturn, u_281_18, x_aload0, x_istore4i, x_istore4r, x_istore4u, x_iload4, x_goto, u_281_36, x_iload3, k_69_31, x_isub, k_69_32, x_imul, x_iadd, u_281_66, u_281_68, ia_85, ia_86, m_shi, m_in, e2, h4, ↓reduceIte, b01_0, ite_not, if_true, if_false, Int.reduceLT, Int.reduceEq]
        · rw [if_neg q3] at e3
          refine ⟨-12, I, J, I, J, ?_, ?_, h⟩
          · simp (disch := omega) only [v_158_0, u_158_0, x_iload1, x_sipush, x_call3_0, x_call3_1, x_call3_2, x_call3_3, x_call3_4, e_k_s, e_k_i, List.nil_append, List.cons_append, x_ifCond_ne, x_ifCond_neb, x_iload2, x_ifCond_eq, x_ifCond_eqb, x_jsr, u_158_18, x_ireturn, u_158_20, x_aload0, k_0_6, x_call2_0, x_call2_1, x_call2_2, x_call2_3, x_call2_4, x_istore4i, x_istore4r, x_istore4u, x_iload4, u_158_40, x_iload3, k_61_0, x_l2i, x_goto, u_158_68, u_158_70, aa_53_0, aa_53_1, aa_53_2, aa_53_3, la_62, b_in, e1, e3, ↓reduceIte, b01_0, ite_not, if_true, if_false, Int.reduceLT, Int.reduceEq]
          · simp (disch := omega) only [v_281_69, u_281_0, x_iload1, x_call1_0, x_call1_1, x_call1_2, x_call1_3, x_call1_4, e_k_s, e_k_i, List.nil_append, List.cons_append, x_ifCond_eq, x_ifCond_eqb, x_iload2, x_sipush, x_call3_0, x_call3_1, x_call3_2, x_call3_3, x_call3_4, x_ifCond_ne, x_ifCond_neb, x_jsr, u_281_16, x_ireturn, u_281_18, x_aload0, x_istore4i, x_istore4r, x_istore4u, x_iload4, x_goto, u_281_36, x_iload3, k_69_31, x_isub, k_69_32, x_imul, x_iadd, u_281_66, u_281_68, ia_85, ia_86, m_shi, m_in, m_nin, e2, h4, ↓reduceIte, b01_0, ite_not, if_true, if_false, Int.reduceLT, Int.reduceEq]
      · rw [if_neg q2] at e1 e2
        refine ⟨-13, I, J, I, J, ?_, ?_, h⟩
        · simp (disch := omega) only [v_158_0, u_158_0, x_iload1, x_sipush, x_call3_0, x_call3_1, x_call3_2, x_call3_3, x_call3_4, e_k_s, e_k_i, List.nil_append, List.cons_append, x_ifCond_ne, x_ifCond_neb, x_iload2, x_ifCond_eq, x_ifCond_eqb, x_jsr, u_158_18, x_ireturn, u_158_20, x_aload0, k_0_6, x_call2_0, x_call2_1, x_call2_2, x_call2_3, x_call2_4, x_istore4i, x_istore4r, x_istore4u, x_iload4, u_158_40, x_iload3, k_61_0, x_l2i, x_goto, u_158_68, u_158_70, aa_53_0, aa_53_1, aa_53_2, aa_53_3, la_62, b_in, e1, Int.reduceNeg, ↓reduceIte, b01_0, ite_not, if_true, if_false, Int.reduceLT, Int.reduceEq]
        · simp (disch := omega) only [v_281_69, u_281_0, x_iload1, x_call1_0, x_call1_1, x_call1_2, x_call1_3, x_call1_4, e_k_s, e_k_i, List.nil_append, List.cons_append, x_ifCond_eq, x_ifCond_eqb, x_iload2, x_sipush, x_call3_0, x_call3_1, x_call3_2, x_call3_3, x_call3_4, x_ifCond_ne, x_ifCond_neb, x_jsr, u_281_16, x_ireturn, u_281_18, x_aload0, x_istore4i, x_istore4r, x_istore4u, x_iload4, x_goto, u_281_36, x_iload3, k_69_31, x_isub, k_69_32, x_imul, x_iadd, u_281_66, u_281_68, ia_85, ia_86, m_shi, m_in, e2, Int.reduceNeg, ↓reduceIte, b01_0, ite_not, if_true, if_false, Int.reduceLT, Int.reduceEq]
  · refine ⟨-1, I, J, I, J, ?_, ?_, h⟩
    · simp (disch := omega) only [v_158_0, u_158_0, x_iload1, x_sipush, x_call3_0, x_call3_1, x_call3_2, x_call3_3, x_call3_4, e_k_s, e_k_i, List.nil_append, List.cons_append, x_ifCond_ne, x_ifCond_neb, x_iload2, x_ifCond_eq, x_ifCond_eqb, x_jsr, u_158_18, x_ireturn, u_158_20, x_aload0, k_0_6, x_call2_0, x_call2_1, x_call2_2, x_call2_3, x_call2_4, x_istore4i, x_istore4r, x_istore4u, x_iload4, u_158_40, x_iload3, x_l2i, x_goto, u_158_68, u_158_70, aa_53_0, aa_53_1, aa_53_2, aa_53_3, b_in, b_nin, ↓reduceIte, b01_0, ite_not, if_true, if_false, Int.reduceLT, Int.reduceEq]
    · simp (disch := omega) only [v_281_69, u_281_0, x_iload1, x_call1_0, x_call1_1, x_call1_2, x_call1_3, x_call1_4, e_k_s, e_k_i, List.nil_append, List.cons_append, x_ifCond_eq, x_ifCond_eqb, x_iload2, x_sipush, x_call3_0, x_call3_1, x_call3_2, x_call3_3, x_call3_4, x_ifCond_ne, x_ifCond_neb, x_jsr, u_281_16, x_ireturn, u_281_18, x_aload0, x_istore4i, x_istore4r, x_istore4u, x_iload4, x_goto, u_281_36, x_iload3, k_69_31, x_isub, k_69_32, x_imul, x_iadd, u_281_66, u_281_68, ia_85, ia_86, m_nin, m_shi, ↓reduceIte, b01_0, ite_not, if_true, if_false, Int.reduceLT, Int.reduceEq]
theorem q_sheet3 (h : Rel I J) {b c : Int} (hb : rg b) (hc : rg c) : pr X d I J 156 277 [.int (iI 3), .int (iI b), .int (iI c)] := by
  have hS := h.2.2.2.2.1
  by_cases q1 : -1 ≤ b ∧ b ≤ 4
  · by_cases q2 : b = -1
    · subst q2
      have e1 := s_rel63 (X := X) (d := d + 28) (I := I) (J := J) (k := -1) (v := 0)
      have e2 := m_clr (X := X) (d := d + 28) (I := up (up (up (up I 63 1 (-1)) 63 2 0) 84 3 (-1)) 85 3 0) (J := zrr J 64 0 40) (q := 3) (by decide) (v2 := iI (-1)) (v3 := iI c) 40 0 (by decide) (by decide)
      rw [zrr_0] at e2
      refine ⟨1, up (up I 63 1 (-1)) 63 2 0, zrr J 64 0 40, zrr (up (up (up (up I 63 1 (-1)) 63 2 0) 84 3 (-1)) 85 3 0) 86 (40 * 3) 40, zrr J 64 0 40, ?_, ?_, Rel_sheet h (kp_new (a := 3) (by decide) rfl) (SH_new hS (a := 3) (by decide) rfl rfl (by decide) (by decide))⟩
      · simp (disch := omega) only [v_156_0, u_156_0, x_iload1, x_sipush, x_call3_0, x_call3_1, x_call3_2, x_call3_3, x_call3_4, e_k_s, e_k_i, List.nil_append, List.cons_append, x_ifCond_ne, x_ifCond_neb, x_iload2, x_ifCond_eq, x_ifCond_eqb, x_jsr, u_156_18, x_ireturn, u_156_20, x_if_icmp_eq, x_iload3, x_if_icmp_le, u_156_33, x_ifCond_ge, u_156_45, x_aload0, k_0_6, x_if_icmp_ne, x_goto, u_156_61, u_156_62, aa_53_0, aa_53_1, aa_53_2, aa_53_3, b_in, e1, Int.reduceNeg, ↓reduceIte, b01_0, ite_not, if_true, if_false, Int.reduceLT, Int.reduceEq]
      · simp (disch := omega) only [v_277_69, u_277_0, x_iload1, x_call1_0, x_call1_1, x_call1_2, x_call1_3, x_call1_4, e_k_s, e_k_i, List.nil_append, List.cons_append, x_ifCond_eq, x_ifCond_eqb, x_iload2, x_sipush, x_call3_0, x_call3_1, x_call3_2, x_call3_3, x_call3_4, x_ifCond_lt, x_iload3, x_if_icmp_le, x_jsr, u_277_26, x_ireturn, u_277_28, x_ifCond_ge, u_277_39, x_aload0, k_69_30, k_69_31, x_goto, u_277_59, u_277_60, x_istore4i, x_istore4r, x_istore4u, x_iload4, x_if_icmp_ge, k_69_32, x_imul, x_iadd, x_iinc4i, x_iinc4r, x_iinc4u, u_277_90, is_84, is_85, is_86, m_in, m_shi, e2, Int.reduceNeg, ↓reduceIte, b01_0, ite_not, if_true, if_false, Int.reduceLT, Int.reduceEq]
    · by_cases q3 : 40 < c
      · refine ⟨-1, I, J, I, J, ?_, ?_, h⟩
        · simp (disch := omega) only [v_156_0, u_156_0, x_iload1, x_sipush, x_call3_0, x_call3_1, x_call3_2, x_call3_3, x_call3_4, e_k_s, e_k_i, List.nil_append, List.cons_append, x_ifCond_ne, x_ifCond_neb, x_iload2, x_ifCond_eq, x_ifCond_eqb, x_jsr, u_156_18, x_ireturn, u_156_20, x_if_icmp_eq, x_iload3, x_if_icmp_le, u_156_33, x_ifCond_ge, u_156_45, x_aload0, k_0_6, x_if_icmp_ne, x_goto, u_156_61, u_156_62, aa_53_0, aa_53_1, aa_53_2, aa_53_3, b_in, ↓reduceIte, b01_0, ite_not, if_true, if_false, Int.reduceLT, Int.reduceEq]
          (repeat' split) <;> first | rfl | (exfalso; omega)
        · simp (disch := omega) only [v_277_69, u_277_0, x_iload1, x_call1_0, x_call1_1, x_call1_2, x_call1_3, x_call1_4, e_k_s, e_k_i, List.nil_append, List.cons_append, x_ifCond_eq, x_ifCond_eqb, x_iload2, x_sipush, x_call3_0, x_call3_1, x_call3_2, x_call3_3, x_call3_4, x_ifCond_lt, x_iload3, x_if_icmp_le, x_jsr, u_277_26, x_ireturn, u_277_28, x_ifCond_ge, u_277_39, x_aload0, k_69_30, k_69_31, x_goto, u_277_59, u_277_60, x_istore4i, x_istore4r, x_istore4u, x_iload4, x_if_icmp_ge, k_69_32, x_imul, x_iadd, x_iinc4i, x_iinc4r, x_iinc4u, u_277_90, is_84, is_85, is_86, m_in, m_shi, ↓reduceIte, b01_0, ite_not, if_true, if_false, Int.reduceLT, Int.reduceEq]
          (repeat' split) <;> first | rfl | (exfalso; omega)
      · by_cases q4 : c < 0
        · refine ⟨-14, I, J, I, J, ?_, ?_, h⟩
          · simp (disch := omega) only [v_156_0, u_156_0, x_iload1, x_sipush, x_call3_0, x_call3_1, x_call3_2, x_call3_3, x_call3_4, e_k_s, e_k_i, List.nil_append, List.cons_append, x_ifCond_ne, x_ifCond_neb, x_iload2, x_ifCond_eq, x_ifCond_eqb, x_jsr, u_156_18, x_ireturn, u_156_20, x_if_icmp_eq, x_iload3, x_if_icmp_le, u_156_33, x_ifCond_ge, u_156_45, x_aload0, k_0_6, x_if_icmp_ne, x_goto, u_156_61, u_156_62, aa_53_0, aa_53_1, aa_53_2, aa_53_3, b_in, ↓reduceIte, b01_0, ite_not, if_true, if_false, Int.reduceLT, Int.reduceEq]
            (repeat' split) <;> first | rfl | (exfalso; omega)
          · simp (disch := omega) only [v_277_69, u_277_0, x_iload1, x_call1_0, x_call1_1, x_call1_2, x_call1_3, x_call1_4, e_k_s, e_k_i, List.nil_append, List.cons_append, x_ifCond_eq, x_ifCond_eqb, x_iload2, x_sipush, x_call3_0, x_call3_1, x_call3_2, x_call3_3, x_call3_4, x_ifCond_lt, x_iload3, x_if_icmp_le, x_jsr, u_277_26, x_ireturn, u_277_28, x_ifCond_ge, u_277_39, x_aload0, k_69_30, k_69_31, x_goto, u_277_59, u_277_60, x_istore4i, x_istore4r, x_istore4u, x_iload4, x_if_icmp_ge, k_69_32, x_imul, x_iadd, x_iinc4i, x_iinc4r, x_iinc4u, u_277_90, is_84, is_85, is_86, m_in, m_shi, ↓reduceIte, b01_0, ite_not, if_true, if_false, Int.reduceLT, Int.reduceEq]
            (repeat' split) <;> first | rfl | (exfalso; omega)
        · have e1 := s_rel63 (X := X) (d := d + 28) (I := I) (J := J) (k := b) (v := c)
          have e2 := m_clr (X := X) (d := d + 28) (I := up (up (up (up I 63 1 b) 63 2 c) 84 3 b) 85 3 c) (J := zrr J 64 0 40) (q := 3) (by decide) (v2 := iI b) (v3 := iI c) 40 0 (by decide) (by decide)
          rw [zrr_0] at e2
          refine ⟨1, up (up I 63 1 b) 63 2 c, zrr J 64 0 40, zrr (up (up (up (up I 63 1 b) 63 2 c) 84 3 b) 85 3 c) 86 (40 * 3) 40, zrr J 64 0 40, ?_, ?_, Rel_sheet h (kp_new (a := 3) (by decide) rfl) (SH_new hS (a := 3) (by decide) rfl rfl (by omega) (by omega))⟩
          · simp (disch := omega) only [v_156_0, u_156_0, x_iload1, x_sipush, x_call3_0, x_call3_1, x_call3_2, x_call3_3, x_call3_4, e_k_s, e_k_i, List.nil_append, List.cons_append, x_ifCond_ne, x_ifCond_neb, x_iload2, x_ifCond_eq, x_ifCond_eqb, x_jsr, u_156_18, x_ireturn, u_156_20, x_if_icmp_eq, x_iload3, x_if_icmp_le, u_156_33, x_ifCond_ge, u_156_45, x_aload0, k_0_6, x_if_icmp_ne, x_goto, u_156_61, u_156_62, aa_53_0, aa_53_1, aa_53_2, aa_53_3, b_in, e1, ↓reduceIte, b01_0, ite_not, if_true, if_false, Int.reduceLT, Int.reduceEq]
            (repeat' split) <;> first | rfl | (exfalso; omega)
          · simp (disch := omega) only [v_277_69, u_277_0, x_iload1, x_call1_0, x_call1_1, x_call1_2, x_call1_3, x_call1_4, e_k_s, e_k_i, List.nil_append, List.cons_append, x_ifCond_eq, x_ifCond_eqb, x_iload2, x_sipush, x_call3_0, x_call3_1, x_call3_2, x_call3_3, x_call3_4, x_ifCond_lt, x_iload3, x_if_icmp_le, x_jsr, u_277_26, x_ireturn, u_277_28, x_ifCond_ge, u_277_39, x_aload0, k_69_30, k_69_31, x_goto, u_277_59, u_277_60, x_istore4i, x_istore4r, x_istore4u, x_iload4, x_if_icmp_ge, k_69_32, x_imul, x_iadd, x_iinc4i, x_iinc4r, x_iinc4u, u_277_90, is_84, is_85, is_86, m_in, m_shi, e2, ↓reduceIte, b01_0, ite_not, if_true, if_false, Int.reduceLT, Int.reduceEq]
            (repeat' split) <;> first | rfl | (exfalso; omega)
  · refine ⟨-1, I, J, I, J, ?_, ?_, h⟩
    · simp (disch := omega) only [v_156_0, u_156_0, x_iload1, x_sipush, x_call3_0, x_call3_1, x_call3_2, x_call3_3, x_call3_4, e_k_s, e_k_i, List.nil_append, List.cons_append, x_ifCond_ne, x_ifCond_neb, x_iload2, x_ifCond_eq, x_ifCond_eqb, x_jsr, u_156_18, x_ireturn, u_156_20, x_if_icmp_eq, x_iload3, x_if_icmp_le, u_156_33, x_ifCond_ge, u_156_45, x_aload0, k_0_6, x_if_icmp_ne, x_goto, u_156_61, u_156_62, aa_53_0, aa_53_1, aa_53_2, aa_53_3, b_in, b_nin, ↓reduceIte, b01_0, ite_not, if_true, if_false, Int.reduceLT, Int.reduceEq]
    · simp (disch := omega) only [v_277_69, u_277_0, x_iload1, x_call1_0, x_call1_1, x_call1_2, x_call1_3, x_call1_4, e_k_s, e_k_i, List.nil_append, List.cons_append, x_ifCond_eq, x_ifCond_eqb, x_iload2, x_sipush, x_call3_0, x_call3_1, x_call3_2, x_call3_3, x_call3_4, x_ifCond_lt, x_iload3, x_if_icmp_le, x_jsr, u_277_26, x_ireturn, u_277_28, x_ifCond_ge, u_277_39, x_aload0, k_69_30, k_69_31, x_goto, u_277_59, u_277_60, x_istore4i, x_istore4r, x_istore4u, x_iload4, x_if_icmp_ge, k_69_32, x_imul, x_iadd, x_iinc4i, x_iinc4r, x_iinc4u, u_277_90, is_84, is_85, is_86, m_nin, m_shi, ↓reduceIte, b01_0, ite_not, if_true, if_false, Int.reduceLT, Int.reduceEq]
theorem q_write3 (h : Rel I J) {b c : Int} (hb : rg b) (hc : rg c) : pr X d I J 157 279 [.int (iI 3), .int (iI b), .int (iI c)] := by
  have hS := h.2.2.2.2.1
  obtain ⟨h1, h2, h3, h4, -⟩ := hS 3 (by decide)
  have h1 : -1 ≤ I 63 1 ∧ I 63 1 ≤ 4 := h1
  have h2 : 0 ≤ I 63 2 ∧ I 63 2 ≤ 40 := h2
  have h3 : I 84 3 = I 63 1 := h3
  have h4 : I 85 3 = I 63 2 := h4
  by_cases q1 : I 63 1 = -1
  · refine ⟨-11, I, J, I, J, ?_, ?_, h⟩
    · simp (disch := omega) only [v_157_0, u_157_0, x_iload1, x_sipush, x_call3_0, x_call3_1, x_call3_2, x_call3_3, x_call3_4, e_k_s, e_k_i, List.nil_append, List.cons_append, x_ifCond_eq, x_ifCond_eqb, x_ireturn, u_157_11, x_aload0, k_0_6, f_63_1, x_if_icmp_ne, u_157_27, x_iload2, x_call2_0, x_call2_1, x_call2_2, x_call2_3, x_call2_4, x_ifCond_ne, x_ifCond_neb, u_157_43, x_iload3, aa_53_0, aa_53_1, aa_53_2, aa_53_3, b_in, q1, ↓reduceIte, b01_0, ite_not, if_true, if_false, Int.reduceLT, Int.reduceEq]
    · simp (disch := omega) only [v_279_69, u_279_0, x_iload1, x_call1_0, x_call1_1, x_call1_2, x_call1_3, x_call1_4, e_k_s, e_k_i, List.nil_append, List.cons_append, x_ifCond_ne, x_ifCond_neb, x_sipush, x_ireturn, u_279_9, x_aload0, k_69_30, x_ifCond_ge, u_279_21, x_iload2, k_69_31, x_isub, x_call3_0, x_call3_1, x_call3_2, x_call3_3, x_call3_4, u_279_40, k_69_32, x_imul, x_iadd, x_iload3, x_call2_0, x_call2_1, x_call2_2, x_call2_3, x_call2_4, ia_84, is_84, ia_85, is_85, ia_86, is_86, m_shi, h3, q1, ↓reduceIte, b01_0, ite_not, if_true, if_false, Int.reduceLT, Int.reduceEq]
  · have e1 := s_has63 (X := X) (d := d + 28) (I := I) (J := J) h2 hb
    by_cases q2 : 0 ≤ b ∧ b < I 63 2
    · rw [if_pos q2] at e1
      have e2 := s_wr63 (X := X) (d := d + 27) (I := I) (J := J) (v := c) rfl ⟨by omega, h1.2⟩ h2 q2 hc
      have e3 := fun (M N : Nat → Int → Int) => m_cst (X := X) (d := d + 28) (I := M) (J := N) (k := I 63 1) ⟨by omega, h1.2⟩ hc
      refine ⟨1, I, up J 64 b (cstq (I 63 1) c), up I 86 (40 * 3 + b) (cstq (I 63 1) c), up J 64 b (cstq (I 63 1) c), ?_, ?_, Rel_sheet h kp_put (SH_put hS (a := 3) (by decide) rfl rfl ⟨q2.1, by omega⟩ (cst_rg hc))⟩
      · simp (disch := omega) only [v_157_0, u_157_0, x_iload1, x_sipush, x_call3_0, x_call3_1, x_call3_2, x_call3_3, x_call3_4, e_k_s, e_k_i, List.nil_append, List.cons_append, x_ifCond_eq, x_ifCond_eqb, x_ireturn, u_157_11, x_aload0, k_0_6, f_63_1, x_if_icmp_ne, u_157_27, x_iload2, x_call2_0, x_call2_1, x_call2_2, x_call2_3, x_call2_4, x_ifCond_ne, x_ifCond_neb, u_157_43, x_iload3, aa_53_0, aa_53_1, aa_53_2, aa_53_3, b_in, e1, e2, ↓reduceIte, b01_0, ite_not, if_true, if_false, Int.reduceLT, Int.reduceEq]
        (repeat' split) <;> first | rfl | (exfalso; omega)
      · simp (disch := omega) only [v_279_69, u_279_0, x_iload1, x_call1_0, x_call1_1, x_call1_2, x_call1_3, x_call1_4, e_k_s, e_k_i, List.nil_append, List.cons_append, x_ifCond_ne, x_ifCond_neb, x_sipush, x_ireturn, u_279_9, x_aload0, k_69_30, x_ifCond_ge, u_279_21, x_iload2, k_69_31, x_isub, x_call3_0, x_call3_1, x_call3_2, x_call3_3, x_call3_4, u_279_40, k_69_32, x_imul, x_iadd, x_iload3, x_call2_0, x_call2_1, x_call2_2, x_call2_3, x_call2_4, ia_84, is_84, ia_85, is_85, ia_86, is_86, m_shi, m_in, h3, h4, e3, ↓reduceIte, b01_0, ite_not, if_true, if_false, Int.reduceLT, Int.reduceEq]
        (repeat' split) <;> first | rfl | (exfalso; omega)
    · rw [if_neg q2] at e1
      refine ⟨-12, I, J, I, J, ?_, ?_, h⟩
      · simp (disch := omega) only [v_157_0, u_157_0, x_iload1, x_sipush, x_call3_0, x_call3_1, x_call3_2, x_call3_3, x_call3_4, e_k_s, e_k_i, List.nil_append, List.cons_append, x_ifCond_eq, x_ifCond_eqb, x_ireturn, u_157_11, x_aload0, k_0_6, f_63_1, x_if_icmp_ne, u_157_27, x_iload2, x_call2_0, x_call2_1, x_call2_2, x_call2_3, x_call2_4, x_ifCond_ne, x_ifCond_neb, u_157_43, x_iload3, aa_53_0, aa_53_1, aa_53_2, aa_53_3, b_in, e1, ↓reduceIte, b01_0, ite_not, if_true, if_false, Int.reduceLT, Int.reduceEq]
        (repeat' split) <;> first | rfl | (exfalso; omega)
      · simp (disch := omega) only [v_279_69, u_279_0, x_iload1, x_call1_0, x_call1_1, x_call1_2, x_call1_3, x_call1_4, e_k_s, e_k_i, List.nil_append, List.cons_append, x_ifCond_ne, x_ifCond_neb, x_sipush, x_ireturn, u_279_9, x_aload0, k_69_30, x_ifCond_ge, u_279_21, x_iload2, k_69_31, x_isub, x_call3_0, x_call3_1, x_call3_2, x_call3_3, x_call3_4, u_279_40, k_69_32, x_imul, x_iadd, x_iload3, x_call2_0, x_call2_1, x_call2_2, x_call2_3, x_call2_4, ia_84, is_84, ia_85, is_85, ia_86, is_86, m_shi, m_nin, h3, h4, ↓reduceIte, b01_0, ite_not, if_true, if_false, Int.reduceLT, Int.reduceEq]
        (repeat' split) <;> first | rfl | (exfalso; omega)
theorem q_item3 (h : Rel I J) {b c : Int} (hb : rg b) (hc : rg c) : pr X d I J 158 281 [.int (iI 3), .int (iI b), .int (iI c)] := by
  have hS := h.2.2.2.2.1
  obtain ⟨h1, h2, h3, h4, h5⟩ := hS 3 (by decide)
  have h1 : -1 ≤ I 63 1 ∧ I 63 1 ≤ 4 := h1
  have h2 : 0 ≤ I 63 2 ∧ I 63 2 ≤ 40 := h2
  have h3 : I 84 3 = I 63 1 := h3
  have h4 : I 85 3 = I 63 2 := h4
  by_cases q0 : 0 ≤ b ∧ b ≤ 4
  · have e1 := s_okd63 (X := X) (d := d + 28) (I := I) (J := J) ⟨by omega, by omega⟩ hb
    have e2 := m_okd (X := X) (d := d + 28) (I := I) (J := J) (q := 3) (by decide) (by rw [h3]; exact h1) hb
    rw [h3] at e2
    by_cases q1 : I 63 1 = -1
    · rw [if_pos q1] at e1 e2
      refine ⟨-11, I, J, I, J, ?_, ?_, h⟩
      · simp (disch := omega) only [v_158_0, u_158_0, x_iload1, x_sipush, x_call3_0, x_call3_1, x_call3_2, x_call3_3, x_call3_4, e_k_s, e_k_i, List.nil_append, List.cons_append, x_ifCond_ne, x_ifCond_neb, x_iload2, x_ifCond_eq, x_ifCond_eqb, x_jsr, u_158_18, x_ireturn, u_158_20, x_aload0, k_0_6, x_call2_0, x_call2_1, x_call2_2, x_call2_3, x_call2_4, x_istore4i, x_istore4r, x_istore4u, x_iload4, u_158_40, x_iload3, k_63_0, x_l2i, x_goto, u_158_68, u_158_70, aa_53_0, aa_53_1, aa_53_2, aa_53_3, la_64, b_in, e1, Int.reduceNeg, ↓reduceIte, b01_0, ite_not, if_true, if_false, Int.reduceLT, Int.reduceEq]
      · simp (disch := omega) only [v_281_69, u_281_0, x_iload1, x_call1_0, x_call1_1, x_call1_2, x_call1_3, x_call1_4, e_k_s, e_k_i, List.nil_append, List.cons_append, x_ifCond_eq, x_ifCond_eqb, x_iload2, x_sipush, x_call3_0, x_call3_1, x_call3_2, x_call3_3, x_call3_4, x_ifCond_ne, x_ifCond_neb, x_jsr, u_281_16, x_ireturn, u_281_18, x_aload0, x_istore4i, x_istore4r, x_istore4u, x_iload4, x_goto, u_281_36, x_iload3, k_69_31, x_isub, k_69_32, x_imul, x_iadd, u_281_66, u_281_68, ia_85, ia_86, m_shi, m_in, e2, Int.reduceNeg, ↓reduceIte, b01_0, ite_not, if_true, if_false, Int.reduceLT, Int.reduceEq]
    · rw [if_neg q1] at e1 e2
      by_cases q2 : I 63 1 = b
      · rw [if_pos q2] at e1 e2
        have e3 := s_has63 (X := X) (d := d + 28) (I := I) (J := J) h2 hc
        by_cases q3 : 0 ≤ c ∧ c < I 63 2
        · rw [if_pos q3] at e3
          have e4 : J 64 c = I 86 (40 * 3 + c) := (h5 c q3.1 (by omega)).1
          refine ⟨I 86 (40 * 3 + c), I, J, I, J, ?_, ?_, h⟩
          · simp (disch := omega) only [v_158_0, u_158_0, x_iload1, x_sipush, x_call3_0, x_call3_1, x_call3_2, x_call3_3, x_call3_4, e_k_s, e_k_i, List.nil_append, List.cons_append, x_ifCond_ne, x_ifCond_neb, x_iload2, x_ifCond_eq, x_ifCond_eqb, x_jsr, u_158_18, x_ireturn, u_158_20, x_aload0, k_0_6, x_call2_0, x_call2_1, x_call2_2, x_call2_3, x_call2_4, x_istore4i, x_istore4r, x_istore4u, x_iload4, u_158_40, x_iload3, k_63_0, x_l2i, x_goto, u_158_68, u_158_70, aa_53_0, aa_53_1, aa_53_2, aa_53_3, la_64, b_in, e1, e3, l2i_i, e4, ↓reduceIte, b01_0, ite_not, if_true, if_false, Int.reduceLT, Int.reduceEq]
          · simp (disch := omega) only [v_281_69, u_281_0, x_iload1, x_call1_0, x_call1_1, x_call1_2, x_call1_3, x_call1_4, e_k_s, e_k_i, List.nil_append, List.cons_append, x_ifCond_eq, x_ifCond_eqb, x_iload2, x_sipush, x_call3_0, x_call3_1, x_call3_2, x_call3_3, x_call3_4, x_ifCond_ne, x_ifCond_neb, x_jsr, u_281_16, x_ireturn, u_281_18, x_aload0, x_istore4i, x_istore4r, x_istore4u, x_iload4, x_goto, u_281_36, x_iload3, k_69_31, x_isub, k_69_32, x_imul, x_iadd, u_281_66, u_281_68, ia_85, ia_86, m_shi, m_in, e2, h4, ↓reduceIte, b01_0, ite_not, if_true, if_false, Int.reduceLT, Int.reduceEq]
        · rw [if_neg q3] at e3
          refine ⟨-12, I, J, I, J, ?_, ?_, h⟩
          · simp (disch := omega) only [v_158_0, u_158_0, x_iload1, x_sipush, x_call3_0, x_call3_1, x_call3_2, x_call3_3, x_call3_4, e_k_s, e_k_i, List.nil_append, List.cons_append, x_ifCond_ne, x_ifCond_neb, x_iload2, x_ifCond_eq, x_ifCond_eqb, x_jsr, u_158_18, x_ireturn, u_158_20, x_aload0, k_0_6, x_call2_0, x_call2_1, x_call2_2, x_call2_3, x_call2_4, x_istore4i, x_istore4r, x_istore4u, x_iload4, u_158_40, x_iload3, k_63_0, x_l2i, x_goto, u_158_68, u_158_70, aa_53_0, aa_53_1, aa_53_2, aa_53_3, la_64, b_in, e1, e3, ↓reduceIte, b01_0, ite_not, if_true, if_false, Int.reduceLT, Int.reduceEq]
          · simp (disch := omega) only [v_281_69, u_281_0, x_iload1, x_call1_0, x_call1_1, x_call1_2, x_call1_3, x_call1_4, e_k_s, e_k_i, List.nil_append, List.cons_append, x_ifCond_eq, x_ifCond_eqb, x_iload2, x_sipush, x_call3_0, x_call3_1, x_call3_2, x_call3_3, x_call3_4, x_ifCond_ne, x_ifCond_neb, x_jsr, u_281_16, x_ireturn, u_281_18, x_aload0, x_istore4i, x_istore4r, x_istore4u, x_iload4, x_goto, u_281_36, x_iload3, k_69_31, x_isub, k_69_32, x_imul, x_iadd, u_281_66, u_281_68, ia_85, ia_86, m_shi, m_in, m_nin, e2, h4, ↓reduceIte, b01_0, ite_not, if_true, if_false, Int.reduceLT, Int.reduceEq]
      · rw [if_neg q2] at e1 e2
        refine ⟨-13, I, J, I, J, ?_, ?_, h⟩
        · simp (disch := omega) only [v_158_0, u_158_0, x_iload1, x_sipush, x_call3_0, x_call3_1, x_call3_2, x_call3_3, x_call3_4, e_k_s, e_k_i, List.nil_append, List.cons_append, x_ifCond_ne, x_ifCond_neb, x_iload2, x_ifCond_eq, x_ifCond_eqb, x_jsr, u_158_18, x_ireturn, u_158_20, x_aload0, k_0_6, x_call2_0, x_call2_1, x_call2_2, x_call2_3, x_call2_4, x_istore4i, x_istore4r, x_istore4u, x_iload4, u_158_40, x_iload3, k_63_0, x_l2i, x_goto, u_158_68, u_158_70, aa_53_0, aa_53_1, aa_53_2, aa_53_3, la_64, b_in, e1, Int.reduceNeg, ↓reduceIte, b01_0, ite_not, if_true, if_false, Int.reduceLT, Int.reduceEq]
        · simp (disch := omega) only [v_281_69, u_281_0, x_iload1, x_call1_0, x_call1_1, x_call1_2, x_call1_3, x_call1_4, e_k_s, e_k_i, List.nil_append, List.cons_append, x_ifCond_eq, x_ifCond_eqb, x_iload2, x_sipush, x_call3_0, x_call3_1, x_call3_2, x_call3_3, x_call3_4, x_ifCond_ne, x_ifCond_neb, x_jsr, u_281_16, x_ireturn, u_281_18, x_aload0, x_istore4i, x_istore4r, x_istore4u, x_iload4, x_goto, u_281_36, x_iload3, k_69_31, x_isub, k_69_32, x_imul, x_iadd, u_281_66, u_281_68, ia_85, ia_86, m_shi, m_in, e2, Int.reduceNeg, ↓reduceIte, b01_0, ite_not, if_true, if_false, Int.reduceLT, Int.reduceEq]
  · refine ⟨-1, I, J, I, J, ?_, ?_, h⟩
    · simp (disch := omega) only [v_158_0, u_158_0, x_iload1, x_sipush, x_call3_0, x_call3_1, x_call3_2, x_call3_3, x_call3_4, e_k_s, e_k_i, List.nil_append, List.cons_append, x_ifCond_ne, x_ifCond_neb, x_iload2, x_ifCond_eq, x_ifCond_eqb, x_jsr, u_158_18, x_ireturn, u_158_20, x_aload0, k_0_6, x_call2_0, x_call2_1, x_call2_2, x_call2_3, x_call2_4, x_istore4i, x_istore4r, x_istore4u, x_iload4, u_158_40, x_iload3, x_l2i, x_goto, u_158_68, u_158_70, aa_53_0, aa_53_1, aa_53_2, aa_53_3, b_in, b_nin, ↓reduceIte, b01_0, ite_not, if_true, if_false, Int.reduceLT, Int.reduceEq]
    · simp (disch := omega) only [v_281_69, u_281_0, x_iload1, x_call1_0, x_call1_1, x_call1_2, x_call1_3, x_call1_4, e_k_s, e_k_i, List.nil_append, List.cons_append, x_ifCond_eq, x_ifCond_eqb, x_iload2, x_sipush, x_call3_0, x_call3_1, x_call3_2, x_call3_3, x_call3_4, x_ifCond_ne, x_ifCond_neb, x_jsr, u_281_16, x_ireturn, u_281_18, x_aload0, x_istore4i, x_istore4r, x_istore4u, x_iload4, x_goto, u_281_36, x_iload3, k_69_31, x_isub, k_69_32, x_imul, x_iadd, u_281_66, u_281_68, ia_85, ia_86, m_nin, m_shi, ↓reduceIte, b01_0, ite_not, if_true, if_false, Int.reduceLT, Int.reduceEq]
theorem q_sheet (h : Rel I J) {a b c : Int} (ha : rg a) (hb : rg b) (hc : rg c) : pr X d I J 156 277 [.int (iI a), .int (iI b), .int (iI c)] := by
  by_cases q : 0 ≤ a ∧ a ≤ 3
  · rcases (by omega : a = 0 ∨ a = 1 ∨ a = 2 ∨ a = 3) with rfl | rfl | rfl | rfl
    · exact q_sheet0 h hb hc
    · exact q_sheet1 h hb hc
    · exact q_sheet2 h hb hc
    · exact q_sheet3 h hb hc
  · have e := m_shk (X := X) (d := d + 27) (I := I) (J := J) ha
    rw [if_neg q] at e
    refine ⟨-1, I, J, I, J, ?_, ?_, h⟩
    · simp (disch := omega) only [v_156_0, u_156_0, x_iload1, x_sipush, x_call3_0, x_call3_1, x_call3_2, x_call3_3, x_call3_4, e_k_s, e_k_i, List.nil_append, List.cons_append, x_ifCond_ne, x_ifCond_neb, x_iload2, x_ifCond_eq, x_ifCond_eqb, x_jsr, u_156_18, x_ireturn, u_156_20, x_if_icmp_eq, x_iload3, x_if_icmp_le, u_156_33, x_ifCond_ge, u_156_45, x_aload0, k_0_6, x_if_icmp_ne, x_goto, u_156_61, u_156_62, aa_53_0, aa_53_1, aa_53_2, aa_53_3, b_nin, ↓reduceIte, b01_0, ite_not, if_true, if_false, Int.reduceLT, Int.reduceEq]
    · simp (disch := omega) only [v_277_69, u_277_0, x_iload1, x_call1_0, x_call1_1, x_call1_2, x_call1_3, x_call1_4, e_k_s, e_k_i, List.nil_append, List.cons_append, x_ifCond_eq, x_ifCond_eqb, x_iload2, x_sipush, x_call3_0, x_call3_1, x_call3_2, x_call3_3, x_call3_4, x_ifCond_lt, x_iload3, x_if_icmp_le, x_jsr, u_277_26, x_ireturn, u_277_28, x_ifCond_ge, u_277_39, x_aload0, k_69_30, k_69_31, x_goto, u_277_59, u_277_60, x_istore4i, x_istore4r, x_istore4u, x_iload4, x_if_icmp_ge, k_69_32, x_imul, x_iadd, x_iinc4i, x_iinc4r, x_iinc4u, u_277_90, is_84, is_85, is_86, e, ↓reduceIte, b01_0, ite_not, if_true, if_false, Int.reduceLT, Int.reduceEq]
theorem q_write (h : Rel I J) {a b c : Int} (ha : rg a) (hb : rg b) (hc : rg c) : pr X d I J 157 279 [.int (iI a), .int (iI b), .int (iI c)] := by
  by_cases q : 0 ≤ a ∧ a ≤ 3
  · rcases (by omega : a = 0 ∨ a = 1 ∨ a = 2 ∨ a = 3) with rfl | rfl | rfl | rfl
    · exact q_write0 h hb hc
    · exact q_write1 h hb hc
    · exact q_write2 h hb hc
    · exact q_write3 h hb hc
  · have e := m_shk (X := X) (d := d + 27) (I := I) (J := J) ha
    rw [if_neg q] at e
    refine ⟨-1, I, J, I, J, ?_, ?_, h⟩
    · simp (disch := omega) only [v_157_0, u_157_0, x_iload1, x_sipush, x_call3_0, x_call3_1, x_call3_2, x_call3_3, x_call3_4, e_k_s, e_k_i, List.nil_append, List.cons_append, x_ifCond_eq, x_ifCond_eqb, x_ireturn, u_157_11, x_aload0, k_0_6, x_if_icmp_ne, u_157_27, x_iload2, x_call2_0, x_call2_1, x_call2_2, x_call2_3, x_call2_4, x_ifCond_ne, x_ifCond_neb, u_157_43, x_iload3, aa_53_0, aa_53_1, aa_53_2, aa_53_3, b_nin, ↓reduceIte, b01_0, ite_not, if_true, if_false, Int.reduceLT, Int.reduceEq]
    · simp (disch := omega) only [v_279_69, u_279_0, x_iload1, x_call1_0, x_call1_1, x_call1_2, x_call1_3, x_call1_4, e_k_s, e_k_i, List.nil_append, List.cons_append, x_ifCond_ne, x_ifCond_neb, x_sipush, x_ireturn, u_279_9, x_aload0, k_69_30, x_ifCond_ge, u_279_21, x_iload2, k_69_31, x_isub, x_call3_0, x_call3_1, x_call3_2, x_call3_3, x_call3_4, u_279_40, k_69_32, x_imul, x_iadd, x_iload3, x_call2_0, x_call2_1, x_call2_2, x_call2_3, x_call2_4, ia_84, is_84, ia_85, is_85, ia_86, is_86, e, ↓reduceIte, b01_0, ite_not, if_true, if_false, Int.reduceLT, Int.reduceEq]
theorem q_item (h : Rel I J) {a b c : Int} (ha : rg a) (hb : rg b) (hc : rg c) : pr X d I J 158 281 [.int (iI a), .int (iI b), .int (iI c)] := by
  by_cases q : 0 ≤ a ∧ a ≤ 3
  · rcases (by omega : a = 0 ∨ a = 1 ∨ a = 2 ∨ a = 3) with rfl | rfl | rfl | rfl
    · exact q_item0 h hb hc
    · exact q_item1 h hb hc
    · exact q_item2 h hb hc
    · exact q_item3 h hb hc
  · have e := m_shk (X := X) (d := d + 27) (I := I) (J := J) ha
    rw [if_neg q] at e
    refine ⟨-1, I, J, I, J, ?_, ?_, h⟩
    · simp (disch := omega) only [v_158_0, u_158_0, x_iload1, x_sipush, x_call3_0, x_call3_1, x_call3_2, x_call3_3, x_call3_4, e_k_s, e_k_i, List.nil_append, List.cons_append, x_ifCond_ne, x_ifCond_neb, x_iload2, x_ifCond_eq, x_ifCond_eqb, x_jsr, u_158_18, x_ireturn, u_158_20, x_aload0, k_0_6, x_call2_0, x_call2_1, x_call2_2, x_call2_3, x_call2_4, x_istore4i, x_istore4r, x_istore4u, x_iload4, u_158_40, x_iload3, x_l2i, x_goto, u_158_68, u_158_70, aa_53_0, aa_53_1, aa_53_2, aa_53_3, b_nin, ↓reduceIte, b01_0, ite_not, if_true, if_false, Int.reduceLT, Int.reduceEq]
    · simp (disch := omega) only [v_281_69, u_281_0, x_iload1, x_call1_0, x_call1_1, x_call1_2, x_call1_3, x_call1_4, e_k_s, e_k_i, List.nil_append, List.cons_append, x_ifCond_eq, x_ifCond_eqb, x_iload2, x_sipush, x_call3_0, x_call3_1, x_call3_2, x_call3_3, x_call3_4, x_ifCond_ne, x_ifCond_neb, x_jsr, u_281_16, x_ireturn, u_281_18, x_aload0, x_istore4i, x_istore4r, x_istore4u, x_iload4, x_goto, u_281_36, x_iload3, k_69_31, x_isub, k_69_32, x_imul, x_iadd, u_281_66, u_281_68, ia_85, ia_86, e, ↓reduceIte, b01_0, ite_not, if_true, if_false, Int.reduceLT, Int.reduceEq]
end
