/-! PAIRS: wouldBe -/
section
variable {X : e_X} {d : Nat} {I J : Nat → Int → Int}
theorem q_would0 (h : Rel I J) {f n : Int} (hf : rg f) (hn : rg n) : pr X d I J 160 285 [.int (iI 0), .int (iI f), .int (iI n)] := by
  have hS := h.2.2.2.2.1
  obtain ⟨h1, h2, h3, h4, h5⟩ := hS 0 (by decide)
  have h1 : -1 ≤ I 57 1 ∧ I 57 1 ≤ 4 := h1
  have h2 : 0 ≤ I 57 2 ∧ I 57 2 ≤ 40 := h2
  have h3 : I 84 0 = I 57 1 := h3
  have h4 : I 85 0 = I 57 2 := h4
  by_cases q0 : 0 ≤ n ∧ n ≤ 20
  · have e1 := s_okd57 (X := X) (d := d + 28) (I := I) (J := J) ⟨by omega, by omega⟩ (k := 0) (by decide)
    have e2 := fun (M : Nat → Int → Int) (z : M 84 0 = I 57 1) => m_okd (X := X) (d := d + 28) (I := M) (J := J) (q := 0) (by decide) (by rw [z]; exact h1) (k := 0) (by decide)
    have hi := h.1.1
    have hc := inv_cof hi
    have hC := h.1.2.2.2.2.2.2
    by_cases q1 : I 57 1 = 0
    · rw [if_neg (by omega), if_pos q1] at e1
      have t1 := s_mo (X := X) (d := d + 28) (B := I) (I := I) (J := J) (sq_rfl I) hi hc (F := I 14)
      rw [bk_self] at t1
      obtain ⟨c', F', e3⟩ := c_wbl57 (X := X) (d := d + 22) (I := I) (J := J) hi h.1.2.1 (f := f) (n := n) (L := I 57 2) (V := fun j => I 86 (40 * 0 + j)) rfl (fun j j0 j1 => (h5 j j0 j1).1) (fun j j0 j1 => (h5 j j0 j1).2) h2 hf q0 n.toNat 0 0 (cof I) (I 14) (.retAddr 0) (by decide) (by omega) (Or.inr (Or.inl rfl)) (by decide) hc
      rw [bk_self] at e3
      have t2 := s_bo (X := X) (d := d + 28) (B := I) (I := I) (J := J) (sq_rfl I) hi hc (c' := c') (F := F')
      have hself : mk (bk I (cof I) F') (I 1 9) (cof I) (I 1 13) (bk I (cof I) F' 73) = bk I (cof I) F' := mk_self2 hC rfl
      obtain ⟨Y, P', e4⟩ := m_wbq (X := X) (d := d + 20) (I := I) (J := J) (M := bk I (cof I) F') hi h.1.2.2.2.1 h.1.2.2.2.2.1 h.1.2.1 (q := 0) (f := f) (n := n) (L := I 57 2) (V := fun j => I 86 (40 * 0 + j)) (by decide) h4 (fun j j0 j1 => rfl) (fun j j0 j1 => (h5 j j0 j1).2) h2 hf q0 hc (sc := I 1 13) (bk I (cof I) F' 73) (.retAddr 0)
      rw [hself] at e4
      have e2 := e2 (bk I (cof I) F') h3
      rw [show bk I (cof I) F' 84 0 = I 57 1 from h3, if_neg (by omega), if_pos q1] at e2
      refine pr_q h (v := wbl I (fun j => I 86 (40 * 0 + j)) (I 57 2) n.toNat (f + 0) (cof I) 0) (I1 := bk I (cof I) F') ?_ kp_bk (I2 := mk (b72 (bk I (cof I) F') Y) (I 1 9) (cof I) (I 1 13) P') ?_ (kp_mk72 hself)
      · simp (disch := omega) only [v_160_0, u_160_0, x_iload1, x_sipush, x_call3_0, x_call3_1, x_call3_2, x_call3_3, x_call3_4, e_k_s, e_k_i, List.nil_append, List.cons_append, x_ifCond_ne, x_ifCond_neb, x_iload3, x_ifCond_eq, x_ifCond_eqb, x_jsr, u_160_19, x_ireturn, u_160_21, x_aload0, k_0_6, x_call2_0, x_call2_1, x_call2_2, x_call2_3, x_call2_4, x_istore4i, x_istore4r, x_istore4u, x_iload4, u_160_41, k_0_0, x_call1_0, x_call1_1, x_call1_2, x_call1_3, x_call1_4, x_istore5i, x_istore5r, x_istore5u, x_iload2, x_call4_0, x_call4_1, x_call4_2, x_call4_3, x_call4_4, x_istore6i, x_istore6r, x_istore6u, x_iload5, x_iload6, aa_53_0, aa_53_1, aa_53_2, aa_53_3, v_161_0, u_161_0, x_if_icmp_ge, x_aload1, x_iadd, u_161_26, x_l2i, u_161_60, u_161_63, x_iinc5i, x_iinc5r, x_iinc5u, x_goto, u_161_83, b_in, e1, t1, e3, t2, ↓reduceIte, b01_0, ite_not, if_true, if_false, Int.reduceLT, Int.reduceEq]
      · simp (disch := omega) only [v_285_69, u_285_0, x_iload1, x_call1_0, x_call1_1, x_call1_2, x_call1_3, x_call1_4, e_k_s, e_k_i, List.nil_append, List.cons_append, x_ifCond_eq, x_ifCond_eqb, x_iload3, x_sipush, x_call3_0, x_call3_1, x_call3_2, x_call3_3, x_call3_4, x_ifCond_ne, x_ifCond_neb, x_jsr, u_285_17, x_ireturn, u_285_19, x_aload0, x_istore4i, x_istore4r, x_istore4u, x_istore5i, x_istore5r, x_istore5u, x_istore6i, x_istore6r, x_istore6u, x_iload6, x_if_icmp_ge, x_iload4, x_iload2, x_call4_0, x_call4_1, x_call4_2, x_call4_3, x_call4_4, k_69_32, x_imul, x_iadd, x_goto, u_285_76, u_285_77, x_istore7i, x_istore7r, x_istore7u, u_285_95, x_iload7, x_call2_0, x_call2_1, x_call2_2, x_call2_3, x_call2_4, u_285_111, u_285_116, u_285_117, x_iload5, u_285_135, u_285_136, x_iinc6i, x_iinc6r, x_iinc6u, u_285_159, u_285_161, ia_86, m_shi, m_in, e2, ↓reduceIte, b01_0, ite_not, if_true, if_false, Int.reduceLT, Int.reduceEq]
        exact e4
    · have h5 := h4
      obtain ⟨v, hv, v0, v1⟩ : ∃ v : Int, (if I 57 1 = -1 then (-11 : Int) else if I 57 1 = 0 then 0 else -13) = v ∧ v < 0 ∧ -20 ≤ v := by
        by_cases z : I 57 1 = -1
        · exact ⟨-11, by rw [if_pos z], by decide, by decide⟩
        · exact ⟨-13, by rw [if_neg z, if_neg q1], by decide, by decide⟩
      rw [hv] at e1
      have e2 := e2 I h3
      rw [h3, hv] at e2
      have hself : mk I (I 1 9) (cof I) (I 1 13) (I 73) = I := mk_self hC
      have e0 := m_ld (X := X) (d := d + 28) (J := J) (M := I) (n := I 1 9) (c := cof I) (sc := I 1 13) (P := I 73)
      have e3 := m_lb (X := X) (d := d + 28) (J := J) (M := I) (M' := I) (L := lyd I (mk I (I 1 9) (cof I) (I 1 13) (I 73) 70)) (n := I 1 9) hi.1.2 (c := cof I) (c' := cof I) (sc := I 1 13) (sc' := I 1 13) (P := I 73) (P' := I 73) (fun k k0 k1 => if_pos ⟨k0, k1⟩) (fun _ _ _ => rfl)
      rw [hself] at e0 e3
      generalize hY : lyd I (I 70) = Y at *
      refine pr_q h (v := v) (I1 := I) ?_ (kp_rfl I) (I2 := mk (b72 I Y) (I 1 9) (cof I) (I 1 13) (I 73)) ?_ (kp_mk72 hself)
      · simp (disch := omega) only [v_160_0, u_160_0, x_iload1, x_sipush, x_call3_0, x_call3_1, x_call3_2, x_call3_3, x_call3_4, e_k_s, e_k_i, List.nil_append, List.cons_append, x_ifCond_ne, x_ifCond_neb, x_iload3, x_ifCond_eq, x_ifCond_eqb, x_jsr, u_160_19, x_ireturn, u_160_21, x_aload0, k_0_6, x_call2_0, x_call2_1, x_call2_2, x_call2_3, x_call2_4, x_istore4i, x_istore4r, x_istore4u, x_iload4, u_160_41, k_0_0, x_call1_0, x_call1_1, x_call1_2, x_call1_3, x_call1_4, x_istore5i, x_istore5r, x_istore5u, x_iload2, x_call4_0, x_call4_1, x_call4_2, x_call4_3, x_call4_4, x_istore6i, x_istore6r, x_istore6u, x_iload5, x_iload6, aa_53_0, aa_53_1, aa_53_2, aa_53_3, b_in, e1, ↓reduceIte, b01_0, ite_not, if_true, if_false, Int.reduceLT, Int.reduceEq]
        rw [if_neg (by omega)]
      · simp (disch := omega) only [v_285_69, u_285_0, x_iload1, x_call1_0, x_call1_1, x_call1_2, x_call1_3, x_call1_4, e_k_s, e_k_i, List.nil_append, List.cons_append, x_ifCond_eq, x_ifCond_eqb, x_iload3, x_sipush, x_call3_0, x_call3_1, x_call3_2, x_call3_3, x_call3_4, x_ifCond_ne, x_ifCond_neb, x_jsr, u_285_17, x_ireturn, u_285_19, x_aload0, x_istore4i, x_istore4r, x_istore4u, x_istore5i, x_istore5r, x_istore5u, x_istore6i, x_istore6r, x_istore6u, x_iload6, x_if_icmp_ge, x_iload4, x_iload2, x_call4_0, x_call4_1, x_call4_2, x_call4_3, x_call4_4, k_69_32, x_imul, x_iadd, x_goto, u_285_76, u_285_77, x_istore7i, x_istore7r, x_istore7u, u_285_95, x_iload7, x_call2_0, x_call2_1, x_call2_2, x_call2_3, x_call2_4, u_285_111, u_285_116, u_285_117, x_iload5, u_285_135, u_285_136, x_iinc6i, x_iinc6r, x_iinc6u, u_285_145, u_285_159, u_285_161, ia_86, m_shi, m_in, e2, e0, ↓reduceIte, b01_0, ite_not, if_true, if_false, Int.reduceLT, Int.reduceEq]
        rw [u_285_37]
        simp (disch := omega) only [v_285_69, u_285_0, x_iload1, x_call1_0, x_call1_1, x_call1_2, x_call1_3, x_call1_4, e_k_s, e_k_i, List.nil_append, List.cons_append, x_ifCond_eq, x_ifCond_eqb, x_iload3, x_sipush, x_call3_0, x_call3_1, x_call3_2, x_call3_3, x_call3_4, x_ifCond_ne, x_ifCond_neb, x_jsr, u_285_17, x_ireturn, u_285_19, x_aload0, x_istore4i, x_istore4r, x_istore4u, x_istore5i, x_istore5r, x_istore5u, x_istore6i, x_istore6r, x_istore6u, x_iload6, x_if_icmp_ge, x_iload4, x_iload2, x_call4_0, x_call4_1, x_call4_2, x_call4_3, x_call4_4, k_69_32, x_imul, x_iadd, x_goto, u_285_76, u_285_77, x_istore7i, x_istore7r, x_istore7u, u_285_95, x_iload7, x_call2_0, x_call2_1, x_call2_2, x_call2_3, x_call2_4, u_285_111, u_285_116, u_285_117, x_iload5, u_285_135, u_285_136, x_iinc6i, x_iinc6r, x_iinc6u, u_285_145, u_285_159, u_285_161, ia_86, e3, ↓reduceIte, b01_0, ite_not, if_true, if_false, Int.reduceLT, Int.reduceEq]
        (repeat' split) <;> first | rfl | (exfalso; omega)
  · refine ⟨-1, I, J, I, J, ?_, ?_, h⟩
    · simp (disch := omega) only [v_160_0, u_160_0, x_iload1, x_sipush, x_call3_0, x_call3_1, x_call3_2, x_call3_3, x_call3_4, e_k_s, e_k_i, List.nil_append, List.cons_append, x_ifCond_ne, x_ifCond_neb, x_iload3, x_ifCond_eq, x_ifCond_eqb, x_jsr, u_160_19, x_ireturn, u_160_21, x_aload0, k_0_6, x_call2_0, x_call2_1, x_call2_2, x_call2_3, x_call2_4, x_istore4i, x_istore4r, x_istore4u, x_iload4, u_160_41, k_0_0, x_call1_0, x_call1_1, x_call1_2, x_call1_3, x_call1_4, x_istore5i, x_istore5r, x_istore5u, x_iload2, x_call4_0, x_call4_1, x_call4_2, x_call4_3, x_call4_4, x_istore6i, x_istore6r, x_istore6u, x_iload5, x_iload6, aa_53_0, aa_53_1, aa_53_2, aa_53_3, b_in, b_nin, ↓reduceIte, b01_0, ite_not, if_true, if_false, Int.reduceLT, Int.reduceEq]
    · simp (disch := omega) only [v_285_69, u_285_0, x_iload1, x_call1_0, x_call1_1, x_call1_2, x_call1_3, x_call1_4, e_k_s, e_k_i, List.nil_append, List.cons_append, x_ifCond_eq, x_ifCond_eqb, x_iload3, x_sipush, x_call3_0, x_call3_1, x_call3_2, x_call3_3, x_call3_4, x_ifCond_ne, x_ifCond_neb, x_jsr, u_285_17, x_ireturn, u_285_19, x_aload0, x_istore4i, x_istore4r, x_istore4u, x_istore5i, x_istore5r, x_istore5u, x_istore6i, x_istore6r, x_istore6u, x_iload6, x_if_icmp_ge, x_iload4, x_iload2, x_call4_0, x_call4_1, x_call4_2, x_call4_3, x_call4_4, k_69_32, x_imul, x_iadd, x_goto, u_285_76, u_285_77, x_istore7i, x_istore7r, x_istore7u, u_285_95, x_iload7, x_call2_0, x_call2_1, x_call2_2, x_call2_3, x_call2_4, u_285_111, u_285_116, u_285_117, x_iload5, u_285_135, u_285_136, x_iinc6i, x_iinc6r, x_iinc6u, u_285_145, u_285_159, u_285_161, ia_86, m_shi, m_nin, ↓reduceIte, b01_0, ite_not, if_true, if_false, Int.reduceLT, Int.reduceEq]
theorem q_would1 (h : Rel I J) {f n : Int} (hf : rg f) (hn : rg n) : pr X d I J 160 285 [.int (iI 1), .int (iI f), .int (iI n)] := by
  have hS := h.2.2.2.2.1
  obtain ⟨h1, h2, h3, h4, h5⟩ := hS 1 (by decide)
  have h1 : -1 ≤ I 59 1 ∧ I 59 1 ≤ 4 := h1
  have h2 : 0 ≤ I 59 2 ∧ I 59 2 ≤ 40 := h2
  have h3 : I 84 1 = I 59 1 := h3
  have h4 : I 85 1 = I 59 2 := h4
  by_cases q0 : 0 ≤ n ∧ n ≤ 20
  · have e1 := s_okd59 (X := X) (d := d + 28) (I := I) (J := J) ⟨by omega, by omega⟩ (k := 0) (by decide)
    have e2 := fun (M : Nat → Int → Int) (z : M 84 1 = I 59 1) => m_okd (X := X) (d := d + 28) (I := M) (J := J) (q := 1) (by decide) (by rw [z]; exact h1) (k := 0) (by decide)
    have hi := h.1.1
    have hc := inv_cof hi
    have hC := h.1.2.2.2.2.2.2
    by_cases q1 : I 59 1 = 0
    · rw [if_neg (by omega), if_pos q1] at e1
      have t1 := s_mo (X := X) (d := d + 28) (B := I) (I := I) (J := J) (sq_rfl I) hi hc (F := I 14)
      rw [bk_self] at t1
      obtain ⟨c', F', e3⟩ := c_wbl59 (X := X) (d := d + 22) (I := I) (J := J) hi h.1.2.1 (f := f) (n := n) (L := I 59 2) (V := fun j => I 86 (40 * 1 + j)) rfl (fun j j0 j1 => (h5 j j0 j1).1) (fun j j0 j1 => (h5 j j0 j1).2) h2 hf q0 n.toNat 0 0 (cof I) (I 14) (.retAddr 0) (by decide) (by omega) (Or.inr (Or.inl rfl)) (by decide) hc
      rw [bk_self] at e3
      have t2 := s_bo (X := X) (d := d + 28) (B := I) (I := I) (J := J) (sq_rfl I) hi hc (c' := c') (F := F')
      have hself : mk (bk I (cof I) F') (I 1 9) (cof I) (I 1 13) (bk I (cof I) F' 73) = bk I (cof I) F' := mk_self2 hC rfl
      obtain ⟨Y, P', e4⟩ := m_wbq (X := X) (d := d + 20) (I := I) (J := J) (M := bk I (cof I) F') hi h.1.2.2.2.1 h.1.2.2.2.2.1 h.1.2.1 (q := 1) (f := f) (n := n) (L := I 59 2) (V := fun j => I 86 (40 * 1 + j)) (by decide) h4 (fun j j0 j1 => rfl) (fun j j0 j1 => (h5 j j0 j1).2) h2 hf q0 hc (sc := I 1 13) (bk I (cof I) F' 73) (.retAddr 0)
      rw [hself] at e4
      have e2 := e2 (bk I (cof I) F') h3
      rw [show bk I (cof I) F' 84 1 = I 59 1 from h3, if_neg (by omega), if_pos q1] at e2
      refine pr_q h (v := wbl I (fun j => I 86 (40 * 1 + j)) (I 59 2) n.toNat (f + 0) (cof I) 0) (I1 := bk I (cof I) F') ?_ kp_bk (I2 := mk (b72 (bk I (cof I) F') Y) (I 1 9) (cof I) (I 1 13) P') ?_ (kp_mk72 hself)
      · simp (disch := omega) only [v_160_0, u_160_0, x_iload1, x_sipush, x_call3_0, x_call3_1, x_call3_2, x_call3_3, x_call3_4, e_k_s, e_k_i, List.nil_append, List.cons_append, x_ifCond_ne, x_ifCond_neb, x_iload3, x_ifCond_eq, x_ifCond_eqb, x_jsr, u_160_19, x_ireturn, u_160_21, x_aload0, k_0_6, x_call2_0, x_call2_1, x_call2_2, x_call2_3, x_call2_4, x_istore4i, x_istore4r, x_istore4u, x_iload4, u_160_41, k_0_0, x_call1_0, x_call1_1, x_call1_2, x_call1_3, x_call1_4, x_istore5i, x_istore5r, x_istore5u, x_iload2, x_call4_0, x_call4_1, x_call4_2, x_call4_3, x_call4_4, x_istore6i, x_istore6r, x_istore6u, x_iload5, x_iload6, aa_53_0, aa_53_1, aa_53_2, aa_53_3, v_161_0, u_161_0, x_if_icmp_ge, x_aload1, x_iadd, u_161_26, x_l2i, u_161_60, u_161_63, x_iinc5i, x_iinc5r, x_iinc5u, x_goto, u_161_83, b_in, e1, t1, e3, t2, ↓reduceIte, b01_0, ite_not, if_true, if_false, Int.reduceLT, Int.reduceEq]
      · simp (disch := omega) only [v_285_69, u_285_0, x_iload1, x_call1_0, x_call1_1, x_call1_2, x_call1_3, x_call1_4, e_k_s, e_k_i, List.nil_append, List.cons_append, x_ifCond_eq, x_ifCond_eqb, x_iload3, x_sipush, x_call3_0, x_call3_1, x_call3_2, x_call3_3, x_call3_4, x_ifCond_ne, x_ifCond_neb, x_jsr, u_285_17, x_ireturn, u_285_19, x_aload0, x_istore4i, x_istore4r, x_istore4u, x_istore5i, x_istore5r, x_istore5u, x_istore6i, x_istore6r, x_istore6u, x_iload6, x_if_icmp_ge, x_iload4, x_iload2, x_call4_0, x_call4_1, x_call4_2, x_call4_3, x_call4_4, k_69_32, x_imul, x_iadd, x_goto, u_285_76, u_285_77, x_istore7i, x_istore7r, x_istore7u, u_285_95, x_iload7, x_call2_0, x_call2_1, x_call2_2, x_call2_3, x_call2_4, u_285_111, u_285_116, u_285_117, x_iload5, u_285_135, u_285_136, x_iinc6i, x_iinc6r, x_iinc6u, u_285_159, u_285_161, ia_86, m_shi, m_in, e2, ↓reduceIte, b01_0, ite_not, if_true, if_false, Int.reduceLT, Int.reduceEq]
        exact e4
    · have h5 := h4
      obtain ⟨v, hv, v0, v1⟩ : ∃ v : Int, (if I 59 1 = -1 then (-11 : Int) else if I 59 1 = 0 then 0 else -13) = v ∧ v < 0 ∧ -20 ≤ v := by
        by_cases z : I 59 1 = -1
        · exact ⟨-11, by rw [if_pos z], by decide, by decide⟩
        · exact ⟨-13, by rw [if_neg z, if_neg q1], by decide, by decide⟩
      rw [hv] at e1
      have e2 := e2 I h3
      rw [h3, hv] at e2
      have hself : mk I (I 1 9) (cof I) (I 1 13) (I 73) = I := mk_self hC
      have e0 := m_ld (X := X) (d := d + 28) (J := J) (M := I) (n := I 1 9) (c := cof I) (sc := I 1 13) (P := I 73)
      have e3 := m_lb (X := X) (d := d + 28) (J := J) (M := I) (M' := I) (L := lyd I (mk I (I 1 9) (cof I) (I 1 13) (I 73) 70)) (n := I 1 9) hi.1.2 (c := cof I) (c' := cof I) (sc := I 1 13) (sc' := I 1 13) (P := I 73) (P' := I 73) (fun k k0 k1 => if_pos ⟨k0, k1⟩) (fun _ _ _ => rfl)
      rw [hself] at e0 e3
      generalize hY : lyd I (I 70) = Y at *
      refine pr_q h (v := v) (I1 := I) ?_ (kp_rfl I) (I2 := mk (b72 I Y) (I 1 9) (cof I) (I 1 13) (I 73)) ?_ (kp_mk72 hself)
      · simp (disch := omega) only [v_160_0, u_160_0, x_iload1, x_sipush, x_call3_0, x_call3_1, x_call3_2, x_call3_3, x_call3_4, e_k_s, e_k_i, List.nil_append, List.cons_append, x_ifCond_ne, x_ifCond_neb, x_iload3, x_ifCond_eq, x_ifCond_eqb, x_jsr, u_160_19, x_ireturn, u_160_21, x_aload0, k_0_6, x_call2_0, x_call2_1, x_call2_2, x_call2_3, x_call2_4, x_istore4i, x_istore4r, x_istore4u, x_iload4, u_160_41, k_0_0, x_call1_0, x_call1_1, x_call1_2, x_call1_3, x_call1_4, x_istore5i, x_istore5r, x_istore5u, x_iload2, x_call4_0, x_call4_1, x_call4_2, x_call4_3, x_call4_4, x_istore6i, x_istore6r, x_istore6u, x_iload5, x_iload6, aa_53_0, aa_53_1, aa_53_2, aa_53_3, b_in, e1, ↓reduceIte, b01_0, ite_not, if_true, if_false, Int.reduceLT, Int.reduceEq]
        rw [if_neg (by omega)]
      · simp (disch := omega) only [v_285_69, u_285_0, x_iload1, x_call1_0, x_call1_1, x_call1_2, x_call1_3, x_call1_4, e_k_s, e_k_i, List.nil_append, List.cons_append, x_ifCond_eq, x_ifCond_eqb, x_iload3, x_sipush, x_call3_0, x_call3_1, x_call3_2, x_call3_3, x_call3_4, x_ifCond_ne, x_ifCond_neb, x_jsr, u_285_17, x_ireturn, u_285_19, x_aload0, x_istore4i, x_istore4r, x_istore4u, x_istore5i, x_istore5r, x_istore5u, x_istore6i, x_istore6r, x_istore6u, x_iload6, x_if_icmp_ge, x_iload4, x_iload2, x_call4_0, x_call4_1, x_call4_2, x_call4_3, x_call4_4, k_69_32, x_imul, x_iadd, x_goto, u_285_76, u_285_77, x_istore7i, x_istore7r, x_istore7u, u_285_95, x_iload7, x_call2_0, x_call2_1, x_call2_2, x_call2_3, x_call2_4, u_285_111, u_285_116, u_285_117, x_iload5, u_285_135, u_285_136, x_iinc6i, x_iinc6r, x_iinc6u, u_285_145, u_285_159, u_285_161, ia_86, m_shi, m_in, e2, e0, ↓reduceIte, b01_0, ite_not, if_true, if_false, Int.reduceLT, Int.reduceEq]
        rw [u_285_37]
        simp (disch := omega) only [v_285_69, u_285_0, x_iload1, x_call1_0, x_call1_1, x_call1_2, x_call1_3, x_call1_4, e_k_s, e_k_i, List.nil_append, List.cons_append, x_ifCond_eq, x_ifCond_eqb, x_iload3, x_sipush, x_call3_0, x_call3_1, x_call3_2, x_call3_3, x_call3_4, x_ifCond_ne, x_ifCond_neb, x_jsr, u_285_17, x_ireturn, u_285_19, x_aload0, x_istore4i, x_istore4r, x_istore4u, x_istore5i, x_istore5r, x_istore5u, x_istore6i, x_istore6r, x_istore6u, x_iload6, x_if_icmp_ge, x_iload4, x_iload2, x_call4_0, x_call4_1, x_call4_2, x_call4_3, x_call4_4, k_69_32, x_imul, x_iadd, x_goto, u_285_76, u_285_77, x_istore7i, x_istore7r, x_istore7u, u_285_95, x_iload7, x_call2_0, x_call2_1, x_call2_2, x_call2_3, x_call2_4, u_285_111, u_285_116, u_285_117, x_iload5, u_285_135, u_285_136, x_iinc6i, x_iinc6r, x_iinc6u, u_285_145, u_285_159, u_285_161, ia_86, e3, ↓reduceIte, b01_0, ite_not, if_true, if_false, Int.reduceLT, Int.reduceEq]
        (repeat' split) <;> first | rfl | (exfalso; omega)
  · refine ⟨-1, I, J, I, J, ?_, ?_, h⟩
    · simp (disch := omega) only [v_160_0, u_160_0, x_iload1, x_sipush, x_call3_0, x_call3_1, x_call3_2, x_call3_3, x_call3_4, e_k_s, e_k_i, List.nil_append, List.cons_append, x_ifCond_ne, x_ifCond_neb, x_iload3, x_ifCond_eq, x_ifCond_eqb, x_jsr, u_160_19, x_ireturn, u_160_21, x_aload0, k_0_6, x_call2_0, x_call2_1, x_call2_2, x_call2_3, x_call2_4, x_istore4i, x_istore4r, x_istore4u, x_iload4, u_160_41, k_0_0, x_call1_0, x_call1_1, x_call1_2, x_call1_3, x_call1_4, x_istore5i, x_istore5r, x_istore5u, x_iload2, x_call4_0, x_call4_1, x_call4_2, x_call4_3, x_call4_4, x_istore6i, x_istore6r, x_istore6u, x_iload5, x_iload6, aa_53_0, aa_53_1, aa_53_2, aa_53_3, b_in, b_nin, ↓reduceIte, b01_0, ite_not, if_true, if_false, Int.reduceLT, Int.reduceEq]
    · simp (disch := omega) only [v_285_69, u_285_0, x_iload1, x_call1_0, x_call1_1, x_call1_2, x_call1_3, x_call1_4, e_k_s, e_k_i, List.nil_append, List.cons_append, x_ifCond_eq, x_ifCond_eqb, x_iload3, x_sipush, x_call3_0, x_call3_1, x_call3_2, x_call3_3, x_call3_4, x_ifCond_ne, x_ifCond_neb, x_jsr, u_285_17, x_ireturn, u_285_19, x_aload0, x_istore4i, x_istore4r, x_istore4u, x_istore5i, x_istore5r, x_istore5u, x_istore6i, x_istore6r, x_istore6u, x_iload6, x_if_icmp_ge, x_iload4, x_iload2, x_call4_0, x_call4_1, x_call4_2, x_call4_3, x_call4_4, k_69_32, x_imul, x_iadd, x_goto, u_285_76, u_285_77, x_istore7i, x_istore7r, x_istore7u, u_285_95, x_iload7, x_call2_0, x_call2_1, x_call2_2, x_call2_3, x_call2_4, u_285_111, u_285_116, u_285_117, x_iload5, u_285_135, u_285_136, x_iinc6i, x_iinc6r, x_iinc6u, u_285_145, u_285_159, u_285_161, ia_86, m_shi, m_nin, ↓reduceIte, b01_0, ite_not, if_true, if_false, Int.reduceLT, Int.reduceEq]
theorem q_would2 (h : Rel I J) {f n : Int} (hf : rg f) (hn : rg n) : pr X d I J 160 285 [.int (iI 2), .int (iI f), .int (iI n)] := by
  have hS := h.2.2.2.2.1
  obtain ⟨h1, h2, h3, h4, h5⟩ := hS 2 (by decide)
  have h1 : -1 ≤ I 61 1 ∧ I 61 1 ≤ 4 := h1
  have h2 : 0 ≤ I 61 2 ∧ I 61 2 ≤ 40 := h2
  have h3 : I 84 2 = I 61 1 := h3
  have h4 : I 85 2 = I 61 2 := h4
  by_cases q0 : 0 ≤ n ∧ n ≤ 20
  · have e1 := s_okd61 (X := X) (d := d + 28) (I := I) (J := J) ⟨by omega, by omega⟩ (k := 0) (by decide)
    have e2 := fun (M : Nat → Int → Int) (z : M 84 2 = I 61 1) => m_okd (X := X) (d := d + 28) (I := M) (J := J) (q := 2) (by decide) (by rw [z]; exact h1) (k := 0) (by decide)
    have hi := h.1.1
    have hc := inv_cof hi
    have hC := h.1.2.2.2.2.2.2
    by_cases q1 : I 61 1 = 0
    · rw [if_neg (by omega), if_pos q1] at e1
      have t1 := s_mo (X := X) (d := d + 28) (B := I) (I := I) (J := J) (sq_rfl I) hi hc (F := I 14)
      rw [bk_self] at t1
      obtain ⟨c', F', e3⟩ := c_wbl61 (X := X) (d := d + 22) (I := I) (J := J) hi h.1.2.1 (f := f) (n := n) (L := I 61 2) (V := fun j => I 86 (40 * 2 + j)) rfl (fun j j0 j1 => (h5 j j0 j1).1) (fun j j0 j1 => (h5 j j0 j1).2) h2 hf q0 n.toNat 0 0 (cof I) (I 14) (.retAddr 0) (by decide) (by omega) (Or.inr (Or.inl rfl)) (by decide) hc
      rw [bk_self] at e3
      have t2 := s_bo (X := X) (d := d + 28) (B := I) (I := I) (J := J) (sq_rfl I) hi hc (c' := c') (F := F')
      have hself : mk (bk I (cof I) F') (I 1 9) (cof I) (I 1 13) (bk I (cof I) F' 73) = bk I (cof I) F' := mk_self2 hC rfl
      obtain ⟨Y, P', e4⟩ := m_wbq (X := X) (d := d + 20) (I := I) (J := J) (M := bk I (cof I) F') hi h.1.2.2.2.1 h.1.2.2.2.2.1 h.1.2.1 (q := 2) (f := f) (n := n) (L := I 61 2) (V := fun j => I 86 (40 * 2 + j)) (by decide) h4 (fun j j0 j1 => rfl) (fun j j0 j1 => (h5 j j0 j1).2) h2 hf q0 hc (sc := I 1 13) (bk I (cof I) F' 73) (.retAddr 0)
      rw [hself] at e4
      have e2 := e2 (bk I (cof I) F') h3
      rw [show bk I (cof I) F' 84 2 = I 61 1 from h3, if_neg (by omega), if_pos q1] at e2
      refine pr_q h (v := wbl I (fun j => I 86 (40 * 2 + j)) (I 61 2) n.toNat (f + 0) (cof I) 0) (I1 := bk I (cof I) F') ?_ kp_bk (I2 := mk (b72 (bk I (cof I) F') Y) (I 1 9) (cof I) (I 1 13) P') ?_ (kp_mk72 hself)
      · simp (disch := omega) only [v_160_0, u_160_0, x_iload1, x_sipush, x_call3_0, x_call3_1, x_call3_2, x_call3_3, x_call3_4, e_k_s, e_k_i, List.nil_append, List.cons_append, x_ifCond_ne, x_ifCond_neb, x_iload3, x_ifCond_eq, x_ifCond_eqb, x_jsr, u_160_19, x_ireturn, u_160_21, x_aload0, k_0_6, x_call2_0, x_call2_1, x_call2_2, x_call2_3, x_call2_4, x_istore4i, x_istore4r, x_istore4u, x_iload4, u_160_41, k_0_0, x_call1_0, x_call1_1, x_call1_2, x_call1_3, x_call1_4, x_istore5i, x_istore5r, x_istore5u, x_iload2, x_call4_0, x_call4_1, x_call4_2, x_call4_3, x_call4_4, x_istore6i, x_istore6r, x_istore6u, x_iload5, x_iload6, aa_53_0, aa_53_1, aa_53_2, aa_53_3, v_161_0, u_161_0, x_if_icmp_ge, x_aload1, x_iadd, u_161_26, x_l2i, u_161_60, u_161_63, x_iinc5i, x_iinc5r, x_iinc5u, x_goto, u_161_83, b_in, e1, t1, e3, t2, ↓reduceIte, b01_0, ite_not, if_true, if_false, Int.reduceLT, Int.reduceEq]
      · simp (disch := omega) only [v_285_69, u_285_0, x_iload1, x_call1_0, x_call1_1, x_call1_2, x_call1_3, x_call1_4, e_k_s, e_k_i, List.nil_append, List.cons_append, x_ifCond_eq, x_ifCond_eqb, x_iload3, x_sipush, x_call3_0, x_call3_1, x_call3_2, x_call3_3, x_call3_4, x_ifCond_ne, x_ifCond_neb, x_jsr, u_285_17, x_ireturn, u_285_19, x_aload0, x_istore4i, x_istore4r, x_istore4u, x_istore5i, x_istore5r, x_istore5u, x_istore6i, x_istore6r, x_istore6u, x_iload6, x_if_icmp_ge, x_iload4, x_iload2, x_call4_0, x_call4_1, x_call4_2, x_call4_3, x_call4_4, k_69_32, x_imul, x_iadd, x_goto, u_285_76, u_285_77, x_istore7i, x_istore7r, x_istore7u, u_285_95, x_iload7, x_call2_0, x_call2_1, x_call2_2, x_call2_3, x_call2_4, u_285_111, u_285_116, u_285_117, x_iload5, u_285_135, u_285_136, x_iinc6i, x_iinc6r, x_iinc6u, u_285_159, u_285_161, ia_86, m_shi, m_in, e2, ↓reduceIte, b01_0, ite_not, if_true, if_false, Int.reduceLT, Int.reduceEq]
        exact e4
    · have h5 := h4
      obtain ⟨v, hv, v0, v1⟩ : ∃ v : Int, (if I 61 1 = -1 then (-11 : Int) else if I 61 1 = 0 then 0 else -13) = v ∧ v < 0 ∧ -20 ≤ v := by
        by_cases z : I 61 1 = -1
        · exact ⟨-11, by rw [if_pos z], by decide, by decide⟩
        · exact ⟨-13, by rw [if_neg z, if_neg q1], by decide, by decide⟩
      rw [hv] at e1
      have e2 := e2 I h3
      rw [h3, hv] at e2
      have hself : mk I (I 1 9) (cof I) (I 1 13) (I 73) = I := mk_self hC
      have e0 := m_ld (X := X) (d := d + 28) (J := J) (M := I) (n := I 1 9) (c := cof I) (sc := I 1 13) (P := I 73)
      have e3 := m_lb (X := X) (d := d + 28) (J := J) (M := I) (M' := I) (L := lyd I (mk I (I 1 9) (cof I) (I 1 13) (I 73) 70)) (n := I 1 9) hi.1.2 (c := cof I) (c' := cof I) (sc := I 1 13) (sc' := I 1 13) (P := I 73) (P' := I 73) (fun k k0 k1 => if_pos ⟨k0, k1⟩) (fun _ _ _ => rfl)
      rw [hself] at e0 e3
      generalize hY : lyd I (I 70) = Y at *
      refine pr_q h (v := v) (I1 := I) ?_ (kp_rfl I) (I2 := mk (b72 I Y) (I 1 9) (cof I) (I 1 13) (I 73)) ?_ (kp_mk72 hself)
      · simp (disch := omega) only [v_160_0, u_160_0, x_iload1, x_sipush, x_call3_0, x_call3_1, x_call3_2, x_call3_3, x_call3_4, e_k_s, e_k_i, List.nil_append, List.cons_append, x_ifCond_ne, x_ifCond_neb, x_iload3, x_ifCond_eq, x_ifCond_eqb, x_jsr, u_160_19, x_ireturn, u_160_21, x_aload0, k_0_6, x_call2_0, x_call2_1, x_call2_2, x_call2_3, x_call2_4, x_istore4i, x_istore4r, x_istore4u, x_iload4, u_160_41, k_0_0, x_call1_0, x_call1_1, x_call1_2, x_call1_3, x_call1_4, x_istore5i, x_istore5r, x_istore5u, x_iload2, x_call4_0, x_call4_1, x_call4_2, x_call4_3, x_call4_4, x_istore6i, x_istore6r, x_istore6u, x_iload5, x_iload6, aa_53_0, aa_53_1, aa_53_2, aa_53_3, b_in, e1, ↓reduceIte, b01_0, ite_not, if_true, if_false, Int.reduceLT, Int.reduceEq]
        rw [if_neg (by omega)]
      · simp (disch := omega) only [v_285_69, u_285_0, x_iload1, x_call1_0, x_call1_1, x_call1_2, x_call1_3, x_call1_4, e_k_s, e_k_i, List.nil_append, List.cons_append, x_ifCond_eq, x_ifCond_eqb, x_iload3, x_sipush, x_call3_0, x_call3_1, x_call3_2, x_call3_3, x_call3_4, x_ifCond_ne, x_ifCond_neb, x_jsr, u_285_17, x_ireturn, u_285_19, x_aload0, x_istore4i, x_istore4r, x_istore4u, x_istore5i, x_istore5r, x_istore5u, x_istore6i, x_istore6r, x_istore6u, x_iload6, x_if_icmp_ge, x_iload4, x_iload2, x_call4_0, x_call4_1, x_call4_2, x_call4_3, x_call4_4, k_69_32, x_imul, x_iadd, x_goto, u_285_76, u_285_77, x_istore7i, x_istore7r, x_istore7u, u_285_95, x_iload7, x_call2_0, x_call2_1, x_call2_2, x_call2_3, x_call2_4, u_285_111, u_285_116, u_285_117, x_iload5, u_285_135, u_285_136, x_iinc6i, x_iinc6r, x_iinc6u, u_285_145, u_285_159, u_285_161, ia_86, m_shi, m_in, e2, e0, ↓reduceIte, b01_0, ite_not, if_true, if_false, Int.reduceLT, Int.reduceEq]
        rw [u_285_37]
        simp (disch := omega) only [v_285_69, u_285_0, x_iload1, x_call1_0, x_call1_1, x_call1_2, x_call1_3, x_call1_4, e_k_s, e_k_i, List.nil_append, List.cons_append, x_ifCond_eq, x_ifCond_eqb, x_iload3, x_sipush, x_call3_0, x_call3_1, x_call3_2, x_call3_3, x_call3_4, x_ifCond_ne, x_ifCond_neb, x_jsr, u_285_17, x_ireturn, u_285_19, x_aload0, x_istore4i, x_istore4r, x_istore4u, x_istore5i, x_istore5r, x_istore5u, x_istore6i, x_istore6r, x_istore6u, x_iload6, x_if_icmp_ge, x_iload4, x_iload2, x_call4_0, x_call4_1, x_call4_2, x_call4_3, x_call4_4, k_69_32, x_imul, x_iadd, x_goto, u_285_76, u_285_77, x_istore7i, x_istore7r, x_istore7u, u_285_95, x_iload7, x_call2_0, x_call2_1, x_call2_2, x_call2_3, x_call2_4, u_285_111, u_285_116, u_285_117, x_iload5, u_285_135, u_285_136, x_iinc6i, x_iinc6r, x_iinc6u, u_285_145, u_285_159, u_285_161, ia_86, e3, ↓reduceIte, b01_0, ite_not, if_true, if_false, Int.reduceLT, Int.reduceEq]
        (repeat' split) <;> first | rfl | (exfalso; omega)
  · refine ⟨-1, I, J, I, J, ?_, ?_, h⟩
    · simp (disch := omega) only [v_160_0, u_160_0, x_iload1, x_sipush, x_call3_0, x_call3_1, x_call3_2, x_call3_3, x_call3_4, e_k_s, e_k_i, List.nil_append, List.cons_append, x_ifCond_ne, x_ifCond_neb, x_iload3, x_ifCond_eq, x_ifCond_eqb, x_jsr, u_160_19, x_ireturn, u_160_21, x_aload0, k_0_6, x_call2_0, x_call2_1, x_call2_2, x_call2_3, x_call2_4, x_istore4i, x_istore4r, x_istore4u, x_iload4, u_160_41, k_0_0, x_call1_0, x_call1_1, x_call1_2, x_call1_3, x_call1_4, x_istore5i, x_istore5r, x_istore5u, x_iload2, x_call4_0, x_call4_1, x_call4_2, x_call4_3, x_call4_4, x_istore6i, x_istore6r, x_istore6u, x_iload5, x_iload6, aa_53_0, aa_53_1, aa_53_2, aa_53_3, b_in, b_nin, ↓reduceIte, b01_0, ite_not, if_true, if_false, Int.reduceLT, Int.reduceEq]
    · simp (disch := omega) only [v_285_69, u_285_0, x_iload1, x_call1_0, x_call1_1, x_call1_2, x_call1_3, x_call1_4, e_k_s, e_k_i, List.nil_append, List.cons_append, x_ifCond_eq, x_ifCond_eqb, x_iload3, x_sipush, x_call3_0, x_call3_1, x_call3_2, x_call3_3, x_call3_4, x_ifCond_ne, x_ifCond_neb, x_jsr, u_285_17, x_ireturn, u_285_19, x_aload0, x_istore4i, x_istore4r, x_istore4u, x_istore5i, x_istore5r, x_istore5u, x_istore6i, x_istore6r, x_istore6u, x_iload6, x_if_icmp_ge, x_iload4, x_iload2, x_call4_0, x_call4_1, x_call4_2, x_call4_3, x_call4_4, k_69_32, x_imul, x_iadd, x_goto, u_285_76, u_285_77, x_istore7i, x_istore7r, x_istore7u, u_285_95, x_iload7, x_call2_0, x_call2_1, x_call2_2, x_call2_3, x_call2_4, u_285_111, u_285_116, u_285_117, x_iload5, u_285_135, u_285_136, x_iinc6i, x_iinc6r, x_iinc6u, u_285_145, u_285_159, u_285_161, ia_86, m_shi, m_nin, ↓reduceIte, b01_0, ite_not, if_true, if_false, Int.reduceLT, Int.reduceEq]
theorem q_would3 (h : Rel I J) {f n : Int} (hf : rg f) (hn : rg n) : pr X d I J 160 285 [.int (iI 3), .int (iI f), .int (iI n)] := by
  have hS := h.2.2.2.2.1
  obtain ⟨h1, h2, h3, h4, h5⟩ := hS 3 (by decide)
  have h1 : -1 ≤ I 63 1 ∧ I 63 1 ≤ 4 := h1
  have h2 : 0 ≤ I 63 2 ∧ I 63 2 ≤ 40 := h2
  have h3 : I 84 3 = I 63 1 := h3
  have h4 : I 85 3 = I 63 2 := h4
  by_cases q0 : 0 ≤ n ∧ n ≤ 20
  · have e1 := s_okd63 (X := X) (d := d + 28) (I := I) (J := J) ⟨by omega, by omega⟩ (k := 0) (by decide)
    have e2 := fun (M : Nat → Int → Int) (z : M 84 3 = I 63 1) => m_okd (X := X) (d := d + 28) (I := M) (J := J) (q := 3) (by decide) (by rw [z]; exact h1) (k := 0) (by decide)
    have hi := h.1.1
    have hc := inv_cof hi
    have hC := h.1.2.2.2.2.2.2
    by_cases q1 : I 63 1 = 0
    · rw [if_neg (by omega), if_pos q1] at e1
      have t1 := s_mo (X := X) (d := d + 28) (B := I) (I := I) (J := J) (sq_rfl I) hi hc (F := I 14)
      rw [bk_self] at t1
      obtain ⟨c', F', e3⟩ := c_wbl63 (X := X) (d := d + 22) (I := I) (J := J) hi h.1.2.1 (f := f) (n := n) (L := I 63 2) (V := fun j => I 86 (40 * 3 + j)) rfl (fun j j0 j1 => (h5 j j0 j1).1) (fun j j0 j1 => (h5 j j0 j1).2) h2 hf q0 n.toNat 0 0 (cof I) (I 14) (.retAddr 0) (by decide) (by omega) (Or.inr (Or.inl rfl)) (by decide) hc
      rw [bk_self] at e3
      have t2 := s_bo (X := X) (d := d + 28) (B := I) (I := I) (J := J) (sq_rfl I) hi hc (c' := c') (F := F')
      have hself : mk (bk I (cof I) F') (I 1 9) (cof I) (I 1 13) (bk I (cof I) F' 73) = bk I (cof I) F' := mk_self2 hC rfl
      obtain ⟨Y, P', e4⟩ := m_wbq (X := X) (d := d + 20) (I := I) (J := J) (M := bk I (cof I) F') hi h.1.2.2.2.1 h.1.2.2.2.2.1 h.1.2.1 (q := 3) (f := f) (n := n) (L := I 63 2) (V := fun j => I 86 (40 * 3 + j)) (by decide) h4 (fun j j0 j1 => rfl) (fun j j0 j1 => (h5 j j0 j1).2) h2 hf q0 hc (sc := I 1 13) (bk I (cof I) F' 73) (.retAddr 0)
      rw [hself] at e4
      have e2 := e2 (bk I (cof I) F') h3
      rw [show bk I (cof I) F' 84 3 = I 63 1 from h3, if_neg (by omega), if_pos q1] at e2
      refine pr_q h (v := wbl I (fun j => I 86 (40 * 3 + j)) (I 63 2) n.toNat (f + 0) (cof I) 0) (I1 := bk I (cof I) F') ?_ kp_bk (I2 := mk (b72 (bk I (cof I) F') Y) (I 1 9) (cof I) (I 1 13) P') ?_ (kp_mk72 hself)
      · simp (disch := omega) only [v_160_0, u_160_0, x_iload1, x_sipush, x_call3_0, x_call3_1, x_call3_2, x_call3_3, x_call3_4, e_k_s, e_k_i, List.nil_append, List.cons_append, x_ifCond_ne, x_ifCond_neb, x_iload3, x_ifCond_eq, x_ifCond_eqb, x_jsr, u_160_19, x_ireturn, u_160_21, x_aload0, k_0_6, x_call2_0, x_call2_1, x_call2_2, x_call2_3, x_call2_4, x_istore4i, x_istore4r, x_istore4u, x_iload4, u_160_41, k_0_0, x_call1_0, x_call1_1, x_call1_2, x_call1_3, x_call1_4, x_istore5i, x_istore5r, x_istore5u, x_iload2, x_call4_0, x_call4_1, x_call4_2, x_call4_3, x_call4_4, x_istore6i, x_istore6r, x_istore6u, x_iload5, x_iload6, aa_53_0, aa_53_1, aa_53_2, aa_53_3, v_161_0, u_161_0, x_if_icmp_ge, x_aload1, x_iadd, u_161_26, x_l2i, u_161_60, u_161_63, x_iinc5i, x_iinc5r, x_iinc5u, x_goto, u_161_83, b_in, e1, t1, e3, t2, ↓reduceIte, b01_0, ite_not, if_true, if_false, Int.reduceLT, Int.reduceEq]
      · simp (disch := omega) only [v_285_69, u_285_0, x_iload1, x_call1_0, x_call1_1, x_call1_2, x_call1_3, x_call1_4, e_k_s, e_k_i, List.nil_append, List.cons_append, x_ifCond_eq, x_ifCond_eqb, x_iload3, x_sipush, x_call3_0, x_call3_1, x_call3_2, x_call3_3, x_call3_4, x_ifCond_ne, x_ifCond_neb, x_jsr, u_285_17, x_ireturn, u_285_19, x_aload0, x_istore4i, x_istore4r, x_istore4u, x_istore5i, x_istore5r, x_istore5u, x_istore6i, x_istore6r, x_istore6u, x_iload6, x_if_icmp_ge, x_iload4, x_iload2, x_call4_0, x_call4_1, x_call4_2, x_call4_3, x_call4_4, k_69_32, x_imul, x_iadd, x_goto, u_285_76, u_285_77, x_istore7i, x_istore7r, x_istore7u, u_285_95, x_iload7, x_call2_0, x_call2_1, x_call2_2, x_call2_3, x_call2_4, u_285_111, u_285_116, u_285_117, x_iload5, u_285_135, u_285_136, x_iinc6i, x_iinc6r, x_iinc6u, u_285_159, u_285_161, ia_86, m_shi, m_in, e2, ↓reduceIte, b01_0, ite_not, if_true, if_false, Int.reduceLT, Int.reduceEq]
        exact e4
    · have h5 := h4
      obtain ⟨v, hv, v0, v1⟩ : ∃ v : Int, (if I 63 1 = -1 then (-11 : Int) else if I 63 1 = 0 then 0 else -13) = v ∧ v < 0 ∧ -20 ≤ v := by
        by_cases z : I 63 1 = -1
        · exact ⟨-11, by rw [if_pos z], by decide, by decide⟩
        · exact ⟨-13, by rw [if_neg z, if_neg q1], by decide, by decide⟩
      rw [hv] at e1
      have e2 := e2 I h3
      rw [h3, hv] at e2
      have hself : mk I (I 1 9) (cof I) (I 1 13) (I 73) = I := mk_self hC
      have e0 := m_ld (X := X) (d := d + 28) (J := J) (M := I) (n := I 1 9) (c := cof I) (sc := I 1 13) (P := I 73)
      have e3 := m_lb (X := X) (d := d + 28) (J := J) (M := I) (M' := I) (L := lyd I (mk I (I 1 9) (cof I) (I 1 13) (I 73) 70)) (n := I 1 9) hi.1.2 (c := cof I) (c' := cof I) (sc := I 1 13) (sc' := I 1 13) (P := I 73) (P' := I 73) (fun k k0 k1 => if_pos ⟨k0, k1⟩) (fun _ _ _ => rfl)
      rw [hself] at e0 e3
      generalize hY : lyd I (I 70) = Y at *
      refine pr_q h (v := v) (I1 := I) ?_ (kp_rfl I) (I2 := mk (b72 I Y) (I 1 9) (cof I) (I 1 13) (I 73)) ?_ (kp_mk72 hself)
      · simp (disch := omega) only [v_160_0, u_160_0, x_iload1, x_sipush, x_call3_0, x_call3_1, x_call3_2, x_call3_3, x_call3_4, e_k_s, e_k_i, List.nil_append, List.cons_append, x_ifCond_ne, x_ifCond_neb, x_iload3, x_ifCond_eq, x_ifCond_eqb, x_jsr, u_160_19, x_ireturn, u_160_21, x_aload0, k_0_6, x_call2_0, x_call2_1, x_call2_2, x_call2_3, x_call2_4, x_istore4i, x_istore4r, x_istore4u, x_iload4, u_160_41, k_0_0, x_call1_0, x_call1_1, x_call1_2, x_call1_3, x_call1_4, x_istore5i, x_istore5r, x_istore5u, x_iload2, x_call4_0, x_call4_1, x_call4_2, x_call4_3, x_call4_4, x_istore6i, x_istore6r, x_istore6u, x_iload5, x_iload6, aa_53_0, aa_53_1, aa_53_2, aa_53_3, b_in, e1, ↓reduceIte, b01_0, ite_not, if_true, if_false, Int.reduceLT, Int.reduceEq]
        rw [if_neg (by omega)]
      · simp (disch := omega) only [v_285_69, u_285_0, x_iload1, x_call1_0, x_call1_1, x_call1_2, x_call1_3, x_call1_4, e_k_s, e_k_i, List.nil_append, List.cons_append, x_ifCond_eq, x_ifCond_eqb, x_iload3, x_sipush, x_call3_0, x_call3_1, x_call3_2, x_call3_3, x_call3_4, x_ifCond_ne, x_ifCond_neb, x_jsr, u_285_17, x_ireturn, u_285_19, x_aload0, x_istore4i, x_istore4r, x_istore4u, x_istore5i, x_istore5r, x_istore5u, x_istore6i, x_istore6r, x_istore6u, x_iload6, x_if_icmp_ge, x_iload4, x_iload2, x_call4_0, x_call4_1, x_call4_2, x_call4_3, x_call4_4, k_69_32, x_imul, x_iadd, x_goto, u_285_76, u_285_77, x_istore7i, x_istore7r, x_istore7u, u_285_95, x_iload7, x_call2_0, x_call2_1, x_call2_2, x_call2_3, x_call2_4, u_285_111, u_285_116, u_285_117, x_iload5, u_285_135, u_285_136, x_iinc6i, x_iinc6r, x_iinc6u, u_285_145, u_285_159, u_285_161, ia_86, m_shi, m_in, e2, e0, ↓reduceIte, b01_0, ite_not, if_true, if_false, Int.reduceLT, Int.reduceEq]
        rw [u_285_37]
        simp (disch := omega) only [v_285_69, u_285_0, x_iload1, x_call1_0, x_call1_1, x_call1_2, x_call1_3, x_call1_4, e_k_s, e_k_i, List.nil_append, List.cons_append, x_ifCond_eq, x_ifCond_eqb, x_iload3, x_sipush, x_call3_0, x_call3_1, x_call3_2, x_call3_3, x_call3_4, x_ifCond_ne, x_ifCond_neb, x_jsr, u_285_17, x_ireturn, u_285_19, x_aload0, x_istore4i, x_istore4r, x_istore4u, x_istore5i, x_istore5r, x_istore5u, x_istore6i, x_istore6r, x_istore6u, x_iload6, x_if_icmp_ge, x_iload4, x_iload2, x_call4_0, x_call4_1, x_call4_2, x_call4_3, x_call4_4, k_69_32, x_imul, x_iadd, x_goto, u_285_76, u_285_77, x_istore7i, x_istore7r, x_istore7u, u_285_95, x_iload7, x_call2_0, x_call2_1, x_call2_2, x_call2_3, x_call2_4, u_285_111, u_285_116, u_285_117, x_iload5, u_285_135, u_285_136, x_iinc6i, x_iinc6r, x_iinc6u, u_285_145, u_285_159, u_285_161, ia_86, e3, ↓reduceIte, b01_0, ite_not, if_true, if_false, Int.reduceLT, Int.reduceEq]
        (repeat' split) <;> first | rfl | (exfalso; omega)
  · refine ⟨-1, I, J, I, J, ?_, ?_, h⟩
    · simp (disch := omega) only [v_160_0, u_160_0, x_iload1, x_sipush, x_call3_0, x_call3_1, x_call3_2, x_call3_3, x_call3_4, e_k_s, e_k_i, List.nil_append, List.cons_append, x_ifCond_ne, x_ifCond_neb, x_iload3, x_ifCond_eq, x_ifCond_eqb, x_jsr, u_160_19, x_ireturn, u_160_21, x_aload0, k_0_6, x_call2_0, x_call2_1, x_call2_2, x_call2_3, x_call2_4, x_istore4i, x_istore4r, x_istore4u, x_iload4, u_160_41, k_0_0, x_call1_0, x_call1_1, x_call1_2, x_call1_3, x_call1_4, x_istore5i, x_istore5r, x_istore5u, x_iload2, x_call4_0, x_call4_1, x_call4_2, x_call4_3, x_call4_4, x_istore6i, x_istore6r, x_istore6u, x_iload5, x_iload6, aa_53_0, aa_53_1, aa_53_2, aa_53_3, b_in, b_nin, ↓reduceIte, b01_0, ite_not, if_true, if_false, Int.reduceLT, Int.reduceEq]
    · simp (disch := omega) only [v_285_69, u_285_0, x_iload1, x_call1_0, x_call1_1, x_call1_2, x_call1_3, x_call1_4, e_k_s, e_k_i, List.nil_append, List.cons_append, x_ifCond_eq, x_ifCond_eqb, x_iload3, x_sipush, x_call3_0, x_call3_1, x_call3_2, x_call3_3, x_call3_4, x_ifCond_ne, x_ifCond_neb, x_jsr, u_285_17, x_ireturn, u_285_19, x_aload0, x_istore4i, x_istore4r, x_istore4u, x_istore5i, x_istore5r, x_istore5u, x_istore6i, x_istore6r, x_istore6u, x_iload6, x_if_icmp_ge, x_iload4, x_iload2, x_call4_0, x_call4_1, x_call4_2, x_call4_3, x_call4_4, k_69_32, x_imul, x_iadd, x_goto, u_285_76, u_285_77, x_istore7i, x_istore7r, x_istore7u, u_285_95, x_iload7, x_call2_0, x_call2_1, x_call2_2, x_call2_3, x_call2_4, u_285_111, u_285_116, u_285_117, x_iload5, u_285_135, u_285_136, x_iinc6i, x_iinc6r, x_iinc6u, u_285_145, u_285_159, u_285_161, ia_86, m_shi, m_nin, ↓reduceIte, b01_0, ite_not, if_true, if_false, Int.reduceLT, Int.reduceEq]
theorem q_would (h : Rel I J) {a b c : Int} (ha : rg a) (hb : rg b) (hc : rg c) : pr X d I J 160 285 [.int (iI a), .int (iI b), .int (iI c)] := by
  by_cases q : 0 ≤ a ∧ a ≤ 3
  · rcases (by omega : a = 0 ∨ a = 1 ∨ a = 2 ∨ a = 3) with rfl | rfl | rfl | rfl
    · exact q_would0 h hb hc
    · exact q_would1 h hb hc
    · exact q_would2 h hb hc
    · exact q_would3 h hb hc
  · have e := m_shk (X := X) (d := d + 27) (I := I) (J := J) ha
    rw [if_neg q] at e
    refine ⟨-1, I, J, I, J, ?_, ?_, h⟩
    · simp (disch := omega) only [v_160_0, u_160_0, x_iload1, x_sipush, x_call3_0, x_call3_1, x_call3_2, x_call3_3, x_call3_4, e_k_s, e_k_i, List.nil_append, List.cons_append, x_ifCond_ne, x_ifCond_neb, x_iload3, x_ifCond_eq, x_ifCond_eqb, x_jsr, u_160_19, x_ireturn, u_160_21, x_aload0, k_0_6, x_call2_0, x_call2_1, x_call2_2, x_call2_3, x_call2_4, x_istore4i, x_istore4r, x_istore4u, x_iload4, u_160_41, k_0_0, x_call1_0, x_call1_1, x_call1_2, x_call1_3, x_call1_4, x_istore5i, x_istore5r, x_istore5u, x_iload2, x_call4_0, x_call4_1, x_call4_2, x_call4_3, x_call4_4, x_istore6i, x_istore6r, x_istore6u, x_iload5, x_iload6, aa_53_0, aa_53_1, aa_53_2, aa_53_3, b_nin, ↓reduceIte, b01_0, ite_not, if_true, if_false, Int.reduceLT, Int.reduceEq]
    · simp (disch := omega) only [v_285_69, u_285_0, x_iload1, x_call1_0, x_call1_1, x_call1_2, x_call1_3, x_call1_4, e_k_s, e_k_i, List.nil_append, List.cons_append, x_ifCond_eq, x_ifCond_eqb, x_iload3, x_sipush, x_call3_0, x_call3_1, x_call3_2, x_call3_3, x_call3_4, x_ifCond_ne, x_ifCond_neb, x_jsr, u_285_17, x_ireturn, u_285_19, x_aload0, x_istore4i, x_istore4r, x_istore4u, x_istore5i, x_istore5r, x_istore5u, x_istore6i, x_istore6r, x_istore6u, x_iload6, x_if_icmp_ge, x_iload4, x_iload2, x_call4_0, x_call4_1, x_call4_2, x_call4_3, x_call4_4, k_69_32, x_imul, x_iadd, x_goto, u_285_76, u_285_77, x_istore7i, x_istore7r, x_istore7u, u_285_95, x_iload7, x_call2_0, x_call2_1, x_call2_2, x_call2_3, x_call2_4, u_285_111, u_285_116, u_285_117, x_iload5, u_285_135, u_285_136, x_iinc6i, x_iinc6r, x_iinc6u, u_285_145, u_285_159, u_285_161, ia_86, e, ↓reduceIte, b01_0, ite_not, if_true, if_false, Int.reduceLT, Int.reduceEq]
end
