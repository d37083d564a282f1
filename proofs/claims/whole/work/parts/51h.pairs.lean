/-! PAIRS: suppers, bars, games -/
theorem mpo_self {I : Nat → Int → Int} : mpo I (I 69 21, I 69 22, I 69 23, I 69 24, I 80) (I 79) (I 78) = I := by
  funext o k
  unfold mpo
  (repeat' split) <;> simp_all
section
variable {X : e_X} {d : Nat} {I J : Nat → Int → Int}
theorem m_iss0 {n a : Int} (e : I 70 6 = n) (h : 0 ≤ n ∧ n ≤ 6) (ha : rg a) : s_S X (d + 2) 255 [.ref 69, .int (iI a)] (mm I J) = some ([.int (iI (if 0 ≤ a ∧ a ≤ 2 ^ n.toNat - 1 then 1 else 0))], mm I J) := by
  have h64 := pw_6 h
  have h1 : (0 : Int) < 2 ^ n.toNat := Int.pow_pos (by decide)
  have e3 := shn_i h
  simp (disch := omega) only [v_255_69, u_255_0, x_iload1, x_sipush, x_aload0, k_69_0, x_ishl, x_isub, x_call3_0, x_call3_1, x_call3_2, x_call3_3, x_call3_4, e_k_s, e_k_i, List.nil_append, List.cons_append, x_zret0, x_zret1, x_zretb, ia_70, m_in1, e, e3, ↓reduceIte, b01_0, ite_not, if_true, if_false, Int.reduceLT, Int.reduceEq]
theorem q_supper (h : Rel I J) {a b : Int} (ha : rg a) (hb : rg b) : pr X d I J 141 254 [.int (iI a), .int (iI b)] := by
  have h1 := h.1.1.1
  have e6 := h.1.2.2.2.1.2.1
  have h64 := pw_6 h1
  have h65 := h.1.1.2.1
  have ea := t_all (X := X) (d := d + 28) (J := J) h1
  have em := fun M => m_pln (X := X) (d := d + 27) (I := M) (J := J) (n := a) ha
  have es := fun (B : Nat → Int → Int) (eB : B 70 6 = I 1 9) => m_iss0 (X := X) (d := d + 27) (J := J) eB h1 hb
  by_cases q : 0 ≤ a ∧ a ≤ 4
  · by_cases q2 : 0 ≤ b ∧ b ≤ 2 ^ (I 1 9).toNat - 1
    · obtain ⟨I1, I2, g, g', e1, k1, e2, k2, p, p1, p2, f, f', _⟩ := tries (X := X) (d := d) h (n := a) (wt := b) q (by omega)
      have f1 := f.2.2.2.1
      have f2 := f'.2.2.1
      have k70' : I1 70 6 = I 1 9 := by
        rw [k1 70 6 (by unfold scr; decide)]
        exact e6
      have es := es I1 k70'
      rw [if_pos q2] at es
      rcases p.2.2.2.1 with ⟨w1, w2, w3⟩ | ⟨w1, w2⟩
      · rw [← w1] at f2
        refine pr_q h (v := g.2.2.1) (I1 := I1) ?_ k1 (I2 := I2) ?_ k2
        · simp (disch := omega) only [v_141_0, u_141_0, x_iload1, x_sipush, x_call3_0, x_call3_1, x_call3_2, x_call3_3, x_call3_4, e_k_s, e_k_i, List.nil_append, List.cons_append, x_ifCond_ne, x_ifCond_neb, x_iload2, x_aload0, k_0_0, x_call1_0, x_call1_1, x_call1_2, x_call1_3, x_call1_4, x_ifCond_eq, x_ifCond_eqb, x_jsr, u_141_24, x_ireturn, u_141_26, k_0_4, f_48_7, b_in, ea, e1, f1, ↓reduceIte, b01_0, ite_not, if_true, if_false, Int.reduceLT, Int.reduceEq]
        · simp (disch := omega) only [v_254_69, u_254_0, x_iload1, x_call1_0, x_call1_1, x_call1_2, x_call1_3, x_call1_4, e_k_s, e_k_i, List.nil_append, List.cons_append, x_ifCond_eq, x_ifCond_eqb, x_aload0, x_iload2, x_call2_0, x_call2_1, x_call2_2, x_call2_3, x_call2_4, x_ifCond_ne, x_ifCond_neb, x_jsr, u_254_15, x_sipush, x_ireturn, u_254_17, x_call3_0, x_call3_1, x_call3_2, x_call3_3, x_call3_4, f_69_23, x_if_icmp_le, x_goto, u_254_36, u_254_40, em, es, e2, f2, ↓reduceIte, b01_0, ite_not, if_true, if_false, Int.reduceLT, Int.reduceEq]
          rw [if_pos q, if_neg (by omega)]
      · rw [w1] at f1
        rw [w2] at f2
        refine pr_q h (v := -3) (I1 := I1) ?_ k1 (I2 := I2) ?_ k2
        · simp (disch := omega) only [v_141_0, u_141_0, x_iload1, x_sipush, x_call3_0, x_call3_1, x_call3_2, x_call3_3, x_call3_4, e_k_s, e_k_i, List.nil_append, List.cons_append, x_ifCond_ne, x_ifCond_neb, x_iload2, x_aload0, k_0_0, x_call1_0, x_call1_1, x_call1_2, x_call1_3, x_call1_4, x_ifCond_eq, x_ifCond_eqb, x_jsr, u_141_24, x_ireturn, u_141_26, k_0_4, f_48_7, b_in, ea, e1, f1, ↓reduceIte, b01_0, ite_not, if_true, if_false, Int.reduceLT, Int.reduceEq]
        · simp (disch := omega) only [v_254_69, u_254_0, x_iload1, x_call1_0, x_call1_1, x_call1_2, x_call1_3, x_call1_4, e_k_s, e_k_i, List.nil_append, List.cons_append, x_ifCond_eq, x_ifCond_eqb, x_aload0, x_iload2, x_call2_0, x_call2_1, x_call2_2, x_call2_3, x_call2_4, x_ifCond_ne, x_ifCond_neb, x_jsr, u_254_15, x_sipush, x_ireturn, u_254_17, x_call3_0, x_call3_1, x_call3_2, x_call3_3, x_call3_4, f_69_23, x_if_icmp_le, x_goto, u_254_36, u_254_40, em, es, e2, f2, ↓reduceIte, b01_0, ite_not, if_true, if_false, Int.reduceLT, Int.reduceEq]
          rw [if_pos q]
    · have es := es I e6
      rw [if_neg q2] at es
      refine ⟨-1, I, J, I, J, ?_, ?_, h⟩
      · simp (disch := omega) only [v_141_0, u_141_0, x_iload1, x_sipush, x_call3_0, x_call3_1, x_call3_2, x_call3_3, x_call3_4, e_k_s, e_k_i, List.nil_append, List.cons_append, x_ifCond_ne, x_ifCond_neb, x_iload2, x_aload0, k_0_0, x_call1_0, x_call1_1, x_call1_2, x_call1_3, x_call1_4, x_ifCond_eq, x_ifCond_eqb, x_jsr, u_141_24, x_ireturn, u_141_26, k_0_4, f_48_7, b_in, b_nin, ea, ↓reduceIte, b01_0, ite_not, if_true, if_false, Int.reduceLT, Int.reduceEq]
      · simp (disch := omega) only [v_254_69, u_254_0, x_iload1, x_call1_0, x_call1_1, x_call1_2, x_call1_3, x_call1_4, e_k_s, e_k_i, List.nil_append, List.cons_append, x_ifCond_eq, x_ifCond_eqb, x_aload0, x_iload2, x_call2_0, x_call2_1, x_call2_2, x_call2_3, x_call2_4, x_ifCond_ne, x_ifCond_neb, x_jsr, u_254_15, x_sipush, x_ireturn, u_254_17, x_call3_0, x_call3_1, x_call3_2, x_call3_3, x_call3_4, f_69_23, x_if_icmp_le, x_goto, u_254_36, u_254_40, em, es, ↓reduceIte, b01_0, ite_not, if_true, if_false, Int.reduceLT, Int.reduceEq]
        rw [if_pos q]
  · refine ⟨-1, I, J, I, J, ?_, ?_, h⟩
    · simp (disch := omega) only [v_141_0, u_141_0, x_iload1, x_sipush, x_call3_0, x_call3_1, x_call3_2, x_call3_3, x_call3_4, e_k_s, e_k_i, List.nil_append, List.cons_append, x_ifCond_ne, x_ifCond_neb, x_iload2, x_aload0, k_0_0, x_call1_0, x_call1_1, x_call1_2, x_call1_3, x_call1_4, x_ifCond_eq, x_ifCond_eqb, x_jsr, u_141_24, x_ireturn, u_141_26, k_0_4, f_48_7, b_nin, ↓reduceIte, b01_0, ite_not, if_true, if_false, Int.reduceLT, Int.reduceEq]
    · simp (disch := omega) only [v_254_69, u_254_0, x_iload1, x_call1_0, x_call1_1, x_call1_2, x_call1_3, x_call1_4, e_k_s, e_k_i, List.nil_append, List.cons_append, x_ifCond_eq, x_ifCond_eqb, x_aload0, x_iload2, x_call2_0, x_call2_1, x_call2_2, x_call2_3, x_call2_4, x_ifCond_ne, x_ifCond_neb, x_jsr, u_254_15, x_sipush, x_ireturn, u_254_17, x_call3_0, x_call3_1, x_call3_2, x_call3_3, x_call3_4, f_69_23, x_if_icmp_le, x_goto, u_254_36, u_254_40, em, ↓reduceIte, b01_0, ite_not, if_true, if_false, Int.reduceLT, Int.reduceEq]
      rw [if_neg q]
theorem m_lof {n s : Int} (e : I 70 6 = n) (h : 0 ≤ n ∧ n ≤ 6) (hs : 0 ≤ s ∧ s < 64) {v1 v2 : Int32} : ∀ (r : Nat) (k : Int), 0 ≤ k → k + r = n → s_j X (d + 1) 256 35 [.ref 69, .int v1, .int v2, .int (iI s), .int (iI k)] [] (mm I J) = some ([.int (iI (lof s r k))], mm I J) := by
  intro r
  induction r with
  | zero =>
    intro k k0 kn
    rw [u_256_35]
    simp (disch := omega) only [v_256_69, u_256_0, x_iload1, x_call1_0, x_call1_1, x_call1_2, x_call1_3, x_call1_4, e_k_s, e_k_i, List.nil_append, List.cons_append, x_ifCond_eq, x_ifCond_eqb, x_aload0, x_iload2, x_call2_0, x_call2_1, x_call2_2, x_call2_3, x_call2_4, x_ifCond_ne, x_ifCond_neb, x_jsr, u_256_15, x_sipush, x_ireturn, u_256_17, x_call3_0, x_call3_1, x_call3_2, x_call3_3, x_call3_4, f_69_24, x_ixor, x_iand, x_istore3i, x_istore3r, x_istore3u, x_istore4i, x_istore4r, x_istore4u, x_iload4, k_69_0, x_if_icmp_ge, x_iload3, x_ishr, x_iinc4i, x_iinc4r, x_iinc4u, x_goto, u_256_62, u_256_79, u_256_81, ia_70, e, ↓reduceIte, b01_0, ite_not, if_true, if_false, Int.reduceLT, Int.reduceEq]
    rw [if_neg (by omega), if_neg (by omega)]
    rfl
  | succ r ih =>
    intro k k0 kn
    have e1 := ih (k + 1) (by omega) (by omega)
    have e2 := bt_i (s := s) (k := k) hs (by omega)
    have hb := bt_01 s k
    rw [u_256_35]
    unfold lof
    by_cases q : bt s k = 1
    · rw [if_pos q]
      rw [q] at e2
      simp (disch := omega) only [v_256_69, u_256_0, x_iload1, x_call1_0, x_call1_1, x_call1_2, x_call1_3, x_call1_4, e_k_s, e_k_i, List.nil_append, List.cons_append, x_ifCond_eq, x_ifCond_eqb, x_aload0, x_iload2, x_call2_0, x_call2_1, x_call2_2, x_call2_3, x_call2_4, x_ifCond_ne, x_ifCond_neb, x_jsr, u_256_15, x_sipush, x_ireturn, u_256_17, x_call3_0, x_call3_1, x_call3_2, x_call3_3, x_call3_4, f_69_24, x_ixor, x_iand, x_istore3i, x_istore3r, x_istore3u, x_istore4i, x_istore4r, x_istore4u, x_iload4, k_69_0, x_if_icmp_ge, x_iload3, x_ishr, x_iinc4i, x_iinc4r, x_iinc4u, x_goto, u_256_62, u_256_79, u_256_81, ia_70, e, e1, e2, ↓reduceIte, b01_0, ite_not, if_true, if_false, Int.reduceLT, Int.reduceEq]
      rw [if_pos (by omega), if_pos (by omega)]
    · rw [if_neg q]
      rw [show bt s k = 0 by omega] at e2
      simp (disch := omega) only [v_256_69, u_256_0, x_iload1, x_call1_0, x_call1_1, x_call1_2, x_call1_3, x_call1_4, e_k_s, e_k_i, List.nil_append, List.cons_append, x_ifCond_eq, x_ifCond_eqb, x_aload0, x_iload2, x_call2_0, x_call2_1, x_call2_2, x_call2_3, x_call2_4, x_ifCond_ne, x_ifCond_neb, x_jsr, u_256_15, x_sipush, x_ireturn, u_256_17, x_call3_0, x_call3_1, x_call3_2, x_call3_3, x_call3_4, f_69_24, x_ixor, x_iand, x_istore3i, x_istore3r, x_istore3u, x_istore4i, x_istore4r, x_istore4u, x_iload4, k_69_0, x_if_icmp_ge, x_iload3, x_ishr, x_iinc4i, x_iinc4r, x_iinc4u, x_goto, u_256_62, u_256_79, u_256_81, ia_70, e, e1, e2, ↓reduceIte, b01_0, ite_not, if_true, if_false, Int.reduceLT, Int.reduceEq]
      rw [if_pos (by omega)]
theorem q_bars (h : Rel I J) {a b : Int} (ha : rg a) (hb : rg b) : pr X d I J 142 256 [.int (iI a), .int (iI b)] := by
  have h1 := h.1.1.1
  have e6 := h.1.2.2.2.1.2.1
  have h64 := pw_6 h1
  have h65 := h.1.1.2.1
  have ea := t_all (X := X) (d := d + 28) (J := J) h1
  have em := fun M => m_pln (X := X) (d := d + 27) (I := M) (J := J) (n := a) ha
  have es := fun (B : Nat → Int → Int) (eB : B 70 6 = I 1 9) => m_iss0 (X := X) (d := d + 27) (J := J) eB h1 hb
  by_cases q : 0 ≤ a ∧ a ≤ 4
  · by_cases q2 : 0 ≤ b ∧ b ≤ 2 ^ (I 1 9).toNat - 1
    · obtain ⟨I1, I2, g, g', e1, k1, e2, k2, p, p1, p2, f, f', _⟩ := tries (X := X) (d := d) h (n := a) (wt := b) q (by omega)
      have f1 := f.2.2.2.2.1
      have f2 := f'.2.2.2.1
      rw [← p.2.2.2.2.1] at f2
      have hev := p1.2.2.2
      have ex := (adn_i (a := b) (b := g.2.2.2.1) (by omega) (by omega)).1
      have hsub : 0 ≤ b - ann b g.2.2.2.1 ∧ b - ann b g.2.2.2.1 < 64 := by
        have : b.toNat &&& g.2.2.2.1.toNat ≤ b.toNat := Nat.and_le_left
        unfold ann
        omega
      have el := lof_n h1 (nev_no h1 (wt := b) (ev := g.2.2.2.1) (by omega))
      have e3 := b_lof (X := X) (d := d + 28) (I := I1) (J := J) hsub
      have k70 : I2 70 6 = I 1 9 := by
        rw [k2 70 6 (by unfold scr; decide), k1 70 6 (by unfold scr; decide)]
        exact e6
      have e4 := m_lof (X := X) (d := d + 28) (J := J) k70 h1 hsub (v1 := iI a) (v2 := iI b) (I 1 9).toNat 0 (by decide) (by omega)
      rw [← el] at e4
      have k70' : I1 70 6 = I 1 9 := by
        rw [k1 70 6 (by unfold scr; decide)]
        exact e6
      have es := es I1 k70'
      rw [if_pos q2] at es
      refine pr_q h (v := lof (b - ann b g.2.2.2.1) 6 0) (I1 := I1) ?_ k1 (I2 := I2) ?_ k2
      · simp (disch := omega) only [v_142_0, u_142_0, x_iload1, x_sipush, x_call3_0, x_call3_1, x_call3_2, x_call3_3, x_call3_4, e_k_s, e_k_i, List.nil_append, List.cons_append, x_ifCond_ne, x_ifCond_neb, x_iload2, x_aload0, k_0_0, x_call1_0, x_call1_1, x_call1_2, x_call1_3, x_call1_4, x_ifCond_eq, x_ifCond_eqb, x_jsr, u_142_24, x_ireturn, u_142_26, k_0_4, f_48_8, x_ixor, x_iand, b_in, ea, e1, f1, ex, e3, ↓reduceIte, b01_0, ite_not, if_true, if_false, Int.reduceLT, Int.reduceEq]
      · simp (disch := omega) only [v_256_69, u_256_0, x_iload1, x_call1_0, x_call1_1, x_call1_2, x_call1_3, x_call1_4, e_k_s, e_k_i, List.nil_append, List.cons_append, x_ifCond_eq, x_ifCond_eqb, x_aload0, x_iload2, x_call2_0, x_call2_1, x_call2_2, x_call2_3, x_call2_4, x_ifCond_ne, x_ifCond_neb, x_jsr, u_256_15, x_sipush, x_ireturn, u_256_17, x_call3_0, x_call3_1, x_call3_2, x_call3_3, x_call3_4, f_69_24, x_ixor, x_iand, x_istore3i, x_istore3r, x_istore3u, x_istore4i, x_istore4r, x_istore4u, x_iload4, k_69_0, x_if_icmp_ge, x_iload3, x_ishr, x_iinc4i, x_iinc4r, x_iinc4u, x_goto, u_256_62, u_256_79, u_256_81, ia_70, em, es, e2, f2, ex, e4, ↓reduceIte, b01_0, ite_not, if_true, if_false, Int.reduceLT, Int.reduceEq]
        rw [if_pos q]
    · have es := es I e6
      rw [if_neg q2] at es
      refine ⟨-1, I, J, I, J, ?_, ?_, h⟩
      · simp (disch := omega) only [v_142_0, u_142_0, x_iload1, x_sipush, x_call3_0, x_call3_1, x_call3_2, x_call3_3, x_call3_4, e_k_s, e_k_i, List.nil_append, List.cons_append, x_ifCond_ne, x_ifCond_neb, x_iload2, x_aload0, k_0_0, x_call1_0, x_call1_1, x_call1_2, x_call1_3, x_call1_4, x_ifCond_eq, x_ifCond_eqb, x_jsr, u_142_24, x_ireturn, u_142_26, k_0_4, f_48_8, x_ixor, x_iand, b_in, b_nin, ea, ↓reduceIte, b01_0, ite_not, if_true, if_false, Int.reduceLT, Int.reduceEq]
      · simp (disch := omega) only [v_256_69, u_256_0, x_iload1, x_call1_0, x_call1_1, x_call1_2, x_call1_3, x_call1_4, e_k_s, e_k_i, List.nil_append, List.cons_append, x_ifCond_eq, x_ifCond_eqb, x_aload0, x_iload2, x_call2_0, x_call2_1, x_call2_2, x_call2_3, x_call2_4, x_ifCond_ne, x_ifCond_neb, x_jsr, u_256_15, x_sipush, x_ireturn, u_256_17, x_call3_0, x_call3_1, x_call3_2, x_call3_3, x_call3_4, f_69_24, x_ixor, x_iand, x_istore3i, x_istore3r, x_istore3u, x_istore4i, x_istore4r, x_istore4u, x_iload4, k_69_0, x_if_icmp_ge, x_iload3, x_ishr, x_iinc4i, x_iinc4r, x_iinc4u, x_goto, u_256_62, u_256_79, u_256_81, ia_70, em, es, ↓reduceIte, b01_0, ite_not, if_true, if_false, Int.reduceLT, Int.reduceEq]
        rw [if_pos q]
  · refine ⟨-1, I, J, I, J, ?_, ?_, h⟩
    · simp (disch := omega) only [v_142_0, u_142_0, x_iload1, x_sipush, x_call3_0, x_call3_1, x_call3_2, x_call3_3, x_call3_4, e_k_s, e_k_i, List.nil_append, List.cons_append, x_ifCond_ne, x_ifCond_neb, x_iload2, x_aload0, k_0_0, x_call1_0, x_call1_1, x_call1_2, x_call1_3, x_call1_4, x_ifCond_eq, x_ifCond_eqb, x_jsr, u_142_24, x_ireturn, u_142_26, k_0_4, f_48_8, x_ixor, x_iand, b_nin, ↓reduceIte, b01_0, ite_not, if_true, if_false, Int.reduceLT, Int.reduceEq]
    · simp (disch := omega) only [v_256_69, u_256_0, x_iload1, x_call1_0, x_call1_1, x_call1_2, x_call1_3, x_call1_4, e_k_s, e_k_i, List.nil_append, List.cons_append, x_ifCond_eq, x_ifCond_eqb, x_aload0, x_iload2, x_call2_0, x_call2_1, x_call2_2, x_call2_3, x_call2_4, x_ifCond_ne, x_ifCond_neb, x_jsr, u_256_15, x_sipush, x_ireturn, u_256_17, x_call3_0, x_call3_1, x_call3_2, x_call3_3, x_call3_4, f_69_24, x_ixor, x_iand, x_istore3i, x_istore3r, x_istore3u, x_istore4i, x_istore4r, x_istore4u, x_iload4, k_69_0, x_if_icmp_ge, x_iload3, x_ishr, x_iinc4i, x_iinc4r, x_iinc4u, x_goto, u_256_62, u_256_79, u_256_81, ia_70, em, ↓reduceIte, b01_0, ite_not, if_true, if_false, Int.reduceLT, Int.reduceEq]
      rw [if_neg q]
/-- both have played the game -/
theorem plays (h : Rel I J) {M : Nat → Int → Int} (hM : M 70 = I 70) {n : Int} (hn : 1 ≤ n ∧ n ≤ 4) : ∃ (P' : Int → Int) (A' S' : Int → Int), s_S X (d + 28) 247 [.ref 69, .int (iI n)] (mm M J) = some ([.int (iI (yec I (cof I) n))], mm M J) ∧ s_S X (d + 28) 258 [.ref 69, .int (iI 0), .int (iI (yec I (cof I) n))] (mm M J) = some ([.int (iI (gam I (yec I (cof I) n).toNat true (cof I)))], mm (mk (mpo M (M 69 21, M 69 22, M 69 23, M 69 24, M 80) A' S') (I 1 9) (cof I) (I 1 13) P') J) ∧ (∀ y : Nat, yec I (cof I) n = (y : Int) + 1 → A' 0 = (lga I y (cof I)).1) ∧ kp M (mk (mpo M (M 69 21, M 69 22, M 69 23, M 69 24, M 80) A' S') (I 1 9) (cof I) (I 1 13) P') := by
  have hi := h.1.1
  have hE := h.1.2.2.2.1
  have hc := inv_cof hi
  have hy := yec_b (I := I) (m := n) (by omega) hc
  have hself : mk M (I 1 9) (cof I) (I 1 13) (M 73) = M := mk_self2 h.1.2.2.2.2.2.2 hM
  have e1 := m_days (X := X) (d := d + 26) (J := J) (M := M) hi (by rw [hM]; exact hE) hc (sc := I 1 13) (P := M 73) (n := n) ⟨by omega, by omega⟩
  rw [hself] at e1
  obtain ⟨A', S', P', e2, -, e3⟩ := m_pl (X := X) (J := J) (M := M) hi (by rw [hM]; exact hE) (by rw [hM]; exact h.1.2.2.2.2.1) h.1.2.1 (len := yec I (cof I) n) (by omega) (g := (M 69 21, M 69 22, M 69 23, M 69 24, M 80)) (yec I (cof I) n).toNat (d + 28) (cof I) (I 1 13) (M 79) (M 78) (M 73) (by omega) (by omega) hc (by omega)
  rw [mpo_self, hself, show yec I (cof I) n - ((yec I (cof I) n).toNat : Int) = 0 by omega] at e2
  rw [show yec I (cof I) n - ((yec I (cof I) n).toNat : Int) = 0 by omega] at e3
  refine ⟨P', A', S', e1, e2, fun y hy' => ?_, kp_mk hself kp_mpo rfl⟩
  have := e3 y (by omega)
  rw [this]
  exact congrArg Prod.fst cho_lga
theorem q_game (h : Rel I J) {a : Int} (ha : rg a) : pr X d I J 143 257 [.int (iI a)] := by
  by_cases q : 1 ≤ a ∧ a ≤ 4
  · have hi := h.1.1
    have hc := inv_cof hi
    have hy := yec_b (I := I) (m := a) (by omega) hc
    have f1 := t_yt (X := X) (d := d + 28) (J := J) hi hc (F := I 14) ha
    rw [bk_self] at f1
    obtain ⟨F', f2⟩ := p_gam (X := X) (J := J) hi h.1.2.1 (yec I (cof I) a).toNat (d + 29) true (cof I) (I 14) (by omega) (by omega) hc (by omega)
    rw [bk_self, show (((yec I (cof I) a).toNat : Nat) : Int) = yec I (cof I) a by omega, if_pos rfl] at f2
    obtain ⟨P', A', S', e1, e2, e3, k⟩ := plays (X := X) (d := d + 1) h (M := bk I (cof I) F') rfl q
    generalize hB : bk I (cof I) F' = B at *
    have kB : kp I B := by rw [← hB]; exact kp_bk
    refine pr_q h (v := gam I (yec I (cof I) a).toNat true (cof I)) (I1 := B) ?_ kB (I2 := mk (mpo B (B 69 21, B 69 22, B 69 23, B 69 24, B 80) A' S') (I 1 9) (cof I) (I 1 13) P') ?_ k
    · simp (disch := omega) only [v_143_0, u_143_0, x_iload1, x_sipush, x_call3_0, x_call3_1, x_call3_2, x_call3_3, x_call3_4, e_k_s, e_k_i, List.nil_append, List.cons_append, x_ifCond_eq, x_ifCond_eqb, x_ireturn, u_143_11, x_aload0, k_0_4, k_0_0, x_call2_0, x_call2_1, x_call2_2, x_call2_3, x_call2_4, b_in, f1, f2, ↓reduceIte, b01_0, ite_not, if_true, if_false, Int.reduceLT, Int.reduceEq]
    · simp (disch := omega) only [v_257_69, u_257_0, x_iload1, x_sipush, x_call3_0, x_call3_1, x_call3_2, x_call3_3, x_call3_4, e_k_s, e_k_i, List.nil_append, List.cons_append, x_ifCond_eq, x_ifCond_eqb, x_aload0, x_call2_0, x_call2_1, x_call2_2, x_call2_3, x_call2_4, x_goto, u_257_22, x_jsr, u_257_23, x_ireturn, m_in, e1, e2, ↓reduceIte, b01_0, ite_not, if_true, if_false, Int.reduceLT, Int.reduceEq]
  · refine ⟨-1, I, J, I, J, ?_, ?_, h⟩
    · simp (disch := omega) only [v_143_0, u_143_0, x_iload1, x_sipush, x_call3_0, x_call3_1, x_call3_2, x_call3_3, x_call3_4, e_k_s, e_k_i, List.nil_append, List.cons_append, x_ifCond_eq, x_ifCond_eqb, x_ireturn, u_143_11, x_aload0, k_0_4, k_0_0, x_call2_0, x_call2_1, x_call2_2, x_call2_3, x_call2_4, b_nin, ↓reduceIte, b01_0, ite_not, if_true, if_false, Int.reduceLT, Int.reduceEq]
    · simp (disch := omega) only [v_257_69, u_257_0, x_iload1, x_sipush, x_call3_0, x_call3_1, x_call3_2, x_call3_3, x_call3_4, e_k_s, e_k_i, List.nil_append, List.cons_append, x_ifCond_eq, x_ifCond_eqb, x_aload0, x_call2_0, x_call2_1, x_call2_2, x_call2_3, x_call2_4, x_goto, u_257_22, x_jsr, u_257_23, x_ireturn, m_nin, ↓reduceIte, b01_0, ite_not, if_true, if_false, Int.reduceLT, Int.reduceEq]
theorem q_play (h : Rel I J) {a : Int} (ha : rg a) : pr X d I J 144 259 [.int (iI a)] := by
  by_cases q : 1 ≤ a ∧ a ≤ 4
  · have hi := h.1.1
    have hE := h.1.2.2.2.1
    have hc := inv_cof hi
    have h16 := hi.2.2.1
    have h17 := hi.2.2.2.1
    have hy := yec_b (I := I) (m := a) (by omega) hc
    have o1 := t_over (X := X) (d := d + 28) (I := I) (J := J) rfl rfl ⟨⟨by omega, by omega⟩, ⟨by omega, by omega⟩⟩
    have o2 := fun (B : Nat → Int → Int) (hB : B 70 = I 70) => m_over (X := X) (d := d + 28) (I := B) (J := J) (y := I 1 11) (e := I 1 12) (by rw [hB]; exact h.1.2.2.2.2.2.2.1) (by rw [hB]; exact hE.1) ⟨⟨by omega, by omega⟩, ⟨by omega, by omega⟩⟩
    by_cases q2 : I 1 12 ≤ I 1 11
    · rw [if_pos q2] at o1
      have o2 := o2 I rfl
      rw [if_pos q2] at o2
      refine ⟨-3, I, J, I, J, ?_, ?_, h⟩
      · simp (disch := omega) only [v_144_0, u_144_0, x_iload1, x_sipush, x_call3_0, x_call3_1, x_call3_2, x_call3_3, x_call3_4, e_k_s, e_k_i, List.nil_append, List.cons_append, x_ifCond_eq, x_ifCond_eqb, x_ireturn, u_144_11, x_aload0, k_0_0, x_call1_0, x_call1_1, x_call1_2, x_call1_3, x_call1_4, x_goto, u_144_26, k_0_4, x_call2_0, x_call2_1, x_call2_2, x_call2_3, x_call2_4, x_jsr, u_144_41, b_in, o1, ↓reduceIte, b01_0, ite_not, if_true, if_false, Int.reduceLT, Int.reduceEq]
      · simp (disch := omega) only [v_259_69, u_259_0, x_iload1, x_sipush, x_call3_0, x_call3_1, x_call3_2, x_call3_3, x_call3_4, e_k_s, e_k_i, List.nil_append, List.cons_append, x_ifCond_ne, x_ifCond_neb, x_ireturn, u_259_11, x_aload0, x_call1_0, x_call1_1, x_call1_2, x_call1_3, x_call1_4, x_ifCond_eq, x_ifCond_eqb, u_259_21, x_call2_0, x_call2_1, x_call2_2, x_call2_3, x_call2_4, x_istore2i, x_istore2r, x_istore2u, x_iload2, x_ifCond_ge, x_goto, u_259_41, k_69_19, x_jsr, u_259_47, ia_79, m_in, o2, ↓reduceIte, b01_0, ite_not, if_true, if_false, Int.reduceLT, Int.reduceEq]
    · rw [if_neg q2] at o1
      have hy1 : 1 ≤ yec I (cof I) a := by
        unfold yec
        show 1 ≤ max 0 (min a (I 1 12 - I 1 11))
        omega
      obtain ⟨y, hy2⟩ : ∃ y : Nat, yec I (cof I) a = (y : Int) + 1 := ⟨(yec I (cof I) a).toNat - 1, by omega⟩
      have gb := gam_b hi (yec I (cof I) a).toNat true (cof I) hc (by omega)
      have f1 := t_yt (X := X) (d := d + 28) (J := J) hi hc (F := I 14) ha
      rw [bk_self] at f1
      obtain ⟨F', f2⟩ := p_lga (X := X) (d := d + 15) (J := J) hi h.1.2.1 (y := y) hc (by omega) (by omega) (I 14)
      rw [bk_self, show ((y + 1 : Nat) : Int) = yec I (cof I) a by omega] at f2
      obtain ⟨P', A', S', e1, e2, e3, k⟩ := plays (X := X) (d := d + 1) h (M := bk I (cof I) F') rfl q
      have e4 := e3 y hy2
      have o2 := o2 (bk I (cof I) F') rfl
      rw [if_neg q2] at o2
      generalize hB : bk I (cof I) F' = B at *
      have kB : kp I B := by rw [← hB]; exact kp_bk
      have e5 : mk (mpo B (B 69 21, B 69 22, B 69 23, B 69 24, B 80) A' S') (I 1 9) (cof I) (I 1 13) P' 79 0 = (lga I y (cof I)).1 := e4
      refine pr_q h (v := (lga I y (cof I)).1) (I1 := B) ?_ kB (I2 := mk (mpo B (B 69 21, B 69 22, B 69 23, B 69 24, B 80) A' S') (I 1 9) (cof I) (I 1 13) P') ?_ k
      · simp (disch := omega) only [v_144_0, u_144_0, x_iload1, x_sipush, x_call3_0, x_call3_1, x_call3_2, x_call3_3, x_call3_4, e_k_s, e_k_i, List.nil_append, List.cons_append, x_ifCond_eq, x_ifCond_eqb, x_ireturn, u_144_11, x_aload0, k_0_0, x_call1_0, x_call1_1, x_call1_2, x_call1_3, x_call1_4, x_goto, u_144_26, k_0_4, x_call2_0, x_call2_1, x_call2_2, x_call2_3, x_call2_4, x_jsr, u_144_41, b_in, o1, f1, f2, ↓reduceIte, b01_0, ite_not, if_true, if_false, Int.reduceLT, Int.reduceEq]
      · simp (disch := omega) only [v_259_69, u_259_0, x_iload1, x_sipush, x_call3_0, x_call3_1, x_call3_2, x_call3_3, x_call3_4, e_k_s, e_k_i, List.nil_append, List.cons_append, x_ifCond_ne, x_ifCond_neb, x_ireturn, u_259_11, x_aload0, x_call1_0, x_call1_1, x_call1_2, x_call1_3, x_call1_4, x_ifCond_eq, x_ifCond_eqb, u_259_21, x_call2_0, x_call2_1, x_call2_2, x_call2_3, x_call2_4, x_istore2i, x_istore2r, x_istore2u, x_iload2, x_ifCond_ge, x_goto, u_259_41, k_69_19, x_jsr, u_259_47, ia_79, m_in, o2, e1, e2, e5, ↓reduceIte, b01_0, ite_not, if_true, if_false, Int.reduceLT, Int.reduceEq]
        rw [if_neg (by omega)]
  · refine ⟨-1, I, J, I, J, ?_, ?_, h⟩
    · simp (disch := omega) only [v_144_0, u_144_0, x_iload1, x_sipush, x_call3_0, x_call3_1, x_call3_2, x_call3_3, x_call3_4, e_k_s, e_k_i, List.nil_append, List.cons_append, x_ifCond_eq, x_ifCond_eqb, x_ireturn, u_144_11, x_aload0, k_0_0, x_call1_0, x_call1_1, x_call1_2, x_call1_3, x_call1_4, x_goto, u_144_26, k_0_4, x_call2_0, x_call2_1, x_call2_2, x_call2_3, x_call2_4, x_jsr, u_144_41, b_nin, ↓reduceIte, b01_0, ite_not, if_true, if_false, Int.reduceLT, Int.reduceEq]
    · simp (disch := omega) only [v_259_69, u_259_0, x_iload1, x_sipush, x_call3_0, x_call3_1, x_call3_2, x_call3_3, x_call3_4, e_k_s, e_k_i, List.nil_append, List.cons_append, x_ifCond_ne, x_ifCond_neb, x_ireturn, u_259_11, x_aload0, x_call1_0, x_call1_1, x_call1_2, x_call1_3, x_call1_4, x_ifCond_eq, x_ifCond_eqb, u_259_21, x_call2_0, x_call2_1, x_call2_2, x_call2_3, x_call2_4, x_istore2i, x_istore2r, x_istore2u, x_iload2, x_ifCond_ge, x_goto, u_259_41, k_69_19, x_jsr, u_259_47, ia_79, m_nin, ↓reduceIte, b01_0, ite_not, if_true, if_false, Int.reduceLT, Int.reduceEq]
end
