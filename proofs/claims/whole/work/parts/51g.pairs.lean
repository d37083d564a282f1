/-! PAIRS: plate, plans, the game -/
section
variable {X : e_X} {d : Nat} {I J : Nat → Int → Int}
theorem Rel_plate (h : Rel I J) {k p w g : Int} (hn : I 1 9 < 6) (hk : 1 ≤ k ∧ k ≤ 5) (hp : 0 ≤ p ∧ p ≤ 39) (hw : 0 ≤ w ∧ w ≤ 9) (hg : 0 ≤ g ∧ g ≤ 5) : Rel (up (up (up (up (up (up (up (up (up (up (up I 2 (I 1 9) k) 3 (I 1 9) p) 4 (I 1 9) w) 5 (I 1 9) g) 1 9 (I 1 9 + 1)) 70 (38 + 6 * I 1 9 + 0) k) 70 (38 + 6 * I 1 9 + 1) p) 70 (38 + 6 * I 1 9 + 2) w) 70 (38 + 6 * I 1 9 + 3) g) 70 (38 + 6 * I 1 9 + 4) 0) 70 6 (I 1 9 + 1)) J := by
  obtain ⟨a1, a2, a3, a4, a5, a6, a7⟩ := h.1
  obtain ⟨h1, h2, h3, h4, h5, h6, h7, h8, h9⟩ := id a1
  obtain ⟨b1, b2, b3, b4, b5⟩ := a4
  obtain ⟨c0, c2, c3, c4, c5, c6⟩ := a7
  have hpw : (2 : Int) ^ (I 1 9 + 1).toNat = 2 * 2 ^ (I 1 9).toNat := by
    rw [show (I 1 9 + 1).toNat = (I 1 9).toNat + 1 by omega, Int.pow_succ, Int.mul_comm]
  have hbt : bt (I 1 10) (I 1 9) = 0 := by
    unfold bt
    rw [Int.ediv_eq_zero_of_lt h2.1 h2.2]
    rfl
  refine Rel_tb h ⟨?_, rok_eq (I := I) rfl rfl rfl rfl rfl a2, ?_, ?_, RR_eq (I := I) (S := I 70) rfl rfl rfl rfl rfl ?_ (fun x hx => ?_) a5, ?_, ?_⟩ (fun o x _ q1 q2 => ?_)
  · refine ⟨?_, ?_, h3, h4, h5, h6, fun j j0 j1 => ?_, h8, h9⟩
    · show 0 ≤ I 1 9 + 1 ∧ I 1 9 + 1 ≤ 6
      omega
    · show 0 ≤ I 1 10 ∧ I 1 10 < 2 ^ (I 1 9 + 1).toNat
      rw [hpw]
      omega
    · have j1' : j < I 1 9 + 1 := j1
      show (1 ≤ up I 2 (I 1 9) k 2 j ∧ up I 2 (I 1 9) k 2 j ≤ 5) ∧ (0 ≤ up I 3 (I 1 9) p 3 j ∧ up I 3 (I 1 9) p 3 j ≤ 39) ∧ (0 ≤ up I 4 (I 1 9) w 4 j ∧ up I 4 (I 1 9) w 4 j ≤ 9) ∧ (0 ≤ up I 5 (I 1 9) g 5 j ∧ up I 5 (I 1 9) g 5 j ≤ 5)
      rw [up_row, up_row, up_row, up_row]
      by_cases e : j = I 1 9
      · simp only [if_pos e]
        exact ⟨hk, hp, hw, hg⟩
      · simp only [if_neg e]
        exact h7 j j0 (by omega)
  · exact a3
  · refine ⟨?_, ?_, fun j j0 j1 => ?_, fun q q0 q1 => ?_, fun y y0 y1 => ?_⟩
    · rw [up_k (by omega), up_k (by omega), up_k (by omega), up_k (by omega), up_k (by omega), up_k (by omega)]
      exact b1
    · rw [up_self]
      rfl
    · have j1' : j < I 1 9 + 1 := j1
      show up _ 70 6 _ 70 _ = up I 2 (I 1 9) k 2 j ∧ up _ 70 6 _ 70 _ = up I 3 (I 1 9) p 3 j ∧ up _ 70 6 _ 70 _ = up I 4 (I 1 9) w 4 j ∧ up _ 70 6 _ 70 _ = up I 5 (I 1 9) g 5 j
      simp only [up_row]
      by_cases e : j = I 1 9
      · subst e
        refine ⟨?_, ?_, ?_, ?_⟩ <;> ((repeat' split) <;> first | rfl | (exfalso; omega))
      · obtain ⟨e1, e2, e3, e4⟩ := b3 j j0 (by omega)
        refine ⟨?_, ?_, ?_, ?_⟩ <;> ((repeat' split) <;> first | assumption | (exfalso; omega))
    · obtain ⟨e1, e2⟩ := b4 q q0 q1
      refine ⟨?_, ?_⟩
      · rw [up_k (by omega), up_k (by omega), up_k (by omega), up_k (by omega), up_k (by omega), up_k (by omega)]
        exact e1
      · rw [up_k (by omega), up_k (by omega), up_k (by omega), up_k (by omega), up_k (by omega), up_k (by omega)]
        exact e2
    · rw [up_k (by omega), up_k (by omega), up_k (by omega), up_k (by omega), up_k (by omega), up_k (by omega)]
      exact b5 y y0 y1
  · rw [up_k (by omega), up_k (by omega), up_k (by omega), up_k (by omega), up_k (by omega), up_k (by omega)]
    rfl
  · rw [up_k (by omega), up_k (by omega), up_k (by omega), up_k (by omega), up_k (by omega), up_k (by omega)]
    rfl
  · refine ⟨?_, fun r r0 r1 => ?_⟩
    · rw [up_k (by omega), up_k (by omega), up_k (by omega), up_k (by omega), up_k (by omega), up_k (by omega)]
      exact a6.1
    · have := a3.1
      have r1' : r < I 15 4 := r1
      obtain ⟨e1, e2, e3, e4⟩ := a6.2 r r0 r1'
      refine ⟨?_, ?_, ?_, ?_⟩
      · rw [up_k (by omega), up_k (by omega), up_k (by omega), up_k (by omega), up_k (by omega), up_k (by omega)]
        exact e1
      · rw [up_k (by omega), up_k (by omega), up_k (by omega), up_k (by omega), up_k (by omega), up_k (by omega)]
        exact e2
      · rw [up_k (by omega), up_k (by omega), up_k (by omega), up_k (by omega), up_k (by omega), up_k (by omega)]
        exact e3
      · rw [up_k (by omega), up_k (by omega), up_k (by omega), up_k (by omega), up_k (by omega), up_k (by omega)]
        exact e4
  · refine ⟨?_, ?_, ?_, ?_, ?_, fun j j0 j1 => ?_⟩
    · rw [up_k (by omega), up_k (by omega), up_k (by omega), up_k (by omega), up_k (by omega), up_k (by omega)]
      exact c0
    · rw [up_k (by omega), up_k (by omega), up_k (by omega), up_k (by omega), up_k (by omega), up_k (by omega)]
      exact c2
    · rw [up_k (by omega), up_k (by omega), up_k (by omega), up_k (by omega), up_k (by omega), up_k (by omega)]
      exact c3
    · rw [up_k (by omega), up_k (by omega), up_k (by omega), up_k (by omega), up_k (by omega), up_k (by omega)]
      exact c4
    · rw [up_k (by omega), up_k (by omega), up_k (by omega), up_k (by omega), up_k (by omega), up_k (by omega)]
      exact c5
    · have j1' : j < I 1 9 + 1 := j1
      show up _ 70 6 _ 70 _ = bt (I 1 10) j
      simp only [up_row]
      by_cases e : j = I 1 9
      · subst e
        rw [hbt]
        (repeat' split) <;> first | rfl | (exfalso; omega)
      · have := c6 j j0 (by omega)
        (repeat' split) <;> first | assumption | (exfalso; omega)
  · rw [up_o q2, up_o q2, up_o q2, up_o q2, up_o q2, up_o q2, up_o (by omega), up_o (by omega), up_o (by omega), up_o (by omega), up_o (by omega)]
theorem q_plate (h : Rel I J) {k p w g : Int} (hk : rg k) (hp : rg p) (hw : rg w) (hg : rg g) : pr X d I J 108 188 [.int (iI k), .int (iI p), .int (iI w), .int (iI g)] := by
  have h1 := h.1.1.1
  have e6 := h.1.2.2.2.1.2.1
  by_cases q1 : 1 ≤ k ∧ k ≤ 5
  · by_cases q2 : 0 ≤ p ∧ p ≤ 39
    · by_cases q3 : 0 ≤ w ∧ w ≤ 9
      · by_cases q4 : 0 ≤ g ∧ g ≤ 5
        · by_cases q5 : I 1 9 = 6
          · refine ⟨-2, I, J, I, J, ?_, ?_, h⟩
            · simp (disch := omega) only [v_108_0, u_108_0, x_iload1, x_sipush, x_call3_0, x_call3_1, x_call3_2, x_call3_3, x_call3_4, e_k_s, e_k_i, List.nil_append, List.cons_append, x_ifCond_ne, x_ifCond_neb, x_iload2, x_ifCond_eq, x_ifCond_eqb, x_jsr, u_108_19, x_ireturn, u_108_21, x_iload3, x_iload4, u_108_41, u_108_43, x_aload0, k_0_0, f_1_9, x_if_icmp_lt, u_108_58, x_call5_0, x_call5_1, x_call5_2, x_call5_3, x_call5_4, b_in, q5, ↓reduceIte, b01_0, ite_not, if_true, if_false, Int.reduceLT, Int.reduceEq]
            · simp (disch := omega) only [v_188_69, u_188_0, x_iload1, x_sipush, x_call3_0, x_call3_1, x_call3_2, x_call3_3, x_call3_4, e_k_s, e_k_i, List.nil_append, List.cons_append, x_ifCond_eq, x_ifCond_eqb, x_iload2, x_call1_0, x_call1_1, x_call1_2, x_call1_3, x_call1_4, x_iload3, x_iload4, x_ifCond_ne, x_ifCond_neb, x_jsr, u_188_31, x_ireturn, u_188_33, x_aload0, k_69_0, x_if_icmp_ne, u_188_48, x_istore5i, x_istore5r, x_istore5u, x_iload5, x_call4_0, x_call4_1, x_call4_2, x_call4_3, x_call4_4, x_dup2, x_iadd, ia_70, is_70, m_in, m_39, m_9, m_5, e6, q5, ↓reduceIte, b01_0, ite_not, if_true, if_false, Int.reduceLT, Int.reduceEq]
              rw [if_pos q4, if_pos q3, if_pos q2]
          · have r1 : up (up (up (up (up I 2 (I 1 9) k) 3 (I 1 9) p) 4 (I 1 9) w) 5 (I 1 9) g) 1 9 (I 1 9 + 1) 70 6 = I 1 9 := e6
            have s1 : ∀ (M : Nat → Int → Int) x v, 38 ≤ x → up M 70 x v 70 6 = M 70 6 := fun M x v hx => up_k (by omega)
            have t1 : ∀ v, up I 2 (I 1 9) v 1 9 = I 1 9 := fun v => rfl
            have t2 : ∀ (M : Nat → Int → Int) k v, up M 3 k v 1 9 = M 1 9 := fun M k v => rfl
            have t3 : ∀ (M : Nat → Int → Int) k v, up M 4 k v 1 9 = M 1 9 := fun M k v => rfl
            have t4 : ∀ (M : Nat → Int → Int) k v, up M 5 k v 1 9 = M 1 9 := fun M k v => rfl
            refine ⟨I 1 9, up (up (up (up (up I 2 (I 1 9) k) 3 (I 1 9) p) 4 (I 1 9) w) 5 (I 1 9) g) 1 9 (I 1 9 + 1), J, _, J, ?_, ?_, Rel_plate h (by omega) q1 q2 q3 q4⟩
            · simp (disch := omega) only [v_108_0, u_108_0, x_iload1, x_sipush, x_call3_0, x_call3_1, x_call3_2, x_call3_3, x_call3_4, e_k_s, e_k_i, List.nil_append, List.cons_append, x_ifCond_ne, x_ifCond_neb, x_iload2, x_ifCond_eq, x_ifCond_eqb, x_jsr, u_108_19, x_ireturn, u_108_21, x_iload3, x_iload4, u_108_41, u_108_43, x_aload0, k_0_0, f_1_9, x_if_icmp_lt, u_108_58, x_call5_0, x_call5_1, x_call5_2, x_call5_3, x_call5_4, v_68_1, u_68_0, u_68_12, k_1_0, k_1_1, k_1_2, k_1_3, x_dup_i, x_dup_r, x_dup_x1, x_iadd, p_1_9, is_2, is_3, is_4, is_5, b_in, t1, t2, t3, t4, ↓reduceIte, b01_0, ite_not, if_true, if_false, Int.reduceLT, Int.reduceEq]
              rw [if_pos (by omega), if_pos (by omega)]
            · simp (disch := omega) only [v_188_69, u_188_0, x_iload1, x_sipush, x_call3_0, x_call3_1, x_call3_2, x_call3_3, x_call3_4, e_k_s, e_k_i, List.nil_append, List.cons_append, x_ifCond_eq, x_ifCond_eqb, x_iload2, x_call1_0, x_call1_1, x_call1_2, x_call1_3, x_call1_4, x_iload3, x_iload4, x_ifCond_ne, x_ifCond_neb, x_jsr, u_188_31, x_ireturn, u_188_33, x_aload0, k_69_0, x_if_icmp_ne, u_188_48, x_istore5i, x_istore5r, x_istore5u, x_iload5, x_call4_0, x_call4_1, x_call4_2, x_call4_3, x_call4_4, x_dup2, x_iadd, ia_70, is_70, m_in, m_39, m_9, m_5, r1, s1, m_puts, ↓reduceIte, b01_0, ite_not, if_true, if_false, Int.reduceLT, Int.reduceEq]
              rw [if_pos q4, if_pos q3, if_pos q2, if_neg q5]
        · refine ⟨-1, I, J, I, J, ?_, ?_, h⟩
          · simp (disch := omega) only [v_108_0, u_108_0, x_iload1, x_sipush, x_call3_0, x_call3_1, x_call3_2, x_call3_3, x_call3_4, e_k_s, e_k_i, List.nil_append, List.cons_append, x_ifCond_ne, x_ifCond_neb, x_iload2, x_ifCond_eq, x_ifCond_eqb, x_jsr, u_108_19, x_ireturn, u_108_21, x_iload3, x_iload4, u_108_41, u_108_43, x_aload0, k_0_0, f_1_9, x_if_icmp_lt, u_108_58, x_call5_0, x_call5_1, x_call5_2, x_call5_3, x_call5_4, b_in, b_nin, ↓reduceIte, b01_0, ite_not, if_true, if_false, Int.reduceLT, Int.reduceEq]
          · simp (disch := omega) only [v_188_69, u_188_0, x_iload1, x_sipush, x_call3_0, x_call3_1, x_call3_2, x_call3_3, x_call3_4, e_k_s, e_k_i, List.nil_append, List.cons_append, x_ifCond_eq, x_ifCond_eqb, x_iload2, x_call1_0, x_call1_1, x_call1_2, x_call1_3, x_call1_4, x_iload3, x_iload4, x_ifCond_ne, x_ifCond_neb, x_jsr, u_188_31, x_ireturn, u_188_33, x_aload0, k_69_0, x_if_icmp_ne, u_188_48, x_istore5i, x_istore5r, x_istore5u, x_iload5, x_call4_0, x_call4_1, x_call4_2, x_call4_3, x_call4_4, x_dup2, x_iadd, ia_70, is_70, m_in, m_39, m_9, m_5, ↓reduceIte, b01_0, ite_not, if_true, if_false, Int.reduceLT, Int.reduceEq]
            rw [if_neg q4]
            (repeat' split) <;> first | rfl | (exfalso; omega)
      · refine ⟨-1, I, J, I, J, ?_, ?_, h⟩
        · simp (disch := omega) only [v_108_0, u_108_0, x_iload1, x_sipush, x_call3_0, x_call3_1, x_call3_2, x_call3_3, x_call3_4, e_k_s, e_k_i, List.nil_append, List.cons_append, x_ifCond_ne, x_ifCond_neb, x_iload2, x_ifCond_eq, x_ifCond_eqb, x_jsr, u_108_19, x_ireturn, u_108_21, x_iload3, x_iload4, u_108_41, u_108_43, x_aload0, k_0_0, f_1_9, x_if_icmp_lt, u_108_58, x_call5_0, x_call5_1, x_call5_2, x_call5_3, x_call5_4, b_in, b_nin, ↓reduceIte, b01_0, ite_not, if_true, if_false, Int.reduceLT, Int.reduceEq]
        · simp (disch := omega) only [v_188_69, u_188_0, x_iload1, x_sipush, x_call3_0, x_call3_1, x_call3_2, x_call3_3, x_call3_4, e_k_s, e_k_i, List.nil_append, List.cons_append, x_ifCond_eq, x_ifCond_eqb, x_iload2, x_call1_0, x_call1_1, x_call1_2, x_call1_3, x_call1_4, x_iload3, x_iload4, x_ifCond_ne, x_ifCond_neb, x_jsr, u_188_31, x_ireturn, u_188_33, x_aload0, k_69_0, x_if_icmp_ne, u_188_48, x_istore5i, x_istore5r, x_istore5u, x_iload5, x_call4_0, x_call4_1, x_call4_2, x_call4_3, x_call4_4, x_dup2, x_iadd, ia_70, is_70, m_in, m_39, m_9, m_5, ↓reduceIte, b01_0, ite_not, if_true, if_false, Int.reduceLT, Int.reduceEq]
          rw [if_neg q3]
          (repeat' split) <;> first | rfl | (exfalso; omega)
    · refine ⟨-1, I, J, I, J, ?_, ?_, h⟩
      · simp (disch := omega) only [v_108_0, u_108_0, x_iload1, x_sipush, x_call3_0, x_call3_1, x_call3_2, x_call3_3, x_call3_4, e_k_s, e_k_i, List.nil_append, List.cons_append, x_ifCond_ne, x_ifCond_neb, x_iload2, x_ifCond_eq, x_ifCond_eqb, x_jsr, u_108_19, x_ireturn, u_108_21, x_iload3, x_iload4, u_108_41, u_108_43, x_aload0, k_0_0, f_1_9, x_if_icmp_lt, u_108_58, x_call5_0, x_call5_1, x_call5_2, x_call5_3, x_call5_4, b_in, b_nin, ↓reduceIte, b01_0, ite_not, if_true, if_false, Int.reduceLT, Int.reduceEq]
      · simp (disch := omega) only [v_188_69, u_188_0, x_iload1, x_sipush, x_call3_0, x_call3_1, x_call3_2, x_call3_3, x_call3_4, e_k_s, e_k_i, List.nil_append, List.cons_append, x_ifCond_eq, x_ifCond_eqb, x_iload2, x_call1_0, x_call1_1, x_call1_2, x_call1_3, x_call1_4, x_iload3, x_iload4, x_ifCond_ne, x_ifCond_neb, x_jsr, u_188_31, x_ireturn, u_188_33, x_aload0, k_69_0, x_if_icmp_ne, u_188_48, x_istore5i, x_istore5r, x_istore5u, x_iload5, x_call4_0, x_call4_1, x_call4_2, x_call4_3, x_call4_4, x_dup2, x_iadd, ia_70, is_70, m_in, m_39, m_9, m_5, ↓reduceIte, b01_0, ite_not, if_true, if_false, Int.reduceLT, Int.reduceEq]
        rw [if_neg q2]
  · refine ⟨-1, I, J, I, J, ?_, ?_, h⟩
    · simp (disch := omega) only [v_108_0, u_108_0, x_iload1, x_sipush, x_call3_0, x_call3_1, x_call3_2, x_call3_3, x_call3_4, e_k_s, e_k_i, List.nil_append, List.cons_append, x_ifCond_ne, x_ifCond_neb, x_iload2, x_ifCond_eq, x_ifCond_eqb, x_jsr, u_108_19, x_ireturn, u_108_21, x_iload3, x_iload4, u_108_41, u_108_43, x_aload0, k_0_0, f_1_9, x_if_icmp_lt, u_108_58, x_call5_0, x_call5_1, x_call5_2, x_call5_3, x_call5_4, b_in, b_nin, ↓reduceIte, b01_0, ite_not, if_true, if_false, Int.reduceLT, Int.reduceEq]
    · simp (disch := omega) only [v_188_69, u_188_0, x_iload1, x_sipush, x_call3_0, x_call3_1, x_call3_2, x_call3_3, x_call3_4, e_k_s, e_k_i, List.nil_append, List.cons_append, x_ifCond_eq, x_ifCond_eqb, x_iload2, x_call1_0, x_call1_1, x_call1_2, x_call1_3, x_call1_4, x_iload3, x_iload4, x_ifCond_ne, x_ifCond_neb, x_jsr, u_188_31, x_ireturn, u_188_33, x_aload0, k_69_0, x_if_icmp_ne, u_188_48, x_istore5i, x_istore5r, x_istore5u, x_iload5, x_call4_0, x_call4_1, x_call4_2, x_call4_3, x_call4_4, x_dup2, x_iadd, ia_70, is_70, m_nin, ↓reduceIte, b01_0, ite_not, if_true, if_false, Int.reduceLT, Int.reduceEq]
/-- plans leave what Rel speaks of as it was -/
theorem kp_plo {len wt : Int} {g : pac} {A F : Int → Int} : kp I (bk (plo I len wt g A) (cof I) F) := fun o k q => by
  have s := scr_14 q
  by_cases h1 : o = 1
  · subst h1
    have := congrFun (congrFun (bk_self I) 1) k
    exact this
  · rw [bk_o h1 s.1]
    unfold plo
    rw [if_neg s.2.2.2.1, if_neg s.2.2.2.2.1, if_neg s.2.2.2.2.2.1]
theorem kp_mpo {g : pac} {A S : Int → Int} : kp I (mpo I g A S) := fun o k q => by
  have s := scr_14 q
  unfold mpo
  by_cases h1 : o = 69
  · subst h1
    have k1 : k ≠ 21 := fun z => q (by unfold scr; omega)
    have k2 : k ≠ 22 := fun z => q (by unfold scr; omega)
    have k3 : k ≠ 23 := fun z => q (by unfold scr; omega)
    have k4 : k ≠ 24 := fun z => q (by unfold scr; omega)
    rw [if_pos rfl, if_neg k1, if_neg k2, if_neg k3, if_neg k4]
  · rw [if_neg h1, if_neg s.2.2.2.2.2.2.1, if_neg s.2.2.2.2.2.2.2.1, if_neg s.2.2.2.2.2.2.2.2.1]
/-- both have tried all plans -/
theorem tries (h : Rel I J) {n wt : Int} (hn : 0 ≤ n ∧ n ≤ 4) (hwt : 0 ≤ wt ∧ wt < 64) : ∃ (I1 I2 : Nat → Int → Int) (g g' : pac), s_S X (d + 29) 18 [.ref 48, .int (iI n), .int (iI wt)] (mm I J) = some ([], mm I1 J) ∧ kp I I1 ∧ s_S X (d + 29) 246 [.ref 69, .int (iI n), .int (iI wt)] (mm I1 J) = some ([], mm I2 J) ∧ kp I1 I2 ∧ pr1 (yec I (cof I) n) g g' ∧ pst g 5000 ∧ mst g' 5000 ∧ (I1 48 3 = yec I (cof I) n ∧ I1 48 5 = g.1 ∧ I1 48 6 = g.2.1 ∧ I1 48 7 = g.2.2.1 ∧ I1 48 8 = g.2.2.2.1 ∧ I1 50 = g.2.2.2.2) ∧ (I2 69 21 = g'.1 ∧ I2 69 22 = g'.2.1 ∧ I2 69 23 = g'.2.2.1 ∧ I2 69 24 = g'.2.2.2.1 ∧ I2 80 = g'.2.2.2.2) ∧ (∀ z : Nat, z = 0 → s_S X (d + 29) 247 [.ref 69, .int (iI n)] (mm I2 J) = some ([.int (iI (yec I (cof I) n))], mm I2 J)) := by
  have hi := h.1.1
  have hE := h.1.2.2.2.1
  have hc := inv_cof hi
  obtain ⟨⟨F', e1⟩, p1⟩ := p_tra (X := X) (d := d + 18) (J := J) hi h.1.2.1 hc (I 14) (n := n) (wt := wt) hn hwt
  rw [bk_self] at e1
  generalize hB : bk (plo I (yec I (cof I) n) wt (tra I (cof I) n wt).1 (tra I (cof I) n wt).2) (cof I) F' = B at e1
  have b70 : B 70 = I 70 := by rw [← hB]; rfl
  have hself : mk B (I 1 9) (cof I) (I 1 13) (B 73) = B := mk_self2 h.1.2.2.2.2.2.2 b70
  obtain ⟨⟨S', P', e2⟩, p2⟩ := m_tra (X := X) (d := d + 15) (J := J) (M := B) hi (by rw [b70]; exact hE) (by rw [b70]; exact h.1.2.2.2.2.1) h.1.2.1 hc (sc := I 1 13) (B 73) (n := n) (wt := wt) hn hwt
  rw [hself] at e2
  have e3 := m_days (X := X) (d := d + 27) (J := J) (M := mpo B (mtra I B (cof I) n wt).1 (mtra I B (cof I) n wt).2 S') hi (by rw [mpo_70, b70]; exact hE) hc (sc := I 1 13) (P := P') (n := n) ⟨by omega, by omega⟩
  refine ⟨B, mk (mpo B (mtra I B (cof I) n wt).1 (mtra I B (cof I) n wt).2 S') (I 1 9) (cof I) (I 1 13) P', (tra I (cof I) n wt).1, (mtra I B (cof I) n wt).1, e1, by rw [← hB]; exact kp_plo, e2, kp_mk hself kp_mpo mpo_70, pr_tra hi hc hn hwt, p1, p2, ?_, ⟨rfl, rfl, rfl, rfl, rfl⟩, fun _ _ => e3⟩
  rw [← hB]
  exact ⟨rfl, rfl, rfl, rfl, rfl, rfl⟩
theorem q_best (h : Rel I J) {a : Int} (ha : rg a) : pr X d I J 138 244 [.int (iI a)] := by
  by_cases q : 0 ≤ a ∧ a ≤ 4
  · obtain ⟨I1, I2, g, g', e1, k1, e2, k2, p, p1, p2, f, f', _⟩ := tries (X := X) (d := d) h (n := a) (wt := 0) q (by decide)
    have f1 := f.2.1
    have f2 := f'.1
    rw [← p.2.2.1] at f2
    have em := fun M => m_pln (X := X) (d := d + 27) (I := M) (J := J) (n := a) ha
    refine pr_q h (v := g.1) (I1 := I1) ?_ k1 (I2 := I2) ?_ k2
    · simp (disch := omega) only [v_138_0, u_138_0, x_iload1, x_sipush, x_call3_0, x_call3_1, x_call3_2, x_call3_3, x_call3_4, e_k_s, e_k_i, List.nil_append, List.cons_append, x_ifCond_eq, x_ifCond_eqb, x_ireturn, u_138_11, x_aload0, k_0_4, f_48_5, b_in, e1, f1, ↓reduceIte, b01_0, ite_not, if_true, if_false, Int.reduceLT, Int.reduceEq]
    · simp (disch := omega) only [v_244_69, u_244_0, x_iload1, x_call1_0, x_call1_1, x_call1_2, x_call1_3, x_call1_4, e_k_s, e_k_i, List.nil_append, List.cons_append, x_ifCond_ne, x_ifCond_neb, x_sipush, x_ireturn, u_244_9, x_aload0, x_call3_0, x_call3_1, x_call3_2, x_call3_3, x_call3_4, f_69_21, em, e2, f2, ↓reduceIte, b01_0, ite_not, if_true, if_false, Int.reduceLT, Int.reduceEq]
      rw [if_pos q]
  · have em := fun M => m_pln (X := X) (d := d + 27) (I := M) (J := J) (n := a) ha
    refine ⟨-1, I, J, I, J, ?_, ?_, h⟩
    · simp (disch := omega) only [v_138_0, u_138_0, x_iload1, x_sipush, x_call3_0, x_call3_1, x_call3_2, x_call3_3, x_call3_4, e_k_s, e_k_i, List.nil_append, List.cons_append, x_ifCond_eq, x_ifCond_eqb, x_ireturn, u_138_11, x_aload0, k_0_4, f_48_5, b_nin, ↓reduceIte, b01_0, ite_not, if_true, if_false, Int.reduceLT, Int.reduceEq]
    · simp (disch := omega) only [v_244_69, u_244_0, x_iload1, x_call1_0, x_call1_1, x_call1_2, x_call1_3, x_call1_4, e_k_s, e_k_i, List.nil_append, List.cons_append, x_ifCond_ne, x_ifCond_neb, x_sipush, x_ireturn, u_244_9, x_aload0, x_call3_0, x_call3_1, x_call3_2, x_call3_3, x_call3_4, f_69_21, em, ↓reduceIte, b01_0, ite_not, if_true, if_false, Int.reduceLT, Int.reduceEq]
      rw [if_neg q]
theorem q_ways (h : Rel I J) {a : Int} (ha : rg a) : pr X d I J 140 253 [.int (iI a)] := by
  by_cases q : 0 ≤ a ∧ a ≤ 4
  · obtain ⟨I1, I2, g, g', e1, k1, e2, k2, p, p1, p2, f, f', _⟩ := tries (X := X) (d := d) h (n := a) (wt := 0) q (by decide)
    have f1 := f.2.2.1
    have f2 := f'.2.1
    rw [← p.2.1] at f2
    have em := fun M => m_pln (X := X) (d := d + 27) (I := M) (J := J) (n := a) ha
    refine pr_q h (v := g.2.1) (I1 := I1) ?_ k1 (I2 := I2) ?_ k2
    · simp (disch := omega) only [v_140_0, u_140_0, x_iload1, x_sipush, x_call3_0, x_call3_1, x_call3_2, x_call3_3, x_call3_4, e_k_s, e_k_i, List.nil_append, List.cons_append, x_ifCond_eq, x_ifCond_eqb, x_ireturn, u_140_11, x_aload0, k_0_4, f_48_6, b_in, e1, f1, ↓reduceIte, b01_0, ite_not, if_true, if_false, Int.reduceLT, Int.reduceEq]
    · simp (disch := omega) only [v_253_69, u_253_0, x_iload1, x_call1_0, x_call1_1, x_call1_2, x_call1_3, x_call1_4, e_k_s, e_k_i, List.nil_append, List.cons_append, x_ifCond_ne, x_ifCond_neb, x_sipush, x_ireturn, u_253_9, x_aload0, x_call3_0, x_call3_1, x_call3_2, x_call3_3, x_call3_4, f_69_22, em, e2, f2, ↓reduceIte, b01_0, ite_not, if_true, if_false, Int.reduceLT, Int.reduceEq]
      rw [if_pos q]
  · have em := fun M => m_pln (X := X) (d := d + 27) (I := M) (J := J) (n := a) ha
    refine ⟨-1, I, J, I, J, ?_, ?_, h⟩
    · simp (disch := omega) only [v_140_0, u_140_0, x_iload1, x_sipush, x_call3_0, x_call3_1, x_call3_2, x_call3_3, x_call3_4, e_k_s, e_k_i, List.nil_append, List.cons_append, x_ifCond_eq, x_ifCond_eqb, x_ireturn, u_140_11, x_aload0, k_0_4, f_48_6, b_nin, ↓reduceIte, b01_0, ite_not, if_true, if_false, Int.reduceLT, Int.reduceEq]
    · simp (disch := omega) only [v_253_69, u_253_0, x_iload1, x_call1_0, x_call1_1, x_call1_2, x_call1_3, x_call1_4, e_k_s, e_k_i, List.nil_append, List.cons_append, x_ifCond_ne, x_ifCond_neb, x_sipush, x_ireturn, u_253_9, x_aload0, x_call3_0, x_call3_1, x_call3_2, x_call3_3, x_call3_4, f_69_22, em, ↓reduceIte, b01_0, ite_not, if_true, if_false, Int.reduceLT, Int.reduceEq]
      rw [if_neg q]
theorem q_ith (h : Rel I J) {a b : Int} (ha : rg a) (hb : rg b) : pr X d I J 139 252 [.int (iI a), .int (iI b)] := by
  have em := fun M => m_pln (X := X) (d := d + 27) (I := M) (J := J) (n := a) ha
  have hy := yec_b (I := I) (m := a) (c := cof I)
  by_cases q : 0 ≤ a ∧ a ≤ 4
  · have hy := hy q.1 (inv_cof h.1.1)
    by_cases q2 : 0 ≤ b ∧ b ≤ 3
    · obtain ⟨I1, I2, g, g', e1, k1, e2, k2, p, p1, p2, f, f', ed⟩ := tries (X := X) (d := d) h (n := a) (wt := 0) q (by decide)
      have f1 := f.1
      have f3 : I1 50 b = g.2.2.2.2 b := by rw [f.2.2.2.2.2]
      have f4 : I2 80 b = g'.2.2.2.2 b := by rw [f'.2.2.2.2]
      have e3 := ed 0 rfl
      by_cases q3 : b < yec I (cof I) a
      · rw [← p.2.2.2.2.2 b q2.1 q3] at f4
        refine pr_q h (v := g.2.2.2.2 b) (I1 := I1) ?_ k1 (I2 := I2) ?_ k2
        · simp (disch := omega) only [v_139_0, u_139_0, x_iload1, x_sipush, x_call3_0, x_call3_1, x_call3_2, x_call3_3, x_call3_4, e_k_s, e_k_i, List.nil_append, List.cons_append, x_ifCond_ne, x_ifCond_neb, x_iload2, x_ifCond_eq, x_ifCond_eqb, x_jsr, u_139_18, x_ireturn, u_139_20, x_aload0, k_0_4, f_48_3, x_if_icmp_ge, k_48_2, x_goto, u_139_52, u_139_54, ia_50, b_in, e1, f1, f3, ↓reduceIte, b01_0, ite_not, if_true, if_false, Int.reduceLT, Int.reduceEq]
          rw [if_pos q3]
        · simp (disch := omega) only [v_252_69, u_252_0, x_iload1, x_call1_0, x_call1_1, x_call1_2, x_call1_3, x_call1_4, e_k_s, e_k_i, List.nil_append, List.cons_append, x_ifCond_eq, x_ifCond_eqb, x_iload2, x_sipush, x_call3_0, x_call3_1, x_call3_2, x_call3_3, x_call3_4, x_ifCond_ne, x_ifCond_neb, x_jsr, u_252_16, x_ireturn, u_252_18, x_aload0, x_call2_0, x_call2_1, x_call2_2, x_call2_3, x_call2_4, x_if_icmp_ge, k_69_20, x_goto, u_252_42, u_252_44, ia_80, em, m_in, e2, e3, f4, ↓reduceIte, b01_0, ite_not, if_true, if_false, Int.reduceLT, Int.reduceEq]
          rw [if_pos q3, if_pos q]
      · refine pr_q h (v := -3) (I1 := I1) ?_ k1 (I2 := I2) ?_ k2
        · simp (disch := omega) only [v_139_0, u_139_0, x_iload1, x_sipush, x_call3_0, x_call3_1, x_call3_2, x_call3_3, x_call3_4, e_k_s, e_k_i, List.nil_append, List.cons_append, x_ifCond_ne, x_ifCond_neb, x_iload2, x_ifCond_eq, x_ifCond_eqb, x_jsr, u_139_18, x_ireturn, u_139_20, x_aload0, k_0_4, f_48_3, x_if_icmp_ge, k_48_2, x_goto, u_139_52, u_139_54, ia_50, b_in, e1, f1, f3, ↓reduceIte, b01_0, ite_not, if_true, if_false, Int.reduceLT, Int.reduceEq]
          rw [if_neg q3]
        · simp (disch := omega) only [v_252_69, u_252_0, x_iload1, x_call1_0, x_call1_1, x_call1_2, x_call1_3, x_call1_4, e_k_s, e_k_i, List.nil_append, List.cons_append, x_ifCond_eq, x_ifCond_eqb, x_iload2, x_sipush, x_call3_0, x_call3_1, x_call3_2, x_call3_3, x_call3_4, x_ifCond_ne, x_ifCond_neb, x_jsr, u_252_16, x_ireturn, u_252_18, x_aload0, x_call2_0, x_call2_1, x_call2_2, x_call2_3, x_call2_4, x_if_icmp_ge, k_69_20, x_goto, u_252_42, u_252_44, ia_80, em, m_in, e2, e3, f4, ↓reduceIte, b01_0, ite_not, if_true, if_false, Int.reduceLT, Int.reduceEq]
          rw [if_neg q3, if_pos q]
    · refine ⟨-1, I, J, I, J, ?_, ?_, h⟩
      · simp (disch := omega) only [v_139_0, u_139_0, x_iload1, x_sipush, x_call3_0, x_call3_1, x_call3_2, x_call3_3, x_call3_4, e_k_s, e_k_i, List.nil_append, List.cons_append, x_ifCond_ne, x_ifCond_neb, x_iload2, x_ifCond_eq, x_ifCond_eqb, x_jsr, u_139_18, x_ireturn, u_139_20, x_aload0, k_0_4, f_48_3, x_if_icmp_ge, k_48_2, x_goto, u_139_52, u_139_54, ia_50, b_in, b_nin, ↓reduceIte, b01_0, ite_not, if_true, if_false, Int.reduceLT, Int.reduceEq]
      · simp (disch := omega) only [v_252_69, u_252_0, x_iload1, x_call1_0, x_call1_1, x_call1_2, x_call1_3, x_call1_4, e_k_s, e_k_i, List.nil_append, List.cons_append, x_ifCond_eq, x_ifCond_eqb, x_iload2, x_sipush, x_call3_0, x_call3_1, x_call3_2, x_call3_3, x_call3_4, x_ifCond_ne, x_ifCond_neb, x_jsr, u_252_16, x_ireturn, u_252_18, x_aload0, x_call2_0, x_call2_1, x_call2_2, x_call2_3, x_call2_4, x_if_icmp_ge, k_69_20, x_goto, u_252_42, u_252_44, ia_80, em, m_nin, ↓reduceIte, b01_0, ite_not, if_true, if_false, Int.reduceLT, Int.reduceEq]
        rw [if_pos q]
  · refine ⟨-1, I, J, I, J, ?_, ?_, h⟩
    · simp (disch := omega) only [v_139_0, u_139_0, x_iload1, x_sipush, x_call3_0, x_call3_1, x_call3_2, x_call3_3, x_call3_4, e_k_s, e_k_i, List.nil_append, List.cons_append, x_ifCond_ne, x_ifCond_neb, x_iload2, x_ifCond_eq, x_ifCond_eqb, x_jsr, u_139_18, x_ireturn, u_139_20, x_aload0, k_0_4, f_48_3, x_if_icmp_ge, k_48_2, x_goto, u_139_52, u_139_54, ia_50, b_nin, ↓reduceIte, b01_0, ite_not, if_true, if_false, Int.reduceLT, Int.reduceEq]
    · simp (disch := omega) only [v_252_69, u_252_0, x_iload1, x_call1_0, x_call1_1, x_call1_2, x_call1_3, x_call1_4, e_k_s, e_k_i, List.nil_append, List.cons_append, x_ifCond_eq, x_ifCond_eqb, x_iload2, x_sipush, x_call3_0, x_call3_1, x_call3_2, x_call3_3, x_call3_4, x_ifCond_ne, x_ifCond_neb, x_jsr, u_252_16, x_ireturn, u_252_18, x_aload0, x_call2_0, x_call2_1, x_call2_2, x_call2_3, x_call2_4, x_if_icmp_ge, k_69_20, x_goto, u_252_42, u_252_44, ia_80, em, ↓reduceIte, b01_0, ite_not, if_true, if_false, Int.reduceLT, Int.reduceEq]
      rw [if_neg q]
end
