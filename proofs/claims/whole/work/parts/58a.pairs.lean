/-! PAIRS: many -/
def lw (s : Int) : Int := ((s.toNat &&& (s.toNat - 1) : Nat) : Int)
theorem lw_dec : (List.range 64).all (fun s => decide (s = 0 ∨ (iI (s : Nat) &&& iI ((s : Nat) - 1) = iI (lw (s : Nat)) ∧ lw (s : Nat) < (s : Nat) ∧ crd (lw (s : Nat)) = crd (s : Nat) - 1))) = true := by decide +kernel
theorem lw_i {s : Int} (h : 0 < s ∧ s < 64) : iI s &&& iI (s - 1) = iI (lw s) ∧ lw s < s ∧ crd (lw s) = crd s - 1 := by
  obtain ⟨m, rfl⟩ := Int.eq_ofNat_of_zero_le (by omega : 0 ≤ s)
  have e := of_decide_eq_true (List.all_eq_true.mp lw_dec m (List.mem_range.mpr (by omega)))
  rcases e with e | e
  · omega
  · exact e
section
variable {X : e_X} {d : Nat} {I J : Nat → Int → Int}
theorem m_on1 {v0 : Int32} : ∀ (n : Nat) (b a : Int), b.toNat ≤ n → (0 ≤ b ∧ b < 64) → (0 ≤ a ∧ a + b ≤ 100) → s_j X d 297 4 [.int v0, .int (iI a), .int (iI b)] [] (mm I J) = some ([.int (iI (a + crd b))], mm I J) := by
  intro n
  induction n with
  | zero =>
    intro b a hn hb ha
    rw [u_297_4, show b = 0 by omega]
    simp (disch := omega) only [v_297, u_297_0, x_sipush, x_istore1i, x_istore1r, x_istore1u, x_iload0, x_istore2i, x_istore2r, x_istore2u, x_jsr, x_iload2, x_ifCond_eq, x_ifCond_eqb, x_iinc1i, x_iinc1r, x_iinc1u, x_isub, x_iand, x_goto, u_297_20, x_iload1, x_ireturn, ↓reduceIte, b01_0, ite_not, if_true, if_false, Int.reduceLT, Int.reduceEq]
    rw [show crd 0 = 0 by decide, Int.add_zero]
  | succ n ih =>
    intro b a hn hb ha
    by_cases q : b = 0
    · rw [u_297_4, q]
      simp (disch := omega) only [v_297, u_297_0, x_sipush, x_istore1i, x_istore1r, x_istore1u, x_iload0, x_istore2i, x_istore2r, x_istore2u, x_jsr, x_iload2, x_ifCond_eq, x_ifCond_eqb, x_iinc1i, x_iinc1r, x_iinc1u, x_isub, x_iand, x_goto, u_297_20, x_iload1, x_ireturn, ↓reduceIte, b01_0, ite_not, if_true, if_false, Int.reduceLT, Int.reduceEq]
      rw [show crd 0 = 0 by decide, Int.add_zero]
    · obtain ⟨e1, e2, e3⟩ := lw_i (s := b) (by omega)
      have l0 : 0 ≤ lw b := Int.natCast_nonneg _
      have e4 := ih (lw b) (a + 1) (by omega) (by omega) (by omega)
      rw [e3] at e4
      rw [u_297_4]
      simp (disch := omega) only [v_297, u_297_0, x_sipush, x_istore1i, x_istore1r, x_istore1u, x_iload0, x_istore2i, x_istore2r, x_istore2u, x_jsr, x_iload2, x_ifCond_eq, x_ifCond_eqb, x_iinc1i, x_iinc1r, x_iinc1u, x_isub, x_iand, x_goto, u_297_20, x_iload1, x_ireturn, e1, e4, ↓reduceIte, b01_0, ite_not, if_true, if_false, Int.reduceLT, Int.reduceEq]
      rw [if_neg q, show a + 1 + (crd b - 1) = a + crd b by omega]
theorem m_ones {b : Int} (hb : 0 ≤ b ∧ b < 64) : s_S X (d + 1) 297 [.int (iI b)] (mm I J) = some ([.int (iI (crd b))], mm I J) := by
  have e := m_on1 (X := X) (d := d) (I := I) (J := J) (v0 := iI b) 64 b 0 (by omega) hb (by omega)
  rw [Int.zero_add] at e
  simp (disch := omega) only [v_297, u_297_0, x_sipush, x_istore1i, x_istore1r, x_istore1u, x_iload0, x_istore2i, x_istore2r, x_istore2u, x_jsr, x_iload2, x_ifCond_eq, x_ifCond_eqb, x_iinc1i, x_iinc1r, x_iinc1u, x_isub, x_iand, x_goto, u_297_20, x_iload1, x_ireturn, e, ↓reduceIte, b01_0, ite_not, if_true, if_false, Int.reduceLT, Int.reduceEq]
theorem q_many (h : Rel I J) {a : Int} (ha : rg a) : pr X d I J 167 296 [.int (iI a)] := by
  have hi := h.1.1
  have hs := inv_s hi
  have e6 := h.1.2.2.2.1.2.1
  have e7 : I 70 7 = I 9 5 := h.1.2.2.2.2.1.1
  have e8 : I 70 8 = I 15 4 := h.1.2.2.2.2.2.1.1
  have w2 := h.2.2.2.1.2.1
  have t2 := h.2.2.1.2.1
  have r2 := h.2.2.2.2.2.2.1.2.1
  by_cases q : 0 ≤ a ∧ a ≤ 6
  · rcases (by omega : a = 0 ∨ a = 1 ∨ a = 2 ∨ a = 3 ∨ a = 4 ∨ a = 5 ∨ a = 6) with rfl | rfl | rfl | rfl | rfl | rfl | rfl
    · refine ⟨I 1 9, I, J, I, J, ?_, ?_, h⟩
      · simp (disch := omega) only [v_167_0, u_167_0, x_iload1, x_switch, e_sw_c, e_sw_n, u_167_44, x_aload0, k_0_0, f_1_9, x_ireturn, u_167_52, k_1_7, f_9_5, u_167_63, f_1_10, x_call1_0, x_call1_1, x_call1_2, x_call1_3, x_call1_4, e_k_s, e_k_i, List.nil_append, List.cons_append, u_167_74, k_1_8, f_15_4, u_167_85, k_0_5, f_51_2, u_167_93, k_0_3, f_39_2, u_167_101, k_0_8, f_55_1, u_167_109, x_sipush, ↓reduceIte, b01_0, ite_not, if_true, if_false, Int.reduceLT, Int.reduceEq]
      · simp (disch := omega) only [v_296_69, u_296_0, x_iload1, x_switch, e_sw_c, e_sw_n, u_296_44, x_aload0, k_69_0, x_sipush, x_ireturn, u_296_52, u_296_60, x_call2_0, x_call2_1, x_call2_2, x_call2_3, x_call2_4, e_k_s, e_k_i, List.nil_append, List.cons_append, x_call1_0, x_call1_1, x_call1_2, x_call1_3, x_call1_4, u_296_69, u_296_77, f_69_29, u_296_82, f_69_6, u_296_87, f_69_36, u_296_92, ia_70, e6, ↓reduceIte, b01_0, ite_not, if_true, if_false, Int.reduceLT, Int.reduceEq]
    · refine ⟨I 9 5, I, J, I, J, ?_, ?_, h⟩
      · simp (disch := omega) only [v_167_0, u_167_0, x_iload1, x_switch, e_sw_c, e_sw_n, u_167_44, x_aload0, k_0_0, f_1_9, x_ireturn, u_167_52, k_1_7, f_9_5, u_167_63, f_1_10, x_call1_0, x_call1_1, x_call1_2, x_call1_3, x_call1_4, e_k_s, e_k_i, List.nil_append, List.cons_append, u_167_74, k_1_8, f_15_4, u_167_85, k_0_5, f_51_2, u_167_93, k_0_3, f_39_2, u_167_101, k_0_8, f_55_1, u_167_109, x_sipush, ↓reduceIte, b01_0, ite_not, if_true, if_false, Int.reduceLT, Int.reduceEq]
      · simp (disch := omega) only [v_296_69, u_296_0, x_iload1, x_switch, e_sw_c, e_sw_n, u_296_44, x_aload0, k_69_0, x_sipush, x_ireturn, u_296_52, u_296_60, x_call2_0, x_call2_1, x_call2_2, x_call2_3, x_call2_4, e_k_s, e_k_i, List.nil_append, List.cons_append, x_call1_0, x_call1_1, x_call1_2, x_call1_3, x_call1_4, u_296_69, u_296_77, f_69_29, u_296_82, f_69_6, u_296_87, f_69_36, u_296_92, ia_70, e7, ↓reduceIte, b01_0, ite_not, if_true, if_false, Int.reduceLT, Int.reduceEq]
    · have e1 := j_bc (X := X) (d := d + 28) (I := I) (J := J) hs
      have e2 := m_those (X := X) (d := d + 27) (J := J) (M := I) hi h.1.2.2.2.1 (inv_cof hi) (sc := I 1 13) (P := I 73)
      rw [mk_self h.1.2.2.2.2.2.2, show (cof I).2.2.2 = I 1 10 from rfl] at e2
      have e3 := m_ones (X := X) (d := d + 28) (I := I) (J := J) hs
      refine ⟨crd (I 1 10), I, J, I, J, ?_, ?_, h⟩
      · simp (disch := omega) only [v_167_0, u_167_0, x_iload1, x_switch, e_sw_c, e_sw_n, u_167_44, x_aload0, k_0_0, f_1_9, x_ireturn, u_167_52, k_1_7, f_9_5, u_167_63, f_1_10, x_call1_0, x_call1_1, x_call1_2, x_call1_3, x_call1_4, e_k_s, e_k_i, List.nil_append, List.cons_append, u_167_74, k_1_8, f_15_4, u_167_85, k_0_5, f_51_2, u_167_93, k_0_3, f_39_2, u_167_101, k_0_8, f_55_1, u_167_109, x_sipush, e1, ↓reduceIte, b01_0, ite_not, if_true, if_false, Int.reduceLT, Int.reduceEq]
      · simp (disch := omega) only [v_296_69, u_296_0, x_iload1, x_switch, e_sw_c, e_sw_n, u_296_44, x_aload0, k_69_0, x_sipush, x_ireturn, u_296_52, u_296_60, x_call2_0, x_call2_1, x_call2_2, x_call2_3, x_call2_4, e_k_s, e_k_i, List.nil_append, List.cons_append, x_call1_0, x_call1_1, x_call1_2, x_call1_3, x_call1_4, u_296_69, u_296_77, f_69_29, u_296_82, f_69_6, u_296_87, f_69_36, u_296_92, ia_70, e2, e3, ↓reduceIte, b01_0, ite_not, if_true, if_false, Int.reduceLT, Int.reduceEq]
    · refine ⟨I 15 4, I, J, I, J, ?_, ?_, h⟩
      · simp (disch := omega) only [v_167_0, u_167_0, x_iload1, x_switch, e_sw_c, e_sw_n, u_167_44, x_aload0, k_0_0, f_1_9, x_ireturn, u_167_52, k_1_7, f_9_5, u_167_63, f_1_10, x_call1_0, x_call1_1, x_call1_2, x_call1_3, x_call1_4, e_k_s, e_k_i, List.nil_append, List.cons_append, u_167_74, k_1_8, f_15_4, u_167_85, k_0_5, f_51_2, u_167_93, k_0_3, f_39_2, u_167_101, k_0_8, f_55_1, u_167_109, x_sipush, ↓reduceIte, b01_0, ite_not, if_true, if_false, Int.reduceLT, Int.reduceEq]
      · simp (disch := omega) only [v_296_69, u_296_0, x_iload1, x_switch, e_sw_c, e_sw_n, u_296_44, x_aload0, k_69_0, x_sipush, x_ireturn, u_296_52, u_296_60, x_call2_0, x_call2_1, x_call2_2, x_call2_3, x_call2_4, e_k_s, e_k_i, List.nil_append, List.cons_append, x_call1_0, x_call1_1, x_call1_2, x_call1_3, x_call1_4, u_296_69, u_296_77, f_69_29, u_296_82, f_69_6, u_296_87, f_69_36, u_296_92, ia_70, e8, ↓reduceIte, b01_0, ite_not, if_true, if_false, Int.reduceLT, Int.reduceEq]
    · refine ⟨I 51 2, I, J, I, J, ?_, ?_, h⟩
      · simp (disch := omega) only [v_167_0, u_167_0, x_iload1, x_switch, e_sw_c, e_sw_n, u_167_44, x_aload0, k_0_0, f_1_9, x_ireturn, u_167_52, k_1_7, f_9_5, u_167_63, f_1_10, x_call1_0, x_call1_1, x_call1_2, x_call1_3, x_call1_4, e_k_s, e_k_i, List.nil_append, List.cons_append, u_167_74, k_1_8, f_15_4, u_167_85, k_0_5, f_51_2, u_167_93, k_0_3, f_39_2, u_167_101, k_0_8, f_55_1, u_167_109, x_sipush, ↓reduceIte, b01_0, ite_not, if_true, if_false, Int.reduceLT, Int.reduceEq]
      · simp (disch := omega) only [v_296_69, u_296_0, x_iload1, x_switch, e_sw_c, e_sw_n, u_296_44, x_aload0, k_69_0, x_sipush, x_ireturn, u_296_52, u_296_60, x_call2_0, x_call2_1, x_call2_2, x_call2_3, x_call2_4, e_k_s, e_k_i, List.nil_append, List.cons_append, x_call1_0, x_call1_1, x_call1_2, x_call1_3, x_call1_4, u_296_69, u_296_77, f_69_29, u_296_82, f_69_6, u_296_87, f_69_36, u_296_92, ia_70, w2, ↓reduceIte, b01_0, ite_not, if_true, if_false, Int.reduceLT, Int.reduceEq]
    · refine ⟨I 39 2, I, J, I, J, ?_, ?_, h⟩
      · simp (disch := omega) only [v_167_0, u_167_0, x_iload1, x_switch, e_sw_c, e_sw_n, u_167_44, x_aload0, k_0_0, f_1_9, x_ireturn, u_167_52, k_1_7, f_9_5, u_167_63, f_1_10, x_call1_0, x_call1_1, x_call1_2, x_call1_3, x_call1_4, e_k_s, e_k_i, List.nil_append, List.cons_append, u_167_74, k_1_8, f_15_4, u_167_85, k_0_5, f_51_2, u_167_93, k_0_3, f_39_2, u_167_101, k_0_8, f_55_1, u_167_109, x_sipush, ↓reduceIte, b01_0, ite_not, if_true, if_false, Int.reduceLT, Int.reduceEq]
      · simp (disch := omega) only [v_296_69, u_296_0, x_iload1, x_switch, e_sw_c, e_sw_n, u_296_44, x_aload0, k_69_0, x_sipush, x_ireturn, u_296_52, u_296_60, x_call2_0, x_call2_1, x_call2_2, x_call2_3, x_call2_4, e_k_s, e_k_i, List.nil_append, List.cons_append, x_call1_0, x_call1_1, x_call1_2, x_call1_3, x_call1_4, u_296_69, u_296_77, f_69_29, u_296_82, f_69_6, u_296_87, f_69_36, u_296_92, ia_70, t2, ↓reduceIte, b01_0, ite_not, if_true, if_false, Int.reduceLT, Int.reduceEq]
    · refine ⟨I 55 1, I, J, I, J, ?_, ?_, h⟩
      · simp (disch := omega) only [v_167_0, u_167_0, x_iload1, x_switch, e_sw_c, e_sw_n, u_167_44, x_aload0, k_0_0, f_1_9, x_ireturn, u_167_52, k_1_7, f_9_5, u_167_63, f_1_10, x_call1_0, x_call1_1, x_call1_2, x_call1_3, x_call1_4, e_k_s, e_k_i, List.nil_append, List.cons_append, u_167_74, k_1_8, f_15_4, u_167_85, k_0_5, f_51_2, u_167_93, k_0_3, f_39_2, u_167_101, k_0_8, f_55_1, u_167_109, x_sipush, ↓reduceIte, b01_0, ite_not, if_true, if_false, Int.reduceLT, Int.reduceEq]
      · simp (disch := omega) only [v_296_69, u_296_0, x_iload1, x_switch, e_sw_c, e_sw_n, u_296_44, x_aload0, k_69_0, x_sipush, x_ireturn, u_296_52, u_296_60, x_call2_0, x_call2_1, x_call2_2, x_call2_3, x_call2_4, e_k_s, e_k_i, List.nil_append, List.cons_append, x_call1_0, x_call1_1, x_call1_2, x_call1_3, x_call1_4, u_296_69, u_296_77, f_69_29, u_296_82, f_69_6, u_296_87, f_69_36, u_296_92, ia_70, r2, ↓reduceIte, b01_0, ite_not, if_true, if_false, Int.reduceLT, Int.reduceEq]
  · refine ⟨-1, I, J, I, J, ?_, ?_, h⟩
    · simp (disch := omega) only [v_167_0, u_167_0, x_iload1, x_switch, e_sw_c, e_sw_n, u_167_44, x_aload0, k_0_0, f_1_9, x_ireturn, u_167_52, k_1_7, f_9_5, u_167_63, f_1_10, x_call1_0, x_call1_1, x_call1_2, x_call1_3, x_call1_4, e_k_s, e_k_i, List.nil_append, List.cons_append, u_167_74, k_1_8, f_15_4, u_167_85, k_0_5, f_51_2, u_167_93, k_0_3, f_39_2, u_167_101, k_0_8, f_55_1, u_167_109, x_sipush, ↓reduceIte, b01_0, ite_not, if_true, if_false, Int.reduceLT, Int.reduceEq]
      (repeat' split) <;> first | rfl | (exfalso; omega)
    · simp (disch := omega) only [v_296_69, u_296_0, x_iload1, x_switch, e_sw_c, e_sw_n, u_296_44, x_aload0, k_69_0, x_sipush, x_ireturn, u_296_52, u_296_60, x_call2_0, x_call2_1, x_call2_2, x_call2_3, x_call2_4, e_k_s, e_k_i, List.nil_append, List.cons_append, x_call1_0, x_call1_1, x_call1_2, x_call1_3, x_call1_4, u_296_69, u_296_77, f_69_29, u_296_82, f_69_6, u_296_87, f_69_36, u_296_92, ia_70, ↓reduceIte, b01_0, ite_not, if_true, if_false, Int.reduceLT, Int.reduceEq]
      (repeat' split) <;> first | rfl | (exfalso; omega)
end
