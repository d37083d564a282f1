/-! COPIES of a table, in the model -/
section
variable {X : e_X} {d : Nat} {I J : Nat → Int → Int}
theorem m_cp298 (I0 : Nat → Int → Int) : ∀ (n : Nat) (i : Int), 0 ≤ i → i + n = 322 → s_j X d 298 2 [.ref 69, .int (iI i)] [] (mm (cpo I0 70 0 71 0 i) J) = s_j X d 298 27 [.ref 69, .int (iI 322)] [] (mm (cpo I0 70 0 71 0 322) J) := by
  intro n
  induction n with
  | zero =>
    intro i h0 hn
    rw [u_298_2, show i = 322 by omega]
    simp (disch := omega) only [v_298_69, u_298_0, x_sipush, x_istore1i, x_istore1r, x_istore1u, x_jsr, x_iload1, x_if_icmp_ge, x_aload0, k_69_1, k_69_0, x_iinc1i, x_iinc1r, x_iinc1u, x_goto, p_69_3_0, p_69_3_1, p_69_3_b, x_ireturn, ia_70, is_70, ia_71, is_71, ↓reduceIte, b01_0, ite_not, if_true, if_false, Int.reduceLT, Int.reduceEq]
  | succ n ih =>
    intro i h0 hn
    have e := ih (i + 1) (by omega) (by omega)
    have q := cpo_s (I := I0) (src := 70) (dst := 71) (so := 0) (d0 := 0) (i := i) (x := i) (y := i) h0 (by omega) (by omega)
    have r : cpo I0 70 0 71 0 i 70 i = I0 70 i := cpo_r (by decide)
    rw [← e, u_298_2]
    simp (disch := omega) only [v_298_69, u_298_0, x_sipush, x_istore1i, x_istore1r, x_istore1u, x_jsr, x_iload1, x_if_icmp_ge, x_aload0, k_69_1, k_69_0, x_iinc1i, x_iinc1r, x_iinc1u, x_goto, p_69_3_0, p_69_3_1, p_69_3_b, x_ireturn, ia_70, is_70, ia_71, is_71, r, q, ↓reduceIte, b01_0, ite_not, if_true, if_false, Int.reduceLT, Int.reduceEq]
    rw [if_pos (by omega)]
theorem m_cp299 (I0 : Nat → Int → Int) : ∀ (n : Nat) (i : Int), 0 ≤ i → i + n = 322 → s_j X d 299 12 [.ref 69, .int (iI i)] [] (mm (cpo I0 71 0 70 0 i) J) = s_j X d 299 37 [.ref 69, .int (iI 322)] [] (mm (cpo I0 71 0 70 0 322) J) := by
  intro n
  induction n with
  | zero =>
    intro i h0 hn
    rw [u_299_12, show i = 322 by omega]
    simp (disch := omega) only [v_299_69, u_299_0, x_aload0, f_69_3, x_ifCond_ne, x_ifCond_neb, x_sipush, x_ireturn, u_299_10, x_istore1i, x_istore1r, x_istore1u, x_jsr, x_iload1, x_if_icmp_ge, k_69_0, k_69_1, x_iinc1i, x_iinc1r, x_iinc1u, x_goto, ia_70, is_70, ia_71, is_71, ↓reduceIte, b01_0, ite_not, if_true, if_false, Int.reduceLT, Int.reduceEq]
  | succ n ih =>
    intro i h0 hn
    have e := ih (i + 1) (by omega) (by omega)
    have q := cpo_s (I := I0) (src := 71) (dst := 70) (so := 0) (d0 := 0) (i := i) (x := i) (y := i) h0 (by omega) (by omega)
    have r : cpo I0 71 0 70 0 i 71 i = I0 71 i := cpo_r (by decide)
    rw [← e, u_299_12]
    simp (disch := omega) only [v_299_69, u_299_0, x_aload0, f_69_3, x_ifCond_ne, x_ifCond_neb, x_sipush, x_ireturn, u_299_10, x_istore1i, x_istore1r, x_istore1u, x_jsr, x_iload1, x_if_icmp_ge, k_69_0, k_69_1, x_iinc1i, x_iinc1r, x_iinc1u, x_goto, ia_70, is_70, ia_71, is_71, r, q, ↓reduceIte, b01_0, ite_not, if_true, if_false, Int.reduceLT, Int.reduceEq]
    rw [if_pos (by omega)]
theorem m_keep : s_S X (d + 1) 298 [.ref 69] (mm I J) = some ([.int (iI 1)], mm (up (cpo I 70 0 71 0 322) 69 3 1) J) := by
  have e := m_cp298 (X := X) (d := d) (J := J) I 322 0 (by decide) (by decide)
  rw [cpo_0] at e
  simp (disch := omega) only [v_298_69, u_298_0, x_sipush, x_istore1i, x_istore1r, x_istore1u, x_jsr, x_iload1, x_if_icmp_ge, x_aload0, k_69_1, k_69_0, x_iinc1i, x_iinc1r, x_iinc1u, x_goto, u_298_27, p_69_3_0, p_69_3_1, p_69_3_b, x_ireturn, ia_70, is_70, ia_71, is_71, e, ↓reduceIte, b01_0, ite_not, if_true, if_false, Int.reduceLT, Int.reduceEq]
theorem m_again (h : I 69 3 = 1) : s_S X (d + 1) 299 [.ref 69] (mm I J) = some ([.int (iI (cpo I 71 0 70 0 322 70 6))], mm (cpo I 71 0 70 0 322) J) := by
  have e := m_cp299 (X := X) (d := d) (J := J) I 322 0 (by decide) (by decide)
  rw [cpo_0] at e
  simp (disch := omega) only [v_299_69, u_299_0, x_aload0, f_69_3, x_ifCond_ne, x_ifCond_neb, x_sipush, x_ireturn, u_299_10, x_istore1i, x_istore1r, x_istore1u, x_jsr, x_iload1, x_if_icmp_ge, k_69_0, k_69_1, x_iinc1i, x_iinc1r, x_iinc1u, x_goto, u_299_37, ia_70, is_70, ia_71, is_71, e, h, ↓reduceIte, b01_0, ite_not, if_true, if_false, Int.reduceLT, Int.reduceEq]
theorem m_again0 (h : I 69 3 = 0) : s_S X (d + 1) 299 [.ref 69] (mm I J) = some ([.int (iI (-3))], mm I J) := by
  simp (disch := omega) only [v_299_69, u_299_0, x_aload0, f_69_3, x_ifCond_ne, x_ifCond_neb, x_sipush, x_ireturn, u_299_10, x_istore1i, x_istore1r, x_istore1u, x_jsr, x_iload1, x_if_icmp_ge, k_69_0, k_69_1, x_iinc1i, x_iinc1r, x_iinc1u, x_goto, u_299_37, ia_70, is_70, ia_71, is_71, h, ↓reduceIte, b01_0, ite_not, if_true, if_false, Int.reduceLT, Int.reduceEq]
end
