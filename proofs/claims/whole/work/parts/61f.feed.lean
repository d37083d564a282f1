/-! FEED: the loop in the model -/
section
variable {X : e_X} {d : Nat} {I J : Nat → Int → Int}
theorem m_fd {x : Int64} {n : Int} (hn : 1 ≤ n ∧ n ≤ 8) : ∀ (m : Nat) (j p : Int) (A : Int → Int), 0 ≤ j → j + m = n → (0 ≤ p ∧ p + m ≤ 200) → s_j X d 171 30 [.ref 69, .long x, .retAddr 0, .int (iI n), .int (iI j)] [] (mm (tmo I p A) J) = some ([.int (iI (p + m))], mm (tmo I (p + m) (tpe x m j p A)) J) := by
  intro m
  induction m with
  | zero =>
    intro j p A j0 jn hp
    have r : tmo I p A 69 6 = p := rfl
    rw [u_171_30]
    simp (disch := omega) only [v_171_69, u_171_0, x_iload3, x_sipush, x_call3_0, x_call3_1, x_call3_2, x_call3_3, x_call3_4, e_k_s, e_k_i, List.nil_append, List.cons_append, x_ifCond_ne, x_ifCond_neb, x_ireturn, u_171_12, x_aload0, f_69_6, x_iadd, x_if_icmp_le, u_171_27, x_istore4i, x_istore4r, x_istore4u, x_jsr, x_iload4, x_if_icmp_ge, k_69_5, x_lload1, x_imul, x_lshr, x_lconst, x_land, x_l2i, x_dup_i, x_dup_r, p_69_6, x_iinc4i, x_iinc4r, x_iinc4u, x_goto, u_171_73, is_74, r, ↓reduceIte, b01_0, ite_not, if_true, if_false, Int.reduceLT, Int.reduceEq]
    rw [if_neg (by omega)]
    simp only [Int.natCast_zero, Int.add_zero]
    rfl
  | succ m ih =>
    intro j p A j0 jn hp
    have e := ih (j + 1) (p + 1) (upf A p (fb x j)) (by omega) (by omega) (by omega)
    have r : ∀ q B, tmo I q B 69 6 = q := fun _ _ => rfl
    have g : ((x >>> ((iI (8 * j)).toInt64 &&& 63)) &&& lI 255).toInt32 = iI (fb x j) := fb_i
    rw [show p + ((m + 1 : Nat) : Int) = p + 1 + m by omega]
    show _ = some (_, mm (tmo I (p + 1 + m) (tpe x m (j + 1) (p + 1) (upf A p (fb x j)))) J)
    rw [← e, u_171_30]
    simp (disch := omega) only [v_171_69, u_171_0, x_iload3, x_sipush, x_call3_0, x_call3_1, x_call3_2, x_call3_3, x_call3_4, e_k_s, e_k_i, List.nil_append, List.cons_append, x_ifCond_ne, x_ifCond_neb, x_ireturn, u_171_12, x_aload0, f_69_6, x_iadd, x_if_icmp_le, u_171_27, x_istore4i, x_istore4r, x_istore4u, x_jsr, x_iload4, x_if_icmp_ge, k_69_5, x_lload1, x_imul, x_lshr, x_lconst, x_land, x_l2i, x_dup_i, x_dup_r, p_69_6, x_iinc4i, x_iinc4r, x_iinc4u, x_goto, u_171_73, is_74, r, g, tmo_u, tmo_a, ↓reduceIte, b01_0, ite_not, if_true, if_false, Int.reduceLT, Int.reduceEq]
    rw [if_pos (by omega)]
end
