/-! FEED: the loops in class and model -/
section
variable {X : e_X} {d : Nat} {I J : Nat → Int → Int}
theorem c_fd {x : Int64} {n : Int} (hn : 1 ≤ n ∧ n ≤ 8) : ∀ (m : Nat) (j p : Int) (A : Int → Int), 0 ≤ j → j + m = n → (0 ≤ p ∧ p + m ≤ 200) → s_j X d 25 3 [.ref 39, .long x, .retAddr 0, .int (iI n), .int (iI j)] [] (mm (tco I p A) J) = some ([.int (iI (p + m))], mm (tco I (p + m) (tpe x m j p A)) J) := by
  intro m
  induction m with
  | zero =>
    intro j p A j0 jn hp
    have r : tco I p A 39 2 = p := rfl
    rw [u_25_3]
    simp (disch := omega) only [v_25_39, u_25_0, x_sipush, x_istore4i, x_istore4r, x_istore4u, x_jsr, x_iload4, x_iload3, x_if_icmp_ge, x_aload0, f_39_2, k_39_1, x_dup_i, x_dup_r, x_dup_x1, x_iadd, p_39_2, x_lload1, x_imul, x_lushr, x_lconst, x_land, x_l2i, x_iinc4i, x_iinc4r, x_iinc4u, x_goto, u_25_53, x_ireturn, is_46, r, ↓reduceIte, b01_0, ite_not, if_true, if_false, Int.reduceLT, Int.reduceEq]
    rw [if_neg (by omega)]
    simp only [Int.natCast_zero, Int.add_zero]
    rfl
  | succ m ih =>
    intro j p A j0 jn hp
    have e := ih (j + 1) (p + 1) (upf A p (fb x j)) (by omega) (by omega) (by omega)
    have r : ∀ q B, tco I q B 39 2 = q := fun _ _ => rfl
    have g : ((x.toUInt64 >>> ((iI (8 * j)).toInt64.toUInt64 &&& Int64.toUInt64 63)).toInt64 &&& lI 255).toInt32 = iI (fb x j) := by
      rw [← fd_eq x ⟨j0, by omega⟩]
      exact fb_i
    rw [show p + ((m + 1 : Nat) : Int) = p + 1 + m by omega]
    show _ = some (_, mm (tco I (p + 1 + m) (tpe x m (j + 1) (p + 1) (upf A p (fb x j)))) J)
    rw [← e, u_25_3]
    simp (disch := omega) only [v_25_39, u_25_0, x_sipush, x_istore4i, x_istore4r, x_istore4u, x_jsr, x_iload4, x_iload3, x_if_icmp_ge, x_aload0, f_39_2, k_39_1, x_dup_i, x_dup_r, x_dup_x1, x_iadd, p_39_2, x_lload1, x_imul, x_lushr, x_lconst, x_land, x_l2i, x_iinc4i, x_iinc4r, x_iinc4u, x_goto, u_25_53, x_ireturn, is_46, r, g, tco_u, tco_a, ↓reduceIte, b01_0, ite_not, if_true, if_false, Int.reduceLT, Int.reduceEq]
    rw [if_pos (by omega), if_pos (by omega)]
end
