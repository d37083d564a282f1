/-! MOMENTS, sets of pieces -/
def mom (I : Nat → Int → Int) : Int := I 1 11 + I 1 14 * 2 ^ 5 + I 1 15 * 2 ^ 9 + I 1 10 * 2 ^ 15
/-- the table as it was at a moment -/
def bck (I : Nat → Int → Int) (y md sh st : Int) : Nat → Int → Int := up (up (up (up I 1 11 y) 1 14 md) 1 15 sh) 1 10 st
section
variable {X : e_X} {d : Nat} {I J : Nat → Int → Int}
theorem t_mom (h1 : 0 ≤ I 1 11 ∧ I 1 11 ≤ 16) (h2 : 0 ≤ I 1 14 ∧ I 1 14 ≤ 9) (h3 : 0 ≤ I 1 15 ∧ I 1 15 ≤ 40) (h4 : 0 ≤ I 1 10 ∧ I 1 10 < 64) : s_S X (d + 1) 85 [.ref 1] (mm I J) = some ([.int (iI (mom I))], mm I J) := by
  simp (disch := omega) only [v_85_1, u_85_0, x_aload0, f_1_11, f_1_14, x_sipush, x_ishl, x_ior, f_1_15, f_1_10, x_ireturn, b01_0, ite_not, if_true, if_false, Int.reduceLT, Int.reduceEq]
  have e1 := i_or_sh (a := I 1 11) (b := I 1 14) 5 (by decide) (by omega) (by omega)
  have e2 := i_or_sh (a := I 1 11 + I 1 14 * 2 ^ 5) (b := I 1 15) 9 (by decide) (by omega) (by omega)
  have e3 := i_or_sh (a := I 1 11 + I 1 14 * 2 ^ 5 + I 1 15 * 2 ^ 9) (b := I 1 10) 15 (by decide) (by omega) (by omega)
  simp only [Int.cast_ofNat_Int] at e1 e2 e3
  rw [e1, e2, e3]
  rfl
theorem t_back {y md sh st : Int} (h1 : 0 ≤ y ∧ y ≤ 16) (h2 : 0 ≤ md ∧ md ≤ 9) (h3 : 0 ≤ sh ∧ sh ≤ 40) (h4 : 0 ≤ st ∧ st < 64) : s_S X (d + 1) 87 [.ref 1, .int (iI (y + md * 2 ^ 5 + sh * 2 ^ 9 + st * 2 ^ 15))] (mm I J) = some ([], mm (bck I y md sh st) J) := by
  have e0 := i_and (a := y + md * 2 ^ 5 + sh * 2 ^ 9 + st * 2 ^ 15) (b := 31) (by omega) (by decide)
  have e1 := i_part (a := y + md * 2 ^ 5 + sh * 2 ^ 9 + st * 2 ^ 15) 5 4 (by decide) (by decide) (by omega)
  have e2 := i_part (a := y + md * 2 ^ 5 + sh * 2 ^ 9 + st * 2 ^ 15) 9 6 (by decide) (by decide) (by omega)
  have e3 := i_part (a := y + md * 2 ^ 5 + sh * 2 ^ 9 + st * 2 ^ 15) 15 6 (by decide) (by decide) (by omega)
  have q0 : (((y + md * 2 ^ 5 + sh * 2 ^ 9 + st * 2 ^ 15).toNat &&& (31 : Int).toNat : Nat) : Int) = y := by
    show (((y + md * 2 ^ 5 + sh * 2 ^ 9 + st * 2 ^ 15).toNat &&& (2 ^ 5 - 1) : Nat) : Int) = y
    rw [Nat.and_two_pow_sub_one_eq_mod]
    omega
  have q1 : (y + md * 2 ^ 5 + sh * 2 ^ 9 + st * 2 ^ 15) / 2 ^ 5 % 2 ^ 4 = md := by omega
  have q2 : (y + md * 2 ^ 5 + sh * 2 ^ 9 + st * 2 ^ 15) / 2 ^ 9 % 2 ^ 6 = sh := by omega
  have q3 : (y + md * 2 ^ 5 + sh * 2 ^ 9 + st * 2 ^ 15) / 2 ^ 15 % 2 ^ 6 = st := by omega
  rw [q0] at e0
  rw [q1] at e1
  rw [q2] at e2
  rw [q3] at e3
  have t4 : ((2 : Int) ^ 4 - 1) = 15 := by decide
  have t6 : ((2 : Int) ^ 6 - 1) = 63 := by decide
  rw [t4] at e1
  rw [t6] at e2 e3
  simp only [Int.cast_ofNat_Int] at e1 e2 e3
  simp (disch := omega) only [v_87_1, u_87_0, x_aload0, x_iload1, x_sipush, x_iand, p_1_11, x_ishr, p_1_14, p_1_15, p_1_10, x_return, e0, e1, e2, e3, b01_0, ite_not, if_true, if_false, Int.reduceLT, Int.reduceEq]
  rfl
/-- back to the moment from which a search began -/
theorem t_bck {I0 : Nat → Int → Int} (h1 : 0 ≤ I0 1 11 ∧ I0 1 11 ≤ 16) (h2 : 0 ≤ I0 1 14 ∧ I0 1 14 ≤ 9) (h3 : 0 ≤ I0 1 15 ∧ I0 1 15 ≤ 40) (h4 : 0 ≤ I0 1 10 ∧ I0 1 10 < 64) : s_S X (d + 1) 87 [.ref 1, .int (iI (mom I0))] (mm I J) = some ([], mm (bck I (I0 1 11) (I0 1 14) (I0 1 15) (I0 1 10)) J) := t_back h1 h2 h3 h4
theorem all_dec : (List.range 7).all (fun n => decide ((iI 1 <<< (iI (n : Nat) &&& 31)) - iI 1 = iI (2 ^ n - 1))) = true := by decide +kernel
theorem t_all (h : 0 ≤ I 1 9 ∧ I 1 9 ≤ 6) : s_S X (d + 1) 91 [.ref 1] (mm I J) = some ([.int (iI (2 ^ (I 1 9).toNat - 1))], mm I J) := by
  have e : (iI 1 <<< (iI (I 1 9) &&& 31)) - iI 1 = iI (2 ^ (I 1 9).toNat - 1) := by
    obtain ⟨n, hn⟩ := Int.eq_ofNat_of_zero_le h.1
    rw [hn]
    exact of_decide_eq_true (List.all_eq_true.mp all_dec n (List.mem_range.mpr (by omega)))
  have e1 : s_S X (d + 1) 91 [.ref 1] (mm I J) = some ([.int ((iI 1 <<< (iI (I 1 9) &&& 31)) - iI 1)], mm I J) := by
    rw [v_91_1, u_91_0]
    rfl
  rw [e1, e]
/-- the KIND above -/
theorem iabv_c : iabv 0 = -1 ∧ iabv 1 = 0 ∧ iabv 2 = 0 ∧ iabv 3 = 2 ∧ iabv 4 = 0 ∧ iabv 5 = 4 := by decide
abbrev und (kd ab : Int) : Prop := kd = ab ∨ (1 ≤ kd ∧ ab = 0) ∨ (kd = 3 ∧ ab = 2) ∨ (kd = 5 ∧ ab = 4)
theorem b_und1 {kd ab k j : Int} (hk : 0 ≤ k ∧ k ≤ 5) (hj : 0 ≤ j ∧ j ≤ 5) (ha : rg ab) : s_j X (d + 1) 112 4 [.int (iI kd), .int (iI ab), .int (iI k), .int (iI j)] [] (mm I J) = if k = ab then some ([.int (iI 1)], mm I J) else s_j X (d + 1) 112 4 [.int (iI kd), .int (iI ab), .int (iI (iabv k)), .int (iI (j + 1))] [] (mm I J) := by
  rw [u_112_4]
  simp (disch := omega) only [v_112, u_112_0, x_iload0, x_istore2i, x_istore2r, x_istore2u, x_sipush, x_istore3i, x_istore3r, x_istore3u, x_jsr, x_iload3, x_gets0, x_fsub, x_if_icmp_ge, x_iload2, x_ifCond_lt, x_iload1, x_if_icmp_ne, x_zret0, x_zret1, x_zretb, u_112_31, x_daload, x_iinc3i, x_iinc3r, x_iinc3u, x_goto, u_112_43, b01_0, ite_not, if_true, if_false, Int.reduceLT, Int.reduceEq]
  (repeat' split) <;> first | rfl | (exfalso; omega)
theorem b_und0 {kd ab j : Int} (hj : 0 ≤ j ∧ j ≤ 5) (ha : rg ab) : s_j X (d + 1) 112 4 [.int (iI kd), .int (iI ab), .int (iI (-1)), .int (iI j)] [] (mm I J) = some ([.int (iI 0)], mm I J) := by
  rw [u_112_4]
  simp (disch := omega) only [v_112, u_112_0, x_iload0, x_istore2i, x_istore2r, x_istore2u, x_sipush, x_istore3i, x_istore3r, x_istore3u, x_jsr, x_iload3, x_gets0, x_fsub, x_if_icmp_ge, x_iload2, x_ifCond_lt, x_iload1, x_if_icmp_ne, x_zret0, x_zret1, x_zretb, u_112_31, x_daload, x_iinc3i, x_iinc3r, x_iinc3u, x_goto, u_112_43, Int.reduceNeg, Int.reduceLT, b01_0, ite_not, if_true, if_false, Int.reduceEq]
  (repeat' split) <;> first | rfl | (exfalso; omega)
theorem b_under {kd ab : Int} (hk : 0 ≤ kd ∧ kd ≤ 5) (ha : rg ab) : s_S X (d + 2) 112 [.int (iI kd), .int (iI ab)] (mm I J) = some ([.int (iI (if und kd ab then 1 else 0))], mm I J) := by
  obtain ⟨i0, i1, i2, i3, i4, i5⟩ := iabv_c
  have e : s_S X (d + 2) 112 [.int (iI kd), .int (iI ab)] (mm I J) = s_j X (d + 1) 112 4 [.int (iI kd), .int (iI ab), .int (iI kd), .int (iI 0)] [] (mm I J) := by
    simp (disch := omega) only [v_112, u_112_0, x_iload0, x_istore2i, x_istore2r, x_istore2u, x_sipush, x_istore3i, x_istore3r, x_istore3u, x_jsr, x_iload3, x_gets0, x_fsub, x_if_icmp_ge, x_iload2, x_ifCond_lt, x_iload1, x_if_icmp_ne, x_zret0, x_zret1, x_zretb, u_112_31, x_daload, x_iinc3i, x_iinc3r, x_iinc3u, x_goto, u_112_43, b01_0, ite_not, if_true, if_false, Int.reduceLT, Int.reduceEq]
  rw [e]
  have : kd = 0 ∨ kd = 1 ∨ kd = 2 ∨ kd = 3 ∨ kd = 4 ∨ kd = 5 := by omega
  rcases this with rfl | rfl | rfl | rfl | rfl | rfl
  · rw [b_und1 (by decide) (by decide) ha, i0, b_und0 (by decide) ha]
    (repeat' split) <;> first | rfl | (exfalso; omega)
  · rw [b_und1 (by decide) (by decide) ha, i1, b_und1 (by decide) (by decide) ha, i0, b_und0 (by decide) ha]
    (repeat' split) <;> first | rfl | (exfalso; omega)
  · rw [b_und1 (by decide) (by decide) ha, i2, b_und1 (by decide) (by decide) ha, i0, b_und0 (by decide) ha]
    (repeat' split) <;> first | rfl | (exfalso; omega)
  · rw [b_und1 (by decide) (by decide) ha, i3, b_und1 (by decide) (by decide) ha, i2, b_und1 (by decide) (by decide) ha, i0, b_und0 (by decide) ha]
    (repeat' split) <;> first | rfl | (exfalso; omega)
  · rw [b_und1 (by decide) (by decide) ha, i4, b_und1 (by decide) (by decide) ha, i0, b_und0 (by decide) ha]
    (repeat' split) <;> first | rfl | (exfalso; omega)
  · rw [b_und1 (by decide) (by decide) ha, i5, b_und1 (by decide) (by decide) ha, i4, b_und1 (by decide) (by decide) ha, i0, b_und0 (by decide) ha]
    (repeat' split) <;> first | rfl | (exfalso; omega)
end
