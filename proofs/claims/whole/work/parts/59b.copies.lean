/-! COPIES of a whole table, in the class -/
section
variable {X : e_X} {d : Nat} {I J : Nat → Int → Int}
def tc0 (I : Nat → Int → Int) : Nat → Int → Int := (cp (cp (cp (cp (cp (cp (cp I 2 21 6) 3 22 6) 4 23 6) 5 24 6) 6 25 6) 7 26 6) 8 27 16)
def lc0 (I : Nat → Int → Int) : Nat → Int → Int := up (up (cp (cp (cp (cp I 10 29 8) 11 30 8) 12 31 8) 13 32 200) 28 5 (I 9 5)) 28 6 (I 9 6)
def rc0 (I : Nat → Int → Int) : Nat → Int → Int := up (cp (cp (cp (cp I 16 35 6) 17 36 6) 18 37 6) 19 38 6) 34 4 (I 15 4)
def fc0 (I : Nat → Int → Int) : Nat → Int → Int := up (up (up (up (up (up (up (up I 20 9 (I 1 9)) 20 10 (I 1 10)) 20 11 (I 1 11)) 20 12 (I 1 12)) 20 13 (I 1 13)) 20 14 (I 1 14)) 20 15 (I 1 15)) 20 16 (I 1 16)
theorem c_ct0 : s_S X (d + 2) 106 [.ref 20, .ref 1] (mm I J) = some ([], mm (fc0 (rc0 (lc0 (tc0 I)))) J) := by
  simp (disch := omega) only [v_106_1, v_106_20, u_106_0, x_aload1, k_1_0, k_20_0, x_sipush, x_aload0, k_1_1, k_20_1, k_1_2, k_20_2, k_1_3, k_20_3, k_1_4, k_20_4, k_1_5, k_20_5, k_1_6, k_20_6, k_1_7, k_20_7, x_call2_0, x_call2_1, x_call2_2, x_call2_3, x_call2_4, e_k_s, e_k_i, List.nil_append, List.cons_append, k_1_8, k_20_8, f_1_9, f_20_9, p_1_9, p_20_9, f_1_10, f_20_10, p_1_10, p_20_10, f_1_11, f_20_11, p_1_11, p_20_11, f_1_12, f_20_12, p_1_12, p_20_12, f_1_13, f_20_13, p_1_13, p_20_13, f_1_14, f_20_14, p_1_14, p_20_14, f_1_15, f_20_15, p_1_15, p_20_15, f_1_16, f_20_16, p_1_16, p_20_16, x_return, cp_2_21, cp_3_22, cp_4_23, cp_5_24, cp_6_25, cp_7_26, cp_8_27, c_cl0, c_cr0, ↓reduceIte, b01_0, ite_not, if_true, if_false, Int.reduceLT, Int.reduceEq]
  rfl
def tc19 (I : Nat → Int → Int) : Nat → Int → Int := (cp (cp (cp (cp (cp (cp (cp I 21 2 6) 22 3 6) 23 4 6) 24 5 6) 25 6 6) 26 7 6) 27 8 16)
def lc19 (I : Nat → Int → Int) : Nat → Int → Int := up (up (cp (cp (cp (cp I 29 10 8) 30 11 8) 31 12 8) 32 13 200) 9 5 (I 28 5)) 9 6 (I 28 6)
def rc19 (I : Nat → Int → Int) : Nat → Int → Int := up (cp (cp (cp (cp I 35 16 6) 36 17 6) 37 18 6) 38 19 6) 15 4 (I 34 4)
def fc19 (I : Nat → Int → Int) : Nat → Int → Int := up (up (up (up (up (up (up (up I 1 9 (I 20 9)) 1 10 (I 20 10)) 1 11 (I 20 11)) 1 12 (I 20 12)) 1 13 (I 20 13)) 1 14 (I 20 14)) 1 15 (I 20 15)) 1 16 (I 20 16)
theorem c_ct19 : s_S X (d + 2) 106 [.ref 1, .ref 20] (mm I J) = some ([], mm (fc19 (rc19 (lc19 (tc19 I)))) J) := by
  simp (disch := omega) only [v_106_1, v_106_20, u_106_0, x_aload1, k_1_0, k_20_0, x_sipush, x_aload0, k_1_1, k_20_1, k_1_2, k_20_2, k_1_3, k_20_3, k_1_4, k_20_4, k_1_5, k_20_5, k_1_6, k_20_6, k_1_7, k_20_7, x_call2_0, x_call2_1, x_call2_2, x_call2_3, x_call2_4, e_k_s, e_k_i, List.nil_append, List.cons_append, k_1_8, k_20_8, f_1_9, f_20_9, p_1_9, p_20_9, f_1_10, f_20_10, p_1_10, p_20_10, f_1_11, f_20_11, p_1_11, p_20_11, f_1_12, f_20_12, p_1_12, p_20_12, f_1_13, f_20_13, p_1_13, p_20_13, f_1_14, f_20_14, p_1_14, p_20_14, f_1_15, f_20_15, p_1_15, p_20_15, f_1_16, f_20_16, p_1_16, p_20_16, x_return, cp_21_2, cp_22_3, cp_23_4, cp_24_5, cp_25_6, cp_26_7, cp_27_8, c_cl19, c_cr19, ↓reduceIte, b01_0, ite_not, if_true, if_false, Int.reduceLT, Int.reduceEq]
  rfl
end
