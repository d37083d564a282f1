/-! COPIES of a table, in the class -/
section
variable {X : e_X} {d c : Nat} {is : List Instr} {ls : List Value} {I J : Nat → Int → Int}
theorem cp_2_21 : s_x X d c (.dmul :: is) ls [.int (iI 6), .int (iI 0), .ref 21, .int (iI 0), .ref 2] (mm I J) = s_x X d c is ls [] (mm (cp I 2 21 6) J) := x_copy rfl rfl (by decide) (by decide)
theorem cp_21_2 : s_x X d c (.dmul :: is) ls [.int (iI 6), .int (iI 0), .ref 2, .int (iI 0), .ref 21] (mm I J) = s_x X d c is ls [] (mm (cp I 21 2 6) J) := x_copy rfl rfl (by decide) (by decide)
theorem cp_3_22 : s_x X d c (.dmul :: is) ls [.int (iI 6), .int (iI 0), .ref 22, .int (iI 0), .ref 3] (mm I J) = s_x X d c is ls [] (mm (cp I 3 22 6) J) := x_copy rfl rfl (by decide) (by decide)
theorem cp_22_3 : s_x X d c (.dmul :: is) ls [.int (iI 6), .int (iI 0), .ref 3, .int (iI 0), .ref 22] (mm I J) = s_x X d c is ls [] (mm (cp I 22 3 6) J) := x_copy rfl rfl (by decide) (by decide)
theorem cp_4_23 : s_x X d c (.dmul :: is) ls [.int (iI 6), .int (iI 0), .ref 23, .int (iI 0), .ref 4] (mm I J) = s_x X d c is ls [] (mm (cp I 4 23 6) J) := x_copy rfl rfl (by decide) (by decide)
theorem cp_23_4 : s_x X d c (.dmul :: is) ls [.int (iI 6), .int (iI 0), .ref 4, .int (iI 0), .ref 23] (mm I J) = s_x X d c is ls [] (mm (cp I 23 4 6) J) := x_copy rfl rfl (by decide) (by decide)
theorem cp_5_24 : s_x X d c (.dmul :: is) ls [.int (iI 6), .int (iI 0), .ref 24, .int (iI 0), .ref 5] (mm I J) = s_x X d c is ls [] (mm (cp I 5 24 6) J) := x_copy rfl rfl (by decide) (by decide)
theorem cp_24_5 : s_x X d c (.dmul :: is) ls [.int (iI 6), .int (iI 0), .ref 5, .int (iI 0), .ref 24] (mm I J) = s_x X d c is ls [] (mm (cp I 24 5 6) J) := x_copy rfl rfl (by decide) (by decide)
theorem cp_6_25 : s_x X d c (.dmul :: is) ls [.int (iI 6), .int (iI 0), .ref 25, .int (iI 0), .ref 6] (mm I J) = s_x X d c is ls [] (mm (cp I 6 25 6) J) := x_copy rfl rfl (by decide) (by decide)
theorem cp_25_6 : s_x X d c (.dmul :: is) ls [.int (iI 6), .int (iI 0), .ref 6, .int (iI 0), .ref 25] (mm I J) = s_x X d c is ls [] (mm (cp I 25 6 6) J) := x_copy rfl rfl (by decide) (by decide)
theorem cp_7_26 : s_x X d c (.dmul :: is) ls [.int (iI 6), .int (iI 0), .ref 26, .int (iI 0), .ref 7] (mm I J) = s_x X d c is ls [] (mm (cp I 7 26 6) J) := x_copy rfl rfl (by decide) (by decide)
theorem cp_26_7 : s_x X d c (.dmul :: is) ls [.int (iI 6), .int (iI 0), .ref 7, .int (iI 0), .ref 26] (mm I J) = s_x X d c is ls [] (mm (cp I 26 7 6) J) := x_copy rfl rfl (by decide) (by decide)
theorem cp_8_27 : s_x X d c (.dmul :: is) ls [.int (iI 16), .int (iI 0), .ref 27, .int (iI 0), .ref 8] (mm I J) = s_x X d c is ls [] (mm (cp I 8 27 16) J) := x_copy rfl rfl (by decide) (by decide)
theorem cp_27_8 : s_x X d c (.dmul :: is) ls [.int (iI 16), .int (iI 0), .ref 8, .int (iI 0), .ref 27] (mm I J) = s_x X d c is ls [] (mm (cp I 27 8 16) J) := x_copy rfl rfl (by decide) (by decide)
theorem cp_10_29 : s_x X d c (.dmul :: is) ls [.int (iI 8), .int (iI 0), .ref 29, .int (iI 0), .ref 10] (mm I J) = s_x X d c is ls [] (mm (cp I 10 29 8) J) := x_copy rfl rfl (by decide) (by decide)
theorem cp_29_10 : s_x X d c (.dmul :: is) ls [.int (iI 8), .int (iI 0), .ref 10, .int (iI 0), .ref 29] (mm I J) = s_x X d c is ls [] (mm (cp I 29 10 8) J) := x_copy rfl rfl (by decide) (by decide)
theorem cp_11_30 : s_x X d c (.dmul :: is) ls [.int (iI 8), .int (iI 0), .ref 30, .int (iI 0), .ref 11] (mm I J) = s_x X d c is ls [] (mm (cp I 11 30 8) J) := x_copy rfl rfl (by decide) (by decide)
theorem cp_30_11 : s_x X d c (.dmul :: is) ls [.int (iI 8), .int (iI 0), .ref 11, .int (iI 0), .ref 30] (mm I J) = s_x X d c is ls [] (mm (cp I 30 11 8) J) := x_copy rfl rfl (by decide) (by decide)
theorem cp_12_31 : s_x X d c (.dmul :: is) ls [.int (iI 8), .int (iI 0), .ref 31, .int (iI 0), .ref 12] (mm I J) = s_x X d c is ls [] (mm (cp I 12 31 8) J) := x_copy rfl rfl (by decide) (by decide)
theorem cp_31_12 : s_x X d c (.dmul :: is) ls [.int (iI 8), .int (iI 0), .ref 12, .int (iI 0), .ref 31] (mm I J) = s_x X d c is ls [] (mm (cp I 31 12 8) J) := x_copy rfl rfl (by decide) (by decide)
theorem cp_13_32 : s_x X d c (.dmul :: is) ls [.int (iI 200), .int (iI 0), .ref 32, .int (iI 0), .ref 13] (mm I J) = s_x X d c is ls [] (mm (cp I 13 32 200) J) := x_copy rfl rfl (by decide) (by decide)
theorem cp_32_13 : s_x X d c (.dmul :: is) ls [.int (iI 200), .int (iI 0), .ref 13, .int (iI 0), .ref 32] (mm I J) = s_x X d c is ls [] (mm (cp I 32 13 200) J) := x_copy rfl rfl (by decide) (by decide)
theorem cp_16_35 : s_x X d c (.dmul :: is) ls [.int (iI 6), .int (iI 0), .ref 35, .int (iI 0), .ref 16] (mm I J) = s_x X d c is ls [] (mm (cp I 16 35 6) J) := x_copy rfl rfl (by decide) (by decide)
theorem cp_35_16 : s_x X d c (.dmul :: is) ls [.int (iI 6), .int (iI 0), .ref 16, .int (iI 0), .ref 35] (mm I J) = s_x X d c is ls [] (mm (cp I 35 16 6) J) := x_copy rfl rfl (by decide) (by decide)
theorem cp_17_36 : s_x X d c (.dmul :: is) ls [.int (iI 6), .int (iI 0), .ref 36, .int (iI 0), .ref 17] (mm I J) = s_x X d c is ls [] (mm (cp I 17 36 6) J) := x_copy rfl rfl (by decide) (by decide)
theorem cp_36_17 : s_x X d c (.dmul :: is) ls [.int (iI 6), .int (iI 0), .ref 17, .int (iI 0), .ref 36] (mm I J) = s_x X d c is ls [] (mm (cp I 36 17 6) J) := x_copy rfl rfl (by decide) (by decide)
theorem cp_18_37 : s_x X d c (.dmul :: is) ls [.int (iI 6), .int (iI 0), .ref 37, .int (iI 0), .ref 18] (mm I J) = s_x X d c is ls [] (mm (cp I 18 37 6) J) := x_copy rfl rfl (by decide) (by decide)
theorem cp_37_18 : s_x X d c (.dmul :: is) ls [.int (iI 6), .int (iI 0), .ref 18, .int (iI 0), .ref 37] (mm I J) = s_x X d c is ls [] (mm (cp I 37 18 6) J) := x_copy rfl rfl (by decide) (by decide)
theorem cp_19_38 : s_x X d c (.dmul :: is) ls [.int (iI 6), .int (iI 0), .ref 38, .int (iI 0), .ref 19] (mm I J) = s_x X d c is ls [] (mm (cp I 19 38 6) J) := x_copy rfl rfl (by decide) (by decide)
theorem cp_38_19 : s_x X d c (.dmul :: is) ls [.int (iI 6), .int (iI 0), .ref 19, .int (iI 0), .ref 38] (mm I J) = s_x X d c is ls [] (mm (cp I 38 19 6) J) := x_copy rfl rfl (by decide) (by decide)
theorem c_cr0 : s_S X (d + 1) 52 [.ref 34, .ref 15] (mm I J) = some ([], mm (up (cp (cp (cp (cp I 16 35 6) 17 36 6) 18 37 6) 19 38 6) 34 4 (I 15 4)) J) := by
  have g : ∀ (M : Nat → Int → Int) s t n k, 15 ≠ t → 34 ≠ t → cp M s t n 15 k = M 15 k := fun M s t n k h1 h2 => if_neg (fun z => h1 z.1)
  simp (disch := omega) only [v_52_15, v_52_34, u_52_0, x_aload1, k_15_0, k_34_0, x_sipush, x_aload0, k_15_1, k_34_1, k_15_2, k_34_2, k_15_3, k_34_3, f_15_4, f_34_4, p_15_4, p_34_4, x_return, cp_16_35, cp_17_36, cp_18_37, cp_19_38, ↓reduceIte, b01_0, ite_not, if_true, if_false, Int.reduceLT, Int.reduceEq]
  rfl
theorem c_cl0 : s_S X (d + 1) 16 [.ref 28, .ref 9] (mm I J) = some ([], mm (up (up (cp (cp (cp (cp I 10 29 8) 11 30 8) 12 31 8) 13 32 200) 28 5 (I 9 5)) 28 6 (I 9 6)) J) := by
  simp (disch := omega) only [v_16_9, v_16_28, u_16_0, x_aload1, k_9_0, k_28_0, x_sipush, x_aload0, k_9_1, k_28_1, k_9_2, k_28_2, k_9_3, k_28_3, f_9_5, f_28_5, p_9_5, p_28_5, f_9_6, f_28_6, p_9_6, p_28_6, x_return, cp_10_29, cp_11_30, cp_12_31, cp_13_32, ↓reduceIte, b01_0, ite_not, if_true, if_false, Int.reduceLT, Int.reduceEq]
  rfl
theorem c_cr19 : s_S X (d + 1) 52 [.ref 15, .ref 34] (mm I J) = some ([], mm (up (cp (cp (cp (cp I 35 16 6) 36 17 6) 37 18 6) 38 19 6) 15 4 (I 34 4)) J) := by
  have g : ∀ (M : Nat → Int → Int) s t n k, 15 ≠ t → 34 ≠ t → cp M s t n 34 k = M 34 k := fun M s t n k h1 h2 => if_neg (fun z => h2 z.1)
  simp (disch := omega) only [v_52_15, v_52_34, u_52_0, x_aload1, k_15_0, k_34_0, x_sipush, x_aload0, k_15_1, k_34_1, k_15_2, k_34_2, k_15_3, k_34_3, f_15_4, f_34_4, p_15_4, p_34_4, x_return, cp_35_16, cp_36_17, cp_37_18, cp_38_19, ↓reduceIte, b01_0, ite_not, if_true, if_false, Int.reduceLT, Int.reduceEq]
  rfl
theorem c_cl19 : s_S X (d + 1) 16 [.ref 9, .ref 28] (mm I J) = some ([], mm (up (up (cp (cp (cp (cp I 29 10 8) 30 11 8) 31 12 8) 32 13 200) 9 5 (I 28 5)) 9 6 (I 28 6)) J) := by
  simp (disch := omega) only [v_16_9, v_16_28, u_16_0, x_aload1, k_9_0, k_28_0, x_sipush, x_aload0, k_9_1, k_28_1, k_9_2, k_28_2, k_9_3, k_28_3, f_9_5, f_28_5, p_9_5, p_28_5, f_9_6, f_28_6, p_9_6, p_28_6, x_return, cp_29_10, cp_30_11, cp_31_12, cp_32_13, ↓reduceIte, b01_0, ite_not, if_true, if_false, Int.reduceLT, Int.reduceEq]
  rfl
end
