/-! COMPARISONS of a rule's code -/
def fv (I : Nat → Int → Int) (v : Int) : Int := if 10000 ≤ v ∧ v < 10005 then I 14 (v - 10000) else v
abbrev cmpv (s a b : Int) : Prop := (s = 0 ∧ a < b) ∨ (s = 1 ∧ a = b) ∨ (s = 2 ∧ b < a)
theorem fv_rg {I : Nat → Int → Int} (hf : ∀ i, 0 ≤ i ∧ i < 5 → rg (I 14 i)) {v : Int} (hv : 0 ≤ v ∧ v < 16384) : rg (fv I v) := by
  unfold fv
  by_cases h : 10000 ≤ v ∧ v < 10005
  · rw [if_pos h]
    exact hf _ (by omega)
  · rw [if_neg h]
    constructor <;> omega
section
variable {X : e_X} {d : Nat} {I J : Nat → Int → Int}
theorem l_cm1 {s a b p : Int} (hs : s = 0 ∨ s = 1 ∨ s = 2) (ha : rg a) (hb : rg b) (e : iI p >>> (iI 28 &&& 31) = iI s) : s_j X d 11 65 [.ref 9, .int (iI p), .int (iI a), .int (iI b)] [] (mm I J) = some ([.int (iI (if cmpv s a b then 1 else 0))], mm I J) := by
  rcases hs with rfl | rfl | rfl
  · (repeat' (first | simp (disch := omega) only [v_11_9, v_11_40, u_11_0, x_iload1, x_sipush, x_ishr, x_iand, x_istore2i, x_istore2r, x_istore2u, x_istore3i, x_istore3r, x_istore3u, x_iload2, x_if_icmp_lt, x_if_icmp_ge, x_aload0, k_9_4, x_isub, x_jsr, u_11_40, x_iload3, u_11_65, x_switch, e_sw_c, e_sw_n, u_11_96, x_goto, u_11_105, u_11_106, x_zret0, x_zret1, x_zretb, u_11_107, x_if_icmp_ne, u_11_116, u_11_117, u_11_118, x_if_icmp_le, u_11_127, u_11_128, ia_14, e, Int.reduceLE, b01_0, ite_not, if_true, if_false, Int.reduceLT, Int.reduceEq] | split)) <;> first | rfl | (exfalso; omega)
  · (repeat' (first | simp (disch := omega) only [v_11_9, v_11_40, u_11_0, x_iload1, x_sipush, x_ishr, x_iand, x_istore2i, x_istore2r, x_istore2u, x_istore3i, x_istore3r, x_istore3u, x_iload2, x_if_icmp_lt, x_if_icmp_ge, x_aload0, k_9_4, x_isub, x_jsr, u_11_40, x_iload3, u_11_65, x_switch, e_sw_c, e_sw_n, u_11_96, x_goto, u_11_105, u_11_106, x_zret0, x_zret1, x_zretb, u_11_107, x_if_icmp_ne, u_11_116, u_11_117, u_11_118, x_if_icmp_le, u_11_127, u_11_128, ia_14, e, Int.reduceLE, b01_0, ite_not, if_true, if_false, Int.reduceLT, Int.reduceEq] | split)) <;> first | rfl | (exfalso; omega)
  · (repeat' (first | simp (disch := omega) only [v_11_9, v_11_40, u_11_0, x_iload1, x_sipush, x_ishr, x_iand, x_istore2i, x_istore2r, x_istore2u, x_istore3i, x_istore3r, x_istore3u, x_iload2, x_if_icmp_lt, x_if_icmp_ge, x_aload0, k_9_4, x_isub, x_jsr, u_11_40, x_iload3, u_11_65, x_switch, e_sw_c, e_sw_n, u_11_96, x_goto, u_11_105, u_11_106, x_zret0, x_zret1, x_zretb, u_11_107, x_if_icmp_ne, u_11_116, u_11_117, u_11_118, x_if_icmp_le, u_11_127, u_11_128, ia_14, e, Int.reduceLE, b01_0, ite_not, if_true, if_false, Int.reduceLT, Int.reduceEq] | split)) <;> first | rfl | (exfalso; omega)
theorem l_cm2 {s a r p : Int} (hs : s = 0 ∨ s = 1 ∨ s = 2) (ha : rg a) (hr : 0 ≤ r ∧ r < 16384) (hf : ∀ i, 0 ≤ i ∧ i < 5 → rg (I 14 i)) (e : iI p >>> (iI 28 &&& 31) = iI s) : s_j X d 11 40 [.ref 9, .int (iI p), .int (iI a), .int (iI r)] [] (mm I J) = some ([.int (iI (if cmpv s a (fv I r) then 1 else 0))], mm I J) := by
  have e1 := l_cm1 (X := X) (d := d) (I := I) (J := J) (b := fv I r) hs ha (fv_rg hf hr) e
  rw [← e1]
  unfold fv
  rw [u_11_40]
  simp (disch := omega) only [v_11_9, v_11_40, u_11_0, x_iload1, x_sipush, x_ishr, x_iand, x_istore2i, x_istore2r, x_istore2u, x_istore3i, x_istore3r, x_istore3u, x_iload2, x_if_icmp_lt, x_if_icmp_ge, x_aload0, k_9_4, x_isub, x_jsr, x_iload3, x_switch, e_sw_c, e_sw_n, u_11_96, x_goto, u_11_105, u_11_106, x_zret0, x_zret1, x_zretb, u_11_107, x_if_icmp_ne, u_11_116, u_11_117, u_11_118, x_if_icmp_le, u_11_127, u_11_128, ia_14, b01_0, ite_not, if_true, if_false, Int.reduceLT, Int.reduceEq]
  by_cases h1 : r < 10000
  · rw [if_pos h1, if_neg (by omega)]
  · rw [if_neg h1]
    by_cases h2 : r < 10005
    · rw [if_pos h2, if_pos ⟨by omega, h2⟩]
      simp (disch := omega) only [v_11_9, v_11_40, u_11_0, x_iload1, x_sipush, x_ishr, x_iand, x_istore2i, x_istore2r, x_istore2u, x_istore3i, x_istore3r, x_istore3u, x_iload2, x_if_icmp_lt, x_if_icmp_ge, x_aload0, k_9_4, x_isub, x_jsr, x_iload3, x_switch, e_sw_c, e_sw_n, u_11_96, x_goto, u_11_105, u_11_106, x_zret0, x_zret1, x_zretb, u_11_107, x_if_icmp_ne, u_11_116, u_11_117, u_11_118, x_if_icmp_le, u_11_127, u_11_128, ia_14, b01_0, ite_not, if_true, if_false, Int.reduceLT, Int.reduceEq]
    · rw [if_neg h2, if_neg (by omega)]
theorem l_cmp {s l r : Int} (hs : s = 0 ∨ s = 1 ∨ s = 2) (hl : 0 ≤ l ∧ l < 16384) (hr : 0 ≤ r ∧ r < 16384) (hf : ∀ i, 0 ≤ i ∧ i < 5 → rg (I 14 i)) : s_S X (d + 1) 11 [.ref 9, .int (iI (r + l * 2 ^ 14 + s * 2 ^ 28))] (mm I J) = some ([.int (iI (if cmpv s (fv I l) (fv I r) then 1 else 0))], mm I J) := by
  have q1 : (r + l * 2 ^ 14 + s * 2 ^ 28) / 2 ^ 14 % 2 ^ 14 = l := by omega
  have q3 : (r + l * 2 ^ 14 + s * 2 ^ 28) / 2 ^ 28 = s := by omega
  have e1 := i_part (a := r + l * 2 ^ 14 + s * 2 ^ 28) 14 14 (by decide) (by decide) (by omega)
  rw [q1, show ((2 : Int) ^ 14 - 1) = 16383 by decide] at e1
  have e2 := i_and (a := r + l * 2 ^ 14 + s * 2 ^ 28) (b := 16383) (by omega) (by decide)
  have q2 : (((r + l * 2 ^ 14 + s * 2 ^ 28).toNat &&& (16383 : Int).toNat : Nat) : Int) = r := by
    show (((r + l * 2 ^ 14 + s * 2 ^ 28).toNat &&& (2 ^ 14 - 1) : Nat) : Int) = r
    rw [Nat.and_two_pow_sub_one_eq_mod]
    omega
  rw [q2] at e2
  have e3 := iN_shr (a := (r + l * 2 ^ 14 + s * 2 ^ 28).toNat) (k := 28) (by decide) (by omega)
  have q4 : (((r + l * 2 ^ 14 + s * 2 ^ 28).toNat / 2 ^ 28 : Nat) : Int) = s := by omega
  rw [q4, Int.toNat_of_nonneg (by omega)] at e3
  simp only [Int.cast_ofNat_Int] at e1 e3
  have e4 := l_cm2 (X := X) (d := d) (I := I) (J := J) (a := fv I l) hs (fv_rg hf hl) hr hf e3
  rw [← e4]
  unfold fv
  simp (disch := omega) only [v_11_9, v_11_40, u_11_0, x_iload1, x_sipush, x_ishr, x_iand, x_istore2i, x_istore2r, x_istore2u, x_istore3i, x_istore3r, x_istore3u, x_iload2, x_if_icmp_lt, x_if_icmp_ge, x_aload0, k_9_4, x_isub, x_jsr, x_iload3, x_switch, e_sw_c, e_sw_n, u_11_96, x_goto, u_11_105, u_11_106, x_zret0, x_zret1, x_zretb, u_11_107, x_if_icmp_ne, u_11_116, u_11_117, u_11_118, x_if_icmp_le, u_11_127, u_11_128, ia_14, e1, e2, b01_0, ite_not, if_true, if_false, Int.reduceLT, Int.reduceEq]
  by_cases h1 : l < 10000
  · rw [if_pos h1, if_neg (by omega)]
  · rw [if_neg h1]
    by_cases h2 : l < 10005
    · rw [if_pos h2, if_pos ⟨by omega, h2⟩]
      simp (disch := omega) only [v_11_9, v_11_40, u_11_0, x_iload1, x_sipush, x_ishr, x_iand, x_istore2i, x_istore2r, x_istore2u, x_istore3i, x_istore3r, x_istore3u, x_iload2, x_if_icmp_lt, x_if_icmp_ge, x_aload0, k_9_4, x_isub, x_jsr, x_iload3, x_switch, e_sw_c, e_sw_n, u_11_96, x_goto, u_11_105, u_11_106, x_zret0, x_zret1, x_zretb, u_11_107, x_if_icmp_ne, u_11_116, u_11_117, u_11_118, x_if_icmp_le, u_11_127, u_11_128, ia_14, b01_0, ite_not, if_true, if_false, Int.reduceLT, Int.reduceEq]
    · rw [if_neg h2, if_neg (by omega)]
end
