/-! PLACES that a set of pieces spans, as bits -/
theorem lI_sub (a b : Int) : lI a - lI b = lI (a - b) := (Int64.ofInt_sub a b).symm
def pl1 (f w : Nat) : Nat := (2 ^ w - 1) * 2 ^ f
theorem pl1_b {f w : Nat} (hf : f ≤ 39) (hw : w ≤ 12) : pl1 f w < 2 ^ 52 := by
  unfold pl1
  have h1 : 2 ^ w ≤ 2 ^ 12 := Nat.pow_le_pow_right (by decide) hw
  have h2 : 2 ^ f ≤ 2 ^ 39 := Nat.pow_le_pow_right (by decide) hf
  calc (2 ^ w - 1) * 2 ^ f ≤ (2 ^ 12 - 1) * 2 ^ 39 := Nat.mul_le_mul (by omega) h2
    _ < 2 ^ 52 := by decide
theorem pl1_t {f w p : Nat} : (pl1 f w).testBit p = decide (f ≤ p ∧ p < f + w) := by
  unfold pl1
  rw [← Nat.shiftLeft_eq, Nat.testBit_shiftLeft, Nat.testBit_two_pow_sub_one]
  by_cases h1 : f ≤ p <;> by_cases h2 : p < f + w <;> simp [h1, h2] <;> omega
def plc (I : Nat → Int → Int) (st : Int) : Nat → Nat
  | 0 => 0
  | n + 1 => if bt st n = 1 then plc I st n ||| pl1 (I 3 n).toNat (spn (I 2 n) (I 4 n) (I 1 11)).toNat else plc I st n
theorem plc_s {I : Nat → Int → Int} {st : Int} {n : Nat} : plc I st (n + 1) = if bt st n = 1 then plc I st n ||| pl1 (I 3 n).toNat (spn (I 2 n) (I 4 n) (I 1 11)).toNat else plc I st n := rfl
theorem spn_b {kd w y : Int} (hw : 0 ≤ w ∧ w ≤ 9) : 0 ≤ spn kd w y ∧ spn kd w y ≤ 10 := by
  unfold spn
  dsimp only
  (repeat' split) <;> omega
section
variable {X : e_X} {d : Nat} {I J : Nat → Int → Int}
theorem b_pl1 {f w : Nat} (hf : f ≤ 39) (hw : w ≤ 12) : s_S X (d + 1) 127 [.int (iI f), .int (iI w)] (mm I J) = some ([.long (lI (pl1 f w))], mm I J) := by
  have p1 : 2 ^ w ≤ 2 ^ 12 := Nat.pow_le_pow_right (by decide) hw
  have p0 := Nat.two_pow_pos w
  have hb := pl1_b hf hw
  have e1 := lN_shl (a := 1) (k := w) (by omega) (by omega)
  have e2 := lN_shl (a := 2 ^ w - 1) (k := f) (by omega) (by unfold pl1 at hb; omega)
  have e3 : ((1 * 2 ^ w : Nat) : Int) - 1 = ((2 ^ w - 1 : Nat) : Int) := by omega
  simp only [Int.cast_ofNat_Int] at e1
  simp (disch := omega) only [v_127, u_127_0, x_lconst, x_iload1, x_lshl, x_lsub, x_iload0, x_lreturn, e1, lI_sub, e3, e2, b01_0, ite_not, if_true, if_false, Int.reduceLT, Int.reduceEq]
  rfl
theorem plc_b (h7 : ∀ k, 0 ≤ k → k < I 1 9 → (1 ≤ I 2 k ∧ I 2 k ≤ 5) ∧ (0 ≤ I 3 k ∧ I 3 k ≤ 39) ∧ (0 ≤ I 4 k ∧ I 4 k ≤ 9) ∧ (0 ≤ I 5 k ∧ I 5 k ≤ 5)) (st : Int) : ∀ n : Nat, (n : Int) ≤ I 1 9 → plc I st n < 2 ^ 52 := by
  intro n
  induction n with
  | zero =>
    intro _
    show 0 < 2 ^ 52
    decide
  | succ n ih =>
    intro hn
    have h1 := ih (by omega)
    obtain ⟨k1, k2, k3, k4⟩ := h7 n (by omega) (by omega)
    have hs := spn_b (kd := I 2 n) (y := I 1 11) k3
    unfold plc
    by_cases hc : bt st n = 1
    · rw [if_pos hc]
      exact Nat.or_lt_two_pow h1 (pl1_b (by omega) (by omega))
    · rw [if_neg hc]
      exact h1
theorem t_pl1 (h : inv I) (hy : I 1 11 ≤ 16) {st : Int} (hst : 0 ≤ st ∧ st < 64) : ∀ (m n : Nat), (n : Int) + m = I 1 9 → s_j X (d + 1) 83 5 [.ref 1, .int (iI st), .long (lI (plc I st n)), .retAddr 0, .int (iI n)] [] (mm I J) = some ([.long (lI (plc I st (I 1 9).toNat))], mm I J) := by
  obtain ⟨h1, h2, h3, h4, h5, h6, h7, h8, h9⟩ := h
  intro m
  induction m with
  | zero =>
    intro n hn
    rw [u_83_5]
    simp (disch := omega) only [v_83_1, u_83_0, x_lconst, x_lstore2i, x_lstore2r, x_lstore2u, x_sipush, x_istore4i, x_istore4r, x_istore4u, x_jsr, x_iload4, x_aload0, f_1_9, x_if_icmp_ge, x_iload1, x_ishr, x_iand, x_if_icmp_ne, x_lload2, k_1_1, k_1_0, k_1_2, f_1_11, x_call3_0, x_call3_1, x_call3_2, x_call3_3, x_call3_4, e_k_s, e_k_i, List.nil_append, List.cons_append, x_call2_0, x_call2_1, x_call2_2, x_call2_3, x_call2_4, x_lor, u_83_58, x_iinc4i, x_iinc4r, x_iinc4u, x_goto, u_83_64, x_lreturn, ia_2, ia_3, ia_4, b01_0, ite_not, if_true, if_false, Int.reduceLT, Int.reduceEq]
    rw [if_neg (by omega), show (I 1 9).toNat = n by omega]
  | succ m ih =>
    intro n hn
    obtain ⟨k1, k2, k3, k4⟩ := h7 n (by omega) (by omega)
    have hs := spn_b (kd := I 2 n) (y := I 1 11) k3
    have e1 := bt_i (s := st) (k := n) hst (by omega)
    have hbr := bt_rg st n
    have e2 := b_span (X := X) (d := d) (I := I) (J := J) (kd := I 2 n) (w := I 4 n) (y := I 1 11) ⟨by omega, by omega⟩ k3 ⟨h3.1, hy⟩
    have e3 := b_pl1 (X := X) (d := d) (I := I) (J := J) (f := (I 3 n).toNat) (w := (spn (I 2 n) (I 4 n) (I 1 11)).toNat) (by omega) (by omega)
    rw [Int.toNat_of_nonneg k2.1, Int.toNat_of_nonneg hs.1] at e3
    have hb := plc_b h7 st n (by omega)
    have e4 := lN_or (a := plc I st n) (b := pl1 (I 3 n).toNat (spn (I 2 n) (I 4 n) (I 1 11)).toNat) (by omega) (by have := pl1_b (f := (I 3 n).toNat) (w := (spn (I 2 n) (I 4 n) (I 1 11)).toNat) (by omega) (by omega); omega)
    have e5 := ih (n + 1) (by omega)
    have e6 : (((n + 1 : Nat)) : Int) = (n : Int) + 1 := by omega
    rw [e6] at e5
    rw [plc_s] at e5
    rw [u_83_5]
    by_cases hc : bt st n = 1
    · rw [if_pos hc] at e5
      simp (disch := omega) only [v_83_1, u_83_0, x_lconst, x_lstore2i, x_lstore2r, x_lstore2u, x_sipush, x_istore4i, x_istore4r, x_istore4u, x_jsr, x_iload4, x_aload0, f_1_9, x_if_icmp_ge, x_iload1, x_ishr, x_iand, x_if_icmp_ne, x_lload2, k_1_1, k_1_0, k_1_2, f_1_11, x_call3_0, x_call3_1, x_call3_2, x_call3_3, x_call3_4, e_k_s, e_k_i, List.nil_append, List.cons_append, x_call2_0, x_call2_1, x_call2_2, x_call2_3, x_call2_4, x_lor, u_83_58, x_iinc4i, x_iinc4r, x_iinc4u, x_goto, u_83_64, x_lreturn, ia_2, ia_3, ia_4, e1, e2, e3, e4, e5, b01_0, ite_not, if_true, if_false, Int.reduceLT, Int.reduceEq]
      rw [if_pos (by omega), if_pos hc]
    · rw [if_neg hc] at e5
      simp (disch := omega) only [v_83_1, u_83_0, x_lconst, x_lstore2i, x_lstore2r, x_lstore2u, x_sipush, x_istore4i, x_istore4r, x_istore4u, x_jsr, x_iload4, x_aload0, f_1_9, x_if_icmp_ge, x_iload1, x_ishr, x_iand, x_if_icmp_ne, x_lload2, k_1_1, k_1_0, k_1_2, f_1_11, x_call3_0, x_call3_1, x_call3_2, x_call3_3, x_call3_4, e_k_s, e_k_i, List.nil_append, List.cons_append, x_call2_0, x_call2_1, x_call2_2, x_call2_3, x_call2_4, x_lor, u_83_58, x_iinc4i, x_iinc4r, x_iinc4u, x_goto, u_83_64, x_lreturn, ia_2, ia_3, ia_4, e1, e2, e3, e4, e5, b01_0, ite_not, if_true, if_false, Int.reduceLT, Int.reduceEq]
      rw [if_pos (by omega), if_neg hc]
theorem t_pl (h : inv I) (hy : I 1 11 ≤ 16) {st : Int} (hst : 0 ≤ st ∧ st < 64) : s_S X (d + 2) 83 [.ref 1, .int (iI st)] (mm I J) = some ([.long (lI (plc I st (I 1 9).toNat))], mm I J) := by
  have e : s_S X (d + 2) 83 [.ref 1, .int (iI st)] (mm I J) = s_j X (d + 1) 83 5 [.ref 1, .int (iI st), .long (lI ((plc I st 0 : Nat) : Int)), .retAddr 0, .int (iI ((0 : Nat) : Int))] [] (mm I J) := by
    simp (disch := omega) only [v_83_1, u_83_0, x_lconst, x_lstore2i, x_lstore2r, x_lstore2u, x_sipush, x_istore4i, x_istore4r, x_istore4u, x_jsr, x_iload4, x_aload0, f_1_9, x_if_icmp_ge, x_iload1, x_ishr, x_iand, x_if_icmp_ne, x_lload2, k_1_1, k_1_0, k_1_2, f_1_11, x_call3_0, x_call3_1, x_call3_2, x_call3_3, x_call3_4, e_k_s, e_k_i, List.nil_append, List.cons_append, x_call2_0, x_call2_1, x_call2_2, x_call2_3, x_call2_4, x_lor, u_83_58, x_iinc4i, x_iinc4r, x_iinc4u, x_goto, u_83_64, x_lreturn, ia_2, ia_3, ia_4, b01_0, ite_not, if_true, if_false, Int.reduceLT, Int.reduceEq]
    rfl
  rw [e]
  exact t_pl1 h hy hst (I 1 9).toNat 0 (by have := h.1; omega)
end
