/-! STEPS over places
-/
theorem lb_i {B : Nat} {p : Int} (hB : B < 2 ^ 63) (hp : 0 ≤ p ∧ p < 64) : lg_cmp (((lI B).toUInt64 >>> ((iI p).toInt64.toUInt64 &&& Int64.toUInt64 63)).toInt64 &&& lI 1) (lI 1) = iI (if B.testBit p.toNat = true then 0 else -1) := by
  obtain ⟨k, rfl⟩ := Int.eq_ofNat_of_zero_le hp.1
  have hd : B / 2 ^ k ≤ B := Nat.div_le_self _ _
  have e : lI 1 = lI ((1 : Nat) : Int) := rfl
  rw [lN_ushr (by omega) hB, e, lN_and (by omega) (by decide), Nat.and_one_is_mod]
  have h2 : B / 2 ^ k % 2 = 0 ∨ B / 2 ^ k % 2 = 1 := by omega
  have h3 : B.testBit k = decide (B / 2 ^ k % 2 = 1) := by
    rw [Nat.testBit_eq_decide_div_mod_eq]
  show lg_cmp _ _ = iI (if B.testBit k = true then 0 else -1)
  rw [h3]
  rcases h2 with q | q <;> rw [q] <;> decide
/-- the steps of one year from a place, s made already
-/
def stp (B : Nat) (fr md : Int) : Nat → Int → Int
  | 0, s => s
  | n + 1, s => if s ≤ md ∧ fr + s < 40 ∧ B.testBit (fr + s).toNat = true then stp B fr md n (s + 1) else s
section
variable {X : e_X} {d : Nat} {I J : Nat → Int → Int}
theorem b_stp1 {B : Nat} {fr md : Int} (hB : B < 2 ^ 63) (hf : 0 ≤ fr ∧ fr ≤ 40) (hm : 0 ≤ md ∧ md ≤ 9) : ∀ (n : Nat) (s : Int), 0 ≤ s → s + n = md + 1 → s_j X d 128 3 [.long (lI B), .retAddr 0, .int (iI fr), .int (iI md), .int (iI s)] [] (mm I J) = some ([.int (iI (stp B fr md n s))], mm I J) := by
  intro n
  induction n with
  | zero =>
    intro s h0 hs
    rw [u_128_3]
    unfold stp
    (repeat' (first | simp (disch := omega) only [v_128, u_128_0, x_sipush, x_istore4i, x_istore4r, x_istore4u, x_jsr, x_iload4, x_iload3, x_if_icmp_gt, x_iload2, x_iadd, x_if_icmp_ge, x_lload0, x_lushr, x_lconst, x_land, x_lcmp, x_ifCond_ne, x_ifCond_neb, x_iinc4i, x_iinc4r, x_iinc4u, x_goto, u_128_37, x_ireturn, b01_0, ite_not, if_true, if_false, Int.reduceLT, Int.reduceEq] | split)) <;> first | rfl | (exfalso; omega)
  | succ n ih =>
    intro s h0 hs
    rw [u_128_3]
    unfold stp
    have e1 := ih (s + 1) (by omega) (by omega)
    by_cases c1 : fr + s < 40
    · have e2 := lb_i (B := B) (p := fr + s) hB (by omega)
      by_cases c2 : B.testBit (fr + s).toNat = true
      · rw [if_pos ⟨by omega, c1, c2⟩]
        rw [if_pos c2] at e2
        simp (disch := omega) only [v_128, u_128_0, x_sipush, x_istore4i, x_istore4r, x_istore4u, x_jsr, x_iload4, x_iload3, x_if_icmp_gt, x_iload2, x_iadd, x_if_icmp_ge, x_lload0, x_lushr, x_lconst, x_land, x_lcmp, x_ifCond_ne, x_ifCond_neb, x_iinc4i, x_iinc4r, x_iinc4u, x_goto, u_128_37, x_ireturn, e2, e1, b01_0, ite_not, if_true, if_false, Int.reduceLT, Int.reduceEq]
        rw [if_neg (by omega), if_pos c1]
      · rw [if_neg (fun q => c2 q.2.2)]
        rw [if_neg c2] at e2
        simp (disch := omega) only [v_128, u_128_0, x_sipush, x_istore4i, x_istore4r, x_istore4u, x_jsr, x_iload4, x_iload3, x_if_icmp_gt, x_iload2, x_iadd, x_if_icmp_ge, x_lload0, x_lushr, x_lconst, x_land, x_lcmp, x_ifCond_ne, x_ifCond_neb, x_iinc4i, x_iinc4r, x_iinc4u, x_goto, u_128_37, x_ireturn, e2, e1, b01_0, ite_not, if_true, if_false, Int.reduceLT, Int.reduceEq]
        rw [if_neg (by omega), if_pos c1]
    · rw [if_neg (fun q => c1 q.2.1)]
      simp (disch := omega) only [v_128, u_128_0, x_sipush, x_istore4i, x_istore4r, x_istore4u, x_jsr, x_iload4, x_iload3, x_if_icmp_gt, x_iload2, x_iadd, x_if_icmp_ge, x_lload0, x_lushr, x_lconst, x_land, x_lcmp, x_ifCond_ne, x_ifCond_neb, x_iinc4i, x_iinc4r, x_iinc4u, x_goto, u_128_37, x_ireturn, e1, b01_0, ite_not, if_true, if_false, Int.reduceLT, Int.reduceEq]
      rw [if_neg (by omega), if_neg c1]
theorem b_stp {B : Nat} {fr md : Int} (hB : B < 2 ^ 63) (hf : 0 ≤ fr ∧ fr ≤ 40) (hm : 0 ≤ md ∧ md ≤ 9) : s_S X (d + 1) 128 [.long (lI B), .int (iI fr), .int (iI md)] (mm I J) = some ([.int (iI (stp B fr md (md + 1).toNat 0))], mm I J) := by
  have e : s_S X (d + 1) 128 [.long (lI B), .int (iI fr), .int (iI md)] (mm I J) = s_j X d 128 3 [.long (lI B), .retAddr 0, .int (iI fr), .int (iI md), .int (iI 0)] [] (mm I J) := by
    simp (disch := omega) only [v_128, u_128_0, x_sipush, x_istore4i, x_istore4r, x_istore4u, x_jsr, x_iload4, x_iload3, x_if_icmp_gt, x_iload2, x_iadd, x_if_icmp_ge, x_lload0, x_lushr, x_lconst, x_land, x_lcmp, x_ifCond_ne, x_ifCond_neb, x_iinc4i, x_iinc4r, x_iinc4u, x_goto, u_128_37, x_ireturn, b01_0, ite_not, if_true, if_false, Int.reduceLT, Int.reduceEq]
  rw [e]
  exact b_stp1 hB hf hm _ _ (by decide) (by omega)
end
