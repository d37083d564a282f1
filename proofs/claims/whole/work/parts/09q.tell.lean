/-! THE RULES: what they tell a piece of a kind -/
/-- where the code of rule i begins -/
def rfr (I : Nat → Int → Int) (i : Int) : Int := if i = 0 then 0 else I 12 (i - 1)
def rok (I : Nat → Int → Int) : Prop := (0 ≤ I 9 5 ∧ I 9 5 ≤ 8) ∧ ∀ i, 0 ≤ i → i < I 9 5 → (0 ≤ I 10 i ∧ I 10 i ≤ 5) ∧ (0 ≤ I 11 i ∧ I 11 i ≤ 2) ∧ 0 ≤ rfr I i ∧ rfr I i ≤ I 12 i ∧ I 12 i ≤ 200 ∧ hok I (I 12 i - rfr I i).toNat (rfr I i) 0
abbrev rhl (I : Nat → Int → Int) (i : Int) : Prop := htp (hrn I (I 12 i - rfr I i).toNat (rfr I i) []) = true
def tel (I : Nat → Int → Int) (kd : Int) : Nat → Int → Int
  | 0, _ => 0
  | n + 1, i => if und kd (I 10 i) ∧ rhl I i then I 11 i else tel I kd n (i + 1)
section
variable {X : e_X} {d : Nat} {I J : Nat → Int → Int}
theorem l_tel1 (hf : ∀ i, 0 ≤ i ∧ i < 5 → rg (I 14 i)) (hR : rok I) {kd : Int} (hk : 0 ≤ kd ∧ kd ≤ 5) : ∀ (n : Nat) (i : Int), 0 ≤ i → i + n = I 9 5 → s_j X (d + 2) 9 4 [.ref 9, .int (iI kd), .int (iI (rfr I i)), .int (iI i)] [] (mm I J) = some ([.int (iI (tel I kd n i))], mm I J) := by
  obtain ⟨h1, h2⟩ := hR
  intro n
  induction n with
  | zero =>
    intro i h0 hn
    rw [u_9_4]
    simp (disch := omega) only [v_9_9, v_9_40, u_9_0, x_sipush, x_istore2i, x_istore2r, x_istore2u, x_istore3i, x_istore3r, x_istore3u, x_jsr, x_iload3, x_aload0, f_9_5, x_if_icmp_ge, x_iload1, k_9_0, x_call2_0, x_call2_1, x_call2_2, x_call2_3, x_call2_4, e_k_s, e_k_i, List.nil_append, List.cons_append, x_ifCond_eq, x_ifCond_eqb, x_iload2, k_9_2, x_call3_0, x_call3_1, x_call3_2, x_call3_3, x_call3_4, k_9_1, x_ireturn, u_9_46, x_iinc3i, x_iinc3r, x_iinc3u, x_goto, u_9_59, ia_10, ia_11, ia_12, b01_0, ite_not, if_true, if_false, Int.reduceLT, Int.reduceEq]
    rw [if_neg (by omega)]
    rfl
  | succ n ih =>
    intro i h0 hn
    obtain ⟨r1, r2, r3, r4, r5, r6⟩ := h2 i h0 (by omega)
    have e1 := b_under (X := X) (d := d) (I := I) (J := J) (kd := kd) (ab := I 10 i) hk ⟨by omega, by omega⟩
    have e2 := l_hold (X := X) (d := d) (I := I) (J := J) hf (fr := rfr I i) (n := (I 12 i - rfr I i).toNat) r3 (by omega) r6
    rw [show rfr I i + (((I 12 i - rfr I i).toNat : Nat) : Int) = I 12 i by omega] at e2
    have e3 := ih (i + 1) (by omega) (by omega)
    have e4 : rfr I (i + 1) = I 12 i := by
      unfold rfr
      rw [if_neg (by omega), show i + 1 - 1 = i by omega]
    rw [e4] at e3
    rw [u_9_4]
    unfold tel
    simp (disch := omega) only [v_9_9, v_9_40, u_9_0, x_sipush, x_istore2i, x_istore2r, x_istore2u, x_istore3i, x_istore3r, x_istore3u, x_jsr, x_iload3, x_aload0, f_9_5, x_if_icmp_ge, x_iload1, k_9_0, x_call2_0, x_call2_1, x_call2_2, x_call2_3, x_call2_4, e_k_s, e_k_i, List.nil_append, List.cons_append, x_ifCond_eq, x_ifCond_eqb, x_iload2, k_9_2, x_call3_0, x_call3_1, x_call3_2, x_call3_3, x_call3_4, k_9_1, x_ireturn, u_9_46, x_iinc3i, x_iinc3r, x_iinc3u, x_goto, u_9_59, ia_10, ia_11, ia_12, e1, e2, e3, b01_0, ite_not, if_true, if_false, Int.reduceLT, Int.reduceEq]
    rw [if_pos (by omega)]
    by_cases c1 : und kd (I 10 i)
    · rw [if_pos c1]
      by_cases c2 : rhl I i
      · rw [if_pos c2, if_pos ⟨c1, c2⟩]
      · rw [if_neg c2, if_neg (fun q => c2 q.2)]
    · rw [if_neg c1, if_neg (fun q => c1 q.1)]
theorem l_tel (hf : ∀ i, 0 ≤ i ∧ i < 5 → rg (I 14 i)) (hR : rok I) {kd : Int} (hk : 0 ≤ kd ∧ kd ≤ 5) : s_S X (d + 3) 9 [.ref 9, .int (iI kd)] (mm I J) = some ([.int (iI (tel I kd (I 9 5).toNat 0))], mm I J) := by
  have e : s_S X (d + 3) 9 [.ref 9, .int (iI kd)] (mm I J) = s_j X (d + 2) 9 4 [.ref 9, .int (iI kd), .int (iI (rfr I 0)), .int (iI 0)] [] (mm I J) := by
    simp (disch := omega) only [v_9_9, v_9_40, u_9_0, x_sipush, x_istore2i, x_istore2r, x_istore2u, x_istore3i, x_istore3r, x_istore3u, x_jsr, x_iload3, x_aload0, f_9_5, x_if_icmp_ge, x_iload1, k_9_0, x_call2_0, x_call2_1, x_call2_2, x_call2_3, x_call2_4, e_k_s, e_k_i, List.nil_append, List.cons_append, x_ifCond_eq, x_ifCond_eqb, x_iload2, k_9_2, x_call3_0, x_call3_1, x_call3_2, x_call3_3, x_call3_4, k_9_1, x_ireturn, u_9_46, x_iinc3i, x_iinc3r, x_iinc3u, x_goto, u_9_59, ia_10, ia_11, ia_12, b01_0, ite_not, if_true, if_false, Int.reduceLT, Int.reduceEq]
    rfl
  rw [e]
  exact l_tel1 hf hR hk _ _ (by decide) (by have := hR.1; omega)
end
