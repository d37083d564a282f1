/-! PAIRS: feed -/
theorem tpe_same {x : Int64} : ∀ (m : Nat) (j p : Int) (A B : Int → Int), 0 ≤ p → (∀ i, 0 ≤ i → i < p → A i = B i ∧ 0 ≤ A i ∧ A i ≤ 255) → ∀ i, 0 ≤ i → i < p + m → tpe x m j p A i = tpe x m j p B i ∧ 0 ≤ tpe x m j p A i ∧ tpe x m j p A i ≤ 255
  | 0, _, _, _, _, _, h, i, i0, i1 => h i i0 (by omega)
  | m + 1, j, p, A, B, p0, h, i, i0, i1 => by
    refine tpe_same m (j + 1) (p + 1) _ _ (by omega) (fun k k0 k1 => ?_) i i0 (by omega)
    unfold upf
    by_cases q : k = p
    · rw [if_pos q, if_pos q]
      exact ⟨rfl, fb_b⟩
    · rw [if_neg q, if_neg q]
      exact h k k0 (by omega)
def eTP (o : Nat) (k : Int) : Prop := (o = 39 ∧ k = 2) ∨ (o = 69 ∧ k = 6) ∨ o = 46 ∨ o = 74
section
variable {X : e_X} {d : Nat} {I I' J : Nat → Int → Int}
theorem Rel_tape (h : Rel I J) (hk : kpE eTP I I') (g : TP I') : Rel I' J := by
  refine Rel_ex h hk (Or.inr fun o k q z => ?_) (Or.inr fun o k q z => ?_) (Or.inl g) (Or.inr fun o k q z => ?_) (Or.inr ⟨fun o k q z => ?_, fun _ _ _ _ => rfl⟩) (Or.inr fun o k q z => ?_) (Or.inr fun o k q z => ?_) (fun k z => ?_)
  · unfold cTB at q; unfold eTP at z; omega
  · unfold cTK at q; unfold eTP at z; omega
  · unfold cRW at q; unfold eTP at z; omega
  · unfold cSH at q; unfold eTP at z; omega
  · unfold cSF at q; unfold eTP at z; omega
  · unfold cTR at q; unfold eTP at z; omega
  · unfold eTP at z; omega
theorem q_feed (h : Rel I J) {x : Int64} {n : Int} (hn : rg n) : pr X d I J 123 171 [.long x, .int (iI n)] := by
  obtain ⟨p1, p2, p3⟩ := h.2.2.1
  by_cases q : 1 ≤ n ∧ n ≤ 8
  · by_cases q2 : I 39 2 + n ≤ 200
    · have e1 := c_fd (X := X) (d := d + 28) (I := I) (J := J) (x := x) q n.toNat 0 (I 39 2) (I 46) (by decide) (by omega) (by omega)
      rw [tco_id, show ((n.toNat : Nat) : Int) = n by omega] at e1
      have e2 := m_fd (X := X) (d := d + 29) (I := tco I (I 39 2 + n) (tpe x n.toNat 0 (I 39 2) (I 46))) (J := J) (x := x) q n.toNat 0 (I 69 6) (I 74) (by decide) (by omega) (by omega)
      have i2 := tmo_id (I := tco I (I 39 2 + n) (tpe x n.toNat 0 (I 39 2) (I 46)))
      have r6 : tco I (I 39 2 + n) (tpe x n.toNat 0 (I 39 2) (I 46)) 69 6 = I 69 6 := rfl
      have r7 : tco I (I 39 2 + n) (tpe x n.toNat 0 (I 39 2) (I 46)) 74 = I 74 := rfl
      rw [r6, r7] at i2
      rw [i2, show ((n.toNat : Nat) : Int) = n by omega, p2] at e2
      refine ⟨I 39 2 + n, tco I (I 39 2 + n) (tpe x n.toNat 0 (I 39 2) (I 46)), J, tmo (tco I (I 39 2 + n) (tpe x n.toNat 0 (I 39 2) (I 46))) (I 39 2 + n) (tpe x n.toNat 0 (I 39 2) (I 74)), J, ?_, ?_, Rel_tape h (fun o k s z => ?_) ⟨⟨?_, ?_⟩, rfl, fun i i0 i1 => ?_⟩⟩
      · simp (disch := omega) only [v_123_0, u_123_0, x_iload3, x_sipush, x_call3_0, x_call3_1, x_call3_2, x_call3_3, x_call3_4, e_k_s, e_k_i, List.nil_append, List.cons_append, x_ifCond_eq, x_ifCond_eqb, x_ireturn, u_123_12, x_aload0, k_0_3, f_39_2, x_iadd, x_if_icmp_le, u_123_30, x_lload1, v_25_39, u_25_0, x_istore4i, x_istore4r, x_istore4u, x_jsr, x_iload4, x_if_icmp_ge, k_39_1, x_dup_i, x_dup_r, x_dup_x1, p_39_2, x_imul, x_lushr, x_lconst, x_land, x_l2i, x_iinc4i, x_iinc4r, x_iinc4u, x_goto, u_25_53, is_46, b_in, e1, ↓reduceIte, b01_0, ite_not, if_true, if_false, Int.reduceLT, Int.reduceEq]
        rw [if_neg (by omega)]
      · simp (disch := omega) only [v_171_69, u_171_0, x_iload3, x_sipush, x_call3_0, x_call3_1, x_call3_2, x_call3_3, x_call3_4, e_k_s, e_k_i, List.nil_append, List.cons_append, x_ifCond_ne, x_ifCond_neb, x_ireturn, u_171_12, x_aload0, f_69_6, x_iadd, x_if_icmp_le, u_171_27, x_istore4i, x_istore4r, x_istore4u, x_jsr, x_iload4, x_if_icmp_ge, k_69_5, x_lload1, x_imul, x_lshr, x_lconst, x_land, x_l2i, x_dup_i, x_dup_r, p_69_6, x_iinc4i, x_iinc4r, x_iinc4u, x_goto, u_171_73, is_74, m_in, e2, r6, p2, ↓reduceIte, b01_0, ite_not, if_true, if_false, Int.reduceLT, Int.reduceEq]
        rw [if_neg (by omega)]
      · unfold eTP at z
        unfold tmo tco
        rw [if_neg (by omega), if_neg (by omega), if_neg (by omega), if_neg (by omega)]
      · show 0 ≤ I 39 2 + n
        omega
      · show I 39 2 + n ≤ 200
        omega
      · exact tpe_same n.toNat 0 (I 39 2) (I 46) (I 74) p1.1 p3 i i0 (by rw [show ((n.toNat : Nat) : Int) = n by omega]; exact i1)
    · refine ⟨-2, I, J, I, J, ?_, ?_, h⟩
      · simp (disch := omega) only [v_123_0, u_123_0, x_iload3, x_sipush, x_call3_0, x_call3_1, x_call3_2, x_call3_3, x_call3_4, e_k_s, e_k_i, List.nil_append, List.cons_append, x_ifCond_eq, x_ifCond_eqb, x_ireturn, u_123_12, x_aload0, k_0_3, f_39_2, x_iadd, x_if_icmp_le, u_123_30, x_lload1, b_in, ↓reduceIte, b01_0, ite_not, if_true, if_false, Int.reduceLT, Int.reduceEq]
        rw [if_pos (by omega)]
      · simp (disch := omega) only [v_171_69, u_171_0, x_iload3, x_sipush, x_call3_0, x_call3_1, x_call3_2, x_call3_3, x_call3_4, e_k_s, e_k_i, List.nil_append, List.cons_append, x_ifCond_ne, x_ifCond_neb, x_ireturn, u_171_12, x_aload0, f_69_6, x_iadd, x_if_icmp_le, u_171_27, x_istore4i, x_istore4r, x_istore4u, x_jsr, x_iload4, x_if_icmp_ge, k_69_5, x_lload1, x_imul, x_lshr, x_lconst, x_land, x_l2i, x_dup_i, x_dup_r, p_69_6, x_iinc4i, x_iinc4r, x_iinc4u, x_goto, u_171_73, is_74, m_in, p2, ↓reduceIte, b01_0, ite_not, if_true, if_false, Int.reduceLT, Int.reduceEq]
        rw [if_pos (by omega)]
  · refine ⟨-1, I, J, I, J, ?_, ?_, h⟩
    · simp (disch := omega) only [v_123_0, u_123_0, x_iload3, x_sipush, x_call3_0, x_call3_1, x_call3_2, x_call3_3, x_call3_4, e_k_s, e_k_i, List.nil_append, List.cons_append, x_ifCond_eq, x_ifCond_eqb, x_ireturn, u_123_12, x_aload0, k_0_3, f_39_2, x_iadd, x_if_icmp_le, u_123_30, x_lload1, b_nin, ↓reduceIte, b01_0, ite_not, if_true, if_false, Int.reduceLT, Int.reduceEq]
    · simp (disch := omega) only [v_171_69, u_171_0, x_iload3, x_sipush, x_call3_0, x_call3_1, x_call3_2, x_call3_3, x_call3_4, e_k_s, e_k_i, List.nil_append, List.cons_append, x_ifCond_ne, x_ifCond_neb, x_ireturn, u_171_12, x_aload0, f_69_6, x_iadd, x_if_icmp_le, u_171_27, x_istore4i, x_istore4r, x_istore4u, x_jsr, x_iload4, x_if_icmp_ge, k_69_5, x_lload1, x_imul, x_lshr, x_lconst, x_land, x_l2i, x_dup_i, x_dup_r, p_69_6, x_iinc4i, x_iinc4r, x_iinc4u, x_goto, u_171_73, is_74, m_nin, ↓reduceIte, b01_0, ite_not, if_true, if_false, Int.reduceLT, Int.reduceEq]
end
