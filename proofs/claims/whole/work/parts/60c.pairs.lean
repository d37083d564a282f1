/-! PAIRS: again -/
section
variable {X : e_X} {d : Nat} {I J : Nat → Int → Int}
theorem alk_19 : alk (shf I) (cpo (fc19 (rc19 (lc19 (tc19 I)))) 71 0 70 0 322) := by
  have g : ∀ o k, o ≤ 19 → cpo (fc19 (rc19 (lc19 (tc19 I)))) 71 0 70 0 322 o k = fc19 (rc19 (lc19 (tc19 I))) o k := fun o k h => cpo_r (by omega)
  refine ⟨fun k k0 k1 => ?_, fun o o0 o1 k k0 k1 => ?_, fun k k0 k1 => ?_, ?_, fun o o0 o1 k k0 k1 => ?_, fun k k0 k1 => ?_, ?_, fun o o0 o1 k k0 k1 => ?_⟩
  · rw [g _ _ (by omega)]
    rcases (by omega : k = 9 ∨ k = 10 ∨ k = 11 ∨ k = 12 ∨ k = 13 ∨ k = 14 ∨ k = 15 ∨ k = 16) with rfl | rfl | rfl | rfl | rfl | rfl | rfl | rfl <;> rfl
  · rw [g _ _ (by omega)]
    unfold fc19 rc19 lc19 tc19 shf
    rcases (by omega : o = 2 ∨ o = 3 ∨ o = 4 ∨ o = 5 ∨ o = 6 ∨ o = 7) with rfl | rfl | rfl | rfl | rfl | rfl <;> simp (disch := omega) only [up_on, cp_o, cp_i]
  · rw [g _ _ (by omega)]
    unfold fc19 rc19 lc19 tc19 shf
    simp (disch := omega) only [up_on, cp_o, cp_i]
  · rw [g _ _ (by omega)]
    rfl
  · rw [g _ _ (by omega)]
    unfold fc19 rc19 lc19 tc19 shf
    rcases (by omega : o = 10 ∨ o = 11 ∨ o = 12) with rfl | rfl | rfl <;> simp (disch := omega) only [up_on, cp_o, cp_i]
  · rw [g _ _ (by omega)]
    unfold fc19 rc19 lc19 tc19 shf
    simp (disch := omega) only [up_on, cp_o, cp_i]
  · rw [g _ _ (by omega)]
    rfl
  · rw [g _ _ (by omega)]
    unfold fc19 rc19 lc19 tc19 shf
    rcases (by omega : o = 16 ∨ o = 17 ∨ o = 18 ∨ o = 19) with rfl | rfl | rfl | rfl <;> simp (disch := omega) only [up_on, cp_o, cp_i]
theorem q_again (h : Rel I J) : pr X d I J 169 299 [] := by
  obtain ⟨t1, t2, t3⟩ := h.2.1
  by_cases q : I 0 2 = 0
  · have e2 := m_again0 (X := X) (d := d + 29) (I := I) (J := J) (t2.trans q)
    refine ⟨-3, I, J, I, J, ?_, e2, h⟩
    simp (disch := omega) only [v_169_0, u_169_0, x_aload0, f_0_2, x_ifCond_ne, x_ifCond_neb, x_sipush, x_ireturn, u_169_10, k_0_0, k_0_1, x_call2_0, x_call2_1, x_call2_2, x_call2_3, x_call2_4, e_k_s, e_k_i, List.nil_append, List.cons_append, f_1_9, q, ↓reduceIte, b01_0, ite_not, if_true, if_false, Int.reduceLT, Int.reduceEq]
  · have q1 : I 0 2 = 1 := by omega
    have ht := t3 q1
    have e1 := c_ct19 (X := X) (d := d + 27) (I := I) (J := J)
    have e2 := m_again (X := X) (d := d + 29) (I := fc19 (rc19 (lc19 (tc19 I)))) (J := J) (t2.trans q1)
    have v1 : cpo (fc19 (rc19 (lc19 (tc19 I)))) 71 0 70 0 322 70 6 = I 20 9 := by
      have := ht.2.2.2.1.2.1
      have w : cpo (fc19 (rc19 (lc19 (tc19 I)))) 71 0 70 0 322 70 6 = I 71 6 := rfl
      rw [w]
      exact this
    have v2 : fc19 (rc19 (lc19 (tc19 I))) 1 9 = I 20 9 := rfl
    rw [v1] at e2
    refine ⟨I 20 9, fc19 (rc19 (lc19 (tc19 I))), J, cpo (fc19 (rc19 (lc19 (tc19 I)))) 71 0 70 0 322, J, ?_, e2, Rel_tb h (TB_alk alk_19 (fun k k0 k1 => ?_) ht) (fun o k s z z2 => ?_)⟩
    · simp (disch := omega) only [v_169_0, u_169_0, x_aload0, f_0_2, x_ifCond_ne, x_ifCond_neb, x_sipush, x_ireturn, u_169_10, k_0_0, k_0_1, x_call2_0, x_call2_1, x_call2_2, x_call2_3, x_call2_4, e_k_s, e_k_i, List.nil_append, List.cons_append, f_1_9, q1, e1, v2, ↓reduceIte, b01_0, ite_not, if_true, if_false, Int.reduceLT, Int.reduceEq]
    · unfold cpo
      rw [if_pos ⟨rfl, k0, by omega⟩, show k - 0 + 0 = k by omega]
      rfl
    · rw [cpo_r z2]
      unfold fc19 rc19 lc19 tc19
      simp (disch := omega) only [up_on, cp_o]
end
