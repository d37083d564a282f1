/-! PAIRS: keep, again -/
theorem cp_o {I : Nat → Int → Int} {s t o : Nat} {n k : Int} (h : o ≠ t) : cp I s t n o k = I o k := if_neg (fun z => h z.1)
theorem cp_i {I : Nat → Int → Int} {s t : Nat} {n k : Int} (h : 0 ≤ k ∧ k < n) : cp I s t n t k = I s k := if_pos ⟨rfl, h⟩
theorem up_on {I : Nat → Int → Int} {a o : Nat} {k v b : Int} (h : o ≠ a) : up I a k v o b = I o b := if_neg (fun z => h z.1)
theorem up_kn {I : Nat → Int → Int} {a : Nat} {k v b : Int} (h : b ≠ k) : up I a k v a b = I a b := if_neg (fun z => h z.2)
def eTK (o : Nat) (k : Int) : Prop := (o = 0 ∧ k = 2) ∨ (20 ≤ o ∧ o ≤ 38) ∨ (o = 69 ∧ k = 3) ∨ o = 71
section
variable {X : e_X} {d : Nat} {I J : Nat → Int → Int}
theorem alk_0 : alk I (shf (up (cpo (up (fc0 (rc0 (lc0 (tc0 I)))) 0 2 1) 70 0 71 0 322) 69 3 1)) := by
  have g : ∀ o k, o ≤ 19 → shf (up (cpo (up (fc0 (rc0 (lc0 (tc0 I)))) 0 2 1) 70 0 71 0 322) 69 3 1) o k = fc0 (rc0 (lc0 (tc0 I))) (o + 19) k := fun o k h => by
    show up (cpo (up (fc0 (rc0 (lc0 (tc0 I)))) 0 2 1) 70 0 71 0 322) 69 3 1 (o + 19) k = _
    rw [up_on (by omega), cpo_r (by omega), up_on (by omega)]
  refine ⟨fun k k0 k1 => ?_, fun o o0 o1 k k0 k1 => ?_, fun k k0 k1 => ?_, ?_, fun o o0 o1 k k0 k1 => ?_, fun k k0 k1 => ?_, ?_, fun o o0 o1 k k0 k1 => ?_⟩
  · rw [g _ _ (by omega)]
    rcases (by omega : k = 9 ∨ k = 10 ∨ k = 11 ∨ k = 12 ∨ k = 13 ∨ k = 14 ∨ k = 15 ∨ k = 16) with rfl | rfl | rfl | rfl | rfl | rfl | rfl | rfl <;> rfl
  · rw [g _ _ (by omega)]
    unfold fc0 rc0 lc0 tc0
    rcases (by omega : o = 2 ∨ o = 3 ∨ o = 4 ∨ o = 5 ∨ o = 6 ∨ o = 7) with rfl | rfl | rfl | rfl | rfl | rfl <;> simp (disch := omega) only [up_on, cp_o, cp_i]
  · rw [g _ _ (by omega)]
    unfold fc0 rc0 lc0 tc0
    simp (disch := omega) only [up_on, cp_o, cp_i]
  · rw [g _ _ (by omega)]
    rfl
  · rw [g _ _ (by omega)]
    unfold fc0 rc0 lc0 tc0
    rcases (by omega : o = 10 ∨ o = 11 ∨ o = 12) with rfl | rfl | rfl <;> simp (disch := omega) only [up_on, cp_o, cp_i]
  · rw [g _ _ (by omega)]
    unfold fc0 rc0 lc0 tc0
    simp (disch := omega) only [up_on, cp_o, cp_i]
  · rw [g _ _ (by omega)]
    rfl
  · rw [g _ _ (by omega)]
    unfold fc0 rc0 lc0 tc0
    rcases (by omega : o = 16 ∨ o = 17 ∨ o = 18 ∨ o = 19) with rfl | rfl | rfl | rfl <;> simp (disch := omega) only [up_on, cp_o, cp_i]
theorem q_keep (h : Rel I J) : pr X d I J 168 298 [] := by
  have e1 := c_ct0 (X := X) (d := d + 27) (I := I) (J := J)
  have e2 := m_keep (X := X) (d := d + 29) (I := up (fc0 (rc0 (lc0 (tc0 I)))) 0 2 1) (J := J)
  refine ⟨1, up (fc0 (rc0 (lc0 (tc0 I)))) 0 2 1, J, up (cpo (up (fc0 (rc0 (lc0 (tc0 I)))) 0 2 1) 70 0 71 0 322) 69 3 1, J, ?_, e2, Rel_ex h (E := eTK) (fun o k s z => ?_) (Or.inr fun o k q z => ?_) (Or.inl ⟨Or.inr rfl, rfl, fun _ => ?_⟩) (Or.inr fun o k q z => ?_) (Or.inr fun o k q z => ?_) (Or.inr ⟨fun o k q z => ?_, fun _ _ _ _ => rfl⟩) (Or.inr fun o k q z => ?_) (Or.inr fun o k q z => ?_) (fun k z => ?_)⟩
  · simp (disch := omega) only [v_168_0, u_168_0, x_aload0, k_0_1, k_0_0, x_call2_0, x_call2_1, x_call2_2, x_call2_3, x_call2_4, e_k_s, e_k_i, List.nil_append, List.cons_append, x_sipush, p_0_2_0, p_0_2_1, p_0_2_b, x_ireturn, e1, ↓reduceIte, b01_0, ite_not, if_true, if_false, Int.reduceLT, Int.reduceEq]
  · unfold eTK at z
    unfold fc0 rc0 lc0 tc0
    have k69 : ∀ M : Nat → Int → Int, up M 69 3 1 o k = M o k := fun M => if_neg (by omega)
    have k02 : ∀ M : Nat → Int → Int, up M 0 2 1 o k = M o k := fun M => if_neg (by omega)
    rw [k69, cpo_r (by omega), k02]
    simp (disch := omega) only [up_on, cp_o]
  · unfold cTB at q; unfold eTK at z; omega
  · refine TB_alk alk_0 (fun k k0 k1 => ?_) h.1
    show cpo (up (fc0 (rc0 (lc0 (tc0 I)))) 0 2 1) 70 0 71 0 322 71 k = I 70 k
    unfold cpo
    rw [if_pos ⟨rfl, k0, by omega⟩, show k - 0 + 0 = k by omega]
    rfl
  · unfold cTP at q; unfold eTK at z; omega
  · unfold cRW at q; unfold eTK at z; omega
  · unfold cSH at q; unfold eTK at z; omega
  · unfold cSF at q; unfold eTK at z; omega
  · unfold cTR at q; unfold eTK at z; omega
  · unfold eTK at z; omega
end
