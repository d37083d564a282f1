/-! PAIRS: rules -/
def lwc (I : Nat → Int → Int) : Nat → Int → Int := up (up (cp (cp (cp (cp I 41 10 8) 42 11 8) 43 12 8) 44 13 200) 9 5 (I 40 5)) 9 6 (I 40 6)
def eRL (o : Nat) (k : Int) : Prop := (o = 39 ∧ k = 2) ∨ (o = 69 ∧ k = 6) ∨ (9 ≤ o ∧ o ≤ 13) ∨ o = 70
section
variable {X : e_X} {d c : Nat} {is : List Instr} {ls : List Value} {I I' J : Nat → Int → Int}
theorem cp_41_10 : s_x X d c (.dmul :: is) ls [.int (iI 8), .int (iI 0), .ref 10, .int (iI 0), .ref 41] (mm I J) = s_x X d c is ls [] (mm (cp I 41 10 8) J) := x_copy rfl rfl (by decide) (by decide)
theorem cp_42_11 : s_x X d c (.dmul :: is) ls [.int (iI 8), .int (iI 0), .ref 11, .int (iI 0), .ref 42] (mm I J) = s_x X d c is ls [] (mm (cp I 42 11 8) J) := x_copy rfl rfl (by decide) (by decide)
theorem cp_43_12 : s_x X d c (.dmul :: is) ls [.int (iI 8), .int (iI 0), .ref 12, .int (iI 0), .ref 43] (mm I J) = s_x X d c is ls [] (mm (cp I 43 12 8) J) := x_copy rfl rfl (by decide) (by decide)
theorem cp_44_13 : s_x X d c (.dmul :: is) ls [.int (iI 200), .int (iI 0), .ref 13, .int (iI 0), .ref 44] (mm I J) = s_x X d c is ls [] (mm (cp I 44 13 200) J) := x_copy rfl rfl (by decide) (by decide)
theorem c_cl40 : s_S X (d + 1) 16 [.ref 9, .ref 40] (mm I J) = some ([], mm (lwc I) J) := by
  simp (disch := omega) only [v_16_9, v_16_28, u_16_0, x_aload1, k_9_0, k_40_0, x_sipush, x_aload0, k_9_1, k_40_1, k_9_2, k_40_2, k_9_3, k_40_3, f_9_5, f_40_5, p_9_5, p_40_5, f_9_6, f_40_6, p_9_6, p_40_6, x_return, cp_41_10, cp_42_11, cp_43_12, cp_44_13, ↓reduceIte, b01_0, ite_not, if_true, if_false, Int.reduceLT, Int.reduceEq]
  rfl
theorem lwc_o {o : Nat} {k : Int} (h : ¬ (9 ≤ o ∧ o ≤ 13)) : lwc I o k = I o k := by
  unfold lwc up cp
  rw [if_neg (by omega), if_neg (by omega), if_neg (by omega), if_neg (by omega), if_neg (by omega), if_neg (by omega)]
theorem lwc_10 {k : Int} (h : 0 ≤ k ∧ k < 8) : lwc I 10 k = I 41 k := by
  unfold lwc up cp
  simp [h]
theorem lwc_11 {k : Int} (h : 0 ≤ k ∧ k < 8) : lwc I 11 k = I 42 k := by
  unfold lwc up cp
  simp [h]
theorem lwc_12 {k : Int} (h : 0 ≤ k ∧ k < 8) : lwc I 12 k = I 43 k := by
  unfold lwc up cp
  simp [h]
theorem lwc_13 {k : Int} (h : 0 ≤ k ∧ k < 200) : lwc I 13 k = I 44 k := by
  unfold lwc up cp
  simp [h]
theorem lwc_9 : lwc I 9 5 = I 40 5 := rfl
theorem Rel_rules (h : Rel I J) (hk : kpE eRL I I') (g1 : TB I' (I' 70)) (g3 : TP I') : Rel I' J := by
  refine Rel_ex h hk (Or.inl g1) (Or.inr fun o k q z => ?_) (Or.inl g3) (Or.inr fun o k q z => ?_) (Or.inr ⟨fun o k q z => ?_, fun _ _ _ _ => rfl⟩) (Or.inr fun o k q z => ?_) (Or.inr fun o k q z => ?_) (fun k z => ?_)
  · unfold cTK at q; unfold eRL at z; omega
  · unfold cRW at q; unfold eRL at z; omega
  · unfold cSH at q; unfold eRL at z; omega
  · unfold cSF at q; unfold eRL at z; omega
  · unfold cTR at q; unfold eRL at z; omega
  · unfold eRL at z; omega
theorem TP_0 (h1 : I' 39 2 = 0) (h2 : I' 69 6 = 0) : TP I' := ⟨by rw [h1]; decide, by rw [h1, h2], fun i i0 i1 => by rw [h1] at i1; omega⟩
theorem q_rules (h : Rel I J) : pr X d I J 124 173 [] := by
  obtain ⟨p1, p2, p3⟩ := h.2.2.1
  have hLT := h.2.2.2.2.2.2.2
  have hT : tpd I (I 46) (I 39 2) := ⟨p1, rfl, fun i i0 i1 => ⟨rfl, (p3 i i0 i1).2⟩⟩
  obtain ⟨I1, e1, k1, z1, s1⟩ := c_all (X := X) (d := d + 19) (J := J) hT
  have e1 : s_S X (d + 29) 26 [.ref 39] (mm I J) = some ([.int (iI (if (pX (I 46) (I 39 2) 9 (sk (I 46) (I 39 2) 0) [] []).1 = true then -1 else (pX (I 46) (I 39 2) 9 (sk (I 46) (I 39 2) 0) [] []).2.1))], mm I1 J) := e1
  have mT : ∀ N : Nat → Int → Int, (∀ o k, ¬ scr o k → ¬ eRL o k → N o k = I1 o k) → N 69 6 = I 69 6 → tpm N (I 46) (I 39 2) := by
    intro N hN h6
    have g : ∀ (o : Nat) (k : Int), o = 74 ∨ o = 75 → N o k = I o k := by
      intro o k q
      have n1 : ¬ scr o k := by
        unfold scr
        omega
      rw [hN o k n1 (by unfold eRL; omega)]
      exact k1 o k n1 (by omega)
    refine ⟨p1, by rw [h6, p2], fun i i0 i1 => ?_, fun k hq => ?_⟩
    · rw [g 74 i (Or.inl rfl), ← (p3 i i0 i1).1]
      exact ⟨rfl, (p3 i i0 i1).2⟩
    · rw [g 75 k (Or.inr rfl)]
      exact hLT k hq
  have b0 : 0 ≤ sk (I 46) (I 39 2) 0 := av_ge
  have b1 : sk (I 46) (I 39 2) 0 ≤ I 39 2 := av_le p1.1
  obtain ⟨g1, g2, g3⟩ := pX_g (A := I 46) (n := I 39 2) p1.2 9 (sk (I 46) (I 39 2) 0) [] ⟨b0, b1⟩ trivial (by
    show (0 : Int) ≤ _
    exact b0)
  have hcn : (hcd [] : List prt) = [] := rfl
  rw [hcn] at g1 g2 g3
  have h96 : I1 69 6 = I 69 6 := k1 69 6 (by unfold scr; omega) (by omega)
  by_cases hp : (pX (I 46) (I 39 2) 9 (sk (I 46) (I 39 2) 0) [] []).1 = true
  · have hm := (m_all (X := X) (d := d + 7) (J := J) (mT (lwc I1) (fun o k q z => lwc_o (fun y => z (Or.inr (Or.inr (Or.inl y))))) (by rw [lwc_o (by omega)]; exact h96))).1 hp
    rw [if_pos hp] at e1
    obtain ⟨⟨r5, r6⟩, r7, r8⟩ := s1 hp
    have g3 := g3 (by decide)
    generalize pX (I 46) (I 39 2) 9 (sk (I 46) (I 39 2) 0) [] [] = P at hm r5 r6 r7 r8 g1 g3
    obtain ⟨I2, e2, z2, k2, K, Sp, q1, q2, q3⟩ := hm
    have oh : off (hcd P.2.2) ≤ 200 := by
      generalize P.2.2 = R at g1
      cases R with
      | nil => show (0 : Int) ≤ 200; decide
      | cons r t => exact g1.2.2.2.1
    have ol := off_len (hcd P.2.2)
    have i70 : (lwc I1) 70 = I 70 := by
      funext k
      rw [lwc_o (by omega)]
      exact k1 70 k (by unfold scr; omega) (by omega)
    have kI : ∀ (o : Nat) (k : Int), ¬ scr o k → o ≠ 70 → ¬ (o = 69 ∧ k = 6) → ¬ (9 ≤ o ∧ o ≤ 13) → ¬ (o = 39 ∧ k = 2) → I2 o k = I o k := by
      intro o k w1 w2 w3 w4 w5
      rw [k2 o k w1 w2 w3, lwc_o w4]
      exact k1 o k w1 w5
    have l2 : ∀ (o : Nat) (k : Int), 9 ≤ o → o ≤ 13 → I2 o k = lwc I1 o k := fun o k w1 w2 => k2 o k (by unfold scr; omega) (by omega) (by omega)
    refine ⟨P.2.2.length, lwc I1, J, I2, J, ?_, e2, Rel_rules h (fun o k w1 w2 => ?_) ?_ (TP_0 ?_ z2)⟩
    · have e3 := c_cl40 (X := X) (d := d + 28) (I := I1) (J := J)
      have e4 : lwc I1 9 5 = P.2.2.length := r5
      simp (disch := omega) only [v_124_0, u_124_0, x_aload0, k_0_3, x_call1_0, x_call1_1, x_call1_2, x_call1_3, x_call1_4, e_k_s, e_k_i, List.nil_append, List.cons_append, x_istore1i, x_istore1r, x_istore1u, x_iload1, x_sipush, x_if_icmp_eq, x_isub, x_ireturn, u_124_18, k_0_0, k_1_7, k_39_0, x_call2_0, x_call2_1, x_call2_2, x_call2_3, x_call2_4, f_9_5, e1, e3, e4, ↓reduceIte, b01_0, ite_not, if_true, if_false, Int.reduceLT, Int.reduceEq]
    · unfold eRL at w2
      exact kI o k w1 (by omega) (by omega) (by omega) (by omega)
    · refine TB_laws h.1 (fun o o1 o2 => funext fun k => ?_) (fun o o1 o2 => funext fun k => ?_) (fun k w1 w2 => ?_) (rr_of (R := P.2.2) g1 g3 ?_ ?_ ?_ ?_ ?_ ?_)
      · exact kI o k (by unfold scr; omega) (by omega) (by omega) (by omega) (by omega)
      · exact kI o k (by unfold scr; omega) (by omega) (by omega) (by omega) (by omega)
      · rw [q1]
        unfold cpS upf
        rw [if_neg (by omega), if_neg (by omega), if_neg w2, i70]
      · rw [l2 9 5 (by decide) (by decide)]
        exact r5
      · refine rkc_eq P.2.2 (fun k k0 k1 => ?_) r6
        rw [l2 10 k (by decide) (by decide), l2 11 k (by decide) (by decide), l2 12 k (by decide) (by decide), lwc_10 (by omega), lwc_11 (by omega), lwc_12 (by omega)]
        exact ⟨rfl, rfl, rfl⟩
      · refine cod_eq _ (fun k k0 k1 => ?_) r8
        rw [l2 13 k (by decide) (by decide), lwc_13 (by omega)]
      · rw [q1]
        unfold cpS upf
        rw [if_neg (by omega), if_neg (by omega), if_pos rfl]
      · refine mrd_eq P.2.2 (fun k k0 k1 => ?_) q2
        simp only [q1]
        unfold cpS
        rw [if_neg (by omega), if_pos (by omega)]
        congr 1
        omega
      · refine spx_eq _ (fun k k0 k1 => ?_) q3
        simp only [q1]
        unfold cpS
        rw [if_pos (by omega)]
        congr 1
        omega
    · rw [k2 39 2 (by unfold scr; omega) (by omega) (by omega), lwc_o (by omega)]
      exact z1
  · have pf : (pX (I 46) (I 39 2) 9 (sk (I 46) (I 39 2) 0) [] []).1 = false := by simpa using hp
    obtain ⟨I2, e2, z2, k2⟩ := (m_all (X := X) (d := d + 7) (J := J) (mT I1 (fun o k q z => rfl) h96)).2 pf
    rw [if_neg hp] at e1
    generalize pX (I 46) (I 39 2) 9 (sk (I 46) (I 39 2) 0) [] [] = P at e1 e2 g2
    have nb : ¬ P.2.1 = -1 := by omega
    refine ⟨-100 - P.2.1, I1, J, I2, J, ?_, e2, Rel_tape h (fun o k w1 w2 => ?_) (TP_0 ?_ z2)⟩
    · simp (disch := omega) only [v_124_0, u_124_0, x_aload0, k_0_3, x_call1_0, x_call1_1, x_call1_2, x_call1_3, x_call1_4, e_k_s, e_k_i, List.nil_append, List.cons_append, x_istore1i, x_istore1r, x_istore1u, x_iload1, x_sipush, x_if_icmp_eq, x_isub, x_ireturn, u_124_18, k_0_0, k_39_0, x_call2_0, x_call2_1, x_call2_2, x_call2_3, x_call2_4, e1, nb, ↓reduceIte, b01_0, ite_not, if_true, if_false, Int.reduceLT, Int.reduceEq]
    · unfold eTP at w2
      rw [k2 o k w1 (by omega)]
      exact k1 o k w1 (by omega)
    · rw [k2 39 2 (by unfold scr; omega) (by omega)]
      exact z1
end
