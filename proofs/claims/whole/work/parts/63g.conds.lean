/-! THE MODEL reads conditions: one behind the other -/
theorem off_nn (m : Nat) (C : List prt) : off (nots m C) = off C + m := off_nots m C
section
variable {X : e_X} {d : Nat} {M I J : Nat → Int → Int} {b op : Int} {A : Int → Int} {n : Int} {C : List prt} {F : Int → List prt → prs}
theorem m_pN (hT : tpm M A n) {x y : Value} : ∀ (f : Nat) (b : Int) (m : Nat) (I : Nat → Int → Int), (0 ≤ b ∧ b ≤ n) → n - b < f → msx M A n I b C op → ∃ I', s_j X (d + 6) 183 2 [.ref 69, .int (iI m), x, y] [] (mm I J) = s_j X (d + 6) 183 17 [.ref 69, .int (iI ((m + (pN A n f b).1 : Nat) : Int)), x, y] [] (mm I' J) ∧ msx M A n I' (pN A n f b).2 C op
  | 0, b, m, I, hb, hf, h => by omega
  | f + 1, b, m, I, hb, hf, h => by
    have e : pN A n (f + 1) b = if wd A n b = 12 then ((pN A n f (ns A n b)).1 + 1, (pN A n f (ns A n b)).2) else (0, b) := rfl
    rw [e]
    have tj := tk_jn (tpm_b hT hb.1)
    by_cases q : wd A n b = 12
    · rw [if_pos q]
      have n1 := ns_lt (A := A) hb.2 (by omega)
      obtain ⟨I1, e1, h1⟩ := m_take1 (X := X) (d := d + 1) (J := J) hT hb (tj.1.mpr q) h
      obtain ⟨I2, e2, h2⟩ := m_pN hT (x := x) (y := y) f (ns A n b) (m + 1) I1 ⟨by omega, n1.2⟩ (by omega) h1
      refine ⟨I2, ?_, h2⟩
      rw [show m + 1 + (pN A n f (ns A n b)).1 = m + ((pN A n f (ns A n b)).1 + 1) by omega] at e2
      show _ = s_j X (d + 6) 183 17 [.ref 69, .int (iI ((m + ((pN A n f (ns A n b)).1 + 1) : Nat) : Int)), x, y] [] (mm I2 J)
      rw [← e2, show ((m + 1 : Nat) : Int) = (m : Int) + 1 by omega]
      conv => lhs; rw [u_183_2]
      simp (disch := omega) only [v_183_69, u_183_0, x_sipush, x_istore1i, x_istore1r, x_istore1u, x_jsr, x_aload0, x_call2_0, x_call2_1, x_call2_2, x_call2_3, x_call2_4, e_k_s, e_k_i, List.nil_append, List.cons_append, x_ifCond_eq, x_ifCond_eqb, x_iinc1i, x_iinc1r, x_iinc1u, x_goto, f_69_10, x_if_icmp_ne, x_call1_0, x_call1_1, x_call1_2, x_call1_3, x_call1_4, u_183_34, u_183_38, x_istore2i, x_istore2r, x_istore2u, x_istore3i, x_istore3r, x_istore3u, u_183_41, x_iload3, x_iload1, x_if_icmp_ge, x_iload2, x_iinc3i, x_iinc3r, x_iinc3u, u_183_63, x_zret0, x_zret1, x_zretb, e1, ↓reduceIte, b01_0, ite_not, if_true, if_false, Int.reduceLT, Int.reduceEq]
    · rw [if_neg q]
      have e1 := m_take0 (X := X) (d := d + 1) (J := J) hT hb (x := 10) (fun y => q (tj.1.mp y)) (by decide) h
      refine ⟨I, ?_, h⟩
      rw [u_183_2]
      simp (disch := omega) only [v_183_69, u_183_0, x_sipush, x_istore1i, x_istore1r, x_istore1u, x_jsr, x_aload0, x_call2_0, x_call2_1, x_call2_2, x_call2_3, x_call2_4, e_k_s, e_k_i, List.nil_append, List.cons_append, x_ifCond_eq, x_ifCond_eqb, x_iinc1i, x_iinc1r, x_iinc1u, x_goto, f_69_10, x_if_icmp_ne, x_call1_0, x_call1_1, x_call1_2, x_call1_3, x_call1_4, u_183_34, u_183_38, x_istore2i, x_istore2r, x_istore2u, x_istore3i, x_istore3r, x_istore3u, u_183_41, x_iload3, x_iload1, x_if_icmp_ge, x_iload2, x_iinc3i, x_iinc3r, x_iinc3u, u_183_63, x_zret0, x_zret1, x_zretb, e1, ↓reduceIte, b01_0, ite_not, if_true, if_false, Int.reduceLT, Int.reduceEq]
      rfl
theorem m_ln : ∀ (k : Nat) (j m : Int) (C : List prt) (I : Nat → Int → Int), 0 ≤ j → j + k = m → m ≤ 300 → off C + k ≤ 200 → msx M A n I b C op → ∃ I', s_j X (d + 1) 183 41 [.ref 69, .int (iI m), .int (iI 1), .int (iI j)] [] (mm I J) = some ([.int (iI 1)], mm I' J) ∧ msx M A n I' b (nots k C) op
  | 0, j, m, C, I, j0, jm, hm, ho, h => by
    refine ⟨I, ?_, h⟩
    have q : ¬ j < m := by omega
    rw [u_183_41]
    simp (disch := omega) only [v_183_69, u_183_0, x_sipush, x_istore1i, x_istore1r, x_istore1u, x_jsr, x_aload0, x_call2_0, x_call2_1, x_call2_2, x_call2_3, x_call2_4, e_k_s, e_k_i, List.nil_append, List.cons_append, x_ifCond_eq, x_ifCond_eqb, x_iinc1i, x_iinc1r, x_iinc1u, x_goto, u_183_17, f_69_10, x_if_icmp_ne, x_call1_0, x_call1_1, x_call1_2, x_call1_3, x_call1_4, u_183_34, u_183_38, x_istore2i, x_istore2r, x_istore2u, x_istore3i, x_istore3r, x_istore3u, x_iload3, x_iload1, x_if_icmp_ge, x_iload2, x_iinc3i, x_iinc3r, x_iinc3u, u_183_63, x_zret0, x_zret1, x_zretb, q, ↓reduceIte, b01_0, ite_not, if_true, if_false, Int.reduceLT, Int.reduceEq]
  | k + 1, j, m, C, I, j0, jm, hm, ho, h => by
    obtain ⟨I1, e1, h1⟩ := m_lay1 (X := X) (d := d) (J := J) (p := (-1, 0, 0)) (by decide) (by omega) h
    obtain ⟨I2, e2, h2⟩ := m_ln k (j + 1) m ((-1, 0, 0) :: C) I1 (by omega) (by omega) hm (by rw [off_1 (by decide)]; omega) h1
    rw [nots_s] at h2
    refine ⟨I2, ?_, h2⟩
    have q : j < m := by omega
    have ec : cdn (-1, 0, 0) = 10015 := rfl
    rw [ec] at e1
    rw [← e2]
    conv => lhs; rw [u_183_41]
    simp (disch := omega) only [v_183_69, u_183_0, x_sipush, x_istore1i, x_istore1r, x_istore1u, x_jsr, x_aload0, x_call2_0, x_call2_1, x_call2_2, x_call2_3, x_call2_4, e_k_s, e_k_i, List.nil_append, List.cons_append, x_ifCond_eq, x_ifCond_eqb, x_iinc1i, x_iinc1r, x_iinc1u, x_goto, u_183_17, f_69_10, x_if_icmp_ne, x_call1_0, x_call1_1, x_call1_2, x_call1_3, x_call1_4, u_183_34, u_183_38, x_istore2i, x_istore2r, x_istore2u, x_istore3i, x_istore3r, x_istore3u, x_iload3, x_iload1, x_if_icmp_ge, x_iload2, x_iinc3i, x_iinc3r, x_iinc3u, u_183_63, x_zret0, x_zret1, x_zretb, q, e1, ↓reduceIte, b01_0, ite_not, if_true, if_false, Int.reduceLT, Int.reduceEq]
theorem m_l0 {m j : Int} (hm : 0 ≤ m ∧ m ≤ 300) (hj : 0 ≤ j ∧ j ≤ 300) : s_j X d 183 41 [.ref 69, .int (iI m), .int (iI 0), .int (iI j)] [] (mm I J) = some ([.int (iI 0)], mm I J) := by
  rw [u_183_41]
  by_cases q : j < m
  · simp (disch := omega) only [v_183_69, u_183_0, x_sipush, x_istore1i, x_istore1r, x_istore1u, x_jsr, x_aload0, x_call2_0, x_call2_1, x_call2_2, x_call2_3, x_call2_4, e_k_s, e_k_i, List.nil_append, List.cons_append, x_ifCond_eq, x_ifCond_eqb, x_iinc1i, x_iinc1r, x_iinc1u, x_goto, u_183_17, f_69_10, x_if_icmp_ne, x_call1_0, x_call1_1, x_call1_2, x_call1_3, x_call1_4, u_183_34, u_183_38, x_istore2i, x_istore2r, x_istore2u, x_istore3i, x_istore3r, x_istore3u, x_iload3, x_iload1, x_if_icmp_ge, x_iload2, x_iinc3i, x_iinc3r, x_iinc3u, u_183_63, x_zret0, x_zret1, x_zretb, q, ↓reduceIte, b01_0, ite_not, if_true, if_false, Int.reduceLT, Int.reduceEq]
  · simp (disch := omega) only [v_183_69, u_183_0, x_sipush, x_istore1i, x_istore1r, x_istore1u, x_jsr, x_aload0, x_call2_0, x_call2_1, x_call2_2, x_call2_3, x_call2_4, e_k_s, e_k_i, List.nil_append, List.cons_append, x_ifCond_eq, x_ifCond_eqb, x_iinc1i, x_iinc1r, x_iinc1u, x_goto, u_183_17, f_69_10, x_if_icmp_ne, x_call1_0, x_call1_1, x_call1_2, x_call1_3, x_call1_4, u_183_34, u_183_38, x_istore2i, x_istore2r, x_istore2u, x_istore3i, x_istore3r, x_istore3u, x_iload3, x_iload1, x_if_icmp_ge, x_iload2, x_iinc3i, x_iinc3r, x_iinc3u, u_183_63, x_zret0, x_zret1, x_zretb, q, ↓reduceIte, b01_0, ite_not, if_true, if_false, Int.reduceLT, Int.reduceEq]
theorem msx_f {M I : Nat → Int → Int} {b : Int} {C : List prt} (h : msx M A n I b C op) : I 69 10 = tk A n b ∧ I 69 12 = op := by
  obtain ⟨v, Sp, rfl, h1, h2⟩ := h
  exact ⟨rfl, rfl⟩
theorem m_pO (hT : tpm M A n) (hF : mOk X (d + 6) A n M J 184 op (fun b => wd A n b = 24) F) (hG : wgd A n 0 F) : mOk X (d + 7) A n M J 183 op (fun _ => True) (pO A n F) := by
  intro b C I hb _ ho h
  have hn := hT.1
  have o0 := off_ge C
  obtain ⟨i1, i2, i3⟩ := pN_b (A := A) (n := n) 201 b hb.2 (by omega)
  obtain ⟨I1, e1, h1⟩ := m_pN (X := X) (d := d) (J := J) hT (x := .retAddr 0) (y := .retAddr 0) 201 b 0 I hb (by omega) h
  have s0 : (((0 : Nat) : Int)) = 0 := rfl
  rw [Nat.zero_add, s0] at e1
  have tb := tk_b (tpm_b hT (b := (pN A n 201 b).2) (by omega))
  have tbr := tk_br (tpm_b hT (b := (pN A n 201 b).2) (by omega))
  have hf := msx_f h1
  have hp : ∃ I2, (if tk A n (pN A n 201 b).2 = 240 then s_S X (d + 6) 184 [.ref 69] (mm I1 J) else s_S X (d + 6) 185 [.ref 69] (mm I1 J)) = some ([.int (iI (if (pP A n F (pN A n 201 b).2 C).1 = true then 1 else 0))], mm I2 J) ∧ ((pP A n F (pN A n 201 b).2 C).1 = true → msx M A n I2 (pP A n F (pN A n 201 b).2 C).2.1 (pP A n F (pN A n 201 b).2 C).2.2 op) ∧ ((pP A n F (pN A n 201 b).2 C).1 = false → mft M I2 (pP A n F (pN A n 201 b).2 C).2.1) := by
    unfold pP
    by_cases q : wd A n (pN A n 201 b).2 = 24
    · rw [if_pos q, if_pos (tbr.1.mpr q)]
      exact hF _ C I1 ⟨by omega, i2⟩ q (by omega) h1
    · rw [if_neg q, if_neg (fun y => q (tbr.1.mp y))]
      exact m_pL (X := X) (d := d) (J := J) (op := op) hT _ C I1 ⟨by omega, i2⟩ trivial (by omega) h1
  have gp : gd n 0 (pN A n 201 b).2 C (pP A n F (pN A n 201 b).2 C) := by
    unfold pP
    by_cases q : wd A n (pN A n 201 b).2 = 24
    · rw [if_pos q]
      exact (hG 0 _ C (Nat.le_refl 0) ⟨by omega, i2⟩ q).1
    · rw [if_neg q]
      exact (pL_g (by decide) i2).1
  unfold pO
  generalize pN A n 201 b = y at e1 h1 hp gp i1 i2 i3 tb tbr hf ⊢
  generalize pP A n F y.2 C = r at hp gp ⊢
  obtain ⟨I2, e2, h2, h3⟩ := hp
  have step : ∀ (v : Int), (v = 0 ∨ v = 1) → (if tk A n y.2 = 240 then s_S X (d + 6) 184 [.ref 69] (mm I1 J) else s_S X (d + 6) 185 [.ref 69] (mm I1 J)) = some ([.int (iI v)], mm I2 J) → s_S X (d + 7) 183 [.ref 69] (mm I J) = s_j X (d + 6) 183 41 [.ref 69, .int (iI (y.1 : Int)), .int (iI v), .int (iI 0)] [] (mm I2 J) := by
    intro v hv ev
    have hf1 := hf.1
    by_cases q : tk A n y.2 = 240
    · rw [if_pos q] at ev
      rw [q] at hf1
      simp (disch := omega) only [v_183_69, u_183_0, x_sipush, x_istore1i, x_istore1r, x_istore1u, x_jsr, x_aload0, x_call2_0, x_call2_1, x_call2_2, x_call2_3, x_call2_4, e_k_s, e_k_i, List.nil_append, List.cons_append, x_ifCond_eq, x_ifCond_eqb, x_iinc1i, x_iinc1r, x_iinc1u, x_goto, f_69_10, x_if_icmp_ne, x_call1_0, x_call1_1, x_call1_2, x_call1_3, x_call1_4, u_183_34, u_183_38, x_istore2i, x_istore2r, x_istore2u, x_istore3i, x_istore3r, x_istore3u, x_iload3, x_iload1, x_if_icmp_ge, x_iload2, x_iinc3i, x_iinc3r, x_iinc3u, u_183_63, x_zret0, x_zret1, x_zretb, e1, ↓reduceIte, b01_0, ite_not, if_true, if_false, Int.reduceLT, Int.reduceEq]
      rw [u_183_17]
      simp (disch := omega) only [v_183_69, u_183_0, x_sipush, x_istore1i, x_istore1r, x_istore1u, x_jsr, x_aload0, x_call2_0, x_call2_1, x_call2_2, x_call2_3, x_call2_4, e_k_s, e_k_i, List.nil_append, List.cons_append, x_ifCond_eq, x_ifCond_eqb, x_iinc1i, x_iinc1r, x_iinc1u, x_goto, f_69_10, x_if_icmp_ne, x_call1_0, x_call1_1, x_call1_2, x_call1_3, x_call1_4, u_183_34, u_183_38, x_istore2i, x_istore2r, x_istore2u, x_istore3i, x_istore3r, x_istore3u, x_iload3, x_iload1, x_if_icmp_ge, x_iload2, x_iinc3i, x_iinc3r, x_iinc3u, u_183_63, x_zret0, x_zret1, x_zretb, hf1, ev, ↓reduceIte, b01_0, ite_not, if_true, if_false, Int.reduceLT, Int.reduceEq]
    · rw [if_neg q] at ev
      simp (disch := omega) only [v_183_69, u_183_0, x_sipush, x_istore1i, x_istore1r, x_istore1u, x_jsr, x_aload0, x_call2_0, x_call2_1, x_call2_2, x_call2_3, x_call2_4, e_k_s, e_k_i, List.nil_append, List.cons_append, x_ifCond_eq, x_ifCond_eqb, x_iinc1i, x_iinc1r, x_iinc1u, x_goto, f_69_10, x_if_icmp_ne, x_call1_0, x_call1_1, x_call1_2, x_call1_3, x_call1_4, u_183_34, u_183_38, x_istore2i, x_istore2r, x_istore2u, x_istore3i, x_istore3r, x_istore3u, x_iload3, x_iload1, x_if_icmp_ge, x_iload2, x_iinc3i, x_iinc3r, x_iinc3u, u_183_63, x_zret0, x_zret1, x_zretb, e1, ↓reduceIte, b01_0, ite_not, if_true, if_false, Int.reduceLT, Int.reduceEq]
      rw [u_183_17]
      simp (disch := omega) only [v_183_69, u_183_0, x_sipush, x_istore1i, x_istore1r, x_istore1u, x_jsr, x_aload0, x_call2_0, x_call2_1, x_call2_2, x_call2_3, x_call2_4, e_k_s, e_k_i, List.nil_append, List.cons_append, x_ifCond_eq, x_ifCond_eqb, x_iinc1i, x_iinc1r, x_iinc1u, x_goto, f_69_10, x_if_icmp_ne, x_call1_0, x_call1_1, x_call1_2, x_call1_3, x_call1_4, u_183_34, u_183_38, x_istore2i, x_istore2r, x_istore2u, x_istore3i, x_istore3r, x_istore3u, x_iload3, x_iload1, x_if_icmp_ge, x_iload2, x_iinc3i, x_iinc3r, x_iinc3u, u_183_63, x_zret0, x_zret1, x_zretb, hf1, q, ev, ↓reduceIte, b01_0, ite_not, if_true, if_false, Int.reduceLT, Int.reduceEq]
  by_cases q : r.1 = true
  · rw [if_pos q] at e2
    obtain ⟨j1, j2, D, j3, j4, j5⟩ := gp q
    obtain ⟨I3, e3, h4⟩ := m_ln (X := X) (d := d + 5) (J := J) y.1 0 y.1 r.2.2 I2 (Int.le_refl 0) (by omega) (by omega) (by rw [j3, off_app]; omega) (h2 q)
    refine ⟨I3, ?_, fun _ => h4, fun z => by simp only at z; rw [z] at q; cases q⟩
    simp only
    rw [if_pos q, step 1 (Or.inr rfl) e2]
    exact e3
  · rw [if_neg q] at e2
    refine ⟨I2, ?_, fun z => absurd z q, fun z => h3 z⟩
    simp only
    rw [if_neg q, step 0 (Or.inl rfl) e2]
    exact m_l0 (by omega) (by decide)
theorem m_pA1 (hT : tpm M A n) (hO : mOk X (d + 7) A n M J 183 op (fun _ => True) (pO A n F)) (hG : wgd A n 0 F) : ∀ (f : Nat) (r : prs) (I : Nat → Int → Int), (r.1 = true → (0 ≤ r.2.1 ∧ r.2.1 ≤ n) ∧ off r.2.2 ≤ r.2.1 ∧ n - r.2.1 < f ∧ msx M A n I r.2.1 r.2.2 op) → (r.1 = false → mft M I r.2.1) → ∃ I', s_j X (d + 7) 182 5 [.ref 69, .int (iI (if r.1 = true then 1 else 0))] [] (mm I J) = some ([.int (iI (if (pA1 A n F f r).1 = true then 1 else 0))], mm I' J) ∧ ((pA1 A n F f r).1 = true → msx M A n I' (pA1 A n F f r).2.1 (pA1 A n F f r).2.2 op) ∧ ((pA1 A n F f r).1 = false → mft M I' (pA1 A n F f r).2.1)
  | f, r, I, hr, hr0 => by
    have hn := hT.1
    by_cases q0 : r.1 = true
    · obtain ⟨g1, g2, g3, g4⟩ := hr q0
      cases f with
      | zero => omega
      | succ f =>
        have tj := tk_jn (tpm_b hT g1.1)
        have e : pA1 A n F (f + 1) r = if r.1 = true ∧ wd A n r.2.1 = 10 then pA1 A n F f ((pO A n F (ns A n r.2.1) r.2.2).1, (pO A n F (ns A n r.2.1) r.2.2).2.1, (-2, 0, 0) :: (pO A n F (ns A n r.2.1) r.2.2).2.2) else r := rfl
        rw [e]
        by_cases q : wd A n r.2.1 = 10
        · have hq : r.1 = true ∧ wd A n r.2.1 = 10 := ⟨q0, q⟩
          rw [if_pos hq, if_pos q0]
          have n1 := ns_lt (A := A) g1.2 (by omega)
          obtain ⟨I1, e1, h1⟩ := m_take1 (X := X) (d := d + 2) (J := J) hT g1 (tj.2.1.mpr q) g4
          obtain ⟨I2, e2, h2, h3⟩ := hO (ns A n r.2.1) r.2.2 I1 ⟨by omega, n1.2⟩ trivial (by omega) h1
          obtain ⟨o1, o2⟩ := pO_g (A := A) (n := n) (K := 0) (by decide) hG (k := 0) (Nat.le_refl 0) (b := ns A n r.2.1) (C := r.2.2) ⟨by omega, n1.2⟩ hn.2
          generalize pO A n F (ns A n r.2.1) r.2.2 = y at e2 h2 h3 o1 o2
          by_cases q2 : y.1 = true
          · obtain ⟨j1, j2, D, j3, j4, j5⟩ := o1 q2
            have oy : off y.2.2 ≤ y.2.1 - 1 := by
              rw [j3, off_app]
              omega
            obtain ⟨I3, e3, h4⟩ := m_lay1 (X := X) (d := d + 6) (J := J) (p := (-2, 0, 0)) (by decide) (by omega) (h2 q2)
            obtain ⟨I4, e4, h5, h6⟩ := m_pA1 hT hO hG f (y.1, y.2.1, (-2, 0, 0) :: y.2.2) I3 (fun _ => ⟨⟨by simp only; omega, j2⟩, by
              simp only
              rw [off_1 (by decide)]
              omega, by simp only; omega, h4⟩) (fun z => by simp only at z; rw [z] at q2; cases q2)
            refine ⟨I4, ?_, h5, h6⟩
            rw [← e4]
            simp only
            rw [if_pos q2] at e2 ⊢
            have ec : cdn (-2, 0, 0) = 10013 := rfl
            rw [ec] at e3
            conv => lhs; rw [u_182_5]
            simp (disch := omega) only [v_182_69, u_182_0, x_aload0, x_call1_0, x_call1_1, x_call1_2, x_call1_3, x_call1_4, e_k_s, e_k_i, List.nil_append, List.cons_append, x_istore1i, x_istore1r, x_istore1u, x_jsr, x_iload1, x_ifCond_eq, x_ifCond_eqb, x_sipush, x_call2_0, x_call2_1, x_call2_2, x_call2_3, x_call2_4, x_goto, u_182_37, x_zret0, x_zret1, x_zretb, e1, e2, e3, ↓reduceIte, b01_0, ite_not, if_true, if_false, Int.reduceLT, Int.reduceEq]
          · have yf : y.1 = false := by simpa using q2
            rw [if_neg q2] at e2
            rw [pA1_f (A := A) (n := n) (F := F) (f := f) (r := (y.1, y.2.1, (-2, 0, 0) :: y.2.2)) yf]
            refine ⟨I2, ?_, fun z => absurd z q2, fun _ => h3 yf⟩
            simp only
            rw [if_neg q2, u_182_5]
            simp (disch := omega) only [v_182_69, u_182_0, x_aload0, x_call1_0, x_call1_1, x_call1_2, x_call1_3, x_call1_4, e_k_s, e_k_i, List.nil_append, List.cons_append, x_istore1i, x_istore1r, x_istore1u, x_jsr, x_iload1, x_ifCond_eq, x_ifCond_eqb, x_sipush, x_call2_0, x_call2_1, x_call2_2, x_call2_3, x_call2_4, x_goto, u_182_37, x_zret0, x_zret1, x_zretb, e1, e2, ↓reduceIte, b01_0, ite_not, if_true, if_false, Int.reduceLT, Int.reduceEq]
            rw [u_182_5]
            simp (disch := omega) only [v_182_69, u_182_0, x_aload0, x_call1_0, x_call1_1, x_call1_2, x_call1_3, x_call1_4, e_k_s, e_k_i, List.nil_append, List.cons_append, x_istore1i, x_istore1r, x_istore1u, x_jsr, x_iload1, x_ifCond_eq, x_ifCond_eqb, x_sipush, x_call2_0, x_call2_1, x_call2_2, x_call2_3, x_call2_4, x_goto, u_182_37, x_zret0, x_zret1, x_zretb, ↓reduceIte, b01_0, ite_not, if_true, if_false, Int.reduceLT, Int.reduceEq]
        · have hq : ¬ (r.1 = true ∧ wd A n r.2.1 = 10) := fun z => q z.2
          rw [if_neg hq, if_pos q0]
          have e1 := m_take0 (X := X) (d := d + 2) (J := J) hT g1 (x := 11) (fun y => q (tj.2.1.mp y)) (by decide) g4
          refine ⟨I, ?_, fun _ => g4, fun z => by rw [z] at q0; cases q0⟩
          rw [u_182_5]
          simp (disch := omega) only [v_182_69, u_182_0, x_aload0, x_call1_0, x_call1_1, x_call1_2, x_call1_3, x_call1_4, e_k_s, e_k_i, List.nil_append, List.cons_append, x_istore1i, x_istore1r, x_istore1u, x_jsr, x_iload1, x_ifCond_eq, x_ifCond_eqb, x_sipush, x_call2_0, x_call2_1, x_call2_2, x_call2_3, x_call2_4, x_goto, u_182_37, x_zret0, x_zret1, x_zretb, e1, ↓reduceIte, b01_0, ite_not, if_true, if_false, Int.reduceLT, Int.reduceEq]
    · have rf : r.1 = false := by simpa using q0
      rw [pA1_f rf, if_neg q0]
      refine ⟨I, ?_, fun z => absurd z q0, hr0⟩
      rw [u_182_5]
      simp (disch := omega) only [v_182_69, u_182_0, x_aload0, x_call1_0, x_call1_1, x_call1_2, x_call1_3, x_call1_4, e_k_s, e_k_i, List.nil_append, List.cons_append, x_istore1i, x_istore1r, x_istore1u, x_jsr, x_iload1, x_ifCond_eq, x_ifCond_eqb, x_sipush, x_call2_0, x_call2_1, x_call2_2, x_call2_3, x_call2_4, x_goto, u_182_37, x_zret0, x_zret1, x_zretb, ↓reduceIte, b01_0, ite_not, if_true, if_false, Int.reduceLT, Int.reduceEq]
theorem m_pA (hT : tpm M A n) (hF : mOk X (d + 6) A n M J 184 op (fun b => wd A n b = 24) F) (hG : wgd A n 0 F) : mOk X (d + 8) A n M J 182 op (fun _ => True) (pA A n F) := by
  intro b C I hb _ ho h
  have hn := hT.1
  have hO := m_pO hT hF hG
  obtain ⟨I1, e1, h1, h2⟩ := hO b C I hb trivial ho h
  obtain ⟨o1, o2⟩ := pO_g (A := A) (n := n) (K := 0) (by decide) hG (k := 0) (Nat.le_refl 0) (b := b) (C := C) hb hn.2
  obtain ⟨I2, e2, h3, h4⟩ := m_pA1 (X := X) (d := d) (J := J) hT hO hG 201 (pO A n F b C) I1 (fun q => by
    obtain ⟨j1, j2, D, j3, j4, j5⟩ := o1 q
    refine ⟨⟨by omega, j2⟩, ?_, by omega, h1 q⟩
    rw [j3, off_app]
    omega) h2
  refine ⟨I2, ?_, h3, h4⟩
  have e9 : s_S X (d + 8) 182 [.ref 69] (mm I J) = s_j X (d + 7) 182 5 [.ref 69, .int (iI (if (pO A n F b C).1 = true then 1 else 0))] [] (mm I1 J) := by
    simp (disch := omega) only [v_182_69, u_182_0, x_aload0, x_call1_0, x_call1_1, x_call1_2, x_call1_3, x_call1_4, e_k_s, e_k_i, List.nil_append, List.cons_append, x_istore1i, x_istore1r, x_istore1u, x_jsr, x_iload1, x_ifCond_eq, x_ifCond_eqb, x_sipush, x_call2_0, x_call2_1, x_call2_2, x_call2_3, x_call2_4, x_goto, u_182_37, x_zret0, x_zret1, x_zretb, e1, ↓reduceIte, b01_0, ite_not, if_true, if_false, Int.reduceLT, Int.reduceEq]
  exact e9.trans e2
theorem m_pC1 (hT : tpm M A n) (hA : mOk X (d + 8) A n M J 182 op (fun _ => True) (pA A n F)) (hG : wgd A n 1 F) : ∀ (f : Nat) (r : prs) (I : Nat → Int → Int), (r.1 = true → (0 ≤ r.2.1 ∧ r.2.1 ≤ n) ∧ off r.2.2 ≤ r.2.1 ∧ n - r.2.1 < f ∧ msx M A n I r.2.1 r.2.2 op) → (r.1 = false → mft M I r.2.1) → ∃ I', s_j X (d + 8) 181 5 [.ref 69, .int (iI (if r.1 = true then 1 else 0))] [] (mm I J) = some ([.int (iI (if (pC1 A n F f r).1 = true then 1 else 0))], mm I' J) ∧ ((pC1 A n F f r).1 = true → msx M A n I' (pC1 A n F f r).2.1 (pC1 A n F f r).2.2 op) ∧ ((pC1 A n F f r).1 = false → mft M I' (pC1 A n F f r).2.1)
  | f, r, I, hr, hr0 => by
    have hn := hT.1
    by_cases q0 : r.1 = true
    · obtain ⟨g1, g2, g3, g4⟩ := hr q0
      cases f with
      | zero => omega
      | succ f =>
        have tj := tk_jn (tpm_b hT g1.1)
        have e : pC1 A n F (f + 1) r = if r.1 = true ∧ wd A n r.2.1 = 11 then pC1 A n F f ((pA A n F (ns A n r.2.1) r.2.2).1, (pA A n F (ns A n r.2.1) r.2.2).2.1, (-3, 0, 0) :: (pA A n F (ns A n r.2.1) r.2.2).2.2) else r := rfl
        rw [e]
        by_cases q : wd A n r.2.1 = 11
        · have hq : r.1 = true ∧ wd A n r.2.1 = 11 := ⟨q0, q⟩
          rw [if_pos hq, if_pos q0]
          have n1 := ns_lt (A := A) g1.2 (by omega)
          obtain ⟨I1, e1, h1⟩ := m_take1 (X := X) (d := d + 3) (J := J) hT g1 (tj.2.2.mpr q) g4
          obtain ⟨I2, e2, h2, h3⟩ := hA (ns A n r.2.1) r.2.2 I1 ⟨by omega, n1.2⟩ trivial (by omega) h1
          obtain ⟨o1, o2, _⟩ := pA_g (A := A) (n := n) (K := 0) (by decide) hG (k := 0) (Nat.le_refl 0) (b := ns A n r.2.1) (C := r.2.2) ⟨by omega, n1.2⟩ hn.2
          generalize pA A n F (ns A n r.2.1) r.2.2 = y at e2 h2 h3 o1 o2
          by_cases q2 : y.1 = true
          · obtain ⟨j1, j2, D, j3, j4, j5⟩ := o1 q2
            have oy : off y.2.2 ≤ y.2.1 - 1 := by
              rw [j3, off_app]
              omega
            obtain ⟨I3, e3, h4⟩ := m_lay1 (X := X) (d := d + 7) (J := J) (p := (-3, 0, 0)) (by decide) (by omega) (h2 q2)
            obtain ⟨I4, e4, h5, h6⟩ := m_pC1 hT hA hG f (y.1, y.2.1, (-3, 0, 0) :: y.2.2) I3 (fun _ => ⟨⟨by simp only; omega, j2⟩, by
              simp only
              rw [off_1 (by decide)]
              omega, by simp only; omega, h4⟩) (fun z => by simp only at z; rw [z] at q2; cases q2)
            refine ⟨I4, ?_, h5, h6⟩
            rw [← e4]
            simp only
            rw [if_pos q2] at e2 ⊢
            have ec : cdn (-3, 0, 0) = 10014 := rfl
            rw [ec] at e3
            conv => lhs; rw [u_181_5]
            simp (disch := omega) only [v_181_69, u_181_0, x_aload0, x_call1_0, x_call1_1, x_call1_2, x_call1_3, x_call1_4, e_k_s, e_k_i, List.nil_append, List.cons_append, x_istore1i, x_istore1r, x_istore1u, x_jsr, x_iload1, x_ifCond_eq, x_ifCond_eqb, x_sipush, x_call2_0, x_call2_1, x_call2_2, x_call2_3, x_call2_4, x_goto, u_181_37, x_zret0, x_zret1, x_zretb, e1, e2, e3, ↓reduceIte, b01_0, ite_not, if_true, if_false, Int.reduceLT, Int.reduceEq]
          · have yf : y.1 = false := by simpa using q2
            rw [if_neg q2] at e2
            rw [pC1_f (A := A) (n := n) (F := F) (f := f) (r := (y.1, y.2.1, (-3, 0, 0) :: y.2.2)) yf]
            refine ⟨I2, ?_, fun z => absurd z q2, fun _ => h3 yf⟩
            simp only
            rw [if_neg q2, u_181_5]
            simp (disch := omega) only [v_181_69, u_181_0, x_aload0, x_call1_0, x_call1_1, x_call1_2, x_call1_3, x_call1_4, e_k_s, e_k_i, List.nil_append, List.cons_append, x_istore1i, x_istore1r, x_istore1u, x_jsr, x_iload1, x_ifCond_eq, x_ifCond_eqb, x_sipush, x_call2_0, x_call2_1, x_call2_2, x_call2_3, x_call2_4, x_goto, u_181_37, x_zret0, x_zret1, x_zretb, e1, e2, ↓reduceIte, b01_0, ite_not, if_true, if_false, Int.reduceLT, Int.reduceEq]
            rw [u_181_5]
            simp (disch := omega) only [v_181_69, u_181_0, x_aload0, x_call1_0, x_call1_1, x_call1_2, x_call1_3, x_call1_4, e_k_s, e_k_i, List.nil_append, List.cons_append, x_istore1i, x_istore1r, x_istore1u, x_jsr, x_iload1, x_ifCond_eq, x_ifCond_eqb, x_sipush, x_call2_0, x_call2_1, x_call2_2, x_call2_3, x_call2_4, x_goto, u_181_37, x_zret0, x_zret1, x_zretb, ↓reduceIte, b01_0, ite_not, if_true, if_false, Int.reduceLT, Int.reduceEq]
        · have hq : ¬ (r.1 = true ∧ wd A n r.2.1 = 11) := fun z => q z.2
          rw [if_neg hq, if_pos q0]
          have e1 := m_take0 (X := X) (d := d + 3) (J := J) hT g1 (x := 12) (fun y => q (tj.2.2.mp y)) (by decide) g4
          refine ⟨I, ?_, fun _ => g4, fun z => by rw [z] at q0; cases q0⟩
          rw [u_181_5]
          simp (disch := omega) only [v_181_69, u_181_0, x_aload0, x_call1_0, x_call1_1, x_call1_2, x_call1_3, x_call1_4, e_k_s, e_k_i, List.nil_append, List.cons_append, x_istore1i, x_istore1r, x_istore1u, x_jsr, x_iload1, x_ifCond_eq, x_ifCond_eqb, x_sipush, x_call2_0, x_call2_1, x_call2_2, x_call2_3, x_call2_4, x_goto, u_181_37, x_zret0, x_zret1, x_zretb, e1, ↓reduceIte, b01_0, ite_not, if_true, if_false, Int.reduceLT, Int.reduceEq]
    · have rf : r.1 = false := by simpa using q0
      rw [pC1_f rf, if_neg q0]
      refine ⟨I, ?_, fun z => absurd z q0, hr0⟩
      rw [u_181_5]
      simp (disch := omega) only [v_181_69, u_181_0, x_aload0, x_call1_0, x_call1_1, x_call1_2, x_call1_3, x_call1_4, e_k_s, e_k_i, List.nil_append, List.cons_append, x_istore1i, x_istore1r, x_istore1u, x_jsr, x_iload1, x_ifCond_eq, x_ifCond_eqb, x_sipush, x_call2_0, x_call2_1, x_call2_2, x_call2_3, x_call2_4, x_goto, u_181_37, x_zret0, x_zret1, x_zretb, ↓reduceIte, b01_0, ite_not, if_true, if_false, Int.reduceLT, Int.reduceEq]
theorem m_pC (hT : tpm M A n) (hF : mOk X (d + 6) A n M J 184 op (fun b => wd A n b = 24) F) (hG : wgd A n 1 F) : mOk X (d + 9) A n M J 181 op (fun _ => True) (pC A n F) := by
  intro b C I hb _ ho h
  have hn := hT.1
  have hG0 : wgd A n 0 F := fun k b C hk => hG k b C (by omega)
  have hA := m_pA hT hF hG0
  obtain ⟨I1, e1, h1, h2⟩ := hA b C I hb trivial ho h
  obtain ⟨o1, o2, _⟩ := pA_g (A := A) (n := n) (K := 0) (by decide) hG (k := 0) (Nat.le_refl 0) (b := b) (C := C) hb hn.2
  obtain ⟨I2, e2, h3, h4⟩ := m_pC1 (X := X) (d := d) (J := J) hT hA hG 201 (pA A n F b C) I1 (fun q => by
    obtain ⟨j1, j2, D, j3, j4, j5⟩ := o1 q
    refine ⟨⟨by omega, j2⟩, ?_, by omega, h1 q⟩
    rw [j3, off_app]
    omega) h2
  refine ⟨I2, ?_, h3, h4⟩
  have e9 : s_S X (d + 9) 181 [.ref 69] (mm I J) = s_j X (d + 8) 181 5 [.ref 69, .int (iI (if (pA A n F b C).1 = true then 1 else 0))] [] (mm I1 J) := by
    simp (disch := omega) only [v_181_69, u_181_0, x_aload0, x_call1_0, x_call1_1, x_call1_2, x_call1_3, x_call1_4, e_k_s, e_k_i, List.nil_append, List.cons_append, x_istore1i, x_istore1r, x_istore1u, x_jsr, x_iload1, x_ifCond_eq, x_ifCond_eqb, x_sipush, x_call2_0, x_call2_1, x_call2_2, x_call2_3, x_call2_4, x_goto, u_181_37, x_zret0, x_zret1, x_zretb, e1, ↓reduceIte, b01_0, ite_not, if_true, if_false, Int.reduceLT, Int.reduceEq]
  exact e9.trans e2
theorem m_pW0 : mOk X (d + 6) A n M J 184 3 (fun b => wd A n b = 24) (pW A n 0) := by
  intro b C I hb hw ho h
  refine ⟨I, ?_, fun y => (by cases y), fun _ => msx_ft h⟩
  have hf := (msx_f h).2
  simp (disch := omega) only [v_184_69, u_184_0, x_aload0, f_69_12, x_sipush, x_if_icmp_ne, x_zret0, x_zret1, x_zretb, u_184_10, x_dup_i, x_dup_r, x_iadd, p_69_12, x_call1_0, x_call1_1, x_call1_2, x_call1_3, x_call1_4, e_k_s, e_k_i, List.nil_append, List.cons_append, x_ifCond_eq, x_ifCond_eqb, x_call2_0, x_call2_1, x_call2_2, x_call2_3, x_call2_4, x_ifCond_ne, x_ifCond_neb, x_jsr, u_184_41, u_184_43, x_isub, hf, ↓reduceIte, b01_0, ite_not, if_true, if_false, Int.reduceLT, Int.reduceEq]
  rfl
theorem m_pW1 {f : Nat} (hf3 : f ≤ 3) (hT : tpm M A n) (hC : mOk X (d + 9) A n M J 181 (op + 1) (fun _ => True) (pC A n (pW A n f))) (ho : 0 ≤ op ∧ op < 3) : mOk X (d + 10) A n M J 184 op (fun b => wd A n b = 24) (pW A n (f + 1)) := by
  intro b C I hb hw hof h
  have hw : wd A n b = 24 := hw
  have hn := hT.1
  have n1 := ns_lt (A := A) hb.2 (by omega)
  have h0 : ∃ I0, I0 = up I 69 12 (op + 1) ∧ msx M A n I0 b C (op + 1) := by
    obtain ⟨v, Sp, rfl, h1, h2⟩ := h
    exact ⟨_, rfl, v, Sp, md_u_69_12, h1, h2⟩
  obtain ⟨I0, hI0, h0⟩ := h0
  obtain ⟨I1, e1, h1⟩ := m_adv (X := X) (d := d + 5) (J := J) hT hb h0
  obtain ⟨I2, e2, h2, h3⟩ := hC (ns A n b) C I1 ⟨by omega, n1.2⟩ trivial (by omega) h1
  obtain ⟨o1, o2, o3⟩ := pC_g (A := A) (n := n) (K := 0) (by decide) (pW_g hn.2 f 2 (by omega)) (k := 0) (Nat.le_refl 0) (b := ns A n b) (C := C) ⟨by omega, n1.2⟩ hn.2
  have e : pW A n (f + 1) b C = if (pC A n (pW A n f) (ns A n b) C).1 = true ∧ wd A n (pC A n (pW A n f) (ns A n b) C).2.1 = 25 then (true, ns A n (pC A n (pW A n f) (ns A n b) C).2.1, (pC A n (pW A n f) (ns A n b) C).2.2) else (false, (pC A n (pW A n f) (ns A n b) C).2.1, C) := rfl
  rw [e]
  have hf := (msx_f h).2
  have ho3 : ¬ op = 3 := by omega
  generalize pC A n (pW A n f) (ns A n b) C = y at e2 h2 h3 o1 o2 o3
  rw [hI0] at e1
  by_cases q : y.1 = true
  · rw [if_pos q] at e2
    obtain ⟨j1, j2, D, j3, j4, j5⟩ := o1 q
    have tbr := tk_br (tpm_b hT (b := y.2.1) (by omega))
    by_cases q2 : wd A n y.2.1 = 25
    · have hq : y.1 = true ∧ wd A n y.2.1 = 25 := ⟨q, q2⟩
      rw [if_pos hq]
      have n2 := ns_lt (A := A) j2 (by omega)
      obtain ⟨I3, e3, h4⟩ := m_take1 (X := X) (d := d + 4) (J := J) hT ⟨by omega, j2⟩ (tbr.2.1.mpr q2) (h2 q)
      have hf3 := (msx_f h4).2
      have h5 : msx M A n (up I3 69 12 op) (ns A n y.2.1) y.2.2 op := by
        obtain ⟨v, Sp, rfl, h1, h2⟩ := h4
        exact ⟨v, Sp, md_u_69_12, h1, h2⟩
      refine ⟨up I3 69 12 op, ?_, fun _ => h5, fun y => (by cases y)⟩
      simp (disch := omega) only [v_184_69, u_184_0, x_aload0, f_69_12, x_sipush, x_if_icmp_ne, x_zret0, x_zret1, x_zretb, u_184_10, x_dup_i, x_dup_r, x_iadd, p_69_12, x_call1_0, x_call1_1, x_call1_2, x_call1_3, x_call1_4, e_k_s, e_k_i, List.nil_append, List.cons_append, x_ifCond_eq, x_ifCond_eqb, x_call2_0, x_call2_1, x_call2_2, x_call2_3, x_call2_4, x_ifCond_ne, x_ifCond_neb, x_jsr, u_184_41, u_184_43, x_isub, hf, ho3, e1, e2, e3, hf3, Int.add_sub_cancel, ↓reduceIte, b01_0, ite_not, if_true, if_false, Int.reduceLT, Int.reduceEq]
    · have hq : ¬ (y.1 = true ∧ wd A n y.2.1 = 25) := fun z => q2 z.2
      rw [if_neg hq]
      have e3 := m_take0 (X := X) (d := d + 4) (J := J) hT ⟨by omega, j2⟩ (x := 241) (fun z => q2 (tbr.2.1.mp z)) (by decide) (h2 q)
      refine ⟨I2, ?_, fun y => (by cases y), fun _ => msx_ft (h2 q)⟩
      simp (disch := omega) only [v_184_69, u_184_0, x_aload0, f_69_12, x_sipush, x_if_icmp_ne, x_zret0, x_zret1, x_zretb, u_184_10, x_dup_i, x_dup_r, x_iadd, p_69_12, x_call1_0, x_call1_1, x_call1_2, x_call1_3, x_call1_4, e_k_s, e_k_i, List.nil_append, List.cons_append, x_ifCond_eq, x_ifCond_eqb, x_call2_0, x_call2_1, x_call2_2, x_call2_3, x_call2_4, x_ifCond_ne, x_ifCond_neb, x_jsr, u_184_41, u_184_43, x_isub, hf, ho3, e1, e2, e3, ↓reduceIte, b01_0, ite_not, if_true, if_false, Int.reduceLT, Int.reduceEq]
      rfl
  · rw [if_neg q] at e2
    have hq : ¬ (y.1 = true ∧ wd A n y.2.1 = 25) := fun z => q z.1
    rw [if_neg hq]
    refine ⟨I2, ?_, fun y => (by cases y), fun _ => h3 (by simpa using q)⟩
    simp (disch := omega) only [v_184_69, u_184_0, x_aload0, f_69_12, x_sipush, x_if_icmp_ne, x_zret0, x_zret1, x_zretb, u_184_10, x_dup_i, x_dup_r, x_iadd, p_69_12, x_call1_0, x_call1_1, x_call1_2, x_call1_3, x_call1_4, e_k_s, e_k_i, List.nil_append, List.cons_append, x_ifCond_eq, x_ifCond_eqb, x_call2_0, x_call2_1, x_call2_2, x_call2_3, x_call2_4, x_ifCond_ne, x_ifCond_neb, x_jsr, u_184_41, u_184_43, x_isub, hf, ho3, e1, e2, ↓reduceIte, b01_0, ite_not, if_true, if_false, Int.reduceLT, Int.reduceEq]
    rfl
/-- a condition, nothing open -/
theorem m_cond (hT : tpm M A n) : mOk X (d + 21) A n M J 181 0 (fun _ => True) (pC A n (pW A n 3)) := by
  have hn := hT.1
  have w0 : mOk X (d + 6) A n M J 184 3 (fun b => wd A n b = 24) (pW A n 0) := m_pW0
  have c0 : mOk X (d + 9) A n M J 181 3 (fun _ => True) (pC A n (pW A n 0)) := m_pC hT w0 (pW_g hn.2 0 1 (by omega))
  have w1 : mOk X (d + 4 + 6) A n M J 184 2 (fun b => wd A n b = 24) (pW A n 1) := m_pW1 (op := 2) (by decide) hT c0 (by decide)
  have c1 : mOk X (d + 4 + 9) A n M J 181 2 (fun _ => True) (pC A n (pW A n 1)) := m_pC hT w1 (pW_g hn.2 1 1 (by omega))
  have w2 : mOk X (d + 8 + 6) A n M J 184 1 (fun b => wd A n b = 24) (pW A n 2) := m_pW1 (op := 1) (by decide) hT c1 (by decide)
  have c2 : mOk X (d + 8 + 9) A n M J 181 1 (fun _ => True) (pC A n (pW A n 2)) := m_pC hT w2 (pW_g hn.2 2 1 (by omega))
  have w3 : mOk X (d + 12 + 6) A n M J 184 0 (fun b => wd A n b = 24) (pW A n 3) := m_pW1 (op := 0) (by decide) hT c2 (by decide)
  exact m_pC hT w3 (pW_g hn.2 3 1 (by omega))
end
