/-! PAIRS: act, of each place -/
theorem kp_act {I : Nat → Int → Int} {s s' : ast} {p p' kd n a i : Int} : kpE eTR I (amo (aco I s p kd n a) s' p' i) := fun o k q z => by
  unfold eTR at z
  unfold amo
  by_cases ho : o = 69
  · subst ho
    have k1 : k ≠ 37 := fun w => q (by unfold scr; omega)
    have k2 : k ≠ 38 := fun w => q (by unfold scr; omega)
    rw [if_pos rfl, if_neg (by omega), if_neg k1, if_neg k2]
    unfold aco
    rw [if_neg (by omega), if_neg (by omega)]
  · rw [if_neg ho, if_neg (by omega)]
    unfold aco
    rw [if_neg (by omega), if_neg (by omega)]
theorem TR_act {I : Nat → Int → Int} {E : List Int} {p p' kd n a i : Int} {f g : Int → Int} : TR (amo (aco I (app E (0, f)) p kd n a) (app E (0, g)) p' i) := by
  have hb := app_b E (0, f) ⟨Int.le_refl 0, (by decide : (0 : Int) ≤ 30)⟩
  have he := app_eq E (0, f) (0, g) (Int.le_refl 0) rfl (fun j j0 j1 => by have j1 : j < 0 := j1; omega)
  exact ⟨hb, he.1.symm, fun j j0 j1 => he.2 j j0 j1⟩
section
variable {X : e_X} {d : Nat} {I J : Nat → Int → Int}
theorem c_tk0 (hn6 : 0 ≤ I 1 9 ∧ I 1 9 ≤ 6) (h1 : 0 ≤ I 65 0 ∧ I 65 0 ≤ 2) (h2 : I 65 0 = 0 → rg (I 65 1)) : s_S X (d + 2) 164 [.ref 0, .ref 65] (mm I J) = some ([.int (iI (if I 65 0 = 0 ∧ ¬ (0 ≤ I 65 1 ∧ I 65 1 < I 1 9) then 2 else I 65 0))], mm I J) := by
  by_cases q1 : I 65 0 = 0
  · have e := t_has (X := X) (d := d) (I := I) (J := J) (k := I 65 1) (n := I 1 9) (h2 q1) rfl hn6
    by_cases q2 : 0 ≤ I 65 1 ∧ I 65 1 < I 1 9
    · rw [if_pos q2] at e
      rw [if_neg (fun z => z.2 q2)]
      simp (disch := omega) only [v_164_0, u_164_0, x_aload1, f_65_0, x_ifCond_ne, x_ifCond_neb, x_aload0, k_0_0, f_65_1, x_call2_0, x_call2_1, x_call2_2, x_call2_3, x_call2_4, e_k_s, e_k_i, List.nil_append, List.cons_append, x_sipush, x_ireturn, u_164_23, q1, e, ↓reduceIte, b01_0, ite_not, if_true, if_false, Int.reduceLT, Int.reduceEq]
    · rw [if_neg q2] at e
      rw [if_pos ⟨q1, q2⟩]
      simp (disch := omega) only [v_164_0, u_164_0, x_aload1, f_65_0, x_ifCond_ne, x_ifCond_neb, x_aload0, k_0_0, f_65_1, x_call2_0, x_call2_1, x_call2_2, x_call2_3, x_call2_4, e_k_s, e_k_i, List.nil_append, List.cons_append, x_sipush, x_ireturn, u_164_23, q1, e, ↓reduceIte, b01_0, ite_not, if_true, if_false, Int.reduceLT, Int.reduceEq]
  · rw [if_neg (fun z => q1 z.1)]
    simp (disch := omega) only [v_164_0, u_164_0, x_aload1, f_65_0, x_ifCond_ne, x_ifCond_neb, x_aload0, k_0_0, f_65_1, x_call2_0, x_call2_1, x_call2_2, x_call2_3, x_call2_4, e_k_s, e_k_i, List.nil_append, List.cons_append, x_sipush, x_ireturn, u_164_23, ↓reduceIte, b01_0, ite_not, if_true, if_false, Int.reduceLT, Int.reduceEq]
    rw [if_neg q1]
theorem q_act0 (h : Rel I J) {act x : Int} (ha : rg act) (hx : rg x) : pr X d I J 165 289 [.int (iI 0), .int (iI act), .int (iI x)] := by
  have hi := h.1.1
  have hn6 := hi.1
  have e6 := h.1.2.2.2.1.2.1
  have hS : (I 65 0 = 0 ∧ I 87 0 = 0 ∧ I 88 0 = I 65 1 ∧ 0 ≤ I 65 1 ∧ I 65 1 ≤ 5) ∨ (I 65 0 = 1 ∧ (0 ≤ I 65 2 ∧ I 65 2 ≤ 4) ∧ I 87 0 = 10 + I 65 2 ∧ I 88 0 = I 65 3 ∧ 0 ≤ I 65 3 ∧ I 65 3 ≤ 40) ∨ (I 65 0 = 2 ∧ I 87 0 = -1) := h.2.2.2.2.2.1 0 (by decide)
  have e1 : s_S X (d + 27 + 2) 164 [.ref 0, .ref 65] (mm (up I 55 1 0) J) = some ([.int (iI (if I 65 0 = 0 ∧ ¬ (0 ≤ I 65 1 ∧ I 65 1 < I 1 9) then 2 else I 65 0))], mm (up I 55 1 0) J) := c_tk0 (X := X) (d := d + 27) (I := up I 55 1 0) (J := J) hn6 (by show 0 ≤ I 65 0 ∧ I 65 0 ≤ 2; omega) (fun z => by have z : I 65 0 = 0 := z; show rg (I 65 1); constructor <;> omega)
  have e2 : ∀ N : Nat → Int → Int, N 1 9 = I 1 9 → N 70 6 = I 1 9 → N 87 0 = I 87 0 → N 88 0 = I 88 0 → s_S X (d + 26 + 3) 288 [.ref 69, .int (iI 0)] (mm N J) = some ([.int (iI (if I 87 0 = 0 ∧ ¬ (0 ≤ I 88 0 ∧ I 88 0 < I 1 9) then -1 else I 87 0))], mm N J) := fun N n1 n2 n3 n4 => by
    have e := m_tk (X := X) (d := d + 26) (I := N) (J := J) (q := 0) (by rw [n1]; exact hn6) (by rw [n1]; exact n2) (by decide) (by rw [n3]; constructor <;> omega) (fun z => by rw [n3] at z; rw [n4]; constructor <;> omega)
    rw [n1, n3, n4] at e
    exact e
  by_cases q : 0 ≤ act ∧ act ≤ 3
  · have bad : (I 65 0 = 0 → ¬ I 65 1 < I 1 9) → pr X d I J 165 289 [.int (iI 0), .int (iI act), .int (iI x)] := fun w => by
      obtain ⟨v, ev, v1⟩ : ∃ v : Int, (if I 65 0 = 0 ∧ ¬ (0 ≤ I 65 1 ∧ I 65 1 < I 1 9) then 2 else I 65 0) = v ∧ 1 ≤ v ∧ v ≤ 2 := by
        by_cases z : I 65 0 = 0
        · exact ⟨2, by rw [if_pos ⟨z, fun y => w z y.2⟩], by decide, by decide⟩
        · exact ⟨I 65 0, by rw [if_neg (fun y => z y.1)], by omega, by omega⟩
      obtain ⟨u, eu, u1⟩ : ∃ u : Int, (if I 87 0 = 0 ∧ ¬ (0 ≤ I 88 0 ∧ I 88 0 < I 1 9) then -1 else I 87 0) = u ∧ u ≠ 0 ∧ -1 ≤ u ∧ u ≤ 14 := by
        by_cases z : I 87 0 = 0
        · exact ⟨-1, by rw [if_pos ⟨z, fun y => w (by omega) (by omega)⟩], by decide, by decide, by decide⟩
        · exact ⟨I 87 0, by rw [if_neg (fun y => z y.1)], z, by omega, by omega⟩
      rw [ev] at e1
      have e3 := e2 (up (up I 55 1 0) 69 36 0) rfl e6 rfl rfl
      rw [eu] at e3
      refine ⟨0, up I 55 1 0, J, up (up I 55 1 0) 69 36 0, J, ?_, ?_, TR_bad h⟩
      · simp (disch := omega) only [v_165_0, u_165_0, x_aload0, k_0_8, x_sipush, p_55_1, x_iload1, x_call3_0, x_call3_1, x_call3_2, x_call3_3, x_call3_4, e_k_s, e_k_i, List.nil_append, List.cons_append, x_ifCond_ne, x_ifCond_neb, x_iload2, x_ifCond_eq, x_ifCond_eqb, x_jsr, u_165_26, x_ireturn, u_165_28, k_0_7, x_call2_0, x_call2_1, x_call2_2, x_call2_3, x_call2_4, u_165_43, f_65_1, x_istore4i, x_istore4r, x_istore4u, k_0_0, k_1_0, x_iload4, k_1_3, x_call4_0, x_call4_1, x_call4_2, x_call4_3, x_call4_4, x_iload3, ia_2, ia_5, aa_54_0, aa_54_1, aa_54_2, aa_54_3, b_in, e1, ↓reduceIte, b01_0, ite_not, if_true, if_false, Int.reduceLT, Int.reduceEq]
        (repeat' split) <;> first | rfl | (exfalso; omega)
      · simp (disch := omega) only [v_289_69, u_289_0, x_aload0, x_sipush, p_69_36, x_iload1, x_call1_0, x_call1_1, x_call1_2, x_call1_3, x_call1_4, e_k_s, e_k_i, List.nil_append, List.cons_append, x_ifCond_eq, x_ifCond_eqb, x_iload2, x_call3_0, x_call3_1, x_call3_2, x_call3_3, x_call3_4, x_call2_0, x_call2_1, x_call2_2, x_call2_3, x_call2_4, x_jsr, u_289_29, x_ireturn, u_289_31, k_69_34, p_69_37, p_69_38_0, p_69_38_1, p_69_38_b, f_69_37, x_istore4i, x_istore4r, x_istore4u, x_ifCond_ne, x_ifCond_neb, x_iload4, x_iload3, x_goto, u_289_71, x_if_icmp_ne, u_289_86, u_289_101, u_289_108, x_istore5i, x_istore5r, x_istore5u, f_69_38, u_289_122, x_iload5, u_289_124, ia_88, m_shi, m_in, e3, ↓reduceIte, b01_0, ite_not, if_true, if_false, Int.reduceLT, Int.reduceEq]
        (repeat' split) <;> first | rfl | (exfalso; omega)
    rcases hS with ⟨s1, s2, s3, s4, s5⟩ | ⟨s1, s2, s3, s4, s5, s6⟩ | ⟨s1, s2⟩
    · by_cases q2 : I 65 1 < I 1 9
      · obtain ⟨k1, k2, k3, k4⟩ := hi.2.2.2.2.2.2.1 (I 65 1) s4 q2
        obtain ⟨r1, -, -, -⟩ := h.1.2.2.2.1.2.2.1 (I 65 1) s4 q2
        rw [if_neg (by omega), s1] at e1
        obtain ⟨p, c1⟩ := c_pf (X := X) (d := d + 24) (I := I) (J := J) (s := (0, I 56)) (kd := I 2 (I 65 1)) (n := I 65 1) (a := I 5 (I 65 1)) (x := x) (act := act) k1 ⟨Int.le_refl 0, (by decide : (0 : Int) ≤ 30)⟩ ⟨s4, s5⟩ k4 q
        have g1 : up I 55 1 0 65 1 = I 65 1 := rfl
        have g2 : ∀ k, up I 55 1 0 2 k = I 2 k := fun _ => rfl
        have g5 : ∀ M k v, up (up I 55 1 0) 55 k v M = up (up I 55 1 0) 55 k v M := fun _ _ _ => rfl
        have g6 : ∀ k, up I 55 1 0 5 k = I 5 k := fun _ => rfl
        obtain ⟨p', v, c2, c3⟩ := m_act0 (X := X) (d := d) (B := aco I (app (acE act (I 2 (I 65 1)) (I 65 1) (I 5 (I 65 1))) (0, I 56)) p (I 2 (I 65 1)) (I 65 1) (I 5 (I 65 1))) (J := J) h rfl (i := I 65 1) (act := act) (x := x) ⟨s4, q2⟩ q
        generalize hN : aco I (app (acE act (I 2 (I 65 1)) (I 65 1) (I 5 (I 65 1))) (0, I 56)) p (I 2 (I 65 1)) (I 65 1) (I 5 (I 65 1)) = N at *
        have n70 : N 70 = I 70 := by rw [← hN]; rfl
        have n87 : N 87 0 = I 87 0 := by rw [← hN]; rfl
        have n88 : N 88 0 = I 88 0 := by rw [← hN]; rfl
        have e3 := e2 (up N 69 36 0) (by rw [← hN]; rfl) (by show N 70 6 = _; rw [n70]; exact e6) n87 n88
        rw [s3, if_neg (by omega), s2] at e3
        have g3 : up N 69 36 0 88 0 = I 65 1 := n88.trans s3
        have g4 : amo N (0, N 89) 0 (I 65 1) 70 (38 + 6 * I 65 1 + 0) = I 2 (I 65 1) := by
          show N 70 _ = _
          rw [n70]; exact r1
        have eg := m_get (X := X) (d := d + 28) (I := amo N (0, N 89) 0 (I 65 1)) (J := J) (k := I 65 1) (f := 0) (by omega)
        rw [g4] at eg
        refine ⟨acV act (I 2 (I 65 1)) (I 65 1) (I 5 (I 65 1)) x, N, J, amo N (app (acE act (I 2 (I 65 1)) (I 65 1) (I 5 (I 65 1))) (0, N 89)) p' (I 65 1), J, ?_, ?_, Rel_trace h (by rw [← hN]; exact kp_act) (by rw [← hN]; exact TR_act)⟩
        · simp (disch := omega) only [v_165_0, u_165_0, x_aload0, k_0_8, x_sipush, p_55_1, x_iload1, x_call3_0, x_call3_1, x_call3_2, x_call3_3, x_call3_4, e_k_s, e_k_i, List.nil_append, List.cons_append, x_ifCond_ne, x_ifCond_neb, x_iload2, x_ifCond_eq, x_ifCond_eqb, x_jsr, u_165_26, x_ireturn, u_165_28, k_0_7, x_call2_0, x_call2_1, x_call2_2, x_call2_3, x_call2_4, u_165_43, f_65_1, x_istore4i, x_istore4r, x_istore4u, k_0_0, k_1_0, x_iload4, k_1_3, x_call4_0, x_call4_1, x_call4_2, x_call4_3, x_call4_4, x_iload3, ia_2, ia_5, aa_54_0, aa_54_1, aa_54_2, aa_54_3, v_1_55, u_1_0, p_55_3, p_55_4, p_55_5, p_55_2_0, p_55_2_1, p_55_2_b, x_return, b_in, e1, g1, g2, g6, aco_new, c1, ↓reduceIte, b01_0, ite_not, if_true, if_false, Int.reduceLT, Int.reduceEq]
        · rcases (by omega : act = 0 ∨ act = 1 ∨ act = 2 ∨ act = 3) with rfl | rfl | rfl | rfl
          · have c2 : s_S X (d + 29) 290 _ _ = _ := c2
            simp (disch := omega) only [v_289_69, u_289_0, x_aload0, x_sipush, p_69_36, x_iload1, x_call1_0, x_call1_1, x_call1_2, x_call1_3, x_call1_4, e_k_s, e_k_i, List.nil_append, List.cons_append, x_ifCond_eq, x_ifCond_eqb, x_iload2, x_call3_0, x_call3_1, x_call3_2, x_call3_3, x_call3_4, x_call2_0, x_call2_1, x_call2_2, x_call2_3, x_call2_4, x_jsr, u_289_29, x_ireturn, u_289_31, k_69_34, p_69_37, p_69_38_0, p_69_38_1, p_69_38_b, f_69_37, x_istore4i, x_istore4r, x_istore4u, x_ifCond_ne, x_ifCond_neb, x_iload4, x_iload3, x_goto, u_289_71, x_if_icmp_ne, u_289_86, u_289_101, u_289_108, x_istore5i, x_istore5r, x_istore5u, f_69_38, u_289_122, x_iload5, u_289_124, ia_88, m_shi, m_in, e3, g3, amo_new, amo_2, amo_3, eg, c2, ↓reduceIte, b01_0, ite_not, if_true, if_false, Int.reduceLT, Int.reduceEq]
            rcases c3 with ⟨z, y⟩ | ⟨z, y⟩
            · rw [z, y, if_pos rfl]
            · rw [z, y, if_neg (by decide)]
          · have c2 : s_S X (d + 29) 292 _ _ = _ := c2
            simp (disch := omega) only [v_289_69, u_289_0, x_aload0, x_sipush, p_69_36, x_iload1, x_call1_0, x_call1_1, x_call1_2, x_call1_3, x_call1_4, e_k_s, e_k_i, List.nil_append, List.cons_append, x_ifCond_eq, x_ifCond_eqb, x_iload2, x_call3_0, x_call3_1, x_call3_2, x_call3_3, x_call3_4, x_call2_0, x_call2_1, x_call2_2, x_call2_3, x_call2_4, x_jsr, u_289_29, x_ireturn, u_289_31, k_69_34, p_69_37, p_69_38_0, p_69_38_1, p_69_38_b, f_69_37, x_istore4i, x_istore4r, x_istore4u, x_ifCond_ne, x_ifCond_neb, x_iload4, x_iload3, x_goto, u_289_71, x_if_icmp_ne, u_289_86, u_289_101, u_289_108, x_istore5i, x_istore5r, x_istore5u, f_69_38, u_289_122, x_iload5, u_289_124, ia_88, m_shi, m_in, e3, g3, amo_new, amo_2, amo_3, eg, c2, ↓reduceIte, b01_0, ite_not, if_true, if_false, Int.reduceLT, Int.reduceEq]
            rcases c3 with ⟨z, y⟩ | ⟨z, y⟩
            · rw [z, y, if_pos rfl]
            · rw [z, y, if_neg (by decide)]
          · have c2 : s_S X (d + 29) 293 _ _ = _ := c2
            simp (disch := omega) only [v_289_69, u_289_0, x_aload0, x_sipush, p_69_36, x_iload1, x_call1_0, x_call1_1, x_call1_2, x_call1_3, x_call1_4, e_k_s, e_k_i, List.nil_append, List.cons_append, x_ifCond_eq, x_ifCond_eqb, x_iload2, x_call3_0, x_call3_1, x_call3_2, x_call3_3, x_call3_4, x_call2_0, x_call2_1, x_call2_2, x_call2_3, x_call2_4, x_jsr, u_289_29, x_ireturn, u_289_31, k_69_34, p_69_37, p_69_38_0, p_69_38_1, p_69_38_b, f_69_37, x_istore4i, x_istore4r, x_istore4u, x_ifCond_ne, x_ifCond_neb, x_iload4, x_iload3, x_goto, u_289_71, x_if_icmp_ne, u_289_86, u_289_101, u_289_108, x_istore5i, x_istore5r, x_istore5u, f_69_38, u_289_122, x_iload5, u_289_124, ia_88, m_shi, m_in, e3, g3, amo_new, amo_2, amo_3, eg, c2, ↓reduceIte, b01_0, ite_not, if_true, if_false, Int.reduceLT, Int.reduceEq]
            rcases c3 with ⟨z, y⟩ | ⟨z, y⟩
            · rw [z, y, if_pos rfl]
            · rw [z, y, if_neg (by decide)]
          · have c2 : s_S X (d + 29) 294 _ _ = _ := c2
            simp (disch := omega) only [v_289_69, u_289_0, x_aload0, x_sipush, p_69_36, x_iload1, x_call1_0, x_call1_1, x_call1_2, x_call1_3, x_call1_4, e_k_s, e_k_i, List.nil_append, List.cons_append, x_ifCond_eq, x_ifCond_eqb, x_iload2, x_call3_0, x_call3_1, x_call3_2, x_call3_3, x_call3_4, x_call2_0, x_call2_1, x_call2_2, x_call2_3, x_call2_4, x_jsr, u_289_29, x_ireturn, u_289_31, k_69_34, p_69_37, p_69_38_0, p_69_38_1, p_69_38_b, f_69_37, x_istore4i, x_istore4r, x_istore4u, x_ifCond_ne, x_ifCond_neb, x_iload4, x_iload3, x_goto, u_289_71, x_if_icmp_ne, u_289_86, u_289_101, u_289_108, x_istore5i, x_istore5r, x_istore5u, f_69_38, u_289_122, x_iload5, u_289_124, ia_88, m_shi, m_in, e3, g3, amo_new, amo_2, amo_3, eg, c2, ↓reduceIte, b01_0, ite_not, if_true, if_false, Int.reduceLT, Int.reduceEq]
            rcases c3 with ⟨z, y⟩ | ⟨z, y⟩
            · rw [z, y, if_pos rfl]
            · rw [z, y, if_neg (by decide)]
      · exact bad (fun _ => q2)
    · exact bad (fun z => by omega)
    · exact bad (fun z => by omega)
  · refine ⟨0, up I 55 1 0, J, up (up I 55 1 0) 69 36 0, J, ?_, ?_, TR_bad h⟩
    · simp (disch := omega) only [v_165_0, u_165_0, x_aload0, k_0_8, x_sipush, p_55_1, x_iload1, x_call3_0, x_call3_1, x_call3_2, x_call3_3, x_call3_4, e_k_s, e_k_i, List.nil_append, List.cons_append, x_ifCond_ne, x_ifCond_neb, x_iload2, x_ifCond_eq, x_ifCond_eqb, x_jsr, u_165_26, x_ireturn, u_165_28, k_0_7, x_call2_0, x_call2_1, x_call2_2, x_call2_3, x_call2_4, u_165_43, f_65_1, x_istore4i, x_istore4r, x_istore4u, k_0_0, k_1_0, x_iload4, k_1_3, x_call4_0, x_call4_1, x_call4_2, x_call4_3, x_call4_4, x_iload3, ia_2, ia_5, aa_54_0, aa_54_1, aa_54_2, aa_54_3, b_in, b_nin, ↓reduceIte, b01_0, ite_not, if_true, if_false, Int.reduceLT, Int.reduceEq]
    · simp (disch := omega) only [v_289_69, u_289_0, x_aload0, x_sipush, p_69_36, x_iload1, x_call1_0, x_call1_1, x_call1_2, x_call1_3, x_call1_4, e_k_s, e_k_i, List.nil_append, List.cons_append, x_ifCond_eq, x_ifCond_eqb, x_iload2, x_call3_0, x_call3_1, x_call3_2, x_call3_3, x_call3_4, x_call2_0, x_call2_1, x_call2_2, x_call2_3, x_call2_4, x_jsr, u_289_29, x_ireturn, u_289_31, k_69_34, p_69_37, p_69_38_0, p_69_38_1, p_69_38_b, f_69_37, x_istore4i, x_istore4r, x_istore4u, x_ifCond_ne, x_ifCond_neb, x_iload4, x_iload3, x_goto, u_289_71, x_if_icmp_ne, u_289_86, u_289_101, u_289_108, x_istore5i, x_istore5r, x_istore5u, f_69_38, u_289_122, x_iload5, u_289_124, ia_88, m_shi, m_nin, ↓reduceIte, b01_0, ite_not, if_true, if_false, Int.reduceLT, Int.reduceEq]
theorem c_tk1 (hn6 : 0 ≤ I 1 9 ∧ I 1 9 ≤ 6) (h1 : 0 ≤ I 66 0 ∧ I 66 0 ≤ 2) (h2 : I 66 0 = 0 → rg (I 66 1)) : s_S X (d + 2) 164 [.ref 0, .ref 66] (mm I J) = some ([.int (iI (if I 66 0 = 0 ∧ ¬ (0 ≤ I 66 1 ∧ I 66 1 < I 1 9) then 2 else I 66 0))], mm I J) := by
  by_cases q1 : I 66 0 = 0
  · have e := t_has (X := X) (d := d) (I := I) (J := J) (k := I 66 1) (n := I 1 9) (h2 q1) rfl hn6
    by_cases q2 : 0 ≤ I 66 1 ∧ I 66 1 < I 1 9
    · rw [if_pos q2] at e
      rw [if_neg (fun z => z.2 q2)]
      simp (disch := omega) only [v_164_0, u_164_0, x_aload1, f_66_0, x_ifCond_ne, x_ifCond_neb, x_aload0, k_0_0, f_66_1, x_call2_0, x_call2_1, x_call2_2, x_call2_3, x_call2_4, e_k_s, e_k_i, List.nil_append, List.cons_append, x_sipush, x_ireturn, u_164_23, q1, e, ↓reduceIte, b01_0, ite_not, if_true, if_false, Int.reduceLT, Int.reduceEq]
    · rw [if_neg q2] at e
      rw [if_pos ⟨q1, q2⟩]
      simp (disch := omega) only [v_164_0, u_164_0, x_aload1, f_66_0, x_ifCond_ne, x_ifCond_neb, x_aload0, k_0_0, f_66_1, x_call2_0, x_call2_1, x_call2_2, x_call2_3, x_call2_4, e_k_s, e_k_i, List.nil_append, List.cons_append, x_sipush, x_ireturn, u_164_23, q1, e, ↓reduceIte, b01_0, ite_not, if_true, if_false, Int.reduceLT, Int.reduceEq]
  · rw [if_neg (fun z => q1 z.1)]
    simp (disch := omega) only [v_164_0, u_164_0, x_aload1, f_66_0, x_ifCond_ne, x_ifCond_neb, x_aload0, k_0_0, f_66_1, x_call2_0, x_call2_1, x_call2_2, x_call2_3, x_call2_4, e_k_s, e_k_i, List.nil_append, List.cons_append, x_sipush, x_ireturn, u_164_23, ↓reduceIte, b01_0, ite_not, if_true, if_false, Int.reduceLT, Int.reduceEq]
    rw [if_neg q1]
theorem q_act1 (h : Rel I J) {act x : Int} (ha : rg act) (hx : rg x) : pr X d I J 165 289 [.int (iI 1), .int (iI act), .int (iI x)] := by
  have hi := h.1.1
  have hn6 := hi.1
  have e6 := h.1.2.2.2.1.2.1
  have hS : (I 66 0 = 0 ∧ I 87 1 = 0 ∧ I 88 1 = I 66 1 ∧ 0 ≤ I 66 1 ∧ I 66 1 ≤ 5) ∨ (I 66 0 = 1 ∧ (0 ≤ I 66 2 ∧ I 66 2 ≤ 4) ∧ I 87 1 = 10 + I 66 2 ∧ I 88 1 = I 66 3 ∧ 0 ≤ I 66 3 ∧ I 66 3 ≤ 40) ∨ (I 66 0 = 2 ∧ I 87 1 = -1) := h.2.2.2.2.2.1 1 (by decide)
  have e1 : s_S X (d + 27 + 2) 164 [.ref 0, .ref 66] (mm (up I 55 1 0) J) = some ([.int (iI (if I 66 0 = 0 ∧ ¬ (0 ≤ I 66 1 ∧ I 66 1 < I 1 9) then 2 else I 66 0))], mm (up I 55 1 0) J) := c_tk1 (X := X) (d := d + 27) (I := up I 55 1 0) (J := J) hn6 (by show 0 ≤ I 66 0 ∧ I 66 0 ≤ 2; omega) (fun z => by have z : I 66 0 = 0 := z; show rg (I 66 1); constructor <;> omega)
  have e2 : ∀ N : Nat → Int → Int, N 1 9 = I 1 9 → N 70 6 = I 1 9 → N 87 1 = I 87 1 → N 88 1 = I 88 1 → s_S X (d + 26 + 3) 288 [.ref 69, .int (iI 1)] (mm N J) = some ([.int (iI (if I 87 1 = 0 ∧ ¬ (0 ≤ I 88 1 ∧ I 88 1 < I 1 9) then -1 else I 87 1))], mm N J) := fun N n1 n2 n3 n4 => by
    have e := m_tk (X := X) (d := d + 26) (I := N) (J := J) (q := 1) (by rw [n1]; exact hn6) (by rw [n1]; exact n2) (by decide) (by rw [n3]; constructor <;> omega) (fun z => by rw [n3] at z; rw [n4]; constructor <;> omega)
    rw [n1, n3, n4] at e
    exact e
  by_cases q : 0 ≤ act ∧ act ≤ 3
  · have bad : (I 66 0 = 0 → ¬ I 66 1 < I 1 9) → pr X d I J 165 289 [.int (iI 1), .int (iI act), .int (iI x)] := fun w => by
      obtain ⟨v, ev, v1⟩ : ∃ v : Int, (if I 66 0 = 0 ∧ ¬ (0 ≤ I 66 1 ∧ I 66 1 < I 1 9) then 2 else I 66 0) = v ∧ 1 ≤ v ∧ v ≤ 2 := by
        by_cases z : I 66 0 = 0
        · exact ⟨2, by rw [if_pos ⟨z, fun y => w z y.2⟩], by decide, by decide⟩
        · exact ⟨I 66 0, by rw [if_neg (fun y => z y.1)], by omega, by omega⟩
      obtain ⟨u, eu, u1⟩ : ∃ u : Int, (if I 87 1 = 0 ∧ ¬ (0 ≤ I 88 1 ∧ I 88 1 < I 1 9) then -1 else I 87 1) = u ∧ u ≠ 0 ∧ -1 ≤ u ∧ u ≤ 14 := by
        by_cases z : I 87 1 = 0
        · exact ⟨-1, by rw [if_pos ⟨z, fun y => w (by omega) (by omega)⟩], by decide, by decide, by decide⟩
        · exact ⟨I 87 1, by rw [if_neg (fun y => z y.1)], z, by omega, by omega⟩
      rw [ev] at e1
      have e3 := e2 (up (up I 55 1 0) 69 36 0) rfl e6 rfl rfl
      rw [eu] at e3
      refine ⟨0, up I 55 1 0, J, up (up I 55 1 0) 69 36 0, J, ?_, ?_, TR_bad h⟩
      · simp (disch := omega) only [v_165_0, u_165_0, x_aload0, k_0_8, x_sipush, p_55_1, x_iload1, x_call3_0, x_call3_1, x_call3_2, x_call3_3, x_call3_4, e_k_s, e_k_i, List.nil_append, List.cons_append, x_ifCond_ne, x_ifCond_neb, x_iload2, x_ifCond_eq, x_ifCond_eqb, x_jsr, u_165_26, x_ireturn, u_165_28, k_0_7, x_call2_0, x_call2_1, x_call2_2, x_call2_3, x_call2_4, u_165_43, f_66_1, x_istore4i, x_istore4r, x_istore4u, k_0_0, k_1_0, x_iload4, k_1_3, x_call4_0, x_call4_1, x_call4_2, x_call4_3, x_call4_4, x_iload3, ia_2, ia_5, aa_54_0, aa_54_1, aa_54_2, aa_54_3, b_in, e1, ↓reduceIte, b01_0, ite_not, if_true, if_false, Int.reduceLT, Int.reduceEq]
        (repeat' split) <;> first | rfl | (exfalso; omega)
      · simp (disch := omega) only [v_289_69, u_289_0, x_aload0, x_sipush, p_69_36, x_iload1, x_call1_0, x_call1_1, x_call1_2, x_call1_3, x_call1_4, e_k_s, e_k_i, List.nil_append, List.cons_append, x_ifCond_eq, x_ifCond_eqb, x_iload2, x_call3_0, x_call3_1, x_call3_2, x_call3_3, x_call3_4, x_call2_0, x_call2_1, x_call2_2, x_call2_3, x_call2_4, x_jsr, u_289_29, x_ireturn, u_289_31, k_69_34, p_69_37, p_69_38_0, p_69_38_1, p_69_38_b, f_69_37, x_istore4i, x_istore4r, x_istore4u, x_ifCond_ne, x_ifCond_neb, x_iload4, x_iload3, x_goto, u_289_71, x_if_icmp_ne, u_289_86, u_289_101, u_289_108, x_istore5i, x_istore5r, x_istore5u, f_69_38, u_289_122, x_iload5, u_289_124, ia_88, m_shi, m_in, e3, ↓reduceIte, b01_0, ite_not, if_true, if_false, Int.reduceLT, Int.reduceEq]
        (repeat' split) <;> first | rfl | (exfalso; omega)
    rcases hS with ⟨s1, s2, s3, s4, s5⟩ | ⟨s1, s2, s3, s4, s5, s6⟩ | ⟨s1, s2⟩
    · by_cases q2 : I 66 1 < I 1 9
      · obtain ⟨k1, k2, k3, k4⟩ := hi.2.2.2.2.2.2.1 (I 66 1) s4 q2
        obtain ⟨r1, -, -, -⟩ := h.1.2.2.2.1.2.2.1 (I 66 1) s4 q2
        rw [if_neg (by omega), s1] at e1
        obtain ⟨p, c1⟩ := c_pf (X := X) (d := d + 24) (I := I) (J := J) (s := (0, I 56)) (kd := I 2 (I 66 1)) (n := I 66 1) (a := I 5 (I 66 1)) (x := x) (act := act) k1 ⟨Int.le_refl 0, (by decide : (0 : Int) ≤ 30)⟩ ⟨s4, s5⟩ k4 q
        have g1 : up I 55 1 0 66 1 = I 66 1 := rfl
        have g2 : ∀ k, up I 55 1 0 2 k = I 2 k := fun _ => rfl
        have g5 : ∀ M k v, up (up I 55 1 0) 55 k v M = up (up I 55 1 0) 55 k v M := fun _ _ _ => rfl
        have g6 : ∀ k, up I 55 1 0 5 k = I 5 k := fun _ => rfl
        obtain ⟨p', v, c2, c3⟩ := m_act0 (X := X) (d := d) (B := aco I (app (acE act (I 2 (I 66 1)) (I 66 1) (I 5 (I 66 1))) (0, I 56)) p (I 2 (I 66 1)) (I 66 1) (I 5 (I 66 1))) (J := J) h rfl (i := I 66 1) (act := act) (x := x) ⟨s4, q2⟩ q
        generalize hN : aco I (app (acE act (I 2 (I 66 1)) (I 66 1) (I 5 (I 66 1))) (0, I 56)) p (I 2 (I 66 1)) (I 66 1) (I 5 (I 66 1)) = N at *
        have n70 : N 70 = I 70 := by rw [← hN]; rfl
        have n87 : N 87 1 = I 87 1 := by rw [← hN]; rfl
        have n88 : N 88 1 = I 88 1 := by rw [← hN]; rfl
        have e3 := e2 (up N 69 36 0) (by rw [← hN]; rfl) (by show N 70 6 = _; rw [n70]; exact e6) n87 n88
        rw [s3, if_neg (by omega), s2] at e3
        have g3 : up N 69 36 0 88 1 = I 66 1 := n88.trans s3
        have g4 : amo N (0, N 89) 0 (I 66 1) 70 (38 + 6 * I 66 1 + 0) = I 2 (I 66 1) := by
          show N 70 _ = _
          rw [n70]; exact r1
        have eg := m_get (X := X) (d := d + 28) (I := amo N (0, N 89) 0 (I 66 1)) (J := J) (k := I 66 1) (f := 0) (by omega)
        rw [g4] at eg
        refine ⟨acV act (I 2 (I 66 1)) (I 66 1) (I 5 (I 66 1)) x, N, J, amo N (app (acE act (I 2 (I 66 1)) (I 66 1) (I 5 (I 66 1))) (0, N 89)) p' (I 66 1), J, ?_, ?_, Rel_trace h (by rw [← hN]; exact kp_act) (by rw [← hN]; exact TR_act)⟩
        · simp (disch := omega) only [v_165_0, u_165_0, x_aload0, k_0_8, x_sipush, p_55_1, x_iload1, x_call3_0, x_call3_1, x_call3_2, x_call3_3, x_call3_4, e_k_s, e_k_i, List.nil_append, List.cons_append, x_ifCond_ne, x_ifCond_neb, x_iload2, x_ifCond_eq, x_ifCond_eqb, x_jsr, u_165_26, x_ireturn, u_165_28, k_0_7, x_call2_0, x_call2_1, x_call2_2, x_call2_3, x_call2_4, u_165_43, f_66_1, x_istore4i, x_istore4r, x_istore4u, k_0_0, k_1_0, x_iload4, k_1_3, x_call4_0, x_call4_1, x_call4_2, x_call4_3, x_call4_4, x_iload3, ia_2, ia_5, aa_54_0, aa_54_1, aa_54_2, aa_54_3, v_1_55, u_1_0, p_55_3, p_55_4, p_55_5, p_55_2_0, p_55_2_1, p_55_2_b, x_return, b_in, e1, g1, g2, g6, aco_new, c1, ↓reduceIte, b01_0, ite_not, if_true, if_false, Int.reduceLT, Int.reduceEq]
        · rcases (by omega : act = 0 ∨ act = 1 ∨ act = 2 ∨ act = 3) with rfl | rfl | rfl | rfl
          · have c2 : s_S X (d + 29) 290 _ _ = _ := c2
            simp (disch := omega) only [v_289_69, u_289_0, x_aload0, x_sipush, p_69_36, x_iload1, x_call1_0, x_call1_1, x_call1_2, x_call1_3, x_call1_4, e_k_s, e_k_i, List.nil_append, List.cons_append, x_ifCond_eq, x_ifCond_eqb, x_iload2, x_call3_0, x_call3_1, x_call3_2, x_call3_3, x_call3_4, x_call2_0, x_call2_1, x_call2_2, x_call2_3, x_call2_4, x_jsr, u_289_29, x_ireturn, u_289_31, k_69_34, p_69_37, p_69_38_0, p_69_38_1, p_69_38_b, f_69_37, x_istore4i, x_istore4r, x_istore4u, x_ifCond_ne, x_ifCond_neb, x_iload4, x_iload3, x_goto, u_289_71, x_if_icmp_ne, u_289_86, u_289_101, u_289_108, x_istore5i, x_istore5r, x_istore5u, f_69_38, u_289_122, x_iload5, u_289_124, ia_88, m_shi, m_in, e3, g3, amo_new, amo_2, amo_3, eg, c2, ↓reduceIte, b01_0, ite_not, if_true, if_false, Int.reduceLT, Int.reduceEq]
            rcases c3 with ⟨z, y⟩ | ⟨z, y⟩
            · rw [z, y, if_pos rfl]
            · rw [z, y, if_neg (by decide)]
          · have c2 : s_S X (d + 29) 292 _ _ = _ := c2
            simp (disch := omega) only [v_289_69, u_289_0, x_aload0, x_sipush, p_69_36, x_iload1, x_call1_0, x_call1_1, x_call1_2, x_call1_3, x_call1_4, e_k_s, e_k_i, List.nil_append, List.cons_append, x_ifCond_eq, x_ifCond_eqb, x_iload2, x_call3_0, x_call3_1, x_call3_2, x_call3_3, x_call3_4, x_call2_0, x_call2_1, x_call2_2, x_call2_3, x_call2_4, x_jsr, u_289_29, x_ireturn, u_289_31, k_69_34, p_69_37, p_69_38_0, p_69_38_1, p_69_38_b, f_69_37, x_istore4i, x_istore4r, x_istore4u, x_ifCond_ne, x_ifCond_neb, x_iload4, x_iload3, x_goto, u_289_71, x_if_icmp_ne, u_289_86, u_289_101, u_289_108, x_istore5i, x_istore5r, x_istore5u, f_69_38, u_289_122, x_iload5, u_289_124, ia_88, m_shi, m_in, e3, g3, amo_new, amo_2, amo_3, eg, c2, ↓reduceIte, b01_0, ite_not, if_true, if_false, Int.reduceLT, Int.reduceEq]
            rcases c3 with ⟨z, y⟩ | ⟨z, y⟩
            · rw [z, y, if_pos rfl]
            · rw [z, y, if_neg (by decide)]
          · have c2 : s_S X (d + 29) 293 _ _ = _ := c2
            simp (disch := omega) only [v_289_69, u_289_0, x_aload0, x_sipush, p_69_36, x_iload1, x_call1_0, x_call1_1, x_call1_2, x_call1_3, x_call1_4, e_k_s, e_k_i, List.nil_append, List.cons_append, x_ifCond_eq, x_ifCond_eqb, x_iload2, x_call3_0, x_call3_1, x_call3_2, x_call3_3, x_call3_4, x_call2_0, x_call2_1, x_call2_2, x_call2_3, x_call2_4, x_jsr, u_289_29, x_ireturn, u_289_31, k_69_34, p_69_37, p_69_38_0, p_69_38_1, p_69_38_b, f_69_37, x_istore4i, x_istore4r, x_istore4u, x_ifCond_ne, x_ifCond_neb, x_iload4, x_iload3, x_goto, u_289_71, x_if_icmp_ne, u_289_86, u_289_101, u_289_108, x_istore5i, x_istore5r, x_istore5u, f_69_38, u_289_122, x_iload5, u_289_124, ia_88, m_shi, m_in, e3, g3, amo_new, amo_2, amo_3, eg, c2, ↓reduceIte, b01_0, ite_not, if_true, if_false, Int.reduceLT, Int.reduceEq]
            rcases c3 with ⟨z, y⟩ | ⟨z, y⟩
            · rw [z, y, if_pos rfl]
            · rw [z, y, if_neg (by decide)]
          · have c2 : s_S X (d + 29) 294 _ _ = _ := c2
            simp (disch := omega) only [v_289_69, u_289_0, x_aload0, x_sipush, p_69_36, x_iload1, x_call1_0, x_call1_1, x_call1_2, x_call1_3, x_call1_4, e_k_s, e_k_i, List.nil_append, List.cons_append, x_ifCond_eq, x_ifCond_eqb, x_iload2, x_call3_0, x_call3_1, x_call3_2, x_call3_3, x_call3_4, x_call2_0, x_call2_1, x_call2_2, x_call2_3, x_call2_4, x_jsr, u_289_29, x_ireturn, u_289_31, k_69_34, p_69_37, p_69_38_0, p_69_38_1, p_69_38_b, f_69_37, x_istore4i, x_istore4r, x_istore4u, x_ifCond_ne, x_ifCond_neb, x_iload4, x_iload3, x_goto, u_289_71, x_if_icmp_ne, u_289_86, u_289_101, u_289_108, x_istore5i, x_istore5r, x_istore5u, f_69_38, u_289_122, x_iload5, u_289_124, ia_88, m_shi, m_in, e3, g3, amo_new, amo_2, amo_3, eg, c2, ↓reduceIte, b01_0, ite_not, if_true, if_false, Int.reduceLT, Int.reduceEq]
            rcases c3 with ⟨z, y⟩ | ⟨z, y⟩
            · rw [z, y, if_pos rfl]
            · rw [z, y, if_neg (by decide)]
      · exact bad (fun _ => q2)
    · exact bad (fun z => by omega)
    · exact bad (fun z => by omega)
  · refine ⟨0, up I 55 1 0, J, up (up I 55 1 0) 69 36 0, J, ?_, ?_, TR_bad h⟩
    · simp (disch := omega) only [v_165_0, u_165_0, x_aload0, k_0_8, x_sipush, p_55_1, x_iload1, x_call3_0, x_call3_1, x_call3_2, x_call3_3, x_call3_4, e_k_s, e_k_i, List.nil_append, List.cons_append, x_ifCond_ne, x_ifCond_neb, x_iload2, x_ifCond_eq, x_ifCond_eqb, x_jsr, u_165_26, x_ireturn, u_165_28, k_0_7, x_call2_0, x_call2_1, x_call2_2, x_call2_3, x_call2_4, u_165_43, f_66_1, x_istore4i, x_istore4r, x_istore4u, k_0_0, k_1_0, x_iload4, k_1_3, x_call4_0, x_call4_1, x_call4_2, x_call4_3, x_call4_4, x_iload3, ia_2, ia_5, aa_54_0, aa_54_1, aa_54_2, aa_54_3, b_in, b_nin, ↓reduceIte, b01_0, ite_not, if_true, if_false, Int.reduceLT, Int.reduceEq]
    · simp (disch := omega) only [v_289_69, u_289_0, x_aload0, x_sipush, p_69_36, x_iload1, x_call1_0, x_call1_1, x_call1_2, x_call1_3, x_call1_4, e_k_s, e_k_i, List.nil_append, List.cons_append, x_ifCond_eq, x_ifCond_eqb, x_iload2, x_call3_0, x_call3_1, x_call3_2, x_call3_3, x_call3_4, x_call2_0, x_call2_1, x_call2_2, x_call2_3, x_call2_4, x_jsr, u_289_29, x_ireturn, u_289_31, k_69_34, p_69_37, p_69_38_0, p_69_38_1, p_69_38_b, f_69_37, x_istore4i, x_istore4r, x_istore4u, x_ifCond_ne, x_ifCond_neb, x_iload4, x_iload3, x_goto, u_289_71, x_if_icmp_ne, u_289_86, u_289_101, u_289_108, x_istore5i, x_istore5r, x_istore5u, f_69_38, u_289_122, x_iload5, u_289_124, ia_88, m_shi, m_nin, ↓reduceIte, b01_0, ite_not, if_true, if_false, Int.reduceLT, Int.reduceEq]
theorem c_tk2 (hn6 : 0 ≤ I 1 9 ∧ I 1 9 ≤ 6) (h1 : 0 ≤ I 67 0 ∧ I 67 0 ≤ 2) (h2 : I 67 0 = 0 → rg (I 67 1)) : s_S X (d + 2) 164 [.ref 0, .ref 67] (mm I J) = some ([.int (iI (if I 67 0 = 0 ∧ ¬ (0 ≤ I 67 1 ∧ I 67 1 < I 1 9) then 2 else I 67 0))], mm I J) := by
  by_cases q1 : I 67 0 = 0
  · have e := t_has (X := X) (d := d) (I := I) (J := J) (k := I 67 1) (n := I 1 9) (h2 q1) rfl hn6
    by_cases q2 : 0 ≤ I 67 1 ∧ I 67 1 < I 1 9
    · rw [if_pos q2] at e
      rw [if_neg (fun z => z.2 q2)]
      simp (disch := omega) only [v_164_0, u_164_0, x_aload1, f_67_0, x_ifCond_ne, x_ifCond_neb, x_aload0, k_0_0, f_67_1, x_call2_0, x_call2_1, x_call2_2, x_call2_3, x_call2_4, e_k_s, e_k_i, List.nil_append, List.cons_append, x_sipush, x_ireturn, u_164_23, q1, e, ↓reduceIte, b01_0, ite_not, if_true, if_false, Int.reduceLT, Int.reduceEq]
    · rw [if_neg q2] at e
      rw [if_pos ⟨q1, q2⟩]
      simp (disch := omega) only [v_164_0, u_164_0, x_aload1, f_67_0, x_ifCond_ne, x_ifCond_neb, x_aload0, k_0_0, f_67_1, x_call2_0, x_call2_1, x_call2_2, x_call2_3, x_call2_4, e_k_s, e_k_i, List.nil_append, List.cons_append, x_sipush, x_ireturn, u_164_23, q1, e, ↓reduceIte, b01_0, ite_not, if_true, if_false, Int.reduceLT, Int.reduceEq]
  · rw [if_neg (fun z => q1 z.1)]
    simp (disch := omega) only [v_164_0, u_164_0, x_aload1, f_67_0, x_ifCond_ne, x_ifCond_neb, x_aload0, k_0_0, f_67_1, x_call2_0, x_call2_1, x_call2_2, x_call2_3, x_call2_4, e_k_s, e_k_i, List.nil_append, List.cons_append, x_sipush, x_ireturn, u_164_23, ↓reduceIte, b01_0, ite_not, if_true, if_false, Int.reduceLT, Int.reduceEq]
    rw [if_neg q1]
theorem q_act2 (h : Rel I J) {act x : Int} (ha : rg act) (hx : rg x) : pr X d I J 165 289 [.int (iI 2), .int (iI act), .int (iI x)] := by
  have hi := h.1.1
  have hn6 := hi.1
  have e6 := h.1.2.2.2.1.2.1
  have hS : (I 67 0 = 0 ∧ I 87 2 = 0 ∧ I 88 2 = I 67 1 ∧ 0 ≤ I 67 1 ∧ I 67 1 ≤ 5) ∨ (I 67 0 = 1 ∧ (0 ≤ I 67 2 ∧ I 67 2 ≤ 4) ∧ I 87 2 = 10 + I 67 2 ∧ I 88 2 = I 67 3 ∧ 0 ≤ I 67 3 ∧ I 67 3 ≤ 40) ∨ (I 67 0 = 2 ∧ I 87 2 = -1) := h.2.2.2.2.2.1 2 (by decide)
  have e1 : s_S X (d + 27 + 2) 164 [.ref 0, .ref 67] (mm (up I 55 1 0) J) = some ([.int (iI (if I 67 0 = 0 ∧ ¬ (0 ≤ I 67 1 ∧ I 67 1 < I 1 9) then 2 else I 67 0))], mm (up I 55 1 0) J) := c_tk2 (X := X) (d := d + 27) (I := up I 55 1 0) (J := J) hn6 (by show 0 ≤ I 67 0 ∧ I 67 0 ≤ 2; omega) (fun z => by have z : I 67 0 = 0 := z; show rg (I 67 1); constructor <;> omega)
  have e2 : ∀ N : Nat → Int → Int, N 1 9 = I 1 9 → N 70 6 = I 1 9 → N 87 2 = I 87 2 → N 88 2 = I 88 2 → s_S X (d + 26 + 3) 288 [.ref 69, .int (iI 2)] (mm N J) = some ([.int (iI (if I 87 2 = 0 ∧ ¬ (0 ≤ I 88 2 ∧ I 88 2 < I 1 9) then -1 else I 87 2))], mm N J) := fun N n1 n2 n3 n4 => by
    have e := m_tk (X := X) (d := d + 26) (I := N) (J := J) (q := 2) (by rw [n1]; exact hn6) (by rw [n1]; exact n2) (by decide) (by rw [n3]; constructor <;> omega) (fun z => by rw [n3] at z; rw [n4]; constructor <;> omega)
    rw [n1, n3, n4] at e
    exact e
  by_cases q : 0 ≤ act ∧ act ≤ 3
  · have bad : (I 67 0 = 0 → ¬ I 67 1 < I 1 9) → pr X d I J 165 289 [.int (iI 2), .int (iI act), .int (iI x)] := fun w => by
      obtain ⟨v, ev, v1⟩ : ∃ v : Int, (if I 67 0 = 0 ∧ ¬ (0 ≤ I 67 1 ∧ I 67 1 < I 1 9) then 2 else I 67 0) = v ∧ 1 ≤ v ∧ v ≤ 2 := by
        by_cases z : I 67 0 = 0
        · exact ⟨2, by rw [if_pos ⟨z, fun y => w z y.2⟩], by decide, by decide⟩
        · exact ⟨I 67 0, by rw [if_neg (fun y => z y.1)], by omega, by omega⟩
      obtain ⟨u, eu, u1⟩ : ∃ u : Int, (if I 87 2 = 0 ∧ ¬ (0 ≤ I 88 2 ∧ I 88 2 < I 1 9) then -1 else I 87 2) = u ∧ u ≠ 0 ∧ -1 ≤ u ∧ u ≤ 14 := by
        by_cases z : I 87 2 = 0
        · exact ⟨-1, by rw [if_pos ⟨z, fun y => w (by omega) (by omega)⟩], by decide, by decide, by decide⟩
        · exact ⟨I 87 2, by rw [if_neg (fun y => z y.1)], z, by omega, by omega⟩
      rw [ev] at e1
      have e3 := e2 (up (up I 55 1 0) 69 36 0) rfl e6 rfl rfl
      rw [eu] at e3
      refine ⟨0, up I 55 1 0, J, up (up I 55 1 0) 69 36 0, J, ?_, ?_, TR_bad h⟩
      · simp (disch := omega) only [v_165_0, u_165_0, x_aload0, k_0_8, x_sipush, p_55_1, x_iload1, x_call3_0, x_call3_1, x_call3_2, x_call3_3, x_call3_4, e_k_s, e_k_i, List.nil_append, List.cons_append, x_ifCond_ne, x_ifCond_neb, x_iload2, x_ifCond_eq, x_ifCond_eqb, x_jsr, u_165_26, x_ireturn, u_165_28, k_0_7, x_call2_0, x_call2_1, x_call2_2, x_call2_3, x_call2_4, u_165_43, f_67_1, x_istore4i, x_istore4r, x_istore4u, k_0_0, k_1_0, x_iload4, k_1_3, x_call4_0, x_call4_1, x_call4_2, x_call4_3, x_call4_4, x_iload3, ia_2, ia_5, aa_54_0, aa_54_1, aa_54_2, aa_54_3, b_in, e1, ↓reduceIte, b01_0, ite_not, if_true, if_false, Int.reduceLT, Int.reduceEq]
        (repeat' split) <;> first | rfl | (exfalso; omega)
      · simp (disch := omega) only [v_289_69, u_289_0, x_aload0, x_sipush, p_69_36, x_iload1, x_call1_0, x_call1_1, x_call1_2, x_call1_3, x_call1_4, e_k_s, e_k_i, List.nil_append, List.cons_append, x_ifCond_eq, x_ifCond_eqb, x_iload2, x_call3_0, x_call3_1, x_call3_2, x_call3_3, x_call3_4, x_call2_0, x_call2_1, x_call2_2, x_call2_3, x_call2_4, x_jsr, u_289_29, x_ireturn, u_289_31, k_69_34, p_69_37, p_69_38_0, p_69_38_1, p_69_38_b, f_69_37, x_istore4i, x_istore4r, x_istore4u, x_ifCond_ne, x_ifCond_neb, x_iload4, x_iload3, x_goto, u_289_71, x_if_icmp_ne, u_289_86, u_289_101, u_289_108, x_istore5i, x_istore5r, x_istore5u, f_69_38, u_289_122, x_iload5, u_289_124, ia_88, m_shi, m_in, e3, ↓reduceIte, b01_0, ite_not, if_true, if_false, Int.reduceLT, Int.reduceEq]
        (repeat' split) <;> first | rfl | (exfalso; omega)
    rcases hS with ⟨s1, s2, s3, s4, s5⟩ | ⟨s1, s2, s3, s4, s5, s6⟩ | ⟨s1, s2⟩
    · by_cases q2 : I 67 1 < I 1 9
      · obtain ⟨k1, k2, k3, k4⟩ := hi.2.2.2.2.2.2.1 (I 67 1) s4 q2
        obtain ⟨r1, -, -, -⟩ := h.1.2.2.2.1.2.2.1 (I 67 1) s4 q2
        rw [if_neg (by omega), s1] at e1
        obtain ⟨p, c1⟩ := c_pf (X := X) (d := d + 24) (I := I) (J := J) (s := (0, I 56)) (kd := I 2 (I 67 1)) (n := I 67 1) (a := I 5 (I 67 1)) (x := x) (act := act) k1 ⟨Int.le_refl 0, (by decide : (0 : Int) ≤ 30)⟩ ⟨s4, s5⟩ k4 q
        have g1 : up I 55 1 0 67 1 = I 67 1 := rfl
        have g2 : ∀ k, up I 55 1 0 2 k = I 2 k := fun _ => rfl
        have g5 : ∀ M k v, up (up I 55 1 0) 55 k v M = up (up I 55 1 0) 55 k v M := fun _ _ _ => rfl
        have g6 : ∀ k, up I 55 1 0 5 k = I 5 k := fun _ => rfl
        obtain ⟨p', v, c2, c3⟩ := m_act0 (X := X) (d := d) (B := aco I (app (acE act (I 2 (I 67 1)) (I 67 1) (I 5 (I 67 1))) (0, I 56)) p (I 2 (I 67 1)) (I 67 1) (I 5 (I 67 1))) (J := J) h rfl (i := I 67 1) (act := act) (x := x) ⟨s4, q2⟩ q
        generalize hN : aco I (app (acE act (I 2 (I 67 1)) (I 67 1) (I 5 (I 67 1))) (0, I 56)) p (I 2 (I 67 1)) (I 67 1) (I 5 (I 67 1)) = N at *
        have n70 : N 70 = I 70 := by rw [← hN]; rfl
        have n87 : N 87 2 = I 87 2 := by rw [← hN]; rfl
        have n88 : N 88 2 = I 88 2 := by rw [← hN]; rfl
        have e3 := e2 (up N 69 36 0) (by rw [← hN]; rfl) (by show N 70 6 = _; rw [n70]; exact e6) n87 n88
        rw [s3, if_neg (by omega), s2] at e3
        have g3 : up N 69 36 0 88 2 = I 67 1 := n88.trans s3
        have g4 : amo N (0, N 89) 0 (I 67 1) 70 (38 + 6 * I 67 1 + 0) = I 2 (I 67 1) := by
          show N 70 _ = _
          rw [n70]; exact r1
        have eg := m_get (X := X) (d := d + 28) (I := amo N (0, N 89) 0 (I 67 1)) (J := J) (k := I 67 1) (f := 0) (by omega)
        rw [g4] at eg
        refine ⟨acV act (I 2 (I 67 1)) (I 67 1) (I 5 (I 67 1)) x, N, J, amo N (app (acE act (I 2 (I 67 1)) (I 67 1) (I 5 (I 67 1))) (0, N 89)) p' (I 67 1), J, ?_, ?_, Rel_trace h (by rw [← hN]; exact kp_act) (by rw [← hN]; exact TR_act)⟩
        · simp (disch := omega) only [v_165_0, u_165_0, x_aload0, k_0_8, x_sipush, p_55_1, x_iload1, x_call3_0, x_call3_1, x_call3_2, x_call3_3, x_call3_4, e_k_s, e_k_i, List.nil_append, List.cons_append, x_ifCond_ne, x_ifCond_neb, x_iload2, x_ifCond_eq, x_ifCond_eqb, x_jsr, u_165_26, x_ireturn, u_165_28, k_0_7, x_call2_0, x_call2_1, x_call2_2, x_call2_3, x_call2_4, u_165_43, f_67_1, x_istore4i, x_istore4r, x_istore4u, k_0_0, k_1_0, x_iload4, k_1_3, x_call4_0, x_call4_1, x_call4_2, x_call4_3, x_call4_4, x_iload3, ia_2, ia_5, aa_54_0, aa_54_1, aa_54_2, aa_54_3, v_1_55, u_1_0, p_55_3, p_55_4, p_55_5, p_55_2_0, p_55_2_1, p_55_2_b, x_return, b_in, e1, g1, g2, g6, aco_new, c1, ↓reduceIte, b01_0, ite_not, if_true, if_false, Int.reduceLT, Int.reduceEq]
        · rcases (by omega : act = 0 ∨ act = 1 ∨ act = 2 ∨ act = 3) with rfl | rfl | rfl | rfl
          · have c2 : s_S X (d + 29) 290 _ _ = _ := c2
            simp (disch := omega) only [v_289_69, u_289_0, x_aload0, x_sipush, p_69_36, x_iload1, x_call1_0, x_call1_1, x_call1_2, x_call1_3, x_call1_4, e_k_s, e_k_i, List.nil_append, List.cons_append, x_ifCond_eq, x_ifCond_eqb, x_iload2, x_call3_0, x_call3_1, x_call3_2, x_call3_3, x_call3_4, x_call2_0, x_call2_1, x_call2_2, x_call2_3, x_call2_4, x_jsr, u_289_29, x_ireturn, u_289_31, k_69_34, p_69_37, p_69_38_0, p_69_38_1, p_69_38_b, f_69_37, x_istore4i, x_istore4r, x_istore4u, x_ifCond_ne, x_ifCond_neb, x_iload4, x_iload3, x_goto, u_289_71, x_if_icmp_ne, u_289_86, u_289_101, u_289_108, x_istore5i, x_istore5r, x_istore5u, f_69_38, u_289_122, x_iload5, u_289_124, ia_88, m_shi, m_in, e3, g3, amo_new, amo_2, amo_3, eg, c2, ↓reduceIte, b01_0, ite_not, if_true, if_false, Int.reduceLT, Int.reduceEq]
            rcases c3 with ⟨z, y⟩ | ⟨z, y⟩
            · rw [z, y, if_pos rfl]
            · rw [z, y, if_neg (by decide)]
          · have c2 : s_S X (d + 29) 292 _ _ = _ := c2
            simp (disch := omega) only [v_289_69, u_289_0, x_aload0, x_sipush, p_69_36, x_iload1, x_call1_0, x_call1_1, x_call1_2, x_call1_3, x_call1_4, e_k_s, e_k_i, List.nil_append, List.cons_append, x_ifCond_eq, x_ifCond_eqb, x_iload2, x_call3_0, x_call3_1, x_call3_2, x_call3_3, x_call3_4, x_call2_0, x_call2_1, x_call2_2, x_call2_3, x_call2_4, x_jsr, u_289_29, x_ireturn, u_289_31, k_69_34, p_69_37, p_69_38_0, p_69_38_1, p_69_38_b, f_69_37, x_istore4i, x_istore4r, x_istore4u, x_ifCond_ne, x_ifCond_neb, x_iload4, x_iload3, x_goto, u_289_71, x_if_icmp_ne, u_289_86, u_289_101, u_289_108, x_istore5i, x_istore5r, x_istore5u, f_69_38, u_289_122, x_iload5, u_289_124, ia_88, m_shi, m_in, e3, g3, amo_new, amo_2, amo_3, eg, c2, ↓reduceIte, b01_0, ite_not, if_true, if_false, Int.reduceLT, Int.reduceEq]
            rcases c3 with ⟨z, y⟩ | ⟨z, y⟩
            · rw [z, y, if_pos rfl]
            · rw [z, y, if_neg (by decide)]
          · have c2 : s_S X (d + 29) 293 _ _ = _ := c2
            simp (disch := omega) only [v_289_69, u_289_0, x_aload0, x_sipush, p_69_36, x_iload1, x_call1_0, x_call1_1, x_call1_2, x_call1_3, x_call1_4, e_k_s, e_k_i, List.nil_append, List.cons_append, x_ifCond_eq, x_ifCond_eqb, x_iload2, x_call3_0, x_call3_1, x_call3_2, x_call3_3, x_call3_4, x_call2_0, x_call2_1, x_call2_2, x_call2_3, x_call2_4, x_jsr, u_289_29, x_ireturn, u_289_31, k_69_34, p_69_37, p_69_38_0, p_69_38_1, p_69_38_b, f_69_37, x_istore4i, x_istore4r, x_istore4u, x_ifCond_ne, x_ifCond_neb, x_iload4, x_iload3, x_goto, u_289_71, x_if_icmp_ne, u_289_86, u_289_101, u_289_108, x_istore5i, x_istore5r, x_istore5u, f_69_38, u_289_122, x_iload5, u_289_124, ia_88, m_shi, m_in, e3, g3, amo_new, amo_2, amo_3, eg, c2, ↓reduceIte, b01_0, ite_not, if_true, if_false, Int.reduceLT, Int.reduceEq]
            rcases c3 with ⟨z, y⟩ | ⟨z, y⟩
            · rw [z, y, if_pos rfl]
            · rw [z, y, if_neg (by decide)]
          · have c2 : s_S X (d + 29) 294 _ _ = _ := c2
            simp (disch := omega) only [v_289_69, u_289_0, x_aload0, x_sipush, p_69_36, x_iload1, x_call1_0, x_call1_1, x_call1_2, x_call1_3, x_call1_4, e_k_s, e_k_i, List.nil_append, List.cons_append, x_ifCond_eq, x_ifCond_eqb, x_iload2, x_call3_0, x_call3_1, x_call3_2, x_call3_3, x_call3_4, x_call2_0, x_call2_1, x_call2_2, x_call2_3, x_call2_4, x_jsr, u_289_29, x_ireturn, u_289_31, k_69_34, p_69_37, p_69_38_0, p_69_38_1, p_69_38_b, f_69_37, x_istore4i, x_istore4r, x_istore4u, x_ifCond_ne, x_ifCond_neb, x_iload4, x_iload3, x_goto, u_289_71, x_if_icmp_ne, u_289_86, u_289_101, u_289_108, x_istore5i, x_istore5r, x_istore5u, f_69_38, u_289_122, x_iload5, u_289_124, ia_88, m_shi, m_in, e3, g3, amo_new, amo_2, amo_3, eg, c2, ↓reduceIte, b01_0, ite_not, if_true, if_false, Int.reduceLT, Int.reduceEq]
            rcases c3 with ⟨z, y⟩ | ⟨z, y⟩
            · rw [z, y, if_pos rfl]
            · rw [z, y, if_neg (by decide)]
      · exact bad (fun _ => q2)
    · exact bad (fun z => by omega)
    · exact bad (fun z => by omega)
  · refine ⟨0, up I 55 1 0, J, up (up I 55 1 0) 69 36 0, J, ?_, ?_, TR_bad h⟩
    · simp (disch := omega) only [v_165_0, u_165_0, x_aload0, k_0_8, x_sipush, p_55_1, x_iload1, x_call3_0, x_call3_1, x_call3_2, x_call3_3, x_call3_4, e_k_s, e_k_i, List.nil_append, List.cons_append, x_ifCond_ne, x_ifCond_neb, x_iload2, x_ifCond_eq, x_ifCond_eqb, x_jsr, u_165_26, x_ireturn, u_165_28, k_0_7, x_call2_0, x_call2_1, x_call2_2, x_call2_3, x_call2_4, u_165_43, f_67_1, x_istore4i, x_istore4r, x_istore4u, k_0_0, k_1_0, x_iload4, k_1_3, x_call4_0, x_call4_1, x_call4_2, x_call4_3, x_call4_4, x_iload3, ia_2, ia_5, aa_54_0, aa_54_1, aa_54_2, aa_54_3, b_in, b_nin, ↓reduceIte, b01_0, ite_not, if_true, if_false, Int.reduceLT, Int.reduceEq]
    · simp (disch := omega) only [v_289_69, u_289_0, x_aload0, x_sipush, p_69_36, x_iload1, x_call1_0, x_call1_1, x_call1_2, x_call1_3, x_call1_4, e_k_s, e_k_i, List.nil_append, List.cons_append, x_ifCond_eq, x_ifCond_eqb, x_iload2, x_call3_0, x_call3_1, x_call3_2, x_call3_3, x_call3_4, x_call2_0, x_call2_1, x_call2_2, x_call2_3, x_call2_4, x_jsr, u_289_29, x_ireturn, u_289_31, k_69_34, p_69_37, p_69_38_0, p_69_38_1, p_69_38_b, f_69_37, x_istore4i, x_istore4r, x_istore4u, x_ifCond_ne, x_ifCond_neb, x_iload4, x_iload3, x_goto, u_289_71, x_if_icmp_ne, u_289_86, u_289_101, u_289_108, x_istore5i, x_istore5r, x_istore5u, f_69_38, u_289_122, x_iload5, u_289_124, ia_88, m_shi, m_nin, ↓reduceIte, b01_0, ite_not, if_true, if_false, Int.reduceLT, Int.reduceEq]
theorem c_tk3 (hn6 : 0 ≤ I 1 9 ∧ I 1 9 ≤ 6) (h1 : 0 ≤ I 68 0 ∧ I 68 0 ≤ 2) (h2 : I 68 0 = 0 → rg (I 68 1)) : s_S X (d + 2) 164 [.ref 0, .ref 68] (mm I J) = some ([.int (iI (if I 68 0 = 0 ∧ ¬ (0 ≤ I 68 1 ∧ I 68 1 < I 1 9) then 2 else I 68 0))], mm I J) := by
  by_cases q1 : I 68 0 = 0
  · have e := t_has (X := X) (d := d) (I := I) (J := J) (k := I 68 1) (n := I 1 9) (h2 q1) rfl hn6
    by_cases q2 : 0 ≤ I 68 1 ∧ I 68 1 < I 1 9
    · rw [if_pos q2] at e
      rw [if_neg (fun z => z.2 q2)]
      simp (disch := omega) only [v_164_0, u_164_0, x_aload1, f_68_0, x_ifCond_ne, x_ifCond_neb, x_aload0, k_0_0, f_68_1, x_call2_0, x_call2_1, x_call2_2, x_call2_3, x_call2_4, e_k_s, e_k_i, List.nil_append, List.cons_append, x_sipush, x_ireturn, u_164_23, q1, e, ↓reduceIte, b01_0, ite_not, if_true, if_false, Int.reduceLT, Int.reduceEq]
    · rw [if_neg q2] at e
      rw [if_pos ⟨q1, q2⟩]
      simp (disch := omega) only [v_164_0, u_164_0, x_aload1, f_68_0, x_ifCond_ne, x_ifCond_neb, x_aload0, k_0_0, f_68_1, x_call2_0, x_call2_1, x_call2_2, x_call2_3, x_call2_4, e_k_s, e_k_i, List.nil_append, List.cons_append, x_sipush, x_ireturn, u_164_23, q1, e, ↓reduceIte, b01_0, ite_not, if_true, if_false, Int.reduceLT, Int.reduceEq]
  · rw [if_neg (fun z => q1 z.1)]
    simp (disch := omega) only [v_164_0, u_164_0, x_aload1, f_68_0, x_ifCond_ne, x_ifCond_neb, x_aload0, k_0_0, f_68_1, x_call2_0, x_call2_1, x_call2_2, x_call2_3, x_call2_4, e_k_s, e_k_i, List.nil_append, List.cons_append, x_sipush, x_ireturn, u_164_23, ↓reduceIte, b01_0, ite_not, if_true, if_false, Int.reduceLT, Int.reduceEq]
    rw [if_neg q1]
theorem q_act3 (h : Rel I J) {act x : Int} (ha : rg act) (hx : rg x) : pr X d I J 165 289 [.int (iI 3), .int (iI act), .int (iI x)] := by
  have hi := h.1.1
  have hn6 := hi.1
  have e6 := h.1.2.2.2.1.2.1
  have hS : (I 68 0 = 0 ∧ I 87 3 = 0 ∧ I 88 3 = I 68 1 ∧ 0 ≤ I 68 1 ∧ I 68 1 ≤ 5) ∨ (I 68 0 = 1 ∧ (0 ≤ I 68 2 ∧ I 68 2 ≤ 4) ∧ I 87 3 = 10 + I 68 2 ∧ I 88 3 = I 68 3 ∧ 0 ≤ I 68 3 ∧ I 68 3 ≤ 40) ∨ (I 68 0 = 2 ∧ I 87 3 = -1) := h.2.2.2.2.2.1 3 (by decide)
  have e1 : s_S X (d + 27 + 2) 164 [.ref 0, .ref 68] (mm (up I 55 1 0) J) = some ([.int (iI (if I 68 0 = 0 ∧ ¬ (0 ≤ I 68 1 ∧ I 68 1 < I 1 9) then 2 else I 68 0))], mm (up I 55 1 0) J) := c_tk3 (X := X) (d := d + 27) (I := up I 55 1 0) (J := J) hn6 (by show 0 ≤ I 68 0 ∧ I 68 0 ≤ 2; omega) (fun z => by have z : I 68 0 = 0 := z; show rg (I 68 1); constructor <;> omega)
  have e2 : ∀ N : Nat → Int → Int, N 1 9 = I 1 9 → N 70 6 = I 1 9 → N 87 3 = I 87 3 → N 88 3 = I 88 3 → s_S X (d + 26 + 3) 288 [.ref 69, .int (iI 3)] (mm N J) = some ([.int (iI (if I 87 3 = 0 ∧ ¬ (0 ≤ I 88 3 ∧ I 88 3 < I 1 9) then -1 else I 87 3))], mm N J) := fun N n1 n2 n3 n4 => by
    have e := m_tk (X := X) (d := d + 26) (I := N) (J := J) (q := 3) (by rw [n1]; exact hn6) (by rw [n1]; exact n2) (by decide) (by rw [n3]; constructor <;> omega) (fun z => by rw [n3] at z; rw [n4]; constructor <;> omega)
    rw [n1, n3, n4] at e
    exact e
  by_cases q : 0 ≤ act ∧ act ≤ 3
  · have bad : (I 68 0 = 0 → ¬ I 68 1 < I 1 9) → pr X d I J 165 289 [.int (iI 3), .int (iI act), .int (iI x)] := fun w => by
      obtain ⟨v, ev, v1⟩ : ∃ v : Int, (if I 68 0 = 0 ∧ ¬ (0 ≤ I 68 1 ∧ I 68 1 < I 1 9) then 2 else I 68 0) = v ∧ 1 ≤ v ∧ v ≤ 2 := by
        by_cases z : I 68 0 = 0
        · exact ⟨2, by rw [if_pos ⟨z, fun y => w z y.2⟩], by decide, by decide⟩
        · exact ⟨I 68 0, by rw [if_neg (fun y => z y.1)], by omega, by omega⟩
      obtain ⟨u, eu, u1⟩ : ∃ u : Int, (if I 87 3 = 0 ∧ ¬ (0 ≤ I 88 3 ∧ I 88 3 < I 1 9) then -1 else I 87 3) = u ∧ u ≠ 0 ∧ -1 ≤ u ∧ u ≤ 14 := by
        by_cases z : I 87 3 = 0
        · exact ⟨-1, by rw [if_pos ⟨z, fun y => w (by omega) (by omega)⟩], by decide, by decide, by decide⟩
        · exact ⟨I 87 3, by rw [if_neg (fun y => z y.1)], z, by omega, by omega⟩
      rw [ev] at e1
      have e3 := e2 (up (up I 55 1 0) 69 36 0) rfl e6 rfl rfl
      rw [eu] at e3
      refine ⟨0, up I 55 1 0, J, up (up I 55 1 0) 69 36 0, J, ?_, ?_, TR_bad h⟩
      · simp (disch := omega) only [v_165_0, u_165_0, x_aload0, k_0_8, x_sipush, p_55_1, x_iload1, x_call3_0, x_call3_1, x_call3_2, x_call3_3, x_call3_4, e_k_s, e_k_i, List.nil_append, List.cons_append, x_ifCond_ne, x_ifCond_neb, x_iload2, x_ifCond_eq, x_ifCond_eqb, x_jsr, u_165_26, x_ireturn, u_165_28, k_0_7, x_call2_0, x_call2_1, x_call2_2, x_call2_3, x_call2_4, u_165_43, f_68_1, x_istore4i, x_istore4r, x_istore4u, k_0_0, k_1_0, x_iload4, k_1_3, x_call4_0, x_call4_1, x_call4_2, x_call4_3, x_call4_4, x_iload3, ia_2, ia_5, aa_54_0, aa_54_1, aa_54_2, aa_54_3, b_in, e1, ↓reduceIte, b01_0, ite_not, if_true, if_false, Int.reduceLT, Int.reduceEq]
        (repeat' split) <;> first | rfl | (exfalso; omega)
      · simp (disch := omega) only [v_289_69, u_289_0, x_aload0, x_sipush, p_69_36, x_iload1, x_call1_0, x_call1_1, x_call1_2, x_call1_3, x_call1_4, e_k_s, e_k_i, List.nil_append, List.cons_append, x_ifCond_eq, x_ifCond_eqb, x_iload2, x_call3_0, x_call3_1, x_call3_2, x_call3_3, x_call3_4, x_call2_0, x_call2_1, x_call2_2, x_call2_3, x_call2_4, x_jsr, u_289_29, x_ireturn, u_289_31, k_69_34, p_69_37, p_69_38_0, p_69_38_1, p_69_38_b, f_69_37, x_istore4i, x_istore4r, x_istore4u, x_ifCond_ne, x_ifCond_neb, x_iload4, x_iload3, x_goto, u_289_71, x_if_icmp_ne, u_289_86, u_289_101, u_289_108, x_istore5i, x_istore5r, x_istore5u, f_69_38, u_289_122, x_iload5, u_289_124, ia_88, m_shi, m_in, e3, ↓reduceIte, b01_0, ite_not, if_true, if_false, Int.reduceLT, Int.reduceEq]
        (repeat' split) <;> first | rfl | (exfalso; omega)
    rcases hS with ⟨s1, s2, s3, s4, s5⟩ | ⟨s1, s2, s3, s4, s5, s6⟩ | ⟨s1, s2⟩
    · by_cases q2 : I 68 1 < I 1 9
      · obtain ⟨k1, k2, k3, k4⟩ := hi.2.2.2.2.2.2.1 (I 68 1) s4 q2
        obtain ⟨r1, -, -, -⟩ := h.1.2.2.2.1.2.2.1 (I 68 1) s4 q2
        rw [if_neg (by omega), s1] at e1
        obtain ⟨p, c1⟩ := c_pf (X := X) (d := d + 24) (I := I) (J := J) (s := (0, I 56)) (kd := I 2 (I 68 1)) (n := I 68 1) (a := I 5 (I 68 1)) (x := x) (act := act) k1 ⟨Int.le_refl 0, (by decide : (0 : Int) ≤ 30)⟩ ⟨s4, s5⟩ k4 q
        have g1 : up I 55 1 0 68 1 = I 68 1 := rfl
        have g2 : ∀ k, up I 55 1 0 2 k = I 2 k := fun _ => rfl
        have g5 : ∀ M k v, up (up I 55 1 0) 55 k v M = up (up I 55 1 0) 55 k v M := fun _ _ _ => rfl
        have g6 : ∀ k, up I 55 1 0 5 k = I 5 k := fun _ => rfl
        obtain ⟨p', v, c2, c3⟩ := m_act0 (X := X) (d := d) (B := aco I (app (acE act (I 2 (I 68 1)) (I 68 1) (I 5 (I 68 1))) (0, I 56)) p (I 2 (I 68 1)) (I 68 1) (I 5 (I 68 1))) (J := J) h rfl (i := I 68 1) (act := act) (x := x) ⟨s4, q2⟩ q
        generalize hN : aco I (app (acE act (I 2 (I 68 1)) (I 68 1) (I 5 (I 68 1))) (0, I 56)) p (I 2 (I 68 1)) (I 68 1) (I 5 (I 68 1)) = N at *
        have n70 : N 70 = I 70 := by rw [← hN]; rfl
        have n87 : N 87 3 = I 87 3 := by rw [← hN]; rfl
        have n88 : N 88 3 = I 88 3 := by rw [← hN]; rfl
        have e3 := e2 (up N 69 36 0) (by rw [← hN]; rfl) (by show N 70 6 = _; rw [n70]; exact e6) n87 n88
        rw [s3, if_neg (by omega), s2] at e3
        have g3 : up N 69 36 0 88 3 = I 68 1 := n88.trans s3
        have g4 : amo N (0, N 89) 0 (I 68 1) 70 (38 + 6 * I 68 1 + 0) = I 2 (I 68 1) := by
          show N 70 _ = _
          rw [n70]; exact r1
        have eg := m_get (X := X) (d := d + 28) (I := amo N (0, N 89) 0 (I 68 1)) (J := J) (k := I 68 1) (f := 0) (by omega)
        rw [g4] at eg
        refine ⟨acV act (I 2 (I 68 1)) (I 68 1) (I 5 (I 68 1)) x, N, J, amo N (app (acE act (I 2 (I 68 1)) (I 68 1) (I 5 (I 68 1))) (0, N 89)) p' (I 68 1), J, ?_, ?_, Rel_trace h (by rw [← hN]; exact kp_act) (by rw [← hN]; exact TR_act)⟩
        · simp (disch := omega) only [v_165_0, u_165_0, x_aload0, k_0_8, x_sipush, p_55_1, x_iload1, x_call3_0, x_call3_1, x_call3_2, x_call3_3, x_call3_4, e_k_s, e_k_i, List.nil_append, List.cons_append, x_ifCond_ne, x_ifCond_neb, x_iload2, x_ifCond_eq, x_ifCond_eqb, x_jsr, u_165_26, x_ireturn, u_165_28, k_0_7, x_call2_0, x_call2_1, x_call2_2, x_call2_3, x_call2_4, u_165_43, f_68_1, x_istore4i, x_istore4r, x_istore4u, k_0_0, k_1_0, x_iload4, k_1_3, x_call4_0, x_call4_1, x_call4_2, x_call4_3, x_call4_4, x_iload3, ia_2, ia_5, aa_54_0, aa_54_1, aa_54_2, aa_54_3, v_1_55, u_1_0, p_55_3, p_55_4, p_55_5, p_55_2_0, p_55_2_1, p_55_2_b, x_return, b_in, e1, g1, g2, g6, aco_new, c1, ↓reduceIte, b01_0, ite_not, if_true, if_false, Int.reduceLT, Int.reduceEq]
        · rcases (by omega : act = 0 ∨ act = 1 ∨ act = 2 ∨ act = 3) with rfl | rfl | rfl | rfl
          · have c2 : s_S X (d + 29) 290 _ _ = _ := c2
            simp (disch := omega) only [v_289_69, u_289_0, x_aload0, x_sipush, p_69_36, x_iload1, x_call1_0, x_call1_1, x_call1_2, x_call1_3, x_call1_4, e_k_s, e_k_i, List.nil_append, List.cons_append, x_ifCond_eq, x_ifCond_eqb, x_iload2, x_call3_0, x_call3_1, x_call3_2, x_call3_3, x_call3_4, x_call2_0, x_call2_1, x_call2_2, x_call2_3, x_call2_4, x_jsr, u_289_29, x_ireturn, u_289_31, k_69_34, p_69_37, p_69_38_0, p_69_38_1, p_69_38_b, f_69_37, x_istore4i, x_istore4r, x_istore4u, x_ifCond_ne, x_ifCond_neb, x_iload4, x_iload3, x_goto, u_289_71, x_if_icmp_ne, u_289_86, u_289_101, u_289_108, x_istore5i, x_istore5r, x_istore5u, f_69_38, u_289_122, x_iload5, u_289_124, ia_88, m_shi, m_in, e3, g3, amo_new, amo_2, amo_3, eg, c2, ↓reduceIte, b01_0, ite_not, if_true, if_false, Int.reduceLT, Int.reduceEq]
            rcases c3 with ⟨z, y⟩ | ⟨z, y⟩
            · rw [z, y, if_pos rfl]
            · rw [z, y, if_neg (by decide)]
          · have c2 : s_S X (d + 29) 292 _ _ = _ := c2
            simp (disch := omega) only [v_289_69, u_289_0, x_aload0, x_sipush, p_69_36, x_iload1, x_call1_0, x_call1_1, x_call1_2, x_call1_3, x_call1_4, e_k_s, e_k_i, List.nil_append, List.cons_append, x_ifCond_eq, x_ifCond_eqb, x_iload2, x_call3_0, x_call3_1, x_call3_2, x_call3_3, x_call3_4, x_call2_0, x_call2_1, x_call2_2, x_call2_3, x_call2_4, x_jsr, u_289_29, x_ireturn, u_289_31, k_69_34, p_69_37, p_69_38_0, p_69_38_1, p_69_38_b, f_69_37, x_istore4i, x_istore4r, x_istore4u, x_ifCond_ne, x_ifCond_neb, x_iload4, x_iload3, x_goto, u_289_71, x_if_icmp_ne, u_289_86, u_289_101, u_289_108, x_istore5i, x_istore5r, x_istore5u, f_69_38, u_289_122, x_iload5, u_289_124, ia_88, m_shi, m_in, e3, g3, amo_new, amo_2, amo_3, eg, c2, ↓reduceIte, b01_0, ite_not, if_true, if_false, Int.reduceLT, Int.reduceEq]
            rcases c3 with ⟨z, y⟩ | ⟨z, y⟩
            · rw [z, y, if_pos rfl]
            · rw [z, y, if_neg (by decide)]
          · have c2 : s_S X (d + 29) 293 _ _ = _ := c2
            simp (disch := omega) only [v_289_69, u_289_0, x_aload0, x_sipush, p_69_36, x_iload1, x_call1_0, x_call1_1, x_call1_2, x_call1_3, x_call1_4, e_k_s, e_k_i, List.nil_append, List.cons_append, x_ifCond_eq, x_ifCond_eqb, x_iload2, x_call3_0, x_call3_1, x_call3_2, x_call3_3, x_call3_4, x_call2_0, x_call2_1, x_call2_2, x_call2_3, x_call2_4, x_jsr, u_289_29, x_ireturn, u_289_31, k_69_34, p_69_37, p_69_38_0, p_69_38_1, p_69_38_b, f_69_37, x_istore4i, x_istore4r, x_istore4u, x_ifCond_ne, x_ifCond_neb, x_iload4, x_iload3, x_goto, u_289_71, x_if_icmp_ne, u_289_86, u_289_101, u_289_108, x_istore5i, x_istore5r, x_istore5u, f_69_38, u_289_122, x_iload5, u_289_124, ia_88, m_shi, m_in, e3, g3, amo_new, amo_2, amo_3, eg, c2, ↓reduceIte, b01_0, ite_not, if_true, if_false, Int.reduceLT, Int.reduceEq]
            rcases c3 with ⟨z, y⟩ | ⟨z, y⟩
            · rw [z, y, if_pos rfl]
            · rw [z, y, if_neg (by decide)]
          · have c2 : s_S X (d + 29) 294 _ _ = _ := c2
            simp (disch := omega) only [v_289_69, u_289_0, x_aload0, x_sipush, p_69_36, x_iload1, x_call1_0, x_call1_1, x_call1_2, x_call1_3, x_call1_4, e_k_s, e_k_i, List.nil_append, List.cons_append, x_ifCond_eq, x_ifCond_eqb, x_iload2, x_call3_0, x_call3_1, x_call3_2, x_call3_3, x_call3_4, x_call2_0, x_call2_1, x_call2_2, x_call2_3, x_call2_4, x_jsr, u_289_29, x_ireturn, u_289_31, k_69_34, p_69_37, p_69_38_0, p_69_38_1, p_69_38_b, f_69_37, x_istore4i, x_istore4r, x_istore4u, x_ifCond_ne, x_ifCond_neb, x_iload4, x_iload3, x_goto, u_289_71, x_if_icmp_ne, u_289_86, u_289_101, u_289_108, x_istore5i, x_istore5r, x_istore5u, f_69_38, u_289_122, x_iload5, u_289_124, ia_88, m_shi, m_in, e3, g3, amo_new, amo_2, amo_3, eg, c2, ↓reduceIte, b01_0, ite_not, if_true, if_false, Int.reduceLT, Int.reduceEq]
            rcases c3 with ⟨z, y⟩ | ⟨z, y⟩
            · rw [z, y, if_pos rfl]
            · rw [z, y, if_neg (by decide)]
      · exact bad (fun _ => q2)
    · exact bad (fun z => by omega)
    · exact bad (fun z => by omega)
  · refine ⟨0, up I 55 1 0, J, up (up I 55 1 0) 69 36 0, J, ?_, ?_, TR_bad h⟩
    · simp (disch := omega) only [v_165_0, u_165_0, x_aload0, k_0_8, x_sipush, p_55_1, x_iload1, x_call3_0, x_call3_1, x_call3_2, x_call3_3, x_call3_4, e_k_s, e_k_i, List.nil_append, List.cons_append, x_ifCond_ne, x_ifCond_neb, x_iload2, x_ifCond_eq, x_ifCond_eqb, x_jsr, u_165_26, x_ireturn, u_165_28, k_0_7, x_call2_0, x_call2_1, x_call2_2, x_call2_3, x_call2_4, u_165_43, f_68_1, x_istore4i, x_istore4r, x_istore4u, k_0_0, k_1_0, x_iload4, k_1_3, x_call4_0, x_call4_1, x_call4_2, x_call4_3, x_call4_4, x_iload3, ia_2, ia_5, aa_54_0, aa_54_1, aa_54_2, aa_54_3, b_in, b_nin, ↓reduceIte, b01_0, ite_not, if_true, if_false, Int.reduceLT, Int.reduceEq]
    · simp (disch := omega) only [v_289_69, u_289_0, x_aload0, x_sipush, p_69_36, x_iload1, x_call1_0, x_call1_1, x_call1_2, x_call1_3, x_call1_4, e_k_s, e_k_i, List.nil_append, List.cons_append, x_ifCond_eq, x_ifCond_eqb, x_iload2, x_call3_0, x_call3_1, x_call3_2, x_call3_3, x_call3_4, x_call2_0, x_call2_1, x_call2_2, x_call2_3, x_call2_4, x_jsr, u_289_29, x_ireturn, u_289_31, k_69_34, p_69_37, p_69_38_0, p_69_38_1, p_69_38_b, f_69_37, x_istore4i, x_istore4r, x_istore4u, x_ifCond_ne, x_ifCond_neb, x_iload4, x_iload3, x_goto, u_289_71, x_if_icmp_ne, u_289_86, u_289_101, u_289_108, x_istore5i, x_istore5r, x_istore5u, f_69_38, u_289_122, x_iload5, u_289_124, ia_88, m_shi, m_nin, ↓reduceIte, b01_0, ite_not, if_true, if_false, Int.reduceLT, Int.reduceEq]
theorem q_act (h : Rel I J) {a b c : Int} (ha : rg a) (hb : rg b) (hc : rg c) : pr X d I J 165 289 [.int (iI a), .int (iI b), .int (iI c)] := by
  by_cases q : 0 ≤ a ∧ a ≤ 3
  · rcases (by omega : a = 0 ∨ a = 1 ∨ a = 2 ∨ a = 3) with rfl | rfl | rfl | rfl
    · exact q_act0 h hb hc
    · exact q_act1 h hb hc
    · exact q_act2 h hb hc
    · exact q_act3 h hb hc
  · have e := m_shk (X := X) (d := d + 27) (I := up (up I 55 1 0) 69 36 0) (J := J) ha
    rw [if_neg q] at e
    refine ⟨0, up I 55 1 0, J, up (up I 55 1 0) 69 36 0, J, ?_, ?_, TR_bad h⟩
    · simp (disch := omega) only [v_165_0, u_165_0, x_aload0, k_0_8, x_sipush, p_55_1, x_iload1, x_call3_0, x_call3_1, x_call3_2, x_call3_3, x_call3_4, e_k_s, e_k_i, List.nil_append, List.cons_append, x_ifCond_ne, x_ifCond_neb, x_iload2, x_ifCond_eq, x_ifCond_eqb, x_jsr, u_165_26, x_ireturn, u_165_28, k_0_7, x_call2_0, x_call2_1, x_call2_2, x_call2_3, x_call2_4, u_165_43, x_istore4i, x_istore4r, x_istore4u, k_0_0, x_iload4, x_call4_0, x_call4_1, x_call4_2, x_call4_3, x_call4_4, x_iload3, aa_54_0, aa_54_1, aa_54_2, aa_54_3, b_nin, ↓reduceIte, b01_0, ite_not, if_true, if_false, Int.reduceLT, Int.reduceEq]
    · simp (disch := omega) only [v_289_69, u_289_0, x_aload0, x_sipush, p_69_36, x_iload1, x_call1_0, x_call1_1, x_call1_2, x_call1_3, x_call1_4, e_k_s, e_k_i, List.nil_append, List.cons_append, x_ifCond_eq, x_ifCond_eqb, x_iload2, x_call3_0, x_call3_1, x_call3_2, x_call3_3, x_call3_4, x_call2_0, x_call2_1, x_call2_2, x_call2_3, x_call2_4, x_jsr, u_289_29, x_ireturn, u_289_31, k_69_34, p_69_37, p_69_38_0, p_69_38_1, p_69_38_b, f_69_37, x_istore4i, x_istore4r, x_istore4u, x_ifCond_ne, x_ifCond_neb, x_iload4, x_iload3, x_goto, u_289_71, x_if_icmp_ne, u_289_86, u_289_101, u_289_108, x_istore5i, x_istore5r, x_istore5u, f_69_38, u_289_122, x_iload5, u_289_124, ia_88, e, ↓reduceIte, b01_0, ite_not, if_true, if_false, Int.reduceLT, Int.reduceEq]
end
