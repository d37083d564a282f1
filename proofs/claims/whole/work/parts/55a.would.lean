/-! WHAT ACTS FROM A SHEET WOULD BRING, in class and model -/
def wbl (I : Nat → Int → Int) (V : Int → Int) (L : Int) : Nat → Int → co → Int → Int
  | 0, _, _, a => a
  | m + 1, j, c, a => if 0 ≤ j ∧ j < L then (if (0 ≤ V j ∧ V j ≤ I 1 9) ∧ ¬ I 1 12 ≤ c.1 then wbl I V L m (j + 1) (pas I c (V j)).2 (a + (pas I c (V j)).1) else -4) else -12
section
variable {X : e_X} {d : Nat} {I J M : Nat → Int → Int}
theorem m_wbl (h : inv I) (hE : RE I (M 70)) (hQ : RR I (M 70)) (hR : rok I) {q f n L : Int} {V : Int → Int} {Y : Int → Int} (hq : 0 ≤ q ∧ q < 4) (eL : M 85 q = L) (eV : ∀ j, 0 ≤ j → j < 40 → M 86 (40 * q + j) = V j) (hV : ∀ j, 0 ≤ j → j < 40 → rg (V j)) (hL : 0 ≤ L ∧ L ≤ 40) (hf : rg f) (hn : 0 ≤ n ∧ n ≤ 20) : ∀ (m : Nat) (k a : Int) (c : co) (sc : Int) (P : Int → Int) (w : Value), 0 ≤ k → k + m = n → (m = 0 ∨ k = 0 ∨ (0 ≤ f ∧ f ≤ 40)) → (0 ≤ a ∧ a ≤ 21 * k) → cok I c → ∃ c' sc' P' co ac k' w', ((co = 0 ∧ ac = wbl I V L m (f + k) c a) ∨ (co = wbl I V L m (f + k) c a ∧ co < 0 ∧ -20 ≤ co)) ∧ s_j X (d + 9) 285 37 [.ref 69, .int (iI q), .int (iI f), .int (iI n), .int (iI 0), .int (iI a), .int (iI k), w] [] (mm (mk (b72 M Y) (I 1 9) c sc P) J) = s_j X (d + 9) 285 145 [.ref 69, .int (iI q), .int (iI f), .int (iI n), .int (iI co), .int (iI ac), .int k', w'] [] (mm (mk (b72 M Y) (I 1 9) c' sc' P') J) := by
  have hn6 := h.1
  have h16 := h.2.2.2.1
  have h70 : b72 M Y 70 = M 70 := b72_o (by decide)
  intro m
  induction m with
  | zero =>
    intro k a c sc P w k0 kn hm ha hc
    refine ⟨c, sc, P, 0, a, iI k, w, Or.inl ⟨rfl, rfl⟩, ?_⟩
    rw [u_285_37]
    simp (disch := omega) only [v_285_69, u_285_0, x_iload1, x_call1_0, x_call1_1, x_call1_2, x_call1_3, x_call1_4, e_k_s, e_k_i, List.nil_append, List.cons_append, x_ifCond_eq, x_ifCond_eqb, x_iload3, x_sipush, x_call3_0, x_call3_1, x_call3_2, x_call3_3, x_call3_4, x_ifCond_ne, x_ifCond_neb, x_jsr, u_285_17, x_ireturn, u_285_19, x_aload0, x_istore4i, x_istore4r, x_istore4u, x_istore5i, x_istore5r, x_istore5u, x_istore6i, x_istore6r, x_istore6u, x_iload6, x_if_icmp_ge, x_iload4, x_iload2, x_call4_0, x_call4_1, x_call4_2, x_call4_3, x_call4_4, k_69_32, x_imul, x_iadd, x_goto, u_285_76, u_285_77, x_istore7i, x_istore7r, x_istore7u, u_285_95, x_iload7, x_call2_0, x_call2_1, x_call2_2, x_call2_3, x_call2_4, u_285_111, u_285_116, u_285_117, x_iload5, u_285_135, u_285_136, x_iinc6i, x_iinc6r, x_iinc6u, u_285_159, u_285_161, ia_86, ↓reduceIte, b01_0, ite_not, if_true, if_false, Int.reduceLT, Int.reduceEq]
    rw [if_neg (by omega)]
  | succ m ih =>
    intro k a c sc P w k0 kn hm ha hc
    have c1 := hc.1
    have e1 := m_hav (X := X) (d := d + 8) (I := mk (b72 M Y) (I 1 9) c sc P) (J := J) (q := q) (f := f) (k := k) hq (e := (by rw [mk_o (by decide) (by decide), b72_o (by decide)]; exact eL)) hL hf (by omega)
    rw [u_285_37]
    unfold wbl
    by_cases q1 : 0 ≤ f ∧ f < L - k
    · rw [if_pos q1] at e1
      rw [if_pos (show 0 ≤ f + k ∧ f + k < L by omega)]
      have ev : mk (b72 M Y) (I 1 9) c sc P 86 (40 * q + f + k) = V (f + k) := by
        rw [mk_o (by decide) (by decide), b72_o (by decide), Int.add_assoc]
        exact eV _ (by omega) (by omega)
      have vr := hV (f + k) (by omega) (by omega)
      have e2 := m_isa (X := X) (d := d + 7) (I := mk (b72 M Y) (I 1 9) c sc P) (J := J) (k := V (f + k)) (n := I 1 9) (by rw [mk_r (by omega), h70]; exact hE.2.1) ⟨vr, hn6⟩
      have e3 := m_ov (X := X) (d := d + 8) (J := J) (M := b72 M Y) h (by rw [h70]; exact hE) hc (sc := sc) (P := P)
      by_cases q2 : 0 ≤ V (f + k) ∧ V (f + k) ≤ I 1 9
      · rw [if_pos q2] at e2
        by_cases q3 : I 1 12 ≤ c.1
        · rw [if_pos q3] at e3
          rw [if_neg (fun z => z.2 q3)]
          refine ⟨c, sc, P, -4, a, iI (k + 1), .int (iI (V (f + k))), Or.inr ⟨rfl, by decide, by decide⟩, ?_⟩
          simp (disch := omega) only [v_285_69, u_285_0, x_iload1, x_call1_0, x_call1_1, x_call1_2, x_call1_3, x_call1_4, e_k_s, e_k_i, List.nil_append, List.cons_append, x_ifCond_eq, x_ifCond_eqb, x_iload3, x_sipush, x_call3_0, x_call3_1, x_call3_2, x_call3_3, x_call3_4, x_ifCond_ne, x_ifCond_neb, x_jsr, u_285_17, x_ireturn, u_285_19, x_aload0, x_istore4i, x_istore4r, x_istore4u, x_istore5i, x_istore5r, x_istore5u, x_istore6i, x_istore6r, x_istore6u, x_iload6, x_if_icmp_ge, x_iload4, x_iload2, x_call4_0, x_call4_1, x_call4_2, x_call4_3, x_call4_4, k_69_32, x_imul, x_iadd, x_goto, u_285_76, u_285_77, x_istore7i, x_istore7r, x_istore7u, u_285_95, x_iload7, x_call2_0, x_call2_1, x_call2_2, x_call2_3, x_call2_4, u_285_111, u_285_116, u_285_117, x_iload5, u_285_135, u_285_136, x_iinc6i, x_iinc6r, x_iinc6u, u_285_159, u_285_161, ia_86, e1, ev, e2, e3, Int.add_zero, ↓reduceIte, b01_0, ite_not, if_true, if_false, Int.reduceLT, Int.reduceEq]
          rw [if_pos (by omega), u_285_37]
          simp (disch := omega) only [v_285_69, u_285_0, x_iload1, x_call1_0, x_call1_1, x_call1_2, x_call1_3, x_call1_4, e_k_s, e_k_i, List.nil_append, List.cons_append, x_ifCond_eq, x_ifCond_eqb, x_iload3, x_sipush, x_call3_0, x_call3_1, x_call3_2, x_call3_3, x_call3_4, x_ifCond_ne, x_ifCond_neb, x_jsr, u_285_17, x_ireturn, u_285_19, x_aload0, x_istore4i, x_istore4r, x_istore4u, x_istore5i, x_istore5r, x_istore5u, x_istore6i, x_istore6r, x_istore6u, x_iload6, x_if_icmp_ge, x_iload4, x_iload2, x_call4_0, x_call4_1, x_call4_2, x_call4_3, x_call4_4, k_69_32, x_imul, x_iadd, x_goto, u_285_76, u_285_77, x_istore7i, x_istore7r, x_istore7u, u_285_95, x_iload7, x_call2_0, x_call2_1, x_call2_2, x_call2_3, x_call2_4, u_285_111, u_285_116, u_285_117, x_iload5, u_285_135, u_285_136, x_iinc6i, x_iinc6r, x_iinc6u, u_285_159, u_285_161, ia_86, Int.reduceNeg, ↓reduceIte, b01_0, ite_not, if_true, if_false, Int.reduceLT, Int.reduceEq]
          by_cases z : k + 1 < n
          · rw [if_pos z]
          · rw [if_neg z]
        · rw [if_neg q3] at e3
          have hp := pas_ok h hc (by omega) (V (f + k))
          obtain ⟨P1, e5⟩ := m_pas (X := X) (d := d + 1) (J := J) (M := b72 M Y) h (by rw [h70]; exact hE) (by rw [h70]; exact hQ) hR hc (by omega) (sc := sc) P (a := V (f + k)) (by omega)
          obtain ⟨c', sc', P', co, ac, k', w', e6, e4⟩ := ih (k + 1) (a + (pas I c (V (f + k))).1) (pas I c (V (f + k))).2 (sc + (pas I c (V (f + k))).1) P1 (.int (iI (V (f + k)))) (by omega) (by omega) (by omega) (by omega) hp.1
          rw [if_pos ⟨q2, q3⟩, show f + k + 1 = f + (k + 1) by omega]
          refine ⟨c', sc', P', co, ac, k', w', e6, ?_⟩
          rw [← e4]
          simp (disch := omega) only [v_285_69, u_285_0, x_iload1, x_call1_0, x_call1_1, x_call1_2, x_call1_3, x_call1_4, e_k_s, e_k_i, List.nil_append, List.cons_append, x_ifCond_eq, x_ifCond_eqb, x_iload3, x_sipush, x_call3_0, x_call3_1, x_call3_2, x_call3_3, x_call3_4, x_ifCond_ne, x_ifCond_neb, x_jsr, u_285_17, x_ireturn, u_285_19, x_aload0, x_istore4i, x_istore4r, x_istore4u, x_istore5i, x_istore5r, x_istore5u, x_istore6i, x_istore6r, x_istore6u, x_iload6, x_if_icmp_ge, x_iload4, x_iload2, x_call4_0, x_call4_1, x_call4_2, x_call4_3, x_call4_4, k_69_32, x_imul, x_iadd, x_goto, u_285_76, u_285_77, x_istore7i, x_istore7r, x_istore7u, u_285_95, x_iload7, x_call2_0, x_call2_1, x_call2_2, x_call2_3, x_call2_4, u_285_111, u_285_116, u_285_117, x_iload5, u_285_135, u_285_136, x_iinc6i, x_iinc6r, x_iinc6u, u_285_159, u_285_161, ia_86, e1, ev, e2, e3, e5, ↓reduceIte, b01_0, ite_not, if_true, if_false, Int.reduceLT, Int.reduceEq]
          rw [if_pos (by omega)]
      · rw [if_neg q2] at e2
        rw [if_neg (fun z => q2 z.1)]
        refine ⟨c, sc, P, -4, a, iI (k + 1), .int (iI (V (f + k))), Or.inr ⟨rfl, by decide, by decide⟩, ?_⟩
        simp (disch := omega) only [v_285_69, u_285_0, x_iload1, x_call1_0, x_call1_1, x_call1_2, x_call1_3, x_call1_4, e_k_s, e_k_i, List.nil_append, List.cons_append, x_ifCond_eq, x_ifCond_eqb, x_iload3, x_sipush, x_call3_0, x_call3_1, x_call3_2, x_call3_3, x_call3_4, x_ifCond_ne, x_ifCond_neb, x_jsr, u_285_17, x_ireturn, u_285_19, x_aload0, x_istore4i, x_istore4r, x_istore4u, x_istore5i, x_istore5r, x_istore5u, x_istore6i, x_istore6r, x_istore6u, x_iload6, x_if_icmp_ge, x_iload4, x_iload2, x_call4_0, x_call4_1, x_call4_2, x_call4_3, x_call4_4, k_69_32, x_imul, x_iadd, x_goto, u_285_76, u_285_77, x_istore7i, x_istore7r, x_istore7u, u_285_95, x_iload7, x_call2_0, x_call2_1, x_call2_2, x_call2_3, x_call2_4, u_285_111, u_285_116, u_285_117, x_iload5, u_285_135, u_285_136, x_iinc6i, x_iinc6r, x_iinc6u, u_285_159, u_285_161, ia_86, e1, ev, e2, Int.add_zero, ↓reduceIte, b01_0, ite_not, if_true, if_false, Int.reduceLT, Int.reduceEq]
        rw [if_pos (by omega), u_285_37]
        simp (disch := omega) only [v_285_69, u_285_0, x_iload1, x_call1_0, x_call1_1, x_call1_2, x_call1_3, x_call1_4, e_k_s, e_k_i, List.nil_append, List.cons_append, x_ifCond_eq, x_ifCond_eqb, x_iload3, x_sipush, x_call3_0, x_call3_1, x_call3_2, x_call3_3, x_call3_4, x_ifCond_ne, x_ifCond_neb, x_jsr, u_285_17, x_ireturn, u_285_19, x_aload0, x_istore4i, x_istore4r, x_istore4u, x_istore5i, x_istore5r, x_istore5u, x_istore6i, x_istore6r, x_istore6u, x_iload6, x_if_icmp_ge, x_iload4, x_iload2, x_call4_0, x_call4_1, x_call4_2, x_call4_3, x_call4_4, k_69_32, x_imul, x_iadd, x_goto, u_285_76, u_285_77, x_istore7i, x_istore7r, x_istore7u, u_285_95, x_iload7, x_call2_0, x_call2_1, x_call2_2, x_call2_3, x_call2_4, u_285_111, u_285_116, u_285_117, x_iload5, u_285_135, u_285_136, x_iinc6i, x_iinc6r, x_iinc6u, u_285_159, u_285_161, ia_86, Int.reduceNeg, ↓reduceIte, b01_0, ite_not, if_true, if_false, Int.reduceLT, Int.reduceEq]
        by_cases z : k + 1 < n
        · rw [if_pos z]
        · rw [if_neg z]
    · rw [if_neg q1] at e1
      rw [if_neg (show ¬ (0 ≤ f + k ∧ f + k < L) by omega)]
      refine ⟨c, sc, P, -12, a, iI (k + 1), .int (iI (-1)), Or.inr ⟨rfl, by decide, by decide⟩, ?_⟩
      simp (disch := omega) only [v_285_69, u_285_0, x_iload1, x_call1_0, x_call1_1, x_call1_2, x_call1_3, x_call1_4, e_k_s, e_k_i, List.nil_append, List.cons_append, x_ifCond_eq, x_ifCond_eqb, x_iload3, x_sipush, x_call3_0, x_call3_1, x_call3_2, x_call3_3, x_call3_4, x_ifCond_ne, x_ifCond_neb, x_jsr, u_285_17, x_ireturn, u_285_19, x_aload0, x_istore4i, x_istore4r, x_istore4u, x_istore5i, x_istore5r, x_istore5u, x_istore6i, x_istore6r, x_istore6u, x_iload6, x_if_icmp_ge, x_iload4, x_iload2, x_call4_0, x_call4_1, x_call4_2, x_call4_3, x_call4_4, k_69_32, x_imul, x_iadd, x_goto, u_285_76, u_285_77, x_istore7i, x_istore7r, x_istore7u, u_285_95, x_iload7, x_call2_0, x_call2_1, x_call2_2, x_call2_3, x_call2_4, u_285_111, u_285_116, u_285_117, x_iload5, u_285_135, u_285_136, x_iinc6i, x_iinc6r, x_iinc6u, u_285_159, u_285_161, ia_86, e1, Int.add_zero, ↓reduceIte, b01_0, ite_not, if_true, if_false, Int.reduceLT, Int.reduceEq]
      rw [if_pos (by omega), u_285_37]
      simp (disch := omega) only [v_285_69, u_285_0, x_iload1, x_call1_0, x_call1_1, x_call1_2, x_call1_3, x_call1_4, e_k_s, e_k_i, List.nil_append, List.cons_append, x_ifCond_eq, x_ifCond_eqb, x_iload3, x_sipush, x_call3_0, x_call3_1, x_call3_2, x_call3_3, x_call3_4, x_ifCond_ne, x_ifCond_neb, x_jsr, u_285_17, x_ireturn, u_285_19, x_aload0, x_istore4i, x_istore4r, x_istore4u, x_istore5i, x_istore5r, x_istore5u, x_istore6i, x_istore6r, x_istore6u, x_iload6, x_if_icmp_ge, x_iload4, x_iload2, x_call4_0, x_call4_1, x_call4_2, x_call4_3, x_call4_4, k_69_32, x_imul, x_iadd, x_goto, u_285_76, u_285_77, x_istore7i, x_istore7r, x_istore7u, u_285_95, x_iload7, x_call2_0, x_call2_1, x_call2_2, x_call2_3, x_call2_4, u_285_111, u_285_116, u_285_117, x_iload5, u_285_135, u_285_136, x_iinc6i, x_iinc6r, x_iinc6u, u_285_159, u_285_161, ia_86, Int.reduceNeg, ↓reduceIte, b01_0, ite_not, if_true, if_false, Int.reduceLT, Int.reduceEq]
      by_cases z : k + 1 < n
      · rw [if_pos z]
      · rw [if_neg z]
theorem m_wbq (h : inv I) (hE : RE I (M 70)) (hQ : RR I (M 70)) (hR : rok I) {q f n L : Int} {V : Int → Int} (hq : 0 ≤ q ∧ q < 4) (eL : M 85 q = L) (eV : ∀ j, 0 ≤ j → j < 40 → M 86 (40 * q + j) = V j) (hV : ∀ j, 0 ≤ j → j < 40 → rg (V j)) (hL : 0 ≤ L ∧ L ≤ 40) (hf : rg f) (hn : 0 ≤ n ∧ n ≤ 20) {c : co} (hc : cok I c) {sc : Int} (P : Int → Int) (w : Value) : ∃ Y P', (e_k (s_S X (d + 9) 230 [.ref 69] (mm (mk M (I 1 9) c sc P) J)) fun r q_1 => s_j X (d + 9) 285 37 [.ref 69, .int (iI q), .int (iI f), .int (iI n), .int (iI 0), .int (iI 0), .int (iI 0), w] (r ++ []) q_1) = some ([.int (iI (wbl I V L n.toNat (f + 0) c 0))], mm (mk (b72 M Y) (I 1 9) c sc P') J) := by
  have e0 := m_ld (X := X) (d := d + 8) (J := J) (M := M) (n := I 1 9) (c := c) (sc := sc) (P := P)
  obtain ⟨c', sc', P', co, ac, k', w', e6, e1⟩ := m_wbl (X := X) (d := d) (J := J) h hE hQ hR (Y := lyd M (mk M (I 1 9) c sc P 70)) hq eL eV hV hL hf hn n.toNat 0 0 c sc P w (by decide) (by omega) (Or.inr (Or.inl rfl)) (by decide) hc
  have e3 := m_lb (X := X) (d := d + 8) (J := J) (M := M) (M' := M) (L := lyd M (mk M (I 1 9) c sc P 70)) (n := I 1 9) h.1.2 (c := c) (c' := c') (sc := sc) (sc' := sc') (P := P) (P' := P') (fun k k0 k1 => if_pos ⟨k0, k1⟩) (fun _ _ _ => rfl)
  refine ⟨lyd M (mk M (I 1 9) c sc P 70), P', ?_⟩
  simp (disch := omega) only [v_285_69, u_285_0, x_iload1, x_call1_0, x_call1_1, x_call1_2, x_call1_3, x_call1_4, e_k_s, e_k_i, List.nil_append, List.cons_append, x_ifCond_eq, x_ifCond_eqb, x_iload3, x_sipush, x_call3_0, x_call3_1, x_call3_2, x_call3_3, x_call3_4, x_ifCond_ne, x_ifCond_neb, x_jsr, u_285_17, x_ireturn, u_285_19, x_aload0, x_istore4i, x_istore4r, x_istore4u, x_istore5i, x_istore5r, x_istore5u, x_istore6i, x_istore6r, x_istore6u, x_iload6, x_if_icmp_ge, x_iload4, x_iload2, x_call4_0, x_call4_1, x_call4_2, x_call4_3, x_call4_4, k_69_32, x_imul, x_iadd, x_goto, u_285_76, u_285_77, x_istore7i, x_istore7r, x_istore7u, u_285_95, x_iload7, x_call2_0, x_call2_1, x_call2_2, x_call2_3, x_call2_4, u_285_111, u_285_116, u_285_117, x_iload5, u_285_135, u_285_136, x_iinc6i, x_iinc6r, x_iinc6u, u_285_145, u_285_159, u_285_161, ia_86, e0, e1, e3, ↓reduceIte, b01_0, ite_not, if_true, if_false, Int.reduceLT, Int.reduceEq]
  rcases e6 with ⟨rfl, rfl⟩ | ⟨z1, z2, z3⟩
  · simp (disch := omega) only [v_285_69, u_285_0, x_iload1, x_call1_0, x_call1_1, x_call1_2, x_call1_3, x_call1_4, e_k_s, e_k_i, List.nil_append, List.cons_append, x_ifCond_eq, x_ifCond_eqb, x_iload3, x_sipush, x_call3_0, x_call3_1, x_call3_2, x_call3_3, x_call3_4, x_ifCond_ne, x_ifCond_neb, x_jsr, u_285_17, x_ireturn, u_285_19, x_aload0, x_istore4i, x_istore4r, x_istore4u, x_istore5i, x_istore5r, x_istore5u, x_istore6i, x_istore6r, x_istore6u, x_iload6, x_if_icmp_ge, x_iload4, x_iload2, x_call4_0, x_call4_1, x_call4_2, x_call4_3, x_call4_4, k_69_32, x_imul, x_iadd, x_goto, u_285_76, u_285_77, x_istore7i, x_istore7r, x_istore7u, u_285_95, x_iload7, x_call2_0, x_call2_1, x_call2_2, x_call2_3, x_call2_4, u_285_111, u_285_116, u_285_117, x_iload5, u_285_135, u_285_136, x_iinc6i, x_iinc6r, x_iinc6u, u_285_145, u_285_159, u_285_161, ia_86, ↓reduceIte, b01_0, ite_not, if_true, if_false, Int.reduceLT, Int.reduceEq]
  · rw [← z1, if_neg (by omega)]
theorem c_wbl57 (h : inv I) (hR : rok I) {f n L : Int} {V : Int → Int} (eL : I 57 2 = L) (eV : ∀ j, 0 ≤ j → j < 40 → J 58 j = V j) (hV : ∀ j, 0 ≤ j → j < 40 → rg (V j)) (hL : 0 ≤ L ∧ L ≤ 40) (hf : rg f) (hn : 0 ≤ n ∧ n ≤ 20) : ∀ (m : Nat) (k a : Int) (c : co) (F : Int → Int) (w : Value), 0 ≤ k → k + m = n → (m = 0 ∨ k = 0 ∨ (0 ≤ f ∧ f ≤ 40)) → (0 ≤ a ∧ a ≤ 21 * k) → cok I c → ∃ c' F', s_j X (d + 6) 161 6 [.ref 0, .ref 57, .int (iI f), .int (iI n), .int (iI a), .int (iI k), w] [] (mm (bk I c F) J) = some ([.int (iI (wbl I V L m (f + k) c a))], mm (bk I c' F') J) := by
  have hn6 := h.1
  have h16 := h.2.2.2.1
  intro m
  induction m with
  | zero =>
    intro k a c F w k0 kn hm ha hc
    refine ⟨c, F, ?_⟩
    rw [u_161_6]
    simp (disch := omega) only [v_161_0, u_161_0, x_sipush, x_istore4i, x_istore4r, x_istore4u, x_istore5i, x_istore5r, x_istore5u, x_jsr, x_iload5, x_iload3, x_if_icmp_ge, x_aload1, x_iload2, x_iadd, x_call2_0, x_call2_1, x_call2_2, x_call2_3, x_call2_4, e_k_s, e_k_i, List.nil_append, List.cons_append, x_ifCond_ne, x_ifCond_neb, x_ireturn, u_161_26, k_57_0, x_l2i, x_istore6i, x_istore6r, x_istore6u, x_aload0, k_0_0, x_iload6, x_ifCond_eq, x_ifCond_eqb, x_call1_0, x_call1_1, x_call1_2, x_call1_3, x_call1_4, u_161_60, u_161_63, x_iload4, x_iinc5i, x_iinc5r, x_iinc5u, x_goto, u_161_83, la_58, ↓reduceIte, b01_0, ite_not, if_true, if_false, Int.reduceLT, Int.reduceEq]
    rw [if_neg (by omega)]
    rfl
  | succ m ih =>
    intro k a c F w k0 kn hm ha hc
    have c1 := hc.1
    have hfk : rg (f + k) := by constructor <;> omega
    have e1 : s_S X (d + 5 + 1) 60 [.ref 57, .int (iI (f + k))] (mm (bk I c F) J) = some ([.int (iI (if 0 ≤ f + k ∧ f + k < L then 1 else 0))], mm (bk I c F) J) := by
      have e := s_has57 (X := X) (d := d + 5) (I := bk I c F) (J := J) (by show 0 ≤ I 57 2 ∧ I 57 2 ≤ 40; rw [eL]; exact hL) hfk
      rw [show bk I c F 57 2 = L from eL] at e
      exact e
    rw [u_161_6]
    unfold wbl
    by_cases q1 : 0 ≤ f + k ∧ f + k < L
    · rw [if_pos q1] at e1 ⊢
      have ev := eV (f + k) (by omega) (by omega)
      have vr := hV (f + k) (by omega) (by omega)
      have e2 := t_act (X := X) (d := d + 5) (I := bk I c F) (J := J) (k := V (f + k)) (n := I 1 9) vr rfl hn6
      have e3 := t_over (X := X) (d := d + 5) (I := bk I c F) (J := J) (y := c.1) (e := I 1 12) rfl rfl ⟨⟨by omega, by omega⟩, ⟨by omega, by omega⟩⟩
      by_cases q2 : 0 ≤ V (f + k) ∧ V (f + k) ≤ I 1 9
      · rw [if_pos q2] at e2
        by_cases q3 : I 1 12 ≤ c.1
        · rw [if_pos q3] at e3
          refine ⟨c, F, ?_⟩
          rw [if_neg (fun z => z.2 q3)]
          simp (disch := omega) only [v_161_0, u_161_0, x_sipush, x_istore4i, x_istore4r, x_istore4u, x_istore5i, x_istore5r, x_istore5u, x_jsr, x_iload5, x_iload3, x_if_icmp_ge, x_aload1, x_iload2, x_iadd, x_call2_0, x_call2_1, x_call2_2, x_call2_3, x_call2_4, e_k_s, e_k_i, List.nil_append, List.cons_append, x_ifCond_ne, x_ifCond_neb, x_ireturn, u_161_26, k_57_0, x_l2i, x_istore6i, x_istore6r, x_istore6u, x_aload0, k_0_0, x_iload6, x_ifCond_eq, x_ifCond_eqb, x_call1_0, x_call1_1, x_call1_2, x_call1_3, x_call1_4, u_161_60, u_161_63, x_iload4, x_iinc5i, x_iinc5r, x_iinc5u, x_goto, u_161_83, la_58, e1, ev, l2i_i, e2, e3, ↓reduceIte, b01_0, ite_not, if_true, if_false, Int.reduceLT, Int.reduceEq]
          rw [if_pos (by omega)]
        · rw [if_neg q3] at e3
          have hp := pas_ok h hc (by omega) (V (f + k))
          obtain ⟨F1, e5⟩ := t_pas (X := X) (d := d + 1) (J := J) h hR hc F (a := V (f + k)) (by omega)
          obtain ⟨c', F', e4⟩ := ih (k + 1) (a + (pas I c (V (f + k))).1) (pas I c (V (f + k))).2 F1 (.int (iI (V (f + k)))) (by omega) (by omega) (by omega) (by omega) hp.1
          refine ⟨c', F', ?_⟩
          rw [if_pos ⟨q2, q3⟩, show f + k + 1 = f + (k + 1) by omega, ← e4]
          simp (disch := omega) only [v_161_0, u_161_0, x_sipush, x_istore4i, x_istore4r, x_istore4u, x_istore5i, x_istore5r, x_istore5u, x_jsr, x_iload5, x_iload3, x_if_icmp_ge, x_aload1, x_iload2, x_iadd, x_call2_0, x_call2_1, x_call2_2, x_call2_3, x_call2_4, e_k_s, e_k_i, List.nil_append, List.cons_append, x_ifCond_ne, x_ifCond_neb, x_ireturn, u_161_26, k_57_0, x_l2i, x_istore6i, x_istore6r, x_istore6u, x_aload0, k_0_0, x_iload6, x_ifCond_eq, x_ifCond_eqb, x_call1_0, x_call1_1, x_call1_2, x_call1_3, x_call1_4, u_161_60, u_161_63, x_iload4, x_iinc5i, x_iinc5r, x_iinc5u, x_goto, u_161_83, la_58, e1, ev, l2i_i, e2, e3, e5, ↓reduceIte, b01_0, ite_not, if_true, if_false, Int.reduceLT, Int.reduceEq]
          rw [if_pos (by omega)]
      · rw [if_neg q2] at e2
        refine ⟨c, F, ?_⟩
        rw [if_neg (fun z => q2 z.1)]
        simp (disch := omega) only [v_161_0, u_161_0, x_sipush, x_istore4i, x_istore4r, x_istore4u, x_istore5i, x_istore5r, x_istore5u, x_jsr, x_iload5, x_iload3, x_if_icmp_ge, x_aload1, x_iload2, x_iadd, x_call2_0, x_call2_1, x_call2_2, x_call2_3, x_call2_4, e_k_s, e_k_i, List.nil_append, List.cons_append, x_ifCond_ne, x_ifCond_neb, x_ireturn, u_161_26, k_57_0, x_l2i, x_istore6i, x_istore6r, x_istore6u, x_aload0, k_0_0, x_iload6, x_ifCond_eq, x_ifCond_eqb, x_call1_0, x_call1_1, x_call1_2, x_call1_3, x_call1_4, u_161_60, u_161_63, x_iload4, x_iinc5i, x_iinc5r, x_iinc5u, x_goto, u_161_83, la_58, e1, ev, l2i_i, e2, ↓reduceIte, b01_0, ite_not, if_true, if_false, Int.reduceLT, Int.reduceEq]
        rw [if_pos (by omega)]
    · rw [if_neg q1] at e1 ⊢
      refine ⟨c, F, ?_⟩
      simp (disch := omega) only [v_161_0, u_161_0, x_sipush, x_istore4i, x_istore4r, x_istore4u, x_istore5i, x_istore5r, x_istore5u, x_jsr, x_iload5, x_iload3, x_if_icmp_ge, x_aload1, x_iload2, x_iadd, x_call2_0, x_call2_1, x_call2_2, x_call2_3, x_call2_4, e_k_s, e_k_i, List.nil_append, List.cons_append, x_ifCond_ne, x_ifCond_neb, x_ireturn, u_161_26, k_57_0, x_l2i, x_istore6i, x_istore6r, x_istore6u, x_aload0, k_0_0, x_iload6, x_ifCond_eq, x_ifCond_eqb, x_call1_0, x_call1_1, x_call1_2, x_call1_3, x_call1_4, u_161_60, u_161_63, x_iload4, x_iinc5i, x_iinc5r, x_iinc5u, x_goto, u_161_83, la_58, e1, ↓reduceIte, b01_0, ite_not, if_true, if_false, Int.reduceLT, Int.reduceEq]
      rw [if_pos (by omega)]
theorem c_wbl59 (h : inv I) (hR : rok I) {f n L : Int} {V : Int → Int} (eL : I 59 2 = L) (eV : ∀ j, 0 ≤ j → j < 40 → J 60 j = V j) (hV : ∀ j, 0 ≤ j → j < 40 → rg (V j)) (hL : 0 ≤ L ∧ L ≤ 40) (hf : rg f) (hn : 0 ≤ n ∧ n ≤ 20) : ∀ (m : Nat) (k a : Int) (c : co) (F : Int → Int) (w : Value), 0 ≤ k → k + m = n → (m = 0 ∨ k = 0 ∨ (0 ≤ f ∧ f ≤ 40)) → (0 ≤ a ∧ a ≤ 21 * k) → cok I c → ∃ c' F', s_j X (d + 6) 161 6 [.ref 0, .ref 59, .int (iI f), .int (iI n), .int (iI a), .int (iI k), w] [] (mm (bk I c F) J) = some ([.int (iI (wbl I V L m (f + k) c a))], mm (bk I c' F') J) := by
  have hn6 := h.1
  have h16 := h.2.2.2.1
  intro m
  induction m with
  | zero =>
    intro k a c F w k0 kn hm ha hc
    refine ⟨c, F, ?_⟩
    rw [u_161_6]
    simp (disch := omega) only [v_161_0, u_161_0, x_sipush, x_istore4i, x_istore4r, x_istore4u, x_istore5i, x_istore5r, x_istore5u, x_jsr, x_iload5, x_iload3, x_if_icmp_ge, x_aload1, x_iload2, x_iadd, x_call2_0, x_call2_1, x_call2_2, x_call2_3, x_call2_4, e_k_s, e_k_i, List.nil_append, List.cons_append, x_ifCond_ne, x_ifCond_neb, x_ireturn, u_161_26, k_59_0, x_l2i, x_istore6i, x_istore6r, x_istore6u, x_aload0, k_0_0, x_iload6, x_ifCond_eq, x_ifCond_eqb, x_call1_0, x_call1_1, x_call1_2, x_call1_3, x_call1_4, u_161_60, u_161_63, x_iload4, x_iinc5i, x_iinc5r, x_iinc5u, x_goto, u_161_83, la_60, ↓reduceIte, b01_0, ite_not, if_true, if_false, Int.reduceLT, Int.reduceEq]
    rw [if_neg (by omega)]
    rfl
  | succ m ih =>
    intro k a c F w k0 kn hm ha hc
    have c1 := hc.1
    have hfk : rg (f + k) := by constructor <;> omega
    have e1 : s_S X (d + 5 + 1) 60 [.ref 59, .int (iI (f + k))] (mm (bk I c F) J) = some ([.int (iI (if 0 ≤ f + k ∧ f + k < L then 1 else 0))], mm (bk I c F) J) := by
      have e := s_has59 (X := X) (d := d + 5) (I := bk I c F) (J := J) (by show 0 ≤ I 59 2 ∧ I 59 2 ≤ 40; rw [eL]; exact hL) hfk
      rw [show bk I c F 59 2 = L from eL] at e
      exact e
    rw [u_161_6]
    unfold wbl
    by_cases q1 : 0 ≤ f + k ∧ f + k < L
    · rw [if_pos q1] at e1 ⊢
      have ev := eV (f + k) (by omega) (by omega)
      have vr := hV (f + k) (by omega) (by omega)
      have e2 := t_act (X := X) (d := d + 5) (I := bk I c F) (J := J) (k := V (f + k)) (n := I 1 9) vr rfl hn6
      have e3 := t_over (X := X) (d := d + 5) (I := bk I c F) (J := J) (y := c.1) (e := I 1 12) rfl rfl ⟨⟨by omega, by omega⟩, ⟨by omega, by omega⟩⟩
      by_cases q2 : 0 ≤ V (f + k) ∧ V (f + k) ≤ I 1 9
      · rw [if_pos q2] at e2
        by_cases q3 : I 1 12 ≤ c.1
        · rw [if_pos q3] at e3
          refine ⟨c, F, ?_⟩
          rw [if_neg (fun z => z.2 q3)]
          simp (disch := omega) only [v_161_0, u_161_0, x_sipush, x_istore4i, x_istore4r, x_istore4u, x_istore5i, x_istore5r, x_istore5u, x_jsr, x_iload5, x_iload3, x_if_icmp_ge, x_aload1, x_iload2, x_iadd, x_call2_0, x_call2_1, x_call2_2, x_call2_3, x_call2_4, e_k_s, e_k_i, List.nil_append, List.cons_append, x_ifCond_ne, x_ifCond_neb, x_ireturn, u_161_26, k_59_0, x_l2i, x_istore6i, x_istore6r, x_istore6u, x_aload0, k_0_0, x_iload6, x_ifCond_eq, x_ifCond_eqb, x_call1_0, x_call1_1, x_call1_2, x_call1_3, x_call1_4, u_161_60, u_161_63, x_iload4, x_iinc5i, x_iinc5r, x_iinc5u, x_goto, u_161_83, la_60, e1, ev, l2i_i, e2, e3, ↓reduceIte, b01_0, ite_not, if_true, if_false, Int.reduceLT, Int.reduceEq]
          rw [if_pos (by omega)]
        · rw [if_neg q3] at e3
          have hp := pas_ok h hc (by omega) (V (f + k))
          obtain ⟨F1, e5⟩ := t_pas (X := X) (d := d + 1) (J := J) h hR hc F (a := V (f + k)) (by omega)
          obtain ⟨c', F', e4⟩ := ih (k + 1) (a + (pas I c (V (f + k))).1) (pas I c (V (f + k))).2 F1 (.int (iI (V (f + k)))) (by omega) (by omega) (by omega) (by omega) hp.1
          refine ⟨c', F', ?_⟩
          rw [if_pos ⟨q2, q3⟩, show f + k + 1 = f + (k + 1) by omega, ← e4]
          simp (disch := omega) only [v_161_0, u_161_0, x_sipush, x_istore4i, x_istore4r, x_istore4u, x_istore5i, x_istore5r, x_istore5u, x_jsr, x_iload5, x_iload3, x_if_icmp_ge, x_aload1, x_iload2, x_iadd, x_call2_0, x_call2_1, x_call2_2, x_call2_3, x_call2_4, e_k_s, e_k_i, List.nil_append, List.cons_append, x_ifCond_ne, x_ifCond_neb, x_ireturn, u_161_26, k_59_0, x_l2i, x_istore6i, x_istore6r, x_istore6u, x_aload0, k_0_0, x_iload6, x_ifCond_eq, x_ifCond_eqb, x_call1_0, x_call1_1, x_call1_2, x_call1_3, x_call1_4, u_161_60, u_161_63, x_iload4, x_iinc5i, x_iinc5r, x_iinc5u, x_goto, u_161_83, la_60, e1, ev, l2i_i, e2, e3, e5, ↓reduceIte, b01_0, ite_not, if_true, if_false, Int.reduceLT, Int.reduceEq]
          rw [if_pos (by omega)]
      · rw [if_neg q2] at e2
        refine ⟨c, F, ?_⟩
        rw [if_neg (fun z => q2 z.1)]
        simp (disch := omega) only [v_161_0, u_161_0, x_sipush, x_istore4i, x_istore4r, x_istore4u, x_istore5i, x_istore5r, x_istore5u, x_jsr, x_iload5, x_iload3, x_if_icmp_ge, x_aload1, x_iload2, x_iadd, x_call2_0, x_call2_1, x_call2_2, x_call2_3, x_call2_4, e_k_s, e_k_i, List.nil_append, List.cons_append, x_ifCond_ne, x_ifCond_neb, x_ireturn, u_161_26, k_59_0, x_l2i, x_istore6i, x_istore6r, x_istore6u, x_aload0, k_0_0, x_iload6, x_ifCond_eq, x_ifCond_eqb, x_call1_0, x_call1_1, x_call1_2, x_call1_3, x_call1_4, u_161_60, u_161_63, x_iload4, x_iinc5i, x_iinc5r, x_iinc5u, x_goto, u_161_83, la_60, e1, ev, l2i_i, e2, ↓reduceIte, b01_0, ite_not, if_true, if_false, Int.reduceLT, Int.reduceEq]
        rw [if_pos (by omega)]
    · rw [if_neg q1] at e1 ⊢
      refine ⟨c, F, ?_⟩
      simp (disch := omega) only [v_161_0, u_161_0, x_sipush, x_istore4i, x_istore4r, x_istore4u, x_istore5i, x_istore5r, x_istore5u, x_jsr, x_iload5, x_iload3, x_if_icmp_ge, x_aload1, x_iload2, x_iadd, x_call2_0, x_call2_1, x_call2_2, x_call2_3, x_call2_4, e_k_s, e_k_i, List.nil_append, List.cons_append, x_ifCond_ne, x_ifCond_neb, x_ireturn, u_161_26, k_59_0, x_l2i, x_istore6i, x_istore6r, x_istore6u, x_aload0, k_0_0, x_iload6, x_ifCond_eq, x_ifCond_eqb, x_call1_0, x_call1_1, x_call1_2, x_call1_3, x_call1_4, u_161_60, u_161_63, x_iload4, x_iinc5i, x_iinc5r, x_iinc5u, x_goto, u_161_83, la_60, e1, ↓reduceIte, b01_0, ite_not, if_true, if_false, Int.reduceLT, Int.reduceEq]
      rw [if_pos (by omega)]
theorem c_wbl61 (h : inv I) (hR : rok I) {f n L : Int} {V : Int → Int} (eL : I 61 2 = L) (eV : ∀ j, 0 ≤ j → j < 40 → J 62 j = V j) (hV : ∀ j, 0 ≤ j → j < 40 → rg (V j)) (hL : 0 ≤ L ∧ L ≤ 40) (hf : rg f) (hn : 0 ≤ n ∧ n ≤ 20) : ∀ (m : Nat) (k a : Int) (c : co) (F : Int → Int) (w : Value), 0 ≤ k → k + m = n → (m = 0 ∨ k = 0 ∨ (0 ≤ f ∧ f ≤ 40)) → (0 ≤ a ∧ a ≤ 21 * k) → cok I c → ∃ c' F', s_j X (d + 6) 161 6 [.ref 0, .ref 61, .int (iI f), .int (iI n), .int (iI a), .int (iI k), w] [] (mm (bk I c F) J) = some ([.int (iI (wbl I V L m (f + k) c a))], mm (bk I c' F') J) := by
  have hn6 := h.1
  have h16 := h.2.2.2.1
  intro m
  induction m with
  | zero =>
    intro k a c F w k0 kn hm ha hc
    refine ⟨c, F, ?_⟩
    rw [u_161_6]
    simp (disch := omega) only [v_161_0, u_161_0, x_sipush, x_istore4i, x_istore4r, x_istore4u, x_istore5i, x_istore5r, x_istore5u, x_jsr, x_iload5, x_iload3, x_if_icmp_ge, x_aload1, x_iload2, x_iadd, x_call2_0, x_call2_1, x_call2_2, x_call2_3, x_call2_4, e_k_s, e_k_i, List.nil_append, List.cons_append, x_ifCond_ne, x_ifCond_neb, x_ireturn, u_161_26, k_61_0, x_l2i, x_istore6i, x_istore6r, x_istore6u, x_aload0, k_0_0, x_iload6, x_ifCond_eq, x_ifCond_eqb, x_call1_0, x_call1_1, x_call1_2, x_call1_3, x_call1_4, u_161_60, u_161_63, x_iload4, x_iinc5i, x_iinc5r, x_iinc5u, x_goto, u_161_83, la_62, ↓reduceIte, b01_0, ite_not, if_true, if_false, Int.reduceLT, Int.reduceEq]
    rw [if_neg (by omega)]
    rfl
  | succ m ih =>
    intro k a c F w k0 kn hm ha hc
    have c1 := hc.1
    have hfk : rg (f + k) := by constructor <;> omega
    have e1 : s_S X (d + 5 + 1) 60 [.ref 61, .int (iI (f + k))] (mm (bk I c F) J) = some ([.int (iI (if 0 ≤ f + k ∧ f + k < L then 1 else 0))], mm (bk I c F) J) := by
      have e := s_has61 (X := X) (d := d + 5) (I := bk I c F) (J := J) (by show 0 ≤ I 61 2 ∧ I 61 2 ≤ 40; rw [eL]; exact hL) hfk
      rw [show bk I c F 61 2 = L from eL] at e
      exact e
    rw [u_161_6]
    unfold wbl
    by_cases q1 : 0 ≤ f + k ∧ f + k < L
    · rw [if_pos q1] at e1 ⊢
      have ev := eV (f + k) (by omega) (by omega)
      have vr := hV (f + k) (by omega) (by omega)
      have e2 := t_act (X := X) (d := d + 5) (I := bk I c F) (J := J) (k := V (f + k)) (n := I 1 9) vr rfl hn6
      have e3 := t_over (X := X) (d := d + 5) (I := bk I c F) (J := J) (y := c.1) (e := I 1 12) rfl rfl ⟨⟨by omega, by omega⟩, ⟨by omega, by omega⟩⟩
      by_cases q2 : 0 ≤ V (f + k) ∧ V (f + k) ≤ I 1 9
      · rw [if_pos q2] at e2
        by_cases q3 : I 1 12 ≤ c.1
        · rw [if_pos q3] at e3
          refine ⟨c, F, ?_⟩
          rw [if_neg (fun z => z.2 q3)]
          simp (disch := omega) only [v_161_0, u_161_0, x_sipush, x_istore4i, x_istore4r, x_istore4u, x_istore5i, x_istore5r, x_istore5u, x_jsr, x_iload5, x_iload3, x_if_icmp_ge, x_aload1, x_iload2, x_iadd, x_call2_0, x_call2_1, x_call2_2, x_call2_3, x_call2_4, e_k_s, e_k_i, List.nil_append, List.cons_append, x_ifCond_ne, x_ifCond_neb, x_ireturn, u_161_26, k_61_0, x_l2i, x_istore6i, x_istore6r, x_istore6u, x_aload0, k_0_0, x_iload6, x_ifCond_eq, x_ifCond_eqb, x_call1_0, x_call1_1, x_call1_2, x_call1_3, x_call1_4, u_161_60, u_161_63, x_iload4, x_iinc5i, x_iinc5r, x_iinc5u, x_goto, u_161_83, la_62, e1, ev, l2i_i, e2, e3, ↓reduceIte, b01_0, ite_not, if_true, if_false, Int.reduceLT, Int.reduceEq]
          rw [if_pos (by omega)]
        · rw [if_neg q3] at e3
          have hp := pas_ok h hc (by omega) (V (f + k))
          obtain ⟨F1, e5⟩ := t_pas (X := X) (d := d + 1) (J := J) h hR hc F (a := V (f + k)) (by omega)
          obtain ⟨c', F', e4⟩ := ih (k + 1) (a + (pas I c (V (f + k))).1) (pas I c (V (f + k))).2 F1 (.int (iI (V (f + k)))) (by omega) (by omega) (by omega) (by omega) hp.1
          refine ⟨c', F', ?_⟩
          rw [if_pos ⟨q2, q3⟩, show f + k + 1 = f + (k + 1) by omega, ← e4]
          simp (disch := omega) only [v_161_0, u_161_0, x_sipush, x_istore4i, x_istore4r, x_istore4u, x_istore5i, x_istore5r, x_istore5u, x_jsr, x_iload5, x_iload3, x_if_icmp_ge, x_aload1, x_iload2, x_iadd, x_call2_0, x_call2_1, x_call2_2, x_call2_3, x_call2_4, e_k_s, e_k_i, List.nil_append, List.cons_append, x_ifCond_ne, x_ifCond_neb, x_ireturn, u_161_26, k_61_0, x_l2i, x_istore6i, x_istore6r, x_istore6u, x_aload0, k_0_0, x_iload6, x_ifCond_eq, x_ifCond_eqb, x_call1_0, x_call1_1, x_call1_2, x_call1_3, x_call1_4, u_161_60, u_161_63, x_iload4, x_iinc5i, x_iinc5r, x_iinc5u, x_goto, u_161_83, la_62, e1, ev, l2i_i, e2, e3, e5, ↓reduceIte, b01_0, ite_not, if_true, if_false, Int.reduceLT, Int.reduceEq]
          rw [if_pos (by omega)]
      · rw [if_neg q2] at e2
        refine ⟨c, F, ?_⟩
        rw [if_neg (fun z => q2 z.1)]
        simp (disch := omega) only [v_161_0, u_161_0, x_sipush, x_istore4i, x_istore4r, x_istore4u, x_istore5i, x_istore5r, x_istore5u, x_jsr, x_iload5, x_iload3, x_if_icmp_ge, x_aload1, x_iload2, x_iadd, x_call2_0, x_call2_1, x_call2_2, x_call2_3, x_call2_4, e_k_s, e_k_i, List.nil_append, List.cons_append, x_ifCond_ne, x_ifCond_neb, x_ireturn, u_161_26, k_61_0, x_l2i, x_istore6i, x_istore6r, x_istore6u, x_aload0, k_0_0, x_iload6, x_ifCond_eq, x_ifCond_eqb, x_call1_0, x_call1_1, x_call1_2, x_call1_3, x_call1_4, u_161_60, u_161_63, x_iload4, x_iinc5i, x_iinc5r, x_iinc5u, x_goto, u_161_83, la_62, e1, ev, l2i_i, e2, ↓reduceIte, b01_0, ite_not, if_true, if_false, Int.reduceLT, Int.reduceEq]
        rw [if_pos (by omega)]
    · rw [if_neg q1] at e1 ⊢
      refine ⟨c, F, ?_⟩
      simp (disch := omega) only [v_161_0, u_161_0, x_sipush, x_istore4i, x_istore4r, x_istore4u, x_istore5i, x_istore5r, x_istore5u, x_jsr, x_iload5, x_iload3, x_if_icmp_ge, x_aload1, x_iload2, x_iadd, x_call2_0, x_call2_1, x_call2_2, x_call2_3, x_call2_4, e_k_s, e_k_i, List.nil_append, List.cons_append, x_ifCond_ne, x_ifCond_neb, x_ireturn, u_161_26, k_61_0, x_l2i, x_istore6i, x_istore6r, x_istore6u, x_aload0, k_0_0, x_iload6, x_ifCond_eq, x_ifCond_eqb, x_call1_0, x_call1_1, x_call1_2, x_call1_3, x_call1_4, u_161_60, u_161_63, x_iload4, x_iinc5i, x_iinc5r, x_iinc5u, x_goto, u_161_83, la_62, e1, ↓reduceIte, b01_0, ite_not, if_true, if_false, Int.reduceLT, Int.reduceEq]
      rw [if_pos (by omega)]
theorem c_wbl63 (h : inv I) (hR : rok I) {f n L : Int} {V : Int → Int} (eL : I 63 2 = L) (eV : ∀ j, 0 ≤ j → j < 40 → J 64 j = V j) (hV : ∀ j, 0 ≤ j → j < 40 → rg (V j)) (hL : 0 ≤ L ∧ L ≤ 40) (hf : rg f) (hn : 0 ≤ n ∧ n ≤ 20) : ∀ (m : Nat) (k a : Int) (c : co) (F : Int → Int) (w : Value), 0 ≤ k → k + m = n → (m = 0 ∨ k = 0 ∨ (0 ≤ f ∧ f ≤ 40)) → (0 ≤ a ∧ a ≤ 21 * k) → cok I c → ∃ c' F', s_j X (d + 6) 161 6 [.ref 0, .ref 63, .int (iI f), .int (iI n), .int (iI a), .int (iI k), w] [] (mm (bk I c F) J) = some ([.int (iI (wbl I V L m (f + k) c a))], mm (bk I c' F') J) := by
  have hn6 := h.1
  have h16 := h.2.2.2.1
  intro m
  induction m with
  | zero =>
    intro k a c F w k0 kn hm ha hc
    refine ⟨c, F, ?_⟩
    rw [u_161_6]
    simp (disch := omega) only [v_161_0, u_161_0, x_sipush, x_istore4i, x_istore4r, x_istore4u, x_istore5i, x_istore5r, x_istore5u, x_jsr, x_iload5, x_iload3, x_if_icmp_ge, x_aload1, x_iload2, x_iadd, x_call2_0, x_call2_1, x_call2_2, x_call2_3, x_call2_4, e_k_s, e_k_i, List.nil_append, List.cons_append, x_ifCond_ne, x_ifCond_neb, x_ireturn, u_161_26, k_63_0, x_l2i, x_istore6i, x_istore6r, x_istore6u, x_aload0, k_0_0, x_iload6, x_ifCond_eq, x_ifCond_eqb, x_call1_0, x_call1_1, x_call1_2, x_call1_3, x_call1_4, u_161_60, u_161_63, x_iload4, x_iinc5i, x_iinc5r, x_iinc5u, x_goto, u_161_83, la_64, ↓reduceIte, b01_0, ite_not, if_true, if_false, Int.reduceLT, Int.reduceEq]
    rw [if_neg (by omega)]
    rfl
  | succ m ih =>
    intro k a c F w k0 kn hm ha hc
    have c1 := hc.1
    have hfk : rg (f + k) := by constructor <;> omega
    have e1 : s_S X (d + 5 + 1) 60 [.ref 63, .int (iI (f + k))] (mm (bk I c F) J) = some ([.int (iI (if 0 ≤ f + k ∧ f + k < L then 1 else 0))], mm (bk I c F) J) := by
      have e := s_has63 (X := X) (d := d + 5) (I := bk I c F) (J := J) (by show 0 ≤ I 63 2 ∧ I 63 2 ≤ 40; rw [eL]; exact hL) hfk
      rw [show bk I c F 63 2 = L from eL] at e
      exact e
    rw [u_161_6]
    unfold wbl
    by_cases q1 : 0 ≤ f + k ∧ f + k < L
    · rw [if_pos q1] at e1 ⊢
      have ev := eV (f + k) (by omega) (by omega)
      have vr := hV (f + k) (by omega) (by omega)
      have e2 := t_act (X := X) (d := d + 5) (I := bk I c F) (J := J) (k := V (f + k)) (n := I 1 9) vr rfl hn6
      have e3 := t_over (X := X) (d := d + 5) (I := bk I c F) (J := J) (y := c.1) (e := I 1 12) rfl rfl ⟨⟨by omega, by omega⟩, ⟨by omega, by omega⟩⟩
      by_cases q2 : 0 ≤ V (f + k) ∧ V (f + k) ≤ I 1 9
      · rw [if_pos q2] at e2
        by_cases q3 : I 1 12 ≤ c.1
        · rw [if_pos q3] at e3
          refine ⟨c, F, ?_⟩
          rw [if_neg (fun z => z.2 q3)]
          simp (disch := omega) only [v_161_0, u_161_0, x_sipush, x_istore4i, x_istore4r, x_istore4u, x_istore5i, x_istore5r, x_istore5u, x_jsr, x_iload5, x_iload3, x_if_icmp_ge, x_aload1, x_iload2, x_iadd, x_call2_0, x_call2_1, x_call2_2, x_call2_3, x_call2_4, e_k_s, e_k_i, List.nil_append, List.cons_append, x_ifCond_ne, x_ifCond_neb, x_ireturn, u_161_26, k_63_0, x_l2i, x_istore6i, x_istore6r, x_istore6u, x_aload0, k_0_0, x_iload6, x_ifCond_eq, x_ifCond_eqb, x_call1_0, x_call1_1, x_call1_2, x_call1_3, x_call1_4, u_161_60, u_161_63, x_iload4, x_iinc5i, x_iinc5r, x_iinc5u, x_goto, u_161_83, la_64, e1, ev, l2i_i, e2, e3, ↓reduceIte, b01_0, ite_not, if_true, if_false, Int.reduceLT, Int.reduceEq]
          rw [if_pos (by omega)]
        · rw [if_neg q3] at e3
          have hp := pas_ok h hc (by omega) (V (f + k))
          obtain ⟨F1, e5⟩ := t_pas (X := X) (d := d + 1) (J := J) h hR hc F (a := V (f + k)) (by omega)
          obtain ⟨c', F', e4⟩ := ih (k + 1) (a + (pas I c (V (f + k))).1) (pas I c (V (f + k))).2 F1 (.int (iI (V (f + k)))) (by omega) (by omega) (by omega) (by omega) hp.1
          refine ⟨c', F', ?_⟩
          rw [if_pos ⟨q2, q3⟩, show f + k + 1 = f + (k + 1) by omega, ← e4]
          simp (disch := omega) only [v_161_0, u_161_0, x_sipush, x_istore4i, x_istore4r, x_istore4u, x_istore5i, x_istore5r, x_istore5u, x_jsr, x_iload5, x_iload3, x_if_icmp_ge, x_aload1, x_iload2, x_iadd, x_call2_0, x_call2_1, x_call2_2, x_call2_3, x_call2_4, e_k_s, e_k_i, List.nil_append, List.cons_append, x_ifCond_ne, x_ifCond_neb, x_ireturn, u_161_26, k_63_0, x_l2i, x_istore6i, x_istore6r, x_istore6u, x_aload0, k_0_0, x_iload6, x_ifCond_eq, x_ifCond_eqb, x_call1_0, x_call1_1, x_call1_2, x_call1_3, x_call1_4, u_161_60, u_161_63, x_iload4, x_iinc5i, x_iinc5r, x_iinc5u, x_goto, u_161_83, la_64, e1, ev, l2i_i, e2, e3, e5, ↓reduceIte, b01_0, ite_not, if_true, if_false, Int.reduceLT, Int.reduceEq]
          rw [if_pos (by omega)]
      · rw [if_neg q2] at e2
        refine ⟨c, F, ?_⟩
        rw [if_neg (fun z => q2 z.1)]
        simp (disch := omega) only [v_161_0, u_161_0, x_sipush, x_istore4i, x_istore4r, x_istore4u, x_istore5i, x_istore5r, x_istore5u, x_jsr, x_iload5, x_iload3, x_if_icmp_ge, x_aload1, x_iload2, x_iadd, x_call2_0, x_call2_1, x_call2_2, x_call2_3, x_call2_4, e_k_s, e_k_i, List.nil_append, List.cons_append, x_ifCond_ne, x_ifCond_neb, x_ireturn, u_161_26, k_63_0, x_l2i, x_istore6i, x_istore6r, x_istore6u, x_aload0, k_0_0, x_iload6, x_ifCond_eq, x_ifCond_eqb, x_call1_0, x_call1_1, x_call1_2, x_call1_3, x_call1_4, u_161_60, u_161_63, x_iload4, x_iinc5i, x_iinc5r, x_iinc5u, x_goto, u_161_83, la_64, e1, ev, l2i_i, e2, ↓reduceIte, b01_0, ite_not, if_true, if_false, Int.reduceLT, Int.reduceEq]
        rw [if_pos (by omega)]
    · rw [if_neg q1] at e1 ⊢
      refine ⟨c, F, ?_⟩
      simp (disch := omega) only [v_161_0, u_161_0, x_sipush, x_istore4i, x_istore4r, x_istore4u, x_istore5i, x_istore5r, x_istore5u, x_jsr, x_iload5, x_iload3, x_if_icmp_ge, x_aload1, x_iload2, x_iadd, x_call2_0, x_call2_1, x_call2_2, x_call2_3, x_call2_4, e_k_s, e_k_i, List.nil_append, List.cons_append, x_ifCond_ne, x_ifCond_neb, x_ireturn, u_161_26, k_63_0, x_l2i, x_istore6i, x_istore6r, x_istore6u, x_aload0, k_0_0, x_iload6, x_ifCond_eq, x_ifCond_eqb, x_call1_0, x_call1_1, x_call1_2, x_call1_3, x_call1_4, u_161_60, u_161_63, x_iload4, x_iinc5i, x_iinc5r, x_iinc5u, x_goto, u_161_83, la_64, e1, ↓reduceIte, b01_0, ite_not, if_true, if_false, Int.reduceLT, Int.reduceEq]
      rw [if_pos (by omega)]
end
