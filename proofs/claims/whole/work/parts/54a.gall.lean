/-! ACTS FROM A SHEET, in class and model -/
def gal (I : Nat → Int → Int) (V : Int → Int) (L : Int) : Nat → Int → co → Int → Int → Int × Int × co
  | 0, _, c, s, a => (a, s, c)
  | m + 1, j, c, s, a => if 0 ≤ j ∧ j < L then (if (0 ≤ V j ∧ V j ≤ I 1 9) ∧ ¬ I 1 12 ≤ c.1 then gal I V L m (j + 1) (pas I c (V j)).2 (s + (pas I c (V j)).1) (a + (pas I c (V j)).1) else gal I V L m (j + 1) c s a) else (-12, s, c)
theorem gal_ok {I : Nat → Int → Int} (h : inv I) {V : Int → Int} {L : Int} : ∀ (m : Nat) (j : Int) (c : co) (s a : Int), cok I c → cok I (gal I V L m j c s a).2.2 := by
  intro m
  induction m with
  | zero => intro j c s a hc; exact hc
  | succ m ih =>
    intro j c s a hc
    unfold gal
    by_cases q : 0 ≤ j ∧ j < L
    · rw [if_pos q]
      by_cases q2 : (0 ≤ V j ∧ V j ≤ I 1 9) ∧ ¬ I 1 12 ≤ c.1
      · rw [if_pos q2]
        exact ih _ _ _ _ (pas_ok h hc (by omega) _).1
      · rw [if_neg q2]
        exact ih _ _ _ _ hc
    · rw [if_neg q]
      exact hc
theorem bk_13 {M : Nat → Int → Int} {c : co} {F : Int → Int} {v : Int} : up (bk M c F) 1 13 v = bk (up M 1 13 v) c F := by
  funext a b
  unfold up bk
  (repeat' split) <;> simp_all
section
variable {X : e_X} {d : Nat} {I J M : Nat → Int → Int}
theorem s_pss (h : inv I) (hR : rok I) {c : co} (hc : cok I c) (s : Int) (F : Int → Int) {a : Int} (ha : -1 ≤ a ∧ a ≤ 100000) : ∃ F', s_S X (d + 6) 78 [.ref 1, .int (iI a)] (mm (bk (up I 1 13 s) c F) J) = some ([.int (iI (pas I c a).1)], mm (bk (up I 1 13 (s + (pas I c a).1)) (pas I c a).2 F') J) := by
  have hsq : sq (bk (up I 1 13 s) c F) I := sq_tr sq_bk (sq_up (by omega))
  obtain ⟨F', e⟩ := t_pss (X := X) (d := d) (J := J) (I := bk (up I 1 13 s) c F) (inv_sq hsq hc h) (rok_sq hsq hR) (c := c) (cok_sq hsq hc) F ha
  refine ⟨F', ?_⟩
  rw [pas_sq hsq, bk_bk, bk_13, bk_bk, up_up] at e
  exact e
theorem m_hav {q f k L : Int} (hq : 0 ≤ q ∧ q < 4) (e : I 85 q = L) (hL : 0 ≤ L ∧ L ≤ 40) (hf : rg f) (hk : 0 ≤ k ∧ k ≤ 20) : s_S X (d + 1) 284 [.ref 69, .int (iI q), .int (iI f), .int (iI k)] (mm I J) = some ([.int (iI (if 0 ≤ f ∧ f < L - k then 1 else 0))], mm I J) := by
  simp (disch := omega) only [v_284_69, u_284_0, x_iload2, x_ifCond_lt, x_aload0, k_69_31, x_iload1, x_iload3, x_isub, x_if_icmp_ge, x_sipush, x_goto, u_284_20, x_jsr, u_284_21, x_zret0, x_zret1, x_zretb, ia_85, e, ↓reduceIte, b01_0, ite_not, if_true, if_false, Int.reduceLT, Int.reduceEq]
  (repeat' split) <;> first | rfl | (exfalso; omega)
theorem m_gal (h : inv I) (hE : RE I (M 70)) (hQ : RR I (M 70)) (hR : rok I) {q f n L : Int} {V : Int → Int} (hq : 0 ≤ q ∧ q < 4) (eL : M 85 q = L) (eV : ∀ j, 0 ≤ j → j < 40 → M 86 (40 * q + j) = V j) (hV : ∀ j, 0 ≤ j → j < 40 → rg (V j)) (hL : 0 ≤ L ∧ L ≤ 40) (hf : rg f) (hn : 0 ≤ n ∧ n ≤ 20) {v4 : Int32} : ∀ (m : Nat) (k a : Int) (c : co) (sc : Int) (P : Int → Int) (w : Value), 0 ≤ k → k + m = n → (m = 0 ∨ k = 0 ∨ (0 ≤ f ∧ f ≤ 40)) → (0 ≤ a ∧ a ≤ 21 * k) → cok I c → ∃ P', s_j X (d + 9) 283 41 [.ref 69, .int (iI q), .int (iI f), .int (iI n), .int v4, .int (iI a), .int (iI k), w] [] (mm (mk M (I 1 9) c sc P) J) = some ([.int (iI (gal I V L m (f + k) c sc a).1)], mm (mk M (I 1 9) (gal I V L m (f + k) c sc a).2.2 (gal I V L m (f + k) c sc a).2.1 P') J) := by
  have hn6 := h.1
  have h16 := h.2.2.2.1
  intro m
  induction m with
  | zero =>
    intro k a c sc P w k0 kn hm ha hc
    refine ⟨P, ?_⟩
    rw [u_283_41]
    simp (disch := omega) only [v_283_69, u_283_0, x_iload1, x_call1_0, x_call1_1, x_call1_2, x_call1_3, x_call1_4, e_k_s, e_k_i, List.nil_append, List.cons_append, x_ifCond_eq, x_ifCond_eqb, x_iload3, x_sipush, x_call3_0, x_call3_1, x_call3_2, x_call3_3, x_call3_4, x_ifCond_ne, x_ifCond_neb, x_jsr, u_283_17, x_ireturn, u_283_19, x_aload0, x_istore4i, x_istore4r, x_istore4u, x_iload4, u_283_35, x_istore5i, x_istore5r, x_istore5u, x_istore6i, x_istore6r, x_istore6u, x_iload6, x_if_icmp_ge, x_iload2, x_call4_0, x_call4_1, x_call4_2, x_call4_3, x_call4_4, u_283_61, k_69_32, x_imul, x_iadd, x_istore7i, x_istore7r, x_istore7u, x_iload5, x_iload7, x_call2_0, x_call2_1, x_call2_2, x_call2_3, x_call2_4, x_goto, u_283_104, u_283_105, x_iinc6i, x_iinc6r, x_iinc6u, u_283_114, ia_86, ↓reduceIte, b01_0, ite_not, if_true, if_false, Int.reduceLT, Int.reduceEq]
    rw [if_neg (by omega)]
    rfl
  | succ m ih =>
    intro k a c sc P w k0 kn hm ha hc
    have c1 := hc.1
    have e1 := m_hav (X := X) (d := d + 8) (I := mk M (I 1 9) c sc P) (J := J) (q := q) (f := f) (k := k) hq (e := (by rw [mk_o (by decide) (by decide)]; exact eL)) hL hf (by omega)
    rw [u_283_41]
    unfold gal
    by_cases q1 : 0 ≤ f ∧ f < L - k
    · rw [if_pos q1] at e1
      rw [if_pos (show 0 ≤ f + k ∧ f + k < L by omega)]
      have ev : mk M (I 1 9) c sc P 86 (40 * q + f + k) = V (f + k) := by
        rw [mk_o (by decide) (by decide), Int.add_assoc]
        exact eV _ (by omega) (by omega)
      have vr := hV (f + k) (by omega) (by omega)
      have e2 := m_isa (X := X) (d := d + 7) (I := mk M (I 1 9) c sc P) (J := J) (k := V (f + k)) (n := I 1 9) (by rw [mk_r (by omega)]; exact hE.2.1) ⟨vr, hn6⟩
      have e3 := m_ov (X := X) (d := d + 8) (J := J) (M := M) h hE hc (sc := sc) (P := P)
      by_cases q2 : 0 ≤ V (f + k) ∧ V (f + k) ≤ I 1 9
      · rw [if_pos q2] at e2
        by_cases q3 : I 1 12 ≤ c.1
        · rw [if_pos q3] at e3
          obtain ⟨P', e4⟩ := ih (k + 1) a c sc P (.int (iI (V (f + k)))) (by omega) (by omega) (by omega) (by omega) hc
          refine ⟨P', ?_⟩
          rw [if_neg (fun z => z.2 q3), show f + k + 1 = f + (k + 1) by omega, ← e4]
          simp (disch := omega) only [v_283_69, u_283_0, x_iload1, x_call1_0, x_call1_1, x_call1_2, x_call1_3, x_call1_4, e_k_s, e_k_i, List.nil_append, List.cons_append, x_ifCond_eq, x_ifCond_eqb, x_iload3, x_sipush, x_call3_0, x_call3_1, x_call3_2, x_call3_3, x_call3_4, x_ifCond_ne, x_ifCond_neb, x_jsr, u_283_17, x_ireturn, u_283_19, x_aload0, x_istore4i, x_istore4r, x_istore4u, x_iload4, u_283_35, x_istore5i, x_istore5r, x_istore5u, x_istore6i, x_istore6r, x_istore6u, x_iload6, x_if_icmp_ge, x_iload2, x_call4_0, x_call4_1, x_call4_2, x_call4_3, x_call4_4, u_283_61, k_69_32, x_imul, x_iadd, x_istore7i, x_istore7r, x_istore7u, x_iload5, x_iload7, x_call2_0, x_call2_1, x_call2_2, x_call2_3, x_call2_4, x_goto, u_283_104, u_283_105, x_iinc6i, x_iinc6r, x_iinc6u, u_283_114, ia_86, e1, ev, e2, e3, Int.add_zero, ↓reduceIte, b01_0, ite_not, if_true, if_false, Int.reduceLT, Int.reduceEq]
          rw [if_pos (by omega)]
        · rw [if_neg q3] at e3
          have hp := pas_ok h hc (by omega) (V (f + k))
          obtain ⟨P1, e5⟩ := m_pas (X := X) (d := d + 1) (J := J) (M := M) h hE hQ hR hc (by omega) (sc := sc) P (a := V (f + k)) (by omega)
          obtain ⟨P', e4⟩ := ih (k + 1) (a + (pas I c (V (f + k))).1) (pas I c (V (f + k))).2 (sc + (pas I c (V (f + k))).1) P1 (.int (iI (V (f + k)))) (by omega) (by omega) (by omega) (by omega) hp.1
          refine ⟨P', ?_⟩
          rw [if_pos ⟨q2, q3⟩, show f + k + 1 = f + (k + 1) by omega, ← e4]
          simp (disch := omega) only [v_283_69, u_283_0, x_iload1, x_call1_0, x_call1_1, x_call1_2, x_call1_3, x_call1_4, e_k_s, e_k_i, List.nil_append, List.cons_append, x_ifCond_eq, x_ifCond_eqb, x_iload3, x_sipush, x_call3_0, x_call3_1, x_call3_2, x_call3_3, x_call3_4, x_ifCond_ne, x_ifCond_neb, x_jsr, u_283_17, x_ireturn, u_283_19, x_aload0, x_istore4i, x_istore4r, x_istore4u, x_iload4, u_283_35, x_istore5i, x_istore5r, x_istore5u, x_istore6i, x_istore6r, x_istore6u, x_iload6, x_if_icmp_ge, x_iload2, x_call4_0, x_call4_1, x_call4_2, x_call4_3, x_call4_4, u_283_61, k_69_32, x_imul, x_iadd, x_istore7i, x_istore7r, x_istore7u, x_iload5, x_iload7, x_call2_0, x_call2_1, x_call2_2, x_call2_3, x_call2_4, x_goto, u_283_104, u_283_105, x_iinc6i, x_iinc6r, x_iinc6u, u_283_114, ia_86, e1, ev, e2, e3, e5, ↓reduceIte, b01_0, ite_not, if_true, if_false, Int.reduceLT, Int.reduceEq]
          rw [if_pos (by omega)]
      · rw [if_neg q2] at e2
        obtain ⟨P', e4⟩ := ih (k + 1) a c sc P (.int (iI (V (f + k)))) (by omega) (by omega) (by omega) (by omega) hc
        refine ⟨P', ?_⟩
        rw [if_neg (fun z => q2 z.1), show f + k + 1 = f + (k + 1) by omega, ← e4]
        simp (disch := omega) only [v_283_69, u_283_0, x_iload1, x_call1_0, x_call1_1, x_call1_2, x_call1_3, x_call1_4, e_k_s, e_k_i, List.nil_append, List.cons_append, x_ifCond_eq, x_ifCond_eqb, x_iload3, x_sipush, x_call3_0, x_call3_1, x_call3_2, x_call3_3, x_call3_4, x_ifCond_ne, x_ifCond_neb, x_jsr, u_283_17, x_ireturn, u_283_19, x_aload0, x_istore4i, x_istore4r, x_istore4u, x_iload4, u_283_35, x_istore5i, x_istore5r, x_istore5u, x_istore6i, x_istore6r, x_istore6u, x_iload6, x_if_icmp_ge, x_iload2, x_call4_0, x_call4_1, x_call4_2, x_call4_3, x_call4_4, u_283_61, k_69_32, x_imul, x_iadd, x_istore7i, x_istore7r, x_istore7u, x_iload5, x_iload7, x_call2_0, x_call2_1, x_call2_2, x_call2_3, x_call2_4, x_goto, u_283_104, u_283_105, x_iinc6i, x_iinc6r, x_iinc6u, u_283_114, ia_86, e1, ev, e2, Int.add_zero, ↓reduceIte, b01_0, ite_not, if_true, if_false, Int.reduceLT, Int.reduceEq]
        rw [if_pos (by omega)]
    · rw [if_neg q1] at e1
      refine ⟨P, ?_⟩
      rw [if_neg (show ¬ (0 ≤ f + k ∧ f + k < L) by omega)]
      simp (disch := omega) only [v_283_69, u_283_0, x_iload1, x_call1_0, x_call1_1, x_call1_2, x_call1_3, x_call1_4, e_k_s, e_k_i, List.nil_append, List.cons_append, x_ifCond_eq, x_ifCond_eqb, x_iload3, x_sipush, x_call3_0, x_call3_1, x_call3_2, x_call3_3, x_call3_4, x_ifCond_ne, x_ifCond_neb, x_jsr, u_283_17, x_ireturn, u_283_19, x_aload0, x_istore4i, x_istore4r, x_istore4u, x_iload4, u_283_35, x_istore5i, x_istore5r, x_istore5u, x_istore6i, x_istore6r, x_istore6u, x_iload6, x_if_icmp_ge, x_iload2, x_call4_0, x_call4_1, x_call4_2, x_call4_3, x_call4_4, u_283_61, k_69_32, x_imul, x_iadd, x_istore7i, x_istore7r, x_istore7u, x_iload5, x_iload7, x_call2_0, x_call2_1, x_call2_2, x_call2_3, x_call2_4, x_goto, u_283_104, u_283_105, x_iinc6i, x_iinc6r, x_iinc6u, u_283_114, ia_86, e1, ↓reduceIte, b01_0, ite_not, if_true, if_false, Int.reduceLT, Int.reduceEq]
      rw [if_pos (by omega)]
theorem c_gal57 (h : inv I) (hR : rok I) {f n L : Int} {V : Int → Int} (eL : I 57 2 = L) (eV : ∀ j, 0 ≤ j → j < 40 → J 58 j = V j) (hV : ∀ j, 0 ≤ j → j < 40 → rg (V j)) (hL : 0 ≤ L ∧ L ≤ 40) (hf : rg f) (hn : 0 ≤ n ∧ n ≤ 20) {v1 v5 : Int32} : ∀ (m : Nat) (k a s : Int) (c : co) (F : Int → Int) (w : Value), 0 ≤ k → k + m = n → (m = 0 ∨ k = 0 ∨ (0 ≤ f ∧ f ≤ 40)) → (0 ≤ a ∧ a ≤ 21 * k) → cok I c → ∃ F', s_j X (d + 7) 159 51 [.ref 0, .int v1, .int (iI f), .int (iI n), .ref 57, .int v5, .int (iI a), .int (iI k), w] [] (mm (bk (up I 1 13 s) c F) J) = some ([.int (iI (gal I V L m (f + k) c s a).1)], mm (bk (up I 1 13 (gal I V L m (f + k) c s a).2.1) (gal I V L m (f + k) c s a).2.2 F') J) := by
  have hn6 := h.1
  have h16 := h.2.2.2.1
  intro m
  induction m with
  | zero =>
    intro k a s c F w k0 kn hm ha hc
    refine ⟨F, ?_⟩
    rw [u_159_51]
    simp (disch := omega) only [v_159_0, u_159_0, x_iload1, x_sipush, x_call3_0, x_call3_1, x_call3_2, x_call3_3, x_call3_4, e_k_s, e_k_i, List.nil_append, List.cons_append, x_ifCond_ne, x_ifCond_neb, x_iload3, x_ifCond_eq, x_ifCond_eqb, x_jsr, u_159_19, x_ireturn, u_159_21, x_aload0, k_0_6, x_astore4i, x_astore4r, x_astore4u, x_aload4, x_call2_0, x_call2_1, x_call2_2, x_call2_3, x_call2_4, x_istore5i, x_istore5r, x_istore5u, x_iload5, u_159_45, x_istore6i, x_istore6r, x_istore6u, x_istore7i, x_istore7r, x_istore7u, x_iload7, x_if_icmp_ge, x_iload2, x_iadd, u_159_72, k_57_0, x_l2i, x_istore8i, x_istore8r, x_istore8u, k_0_0, x_iload8, x_call1_0, x_call1_1, x_call1_2, x_call1_3, x_call1_4, x_iload6, u_159_121, x_iinc7i, x_iinc7r, x_iinc7u, x_goto, u_159_127, aa_53_0, aa_53_1, aa_53_2, aa_53_3, la_58, ↓reduceIte, b01_0, ite_not, if_true, if_false, Int.reduceLT, Int.reduceEq]
    rw [if_neg (by omega)]
    rfl
  | succ m ih =>
    intro k a s c F w k0 kn hm ha hc
    have c1 := hc.1
    have hfk : rg (f + k) := by constructor <;> omega
    have e1 : s_S X (d + 6 + 1) 60 [.ref 57, .int (iI (f + k))] (mm (bk (up I 1 13 s) c F) J) = some ([.int (iI (if 0 ≤ f + k ∧ f + k < L then 1 else 0))], mm (bk (up I 1 13 s) c F) J) := by
      have e := s_has57 (X := X) (d := d + 6) (I := bk (up I 1 13 s) c F) (J := J) (by show 0 ≤ I 57 2 ∧ I 57 2 ≤ 40; rw [eL]; exact hL) hfk
      rw [show bk (up I 1 13 s) c F 57 2 = L from eL] at e
      exact e
    rw [u_159_51]
    unfold gal
    by_cases q1 : 0 ≤ f + k ∧ f + k < L
    · rw [if_pos q1] at e1 ⊢
      have ev := eV (f + k) (by omega) (by omega)
      have vr := hV (f + k) (by omega) (by omega)
      have e2 := t_act (X := X) (d := d + 6) (I := bk (up I 1 13 s) c F) (J := J) (k := V (f + k)) (n := I 1 9) vr rfl hn6
      have e3 := t_over (X := X) (d := d + 6) (I := bk (up I 1 13 s) c F) (J := J) (y := c.1) (e := I 1 12) rfl rfl ⟨⟨by omega, by omega⟩, ⟨by omega, by omega⟩⟩
      by_cases q2 : 0 ≤ V (f + k) ∧ V (f + k) ≤ I 1 9
      · rw [if_pos q2] at e2
        by_cases q3 : I 1 12 ≤ c.1
        · rw [if_pos q3] at e3
          obtain ⟨F', e4⟩ := ih (k + 1) a s c F (.int (iI (V (f + k)))) (by omega) (by omega) (by omega) (by omega) hc
          refine ⟨F', ?_⟩
          rw [if_neg (fun z => z.2 q3), show f + k + 1 = f + (k + 1) by omega, ← e4]
          simp (disch := omega) only [v_159_0, u_159_0, x_iload1, x_sipush, x_call3_0, x_call3_1, x_call3_2, x_call3_3, x_call3_4, e_k_s, e_k_i, List.nil_append, List.cons_append, x_ifCond_ne, x_ifCond_neb, x_iload3, x_ifCond_eq, x_ifCond_eqb, x_jsr, u_159_19, x_ireturn, u_159_21, x_aload0, k_0_6, x_astore4i, x_astore4r, x_astore4u, x_aload4, x_call2_0, x_call2_1, x_call2_2, x_call2_3, x_call2_4, x_istore5i, x_istore5r, x_istore5u, x_iload5, u_159_45, x_istore6i, x_istore6r, x_istore6u, x_istore7i, x_istore7r, x_istore7u, x_iload7, x_if_icmp_ge, x_iload2, x_iadd, u_159_72, k_57_0, x_l2i, x_istore8i, x_istore8r, x_istore8u, k_0_0, x_iload8, x_call1_0, x_call1_1, x_call1_2, x_call1_3, x_call1_4, x_iload6, u_159_121, x_iinc7i, x_iinc7r, x_iinc7u, x_goto, u_159_127, aa_53_0, aa_53_1, aa_53_2, aa_53_3, la_58, e1, ev, l2i_i, e2, e3, ↓reduceIte, b01_0, ite_not, if_true, if_false, Int.reduceLT, Int.reduceEq]
          rw [if_pos (by omega)]
        · rw [if_neg q3] at e3
          have hp := pas_ok h hc (by omega) (V (f + k))
          obtain ⟨F1, e5⟩ := s_pss (X := X) (d := d + 1) (J := J) h hR hc s F (a := V (f + k)) (by omega)
          obtain ⟨F', e4⟩ := ih (k + 1) (a + (pas I c (V (f + k))).1) (s + (pas I c (V (f + k))).1) (pas I c (V (f + k))).2 F1 (.int (iI (V (f + k)))) (by omega) (by omega) (by omega) (by omega) hp.1
          refine ⟨F', ?_⟩
          rw [if_pos ⟨q2, q3⟩, show f + k + 1 = f + (k + 1) by omega, ← e4]
          simp (disch := omega) only [v_159_0, u_159_0, x_iload1, x_sipush, x_call3_0, x_call3_1, x_call3_2, x_call3_3, x_call3_4, e_k_s, e_k_i, List.nil_append, List.cons_append, x_ifCond_ne, x_ifCond_neb, x_iload3, x_ifCond_eq, x_ifCond_eqb, x_jsr, u_159_19, x_ireturn, u_159_21, x_aload0, k_0_6, x_astore4i, x_astore4r, x_astore4u, x_aload4, x_call2_0, x_call2_1, x_call2_2, x_call2_3, x_call2_4, x_istore5i, x_istore5r, x_istore5u, x_iload5, u_159_45, x_istore6i, x_istore6r, x_istore6u, x_istore7i, x_istore7r, x_istore7u, x_iload7, x_if_icmp_ge, x_iload2, x_iadd, u_159_72, k_57_0, x_l2i, x_istore8i, x_istore8r, x_istore8u, k_0_0, x_iload8, x_call1_0, x_call1_1, x_call1_2, x_call1_3, x_call1_4, x_iload6, u_159_121, x_iinc7i, x_iinc7r, x_iinc7u, x_goto, u_159_127, aa_53_0, aa_53_1, aa_53_2, aa_53_3, la_58, e1, ev, l2i_i, e2, e3, e5, ↓reduceIte, b01_0, ite_not, if_true, if_false, Int.reduceLT, Int.reduceEq]
          rw [if_pos (by omega)]
      · rw [if_neg q2] at e2
        obtain ⟨F', e4⟩ := ih (k + 1) a s c F (.int (iI (V (f + k)))) (by omega) (by omega) (by omega) (by omega) hc
        refine ⟨F', ?_⟩
        rw [if_neg (fun z => q2 z.1), show f + k + 1 = f + (k + 1) by omega, ← e4]
        simp (disch := omega) only [v_159_0, u_159_0, x_iload1, x_sipush, x_call3_0, x_call3_1, x_call3_2, x_call3_3, x_call3_4, e_k_s, e_k_i, List.nil_append, List.cons_append, x_ifCond_ne, x_ifCond_neb, x_iload3, x_ifCond_eq, x_ifCond_eqb, x_jsr, u_159_19, x_ireturn, u_159_21, x_aload0, k_0_6, x_astore4i, x_astore4r, x_astore4u, x_aload4, x_call2_0, x_call2_1, x_call2_2, x_call2_3, x_call2_4, x_istore5i, x_istore5r, x_istore5u, x_iload5, u_159_45, x_istore6i, x_istore6r, x_istore6u, x_istore7i, x_istore7r, x_istore7u, x_iload7, x_if_icmp_ge, x_iload2, x_iadd, u_159_72, k_57_0, x_l2i, x_istore8i, x_istore8r, x_istore8u, k_0_0, x_iload8, x_call1_0, x_call1_1, x_call1_2, x_call1_3, x_call1_4, x_iload6, u_159_121, x_iinc7i, x_iinc7r, x_iinc7u, x_goto, u_159_127, aa_53_0, aa_53_1, aa_53_2, aa_53_3, la_58, e1, ev, l2i_i, e2, ↓reduceIte, b01_0, ite_not, if_true, if_false, Int.reduceLT, Int.reduceEq]
        rw [if_pos (by omega)]
    · rw [if_neg q1] at e1 ⊢
      refine ⟨F, ?_⟩
      simp (disch := omega) only [v_159_0, u_159_0, x_iload1, x_sipush, x_call3_0, x_call3_1, x_call3_2, x_call3_3, x_call3_4, e_k_s, e_k_i, List.nil_append, List.cons_append, x_ifCond_ne, x_ifCond_neb, x_iload3, x_ifCond_eq, x_ifCond_eqb, x_jsr, u_159_19, x_ireturn, u_159_21, x_aload0, k_0_6, x_astore4i, x_astore4r, x_astore4u, x_aload4, x_call2_0, x_call2_1, x_call2_2, x_call2_3, x_call2_4, x_istore5i, x_istore5r, x_istore5u, x_iload5, u_159_45, x_istore6i, x_istore6r, x_istore6u, x_istore7i, x_istore7r, x_istore7u, x_iload7, x_if_icmp_ge, x_iload2, x_iadd, u_159_72, k_57_0, x_l2i, x_istore8i, x_istore8r, x_istore8u, k_0_0, x_iload8, x_call1_0, x_call1_1, x_call1_2, x_call1_3, x_call1_4, x_iload6, u_159_121, x_iinc7i, x_iinc7r, x_iinc7u, x_goto, u_159_127, aa_53_0, aa_53_1, aa_53_2, aa_53_3, la_58, e1, ↓reduceIte, b01_0, ite_not, if_true, if_false, Int.reduceLT, Int.reduceEq]
      rw [if_pos (by omega)]
theorem c_gal59 (h : inv I) (hR : rok I) {f n L : Int} {V : Int → Int} (eL : I 59 2 = L) (eV : ∀ j, 0 ≤ j → j < 40 → J 60 j = V j) (hV : ∀ j, 0 ≤ j → j < 40 → rg (V j)) (hL : 0 ≤ L ∧ L ≤ 40) (hf : rg f) (hn : 0 ≤ n ∧ n ≤ 20) {v1 v5 : Int32} : ∀ (m : Nat) (k a s : Int) (c : co) (F : Int → Int) (w : Value), 0 ≤ k → k + m = n → (m = 0 ∨ k = 0 ∨ (0 ≤ f ∧ f ≤ 40)) → (0 ≤ a ∧ a ≤ 21 * k) → cok I c → ∃ F', s_j X (d + 7) 159 51 [.ref 0, .int v1, .int (iI f), .int (iI n), .ref 59, .int v5, .int (iI a), .int (iI k), w] [] (mm (bk (up I 1 13 s) c F) J) = some ([.int (iI (gal I V L m (f + k) c s a).1)], mm (bk (up I 1 13 (gal I V L m (f + k) c s a).2.1) (gal I V L m (f + k) c s a).2.2 F') J) := by
  have hn6 := h.1
  have h16 := h.2.2.2.1
  intro m
  induction m with
  | zero =>
    intro k a s c F w k0 kn hm ha hc
    refine ⟨F, ?_⟩
    rw [u_159_51]
    simp (disch := omega) only [v_159_0, u_159_0, x_iload1, x_sipush, x_call3_0, x_call3_1, x_call3_2, x_call3_3, x_call3_4, e_k_s, e_k_i, List.nil_append, List.cons_append, x_ifCond_ne, x_ifCond_neb, x_iload3, x_ifCond_eq, x_ifCond_eqb, x_jsr, u_159_19, x_ireturn, u_159_21, x_aload0, k_0_6, x_astore4i, x_astore4r, x_astore4u, x_aload4, x_call2_0, x_call2_1, x_call2_2, x_call2_3, x_call2_4, x_istore5i, x_istore5r, x_istore5u, x_iload5, u_159_45, x_istore6i, x_istore6r, x_istore6u, x_istore7i, x_istore7r, x_istore7u, x_iload7, x_if_icmp_ge, x_iload2, x_iadd, u_159_72, k_59_0, x_l2i, x_istore8i, x_istore8r, x_istore8u, k_0_0, x_iload8, x_call1_0, x_call1_1, x_call1_2, x_call1_3, x_call1_4, x_iload6, u_159_121, x_iinc7i, x_iinc7r, x_iinc7u, x_goto, u_159_127, aa_53_0, aa_53_1, aa_53_2, aa_53_3, la_60, ↓reduceIte, b01_0, ite_not, if_true, if_false, Int.reduceLT, Int.reduceEq]
    rw [if_neg (by omega)]
    rfl
  | succ m ih =>
    intro k a s c F w k0 kn hm ha hc
    have c1 := hc.1
    have hfk : rg (f + k) := by constructor <;> omega
    have e1 : s_S X (d + 6 + 1) 60 [.ref 59, .int (iI (f + k))] (mm (bk (up I 1 13 s) c F) J) = some ([.int (iI (if 0 ≤ f + k ∧ f + k < L then 1 else 0))], mm (bk (up I 1 13 s) c F) J) := by
      have e := s_has59 (X := X) (d := d + 6) (I := bk (up I 1 13 s) c F) (J := J) (by show 0 ≤ I 59 2 ∧ I 59 2 ≤ 40; rw [eL]; exact hL) hfk
      rw [show bk (up I 1 13 s) c F 59 2 = L from eL] at e
      exact e
    rw [u_159_51]
    unfold gal
    by_cases q1 : 0 ≤ f + k ∧ f + k < L
    · rw [if_pos q1] at e1 ⊢
      have ev := eV (f + k) (by omega) (by omega)
      have vr := hV (f + k) (by omega) (by omega)
      have e2 := t_act (X := X) (d := d + 6) (I := bk (up I 1 13 s) c F) (J := J) (k := V (f + k)) (n := I 1 9) vr rfl hn6
      have e3 := t_over (X := X) (d := d + 6) (I := bk (up I 1 13 s) c F) (J := J) (y := c.1) (e := I 1 12) rfl rfl ⟨⟨by omega, by omega⟩, ⟨by omega, by omega⟩⟩
      by_cases q2 : 0 ≤ V (f + k) ∧ V (f + k) ≤ I 1 9
      · rw [if_pos q2] at e2
        by_cases q3 : I 1 12 ≤ c.1
        · rw [if_pos q3] at e3
          obtain ⟨F', e4⟩ := ih (k + 1) a s c F (.int (iI (V (f + k)))) (by omega) (by omega) (by omega) (by omega) hc
          refine ⟨F', ?_⟩
          rw [if_neg (fun z => z.2 q3), show f + k + 1 = f + (k + 1) by omega, ← e4]
          simp (disch := omega) only [v_159_0, u_159_0, x_iload1, x_sipush, x_call3_0, x_call3_1, x_call3_2, x_call3_3, x_call3_4, e_k_s, e_k_i, List.nil_append, List.cons_append, x_ifCond_ne, x_ifCond_neb, x_iload3, x_ifCond_eq, x_ifCond_eqb, x_jsr, u_159_19, x_ireturn, u_159_21, x_aload0, k_0_6, x_astore4i, x_astore4r, x_astore4u, x_aload4, x_call2_0, x_call2_1, x_call2_2, x_call2_3, x_call2_4, x_istore5i, x_istore5r, x_istore5u, x_iload5, u_159_45, x_istore6i, x_istore6r, x_istore6u, x_istore7i, x_istore7r, x_istore7u, x_iload7, x_if_icmp_ge, x_iload2, x_iadd, u_159_72, k_59_0, x_l2i, x_istore8i, x_istore8r, x_istore8u, k_0_0, x_iload8, x_call1_0, x_call1_1, x_call1_2, x_call1_3, x_call1_4, x_iload6, u_159_121, x_iinc7i, x_iinc7r, x_iinc7u, x_goto, u_159_127, aa_53_0, aa_53_1, aa_53_2, aa_53_3, la_60, e1, ev, l2i_i, e2, e3, ↓reduceIte, b01_0, ite_not, if_true, if_false, Int.reduceLT, Int.reduceEq]
          rw [if_pos (by omega)]
        · rw [if_neg q3] at e3
          have hp := pas_ok h hc (by omega) (V (f + k))
          obtain ⟨F1, e5⟩ := s_pss (X := X) (d := d + 1) (J := J) h hR hc s F (a := V (f + k)) (by omega)
          obtain ⟨F', e4⟩ := ih (k + 1) (a + (pas I c (V (f + k))).1) (s + (pas I c (V (f + k))).1) (pas I c (V (f + k))).2 F1 (.int (iI (V (f + k)))) (by omega) (by omega) (by omega) (by omega) hp.1
          refine ⟨F', ?_⟩
          rw [if_pos ⟨q2, q3⟩, show f + k + 1 = f + (k + 1) by omega, ← e4]
          simp (disch := omega) only [v_159_0, u_159_0, x_iload1, x_sipush, x_call3_0, x_call3_1, x_call3_2, x_call3_3, x_call3_4, e_k_s, e_k_i, List.nil_append, List.cons_append, x_ifCond_ne, x_ifCond_neb, x_iload3, x_ifCond_eq, x_ifCond_eqb, x_jsr, u_159_19, x_ireturn, u_159_21, x_aload0, k_0_6, x_astore4i, x_astore4r, x_astore4u, x_aload4, x_call2_0, x_call2_1, x_call2_2, x_call2_3, x_call2_4, x_istore5i, x_istore5r, x_istore5u, x_iload5, u_159_45, x_istore6i, x_istore6r, x_istore6u, x_istore7i, x_istore7r, x_istore7u, x_iload7, x_if_icmp_ge, x_iload2, x_iadd, u_159_72, k_59_0, x_l2i, x_istore8i, x_istore8r, x_istore8u, k_0_0, x_iload8, x_call1_0, x_call1_1, x_call1_2, x_call1_3, x_call1_4, x_iload6, u_159_121, x_iinc7i, x_iinc7r, x_iinc7u, x_goto, u_159_127, aa_53_0, aa_53_1, aa_53_2, aa_53_3, la_60, e1, ev, l2i_i, e2, e3, e5, ↓reduceIte, b01_0, ite_not, if_true, if_false, Int.reduceLT, Int.reduceEq]
          rw [if_pos (by omega)]
      · rw [if_neg q2] at e2
        obtain ⟨F', e4⟩ := ih (k + 1) a s c F (.int (iI (V (f + k)))) (by omega) (by omega) (by omega) (by omega) hc
        refine ⟨F', ?_⟩
        rw [if_neg (fun z => q2 z.1), show f + k + 1 = f + (k + 1) by omega, ← e4]
        simp (disch := omega) only [v_159_0, u_159_0, x_iload1, x_sipush, x_call3_0, x_call3_1, x_call3_2, x_call3_3, x_call3_4, e_k_s, e_k_i, List.nil_append, List.cons_append, x_ifCond_ne, x_ifCond_neb, x_iload3, x_ifCond_eq, x_ifCond_eqb, x_jsr, u_159_19, x_ireturn, u_159_21, x_aload0, k_0_6, x_astore4i, x_astore4r, x_astore4u, x_aload4, x_call2_0, x_call2_1, x_call2_2, x_call2_3, x_call2_4, x_istore5i, x_istore5r, x_istore5u, x_iload5, u_159_45, x_istore6i, x_istore6r, x_istore6u, x_istore7i, x_istore7r, x_istore7u, x_iload7, x_if_icmp_ge, x_iload2, x_iadd, u_159_72, k_59_0, x_l2i, x_istore8i, x_istore8r, x_istore8u, k_0_0, x_iload8, x_call1_0, x_call1_1, x_call1_2, x_call1_3, x_call1_4, x_iload6, u_159_121, x_iinc7i, x_iinc7r, x_iinc7u, x_goto, u_159_127, aa_53_0, aa_53_1, aa_53_2, aa_53_3, la_60, e1, ev, l2i_i, e2, ↓reduceIte, b01_0, ite_not, if_true, if_false, Int.reduceLT, Int.reduceEq]
        rw [if_pos (by omega)]
    · rw [if_neg q1] at e1 ⊢
      refine ⟨F, ?_⟩
      simp (disch := omega) only [v_159_0, u_159_0, x_iload1, x_sipush, x_call3_0, x_call3_1, x_call3_2, x_call3_3, x_call3_4, e_k_s, e_k_i, List.nil_append, List.cons_append, x_ifCond_ne, x_ifCond_neb, x_iload3, x_ifCond_eq, x_ifCond_eqb, x_jsr, u_159_19, x_ireturn, u_159_21, x_aload0, k_0_6, x_astore4i, x_astore4r, x_astore4u, x_aload4, x_call2_0, x_call2_1, x_call2_2, x_call2_3, x_call2_4, x_istore5i, x_istore5r, x_istore5u, x_iload5, u_159_45, x_istore6i, x_istore6r, x_istore6u, x_istore7i, x_istore7r, x_istore7u, x_iload7, x_if_icmp_ge, x_iload2, x_iadd, u_159_72, k_59_0, x_l2i, x_istore8i, x_istore8r, x_istore8u, k_0_0, x_iload8, x_call1_0, x_call1_1, x_call1_2, x_call1_3, x_call1_4, x_iload6, u_159_121, x_iinc7i, x_iinc7r, x_iinc7u, x_goto, u_159_127, aa_53_0, aa_53_1, aa_53_2, aa_53_3, la_60, e1, ↓reduceIte, b01_0, ite_not, if_true, if_false, Int.reduceLT, Int.reduceEq]
      rw [if_pos (by omega)]
theorem c_gal61 (h : inv I) (hR : rok I) {f n L : Int} {V : Int → Int} (eL : I 61 2 = L) (eV : ∀ j, 0 ≤ j → j < 40 → J 62 j = V j) (hV : ∀ j, 0 ≤ j → j < 40 → rg (V j)) (hL : 0 ≤ L ∧ L ≤ 40) (hf : rg f) (hn : 0 ≤ n ∧ n ≤ 20) {v1 v5 : Int32} : ∀ (m : Nat) (k a s : Int) (c : co) (F : Int → Int) (w : Value), 0 ≤ k → k + m = n → (m = 0 ∨ k = 0 ∨ (0 ≤ f ∧ f ≤ 40)) → (0 ≤ a ∧ a ≤ 21 * k) → cok I c → ∃ F', s_j X (d + 7) 159 51 [.ref 0, .int v1, .int (iI f), .int (iI n), .ref 61, .int v5, .int (iI a), .int (iI k), w] [] (mm (bk (up I 1 13 s) c F) J) = some ([.int (iI (gal I V L m (f + k) c s a).1)], mm (bk (up I 1 13 (gal I V L m (f + k) c s a).2.1) (gal I V L m (f + k) c s a).2.2 F') J) := by
  have hn6 := h.1
  have h16 := h.2.2.2.1
  intro m
  induction m with
  | zero =>
    intro k a s c F w k0 kn hm ha hc
    refine ⟨F, ?_⟩
    rw [u_159_51]
    simp (disch := omega) only [v_159_0, u_159_0, x_iload1, x_sipush, x_call3_0, x_call3_1, x_call3_2, x_call3_3, x_call3_4, e_k_s, e_k_i, List.nil_append, List.cons_append, x_ifCond_ne, x_ifCond_neb, x_iload3, x_ifCond_eq, x_ifCond_eqb, x_jsr, u_159_19, x_ireturn, u_159_21, x_aload0, k_0_6, x_astore4i, x_astore4r, x_astore4u, x_aload4, x_call2_0, x_call2_1, x_call2_2, x_call2_3, x_call2_4, x_istore5i, x_istore5r, x_istore5u, x_iload5, u_159_45, x_istore6i, x_istore6r, x_istore6u, x_istore7i, x_istore7r, x_istore7u, x_iload7, x_if_icmp_ge, x_iload2, x_iadd, u_159_72, k_61_0, x_l2i, x_istore8i, x_istore8r, x_istore8u, k_0_0, x_iload8, x_call1_0, x_call1_1, x_call1_2, x_call1_3, x_call1_4, x_iload6, u_159_121, x_iinc7i, x_iinc7r, x_iinc7u, x_goto, u_159_127, aa_53_0, aa_53_1, aa_53_2, aa_53_3, la_62, ↓reduceIte, b01_0, ite_not, if_true, if_false, Int.reduceLT, Int.reduceEq]
    rw [if_neg (by omega)]
    rfl
  | succ m ih =>
    intro k a s c F w k0 kn hm ha hc
    have c1 := hc.1
    have hfk : rg (f + k) := by constructor <;> omega
    have e1 : s_S X (d + 6 + 1) 60 [.ref 61, .int (iI (f + k))] (mm (bk (up I 1 13 s) c F) J) = some ([.int (iI (if 0 ≤ f + k ∧ f + k < L then 1 else 0))], mm (bk (up I 1 13 s) c F) J) := by
      have e := s_has61 (X := X) (d := d + 6) (I := bk (up I 1 13 s) c F) (J := J) (by show 0 ≤ I 61 2 ∧ I 61 2 ≤ 40; rw [eL]; exact hL) hfk
      rw [show bk (up I 1 13 s) c F 61 2 = L from eL] at e
      exact e
    rw [u_159_51]
    unfold gal
    by_cases q1 : 0 ≤ f + k ∧ f + k < L
    · rw [if_pos q1] at e1 ⊢
      have ev := eV (f + k) (by omega) (by omega)
      have vr := hV (f + k) (by omega) (by omega)
      have e2 := t_act (X := X) (d := d + 6) (I := bk (up I 1 13 s) c F) (J := J) (k := V (f + k)) (n := I 1 9) vr rfl hn6
      have e3 := t_over (X := X) (d := d + 6) (I := bk (up I 1 13 s) c F) (J := J) (y := c.1) (e := I 1 12) rfl rfl ⟨⟨by omega, by omega⟩, ⟨by omega, by omega⟩⟩
      by_cases q2 : 0 ≤ V (f + k) ∧ V (f + k) ≤ I 1 9
      · rw [if_pos q2] at e2
        by_cases q3 : I 1 12 ≤ c.1
        · rw [if_pos q3] at e3
          obtain ⟨F', e4⟩ := ih (k + 1) a s c F (.int (iI (V (f + k)))) (by omega) (by omega) (by omega) (by omega) hc
          refine ⟨F', ?_⟩
          rw [if_neg (fun z => z.2 q3), show f + k + 1 = f + (k + 1) by omega, ← e4]
          simp (disch := omega) only [v_159_0, u_159_0, x_iload1, x_sipush, x_call3_0, x_call3_1, x_call3_2, x_call3_3, x_call3_4, e_k_s, e_k_i, List.nil_append, List.cons_append, x_ifCond_ne, x_ifCond_neb, x_iload3, x_ifCond_eq, x_ifCond_eqb, x_jsr, u_159_19, x_ireturn, u_159_21, x_aload0, k_0_6, x_astore4i, x_astore4r, x_astore4u, x_aload4, x_call2_0, x_call2_1, x_call2_2, x_call2_3, x_call2_4, x_istore5i, x_istore5r, x_istore5u, x_iload5, u_159_45, x_istore6i, x_istore6r, x_istore6u, x_istore7i, x_istore7r, x_istore7u, x_iload7, x_if_icmp_ge, x_iload2, x_iadd, u_159_72, k_61_0, x_l2i, x_istore8i, x_istore8r, x_istore8u, k_0_0, x_iload8, x_call1_0, x_call1_1, x_call1_2, x_call1_3, x_call1_4, x_iload6, u_159_121, x_iinc7i, x_iinc7r, x_iinc7u, x_goto, u_159_127, aa_53_0, aa_53_1, aa_53_2, aa_53_3, la_62, e1, ev, l2i_i, e2, e3, ↓reduceIte, b01_0, ite_not, if_true, if_false, Int.reduceLT, Int.reduceEq]
          rw [if_pos (by omega)]
        · rw [if_neg q3] at e3
          have hp := pas_ok h hc (by omega) (V (f + k))
          obtain ⟨F1, e5⟩ := s_pss (X := X) (d := d + 1) (J := J) h hR hc s F (a := V (f + k)) (by omega)
          obtain ⟨F', e4⟩ := ih (k + 1) (a + (pas I c (V (f + k))).1) (s + (pas I c (V (f + k))).1) (pas I c (V (f + k))).2 F1 (.int (iI (V (f + k)))) (by omega) (by omega) (by omega) (by omega) hp.1
          refine ⟨F', ?_⟩
          rw [if_pos ⟨q2, q3⟩, show f + k + 1 = f + (k + 1) by omega, ← e4]
          simp (disch := omega) only [v_159_0, u_159_0, x_iload1, x_sipush, x_call3_0, x_call3_1, x_call3_2, x_call3_3, x_call3_4, e_k_s, e_k_i, List.nil_append, List.cons_append, x_ifCond_ne, x_ifCond_neb, x_iload3, x_ifCond_eq, x_ifCond_eqb, x_jsr, u_159_19, x_ireturn, u_159_21, x_aload0, k_0_6, x_astore4i, x_astore4r, x_astore4u, x_aload4, x_call2_0, x_call2_1, x_call2_2, x_call2_3, x_call2_4, x_istore5i, x_istore5r, x_istore5u, x_iload5, u_159_45, x_istore6i, x_istore6r, x_istore6u, x_istore7i, x_istore7r, x_istore7u, x_iload7, x_if_icmp_ge, x_iload2, x_iadd, u_159_72, k_61_0, x_l2i, x_istore8i, x_istore8r, x_istore8u, k_0_0, x_iload8, x_call1_0, x_call1_1, x_call1_2, x_call1_3, x_call1_4, x_iload6, u_159_121, x_iinc7i, x_iinc7r, x_iinc7u, x_goto, u_159_127, aa_53_0, aa_53_1, aa_53_2, aa_53_3, la_62, e1, ev, l2i_i, e2, e3, e5, ↓reduceIte, b01_0, ite_not, if_true, if_false, Int.reduceLT, Int.reduceEq]
          rw [if_pos (by omega)]
      · rw [if_neg q2] at e2
        obtain ⟨F', e4⟩ := ih (k + 1) a s c F (.int (iI (V (f + k)))) (by omega) (by omega) (by omega) (by omega) hc
        refine ⟨F', ?_⟩
        rw [if_neg (fun z => q2 z.1), show f + k + 1 = f + (k + 1) by omega, ← e4]
        simp (disch := omega) only [v_159_0, u_159_0, x_iload1, x_sipush, x_call3_0, x_call3_1, x_call3_2, x_call3_3, x_call3_4, e_k_s, e_k_i, List.nil_append, List.cons_append, x_ifCond_ne, x_ifCond_neb, x_iload3, x_ifCond_eq, x_ifCond_eqb, x_jsr, u_159_19, x_ireturn, u_159_21, x_aload0, k_0_6, x_astore4i, x_astore4r, x_astore4u, x_aload4, x_call2_0, x_call2_1, x_call2_2, x_call2_3, x_call2_4, x_istore5i, x_istore5r, x_istore5u, x_iload5, u_159_45, x_istore6i, x_istore6r, x_istore6u, x_istore7i, x_istore7r, x_istore7u, x_iload7, x_if_icmp_ge, x_iload2, x_iadd, u_159_72, k_61_0, x_l2i, x_istore8i, x_istore8r, x_istore8u, k_0_0, x_iload8, x_call1_0, x_call1_1, x_call1_2, x_call1_3, x_call1_4, x_iload6, u_159_121, x_iinc7i, x_iinc7r, x_iinc7u, x_goto, u_159_127, aa_53_0, aa_53_1, aa_53_2, aa_53_3, la_62, e1, ev, l2i_i, e2, ↓reduceIte, b01_0, ite_not, if_true, if_false, Int.reduceLT, Int.reduceEq]
        rw [if_pos (by omega)]
    · rw [if_neg q1] at e1 ⊢
      refine ⟨F, ?_⟩
      simp (disch := omega) only [v_159_0, u_159_0, x_iload1, x_sipush, x_call3_0, x_call3_1, x_call3_2, x_call3_3, x_call3_4, e_k_s, e_k_i, List.nil_append, List.cons_append, x_ifCond_ne, x_ifCond_neb, x_iload3, x_ifCond_eq, x_ifCond_eqb, x_jsr, u_159_19, x_ireturn, u_159_21, x_aload0, k_0_6, x_astore4i, x_astore4r, x_astore4u, x_aload4, x_call2_0, x_call2_1, x_call2_2, x_call2_3, x_call2_4, x_istore5i, x_istore5r, x_istore5u, x_iload5, u_159_45, x_istore6i, x_istore6r, x_istore6u, x_istore7i, x_istore7r, x_istore7u, x_iload7, x_if_icmp_ge, x_iload2, x_iadd, u_159_72, k_61_0, x_l2i, x_istore8i, x_istore8r, x_istore8u, k_0_0, x_iload8, x_call1_0, x_call1_1, x_call1_2, x_call1_3, x_call1_4, x_iload6, u_159_121, x_iinc7i, x_iinc7r, x_iinc7u, x_goto, u_159_127, aa_53_0, aa_53_1, aa_53_2, aa_53_3, la_62, e1, ↓reduceIte, b01_0, ite_not, if_true, if_false, Int.reduceLT, Int.reduceEq]
      rw [if_pos (by omega)]
theorem c_gal63 (h : inv I) (hR : rok I) {f n L : Int} {V : Int → Int} (eL : I 63 2 = L) (eV : ∀ j, 0 ≤ j → j < 40 → J 64 j = V j) (hV : ∀ j, 0 ≤ j → j < 40 → rg (V j)) (hL : 0 ≤ L ∧ L ≤ 40) (hf : rg f) (hn : 0 ≤ n ∧ n ≤ 20) {v1 v5 : Int32} : ∀ (m : Nat) (k a s : Int) (c : co) (F : Int → Int) (w : Value), 0 ≤ k → k + m = n → (m = 0 ∨ k = 0 ∨ (0 ≤ f ∧ f ≤ 40)) → (0 ≤ a ∧ a ≤ 21 * k) → cok I c → ∃ F', s_j X (d + 7) 159 51 [.ref 0, .int v1, .int (iI f), .int (iI n), .ref 63, .int v5, .int (iI a), .int (iI k), w] [] (mm (bk (up I 1 13 s) c F) J) = some ([.int (iI (gal I V L m (f + k) c s a).1)], mm (bk (up I 1 13 (gal I V L m (f + k) c s a).2.1) (gal I V L m (f + k) c s a).2.2 F') J) := by
  have hn6 := h.1
  have h16 := h.2.2.2.1
  intro m
  induction m with
  | zero =>
    intro k a s c F w k0 kn hm ha hc
    refine ⟨F, ?_⟩
    rw [u_159_51]
    simp (disch := omega) only [v_159_0, u_159_0, x_iload1, x_sipush, x_call3_0, x_call3_1, x_call3_2, x_call3_3, x_call3_4, e_k_s, e_k_i, List.nil_append, List.cons_append, x_ifCond_ne, x_ifCond_neb, x_iload3, x_ifCond_eq, x_ifCond_eqb, x_jsr, u_159_19, x_ireturn, u_159_21, x_aload0, k_0_6, x_astore4i, x_astore4r, x_astore4u, x_aload4, x_call2_0, x_call2_1, x_call2_2, x_call2_3, x_call2_4, x_istore5i, x_istore5r, x_istore5u, x_iload5, u_159_45, x_istore6i, x_istore6r, x_istore6u, x_istore7i, x_istore7r, x_istore7u, x_iload7, x_if_icmp_ge, x_iload2, x_iadd, u_159_72, k_63_0, x_l2i, x_istore8i, x_istore8r, x_istore8u, k_0_0, x_iload8, x_call1_0, x_call1_1, x_call1_2, x_call1_3, x_call1_4, x_iload6, u_159_121, x_iinc7i, x_iinc7r, x_iinc7u, x_goto, u_159_127, aa_53_0, aa_53_1, aa_53_2, aa_53_3, la_64, ↓reduceIte, b01_0, ite_not, if_true, if_false, Int.reduceLT, Int.reduceEq]
    rw [if_neg (by omega)]
    rfl
  | succ m ih =>
    intro k a s c F w k0 kn hm ha hc
    have c1 := hc.1
    have hfk : rg (f + k) := by constructor <;> omega
    have e1 : s_S X (d + 6 + 1) 60 [.ref 63, .int (iI (f + k))] (mm (bk (up I 1 13 s) c F) J) = some ([.int (iI (if 0 ≤ f + k ∧ f + k < L then 1 else 0))], mm (bk (up I 1 13 s) c F) J) := by
      have e := s_has63 (X := X) (d := d + 6) (I := bk (up I 1 13 s) c F) (J := J) (by show 0 ≤ I 63 2 ∧ I 63 2 ≤ 40; rw [eL]; exact hL) hfk
      rw [show bk (up I 1 13 s) c F 63 2 = L from eL] at e
      exact e
    rw [u_159_51]
    unfold gal
    by_cases q1 : 0 ≤ f + k ∧ f + k < L
    · rw [if_pos q1] at e1 ⊢
      have ev := eV (f + k) (by omega) (by omega)
      have vr := hV (f + k) (by omega) (by omega)
      have e2 := t_act (X := X) (d := d + 6) (I := bk (up I 1 13 s) c F) (J := J) (k := V (f + k)) (n := I 1 9) vr rfl hn6
      have e3 := t_over (X := X) (d := d + 6) (I := bk (up I 1 13 s) c F) (J := J) (y := c.1) (e := I 1 12) rfl rfl ⟨⟨by omega, by omega⟩, ⟨by omega, by omega⟩⟩
      by_cases q2 : 0 ≤ V (f + k) ∧ V (f + k) ≤ I 1 9
      · rw [if_pos q2] at e2
        by_cases q3 : I 1 12 ≤ c.1
        · rw [if_pos q3] at e3
          obtain ⟨F', e4⟩ := ih (k + 1) a s c F (.int (iI (V (f + k)))) (by omega) (by omega) (by omega) (by omega) hc
          refine ⟨F', ?_⟩
          rw [if_neg (fun z => z.2 q3), show f + k + 1 = f + (k + 1) by omega, ← e4]
          simp (disch := omega) only [v_159_0, u_159_0, x_iload1, x_sipush, x_call3_0, x_call3_1, x_call3_2, x_call3_3, x_call3_4, e_k_s, e_k_i, List.nil_append, List.cons_append, x_ifCond_ne, x_ifCond_neb, x_iload3, x_ifCond_eq, x_ifCond_eqb, x_jsr, u_159_19, x_ireturn, u_159_21, x_aload0, k_0_6, x_astore4i, x_astore4r, x_astore4u, x_aload4, x_call2_0, x_call2_1, x_call2_2, x_call2_3, x_call2_4, x_istore5i, x_istore5r, x_istore5u, x_iload5, u_159_45, x_istore6i, x_istore6r, x_istore6u, x_istore7i, x_istore7r, x_istore7u, x_iload7, x_if_icmp_ge, x_iload2, x_iadd, u_159_72, k_63_0, x_l2i, x_istore8i, x_istore8r, x_istore8u, k_0_0, x_iload8, x_call1_0, x_call1_1, x_call1_2, x_call1_3, x_call1_4, x_iload6, u_159_121, x_iinc7i, x_iinc7r, x_iinc7u, x_goto, u_159_127, aa_53_0, aa_53_1, aa_53_2, aa_53_3, la_64, e1, ev, l2i_i, e2, e3, ↓reduceIte, b01_0, ite_not, if_true, if_false, Int.reduceLT, Int.reduceEq]
          rw [if_pos (by omega)]
        · rw [if_neg q3] at e3
          have hp := pas_ok h hc (by omega) (V (f + k))
          obtain ⟨F1, e5⟩ := s_pss (X := X) (d := d + 1) (J := J) h hR hc s F (a := V (f + k)) (by omega)
          obtain ⟨F', e4⟩ := ih (k + 1) (a + (pas I c (V (f + k))).1) (s + (pas I c (V (f + k))).1) (pas I c (V (f + k))).2 F1 (.int (iI (V (f + k)))) (by omega) (by omega) (by omega) (by omega) hp.1
          refine ⟨F', ?_⟩
          rw [if_pos ⟨q2, q3⟩, show f + k + 1 = f + (k + 1) by omega, ← e4]
          simp (disch := omega) only [v_159_0, u_159_0, x_iload1, x_sipush, x_call3_0, x_call3_1, x_call3_2, x_call3_3, x_call3_4, e_k_s, e_k_i, List.nil_append, List.cons_append, x_ifCond_ne, x_ifCond_neb, x_iload3, x_ifCond_eq, x_ifCond_eqb, x_jsr, u_159_19, x_ireturn, u_159_21, x_aload0, k_0_6, x_astore4i, x_astore4r, x_astore4u, x_aload4, x_call2_0, x_call2_1, x_call2_2, x_call2_3, x_call2_4, x_istore5i, x_istore5r, x_istore5u, x_iload5, u_159_45, x_istore6i, x_istore6r, x_istore6u, x_istore7i, x_istore7r, x_istore7u, x_iload7, x_if_icmp_ge, x_iload2, x_iadd, u_159_72, k_63_0, x_l2i, x_istore8i, x_istore8r, x_istore8u, k_0_0, x_iload8, x_call1_0, x_call1_1, x_call1_2, x_call1_3, x_call1_4, x_iload6, u_159_121, x_iinc7i, x_iinc7r, x_iinc7u, x_goto, u_159_127, aa_53_0, aa_53_1, aa_53_2, aa_53_3, la_64, e1, ev, l2i_i, e2, e3, e5, ↓reduceIte, b01_0, ite_not, if_true, if_false, Int.reduceLT, Int.reduceEq]
          rw [if_pos (by omega)]
      · rw [if_neg q2] at e2
        obtain ⟨F', e4⟩ := ih (k + 1) a s c F (.int (iI (V (f + k)))) (by omega) (by omega) (by omega) (by omega) hc
        refine ⟨F', ?_⟩
        rw [if_neg (fun z => q2 z.1), show f + k + 1 = f + (k + 1) by omega, ← e4]
        simp (disch := omega) only [v_159_0, u_159_0, x_iload1, x_sipush, x_call3_0, x_call3_1, x_call3_2, x_call3_3, x_call3_4, e_k_s, e_k_i, List.nil_append, List.cons_append, x_ifCond_ne, x_ifCond_neb, x_iload3, x_ifCond_eq, x_ifCond_eqb, x_jsr, u_159_19, x_ireturn, u_159_21, x_aload0, k_0_6, x_astore4i, x_astore4r, x_astore4u, x_aload4, x_call2_0, x_call2_1, x_call2_2, x_call2_3, x_call2_4, x_istore5i, x_istore5r, x_istore5u, x_iload5, u_159_45, x_istore6i, x_istore6r, x_istore6u, x_istore7i, x_istore7r, x_istore7u, x_iload7, x_if_icmp_ge, x_iload2, x_iadd, u_159_72, k_63_0, x_l2i, x_istore8i, x_istore8r, x_istore8u, k_0_0, x_iload8, x_call1_0, x_call1_1, x_call1_2, x_call1_3, x_call1_4, x_iload6, u_159_121, x_iinc7i, x_iinc7r, x_iinc7u, x_goto, u_159_127, aa_53_0, aa_53_1, aa_53_2, aa_53_3, la_64, e1, ev, l2i_i, e2, ↓reduceIte, b01_0, ite_not, if_true, if_false, Int.reduceLT, Int.reduceEq]
        rw [if_pos (by omega)]
    · rw [if_neg q1] at e1 ⊢
      refine ⟨F, ?_⟩
      simp (disch := omega) only [v_159_0, u_159_0, x_iload1, x_sipush, x_call3_0, x_call3_1, x_call3_2, x_call3_3, x_call3_4, e_k_s, e_k_i, List.nil_append, List.cons_append, x_ifCond_ne, x_ifCond_neb, x_iload3, x_ifCond_eq, x_ifCond_eqb, x_jsr, u_159_19, x_ireturn, u_159_21, x_aload0, k_0_6, x_astore4i, x_astore4r, x_astore4u, x_aload4, x_call2_0, x_call2_1, x_call2_2, x_call2_3, x_call2_4, x_istore5i, x_istore5r, x_istore5u, x_iload5, u_159_45, x_istore6i, x_istore6r, x_istore6u, x_istore7i, x_istore7r, x_istore7u, x_iload7, x_if_icmp_ge, x_iload2, x_iadd, u_159_72, k_63_0, x_l2i, x_istore8i, x_istore8r, x_istore8u, k_0_0, x_iload8, x_call1_0, x_call1_1, x_call1_2, x_call1_3, x_call1_4, x_iload6, u_159_121, x_iinc7i, x_iinc7r, x_iinc7u, x_goto, u_159_127, aa_53_0, aa_53_1, aa_53_2, aa_53_3, la_64, e1, ↓reduceIte, b01_0, ite_not, if_true, if_false, Int.reduceLT, Int.reduceEq]
      rw [if_pos (by omega)]
end
