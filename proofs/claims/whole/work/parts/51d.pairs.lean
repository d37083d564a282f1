/-! PAIRS: years and what is asked of them -/
section
variable {X : e_X} {d : Nat} {I J : Nat → Int → Int}
theorem pr_q (h : Rel I J) {c cm : Nat} {as : List Value} {v : Int} {I1 I2 : Nat → Int → Int} (e1 : s_S X (d + 30) c (.ref 0 :: as) (mm I J) = some ([.int (iI v)], mm I1 J)) (k1 : kp I I1) (e2 : s_S X (d + 30) cm (.ref 69 :: as) (mm I1 J) = some ([.int (iI v)], mm I2 J)) (k2 : kp I1 I2) : pr X d I J c cm as := ⟨v, I1, J, I2, J, e1, e2, Rel_kp (kp_tr k1 k2) h⟩
theorem kp_mk {M M' : Nat → Int → Int} {n : Int} {c : co} {sc : Int} {P0 P' : Int → Int} (hM : mk M n c sc P0 = M) (h : kp M M') (h70 : M' 70 = M 70) : kp M (mk M' n c sc P') := fun o k q => by
  have h73 := (scr_14 q).2.2.1
  by_cases ho : o = 70
  · subst ho
    have := congrFun (congrFun hM 70) k
    rw [← this]
    unfold mk
    rw [h70]
    rfl
  · unfold mk
    rw [if_neg ho, if_neg h73]
    exact h o k q
theorem kp_mk72 {M : Nat → Int → Int} {n : Int} {c : co} {sc : Int} {P0 P' L : Int → Int} (hM : mk M n c sc P0 = M) : kp M (mk (b72 M L) n c sc P') := kp_mk hM kp_72 (b72_o (by decide))
theorem Rel_mk (h : Rel I J) {B : Nat → Int → Int} {c' : co} {sc : Int} {P' : Int → Int} (hk : ∀ o k, ¬ scr o k → o ≠ 1 → o ≠ 70 → B o k = I o k) (h9 : B 1 9 = I 1 9) (h12 : B 1 12 = I 1 12) (hcB : cof B = c') (hc : cok I c') (h13 : B 1 13 = sc) (h16 : B 70 5 = B 1 16) (hS : ∀ x, x ≠ 5 → B 70 x = I 70 x) : Rel (mk B (I 1 9) c' sc P') J := by
  have hn := h.1.1.1
  have r1 : ∀ k, mk B (I 1 9) c' sc P' 1 k = B 1 k := fun k => by rw [mk_o (by decide) (by decide)]
  refine Rel_go h (fun o k q q1 q2 => ?_) ?_ ?_ ?_ (fun x hx hx2 => ?_) ?_
  · rw [mk_o q2 (scr_14 q).2.2.1]
    exact hk o k q q1 q2
  · rw [r1]; exact h9
  · rw [r1]; exact h12
  · unfold cof
    rw [r1, r1, r1, r1]
    show cok I (cof B)
    rw [hcB]; exact hc
  · rw [mk_r (by omega)]
    exact hS x (by omega)
  · obtain ⟨y, m, sh, st⟩ := c'
    unfold cof at hcB
    simp only [Prod.mk.injEq] at hcB
    obtain ⟨b1, b2, b3, b4⟩ := hcB
    refine ⟨?_, ?_, ?_, ?_, ?_, fun j j0 j1 => ?_⟩
    · rw [mk_0, r1, b1]
    · rw [mk_2, r1, h13]
    · rw [mk_3, r1, b2]
    · rw [mk_4, r1, b3]
    · rw [mk_r (by omega), r1, h16]
    · rw [r1, h9] at j1
      rw [mk_s ⟨j0, j1⟩, r1, b4]
theorem bk_70 {c : co} {F : Int → Int} : bk I c F 70 = I 70 := rfl
theorem q_year (h : Rel I J) : pr X d I J 125 219 [] := by
  have hi := h.1.1
  have hR := h.1.2.1
  have hE := h.1.2.2.2.1
  have hQ := h.1.2.2.2.2.1
  have hC := h.1.2.2.2.2.2.2
  have hc := inv_cof hi
  have h16 := hi.2.2.2.1
  have hy := hi.2.2.1
  have eo := t_over (X := X) (d := d + 28) (I := I) (J := J) (y := I 1 11) (e := I 1 12) rfl rfl ⟨⟨by omega, by omega⟩, ⟨by omega, by omega⟩⟩
  have mo := m_over (X := X) (d := d + 28) (I := I) (J := J) (y := I 1 11) (e := I 1 12) hC.1 hE.1 ⟨⟨by omega, by omega⟩, ⟨by omega, by omega⟩⟩
  by_cases q : I 1 12 ≤ I 1 11
  · rw [if_pos q] at eo mo
    refine ⟨-4, I, J, I, J, ?_, ?_, h⟩
    · simp (disch := omega) only [v_125_0, u_125_0, x_aload0, k_0_0, x_call1_0, x_call1_1, x_call1_2, x_call1_3, x_call1_4, e_k_s, e_k_i, List.nil_append, List.cons_append, x_ifCond_eq, x_ifCond_eqb, x_sipush, x_ireturn, u_125_13, x_call2_0, x_call2_1, x_call2_2, x_call2_3, x_call2_4, eo, ↓reduceIte, b01_0, ite_not, if_true, if_false, Int.reduceLT, Int.reduceEq]
    · simp (disch := omega) only [v_219_69, u_219_0, x_aload0, x_call1_0, x_call1_1, x_call1_2, x_call1_3, x_call1_4, e_k_s, e_k_i, List.nil_append, List.cons_append, x_ifCond_eq, x_ifCond_eqb, x_sipush, x_goto, u_219_12, x_call2_0, x_call2_1, x_call2_2, x_call2_3, x_call2_4, x_jsr, u_219_17, x_ireturn, mo, ↓reduceIte, b01_0, ite_not, if_true, if_false, Int.reduceLT, Int.reduceEq]
  · rw [if_neg q] at eo
    obtain ⟨F', e1⟩ := t_pss (X := X) (d := d + 23) (J := J) hi hR hc (I 14) (a := -1) (by decide)
    rw [bk_self] at e1
    have hp := pas_ok hi hc (show I 1 11 < I 1 12 by omega) (-1)
    have hself : mk (bk (up I 1 13 (I 1 13 + (pas I (cof I) (-1)).1)) (pas I (cof I) (-1)).2 F') (I 1 9) (cof I) (I 1 13) (bk (up I 1 13 (I 1 13 + (pas I (cof I) (-1)).1)) (pas I (cof I) (-1)).2 F' 73) = bk (up I 1 13 (I 1 13 + (pas I (cof I) (-1)).1)) (pas I (cof I) (-1)).2 F' := mk_self2 hC rfl
    obtain ⟨P', e2⟩ := m_pas (X := X) (d := d + 21) (J := J) (M := bk (up I 1 13 (I 1 13 + (pas I (cof I) (-1)).1)) (pas I (cof I) (-1)).2 F') hi hE hQ hR hc (show I 1 11 < I 1 12 by omega) (sc := I 1 13) (bk (up I 1 13 (I 1 13 + (pas I (cof I) (-1)).1)) (pas I (cof I) (-1)).2 F' 73) (a := -1) (by have := hi.1; omega)
    rw [hself] at e2
    have mo2 := m_over (X := X) (d := d + 28) (I := bk (up I 1 13 (I 1 13 + (pas I (cof I) (-1)).1)) (pas I (cof I) (-1)).2 F') (J := J) (y := I 1 11) (e := I 1 12) hC.1 hE.1 ⟨⟨by omega, by omega⟩, ⟨by omega, by omega⟩⟩
    rw [if_neg q] at mo2
    refine ⟨(pas I (cof I) (-1)).1, bk (up I 1 13 (I 1 13 + (pas I (cof I) (-1)).1)) (pas I (cof I) (-1)).2 F', J, mk (bk (up I 1 13 (I 1 13 + (pas I (cof I) (-1)).1)) (pas I (cof I) (-1)).2 F') (I 1 9) (pas I (cof I) (-1)).2 (I 1 13 + (pas I (cof I) (-1)).1) P', J, ?_, ?_, Rel_mk h (B := bk (up I 1 13 (I 1 13 + (pas I (cof I) (-1)).1)) (pas I (cof I) (-1)).2 F') (c' := (pas I (cof I) (-1)).2) (sc := I 1 13 + (pas I (cof I) (-1)).1) (P' := P') (fun o k z q1 q2 => ?_) rfl rfl rfl hp.1 rfl hC.2.2.2.2.1 (fun _ _ => rfl)⟩
    · simp (disch := omega) only [v_125_0, u_125_0, x_aload0, k_0_0, x_call1_0, x_call1_1, x_call1_2, x_call1_3, x_call1_4, e_k_s, e_k_i, List.nil_append, List.cons_append, x_ifCond_eq, x_ifCond_eqb, x_sipush, x_ireturn, u_125_13, x_call2_0, x_call2_1, x_call2_2, x_call2_3, x_call2_4, eo, e1, ↓reduceIte, b01_0, ite_not, if_true, if_false, Int.reduceLT, Int.reduceEq]
    · simp (disch := omega) only [v_219_69, u_219_0, x_aload0, x_call1_0, x_call1_1, x_call1_2, x_call1_3, x_call1_4, e_k_s, e_k_i, List.nil_append, List.cons_append, x_ifCond_eq, x_ifCond_eqb, x_sipush, x_goto, u_219_12, x_call2_0, x_call2_1, x_call2_2, x_call2_3, x_call2_4, x_jsr, u_219_17, x_ireturn, mo2, e2, ↓reduceIte, b01_0, ite_not, if_true, if_false, Int.reduceLT, Int.reduceEq]
    · rw [bk_o q1 (scr_14 z).1, up_o q1]
theorem q_on (h : Rel I J) {a : Int} (ha : rg a) : pr X d I J 129 229 [.int (iI a)] := by
  have hi := h.1.1
  have hc := inv_cof hi
  by_cases q : 0 ≤ a ∧ a ≤ 16
  · obtain ⟨F', e1⟩ := t_rst (X := X) (d := d + 23) (J := J) hi h.1.2.1 hc (I 14) (m := a) (by omega)
    rw [bk_self] at e1
    have hself : mk (bk I (cof I) F') (I 1 9) (cof I) (I 1 13) (bk I (cof I) F' 73) = bk I (cof I) F' := mk_self2 h.1.2.2.2.2.2.2 rfl
    obtain ⟨L, P', e2⟩ := m_on (X := X) (d := d + 20) (J := J) (M := bk I (cof I) F') hi h.1.2.2.2.1 h.1.2.2.2.2.1 h.1.2.1 (n := a) q (I 1 13) (bk I (cof I) F' 73) hc
    rw [hself] at e2
    refine pr_q h (v := rst I (cof I) a) (I1 := bk I (cof I) F') ?_ kp_bk e2 (kp_mk72 hself)
    simp (disch := omega) only [v_129_0, u_129_0, x_iload1, x_sipush, x_call3_0, x_call3_1, x_call3_2, x_call3_3, x_call3_4, e_k_s, e_k_i, List.nil_append, List.cons_append, x_ifCond_eq, x_ifCond_eqb, x_ireturn, u_129_12, x_aload0, k_0_0, x_call2_0, x_call2_1, x_call2_2, x_call2_3, x_call2_4, b_in, e1, ↓reduceIte, b01_0, ite_not, if_true, if_false, Int.reduceLT, Int.reduceEq]
  · refine ⟨-1, I, J, I, J, ?_, ?_, h⟩
    · simp (disch := omega) only [v_129_0, u_129_0, x_iload1, x_sipush, x_call3_0, x_call3_1, x_call3_2, x_call3_3, x_call3_4, e_k_s, e_k_i, List.nil_append, List.cons_append, x_ifCond_eq, x_ifCond_eqb, x_ireturn, u_129_12, x_aload0, k_0_0, x_call2_0, x_call2_1, x_call2_2, x_call2_3, x_call2_4, b_nin, ↓reduceIte, b01_0, ite_not, if_true, if_false, Int.reduceLT, Int.reduceEq]
    · simp (disch := omega) only [v_229_69, u_229_0, x_iload1, x_sipush, x_call3_0, x_call3_1, x_call3_2, x_call3_3, x_call3_4, e_k_s, e_k_i, List.nil_append, List.cons_append, x_ifCond_ne, x_ifCond_neb, x_ireturn, u_229_12, x_aload0, x_call1_0, x_call1_1, x_call1_2, x_call1_3, x_call1_4, x_call2_0, x_call2_1, x_call2_2, x_call2_3, x_call2_4, x_istore2i, x_istore2r, x_istore2u, x_iload2, m_nin, ↓reduceIte, b01_0, ite_not, if_true, if_false, Int.reduceLT, Int.reduceEq]
theorem unt_wht {k : Int} (hi : inv I) (hk : 0 ≤ k ∧ k < 6) : ∀ (n : Nat) (c : co), cok I c → c.1 + n ≤ I 1 12 → unt I (stb 0 k 1) 0 n c = wht I k n c
  | 0, _, _, _ => rfl
  | n + 1, c, hc, hn => by
    have hx := nxt_ok hi hc (by omega)
    obtain ⟨c1, c2, c3, c4⟩ := hx.1
    have h64 := pw_6 hi.1
    have hs := st0_b hk
    have e : hit (stb 0 k 1) 0 (nxt I c) ↔ bt (nxt I c).2.2.2 k = 1 := by
      unfold hit
      have ht := stb0_t hk
      constructor
      · rintro ⟨z, -⟩
        have h1 := (bt_tb (s := stb 0 k 1) (k := k) (by omega)).mp (by rw [ht k hk.1 hk.2, if_pos rfl])
        rw [← z, Int.toNat_natCast, Nat.testBit_and, Bool.and_eq_true] at h1
        exact (bt_tb (by omega)).mpr h1.1
      · intro z
        refine ⟨?_, c3.1⟩
        have z1 := (bt_tb (s := (nxt I c).2.2.2) (k := k) (by omega)).mp z
        have : (nxt I c).2.2.2.toNat &&& (stb 0 k 1).toNat = (stb 0 k 1).toNat := by
          apply Nat.eq_of_testBit_eq
          intro i
          rw [Nat.testBit_and]
          by_cases hi' : (stb 0 k 1).toNat.testBit i = true
          · rw [hi', Bool.and_true]
            by_cases i6 : i < 6
            · have := (bt_tb (s := stb 0 k 1) (k := (i : Int)) (by omega)).mpr (by rw [Int.toNat_natCast]; exact hi')
              rw [ht i (by omega) (by omega)] at this
              by_cases e : (i : Int) = k
              · rw [← e, Int.toNat_natCast] at z1
                exact z1
              · rw [if_neg e] at this
                exact absurd this (by decide)
            · have : (stb 0 k 1).toNat < 2 ^ i := Nat.lt_of_lt_of_le (by omega : (stb 0 k 1).toNat < 2 ^ 6) (Nat.pow_le_pow_right (by decide) (by omega))
              rw [Nat.testBit_lt_two_pow this] at hi'
              exact absurd hi' (by decide)
          · rw [Bool.eq_false_iff.mpr hi', Bool.and_false]
        rw [this]
        omega
    unfold unt wht
    rw [unt_wht hi hk n (nxt I c) hx.1 (by omega)]
    by_cases q : bt (nxt I c).2.2.2 k = 1
    · rw [if_pos (e.mpr q), if_pos q]
    · rw [if_neg (fun z => q (e.mp z)), if_neg q]
theorem unt_ovr {v : Int} : ∀ (n : Nat) (c : co), unt I 0 v n c = ovr I v n c
  | 0, _ => rfl
  | n + 1, c => by
    have e : hit 0 v (nxt I c) ↔ v ≤ (nxt I c).2.2.1 := by
      unfold hit
      rw [show (0 : Int).toNat = 0 from rfl, Nat.and_zero]
      exact ⟨fun z => z.2, fun z => ⟨rfl, z⟩⟩
    unfold unt ovr
    rw [unt_ovr n]
    by_cases q : v ≤ (nxt I c).2.2.1
    · rw [if_pos (e.mpr q), if_pos q]
    · rw [if_neg (fun z => q (e.mp z)), if_neg q]
theorem q_when (h : Rel I J) {a : Int} (ha : rg a) : pr X d I J 130 233 [.int (iI a)] := by
  have hi := h.1.1
  have hn := hi.1
  have hc := inv_cof hi
  have h16 := hi.2.2.2.1
  have hy := hi.2.2.1
  have e6 := h.1.2.2.2.1.2.1
  by_cases q : 0 ≤ a ∧ a < I 1 9
  · have es := t_seat (X := X) (d := d + 28) (I := I) (J := J) (s := I 1 10) (k := a) rfl (inv_s hi) (by omega)
    have hself0 : mk I (I 1 9) (cof I) (I 1 13) (I 73) = I := mk_self h.1.2.2.2.2.2.2
    by_cases q2 : bt (I 1 10) a = 1
    · rw [if_pos q2] at es
      obtain ⟨L, P', e2⟩ := m_when (X := X) (d := d + 21) (J := J) (M := I) hi h.1.2.2.2.1 h.1.2.2.2.2.1 h.1.2.1 (k := a) q (I 1 13) (I 73) hc
      rw [hself0, if_pos (show bt (cof I).2.2.2 a = 1 from q2)] at e2
      refine pr_q h (v := -3) (I1 := I) ?_ (kp_rfl I) e2 (kp_mk72 hself0)
      simp (disch := omega) only [v_130_0, u_130_0, x_aload0, k_0_0, x_iload1, x_call2_0, x_call2_1, x_call2_2, x_call2_3, x_call2_4, e_k_s, e_k_i, List.nil_append, List.cons_append, x_ifCond_ne, x_ifCond_neb, x_sipush, x_ireturn, u_130_13, x_ifCond_eq, x_ifCond_eqb, x_goto, u_130_29, x_ishl, x_call3_0, x_call3_1, x_call3_2, x_call3_3, x_call3_4, x_jsr, u_130_40, t_in, es, ↓reduceIte, b01_0, ite_not, if_true, if_false, Int.reduceLT, Int.reduceEq]
    · rw [if_neg q2] at es
      have e7 := sh1_i (k := a) (by omega)
      have hsb := st0_b (k := a) (by omega)
      obtain ⟨F', e1⟩ := t_unt (X := X) (d := d + 23) (J := J) hi h.1.2.1 hc (I 14) (set := stb 0 a 1) (pl := 0) (by omega) (by decide)
      have ey : (yec I (cof I) 16).toNat = (I 1 12 - I 1 11).toNat := by
        unfold yec cof
        dsimp only
        omega
      rw [bk_self, ey, unt_wht hi (by omega) _ _ hc (by show I 1 11 + _ ≤ _; omega)] at e1
      have hself : mk (bk I (cof I) F') (I 1 9) (cof I) (I 1 13) (bk I (cof I) F' 73) = bk I (cof I) F' := mk_self2 h.1.2.2.2.2.2.2 rfl
      obtain ⟨L, P', e2⟩ := m_when (X := X) (d := d + 21) (J := J) (M := bk I (cof I) F') hi h.1.2.2.2.1 h.1.2.2.2.2.1 h.1.2.1 (k := a) q (I 1 13) (bk I (cof I) F' 73) hc
      rw [hself, if_neg (show ¬ bt (cof I).2.2.2 a = 1 from q2)] at e2
      refine pr_q h (v := wht I a (I 1 12 - I 1 11).toNat (cof I)) (I1 := bk I (cof I) F') ?_ kp_bk e2 (kp_mk72 hself)
      simp (disch := omega) only [v_130_0, u_130_0, x_aload0, k_0_0, x_iload1, x_call2_0, x_call2_1, x_call2_2, x_call2_3, x_call2_4, e_k_s, e_k_i, List.nil_append, List.cons_append, x_ifCond_ne, x_ifCond_neb, x_sipush, x_ireturn, u_130_13, x_ifCond_eq, x_ifCond_eqb, x_goto, u_130_29, x_ishl, x_call3_0, x_call3_1, x_call3_2, x_call3_3, x_call3_4, x_jsr, u_130_40, t_in, es, e7, e1, ↓reduceIte, b01_0, ite_not, if_true, if_false, Int.reduceLT, Int.reduceEq]
  · refine ⟨-1, I, J, I, J, ?_, ?_, h⟩
    · simp (disch := omega) only [v_130_0, u_130_0, x_aload0, k_0_0, x_iload1, x_call2_0, x_call2_1, x_call2_2, x_call2_3, x_call2_4, e_k_s, e_k_i, List.nil_append, List.cons_append, x_ifCond_ne, x_ifCond_neb, x_sipush, x_ireturn, u_130_13, x_ifCond_eq, x_ifCond_eqb, x_goto, u_130_29, x_ishl, x_call3_0, x_call3_1, x_call3_2, x_call3_3, x_call3_4, x_jsr, u_130_40, t_nin, ↓reduceIte, b01_0, ite_not, if_true, if_false, Int.reduceLT, Int.reduceEq]
    · simp (disch := omega) only [v_233_69, u_233_0, x_aload0, x_iload1, x_call2_0, x_call2_1, x_call2_2, x_call2_3, x_call2_4, e_k_s, e_k_i, List.nil_append, List.cons_append, x_ifCond_ne, x_ifCond_neb, x_sipush, x_ireturn, u_233_10, x_call1_0, x_call1_1, x_call1_2, x_call1_3, x_call1_4, x_istore2i, x_istore2r, x_istore2u, x_call3_0, x_call3_1, x_call3_2, x_call3_3, x_call3_4, x_goto, u_233_30, x_jsr, u_233_31, x_istore3i, x_istore3r, x_istore3u, u_233_32, x_iload3, x_ifCond_eq, x_ifCond_eqb, x_istore4i, x_istore4r, x_istore4u, u_233_63, u_233_64, x_iload4, x_ifCond_ge, u_233_74, u_233_79, k_69_0, x_isub, u_233_87, u_233_91, x_iload2, ia_70, m_pnin, ↓reduceIte, b01_0, ite_not, if_true, if_false, Int.reduceLT, Int.reduceEq]
theorem q_over (h : Rel I J) {a : Int} (ha : rg a) : pr X d I J 133 237 [.int (iI a)] := by
  have hi := h.1.1
  have hc := inv_cof hi
  have h16 := hi.2.2.2.1
  have hy := hi.2.2.1
  by_cases q : 0 ≤ a ∧ a ≤ 40
  · obtain ⟨F', e1⟩ := t_unt (X := X) (d := d + 23) (J := J) hi h.1.2.1 hc (I 14) (set := 0) (pl := a) (by decide) q
    have ey : (yec I (cof I) 16).toNat = (I 1 12 - I 1 11).toNat := by
      unfold yec cof
      dsimp only
      omega
    rw [bk_self, ey, unt_ovr] at e1
    have hself : mk (bk I (cof I) F') (I 1 9) (cof I) (I 1 13) (bk I (cof I) F' 73) = bk I (cof I) F' := mk_self2 h.1.2.2.2.2.2.2 rfl
    obtain ⟨L, P', e2⟩ := m_ovr (X := X) (d := d + 21) (J := J) (M := bk I (cof I) F') hi h.1.2.2.2.1 h.1.2.2.2.2.1 h.1.2.1 (v := a) q (I 1 13) (bk I (cof I) F' 73) hc
    rw [hself] at e2
    refine pr_q h (v := ovr I a (I 1 12 - I 1 11).toNat (cof I)) (I1 := bk I (cof I) F') ?_ kp_bk e2 (kp_mk72 hself)
    simp (disch := omega) only [v_133_0, u_133_0, x_iload1, x_sipush, x_call3_0, x_call3_1, x_call3_2, x_call3_3, x_call3_4, e_k_s, e_k_i, List.nil_append, List.cons_append, x_ifCond_eq, x_ifCond_eqb, x_ireturn, u_133_12, x_aload0, k_0_0, b_in, e1, ↓reduceIte, b01_0, ite_not, if_true, if_false, Int.reduceLT, Int.reduceEq]
  · refine ⟨-1, I, J, I, J, ?_, ?_, h⟩
    · simp (disch := omega) only [v_133_0, u_133_0, x_iload1, x_sipush, x_call3_0, x_call3_1, x_call3_2, x_call3_3, x_call3_4, e_k_s, e_k_i, List.nil_append, List.cons_append, x_ifCond_eq, x_ifCond_eqb, x_ireturn, u_133_12, x_aload0, k_0_0, b_nin, ↓reduceIte, b01_0, ite_not, if_true, if_false, Int.reduceLT, Int.reduceEq]
    · simp (disch := omega) only [v_237_69, u_237_0, x_iload1, x_sipush, x_call3_0, x_call3_1, x_call3_2, x_call3_3, x_call3_4, e_k_s, e_k_i, List.nil_append, List.cons_append, x_ifCond_ne, x_ifCond_neb, x_ireturn, u_237_12, x_aload0, x_call1_0, x_call1_1, x_call1_2, x_call1_3, x_call1_4, x_istore2i, x_istore2r, x_istore2u, x_jsr, u_237_19, x_iload2, x_if_icmp_ne, x_call2_0, x_call2_1, x_call2_2, x_call2_3, x_call2_4, x_istore3i, x_istore3r, x_istore3u, k_69_0, x_if_icmp_lt, x_iload3, x_ifCond_lt, x_isub, x_goto, u_237_63, u_237_65, u_237_69, ia_70, m_nin, ↓reduceIte, b01_0, ite_not, if_true, if_false, Int.reduceLT, Int.reduceEq]
theorem q_widthFor (h : Rel I J) {a : Int} (ha : rg a) : pr X d I J 131 234 [.int (iI a)] := by
  have hi := h.1.1
  have hn := hi.1
  have hc := inv_cof hi
  have e6 := h.1.2.2.2.1.2.1
  by_cases q : 0 ≤ a ∧ a < I 1 9
  · obtain ⟨F', e1⟩ := t_bsv (X := X) (d := d + 22) (J := J) hi h.1.2.1 (o := 4) (hi := 9) (by omega) (k := a) (by omega) hc (I 14)
    rw [bk_self] at e1
    have hself : mk (bk I (cof I) F') (I 1 9) (cof I) (I 1 13) (bk I (cof I) F' 73) = bk I (cof I) F' := mk_self2 h.1.2.2.2.2.2.2 rfl
    obtain ⟨L, P', e2⟩ := m_bf (X := X) (d := d + 19) (J := J) (M := bk I (cof I) F') hi h.1.2.2.2.1 h.1.2.2.2.2.1 h.1.2.1 (o := 4) (f := 2) (hi := 9) (by omega) (k := a) q hc (I 1 13) (bk I (cof I) F' 73)
    rw [hself] at e2
    refine pr_q h (v := bsv I 4 a (cof I) ((9 : Int) + 1).toNat 0 0 (-1)) (I1 := bk I (cof I) F') ?_ kp_bk (I2 := mk (b72 (bk I (cof I) F') L) (I 1 9) (cof I) (I 1 13) P') ?_ (kp_mk72 hself)
    · simp (disch := omega) only [v_131_0, u_131_0, x_aload0, k_0_0, x_iload1, x_call2_0, x_call2_1, x_call2_2, x_call2_3, x_call2_4, e_k_s, e_k_i, List.nil_append, List.cons_append, x_ifCond_ne, x_ifCond_neb, x_sipush, x_ireturn, u_131_13, k_1_2, x_call4_0, x_call4_1, x_call4_2, x_call4_3, x_call4_4, t_in, e1, ↓reduceIte, b01_0, ite_not, if_true, if_false, Int.reduceLT, Int.reduceEq]
    · simp (disch := omega) only [v_234_69, u_234_0, x_aload0, x_iload1, x_sipush, x_call4_0, x_call4_1, x_call4_2, x_call4_3, x_call4_4, e_k_s, e_k_i, List.nil_append, List.cons_append, x_ireturn, e2, ↓reduceIte, b01_0, ite_not, if_true, if_false, Int.reduceLT, Int.reduceEq]
  · refine ⟨-1, I, J, I, J, ?_, ?_, h⟩
    · simp (disch := omega) only [v_131_0, u_131_0, x_aload0, k_0_0, x_iload1, x_call2_0, x_call2_1, x_call2_2, x_call2_3, x_call2_4, e_k_s, e_k_i, List.nil_append, List.cons_append, x_ifCond_ne, x_ifCond_neb, x_sipush, x_ireturn, u_131_13, k_1_2, x_call4_0, x_call4_1, x_call4_2, x_call4_3, x_call4_4, t_nin, ↓reduceIte, b01_0, ite_not, if_true, if_false, Int.reduceLT, Int.reduceEq]
    · simp (disch := omega) only [v_234_69, u_234_0, x_aload0, x_iload1, x_sipush, x_call4_0, x_call4_1, x_call4_2, x_call4_3, x_call4_4, e_k_s, e_k_i, List.nil_append, List.cons_append, x_ireturn, v_235_69, u_235_0, x_call2_0, x_call2_1, x_call2_2, x_call2_3, x_call2_4, x_ifCond_ne, x_ifCond_neb, u_235_10, x_istore4i, x_istore4r, x_istore4u, x_istore5i, x_istore5r, x_istore5u, x_call1_0, x_call1_1, x_call1_2, x_call1_3, x_call1_4, x_istore6i, x_istore6r, x_istore6u, x_jsr, x_iload6, x_iload3, x_if_icmp_gt, x_iload2, x_istore7i, x_istore7r, x_istore7u, x_iload7, x_iload5, x_if_icmp_le, x_goto, u_235_57, x_iload4, u_235_59, u_235_73, u_235_75, x_iinc6i, x_iinc6r, x_iinc6u, u_235_87, m_pnin, ↓reduceIte, b01_0, ite_not, if_true, if_false, Int.reduceLT, Int.reduceEq]
theorem q_pieceFor (h : Rel I J) {a : Int} (ha : rg a) : pr X d I J 132 236 [.int (iI a)] := by
  have hi := h.1.1
  have hn := hi.1
  have hc := inv_cof hi
  have e6 := h.1.2.2.2.1.2.1
  by_cases q : 0 ≤ a ∧ a < I 1 9
  · obtain ⟨F', e1⟩ := t_bsv (X := X) (d := d + 22) (J := J) hi h.1.2.1 (o := 3) (hi := 39) (by omega) (k := a) (by omega) hc (I 14)
    rw [bk_self] at e1
    have hself : mk (bk I (cof I) F') (I 1 9) (cof I) (I 1 13) (bk I (cof I) F' 73) = bk I (cof I) F' := mk_self2 h.1.2.2.2.2.2.2 rfl
    obtain ⟨L, P', e2⟩ := m_bf (X := X) (d := d + 19) (J := J) (M := bk I (cof I) F') hi h.1.2.2.2.1 h.1.2.2.2.2.1 h.1.2.1 (o := 3) (f := 1) (hi := 39) (by omega) (k := a) q hc (I 1 13) (bk I (cof I) F' 73)
    rw [hself] at e2
    refine pr_q h (v := bsv I 3 a (cof I) ((39 : Int) + 1).toNat 0 0 (-1)) (I1 := bk I (cof I) F') ?_ kp_bk (I2 := mk (b72 (bk I (cof I) F') L) (I 1 9) (cof I) (I 1 13) P') ?_ (kp_mk72 hself)
    · simp (disch := omega) only [v_132_0, u_132_0, x_aload0, k_0_0, x_iload1, x_call2_0, x_call2_1, x_call2_2, x_call2_3, x_call2_4, e_k_s, e_k_i, List.nil_append, List.cons_append, x_ifCond_ne, x_ifCond_neb, x_sipush, x_ireturn, u_132_13, k_1_1, x_call4_0, x_call4_1, x_call4_2, x_call4_3, x_call4_4, t_in, e1, ↓reduceIte, b01_0, ite_not, if_true, if_false, Int.reduceLT, Int.reduceEq]
    · simp (disch := omega) only [v_236_69, u_236_0, x_aload0, x_iload1, x_sipush, x_call4_0, x_call4_1, x_call4_2, x_call4_3, x_call4_4, e_k_s, e_k_i, List.nil_append, List.cons_append, x_ireturn, e2, ↓reduceIte, b01_0, ite_not, if_true, if_false, Int.reduceLT, Int.reduceEq]
  · refine ⟨-1, I, J, I, J, ?_, ?_, h⟩
    · simp (disch := omega) only [v_132_0, u_132_0, x_aload0, k_0_0, x_iload1, x_call2_0, x_call2_1, x_call2_2, x_call2_3, x_call2_4, e_k_s, e_k_i, List.nil_append, List.cons_append, x_ifCond_ne, x_ifCond_neb, x_sipush, x_ireturn, u_132_13, k_1_1, x_call4_0, x_call4_1, x_call4_2, x_call4_3, x_call4_4, t_nin, ↓reduceIte, b01_0, ite_not, if_true, if_false, Int.reduceLT, Int.reduceEq]
    · simp (disch := omega) only [v_236_69, u_236_0, x_aload0, x_iload1, x_sipush, x_call4_0, x_call4_1, x_call4_2, x_call4_3, x_call4_4, e_k_s, e_k_i, List.nil_append, List.cons_append, x_ireturn, v_235_69, u_235_0, x_call2_0, x_call2_1, x_call2_2, x_call2_3, x_call2_4, x_ifCond_ne, x_ifCond_neb, u_235_10, x_istore4i, x_istore4r, x_istore4u, x_istore5i, x_istore5r, x_istore5u, x_call1_0, x_call1_1, x_call1_2, x_call1_3, x_call1_4, x_istore6i, x_istore6r, x_istore6u, x_jsr, x_iload6, x_iload3, x_if_icmp_gt, x_iload2, x_istore7i, x_istore7r, x_istore7u, x_iload7, x_iload5, x_if_icmp_le, x_goto, u_235_57, x_iload4, u_235_59, u_235_73, u_235_75, x_iinc6i, x_iinc6r, x_iinc6u, u_235_87, m_pnin, ↓reduceIte, b01_0, ite_not, if_true, if_false, Int.reduceLT, Int.reduceEq]
end
