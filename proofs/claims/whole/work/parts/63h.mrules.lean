/-! THE MODEL reads rules -/
def mrd (K : Int → Int) : List rle → Prop
  | [] => True
  | r :: t => K (3 * t.length) = r.1 ∧ K (3 * t.length + 1) = r.2.1 ∧ K (3 * t.length + 2) = off r.2.2 ∧ mrd K t
theorem mrd_up {K : Int → Int} {k x : Int} : ∀ {R : List rle}, 3 * (R.length : Int) ≤ k → mrd K R → mrd (upf K k x) R
  | [], _, _ => trivial
  | p :: t, h, hp => by
    rw [ll] at h
    refine ⟨?_, ?_, ?_, mrd_up (R := t) (by omega) hp.2.2.2⟩
    · show (if 3 * (t.length : Int) = k then x else K (3 * t.length)) = _
      rw [if_neg (by omega)]
      exact hp.1
    · show (if 3 * (t.length : Int) + 1 = k then x else K (3 * t.length + 1)) = _
      rw [if_neg (by omega)]
      exact hp.2.1
    · show (if 3 * (t.length : Int) + 2 = k then x else K (3 * t.length + 2)) = _
      rw [if_neg (by omega)]
      exact hp.2.2.1
theorem tpm_up {M : Nat → Int → Int} {A : Int → Int} {n : Int} {o : Nat} {k x : Int} (h1 : o ≠ 74) (h2 : o ≠ 75) (h3 : o ≠ 69 ∨ k ≠ 6) (h : tpm M A n) : tpm (up M o k x) A n := by
  obtain ⟨a1, a2, a3, a4⟩ := h
  refine ⟨a1, ?_, fun i i0 i1 => ?_, fun i hi => ?_⟩
  · unfold up
    rw [if_neg (by omega)]
    exact a2
  · unfold up
    rw [if_neg (by omega)]
    exact a3 i i0 i1
  · unfold up
    rw [if_neg (by omega)]
    exact a4 i hi
section
variable {X : e_X} {d : Nat} {M I J : Nat → Int → Int} {b op : Int} {A : Int → Int} {n : Int} {C : List prt}
theorem msx_77 {k x : Int} (h : msx M A n I b C op) : msx (up M 77 k x) A n (up I 77 k x) b C op := by
  obtain ⟨v, Sp, rfl, h1, h2⟩ := h
  exact ⟨v, Sp, md_i_77, h1, h2⟩
theorem msx_o {x : Int} (h : msx M A n I b C op) : msx M A n (up I 69 12 x) b C x := by
  obtain ⟨v, Sp, rfl, h1, h2⟩ := h
  exact ⟨v, Sp, md_u_69_12, h1, h2⟩
theorem msx_st (h : msx M A n I b C op) : I 69 13 = off C ∧ I 69 9 = b ∧ I 69 6 = M 69 6 ∧ (∀ k, I 77 k = M 77 k) ∧ (∀ k, I 70 k = M 70 k) := by
  obtain ⟨v, Sp, rfl, h1, h2⟩ := h
  exact ⟨rfl, rfl, rfl, fun _ => rfl, fun _ => rfl⟩
/-- a rule's condition, behind the kind -/
theorem m_R0 (hT : tpm M A n) (hb : 0 ≤ b ∧ b ≤ n) (ho : off C ≤ b) (h : msx M A n I b C 0) {r : Int} : ∃ I', ((pR0 A n b C).1 = true → e_k (s_S X (d + 21) 180 [.ref 69, .int (iI 9)] (mm I J)) (fun q m => s_x X (d + 21) 179 [.ifCond .eq 59, .aload 0, .invokeinterface 181 1, .ifCond .ne 59, .sipush 0, .areturn] [.ref 69, .int (iI r)] (q ++ []) m) = s_j X (d + 21) 179 59 [.ref 69, .int (iI r)] [] (mm I' J) ∧ msx M A n I' (pR0 A n b C).2.1 (pR0 A n b C).2.2 0) ∧ ((pR0 A n b C).1 = false → e_k (s_S X (d + 21) 180 [.ref 69, .int (iI 9)] (mm I J)) (fun q m => s_x X (d + 21) 179 [.ifCond .eq 59, .aload 0, .invokeinterface 181 1, .ifCond .ne 59, .sipush 0, .areturn] [.ref 69, .int (iI r)] (q ++ []) m) = some ([.int (iI 0)], mm I' J) ∧ mft M I' (pR0 A n b C).2.1) := by
  have tl := tk_low (tpm_b hT hb.1)
  unfold pR0
  by_cases q : wd A n b = 9
  · rw [if_pos q]
    have n1 := ns_lt (A := A) hb.2 (by omega)
    obtain ⟨I1, e1, h1⟩ := m_take1 (X := X) (d := d + 16) (J := J) hT hb (x := 9) (by rw [tl.2 (by omega)]; exact q) h
    obtain ⟨I2, e2, h2, h3⟩ := m_cond (X := X) (d := d) (J := J) hT (ns A n b) C I1 ⟨by omega, n1.2⟩ trivial (by omega) h1
    generalize pC A n (pW A n 3) (ns A n b) C = y at e2 h2 h3 ⊢
    refine ⟨I2, fun z => ⟨?_, h2 z⟩, fun z => ⟨?_, h3 z⟩⟩
    · rw [if_pos z] at e2
      simp (disch := omega) only [v_179_69, u_179_0, x_iload1, x_sipush, x_if_icmp_eq, x_aload0, f_69_10, x_call3_0, x_call3_1, x_call3_2, x_call3_3, x_call3_4, e_k_s, e_k_i, List.nil_append, List.cons_append, x_ifCond_ne, x_ifCond_neb, x_jsr, u_179_18, x_zret0, x_zret1, x_zretb, u_179_20, k_69_15, x_imul, x_call1_0, x_call1_1, x_call1_2, x_call1_3, x_call1_4, p_69_12, x_call2_0, x_call2_1, x_call2_2, x_call2_3, x_call2_4, x_ifCond_eq, x_ifCond_eqb, u_179_75, x_iadd, x_isub, f_69_13, is_77, e1, e2, ↓reduceIte, b01_0, ite_not, if_true, if_false, Int.reduceLT, Int.reduceEq]
    · rw [if_neg (by rw [z]; decide)] at e2
      simp (disch := omega) only [v_179_69, u_179_0, x_iload1, x_sipush, x_if_icmp_eq, x_aload0, f_69_10, x_call3_0, x_call3_1, x_call3_2, x_call3_3, x_call3_4, e_k_s, e_k_i, List.nil_append, List.cons_append, x_ifCond_ne, x_ifCond_neb, x_jsr, u_179_18, x_zret0, x_zret1, x_zretb, u_179_20, k_69_15, x_imul, x_call1_0, x_call1_1, x_call1_2, x_call1_3, x_call1_4, p_69_12, x_call2_0, x_call2_1, x_call2_2, x_call2_3, x_call2_4, x_ifCond_eq, x_ifCond_eqb, u_179_75, x_iadd, x_isub, f_69_13, is_77, e1, e2, ↓reduceIte, b01_0, ite_not, if_true, if_false, Int.reduceLT, Int.reduceEq]
  · rw [if_neg q]
    have e1 := m_take0 (X := X) (d := d + 16) (J := J) hT hb (x := 9) (fun y => q (by have := tl.1.mp (by omega); have := tl.2 this; omega)) (by decide) h
    refine ⟨I, fun _ => ⟨?_, h⟩, fun z => (by cases z)⟩
    simp (disch := omega) only [v_179_69, u_179_0, x_iload1, x_sipush, x_if_icmp_eq, x_aload0, f_69_10, x_call3_0, x_call3_1, x_call3_2, x_call3_3, x_call3_4, e_k_s, e_k_i, List.nil_append, List.cons_append, x_ifCond_ne, x_ifCond_neb, x_jsr, u_179_18, x_zret0, x_zret1, x_zretb, u_179_20, k_69_15, x_imul, x_call1_0, x_call1_1, x_call1_2, x_call1_3, x_call1_4, p_69_12, x_call2_0, x_call2_1, x_call2_2, x_call2_3, x_call2_4, x_ifCond_eq, x_ifCond_eqb, u_179_75, x_iadd, x_isub, f_69_13, is_77, e1, ↓reduceIte, b01_0, ite_not, if_true, if_false, Int.reduceLT, Int.reduceEq]
def m3 (M : Nat → Int → Int) (r kd wl e : Int) : Nat → Int → Int := up (up (up M 77 (3 * r) kd) 77 (3 * r + 1) wl) 77 (3 * r + 2) e
/-- outside the row of rules read -/
def k77 (M M' : Nat → Int → Int) : Prop := ∀ o k, o ≠ 77 → M' o k = M o k
theorem k77_up {k x : Int} : k77 M (up M 77 k x) := fun o q h => by
  unfold up
  rw [if_neg (fun z => h z.1)]
theorem k77_tr {M' M'' : Nat → Int → Int} (h : k77 M M') (h' : k77 M' M'') : k77 M M'' := fun o k q => (h' o k q).trans (h o k q)
theorem m_R {r : Int} (hr : 0 ≤ r ∧ r < 8) (hT : tpm M A n) (hb : 0 ≤ b ∧ b ≤ n) (ho : off C ≤ b) (h : msx M A n I b C op) : ∃ I' M', s_S X (d + 22) 179 [.ref 69, .int (iI r)] (mm I J) = some ([.int (iI (if (pR A n b C).1 = true then 1 else 0))], mm I' J) ∧ k77 M M' ∧ ((pR A n b C).1 = true → M' = m3 M r (wd A n b) (wd A n (pR0 A n (ns A n b) C).2.1 - 6) (off (pR A n b C).2.2) ∧ msx M' A n I' (pR A n b C).2.1 (pR A n b C).2.2 0) ∧ ((pR A n b C).1 = false → mft M' I' (pR A n b C).2.1) := by
  have hn := hT.1
  have tb := tk_b (tpm_b hT hb.1)
  have tl := tk_low (tpm_b hT hb.1)
  have wb := wd_b (A := A) (n := n) (b := b)
  have hf := (msx_f h).1
  have r8 : ¬ r = 8 := by omega
  unfold pR
  by_cases c1 : wd A n b ≤ 5
  · rw [if_pos c1]
    have n1 := ns_lt (A := A) hb.2 (by omega)
    have t0 := tl.2 (by omega)
    have e3 := fun N => m_in (X := X) (d := d + 20) (I := N) (J := J) (v := tk A n b) (a := 0) (b := 5) (by omega) ⟨by omega, by decide, by decide⟩
    have hT1 : tpm (up M 77 (3 * r) (wd A n b)) A n := tpm_up (by decide) (by decide) (Or.inl (by decide)) hT
    have h1 := msx_77 (k := 3 * r) (x := wd A n b) h
    obtain ⟨I1, e1, h2⟩ := m_adv (X := X) (d := d + 17) (J := J) hT1 hb h1
    obtain ⟨I2, hR1, hR2⟩ := m_R0 (X := X) (d := d) (J := J) hT1 (b := ns A n b) (C := C) ⟨by omega, n1.2⟩ (by omega) (msx_o (x := 0) h2) (r := r)
    have step : ∀ z : e_R, e_k (s_S X (d + 21) 180 [.ref 69, .int (iI 9)] (mm (up I1 69 12 0) J)) (fun q m => s_x X (d + 21) 179 [.ifCond .eq 59, .aload 0, .invokeinterface 181 1, .ifCond .ne 59, .sipush 0, .areturn] [.ref 69, .int (iI r)] (q ++ []) m) = z → s_S X (d + 22) 179 [.ref 69, .int (iI r)] (mm I J) = z := by
      intro z hz
      rw [← hz]
      simp (disch := omega) only [v_179_69, u_179_0, x_iload1, x_sipush, x_if_icmp_eq, x_aload0, f_69_10, x_call3_0, x_call3_1, x_call3_2, x_call3_3, x_call3_4, e_k_s, e_k_i, List.nil_append, List.cons_append, x_ifCond_ne, x_ifCond_neb, x_jsr, u_179_18, x_zret0, x_zret1, x_zretb, u_179_20, k_69_15, x_imul, x_call1_0, x_call1_1, x_call1_2, x_call1_3, x_call1_4, p_69_12, x_call2_0, x_call2_1, x_call2_2, x_call2_3, x_call2_4, x_ifCond_eq, x_ifCond_eqb, u_179_75, x_iadd, x_isub, f_69_13, is_77, hf, r8, e3, ↓reduceIte, b01_0, ite_not, if_true, if_false, Int.reduceLT, Int.reduceEq]
      rw [t0]
      simp (disch := omega) only [v_179_69, u_179_0, x_iload1, x_sipush, x_if_icmp_eq, x_aload0, f_69_10, x_call3_0, x_call3_1, x_call3_2, x_call3_3, x_call3_4, e_k_s, e_k_i, List.nil_append, List.cons_append, x_ifCond_ne, x_ifCond_neb, x_jsr, u_179_18, x_zret0, x_zret1, x_zretb, u_179_20, k_69_15, x_imul, x_call1_0, x_call1_1, x_call1_2, x_call1_3, x_call1_4, p_69_12, x_call2_0, x_call2_1, x_call2_2, x_call2_3, x_call2_4, x_ifCond_eq, x_ifCond_eqb, u_179_75, x_iadd, x_isub, f_69_13, is_77, e1, ↓reduceIte, b01_0, ite_not, if_true, if_false, Int.reduceLT, Int.reduceEq]
    have k1 : k77 M (up M 77 (3 * r) (wd A n b)) := k77_up
    obtain ⟨g1, g2⟩ := pR0_g (A := A) hn.2 (b := ns A n b) (C := C) ⟨by omega, n1.2⟩
    generalize pR0 A n (ns A n b) C = y at hR1 hR2 g1 g2
    by_cases c2 : y.1 = true
    · rw [if_pos c2]
      obtain ⟨j1, j2, D, k, j3, j4, j5, j6⟩ := g1 c2
      obtain ⟨e4, h3⟩ := hR1 c2
      have hs := step _ e4
      have hf2 := (msx_f h3).1
      have tb2 := tk_b (tpm_b hT (b := y.2.1) (by omega))
      have tl2 := tk_low (tpm_b hT (b := y.2.1) (by omega))
      by_cases c3 : 6 ≤ wd A n y.2.1 ∧ wd A n y.2.1 ≤ 8
      · rw [if_pos c3]
        have n2 := ns_lt (A := A) j2 (by omega)
        have t2 := tl2.2 (by omega)
        have e5 := fun N => m_in (X := X) (d := d + 20) (I := N) (J := J) (v := tk A n y.2.1) (a := 6) (b := 8) (by omega) ⟨by omega, by decide, by decide⟩
        have oy : off y.2.2 ≤ 200 := by
          rw [j3, off_app]
          omega
        have h4 := msx_77 (k := 3 * r + 2) (x := off y.2.2) (msx_77 (k := 3 * r + 1) (x := wd A n y.2.1 - 6) h3)
        have hT2 : tpm (m3 M r (wd A n b) (wd A n y.2.1 - 6) (off y.2.2)) A n := tpm_up (by decide) (by decide) (Or.inl (by decide)) (tpm_up (by decide) (by decide) (Or.inl (by decide)) hT1)
        have k2 : k77 M (m3 M r (wd A n b) (wd A n y.2.1 - 6) (off y.2.2)) := k77_tr k1 (k77_tr k77_up k77_up)
        obtain ⟨I3, e6, h5⟩ := m_adv (X := X) (d := d + 17) (J := J) hT2 ⟨by omega, j2⟩ h4
        have tbr := tk_br (tpm_b hT (b := ns A n y.2.1) (by omega))
        have hst := (msx_st h3).1
        have st2 : ∀ z : e_R, e_k (s_S X (d + 21) 180 [.ref 69, .int (iI 259)] (mm I3 J)) (fun q m => s_x X (d + 21) 179 [.areturn] [.ref 69, .int (iI r)] (q ++ []) m) = z → s_j X (d + 21) 179 59 [.ref 69, .int (iI r)] [] (mm I2 J) = z := by
          intro z hz
          rw [← hz, u_179_59]
          simp (disch := omega) only [v_179_69, u_179_0, x_iload1, x_sipush, x_if_icmp_eq, x_aload0, f_69_10, x_call3_0, x_call3_1, x_call3_2, x_call3_3, x_call3_4, e_k_s, e_k_i, List.nil_append, List.cons_append, x_ifCond_ne, x_ifCond_neb, x_jsr, u_179_18, x_zret0, x_zret1, x_zretb, u_179_20, k_69_15, x_imul, x_call1_0, x_call1_1, x_call1_2, x_call1_3, x_call1_4, p_69_12, x_call2_0, x_call2_1, x_call2_2, x_call2_3, x_call2_4, x_ifCond_eq, x_ifCond_eqb, u_179_75, x_iadd, x_isub, f_69_13, is_77, hf2, e5, up_o, hst, ↓reduceIte, b01_0, ite_not, if_true, if_false, Int.reduceLT, Int.reduceEq]
          rw [t2]
          simp (disch := omega) only [v_179_69, u_179_0, x_iload1, x_sipush, x_if_icmp_eq, x_aload0, f_69_10, x_call3_0, x_call3_1, x_call3_2, x_call3_3, x_call3_4, e_k_s, e_k_i, List.nil_append, List.cons_append, x_ifCond_ne, x_ifCond_neb, x_jsr, u_179_18, x_zret0, x_zret1, x_zretb, u_179_20, k_69_15, x_imul, x_call1_0, x_call1_1, x_call1_2, x_call1_3, x_call1_4, p_69_12, x_call2_0, x_call2_1, x_call2_2, x_call2_3, x_call2_4, x_ifCond_eq, x_ifCond_eqb, u_179_75, x_iadd, x_isub, f_69_13, is_77, e6, ↓reduceIte, b01_0, ite_not, if_true, if_false, Int.reduceLT, Int.reduceEq]
        by_cases c4 : wd A n (ns A n y.2.1) = 26
        · rw [if_pos c4]
          obtain ⟨I4, e7, h6⟩ := m_take1 (X := X) (d := d + 16) (J := J) hT2 ⟨by omega, n2.2⟩ (tbr.2.2.1.mpr c4) h5
          refine ⟨I4, m3 M r (wd A n b) (wd A n y.2.1 - 6) (off y.2.2), ?_, k2, fun _ => ⟨rfl, h6⟩, fun y => (by cases y)⟩
          rw [hs, st2 _ rfl, if_pos rfl]
          simp (disch := omega) only [v_179_69, u_179_0, x_iload1, x_sipush, x_if_icmp_eq, x_aload0, f_69_10, x_call3_0, x_call3_1, x_call3_2, x_call3_3, x_call3_4, e_k_s, e_k_i, List.nil_append, List.cons_append, x_ifCond_ne, x_ifCond_neb, x_jsr, u_179_18, x_zret0, x_zret1, x_zretb, u_179_20, k_69_15, x_imul, x_call1_0, x_call1_1, x_call1_2, x_call1_3, x_call1_4, p_69_12, x_call2_0, x_call2_1, x_call2_2, x_call2_3, x_call2_4, x_ifCond_eq, x_ifCond_eqb, u_179_75, x_iadd, x_isub, f_69_13, is_77, e7, ↓reduceIte, b01_0, ite_not, if_true, if_false, Int.reduceLT, Int.reduceEq]
        · rw [if_neg c4]
          have e7 := m_take0 (X := X) (d := d + 16) (J := J) hT2 ⟨by omega, n2.2⟩ (x := 259) (fun z => c4 (tbr.2.2.1.mp z)) (by decide) h5
          refine ⟨I3, m3 M r (wd A n b) (wd A n y.2.1 - 6) (off y.2.2), ?_, k2, fun y => (by cases y), fun _ => msx_ft h5⟩
          rw [hs, st2 _ rfl]
          simp (disch := omega) only [v_179_69, u_179_0, x_iload1, x_sipush, x_if_icmp_eq, x_aload0, f_69_10, x_call3_0, x_call3_1, x_call3_2, x_call3_3, x_call3_4, e_k_s, e_k_i, List.nil_append, List.cons_append, x_ifCond_ne, x_ifCond_neb, x_jsr, u_179_18, x_zret0, x_zret1, x_zretb, u_179_20, k_69_15, x_imul, x_call1_0, x_call1_1, x_call1_2, x_call1_3, x_call1_4, p_69_12, x_call2_0, x_call2_1, x_call2_2, x_call2_3, x_call2_4, x_ifCond_eq, x_ifCond_eqb, u_179_75, x_iadd, x_isub, f_69_13, is_77, e7, ↓reduceIte, b01_0, ite_not, if_true, if_false, Int.reduceLT, Int.reduceEq]
          rfl
      · rw [if_neg c3]
        have e5 := fun N => m_nin (X := X) (d := d + 20) (I := N) (J := J) (v := tk A n y.2.1) (a := 6) (b := 8) (by
          have : ¬ (6 ≤ tk A n y.2.1 ∧ tk A n y.2.1 ≤ 8) := fun z => c3 (by
            have := tl2.1.mp (by omega)
            have := tl2.2 this
            omega)
          omega) ⟨by omega, by decide, by decide⟩
        refine ⟨I2, _, ?_, k1, fun y => (by cases y), fun _ => msx_ft h3⟩
        rw [hs, u_179_59]
        simp (disch := omega) only [v_179_69, u_179_0, x_iload1, x_sipush, x_if_icmp_eq, x_aload0, f_69_10, x_call3_0, x_call3_1, x_call3_2, x_call3_3, x_call3_4, e_k_s, e_k_i, List.nil_append, List.cons_append, x_ifCond_ne, x_ifCond_neb, x_jsr, u_179_18, x_zret0, x_zret1, x_zretb, u_179_20, k_69_15, x_imul, x_call1_0, x_call1_1, x_call1_2, x_call1_3, x_call1_4, p_69_12, x_call2_0, x_call2_1, x_call2_2, x_call2_3, x_call2_4, x_ifCond_eq, x_ifCond_eqb, u_179_75, x_iadd, x_isub, f_69_13, is_77, hf2, e5, ↓reduceIte, b01_0, ite_not, if_true, if_false, Int.reduceLT, Int.reduceEq]
        rfl
    · rw [if_neg c2]
      have cf : y.1 = false := by simpa using c2
      obtain ⟨e4, h3⟩ := hR2 cf
      refine ⟨I2, _, ?_, k1, fun y => (by cases y), fun _ => h3⟩
      rw [step _ e4]
      rfl
  · rw [if_neg c1]
    have e3 := fun N => m_nin (X := X) (d := d + 20) (I := N) (J := J) (v := tk A n b) (a := 0) (b := 5) (by
      have : ¬ (0 ≤ tk A n b ∧ tk A n b ≤ 5) := fun z => c1 (by
        have := tl.1.mp (by omega)
        have := tl.2 this
        omega)
      omega) ⟨by omega, by decide, by decide⟩
    refine ⟨I, M, ?_, fun _ _ _ => rfl, fun y => (by cases y), fun _ => msx_ft h⟩
    simp (disch := omega) only [v_179_69, u_179_0, x_iload1, x_sipush, x_if_icmp_eq, x_aload0, f_69_10, x_call3_0, x_call3_1, x_call3_2, x_call3_3, x_call3_4, e_k_s, e_k_i, List.nil_append, List.cons_append, x_ifCond_ne, x_ifCond_neb, x_jsr, u_179_18, x_zret0, x_zret1, x_zretb, u_179_20, k_69_15, x_imul, x_call1_0, x_call1_1, x_call1_2, x_call1_3, x_call1_4, p_69_12, x_call2_0, x_call2_1, x_call2_2, x_call2_3, x_call2_4, x_ifCond_eq, x_ifCond_eqb, u_179_75, x_iadd, x_isub, f_69_13, is_77, hf, r8, e3, ↓reduceIte, b01_0, ite_not, if_true, if_false, Int.reduceLT, Int.reduceEq]
    rfl
theorem m_R8 : s_S X (d + 22) 179 [.ref 69, .int (iI 8)] (mm I J) = some ([.int (iI 0)], mm I J) := by
  simp (disch := omega) only [v_179_69, u_179_0, x_iload1, x_sipush, x_if_icmp_eq, x_aload0, f_69_10, x_call3_0, x_call3_1, x_call3_2, x_call3_3, x_call3_4, e_k_s, e_k_i, List.nil_append, List.cons_append, x_ifCond_ne, x_ifCond_neb, x_jsr, u_179_18, x_zret0, x_zret1, x_zretb, u_179_20, k_69_15, x_imul, x_call1_0, x_call1_1, x_call1_2, x_call1_3, x_call1_4, p_69_12, x_call2_0, x_call2_1, x_call2_2, x_call2_3, x_call2_4, x_ifCond_eq, x_ifCond_eqb, u_179_75, x_iadd, x_isub, f_69_13, is_77, ↓reduceIte, b01_0, ite_not, if_true, if_false, Int.reduceLT, Int.reduceEq]
theorem m_X {w : Value} : ∀ (f : Nat) (M I : Nat → Int → Int) (b op : Int) (R : List rle), f + R.length = 9 → R.length ≤ 8 → tpm M A n → (0 ≤ b ∧ b ≤ n) → off (hcd R) ≤ b → mrd (M 77) R → msx M A n I b (hcd R) op → ∃ I' M' n' o', s_j X (d + 22) 173 18 [.ref 69, .int (iI R.length), .int (iI 1), w] [] (mm I J) = s_j X (d + 22) 173 42 [.ref 69, .int (iI n'), .int (iI (if (pX A n f b (hcd R) R).1 = true then 1 else 0)), w] [] (mm I' J) ∧ k77 M M' ∧ ((pX A n f b (hcd R) R).1 = true → n' = (pX A n f b (hcd R) R).2.2.length ∧ msx M' A n I' (pX A n f b (hcd R) R).2.1 (hcd (pX A n f b (hcd R) R).2.2) o' ∧ mrd (M' 77) (pX A n f b (hcd R) R).2.2) ∧ ((pX A n f b (hcd R) R).1 = false → mft M' I' (pX A n f b (hcd R) R).2.1)
  | 0, M, I, b, op, R, hf, h8, hT, hb, ho, hR, h => by omega
  | f + 1, M, I, b, op, R, hf, h8, hT, hb, ho, hR, h => by
    have hn := hT.1
    have tb := tk_b (tpm_b hT hb.1)
    have tbr := tk_br (tpm_b hT hb.1)
    have hf1 := (msx_f h).1
    have e : pX A n (f + 1) b (hcd R) R = if wd A n b = 20 then (true, b, R) else if R.length = 8 then (false, b, R) else if (pR A n b (hcd R)).1 = true then pX A n f (pR A n b (hcd R)).2.1 (pR A n b (hcd R)).2.2 ((wd A n b, wd A n (pR0 A n (ns A n b) (hcd R)).2.1 - 6, (pR A n b (hcd R)).2.2) :: R) else (false, (pR A n b (hcd R)).2.1, R) := rfl
    rw [e]
    by_cases c1 : wd A n b = 20
    · rw [if_pos c1]
      have t1 := tbr.2.2.2.mpr c1
      refine ⟨I, M, R.length, op, ?_, fun _ _ _ => rfl, fun _ => ⟨rfl, h, hR⟩, fun y => (by cases y)⟩
      rw [if_pos rfl, u_173_18]
      simp (disch := omega) only [v_173_69, u_173_0, x_aload0, x_sipush, p_69_8, p_69_13, x_istore1i, x_istore1r, x_istore1u, x_call1_0, x_call1_1, x_call1_2, x_call1_3, x_call1_4, e_k_s, e_k_i, List.nil_append, List.cons_append, x_istore2i, x_istore2r, x_istore2u, x_jsr, x_iload2, x_ifCond_eq, x_ifCond_eqb, f_69_10, x_if_icmp_eq, x_iload1, x_call2_0, x_call2_1, x_call2_2, x_call2_3, x_call2_4, x_iinc1i, x_iinc1r, x_iinc1u, x_goto, p_69_6, x_ifCond_ne, x_ifCond_neb, f_69_9, x_isub, x_ireturn, u_173_59, k_69_0, x_istore3i, x_istore3r, x_istore3u, x_iload3, x_imul, x_if_icmp_ge, x_iadd, k_69_15, x_iinc3i, x_iinc3r, x_iinc3u, u_173_97, f_69_13, k_69_14, u_173_128, ia_70, is_70, ia_76, is_76, ia_77, is_77, hf1, t1, ↓reduceIte, b01_0, ite_not, if_true, if_false, Int.reduceLT, Int.reduceEq]
    · rw [if_neg c1]
      have t1 : ¬ tk A n b = -1 := fun z => c1 (tbr.2.2.2.mp z)
      by_cases c2 : R.length = 8
      · rw [if_pos c2]
        refine ⟨I, M, 9, op, ?_, fun _ _ _ => rfl, fun y => (by cases y), fun _ => msx_ft h⟩
        have e8 := m_R8 (X := X) (d := d) (I := I) (J := J)
        rw [c2, u_173_18]
        show s_x X (d + 22) 173 _ [.ref 69, .int (iI 8), .int (iI 1), w] [] (mm I J) = _
        simp (disch := omega) only [v_173_69, u_173_0, x_aload0, x_sipush, p_69_8, p_69_13, x_istore1i, x_istore1r, x_istore1u, x_call1_0, x_call1_1, x_call1_2, x_call1_3, x_call1_4, e_k_s, e_k_i, List.nil_append, List.cons_append, x_istore2i, x_istore2r, x_istore2u, x_jsr, x_iload2, x_ifCond_eq, x_ifCond_eqb, f_69_10, x_if_icmp_eq, x_iload1, x_call2_0, x_call2_1, x_call2_2, x_call2_3, x_call2_4, x_iinc1i, x_iinc1r, x_iinc1u, x_goto, p_69_6, x_ifCond_ne, x_ifCond_neb, f_69_9, x_isub, x_ireturn, u_173_59, k_69_0, x_istore3i, x_istore3r, x_istore3u, x_iload3, x_imul, x_if_icmp_ge, x_iadd, k_69_15, x_iinc3i, x_iinc3r, x_iinc3u, u_173_97, f_69_13, k_69_14, u_173_128, ia_70, is_70, ia_76, is_76, ia_77, is_77, hf1, t1, e8, ↓reduceIte, b01_0, ite_not, if_true, if_false, Int.reduceLT, Int.reduceEq]
        rw [u_173_18]
        simp (disch := omega) only [v_173_69, u_173_0, x_aload0, x_sipush, p_69_8, p_69_13, x_istore1i, x_istore1r, x_istore1u, x_call1_0, x_call1_1, x_call1_2, x_call1_3, x_call1_4, e_k_s, e_k_i, List.nil_append, List.cons_append, x_istore2i, x_istore2r, x_istore2u, x_jsr, x_iload2, x_ifCond_eq, x_ifCond_eqb, f_69_10, x_if_icmp_eq, x_iload1, x_call2_0, x_call2_1, x_call2_2, x_call2_3, x_call2_4, x_iinc1i, x_iinc1r, x_iinc1u, x_goto, p_69_6, x_ifCond_ne, x_ifCond_neb, f_69_9, x_isub, x_ireturn, u_173_59, k_69_0, x_istore3i, x_istore3r, x_istore3u, x_iload3, x_imul, x_if_icmp_ge, x_iadd, k_69_15, x_iinc3i, x_iinc3r, x_iinc3u, u_173_97, f_69_13, k_69_14, u_173_128, ia_70, is_70, ia_76, is_76, ia_77, is_77, ↓reduceIte, b01_0, ite_not, if_true, if_false, Int.reduceLT, Int.reduceEq]
        rfl
      · rw [if_neg c2]
        obtain ⟨I1, M1, e1, k1, g1, g2⟩ := m_R (X := X) (d := d) (J := J) (r := R.length) (by omega) hT hb ho h
        obtain ⟨p1, p2⟩ := pR_g (A := A) hn.2 (b := b) (C := hcd R) hb
        by_cases c3 : (pR A n b (hcd R)).1 = true
        · rw [if_pos c3]
          rw [if_pos c3] at e1
          obtain ⟨j1, j2, j3, j4, D, k, j5, j6, j7, j8⟩ := p1 c3
          obtain ⟨q1, q2⟩ := g1 c3
          have hT1 : tpm M1 A n := by
            rw [q1]
            exact tpm_up (by decide) (by decide) (Or.inl (by decide)) (tpm_up (by decide) (by decide) (Or.inl (by decide)) (tpm_up (by decide) (by decide) (Or.inl (by decide)) hT))
          have hm : mrd (M1 77) ((wd A n b, wd A n (pR0 A n (ns A n b) (hcd R)).2.1 - 6, (pR A n b (hcd R)).2.2) :: R) := by
            have r77 : M1 77 = upf (upf (upf (M 77) (3 * R.length) (wd A n b)) (3 * R.length + 1) (wd A n (pR0 A n (ns A n b) (hcd R)).2.1 - 6)) (3 * R.length + 2) (off (pR A n b (hcd R)).2.2) := by
              rw [q1]
              funext k
              simp [m3, up, upf]
            rw [r77]
            refine ⟨?_, ?_, ?_, mrd_up (by omega) (mrd_up (by omega) (mrd_up (Int.le_refl _) hR))⟩
            · unfold upf
              rw [if_neg (by omega), if_neg (by omega), if_pos rfl]
            · unfold upf
              rw [if_neg (by omega), if_pos rfl]
            · unfold upf
              rw [if_pos rfl]
          obtain ⟨I2, M2, n', o', e2, k2, s1, s2⟩ := m_X (w := w) f M1 I1 (pR A n b (hcd R)).2.1 0 ((wd A n b, wd A n (pR0 A n (ns A n b) (hcd R)).2.1 - 6, (pR A n b (hcd R)).2.2) :: R) (by rw [List.length_cons]; omega) (by rw [List.length_cons]; omega) hT1 ⟨by omega, j2⟩ (by
            show off (pR A n b (hcd R)).2.2 ≤ _
            rw [j5, off_app]
            omega) hm q2
          refine ⟨I2, M2, n', o', ?_, k77_tr k1 k2, s1, s2⟩
          show _ = s_j X (d + 22) 173 42 [.ref 69, .int (iI n'), .int (iI (if (pX A n f (pR A n b (hcd R)).2.1 (hcd ((wd A n b, wd A n (pR0 A n (ns A n b) (hcd R)).2.1 - 6, (pR A n b (hcd R)).2.2) :: R)) ((wd A n b, wd A n (pR0 A n (ns A n b) (hcd R)).2.1 - 6, (pR A n b (hcd R)).2.2) :: R)).1 = true then 1 else 0)), w] [] (mm I2 J)
          rw [← e2, ll]
          conv => lhs; rw [u_173_18]
          simp (disch := omega) only [v_173_69, u_173_0, x_aload0, x_sipush, p_69_8, p_69_13, x_istore1i, x_istore1r, x_istore1u, x_call1_0, x_call1_1, x_call1_2, x_call1_3, x_call1_4, e_k_s, e_k_i, List.nil_append, List.cons_append, x_istore2i, x_istore2r, x_istore2u, x_jsr, x_iload2, x_ifCond_eq, x_ifCond_eqb, f_69_10, x_if_icmp_eq, x_iload1, x_call2_0, x_call2_1, x_call2_2, x_call2_3, x_call2_4, x_iinc1i, x_iinc1r, x_iinc1u, x_goto, p_69_6, x_ifCond_ne, x_ifCond_neb, f_69_9, x_isub, x_ireturn, u_173_59, k_69_0, x_istore3i, x_istore3r, x_istore3u, x_iload3, x_imul, x_if_icmp_ge, x_iadd, k_69_15, x_iinc3i, x_iinc3r, x_iinc3u, u_173_97, f_69_13, k_69_14, u_173_128, ia_70, is_70, ia_76, is_76, ia_77, is_77, hf1, t1, e1, ↓reduceIte, b01_0, ite_not, if_true, if_false, Int.reduceLT, Int.reduceEq]
        · rw [if_neg c3]
          rw [if_neg c3] at e1
          refine ⟨I1, M1, R.length + 1, op, ?_, k1, fun y => (by cases y), fun _ => g2 (by simpa using c3)⟩
          rw [u_173_18]
          simp (disch := omega) only [v_173_69, u_173_0, x_aload0, x_sipush, p_69_8, p_69_13, x_istore1i, x_istore1r, x_istore1u, x_call1_0, x_call1_1, x_call1_2, x_call1_3, x_call1_4, e_k_s, e_k_i, List.nil_append, List.cons_append, x_istore2i, x_istore2r, x_istore2u, x_jsr, x_iload2, x_ifCond_eq, x_ifCond_eqb, f_69_10, x_if_icmp_eq, x_iload1, x_call2_0, x_call2_1, x_call2_2, x_call2_3, x_call2_4, x_iinc1i, x_iinc1r, x_iinc1u, x_goto, p_69_6, x_ifCond_ne, x_ifCond_neb, f_69_9, x_isub, x_ireturn, u_173_59, k_69_0, x_istore3i, x_istore3r, x_istore3u, x_iload3, x_imul, x_if_icmp_ge, x_iadd, k_69_15, x_iinc3i, x_iinc3r, x_iinc3u, u_173_97, f_69_13, k_69_14, u_173_128, ia_70, is_70, ia_76, is_76, ia_77, is_77, hf1, t1, e1, ↓reduceIte, b01_0, ite_not, if_true, if_false, Int.reduceLT, Int.reduceEq]
          rw [u_173_18]
          simp (disch := omega) only [v_173_69, u_173_0, x_aload0, x_sipush, p_69_8, p_69_13, x_istore1i, x_istore1r, x_istore1u, x_call1_0, x_call1_1, x_call1_2, x_call1_3, x_call1_4, e_k_s, e_k_i, List.nil_append, List.cons_append, x_istore2i, x_istore2r, x_istore2u, x_jsr, x_iload2, x_ifCond_eq, x_ifCond_eqb, f_69_10, x_if_icmp_eq, x_iload1, x_call2_0, x_call2_1, x_call2_2, x_call2_3, x_call2_4, x_iinc1i, x_iinc1r, x_iinc1u, x_goto, p_69_6, x_ifCond_ne, x_ifCond_neb, f_69_9, x_isub, x_ireturn, u_173_59, k_69_0, x_istore3i, x_istore3r, x_istore3u, x_iload3, x_imul, x_if_icmp_ge, x_iadd, k_69_15, x_iinc3i, x_iinc3r, x_iinc3u, u_173_97, f_69_13, k_69_14, u_173_128, ia_70, is_70, ia_76, is_76, ia_77, is_77, ↓reduceIte, b01_0, ite_not, if_true, if_false, Int.reduceLT, Int.reduceEq]
          rfl
/-! the rules laid into the row -/
def r70 (I : Nat → Int → Int) (S : Int → Int) : Nat → Int → Int := fun o k => if o = 70 then S k else I o k
theorem r70_id : r70 I (I 70) = I := by
  funext o k
  unfold r70
  split
  · rename_i h
    rw [h]
  · rfl
theorem r70_u {S : Int → Int} {k x : Int} : up (r70 I S) 70 k x = r70 I (upf S k x) := by
  funext o q
  by_cases h : o = 70
  · subst h
    show (if 70 = 70 ∧ q = k then x else S q) = (if q = k then x else S q)
    simp only [true_and]
  · simp only [up, r70, h, false_and, if_false]
def cpS (S : Int → Int) (a : Int) (K : Int → Int) (lo hi : Int) : Int → Int := fun q => if a + lo ≤ q ∧ q < a + hi then K (q - a) else S q
theorem cpS_0 {S : Int → Int} {a lo : Int} {K : Int → Int} : cpS S a K lo lo = S := by
  funext q
  unfold cpS
  rw [if_neg (by omega)]
theorem cpS_s {S : Int → Int} {a lo hi : Int} {K : Int → Int} (h : lo < hi) : cpS (upf S (a + lo) (K lo)) a K (lo + 1) hi = cpS S a K lo hi := by
  funext q
  unfold cpS upf
  by_cases h1 : q = a + lo
  · rw [if_neg (by omega), if_pos h1, if_pos (by omega), h1]
    congr 1
    omega
  · rw [if_neg h1]
    by_cases h2 : a + (lo + 1) ≤ q ∧ q < a + hi
    · rw [if_pos h2, if_pos (by omega)]
    · rw [if_neg h2, if_neg (by omega)]
theorem m_cp1 {n' : Int} {v : Int32} {r : Int} (hr : 0 ≤ r ∧ r ≤ 8) : ∀ (f : Nat) (k : Int) (S : Int → Int), 0 ≤ k → k + f = 3 * r → s_j X d 173 69 [.ref 69, .int (iI r), .int v, .int (iI k)] [] (mm (r70 I S) J) = s_j X d 173 97 [.ref 69, .int (iI r), .int v, .int (iI (3 * r))] [] (mm (r70 I (cpS S 98 (I 77) k (3 * r))) J)
  | 0, k, S, k0, hk => by
    have e : k = 3 * r := by omega
    subst e
    rw [cpS_0, u_173_69]
    have q : ¬ 3 * r < 3 * r := by omega
    simp (disch := omega) only [v_173_69, u_173_0, x_aload0, x_sipush, p_69_8, p_69_13, x_istore1i, x_istore1r, x_istore1u, x_call1_0, x_call1_1, x_call1_2, x_call1_3, x_call1_4, e_k_s, e_k_i, List.nil_append, List.cons_append, x_istore2i, x_istore2r, x_istore2u, x_jsr, x_iload2, x_ifCond_eq, x_ifCond_eqb, f_69_10, x_if_icmp_eq, x_iload1, x_call2_0, x_call2_1, x_call2_2, x_call2_3, x_call2_4, x_iinc1i, x_iinc1r, x_iinc1u, x_goto, p_69_6, x_ifCond_ne, x_ifCond_neb, f_69_9, x_isub, x_ireturn, u_173_59, k_69_0, x_istore3i, x_istore3r, x_istore3u, x_iload3, x_imul, x_if_icmp_ge, x_iadd, k_69_15, x_iinc3i, x_iinc3r, x_iinc3u, f_69_13, k_69_14, u_173_128, ia_70, is_70, ia_76, is_76, ia_77, is_77, q, ↓reduceIte, b01_0, ite_not, if_true, if_false, Int.reduceLT, Int.reduceEq]
  | f + 1, k, S, k0, hk => by
    have ih := m_cp1 (n' := n') (v := v) hr f (k + 1) (upf S (98 + k) (I 77 k)) (by omega) (by omega)
    rw [cpS_s (by omega)] at ih
    have q : k < 3 * r := by omega
    have r77 : ∀ S, r70 I S 77 = I 77 := fun _ => rfl
    rw [← ih]
    conv => lhs; rw [u_173_69]
    simp (disch := omega) only [v_173_69, u_173_0, x_aload0, x_sipush, p_69_8, p_69_13, x_istore1i, x_istore1r, x_istore1u, x_call1_0, x_call1_1, x_call1_2, x_call1_3, x_call1_4, e_k_s, e_k_i, List.nil_append, List.cons_append, x_istore2i, x_istore2r, x_istore2u, x_jsr, x_iload2, x_ifCond_eq, x_ifCond_eqb, f_69_10, x_if_icmp_eq, x_iload1, x_call2_0, x_call2_1, x_call2_2, x_call2_3, x_call2_4, x_iinc1i, x_iinc1r, x_iinc1u, x_goto, p_69_6, x_ifCond_ne, x_ifCond_neb, f_69_9, x_isub, x_ireturn, u_173_59, k_69_0, x_istore3i, x_istore3r, x_istore3u, x_iload3, x_imul, x_if_icmp_ge, x_iadd, k_69_15, x_iinc3i, x_iinc3r, x_iinc3u, f_69_13, k_69_14, u_173_128, ia_70, is_70, ia_76, is_76, ia_77, is_77, q, r77, r70_u, ↓reduceIte, b01_0, ite_not, if_true, if_false, Int.reduceLT, Int.reduceEq]
theorem m_cp2 {v : Int32} {u : Value} {st : Int} (hs : I 69 13 = st ∧ 0 ≤ st ∧ st ≤ 200) : ∀ (f : Nat) (k : Int) (S : Int → Int), 0 ≤ k → k + f = st → s_j X d 173 99 [.ref 69, u, .int v, .int (iI k)] [] (mm (r70 I S) J) = s_j X d 173 128 [.ref 69, u, .int v, .int (iI st)] [] (mm (r70 I (cpS S 122 (I 76) k st)) J)
  | 0, k, S, k0, hk => by
    obtain ⟨s1, s2, s3⟩ := hs
    have e : k = st := by omega
    subst e
    have r13 : ∀ S, r70 I S 69 13 = k := fun _ => s1
    have q : ¬ k < k := by omega
    rw [cpS_0, u_173_99]
    simp (disch := omega) only [v_173_69, u_173_0, x_aload0, x_sipush, p_69_8, p_69_13, x_istore1i, x_istore1r, x_istore1u, x_call1_0, x_call1_1, x_call1_2, x_call1_3, x_call1_4, e_k_s, e_k_i, List.nil_append, List.cons_append, x_istore2i, x_istore2r, x_istore2u, x_jsr, x_iload2, x_ifCond_eq, x_ifCond_eqb, f_69_10, x_if_icmp_eq, x_iload1, x_call2_0, x_call2_1, x_call2_2, x_call2_3, x_call2_4, x_iinc1i, x_iinc1r, x_iinc1u, x_goto, p_69_6, x_ifCond_ne, x_ifCond_neb, f_69_9, x_isub, x_ireturn, u_173_59, k_69_0, x_istore3i, x_istore3r, x_istore3u, x_iload3, x_imul, x_if_icmp_ge, x_iadd, k_69_15, x_iinc3i, x_iinc3r, x_iinc3u, f_69_13, k_69_14, ia_70, is_70, ia_76, is_76, ia_77, is_77, q, r13, ↓reduceIte, b01_0, ite_not, if_true, if_false, Int.reduceLT, Int.reduceEq]
  | f + 1, k, S, k0, hk => by
    have ih := m_cp2 (v := v) (u := u) hs f (k + 1) (upf S (122 + k) (I 76 k)) (by omega) (by omega)
    rw [cpS_s (by omega)] at ih
    obtain ⟨s1, s2, s3⟩ := hs
    have q : k < st := by omega
    have r13 : ∀ S, r70 I S 69 13 = st := fun _ => s1
    have r76 : ∀ S, r70 I S 76 = I 76 := fun _ => rfl
    rw [← ih]
    conv => lhs; rw [u_173_99]
    simp (disch := omega) only [v_173_69, u_173_0, x_aload0, x_sipush, p_69_8, p_69_13, x_istore1i, x_istore1r, x_istore1u, x_call1_0, x_call1_1, x_call1_2, x_call1_3, x_call1_4, e_k_s, e_k_i, List.nil_append, List.cons_append, x_istore2i, x_istore2r, x_istore2u, x_jsr, x_iload2, x_ifCond_eq, x_ifCond_eqb, f_69_10, x_if_icmp_eq, x_iload1, x_call2_0, x_call2_1, x_call2_2, x_call2_3, x_call2_4, x_iinc1i, x_iinc1r, x_iinc1u, x_goto, p_69_6, x_ifCond_ne, x_ifCond_neb, f_69_9, x_isub, x_ireturn, u_173_59, k_69_0, x_istore3i, x_istore3r, x_istore3u, x_iload3, x_imul, x_if_icmp_ge, x_iadd, k_69_15, x_iinc3i, x_iinc3r, x_iinc3u, f_69_13, k_69_14, ia_70, is_70, ia_76, is_76, ia_77, is_77, q, r13, r76, r70_u, ↓reduceIte, b01_0, ite_not, if_true, if_false, Int.reduceLT, Int.reduceEq]
/-- the whole tape -/
theorem m_all (hT : tpm M A n) : ((pX A n 9 (sk A n 0) [] []).1 = true → ∃ I', s_S X (d + 23) 173 [.ref 69] (mm M J) = some ([.int (iI (pX A n 9 (sk A n 0) [] []).2.2.length)], mm I' J) ∧ I' 69 6 = 0 ∧ (∀ o k, ¬ scr o k → o ≠ 70 → ¬ (o = 69 ∧ k = 6) → I' o k = M o k) ∧ ∃ K Sp, I' 70 = cpS (cpS (upf (M 70) 7 (pX A n 9 (sk A n 0) [] []).2.2.length) 98 K 0 (3 * (pX A n 9 (sk A n 0) [] []).2.2.length)) 122 Sp 0 (off (hcd (pX A n 9 (sk A n 0) [] []).2.2)) ∧ mrd K (pX A n 9 (sk A n 0) [] []).2.2 ∧ spx Sp (hcd (pX A n 9 (sk A n 0) [] []).2.2)) ∧ ((pX A n 9 (sk A n 0) [] []).1 = false → ∃ I', s_S X (d + 23) 173 [.ref 69] (mm M J) = some ([.int (iI (-100 - (pX A n 9 (sk A n 0) [] []).2.1))], mm I' J) ∧ I' 69 6 = 0 ∧ (∀ o k, ¬ scr o k → ¬ (o = 69 ∧ k = 6) → I' o k = M o k)) := by
  have hn := hT.1
  have b0 : 0 ≤ sk A n 0 := av_ge
  have b1 : sk A n 0 ≤ n := av_le hn.1
  obtain ⟨v', e, hv⟩ := m_nxt (X := X) (d := d + 18) (J := J) (a := 0) (b := M 69 9) (t := M 69 10) (v := M 69 11) (op := M 69 12) (st := 0) (Sp := M 76) hT ⟨Int.le_refl 0, hn.1⟩
  obtain ⟨g1, g2, g3⟩ := pX_g (A := A) hn.2 9 (sk A n 0) [] ⟨b0, b1⟩ trivial (by
    show (0 : Int) ≤ _
    exact b0)
  obtain ⟨I2, M2, n', o', e2, k2, s1, s2⟩ := m_X (X := X) (d := d) (J := J) (w := .retAddr 0) 9 M _ (sk A n 0) (M 69 12) [] rfl (by decide) hT ⟨b0, b1⟩ (by
    show (0 : Int) ≤ _
    exact b0) trivial ⟨v', M 76, rfl, hv, trivial⟩
  have e0 : s_S X (d + 23) 173 [.ref 69] (mm M J) = s_j X (d + 22) 173 42 [.ref 69, .int (iI n'), .int (iI (if (pX A n 9 (sk A n 0) [] []).1 = true then 1 else 0)), .retAddr 0] [] (mm I2 J) := by
    show _ = s_j X (d + 22) 173 42 [.ref 69, .int (iI n'), .int (iI (if (pX A n 9 (sk A n 0) (hcd []) []).1 = true then 1 else 0)), .retAddr 0] [] (mm I2 J)
    rw [← e2]
    conv => lhs; rw [← md_self (M := M)]
    simp (disch := omega) only [v_173_69, u_173_0, x_aload0, x_sipush, p_69_8, p_69_13, x_istore1i, x_istore1r, x_istore1u, x_call1_0, x_call1_1, x_call1_2, x_call1_3, x_call1_4, e_k_s, e_k_i, List.nil_append, List.cons_append, x_istore2i, x_istore2r, x_istore2u, x_jsr, x_iload2, x_ifCond_eq, x_ifCond_eqb, f_69_10, x_if_icmp_eq, x_iload1, x_call2_0, x_call2_1, x_call2_2, x_call2_3, x_call2_4, x_iinc1i, x_iinc1r, x_iinc1u, x_goto, p_69_6, x_ifCond_ne, x_ifCond_neb, f_69_9, x_isub, x_ireturn, u_173_59, k_69_0, x_istore3i, x_istore3r, x_istore3u, x_iload3, x_imul, x_if_icmp_ge, x_iadd, k_69_15, x_iinc3i, x_iinc3r, x_iinc3u, f_69_13, k_69_14, ia_70, is_70, ia_76, is_76, ia_77, is_77, md_69_8, md_69_9, md_69_10, md_69_11, md_69_12, md_69_13, md_76, md_69_6, md_70, md_74, md_75, md_77, md_u_69_8, md_u_69_9, md_u_69_10, md_u_69_11, md_u_69_12, md_u_69_13, md_u_76, e, ↓reduceIte, b01_0, ite_not, if_true, if_false, Int.reduceLT, Int.reduceEq]
    rfl
  change ((pX A n 9 (sk A n 0) [] []).1 = true → n' = _ ∧ _) at s1
  change ((pX A n 9 (sk A n 0) [] []).1 = false → _) at s2
  have hcn : (hcd [] : List prt) = [] := rfl
  rw [hcn] at g1 g2 g3 s1 s2
  generalize pX A n 9 (sk A n 0) [] [] = P at e0 g1 g2 g3 s1 s2 ⊢
  have mdk : ∀ {M' : Nat → Int → Int} {a b t v op st : Int} {Sp : Int → Int} (o : Nat) (k : Int), ¬ scr o k → md M' a b t v op st Sp o k = M' o k := by
    intro M' a b t v op st Sp o k q
    unfold md
    rw [if_neg (fun z => q (by unfold scr; omega)), if_neg (fun z => q (by unfold scr; omega)), if_neg (fun z => q (by unfold scr; omega)), if_neg (fun z => q (by unfold scr; omega)), if_neg (fun z => q (by unfold scr; omega)), if_neg (fun z => q (by unfold scr; omega)), if_neg (fun z => q (by unfold scr; omega))]
  have s77 : ∀ (o : Nat) (k : Int), ¬ scr o k → o ≠ 77 := fun o k q z => q (by unfold scr; omega)
  refine ⟨fun hp => ?_, fun hp => ?_⟩
  · obtain ⟨t1, t2, t3⟩ := s1 hp
    rw [if_pos hp] at e0
    subst t1
    have h8 := g3 (by decide)
    obtain ⟨v, Sp, t4, t5, t6⟩ := t2
    have oh : off (hcd P.2.2) ≤ 200 := by
      generalize P.2.2 = R at g1
      cases R with
      | nil => show (0 : Int) ≤ 200; decide
      | cons r t => exact g1.2.2.2.1
    have og := off_ge (hcd P.2.2)
    have c1 := m_cp1 (X := X) (d := d + 22) (I := up I2 69 6 0) (J := J) (n' := 0) (v := iI 1) (r := (P.2.2.length : Int)) (by omega) (3 * P.2.2.length) 0 (upf (I2 70) 7 P.2.2.length) (Int.le_refl 0) (by omega)
    have i13 : (up I2 69 6 0) 69 13 = off (hcd P.2.2) := by
      rw [t4]
      rfl
    have c2 := m_cp2 (X := X) (d := d + 22) (I := up I2 69 6 0) (J := J) (v := iI 1) (u := .int (iI P.2.2.length)) (st := off (hcd P.2.2)) ⟨i13, og, oh⟩ (off (hcd P.2.2)).toNat 0 (cpS (upf (I2 70) 7 P.2.2.length) 98 (up I2 69 6 0 77) 0 (3 * P.2.2.length)) (Int.le_refl 0) (by omega)
    have e7 : up (up I2 69 6 0) 70 7 P.2.2.length = r70 (up I2 69 6 0) (upf (I2 70) 7 P.2.2.length) := by
      have := r70_u (I := up I2 69 6 0) (S := up I2 69 6 0 70) (k := 7) (x := P.2.2.length)
      rw [r70_id] at this
      exact this
    refine ⟨r70 (up I2 69 6 0) (cpS (cpS (upf (I2 70) 7 P.2.2.length) 98 (up I2 69 6 0 77) 0 (3 * P.2.2.length)) 122 (up I2 69 6 0 76) 0 (off (hcd P.2.2))), ?_, rfl, fun o k q q2 q3 => ?_, M2 77, Sp, ?_, t3, t6⟩
    · rw [e0, u_173_42]
      simp (disch := omega) only [v_173_69, u_173_0, x_aload0, x_sipush, p_69_8, p_69_13, x_istore1i, x_istore1r, x_istore1u, x_call1_0, x_call1_1, x_call1_2, x_call1_3, x_call1_4, e_k_s, e_k_i, List.nil_append, List.cons_append, x_istore2i, x_istore2r, x_istore2u, x_jsr, x_iload2, x_ifCond_eq, x_ifCond_eqb, f_69_10, x_if_icmp_eq, x_iload1, x_call2_0, x_call2_1, x_call2_2, x_call2_3, x_call2_4, x_iinc1i, x_iinc1r, x_iinc1u, x_goto, p_69_6, x_ifCond_ne, x_ifCond_neb, f_69_9, x_isub, x_ireturn, u_173_59, k_69_0, x_istore3i, x_istore3r, x_istore3u, x_iload3, x_imul, x_if_icmp_ge, x_iadd, k_69_15, x_iinc3i, x_iinc3r, x_iinc3u, f_69_13, k_69_14, ia_70, is_70, ia_76, is_76, ia_77, is_77, e7, c1, ↓reduceIte, b01_0, ite_not, if_true, if_false, Int.reduceLT, Int.reduceEq]
      rw [u_173_97]
      simp (disch := omega) only [v_173_69, u_173_0, x_aload0, x_sipush, p_69_8, p_69_13, x_istore1i, x_istore1r, x_istore1u, x_call1_0, x_call1_1, x_call1_2, x_call1_3, x_call1_4, e_k_s, e_k_i, List.nil_append, List.cons_append, x_istore2i, x_istore2r, x_istore2u, x_jsr, x_iload2, x_ifCond_eq, x_ifCond_eqb, f_69_10, x_if_icmp_eq, x_iload1, x_call2_0, x_call2_1, x_call2_2, x_call2_3, x_call2_4, x_iinc1i, x_iinc1r, x_iinc1u, x_goto, p_69_6, x_ifCond_ne, x_ifCond_neb, f_69_9, x_isub, x_ireturn, u_173_59, k_69_0, x_istore3i, x_istore3r, x_istore3u, x_iload3, x_imul, x_if_icmp_ge, x_iadd, k_69_15, x_iinc3i, x_iinc3r, x_iinc3u, f_69_13, k_69_14, ia_70, is_70, ia_76, is_76, ia_77, is_77, c2, ↓reduceIte, b01_0, ite_not, if_true, if_false, Int.reduceLT, Int.reduceEq]
      rw [u_173_128]
      simp (disch := omega) only [v_173_69, u_173_0, x_aload0, x_sipush, p_69_8, p_69_13, x_istore1i, x_istore1r, x_istore1u, x_call1_0, x_call1_1, x_call1_2, x_call1_3, x_call1_4, e_k_s, e_k_i, List.nil_append, List.cons_append, x_istore2i, x_istore2r, x_istore2u, x_jsr, x_iload2, x_ifCond_eq, x_ifCond_eqb, f_69_10, x_if_icmp_eq, x_iload1, x_call2_0, x_call2_1, x_call2_2, x_call2_3, x_call2_4, x_iinc1i, x_iinc1r, x_iinc1u, x_goto, p_69_6, x_ifCond_ne, x_ifCond_neb, f_69_9, x_isub, x_ireturn, u_173_59, k_69_0, x_istore3i, x_istore3r, x_istore3u, x_iload3, x_imul, x_if_icmp_ge, x_iadd, k_69_15, x_iinc3i, x_iinc3r, x_iinc3u, f_69_13, k_69_14, ia_70, is_70, ia_76, is_76, ia_77, is_77, ↓reduceIte, b01_0, ite_not, if_true, if_false, Int.reduceLT, Int.reduceEq]
    · unfold r70
      rw [if_neg q2]
      unfold up
      rw [if_neg q3, t4, mdk o k q]
      exact k2 o k (s77 o k q)
    · have m70 : M2 70 = M 70 := funext fun k => k2 70 k (by decide)
      have j70 : I2 70 = M 70 := by
        rw [t4, ← m70]
        rfl
      have j77 : (up I2 69 6 0) 77 = M2 77 := by
        rw [t4]
        rfl
      have j76 : (up I2 69 6 0) 76 = Sp := by
        rw [t4]
        rfl
      rw [← j70, ← j77, ← j76]
      rfl
  · rw [if_neg (by rw [hp]; decide)] at e0
    obtain ⟨a, t, v, o, st, Sp, t1⟩ := s2 hp
    have h9 : (up I2 69 6 0) 69 9 = P.2.1 := by
      rw [t1]
      rfl
    have hb := g2
    refine ⟨up I2 69 6 0, ?_, rfl, fun o k q q3 => ?_⟩
    · rw [e0, u_173_42]
      simp (disch := omega) only [v_173_69, u_173_0, x_aload0, x_sipush, p_69_8, p_69_13, x_istore1i, x_istore1r, x_istore1u, x_call1_0, x_call1_1, x_call1_2, x_call1_3, x_call1_4, e_k_s, e_k_i, List.nil_append, List.cons_append, x_istore2i, x_istore2r, x_istore2u, x_jsr, x_iload2, x_ifCond_eq, x_ifCond_eqb, f_69_10, x_if_icmp_eq, x_iload1, x_call2_0, x_call2_1, x_call2_2, x_call2_3, x_call2_4, x_iinc1i, x_iinc1r, x_iinc1u, x_goto, p_69_6, x_ifCond_ne, x_ifCond_neb, f_69_9, x_isub, x_ireturn, u_173_59, k_69_0, x_istore3i, x_istore3r, x_istore3u, x_iload3, x_imul, x_if_icmp_ge, x_iadd, k_69_15, x_iinc3i, x_iinc3r, x_iinc3u, f_69_13, k_69_14, ia_70, is_70, ia_76, is_76, ia_77, is_77, h9, ↓reduceIte, b01_0, ite_not, if_true, if_false, Int.reduceLT, Int.reduceEq]
    · unfold up
      rw [if_neg q3, t1, mdk o k q]
      exact k2 o k (s77 o k q)
end
