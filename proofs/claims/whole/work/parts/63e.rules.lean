/-! THE CLASS'S AUTOMATON reads rules -/
def rkc (K V E : Int → Int) : List rle → Prop
  | [] => True
  | r :: t => K t.length = r.1 ∧ V t.length = r.2.1 ∧ E t.length = r.2.2.length ∧ rkc K V E t
def rul (I : Nat → Int → Int) (R : List rle) : Prop := I 40 5 = R.length ∧ rkc (I 41) (I 42) (I 43) R
theorem rkc_up {K V E : Int → Int} {k x y u : Int} : ∀ {R : List rle}, (R.length : Int) ≤ k → rkc K V E R → rkc (upf K k x) (upf V k y) (upf E k u) R
  | [], _, _ => trivial
  | p :: t, h, hp => by
    rw [ll] at h
    have n0 : ¬ ((t.length : Nat) : Int) = k := by omega
    refine ⟨?_, ?_, ?_, rkc_up (R := t) (by omega) hp.2.2.2⟩
    · show (if ((t.length : Nat) : Int) = k then x else K t.length) = _
      rw [if_neg n0]
      exact hp.1
    · show (if ((t.length : Nat) : Int) = k then y else V t.length) = _
      rw [if_neg n0]
      exact hp.2.1
    · show (if ((t.length : Nat) : Int) = k then u else E t.length) = _
      rw [if_neg n0]
      exact hp.2.2.1
theorem tpd_up {I : Nat → Int → Int} {A : Int → Int} {n : Int} {o : Nat} {k x : Int} (h1 : o ≠ 46) (h2 : o ≠ 39 ∨ k ≠ 2) (h : tpd I A n) : tpd (up I o k x) A n := by
  obtain ⟨a1, a2, a3⟩ := h
  refine ⟨a1, ?_, fun i i0 i1 => ?_⟩
  · unfold up
    rw [if_neg (by omega)]
    exact a2
  · unfold up
    rw [if_neg (by omega)]
    exact a3 i i0 i1
theorem cF_kp {I0 I J : Nat → Int → Int} {b : Int} {z : e_R} (hk : kp I0 I) (h : cF I J b z) : cF I0 J b z := by
  obtain ⟨I', h1, h2, h3⟩ := h
  exact ⟨I', h1, kpE_tr (kpE_kp hk) h2, h3⟩
section
variable {X : e_X} {d : Nat} {I J N : Nat → Int → Int} {A : Int → Int} {n b v du lf sg op words a s w sz : Int} {C : List prt} {W : List Int} {Cd Wt : Int → Int} {z : e_R}
theorem k_kind (hT : tpd I A n) (hb : 0 ≤ b ∧ b ≤ n) (hw : wd A n b ≤ 5) {c : Int} (hc : I 40 5 = c) (hc8 : 0 ≤ c ∧ c < 8) (h : cS X d A n I J b C W 0 lf sg op z) : cS X d A n (up I 39 7 (wd A n b)) J (ns A n b) C W 1 lf sg op z := by
  have wb := wd_b (A := A) (n := n) (b := b)
  obtain ⟨v, words, Cd, Wt, h1, h2, h3, h4, h5⟩ := h
  have q1 : ¬ 5 < wd A n b := by omega
  have q2 := hc8.2
  refine cS_go (v := v) (Cd := Cd) (Wt := Wt) (tpd_up (by decide) (by decide) hT) hb (by omega) h4 h2 h3 ?_ h5
  simp (disch := omega) only [v_33_39, u_33_0, x_aload0, f_39_6, x_switch, e_sw_c, e_sw_n, u_33_44, x_iload1, x_call2_0, x_call2_1, x_call2_2, x_call2_3, x_call2_4, e_k_s, e_k_i, List.nil_append, List.cons_append, x_zret0, x_zret1, x_zretb, u_33_50, u_33_56, u_33_62, u_33_68, u_33_74, u_33_80, v_34_39, u_34_0, x_sipush, x_if_icmp_gt, k_39_0, f_40_5, x_if_icmp_lt, x_jsr, u_34_17, u_34_19, p_39_7, p_39_6, rd_39_3, rd_39_4, rd_39_5, rd_39_6, rd_39_9, rd_39_10, rd_39_11, rd_39_13, rd_40_6, rd_44, rd_47, rd_39_2, rd_39_7, rd_39_8, rd_40_5, rd_46, rd_41, rd_42, rd_43, rd_u_39_3, rd_u_39_4, rd_u_39_5, rd_u_39_6, rd_u_39_9, rd_u_39_10, rd_u_39_11, rd_u_39_13, rd_u_40_6, rd_u_44, rd_u_47, rd_i_39_7, hc, q1, q2, ↓reduceIte, b01_0, ite_not, if_true, if_false, Int.reduceLT, Int.reduceEq]
theorem k_kno (hT : tpd I A n) (hb : 0 ≤ b ∧ b ≤ n) (h20 : wd A n b ≠ 20) {c : Int} (hc : I 40 5 = c) (hc8 : 0 ≤ c ∧ c ≤ 8) (hw : 5 < wd A n b ∨ c = 8) (h : cS X d A n I J b C W 0 lf sg op z) : cF I J b z := by
  have wb := wd_b (A := A) (n := n) (b := b)
  have hn := hT.1
  obtain ⟨v, words, Cd, Wt, h1, h2, h3, h4, h5⟩ := h
  refine cF_no (I := I) (a := en A n b) (v := v) (du := 0) (lf := lf) (sg := sg) (op := op) (w := W.length) (sz := C.length) (Cd := Cd) (Wt := Wt) hn.2 hb h20 h4 ?_ h5
  by_cases q1 : 5 < wd A n b
  · simp (disch := omega) only [v_33_39, u_33_0, x_aload0, f_39_6, x_switch, e_sw_c, e_sw_n, u_33_44, x_iload1, x_call2_0, x_call2_1, x_call2_2, x_call2_3, x_call2_4, e_k_s, e_k_i, List.nil_append, List.cons_append, x_zret0, x_zret1, x_zretb, u_33_50, u_33_56, u_33_62, u_33_68, u_33_74, u_33_80, v_34_39, u_34_0, x_sipush, x_if_icmp_gt, k_39_0, f_40_5, x_if_icmp_lt, x_jsr, u_34_17, u_34_19, p_39_7, p_39_6, rd_39_3, rd_39_4, rd_39_5, rd_39_6, rd_39_9, rd_39_10, rd_39_11, rd_39_13, rd_40_6, rd_44, rd_47, rd_39_2, rd_39_7, rd_39_8, rd_40_5, rd_46, rd_41, rd_42, rd_43, rd_u_39_3, rd_u_39_4, rd_u_39_5, rd_u_39_6, rd_u_39_9, rd_u_39_10, rd_u_39_11, rd_u_39_13, rd_u_40_6, rd_u_44, rd_u_47, hc, q1, ↓reduceIte, b01_0, ite_not, if_true, if_false, Int.reduceLT, Int.reduceEq]
  · have q2 : ¬ c < 8 := by omega
    simp (disch := omega) only [v_33_39, u_33_0, x_aload0, f_39_6, x_switch, e_sw_c, e_sw_n, u_33_44, x_iload1, x_call2_0, x_call2_1, x_call2_2, x_call2_3, x_call2_4, e_k_s, e_k_i, List.nil_append, List.cons_append, x_zret0, x_zret1, x_zretb, u_33_50, u_33_56, u_33_62, u_33_68, u_33_74, u_33_80, v_34_39, u_34_0, x_sipush, x_if_icmp_gt, k_39_0, f_40_5, x_if_icmp_lt, x_jsr, u_34_17, u_34_19, p_39_7, p_39_6, rd_39_3, rd_39_4, rd_39_5, rd_39_6, rd_39_9, rd_39_10, rd_39_11, rd_39_13, rd_40_6, rd_44, rd_47, rd_39_2, rd_39_7, rd_39_8, rd_40_5, rd_46, rd_41, rd_42, rd_43, rd_u_39_3, rd_u_39_4, rd_u_39_5, rd_u_39_6, rd_u_39_9, rd_u_39_10, rd_u_39_11, rd_u_39_13, rd_u_40_6, rd_u_44, rd_u_47, hc, q1, q2, ↓reduceIte, b01_0, ite_not, if_true, if_false, Int.reduceLT, Int.reduceEq]
theorem k_if (hT : tpd I A n) (hb : 0 ≤ b ∧ b ≤ n) (hw : wd A n b = 9) (h : cS X d A n I J b C W 1 lf sg op z) : cS X d A n I J (ns A n b) C W 2 lf sg op z := by
  obtain ⟨v, words, Cd, Wt, h1, h2, h3, h4, h5⟩ := h
  refine cS_go (v := v) (Cd := Cd) (Wt := Wt) hT hb (by omega) h4 h2 h3 ?_ h5
  rw [hw]
  simp (disch := omega) only [v_33_39, u_33_0, x_aload0, f_39_6, x_switch, e_sw_c, e_sw_n, u_33_44, x_iload1, x_call2_0, x_call2_1, x_call2_2, x_call2_3, x_call2_4, e_k_s, e_k_i, List.nil_append, List.cons_append, x_zret0, x_zret1, x_zretb, u_33_50, u_33_56, u_33_62, u_33_68, u_33_74, u_33_80, v_35_39, u_35_0, x_sipush, x_if_icmp_eq, u_35_12, p_39_6, rd_39_3, rd_39_4, rd_39_5, rd_39_6, rd_39_9, rd_39_10, rd_39_11, rd_39_13, rd_40_6, rd_44, rd_47, rd_39_2, rd_39_7, rd_39_8, rd_40_5, rd_46, rd_41, rd_42, rd_43, rd_u_39_3, rd_u_39_4, rd_u_39_5, rd_u_39_6, rd_u_39_9, rd_u_39_10, rd_u_39_11, rd_u_39_13, rd_u_40_6, rd_u_44, rd_u_47, ↓reduceIte, b01_0, ite_not, if_true, if_false, Int.reduceLT, Int.reduceEq]
theorem t_wil (hw : 6 ≤ a ∧ a ≤ 8) : s_S X (d + 2) 36 [.ref 39, .int (iI a)] (mm (rd I words s v du lf sg op w sz Cd Wt) J) = some ([.int (iI 1)], mm (rd (up I 39 8 (a - 6)) words s v 6 lf sg op w sz Cd Wt) J) := by
  have e := fun N => b_in (X := X) (d := d) (I := N) (J := J) (v := a) (a := 6) (b := 8) hw ⟨by omega, by decide, by decide⟩
  simp (disch := omega) only [v_36_39, u_36_0, x_iload1, x_sipush, x_call3_0, x_call3_1, x_call3_2, x_call3_3, x_call3_4, e_k_s, e_k_i, List.nil_append, List.cons_append, x_ifCond_eq, x_ifCond_eqb, x_zret0, x_zret1, x_zretb, u_36_13, x_aload0, x_isub, p_39_8, p_39_6, rd_39_3, rd_39_4, rd_39_5, rd_39_6, rd_39_9, rd_39_10, rd_39_11, rd_39_13, rd_40_6, rd_44, rd_47, rd_39_2, rd_39_7, rd_39_8, rd_40_5, rd_46, rd_41, rd_42, rd_43, rd_u_39_3, rd_u_39_4, rd_u_39_5, rd_u_39_6, rd_u_39_9, rd_u_39_10, rd_u_39_11, rd_u_39_13, rd_u_40_6, rd_u_44, rd_u_47, rd_i_39_8, e, ↓reduceIte, b01_0, ite_not, if_true, if_false, Int.reduceLT, Int.reduceEq]
theorem t_wno (hw : ¬ (6 ≤ a ∧ a ≤ 8)) (ha : 0 ≤ a ∧ a ≤ 26) : s_S X (d + 2) 36 [.ref 39, .int (iI a)] (mm (rd I words s v du lf sg op w sz Cd Wt) J) = some ([.int (iI 0)], mm (rd I words s v du lf sg op w sz Cd Wt) J) := by
  have e := fun N => b_nin (X := X) (d := d) (I := N) (J := J) (v := a) (a := 6) (b := 8) (by omega) ⟨by omega, by decide, by decide⟩
  simp (disch := omega) only [v_36_39, u_36_0, x_iload1, x_sipush, x_call3_0, x_call3_1, x_call3_2, x_call3_3, x_call3_4, e_k_s, e_k_i, List.nil_append, List.cons_append, x_ifCond_eq, x_ifCond_eqb, x_zret0, x_zret1, x_zretb, u_36_13, x_aload0, x_isub, p_39_8, p_39_6, rd_39_3, rd_39_4, rd_39_5, rd_39_6, rd_39_9, rd_39_10, rd_39_11, rd_39_13, rd_40_6, rd_44, rd_47, rd_39_2, rd_39_7, rd_39_8, rd_40_5, rd_46, rd_41, rd_42, rd_43, rd_u_39_3, rd_u_39_4, rd_u_39_5, rd_u_39_6, rd_u_39_9, rd_u_39_10, rd_u_39_11, rd_u_39_13, rd_u_40_6, rd_u_44, rd_u_47, e, ↓reduceIte, b01_0, ite_not, if_true, if_false, Int.reduceLT, Int.reduceEq]
theorem k_will1 (hT : tpd I A n) (hb : 0 ≤ b ∧ b ≤ n) (hw : 6 ≤ wd A n b ∧ wd A n b ≤ 8) (h : cS X d A n I J b C W 1 lf sg op z) : cS X d A n (up I 39 8 (wd A n b - 6)) J (ns A n b) C W 6 lf sg op z := by
  obtain ⟨v, words, Cd, Wt, h1, h2, h3, h4, h5⟩ := h
  have e := fun N a' v' du' w' => t_wil (X := X) (d := d + 5) (I := N) (J := J) (a := wd A n b) (words := a') (s := b) (v := v') (du := du') (lf := lf) (sg := sg) (op := op) (w := w') (sz := C.length) (Cd := Cd) (Wt := Wt) hw
  have q : ¬ wd A n b = 9 := by omega
  refine cS_go (v := v) (Cd := Cd) (Wt := Wt) (tpd_up (by decide) (by decide) hT) hb (by omega) h4 h2 h3 ?_ h5
  simp (disch := omega) only [v_33_39, u_33_0, x_aload0, f_39_6, x_switch, e_sw_c, e_sw_n, u_33_44, x_iload1, x_call2_0, x_call2_1, x_call2_2, x_call2_3, x_call2_4, e_k_s, e_k_i, List.nil_append, List.cons_append, x_zret0, x_zret1, x_zretb, u_33_50, u_33_56, u_33_62, u_33_68, u_33_74, u_33_80, v_35_39, u_35_0, x_sipush, x_if_icmp_eq, u_35_12, p_39_6, rd_39_3, rd_39_4, rd_39_5, rd_39_6, rd_39_9, rd_39_10, rd_39_11, rd_39_13, rd_40_6, rd_44, rd_47, rd_39_2, rd_39_7, rd_39_8, rd_40_5, rd_46, rd_41, rd_42, rd_43, rd_u_39_3, rd_u_39_4, rd_u_39_5, rd_u_39_6, rd_u_39_9, rd_u_39_10, rd_u_39_11, rd_u_39_13, rd_u_40_6, rd_u_44, rd_u_47, q, e, ↓reduceIte, b01_0, ite_not, if_true, if_false, Int.reduceLT, Int.reduceEq]
theorem k_wno1 (hT : tpd I A n) (hb : 0 ≤ b ∧ b ≤ n) (q : ¬ wd A n b = 9) (hw : ¬ (6 ≤ wd A n b ∧ wd A n b ≤ 8)) (h : cS X d A n I J b C W 1 lf sg op z) : cF I J b z := by
  have wb := wd_b (A := A) (n := n) (b := b)
  have hn := hT.1
  obtain ⟨v, words, Cd, Wt, h1, h2, h3, h4, h5⟩ := h
  by_cases q20 : wd A n b = 20
  · exact cF_20 hn.2 hb q20 h4 (by decide) h5
  · have e := fun N a' v' du' w' => t_wno (X := X) (d := d + 5) (I := N) (J := J) (a := wd A n b) (words := a') (s := b) (v := v') (du := du') (lf := lf) (sg := sg) (op := op) (w := w') (sz := C.length) (Cd := Cd) (Wt := Wt) hw wb
    refine cF_no (I := I) (a := en A n b) (v := v) (du := 1) (lf := lf) (sg := sg) (op := op) (w := W.length) (sz := C.length) (Cd := Cd) (Wt := Wt) hn.2 hb q20 h4 ?_ h5
    simp (disch := omega) only [v_33_39, u_33_0, x_aload0, f_39_6, x_switch, e_sw_c, e_sw_n, u_33_44, x_iload1, x_call2_0, x_call2_1, x_call2_2, x_call2_3, x_call2_4, e_k_s, e_k_i, List.nil_append, List.cons_append, x_zret0, x_zret1, x_zretb, u_33_50, u_33_56, u_33_62, u_33_68, u_33_74, u_33_80, v_35_39, u_35_0, x_sipush, x_if_icmp_eq, u_35_12, p_39_6, rd_39_3, rd_39_4, rd_39_5, rd_39_6, rd_39_9, rd_39_10, rd_39_11, rd_39_13, rd_40_6, rd_44, rd_47, rd_39_2, rd_39_7, rd_39_8, rd_40_5, rd_46, rd_41, rd_42, rd_43, rd_u_39_3, rd_u_39_4, rd_u_39_5, rd_u_39_6, rd_u_39_9, rd_u_39_10, rd_u_39_11, rd_u_39_13, rd_u_40_6, rd_u_44, rd_u_47, q, e, ↓reduceIte, b01_0, ite_not, if_true, if_false, Int.reduceLT, Int.reduceEq]
theorem k_will5 {Q : List Int} (hT : tpd I A n) (hb : 0 ≤ b ∧ b ≤ n) (hw : 6 ≤ wd A n b ∧ wd A n b ≤ 8) (hq : ∀ q, q ∈ Q → q = 10 ∨ q = 11) (hz : (C.length : Int) + Q.length ≤ 200) (h : cS X d A n I J b C (Q ++ []) 5 lf sg 0 z) : cS X d A n (up I 39 8 (wd A n b - 6)) J (ns A n b) (jna Q C) [] 6 lf sg 0 z := by
  obtain ⟨v, words, Cd, Wt, h1, h2, h3, h4, h5⟩ := h
  obtain ⟨C', e1, e2⟩ := c_aj (X := X) (d := d + 5) (I := I) (J := J) (a := en A n b) (s := b) (v := v) (du := 5) (lf := lf) (sg := sg) (op := 0) (Wt := Wt) (x := 11) (Or.inr rfl) (W := []) (by simp) (by simp) Q C Cd hq h2 h3 (by rw [l0]; omega)
  have e := fun N a' v' du' w' => t_wil (X := X) (d := d + 5) (I := N) (J := J) (a := wd A n b) (words := a') (s := b) (v := v') (du := du') (lf := lf) (sg := sg) (op := 0) (w := w') (sz := (jna Q C).length) (Cd := C') (Wt := Wt) hw
  have q1 : ¬ wd A n b = 25 := by omega
  have q2 : ¬ wd A n b = 10 := by omega
  have q3 : ¬ wd A n b = 11 := by omega
  refine cS_go (v := v) (Cd := C') (Wt := Wt) (tpd_up (by decide) (by decide) hT) hb (by omega) h4 e2 trivial ?_ h5
  simp (disch := omega) only [v_33_39, u_33_0, x_aload0, f_39_6, x_switch, e_sw_c, e_sw_n, u_33_44, x_iload1, x_call2_0, x_call2_1, x_call2_2, x_call2_3, x_call2_4, e_k_s, e_k_i, List.nil_append, List.cons_append, x_zret0, x_zret1, x_zretb, u_33_50, u_33_56, u_33_62, u_33_68, u_33_74, u_33_80, v_44_39, u_44_0, x_sipush, x_if_icmp_ne, x_call1_0, x_call1_1, x_call1_2, x_call1_3, x_call1_4, u_44_11, x_if_icmp_eq, x_jsr, u_44_23, p_39_6, u_44_39, f_39_11, x_ifCond_le, u_44_48, v_46_39, rd_39_3, rd_39_4, rd_39_5, rd_39_6, rd_39_9, rd_39_10, rd_39_11, rd_39_13, rd_40_6, rd_44, rd_47, rd_39_2, rd_39_7, rd_39_8, rd_40_5, rd_46, rd_41, rd_42, rd_43, rd_u_39_3, rd_u_39_4, rd_u_39_5, rd_u_39_6, rd_u_39_9, rd_u_39_10, rd_u_39_11, rd_u_39_13, rd_u_40_6, rd_u_44, rd_u_47, q1, q2, q3, e1, e, ↓reduceIte, b01_0, ite_not, if_true, if_false, Int.reduceLT, Int.reduceEq]
theorem k_wno5 {Q : List Int} (hT : tpd I A n) (hb : 0 ≤ b ∧ b ≤ n) (q2 : ¬ wd A n b = 10) (q3 : ¬ wd A n b = 11) (hw : ¬ (6 ≤ wd A n b ∧ wd A n b ≤ 8)) (hq : ∀ q, q ∈ Q → q = 10 ∨ q = 11) (hz : (C.length : Int) + Q.length ≤ 200) (h : cS X d A n I J b C (Q ++ []) 5 lf sg 0 z) : cF I J b z := by
  have wb := wd_b (A := A) (n := n) (b := b)
  have hn := hT.1
  obtain ⟨v, words, Cd, Wt, h1, h2, h3, h4, h5⟩ := h
  by_cases q20 : wd A n b = 20
  · exact cF_20 hn.2 hb q20 h4 (by decide) h5
  · by_cases q1 : wd A n b = 25
    · refine cF_no (I := I) (a := en A n b) (v := v) (du := 5) (lf := lf) (sg := sg) (op := 0) (w := (Q ++ []).length) (sz := C.length) (Cd := Cd) (Wt := Wt) hn.2 hb q20 h4 ?_ h5
      rw [q1]
      simp (disch := omega) only [v_33_39, u_33_0, x_aload0, f_39_6, x_switch, e_sw_c, e_sw_n, u_33_44, x_iload1, x_call2_0, x_call2_1, x_call2_2, x_call2_3, x_call2_4, e_k_s, e_k_i, List.nil_append, List.cons_append, x_zret0, x_zret1, x_zretb, u_33_50, u_33_56, u_33_62, u_33_68, u_33_74, u_33_80, v_44_39, u_44_0, x_sipush, x_if_icmp_ne, x_call1_0, x_call1_1, x_call1_2, x_call1_3, x_call1_4, u_44_11, x_if_icmp_eq, x_jsr, u_44_23, p_39_6, u_44_39, f_39_11, x_ifCond_le, u_44_48, v_45_39, u_45_0, x_ifCond_ne, x_ifCond_neb, u_45_9, x_dup_i, x_dup_r, x_isub, p_39_11, f_39_13, p_39_13, u_45_42, rd_39_3, rd_39_4, rd_39_5, rd_39_6, rd_39_9, rd_39_10, rd_39_11, rd_39_13, rd_40_6, rd_44, rd_47, rd_39_2, rd_39_7, rd_39_8, rd_40_5, rd_46, rd_41, rd_42, rd_43, rd_u_39_3, rd_u_39_4, rd_u_39_5, rd_u_39_6, rd_u_39_9, rd_u_39_10, rd_u_39_11, rd_u_39_13, rd_u_40_6, rd_u_44, rd_u_47, ↓reduceIte, b01_0, ite_not, if_true, if_false, Int.reduceLT, Int.reduceEq]
    · obtain ⟨C', e1, e2⟩ := c_aj (X := X) (d := d + 5) (I := I) (J := J) (a := en A n b) (s := b) (v := v) (du := 5) (lf := lf) (sg := sg) (op := 0) (Wt := Wt) (x := 11) (Or.inr rfl) (W := []) (by simp) (by simp) Q C Cd hq h2 h3 (by rw [l0]; omega)
      have e := fun N a' v' du' w' => t_wno (X := X) (d := d + 5) (I := N) (J := J) (a := wd A n b) (words := a') (s := b) (v := v') (du := du') (lf := lf) (sg := sg) (op := 0) (w := w') (sz := (jna Q C).length) (Cd := C') (Wt := Wt) hw wb
      refine cF_no (I := I) (a := en A n b) (v := v) (du := 5) (lf := lf) (sg := sg) (op := 0) (w := (([] : List Int).length : Nat)) (sz := (jna Q C).length) (Cd := C') (Wt := Wt) hn.2 hb q20 h4 ?_ h5
      simp (disch := omega) only [v_33_39, u_33_0, x_aload0, f_39_6, x_switch, e_sw_c, e_sw_n, u_33_44, x_iload1, x_call2_0, x_call2_1, x_call2_2, x_call2_3, x_call2_4, e_k_s, e_k_i, List.nil_append, List.cons_append, x_zret0, x_zret1, x_zretb, u_33_50, u_33_56, u_33_62, u_33_68, u_33_74, u_33_80, v_44_39, u_44_0, x_sipush, x_if_icmp_ne, x_call1_0, x_call1_1, x_call1_2, x_call1_3, x_call1_4, u_44_11, x_if_icmp_eq, x_jsr, u_44_23, p_39_6, u_44_39, f_39_11, x_ifCond_le, u_44_48, v_46_39, rd_39_3, rd_39_4, rd_39_5, rd_39_6, rd_39_9, rd_39_10, rd_39_11, rd_39_13, rd_40_6, rd_44, rd_47, rd_39_2, rd_39_7, rd_39_8, rd_40_5, rd_46, rd_41, rd_42, rd_43, rd_u_39_3, rd_u_39_4, rd_u_39_5, rd_u_39_6, rd_u_39_9, rd_u_39_10, rd_u_39_11, rd_u_39_13, rd_u_40_6, rd_u_44, rd_u_47, q1, q2, q3, e1, e, ↓reduceIte, b01_0, ite_not, if_true, if_false, Int.reduceLT, Int.reduceEq]
def cls (I : Nat → Int → Int) (c kd wl sz : Int) : Nat → Int → Int := up (up (up (up I 41 c kd) 42 c wl) 43 c sz) 40 5 (c + 1)
theorem k_semi (hT : tpd I A n) (hb : 0 ≤ b ∧ b ≤ n) (hw : wd A n b = 26) {c kd wl : Int} (hc : I 40 5 = c) (hc8 : 0 ≤ c ∧ c < 8) (hkd : I 39 7 = kd) (hwl : I 39 8 = wl) (h : cS X d A n I J b C W 6 lf sg op z) : cS X d A n (cls I c kd wl C.length) J (ns A n b) C W 0 lf sg op z := by
  obtain ⟨v, words, Cd, Wt, h1, h2, h3, h4, h5⟩ := h
  have hT2 : tpd (cls I c kd wl C.length) A n := tpd_up (by decide) (by omega) (tpd_up (by decide) (by omega) (tpd_up (by decide) (by omega) (tpd_up (by decide) (by omega) hT)))
  refine cS_go (v := v) (Cd := Cd) (Wt := Wt) hT2 hb (by omega) h4 h2 h3 ?_ h5
  have q := hc8.2
  rw [hw]
  unfold cls
  simp (disch := omega) only [v_33_39, u_33_0, x_aload0, f_39_6, x_switch, e_sw_c, e_sw_n, u_33_44, x_iload1, x_call2_0, x_call2_1, x_call2_2, x_call2_3, x_call2_4, e_k_s, e_k_i, List.nil_append, List.cons_append, x_zret0, x_zret1, x_zretb, u_33_50, u_33_56, u_33_62, u_33_68, u_33_74, u_33_80, v_47_39, u_47_0, x_sipush, x_if_icmp_eq, u_47_8, k_39_0, f_39_7, f_39_8, x_call3_0, x_call3_1, x_call3_2, x_call3_3, x_call3_4, p_39_6, v_15_9, v_15_40, u_15_0, f_40_5, x_if_icmp_lt, x_return, u_15_10, k_40_0, k_40_1, x_iload2, k_40_2, f_40_6, x_dup_i, x_dup_r, x_iadd, p_40_5, is_41, is_42, is_43, rd_39_3, rd_39_4, rd_39_5, rd_39_6, rd_39_9, rd_39_10, rd_39_11, rd_39_13, rd_40_6, rd_44, rd_47, rd_39_2, rd_39_7, rd_39_8, rd_40_5, rd_46, rd_41, rd_42, rd_43, rd_u_39_3, rd_u_39_4, rd_u_39_5, rd_u_39_6, rd_u_39_9, rd_u_39_10, rd_u_39_11, rd_u_39_13, rd_u_40_6, rd_u_44, rd_u_47, rd_i_41, rd_i_42, rd_i_43, rd_i_40_5, up_o, hc, hkd, hwl, q, ↓reduceIte, b01_0, ite_not, if_true, if_false, Int.reduceLT, Int.reduceEq]
theorem k_smno (hT : tpd I A n) (hb : 0 ≤ b ∧ b ≤ n) (q : ¬ wd A n b = 26) (h : cS X d A n I J b C W 6 lf sg op z) : cF I J b z := by
  have wb := wd_b (A := A) (n := n) (b := b)
  have hn := hT.1
  obtain ⟨v, words, Cd, Wt, h1, h2, h3, h4, h5⟩ := h
  by_cases q20 : wd A n b = 20
  · exact cF_20 hn.2 hb q20 h4 (by decide) h5
  · refine cF_no (I := I) (a := en A n b) (v := v) (du := 6) (lf := lf) (sg := sg) (op := op) (w := W.length) (sz := C.length) (Cd := Cd) (Wt := Wt) hn.2 hb q20 h4 ?_ h5
    simp (disch := omega) only [v_33_39, u_33_0, x_aload0, f_39_6, x_switch, e_sw_c, e_sw_n, u_33_44, x_iload1, x_call2_0, x_call2_1, x_call2_2, x_call2_3, x_call2_4, e_k_s, e_k_i, List.nil_append, List.cons_append, x_zret0, x_zret1, x_zretb, u_33_50, u_33_56, u_33_62, u_33_68, u_33_74, u_33_80, v_47_39, u_47_0, x_sipush, x_if_icmp_eq, u_47_8, k_39_0, f_39_7, f_39_8, x_call3_0, x_call3_1, x_call3_2, x_call3_3, x_call3_4, p_39_6, rd_39_3, rd_39_4, rd_39_5, rd_39_6, rd_39_9, rd_39_10, rd_39_11, rd_39_13, rd_40_6, rd_44, rd_47, rd_39_2, rd_39_7, rd_39_8, rd_40_5, rd_46, rd_41, rd_42, rd_43, rd_u_39_3, rd_u_39_4, rd_u_39_5, rd_u_39_6, rd_u_39_9, rd_u_39_10, rd_u_39_11, rd_u_39_13, rd_u_40_6, rd_u_44, rd_u_47, q, ↓reduceIte, b01_0, ite_not, if_true, if_false, Int.reduceLT, Int.reduceEq]
theorem kp_i {I : Nat → Int → Int} {k x : Int} (h : k ≠ 2) : kp I (up I 39 k x) := kp_up (Or.inr (Or.inr (Or.inl ⟨rfl, h⟩)))
theorem kp_cls {c kd wl sz : Int} : kp I (cls I c kd wl sz) := kp_tr (kp_tr (kp_tr (kp_up (by unfold scr; omega)) (kp_up (by unfold scr; omega))) (kp_up (by unfold scr; omega))) (kp_up (by unfold scr; omega))
/-- a rule's condition -/
theorem c_R0 (hT : tpd I A n) (hb : 0 ≤ b ∧ b ≤ n) (hl : (C.length : Int) ≤ b) (h : cS X d A n I J b C [] 1 lf sg 0 z) : ((pR0 A n b C).1 = true → (6 ≤ wd A n (pR0 A n b C).2.1 ∧ wd A n (pR0 A n b C).2.1 ≤ 8 → ∃ lf sg, cS X d A n (up I 39 8 (wd A n (pR0 A n b C).2.1 - 6)) J (ns A n (pR0 A n b C).2.1) (pR0 A n b C).2.2 [] 6 lf sg 0 z) ∧ (¬ (6 ≤ wd A n (pR0 A n b C).2.1 ∧ wd A n (pR0 A n b C).2.1 ≤ 8) → cF I J (pR0 A n b C).2.1 z)) ∧ ((pR0 A n b C).1 = false → cF I J (pR0 A n b C).2.1 z) := by
  have hn := hT.1
  unfold pR0
  by_cases q : wd A n b = 9
  · rw [if_pos q]
    have n1 := ns_lt (A := A) hb.2 (by omega)
    have h1 := k_if hT hb q h
    have h2 := c_pC (X := X) (d := d) (J := J) (op := 0) (z := z) (F := pW A n 3) hT (c_pW hT 3 0 (by decide) (by decide)) (pW_g hn.2 3 1 (by omega)) (W := []) (by simp) (by simp) (by simp) (b := ns A n b) (C := C) ⟨by omega, n1.2⟩ (by rw [l0]; omega) ⟨lf, sg, h1⟩
    obtain ⟨o1, o2, o3⟩ := pC_g (A := A) (n := n) (K := 0) (by decide) (pW_g hn.2 3 2 (by omega)) (k := 0) (Nat.le_refl 0) (b := ns A n b) (C := C) ⟨by omega, n1.2⟩ hn.2
    generalize pC A n (pW A n 3) (ns A n b) C = y at h2 o1 o2 o3
    refine ⟨fun hy => ?_, h2.2⟩
    have g := gd_l o1 hy
    have g3 := o3 hy
    obtain ⟨Q, Cc, s1, s2, lf, sg, s3⟩ := h2.1 hy
    have jl := jna_len Q Cc
    rw [← s2] at jl
    refine ⟨fun hw => ⟨lf, sg, ?_⟩, fun hw => k_wno5 hT ⟨by omega, g.2.1⟩ g3.1 g3.2 hw s1 (by omega) s3⟩
    have := k_will5 hT ⟨by omega, g.2.1⟩ hw s1 (by omega) s3
    rw [← s2] at this
    exact this
  · rw [if_neg q]
    exact ⟨fun _ => ⟨fun hw => ⟨lf, sg, k_will1 hT hb hw h⟩, fun hw => k_wno1 hT hb q hw h⟩, fun y => (by cases y)⟩
/-- a rule -/
theorem c_R {R : List rle} (hT : tpd I A n) (hb : 0 ≤ b ∧ b ≤ n) (hl : (C.length : Int) ≤ b) (hR : rul I R) (h8 : R.length < 8) (h20 : wd A n b ≠ 20) (h : cT X d A n I J b C [] 0 0 z) : ((pR A n b C).1 = true → ∃ I', kp I I' ∧ tpd I' A n ∧ rul I' ((wd A n b, wd A n (pR0 A n (ns A n b) C).2.1 - 6, (pR A n b C).2.2) :: R) ∧ cT X d A n I' J (pR A n b C).2.1 (pR A n b C).2.2 [] 0 0 z) ∧ ((pR A n b C).1 = false → cF I J (pR A n b C).2.1 z) := by
  have hn := hT.1
  obtain ⟨lf, sg, h⟩ := h
  unfold pR
  by_cases c1 : wd A n b ≤ 5
  · rw [if_pos c1]
    have n1 := ns_lt (A := A) hb.2 (by omega)
    have h1 := k_kind hT hb c1 hR.1 (by omega) h
    have hT1 : tpd (up I 39 7 (wd A n b)) A n := tpd_up (by decide) (by decide) hT
    have kp1 : kp I (up I 39 7 (wd A n b)) := kp_i (by decide)
    have h2 := c_R0 hT1 ⟨by omega, n1.2⟩ (by omega) h1
    obtain ⟨g1, g2⟩ := pR0_g (A := A) hn.2 (b := ns A n b) (C := C) ⟨by omega, n1.2⟩
    generalize pR0 A n (ns A n b) C = y at h2 g1 g2
    by_cases c2 : y.1 = true
    · rw [if_pos c2]
      obtain ⟨j1, j2, _⟩ := g1 c2
      by_cases c3 : 6 ≤ wd A n y.2.1 ∧ wd A n y.2.1 ≤ 8
      · rw [if_pos c3]
        have n2 := ns_lt (A := A) j2 (by omega)
        obtain ⟨lf, sg, h3⟩ := (h2.1 c2).1 c3
        have hT2 : tpd (up (up I 39 7 (wd A n b)) 39 8 (wd A n y.2.1 - 6)) A n := tpd_up (by decide) (by decide) hT1
        have kp2 : kp I (up (up I 39 7 (wd A n b)) 39 8 (wd A n y.2.1 - 6)) := kp_tr kp1 (kp_i (by decide))
        by_cases c4 : wd A n (ns A n y.2.1) = 26
        · rw [if_pos c4]
          refine ⟨fun _ => ⟨_, kp_tr kp2 kp_cls, ?_, ⟨?_, ?_⟩, lf, sg, k_semi (c := R.length) (kd := wd A n b) (wl := wd A n y.2.1 - 6) hT2 ⟨by omega, n2.2⟩ c4 hR.1 (by omega) rfl rfl h3⟩, fun y => (by cases y)⟩
          · exact tpd_up (by decide) (by omega) (tpd_up (by decide) (by omega) (tpd_up (by decide) (by omega) (tpd_up (by decide) (by omega) hT2)))
          · rw [ll]
            rfl
          · have r41 : cls (up (up I 39 7 (wd A n b)) 39 8 (wd A n y.2.1 - 6)) R.length (wd A n b) (wd A n y.2.1 - 6) y.2.2.length 41 = upf (I 41) R.length (wd A n b) := by
              funext k
              simp [cls, up, upf]
            have r42 : cls (up (up I 39 7 (wd A n b)) 39 8 (wd A n y.2.1 - 6)) R.length (wd A n b) (wd A n y.2.1 - 6) y.2.2.length 42 = upf (I 42) R.length (wd A n y.2.1 - 6) := by
              funext k
              simp [cls, up, upf]
            have r43 : cls (up (up I 39 7 (wd A n b)) 39 8 (wd A n y.2.1 - 6)) R.length (wd A n b) (wd A n y.2.1 - 6) y.2.2.length 43 = upf (I 43) R.length y.2.2.length := by
              funext k
              simp [cls, up, upf]
            simp only
            rw [r41, r42, r43]
            exact ⟨if_pos rfl, if_pos rfl, if_pos rfl, rkc_up (Int.le_refl _) hR.2⟩
        · rw [if_neg c4]
          exact ⟨fun y => (by cases y), fun _ => cF_kp kp2 (k_smno (b := ns A n y.2.1) hT2 ⟨by omega, n2.2⟩ c4 h3)⟩
      · rw [if_neg c3]
        exact ⟨fun y => (by cases y), fun _ => cF_kp kp1 ((h2.1 c2).2 c3)⟩
    · rw [if_neg c2]
      exact ⟨fun y => (by cases y), fun _ => cF_kp kp1 (h2.2 (by simpa using c2))⟩
  · rw [if_neg c1]
    exact ⟨fun y => (by cases y), fun _ => k_kno (b := b) hT hb h20 hR.1 (by omega) (Or.inl (by omega)) h⟩
theorem c_X0 (hT : tpd I A n) (hb : 0 ≤ b ∧ b ≤ n) (h20 : wd A n b = 20) (h : cS X d A n I J b C W 0 lf sg op z) : ∃ I', z = some ([.int (iI (-1))], mm I' J) ∧ kpE (fun o k => o = 39 ∧ k = 2) I I' ∧ I' 39 2 = 0 ∧ I' 40 5 = I 40 5 ∧ I' 40 6 = C.length ∧ I' 41 = I 41 ∧ I' 42 = I 42 ∧ I' 43 = I 43 ∧ cod (I' 44) C := by
  have hn := hT.1
  obtain ⟨v, words, Cd, Wt, h1, h2, h3, h4, h5⟩ := h
  refine ⟨rd (up I 39 2 0) (en A n b) b v 0 lf sg op W.length C.length Cd Wt, ?_, rd_kpE, rfl, rfl, rfl, rfl, rfl, rfl, h2⟩
  rw [h5, h20, u_26_34]
  by_cases k1 : words < 200
  · simp (disch := omega) only [v_26_39, u_26_0, x_aload0, k_39_0, x_call1_0, x_call1_1, x_call1_2, x_call1_3, x_call1_4, e_k_s, e_k_i, List.nil_append, List.cons_append, x_sipush, p_39_3, p_39_6, p_39_11, p_39_13, x_istore1i, x_istore1r, x_istore1u, x_istore2i, x_istore2r, x_istore2u, x_jsr, x_iload2, x_if_icmp_ge, x_iload1, x_if_icmp_eq, x_call2_0, x_call2_1, x_call2_2, x_call2_3, x_call2_4, x_ifCond_eq, x_ifCond_eqb, x_iinc2i, x_iinc2r, x_iinc2u, x_goto, u_26_66, p_39_2, x_if_icmp_ne, f_39_6, x_ifCond_ne, x_ifCond_neb, u_26_88, f_39_4, u_26_92, x_ireturn, rd_39_3, rd_39_4, rd_39_5, rd_39_6, rd_39_9, rd_39_10, rd_39_11, rd_39_13, rd_40_6, rd_44, rd_47, rd_39_2, rd_39_7, rd_39_8, rd_40_5, rd_46, rd_41, rd_42, rd_43, rd_u_39_3, rd_u_39_4, rd_u_39_5, rd_u_39_6, rd_u_39_9, rd_u_39_10, rd_u_39_11, rd_u_39_13, rd_u_40_6, rd_u_44, rd_u_47, rd_i_39_2, k1, ↓reduceIte, b01_0, ite_not, if_true, if_false, Int.reduceLT, Int.reduceEq]
  · simp (disch := omega) only [v_26_39, u_26_0, x_aload0, k_39_0, x_call1_0, x_call1_1, x_call1_2, x_call1_3, x_call1_4, e_k_s, e_k_i, List.nil_append, List.cons_append, x_sipush, p_39_3, p_39_6, p_39_11, p_39_13, x_istore1i, x_istore1r, x_istore1u, x_istore2i, x_istore2r, x_istore2u, x_jsr, x_iload2, x_if_icmp_ge, x_iload1, x_if_icmp_eq, x_call2_0, x_call2_1, x_call2_2, x_call2_3, x_call2_4, x_ifCond_eq, x_ifCond_eqb, x_iinc2i, x_iinc2r, x_iinc2u, x_goto, u_26_66, p_39_2, x_if_icmp_ne, f_39_6, x_ifCond_ne, x_ifCond_neb, u_26_88, f_39_4, u_26_92, x_ireturn, rd_39_3, rd_39_4, rd_39_5, rd_39_6, rd_39_9, rd_39_10, rd_39_11, rd_39_13, rd_40_6, rd_44, rd_47, rd_39_2, rd_39_7, rd_39_8, rd_40_5, rd_46, rd_41, rd_42, rd_43, rd_u_39_3, rd_u_39_4, rd_u_39_5, rd_u_39_6, rd_u_39_9, rd_u_39_10, rd_u_39_11, rd_u_39_13, rd_u_40_6, rd_u_44, rd_u_47, rd_i_39_2, k1, ↓reduceIte, b01_0, ite_not, if_true, if_false, Int.reduceLT, Int.reduceEq]
theorem c_X : ∀ (f : Nat) (I : Nat → Int → Int) (b : Int) (R : List rle), f + R.length = 9 → R.length ≤ 8 → tpd I A n → (0 ≤ b ∧ b ≤ n) → ((hcd R).length : Int) ≤ b → rul I R → cT X d A n I J b (hcd R) [] 0 0 z → ((pX A n f b (hcd R) R).1 = true → ∃ I', z = some ([.int (iI (-1))], mm I' J) ∧ kpE (fun o k => o = 39 ∧ k = 2) I I' ∧ I' 39 2 = 0 ∧ rul I' (pX A n f b (hcd R) R).2.2 ∧ I' 40 6 = (hcd (pX A n f b (hcd R) R).2.2).length ∧ cod (I' 44) (hcd (pX A n f b (hcd R) R).2.2)) ∧ ((pX A n f b (hcd R) R).1 = false → cF I J (pX A n f b (hcd R) R).2.1 z)
  | 0, I, b, R, hf, h8, hT, hb, hl, hR, h => by omega
  | f + 1, I, b, R, hf, h8, hT, hb, hl, hR, h => by
    have hn := hT.1
    have e : pX A n (f + 1) b (hcd R) R = if wd A n b = 20 then (true, b, R) else if R.length = 8 then (false, b, R) else if (pR A n b (hcd R)).1 = true then pX A n f (pR A n b (hcd R)).2.1 (pR A n b (hcd R)).2.2 ((wd A n b, wd A n (pR0 A n (ns A n b) (hcd R)).2.1 - 6, (pR A n b (hcd R)).2.2) :: R) else (false, (pR A n b (hcd R)).2.1, R) := rfl
    rw [e]
    by_cases c1 : wd A n b = 20
    · rw [if_pos c1]
      obtain ⟨lf, sg, h⟩ := h
      obtain ⟨I', h1, h2, h3, h4, h5, h6, h7, h9, h10⟩ := c_X0 hT hb c1 h
      exact ⟨fun _ => ⟨I', h1, h2, h3, ⟨by rw [h4]; exact hR.1, by rw [h6, h7, h9]; exact hR.2⟩, h5, h10⟩, fun y => (by cases y)⟩
    · rw [if_neg c1]
      by_cases c2 : R.length = 8
      · rw [if_pos c2]
        obtain ⟨lf, sg, h⟩ := h
        exact ⟨fun y => (by cases y), fun _ => k_kno hT hb c1 hR.1 (by omega) (Or.inr (by omega)) h⟩
      · rw [if_neg c2]
        have h2 := c_R hT hb hl hR (by omega) c1 h
        obtain ⟨g1, g2⟩ := pR_g (A := A) hn.2 (b := b) (C := hcd R) hb
        by_cases c3 : (pR A n b (hcd R)).1 = true
        · rw [if_pos c3]
          obtain ⟨j1, j2, j3, j4, D, k, j5, j6, j7, j8⟩ := g1 c3
          obtain ⟨I1, k1, k2, k3, k4⟩ := h2.1 c3
          have lD := off_len D
          have := c_X f I1 (pR A n b (hcd R)).2.1 ((wd A n b, wd A n (pR0 A n (ns A n b) (hcd R)).2.1 - 6, (pR A n b (hcd R)).2.2) :: R) (by rw [List.length_cons]; omega) (by rw [List.length_cons]; omega) k2 ⟨by omega, j2⟩ (by
            show (((pR A n b (hcd R)).2.2.length : Nat) : Int) ≤ _
            rw [j5, List.length_append]
            omega) k3 k4
          refine ⟨fun hy => ?_, fun hy => cF_kp k1 (this.2 hy)⟩
          obtain ⟨I', q1, q2, q3, q4, q5, q6⟩ := this.1 hy
          exact ⟨I', q1, kpE_tr (kpE_kp k1) q2, q3, q4, q5, q6⟩
        · rw [if_neg c3]
          exact ⟨fun y => (by cases y), fun _ => h2.2 (by simpa using c3)⟩
/-- the whole tape -/
theorem c_all (hT : tpd I A n) : ∃ I', s_S X (d + 10) 26 [.ref 39] (mm I J) = some ([.int (iI (if (pX A n 9 (sk A n 0) [] []).1 = true then -1 else (pX A n 9 (sk A n 0) [] []).2.1))], mm I' J) ∧ kpE (fun o k => o = 39 ∧ k = 2) I I' ∧ I' 39 2 = 0 ∧ ((pX A n 9 (sk A n 0) [] []).1 = true → rul I' (pX A n 9 (sk A n 0) [] []).2.2 ∧ I' 40 6 = (hcd (pX A n 9 (sk A n 0) [] []).2.2).length ∧ cod (I' 44) (hcd (pX A n 9 (sk A n 0) [] []).2.2)) := by
  have hn := hT.1
  have hT1 : tpd (up I 40 5 0) A n := tpd_up (by decide) (by decide) hT
  have b0 : 0 ≤ sk A n 0 := av_ge
  have b1 : sk A n 0 ≤ n := av_le hn.1
  have kp1 : kp I (up I 40 5 0) := kp_up (by unfold scr; omega)
  obtain ⟨v', e, hv⟩ := c_next (X := X) (d := d + 3) (J := J) (a := 0) (s := I 39 4) (v := I 39 5) (du := 0) (lf := I 39 9) (sg := I 39 10) (op := 0) (w := 0) (sz := 0) (Cd := I 44) (Wt := I 47) hT1 ⟨Int.le_refl 0, hn.1⟩
  have hS : cS X d A n (up I 40 5 0) J (sk A n 0) (hcd []) [] 0 (I 39 9) (I 39 10) 0 (s_S X (d + 10) 26 [.ref 39] (mm I J)) := by
    refine ⟨v', 0, I 44, I 47, hv, trivial, trivial, ⟨Int.le_refl 0, b0⟩, ?_⟩
    conv => lhs; rw [← rd_self (I := I)]
    simp (disch := omega) only [v_26_39, u_26_0, x_aload0, k_39_0, x_call1_0, x_call1_1, x_call1_2, x_call1_3, x_call1_4, e_k_s, e_k_i, List.nil_append, List.cons_append, x_sipush, p_39_3, p_39_6, p_39_11, p_39_13, x_istore1i, x_istore1r, x_istore1u, x_istore2i, x_istore2r, x_istore2u, x_jsr, x_iload2, x_if_icmp_ge, x_iload1, x_if_icmp_eq, x_call2_0, x_call2_1, x_call2_2, x_call2_3, x_call2_4, x_ifCond_eq, x_ifCond_eqb, x_iinc2i, x_iinc2r, x_iinc2u, x_goto, u_26_66, p_39_2, x_if_icmp_ne, f_39_6, x_ifCond_ne, x_ifCond_neb, u_26_88, f_39_4, u_26_92, x_ireturn, v_12_9, v_12_40, u_12_0, p_40_5, p_40_6, x_return, rd_39_3, rd_39_4, rd_39_5, rd_39_6, rd_39_9, rd_39_10, rd_39_11, rd_39_13, rd_40_6, rd_44, rd_47, rd_39_2, rd_39_7, rd_39_8, rd_40_5, rd_46, rd_41, rd_42, rd_43, rd_u_39_3, rd_u_39_4, rd_u_39_5, rd_u_39_6, rd_u_39_9, rd_u_39_10, rd_u_39_11, rd_u_39_13, rd_u_40_6, rd_u_44, rd_u_47, rd_i_40_5, e, ↓reduceIte, b01_0, ite_not, if_true, if_false, Int.reduceLT, Int.reduceEq]
    rfl
  have := c_X (X := X) (d := d) (J := J) (A := A) (n := n) (z := s_S X (d + 10) 26 [.ref 39] (mm I J)) 9 (up I 40 5 0) (sk A n 0) [] rfl (by decide) hT1 ⟨b0, b1⟩ (by rw [show (hcd [] : List prt) = [] from rfl, l0]; exact b0) ⟨rfl, trivial⟩ ⟨_, _, hS⟩
  rw [show (hcd [] : List prt) = [] from rfl] at this
  by_cases q : (pX A n 9 (sk A n 0) [] []).1 = true
  · obtain ⟨I', q1, q2, q3, q4, q5, q6⟩ := this.1 q
    refine ⟨I', ?_, kpE_tr (kpE_kp kp1) q2, q3, fun _ => ⟨q4, q5, q6⟩⟩
    rw [if_pos q]
    exact q1
  · obtain ⟨I', q1, q2, q3⟩ := cF_kp kp1 (this.2 (by simpa using q))
    refine ⟨I', ?_, q2, q3, fun y => absurd y q⟩
    rw [if_neg q]
    exact q1
end
