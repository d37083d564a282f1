/-! THE CLASS'S AUTOMATON: from word to word -/
def cS (X : e_X) (d : Nat) (A : Int → Int) (n : Int) (I J : Nat → Int → Int) (b : Int) (C : List prt) (W : List Int) (du lf sg op : Int) (z : e_R) : Prop := ∃ v words Cd Wt, (wd A n b = 18 → v = vl A n b) ∧ cod Cd C ∧ stk Wt W ∧ (0 ≤ words ∧ words ≤ b) ∧ z = s_j X (d + 9) 26 34 [.ref 39, .int (iI (wd A n b)), .int (iI words)] [] (mm (rd I (en A n b) b v du lf sg op W.length C.length Cd Wt) J)
def cT (X : e_X) (d : Nat) (A : Int → Int) (n : Int) (I J : Nat → Int → Int) (b : Int) (C : List prt) (W : List Int) (du op : Int) (z : e_R) : Prop := ∃ lf sg, cS X d A n I J b C W du lf sg op z
def cF (I J : Nat → Int → Int) (b : Int) (z : e_R) : Prop := ∃ I', z = some ([.int (iI b)], mm I' J) ∧ kpE (fun o k => o = 39 ∧ k = 2) I I' ∧ I' 39 2 = 0
section
variable {X : e_X} {d : Nat} {I J N : Nat → Int → Int} {A : Int → Int} {n b v du lf sg op words a s w sz : Int} {C : List prt} {W : List Int} {Cd Wt : Int → Int} {z : e_R}
theorem rd_kpE : kpE (fun o k => o = 39 ∧ k = 2) I (rd (up I 39 2 0) a s v du lf sg op w sz Cd Wt) := kpE_tr (fun o k _ y => by unfold up; rw [if_neg y]) (kpE_kp rd_kp)
theorem cS_go (hT : tpd I A n) (hb : 0 ≤ b ∧ b ≤ n) (h20 : wd A n b ≠ 20) (hw : 0 ≤ words ∧ words ≤ b) (hc : cod Cd C) (hs : stk Wt W) (h33 : s_S X (d + 9) 33 [.ref 39, .int (iI (wd A n b))] (mm N J) = some ([.int (iI 1)], mm (rd I (en A n b) b v du lf sg op W.length C.length Cd Wt) J)) (hz : z = s_j X (d + 9) 26 34 [.ref 39, .int (iI (wd A n b)), .int (iI words)] [] (mm N J)) : cS X d A n I J (ns A n b) C W du lf sg op z := by
  have hn := hT.1
  have e0 := en_le (A := A) hb.2
  have n1 := ns_lt (A := A) hb.2 h20
  have wb := wd_b (A := A) (n := n) (b := b)
  have hlt : b < n := by
    have := wd_20 (A := A) (n := n) (b := b)
    have : ¬ n ≤ b := fun y => h20 (this.mpr y)
    omega
  have k1 : words < 200 := by omega
  obtain ⟨v', e, hv⟩ := c_next (X := X) (d := d + 3) (J := J) (a := en A n b) (s := b) (v := v) (du := du) (lf := lf) (sg := sg) (op := op) (w := W.length) (sz := C.length) (Cd := Cd) (Wt := Wt) hT ⟨by omega, e0.2.1⟩
  refine ⟨v', words + 1, Cd, Wt, hv, hc, hs, by omega, ?_⟩
  rw [hz]
  conv => lhs; rw [u_26_34]
  simp (disch := omega) only [v_26_39, u_26_0, x_aload0, k_39_0, x_call1_0, x_call1_1, x_call1_2, x_call1_3, x_call1_4, e_k_s, e_k_i, List.nil_append, List.cons_append, x_sipush, p_39_3, p_39_6, p_39_11, p_39_13, x_istore1i, x_istore1r, x_istore1u, x_istore2i, x_istore2r, x_istore2u, x_jsr, x_iload2, x_if_icmp_ge, x_iload1, x_if_icmp_eq, x_call2_0, x_call2_1, x_call2_2, x_call2_3, x_call2_4, x_ifCond_eq, x_ifCond_eqb, x_iinc2i, x_iinc2r, x_iinc2u, x_goto, u_26_66, p_39_2, x_if_icmp_ne, f_39_6, x_ifCond_ne, x_ifCond_neb, u_26_88, f_39_4, u_26_92, x_ireturn, h33, e, k1, h20, ↓reduceIte, b01_0, ite_not, if_true, if_false, Int.reduceLT, Int.reduceEq]
  rfl
theorem cF_no (hn : n ≤ 200) (hb : 0 ≤ b ∧ b ≤ n) (h20 : wd A n b ≠ 20) (hw : 0 ≤ words ∧ words ≤ b) (h33 : s_S X (d + 9) 33 [.ref 39, .int (iI (wd A n b))] (mm N J) = some ([.int (iI 0)], mm (rd I a b v du lf sg op w sz Cd Wt) J)) (hz : z = s_j X (d + 9) 26 34 [.ref 39, .int (iI (wd A n b)), .int (iI words)] [] (mm N J)) : cF I J b z := by
  have wb := wd_b (A := A) (n := n) (b := b)
  have hlt : b < n := by
    have := wd_20 (A := A) (n := n) (b := b)
    have : ¬ n ≤ b := fun y => h20 (this.mpr y)
    omega
  have k1 : words < 200 := by omega
  refine ⟨rd (up I 39 2 0) a b v du lf sg op w sz Cd Wt, ?_, rd_kpE, rfl⟩
  rw [hz, u_26_34]
  simp (disch := omega) only [v_26_39, u_26_0, x_aload0, k_39_0, x_call1_0, x_call1_1, x_call1_2, x_call1_3, x_call1_4, e_k_s, e_k_i, List.nil_append, List.cons_append, x_sipush, p_39_3, p_39_6, p_39_11, p_39_13, x_istore1i, x_istore1r, x_istore1u, x_istore2i, x_istore2r, x_istore2u, x_jsr, x_iload2, x_if_icmp_ge, x_iload1, x_if_icmp_eq, x_call2_0, x_call2_1, x_call2_2, x_call2_3, x_call2_4, x_ifCond_eq, x_ifCond_eqb, x_iinc2i, x_iinc2r, x_iinc2u, x_goto, u_26_66, p_39_2, x_if_icmp_ne, f_39_6, x_ifCond_ne, x_ifCond_neb, u_26_88, f_39_4, u_26_92, x_ireturn, rd_39_3, rd_39_4, rd_39_5, rd_39_6, rd_39_9, rd_39_10, rd_39_11, rd_39_13, rd_40_6, rd_44, rd_47, rd_39_2, rd_39_7, rd_39_8, rd_40_5, rd_46, rd_41, rd_42, rd_43, rd_u_39_3, rd_u_39_4, rd_u_39_5, rd_u_39_6, rd_u_39_9, rd_u_39_10, rd_u_39_11, rd_u_39_13, rd_u_40_6, rd_u_44, rd_u_47, rd_i_39_2, h33, k1, h20, ↓reduceIte, b01_0, ite_not, if_true, if_false, Int.reduceLT, Int.reduceEq]
theorem cF_20 (hn : n ≤ 200) (hb : 0 ≤ b ∧ b ≤ n) (h20 : wd A n b = 20) (hw : 0 ≤ words ∧ words ≤ b) (hd : du ≠ 0 ∧ 0 ≤ du ∧ du ≤ 6) (hz : z = s_j X (d + 9) 26 34 [.ref 39, .int (iI (wd A n b)), .int (iI words)] [] (mm (rd I a b v du lf sg op w sz Cd Wt) J)) : cF I J b z := by
  have d0 := hd.1
  refine ⟨rd (up I 39 2 0) a b v du lf sg op w sz Cd Wt, ?_, rd_kpE, rfl⟩
  rw [hz, h20, u_26_34]
  by_cases k1 : words < 200
  · simp (disch := omega) only [v_26_39, u_26_0, x_aload0, k_39_0, x_call1_0, x_call1_1, x_call1_2, x_call1_3, x_call1_4, e_k_s, e_k_i, List.nil_append, List.cons_append, x_sipush, p_39_3, p_39_6, p_39_11, p_39_13, x_istore1i, x_istore1r, x_istore1u, x_istore2i, x_istore2r, x_istore2u, x_jsr, x_iload2, x_if_icmp_ge, x_iload1, x_if_icmp_eq, x_call2_0, x_call2_1, x_call2_2, x_call2_3, x_call2_4, x_ifCond_eq, x_ifCond_eqb, x_iinc2i, x_iinc2r, x_iinc2u, x_goto, u_26_66, p_39_2, x_if_icmp_ne, f_39_6, x_ifCond_ne, x_ifCond_neb, u_26_88, f_39_4, u_26_92, x_ireturn, rd_39_3, rd_39_4, rd_39_5, rd_39_6, rd_39_9, rd_39_10, rd_39_11, rd_39_13, rd_40_6, rd_44, rd_47, rd_39_2, rd_39_7, rd_39_8, rd_40_5, rd_46, rd_41, rd_42, rd_43, rd_u_39_3, rd_u_39_4, rd_u_39_5, rd_u_39_6, rd_u_39_9, rd_u_39_10, rd_u_39_11, rd_u_39_13, rd_u_40_6, rd_u_44, rd_u_47, rd_i_39_2, k1, d0, ↓reduceIte, b01_0, ite_not, if_true, if_false, Int.reduceLT, Int.reduceEq]
  · simp (disch := omega) only [v_26_39, u_26_0, x_aload0, k_39_0, x_call1_0, x_call1_1, x_call1_2, x_call1_3, x_call1_4, e_k_s, e_k_i, List.nil_append, List.cons_append, x_sipush, p_39_3, p_39_6, p_39_11, p_39_13, x_istore1i, x_istore1r, x_istore1u, x_istore2i, x_istore2r, x_istore2u, x_jsr, x_iload2, x_if_icmp_ge, x_iload1, x_if_icmp_eq, x_call2_0, x_call2_1, x_call2_2, x_call2_3, x_call2_4, x_ifCond_eq, x_ifCond_eqb, x_iinc2i, x_iinc2r, x_iinc2u, x_goto, u_26_66, p_39_2, x_if_icmp_ne, f_39_6, x_ifCond_ne, x_ifCond_neb, u_26_88, f_39_4, u_26_92, x_ireturn, rd_39_3, rd_39_4, rd_39_5, rd_39_6, rd_39_9, rd_39_10, rd_39_11, rd_39_13, rd_40_6, rd_44, rd_47, rd_39_2, rd_39_7, rd_39_8, rd_40_5, rd_46, rd_41, rd_42, rd_43, rd_u_39_3, rd_u_39_4, rd_u_39_5, rd_u_39_6, rd_u_39_9, rd_u_39_10, rd_u_39_11, rd_u_39_13, rd_u_40_6, rd_u_44, rd_u_47, rd_i_39_2, k1, d0, ↓reduceIte, b01_0, ite_not, if_true, if_false, Int.reduceLT, Int.reduceEq]
theorem k_isv1 {x : Int} (h : isV x) : s_S X (d + 2) 39 [.int (iI x)] (mm I J) = some ([.int (iI 1)], mm I J) := by
  by_cases q : x = 18
  · simp (disch := omega) only [v_39, u_39_0, x_iload0, x_sipush, x_if_icmp_eq, x_call3_0, x_call3_1, x_call3_2, x_call3_3, x_call3_4, e_k_s, e_k_i, List.nil_append, List.cons_append, x_ifCond_ne, x_ifCond_neb, x_jsr, u_39_17, x_goto, u_39_21, u_39_22, x_zret0, x_zret1, x_zretb, q, ↓reduceIte, b01_0, ite_not, if_true, if_false, Int.reduceLT, Int.reduceEq]
  · have e := fun N => b_in (X := X) (d := d) (I := N) (J := J) (v := x) (a := 13) (b := 17) (by omega) ⟨by omega, by decide, by decide⟩
    simp (disch := omega) only [v_39, u_39_0, x_iload0, x_sipush, x_if_icmp_eq, x_call3_0, x_call3_1, x_call3_2, x_call3_3, x_call3_4, e_k_s, e_k_i, List.nil_append, List.cons_append, x_ifCond_ne, x_ifCond_neb, x_jsr, u_39_17, x_goto, u_39_21, u_39_22, x_zret0, x_zret1, x_zretb, q, e, ↓reduceIte, b01_0, ite_not, if_true, if_false, Int.reduceLT, Int.reduceEq]
theorem k_isv0 {x : Int} (h : ¬ isV x) (hx : 0 ≤ x ∧ x ≤ 26) : s_S X (d + 2) 39 [.int (iI x)] (mm I J) = some ([.int (iI 0)], mm I J) := by
  have q : ¬ x = 18 := by omega
  have e := fun N => b_nin (X := X) (d := d) (I := N) (J := J) (v := x) (a := 13) (b := 17) (by omega) ⟨by omega, by decide, by decide⟩
  simp (disch := omega) only [v_39, u_39_0, x_iload0, x_sipush, x_if_icmp_eq, x_call3_0, x_call3_1, x_call3_2, x_call3_3, x_call3_4, e_k_s, e_k_i, List.nil_append, List.cons_append, x_ifCond_ne, x_ifCond_neb, x_jsr, u_39_17, x_goto, u_39_21, u_39_22, x_zret0, x_zret1, x_zretb, q, e, ↓reduceIte, b01_0, ite_not, if_true, if_false, Int.reduceLT, Int.reduceEq]
theorem k_vof (hv : wd A n b = 18 → v = vl A n b) : s_S X (d + 1) 40 [.ref 39, .int (iI (wd A n b))] (mm (rd I a s v du lf sg op w sz Cd Wt) J) = some ([.int (iI (vof A n b))], mm (rd I a s v du lf sg op w sz Cd Wt) J) := by
  have wb := wd_b (A := A) (n := n) (b := b)
  unfold vof
  by_cases q : wd A n b = 18
  · rw [if_pos q, ← hv q]
    simp (disch := omega) only [v_40_39, u_40_0, x_iload1, x_sipush, x_if_icmp_ne, x_aload0, f_39_5, x_goto, u_40_13, x_iadd, x_isub, x_jsr, u_40_21, x_ireturn, rd_39_3, rd_39_4, rd_39_5, rd_39_6, rd_39_9, rd_39_10, rd_39_11, rd_39_13, rd_40_6, rd_44, rd_47, rd_39_2, rd_39_7, rd_39_8, rd_40_5, rd_46, rd_41, rd_42, rd_43, rd_u_39_3, rd_u_39_4, rd_u_39_5, rd_u_39_6, rd_u_39_9, rd_u_39_10, rd_u_39_11, rd_u_39_13, rd_u_40_6, rd_u_44, rd_u_47, q, ↓reduceIte, b01_0, ite_not, if_true, if_false, Int.reduceLT, Int.reduceEq]
  · rw [if_neg q]
    simp (disch := omega) only [v_40_39, u_40_0, x_iload1, x_sipush, x_if_icmp_ne, x_aload0, f_39_5, x_goto, u_40_13, x_iadd, x_isub, x_jsr, u_40_21, x_ireturn, rd_39_3, rd_39_4, rd_39_5, rd_39_6, rd_39_9, rd_39_10, rd_39_11, rd_39_13, rd_40_6, rd_44, rd_47, rd_39_2, rd_39_7, rd_39_8, rd_40_5, rd_46, rd_41, rd_42, rd_43, rd_u_39_3, rd_u_39_4, rd_u_39_5, rd_u_39_6, rd_u_39_9, rd_u_39_10, rd_u_39_11, rd_u_39_13, rd_u_40_6, rd_u_44, rd_u_47, q, ↓reduceIte, b01_0, ite_not, if_true, if_false, Int.reduceLT, Int.reduceEq]
/-! one is due -/
theorem k_not (hT : tpd I A n) (hb : 0 ≤ b ∧ b ≤ n) (hw : wd A n b = 12) (hl : (W.length : Int) ≤ b) (h : cS X d A n I J b C W 2 lf sg op z) : cS X d A n I J (ns A n b) C (12 :: W) 2 lf sg op z := by
  have hn := hT.1
  obtain ⟨v, words, Cd, Wt, h1, h2, h3, h4, h5⟩ := h
  have hlt : b < n := by
    have := wd_20 (A := A) (n := n) (b := b)
    omega
  have e := c_wait (X := X) (d := d + 6) (I := I) (J := J) (a := en A n b) (s := b) (v := v) (du := 2) (lf := lf) (sg := sg) (op := op) (w := W.length) (sz := C.length) (Cd := Cd) (Wt := Wt) (x := 12) (by omega)
  refine cS_go (v := v) (Cd := Cd) (Wt := upf Wt W.length 12) hT hb (by omega) h4 h2 (stk_sn (by decide) h3) ?_ h5
  rw [hw, ll]
  simp (disch := omega) only [v_33_39, u_33_0, x_aload0, f_39_6, x_switch, e_sw_c, e_sw_n, u_33_44, x_iload1, x_call2_0, x_call2_1, x_call2_2, x_call2_3, x_call2_4, e_k_s, e_k_i, List.nil_append, List.cons_append, x_zret0, x_zret1, x_zretb, u_33_50, u_33_56, u_33_62, u_33_68, u_33_74, u_33_80, v_37_39, u_37_0, x_sipush, x_if_icmp_ne, u_37_13, x_dup_i, x_dup_r, f_39_11, x_iadd, p_39_11, x_if_icmp_gt, x_ifCond_eq, x_ifCond_eqb, x_goto, u_37_50, x_jsr, u_37_51, u_37_52, x_call1_0, x_call1_1, x_call1_2, x_call1_3, x_call1_4, x_ifCond_ne, x_ifCond_neb, u_37_61, p_39_9, p_39_6, rd_39_3, rd_39_4, rd_39_5, rd_39_6, rd_39_9, rd_39_10, rd_39_11, rd_39_13, rd_40_6, rd_44, rd_47, rd_39_2, rd_39_7, rd_39_8, rd_40_5, rd_46, rd_41, rd_42, rd_43, rd_u_39_3, rd_u_39_4, rd_u_39_5, rd_u_39_6, rd_u_39_9, rd_u_39_10, rd_u_39_11, rd_u_39_13, rd_u_40_6, rd_u_44, rd_u_47, e, ↓reduceIte, b01_0, ite_not, if_true, if_false, Int.reduceLT, Int.reduceEq]
theorem k_open (hT : tpd I A n) (hb : 0 ≤ b ∧ b ≤ n) (hw : wd A n b = 24) (hl : (W.length : Int) ≤ b) (ho : 0 ≤ op ∧ op < 3) (h : cS X d A n I J b C W 2 lf sg op z) : cS X d A n I J (ns A n b) C (24 :: W) 2 lf sg (op + 1) z := by
  have hn := hT.1
  obtain ⟨v, words, Cd, Wt, h1, h2, h3, h4, h5⟩ := h
  have hlt : b < n := by
    have := wd_20 (A := A) (n := n) (b := b)
    omega
  have e := c_wait (X := X) (d := d + 6) (I := I) (J := J) (a := en A n b) (s := b) (v := v) (du := 2) (lf := lf) (sg := sg) (op := op + 1) (w := W.length) (sz := C.length) (Cd := Cd) (Wt := Wt) (x := 24) (by omega)
  have o3 : ¬ 3 < op + 1 := by omega
  refine cS_go (v := v) (Cd := Cd) (Wt := upf Wt W.length 24) hT hb (by omega) h4 h2 (stk_sn (by decide) h3) ?_ h5
  rw [hw, ll]
  simp (disch := omega) only [v_33_39, u_33_0, x_aload0, f_39_6, x_switch, e_sw_c, e_sw_n, u_33_44, x_iload1, x_call2_0, x_call2_1, x_call2_2, x_call2_3, x_call2_4, e_k_s, e_k_i, List.nil_append, List.cons_append, x_zret0, x_zret1, x_zretb, u_33_50, u_33_56, u_33_62, u_33_68, u_33_74, u_33_80, v_37_39, u_37_0, x_sipush, x_if_icmp_ne, u_37_13, x_dup_i, x_dup_r, f_39_11, x_iadd, p_39_11, x_if_icmp_gt, x_ifCond_eq, x_ifCond_eqb, x_goto, u_37_50, x_jsr, u_37_51, u_37_52, x_call1_0, x_call1_1, x_call1_2, x_call1_3, x_call1_4, x_ifCond_ne, x_ifCond_neb, u_37_61, p_39_9, p_39_6, rd_39_3, rd_39_4, rd_39_5, rd_39_6, rd_39_9, rd_39_10, rd_39_11, rd_39_13, rd_40_6, rd_44, rd_47, rd_39_2, rd_39_7, rd_39_8, rd_40_5, rd_46, rd_41, rd_42, rd_43, rd_u_39_3, rd_u_39_4, rd_u_39_5, rd_u_39_6, rd_u_39_9, rd_u_39_10, rd_u_39_11, rd_u_39_13, rd_u_40_6, rd_u_44, rd_u_47, o3, e, ↓reduceIte, b01_0, ite_not, if_true, if_false, Int.reduceLT, Int.reduceEq]
theorem k_full (hT : tpd I A n) (hb : 0 ≤ b ∧ b ≤ n) (hw : wd A n b = 24) (h : cS X d A n I J b C W 2 lf sg 3 z) : cF I J b z := by
  have hn := hT.1
  obtain ⟨v, words, Cd, Wt, h1, h2, h3, h4, h5⟩ := h
  refine cF_no (I := I) (a := en A n b) (v := v) (du := 2) (lf := lf) (sg := sg) (op := 3 + 1) (w := W.length) (sz := C.length) (Cd := Cd) (Wt := Wt) hn.2 hb (by omega) h4 ?_ h5
  rw [hw]
  have o3 : (3 : Int) < 3 + 1 := by decide
  simp (disch := omega) only [v_33_39, u_33_0, x_aload0, f_39_6, x_switch, e_sw_c, e_sw_n, u_33_44, x_iload1, x_call2_0, x_call2_1, x_call2_2, x_call2_3, x_call2_4, e_k_s, e_k_i, List.nil_append, List.cons_append, x_zret0, x_zret1, x_zretb, u_33_50, u_33_56, u_33_62, u_33_68, u_33_74, u_33_80, v_37_39, u_37_0, x_sipush, x_if_icmp_ne, u_37_13, x_dup_i, x_dup_r, f_39_11, x_iadd, p_39_11, x_if_icmp_gt, x_ifCond_eq, x_ifCond_eqb, x_goto, u_37_50, x_jsr, u_37_51, u_37_52, x_call1_0, x_call1_1, x_call1_2, x_call1_3, x_call1_4, x_ifCond_ne, x_ifCond_neb, u_37_61, p_39_9, p_39_6, rd_39_3, rd_39_4, rd_39_5, rd_39_6, rd_39_9, rd_39_10, rd_39_11, rd_39_13, rd_40_6, rd_44, rd_47, rd_39_2, rd_39_7, rd_39_8, rd_40_5, rd_46, rd_41, rd_42, rd_43, rd_u_39_3, rd_u_39_4, rd_u_39_5, rd_u_39_6, rd_u_39_9, rd_u_39_10, rd_u_39_11, rd_u_39_13, rd_u_40_6, rd_u_44, rd_u_47, o3, ↓reduceIte, b01_0, ite_not, if_true, if_false, Int.reduceLT, Int.reduceEq]
theorem k_val (hT : tpd I A n) (hb : 0 ≤ b ∧ b ≤ n) (hw : isV (wd A n b)) (h : cS X d A n I J b C W 2 lf sg op z) : cS X d A n I J (ns A n b) C W 3 (vof A n b) sg op z := by
  have wb := wd_b (A := A) (n := n) (b := b)
  obtain ⟨v, words, Cd, Wt, h1, h2, h3, h4, h5⟩ := h
  have e1 := fun N => k_isv1 (X := X) (d := d + 5) (I := N) (J := J) hw
  have e2 := k_vof (X := X) (d := d + 6) (I := I) (J := J) (a := en A n b) (s := b) (du := 2) (lf := lf) (sg := sg) (op := op) (w := W.length) (sz := C.length) (Cd := Cd) (Wt := Wt) h1
  have q1 : ¬ wd A n b = 12 := by omega
  have q2 : ¬ wd A n b = 24 := by omega
  refine cS_go (v := v) (Cd := Cd) (Wt := Wt) hT hb (by omega) h4 h2 h3 ?_ h5
  simp (disch := omega) only [v_33_39, u_33_0, x_aload0, f_39_6, x_switch, e_sw_c, e_sw_n, u_33_44, x_iload1, x_call2_0, x_call2_1, x_call2_2, x_call2_3, x_call2_4, e_k_s, e_k_i, List.nil_append, List.cons_append, x_zret0, x_zret1, x_zretb, u_33_50, u_33_56, u_33_62, u_33_68, u_33_74, u_33_80, v_37_39, u_37_0, x_sipush, x_if_icmp_ne, u_37_13, x_dup_i, x_dup_r, f_39_11, x_iadd, p_39_11, x_if_icmp_gt, x_ifCond_eq, x_ifCond_eqb, x_goto, u_37_50, x_jsr, u_37_51, u_37_52, x_call1_0, x_call1_1, x_call1_2, x_call1_3, x_call1_4, x_ifCond_ne, x_ifCond_neb, u_37_61, p_39_9, p_39_6, rd_39_3, rd_39_4, rd_39_5, rd_39_6, rd_39_9, rd_39_10, rd_39_11, rd_39_13, rd_40_6, rd_44, rd_47, rd_39_2, rd_39_7, rd_39_8, rd_40_5, rd_46, rd_41, rd_42, rd_43, rd_u_39_3, rd_u_39_4, rd_u_39_5, rd_u_39_6, rd_u_39_9, rd_u_39_10, rd_u_39_11, rd_u_39_13, rd_u_40_6, rd_u_44, rd_u_47, q1, q2, e1, e2, ↓reduceIte, b01_0, ite_not, if_true, if_false, Int.reduceLT, Int.reduceEq]
theorem k_vno (hT : tpd I A n) (hb : 0 ≤ b ∧ b ≤ n) (q1 : ¬ wd A n b = 12) (q2 : ¬ wd A n b = 24) (hw : ¬ isV (wd A n b)) (h : cS X d A n I J b C W 2 lf sg op z) : cF I J b z := by
  have wb := wd_b (A := A) (n := n) (b := b)
  have hn := hT.1
  obtain ⟨v, words, Cd, Wt, h1, h2, h3, h4, h5⟩ := h
  by_cases q : wd A n b = 20
  · exact cF_20 hn.2 hb q h4 (by decide) h5
  · have e1 := fun N => k_isv0 (X := X) (d := d + 5) (I := N) (J := J) hw wb
    refine cF_no (I := I) (a := en A n b) (v := v) (du := 2) (lf := lf) (sg := sg) (op := op) (w := W.length) (sz := C.length) (Cd := Cd) (Wt := Wt) hn.2 hb q h4 ?_ h5
    simp (disch := omega) only [v_33_39, u_33_0, x_aload0, f_39_6, x_switch, e_sw_c, e_sw_n, u_33_44, x_iload1, x_call2_0, x_call2_1, x_call2_2, x_call2_3, x_call2_4, e_k_s, e_k_i, List.nil_append, List.cons_append, x_zret0, x_zret1, x_zretb, u_33_50, u_33_56, u_33_62, u_33_68, u_33_74, u_33_80, v_37_39, u_37_0, x_sipush, x_if_icmp_ne, u_37_13, x_dup_i, x_dup_r, f_39_11, x_iadd, p_39_11, x_if_icmp_gt, x_ifCond_eq, x_ifCond_eqb, x_goto, u_37_50, x_jsr, u_37_51, u_37_52, x_call1_0, x_call1_1, x_call1_2, x_call1_3, x_call1_4, x_ifCond_ne, x_ifCond_neb, u_37_61, p_39_9, p_39_6, rd_39_3, rd_39_4, rd_39_5, rd_39_6, rd_39_9, rd_39_10, rd_39_11, rd_39_13, rd_40_6, rd_44, rd_47, rd_39_2, rd_39_7, rd_39_8, rd_40_5, rd_46, rd_41, rd_42, rd_43, rd_u_39_3, rd_u_39_4, rd_u_39_5, rd_u_39_6, rd_u_39_9, rd_u_39_10, rd_u_39_11, rd_u_39_13, rd_u_40_6, rd_u_44, rd_u_47, q1, q2, e1, ↓reduceIte, b01_0, ite_not, if_true, if_false, Int.reduceLT, Int.reduceEq]
/-! a sign is due -/
theorem k_sign (hT : tpd I A n) (hb : 0 ≤ b ∧ b ≤ n) (hw : 21 ≤ wd A n b ∧ wd A n b ≤ 23) (h : cS X d A n I J b C W 3 lf sg op z) : cS X d A n I J (ns A n b) C W 4 lf (wd A n b - 21) op z := by
  have wb := wd_b (A := A) (n := n) (b := b)
  obtain ⟨v, words, Cd, Wt, h1, h2, h3, h4, h5⟩ := h
  have e := fun N => b_in (X := X) (d := d + 6) (I := N) (J := J) (v := wd A n b) (a := 21) (b := 23) hw ⟨by omega, by decide, by decide⟩
  refine cS_go (v := v) (Cd := Cd) (Wt := Wt) hT hb (by omega) h4 h2 h3 ?_ h5
  simp (disch := omega) only [v_33_39, u_33_0, x_aload0, f_39_6, x_switch, e_sw_c, e_sw_n, u_33_44, x_iload1, x_call2_0, x_call2_1, x_call2_2, x_call2_3, x_call2_4, e_k_s, e_k_i, List.nil_append, List.cons_append, x_zret0, x_zret1, x_zretb, u_33_50, u_33_56, u_33_62, u_33_68, u_33_74, u_33_80, v_41_39, u_41_0, x_sipush, x_call3_0, x_call3_1, x_call3_2, x_call3_3, x_call3_4, x_ifCond_eq, x_ifCond_eqb, u_41_13, x_isub, p_39_10, p_39_6, rd_39_3, rd_39_4, rd_39_5, rd_39_6, rd_39_9, rd_39_10, rd_39_11, rd_39_13, rd_40_6, rd_44, rd_47, rd_39_2, rd_39_7, rd_39_8, rd_40_5, rd_46, rd_41, rd_42, rd_43, rd_u_39_3, rd_u_39_4, rd_u_39_5, rd_u_39_6, rd_u_39_9, rd_u_39_10, rd_u_39_11, rd_u_39_13, rd_u_40_6, rd_u_44, rd_u_47, e, ↓reduceIte, b01_0, ite_not, if_true, if_false, Int.reduceLT, Int.reduceEq]
theorem k_sno (hT : tpd I A n) (hb : 0 ≤ b ∧ b ≤ n) (hw : ¬ (21 ≤ wd A n b ∧ wd A n b ≤ 23)) (h : cS X d A n I J b C W 3 lf sg op z) : cF I J b z := by
  have wb := wd_b (A := A) (n := n) (b := b)
  have hn := hT.1
  obtain ⟨v, words, Cd, Wt, h1, h2, h3, h4, h5⟩ := h
  by_cases q : wd A n b = 20
  · exact cF_20 hn.2 hb q h4 (by decide) h5
  · have e := fun N => b_nin (X := X) (d := d + 6) (I := N) (J := J) (v := wd A n b) (a := 21) (b := 23) (by omega) ⟨by omega, by decide, by decide⟩
    refine cF_no (I := I) (a := en A n b) (v := v) (du := 3) (lf := lf) (sg := sg) (op := op) (w := W.length) (sz := C.length) (Cd := Cd) (Wt := Wt) hn.2 hb q h4 ?_ h5
    simp (disch := omega) only [v_33_39, u_33_0, x_aload0, f_39_6, x_switch, e_sw_c, e_sw_n, u_33_44, x_iload1, x_call2_0, x_call2_1, x_call2_2, x_call2_3, x_call2_4, e_k_s, e_k_i, List.nil_append, List.cons_append, x_zret0, x_zret1, x_zretb, u_33_50, u_33_56, u_33_62, u_33_68, u_33_74, u_33_80, v_41_39, u_41_0, x_sipush, x_call3_0, x_call3_1, x_call3_2, x_call3_3, x_call3_4, x_ifCond_eq, x_ifCond_eqb, u_41_13, x_isub, p_39_10, p_39_6, rd_39_3, rd_39_4, rd_39_5, rd_39_6, rd_39_9, rd_39_10, rd_39_11, rd_39_13, rd_40_6, rd_44, rd_47, rd_39_2, rd_39_7, rd_39_8, rd_40_5, rd_46, rd_41, rd_42, rd_43, rd_u_39_3, rd_u_39_4, rd_u_39_5, rd_u_39_6, rd_u_39_9, rd_u_39_10, rd_u_39_11, rd_u_39_13, rd_u_40_6, rd_u_44, rd_u_47, e, ↓reduceIte, b01_0, ite_not, if_true, if_false, Int.reduceLT, Int.reduceEq]
/-! the right side is due -/
theorem k_right {m : Nat} (hT : tpd I A n) (hb : 0 ≤ b ∧ b ≤ n) (hw : isV (wd A n b)) (hl : 0 ≤ lf ∧ lf ≤ 10004) (hg : 0 ≤ sg ∧ sg ≤ 2) (hW : W.head? ≠ some 12) (hz : (C.length : Int) + m + W.length + 1 ≤ 200) (h : cS X d A n I J b C (List.replicate m 12 ++ W) 4 lf sg op z) : cS X d A n I J (ns A n b) (nots m ((sg, lf, vof A n b) :: C)) W 5 lf sg op z := by
  have wb := wd_b (A := A) (n := n) (b := b)
  have vb := vof_b (A := A) (n := n) hw
  obtain ⟨v, words, Cd, Wt, h1, h2, h3, h4, h5⟩ := h
  have e1 := fun N => k_isv1 (X := X) (d := d + 5) (I := N) (J := J) hw
  have e2 := k_vof (X := X) (d := d + 6) (I := I) (J := J) (a := en A n b) (s := b) (du := 4) (lf := lf) (sg := sg) (op := op) (w := (List.replicate m 12 ++ W).length) (sz := C.length) (Cd := Cd) (Wt := Wt) h1
  have e3 := fun N => b_cmp (X := X) (d := d + 6) (I := N) (J := J) (l := lf) (x := sg) (r := vof A n b) hg (by omega) (by omega)
  have ep : enp (sg, lf, vof A n b) = vof A n b + lf * 2 ^ 14 + sg * 2 ^ 28 := if_neg (by omega)
  obtain ⟨C', e4, e5⟩ := c_eo (X := X) (d := d + 5) (I := I) (J := J) (a := en A n b) (s := b) (v := v) (du := 4) (lf := lf) (sg := sg) (op := op) (Wt := Wt) hW m ((sg, lf, vof A n b) :: C) (upf Cd C.length (enp (sg, lf, vof A n b))) (cod_sn h2) h3 (by rw [ll]; omega)
  rw [ll, ep] at e4
  have e6 := c_app (X := X) (d := d + 6) (I := I) (J := J) (a := en A n b) (s := b) (v := v) (du := 4) (lf := lf) (sg := sg) (op := op) (w := (List.replicate m 12 ++ W).length) (sz := C.length) (Cd := Cd) (Wt := Wt) (x := vof A n b + lf * 2 ^ 14 + sg * 2 ^ 28) (by omega)
  have hsW : stk Wt W := by
    have : ∀ (Q : List Int) (V : List Int), stk Wt (Q ++ V) → stk Wt V := by
      intro Q
      induction Q with
      | nil => intro V h; exact h
      | cons q Q ih => intro V h; exact ih V h.2.2
    exact this _ _ h3
  refine cS_go (v := v) (Cd := C') (Wt := Wt) hT hb (by omega) h4 e5 hsW ?_ h5
  simp (disch := omega) only [v_33_39, u_33_0, x_aload0, f_39_6, x_switch, e_sw_c, e_sw_n, u_33_44, x_iload1, x_call2_0, x_call2_1, x_call2_2, x_call2_3, x_call2_4, e_k_s, e_k_i, List.nil_append, List.cons_append, x_zret0, x_zret1, x_zretb, u_33_50, u_33_56, u_33_62, u_33_68, u_33_74, u_33_80, v_42_39, u_42_0, x_call1_0, x_call1_1, x_call1_2, x_call1_3, x_call1_4, x_ifCond_ne, x_ifCond_neb, x_sipush, u_42_9, k_39_0, f_39_9, f_39_10, x_call3_0, x_call3_1, x_call3_2, x_call3_3, x_call3_4, v_43_39, rd_39_3, rd_39_4, rd_39_5, rd_39_6, rd_39_9, rd_39_10, rd_39_11, rd_39_13, rd_40_6, rd_44, rd_47, rd_39_2, rd_39_7, rd_39_8, rd_40_5, rd_46, rd_41, rd_42, rd_43, rd_u_39_3, rd_u_39_4, rd_u_39_5, rd_u_39_6, rd_u_39_9, rd_u_39_10, rd_u_39_11, rd_u_39_13, rd_u_40_6, rd_u_44, rd_u_47, e1, e2, e3, e6, e4, ↓reduceIte, b01_0, ite_not, if_true, if_false, Int.reduceLT, Int.reduceEq]
theorem k_rno (hT : tpd I A n) (hb : 0 ≤ b ∧ b ≤ n) (hw : ¬ isV (wd A n b)) (h : cS X d A n I J b C W 4 lf sg op z) : cF I J b z := by
  have wb := wd_b (A := A) (n := n) (b := b)
  have hn := hT.1
  obtain ⟨v, words, Cd, Wt, h1, h2, h3, h4, h5⟩ := h
  by_cases q : wd A n b = 20
  · exact cF_20 hn.2 hb q h4 (by decide) h5
  · have e1 := fun N => k_isv0 (X := X) (d := d + 5) (I := N) (J := J) hw wb
    refine cF_no (I := I) (a := en A n b) (v := v) (du := 4) (lf := lf) (sg := sg) (op := op) (w := W.length) (sz := C.length) (Cd := Cd) (Wt := Wt) hn.2 hb q h4 ?_ h5
    simp (disch := omega) only [v_33_39, u_33_0, x_aload0, f_39_6, x_switch, e_sw_c, e_sw_n, u_33_44, x_iload1, x_call2_0, x_call2_1, x_call2_2, x_call2_3, x_call2_4, e_k_s, e_k_i, List.nil_append, List.cons_append, x_zret0, x_zret1, x_zretb, u_33_50, u_33_56, u_33_62, u_33_68, u_33_74, u_33_80, v_42_39, u_42_0, x_call1_0, x_call1_1, x_call1_2, x_call1_3, x_call1_4, x_ifCond_ne, x_ifCond_neb, x_sipush, u_42_9, k_39_0, f_39_9, f_39_10, x_call3_0, x_call3_1, x_call3_2, x_call3_3, x_call3_4, rd_39_3, rd_39_4, rd_39_5, rd_39_6, rd_39_9, rd_39_10, rd_39_11, rd_39_13, rd_40_6, rd_44, rd_47, rd_39_2, rd_39_7, rd_39_8, rd_40_5, rd_46, rd_41, rd_42, rd_43, rd_u_39_3, rd_u_39_4, rd_u_39_5, rd_u_39_6, rd_u_39_9, rd_u_39_10, rd_u_39_11, rd_u_39_13, rd_u_40_6, rd_u_44, rd_u_47, e1, ↓reduceIte, b01_0, ite_not, if_true, if_false, Int.reduceLT, Int.reduceEq]
/-! a joint is due -/
theorem stk_dr : ∀ (Q : List Int) {V : List Int}, stk Wt (Q ++ V) → stk Wt V
  | [], _, h => h
  | _ :: Q, _, h => stk_dr Q h.2.2
theorem k_joint {x : Int} {Q : List Int} (hx : x = 10 ∨ x = 11) (hT : tpd I A n) (hb : 0 ≤ b ∧ b ≤ n) (hw : wd A n b = x) (h10 : W.head? ≠ some 10) (hhx : W.head? ≠ some x) (hq : ∀ q, q ∈ Q → q = 10 ∨ q = x) (hz : (C.length : Int) + Q.length + W.length ≤ b) (h : cS X d A n I J b C (Q ++ W) 5 lf sg op z) : cS X d A n I J (ns A n b) (jna Q C) (x :: W) 2 lf sg op z := by
  have hn := hT.1
  have hlt : b < n := by
    have := wd_20 (A := A) (n := n) (b := b)
    omega
  obtain ⟨v, words, Cd, Wt, h1, h2, h3, h4, h5⟩ := h
  obtain ⟨C', e1, e2⟩ := c_aj (X := X) (d := d + 5) (I := I) (J := J) (a := en A n b) (s := b) (v := v) (du := 5) (lf := lf) (sg := sg) (op := op) (Wt := Wt) hx h10 hhx Q C Cd hq h2 h3 (by omega)
  have e3 := c_wait (X := X) (d := d + 6) (I := I) (J := J) (a := en A n b) (s := b) (v := v) (du := 2) (lf := lf) (sg := sg) (op := op) (w := W.length) (sz := (jna Q C).length) (Cd := C') (Wt := Wt) (x := x) (by omega)
  refine cS_go (v := v) (Cd := C') (Wt := upf Wt W.length x) hT hb (by omega) h4 e2 (stk_sn (by omega) (stk_dr Q h3)) ?_ h5
  have q1 : ¬ x = 25 := by omega
  rw [hw, ll]
  rcases hx with rfl | rfl
  · simp (disch := omega) only [v_33_39, u_33_0, x_aload0, f_39_6, x_switch, e_sw_c, e_sw_n, u_33_44, x_iload1, x_call2_0, x_call2_1, x_call2_2, x_call2_3, x_call2_4, e_k_s, e_k_i, List.nil_append, List.cons_append, x_zret0, x_zret1, x_zretb, u_33_50, u_33_56, u_33_62, u_33_68, u_33_74, u_33_80, v_44_39, u_44_0, x_sipush, x_if_icmp_ne, x_call1_0, x_call1_1, x_call1_2, x_call1_3, x_call1_4, u_44_11, x_if_icmp_eq, x_jsr, u_44_23, p_39_6, u_44_39, f_39_11, x_ifCond_le, u_44_48, v_46_39, rd_39_3, rd_39_4, rd_39_5, rd_39_6, rd_39_9, rd_39_10, rd_39_11, rd_39_13, rd_40_6, rd_44, rd_47, rd_39_2, rd_39_7, rd_39_8, rd_40_5, rd_46, rd_41, rd_42, rd_43, rd_u_39_3, rd_u_39_4, rd_u_39_5, rd_u_39_6, rd_u_39_9, rd_u_39_10, rd_u_39_11, rd_u_39_13, rd_u_40_6, rd_u_44, rd_u_47, e1, e3, ↓reduceIte, b01_0, ite_not, if_true, if_false, Int.reduceLT, Int.reduceEq]
  · simp (disch := omega) only [v_33_39, u_33_0, x_aload0, f_39_6, x_switch, e_sw_c, e_sw_n, u_33_44, x_iload1, x_call2_0, x_call2_1, x_call2_2, x_call2_3, x_call2_4, e_k_s, e_k_i, List.nil_append, List.cons_append, x_zret0, x_zret1, x_zretb, u_33_50, u_33_56, u_33_62, u_33_68, u_33_74, u_33_80, v_44_39, u_44_0, x_sipush, x_if_icmp_ne, x_call1_0, x_call1_1, x_call1_2, x_call1_3, x_call1_4, u_44_11, x_if_icmp_eq, x_jsr, u_44_23, p_39_6, u_44_39, f_39_11, x_ifCond_le, u_44_48, v_46_39, rd_39_3, rd_39_4, rd_39_5, rd_39_6, rd_39_9, rd_39_10, rd_39_11, rd_39_13, rd_40_6, rd_44, rd_47, rd_39_2, rd_39_7, rd_39_8, rd_40_5, rd_46, rd_41, rd_42, rd_43, rd_u_39_3, rd_u_39_4, rd_u_39_5, rd_u_39_6, rd_u_39_9, rd_u_39_10, rd_u_39_11, rd_u_39_13, rd_u_40_6, rd_u_44, rd_u_47, e1, e3, ↓reduceIte, b01_0, ite_not, if_true, if_false, Int.reduceLT, Int.reduceEq]
theorem k_close {m : Nat} {Q : List Int} (hT : tpd I A n) (hb : 0 ≤ b ∧ b ≤ n) (hw : wd A n b = 25) (hW : W.head? ≠ some 12) (hq : ∀ q, q ∈ Q → q = 10 ∨ q = 11) (ho : 1 ≤ op ∧ op ≤ 3) (hz : (C.length : Int) + Q.length + m + W.length + 1 ≤ 200) (h : cS X d A n I J b C (Q ++ 24 :: (List.replicate m 12 ++ W)) 5 lf sg op z) : cS X d A n I J (ns A n b) (nots m (jna Q C)) W 5 lf sg (op - 1) z := by
  obtain ⟨v, words, Cd, Wt, h1, h2, h3, h4, h5⟩ := h
  obtain ⟨C', e1, e2⟩ := c_close (X := X) (d := d + 4) (I := I) (J := J) (a := en A n b) (s := b) (v := v) (du := 5) (lf := lf) (sg := sg) (op := op) (Wt := Wt) hW hq h2 h3 hz ho
  refine cS_go (v := v) (Cd := C') (Wt := Wt) hT hb (by omega) h4 e2 (stk_dr _ (stk_dr Q h3).2.2) ?_ h5
  rw [hw]
  simp (disch := omega) only [v_33_39, u_33_0, x_aload0, f_39_6, x_switch, e_sw_c, e_sw_n, u_33_44, x_iload1, x_call2_0, x_call2_1, x_call2_2, x_call2_3, x_call2_4, e_k_s, e_k_i, List.nil_append, List.cons_append, x_zret0, x_zret1, x_zretb, u_33_50, u_33_56, u_33_62, u_33_68, u_33_74, u_33_80, v_44_39, u_44_0, x_sipush, x_if_icmp_ne, x_call1_0, x_call1_1, x_call1_2, x_call1_3, x_call1_4, u_44_11, x_if_icmp_eq, x_jsr, u_44_23, p_39_6, u_44_39, f_39_11, x_ifCond_le, u_44_48, rd_39_3, rd_39_4, rd_39_5, rd_39_6, rd_39_9, rd_39_10, rd_39_11, rd_39_13, rd_40_6, rd_44, rd_47, rd_39_2, rd_39_7, rd_39_8, rd_40_5, rd_46, rd_41, rd_42, rd_43, rd_u_39_3, rd_u_39_4, rd_u_39_5, rd_u_39_6, rd_u_39_9, rd_u_39_10, rd_u_39_11, rd_u_39_13, rd_u_40_6, rd_u_44, rd_u_47, e1, ↓reduceIte, b01_0, ite_not, if_true, if_false, Int.reduceLT, Int.reduceEq]
theorem k_jno (hT : tpd I A n) (hb : 0 ≤ b ∧ b ≤ n) (q1 : ¬ wd A n b = 10) (q2 : ¬ wd A n b = 11) (q3 : ¬ wd A n b = 25) (ho : 1 ≤ op ∧ op ≤ 3) (h : cS X d A n I J b C W 5 lf sg op z) : cF I J b z := by
  have wb := wd_b (A := A) (n := n) (b := b)
  have hn := hT.1
  obtain ⟨v, words, Cd, Wt, h1, h2, h3, h4, h5⟩ := h
  by_cases q : wd A n b = 20
  · exact cF_20 hn.2 hb q h4 (by decide) h5
  · have o1 : 0 < op := by omega
    refine cF_no (I := I) (a := en A n b) (v := v) (du := 5) (lf := lf) (sg := sg) (op := op) (w := W.length) (sz := C.length) (Cd := Cd) (Wt := Wt) hn.2 hb q h4 ?_ h5
    simp (disch := omega) only [v_33_39, u_33_0, x_aload0, f_39_6, x_switch, e_sw_c, e_sw_n, u_33_44, x_iload1, x_call2_0, x_call2_1, x_call2_2, x_call2_3, x_call2_4, e_k_s, e_k_i, List.nil_append, List.cons_append, x_zret0, x_zret1, x_zretb, u_33_50, u_33_56, u_33_62, u_33_68, u_33_74, u_33_80, v_44_39, u_44_0, x_sipush, x_if_icmp_ne, x_call1_0, x_call1_1, x_call1_2, x_call1_3, x_call1_4, u_44_11, x_if_icmp_eq, x_jsr, u_44_23, p_39_6, u_44_39, f_39_11, x_ifCond_le, u_44_48, rd_39_3, rd_39_4, rd_39_5, rd_39_6, rd_39_9, rd_39_10, rd_39_11, rd_39_13, rd_40_6, rd_44, rd_47, rd_39_2, rd_39_7, rd_39_8, rd_40_5, rd_46, rd_41, rd_42, rd_43, rd_u_39_3, rd_u_39_4, rd_u_39_5, rd_u_39_6, rd_u_39_9, rd_u_39_10, rd_u_39_11, rd_u_39_13, rd_u_40_6, rd_u_44, rd_u_47, q1, q2, q3, o1, ↓reduceIte, b01_0, ite_not, if_true, if_false, Int.reduceLT, Int.reduceEq]
end
