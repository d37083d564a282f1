/-! PAIRS: family, ends, anew, state, plateOf, plate -/
theorem upf_n {S : Int → Int} {k v x : Int} (h : x ≠ k) : upf S k v x = S x := if_neg h
theorem upf_s {S : Int → Int} {k v : Int} : upf S k v k = v := if_pos rfl
/-- seats of k pieces emptied -/
def zro (I : Nat → Int → Int) (k : Int) : Nat → Int → Int := fun o x => if o = 70 ∧ 38 ≤ x ∧ x < 38 + 6 * k ∧ (x - 38) % 6 = 4 then 0 else I o x
theorem zro_s {I : Nat → Int → Int} {k : Int} (hk : 0 ≤ k) : up (zro I k) 70 (38 + 6 * k + 4) 0 = zro I (k + 1) := by
  funext o x
  unfold up zro
  by_cases h : o = 70
  · by_cases q : x = 38 + 6 * k + 4
    · rw [if_pos ⟨h, q⟩, if_pos ⟨h, by omega, by omega, by omega⟩]
    · rw [if_neg (fun z => q z.2)]
      by_cases q2 : 38 ≤ x ∧ x < 38 + 6 * k ∧ (x - 38) % 6 = 4
      · rw [if_pos ⟨h, q2⟩, if_pos ⟨h, by omega, by omega, by omega⟩]
      · rw [if_neg (fun z => q2 z.2), if_neg (fun z => by omega)]
  · rw [if_neg (fun z => h z.1), if_neg (fun z => h z.1), if_neg (fun z => h z.1)]
theorem zro_0 {I : Nat → Int → Int} : zro I 0 = I := by
  funext o x
  exact if_neg (by omega)
theorem zro_6 {I : Nat → Int → Int} {k : Int} : zro I k 70 6 = I 70 6 := if_neg (by omega)
theorem Rel_go {I I' J : Nat → Int → Int} (h : Rel I J) (hk : ∀ o k, ¬ scr o k → o ≠ 1 → o ≠ 70 → I' o k = I o k) (h9 : I' 1 9 = I 1 9) (h12 : I' 1 12 = I 1 12) (hc : cok I (cof I')) (hS : ∀ x, ¬ (0 ≤ x ∧ x ≤ 5 ∧ x ≠ 1) → ¬ (38 ≤ x ∧ x < 74 ∧ (x - 38) % 6 = 4) → I' 70 x = I 70 x) (hC : RC I' (I' 70)) : Rel I' J := by
  have g : ∀ o, 2 ≤ o → o ≤ 13 ∨ (15 ≤ o ∧ o ≤ 19) → I' o = I o := fun o h0 h1 => by
    funext k
    exact hk o k (fun z => by unfold scr at z; omega) (by omega) (by omega)
  have ht : TB (fun o => if o = 1 then I' 1 else I o) (I' 70) := by
    obtain ⟨i1, i2, i3, i4, i5, i6, i7, i8, i9⟩ := h.1.1
    obtain ⟨c1, c2, c3, c4⟩ := hc
    refine TB_r1 h.1 (fun o ho => if_neg ho) h9 ⟨?_, ?_, ?_, ?_, c2, c3, ?_, i8, i9⟩ (fun x hx hx2 => hS x (by omega) hx2) ?_ hC
    · show 0 ≤ I' 1 9 ∧ I' 1 9 ≤ 6
      rw [h9]; exact i1
    · show 0 ≤ I' 1 10 ∧ I' 1 10 < 2 ^ (I' 1 9).toNat
      rw [h9]; exact c4
    · show 0 ≤ I' 1 11 ∧ I' 1 11 ≤ I' 1 12
      rw [h12]; exact c1
    · show 1 ≤ I' 1 12 ∧ I' 1 12 ≤ 16
      rw [h12]; exact i4
    · show ∀ k, 0 ≤ k → k < I' 1 9 → _
      rw [h9]; exact i7
    · show I' 70 1 = I' 1 12
      rw [h12, hS 1 (by omega) (by omega)]
      exact h.1.2.2.2.1.1
  refine Rel_tb h (TB_eq (fun o h0 h1 => ?_) (fun o h0 h1 => ?_) rfl ht) (fun o k q1 q2 q3 => hk o k q1 (by omega) q3)
  · by_cases q : o = 1
    · subst q; rfl
    · rw [if_neg q]; exact g o (by omega) (by omega)
  · rw [if_neg (by omega)]; exact g o (by omega) (by omega)
section
variable {X : e_X} {d : Nat} {I J : Nat → Int → Int}
theorem Rel_c1 (h : Rel I J) {k p v : Int} (hkp : (k = 11 ∧ p = 0) ∨ (k = 13 ∧ p = 2) ∨ (k = 14 ∧ p = 3) ∨ (k = 15 ∧ p = 4) ∨ (k = 16 ∧ p = 5)) (hc : cok I (cof (up I 1 k v))) : Rel (up (up I 1 k v) 70 p v) J := by
  obtain ⟨c0, c2, c3, c4, c5, c6⟩ := h.1.2.2.2.2.2.2
  refine Rel_go h (fun o x _ q1 q2 => by rw [up_o q2, up_o q1]) ?_ ?_ ?_ (fun x hx hx2 => ?_) ?_
  · rw [up_o (by decide), up_k (by omega)]
  · rw [up_o (by decide), up_k (by omega)]
  · exact hc
  · rw [up_k (by omega), up_o (by decide)]
  · unfold RC
    rw [up_o (o := 70) (a := 1) (by decide), up_o (o := 70) (a := 1) (by decide), up_o (o := 70) (a := 1) (by decide), up_o (o := 70) (a := 1) (by decide), up_o (o := 70) (a := 1) (by decide), up_o (o := 70) (a := 1) (by decide), up_o (o := 70) (a := 1) (by decide)]
    rcases hkp with ⟨rfl, rfl⟩ | ⟨rfl, rfl⟩ | ⟨rfl, rfl⟩ | ⟨rfl, rfl⟩ | ⟨rfl, rfl⟩
    · refine ⟨rfl, c2, c3, c4, c5, fun j j0 j1 => ?_⟩
      rw [up_k (by omega), up_o (by decide)]
      exact c6 j j0 j1
    · refine ⟨c0, rfl, c3, c4, c5, fun j j0 j1 => ?_⟩
      rw [up_k (by omega), up_o (by decide)]
      exact c6 j j0 j1
    · refine ⟨c0, c2, rfl, c4, c5, fun j j0 j1 => ?_⟩
      rw [up_k (by omega), up_o (by decide)]
      exact c6 j j0 j1
    · refine ⟨c0, c2, c3, rfl, c5, fun j j0 j1 => ?_⟩
      rw [up_k (by omega), up_o (by decide)]
      exact c6 j j0 j1
    · refine ⟨c0, c2, c3, c4, rfl, fun j j0 j1 => ?_⟩
      rw [up_k (by omega), up_o (by decide)]
      exact c6 j j0 j1
theorem q_family (h : Rel I J) {a b : Int} (ha : rg a) (hb : rg b) : pr X d I J 119 213 [.int (iI a), .int (iI b)] := by
  obtain ⟨h1, h2, h3, h4⟩ := inv_cof h.1.1
  obtain ⟨c0, c2, c3, c4, c5, c6⟩ := h.1.2.2.2.2.2.2
  by_cases q1 : a = 0
  · subst q1
    by_cases q2 : 0 ≤ b ∧ b ≤ 9
    · refine ⟨I 1 14, up I 1 14 b, J, up (up I 1 14 b) 70 3 b, J, ?_, ?_, Rel_c1 h (by omega) ⟨h1, q2, h3, h4⟩⟩
      · simp (disch := omega) only [v_119_0, u_119_0, x_iload1, x_sipush, x_call3_0, x_call3_1, x_call3_2, x_call3_3, x_call3_4, e_k_s, e_k_i, List.nil_append, List.cons_append, x_ifCond_ne, x_ifCond_neb, x_iload2, x_goto, u_119_20, x_jsr, u_119_22, x_ifCond_eq, x_ifCond_eqb, u_119_28, x_ireturn, u_119_30, x_aload0, k_0_0, f_1_14, u_119_44, f_1_15, u_119_51, x_istore3i, x_istore3r, x_istore3u, p_1_14, u_119_67, p_1_15, u_119_75, x_iload3, b_in, ↓reduceIte, b01_0, ite_not, if_true, if_false, Int.reduceLT, Int.reduceEq]
      · have e : up I 1 14 b 70 3 = I 1 14 := by rw [up_o (by decide)]; exact c3
        simp (disch := omega) only [v_213_69, u_213_0, x_iload1, x_sipush, x_call3_0, x_call3_1, x_call3_2, x_call3_3, x_call3_4, e_k_s, e_k_i, List.nil_append, List.cons_append, x_ifCond_eq, x_ifCond_eqb, x_iload2, x_ifCond_ne, x_ifCond_neb, x_goto, u_213_20, x_jsr, u_213_22, x_aload0, x_iadd, u_213_39, u_213_40, x_ireturn, m_in, m_bec, Int.reduceAdd, Int.add_zero, e, ↓reduceIte, b01_0, ite_not, if_true, if_false, Int.reduceLT, Int.reduceEq]
    · refine ⟨-1, I, J, I, J, ?_, ?_, h⟩
      · simp (disch := omega) only [v_119_0, u_119_0, x_iload1, x_sipush, x_call3_0, x_call3_1, x_call3_2, x_call3_3, x_call3_4, e_k_s, e_k_i, List.nil_append, List.cons_append, x_ifCond_ne, x_ifCond_neb, x_iload2, x_goto, u_119_20, x_jsr, u_119_22, x_ifCond_eq, x_ifCond_eqb, u_119_28, x_ireturn, u_119_30, x_aload0, k_0_0, f_1_14, u_119_44, f_1_15, u_119_51, x_istore3i, x_istore3r, x_istore3u, p_1_14, u_119_67, p_1_15, u_119_75, x_iload3, b_in, b_nin, ↓reduceIte, b01_0, ite_not, if_true, if_false, Int.reduceLT, Int.reduceEq]
      · simp (disch := omega) only [v_213_69, u_213_0, x_iload1, x_sipush, x_call3_0, x_call3_1, x_call3_2, x_call3_3, x_call3_4, e_k_s, e_k_i, List.nil_append, List.cons_append, x_ifCond_eq, x_ifCond_eqb, x_iload2, x_ifCond_ne, x_ifCond_neb, x_goto, u_213_20, x_jsr, u_213_22, x_aload0, x_iadd, u_213_39, u_213_40, x_ireturn, m_in, m_nin, ↓reduceIte, b01_0, ite_not, if_true, if_false, Int.reduceLT, Int.reduceEq]
  · by_cases q1 : a = 1
    · subst q1
      by_cases q2 : 0 ≤ b ∧ b ≤ 40
      · refine ⟨I 1 15, up I 1 15 b, J, up (up I 1 15 b) 70 4 b, J, ?_, ?_, Rel_c1 h (by omega) ⟨h1, h2, q2, h4⟩⟩
        · simp (disch := omega) only [v_119_0, u_119_0, x_iload1, x_sipush, x_call3_0, x_call3_1, x_call3_2, x_call3_3, x_call3_4, e_k_s, e_k_i, List.nil_append, List.cons_append, x_ifCond_ne, x_ifCond_neb, x_iload2, x_goto, u_119_20, x_jsr, u_119_22, x_ifCond_eq, x_ifCond_eqb, u_119_28, x_ireturn, u_119_30, x_aload0, k_0_0, f_1_14, u_119_44, f_1_15, u_119_51, x_istore3i, x_istore3r, x_istore3u, p_1_14, u_119_67, p_1_15, u_119_75, x_iload3, b_in, ↓reduceIte, b01_0, ite_not, if_true, if_false, Int.reduceLT, Int.reduceEq]
        · have e : up I 1 15 b 70 4 = I 1 15 := by rw [up_o (by decide)]; exact c4
          simp (disch := omega) only [v_213_69, u_213_0, x_iload1, x_sipush, x_call3_0, x_call3_1, x_call3_2, x_call3_3, x_call3_4, e_k_s, e_k_i, List.nil_append, List.cons_append, x_ifCond_eq, x_ifCond_eqb, x_iload2, x_ifCond_ne, x_ifCond_neb, x_goto, u_213_20, x_jsr, u_213_22, x_aload0, x_iadd, u_213_39, u_213_40, x_ireturn, m_in, m_bec, Int.reduceAdd, e, ↓reduceIte, b01_0, ite_not, if_true, if_false, Int.reduceLT, Int.reduceEq]
      · refine ⟨-1, I, J, I, J, ?_, ?_, h⟩
        · simp (disch := omega) only [v_119_0, u_119_0, x_iload1, x_sipush, x_call3_0, x_call3_1, x_call3_2, x_call3_3, x_call3_4, e_k_s, e_k_i, List.nil_append, List.cons_append, x_ifCond_ne, x_ifCond_neb, x_iload2, x_goto, u_119_20, x_jsr, u_119_22, x_ifCond_eq, x_ifCond_eqb, u_119_28, x_ireturn, u_119_30, x_aload0, k_0_0, f_1_14, u_119_44, f_1_15, u_119_51, x_istore3i, x_istore3r, x_istore3u, p_1_14, u_119_67, p_1_15, u_119_75, x_iload3, b_in, b_nin, ↓reduceIte, b01_0, ite_not, if_true, if_false, Int.reduceLT, Int.reduceEq]
        · simp (disch := omega) only [v_213_69, u_213_0, x_iload1, x_sipush, x_call3_0, x_call3_1, x_call3_2, x_call3_3, x_call3_4, e_k_s, e_k_i, List.nil_append, List.cons_append, x_ifCond_eq, x_ifCond_eqb, x_iload2, x_ifCond_ne, x_ifCond_neb, x_goto, u_213_20, x_jsr, u_213_22, x_aload0, x_iadd, u_213_39, u_213_40, x_ireturn, m_in, m_nin, ↓reduceIte, b01_0, ite_not, if_true, if_false, Int.reduceLT, Int.reduceEq]
    · refine ⟨-1, I, J, I, J, ?_, ?_, h⟩
      · simp (disch := omega) only [v_119_0, u_119_0, x_iload1, x_sipush, x_call3_0, x_call3_1, x_call3_2, x_call3_3, x_call3_4, e_k_s, e_k_i, List.nil_append, List.cons_append, x_ifCond_ne, x_ifCond_neb, x_iload2, x_goto, u_119_20, x_jsr, u_119_22, x_ifCond_eq, x_ifCond_eqb, u_119_28, x_ireturn, u_119_30, x_aload0, k_0_0, f_1_14, u_119_44, f_1_15, u_119_51, x_istore3i, x_istore3r, x_istore3u, p_1_14, u_119_67, p_1_15, u_119_75, x_iload3, b_in, b_nin, ↓reduceIte, b01_0, ite_not, if_true, if_false, Int.reduceLT, Int.reduceEq]
      · simp (disch := omega) only [v_213_69, u_213_0, x_iload1, x_sipush, x_call3_0, x_call3_1, x_call3_2, x_call3_3, x_call3_4, e_k_s, e_k_i, List.nil_append, List.cons_append, x_ifCond_eq, x_ifCond_eqb, x_iload2, x_ifCond_ne, x_ifCond_neb, x_goto, u_213_20, x_jsr, u_213_22, x_aload0, x_iadd, u_213_39, u_213_40, x_ireturn, m_in, m_nin, ↓reduceIte, b01_0, ite_not, if_true, if_false, Int.reduceLT, Int.reduceEq]
theorem q_seed (h : Rel I J) {a : Int} (ha : rg a) : pr X d I J 149 267 [.int (iI a)] := by
  obtain ⟨c0, c2, c3, c4, c5, c6⟩ := h.1.2.2.2.2.2.2
  refine ⟨I 1 16, up I 1 16 a, J, up (up I 1 16 a) 70 5 a, J, ?_, ?_, Rel_c1 h (by omega) (inv_cof h.1.1)⟩
  · simp (disch := omega) only [v_149_0, u_149_0, x_aload0, k_0_0, f_1_16, x_istore2i, x_istore2r, x_istore2u, x_iload1, p_1_16, x_iload2, x_ireturn, ↓reduceIte, b01_0, ite_not, if_true, if_false, Int.reduceLT, Int.reduceEq]
  · have e : up I 1 16 a 70 5 = I 1 16 := by rw [up_o (by decide)]; exact c5
    simp (disch := omega) only [v_267_69, u_267_0, x_aload0, x_sipush, x_iload1, x_call3_0, x_call3_1, x_call3_2, x_call3_3, x_call3_4, e_k_s, e_k_i, List.nil_append, List.cons_append, x_ireturn, m_bec, e, ↓reduceIte, b01_0, ite_not, if_true, if_false, Int.reduceLT, Int.reduceEq]
theorem q_ends (h : Rel I J) {a : Int} (ha : rg a) : pr X d I J 120 214 [.int (iI a)] := by
  obtain ⟨c0, c2, c3, c4, c5, c6⟩ := id h.1.2.2.2.2.2.2
  obtain ⟨h1, h2, h3, h4, h5, h6, h7, h8, h9⟩ := id h.1.1
  have e1 := h.1.2.2.2.1.1
  by_cases q1 : 1 ≤ a ∧ a ≤ 16
  · by_cases q2 : a < I 1 11
    · refine ⟨-4, I, J, I, J, ?_, ?_, h⟩
      · simp (disch := omega) only [v_120_0, u_120_0, x_iload1, x_sipush, x_call3_0, x_call3_1, x_call3_2, x_call3_3, x_call3_4, e_k_s, e_k_i, List.nil_append, List.cons_append, x_ifCond_eq, x_ifCond_eqb, x_ireturn, u_120_12, x_aload0, k_0_0, f_1_11, x_if_icmp_ge, u_120_26, f_1_12, x_istore2i, x_istore2r, x_istore2u, p_1_12, x_iload2, b_in, ↓reduceIte, b01_0, ite_not, if_true, if_false, Int.reduceLT, Int.reduceEq]
        rw [if_pos q2]
      · simp (disch := omega) only [v_214_69, u_214_0, x_iload1, x_sipush, x_call3_0, x_call3_1, x_call3_2, x_call3_3, x_call3_4, e_k_s, e_k_i, List.nil_append, List.cons_append, x_ifCond_ne, x_ifCond_neb, x_goto, u_214_14, x_aload0, k_69_0, x_if_icmp_ge, u_214_29, x_jsr, u_214_35, x_ireturn, ia_70, m_in, c0, ↓reduceIte, b01_0, ite_not, if_true, if_false, Int.reduceLT, Int.reduceEq]
        rw [if_pos q2]
    · refine ⟨I 1 12, up I 1 12 a, J, up (up I 1 12 a) 70 1 a, J, ?_, ?_, ?_⟩
      · simp (disch := omega) only [v_120_0, u_120_0, x_iload1, x_sipush, x_call3_0, x_call3_1, x_call3_2, x_call3_3, x_call3_4, e_k_s, e_k_i, List.nil_append, List.cons_append, x_ifCond_eq, x_ifCond_eqb, x_ireturn, u_120_12, x_aload0, k_0_0, f_1_11, x_if_icmp_ge, u_120_26, f_1_12, x_istore2i, x_istore2r, x_istore2u, p_1_12, x_iload2, b_in, ↓reduceIte, b01_0, ite_not, if_true, if_false, Int.reduceLT, Int.reduceEq]
        rw [if_neg q2]
      · have e : up I 1 12 a 70 1 = I 1 12 := by rw [up_o (by decide)]; exact e1
        have e' : up I 1 12 a 70 0 = I 1 11 := by rw [up_o (by decide)]; exact c0
        simp (disch := omega) only [v_214_69, u_214_0, x_iload1, x_sipush, x_call3_0, x_call3_1, x_call3_2, x_call3_3, x_call3_4, e_k_s, e_k_i, List.nil_append, List.cons_append, x_ifCond_ne, x_ifCond_neb, x_goto, u_214_14, x_aload0, k_69_0, x_if_icmp_ge, u_214_29, x_jsr, u_214_35, x_ireturn, ia_70, m_in, m_bec, e, e', ↓reduceIte, b01_0, ite_not, if_true, if_false, Int.reduceLT, Int.reduceEq]
        rw [if_neg q2]
      · have hT : TB (up I 1 12 a) (upf (I 70) 1 a) := by
          refine TB_r1 h.1 (fun o ho => by funext x; exact up_o ho) (up_k (by decide)) ⟨h1, h2, ?_, ?_, h5, h6, h7, h8, h9⟩ (fun x hx _ => upf_n (by omega)) ?_ ?_
          · show 0 ≤ I 1 11 ∧ I 1 11 ≤ a
            omega
          · exact q1
          · rw [upf_s]; rfl
          · refine ⟨c0, c2, c3, c4, c5, fun j j0 j1 => ?_⟩
            rw [upf_n (by omega)]
            exact c6 j j0 j1
        have e70 : up I 1 12 a 70 = I 70 := by
          funext b
          exact up_o (by decide)
        refine Rel_r1 h ?_ (fun o x1 x2 => by funext b; rw [up_o x2, up_o x1])
        rw [up_upf, e70]
        exact TB_eq (fun a _ _ => by funext b; exact up_o (by omega)) (fun a _ _ => by funext b; exact up_o (by omega)) rfl hT
  · refine ⟨-1, I, J, I, J, ?_, ?_, h⟩
    · simp (disch := omega) only [v_120_0, u_120_0, x_iload1, x_sipush, x_call3_0, x_call3_1, x_call3_2, x_call3_3, x_call3_4, e_k_s, e_k_i, List.nil_append, List.cons_append, x_ifCond_eq, x_ifCond_eqb, x_ireturn, u_120_12, x_aload0, k_0_0, f_1_11, x_if_icmp_ge, u_120_26, f_1_12, x_istore2i, x_istore2r, x_istore2u, p_1_12, x_iload2, b_nin, ↓reduceIte, b01_0, ite_not, if_true, if_false, Int.reduceLT, Int.reduceEq]
    · simp (disch := omega) only [v_214_69, u_214_0, x_iload1, x_sipush, x_call3_0, x_call3_1, x_call3_2, x_call3_3, x_call3_4, e_k_s, e_k_i, List.nil_append, List.cons_append, x_ifCond_ne, x_ifCond_neb, x_goto, u_214_14, x_aload0, k_69_0, x_if_icmp_ge, u_214_29, x_jsr, u_214_35, x_ireturn, ia_70, m_nin, ↓reduceIte, b01_0, ite_not, if_true, if_false, Int.reduceLT, Int.reduceEq]
theorem m_anw {M : Nat → Int → Int} (h6 : M 70 6 = I 1 9) (hn : 0 ≤ I 1 9 ∧ I 1 9 ≤ 6) : ∀ (r : Nat) (k : Int), 0 ≤ k → k + r = I 1 9 → s_j X (d + 1) 215 23 [.ref 69, .int (iI k)] [] (mm (zro M k) J) = s_j X (d + 1) 215 47 [.ref 69, .int (iI (I 1 9))] [] (mm (zro M (I 1 9)) J) := by
  intro r
  induction r with
  | zero =>
    intro k k0 hk
    rw [u_215_23, show k = I 1 9 by omega]
    simp (disch := omega) only [v_215_69, u_215_0, x_aload0, k_69_0, x_sipush, x_istore1i, x_istore1r, x_istore1u, x_jsr, x_iload1, x_if_icmp_ge, x_call4_0, x_call4_1, x_call4_2, x_call4_3, x_call4_4, e_k_s, e_k_i, List.nil_append, List.cons_append, x_iinc1i, x_iinc1r, x_iinc1u, x_goto, x_call3_0, x_call3_1, x_call3_2, x_call3_3, x_call3_4, x_ireturn, ia_70, is_70, zro_6, h6, ↓reduceIte, b01_0, ite_not, if_true, if_false, Int.reduceLT, Int.reduceEq]
    rw [if_neg (by omega)]
  | succ r ih =>
    intro k k0 hk
    have e := ih (k + 1) (by omega) (by omega)
    have z := zro_s (I := M) (k := k) k0
    rw [← e, u_215_23]
    simp (disch := omega) only [v_215_69, u_215_0, x_aload0, k_69_0, x_sipush, x_istore1i, x_istore1r, x_istore1u, x_jsr, x_iload1, x_if_icmp_ge, x_call4_0, x_call4_1, x_call4_2, x_call4_3, x_call4_4, e_k_s, e_k_i, List.nil_append, List.cons_append, x_iinc1i, x_iinc1r, x_iinc1u, x_goto, x_call3_0, x_call3_1, x_call3_2, x_call3_3, x_call3_4, x_ireturn, ia_70, is_70, zro_6, h6, m_puts, z, ↓reduceIte, b01_0, ite_not, if_true, if_false, Int.reduceLT, Int.reduceEq]
    rw [if_pos (by omega)]
theorem q_anew (h : Rel I J) : pr X d I J 121 215 [] := by
  obtain ⟨c0, c2, c3, c4, c5, c6⟩ := id h.1.2.2.2.2.2.2
  obtain ⟨h1, h2, h3, h4, h5, h6, h7, h8, h9⟩ := id h.1.1
  have e6 := h.1.2.2.2.1.2.1
  refine ⟨I 1 11, up (up (up (up (up I 1 11 0) 1 13 0) 1 14 5) 1 15 0) 1 10 0, J, up (zro (up (up (up (up (up (up (up (up I 1 11 0) 1 13 0) 1 14 5) 1 15 0) 1 10 0) 70 2 0) 70 3 5) 70 4 0) (I 1 9)) 70 0 0, J, ?_, ?_, ?_⟩
  · simp (disch := omega) only [v_121_0, u_121_0, x_aload0, k_0_0, f_1_11, x_istore1i, x_istore1r, x_istore1u, x_call1_0, x_call1_1, x_call1_2, x_call1_3, x_call1_4, e_k_s, e_k_i, List.nil_append, List.cons_append, x_iload1, x_ireturn, v_75_1, u_75_0, x_sipush, p_1_11, p_1_13, p_1_14, p_1_15, p_1_10, x_return, ↓reduceIte, b01_0, ite_not, if_true, if_false, Int.reduceLT, Int.reduceEq]
  · have e := m_anw (X := X) (d := d + 28) (J := J) (I := I) (M := up (up (up (up (up (up (up (up I 1 11 0) 1 13 0) 1 14 5) 1 15 0) 1 10 0) 70 2 0) 70 3 5) 70 4 0) e6 h1 (I 1 9).toNat 0 (by decide) (by omega)
    rw [zro_0] at e
    have e0 : zro (up (up (up (up (up (up (up (up I 1 11 0) 1 13 0) 1 14 5) 1 15 0) 1 10 0) 70 2 0) 70 3 5) 70 4 0) (I 1 9) 70 0 = I 1 11 := c0
    simp (disch := omega) only [v_215_69, u_215_0, x_aload0, k_69_0, x_sipush, x_istore1i, x_istore1r, x_istore1u, x_jsr, x_iload1, x_if_icmp_ge, x_call4_0, x_call4_1, x_call4_2, x_call4_3, x_call4_4, e_k_s, e_k_i, List.nil_append, List.cons_append, x_iinc1i, x_iinc1r, x_iinc1u, x_goto, u_215_47, x_call3_0, x_call3_1, x_call3_2, x_call3_3, x_call3_4, x_ireturn, ia_70, is_70, e, m_bec, e0, ↓reduceIte, b01_0, ite_not, if_true, if_false, Int.reduceLT, Int.reduceEq]
  · refine Rel_go h (fun o x _ q1 q2 => ?_) rfl rfl ⟨⟨Int.le_refl 0, by show (0 : Int) ≤ I 1 12; omega⟩, (by decide : (0 : Int) ≤ 5 ∧ (5 : Int) ≤ 9), (by decide : (0 : Int) ≤ 0 ∧ (0 : Int) ≤ 40), ⟨Int.le_refl 0, by show (0 : Int) < 2 ^ (I 1 9).toNat; omega⟩⟩ (fun x hx hx2 => ?_) ⟨rfl, rfl, rfl, rfl, c5, fun j j0 j1 => ?_⟩
    · rw [up_o q2, zro, if_neg (fun z => q2 z.1), up_o q2, up_o q2, up_o q2, up_o q1, up_o q1, up_o q1, up_o q1, up_o q1]
    · rw [up_k (by omega), zro, if_neg (by omega), up_k (by omega), up_k (by omega), up_k (by omega), up_o (by decide), up_o (by decide), up_o (by decide), up_o (by decide), up_o (by decide)]
    · have j1' : j < I 1 9 := j1
      rw [up_k (by omega), zro, if_pos ⟨rfl, by omega, by omega, by omega⟩]
      show (0 : Int) = bt 0 j
      unfold bt
      simp
end
