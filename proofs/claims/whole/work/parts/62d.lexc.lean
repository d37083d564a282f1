/-! THE CLASS reads a word -/
theorem isS_iff {c : Int} : isS c = true ↔ c = 32 := decide_eq_true_iff
theorem isL_iff {c : Int} : isL c = true ↔ 97 ≤ c ∧ c ≤ 122 := decide_eq_true_iff
theorem isD_iff {c : Int} : isD c = true ↔ 48 ≤ c ∧ c ≤ 57 := decide_eq_true_iff
/-- the tape of the class -/
def tpd (I : Nat → Int → Int) (A : Int → Int) (n : Int) : Prop := (0 ≤ n ∧ n ≤ 200) ∧ I 39 2 = n ∧ ∀ i, 0 ≤ i → i < n → I 46 i = A i ∧ 0 ≤ A i ∧ A i ≤ 255
theorem x_bal {X : e_X} {d c : Nat} {is : List Instr} {ls st : List Value} {m : e_M} {z : Int} (h : 0 ≤ z ∧ z < 98) : s_x X d c (.baload :: is) ls (.int (iI z) :: .ref 1003 :: st) m = s_x X d c is ls (.int (e_nms.getD z.toNat 0) :: st) m := by
  show (match (if (decide ((1003 : Nat) = 1003) && e_in (iI z) 98) = true then some (ls, .int (e_nms.getD (iI z).toNatClampNeg 0) :: st, m) else none : e_T) with | some (a, b, q) => s_x X d c is a b q | none => none) = _
  rw [e_in_I (n := 98) h (by decide), iI_cl (by omega)]
  rfl
theorem v_307r {X : e_X} {d : Nat} {a0 a1 : Int32} {I J : Nat → Int → Int} : s_S X (d + 1) 307 [.int a0, .int a1, .retAddr 1] (mm I J) = s_j X d 307 0 [.int a0, .int a1, .retAddr 1] [] (mm I J) := s_S_in rfl rfl
theorem nmc_at : ∀ i : Fin 98, ((e_nms.getD i.val 0 &&& iI 255).toUInt32 % 65536).toInt32 = iI ((nmc nmz).getD i.val 0) ∧ ((iI ((nmc nmz).getD i.val 0)).toUInt32 % 65536).toInt32 = iI ((nmc nmz).getD i.val 0) ∧ 0 ≤ (nmc nmz).getD i.val 0 ∧ (nmc nmz).getD i.val 0 ≤ 255 := by decide +kernel
section
variable {X : e_X} {d : Nat} {I J : Nat → Int → Int} {a s v du lf sg op w sz : Int} {Cd Wt : Int → Int} {A : Int → Int} {n : Int}
theorem c_isl1 {c : Int} (h : 97 ≤ c ∧ c ≤ 122) : s_S X (d + 1) 28 [.int (iI c)] (mm I J) = some ([.int (iI 1)], mm I J) := by
  simp (disch := omega) only [v_28, u_28_0, x_iload0, x_sipush, x_if_icmp_lt, x_if_icmp_gt, x_goto, u_28_16, x_jsr, u_28_17, x_zret0, x_zret1, x_zretb, ↓reduceIte, b01_0, ite_not, if_true, if_false, Int.reduceLT, Int.reduceEq]
  rw [if_neg (by omega), if_neg (by omega)]
theorem c_isl0 {c : Int} (h : ¬ (97 ≤ c ∧ c ≤ 122)) (hr : 0 ≤ c ∧ c ≤ 255) : s_S X (d + 1) 28 [.int (iI c)] (mm I J) = some ([.int (iI 0)], mm I J) := by
  simp (disch := omega) only [v_28, u_28_0, x_iload0, x_sipush, x_if_icmp_lt, x_if_icmp_gt, x_goto, u_28_16, x_jsr, u_28_17, x_zret0, x_zret1, x_zretb, ↓reduceIte, b01_0, ite_not, if_true, if_false, Int.reduceLT, Int.reduceEq]
  (repeat' split) <;> first | rfl | (exfalso; omega)
theorem c_isd1 {c : Int} (h : 48 ≤ c ∧ c ≤ 57) : s_S X (d + 1) 30 [.int (iI c)] (mm I J) = some ([.int (iI 1)], mm I J) := by
  simp (disch := omega) only [v_30, u_30_0, x_iload0, x_sipush, x_if_icmp_lt, x_if_icmp_gt, x_goto, u_30_16, x_jsr, u_30_17, x_zret0, x_zret1, x_zretb, ↓reduceIte, b01_0, ite_not, if_true, if_false, Int.reduceLT, Int.reduceEq]
  rw [if_neg (by omega), if_neg (by omega)]
theorem c_isd0 {c : Int} (h : ¬ (48 ≤ c ∧ c ≤ 57)) (hr : 0 ≤ c ∧ c ≤ 255) : s_S X (d + 1) 30 [.int (iI c)] (mm I J) = some ([.int (iI 0)], mm I J) := by
  simp (disch := omega) only [v_30, u_30_0, x_iload0, x_sipush, x_if_icmp_lt, x_if_icmp_gt, x_goto, u_30_16, x_jsr, u_30_17, x_zret0, x_zret1, x_zretb, ↓reduceIte, b01_0, ite_not, if_true, if_false, Int.reduceLT, Int.reduceEq]
  (repeat' split) <;> first | rfl | (exfalso; omega)
theorem c_sgw {c : Int} (hr : 0 ≤ c ∧ c ≤ 255) : s_S X (d + 1) 32 [.int (iI c)] (mm I J) = some ([.int (iI (sgw c))], mm I J) := by
  unfold sgw
  simp (disch := omega) only [v_32, u_32_0, x_iload0, x_switch, e_sw_c, e_sw_n, u_32_60, x_sipush, x_ireturn, u_32_63, u_32_66, u_32_69, u_32_72, u_32_75, u_32_78, ↓reduceIte, b01_0, ite_not, if_true, if_false, Int.reduceLT, Int.reduceEq]
  (repeat' split) <;> first | rfl | (exfalso; omega)
theorem c_sk0 {x : Value} (hT : tpd I A n) (ha : 0 ≤ a ∧ a ≤ n) (q : ¬ (a < n ∧ A a = 32)) : s_j X d 27 0 [.ref 39, x] [] (mm (rd I a s v du lf sg op w sz Cd Wt) J) = s_j X d 27 38 [.ref 39, x] [] (mm (rd I a s v du lf sg op w sz Cd Wt) J) := by
  obtain ⟨h1, h2, h3⟩ := hT
  rw [u_27_0]
  by_cases z : a < n
  · obtain ⟨e1, e2, e3⟩ := h3 a ha.1 z
    have q2 : ¬ A a = 32 := fun y => q ⟨z, y⟩
    simp (disch := omega) only [v_27_39, x_aload0, f_39_3, f_39_2, x_if_icmp_ge, k_39_1, x_sipush, x_if_icmp_ne, x_dup_i, x_dup_r, x_iadd, p_39_3, x_goto, p_39_4, x_if_icmp_lt, x_ireturn, u_27_60, x_istore1i, x_istore1r, x_istore1u, x_iload1, x_call1_0, x_call1_1, x_call1_2, x_call1_3, x_call1_4, e_k_s, e_k_i, List.nil_append, List.cons_append, x_ifCond_eq, x_ifCond_eqb, u_27_82, u_27_94, ia_46, rd_39_3, rd_39_4, rd_39_5, rd_39_6, rd_39_9, rd_39_10, rd_39_11, rd_39_13, rd_40_6, rd_44, rd_47, rd_39_2, rd_39_7, rd_39_8, rd_40_5, rd_46, rd_41, rd_42, rd_43, rd_u_39_3, rd_u_39_4, rd_u_39_5, rd_u_39_6, rd_u_39_9, rd_u_39_10, rd_u_39_11, rd_u_39_13, rd_u_40_6, rd_u_44, rd_u_47, h2, z, e1, q2, ↓reduceIte, b01_0, ite_not, if_true, if_false, Int.reduceLT, Int.reduceEq]
  · simp (disch := omega) only [v_27_39, x_aload0, f_39_3, f_39_2, x_if_icmp_ge, k_39_1, x_sipush, x_if_icmp_ne, x_dup_i, x_dup_r, x_iadd, p_39_3, x_goto, p_39_4, x_if_icmp_lt, x_ireturn, u_27_60, x_istore1i, x_istore1r, x_istore1u, x_iload1, x_call1_0, x_call1_1, x_call1_2, x_call1_3, x_call1_4, e_k_s, e_k_i, List.nil_append, List.cons_append, x_ifCond_eq, x_ifCond_eqb, u_27_82, u_27_94, ia_46, rd_39_3, rd_39_4, rd_39_5, rd_39_6, rd_39_9, rd_39_10, rd_39_11, rd_39_13, rd_40_6, rd_44, rd_47, rd_39_2, rd_39_7, rd_39_8, rd_40_5, rd_46, rd_41, rd_42, rd_43, rd_u_39_3, rd_u_39_4, rd_u_39_5, rd_u_39_6, rd_u_39_9, rd_u_39_10, rd_u_39_11, rd_u_39_13, rd_u_40_6, rd_u_44, rd_u_47, h2, z, ↓reduceIte, b01_0, ite_not, if_true, if_false, Int.reduceLT, Int.reduceEq]
theorem c_sk {x : Value} (hT : tpd I A n) : ∀ (f : Nat) (a : Int), 0 ≤ a → a ≤ n → n - a ≤ f → s_j X d 27 0 [.ref 39, x] [] (mm (rd I a s v du lf sg op w sz Cd Wt) J) = s_j X d 27 38 [.ref 39, x] [] (mm (rd I (sk A n a) s v du lf sg op w sz Cd Wt) J) := by
  have hT' := hT
  obtain ⟨h1, h2, h3⟩ := hT'
  intro f
  induction f with
  | zero =>
    intro a a0 a1 hf
    have e : sk A n a = a := av_no (fun z => by omega)
    rw [e]
    exact c_sk0 hT ⟨a0, a1⟩ (fun z => by omega)
  | succ f ih =>
    intro a a0 a1 hf
    by_cases q : a < n ∧ A a = 32
    · have e : sk A n a = sk A n (a + 1) := av_go q.1 (isS_iff.mpr q.2)
      obtain ⟨e1, e2, e3⟩ := h3 a a0 q.1
      have q1 := q.1
      have q2 := q.2
      rw [e, ← ih (a + 1) (by omega) (by omega) (by omega)]
      conv => lhs; rw [u_27_0]
      simp (disch := omega) only [v_27_39, x_aload0, f_39_3, f_39_2, x_if_icmp_ge, k_39_1, x_sipush, x_if_icmp_ne, x_dup_i, x_dup_r, x_iadd, p_39_3, x_goto, p_39_4, x_if_icmp_lt, x_ireturn, u_27_60, x_istore1i, x_istore1r, x_istore1u, x_iload1, x_call1_0, x_call1_1, x_call1_2, x_call1_3, x_call1_4, e_k_s, e_k_i, List.nil_append, List.cons_append, x_ifCond_eq, x_ifCond_eqb, u_27_82, u_27_94, ia_46, rd_39_3, rd_39_4, rd_39_5, rd_39_6, rd_39_9, rd_39_10, rd_39_11, rd_39_13, rd_40_6, rd_44, rd_47, rd_39_2, rd_39_7, rd_39_8, rd_40_5, rd_46, rd_41, rd_42, rd_43, rd_u_39_3, rd_u_39_4, rd_u_39_5, rd_u_39_6, rd_u_39_9, rd_u_39_10, rd_u_39_11, rd_u_39_13, rd_u_40_6, rd_u_44, rd_u_47, h2, q1, e1, q2, ↓reduceIte, b01_0, ite_not, if_true, if_false, Int.reduceLT, Int.reduceEq]
    · have e : sk A n a = a := av_no (fun z => q ⟨z.1, isS_iff.mp z.2⟩)
      rw [e]
      exact c_sk0 hT ⟨a0, a1⟩ q
/-- a name's end -/
theorem c_le0 {x y z w4 : Value} (hT : tpd I A n) (ha : 0 ≤ a ∧ a ≤ n) (q : ¬ (a < n ∧ 97 ≤ A a ∧ A a ≤ 122)) : s_j X (d + 1) 29 0 [.ref 39, x, y, z, w4] [] (mm (rd I a s v du lf sg op w sz Cd Wt) J) = s_j X (d + 1) 29 39 [.ref 39, x, y, z, w4] [] (mm (rd I a s v du lf sg op w sz Cd Wt) J) := by
  obtain ⟨h1, h2, h3⟩ := hT
  rw [u_29_0]
  by_cases z : a < n
  · obtain ⟨e1, e2, e3⟩ := h3 a ha.1 z
    have q2 : ¬ (97 ≤ A a ∧ A a ≤ 122) := fun y => q ⟨z, y⟩
    have e4 := fun N => c_isl0 (X := X) (d := d) (I := N) (J := J) q2 ⟨e2, e3⟩
    simp (disch := omega) only [v_29_39, x_aload0, f_39_3, f_39_2, x_if_icmp_ge, k_39_1, x_call1_0, x_call1_1, x_call1_2, x_call1_3, x_call1_4, e_k_s, e_k_i, List.nil_append, List.cons_append, x_ifCond_eq, x_ifCond_eqb, x_dup_i, x_dup_r, x_sipush, x_iadd, p_39_3, x_goto, x_istore1i, x_istore1r, x_istore1u, f_39_4, x_istore2i, x_istore2r, x_istore2u, x_istore3i, x_istore3r, x_istore3u, x_jsr, u_29_48, x_iload3, x_gets3, x_call2_0, x_call2_1, x_call2_2, x_call2_3, x_call2_4, x_istore4i, x_istore4r, x_istore4u, x_iload4, x_if_icmp_ne, x_iload2, x_iload1, x_ireturn, u_29_82, x_iinc1i, x_iinc1r, x_iinc1u, u_29_93, x_if_icmp_lt, x_iinc2i, x_iinc2r, x_iinc2u, u_29_126, u_29_128, x_iinc3i, x_iinc3r, x_iinc3u, u_29_134, ia_46, rd_39_3, rd_39_4, rd_39_5, rd_39_6, rd_39_9, rd_39_10, rd_39_11, rd_39_13, rd_40_6, rd_44, rd_47, rd_39_2, rd_39_7, rd_39_8, rd_40_5, rd_46, rd_41, rd_42, rd_43, rd_u_39_3, rd_u_39_4, rd_u_39_5, rd_u_39_6, rd_u_39_9, rd_u_39_10, rd_u_39_11, rd_u_39_13, rd_u_40_6, rd_u_44, rd_u_47, h2, z, e1, e4, ↓reduceIte, b01_0, ite_not, if_true, if_false, Int.reduceLT, Int.reduceEq]
  · simp (disch := omega) only [v_29_39, x_aload0, f_39_3, f_39_2, x_if_icmp_ge, k_39_1, x_call1_0, x_call1_1, x_call1_2, x_call1_3, x_call1_4, e_k_s, e_k_i, List.nil_append, List.cons_append, x_ifCond_eq, x_ifCond_eqb, x_dup_i, x_dup_r, x_sipush, x_iadd, p_39_3, x_goto, x_istore1i, x_istore1r, x_istore1u, f_39_4, x_istore2i, x_istore2r, x_istore2u, x_istore3i, x_istore3r, x_istore3u, x_jsr, u_29_48, x_iload3, x_gets3, x_call2_0, x_call2_1, x_call2_2, x_call2_3, x_call2_4, x_istore4i, x_istore4r, x_istore4u, x_iload4, x_if_icmp_ne, x_iload2, x_iload1, x_ireturn, u_29_82, x_iinc1i, x_iinc1r, x_iinc1u, u_29_93, x_if_icmp_lt, x_iinc2i, x_iinc2r, x_iinc2u, u_29_126, u_29_128, x_iinc3i, x_iinc3r, x_iinc3u, u_29_134, ia_46, rd_39_3, rd_39_4, rd_39_5, rd_39_6, rd_39_9, rd_39_10, rd_39_11, rd_39_13, rd_40_6, rd_44, rd_47, rd_39_2, rd_39_7, rd_39_8, rd_40_5, rd_46, rd_41, rd_42, rd_43, rd_u_39_3, rd_u_39_4, rd_u_39_5, rd_u_39_6, rd_u_39_9, rd_u_39_10, rd_u_39_11, rd_u_39_13, rd_u_40_6, rd_u_44, rd_u_47, h2, z, ↓reduceIte, b01_0, ite_not, if_true, if_false, Int.reduceLT, Int.reduceEq]
theorem c_le {x y z w4 : Value} (hT : tpd I A n) : ∀ (f : Nat) (a : Int), 0 ≤ a → a ≤ n → n - a ≤ f → s_j X (d + 1) 29 0 [.ref 39, x, y, z, w4] [] (mm (rd I a s v du lf sg op w sz Cd Wt) J) = s_j X (d + 1) 29 39 [.ref 39, x, y, z, w4] [] (mm (rd I (lee A n a) s v du lf sg op w sz Cd Wt) J) := by
  have hT' := hT
  obtain ⟨h1, h2, h3⟩ := hT'
  intro f
  induction f with
  | zero =>
    intro a a0 a1 hf
    have e : lee A n a = a := av_no (fun z => by omega)
    rw [e]
    exact c_le0 hT ⟨a0, a1⟩ (fun z => by omega)
  | succ f ih =>
    intro a a0 a1 hf
    by_cases q : a < n ∧ 97 ≤ A a ∧ A a ≤ 122
    · have e : lee A n a = lee A n (a + 1) := av_go q.1 (isL_iff.mpr q.2)
      obtain ⟨e1, e2, e3⟩ := h3 a a0 q.1
      have q1 := q.1
      have e4 := fun N => c_isl1 (X := X) (d := d) (I := N) (J := J) q.2
      rw [e, ← ih (a + 1) (by omega) (by omega) (by omega)]
      conv => lhs; rw [u_29_0]
      simp (disch := omega) only [v_29_39, x_aload0, f_39_3, f_39_2, x_if_icmp_ge, k_39_1, x_call1_0, x_call1_1, x_call1_2, x_call1_3, x_call1_4, e_k_s, e_k_i, List.nil_append, List.cons_append, x_ifCond_eq, x_ifCond_eqb, x_dup_i, x_dup_r, x_sipush, x_iadd, p_39_3, x_goto, x_istore1i, x_istore1r, x_istore1u, f_39_4, x_istore2i, x_istore2r, x_istore2u, x_istore3i, x_istore3r, x_istore3u, x_jsr, u_29_48, x_iload3, x_gets3, x_call2_0, x_call2_1, x_call2_2, x_call2_3, x_call2_4, x_istore4i, x_istore4r, x_istore4u, x_iload4, x_if_icmp_ne, x_iload2, x_iload1, x_ireturn, u_29_82, x_iinc1i, x_iinc1r, x_iinc1u, u_29_93, x_if_icmp_lt, x_iinc2i, x_iinc2r, x_iinc2u, u_29_126, u_29_128, x_iinc3i, x_iinc3r, x_iinc3u, u_29_134, ia_46, rd_39_3, rd_39_4, rd_39_5, rd_39_6, rd_39_9, rd_39_10, rd_39_11, rd_39_13, rd_40_6, rd_44, rd_47, rd_39_2, rd_39_7, rd_39_8, rd_40_5, rd_46, rd_41, rd_42, rd_43, rd_u_39_3, rd_u_39_4, rd_u_39_5, rd_u_39_6, rd_u_39_9, rd_u_39_10, rd_u_39_11, rd_u_39_13, rd_u_40_6, rd_u_44, rd_u_47, h2, q1, e1, e4, ↓reduceIte, b01_0, ite_not, if_true, if_false, Int.reduceLT, Int.reduceEq]
    · have e : lee A n a = a := av_no (fun z => q ⟨z.1, isL_iff.mp z.2⟩)
      rw [e]
      exact c_le0 hT ⟨a0, a1⟩ q
/-- a letter of NAMES -/
theorem c_chr {i : Int} (h : 0 ≤ i ∧ i < 98) : s_S X (d + 4) 303 [.ref 1002, .int (iI i)] (mm I J) = some ([.int (iI ((nmc nmz).getD i.toNat 0))], mm I J) := by
  obtain ⟨g1, g2, g3, g4⟩ := nmc_at ⟨i.toNat, by omega⟩
  simp only at g1 g2 g3 g4
  have e1 : s_S X (d + 3) 304 [.ref 1002] (mm I J) = some ([.int (iI 1)], mm I J) := by
    simp (disch := omega) only [v_304_1002, u_304_0, x_gets1, x_ifCond_eq, x_ifCond_eqb, x_aload0, x_fload1, x_ifCond_ne, x_ifCond_neb, x_sipush, x_goto, u_304_17, x_jsr, u_304_18, x_zret0, x_zret1, x_zretb, ↓reduceIte, b01_0, ite_not, if_true, if_false, Int.reduceLT, Int.reduceEq]
  have e2 : s_S X (d + 2) 305 [.int (iI i), .int (iI 98)] (mm I J) = some ([], mm I J) := by
    have k0 : ¬ i < 0 := by omega
    have k1 := h.2
    simp (disch := omega) only [v_305, u_305_0, x_iload0, x_iload1, x_gets2, x_call3_0, x_call3_1, x_call3_2, x_call3_3, x_call3_4, e_k_s, e_k_i, List.nil_append, List.cons_append, x_pop, x_return, v_307, u_307_0, x_ifCond_lt, x_if_icmp_lt, x_jsr, u_307_9, x_aload2, u_307_16, x_ireturn, v_307r, k0, k1, ↓reduceIte, b01_0, ite_not, if_true, if_false, Int.reduceLT, Int.reduceEq]
  have e3 := fun (m : e_M) => x_cret (X := X) (d := d + 2) (c := 306) (is := []) (ls := [.ref 1003, .int (iI i)]) (m := m) g2
  have e4 := fun (m : e_M) => x_cret (X := X) (d := d + 3) (c := 303) (is := []) (ls := [.ref 1002, .int (iI i)]) (m := m) g2
  simp (disch := omega) only [v_303_1002, u_303_0, x_aload0, x_call1_0, x_call1_1, x_call1_2, x_call1_3, x_call1_4, e_k_s, e_k_i, List.nil_append, List.cons_append, x_ifCond_eq, x_ifCond_eqb, x_fload0, x_iload1, x_call2_0, x_call2_1, x_call2_2, x_call2_3, x_call2_4, x_cret, u_303_16, v_306, u_306_0, x_fmul, x_sipush, x_iand, x_i2c, x_bal, e1, e2, g1, e3, e4, ↓reduceIte, b01_0, ite_not, if_true, if_false, Int.reduceLT, Int.reduceEq]
theorem c_len : s_S X (d + 2) 301 [.ref 1002] (mm I J) = some ([.int (iI 98)], mm I J) := by
  have e1 : s_S X (d + 1) 302 [.ref 1002] (mm I J) = some ([.int (iI 0)], mm I J) := by
    have e9 := fun (m : e_M) => x_bret (X := X) (d := d) (c := 302) (x := iI 0) (is := []) (ls := [.ref 1002]) (m := m) (by decide)
    simp (disch := omega) only [v_302_1002, u_302_0, x_gets1, x_ifCond_eq, x_ifCond_eqb, x_aload0, x_fload1, x_goto, u_302_13, x_sipush, x_jsr, u_302_14, x_bret, e9, ↓reduceIte, b01_0, ite_not, if_true, if_false, Int.reduceLT, Int.reduceEq]
  simp (disch := omega) only [v_301_1002, u_301_0, x_aload0, x_fload0, x_fmul, x_call1_0, x_call1_1, x_call1_2, x_call1_3, x_call1_4, e_k_s, e_k_i, List.nil_append, List.cons_append, x_ishr, x_ireturn, e1, ↓reduceIte, b01_0, ite_not, if_true, if_false, Int.reduceLT, Int.reduceEq]
  rfl
theorem c_rn (hT : tpd I A n) (hs : 0 ≤ s) (ha : s ≤ a ∧ a ≤ n) : ∀ (L : List Int) (i nm sm : Int) (x : Value), (nmc nmz).drop i.toNat = L → 0 ≤ i → i + L.length = 98 → (0 ≤ nm ∧ nm ≤ i) → (sm = -1 ∨ (s ≤ sm ∧ sm ≤ a)) → s_j X (d + 4) 29 48 [.ref 39, .int (iI nm), .int (iI sm), .int (iI i), x] [] (mm (rd I a s v du lf sg op w sz Cd Wt) J) = some ([.int (iI (nmf A s a L nm sm))], mm (rd I a s v du lf sg op w sz Cd Wt) J) := by
  obtain ⟨h1, h2, h3⟩ := hT
  have el := fun N => c_len (X := X) (d := d + 2) (I := N) (J := J)
  intro L
  induction L with
  | nil =>
    intro i nm sm x hd h0 hl hn hsm
    simp only [List.length_nil] at hl
    have hi : i = 98 := by omega
    subst hi
    rw [u_29_48]
    simp (disch := omega) only [v_29_39, u_29_0, x_aload0, f_39_3, f_39_2, x_if_icmp_ge, k_39_1, x_call1_0, x_call1_1, x_call1_2, x_call1_3, x_call1_4, e_k_s, e_k_i, List.nil_append, List.cons_append, x_ifCond_eq, x_ifCond_eqb, x_dup_i, x_dup_r, x_sipush, x_iadd, p_39_3, x_goto, u_29_39, x_istore1i, x_istore1r, x_istore1u, f_39_4, x_istore2i, x_istore2r, x_istore2u, x_istore3i, x_istore3r, x_istore3u, x_jsr, x_iload3, x_gets3, x_call2_0, x_call2_1, x_call2_2, x_call2_3, x_call2_4, x_istore4i, x_istore4r, x_istore4u, x_iload4, x_if_icmp_ne, x_iload2, x_iload1, x_ireturn, u_29_82, x_iinc1i, x_iinc1r, x_iinc1u, u_29_93, x_if_icmp_lt, x_iinc2i, x_iinc2r, x_iinc2u, u_29_126, u_29_128, x_iinc3i, x_iinc3r, x_iinc3u, u_29_134, ia_46, rd_39_3, rd_39_4, rd_39_5, rd_39_6, rd_39_9, rd_39_10, rd_39_11, rd_39_13, rd_40_6, rd_44, rd_47, rd_39_2, rd_39_7, rd_39_8, rd_40_5, rd_46, rd_41, rd_42, rd_43, rd_u_39_3, rd_u_39_4, rd_u_39_5, rd_u_39_6, rd_u_39_9, rd_u_39_10, rd_u_39_11, rd_u_39_13, rd_u_40_6, rd_u_44, rd_u_47, el, ↓reduceIte, b01_0, ite_not, if_true, if_false, Int.reduceLT, Int.reduceEq]
    rfl
  | cons c L ih =>
    intro i nm sm x hd h0 hl hn hsm
    rw [List.length_cons] at hl
    have hc : (nmc nmz).getD i.toNat 0 = c := by
      have := congrArg (fun q => q.getD 0 0) hd
      simpa [List.getD_eq_getElem?_getD, List.getElem?_drop] using this
    obtain ⟨g1, g2, g3, g4⟩ := nmc_at ⟨i.toNat, by omega⟩
    simp only at g3 g4
    rw [hc] at g3 g4
    have hd2 : (nmc nmz).drop (i + 1).toNat = L := by
      rw [show (i + 1).toNat = i.toNat + 1 by omega, ← List.drop_drop, hd]
      rfl
    have ec := fun N => c_chr (X := X) (d := d) (I := N) (J := J) (i := i) (by omega)
    rw [hc] at ec
    have hi98 : i < 98 := by omega
    by_cases q : c = 44
    · by_cases q2 : sm = a
      · have e0 : nmf A s a (c :: L) nm sm = nm := by
          show (if c = 44 then (if sm = a then nm else _) else _) = nm
          rw [if_pos q, if_pos q2]
        rw [e0, u_29_48]
        simp (disch := omega) only [v_29_39, u_29_0, x_aload0, f_39_3, f_39_2, x_if_icmp_ge, k_39_1, x_call1_0, x_call1_1, x_call1_2, x_call1_3, x_call1_4, e_k_s, e_k_i, List.nil_append, List.cons_append, x_ifCond_eq, x_ifCond_eqb, x_dup_i, x_dup_r, x_sipush, x_iadd, p_39_3, x_goto, u_29_39, x_istore1i, x_istore1r, x_istore1u, f_39_4, x_istore2i, x_istore2r, x_istore2u, x_istore3i, x_istore3r, x_istore3u, x_jsr, x_iload3, x_gets3, x_call2_0, x_call2_1, x_call2_2, x_call2_3, x_call2_4, x_istore4i, x_istore4r, x_istore4u, x_iload4, x_if_icmp_ne, x_iload2, x_iload1, x_ireturn, u_29_82, x_iinc1i, x_iinc1r, x_iinc1u, u_29_93, x_if_icmp_lt, x_iinc2i, x_iinc2r, x_iinc2u, u_29_126, u_29_128, x_iinc3i, x_iinc3r, x_iinc3u, u_29_134, ia_46, rd_39_3, rd_39_4, rd_39_5, rd_39_6, rd_39_9, rd_39_10, rd_39_11, rd_39_13, rd_40_6, rd_44, rd_47, rd_39_2, rd_39_7, rd_39_8, rd_40_5, rd_46, rd_41, rd_42, rd_43, rd_u_39_3, rd_u_39_4, rd_u_39_5, rd_u_39_6, rd_u_39_9, rd_u_39_10, rd_u_39_11, rd_u_39_13, rd_u_40_6, rd_u_44, rd_u_47, el, ec, hi98, q, q2, ↓reduceIte, b01_0, ite_not, if_true, if_false, Int.reduceLT, Int.reduceEq]
      · have e0 : nmf A s a (c :: L) nm sm = nmf A s a L (nm + 1) s := by
          show (if c = 44 then (if sm = a then nm else _) else _) = _
          rw [if_pos q, if_neg q2]
        rw [e0, ← ih (i + 1) (nm + 1) s (.int (iI c)) hd2 (by omega) (by omega) (by omega) (by omega)]
        conv => lhs; rw [u_29_48]
        simp (disch := omega) only [v_29_39, u_29_0, x_aload0, f_39_3, f_39_2, x_if_icmp_ge, k_39_1, x_call1_0, x_call1_1, x_call1_2, x_call1_3, x_call1_4, e_k_s, e_k_i, List.nil_append, List.cons_append, x_ifCond_eq, x_ifCond_eqb, x_dup_i, x_dup_r, x_sipush, x_iadd, p_39_3, x_goto, u_29_39, x_istore1i, x_istore1r, x_istore1u, f_39_4, x_istore2i, x_istore2r, x_istore2u, x_istore3i, x_istore3r, x_istore3u, x_jsr, x_iload3, x_gets3, x_call2_0, x_call2_1, x_call2_2, x_call2_3, x_call2_4, x_istore4i, x_istore4r, x_istore4u, x_iload4, x_if_icmp_ne, x_iload2, x_iload1, x_ireturn, u_29_82, x_iinc1i, x_iinc1r, x_iinc1u, u_29_93, x_if_icmp_lt, x_iinc2i, x_iinc2r, x_iinc2u, u_29_126, u_29_128, x_iinc3i, x_iinc3r, x_iinc3u, u_29_134, ia_46, rd_39_3, rd_39_4, rd_39_5, rd_39_6, rd_39_9, rd_39_10, rd_39_11, rd_39_13, rd_40_6, rd_44, rd_47, rd_39_2, rd_39_7, rd_39_8, rd_40_5, rd_46, rd_41, rd_42, rd_43, rd_u_39_3, rd_u_39_4, rd_u_39_5, rd_u_39_6, rd_u_39_9, rd_u_39_10, rd_u_39_11, rd_u_39_13, rd_u_40_6, rd_u_44, rd_u_47, el, ec, hi98, q, q2, ↓reduceIte, b01_0, ite_not, if_true, if_false, Int.reduceLT, Int.reduceEq]
    · by_cases q2 : (s ≤ sm ∧ sm < a) ∧ A sm = c
      · have e0 : nmf A s a (c :: L) nm sm = nmf A s a L nm (sm + 1) := by
          show (if c = 44 then _ else nmf A s a L nm (if _ then _ else _)) = _
          rw [if_neg q, if_pos q2]
        obtain ⟨e1, e2, e3⟩ := h3 sm (by omega) (by omega)
        have k1 : ¬ sm < s := by omega
        have k2 := q2.1.2
        have k3 := q2.2
        rw [e0, ← ih (i + 1) nm (sm + 1) (.int (iI c)) hd2 (by omega) (by omega) (by omega) (by omega)]
        conv => lhs; rw [u_29_48]
        simp (disch := omega) only [v_29_39, u_29_0, x_aload0, f_39_3, f_39_2, x_if_icmp_ge, k_39_1, x_call1_0, x_call1_1, x_call1_2, x_call1_3, x_call1_4, e_k_s, e_k_i, List.nil_append, List.cons_append, x_ifCond_eq, x_ifCond_eqb, x_dup_i, x_dup_r, x_sipush, x_iadd, p_39_3, x_goto, u_29_39, x_istore1i, x_istore1r, x_istore1u, f_39_4, x_istore2i, x_istore2r, x_istore2u, x_istore3i, x_istore3r, x_istore3u, x_jsr, x_iload3, x_gets3, x_call2_0, x_call2_1, x_call2_2, x_call2_3, x_call2_4, x_istore4i, x_istore4r, x_istore4u, x_iload4, x_if_icmp_ne, x_iload2, x_iload1, x_ireturn, u_29_82, x_iinc1i, x_iinc1r, x_iinc1u, u_29_93, x_if_icmp_lt, x_iinc2i, x_iinc2r, x_iinc2u, u_29_126, u_29_128, x_iinc3i, x_iinc3r, x_iinc3u, u_29_134, ia_46, rd_39_3, rd_39_4, rd_39_5, rd_39_6, rd_39_9, rd_39_10, rd_39_11, rd_39_13, rd_40_6, rd_44, rd_47, rd_39_2, rd_39_7, rd_39_8, rd_40_5, rd_46, rd_41, rd_42, rd_43, rd_u_39_3, rd_u_39_4, rd_u_39_5, rd_u_39_6, rd_u_39_9, rd_u_39_10, rd_u_39_11, rd_u_39_13, rd_u_40_6, rd_u_44, rd_u_47, el, ec, hi98, q, k1, k2, e1, k3, ↓reduceIte, b01_0, ite_not, if_true, if_false, Int.reduceLT, Int.reduceEq]
      · have e0 : nmf A s a (c :: L) nm sm = nmf A s a L nm (-1) := by
          show (if c = 44 then _ else nmf A s a L nm (if _ then _ else _)) = _
          rw [if_neg q, if_neg q2]
        rw [e0, ← ih (i + 1) nm (-1) (.int (iI c)) hd2 (by omega) (by omega) (by omega) (by omega)]
        conv => lhs; rw [u_29_48]
        by_cases k1 : sm < s
        · simp (disch := omega) only [v_29_39, u_29_0, x_aload0, f_39_3, f_39_2, x_if_icmp_ge, k_39_1, x_call1_0, x_call1_1, x_call1_2, x_call1_3, x_call1_4, e_k_s, e_k_i, List.nil_append, List.cons_append, x_ifCond_eq, x_ifCond_eqb, x_dup_i, x_dup_r, x_sipush, x_iadd, p_39_3, x_goto, u_29_39, x_istore1i, x_istore1r, x_istore1u, f_39_4, x_istore2i, x_istore2r, x_istore2u, x_istore3i, x_istore3r, x_istore3u, x_jsr, x_iload3, x_gets3, x_call2_0, x_call2_1, x_call2_2, x_call2_3, x_call2_4, x_istore4i, x_istore4r, x_istore4u, x_iload4, x_if_icmp_ne, x_iload2, x_iload1, x_ireturn, u_29_82, x_iinc1i, x_iinc1r, x_iinc1u, u_29_93, x_if_icmp_lt, x_iinc2i, x_iinc2r, x_iinc2u, u_29_126, u_29_128, x_iinc3i, x_iinc3r, x_iinc3u, u_29_134, ia_46, rd_39_3, rd_39_4, rd_39_5, rd_39_6, rd_39_9, rd_39_10, rd_39_11, rd_39_13, rd_40_6, rd_44, rd_47, rd_39_2, rd_39_7, rd_39_8, rd_40_5, rd_46, rd_41, rd_42, rd_43, rd_u_39_3, rd_u_39_4, rd_u_39_5, rd_u_39_6, rd_u_39_9, rd_u_39_10, rd_u_39_11, rd_u_39_13, rd_u_40_6, rd_u_44, rd_u_47, el, ec, hi98, q, k1, ↓reduceIte, b01_0, ite_not, if_true, if_false, Int.reduceLT, Int.reduceEq]
        · by_cases k2 : sm < a
          · obtain ⟨e1, e2, e3⟩ := h3 sm (by omega) (by omega)
            have k3 : ¬ A sm = c := fun y => q2 ⟨⟨by omega, k2⟩, y⟩
            simp (disch := omega) only [v_29_39, u_29_0, x_aload0, f_39_3, f_39_2, x_if_icmp_ge, k_39_1, x_call1_0, x_call1_1, x_call1_2, x_call1_3, x_call1_4, e_k_s, e_k_i, List.nil_append, List.cons_append, x_ifCond_eq, x_ifCond_eqb, x_dup_i, x_dup_r, x_sipush, x_iadd, p_39_3, x_goto, u_29_39, x_istore1i, x_istore1r, x_istore1u, f_39_4, x_istore2i, x_istore2r, x_istore2u, x_istore3i, x_istore3r, x_istore3u, x_jsr, x_iload3, x_gets3, x_call2_0, x_call2_1, x_call2_2, x_call2_3, x_call2_4, x_istore4i, x_istore4r, x_istore4u, x_iload4, x_if_icmp_ne, x_iload2, x_iload1, x_ireturn, u_29_82, x_iinc1i, x_iinc1r, x_iinc1u, u_29_93, x_if_icmp_lt, x_iinc2i, x_iinc2r, x_iinc2u, u_29_126, u_29_128, x_iinc3i, x_iinc3r, x_iinc3u, u_29_134, ia_46, rd_39_3, rd_39_4, rd_39_5, rd_39_6, rd_39_9, rd_39_10, rd_39_11, rd_39_13, rd_40_6, rd_44, rd_47, rd_39_2, rd_39_7, rd_39_8, rd_40_5, rd_46, rd_41, rd_42, rd_43, rd_u_39_3, rd_u_39_4, rd_u_39_5, rd_u_39_6, rd_u_39_9, rd_u_39_10, rd_u_39_11, rd_u_39_13, rd_u_40_6, rd_u_44, rd_u_47, el, ec, hi98, q, k1, k2, e1, k3, ↓reduceIte, b01_0, ite_not, if_true, if_false, Int.reduceLT, Int.reduceEq]
          · simp (disch := omega) only [v_29_39, u_29_0, x_aload0, f_39_3, f_39_2, x_if_icmp_ge, k_39_1, x_call1_0, x_call1_1, x_call1_2, x_call1_3, x_call1_4, e_k_s, e_k_i, List.nil_append, List.cons_append, x_ifCond_eq, x_ifCond_eqb, x_dup_i, x_dup_r, x_sipush, x_iadd, p_39_3, x_goto, u_29_39, x_istore1i, x_istore1r, x_istore1u, f_39_4, x_istore2i, x_istore2r, x_istore2u, x_istore3i, x_istore3r, x_istore3u, x_jsr, x_iload3, x_gets3, x_call2_0, x_call2_1, x_call2_2, x_call2_3, x_call2_4, x_istore4i, x_istore4r, x_istore4u, x_iload4, x_if_icmp_ne, x_iload2, x_iload1, x_ireturn, u_29_82, x_iinc1i, x_iinc1r, x_iinc1u, u_29_93, x_if_icmp_lt, x_iinc2i, x_iinc2r, x_iinc2u, u_29_126, u_29_128, x_iinc3i, x_iinc3r, x_iinc3u, u_29_134, ia_46, rd_39_3, rd_39_4, rd_39_5, rd_39_6, rd_39_9, rd_39_10, rd_39_11, rd_39_13, rd_40_6, rd_44, rd_47, rd_39_2, rd_39_7, rd_39_8, rd_40_5, rd_46, rd_41, rd_42, rd_43, rd_u_39_3, rd_u_39_4, rd_u_39_5, rd_u_39_6, rd_u_39_9, rd_u_39_10, rd_u_39_11, rd_u_39_13, rd_u_40_6, rd_u_44, rd_u_47, el, ec, hi98, q, k1, k2, ↓reduceIte, b01_0, ite_not, if_true, if_false, Int.reduceLT, Int.reduceEq]
theorem c_name (hT : tpd I A n) (hs : 0 ≤ s ∧ s ≤ n) : s_S X (d + 5) 29 [.ref 39] (mm (rd I s s v du lf sg op w sz Cd Wt) J) = some ([.int (iI (nix nmz 0 (wln A (lee A n s - s).toNat s)))], mm (rd I (lee A n s) s v du lf sg op w sz Cd Wt) J) := by
  have h1 : s ≤ lee A n s := av_ge (P := isL) (A := A) (n := n) (p := s)
  have h2 : lee A n s ≤ n := av_le (P := isL) (A := A) hs.2
  have e1 := c_le (X := X) (d := d + 3) (J := J) (s := s) (v := v) (du := du) (lf := lf) (sg := sg) (op := op) (w := w) (sz := sz) (Cd := Cd) (Wt := Wt) (x := .retAddr 0) (y := .retAddr 0) (z := .retAddr 0) (w4 := .retAddr 0) hT (n - s).toNat s hs.1 hs.2 (by omega)
  have e2 := c_rn (X := X) (d := d) (J := J) (s := s) (a := lee A n s) (v := v) (du := du) (lf := lf) (sg := sg) (op := op) (w := w) (sz := sz) (Cd := Cd) (Wt := Wt) hT hs.1 ⟨h1, h2⟩ (nmc nmz) 0 0 s (.retAddr 0) rfl (by decide) (by decide) (by decide) (Or.inr ⟨Int.le_refl s, h1⟩)
  rw [nmf_all hs.1 h1 nmz 0 nmz_44] at e2
  simp (disch := omega) only [v_29_39, x_aload0, f_39_3, f_39_2, x_if_icmp_ge, k_39_1, x_call1_0, x_call1_1, x_call1_2, x_call1_3, x_call1_4, e_k_s, e_k_i, List.nil_append, List.cons_append, x_ifCond_eq, x_ifCond_eqb, x_dup_i, x_dup_r, x_sipush, x_iadd, p_39_3, x_goto, u_29_39, x_istore1i, x_istore1r, x_istore1u, f_39_4, x_istore2i, x_istore2r, x_istore2u, x_istore3i, x_istore3r, x_istore3u, x_jsr, x_iload3, x_gets3, x_call2_0, x_call2_1, x_call2_2, x_call2_3, x_call2_4, x_istore4i, x_istore4r, x_istore4u, x_iload4, x_if_icmp_ne, x_iload2, x_iload1, x_ireturn, u_29_82, x_iinc1i, x_iinc1r, x_iinc1u, u_29_93, x_if_icmp_lt, x_iinc2i, x_iinc2r, x_iinc2u, u_29_126, u_29_128, x_iinc3i, x_iinc3r, x_iinc3u, u_29_134, ia_46, rd_39_3, rd_39_4, rd_39_5, rd_39_6, rd_39_9, rd_39_10, rd_39_11, rd_39_13, rd_40_6, rd_44, rd_47, rd_39_2, rd_39_7, rd_39_8, rd_40_5, rd_46, rd_41, rd_42, rd_43, rd_u_39_3, rd_u_39_4, rd_u_39_5, rd_u_39_6, rd_u_39_9, rd_u_39_10, rd_u_39_11, rd_u_39_13, rd_u_40_6, rd_u_44, rd_u_47, e1, e2, ↓reduceIte, b01_0, ite_not, if_true, if_false, Int.reduceLT, Int.reduceEq]
/-- a number -/
theorem nvn_s {b p v : Int} {A : Int → Int} {f : Nat} : nvn A b (f + 1) p v = nvn A b f (p + 1) (if p - b < 4 then 10 * v + A p - 48 else v) := rfl
theorem c_dg0 (hT : tpd I A n) (ha : 0 ≤ a ∧ a ≤ n) (q : ¬ (a < n ∧ 48 ≤ A a ∧ A a ≤ 57)) : s_j X (d + 1) 31 5 [.ref 39] [] (mm (rd I a s v du lf sg op w sz Cd Wt) J) = s_j X (d + 1) 31 81 [.ref 39] [] (mm (rd I a s v du lf sg op w sz Cd Wt) J) := by
  obtain ⟨h1, h2, h3⟩ := hT
  rw [u_31_5]
  by_cases z : a < n
  · obtain ⟨e1, e2, e3⟩ := h3 a ha.1 z
    have q2 : ¬ (48 ≤ A a ∧ A a ≤ 57) := fun y => q ⟨z, y⟩
    have e4 := fun N => c_isd0 (X := X) (d := d) (I := N) (J := J) q2 ⟨e2, e3⟩
    simp (disch := omega) only [v_31_39, u_31_0, x_aload0, x_sipush, p_39_5, x_jsr, f_39_3, f_39_2, x_if_icmp_ge, k_39_1, x_call1_0, x_call1_1, x_call1_2, x_call1_3, x_call1_4, e_k_s, e_k_i, List.nil_append, List.cons_append, x_ifCond_eq, x_ifCond_eqb, f_39_4, x_isub, f_39_5, x_imul, x_iadd, u_31_68, x_dup_i, x_dup_r, p_39_3, x_goto, x_if_icmp_le, u_31_99, u_31_101, x_ireturn, ia_46, rd_39_3, rd_39_4, rd_39_5, rd_39_6, rd_39_9, rd_39_10, rd_39_11, rd_39_13, rd_40_6, rd_44, rd_47, rd_39_2, rd_39_7, rd_39_8, rd_40_5, rd_46, rd_41, rd_42, rd_43, rd_u_39_3, rd_u_39_4, rd_u_39_5, rd_u_39_6, rd_u_39_9, rd_u_39_10, rd_u_39_11, rd_u_39_13, rd_u_40_6, rd_u_44, rd_u_47, h2, z, e1, e4, ↓reduceIte, b01_0, ite_not, if_true, if_false, Int.reduceLT, Int.reduceEq]
  · simp (disch := omega) only [v_31_39, u_31_0, x_aload0, x_sipush, p_39_5, x_jsr, f_39_3, f_39_2, x_if_icmp_ge, k_39_1, x_call1_0, x_call1_1, x_call1_2, x_call1_3, x_call1_4, e_k_s, e_k_i, List.nil_append, List.cons_append, x_ifCond_eq, x_ifCond_eqb, f_39_4, x_isub, f_39_5, x_imul, x_iadd, u_31_68, x_dup_i, x_dup_r, p_39_3, x_goto, x_if_icmp_le, u_31_99, u_31_101, x_ireturn, ia_46, rd_39_3, rd_39_4, rd_39_5, rd_39_6, rd_39_9, rd_39_10, rd_39_11, rd_39_13, rd_40_6, rd_44, rd_47, rd_39_2, rd_39_7, rd_39_8, rd_40_5, rd_46, rd_41, rd_42, rd_43, rd_u_39_3, rd_u_39_4, rd_u_39_5, rd_u_39_6, rd_u_39_9, rd_u_39_10, rd_u_39_11, rd_u_39_13, rd_u_40_6, rd_u_44, rd_u_47, h2, z, ↓reduceIte, b01_0, ite_not, if_true, if_false, Int.reduceLT, Int.reduceEq]
theorem c_dg (hT : tpd I A n) (hs : 0 ≤ s) : ∀ (f : Nat) (a v : Int), s ≤ a → a ≤ n → n - a ≤ f → s_j X (d + 1) 31 5 [.ref 39] [] (mm (rd I a s v du lf sg op w sz Cd Wt) J) = s_j X (d + 1) 31 81 [.ref 39] [] (mm (rd I (dge A n a) s (nvn A s (dge A n a - a).toNat a v) du lf sg op w sz Cd Wt) J) := by
  have hT' := hT
  obtain ⟨h1, h2, h3⟩ := hT'
  have neg : ∀ (a v : Int), s ≤ a → a ≤ n → ¬ (a < n ∧ 48 ≤ A a ∧ A a ≤ 57) → s_j X (d + 1) 31 5 [.ref 39] [] (mm (rd I a s v du lf sg op w sz Cd Wt) J) = s_j X (d + 1) 31 81 [.ref 39] [] (mm (rd I (dge A n a) s (nvn A s (dge A n a - a).toNat a v) du lf sg op w sz Cd Wt) J) := by
    intro a v a0 a1 q
    have e : dge A n a = a := av_no (fun z => q ⟨z.1, isD_iff.mp z.2⟩)
    rw [e, Int.sub_self]
    exact c_dg0 hT ⟨by omega, a1⟩ q
  intro f
  induction f with
  | zero =>
    intro a v a0 a1 hf
    exact neg a v a0 a1 (fun z => by omega)
  | succ f ih =>
    intro a v a0 a1 hf
    by_cases q : a < n ∧ 48 ≤ A a ∧ A a ≤ 57
    · have e : dge A n a = dge A n (a + 1) := av_go q.1 (isD_iff.mpr q.2)
      have h5 := av_ge (P := isD) (A := A) (n := n) (p := a + 1)
      obtain ⟨e1, e2, e3⟩ := h3 a (by omega) q.1
      have q1 := q.1
      have e4 := fun N => c_isd1 (X := X) (d := d) (I := N) (J := J) q.2
      have e5 : (dge A n (a + 1) - a).toNat = (dge A n (a + 1) - (a + 1)).toNat + 1 := by
        unfold dge
        omega
      rw [e, e5, nvn_s, ← ih (a + 1) _ (by omega) (by omega) (by omega)]
      conv => lhs; rw [u_31_5]
      by_cases q3 : a - s < 4
      · simp (disch := omega) only [v_31_39, u_31_0, x_aload0, x_sipush, p_39_5, x_jsr, f_39_3, f_39_2, x_if_icmp_ge, k_39_1, x_call1_0, x_call1_1, x_call1_2, x_call1_3, x_call1_4, e_k_s, e_k_i, List.nil_append, List.cons_append, x_ifCond_eq, x_ifCond_eqb, f_39_4, x_isub, f_39_5, x_imul, x_iadd, u_31_68, x_dup_i, x_dup_r, p_39_3, x_goto, x_if_icmp_le, u_31_99, u_31_101, x_ireturn, ia_46, rd_39_3, rd_39_4, rd_39_5, rd_39_6, rd_39_9, rd_39_10, rd_39_11, rd_39_13, rd_40_6, rd_44, rd_47, rd_39_2, rd_39_7, rd_39_8, rd_40_5, rd_46, rd_41, rd_42, rd_43, rd_u_39_3, rd_u_39_4, rd_u_39_5, rd_u_39_6, rd_u_39_9, rd_u_39_10, rd_u_39_11, rd_u_39_13, rd_u_40_6, rd_u_44, rd_u_47, h2, q1, e1, e4, q3, ↓reduceIte, b01_0, ite_not, if_true, if_false, Int.reduceLT, Int.reduceEq]
      · simp (disch := omega) only [v_31_39, u_31_0, x_aload0, x_sipush, p_39_5, x_jsr, f_39_3, f_39_2, x_if_icmp_ge, k_39_1, x_call1_0, x_call1_1, x_call1_2, x_call1_3, x_call1_4, e_k_s, e_k_i, List.nil_append, List.cons_append, x_ifCond_eq, x_ifCond_eqb, f_39_4, x_isub, f_39_5, x_imul, x_iadd, u_31_68, x_dup_i, x_dup_r, p_39_3, x_goto, x_if_icmp_le, u_31_99, u_31_101, x_ireturn, ia_46, rd_39_3, rd_39_4, rd_39_5, rd_39_6, rd_39_9, rd_39_10, rd_39_11, rd_39_13, rd_40_6, rd_44, rd_47, rd_39_2, rd_39_7, rd_39_8, rd_40_5, rd_46, rd_41, rd_42, rd_43, rd_u_39_3, rd_u_39_4, rd_u_39_5, rd_u_39_6, rd_u_39_9, rd_u_39_10, rd_u_39_11, rd_u_39_13, rd_u_40_6, rd_u_44, rd_u_47, h2, q1, e1, e4, q3, ↓reduceIte, b01_0, ite_not, if_true, if_false, Int.reduceLT, Int.reduceEq]
    · exact neg a v a0 a1 q
theorem c_num (hT : tpd I A n) (hs : 0 ≤ s ∧ s ≤ n) : s_S X (d + 2) 31 [.ref 39] (mm (rd I s s v du lf sg op w sz Cd Wt) J) = some ([.int (iI (if 4 < dge A n s - s then 19 else 18))], mm (rd I (dge A n s) s (vl A n s) du lf sg op w sz Cd Wt) J) := by
  have hn := hT.1
  have h1 := av_ge (P := isD) (A := A) (n := n) (p := s)
  have h2 : dge A n s ≤ n := av_le (P := isD) (A := A) hs.2
  have h1 : s ≤ dge A n s := h1
  have e1 := c_dg (X := X) (d := d) (J := J) (s := s) (du := du) (lf := lf) (sg := sg) (op := op) (w := w) (sz := sz) (Cd := Cd) (Wt := Wt) hT hs.1 (n - s).toNat s 0 (Int.le_refl s) hs.2 (by omega)
  unfold vl
  by_cases q : 4 < dge A n s - s
  · rw [if_pos q]
    simp (disch := omega) only [v_31_39, u_31_0, x_aload0, x_sipush, p_39_5, x_jsr, f_39_3, f_39_2, x_if_icmp_ge, k_39_1, x_call1_0, x_call1_1, x_call1_2, x_call1_3, x_call1_4, e_k_s, e_k_i, List.nil_append, List.cons_append, x_ifCond_eq, x_ifCond_eqb, f_39_4, x_isub, f_39_5, x_imul, x_iadd, u_31_68, x_dup_i, x_dup_r, p_39_3, x_goto, u_31_81, x_if_icmp_le, u_31_99, u_31_101, x_ireturn, ia_46, rd_39_3, rd_39_4, rd_39_5, rd_39_6, rd_39_9, rd_39_10, rd_39_11, rd_39_13, rd_40_6, rd_44, rd_47, rd_39_2, rd_39_7, rd_39_8, rd_40_5, rd_46, rd_41, rd_42, rd_43, rd_u_39_3, rd_u_39_4, rd_u_39_5, rd_u_39_6, rd_u_39_9, rd_u_39_10, rd_u_39_11, rd_u_39_13, rd_u_40_6, rd_u_44, rd_u_47, e1, q, ↓reduceIte, b01_0, ite_not, if_true, if_false, Int.reduceLT, Int.reduceEq]
  · rw [if_neg q]
    simp (disch := omega) only [v_31_39, u_31_0, x_aload0, x_sipush, p_39_5, x_jsr, f_39_3, f_39_2, x_if_icmp_ge, k_39_1, x_call1_0, x_call1_1, x_call1_2, x_call1_3, x_call1_4, e_k_s, e_k_i, List.nil_append, List.cons_append, x_ifCond_eq, x_ifCond_eqb, f_39_4, x_isub, f_39_5, x_imul, x_iadd, u_31_68, x_dup_i, x_dup_r, p_39_3, x_goto, u_31_81, x_if_icmp_le, u_31_99, u_31_101, x_ireturn, ia_46, rd_39_3, rd_39_4, rd_39_5, rd_39_6, rd_39_9, rd_39_10, rd_39_11, rd_39_13, rd_40_6, rd_44, rd_47, rd_39_2, rd_39_7, rd_39_8, rd_40_5, rd_46, rd_41, rd_42, rd_43, rd_u_39_3, rd_u_39_4, rd_u_39_5, rd_u_39_6, rd_u_39_9, rd_u_39_10, rd_u_39_11, rd_u_39_13, rd_u_40_6, rd_u_44, rd_u_47, e1, q, ↓reduceIte, b01_0, ite_not, if_true, if_false, Int.reduceLT, Int.reduceEq]
/-- a word -/
theorem c_next (hT : tpd I A n) (ha : 0 ≤ a ∧ a ≤ n) : ∃ v', s_S X (d + 6) 27 [.ref 39] (mm (rd I a s v du lf sg op w sz Cd Wt) J) = some ([.int (iI (wd A n (sk A n a)))], mm (rd I (en A n (sk A n a)) (sk A n a) v' du lf sg op w sz Cd Wt) J) ∧ (wd A n (sk A n a) = 18 → v' = vl A n (sk A n a)) := by
  have hT' := hT
  obtain ⟨h1, h2, h3⟩ := hT'
  have e0 := c_sk (X := X) (d := d + 5) (J := J) (s := s) (v := v) (du := du) (lf := lf) (sg := sg) (op := op) (w := w) (sz := sz) (Cd := Cd) (Wt := Wt) (x := .retAddr 0) hT (n - a).toNat a ha.1 ha.2 (by omega)
  have b0 : a ≤ sk A n a := av_ge
  have b1 : sk A n a ≤ n := av_le ha.2
  generalize sk A n a = b at e0 b0 b1 ⊢
  unfold wd en
  by_cases c1 : n ≤ b
  · simp only [if_pos c1]
    have hb : ¬ b < n := by omega
    refine ⟨v, ?_, fun z => by omega⟩
    simp (disch := omega) only [v_27_39, x_aload0, f_39_3, f_39_2, x_if_icmp_ge, k_39_1, x_sipush, x_if_icmp_ne, x_dup_i, x_dup_r, x_iadd, p_39_3, x_goto, u_27_38, p_39_4, x_if_icmp_lt, x_ireturn, u_27_60, x_istore1i, x_istore1r, x_istore1u, x_iload1, x_call1_0, x_call1_1, x_call1_2, x_call1_3, x_call1_4, e_k_s, e_k_i, List.nil_append, List.cons_append, x_ifCond_eq, x_ifCond_eqb, u_27_82, u_27_94, ia_46, rd_39_3, rd_39_4, rd_39_5, rd_39_6, rd_39_9, rd_39_10, rd_39_11, rd_39_13, rd_40_6, rd_44, rd_47, rd_39_2, rd_39_7, rd_39_8, rd_40_5, rd_46, rd_41, rd_42, rd_43, rd_u_39_3, rd_u_39_4, rd_u_39_5, rd_u_39_6, rd_u_39_9, rd_u_39_10, rd_u_39_11, rd_u_39_13, rd_u_40_6, rd_u_44, rd_u_47, e0, h2, hb, ↓reduceIte, b01_0, ite_not, if_true, if_false, Int.reduceLT, Int.reduceEq]
  · simp only [if_neg c1]
    have hb : b < n := by omega
    obtain ⟨e1, e2, e3⟩ := h3 b (by omega) hb
    by_cases c2 : isL (A b) = true
    · simp only [if_pos c2]
      have e4 := fun N => c_isl1 (X := X) (d := d + 4) (I := N) (J := J) (isL_iff.mp c2)
      have e5 := c_name (X := X) (d := d) (J := J) (v := v) (du := du) (lf := lf) (sg := sg) (op := op) (w := w) (sz := sz) (Cd := Cd) (Wt := Wt) hT (s := b) ⟨by omega, by omega⟩
      refine ⟨v, ?_, fun z => ?_⟩
      · simp (disch := omega) only [v_27_39, x_aload0, f_39_3, f_39_2, x_if_icmp_ge, k_39_1, x_sipush, x_if_icmp_ne, x_dup_i, x_dup_r, x_iadd, p_39_3, x_goto, u_27_38, p_39_4, x_if_icmp_lt, x_ireturn, u_27_60, x_istore1i, x_istore1r, x_istore1u, x_iload1, x_call1_0, x_call1_1, x_call1_2, x_call1_3, x_call1_4, e_k_s, e_k_i, List.nil_append, List.cons_append, x_ifCond_eq, x_ifCond_eqb, u_27_82, u_27_94, ia_46, rd_39_3, rd_39_4, rd_39_5, rd_39_6, rd_39_9, rd_39_10, rd_39_11, rd_39_13, rd_40_6, rd_44, rd_47, rd_39_2, rd_39_7, rd_39_8, rd_40_5, rd_46, rd_41, rd_42, rd_43, rd_u_39_3, rd_u_39_4, rd_u_39_5, rd_u_39_6, rd_u_39_9, rd_u_39_10, rd_u_39_11, rd_u_39_13, rd_u_40_6, rd_u_44, rd_u_47, e0, h2, hb, e1, e4, e5, ↓reduceIte, b01_0, ite_not, if_true, if_false, Int.reduceLT, Int.reduceEq]
      · exfalso
        have : ∀ (N : List (List Int)) (k : Int) (L : List Int), nix N k L = 19 ∨ (k ≤ nix N k L ∧ nix N k L < k + N.length) := by
          intro N
          induction N with
          | nil => intro k L; exact Or.inl rfl
          | cons x N ih =>
            intro k L
            have e : nix (x :: N) k L = if L = x then k else nix N (k + 1) L := rfl
            rw [e, List.length_cons]
            split
            · omega
            · have := ih (k + 1) L
              omega
        have := this nmz 0 (wln A (lee A n b - b).toNat b)
        have l18 : nmz.length = 18 := rfl
        omega
    · simp only [if_neg c2]
      have e4 := fun N => c_isl0 (X := X) (d := d + 4) (I := N) (J := J) (fun q => c2 (isL_iff.mpr q)) ⟨e2, e3⟩
      by_cases c3 : isD (A b) = true
      · simp only [if_pos c3]
        have e6 := fun N => c_isd1 (X := X) (d := d + 4) (I := N) (J := J) (isD_iff.mp c3)
        have e5 := c_num (X := X) (d := d + 3) (J := J) (v := v) (du := du) (lf := lf) (sg := sg) (op := op) (w := w) (sz := sz) (Cd := Cd) (Wt := Wt) hT (s := b) ⟨by omega, by omega⟩
        refine ⟨vl A n b, ?_, fun _ => rfl⟩
        simp (disch := omega) only [v_27_39, x_aload0, f_39_3, f_39_2, x_if_icmp_ge, k_39_1, x_sipush, x_if_icmp_ne, x_dup_i, x_dup_r, x_iadd, p_39_3, x_goto, u_27_38, p_39_4, x_if_icmp_lt, x_ireturn, u_27_60, x_istore1i, x_istore1r, x_istore1u, x_iload1, x_call1_0, x_call1_1, x_call1_2, x_call1_3, x_call1_4, e_k_s, e_k_i, List.nil_append, List.cons_append, x_ifCond_eq, x_ifCond_eqb, u_27_82, u_27_94, ia_46, rd_39_3, rd_39_4, rd_39_5, rd_39_6, rd_39_9, rd_39_10, rd_39_11, rd_39_13, rd_40_6, rd_44, rd_47, rd_39_2, rd_39_7, rd_39_8, rd_40_5, rd_46, rd_41, rd_42, rd_43, rd_u_39_3, rd_u_39_4, rd_u_39_5, rd_u_39_6, rd_u_39_9, rd_u_39_10, rd_u_39_11, rd_u_39_13, rd_u_40_6, rd_u_44, rd_u_47, e0, h2, hb, e1, e4, e5, e6, ↓reduceIte, b01_0, ite_not, if_true, if_false, Int.reduceLT, Int.reduceEq]
      · simp only [if_neg c3]
        have e6 := fun N => c_isd0 (X := X) (d := d + 4) (I := N) (J := J) (fun q => c3 (isD_iff.mpr q)) ⟨e2, e3⟩
        have e5 := fun N => c_sgw (X := X) (d := d + 4) (I := N) (J := J) (c := A b) ⟨e2, e3⟩
        refine ⟨v, ?_, fun z => ?_⟩
        · simp (disch := omega) only [v_27_39, x_aload0, f_39_3, f_39_2, x_if_icmp_ge, k_39_1, x_sipush, x_if_icmp_ne, x_dup_i, x_dup_r, x_iadd, p_39_3, x_goto, u_27_38, p_39_4, x_if_icmp_lt, x_ireturn, u_27_60, x_istore1i, x_istore1r, x_istore1u, x_iload1, x_call1_0, x_call1_1, x_call1_2, x_call1_3, x_call1_4, e_k_s, e_k_i, List.nil_append, List.cons_append, x_ifCond_eq, x_ifCond_eqb, u_27_82, u_27_94, ia_46, rd_39_3, rd_39_4, rd_39_5, rd_39_6, rd_39_9, rd_39_10, rd_39_11, rd_39_13, rd_40_6, rd_44, rd_47, rd_39_2, rd_39_7, rd_39_8, rd_40_5, rd_46, rd_41, rd_42, rd_43, rd_u_39_3, rd_u_39_4, rd_u_39_5, rd_u_39_6, rd_u_39_9, rd_u_39_10, rd_u_39_11, rd_u_39_13, rd_u_40_6, rd_u_44, rd_u_47, e0, h2, hb, e1, e4, e5, e6, ↓reduceIte, b01_0, ite_not, if_true, if_false, Int.reduceLT, Int.reduceEq]
        · have := sgw_b (c := A b)
          omega
end
