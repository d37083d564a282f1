/-! THE MODEL reads a word -/
/-- the tape of the model -/
def tpm (M : Nat → Int → Int) (A : Int → Int) (n : Int) : Prop := (0 ≤ n ∧ n ≤ 200) ∧ M 69 6 = n ∧ (∀ i, 0 ≤ i → i < n → M 74 i = A i ∧ 0 ≤ A i ∧ A i ≤ 255) ∧ LT M
section
variable {X : e_X} {d : Nat} {M J : Nat → Int → Int} {a b t v op st : Int} {Sp : Int → Int} {A : Int → Int} {n : Int}
theorem m_by1 (hT : tpm M A n) {k : Int} (hk : 0 ≤ k ∧ k < n) : s_S X (d + 1) 175 [.ref 69, .int (iI k)] (mm (md M a b t v op st Sp) J) = some ([.int (iI (A k))], mm (md M a b t v op st Sp) J) := by
  obtain ⟨h1, h2, h3, h4⟩ := hT
  obtain ⟨e1, e2, e3⟩ := h3 k hk.1 hk.2
  have k1 := hk.2
  simp (disch := omega) only [v_175_69, u_175_0, x_iload1, x_aload0, f_69_6, x_if_icmp_ge, k_69_5, x_goto, u_175_17, x_sipush, x_jsr, u_175_18, x_ireturn, ia_74, md_69_8, md_69_9, md_69_10, md_69_11, md_69_12, md_69_13, md_76, md_69_6, md_70, md_74, md_75, md_77, md_u_69_8, md_u_69_9, md_u_69_10, md_u_69_11, md_u_69_12, md_u_69_13, md_u_76, h2, k1, e1, ↓reduceIte, b01_0, ite_not, if_true, if_false, Int.reduceLT, Int.reduceEq]
theorem m_by0 (hT : tpm M A n) {k : Int} (hk : n ≤ k ∧ k ≤ 300) : s_S X (d + 1) 175 [.ref 69, .int (iI k)] (mm (md M a b t v op st Sp) J) = some ([.int (iI (-1))], mm (md M a b t v op st Sp) J) := by
  obtain ⟨h1, h2, h3, h4⟩ := hT
  have k1 : ¬ k < n := by omega
  simp (disch := omega) only [v_175_69, u_175_0, x_iload1, x_aload0, f_69_6, x_if_icmp_ge, k_69_5, x_goto, u_175_17, x_sipush, x_jsr, u_175_18, x_ireturn, ia_74, md_69_8, md_69_9, md_69_10, md_69_11, md_69_12, md_69_13, md_76, md_69_6, md_70, md_74, md_75, md_77, md_u_69_8, md_u_69_9, md_u_69_10, md_u_69_11, md_u_69_12, md_u_69_13, md_u_76, h2, k1, ↓reduceIte, b01_0, ite_not, if_true, if_false, Int.reduceLT, Int.reduceEq]
theorem m_sk0 {x : Value} (hT : tpm M A n) (ha : 0 ≤ a ∧ a ≤ n) (q : ¬ (a < n ∧ A a = 32)) : s_j X (d + 1) 174 0 [.ref 69, x] [] (mm (md M a b t v op st Sp) J) = s_j X (d + 1) 174 26 [.ref 69, x] [] (mm (md M a b t v op st Sp) J) := by
  have h1 := hT.1
  rw [u_174_0]
  by_cases z : a < n
  · obtain ⟨e1, e2, e3⟩ := hT.2.2.1 a ha.1 z
    have q2 : ¬ A a = 32 := fun y => q ⟨z, y⟩
    have e5 := m_by1 (X := X) (d := d) (J := J) (a := a) (b := b) (t := t) (v := v) (op := op) (st := st) (Sp := Sp) hT (k := a) ⟨ha.1, z⟩
    simp (disch := omega) only [v_174_69, x_aload0, f_69_8, x_call2_0, x_call2_1, x_call2_2, x_call2_3, x_call2_4, e_k_s, e_k_i, List.nil_append, List.cons_append, x_sipush, x_if_icmp_ne, x_dup_i, x_dup_r, x_iadd, p_69_8, x_goto, p_69_9, x_istore1i, x_istore1r, x_istore1u, x_iload1, x_ifCond_ge, p_69_10, u_174_55, x_call3_0, x_call3_1, x_call3_2, x_call3_3, x_call3_4, x_ifCond_eq, x_ifCond_eqb, x_call1_0, x_call1_1, x_call1_2, x_call1_3, x_call1_4, u_174_73, u_174_91, x_jsr, u_174_110, x_return, md_69_8, md_69_9, md_69_10, md_69_11, md_69_12, md_69_13, md_76, md_69_6, md_70, md_74, md_75, md_77, md_u_69_8, md_u_69_9, md_u_69_10, md_u_69_11, md_u_69_12, md_u_69_13, md_u_76, e5, q2, ↓reduceIte, b01_0, ite_not, if_true, if_false, Int.reduceLT, Int.reduceEq]
  · have e5 := m_by0 (X := X) (d := d) (J := J) (a := a) (b := b) (t := t) (v := v) (op := op) (st := st) (Sp := Sp) hT (k := a) (by omega)
    simp (disch := omega) only [v_174_69, x_aload0, f_69_8, x_call2_0, x_call2_1, x_call2_2, x_call2_3, x_call2_4, e_k_s, e_k_i, List.nil_append, List.cons_append, x_sipush, x_if_icmp_ne, x_dup_i, x_dup_r, x_iadd, p_69_8, x_goto, p_69_9, x_istore1i, x_istore1r, x_istore1u, x_iload1, x_ifCond_ge, p_69_10, u_174_55, x_call3_0, x_call3_1, x_call3_2, x_call3_3, x_call3_4, x_ifCond_eq, x_ifCond_eqb, x_call1_0, x_call1_1, x_call1_2, x_call1_3, x_call1_4, u_174_73, u_174_91, x_jsr, u_174_110, x_return, md_69_8, md_69_9, md_69_10, md_69_11, md_69_12, md_69_13, md_76, md_69_6, md_70, md_74, md_75, md_77, md_u_69_8, md_u_69_9, md_u_69_10, md_u_69_11, md_u_69_12, md_u_69_13, md_u_76, e5, ↓reduceIte, b01_0, ite_not, if_true, if_false, Int.reduceLT, Int.reduceEq]
theorem m_skp {x : Value} (hT : tpm M A n) : ∀ (f : Nat) (a : Int), 0 ≤ a → a ≤ n → n - a ≤ f → s_j X (d + 1) 174 0 [.ref 69, x] [] (mm (md M a b t v op st Sp) J) = s_j X (d + 1) 174 26 [.ref 69, x] [] (mm (md M (sk A n a) b t v op st Sp) J) := by
  have h1 := hT.1
  have h3 := hT.2.2.1
  intro f
  induction f with
  | zero =>
    intro a a0 a1 hf
    have e : sk A n a = a := av_no (fun z => by omega)
    rw [e]
    exact m_sk0 hT ⟨a0, a1⟩ (fun z => by omega)
  | succ f ih =>
    intro a a0 a1 hf
    by_cases q : a < n ∧ A a = 32
    · have e : sk A n a = sk A n (a + 1) := av_go q.1 (isS_iff.mpr q.2)
      obtain ⟨e1, e2, e3⟩ := h3 a a0 q.1
      have q2 := q.2
      have e5 := m_by1 (X := X) (d := d) (J := J) (a := a) (b := b) (t := t) (v := v) (op := op) (st := st) (Sp := Sp) hT (k := a) ⟨a0, q.1⟩
      rw [e, ← ih (a + 1) (by omega) (by omega) (by omega)]
      conv => lhs; rw [u_174_0]
      simp (disch := omega) only [v_174_69, x_aload0, f_69_8, x_call2_0, x_call2_1, x_call2_2, x_call2_3, x_call2_4, e_k_s, e_k_i, List.nil_append, List.cons_append, x_sipush, x_if_icmp_ne, x_dup_i, x_dup_r, x_iadd, p_69_8, x_goto, p_69_9, x_istore1i, x_istore1r, x_istore1u, x_iload1, x_ifCond_ge, p_69_10, u_174_55, x_call3_0, x_call3_1, x_call3_2, x_call3_3, x_call3_4, x_ifCond_eq, x_ifCond_eqb, x_call1_0, x_call1_1, x_call1_2, x_call1_3, x_call1_4, u_174_73, u_174_91, x_jsr, u_174_110, x_return, md_69_8, md_69_9, md_69_10, md_69_11, md_69_12, md_69_13, md_76, md_69_6, md_70, md_74, md_75, md_77, md_u_69_8, md_u_69_9, md_u_69_10, md_u_69_11, md_u_69_12, md_u_69_13, md_u_76, e5, q2, ↓reduceIte, b01_0, ite_not, if_true, if_false, Int.reduceLT, Int.reduceEq]
    · have e : sk A n a = a := av_no (fun z => q ⟨z.1, isS_iff.mp z.2⟩)
      rw [e]
      exact m_sk0 hT ⟨a0, a1⟩ q
theorem m_le0 {x : Value} (hT : tpm M A n) (ha : 0 ≤ a ∧ a ≤ n) (q : ¬ (a < n ∧ 97 ≤ A a ∧ A a ≤ 122)) : s_j X (d + 1) 176 0 [.ref 69, x] [] (mm (md M a b t v op st Sp) J) = s_j X (d + 1) 176 31 [.ref 69, x] [] (mm (md M a b t v op st Sp) J) := by
  have h1 := hT.1
  rw [u_176_0]
  by_cases z : a < n
  · obtain ⟨e1, e2, e3⟩ := hT.2.2.1 a ha.1 z
    have q2 : A a < 97 ∨ 122 < A a := by omega
    have e5 := m_by1 (X := X) (d := d) (J := J) (a := a) (b := b) (t := t) (v := v) (op := op) (st := st) (Sp := Sp) hT (k := a) ⟨ha.1, z⟩
    have e6 := fun N => m_nin (X := X) (d := d) (I := N) (J := J) (v := A a) (a := 97) (b := 122) q2 ⟨by omega, by decide, by decide⟩
    simp (disch := omega) only [v_176_69, x_aload0, f_69_8, x_call2_0, x_call2_1, x_call2_2, x_call2_3, x_call2_4, e_k_s, e_k_i, List.nil_append, List.cons_append, x_sipush, x_call3_0, x_call3_1, x_call3_2, x_call3_3, x_call3_4, x_ifCond_eq, x_ifCond_eqb, x_dup_i, x_dup_r, x_iadd, p_69_8, x_goto, p_69_10, x_istore1i, x_istore1r, x_istore1u, x_jsr, u_176_39, x_iload1, x_if_icmp_ge, u_176_58, f_69_10, u_176_62, x_iinc1i, x_iinc1r, x_iinc1u, u_176_71, x_return, md_69_8, md_69_9, md_69_10, md_69_11, md_69_12, md_69_13, md_76, md_69_6, md_70, md_74, md_75, md_77, md_u_69_8, md_u_69_9, md_u_69_10, md_u_69_11, md_u_69_12, md_u_69_13, md_u_76, e5, e6, ↓reduceIte, b01_0, ite_not, if_true, if_false, Int.reduceLT, Int.reduceEq]
  · have e5 := m_by0 (X := X) (d := d) (J := J) (a := a) (b := b) (t := t) (v := v) (op := op) (st := st) (Sp := Sp) hT (k := a) (by omega)
    have e6 := fun N => m_nin (X := X) (d := d) (I := N) (J := J) (v := -1) (a := 97) (b := 122) (by decide) ⟨by decide, by decide, by decide⟩
    simp (disch := omega) only [v_176_69, x_aload0, f_69_8, x_call2_0, x_call2_1, x_call2_2, x_call2_3, x_call2_4, e_k_s, e_k_i, List.nil_append, List.cons_append, x_sipush, x_call3_0, x_call3_1, x_call3_2, x_call3_3, x_call3_4, x_ifCond_eq, x_ifCond_eqb, x_dup_i, x_dup_r, x_iadd, p_69_8, x_goto, p_69_10, x_istore1i, x_istore1r, x_istore1u, x_jsr, u_176_39, x_iload1, x_if_icmp_ge, u_176_58, f_69_10, u_176_62, x_iinc1i, x_iinc1r, x_iinc1u, u_176_71, x_return, md_69_8, md_69_9, md_69_10, md_69_11, md_69_12, md_69_13, md_76, md_69_6, md_70, md_74, md_75, md_77, md_u_69_8, md_u_69_9, md_u_69_10, md_u_69_11, md_u_69_12, md_u_69_13, md_u_76, e5, e6, ↓reduceIte, b01_0, ite_not, if_true, if_false, Int.reduceLT, Int.reduceEq]
theorem m_lep {x : Value} (hT : tpm M A n) : ∀ (f : Nat) (a : Int), 0 ≤ a → a ≤ n → n - a ≤ f → s_j X (d + 1) 176 0 [.ref 69, x] [] (mm (md M a b t v op st Sp) J) = s_j X (d + 1) 176 31 [.ref 69, x] [] (mm (md M (lee A n a) b t v op st Sp) J) := by
  have h1 := hT.1
  have h3 := hT.2.2.1
  intro f
  induction f with
  | zero =>
    intro a a0 a1 hf
    have e : lee A n a = a := av_no (fun z => by omega)
    rw [e]
    exact m_le0 hT ⟨a0, a1⟩ (fun z => by omega)
  | succ f ih =>
    intro a a0 a1 hf
    by_cases q : a < n ∧ 97 ≤ A a ∧ A a ≤ 122
    · have e : lee A n a = lee A n (a + 1) := av_go q.1 (isL_iff.mpr q.2)
      obtain ⟨e1, e2, e3⟩ := h3 a a0 q.1
      have e5 := m_by1 (X := X) (d := d) (J := J) (a := a) (b := b) (t := t) (v := v) (op := op) (st := st) (Sp := Sp) hT (k := a) ⟨a0, q.1⟩
      have e6 := fun N => m_in (X := X) (d := d) (I := N) (J := J) (v := A a) (a := 97) (b := 122) q.2 ⟨by omega, by decide, by decide⟩
      rw [e, ← ih (a + 1) (by omega) (by omega) (by omega)]
      conv => lhs; rw [u_176_0]
      simp (disch := omega) only [v_176_69, x_aload0, f_69_8, x_call2_0, x_call2_1, x_call2_2, x_call2_3, x_call2_4, e_k_s, e_k_i, List.nil_append, List.cons_append, x_sipush, x_call3_0, x_call3_1, x_call3_2, x_call3_3, x_call3_4, x_ifCond_eq, x_ifCond_eqb, x_dup_i, x_dup_r, x_iadd, p_69_8, x_goto, p_69_10, x_istore1i, x_istore1r, x_istore1u, x_jsr, u_176_39, x_iload1, x_if_icmp_ge, u_176_58, f_69_10, u_176_62, x_iinc1i, x_iinc1r, x_iinc1u, u_176_71, x_return, md_69_8, md_69_9, md_69_10, md_69_11, md_69_12, md_69_13, md_76, md_69_6, md_70, md_74, md_75, md_77, md_u_69_8, md_u_69_9, md_u_69_10, md_u_69_11, md_u_69_12, md_u_69_13, md_u_76, e5, e6, ↓reduceIte, b01_0, ite_not, if_true, if_false, Int.reduceLT, Int.reduceEq]
    · have e : lee A n a = a := av_no (fun z => q ⟨z.1, isL_iff.mp z.2⟩)
      rw [e]
      exact m_le0 hT ⟨a0, a1⟩ q
/-- is it that name -/
theorem m_is0 {w k : Int} (hk : 0 ≤ k ∧ k ≤ 8) : s_j X (d + 1) 177 22 [.ref 69, .int (iI w), .int (iI 0), .int (iI k)] [] (mm (md M a b t v op st Sp) J) = some ([.int (iI 0)], mm (md M a b t v op st Sp) J) := by
  rw [u_177_22]
  by_cases q : k < 8
  · simp (disch := omega) only [v_177_69, u_177_0, x_aload0, f_69_8, f_69_9, x_isub, x_sipush, x_if_icmp_gt, x_goto, u_177_18, x_jsr, u_177_19, x_istore2i, x_istore2r, x_istore2u, x_istore3i, x_istore3r, x_istore3u, x_iload3, x_if_icmp_ge, x_iload2, x_ifCond_eq, x_ifCond_eqb, k_69_7, x_iload1, x_imul, x_iadd, x_call2_0, x_call2_1, x_call2_2, x_call2_3, x_call2_4, e_k_s, e_k_i, List.nil_append, List.cons_append, u_177_69, u_177_71, x_if_icmp_ne, u_177_78, u_177_79, x_iinc3i, x_iinc3r, x_iinc3u, u_177_86, x_zret0, x_zret1, x_zretb, ca_75, md_69_8, md_69_9, md_69_10, md_69_11, md_69_12, md_69_13, md_76, md_69_6, md_70, md_74, md_75, md_77, md_u_69_8, md_u_69_9, md_u_69_10, md_u_69_11, md_u_69_12, md_u_69_13, md_u_76, q, ↓reduceIte, b01_0, ite_not, if_true, if_false, Int.reduceLT, Int.reduceEq]
  · simp (disch := omega) only [v_177_69, u_177_0, x_aload0, f_69_8, f_69_9, x_isub, x_sipush, x_if_icmp_gt, x_goto, u_177_18, x_jsr, u_177_19, x_istore2i, x_istore2r, x_istore2u, x_istore3i, x_istore3r, x_istore3u, x_iload3, x_if_icmp_ge, x_iload2, x_ifCond_eq, x_ifCond_eqb, k_69_7, x_iload1, x_imul, x_iadd, x_call2_0, x_call2_1, x_call2_2, x_call2_3, x_call2_4, e_k_s, e_k_i, List.nil_append, List.cons_append, u_177_69, u_177_71, x_if_icmp_ne, u_177_78, u_177_79, x_iinc3i, x_iinc3r, x_iinc3u, u_177_86, x_zret0, x_zret1, x_zretb, ca_75, md_69_8, md_69_9, md_69_10, md_69_11, md_69_12, md_69_13, md_76, md_69_6, md_70, md_74, md_75, md_77, md_u_69_8, md_u_69_9, md_u_69_10, md_u_69_11, md_u_69_12, md_u_69_13, md_u_76, q, ↓reduceIte, b01_0, ite_not, if_true, if_false, Int.reduceLT, Int.reduceEq]
theorem m_isl (hT : tpm M A n) (hb : 0 ≤ b) (ha : b ≤ a ∧ a ≤ n) {w : Int} (hw : 0 ≤ w ∧ w < 18) : ∀ (L : List Int) (k : Int), 0 ≤ k → k + L.length = 8 → (∀ j : Nat, j < L.length → M 75 (8 * w + k + j) = L.getD j 0) → (∀ c, c ∈ L → 0 ≤ c ∧ c ≤ 255) → s_j X (d + 1) 177 22 [.ref 69, .int (iI w), .int (iI 1), .int (iI k)] [] (mm (md M a b t v op st Sp) J) = some ([.int (iI (if pmf A a L (b + k) = true then 1 else 0))], mm (md M a b t v op st Sp) J) := by
  have h1 := hT.1
  intro L
  induction L with
  | nil =>
    intro k k0 kl _ _
    simp only [List.length_nil] at kl
    have hk : k = 8 := by omega
    subst hk
    rw [u_177_22]
    simp (disch := omega) only [v_177_69, u_177_0, x_aload0, f_69_8, f_69_9, x_isub, x_sipush, x_if_icmp_gt, x_goto, u_177_18, x_jsr, u_177_19, x_istore2i, x_istore2r, x_istore2u, x_istore3i, x_istore3r, x_istore3u, x_iload3, x_if_icmp_ge, x_iload2, x_ifCond_eq, x_ifCond_eqb, k_69_7, x_iload1, x_imul, x_iadd, x_call2_0, x_call2_1, x_call2_2, x_call2_3, x_call2_4, e_k_s, e_k_i, List.nil_append, List.cons_append, u_177_69, u_177_71, x_if_icmp_ne, u_177_78, u_177_79, x_iinc3i, x_iinc3r, x_iinc3u, u_177_86, x_zret0, x_zret1, x_zretb, ca_75, md_69_8, md_69_9, md_69_10, md_69_11, md_69_12, md_69_13, md_76, md_69_6, md_70, md_74, md_75, md_77, md_u_69_8, md_u_69_9, md_u_69_10, md_u_69_11, md_u_69_12, md_u_69_13, md_u_76, ↓reduceIte, b01_0, ite_not, if_true, if_false, Int.reduceLT, Int.reduceEq]
    rfl
  | cons c L ih =>
    intro k k0 kl hl hc
    rw [List.length_cons] at kl
    have e0 : M 75 (8 * w + k) = c := by
      have := hl 0 (by rw [List.length_cons]; omega)
      rw [Int.natCast_zero, Int.add_zero] at this
      exact this
    have c0 := hc c (List.mem_cons_self ..)
    have q8 : k < 8 := by omega
    have ih := ih (k + 1) (by omega) (by omega) (fun j hj => by
      have := hl (j + 1) (by rw [List.length_cons]; omega)
      rw [show 8 * w + (k + 1) + (j : Int) = 8 * w + k + ((j + 1 : Nat) : Int) by omega]
      exact this) (fun x hx => hc x (List.mem_cons_of_mem _ hx))
    have ep : pmf A a (c :: L) (b + k) = (decide (c = if b + k < a then A (b + k) else 32) && pmf A a L (b + (k + 1))) := by
      rw [show b + (k + 1) = b + k + 1 by omega]
      rfl
    have e9 := m_is0 (X := X) (d := d) (M := M) (J := J) (a := a) (b := b) (t := t) (v := v) (op := op) (st := st) (Sp := Sp) (w := w) (k := k + 1) (by omega)
    by_cases q : b + k < a
    · have e5 := m_by1 (X := X) (d := d) (J := J) (a := a) (b := b) (t := t) (v := v) (op := op) (st := st) (Sp := Sp) hT (k := b + k) (by omega)
      have r5 := (hT.2.2.1 (b + k) (by omega) (by omega)).2
      rw [ep, if_pos q, u_177_22]
      by_cases z : c = A (b + k)
      · rw [decide_eq_true z, Bool.true_and, ← ih]
        simp (disch := omega) only [v_177_69, u_177_0, x_aload0, f_69_8, f_69_9, x_isub, x_sipush, x_if_icmp_gt, x_goto, u_177_18, x_jsr, u_177_19, x_istore2i, x_istore2r, x_istore2u, x_istore3i, x_istore3r, x_istore3u, x_iload3, x_if_icmp_ge, x_iload2, x_ifCond_eq, x_ifCond_eqb, k_69_7, x_iload1, x_imul, x_iadd, x_call2_0, x_call2_1, x_call2_2, x_call2_3, x_call2_4, e_k_s, e_k_i, List.nil_append, List.cons_append, u_177_69, u_177_71, x_if_icmp_ne, u_177_78, u_177_79, x_iinc3i, x_iinc3r, x_iinc3u, u_177_86, x_zret0, x_zret1, x_zretb, ca_75, md_69_8, md_69_9, md_69_10, md_69_11, md_69_12, md_69_13, md_76, md_69_6, md_70, md_74, md_75, md_77, md_u_69_8, md_u_69_9, md_u_69_10, md_u_69_11, md_u_69_12, md_u_69_13, md_u_76, q8, q, e5, e0, z, ↓reduceIte, b01_0, ite_not, if_true, if_false, Int.reduceLT, Int.reduceEq]
      · rw [decide_eq_false z, Bool.false_and]
        simp (disch := omega) only [v_177_69, u_177_0, x_aload0, f_69_8, f_69_9, x_isub, x_sipush, x_if_icmp_gt, x_goto, u_177_18, x_jsr, u_177_19, x_istore2i, x_istore2r, x_istore2u, x_istore3i, x_istore3r, x_istore3u, x_iload3, x_if_icmp_ge, x_iload2, x_ifCond_eq, x_ifCond_eqb, k_69_7, x_iload1, x_imul, x_iadd, x_call2_0, x_call2_1, x_call2_2, x_call2_3, x_call2_4, e_k_s, e_k_i, List.nil_append, List.cons_append, u_177_69, u_177_71, x_if_icmp_ne, u_177_78, u_177_79, x_iinc3i, x_iinc3r, x_iinc3u, u_177_86, x_zret0, x_zret1, x_zretb, ca_75, md_69_8, md_69_9, md_69_10, md_69_11, md_69_12, md_69_13, md_76, md_69_6, md_70, md_74, md_75, md_77, md_u_69_8, md_u_69_9, md_u_69_10, md_u_69_11, md_u_69_12, md_u_69_13, md_u_76, q8, q, e5, e0, z, e9, ↓reduceIte, b01_0, ite_not, if_true, if_false, Int.reduceLT, Int.reduceEq]
        rfl
    · rw [ep, if_neg q, u_177_22]
      by_cases z : c = 32
      · rw [decide_eq_true z, Bool.true_and, ← ih]
        simp (disch := omega) only [v_177_69, u_177_0, x_aload0, f_69_8, f_69_9, x_isub, x_sipush, x_if_icmp_gt, x_goto, u_177_18, x_jsr, u_177_19, x_istore2i, x_istore2r, x_istore2u, x_istore3i, x_istore3r, x_istore3u, x_iload3, x_if_icmp_ge, x_iload2, x_ifCond_eq, x_ifCond_eqb, k_69_7, x_iload1, x_imul, x_iadd, x_call2_0, x_call2_1, x_call2_2, x_call2_3, x_call2_4, e_k_s, e_k_i, List.nil_append, List.cons_append, u_177_69, u_177_71, x_if_icmp_ne, u_177_78, u_177_79, x_iinc3i, x_iinc3r, x_iinc3u, u_177_86, x_zret0, x_zret1, x_zretb, ca_75, md_69_8, md_69_9, md_69_10, md_69_11, md_69_12, md_69_13, md_76, md_69_6, md_70, md_74, md_75, md_77, md_u_69_8, md_u_69_9, md_u_69_10, md_u_69_11, md_u_69_12, md_u_69_13, md_u_76, q8, q, e0, z, ↓reduceIte, b01_0, ite_not, if_true, if_false, Int.reduceLT, Int.reduceEq]
      · rw [decide_eq_false z, Bool.false_and]
        simp (disch := omega) only [v_177_69, u_177_0, x_aload0, f_69_8, f_69_9, x_isub, x_sipush, x_if_icmp_gt, x_goto, u_177_18, x_jsr, u_177_19, x_istore2i, x_istore2r, x_istore2u, x_istore3i, x_istore3r, x_istore3u, x_iload3, x_if_icmp_ge, x_iload2, x_ifCond_eq, x_ifCond_eqb, k_69_7, x_iload1, x_imul, x_iadd, x_call2_0, x_call2_1, x_call2_2, x_call2_3, x_call2_4, e_k_s, e_k_i, List.nil_append, List.cons_append, u_177_69, u_177_71, x_if_icmp_ne, u_177_78, u_177_79, x_iinc3i, x_iinc3r, x_iinc3u, u_177_86, x_zret0, x_zret1, x_zretb, ca_75, md_69_8, md_69_9, md_69_10, md_69_11, md_69_12, md_69_13, md_76, md_69_6, md_70, md_74, md_75, md_77, md_u_69_8, md_u_69_9, md_u_69_10, md_u_69_11, md_u_69_12, md_u_69_13, md_u_76, q8, q, e0, z, e9, ↓reduceIte, b01_0, ite_not, if_true, if_false, Int.reduceLT, Int.reduceEq]
        rfl
theorem mnz_255 : ∀ x, x ∈ mnz → ∀ c, c ∈ pad8 x → 0 ≤ c ∧ c ≤ 255 := by decide
theorem m_isn (hT : tpm M A n) (hb : 0 ≤ b) (ha : b ≤ a ∧ a ≤ n) (hA : ∀ i, b ≤ i → i < a → A i ≠ 32) {w : Int} (hw : 0 ≤ w ∧ w < 18) {N : List Int} (hN : N ∈ mnz) (hl : ∀ j : Nat, j < 8 → M 75 (8 * w + j) = (pad8 N).getD j 0) : s_S X (d + 2) 177 [.ref 69, .int (iI w)] (mm (md M a b t v op st Sp) J) = some ([.int (iI (if wln A (a - b).toNat b = N then 1 else 0))], mm (md M a b t v op st Sp) J) := by
  have h1 := hT.1
  have l8 := pad8_len (mnz_32 N hN).2
  have ei := isn_w (A := A) (b := b) (q := a) (mnz_32 N hN) hA ha.1
  have e1 := m_isl (X := X) (d := d) (J := J) (a := a) (b := b) (t := t) (v := v) (op := op) (st := st) (Sp := Sp) hT hb ha hw (pad8 N) 0 (Int.le_refl 0) (by rw [l8]; rfl) (fun j hj => by rw [Int.add_zero]; exact hl j (by omega)) (mnz_255 N hN)
  have e0 := m_is0 (X := X) (d := d) (M := M) (J := J) (a := a) (b := b) (t := t) (v := v) (op := op) (st := st) (Sp := Sp) (w := w) (k := 0) (by decide)
  rw [Int.add_zero] at e1
  by_cases q : 8 < a - b
  · rw [if_neg (fun z => by have := (ei.mpr z).1; omega)]
    simp (disch := omega) only [v_177_69, u_177_0, x_aload0, f_69_8, f_69_9, x_isub, x_sipush, x_if_icmp_gt, x_goto, u_177_18, x_jsr, u_177_19, x_istore2i, x_istore2r, x_istore2u, x_istore3i, x_istore3r, x_istore3u, x_iload3, x_if_icmp_ge, x_iload2, x_ifCond_eq, x_ifCond_eqb, k_69_7, x_iload1, x_imul, x_iadd, x_call2_0, x_call2_1, x_call2_2, x_call2_3, x_call2_4, e_k_s, e_k_i, List.nil_append, List.cons_append, u_177_69, u_177_71, x_if_icmp_ne, u_177_78, u_177_79, x_iinc3i, x_iinc3r, x_iinc3u, u_177_86, x_zret0, x_zret1, x_zretb, ca_75, md_69_8, md_69_9, md_69_10, md_69_11, md_69_12, md_69_13, md_76, md_69_6, md_70, md_74, md_75, md_77, md_u_69_8, md_u_69_9, md_u_69_10, md_u_69_11, md_u_69_12, md_u_69_13, md_u_76, q, e0, ↓reduceIte, b01_0, ite_not, if_true, if_false, Int.reduceLT, Int.reduceEq]
  · have : (pmf A a (pad8 N) b = true) ↔ wln A (a - b).toNat b = N := by
      rw [← ei]
      exact ⟨fun z => ⟨by omega, z⟩, fun z => z.2⟩
    simp only [this] at e1
    simp (disch := omega) only [v_177_69, u_177_0, x_aload0, f_69_8, f_69_9, x_isub, x_sipush, x_if_icmp_gt, x_goto, u_177_18, x_jsr, u_177_19, x_istore2i, x_istore2r, x_istore2u, x_istore3i, x_istore3r, x_istore3u, x_iload3, x_if_icmp_ge, x_iload2, x_ifCond_eq, x_ifCond_eqb, k_69_7, x_iload1, x_imul, x_iadd, x_call2_0, x_call2_1, x_call2_2, x_call2_3, x_call2_4, e_k_s, e_k_i, List.nil_append, List.cons_append, u_177_69, u_177_71, x_if_icmp_ne, u_177_78, u_177_79, x_iinc3i, x_iinc3r, x_iinc3u, u_177_86, x_zret0, x_zret1, x_zretb, ca_75, md_69_8, md_69_9, md_69_10, md_69_11, md_69_12, md_69_13, md_76, md_69_6, md_70, md_74, md_75, md_77, md_u_69_8, md_u_69_9, md_u_69_10, md_u_69_11, md_u_69_12, md_u_69_13, md_u_76, q, e1, ↓reduceIte, b01_0, ite_not, if_true, if_false, Int.reduceLT, Int.reduceEq]
theorem fm_len : ∀ (N : List (List Int)), (∀ x, x ∈ N → x ∈ mnz) → (N.flatMap pad8).length = 8 * N.length
  | [], _ => rfl
  | x :: N, h => by
    rw [List.flatMap_cons, List.length_append, fm_len N (fun y hy => h y (List.mem_cons_of_mem _ hy)), pad8_len (mnz_32 x (h x (List.mem_cons_self ..))).2, List.length_cons]
    omega
theorem m_rnn (hT : tpm M A n) (hb : 0 ≤ b) (ha : b ≤ a ∧ a ≤ n) (hA : ∀ i, b ≤ i → i < a → A i ≠ 32) : ∀ (N : List (List Int)) (w t : Int), 0 ≤ w → w + N.length = 18 → (∀ x, x ∈ N → x ∈ mnz) → (∀ j : Nat, j < 8 * N.length → M 75 (8 * w + j) = (N.flatMap pad8).getD j 0) → s_j X (d + 2) 176 39 [.ref 69, .int (iI w)] [] (mm (md M a b t v op st Sp) J) = some ([], mm (md M a b (mix N w t (wln A (a - b).toNat b)) v op st Sp) J) := by
  have h1 := hT.1
  intro N
  induction N with
  | nil =>
    intro w t w0 wl _ _
    simp only [List.length_nil] at wl
    have hw : w = 18 := by omega
    subst hw
    rw [u_176_39]
    simp (disch := omega) only [v_176_69, x_aload0, f_69_8, x_call2_0, x_call2_1, x_call2_2, x_call2_3, x_call2_4, e_k_s, e_k_i, List.nil_append, List.cons_append, x_sipush, x_call3_0, x_call3_1, x_call3_2, x_call3_3, x_call3_4, x_ifCond_eq, x_ifCond_eqb, x_dup_i, x_dup_r, x_iadd, p_69_8, x_goto, u_176_31, p_69_10, x_istore1i, x_istore1r, x_istore1u, x_jsr, x_iload1, x_if_icmp_ge, u_176_58, f_69_10, u_176_62, x_iinc1i, x_iinc1r, x_iinc1u, u_176_71, x_return, md_69_8, md_69_9, md_69_10, md_69_11, md_69_12, md_69_13, md_76, md_69_6, md_70, md_74, md_75, md_77, md_u_69_8, md_u_69_9, md_u_69_10, md_u_69_11, md_u_69_12, md_u_69_13, md_u_76, ↓reduceIte, b01_0, ite_not, if_true, if_false, Int.reduceLT, Int.reduceEq]
    rfl
  | cons x N ih =>
    intro w t w0 wl hm hl
    rw [List.length_cons] at wl hl
    have hx := hm x (List.mem_cons_self ..)
    have l8 := pad8_len (mnz_32 x hx).2
    have q18 : w < 18 := by omega
    have e1 := fun t => m_isn (X := X) (d := d) (J := J) (a := a) (b := b) (t := t) (v := v) (op := op) (st := st) (Sp := Sp) hT hb ha hA (w := w) ⟨w0, q18⟩ hx (fun j hj => by
      rw [hl j (by omega), List.flatMap_cons, List.getD_eq_getElem?_getD, List.getElem?_append_left (by omega), ← List.getD_eq_getElem?_getD])
    have ih := fun t => ih (w + 1) t (by omega) (by omega) (fun y hy => hm y (List.mem_cons_of_mem _ hy)) (fun j hj => by
      have := hl (8 + j) (by omega)
      rw [show 8 * (w + 1) + (j : Int) = 8 * w + ((8 + j : Nat) : Int) by omega, this, List.flatMap_cons, List.getD_eq_getElem?_getD, List.getElem?_append_right (by omega), l8, show 8 + j - 8 = j by omega, ← List.getD_eq_getElem?_getD])
    show _ = some ([], mm (md M a b (mix N (w + 1) (if wln A (a - b).toNat b = x then w else t) (wln A (a - b).toNat b)) v op st Sp) J)
    rw [← ih]
    conv => lhs; rw [u_176_39]
    by_cases q : wln A (a - b).toNat b = x
    · simp only [if_pos q] at e1 ⊢
      simp (disch := omega) only [v_176_69, x_aload0, f_69_8, x_call2_0, x_call2_1, x_call2_2, x_call2_3, x_call2_4, e_k_s, e_k_i, List.nil_append, List.cons_append, x_sipush, x_call3_0, x_call3_1, x_call3_2, x_call3_3, x_call3_4, x_ifCond_eq, x_ifCond_eqb, x_dup_i, x_dup_r, x_iadd, p_69_8, x_goto, u_176_31, p_69_10, x_istore1i, x_istore1r, x_istore1u, x_jsr, x_iload1, x_if_icmp_ge, u_176_58, f_69_10, u_176_62, x_iinc1i, x_iinc1r, x_iinc1u, u_176_71, x_return, md_69_8, md_69_9, md_69_10, md_69_11, md_69_12, md_69_13, md_76, md_69_6, md_70, md_74, md_75, md_77, md_u_69_8, md_u_69_9, md_u_69_10, md_u_69_11, md_u_69_12, md_u_69_13, md_u_76, q18, e1, ↓reduceIte, b01_0, ite_not, if_true, if_false, Int.reduceLT, Int.reduceEq]
    · simp only [if_neg q] at e1 ⊢
      simp (disch := omega) only [v_176_69, x_aload0, f_69_8, x_call2_0, x_call2_1, x_call2_2, x_call2_3, x_call2_4, e_k_s, e_k_i, List.nil_append, List.cons_append, x_sipush, x_call3_0, x_call3_1, x_call3_2, x_call3_3, x_call3_4, x_ifCond_eq, x_ifCond_eqb, x_dup_i, x_dup_r, x_iadd, p_69_8, x_goto, u_176_31, p_69_10, x_istore1i, x_istore1r, x_istore1u, x_jsr, x_iload1, x_if_icmp_ge, u_176_58, f_69_10, u_176_62, x_iinc1i, x_iinc1r, x_iinc1u, u_176_71, x_return, md_69_8, md_69_9, md_69_10, md_69_11, md_69_12, md_69_13, md_76, md_69_6, md_70, md_74, md_75, md_77, md_u_69_8, md_u_69_9, md_u_69_10, md_u_69_11, md_u_69_12, md_u_69_13, md_u_76, q18, e1, ↓reduceIte, b01_0, ite_not, if_true, if_false, Int.reduceLT, Int.reduceEq]
theorem m_name (hT : tpm M A n) (hb : 0 ≤ b ∧ b ≤ n) : s_S X (d + 3) 176 [.ref 69] (mm (md M b b t v op st Sp) J) = some ([], mm (md M (lee A n b) b (mix mnz 0 101 (wln A (lee A n b - b).toNat b)) v op st Sp) J) := by
  have h1 : b ≤ lee A n b := av_ge
  have h2 : lee A n b ≤ n := av_le hb.2
  have e1 := m_lep (X := X) (d := d + 1) (J := J) (b := b) (t := t) (v := v) (op := op) (st := st) (Sp := Sp) (x := .retAddr 0) hT (n - b).toNat b hb.1 hb.2 (by omega)
  have e2 := m_rnn (X := X) (d := d) (J := J) (a := lee A n b) (b := b) (v := v) (op := op) (st := st) (Sp := Sp) hT hb.1 ⟨h1, h2⟩ (fun i i0 i1 => by
    have := isL_iff.mp (av_in (P := isL) (A := A) (n := n) i0 i1)
    omega) mnz 0 101 (Int.le_refl 0) rfl (fun _ h => h) (fun j hj => by
    rw [Int.mul_zero, Int.zero_add, ← ltr_pad]
    exact hT.2.2.2 j hj)
  simp (disch := omega) only [v_176_69, x_aload0, f_69_8, x_call2_0, x_call2_1, x_call2_2, x_call2_3, x_call2_4, e_k_s, e_k_i, List.nil_append, List.cons_append, x_sipush, x_call3_0, x_call3_1, x_call3_2, x_call3_3, x_call3_4, x_ifCond_eq, x_ifCond_eqb, x_dup_i, x_dup_r, x_iadd, p_69_8, x_goto, u_176_31, p_69_10, x_istore1i, x_istore1r, x_istore1u, x_jsr, x_iload1, x_if_icmp_ge, u_176_58, f_69_10, u_176_62, x_iinc1i, x_iinc1r, x_iinc1u, u_176_71, x_return, md_69_8, md_69_9, md_69_10, md_69_11, md_69_12, md_69_13, md_76, md_69_6, md_70, md_74, md_75, md_77, md_u_69_8, md_u_69_9, md_u_69_10, md_u_69_11, md_u_69_12, md_u_69_13, md_u_76, e1, e2, ↓reduceIte, b01_0, ite_not, if_true, if_false, Int.reduceLT, Int.reduceEq]
/-- a number -/
theorem m_dg0 (hT : tpm M A n) (ha : 0 ≤ a ∧ a ≤ n) (q : ¬ (a < n ∧ 48 ≤ A a ∧ A a ≤ 57)) : s_j X (d + 1) 178 5 [.ref 69] [] (mm (md M a b t v op st Sp) J) = s_j X (d + 1) 178 79 [.ref 69] [] (mm (md M a b t v op st Sp) J) := by
  have h1 := hT.1
  rw [u_178_5]
  by_cases z : a < n
  · obtain ⟨e1, e2, e3⟩ := hT.2.2.1 a ha.1 z
    have q2 : A a < 48 ∨ 57 < A a := by omega
    have e5 := m_by1 (X := X) (d := d) (J := J) (a := a) (b := b) (t := t) (v := v) (op := op) (st := st) (Sp := Sp) hT (k := a) ⟨ha.1, z⟩
    have e6 := fun N => m_nin (X := X) (d := d) (I := N) (J := J) (v := A a) (a := 48) (b := 57) q2 ⟨by omega, by decide, by decide⟩
    simp (disch := omega) only [v_178_69, u_178_0, x_aload0, x_sipush, p_69_11, x_jsr, f_69_8, x_call2_0, x_call2_1, x_call2_2, x_call2_3, x_call2_4, e_k_s, e_k_i, List.nil_append, List.cons_append, x_call3_0, x_call3_1, x_call3_2, x_call3_3, x_call3_4, x_ifCond_eq, x_ifCond_eqb, f_69_9, x_isub, x_if_icmp_ge, f_69_11, x_imul, x_iadd, x_goto, u_178_59, u_178_63, x_dup_i, x_dup_r, p_69_8, x_if_icmp_le, u_178_98, u_178_100, p_69_10, x_return, md_69_8, md_69_9, md_69_10, md_69_11, md_69_12, md_69_13, md_76, md_69_6, md_70, md_74, md_75, md_77, md_u_69_8, md_u_69_9, md_u_69_10, md_u_69_11, md_u_69_12, md_u_69_13, md_u_76, e5, e6, ↓reduceIte, b01_0, ite_not, if_true, if_false, Int.reduceLT, Int.reduceEq]
  · have e5 := m_by0 (X := X) (d := d) (J := J) (a := a) (b := b) (t := t) (v := v) (op := op) (st := st) (Sp := Sp) hT (k := a) (by omega)
    have e6 := fun N => m_nin (X := X) (d := d) (I := N) (J := J) (v := -1) (a := 48) (b := 57) (by decide) ⟨by decide, by decide, by decide⟩
    simp (disch := omega) only [v_178_69, u_178_0, x_aload0, x_sipush, p_69_11, x_jsr, f_69_8, x_call2_0, x_call2_1, x_call2_2, x_call2_3, x_call2_4, e_k_s, e_k_i, List.nil_append, List.cons_append, x_call3_0, x_call3_1, x_call3_2, x_call3_3, x_call3_4, x_ifCond_eq, x_ifCond_eqb, f_69_9, x_isub, x_if_icmp_ge, f_69_11, x_imul, x_iadd, x_goto, u_178_59, u_178_63, x_dup_i, x_dup_r, p_69_8, x_if_icmp_le, u_178_98, u_178_100, p_69_10, x_return, md_69_8, md_69_9, md_69_10, md_69_11, md_69_12, md_69_13, md_76, md_69_6, md_70, md_74, md_75, md_77, md_u_69_8, md_u_69_9, md_u_69_10, md_u_69_11, md_u_69_12, md_u_69_13, md_u_76, e5, e6, ↓reduceIte, b01_0, ite_not, if_true, if_false, Int.reduceLT, Int.reduceEq]
theorem m_dg (hT : tpm M A n) (hb : 0 ≤ b) : ∀ (f : Nat) (a v : Int), b ≤ a → a ≤ n → n - a ≤ f → s_j X (d + 1) 178 5 [.ref 69] [] (mm (md M a b t v op st Sp) J) = s_j X (d + 1) 178 79 [.ref 69] [] (mm (md M (dge A n a) b t (nvn A b (dge A n a - a).toNat a v) op st Sp) J) := by
  have h1 := hT.1
  have h3 := hT.2.2.1
  have neg : ∀ (a v : Int), b ≤ a → a ≤ n → ¬ (a < n ∧ 48 ≤ A a ∧ A a ≤ 57) → s_j X (d + 1) 178 5 [.ref 69] [] (mm (md M a b t v op st Sp) J) = s_j X (d + 1) 178 79 [.ref 69] [] (mm (md M (dge A n a) b t (nvn A b (dge A n a - a).toNat a v) op st Sp) J) := by
    intro a v a0 a1 q
    have e : dge A n a = a := av_no (fun z => q ⟨z.1, isD_iff.mp z.2⟩)
    rw [e, Int.sub_self]
    exact m_dg0 hT ⟨by omega, a1⟩ q
  intro f
  induction f with
  | zero =>
    intro a v a0 a1 hf
    exact neg a v a0 a1 (fun z => by omega)
  | succ f ih =>
    intro a v a0 a1 hf
    by_cases q : a < n ∧ 48 ≤ A a ∧ A a ≤ 57
    · have e : dge A n a = dge A n (a + 1) := av_go q.1 (isD_iff.mpr q.2)
      have h5 := av_ge (P := isD) (A := A) (n := n) (p := a + 1)
      obtain ⟨e1, e2, e3⟩ := h3 a (by omega) q.1
      have e4 := fun v => m_by1 (X := X) (d := d) (J := J) (a := a) (b := b) (t := t) (v := v) (op := op) (st := st) (Sp := Sp) hT (k := a) ⟨by omega, q.1⟩
      have e6 := fun N => m_in (X := X) (d := d) (I := N) (J := J) (v := A a) (a := 48) (b := 57) q.2 ⟨by omega, by decide, by decide⟩
      have e5 : (dge A n (a + 1) - a).toNat = (dge A n (a + 1) - (a + 1)).toNat + 1 := by
        unfold dge
        omega
      rw [e, e5, nvn_s, ← ih (a + 1) _ (by omega) (by omega) (by omega)]
      conv => lhs; rw [u_178_5]
      by_cases q3 : a - b < 4
      · simp (disch := omega) only [v_178_69, u_178_0, x_aload0, x_sipush, p_69_11, x_jsr, f_69_8, x_call2_0, x_call2_1, x_call2_2, x_call2_3, x_call2_4, e_k_s, e_k_i, List.nil_append, List.cons_append, x_call3_0, x_call3_1, x_call3_2, x_call3_3, x_call3_4, x_ifCond_eq, x_ifCond_eqb, f_69_9, x_isub, x_if_icmp_ge, f_69_11, x_imul, x_iadd, x_goto, u_178_59, u_178_63, x_dup_i, x_dup_r, p_69_8, x_if_icmp_le, u_178_98, u_178_100, p_69_10, x_return, md_69_8, md_69_9, md_69_10, md_69_11, md_69_12, md_69_13, md_76, md_69_6, md_70, md_74, md_75, md_77, md_u_69_8, md_u_69_9, md_u_69_10, md_u_69_11, md_u_69_12, md_u_69_13, md_u_76, e4, e6, q3, ↓reduceIte, b01_0, ite_not, if_true, if_false, Int.reduceLT, Int.reduceEq]
      · simp (disch := omega) only [v_178_69, u_178_0, x_aload0, x_sipush, p_69_11, x_jsr, f_69_8, x_call2_0, x_call2_1, x_call2_2, x_call2_3, x_call2_4, e_k_s, e_k_i, List.nil_append, List.cons_append, x_call3_0, x_call3_1, x_call3_2, x_call3_3, x_call3_4, x_ifCond_eq, x_ifCond_eqb, f_69_9, x_isub, x_if_icmp_ge, f_69_11, x_imul, x_iadd, x_goto, u_178_59, u_178_63, x_dup_i, x_dup_r, p_69_8, x_if_icmp_le, u_178_98, u_178_100, p_69_10, x_return, md_69_8, md_69_9, md_69_10, md_69_11, md_69_12, md_69_13, md_76, md_69_6, md_70, md_74, md_75, md_77, md_u_69_8, md_u_69_9, md_u_69_10, md_u_69_11, md_u_69_12, md_u_69_13, md_u_76, e4, e6, q3, ↓reduceIte, b01_0, ite_not, if_true, if_false, Int.reduceLT, Int.reduceEq]
    · exact neg a v a0 a1 q
theorem m_num (hT : tpm M A n) (hb : 0 ≤ b ∧ b ≤ n) : s_S X (d + 2) 178 [.ref 69] (mm (md M b b t v op st Sp) J) = some ([], mm (md M (dge A n b) b (if 4 < dge A n b - b then 101 else 100) (vl A n b) op st Sp) J) := by
  have hn := hT.1
  have h2 : dge A n b ≤ n := av_le (P := isD) (A := A) hb.2
  have h1 : b ≤ dge A n b := av_ge
  have e1 := m_dg (X := X) (d := d) (J := J) (b := b) (t := t) (op := op) (st := st) (Sp := Sp) hT hb.1 (n - b).toNat b 0 (Int.le_refl b) hb.2 (by omega)
  unfold vl
  by_cases q : 4 < dge A n b - b
  · rw [if_pos q]
    simp (disch := omega) only [v_178_69, u_178_0, x_aload0, x_sipush, p_69_11, x_jsr, f_69_8, x_call2_0, x_call2_1, x_call2_2, x_call2_3, x_call2_4, e_k_s, e_k_i, List.nil_append, List.cons_append, x_call3_0, x_call3_1, x_call3_2, x_call3_3, x_call3_4, x_ifCond_eq, x_ifCond_eqb, f_69_9, x_isub, x_if_icmp_ge, f_69_11, x_imul, x_iadd, x_goto, u_178_59, u_178_63, x_dup_i, x_dup_r, p_69_8, u_178_79, x_if_icmp_le, u_178_98, u_178_100, p_69_10, x_return, md_69_8, md_69_9, md_69_10, md_69_11, md_69_12, md_69_13, md_76, md_69_6, md_70, md_74, md_75, md_77, md_u_69_8, md_u_69_9, md_u_69_10, md_u_69_11, md_u_69_12, md_u_69_13, md_u_76, e1, q, ↓reduceIte, b01_0, ite_not, if_true, if_false, Int.reduceLT, Int.reduceEq]
  · rw [if_neg q]
    simp (disch := omega) only [v_178_69, u_178_0, x_aload0, x_sipush, p_69_11, x_jsr, f_69_8, x_call2_0, x_call2_1, x_call2_2, x_call2_3, x_call2_4, e_k_s, e_k_i, List.nil_append, List.cons_append, x_call3_0, x_call3_1, x_call3_2, x_call3_3, x_call3_4, x_ifCond_eq, x_ifCond_eqb, f_69_9, x_isub, x_if_icmp_ge, f_69_11, x_imul, x_iadd, x_goto, u_178_59, u_178_63, x_dup_i, x_dup_r, p_69_8, u_178_79, x_if_icmp_le, u_178_98, u_178_100, p_69_10, x_return, md_69_8, md_69_9, md_69_10, md_69_11, md_69_12, md_69_13, md_76, md_69_6, md_70, md_74, md_75, md_77, md_u_69_8, md_u_69_9, md_u_69_10, md_u_69_11, md_u_69_12, md_u_69_13, md_u_76, e1, q, ↓reduceIte, b01_0, ite_not, if_true, if_false, Int.reduceLT, Int.reduceEq]
/-- a word -/
theorem m_nxt (hT : tpm M A n) (ha : 0 ≤ a ∧ a ≤ n) : ∃ v', s_S X (d + 4) 174 [.ref 69] (mm (md M a b t v op st Sp) J) = some ([], mm (md M (en A n (sk A n a)) (sk A n a) (tk A n (sk A n a)) v' op st Sp) J) ∧ (wd A n (sk A n a) = 18 → v' = vl A n (sk A n a)) := by
  have h1 := hT.1
  have h3 := hT.2.2.1
  have e0 := m_skp (X := X) (d := d + 2) (J := J) (b := b) (t := t) (v := v) (op := op) (st := st) (Sp := Sp) (x := .retAddr 0) hT (n - a).toNat a ha.1 ha.2 (by omega)
  have b0 : a ≤ sk A n a := av_ge
  have b1 : sk A n a ≤ n := av_le ha.2
  generalize sk A n a = p at e0 b0 b1 ⊢
  unfold wd en tk
  by_cases c1 : n ≤ p
  · simp only [if_pos c1]
    have e5 := m_by0 (X := X) (d := d + 2) (J := J) (a := p) (b := p) (t := t) (v := v) (op := op) (st := st) (Sp := Sp) hT (k := p) (by omega)
    refine ⟨v, ?_, fun z => by omega⟩
    simp (disch := omega) only [v_174_69, x_aload0, f_69_8, x_call2_0, x_call2_1, x_call2_2, x_call2_3, x_call2_4, e_k_s, e_k_i, List.nil_append, List.cons_append, x_sipush, x_if_icmp_ne, x_dup_i, x_dup_r, x_iadd, p_69_8, x_goto, u_174_26, p_69_9, x_istore1i, x_istore1r, x_istore1u, x_iload1, x_ifCond_ge, p_69_10, u_174_55, x_call3_0, x_call3_1, x_call3_2, x_call3_3, x_call3_4, x_ifCond_eq, x_ifCond_eqb, x_call1_0, x_call1_1, x_call1_2, x_call1_3, x_call1_4, u_174_73, u_174_91, x_jsr, u_174_110, x_return, md_69_8, md_69_9, md_69_10, md_69_11, md_69_12, md_69_13, md_76, md_69_6, md_70, md_74, md_75, md_77, md_u_69_8, md_u_69_9, md_u_69_10, md_u_69_11, md_u_69_12, md_u_69_13, md_u_76, e0, e5, ↓reduceIte, b01_0, ite_not, if_true, if_false, Int.reduceLT, Int.reduceEq]
  · simp only [if_neg c1]
    have hb : p < n := by omega
    obtain ⟨e1, e2, e3⟩ := h3 p (by omega) hb
    have e5 := m_by1 (X := X) (d := d + 2) (J := J) (a := p) (b := p) (t := t) (v := v) (op := op) (st := st) (Sp := Sp) hT (k := p) (by omega)
    have hn0 : ¬ A p < 0 := by omega
    by_cases c2 : isL (A p) = true
    · simp only [if_pos c2]
      have e4 := fun N => m_in (X := X) (d := d + 2) (I := N) (J := J) (v := A p) (a := 97) (b := 122) (isL_iff.mp c2) ⟨by omega, by decide, by decide⟩
      have e7 := m_name (X := X) (d := d) (J := J) (t := t) (v := v) (op := op) (st := st) (Sp := Sp) hT (b := p) ⟨by omega, by omega⟩
      refine ⟨v, ?_, fun z => ?_⟩
      · simp (disch := omega) only [v_174_69, x_aload0, f_69_8, x_call2_0, x_call2_1, x_call2_2, x_call2_3, x_call2_4, e_k_s, e_k_i, List.nil_append, List.cons_append, x_sipush, x_if_icmp_ne, x_dup_i, x_dup_r, x_iadd, p_69_8, x_goto, u_174_26, p_69_9, x_istore1i, x_istore1r, x_istore1u, x_iload1, x_ifCond_ge, p_69_10, u_174_55, x_call3_0, x_call3_1, x_call3_2, x_call3_3, x_call3_4, x_ifCond_eq, x_ifCond_eqb, x_call1_0, x_call1_1, x_call1_2, x_call1_3, x_call1_4, u_174_73, u_174_91, x_jsr, u_174_110, x_return, md_69_8, md_69_9, md_69_10, md_69_11, md_69_12, md_69_13, md_76, md_69_6, md_70, md_74, md_75, md_77, md_u_69_8, md_u_69_9, md_u_69_10, md_u_69_11, md_u_69_12, md_u_69_13, md_u_76, e0, e5, hn0, e4, e7, ↓reduceIte, b01_0, ite_not, if_true, if_false, Int.reduceLT, Int.reduceEq]
      · exfalso
        have : ∀ (N : List (List Int)) (k : Int) (L : List Int), nix N k L = 19 ∨ (k ≤ nix N k L ∧ nix N k L < k + N.length) := by
          intro N
          induction N with
          | nil => intro k L; exact Or.inl rfl
          | cons x N ih =>
            intro k L
            have e : nix (x :: N) k L = if L = x then k else nix N (k + 1) L := rfl
            rw [e, List.length_cons]
            split
            · omega
            · have := ih (k + 1) L
              omega
        have := this nmz 0 (wln A (lee A n p - p).toNat p)
        have l18 : nmz.length = 18 := rfl
        omega
    · simp only [if_neg c2]
      have e4 := fun N => m_nin (X := X) (d := d + 2) (I := N) (J := J) (v := A p) (a := 97) (b := 122) (by have g : ¬ (97 ≤ A p ∧ A p ≤ 122) := fun q => c2 (isL_iff.mpr q); omega) ⟨by omega, by decide, by decide⟩
      by_cases c3 : isD (A p) = true
      · simp only [if_pos c3]
        have e6 := fun N => m_in (X := X) (d := d + 2) (I := N) (J := J) (v := A p) (a := 48) (b := 57) (isD_iff.mp c3) ⟨by omega, by decide, by decide⟩
        have e7 := m_num (X := X) (d := d + 1) (J := J) (t := t) (v := v) (op := op) (st := st) (Sp := Sp) hT (b := p) ⟨by omega, by omega⟩
        refine ⟨vl A n p, ?_, fun _ => rfl⟩
        simp (disch := omega) only [v_174_69, x_aload0, f_69_8, x_call2_0, x_call2_1, x_call2_2, x_call2_3, x_call2_4, e_k_s, e_k_i, List.nil_append, List.cons_append, x_sipush, x_if_icmp_ne, x_dup_i, x_dup_r, x_iadd, p_69_8, x_goto, u_174_26, p_69_9, x_istore1i, x_istore1r, x_istore1u, x_iload1, x_ifCond_ge, p_69_10, u_174_55, x_call3_0, x_call3_1, x_call3_2, x_call3_3, x_call3_4, x_ifCond_eq, x_ifCond_eqb, x_call1_0, x_call1_1, x_call1_2, x_call1_3, x_call1_4, u_174_73, u_174_91, x_jsr, u_174_110, x_return, md_69_8, md_69_9, md_69_10, md_69_11, md_69_12, md_69_13, md_76, md_69_6, md_70, md_74, md_75, md_77, md_u_69_8, md_u_69_9, md_u_69_10, md_u_69_11, md_u_69_12, md_u_69_13, md_u_76, e0, e5, hn0, e4, e6, e7, ↓reduceIte, b01_0, ite_not, if_true, if_false, Int.reduceLT, Int.reduceEq]
      · simp only [if_neg c3]
        have e6 := fun N => m_nin (X := X) (d := d + 2) (I := N) (J := J) (v := A p) (a := 48) (b := 57) (by have g : ¬ (48 ≤ A p ∧ A p ≤ 57) := fun q => c3 (isD_iff.mpr q); omega) ⟨by omega, by decide, by decide⟩
        refine ⟨v, ?_, fun z => ?_⟩
        · simp (disch := omega) only [v_174_69, x_aload0, f_69_8, x_call2_0, x_call2_1, x_call2_2, x_call2_3, x_call2_4, e_k_s, e_k_i, List.nil_append, List.cons_append, x_sipush, x_if_icmp_ne, x_dup_i, x_dup_r, x_iadd, p_69_8, x_goto, u_174_26, p_69_9, x_istore1i, x_istore1r, x_istore1u, x_iload1, x_ifCond_ge, p_69_10, u_174_55, x_call3_0, x_call3_1, x_call3_2, x_call3_3, x_call3_4, x_ifCond_eq, x_ifCond_eqb, x_call1_0, x_call1_1, x_call1_2, x_call1_3, x_call1_4, u_174_73, u_174_91, x_jsr, u_174_110, x_return, md_69_8, md_69_9, md_69_10, md_69_11, md_69_12, md_69_13, md_76, md_69_6, md_70, md_74, md_75, md_77, md_u_69_8, md_u_69_9, md_u_69_10, md_u_69_11, md_u_69_12, md_u_69_13, md_u_76, e0, e5, hn0, e4, e6, ↓reduceIte, b01_0, ite_not, if_true, if_false, Int.reduceLT, Int.reduceEq]
        · have := sgw_b (c := A p)
          omega
end
