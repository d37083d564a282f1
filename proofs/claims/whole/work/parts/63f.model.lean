/-! THE MODEL reads conditions -/
def cdn (p : prt) : Int := if p.1 = -1 then 10015 else if p.1 = -2 then 10013 else 10014
/-- the steps in a row -/
def spx (Sp : Int → Int) : List prt → Prop
  | [] => True
  | p :: t => (p.1 < 0 → Sp (off t) = cdn p) ∧ (0 ≤ p.1 → Sp (off t) = p.2.1 ∧ Sp (off t + 1) = p.2.2 ∧ Sp (off t + 2) = 10010 + p.1) ∧ spx Sp t
theorem off_ge (C : List prt) : 0 ≤ off C := by
  have := off_len C
  omega
theorem spx_up {Sp : Int → Int} {k v : Int} : ∀ {C : List prt}, off C ≤ k → spx Sp C → spx (upf Sp k v) C
  | [], _, _ => trivial
  | p :: t, h, hp => by
    have e : off (p :: t) = off t + (if p.1 < 0 then 1 else 3) := rfl
    rw [e] at h
    by_cases q : p.1 < 0
    · rw [if_pos q] at h
      refine ⟨fun _ => ?_, fun y => by omega, spx_up (C := t) (by omega) hp.2.2⟩
      show (if off t = k then v else Sp (off t)) = _
      rw [if_neg (by omega)]
      exact hp.1 q
    · rw [if_neg q] at h
      obtain ⟨g1, g2, g3⟩ := hp.2.1 (by omega)
      refine ⟨fun y => absurd y q, fun _ => ⟨?_, ?_, ?_⟩, spx_up (C := t) (by omega) hp.2.2⟩
      · show (if off t = k then v else Sp (off t)) = _
        rw [if_neg (by omega)]
        exact g1
      · show (if off t + 1 = k then v else Sp (off t + 1)) = _
        rw [if_neg (by omega)]
        exact g2
      · show (if off t + 2 = k then v else Sp (off t + 2)) = _
        rw [if_neg (by omega)]
        exact g3
theorem off_1 {p : prt} {C : List prt} (h : p.1 < 0) : off (p :: C) = off C + 1 := by
  show off C + (if p.1 < 0 then 1 else 3) = _
  rw [if_pos h]
theorem off_3 {p : prt} {C : List prt} (h : 0 ≤ p.1) : off (p :: C) = off C + 3 := by
  show off C + (if p.1 < 0 then 1 else 3) = _
  rw [if_neg (by omega)]
theorem spx_1 {Sp : Int → Int} {C : List prt} {p : prt} (h : p.1 < 0) (hs : spx Sp C) : spx (upf Sp (off C) (cdn p)) (p :: C) := ⟨fun _ => if_pos rfl, fun y => by omega, spx_up (Int.le_refl _) hs⟩
theorem spx_3 {Sp : Int → Int} {C : List prt} {p : prt} (h : 0 ≤ p.1) (hs : spx Sp C) : spx (upf (upf (upf Sp (off C) p.2.1) (off C + 1) p.2.2) (off C + 1 + 1) (10010 + p.1)) (p :: C) := by
  refine ⟨fun y => by omega, fun _ => ⟨?_, ?_, ?_⟩, spx_up (by omega) (spx_up (by omega) (spx_up (Int.le_refl _) hs))⟩
  · unfold upf
    rw [if_neg (by omega), if_neg (by omega), if_pos rfl]
  · unfold upf
    rw [if_neg (by omega), if_pos rfl]
  · unfold upf
    rw [if_pos (by omega)]
section
variable {A : Int → Int} {n b : Int}
theorem tk_b (h : b < n → 0 ≤ A b ∧ A b ≤ 255) : -1 ≤ tk A n b ∧ tk A n b ≤ 455 := by
  have := TW_tk h
  unfold TW at this
  omega
theorem tk_low (h : b < n → 0 ≤ A b ∧ A b ≤ 255) : (0 ≤ tk A n b ∧ tk A n b ≤ 9 ↔ wd A n b ≤ 9) ∧ (wd A n b ≤ 9 → tk A n b = wd A n b) := by
  have := TW_tk h
  unfold TW at this
  omega
theorem tk_jn (h : b < n → 0 ≤ A b ∧ A b ≤ 255) : (tk A n b = 10 ↔ wd A n b = 12) ∧ (tk A n b = 11 ↔ wd A n b = 10) ∧ (tk A n b = 12 ↔ wd A n b = 11) := by
  have := TW_tk h
  unfold TW at this
  omega
theorem tk_br (h : b < n → 0 ≤ A b ∧ A b ≤ 255) : (tk A n b = 240 ↔ wd A n b = 24) ∧ (tk A n b = 241 ↔ wd A n b = 25) ∧ (tk A n b = 259 ↔ wd A n b = 26) ∧ (tk A n b = -1 ↔ wd A n b = 20) := by
  have := TW_tk h
  unfold TW at this
  omega
theorem tk_vl (h : b < n → 0 ≤ A b ∧ A b ≤ 255) : (tk A n b = 100 ↔ wd A n b = 18) ∧ (13 ≤ tk A n b ∧ tk A n b ≤ 17 ↔ 13 ≤ wd A n b ∧ wd A n b ≤ 17) ∧ (13 ≤ wd A n b ∧ wd A n b ≤ 17 → tk A n b = wd A n b) := by
  have := TW_tk h
  unfold TW at this
  omega
theorem tk_sg (h : b < n → 0 ≤ A b ∧ A b ≤ 255) : (tk A n b = 260 ↔ wd A n b = 21) ∧ (tk A n b = 261 ↔ wd A n b = 22) ∧ (tk A n b = 262 ↔ wd A n b = 23) := by
  have := TW_tk h
  unfold TW at this
  omega
end
/-- the model stands at a word -/
def msx (M : Nat → Int → Int) (A : Int → Int) (n : Int) (I : Nat → Int → Int) (b : Int) (C : List prt) (o : Int) : Prop := ∃ v Sp, I = md M (en A n b) b (tk A n b) v o (off C) Sp ∧ (wd A n b = 18 → v = vl A n b) ∧ spx Sp C
def mft (M : Nat → Int → Int) (I : Nat → Int → Int) (b : Int) : Prop := ∃ a t v o st Sp, I = md M a b t v o st Sp
def mOk (X : e_X) (D : Nat) (A : Int → Int) (n : Int) (M J : Nat → Int → Int) (c : Nat) (o : Int) (P : Int → Prop) (F : Int → List prt → prs) : Prop := ∀ (b : Int) (C : List prt) (I : Nat → Int → Int), (0 ≤ b ∧ b ≤ n) → P b → off C ≤ b → msx M A n I b C o → ∃ I', s_S X D c [.ref 69] (mm I J) = some ([.int (iI (if (F b C).1 = true then 1 else 0))], mm I' J) ∧ ((F b C).1 = true → msx M A n I' (F b C).2.1 (F b C).2.2 o) ∧ ((F b C).1 = false → mft M I' (F b C).2.1)
theorem msx_ft {M I : Nat → Int → Int} {A : Int → Int} {n b o : Int} {C : List prt} (h : msx M A n I b C o) : mft M I b := by
  obtain ⟨v, Sp, h1, h2, h3⟩ := h
  exact ⟨_, _, _, _, _, _, h1⟩
section
variable {X : e_X} {d : Nat} {M I J : Nat → Int → Int} {a b t v op st : Int} {Sp : Int → Int} {A : Int → Int} {n : Int} {C : List prt} {F : Int → List prt → prs}
theorem tpm_b (hT : tpm M A n) {b : Int} (hb : 0 ≤ b) : b < n → 0 ≤ A b ∧ A b ≤ 255 := fun h => (hT.2.2.1 b hb h).2
theorem m_adv (hT : tpm M A n) (hb : 0 ≤ b ∧ b ≤ n) (h : msx M A n I b C op) : ∃ I', s_S X (d + 4) 174 [.ref 69] (mm I J) = some ([], mm I' J) ∧ msx M A n I' (ns A n b) C op := by
  obtain ⟨v, Sp, rfl, h1, h2⟩ := h
  have e0 := en_le (A := A) hb.2
  obtain ⟨v', e, hv⟩ := m_nxt (X := X) (d := d) (J := J) (a := en A n b) (b := b) (t := tk A n b) (v := v) (op := op) (st := off C) (Sp := Sp) hT ⟨by omega, e0.2.1⟩
  exact ⟨_, e, v', Sp, rfl, hv, h2⟩
theorem m_take1 (hT : tpm M A n) (hb : 0 ≤ b ∧ b ≤ n) {x : Int} (hx : tk A n b = x) (h : msx M A n I b C op) : ∃ I', s_S X (d + 5) 180 [.ref 69, .int (iI x)] (mm I J) = some ([.int (iI 1)], mm I' J) ∧ msx M A n I' (ns A n b) C op := by
  have tb := tk_b (tpm_b hT hb.1)
  obtain ⟨I', e, hI⟩ := m_adv (X := X) (d := d) (J := J) hT hb h
  refine ⟨I', ?_, hI⟩
  obtain ⟨v, Sp, rfl, h1, h2⟩ := h
  subst hx
  simp (disch := omega) only [v_180_69, u_180_0, x_aload0, f_69_10, x_iload1, x_if_icmp_ne, x_sipush, x_goto, u_180_12, x_jsr, u_180_13, x_istore2i, x_istore2r, x_istore2u, x_iload2, x_ifCond_eq, x_ifCond_eqb, x_call1_0, x_call1_1, x_call1_2, x_call1_3, x_call1_4, e_k_s, e_k_i, List.nil_append, List.cons_append, u_180_22, x_zret0, x_zret1, x_zretb, md_69_8, md_69_9, md_69_10, md_69_11, md_69_12, md_69_13, md_76, md_69_6, md_70, md_74, md_75, md_77, md_u_69_8, md_u_69_9, md_u_69_10, md_u_69_11, md_u_69_12, md_u_69_13, md_u_76, e, eq_self, ↓reduceIte, b01_0, ite_not, if_true, if_false, Int.reduceLT, Int.reduceEq]
theorem m_take0 (hT : tpm M A n) (hb : 0 ≤ b ∧ b ≤ n) {x : Int} (hx : ¬ tk A n b = x) (hr : 0 ≤ x ∧ x ≤ 300) (h : msx M A n I b C op) : s_S X (d + 5) 180 [.ref 69, .int (iI x)] (mm I J) = some ([.int (iI 0)], mm I J) := by
  have tb := tk_b (tpm_b hT hb.1)
  obtain ⟨v, Sp, rfl, h1, h2⟩ := h
  simp (disch := omega) only [v_180_69, u_180_0, x_aload0, f_69_10, x_iload1, x_if_icmp_ne, x_sipush, x_goto, u_180_12, x_jsr, u_180_13, x_istore2i, x_istore2r, x_istore2u, x_iload2, x_ifCond_eq, x_ifCond_eqb, x_call1_0, x_call1_1, x_call1_2, x_call1_3, x_call1_4, e_k_s, e_k_i, List.nil_append, List.cons_append, u_180_22, x_zret0, x_zret1, x_zretb, md_69_8, md_69_9, md_69_10, md_69_11, md_69_12, md_69_13, md_76, md_69_6, md_70, md_74, md_75, md_77, md_u_69_8, md_u_69_9, md_u_69_10, md_u_69_11, md_u_69_12, md_u_69_13, md_u_76, hx, ↓reduceIte, b01_0, ite_not, if_true, if_false, Int.reduceLT, Int.reduceEq]
theorem m_lays {x : Int} (hs : 0 ≤ st ∧ st < 200) : s_S X (d + 1) 187 [.ref 69, .int (iI x)] (mm (md M a b t v op st Sp) J) = some ([], mm (md M a b t v op (st + 1) (upf Sp st x)) J) := by
  simp (disch := omega) only [v_187_69, u_187_0, x_aload0, k_69_14, f_69_13, x_iload1, x_dup_i, x_dup_r, x_sipush, x_iadd, p_69_13, x_return, is_76, md_69_8, md_69_9, md_69_10, md_69_11, md_69_12, md_69_13, md_76, md_69_6, md_70, md_74, md_75, md_77, md_u_69_8, md_u_69_9, md_u_69_10, md_u_69_11, md_u_69_12, md_u_69_13, md_u_76, ↓reduceIte, b01_0, ite_not, if_true, if_false, Int.reduceLT, Int.reduceEq]
theorem m_lay1 {p : prt} (hp : p.1 < 0) (hs : off C < 200) (h : msx M A n I b C op) : ∃ I', s_S X (d + 1) 187 [.ref 69, .int (iI (cdn p))] (mm I J) = some ([], mm I' J) ∧ msx M A n I' b (p :: C) op := by
  obtain ⟨v, Sp, rfl, h1, h2⟩ := h
  have o0 := off_ge C
  refine ⟨_, m_lays ⟨o0, hs⟩, v, _, ?_, h1, spx_1 hp h2⟩
  rw [off_1 hp]
theorem m_valu (hT : tpm M A n) (hb : 0 ≤ b ∧ b ≤ n) (hv : wd A n b = 18 → v = vl A n b) (hw : isV (wd A n b)) (hs : 0 ≤ st ∧ st < 200) : ∃ v', s_S X (d + 5) 186 [.ref 69] (mm (md M (en A n b) b (tk A n b) v op st Sp) J) = some ([.int (iI 1)], mm (md M (en A n (ns A n b)) (ns A n b) (tk A n (ns A n b)) v' op (st + 1) (upf Sp st (vof A n b))) J) ∧ (wd A n (ns A n b) = 18 → v' = vl A n (ns A n b)) := by
  have tb := tk_b (tpm_b hT hb.1)
  have tv := tk_vl (tpm_b hT hb.1)
  have e0 := en_le (A := A) hb.2
  obtain ⟨v', e, hv'⟩ := m_nxt (X := X) (d := d) (J := J) (a := en A n b) (b := b) (t := tk A n b) (v := v) (op := op) (st := st + 1) (Sp := upf Sp st (vof A n b)) hT ⟨by omega, e0.2.1⟩
  have e2 := m_lays (X := X) (d := d + 3) (M := M) (J := J) (a := en A n b) (b := b) (t := tk A n b) (v := v) (op := op) (st := st) (Sp := Sp) (x := vof A n b) hs
  refine ⟨v', ?_, hv'⟩
  have ens : ns A n b = sk A n (en A n b) := rfl
  rw [ens]
  unfold vof at e e2 ⊢
  by_cases q : wd A n b = 18
  · have q1 := tv.1.mpr q
    rw [if_pos q, ← hv q] at e e2 ⊢
    simp (disch := omega) only [v_186_69, u_186_0, x_aload0, f_69_10, x_sipush, x_if_icmp_eq, x_call3_0, x_call3_1, x_call3_2, x_call3_3, x_call3_4, e_k_s, e_k_i, List.nil_append, List.cons_append, x_ifCond_eq, x_ifCond_eqb, x_jsr, u_186_23, x_goto, u_186_27, u_186_28, x_istore1i, x_istore1r, x_istore1u, x_iload1, x_if_icmp_ne, f_69_11, u_186_50, x_iadd, x_isub, u_186_61, x_call2_0, x_call2_1, x_call2_2, x_call2_3, x_call2_4, x_call1_0, x_call1_1, x_call1_2, x_call1_3, x_call1_4, u_186_68, x_zret0, x_zret1, x_zretb, md_69_8, md_69_9, md_69_10, md_69_11, md_69_12, md_69_13, md_76, md_69_6, md_70, md_74, md_75, md_77, md_u_69_8, md_u_69_9, md_u_69_10, md_u_69_11, md_u_69_12, md_u_69_13, md_u_76, q1, ↓reduceIte, b01_0, ite_not, if_true, if_false, Int.reduceLT, Int.reduceEq]
    rw [q1] at e e2
    simp (disch := omega) only [v_186_69, u_186_0, x_aload0, f_69_10, x_sipush, x_if_icmp_eq, x_call3_0, x_call3_1, x_call3_2, x_call3_3, x_call3_4, e_k_s, e_k_i, List.nil_append, List.cons_append, x_ifCond_eq, x_ifCond_eqb, x_jsr, u_186_23, x_goto, u_186_27, u_186_28, x_istore1i, x_istore1r, x_istore1u, x_iload1, x_if_icmp_ne, f_69_11, u_186_50, x_iadd, x_isub, u_186_61, x_call2_0, x_call2_1, x_call2_2, x_call2_3, x_call2_4, x_call1_0, x_call1_1, x_call1_2, x_call1_3, x_call1_4, u_186_68, x_zret0, x_zret1, x_zretb, md_69_8, md_69_9, md_69_10, md_69_11, md_69_12, md_69_13, md_76, md_69_6, md_70, md_74, md_75, md_77, md_u_69_8, md_u_69_9, md_u_69_10, md_u_69_11, md_u_69_12, md_u_69_13, md_u_76, e2, e, ↓reduceIte, b01_0, ite_not, if_true, if_false, Int.reduceLT, Int.reduceEq]
  · have q1 : ¬ tk A n b = 100 := fun y => q (tv.1.mp y)
    have q2 := tv.2.2 (by omega)
    have e3 := fun N => m_in (X := X) (d := d + 3) (I := N) (J := J) (v := tk A n b) (a := 13) (b := 17) (by omega) ⟨by omega, by decide, by decide⟩
    rw [if_neg q, ← q2] at e e2 ⊢
    simp (disch := omega) only [v_186_69, u_186_0, x_aload0, f_69_10, x_sipush, x_if_icmp_eq, x_call3_0, x_call3_1, x_call3_2, x_call3_3, x_call3_4, e_k_s, e_k_i, List.nil_append, List.cons_append, x_ifCond_eq, x_ifCond_eqb, x_jsr, u_186_23, x_goto, u_186_27, u_186_28, x_istore1i, x_istore1r, x_istore1u, x_iload1, x_if_icmp_ne, f_69_11, u_186_50, x_iadd, x_isub, u_186_61, x_call2_0, x_call2_1, x_call2_2, x_call2_3, x_call2_4, x_call1_0, x_call1_1, x_call1_2, x_call1_3, x_call1_4, u_186_68, x_zret0, x_zret1, x_zretb, md_69_8, md_69_9, md_69_10, md_69_11, md_69_12, md_69_13, md_76, md_69_6, md_70, md_74, md_75, md_77, md_u_69_8, md_u_69_9, md_u_69_10, md_u_69_11, md_u_69_12, md_u_69_13, md_u_76, q1, e3, e2, e, ↓reduceIte, b01_0, ite_not, if_true, if_false, Int.reduceLT, Int.reduceEq]
theorem m_vno (hT : tpm M A n) (hb : 0 ≤ b ∧ b ≤ n) (hw : ¬ isV (wd A n b)) : s_S X (d + 5) 186 [.ref 69] (mm (md M a b (tk A n b) v op st Sp) J) = some ([.int (iI 0)], mm (md M a b (tk A n b) v op st Sp) J) := by
  have tb := tk_b (tpm_b hT hb.1)
  have tv := tk_vl (tpm_b hT hb.1)
  have q1 : ¬ tk A n b = 100 := fun y => hw (Or.inl (tv.1.mp y))
  have e3 := fun N => m_nin (X := X) (d := d + 3) (I := N) (J := J) (v := tk A n b) (a := 13) (b := 17) (by
    have : ¬ (13 ≤ tk A n b ∧ tk A n b ≤ 17) := fun y => hw (Or.inr (tv.2.1.mp y))
    omega) ⟨by omega, by decide, by decide⟩
  simp (disch := omega) only [v_186_69, u_186_0, x_aload0, f_69_10, x_sipush, x_if_icmp_eq, x_call3_0, x_call3_1, x_call3_2, x_call3_3, x_call3_4, e_k_s, e_k_i, List.nil_append, List.cons_append, x_ifCond_eq, x_ifCond_eqb, x_jsr, u_186_23, x_goto, u_186_27, u_186_28, x_istore1i, x_istore1r, x_istore1u, x_iload1, x_if_icmp_ne, f_69_11, u_186_50, x_iadd, x_isub, u_186_61, x_call2_0, x_call2_1, x_call2_2, x_call2_3, x_call2_4, x_call1_0, x_call1_1, x_call1_2, x_call1_3, x_call1_4, u_186_68, x_zret0, x_zret1, x_zretb, md_69_8, md_69_9, md_69_10, md_69_11, md_69_12, md_69_13, md_76, md_69_6, md_70, md_74, md_75, md_77, md_u_69_8, md_u_69_9, md_u_69_10, md_u_69_11, md_u_69_12, md_u_69_13, md_u_76, q1, e3, ↓reduceIte, b01_0, ite_not, if_true, if_false, Int.reduceLT, Int.reduceEq]
theorem m_pL (hT : tpm M A n) : mOk X (d + 6) A n M J 185 op (fun _ => True) (pL A n) := by
  intro b C I hb _ ho h
  have hn := hT.1
  have o0 := off_ge C
  obtain ⟨v, Sp, rfl, h1, h2⟩ := h
  have hft : ∀ (a' b' t' v' op' st' : Int) (Sp' : Int → Int), mft M (md M a' b' t' v' op' st' Sp') b' := fun a' b' t' v' op' st' Sp' => ⟨a', t', v', op', st', Sp', rfl⟩
  unfold pL
  by_cases c1 : isV (wd A n b)
  · rw [if_pos c1]
    have n1 := ns_lt (A := A) hb.2 (by omega)
    obtain ⟨v1, e1, hv1⟩ := m_valu (X := X) (d := d) (J := J) (op := op) (st := off C) (Sp := Sp) hT hb h1 c1 (by omega)
    have tb := tk_b (tpm_b hT (b := ns A n b) (by omega))
    have ts := tk_sg (tpm_b hT (b := ns A n b) (by omega))
    by_cases c2 : 21 ≤ wd A n (ns A n b) ∧ wd A n (ns A n b) ≤ 23
    · rw [if_pos c2]
      have n2 := ns_lt (A := A) n1.2 (by omega)
      have e0 := en_le (A := A) n1.2
      obtain ⟨v2, e2, hv2⟩ := m_nxt (X := X) (d := d + 1) (J := J) (a := en A n (ns A n b)) (b := ns A n b) (t := tk A n (ns A n b)) (v := v1) (op := op) (st := off C + 1) (Sp := upf Sp (off C) (vof A n b)) hT ⟨by omega, e0.2.1⟩
      have e2 : s_S X (d + 5) 174 [.ref 69] (mm (md M (en A n (ns A n b)) (ns A n b) (tk A n (ns A n b)) v1 op (off C + 1) (upf Sp (off C) (vof A n b))) J) = some ([], mm (md M (en A n (ns A n (ns A n b))) (ns A n (ns A n b)) (tk A n (ns A n (ns A n b))) v2 op (off C + 1) (upf Sp (off C) (vof A n b))) J) := e2
      have hv2 : wd A n (ns A n (ns A n b)) = 18 → v2 = vl A n (ns A n (ns A n b)) := hv2
      by_cases c3 : isV (wd A n (ns A n (ns A n b)))
      · rw [if_pos c3]
        obtain ⟨v3, e3, hv3⟩ := m_valu (X := X) (d := d) (J := J) (op := op) (st := off C + 1) (Sp := upf Sp (off C) (vof A n b)) hT ⟨by omega, n2.2⟩ hv2 c3 (by
          have := wd_20 (A := A) (n := n) (b := ns A n (ns A n b))
          omega)
        have e4 := fun x => m_lays (X := X) (d := d + 4) (M := M) (J := J) (a := en A n (ns A n (ns A n (ns A n b)))) (b := ns A n (ns A n (ns A n b))) (t := tk A n (ns A n (ns A n (ns A n b)))) (v := v3) (op := op) (st := off C + 1 + 1) (Sp := upf (upf Sp (off C) (vof A n b)) (off C + 1) (vof A n (ns A n (ns A n b)))) (x := x) (by
          have := wd_20 (A := A) (n := n) (b := ns A n (ns A n b))
          omega)
        have hs3 := spx_3 (p := (wd A n (ns A n b) - 21, vof A n b, vof A n (ns A n (ns A n b)))) (by simp only; omega) h2
        refine ⟨md M (en A n (ns A n (ns A n (ns A n b)))) (ns A n (ns A n (ns A n b))) (tk A n (ns A n (ns A n (ns A n b)))) v3 op (off C + 1 + 1 + 1) (upf (upf (upf Sp (off C) (vof A n b)) (off C + 1) (vof A n (ns A n (ns A n b)))) (off C + 1 + 1) (10010 + (wd A n (ns A n b) - 21))), ?_, fun _ => ⟨v3, _, ?_, hv3, hs3⟩, fun y => (by cases y)⟩
        · rw [if_pos rfl]
          have c4 : wd A n (ns A n b) = 21 ∨ wd A n (ns A n b) = 22 ∨ wd A n (ns A n b) = 23 := by omega
          rcases c4 with c4 | c4 | c4
          · have t1 := ts.1.mpr c4
            rw [t1] at e1 e2
            rw [c4]
            simp (disch := omega) only [v_185_69, u_185_0, x_aload0, x_call1_0, x_call1_1, x_call1_2, x_call1_3, x_call1_4, e_k_s, e_k_i, List.nil_append, List.cons_append, x_ifCond_ne, x_ifCond_neb, x_sipush, x_zret0, x_zret1, x_zretb, u_185_9, f_69_10, x_if_icmp_ne, x_goto, u_185_25, u_185_41, u_185_57, x_jsr, u_185_58, x_istore1i, x_istore1r, x_istore1u, x_iload1, u_185_65, u_185_78, x_call2_0, x_call2_1, x_call2_2, x_call2_3, x_call2_4, md_69_8, md_69_9, md_69_10, md_69_11, md_69_12, md_69_13, md_76, md_69_6, md_70, md_74, md_75, md_77, md_u_69_8, md_u_69_9, md_u_69_10, md_u_69_11, md_u_69_12, md_u_69_13, md_u_76, e1, e2, e3, e4, ↓reduceIte, b01_0, ite_not, if_true, if_false, Int.reduceLT, Int.reduceEq]
            rfl
          · have t1 := ts.2.1.mpr c4
            rw [t1] at e1 e2
            rw [c4]
            simp (disch := omega) only [v_185_69, u_185_0, x_aload0, x_call1_0, x_call1_1, x_call1_2, x_call1_3, x_call1_4, e_k_s, e_k_i, List.nil_append, List.cons_append, x_ifCond_ne, x_ifCond_neb, x_sipush, x_zret0, x_zret1, x_zretb, u_185_9, f_69_10, x_if_icmp_ne, x_goto, u_185_25, u_185_41, u_185_57, x_jsr, u_185_58, x_istore1i, x_istore1r, x_istore1u, x_iload1, u_185_65, u_185_78, x_call2_0, x_call2_1, x_call2_2, x_call2_3, x_call2_4, md_69_8, md_69_9, md_69_10, md_69_11, md_69_12, md_69_13, md_76, md_69_6, md_70, md_74, md_75, md_77, md_u_69_8, md_u_69_9, md_u_69_10, md_u_69_11, md_u_69_12, md_u_69_13, md_u_76, e1, e2, e3, e4, ↓reduceIte, b01_0, ite_not, if_true, if_false, Int.reduceLT, Int.reduceEq]
            rfl
          · have t1 := ts.2.2.mpr c4
            rw [t1] at e1 e2
            rw [c4]
            simp (disch := omega) only [v_185_69, u_185_0, x_aload0, x_call1_0, x_call1_1, x_call1_2, x_call1_3, x_call1_4, e_k_s, e_k_i, List.nil_append, List.cons_append, x_ifCond_ne, x_ifCond_neb, x_sipush, x_zret0, x_zret1, x_zretb, u_185_9, f_69_10, x_if_icmp_ne, x_goto, u_185_25, u_185_41, u_185_57, x_jsr, u_185_58, x_istore1i, x_istore1r, x_istore1u, x_iload1, u_185_65, u_185_78, x_call2_0, x_call2_1, x_call2_2, x_call2_3, x_call2_4, md_69_8, md_69_9, md_69_10, md_69_11, md_69_12, md_69_13, md_76, md_69_6, md_70, md_74, md_75, md_77, md_u_69_8, md_u_69_9, md_u_69_10, md_u_69_11, md_u_69_12, md_u_69_13, md_u_76, e1, e2, e3, e4, ↓reduceIte, b01_0, ite_not, if_true, if_false, Int.reduceLT, Int.reduceEq]
            rfl
        · rw [off_3 (by simp only; omega), show off C + 1 + 1 + 1 = off C + 3 by omega]
      · rw [if_neg c3]
        have e3 := m_vno (X := X) (d := d) (M := M) (J := J) (a := en A n (ns A n (ns A n b))) (v := v2) (op := op) (st := off C + 1) (Sp := upf Sp (off C) (vof A n b)) hT (b := ns A n (ns A n b)) ⟨by omega, n2.2⟩ c3
        refine ⟨_, ?_, fun y => (by cases y), fun _ => hft (en A n (ns A n (ns A n b))) (ns A n (ns A n b)) (tk A n (ns A n (ns A n b))) v2 op (off C + 1) (upf Sp (off C) (vof A n b))⟩
        have c4 : wd A n (ns A n b) = 21 ∨ wd A n (ns A n b) = 22 ∨ wd A n (ns A n b) = 23 := by omega
        rcases c4 with c4 | c4 | c4
        · have t1 := ts.1.mpr c4
          rw [t1] at e1 e2
          simp (disch := omega) only [v_185_69, u_185_0, x_aload0, x_call1_0, x_call1_1, x_call1_2, x_call1_3, x_call1_4, e_k_s, e_k_i, List.nil_append, List.cons_append, x_ifCond_ne, x_ifCond_neb, x_sipush, x_zret0, x_zret1, x_zretb, u_185_9, f_69_10, x_if_icmp_ne, x_goto, u_185_25, u_185_41, u_185_57, x_jsr, u_185_58, x_istore1i, x_istore1r, x_istore1u, x_iload1, u_185_65, u_185_78, x_call2_0, x_call2_1, x_call2_2, x_call2_3, x_call2_4, md_69_8, md_69_9, md_69_10, md_69_11, md_69_12, md_69_13, md_76, md_69_6, md_70, md_74, md_75, md_77, md_u_69_8, md_u_69_9, md_u_69_10, md_u_69_11, md_u_69_12, md_u_69_13, md_u_76, e1, e2, e3, ↓reduceIte, b01_0, ite_not, if_true, if_false, Int.reduceLT, Int.reduceEq]
          rfl
        · have t1 := ts.2.1.mpr c4
          rw [t1] at e1 e2
          simp (disch := omega) only [v_185_69, u_185_0, x_aload0, x_call1_0, x_call1_1, x_call1_2, x_call1_3, x_call1_4, e_k_s, e_k_i, List.nil_append, List.cons_append, x_ifCond_ne, x_ifCond_neb, x_sipush, x_zret0, x_zret1, x_zretb, u_185_9, f_69_10, x_if_icmp_ne, x_goto, u_185_25, u_185_41, u_185_57, x_jsr, u_185_58, x_istore1i, x_istore1r, x_istore1u, x_iload1, u_185_65, u_185_78, x_call2_0, x_call2_1, x_call2_2, x_call2_3, x_call2_4, md_69_8, md_69_9, md_69_10, md_69_11, md_69_12, md_69_13, md_76, md_69_6, md_70, md_74, md_75, md_77, md_u_69_8, md_u_69_9, md_u_69_10, md_u_69_11, md_u_69_12, md_u_69_13, md_u_76, e1, e2, e3, ↓reduceIte, b01_0, ite_not, if_true, if_false, Int.reduceLT, Int.reduceEq]
          rfl
        · have t1 := ts.2.2.mpr c4
          rw [t1] at e1 e2
          simp (disch := omega) only [v_185_69, u_185_0, x_aload0, x_call1_0, x_call1_1, x_call1_2, x_call1_3, x_call1_4, e_k_s, e_k_i, List.nil_append, List.cons_append, x_ifCond_ne, x_ifCond_neb, x_sipush, x_zret0, x_zret1, x_zretb, u_185_9, f_69_10, x_if_icmp_ne, x_goto, u_185_25, u_185_41, u_185_57, x_jsr, u_185_58, x_istore1i, x_istore1r, x_istore1u, x_iload1, u_185_65, u_185_78, x_call2_0, x_call2_1, x_call2_2, x_call2_3, x_call2_4, md_69_8, md_69_9, md_69_10, md_69_11, md_69_12, md_69_13, md_76, md_69_6, md_70, md_74, md_75, md_77, md_u_69_8, md_u_69_9, md_u_69_10, md_u_69_11, md_u_69_12, md_u_69_13, md_u_76, e1, e2, e3, ↓reduceIte, b01_0, ite_not, if_true, if_false, Int.reduceLT, Int.reduceEq]
          rfl
    · rw [if_neg c2]
      refine ⟨_, ?_, fun y => (by cases y), fun _ => hft (en A n (ns A n b)) (ns A n b) (tk A n (ns A n b)) v1 op (off C + 1) (upf Sp (off C) (vof A n b))⟩
      have t1 : ¬ tk A n (ns A n b) = 260 := fun y => c2 (by have := ts.1.mp y; omega)
      have t2 : ¬ tk A n (ns A n b) = 261 := fun y => c2 (by have := ts.2.1.mp y; omega)
      have t3 : ¬ tk A n (ns A n b) = 262 := fun y => c2 (by have := ts.2.2.mp y; omega)
      simp (disch := omega) only [v_185_69, u_185_0, x_aload0, x_call1_0, x_call1_1, x_call1_2, x_call1_3, x_call1_4, e_k_s, e_k_i, List.nil_append, List.cons_append, x_ifCond_ne, x_ifCond_neb, x_sipush, x_zret0, x_zret1, x_zretb, u_185_9, f_69_10, x_if_icmp_ne, x_goto, u_185_25, u_185_41, u_185_57, x_jsr, u_185_58, x_istore1i, x_istore1r, x_istore1u, x_iload1, u_185_65, u_185_78, x_call2_0, x_call2_1, x_call2_2, x_call2_3, x_call2_4, md_69_8, md_69_9, md_69_10, md_69_11, md_69_12, md_69_13, md_76, md_69_6, md_70, md_74, md_75, md_77, md_u_69_8, md_u_69_9, md_u_69_10, md_u_69_11, md_u_69_12, md_u_69_13, md_u_76, e1, t1, t2, t3, ↓reduceIte, b01_0, ite_not, if_true, if_false, Int.reduceLT, Int.reduceEq]
      rfl
  · rw [if_neg c1]
    have e3 := m_vno (X := X) (d := d) (M := M) (J := J) (a := en A n b) (v := v) (op := op) (st := off C) (Sp := Sp) hT hb c1
    refine ⟨_, ?_, fun y => (by cases y), fun _ => hft (en A n b) b (tk A n b) v op (off C) Sp⟩
    simp (disch := omega) only [v_185_69, u_185_0, x_aload0, x_call1_0, x_call1_1, x_call1_2, x_call1_3, x_call1_4, e_k_s, e_k_i, List.nil_append, List.cons_append, x_ifCond_ne, x_ifCond_neb, x_sipush, x_zret0, x_zret1, x_zretb, u_185_9, f_69_10, x_if_icmp_ne, x_goto, u_185_25, u_185_41, u_185_57, x_jsr, u_185_58, x_istore1i, x_istore1r, x_istore1u, x_iload1, u_185_65, u_185_78, x_call2_0, x_call2_1, x_call2_2, x_call2_3, x_call2_4, md_69_8, md_69_9, md_69_10, md_69_11, md_69_12, md_69_13, md_76, md_69_6, md_70, md_74, md_75, md_77, md_u_69_8, md_u_69_9, md_u_69_10, md_u_69_11, md_u_69_12, md_u_69_13, md_u_76, e3, ↓reduceIte, b01_0, ite_not, if_true, if_false, Int.reduceLT, Int.reduceEq]
    rfl
end
