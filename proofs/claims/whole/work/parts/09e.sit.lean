/-! SITTING DOWN, getting up -/
/-- a set with bit k as v -/
def stb (s k v : Int) : Int := s + (v - bt s k) * 2 ^ k.toNat
theorem stb_dec : (List.range 64).all (fun a => (List.range 6).all fun b => decide (iI a ||| (iI 1 <<< (iI b &&& 31)) = iI (stb a b 1)) && decide (iI a &&& ((iI 1 <<< (iI b &&& 31)) ^^^ iI (-1)) = iI (stb a b 0)) && decide (0 ≤ stb a b 1 ∧ stb a b 1 < 64 ∧ 0 ≤ stb a b 0 ∧ stb a b 0 ≤ a) && (List.range 6).all fun c => decide (bt (stb a b 1) c = if c = b then 1 else bt a c) && decide (bt (stb a b 0) c = if c = b then 0 else bt a c)) = true := by decide +kernel
theorem stb_i {s k : Int} (hs : 0 ≤ s ∧ s < 64) (hk : 0 ≤ k ∧ k < 6) : iI s ||| (iI 1 <<< (iI k &&& 31)) = iI (stb s k 1) ∧ iI s &&& ((iI 1 <<< (iI k &&& 31)) ^^^ iI (-1)) = iI (stb s k 0) ∧ (0 ≤ stb s k 1 ∧ stb s k 1 < 64 ∧ 0 ≤ stb s k 0 ∧ stb s k 0 ≤ s) ∧ ∀ c : Int, 0 ≤ c ∧ c < 6 → bt (stb s k 1) c = (if c = k then 1 else bt s c) ∧ bt (stb s k 0) c = if c = k then 0 else bt s c := by
  obtain ⟨a, rfl⟩ := Int.eq_ofNat_of_zero_le hs.1
  obtain ⟨b, rfl⟩ := Int.eq_ofNat_of_zero_le hk.1
  have h := List.all_eq_true.mp (List.all_eq_true.mp stb_dec a (List.mem_range.mpr (by omega))) b (List.mem_range.mpr (by omega))
  rw [Bool.and_eq_true, Bool.and_eq_true, Bool.and_eq_true] at h
  obtain ⟨⟨⟨h1, h2⟩, h3⟩, h4⟩ := h
  refine ⟨of_decide_eq_true h1, of_decide_eq_true h2, of_decide_eq_true h3, fun c hc => ?_⟩
  obtain ⟨c, rfl⟩ := Int.eq_ofNat_of_zero_le hc.1
  have h5 := List.all_eq_true.mp h4 c (List.mem_range.mpr (by omega))
  rw [Bool.and_eq_true] at h5
  have h6 := of_decide_eq_true h5.1
  have h7 := of_decide_eq_true h5.2
  have e : (((c : Nat) : Int) = ((b : Nat) : Int)) ↔ c = b := by omega
  simp only [e]
  exact ⟨h6, h7⟩
section
variable {X : e_X} {d : Nat} {I J : Nat → Int → Int}
theorem t_put1 (hs : 0 ≤ I 1 10 ∧ I 1 10 < 64) {k : Int} (hk : 0 ≤ k ∧ k < 6) : s_S X (d + 1) 74 [.ref 1, .int (iI k), .int (iI 1)] (mm I J) = some ([.int (iI (bt (I 1 10) k))], mm (up I 1 10 (stb (I 1 10) k 1)) J) := by
  have e := (stb_i hs hk).1
  have e2 := bt_i hs hk
  simp (disch := omega) only [v_74_1, u_74_0, x_aload0, f_1_10, x_iload1, x_ishr, x_sipush, x_iand, x_istore3i, x_istore3r, x_istore3u, x_iload2, x_ifCond_eq, x_ifCond_eqb, x_ishl, x_ior, x_goto, u_74_25, x_ixor, x_jsr, u_74_35, p_1_10, x_iload3, x_ireturn, e, e2, b01_0, ite_not, if_true, if_false, Int.reduceLT, Int.reduceEq]
theorem t_put0 (hs : 0 ≤ I 1 10 ∧ I 1 10 < 64) {k : Int} (hk : 0 ≤ k ∧ k < 6) : s_S X (d + 1) 74 [.ref 1, .int (iI k), .int (iI 0)] (mm I J) = some ([.int (iI (bt (I 1 10) k))], mm (up I 1 10 (stb (I 1 10) k 0)) J) := by
  have e := (stb_i hs hk).2.1
  have e2 := bt_i hs hk
  simp (disch := omega) only [v_74_1, u_74_0, x_aload0, f_1_10, x_iload1, x_ishr, x_sipush, x_iand, x_istore3i, x_istore3r, x_istore3u, x_iload2, x_ifCond_eq, x_ifCond_eqb, x_ishl, x_ior, x_goto, u_74_25, x_ixor, x_jsr, u_74_35, p_1_10, x_iload3, x_ireturn, e, e2, b01_0, ite_not, if_true, if_false, Int.reduceLT, Int.reduceEq]
/-- the least that would sit, from k on; none: -3 -/
def lwl (I : Nat → Int → Int) : Nat → Int → Int
  | 0, _ => -3
  | n + 1, k => if wsit I k then k else lwl I n (k + 1)
theorem t_lw1 (h : inv I) : ∀ (n : Nat) (k : Int), 0 ≤ k → k + n = I 1 9 → s_j X (d + 2) 80 2 [.ref 1, .int (iI k)] [] (mm I J) = some ([.int (iI (lwl I n k))], mm I J) := by
  have h1 := h.1
  intro n
  induction n with
  | zero =>
    intro k hk hn
    rw [u_80_2]
    simp (disch := omega) only [v_80_1, u_80_0, x_sipush, x_istore1i, x_istore1r, x_istore1u, x_jsr, x_iload1, x_aload0, f_1_9, x_if_icmp_ge, x_call2_0, x_call2_1, x_call2_2, x_call2_3, x_call2_4, e_k_s, e_k_i, List.nil_append, List.cons_append, x_ifCond_eq, x_ifCond_eqb, x_ireturn, u_80_20, x_iinc1i, x_iinc1r, x_iinc1u, x_goto, u_80_26, b01_0, ite_not, if_true, if_false, Int.reduceLT, Int.reduceEq]
    rw [if_neg (by omega)]
    rfl
  | succ n ih =>
    intro k hk hn
    have e1 := t_would (X := X) (d := d) (J := J) h (k := k) (by omega)
    rw [u_80_2]
    simp (disch := omega) only [v_80_1, u_80_0, x_sipush, x_istore1i, x_istore1r, x_istore1u, x_jsr, x_iload1, x_aload0, f_1_9, x_if_icmp_ge, x_call2_0, x_call2_1, x_call2_2, x_call2_3, x_call2_4, e_k_s, e_k_i, List.nil_append, List.cons_append, x_ifCond_eq, x_ifCond_eqb, x_ireturn, u_80_20, x_iinc1i, x_iinc1r, x_iinc1u, x_goto, u_80_26, e1, b01_0, ite_not, if_true, if_false, Int.reduceLT, Int.reduceEq]
    rw [if_pos (by omega)]
    unfold lwl
    by_cases hw : wsit I k
    · rw [if_pos hw, if_pos hw]
    · rw [if_neg hw, if_neg hw]
      exact ih (k + 1) (by omega) (by omega)
theorem t_lw (h : inv I) : s_S X (d + 3) 80 [.ref 1] (mm I J) = some ([.int (iI (lwl I (I 1 9).toNat 0))], mm I J) := by
  have e : s_S X (d + 3) 80 [.ref 1] (mm I J) = s_j X (d + 2) 80 2 [.ref 1, .int (iI 0)] [] (mm I J) := by
    simp (disch := omega) only [v_80_1, u_80_0, x_sipush, x_istore1i, x_istore1r, x_istore1u, x_jsr, x_iload1, x_aload0, f_1_9, x_if_icmp_ge, x_call2_0, x_call2_1, x_call2_2, x_call2_3, x_call2_4, e_k_s, e_k_i, List.nil_append, List.cons_append, x_ifCond_eq, x_ifCond_eqb, x_ireturn, u_80_20, x_iinc1i, x_iinc1r, x_iinc1u, x_goto, u_80_26, b01_0, ite_not, if_true, if_false, Int.reduceLT, Int.reduceEq]
  rw [e]
  exact t_lw1 h _ _ (by decide) (by have := h.1; omega)
/-- sitting down: how many, the table behind it -/
def sitN (I : Nat → Int → Int) (k : Int) : Int := if bt (I 1 10) k = 1 then 0 else if wsit I k then 1 else 0
def sitI (I : Nat → Int → Int) (k : Int) : Nat → Int → Int := if bt (I 1 10) k = 1 then I else if wsit I k then up (up I 1 14 (max 0 (I 1 14 - gr I k / 3))) 1 10 (stb (I 1 10) k 1) else up I 1 14 (max 0 (I 1 14 - 1))
theorem t_sit (h : inv I) {k : Int} (hk : 0 ≤ k ∧ k < I 1 9) : s_S X (d + 3) 81 [.ref 1, .int (iI k)] (mm I J) = some ([.int (iI (sitN I k))], mm (sitI I k) J) := by
  have h1 := h.1
  have h14 := h.2.2.2.2.1
  have hg := gr_b h hk
  have e1 := t_seat (X := X) (d := d + 1) (I := I) (J := J) (s := I 1 10) (k := k) rfl (inv_s h) (by omega)
  have e2 := t_would (X := X) (d := d) (J := J) h hk
  have e3 := t_gri (X := X) (d := d + 1) (J := J) h hk
  have e4 := t_put1 (X := X) (d := d + 1) (I := up I 1 14 (max 0 (I 1 14 - gr I k / 3))) (J := J) (by rw [up_k (by decide)]; exact inv_s h) (k := k) (by omega)
  rw [up_k (by decide)] at e4
  unfold sitN sitI
  by_cases c1 : bt (I 1 10) k = 1
  · rw [if_pos c1] at e1
    simp (disch := omega) only [v_81_1, u_81_0, x_aload0, x_iload1, x_call2_0, x_call2_1, x_call2_2, x_call2_3, x_call2_4, e_k_s, e_k_i, List.nil_append, List.cons_append, x_ifCond_eq, x_ifCond_eqb, x_sipush, x_ireturn, u_81_10, x_ifCond_ne, x_ifCond_neb, f_1_14, x_isub, x_dadd_0, x_dadd_1, x_dadd_2, x_dadd_3, x_dadd_4, p_1_14, u_81_34, x_idivI, x_call3_0, x_call3_1, x_call3_2, x_call3_3, x_call3_4, x_pop, e1, c1, b01_0, ite_not, if_true, if_false, Int.reduceLT, Int.reduceEq]
  · rw [if_neg c1] at e1
    by_cases c2 : wsit I k
    · rw [if_pos c2] at e2
      simp (disch := omega) only [v_81_1, u_81_0, x_aload0, x_iload1, x_call2_0, x_call2_1, x_call2_2, x_call2_3, x_call2_4, e_k_s, e_k_i, List.nil_append, List.cons_append, x_ifCond_eq, x_ifCond_eqb, x_sipush, x_ireturn, u_81_10, x_ifCond_ne, x_ifCond_neb, f_1_14, x_isub, x_dadd_0, x_dadd_1, x_dadd_2, x_dadd_3, x_dadd_4, p_1_14, u_81_34, x_idivI, x_call3_0, x_call3_1, x_call3_2, x_call3_3, x_call3_4, x_pop, e1, e2, e3, tdiv_n, e4, b01_0, ite_not, if_true, if_false, Int.reduceLT, Int.reduceEq]
      rw [if_neg c1, if_neg c1, if_pos c2, if_pos c2]
    · rw [if_neg c2] at e2
      simp (disch := omega) only [v_81_1, u_81_0, x_aload0, x_iload1, x_call2_0, x_call2_1, x_call2_2, x_call2_3, x_call2_4, e_k_s, e_k_i, List.nil_append, List.cons_append, x_ifCond_eq, x_ifCond_eqb, x_sipush, x_ireturn, u_81_10, x_ifCond_ne, x_ifCond_neb, f_1_14, x_isub, x_dadd_0, x_dadd_1, x_dadd_2, x_dadd_3, x_dadd_4, p_1_14, u_81_34, x_idivI, x_call3_0, x_call3_1, x_call3_2, x_call3_3, x_call3_4, x_pop, e1, e2, e3, tdiv_n, e4, b01_0, ite_not, if_true, if_false, Int.reduceLT, Int.reduceEq]
      rw [if_neg c1, if_neg c1, if_neg c2, if_neg c2]
def getI (I : Nat → Int → Int) (k : Int) : Nat → Int → Int := if bt (I 1 10) k = 1 then up (up I 1 10 (stb (I 1 10) k 0)) 1 14 (min 9 (I 1 14 + 1)) else I
theorem t_get (h : inv I) {k : Int} (hk : 0 ≤ k ∧ k < I 1 9) : s_S X (d + 2) 82 [.ref 1, .int (iI k)] (mm I J) = some ([], mm (getI I k) J) := by
  have h1 := h.1
  have h14 := h.2.2.2.2.1
  have e1 := t_seat (X := X) (d := d) (I := I) (J := J) (s := I 1 10) (k := k) rfl (inv_s h) (by omega)
  have e4 := t_put0 (X := X) (d := d) (I := I) (J := J) (inv_s h) (k := k) (by omega)
  have e5 : up I 1 10 (stb (I 1 10) k 0) 1 14 = I 1 14 := up_k (by decide)
  unfold getI
  by_cases c1 : bt (I 1 10) k = 1
  · rw [if_pos c1] at e1
    simp (disch := omega) only [v_82_1, u_82_0, x_aload0, x_iload1, x_call2_0, x_call2_1, x_call2_2, x_call2_3, x_call2_4, e_k_s, e_k_i, List.nil_append, List.cons_append, x_ifCond_ne, x_ifCond_neb, x_return, u_82_9, x_sipush, x_call3_0, x_call3_1, x_call3_2, x_call3_3, x_call3_4, x_pop, f_1_14, x_iadd, x_dsub_0, x_dsub_1, x_dsub_2, x_dsub_3, x_dsub_4, p_1_14, e1, e4, e5, b01_0, ite_not, if_true, if_false, Int.reduceLT, Int.reduceEq]
    rw [if_pos c1]
  · rw [if_neg c1] at e1
    simp (disch := omega) only [v_82_1, u_82_0, x_aload0, x_iload1, x_call2_0, x_call2_1, x_call2_2, x_call2_3, x_call2_4, e_k_s, e_k_i, List.nil_append, List.cons_append, x_ifCond_ne, x_ifCond_neb, x_return, u_82_9, x_sipush, x_call3_0, x_call3_1, x_call3_2, x_call3_3, x_call3_4, x_pop, f_1_14, x_iadd, x_dsub_0, x_dsub_1, x_dsub_2, x_dsub_3, x_dsub_4, p_1_14, e1, e4, e5, b01_0, ite_not, if_true, if_false, Int.reduceLT, Int.reduceEq]
    rw [if_neg c1]
end
