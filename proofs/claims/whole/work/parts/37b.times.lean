/-! LOTS, many times, in the model -/
section
variable {X : e_X} {d : Nat} {I J M : Nat → Int → Int}
theorem b72_u {L : Int → Int} {k v : Int} : b72 (up M 70 k v) L = up (b72 M L) 70 k v := by
  funext a b
  by_cases h : a = 72
  · subst h
    rw [up_o (show (72 : Nat) ≠ 70 by decide)]
    rfl
  · rw [b72_o h]
    unfold up
    rw [b72_o h]
theorem m_ti1 (h : inv I) (hE : RE I (M 70)) (hQ : RR I (M 70)) (hR : rok I) {L : Int → Int} {v1 v2 v3 v4 : Int32} {w6 : Value} : ∀ (r : Nat) (c : co) (sc z w : Int) (P : Int → Int), cok I c → c.1 + r = I 1 12 → ∃ c' sc' P', s_j X (d + 9) 270 41 [.ref 69, .int v1, .int v2, .int v3, .int v4, .int (iI w), w6] [] (mm (mk (b72 (up M 70 5 z) L) (I 1 9) c sc P) J) = s_j X (d + 9) 270 60 [.ref 69, .int v1, .int v2, .int v3, .int v4, .int (iI (wlt I r c z w).1), w6] [] (mm (mk (b72 (up M 70 5 (wlt I r c z w).2) L) (I 1 9) c' sc' P') J) := by
  have hn := h.1
  have h70 : ∀ L, b72 M L 70 = M 70 := fun L => b72_o (by decide)
  have hEb : ∀ z, RE I (b72 (up M 70 5 z) L 70) := fun z => by rw [b72_o (by decide)]; exact RE_5 hE hn
  intro r
  induction r with
  | zero =>
    intro c sc z w P hc hr
    have eo := m_ov (X := X) (d := d + 8) (J := J) (M := b72 (up M 70 5 z) L) h (hEb z) hc (sc := sc) (P := P)
    rw [if_pos (by omega)] at eo
    refine ⟨c, sc, P, ?_⟩
    rw [u_270_41]
    simp (disch := omega) only [v_270_69, u_270_0, x_iload1, x_sipush, x_call3_0, x_call3_1, x_call3_2, x_call3_3, x_call3_4, e_k_s, e_k_i, List.nil_append, List.cons_append, x_ifCond_eq, x_ifCond_eqb, x_iload2, x_ifCond_ne, x_ifCond_neb, x_jsr, u_270_21, x_ireturn, u_270_23, x_aload0, x_call1_0, x_call1_1, x_call1_2, x_call1_3, x_call1_4, x_istore3i, x_istore3r, x_istore3u, x_istore4i, x_istore4r, x_istore4u, u_270_32, x_iload4, x_if_icmp_ge, x_istore5i, x_istore5r, x_istore5u, x_iload5, x_iadd, x_goto, x_iload3, x_if_icmp_lt, u_270_71, u_270_72, k_69_0, x_istore6i, x_istore6r, x_istore6u, x_iload6, x_iinc4i, x_iinc4r, x_iinc4u, u_270_100, ia_70, is_70, eo, b01_0, ite_not, if_true, if_false, Int.reduceLT, Int.reduceEq]
    rfl
  | succ r ih =>
    intro c sc z w P hc hr
    have eo := m_ov (X := X) (d := d + 8) (J := J) (M := b72 (up M 70 5 z) L) h (hEb z) hc (sc := sc) (P := P)
    rw [if_neg (by omega)] at eo
    have hp := pas_ok h hc (by omega) (zl I (zn z))
    obtain ⟨P1, e1⟩ := m_lot (X := X) (d := d) (J := J) (M := b72 M L) h (by rw [h70]; exact hE) (by rw [h70]; exact hQ) hR hc (by omega) (sc := sc) (z := z) P
    rw [← b72_u, ← b72_u] at e1
    obtain ⟨c', sc', P', e2⟩ := ih (pas I c (zl I (zn z))).2 (sc + (pas I c (zl I (zn z))).1) (zn z) (w + (pas I c (zl I (zn z))).1) P1 hp.1 (by omega)
    refine ⟨c', sc', P', ?_⟩
    rw [show wlt I (r + 1) c z w = wlt I r (pas I c (zl I (zn z))).2 (zn z) (w + (pas I c (zl I (zn z))).1) from rfl, ← e2]
    conv => lhs; rw [u_270_41]
    simp (disch := omega) only [v_270_69, u_270_0, x_iload1, x_sipush, x_call3_0, x_call3_1, x_call3_2, x_call3_3, x_call3_4, e_k_s, e_k_i, List.nil_append, List.cons_append, x_ifCond_eq, x_ifCond_eqb, x_iload2, x_ifCond_ne, x_ifCond_neb, x_jsr, u_270_21, x_ireturn, u_270_23, x_aload0, x_call1_0, x_call1_1, x_call1_2, x_call1_3, x_call1_4, x_istore3i, x_istore3r, x_istore3u, x_istore4i, x_istore4r, x_istore4u, u_270_32, x_iload4, x_if_icmp_ge, x_istore5i, x_istore5r, x_istore5u, x_iload5, x_iadd, x_goto, x_iload3, x_if_icmp_lt, u_270_71, u_270_72, k_69_0, x_istore6i, x_istore6r, x_istore6u, x_iload6, x_iinc4i, x_iinc4r, x_iinc4u, u_270_100, ia_70, is_70, eo, e1, b01_0, ite_not, if_true, if_false, Int.reduceLT, Int.reduceEq]
theorem m_ti2 (h : inv I) (hE : RE I (M 70)) (hQ : RR I (M 70)) (hR : rok I) {c : co} (hc : cok I c) {sc n v : Int} (hn : 0 ≤ n ∧ n ≤ 40) (hv : 0 ≤ v ∧ v ≤ 999) {L : Int → Int} (hL : ∀ k, 0 ≤ k → k < 74 → L k = mk M (I 1 9) c sc z0 70 k) : ∀ (r : Nat) (i z a : Int) (P : Int → Int) (w5 w6 : Value), 0 ≤ i → i + r = n → ∃ P' z' w5' w6', s_j X (d + 9) 270 32 [.ref 69, .int (iI n), .int (iI v), .int (iI a), .int (iI i), w5, w6] [] (mm (mk (b72 (up M 70 5 z) L) (I 1 9) c sc P) J) = s_j X (d + 9) 270 100 [.ref 69, .int (iI n), .int (iI v), .int (iI (tmc I c v r z a)), .int (iI n), w5', w6'] [] (mm (mk (b72 (up M 70 5 z') L) (I 1 9) c sc P') J) := by
  have hn6 := h.1
  have c1 := hc.1
  intro r
  induction r with
  | zero =>
    intro i z a P w5 w6 h0 hi
    refine ⟨P, z, w5, w6, ?_⟩
    rw [u_270_32, show i = n by omega]
    simp (disch := omega) only [v_270_69, u_270_0, x_iload1, x_sipush, x_call3_0, x_call3_1, x_call3_2, x_call3_3, x_call3_4, e_k_s, e_k_i, List.nil_append, List.cons_append, x_ifCond_eq, x_ifCond_eqb, x_iload2, x_ifCond_ne, x_ifCond_neb, x_jsr, u_270_21, x_ireturn, u_270_23, x_aload0, x_call1_0, x_call1_1, x_call1_2, x_call1_3, x_call1_4, x_istore3i, x_istore3r, x_istore3u, x_istore4i, x_istore4r, x_istore4u, x_iload4, x_if_icmp_ge, x_istore5i, x_istore5r, x_istore5u, x_iload5, x_iadd, x_goto, u_270_60, x_iload3, x_if_icmp_lt, u_270_71, u_270_72, k_69_0, x_istore6i, x_istore6r, x_istore6u, x_iload6, x_iinc4i, x_iinc4r, x_iinc4u, ia_70, is_70, b01_0, ite_not, if_true, if_false, Int.reduceLT, Int.reduceEq]
    rw [if_neg (by omega)]
    rfl
  | succ r ih =>
    intro i z a P w5 w6 h0 hi
    obtain ⟨c', sc', P1, e1⟩ := m_ti1 (X := X) (d := d) (J := J) (M := M) h hE hQ hR (L := L) (v1 := iI n) (v2 := iI v) (v3 := iI a) (v4 := iI i) (w6 := w6) (I 1 12 - c.1).toNat c sc z 0 P hc (by omega)
    rw [show wlt I (I 1 12 - c.1).toNat c z 0 = wla I c z from rfl] at e1
    have hb := wla_b h hc z
    have e3 := m_lb (X := X) (d := d + 8) (J := J) (M := M) (M' := up M 70 5 (wla I c z).2) (L := L) (n := I 1 9) hn6.2 (c := c) (c' := c') (sc := sc) (sc' := sc') (P := z0) (P' := P1) hL (fun a b q => by
      unfold up
      rw [if_neg (by omega)])
    have e4 : up (mk (b72 M L) (I 1 9) c sc P1) 70 5 (wla I c z).2 = mk (b72 (up M 70 5 (wla I c z).2) L) (I 1 9) c sc P1 := by
      rw [mk_u70 (by omega), b72_u]
    have e5 : b72 (up M 70 5 (wla I c z).2) L 70 5 = (wla I c z).2 := by
      rw [b72_o (by decide)]
      rfl
    by_cases q : v ≤ (wla I c z).1
    · obtain ⟨P', z', w5', w6', e2⟩ := ih (i + 1) (wla I c z).2 (a + 1) P1 (.int (iI (wla I c z).1)) (.int (iI (wla I c z).2)) (by omega) (by omega)
      refine ⟨P', z', w5', w6', ?_⟩
      rw [show tmc I c v (r + 1) z a = tmc I c v r (wla I c z).2 (if v ≤ (wla I c z).1 then a + 1 else a) from rfl, if_pos q, ← e2]
      conv => lhs; rw [u_270_32]
      simp (disch := omega) only [v_270_69, u_270_0, x_iload1, x_sipush, x_call3_0, x_call3_1, x_call3_2, x_call3_3, x_call3_4, e_k_s, e_k_i, List.nil_append, List.cons_append, x_ifCond_eq, x_ifCond_eqb, x_iload2, x_ifCond_ne, x_ifCond_neb, x_jsr, u_270_21, x_ireturn, u_270_23, x_aload0, x_call1_0, x_call1_1, x_call1_2, x_call1_3, x_call1_4, x_istore3i, x_istore3r, x_istore3u, x_istore4i, x_istore4r, x_istore4u, x_iload4, x_if_icmp_ge, x_istore5i, x_istore5r, x_istore5u, x_iload5, x_iadd, x_goto, u_270_60, x_iload3, x_if_icmp_lt, u_270_71, u_270_72, k_69_0, x_istore6i, x_istore6r, x_istore6u, x_iload6, x_iinc4i, x_iinc4r, x_iinc4u, ia_70, is_70, e1, mk_r, e5, e3, e4, b01_0, ite_not, if_true, if_false, Int.reduceLT, Int.reduceEq]
      rw [if_pos (by omega), if_neg (by omega)]
    · obtain ⟨P', z', w5', w6', e2⟩ := ih (i + 1) (wla I c z).2 a P1 (.int (iI (wla I c z).1)) (.int (iI (wla I c z).2)) (by omega) (by omega)
      refine ⟨P', z', w5', w6', ?_⟩
      rw [show tmc I c v (r + 1) z a = tmc I c v r (wla I c z).2 (if v ≤ (wla I c z).1 then a + 1 else a) from rfl, if_neg q, ← e2]
      conv => lhs; rw [u_270_32]
      simp (disch := omega) only [v_270_69, u_270_0, x_iload1, x_sipush, x_call3_0, x_call3_1, x_call3_2, x_call3_3, x_call3_4, e_k_s, e_k_i, List.nil_append, List.cons_append, x_ifCond_eq, x_ifCond_eqb, x_iload2, x_ifCond_ne, x_ifCond_neb, x_jsr, u_270_21, x_ireturn, u_270_23, x_aload0, x_call1_0, x_call1_1, x_call1_2, x_call1_3, x_call1_4, x_istore3i, x_istore3r, x_istore3u, x_istore4i, x_istore4r, x_istore4u, x_iload4, x_if_icmp_ge, x_istore5i, x_istore5r, x_istore5u, x_iload5, x_iadd, x_goto, u_270_60, x_iload3, x_if_icmp_lt, u_270_71, u_270_72, k_69_0, x_istore6i, x_istore6r, x_istore6u, x_iload6, x_iinc4i, x_iinc4r, x_iinc4u, ia_70, is_70, e1, mk_r, e5, e3, e4, Int.add_zero, b01_0, ite_not, if_true, if_false, Int.reduceLT, Int.reduceEq]
      rw [if_pos (by omega), if_pos (by omega)]
theorem m_tim (h : inv I) (hE : RE I (M 70)) (hQ : RR I (M 70)) (hR : rok I) {c : co} (hc : cok I c) {sc n v : Int} (hn : 1 ≤ n ∧ n ≤ 40) (hv : 0 ≤ v ∧ v ≤ 999) (P : Int → Int) : ∃ L P', s_S X (d + 10) 270 [.ref 69, .int (iI n), .int (iI v)] (mm (mk M (I 1 9) c sc P) J) = some ([.int (iI (tmc I c v n.toNat (M 70 5) 0))], mm (mk (b72 M L) (I 1 9) c sc P') J) := by
  have hn6 := h.1
  have e0 := m_ld (X := X) (d := d + 8) (J := J) (M := M) (n := I 1 9) (c := c) (sc := sc) (P := P)
  obtain ⟨P', z', w5', w6', e1⟩ := m_ti2 (X := X) (d := d) (J := J) (M := M) h hE hQ hR hc (sc := sc) (n := n) (v := v) (by omega) hv (L := lyd M (mk M (I 1 9) c sc P 70)) (fun k k0 k1 => if_pos ⟨k0, k1⟩) n.toNat 0 (M 70 5) 0 P (.retAddr 0) (.retAddr 0) (by decide) (by omega)
  rw [up_id] at e1
  have e3 := m_lb (X := X) (d := d + 8) (J := J) (M := M) (M' := up M 70 5 z') (L := lyd M (mk M (I 1 9) c sc P 70)) (n := I 1 9) hn6.2 (c := c) (c' := c) (sc := sc) (sc' := sc) (P := P) (P' := P') (fun k k0 k1 => if_pos ⟨k0, k1⟩) (fun a b q => by
      unfold up
      rw [if_neg (by omega)])
  refine ⟨lyd M (mk M (I 1 9) c sc P 70), P', ?_⟩
  simp (disch := omega) only [v_270_69, u_270_0, x_iload1, x_sipush, x_call3_0, x_call3_1, x_call3_2, x_call3_3, x_call3_4, e_k_s, e_k_i, List.nil_append, List.cons_append, x_ifCond_eq, x_ifCond_eqb, x_iload2, x_ifCond_ne, x_ifCond_neb, x_jsr, u_270_21, x_ireturn, u_270_23, x_aload0, x_call1_0, x_call1_1, x_call1_2, x_call1_3, x_call1_4, x_istore3i, x_istore3r, x_istore3u, x_istore4i, x_istore4r, x_istore4u, x_iload4, x_if_icmp_ge, x_istore5i, x_istore5r, x_istore5u, u_270_41, x_iload5, x_iadd, x_goto, u_270_60, x_iload3, x_if_icmp_lt, u_270_71, u_270_72, k_69_0, x_istore6i, x_istore6r, x_istore6u, x_iload6, x_iinc4i, x_iinc4r, x_iinc4u, u_270_100, ia_70, is_70, m_in1, e0, e1, e3, b01_0, ite_not, if_true, if_false, Int.reduceLT, Int.reduceEq]
  rw [if_pos (by omega), if_pos (by omega)]
end
