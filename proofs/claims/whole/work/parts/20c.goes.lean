/-! A YEAR GOES BY in the model -/
theorem stb_same {s k : Int} (h : bt s k = 0) : stb s k 0 = s := by
  unfold stb
  rw [h]
  simp
section
variable {X : e_X} {d : Nat} {I J M : Nat → Int → Int}
theorem m_would (h : inv I) (hE : RE I (M 70)) {y m sh st : Int} (hco : cok I (y, m, sh, st)) {sc : Int} {P : Int → Int} {k : Int} (hk : 0 ≤ k ∧ k < I 1 9) : s_S X (d + 3) 199 [.ref 69, .int (iI k)] (mm (mk M (I 1 9) (y, m, sh, st) sc P) J) = some ([.int (iI (if wst I (y, m, sh, st) k then 1 else 0))], mm (mk M (I 1 9) (y, m, sh, st) sc P) J) := by
  have eg := m_gr (X := X) (d := d) (J := J) h hE (c := (y, m, sh, st)) (sc := sc) (P := P) hk
  have hg := gr_b h hk
  have hb := bt_rg st k
  have hb1 := bt_01 st k
  obtain ⟨h1, h2, h3, h4, h5, h6, h7, h8, h9⟩ := h
  obtain ⟨c1, c2, c3, c4⟩ := hco
  simp only at c1 c2 c3 c4
  obtain ⟨e1, e2, e3, e4, e5⟩ := hE
  obtain ⟨k1, k2, k3, k4⟩ := h7 k hk.1 hk.2
  obtain ⟨a0, a1, a2, a3⟩ := e3 k hk.1 hk.2
  have b1 := (e4 (I 5 k) k4.1 (by omega)).2
  have k5 := (h8 (I 5 k) k4.1 (by omega)).2
  have hw : (wst I (y, m, sh, st) k) = (¬ bt st k = 1 ∧ gr I k ≤ m + I 7 (I 5 k)) := rfl
  simp only [hw]
  simp (disch := omega) only [v_199_69, u_199_0, x_aload0, x_iload1, x_sipush, x_call3_0, x_call3_1, x_call3_2, x_call3_3, x_call3_4, e_k_s, e_k_i, List.nil_append, List.cons_append, x_ifCond_ne, x_ifCond_neb, x_call2_0, x_call2_1, x_call2_2, x_call2_3, x_call2_4, k_69_0, x_iadd, x_if_icmp_gt, x_goto, u_199_42, x_jsr, u_199_43, x_zret0, x_zret1, x_zretb, ia_70, m_get, mk_r, mk_s, mk_3, a3, b1, eg, b01_0, ite_not, if_true, if_false, Int.reduceLT, Int.reduceEq]
  (repeat' split) <;> first | rfl | (exfalso; omega)
theorem m_sits (h : inv I) (hE : RE I (M 70)) {y m sh st : Int} (hco : cok I (y, m, sh, st)) {sc : Int} {P : Int → Int} {k : Int} (hk : 0 ≤ k ∧ k < I 1 9) : s_S X (d + 4) 225 [.ref 69, .int (iI k)] (mm (mk M (I 1 9) (y, m, sh, st) sc P) J) = some ([.int (iI (sic I (y, m, sh, st) k).1)], mm (mk M (I 1 9) (sic I (y, m, sh, st) k).2 sc P) J) := by
  have eg := m_gr (X := X) (d := d + 1) (J := J) h hE (c := (y, m, sh, st)) (sc := sc) (P := P) hk
  have ew := m_would (X := X) (d := d) (J := J) h hE hco (sc := sc) (P := P) hk
  have hg := gr_b h hk
  have hb := bt_rg st k
  have hb1 := bt_01 st k
  have h64 := pw_6 h.1
  have hn := h.1
  obtain ⟨c1, c2, c3, c4⟩ := hco
  simp only at c1 c2 c3 c4
  have x1 : hld (m - gr I k / 3) 9 = max 0 (m - gr I k / 3) := by
    unfold hld
    (repeat' split) <;> omega
  have x2 : hld (m - 1) 9 = max 0 (m - 1) := by
    unfold hld
    (repeat' split) <;> omega
  unfold sic
  by_cases q1 : bt st k = 1
  · simp (disch := omega) only [v_225_69, u_225_0, x_aload0, x_iload1, x_sipush, x_call3_0, x_call3_1, x_call3_2, x_call3_3, x_call3_4, e_k_s, e_k_i, List.nil_append, List.cons_append, x_if_icmp_ne, x_ireturn, u_225_12, x_call2_0, x_call2_1, x_call2_2, x_call2_3, x_call2_4, x_istore2i, x_istore2r, x_istore2u, k_69_0, x_iload2, x_ifCond_eq, x_ifCond_eqb, x_idivI, x_goto, u_225_43, x_jsr, u_225_44, x_isub, u_225_62, u_225_63, x_call4_0, x_call4_1, x_call4_2, x_call4_3, x_call4_4, u_225_74, u_225_75, ia_70, is_70, m_get, mk_s, q1, b01_0, ite_not, if_true, if_false, Int.reduceLT, Int.reduceEq]
  · have q0 : bt st k = 0 := by omega
    rw [if_neg q1]
    by_cases q2 : wst I (y, m, sh, st) k
    · rw [if_pos q2] at ew
      rw [if_pos q2]
      simp (disch := omega) only [v_225_69, u_225_0, x_aload0, x_iload1, x_sipush, x_call3_0, x_call3_1, x_call3_2, x_call3_3, x_call3_4, e_k_s, e_k_i, List.nil_append, List.cons_append, x_if_icmp_ne, x_ireturn, u_225_12, x_call2_0, x_call2_1, x_call2_2, x_call2_3, x_call2_4, x_istore2i, x_istore2r, x_istore2u, k_69_0, x_iload2, x_ifCond_eq, x_ifCond_eqb, x_idivI, x_goto, u_225_43, x_jsr, u_225_44, x_isub, u_225_62, u_225_63, x_call4_0, x_call4_1, x_call4_2, x_call4_3, x_call4_4, u_225_74, u_225_75, ia_70, is_70, m_get, mk_s, mk_3, q0, ew, eg, tdiv_n, m_held, x1, mk_u3, m_puts, mk_us, b01_0, ite_not, if_true, if_false, Int.reduceLT, Int.reduceEq]
    · rw [if_neg q2] at ew
      rw [if_neg q2]
      have sb := stb_same q0
      simp (disch := omega) only [v_225_69, u_225_0, x_aload0, x_iload1, x_sipush, x_call3_0, x_call3_1, x_call3_2, x_call3_3, x_call3_4, e_k_s, e_k_i, List.nil_append, List.cons_append, x_if_icmp_ne, x_ireturn, u_225_12, x_call2_0, x_call2_1, x_call2_2, x_call2_3, x_call2_4, x_istore2i, x_istore2r, x_istore2u, k_69_0, x_iload2, x_ifCond_eq, x_ifCond_eqb, x_idivI, x_goto, u_225_43, x_jsr, u_225_44, x_isub, u_225_62, u_225_63, x_call4_0, x_call4_1, x_call4_2, x_call4_3, x_call4_4, u_225_74, u_225_75, ia_70, is_70, m_get, mk_s, mk_3, q0, ew, eg, tdiv_n, m_held, x2, mk_u3, m_puts, mk_us, sb, b01_0, ite_not, if_true, if_false, Int.reduceLT, Int.reduceEq]
theorem m_meets (h : inv I) (hE : RE I (M 70)) (hQ : RR I (M 70)) (hR : rok I) {c : co} (hco : cok I c) {sc : Int} (P : Int → Int) {k : Int} (hk : 0 ≤ k ∧ k < I 1 9) : ∃ P', s_S X (d + 6) 224 [.ref 69, .int (iI k)] (mm (mk M (I 1 9) c sc P) J) = some ([.int (iI (met I c k).1)], mm (mk M (I 1 9) (met I c k).2 sc P') J) := by
  obtain ⟨y, m, sh, st⟩ := c
  obtain ⟨P', e1⟩ := m_will (X := X) (d := d) (J := J) (M := M) h hE hQ hR hco (sc := sc) P hk
  have e2 := m_sits (X := X) (d := d + 1) (J := J) h hE hco (sc := sc) (P := P') hk
  have hw := wil_b hR (y, m, sh, st) k
  have hb := bt_rg st k
  have hb1 := bt_01 st k
  have h64 := pw_6 h.1
  have hn := h.1
  obtain ⟨c1, c2, c3, c4⟩ := hco
  simp only at c1 c2 c3 c4
  have x1 : hld (m + 1) 9 = min 9 (m + 1) := by
    unfold hld
    (repeat' split) <;> omega
  refine ⟨P', ?_⟩
  unfold met
  rw [if_pos hk]
  by_cases q0 : wil I (y, m, sh, st) k = 0
  · rw [if_pos q0]
    rw [q0] at e1
    simp (disch := omega) only [v_224_69, u_224_0, x_aload0, x_iload1, x_call2_0, x_call2_1, x_call2_2, x_call2_3, x_call2_4, e_k_s, e_k_i, List.nil_append, List.cons_append, x_istore2i, x_istore2r, x_istore2u, x_iload2, x_ifCond_ne, x_ifCond_neb, x_ireturn, u_224_16, x_sipush, x_if_icmp_ne, x_call3_0, x_call3_1, x_call3_2, x_call3_3, x_call3_4, x_call4_0, x_call4_1, x_call4_2, x_call4_3, x_call4_4, k_69_0, x_iadd, x_jsr, u_224_57, ia_70, is_70, e1, e2, b01_0, ite_not, if_true, if_false, Int.reduceLT, Int.reduceEq]
  · rw [if_neg q0]
    by_cases q2 : wil I (y, m, sh, st) k = 2
    · rw [if_pos q2]
      rw [q2] at e1
      unfold gec
      by_cases q1 : bt st k = 1
      · rw [if_pos q1]
        simp (disch := omega) only [v_224_69, u_224_0, x_aload0, x_iload1, x_call2_0, x_call2_1, x_call2_2, x_call2_3, x_call2_4, e_k_s, e_k_i, List.nil_append, List.cons_append, x_istore2i, x_istore2r, x_istore2u, x_iload2, x_ifCond_ne, x_ifCond_neb, x_ireturn, u_224_16, x_sipush, x_if_icmp_ne, x_call3_0, x_call3_1, x_call3_2, x_call3_3, x_call3_4, x_call4_0, x_call4_1, x_call4_2, x_call4_3, x_call4_4, k_69_0, x_iadd, x_jsr, u_224_57, ia_70, is_70, e1, m_get, mk_s, mk_3, q1, m_held, x1, mk_u3, m_puts, mk_us, b01_0, ite_not, if_true, if_false, Int.reduceLT, Int.reduceEq]
      · have q0 : bt st k = 0 := by omega
        rw [if_neg q1]
        simp (disch := omega) only [v_224_69, u_224_0, x_aload0, x_iload1, x_call2_0, x_call2_1, x_call2_2, x_call2_3, x_call2_4, e_k_s, e_k_i, List.nil_append, List.cons_append, x_istore2i, x_istore2r, x_istore2u, x_iload2, x_ifCond_ne, x_ifCond_neb, x_ireturn, u_224_16, x_sipush, x_if_icmp_ne, x_call3_0, x_call3_1, x_call3_2, x_call3_3, x_call3_4, x_call4_0, x_call4_1, x_call4_2, x_call4_3, x_call4_4, k_69_0, x_iadd, x_jsr, u_224_57, ia_70, is_70, e1, m_get, mk_s, mk_3, q0, m_held, x1, mk_u3, m_puts, mk_us, b01_0, ite_not, if_true, if_false, Int.reduceLT, Int.reduceEq]
    · rw [if_neg q2]
      have q1 : wil I (y, m, sh, st) k = 1 := by omega
      rw [q1] at e1
      simp (disch := omega) only [v_224_69, u_224_0, x_aload0, x_iload1, x_call2_0, x_call2_1, x_call2_2, x_call2_3, x_call2_4, e_k_s, e_k_i, List.nil_append, List.cons_append, x_istore2i, x_istore2r, x_istore2u, x_iload2, x_ifCond_ne, x_ifCond_neb, x_ireturn, u_224_16, x_sipush, x_if_icmp_ne, x_call3_0, x_call3_1, x_call3_2, x_call3_3, x_call3_4, x_call4_0, x_call4_1, x_call4_2, x_call4_3, x_call4_4, k_69_0, x_iadd, x_jsr, u_224_57, ia_70, is_70, e1, b01_0, ite_not, if_true, if_false, Int.reduceLT, Int.reduceEq]
theorem m_spof (h : inv I) (hE : RE I (M 70)) {y m sh st : Int} (hco : cok I (y, m, sh, st)) {sc : Int} {P : Int → Int} {k : Int} (hk : 0 ≤ k ∧ k < I 1 9) : s_S X (d + 2) 195 [.ref 69, .int (iI k)] (mm (mk M (I 1 9) (y, m, sh, st) sc P) J) = some ([.int (iI (spn (I 2 k) (I 4 k) y))], mm (mk M (I 1 9) (y, m, sh, st) sc P) J) := by
  obtain ⟨h1, h2, h3, h4, h5, h6, h7, h8, h9⟩ := h
  obtain ⟨c1, c2, c3, c4⟩ := hco
  simp only at c1 c2 c3 c4
  obtain ⟨k1, k2, k3, k4⟩ := h7 k hk.1 hk.2
  obtain ⟨a0, a1, a2, a3⟩ := hE.2.2.1 k hk.1 hk.2
  simp (disch := omega) only [v_195_69, u_195_0, x_aload0, x_iload1, x_sipush, x_call3_0, x_call3_1, x_call3_2, x_call3_3, x_call3_4, e_k_s, e_k_i, List.nil_append, List.cons_append, k_69_0, x_ireturn, ia_70, m_get, mk_r, mk_0, a0, a2, m_span, b01_0, ite_not, if_true, if_false, Int.reduceLT, Int.reduceEq]
theorem m_ispd (h : inv I) (hE : RE I (M 70)) {y m sh st : Int} (hco : cok I (y, m, sh, st)) {sc : Int} {P : Int → Int} {k p : Int} (hk : 0 ≤ k ∧ k < I 1 9) (hp : rg p) : s_S X (d + 3) 228 [.ref 69, .int (iI k), .int (iI p)] (mm (mk M (I 1 9) (y, m, sh, st) sc P) J) = some ([.int (iI (if I 3 k ≤ p ∧ p < I 3 k + spn (I 2 k) (I 4 k) y then 1 else 0))], mm (mk M (I 1 9) (y, m, sh, st) sc P) J) := by
  have es := m_spof (X := X) (d := d) (J := J) h hE hco (sc := sc) (P := P) hk
  obtain ⟨h1, h2, h3, h4, h5, h6, h7, h8, h9⟩ := h
  obtain ⟨k1, k2, k3, k4⟩ := h7 k hk.1 hk.2
  have hs := spn_b (kd := I 2 k) (y := y) k3
  obtain ⟨a0, a1, a2, a3⟩ := hE.2.2.1 k hk.1 hk.2
  simp (disch := omega) only [v_228_69, u_228_0, x_iload2, x_aload0, x_iload1, x_sipush, x_call3_0, x_call3_1, x_call3_2, x_call3_3, x_call3_4, e_k_s, e_k_i, List.nil_append, List.cons_append, x_call2_0, x_call2_1, x_call2_2, x_call2_3, x_call2_4, x_iadd, x_isub, x_zret0, x_zret1, x_zretb, m_get, mk_r, a1, es, m_in1, b01_0, ite_not, if_true, if_false, Int.reduceLT, Int.reduceEq]
  (repeat' split) <;> first | rfl | (exfalso; omega)
theorem m_th1 (h : inv I) (hE : RE I (M 70)) {y m sh st : Int} (hco : cok I (y, m, sh, st)) {sc : Int} {P : Int → Int} {p : Int} (hp : 0 ≤ p ∧ p < 100) : ∀ (r n : Nat), (n : Int) + r = I 1 9 → s_j X (d + 3) 227 4 [.ref 69, .int (iI p), .int (iI (if (plk I y st n).testBit p.toNat = true then 1 else 0)), .int (iI (n : Nat))] [] (mm (mk M (I 1 9) (y, m, sh, st) sc P) J) = some ([.int (iI (if (plk I y st (I 1 9).toNat).testBit p.toNat = true then 1 else 0))], mm (mk M (I 1 9) (y, m, sh, st) sc P) J) := by
  have hn6 := h.1
  have e6 := hE.2.1
  intro r
  induction r with
  | zero =>
    intro n hn
    rw [u_227_4, show (I 1 9).toNat = n by omega]
    simp (disch := omega) only [v_227_69, u_227_0, x_sipush, x_istore2i, x_istore2r, x_istore2u, x_istore3i, x_istore3r, x_istore3u, x_jsr, x_iload3, x_aload0, k_69_0, x_if_icmp_ge, x_iload2, x_ifCond_ne, x_ifCond_neb, x_call3_0, x_call3_1, x_call3_2, x_call3_3, x_call3_4, e_k_s, e_k_i, List.nil_append, List.cons_append, x_if_icmp_ne, x_iload1, x_ifCond_eq, x_ifCond_eqb, u_227_38, x_goto, u_227_42, u_227_43, x_iinc3i, x_iinc3r, x_iinc3u, u_227_50, x_zret0, x_zret1, x_zretb, ia_70, mk_r, e6, b01_0, ite_not, if_true, if_false, Int.reduceLT, Int.reduceEq]
    rw [if_neg (by omega)]
  | succ r ih =>
    intro n hn
    have hk : 0 ≤ (n : Int) ∧ (n : Int) < I 1 9 := by omega
    have es := m_ispd (X := X) (d := d) (J := J) h hE hco (sc := sc) (P := P) (k := n) (p := p) hk ⟨by omega, by omega⟩
    obtain ⟨k1, k2, k3, k4⟩ := h.2.2.2.2.2.2.1 n hk.1 hk.2
    have hs := spn_b (kd := I 2 n) (y := y) k3
    have hb := bt_rg st n
    have e1 := ih (n + 1) (by omega)
    rw [show (((n + 1 : Nat)) : Int) = (n : Int) + 1 by omega] at e1
    have ht : (plk I y st (n + 1)).testBit p.toNat = if bt st n = 1 then ((plk I y st n).testBit p.toNat || decide (I 3 n ≤ p ∧ p < I 3 n + spn (I 2 n) (I 4 n) y)) else (plk I y st n).testBit p.toNat := by
      show (if bt st n = 1 then _ else _ : Nat).testBit p.toNat = _
      by_cases q : bt st n = 1
      · rw [if_pos q, if_pos q, Nat.testBit_or, pl1_t]
        congr 1
        exact decide_eq_decide.mpr (by omega)
      · rw [if_neg q, if_neg q]
    rw [ht] at e1
    rw [u_227_4]
    by_cases t : (plk I y st n).testBit p.toNat = true
    · have e1' : s_j X (d + 3) 227 4 [.ref 69, .int (iI p), .int (iI 1), .int (iI ((n : Int) + 1))] [] (mm (mk M (I 1 9) (y, m, sh, st) sc P) J) = some ([.int (iI (if (plk I y st (I 1 9).toNat).testBit p.toNat = true then 1 else 0))], mm (mk M (I 1 9) (y, m, sh, st) sc P) J) := by
        rw [← e1, t]
        simp
      rw [if_pos t]
      simp (disch := omega) only [v_227_69, u_227_0, x_sipush, x_istore2i, x_istore2r, x_istore2u, x_istore3i, x_istore3r, x_istore3u, x_jsr, x_iload3, x_aload0, k_69_0, x_if_icmp_ge, x_iload2, x_ifCond_ne, x_ifCond_neb, x_call3_0, x_call3_1, x_call3_2, x_call3_3, x_call3_4, e_k_s, e_k_i, List.nil_append, List.cons_append, x_if_icmp_ne, x_iload1, x_ifCond_eq, x_ifCond_eqb, u_227_38, x_goto, u_227_42, u_227_43, x_iinc3i, x_iinc3r, x_iinc3u, u_227_50, x_zret0, x_zret1, x_zretb, ia_70, mk_r, e6, e1', b01_0, ite_not, if_true, if_false, Int.reduceLT, Int.reduceEq]
      rw [if_pos (by omega)]
    · rw [if_neg t]
      by_cases q : bt st n = 1
      · rw [if_pos q] at e1
        by_cases z : I 3 n ≤ p ∧ p < I 3 n + spn (I 2 n) (I 4 n) y
        · rw [decide_eq_true z, Bool.or_true, if_pos rfl] at e1
          rw [if_pos z] at es
          simp (disch := omega) only [v_227_69, u_227_0, x_sipush, x_istore2i, x_istore2r, x_istore2u, x_istore3i, x_istore3r, x_istore3u, x_jsr, x_iload3, x_aload0, k_69_0, x_if_icmp_ge, x_iload2, x_ifCond_ne, x_ifCond_neb, x_call3_0, x_call3_1, x_call3_2, x_call3_3, x_call3_4, e_k_s, e_k_i, List.nil_append, List.cons_append, x_if_icmp_ne, x_iload1, x_ifCond_eq, x_ifCond_eqb, u_227_38, x_goto, u_227_42, u_227_43, x_iinc3i, x_iinc3r, x_iinc3u, u_227_50, x_zret0, x_zret1, x_zretb, ia_70, mk_r, mk_s, m_get, e6, q, es, e1, b01_0, ite_not, if_true, if_false, Int.reduceLT, Int.reduceEq]
          rw [if_pos (by omega)]
        · rw [decide_eq_false z, Bool.or_false, if_neg t] at e1
          rw [if_neg z] at es
          simp (disch := omega) only [v_227_69, u_227_0, x_sipush, x_istore2i, x_istore2r, x_istore2u, x_istore3i, x_istore3r, x_istore3u, x_jsr, x_iload3, x_aload0, k_69_0, x_if_icmp_ge, x_iload2, x_ifCond_ne, x_ifCond_neb, x_call3_0, x_call3_1, x_call3_2, x_call3_3, x_call3_4, e_k_s, e_k_i, List.nil_append, List.cons_append, x_if_icmp_ne, x_iload1, x_ifCond_eq, x_ifCond_eqb, u_227_38, x_goto, u_227_42, u_227_43, x_iinc3i, x_iinc3r, x_iinc3u, u_227_50, x_zret0, x_zret1, x_zretb, ia_70, mk_r, mk_s, m_get, e6, q, es, e1, b01_0, ite_not, if_true, if_false, Int.reduceLT, Int.reduceEq]
          rw [if_pos (by omega)]
      · rw [if_neg q, if_neg t] at e1
        simp (disch := omega) only [v_227_69, u_227_0, x_sipush, x_istore2i, x_istore2r, x_istore2u, x_istore3i, x_istore3r, x_istore3u, x_jsr, x_iload3, x_aload0, k_69_0, x_if_icmp_ge, x_iload2, x_ifCond_ne, x_ifCond_neb, x_call3_0, x_call3_1, x_call3_2, x_call3_3, x_call3_4, e_k_s, e_k_i, List.nil_append, List.cons_append, x_if_icmp_ne, x_iload1, x_ifCond_eq, x_ifCond_eqb, u_227_38, x_goto, u_227_42, u_227_43, x_iinc3i, x_iinc3r, x_iinc3u, u_227_50, x_zret0, x_zret1, x_zretb, ia_70, mk_r, mk_s, m_get, e6, es, e1, b01_0, ite_not, if_true, if_false, Int.reduceLT, Int.reduceEq]
        rw [if_pos (by omega), if_neg q]
theorem m_th (h : inv I) (hE : RE I (M 70)) {y m sh st : Int} (hco : cok I (y, m, sh, st)) {sc : Int} {P : Int → Int} {p : Int} (hp : 0 ≤ p ∧ p < 100) : s_S X (d + 4) 227 [.ref 69, .int (iI p)] (mm (mk M (I 1 9) (y, m, sh, st) sc P) J) = some ([.int (iI (if (plk I y st (I 1 9).toNat).testBit p.toNat = true then 1 else 0))], mm (mk M (I 1 9) (y, m, sh, st) sc P) J) := by
  have e := m_th1 (X := X) (d := d) (J := J) h hE hco (sc := sc) (P := P) hp (I 1 9).toNat 0 (by have := h.1; omega)
  rw [show (plk I y st 0).testBit p.toNat = false from Nat.zero_testBit _, if_neg (by decide)] at e
  rw [← e]
  simp (disch := omega) only [v_227_69, u_227_0, x_sipush, x_istore2i, x_istore2r, x_istore2u, x_istore3i, x_istore3r, x_istore3u, x_jsr, x_iload3, x_aload0, k_69_0, x_if_icmp_ge, x_iload2, x_ifCond_ne, x_ifCond_neb, x_call3_0, x_call3_1, x_call3_2, x_call3_3, x_call3_4, e_k_s, e_k_i, List.nil_append, List.cons_append, x_if_icmp_ne, x_iload1, x_ifCond_eq, x_ifCond_eqb, u_227_38, x_goto, u_227_42, u_227_43, x_iinc3i, x_iinc3r, x_iinc3u, u_227_50, x_zret0, x_zret1, x_zretb, ia_70, b01_0, ite_not, if_true, if_false, Int.reduceLT, Int.reduceEq]
  rfl
theorem m_wk1 (h : inv I) (hE : RE I (M 70)) {y m fr st : Int} (hco : cok I (y, m, fr, st)) {sc : Int} {P : Int → Int} : ∀ (r : Nat) (s : Int), 0 ≤ s → s + r = m + 1 → fr + s ≤ 40 → s_j X (d + 4) 226 11 [.ref 69, .int (iI (m + 1)), .int (iI s)] [] (mm (mk M (I 1 9) (y, m, fr + s, st) sc P) J) = some ([.int (iI (2 * stp (plk I y st (I 1 9).toNat) fr m r s))], mm (mk M (I 1 9) (y, m, fr + stp (plk I y st (I 1 9).toNat) fr m r s, st) sc P) J) := by
  obtain ⟨c1, c2, c3, c4⟩ := id hco
  simp only at c1 c2 c3 c4
  intro r
  induction r with
  | zero =>
    intro s h0 hs hq
    rw [u_226_11]
    unfold stp
    simp (disch := omega) only [v_226_69, u_226_0, x_aload0, k_69_0, x_sipush, x_iadd, x_istore1i, x_istore1r, x_istore1u, x_istore2i, x_istore2r, x_istore2u, x_jsr, x_iload2, x_iload1, x_if_icmp_ge, x_call2_0, x_call2_1, x_call2_2, x_call2_3, x_call2_4, e_k_s, e_k_i, List.nil_append, List.cons_append, x_ifCond_eq, x_ifCond_eqb, x_dup2, x_iinc2i, x_iinc2r, x_iinc2u, x_goto, u_226_56, x_imul, x_ireturn, ia_70, is_70, b01_0, ite_not, if_true, if_false, Int.reduceLT, Int.reduceEq]
    rw [if_neg (by omega)]
  | succ r ih =>
    intro s h0 hs hq
    rw [u_226_11]
    unfold stp
    by_cases q1 : fr + s < 40
    · have et := m_th (X := X) (d := d) (J := J) h hE (y := y) (m := m) (sh := fr + s) (st := st) ⟨c1, c2, ⟨by show 0 ≤ fr + s; omega, by show fr + s ≤ 40; omega⟩, c4⟩ (sc := sc) (P := P) (p := fr + s) (by omega)
      by_cases q2 : (plk I y st (I 1 9).toNat).testBit (fr + s).toNat = true
      · have e1 := ih (s + 1) (by omega) (by omega) (by omega)
        rw [if_pos q2] at et
        rw [if_pos ⟨by omega, q1, q2⟩, ← e1]
        rw [show fr + (s + 1) = fr + s + 1 by omega]
        simp (disch := omega) only [v_226_69, u_226_0, x_aload0, k_69_0, x_sipush, x_iadd, x_istore1i, x_istore1r, x_istore1u, x_istore2i, x_istore2r, x_istore2u, x_jsr, x_iload2, x_iload1, x_if_icmp_ge, x_call2_0, x_call2_1, x_call2_2, x_call2_3, x_call2_4, e_k_s, e_k_i, List.nil_append, List.cons_append, x_ifCond_eq, x_ifCond_eqb, x_dup2, x_iinc2i, x_iinc2r, x_iinc2u, x_goto, u_226_56, x_imul, x_ireturn, ia_70, is_70, mk_4, et, mk_u4, b01_0, ite_not, if_true, if_false, Int.reduceLT, Int.reduceEq]
        rw [if_pos (by omega), if_pos q1]
      · rw [if_neg q2] at et
        rw [if_neg (fun q => q2 q.2.2)]
        simp (disch := omega) only [v_226_69, u_226_0, x_aload0, k_69_0, x_sipush, x_iadd, x_istore1i, x_istore1r, x_istore1u, x_istore2i, x_istore2r, x_istore2u, x_jsr, x_iload2, x_iload1, x_if_icmp_ge, x_call2_0, x_call2_1, x_call2_2, x_call2_3, x_call2_4, e_k_s, e_k_i, List.nil_append, List.cons_append, x_ifCond_eq, x_ifCond_eqb, x_dup2, x_iinc2i, x_iinc2r, x_iinc2u, x_goto, u_226_56, x_imul, x_ireturn, ia_70, is_70, mk_4, et, b01_0, ite_not, if_true, if_false, Int.reduceLT, Int.reduceEq]
        rw [if_pos (by omega), if_pos q1]
    · rw [if_neg (fun q => q1 q.2.1)]
      simp (disch := omega) only [v_226_69, u_226_0, x_aload0, k_69_0, x_sipush, x_iadd, x_istore1i, x_istore1r, x_istore1u, x_istore2i, x_istore2r, x_istore2u, x_jsr, x_iload2, x_iload1, x_if_icmp_ge, x_call2_0, x_call2_1, x_call2_2, x_call2_3, x_call2_4, e_k_s, e_k_i, List.nil_append, List.cons_append, x_ifCond_eq, x_ifCond_eqb, x_dup2, x_iinc2i, x_iinc2r, x_iinc2u, x_goto, u_226_56, x_imul, x_ireturn, ia_70, is_70, mk_4, b01_0, ite_not, if_true, if_false, Int.reduceLT, Int.reduceEq]
      rw [if_pos (by omega), if_neg q1]
theorem m_walk (h : inv I) (hE : RE I (M 70)) {y m fr st : Int} (hco : cok I (y, m, fr, st)) {sc : Int} {P : Int → Int} : s_S X (d + 5) 226 [.ref 69] (mm (mk M (I 1 9) (y, m, fr, st) sc P) J) = some ([.int (iI (2 * wlk I (y, m, fr, st)))], mm (mk M (I 1 9) (y, m, fr + wlk I (y, m, fr, st), st) sc P) J) := by
  obtain ⟨c1, c2, c3, c4⟩ := id hco
  simp only at c1 c2 c3 c4
  have e := m_wk1 (X := X) (d := d) (J := J) h hE hco (sc := sc) (P := P) (m + 1).toNat 0 (by decide) (by omega) (by omega)
  rw [Int.add_zero] at e
  simp (disch := omega) only [v_226_69, u_226_0, x_aload0, k_69_0, x_sipush, x_iadd, x_istore1i, x_istore1r, x_istore1u, x_istore2i, x_istore2r, x_istore2u, x_jsr, x_iload2, x_iload1, x_if_icmp_ge, x_call2_0, x_call2_1, x_call2_2, x_call2_3, x_call2_4, e_k_s, e_k_i, List.nil_append, List.cons_append, x_ifCond_eq, x_ifCond_eqb, x_dup2, x_iinc2i, x_iinc2r, x_iinc2u, x_goto, u_226_56, x_imul, x_ireturn, ia_70, is_70, mk_3, e, b01_0, ite_not, if_true, if_false, Int.reduceLT, Int.reduceEq]
  rfl
theorem m_rs1 (h : inv I) (hE : RE I (M 70)) {y m sh st : Int} (hco : cok I (y, m, sh, st)) {sc : Int} {P : Int → Int} : ∀ (r : Nat) (k : Int), 0 ≤ k → k + r = I 1 9 → s_j X (d + 3) 223 2 [.ref 69, .int (iI k)] [] (mm (mk M (I 1 9) (y, m, sh, st) sc P) J) = some ([.int (iI (if lww I (y, m, sh, st) r k = -3 then -1 else lww I (y, m, sh, st) r k))], mm (mk M (I 1 9) (y, m, sh, st) sc P) J) := by
  have hn6 := h.1
  have e6 := hE.2.1
  intro r
  induction r with
  | zero =>
    intro k h0 hk
    rw [u_223_2]
    simp (disch := omega) only [v_223_69, u_223_0, x_sipush, x_istore1i, x_istore1r, x_istore1u, x_jsr, x_iload1, x_aload0, k_69_0, x_if_icmp_ge, x_call2_0, x_call2_1, x_call2_2, x_call2_3, x_call2_4, e_k_s, e_k_i, List.nil_append, List.cons_append, x_ifCond_eq, x_ifCond_eqb, x_ireturn, u_223_23, x_iinc1i, x_iinc1r, x_iinc1u, x_goto, u_223_29, ia_70, mk_r, e6, b01_0, ite_not, if_true, if_false, Int.reduceLT, Int.reduceEq]
    rw [if_neg (by omega)]
    rfl
  | succ r ih =>
    intro k h0 hk
    have ew := m_would (X := X) (d := d) (J := J) h hE hco (sc := sc) (P := P) (k := k) (by omega)
    rw [u_223_2]
    unfold lww
    by_cases q : wst I (y, m, sh, st) k
    · rw [if_pos q] at ew
      simp (disch := omega) only [v_223_69, u_223_0, x_sipush, x_istore1i, x_istore1r, x_istore1u, x_jsr, x_iload1, x_aload0, k_69_0, x_if_icmp_ge, x_call2_0, x_call2_1, x_call2_2, x_call2_3, x_call2_4, e_k_s, e_k_i, List.nil_append, List.cons_append, x_ifCond_eq, x_ifCond_eqb, x_ireturn, u_223_23, x_iinc1i, x_iinc1r, x_iinc1u, x_goto, u_223_29, ia_70, mk_r, e6, ew, b01_0, ite_not, if_true, if_false, Int.reduceLT, Int.reduceEq]
      rw [if_pos (by omega), if_pos q, if_neg (by omega)]
    · rw [if_neg q] at ew
      have e1 := ih (k + 1) (by omega) (by omega)
      simp (disch := omega) only [v_223_69, u_223_0, x_sipush, x_istore1i, x_istore1r, x_istore1u, x_jsr, x_iload1, x_aload0, k_69_0, x_if_icmp_ge, x_call2_0, x_call2_1, x_call2_2, x_call2_3, x_call2_4, e_k_s, e_k_i, List.nil_append, List.cons_append, x_ifCond_eq, x_ifCond_eqb, x_ireturn, u_223_23, x_iinc1i, x_iinc1r, x_iinc1u, x_goto, u_223_29, ia_70, mk_r, e6, ew, e1, b01_0, ite_not, if_true, if_false, Int.reduceLT, Int.reduceEq]
      rw [if_pos (by omega), if_neg q]
theorem m_rs (h : inv I) (hE : RE I (M 70)) {y m sh st : Int} (hco : cok I (y, m, sh, st)) {sc : Int} {P : Int → Int} : s_S X (d + 4) 223 [.ref 69] (mm (mk M (I 1 9) (y, m, sh, st) sc P) J) = some ([.int (iI (if lww I (y, m, sh, st) (I 1 9).toNat 0 = -3 then -1 else lww I (y, m, sh, st) (I 1 9).toNat 0))], mm (mk M (I 1 9) (y, m, sh, st) sc P) J) := by
  have e := m_rs1 (X := X) (d := d) (J := J) h hE hco (sc := sc) (P := P) (I 1 9).toNat 0 (by decide) (by have := h.1; omega)
  simp (disch := omega) only [v_223_69, u_223_0, x_sipush, x_istore1i, x_istore1r, x_istore1u, x_jsr, x_iload1, x_aload0, k_69_0, x_if_icmp_ge, x_call2_0, x_call2_1, x_call2_2, x_call2_3, x_call2_4, e_k_s, e_k_i, List.nil_append, List.cons_append, x_ifCond_eq, x_ifCond_eqb, x_ireturn, u_223_23, x_iinc1i, x_iinc1r, x_iinc1u, x_goto, u_223_29, ia_70, e, b01_0, ite_not, if_true, if_false, Int.reduceLT, Int.reduceEq]
theorem m_g77 (h : inv I) (hE : RE I (M 70)) {c : co} (hco : cok I c) {sc : Int} {P : Int → Int} {w : Int} {v1 v2 : Int32} : s_j X (d + 6) 220 77 [.ref 69, .int v1, .int v2, .retAddr 0] [.int (iI w)] (mm (mk M (I 1 9) c sc P) J) = some ([.int (iI (w + 2 * wlk I c))], mm (mk M (I 1 9) (c.1 + 1, c.2.1, c.2.2.1 + wlk I c, c.2.2.2) (sc + (w + 2 * wlk I c)) P) J) := by
  obtain ⟨y, m, fr, st⟩ := c
  have e := m_walk (X := X) (d := d + 1) (J := J) h hE hco (sc := sc) (P := P)
  simp (disch := omega) only [v_220_69, x_aload0, k_69_0, x_sipush, x_if_icmp_ge, x_iadd, x_call2_0, x_call2_1, x_call2_2, x_call2_3, x_call2_4, e_k_s, e_k_i, List.nil_append, List.cons_append, x_goto, u_220_42, x_jsr, u_220_48, x_iload1, x_ifCond_ge, x_call1_0, x_call1_1, x_call1_2, x_call1_3, x_call1_4, u_220_60, x_isub, u_220_63, x_istore2i, x_istore2r, x_istore2u, x_iload2, x_ifCond_lt, u_220_76, u_220_77, x_istore3i, x_istore3r, x_istore3u, x_iload3, x_dup2, x_ireturn, ia_70, is_70, e, mk_0, mk_2, mk_u0, mk_u2, b01_0, ite_not, if_true, if_false, Int.reduceLT, Int.reduceEq]
theorem m_g63 (h : inv I) (hE : RE I (M 70)) (hQ : RR I (M 70)) (hR : rok I) {c : co} (hco : cok I c) {sc : Int} (P : Int → Int) {t : Int} (ht : rg t) (ht2 : t < I 1 9) {v1 : Int32} : ∃ P', s_j X (d + 7) 220 63 [.ref 69, .int v1, .retAddr 0, .retAddr 0] [.int (iI t)] (mm (mk M (I 1 9) c sc P) J) = some ([.int (iI ((met I c t).1 + 2 * wlk I (met I c t).2))], mm (mk M (I 1 9) ((met I c t).2.1 + 1, (met I c t).2.2.1, (met I c t).2.2.2.1 + wlk I (met I c t).2, (met I c t).2.2.2.2) (sc + ((met I c t).1 + 2 * wlk I (met I c t).2)) P') J) := by
  have hm := met_ok h hco t
  by_cases q : 0 ≤ t
  · obtain ⟨P', e1⟩ := m_meets (X := X) (d := d + 1) (J := J) (M := M) h hE hQ hR hco (sc := sc) P (k := t) ⟨q, ht2⟩
    have e2 := m_g77 (X := X) (d := d + 1) (J := J) (M := M) h hE hm.1 (sc := sc) (P := P') (w := (met I c t).1) (v1 := v1) (v2 := iI t)
    refine ⟨P', ?_⟩
    simp (disch := omega) only [v_220_69, x_aload0, k_69_0, x_sipush, x_if_icmp_ge, x_iadd, x_call2_0, x_call2_1, x_call2_2, x_call2_3, x_call2_4, e_k_s, e_k_i, List.nil_append, List.cons_append, x_goto, u_220_42, x_jsr, u_220_48, x_iload1, x_ifCond_ge, x_call1_0, x_call1_1, x_call1_2, x_call1_3, x_call1_4, u_220_60, x_isub, u_220_63, x_istore2i, x_istore2r, x_istore2u, x_iload2, x_ifCond_lt, u_220_76, x_istore3i, x_istore3r, x_istore3u, x_iload3, x_dup2, x_ireturn, ia_70, is_70, e1, e2, b01_0, ite_not, if_true, if_false, Int.reduceLT, Int.reduceEq]
    rw [if_neg (by omega)]
  · have e0 : met I c t = (0, c) := if_neg (by omega)
    have e2 := m_g77 (X := X) (d := d + 1) (J := J) (M := M) h hE hco (sc := sc) (P := P) (w := 0) (v1 := v1) (v2 := iI t)
    refine ⟨P, ?_⟩
    rw [e0]
    simp (disch := omega) only [v_220_69, x_aload0, k_69_0, x_sipush, x_if_icmp_ge, x_iadd, x_call2_0, x_call2_1, x_call2_2, x_call2_3, x_call2_4, e_k_s, e_k_i, List.nil_append, List.cons_append, x_goto, u_220_42, x_jsr, u_220_48, x_iload1, x_ifCond_ge, x_call1_0, x_call1_1, x_call1_2, x_call1_3, x_call1_4, u_220_60, x_isub, u_220_63, x_istore2i, x_istore2r, x_istore2u, x_iload2, x_ifCond_lt, u_220_76, x_istore3i, x_istore3r, x_istore3u, x_iload3, x_dup2, x_ireturn, ia_70, is_70, e2, b01_0, ite_not, if_true, if_false, Int.reduceLT, Int.reduceEq]
    rw [if_pos (by omega)]
/-- A YEAR goes by in the model -/
theorem m_pas (h : inv I) (hE : RE I (M 70)) (hQ : RR I (M 70)) (hR : rok I) {c : co} (hco : cok I c) (hy : c.1 < I 1 12) {sc : Int} (P : Int → Int) {a : Int} (ha : -1 ≤ a ∧ a ≤ I 1 9) : ∃ P', s_S X (d + 8) 220 [.ref 69, .int (iI a)] (mm (mk M (I 1 9) c sc P) J) = some ([.int (iI (pas I c a).1)], mm (mk M (I 1 9) (pas I c a).2 (sc + (pas I c a).1) P') J) := by
  have hn := nwc_ok h hco
  have hn6 := h.1
  have h16 := h.2.2.2.1
  obtain ⟨y, m, sh, st⟩ := c
  have hnw : nwc I (y, m, sh, st) = (y, mdb (nws I y) m, sh, st) := rfl
  obtain ⟨c1, c2, c3, c4⟩ := id hco
  simp only at c1 c2 c3 c4 hy
  have a8 := hE.2.2.2.2 y c1.1 (by omega)
  have hnws : nws I y = I 8 y := if_pos (by omega)
  have b8 := h.2.2.2.2.2.2.2.2 y c1.1 (by omega)
  unfold pas
  by_cases q : a = -1
  · subst q
    have ht : tld I (nwc I (y, m, sh, st)) (-1) = lww I (nwc I (y, m, sh, st)) (I 1 9).toNat 0 := if_pos rfl
    rw [ht]
    rw [hnw, hnws] at hn ⊢
    have e3 := m_rs (X := X) (d := d + 3) (J := J) (M := M) h hE (y := y) (m := mdb (I 8 y) m) (sh := sh) (st := st) hn (sc := sc) (P := P)
    have hb := lww_b (I := I) (c := (y, mdb (I 8 y) m, sh, st)) (I 1 9).toNat 0
    have hbr := lww_rg (I := I) (c := (y, mdb (I 8 y) m, sh, st)) h.1
    have hmt : ∀ t, t < 0 → met I (y, mdb (I 8 y) m, sh, st) t = (0, (y, mdb (I 8 y) m, sh, st)) := fun t ht => if_neg (by omega)
    by_cases z : lww I (y, mdb (I 8 y) m, sh, st) (I 1 9).toNat 0 = -3
    · rw [if_pos z] at e3
      obtain ⟨P', e4⟩ := m_g63 (X := X) (d := d) (J := J) (M := M) h hE hQ hR hn (sc := sc) P (t := -1) (by decide) (by omega) (v1 := iI (-1))
      refine ⟨P', ?_⟩
      rw [z, hmt _ (by decide : (-3 : Int) < 0)]
      rw [hmt _ (by decide : (-1 : Int) < 0)] at e4
      rw [← e4]
      simp (disch := omega) only [v_220_69, u_220_0, x_aload0, k_69_0, x_sipush, x_if_icmp_ge, x_iadd, x_call2_0, x_call2_1, x_call2_2, x_call2_3, x_call2_4, e_k_s, e_k_i, List.nil_append, List.cons_append, x_goto, u_220_42, x_jsr, u_220_48, x_iload1, x_ifCond_ge, x_call1_0, x_call1_1, x_call1_2, x_call1_3, x_call1_4, u_220_60, x_isub, x_istore2i, x_istore2r, x_istore2u, x_iload2, x_ifCond_lt, u_220_76, x_istore3i, x_istore3r, x_istore3u, x_iload3, x_dup2, x_ireturn, ia_70, is_70, mk_r, mk_0, mk_3, a8, m_mood, mk_u3, e3, b01_0, ite_not, if_true, if_false, Int.reduceLT, Int.reduceEq]
      rw [if_pos (by omega)]
    · rw [if_neg z] at e3
      obtain ⟨P', e4⟩ := m_g63 (X := X) (d := d) (J := J) (M := M) h hE hQ hR hn (sc := sc) P (t := lww I (y, mdb (I 8 y) m, sh, st) (I 1 9).toNat 0) hbr (by omega) (v1 := iI (-1))
      refine ⟨P', ?_⟩
      rw [← e4]
      simp (disch := omega) only [v_220_69, u_220_0, x_aload0, k_69_0, x_sipush, x_if_icmp_ge, x_iadd, x_call2_0, x_call2_1, x_call2_2, x_call2_3, x_call2_4, e_k_s, e_k_i, List.nil_append, List.cons_append, x_goto, u_220_42, x_jsr, u_220_48, x_iload1, x_ifCond_ge, x_call1_0, x_call1_1, x_call1_2, x_call1_3, x_call1_4, u_220_60, x_isub, x_istore2i, x_istore2r, x_istore2u, x_iload2, x_ifCond_lt, u_220_76, x_istore3i, x_istore3r, x_istore3u, x_iload3, x_dup2, x_ireturn, ia_70, is_70, mk_r, mk_0, mk_3, a8, m_mood, mk_u3, e3, b01_0, ite_not, if_true, if_false, Int.reduceLT, Int.reduceEq]
      rw [if_pos (by omega)]
  · have ht : tld I (nwc I (y, m, sh, st)) a = a - 1 := if_neg q
    rw [ht]
    rw [hnw, hnws] at hn ⊢
    obtain ⟨P', e4⟩ := m_g63 (X := X) (d := d) (J := J) (M := M) h hE hQ hR hn (sc := sc) P (t := a - 1) ⟨by omega, by omega⟩ (by omega) (v1 := iI a)
    refine ⟨P', ?_⟩
    rw [← e4]
    simp (disch := omega) only [v_220_69, u_220_0, x_aload0, k_69_0, x_sipush, x_if_icmp_ge, x_iadd, x_call2_0, x_call2_1, x_call2_2, x_call2_3, x_call2_4, e_k_s, e_k_i, List.nil_append, List.cons_append, x_goto, u_220_42, x_jsr, u_220_48, x_iload1, x_ifCond_ge, x_call1_0, x_call1_1, x_call1_2, x_call1_3, x_call1_4, u_220_60, x_isub, x_istore2i, x_istore2r, x_istore2u, x_iload2, x_ifCond_lt, u_220_76, x_istore3i, x_istore3r, x_istore3u, x_iload3, x_dup2, x_ireturn, ia_70, is_70, mk_r, mk_0, mk_3, a8, m_mood, mk_u3, b01_0, ite_not, if_true, if_false, Int.reduceLT, Int.reduceEq]
    rw [if_pos (by omega), if_neg (by omega)]
end
