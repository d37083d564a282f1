/-! THE REST, in the model -/
theorem crl_eq {I I' : Nat → Int → Int} {S S' : Int → Int} (hS : ∀ x, 122 ≤ x → S' x = S x) (hI : ∀ b, I' 13 b = I 13 b) : ∀ (n : Nat) (i j e : Int) (k : Nat), 0 ≤ j → crl I S n i j e k → crl I' S' n i j e k
  | 0, _, _, _, _, _, h => h
  | n + 1, i, j, e, k, h0, h => by
    obtain ⟨hk, h⟩ := h
    refine ⟨hk, ?_⟩
    rw [hI, hS (122 + j) (by omega)]
    rcases h with ⟨a, b, c, h⟩ | ⟨a, b, h⟩ | ⟨s, l, r, a1, a2, a3, a4, a5, a6, a7, h⟩
    · exact Or.inl ⟨a, b, c, crl_eq hS hI n _ _ _ _ (by omega) h⟩
    · exact Or.inr (Or.inl ⟨a, b, crl_eq hS hI n _ _ _ _ (by omega) h⟩)
    · exact Or.inr (Or.inr ⟨s, l, r, a1, a2, a3, a4, a5, by rw [hS _ (by omega)]; exact a6, by rw [hS _ (by omega)]; exact a7, crl_eq hS hI n _ _ _ _ (by omega) h⟩)
theorem RR_eq {I I' : Nat → Int → Int} {S S' : Int → Int} (h9 : I' 9 5 = I 9 5) (h10 : I' 10 = I 10) (h11 : I' 11 = I 11) (h12 : I' 12 = I 12) (h13 : I' 13 = I 13) (h7 : S' 7 = S 7) (hS : ∀ x, 98 ≤ x → S' x = S x) (h : RR I S) : RR I' S' := by
  refine ⟨by rw [h7, h9]; exact h.1, fun i h0 h1 => ?_⟩
  rw [h9] at h1
  obtain ⟨a1, a2, a3, a4, a5⟩ := h.2 i h0 h1
  have em : mfr S' i = mfr S i := by
    unfold mfr
    by_cases q : i = 0
    · rw [if_pos q, if_pos q]
    · rw [if_neg q, if_neg q, hS _ (by omega)]
  have er : rfr I' i = rfr I i := by
    unfold rfr
    rw [h12]
  rw [hS _ (by omega), hS _ (by omega), hS _ (by omega), h10, h11, h12, em, er]
  exact ⟨a1, a2, a3, a4, crl_eq (fun x hx => hS x (by omega)) (fun b => by rw [h13]) _ _ _ _ _ a3 a5⟩
theorem RE_u3 {I M : Nat → Int → Int} {k v : Int} (h : RE I (M 70)) (hk : 0 ≤ k ∧ k < 6) : RE (up I 3 k v) (up M 70 (38 + 6 * k + 1) v 70) := by
  obtain ⟨e1, e2, e3, e4, e5⟩ := h
  refine ⟨?_, ?_, fun j j0 j1 => ?_, fun g g0 g1 => ?_, fun y y0 y1 => ?_⟩
  · rw [up_k (by omega), up_o (by decide)]; exact e1
  · rw [up_k (by omega), up_o (by decide)]; exact e2
  · rw [up_o (by decide)] at j1
    obtain ⟨a0, a1, a2, a3⟩ := e3 j j0 j1
    refine ⟨?_, ?_, ?_, ?_⟩
    · rw [up_k (by omega), up_o (by decide)]; exact a0
    · rw [up_row, up_row]
      by_cases q : j = k
      · rw [if_pos (by omega), if_pos q]
      · rw [if_neg (by omega), if_neg q]; exact a1
    · rw [up_k (by omega), up_o (by decide)]; exact a2
    · rw [up_k (by omega), up_o (by decide)]; exact a3
  · rw [up_k (by omega), up_o (by decide), up_k (by omega), up_o (by decide)]; exact e4 g g0 g1
  · rw [up_k (by omega), up_o (by decide)]; exact e5 y y0 y1
theorem RE_u4 {I M : Nat → Int → Int} {k v : Int} (h : RE I (M 70)) (hk : 0 ≤ k ∧ k < 6) : RE (up I 4 k v) (up M 70 (38 + 6 * k + 2) v 70) := by
  obtain ⟨e1, e2, e3, e4, e5⟩ := h
  refine ⟨?_, ?_, fun j j0 j1 => ?_, fun g g0 g1 => ?_, fun y y0 y1 => ?_⟩
  · rw [up_k (by omega), up_o (by decide)]; exact e1
  · rw [up_k (by omega), up_o (by decide)]; exact e2
  · rw [up_o (by decide)] at j1
    obtain ⟨a0, a1, a2, a3⟩ := e3 j j0 j1
    refine ⟨?_, ?_, ?_, ?_⟩
    · rw [up_k (by omega), up_o (by decide)]; exact a0
    · rw [up_k (by omega), up_o (by decide)]; exact a1
    · rw [up_row, up_row]
      by_cases q : j = k
      · rw [if_pos (by omega), if_pos q]
      · rw [if_neg (by omega), if_neg q]; exact a2
    · rw [up_k (by omega), up_o (by decide)]; exact a3
  · rw [up_k (by omega), up_o (by decide), up_k (by omega), up_o (by decide)]; exact e4 g g0 g1
  · rw [up_k (by omega), up_o (by decide)]; exact e5 y y0 y1
theorem mk_ur {M : Nat → Int → Int} {n : Int} {c : co} {sc k v : Int} {P L : Int → Int} (q : (k ≠ 0 ∧ k ≠ 2 ∧ k ≠ 3 ∧ k ≠ 4) ∧ ¬ (38 ≤ k ∧ k < 38 + 6 * n ∧ (k - 38) % 6 = 4)) : up (mk (b72 M L) n c sc P) 70 k v = mk (b72 (up M 70 k v) L) n c sc P := by
  obtain ⟨⟨q0, q2, q3, q4⟩, q5⟩ := q
  funext a b
  by_cases h1 : a = 70
  · subst h1
    by_cases h2 : b = k
    · subst h2
      rw [up_self, mk_r ⟨⟨q0, q2, q3, q4⟩, q5⟩, b72_o (by decide), up_self]
    · rw [up_k h2]
      unfold mk b72
      rw [if_pos rfl, if_pos rfl, if_neg (show (70 : Nat) ≠ 72 by decide), if_neg (show (70 : Nat) ≠ 72 by decide), up_k h2]
  · rw [up_o h1]
    unfold mk b72
    rw [if_neg h1, if_neg h1, up_o h1]
theorem nyec {I : Nat → Int → Int} {c : co} {r : Int} (hr : 0 ≤ r) (h : c.1 < I 1 12) (hn : (nxt I c).1 = c.1 + 1) : (yec I c (r + 1)).toNat = (yec I (nxt I c) r).toNat + 1 := by
  unfold yec
  omega
theorem yec0 {I : Nat → Int → Int} {c : co} {r : Int} (h : ¬ c.1 < I 1 12) : (yec I c r).toNat = 0 := by
  unfold yec
  omega
section
variable {X : e_X} {d : Nat} {I J M : Nat → Int → Int}
theorem m_ov (h : inv I) (hE : RE I (M 70)) {c : co} (hc : cok I c) {sc : Int} {P : Int → Int} : s_S X (d + 1) 217 [.ref 69] (mm (mk M (I 1 9) c sc P) J) = some ([.int (iI (if I 1 12 ≤ c.1 then 1 else 0))], mm (mk M (I 1 9) c sc P) J) := by
  have h16 := h.2.2.2.1
  have c1 := hc.1
  have hn := h.1
  refine m_over (I := mk M (I 1 9) c sc P) (J := J) rfl ?_ ⟨⟨by omega, by omega⟩, ⟨by omega, by omega⟩⟩
  rw [mk_r (by omega)]
  exact hE.1
theorem m_ro1 (h : inv I) (hE : RE I (M 70)) (hQ : RR I (M 70)) (hR : rok I) {n : Int} (hn : 0 ≤ n ∧ n ≤ 100) : ∀ (r : Nat) (c : co) (sc : Int) (P : Int → Int) (w k : Int), cok I c → 0 ≤ k → k + r = n → ∃ c' sc' P', s_j X (d + 8) 231 4 [.ref 69, .int (iI n), .int (iI w), .int (iI k)] [] (mm (mk M (I 1 9) c sc P) J) = some ([.int (iI (rnN I (yec I c r).toNat c w))], mm (mk M (I 1 9) c' sc' P') J) := by
  intro r
  induction r with
  | zero =>
    intro c sc P w k hc h0 hk
    refine ⟨c, sc, P, ?_⟩
    rw [u_231_4, show (yec I c ((0 : Nat) : Int)).toNat = 0 by unfold yec; omega]
    simp (disch := omega) only [v_231_69, u_231_0, x_sipush, x_istore2i, x_istore2r, x_istore2u, x_istore3i, x_istore3r, x_istore3u, x_jsr, x_iload3, x_iload1, x_if_icmp_ge, x_aload0, x_call1_0, x_call1_1, x_call1_2, x_call1_3, x_call1_4, e_k_s, e_k_i, List.nil_append, List.cons_append, x_ifCond_ne, x_ifCond_neb, x_iload2, x_call2_0, x_call2_1, x_call2_2, x_call2_3, x_call2_4, x_iadd, x_iinc3i, x_iinc3r, x_iinc3u, x_goto, u_231_30, x_ireturn, b01_0, ite_not, if_true, if_false, Int.reduceLT, Int.reduceEq]
    rw [if_neg (by omega)]
    rfl
  | succ r ih =>
    intro c sc P w k hc h0 hk
    have eo := m_ov (X := X) (d := d + 7) (J := J) h hE hc (sc := sc) (P := P)
    by_cases q : c.1 < I 1 12
    · have hx := nxt_ok h hc q
      obtain ⟨P1, e1⟩ := m_pas (X := X) (d := d) (J := J) (M := M) h hE hQ hR hc q (sc := sc) P (a := -1) (by have := h.1; omega)
      obtain ⟨c', sc', P', e2⟩ := ih (nxt I c) (sc + (pas I c (-1)).1) P1 (w + (pas I c (-1)).1) (k + 1) hx.1 (by omega) (by omega)
      refine ⟨c', sc', P', ?_⟩
      rw [show (((r + 1 : Nat)) : Int) = (r : Int) + 1 by omega, nyec (by omega) q hx.2]
      rw [show rnN I ((yec I (nxt I c) r).toNat + 1) c w = rnN I (yec I (nxt I c) r).toNat (nxt I c) (w + (pas I c (-1)).1) from rfl, ← e2]
      conv => lhs; rw [u_231_4]
      rw [if_neg (by omega)] at eo
      simp (disch := omega) only [v_231_69, u_231_0, x_sipush, x_istore2i, x_istore2r, x_istore2u, x_istore3i, x_istore3r, x_istore3u, x_jsr, x_iload3, x_iload1, x_if_icmp_ge, x_aload0, x_call1_0, x_call1_1, x_call1_2, x_call1_3, x_call1_4, e_k_s, e_k_i, List.nil_append, List.cons_append, x_ifCond_ne, x_ifCond_neb, x_iload2, x_call2_0, x_call2_1, x_call2_2, x_call2_3, x_call2_4, x_iadd, x_iinc3i, x_iinc3r, x_iinc3u, x_goto, u_231_30, x_ireturn, eo, e1, b01_0, ite_not, if_true, if_false, Int.reduceLT, Int.reduceEq]
      rw [if_pos (by omega)]
      rfl
    · refine ⟨c, sc, P, ?_⟩
      rw [yec0 q, u_231_4]
      rw [if_pos (by omega)] at eo
      simp (disch := omega) only [v_231_69, u_231_0, x_sipush, x_istore2i, x_istore2r, x_istore2u, x_istore3i, x_istore3r, x_istore3u, x_jsr, x_iload3, x_iload1, x_if_icmp_ge, x_aload0, x_call1_0, x_call1_1, x_call1_2, x_call1_3, x_call1_4, e_k_s, e_k_i, List.nil_append, List.cons_append, x_ifCond_ne, x_ifCond_neb, x_iload2, x_call2_0, x_call2_1, x_call2_2, x_call2_3, x_call2_4, x_iadd, x_iinc3i, x_iinc3r, x_iinc3u, x_goto, u_231_30, x_ireturn, eo, b01_0, ite_not, if_true, if_false, Int.reduceLT, Int.reduceEq]
      rw [if_pos (by omega)]
      rfl
theorem m_ro (h : inv I) (hE : RE I (M 70)) (hQ : RR I (M 70)) (hR : rok I) {n : Int} (hn : 0 ≤ n ∧ n ≤ 100) {c : co} (sc : Int) (P : Int → Int) (hc : cok I c) : ∃ c' sc' P', s_S X (d + 9) 231 [.ref 69, .int (iI n)] (mm (mk M (I 1 9) c sc P) J) = some ([.int (iI (rst I c n))], mm (mk M (I 1 9) c' sc' P') J) := by
  obtain ⟨c', sc', P', e⟩ := m_ro1 (X := X) (d := d) (J := J) (M := M) h hE hQ hR hn n.toNat c sc P 0 0 hc (by decide) (by omega)
  rw [Int.toNat_of_nonneg hn.1] at e
  refine ⟨c', sc', P', ?_⟩
  simp (disch := omega) only [v_231_69, u_231_0, x_sipush, x_istore2i, x_istore2r, x_istore2u, x_istore3i, x_istore3r, x_istore3u, x_jsr, x_iload3, x_iload1, x_if_icmp_ge, x_aload0, x_call1_0, x_call1_1, x_call1_2, x_call1_3, x_call1_4, e_k_s, e_k_i, List.nil_append, List.cons_append, x_ifCond_ne, x_ifCond_neb, x_iload2, x_call2_0, x_call2_1, x_call2_2, x_call2_3, x_call2_4, x_iadd, x_iinc3i, x_iinc3r, x_iinc3u, x_goto, u_231_30, x_ireturn, e, b01_0, ite_not, if_true, if_false, Int.reduceLT, Int.reduceEq]
  rfl
theorem m_on (h : inv I) (hE : RE I (M 70)) (hQ : RR I (M 70)) (hR : rok I) {n : Int} (hn : 0 ≤ n ∧ n ≤ 16) {c : co} (sc : Int) (P : Int → Int) (hc : cok I c) : ∃ L P', s_S X (d + 10) 229 [.ref 69, .int (iI n)] (mm (mk M (I 1 9) c sc P) J) = some ([.int (iI (rst I c n))], mm (mk (b72 M L) (I 1 9) c sc P') J) := by
  have h70 : ∀ L, b72 M L 70 = M 70 := fun L => b72_o (by decide)
  have e1 := m_ld (X := X) (d := d + 8) (J := J) (M := M) (n := I 1 9) (c := c) (sc := sc) (P := P)
  obtain ⟨c', sc', P', e2⟩ := m_ro (X := X) (d := d) (J := J) (M := b72 M (lyd M (mk M (I 1 9) c sc P 70))) h (by rw [h70]; exact hE) (by rw [h70]; exact hQ) hR (n := n) (by omega) sc P hc
  have e3 := m_lb (X := X) (d := d + 8) (J := J) (M := M) (M' := M) (L := lyd M (mk M (I 1 9) c sc P 70)) (n := I 1 9) h.1.2 (c := c) (c' := c') (sc := sc) (sc' := sc') (P := P) (P' := P') (fun k k0 k1 => if_pos ⟨k0, k1⟩) (fun o k _ => rfl)
  refine ⟨lyd M (mk M (I 1 9) c sc P 70), P', ?_⟩
  simp (disch := omega) only [v_229_69, u_229_0, x_iload1, x_sipush, x_call3_0, x_call3_1, x_call3_2, x_call3_3, x_call3_4, e_k_s, e_k_i, List.nil_append, List.cons_append, x_ifCond_ne, x_ifCond_neb, x_ireturn, u_229_12, x_aload0, x_call1_0, x_call1_1, x_call1_2, x_call1_3, x_call1_4, x_call2_0, x_call2_1, x_call2_2, x_call2_3, x_call2_4, x_istore2i, x_istore2r, x_istore2u, x_iload2, m_in1, e1, e2, e3, Int.reduceNeg, b01_0, ite_not, if_true, if_false, Int.reduceLT, Int.reduceEq]
  rw [if_pos (by omega)]
/-- the first year behind which a piece is seated -/
def wht (I : Nat → Int → Int) (k : Int) : Nat → co → Int
  | 0, _ => -3
  | n + 1, c => if bt (nxt I c).2.2.2 k = 1 then (nxt I c).1 - 1 else wht I k n (nxt I c)
def ovr (I : Nat → Int → Int) (v : Int) : Nat → co → Int
  | 0, _ => -3
  | n + 1, c => if v ≤ (nxt I c).2.2.1 then (nxt I c).1 - 1 else ovr I v n (nxt I c)
theorem m_wh1 (h : inv I) (hE : RE I (M 70)) (hQ : RR I (M 70)) (hR : rok I) {k : Int} (hk : 0 ≤ k ∧ k < I 1 9) : ∀ (r : Nat) (c : co) (sc : Int) (P : Int → Int) (w : Value), cok I c → c.1 + r = I 1 12 → ∃ c' sc' P' b w', s_j X (d + 8) 233 32 [.ref 69, .int (iI k), .int (iI (-3)), .int (iI 1), w] [] (mm (mk M (I 1 9) c sc P) J) = s_j X (d + 8) 233 91 [.ref 69, .int (iI k), .int (iI (wht I k r c)), .int (iI b), w'] [] (mm (mk M (I 1 9) c' sc' P') J) := by
  have hn6 := h.1
  have h16 := h.2.2.2.1
  intro r
  induction r with
  | zero =>
    intro c sc P w hc hr
    have eo := m_ov (X := X) (d := d + 7) (J := J) h hE hc (sc := sc) (P := P)
    rw [if_pos (by omega)] at eo
    refine ⟨c, sc, P, 1, w, ?_⟩
    rw [u_233_32]
    simp (disch := omega) only [v_233_69, u_233_0, x_aload0, x_iload1, x_call2_0, x_call2_1, x_call2_2, x_call2_3, x_call2_4, e_k_s, e_k_i, List.nil_append, List.cons_append, x_ifCond_ne, x_ifCond_neb, x_sipush, x_ireturn, u_233_10, x_call1_0, x_call1_1, x_call1_2, x_call1_3, x_call1_4, x_istore2i, x_istore2r, x_istore2u, x_call3_0, x_call3_1, x_call3_2, x_call3_3, x_call3_4, x_goto, u_233_30, x_jsr, u_233_31, x_istore3i, x_istore3r, x_istore3u, x_iload3, x_ifCond_eq, x_ifCond_eqb, x_istore4i, x_istore4r, x_istore4u, u_233_63, u_233_64, x_iload4, x_ifCond_ge, u_233_74, u_233_79, k_69_0, x_isub, u_233_87, x_iload2, ia_70, eo, b01_0, ite_not, if_true, if_false, Int.reduceLT, Int.reduceEq]
    rfl
  | succ r ih =>
    intro c sc P w hc hr
    have eo := m_ov (X := X) (d := d + 7) (J := J) h hE hc (sc := sc) (P := P)
    rw [if_neg (by omega)] at eo
    have q : c.1 < I 1 12 := by omega
    have hx := nxt_ok h hc q
    have hp := pas_ok h hc q (-1)
    obtain ⟨P1, e1⟩ := m_pas (X := X) (d := d) (J := J) (M := M) h hE hQ hR hc q (sc := sc) P (a := -1) (by omega)
    rw [show (pas I c (-1)).2 = nxt I c from rfl] at e1
    have hs : ∀ sc P, mk M (I 1 9) (nxt I c) sc P 70 (38 + 6 * k + 4) = bt (nxt I c).2.2.2 k := fun sc P => mk_s (y := (nxt I c).1) (m := (nxt I c).2.1) (h := (nxt I c).2.2.1) (s := (nxt I c).2.2.2) hk
    have hy : ∀ sc P, mk M (I 1 9) (nxt I c) sc P 70 0 = (nxt I c).1 := fun sc P => rfl
    have hb := bt_01 (nxt I c).2.2.2 k
    have hbr := bt_rg (nxt I c).2.2.2 k
    by_cases z : bt (nxt I c).2.2.2 k = 1
    · refine ⟨nxt I c, sc + (pas I c (-1)).1, P1, 0, .int (iI (pas I c (-1)).1), ?_⟩
      rw [show wht I k (r + 1) c = (nxt I c).1 - 1 from if_pos z, u_233_32]
      simp (disch := omega) only [v_233_69, u_233_0, x_aload0, x_iload1, x_call2_0, x_call2_1, x_call2_2, x_call2_3, x_call2_4, e_k_s, e_k_i, List.nil_append, List.cons_append, x_ifCond_ne, x_ifCond_neb, x_sipush, x_ireturn, u_233_10, x_call1_0, x_call1_1, x_call1_2, x_call1_3, x_call1_4, x_istore2i, x_istore2r, x_istore2u, x_call3_0, x_call3_1, x_call3_2, x_call3_3, x_call3_4, x_goto, u_233_30, x_jsr, u_233_31, x_istore3i, x_istore3r, x_istore3u, x_iload3, x_ifCond_eq, x_ifCond_eqb, x_istore4i, x_istore4r, x_istore4u, u_233_63, u_233_64, x_iload4, x_ifCond_ge, u_233_74, u_233_79, k_69_0, x_isub, u_233_87, x_iload2, ia_70, eo, e1, m_get, hs, z, hy, b01_0, ite_not, if_true, if_false, Int.reduceLT, Int.reduceEq]
      rw [if_neg (by omega), u_233_32]
      simp (disch := omega) only [v_233_69, u_233_0, x_aload0, x_iload1, x_call2_0, x_call2_1, x_call2_2, x_call2_3, x_call2_4, e_k_s, e_k_i, List.nil_append, List.cons_append, x_ifCond_ne, x_ifCond_neb, x_sipush, x_ireturn, u_233_10, x_call1_0, x_call1_1, x_call1_2, x_call1_3, x_call1_4, x_istore2i, x_istore2r, x_istore2u, x_call3_0, x_call3_1, x_call3_2, x_call3_3, x_call3_4, x_goto, u_233_30, x_jsr, u_233_31, x_istore3i, x_istore3r, x_istore3u, x_iload3, x_ifCond_eq, x_ifCond_eqb, x_istore4i, x_istore4r, x_istore4u, u_233_63, u_233_64, x_iload4, x_ifCond_ge, u_233_74, u_233_79, k_69_0, x_isub, u_233_87, x_iload2, ia_70, b01_0, ite_not, if_true, if_false, Int.reduceLT, Int.reduceEq]
    · obtain ⟨c', sc', P', b, w', e2⟩ := ih (nxt I c) (sc + (pas I c (-1)).1) P1 (.int (iI (pas I c (-1)).1)) hx.1 (by omega)
      have z0 : bt (nxt I c).2.2.2 k = 0 := by omega
      refine ⟨c', sc', P', b, w', ?_⟩
      rw [show wht I k (r + 1) c = wht I k r (nxt I c) from if_neg z, ← e2]
      conv => lhs; rw [u_233_32]
      simp (disch := omega) only [v_233_69, u_233_0, x_aload0, x_iload1, x_call2_0, x_call2_1, x_call2_2, x_call2_3, x_call2_4, e_k_s, e_k_i, List.nil_append, List.cons_append, x_ifCond_ne, x_ifCond_neb, x_sipush, x_ireturn, u_233_10, x_call1_0, x_call1_1, x_call1_2, x_call1_3, x_call1_4, x_istore2i, x_istore2r, x_istore2u, x_call3_0, x_call3_1, x_call3_2, x_call3_3, x_call3_4, x_goto, u_233_30, x_jsr, u_233_31, x_istore3i, x_istore3r, x_istore3u, x_iload3, x_ifCond_eq, x_ifCond_eqb, x_istore4i, x_istore4r, x_istore4u, u_233_63, u_233_64, x_iload4, x_ifCond_ge, u_233_74, u_233_79, k_69_0, x_isub, u_233_87, x_iload2, ia_70, eo, e1, m_get, hs, z0, hy, b01_0, ite_not, if_true, if_false, Int.reduceLT, Int.reduceEq]
theorem m_when (h : inv I) (hE : RE I (M 70)) (hQ : RR I (M 70)) (hR : rok I) {k : Int} (hk : 0 ≤ k ∧ k < I 1 9) {c : co} (sc : Int) (P : Int → Int) (hc : cok I c) : ∃ L P', s_S X (d + 9) 233 [.ref 69, .int (iI k)] (mm (mk M (I 1 9) c sc P) J) = some ([.int (iI (if bt c.2.2.2 k = 1 then -3 else wht I k (I 1 12 - c.1).toNat c))], mm (mk (b72 M L) (I 1 9) c sc P') J) := by
  have hn6 := h.1
  have c1 := hc.1
  have h70 : ∀ L, b72 M L 70 = M 70 := fun L => b72_o (by decide)
  have e0 := m_isp (X := X) (d := d + 6) (I := mk M (I 1 9) c sc P) (J := J) (k := k) (n := I 1 9) (by rw [mk_r (by omega)]; exact hE.2.1) ⟨⟨by omega, by omega⟩, hn6⟩
  rw [if_pos hk] at e0
  have e1 := m_ld (X := X) (d := d + 7) (J := J) (M := M) (n := I 1 9) (c := c) (sc := sc) (P := P)
  have hs : ∀ L sc P, mk (b72 M L) (I 1 9) c sc P 70 (38 + 6 * k + 4) = bt c.2.2.2 k := fun L sc P => mk_s (y := c.1) (m := c.2.1) (h := c.2.2.1) (s := c.2.2.2) hk
  have hb := bt_01 c.2.2.2 k
  have e3 := fun (c' : co) (sc' : Int) (P' : Int → Int) => m_lb (X := X) (d := d + 7) (J := J) (M := M) (M' := M) (L := lyd M (mk M (I 1 9) c sc P 70)) (n := I 1 9) h.1.2 (c := c) (c' := c') (sc := sc) (sc' := sc') (P := P) (P' := P') (fun k k0 k1 => if_pos ⟨k0, k1⟩) (fun o k _ => rfl)
  by_cases z : bt c.2.2.2 k = 1
  · refine ⟨lyd M (mk M (I 1 9) c sc P 70), P, ?_⟩
    rw [if_pos z]
    simp (disch := omega) only [v_233_69, u_233_0, x_aload0, x_iload1, x_call2_0, x_call2_1, x_call2_2, x_call2_3, x_call2_4, e_k_s, e_k_i, List.nil_append, List.cons_append, x_ifCond_ne, x_ifCond_neb, x_sipush, x_ireturn, u_233_10, x_call1_0, x_call1_1, x_call1_2, x_call1_3, x_call1_4, x_istore2i, x_istore2r, x_istore2u, x_call3_0, x_call3_1, x_call3_2, x_call3_3, x_call3_4, x_goto, u_233_30, x_jsr, u_233_31, x_istore3i, x_istore3r, x_istore3u, x_iload3, x_ifCond_eq, x_ifCond_eqb, x_istore4i, x_istore4r, x_istore4u, u_233_63, u_233_64, x_iload4, x_ifCond_ge, u_233_74, u_233_79, k_69_0, x_isub, u_233_87, u_233_91, x_iload2, ia_70, e0, e1, m_get, hs, z, b01_0, ite_not, if_true, if_false, Int.reduceLT, Int.reduceEq]
    rw [u_233_32]
    simp (disch := omega) only [v_233_69, u_233_0, x_aload0, x_iload1, x_call2_0, x_call2_1, x_call2_2, x_call2_3, x_call2_4, e_k_s, e_k_i, List.nil_append, List.cons_append, x_ifCond_ne, x_ifCond_neb, x_sipush, x_ireturn, u_233_10, x_call1_0, x_call1_1, x_call1_2, x_call1_3, x_call1_4, x_istore2i, x_istore2r, x_istore2u, x_call3_0, x_call3_1, x_call3_2, x_call3_3, x_call3_4, x_goto, u_233_30, x_jsr, u_233_31, x_istore3i, x_istore3r, x_istore3u, x_iload3, x_ifCond_eq, x_ifCond_eqb, x_istore4i, x_istore4r, x_istore4u, u_233_63, u_233_64, x_iload4, x_ifCond_ge, u_233_74, u_233_79, k_69_0, x_isub, u_233_87, u_233_91, x_iload2, ia_70, e3, b01_0, ite_not, if_true, if_false, Int.reduceLT, Int.reduceEq]
  · have z0 : bt c.2.2.2 k = 0 := by omega
    obtain ⟨c', sc', P', b, w', e2⟩ := m_wh1 (X := X) (d := d) (J := J) (M := b72 M (lyd M (mk M (I 1 9) c sc P 70))) h (by rw [h70]; exact hE) (by rw [h70]; exact hQ) hR hk (I 1 12 - c.1).toNat c sc P (.retAddr 0) hc (by omega)
    refine ⟨lyd M (mk M (I 1 9) c sc P 70), P', ?_⟩
    rw [if_neg z]
    simp (disch := omega) only [v_233_69, u_233_0, x_aload0, x_iload1, x_call2_0, x_call2_1, x_call2_2, x_call2_3, x_call2_4, e_k_s, e_k_i, List.nil_append, List.cons_append, x_ifCond_ne, x_ifCond_neb, x_sipush, x_ireturn, u_233_10, x_call1_0, x_call1_1, x_call1_2, x_call1_3, x_call1_4, x_istore2i, x_istore2r, x_istore2u, x_call3_0, x_call3_1, x_call3_2, x_call3_3, x_call3_4, x_goto, u_233_30, x_jsr, u_233_31, x_istore3i, x_istore3r, x_istore3u, x_iload3, x_ifCond_eq, x_ifCond_eqb, x_istore4i, x_istore4r, x_istore4u, u_233_63, u_233_64, x_iload4, x_ifCond_ge, u_233_74, u_233_79, k_69_0, x_isub, u_233_87, x_iload2, ia_70, e0, e1, m_get, hs, z0, e2, b01_0, ite_not, if_true, if_false, Int.reduceLT, Int.reduceEq]
    simp (disch := omega) only [v_233_69, u_233_0, x_aload0, x_iload1, x_call2_0, x_call2_1, x_call2_2, x_call2_3, x_call2_4, e_k_s, e_k_i, List.nil_append, List.cons_append, x_ifCond_ne, x_ifCond_neb, x_sipush, x_ireturn, u_233_10, x_call1_0, x_call1_1, x_call1_2, x_call1_3, x_call1_4, x_istore2i, x_istore2r, x_istore2u, x_call3_0, x_call3_1, x_call3_2, x_call3_3, x_call3_4, x_goto, u_233_30, x_jsr, u_233_31, x_istore3i, x_istore3r, x_istore3u, x_iload3, x_ifCond_eq, x_ifCond_eqb, x_istore4i, x_istore4r, x_istore4u, u_233_63, u_233_64, x_iload4, x_ifCond_ge, u_233_74, u_233_79, k_69_0, x_isub, u_233_87, u_233_91, x_iload2, ia_70, e3, b01_0, ite_not, if_true, if_false, Int.reduceLT, Int.reduceEq]
theorem m_ov1 (h : inv I) (hE : RE I (M 70)) (hQ : RR I (M 70)) (hR : rok I) {v : Int} (hv : 0 ≤ v ∧ v ≤ 40) : ∀ (r : Nat) (c : co) (sc : Int) (P : Int → Int) (w : Value), cok I c → c.1 + r = I 1 12 → ∃ c' sc' P' w', s_j X (d + 8) 237 19 [.ref 69, .int (iI v), .int (iI (-3)), w] [] (mm (mk M (I 1 9) c sc P) J) = s_j X (d + 8) 237 69 [.ref 69, .int (iI v), .int (iI (ovr I v r c)), w'] [] (mm (mk M (I 1 9) c' sc' P') J) := by
  have hn6 := h.1
  have h16 := h.2.2.2.1
  intro r
  induction r with
  | zero =>
    intro c sc P w hc hr
    have eo := m_ov (X := X) (d := d + 7) (J := J) h hE hc (sc := sc) (P := P)
    rw [if_pos (by omega)] at eo
    refine ⟨c, sc, P, w, ?_⟩
    rw [u_237_19]
    simp (disch := omega) only [v_237_69, u_237_0, x_iload1, x_sipush, x_call3_0, x_call3_1, x_call3_2, x_call3_3, x_call3_4, e_k_s, e_k_i, List.nil_append, List.cons_append, x_ifCond_ne, x_ifCond_neb, x_ireturn, u_237_12, x_aload0, x_call1_0, x_call1_1, x_call1_2, x_call1_3, x_call1_4, x_istore2i, x_istore2r, x_istore2u, x_jsr, x_iload2, x_if_icmp_ne, x_call2_0, x_call2_1, x_call2_2, x_call2_3, x_call2_4, x_istore3i, x_istore3r, x_istore3u, k_69_0, x_if_icmp_lt, x_iload3, x_ifCond_lt, x_isub, x_goto, u_237_63, u_237_65, ia_70, eo, b01_0, ite_not, if_true, if_false, Int.reduceLT, Int.reduceEq]
    rfl
  | succ r ih =>
    intro c sc P w hc hr
    have eo := m_ov (X := X) (d := d + 7) (J := J) h hE hc (sc := sc) (P := P)
    rw [if_neg (by omega)] at eo
    have q : c.1 < I 1 12 := by omega
    have hx := nxt_ok h hc q
    have hp := pas_ok h hc q (-1)
    have c0 := hc.1
    obtain ⟨P1, e1⟩ := m_pas (X := X) (d := d) (J := J) (M := M) h hE hQ hR hc q (sc := sc) P (a := -1) (by omega)
    rw [show (pas I c (-1)).2 = nxt I c from rfl] at e1
    have hs : ∀ sc P, mk M (I 1 9) (nxt I c) sc P 70 4 = (nxt I c).2.2.1 := fun sc P => rfl
    have hy : ∀ sc P, mk M (I 1 9) (nxt I c) sc P 70 0 = (nxt I c).1 := fun sc P => rfl
    have hsb := hx.1.2.2.1
    by_cases z : v ≤ (nxt I c).2.2.1
    · refine ⟨nxt I c, sc + (pas I c (-1)).1, P1, .int (iI (pas I c (-1)).1), ?_⟩
      rw [show ovr I v (r + 1) c = (nxt I c).1 - 1 from if_pos z, u_237_19]
      simp (disch := omega) only [v_237_69, u_237_0, x_iload1, x_sipush, x_call3_0, x_call3_1, x_call3_2, x_call3_3, x_call3_4, e_k_s, e_k_i, List.nil_append, List.cons_append, x_ifCond_ne, x_ifCond_neb, x_ireturn, u_237_12, x_aload0, x_call1_0, x_call1_1, x_call1_2, x_call1_3, x_call1_4, x_istore2i, x_istore2r, x_istore2u, x_jsr, x_iload2, x_if_icmp_ne, x_call2_0, x_call2_1, x_call2_2, x_call2_3, x_call2_4, x_istore3i, x_istore3r, x_istore3u, k_69_0, x_if_icmp_lt, x_iload3, x_ifCond_lt, x_isub, x_goto, u_237_63, u_237_65, ia_70, eo, e1, hs, hy, b01_0, ite_not, if_true, if_false, Int.reduceLT, Int.reduceEq]
      rw [if_neg (by omega), if_neg (by omega), u_237_19]
      simp (disch := omega) only [v_237_69, u_237_0, x_iload1, x_sipush, x_call3_0, x_call3_1, x_call3_2, x_call3_3, x_call3_4, e_k_s, e_k_i, List.nil_append, List.cons_append, x_ifCond_ne, x_ifCond_neb, x_ireturn, u_237_12, x_aload0, x_call1_0, x_call1_1, x_call1_2, x_call1_3, x_call1_4, x_istore2i, x_istore2r, x_istore2u, x_jsr, x_iload2, x_if_icmp_ne, x_call2_0, x_call2_1, x_call2_2, x_call2_3, x_call2_4, x_istore3i, x_istore3r, x_istore3u, k_69_0, x_if_icmp_lt, x_iload3, x_ifCond_lt, x_isub, x_goto, u_237_63, u_237_65, ia_70, b01_0, ite_not, if_true, if_false, Int.reduceLT, Int.reduceEq]
      rw [if_neg (by omega)]
    · obtain ⟨c', sc', P', w', e2⟩ := ih (nxt I c) (sc + (pas I c (-1)).1) P1 (.int (iI (pas I c (-1)).1)) hx.1 (by omega)
      refine ⟨c', sc', P', w', ?_⟩
      rw [show ovr I v (r + 1) c = ovr I v r (nxt I c) from if_neg z, ← e2]
      conv => lhs; rw [u_237_19]
      simp (disch := omega) only [v_237_69, u_237_0, x_iload1, x_sipush, x_call3_0, x_call3_1, x_call3_2, x_call3_3, x_call3_4, e_k_s, e_k_i, List.nil_append, List.cons_append, x_ifCond_ne, x_ifCond_neb, x_ireturn, u_237_12, x_aload0, x_call1_0, x_call1_1, x_call1_2, x_call1_3, x_call1_4, x_istore2i, x_istore2r, x_istore2u, x_jsr, x_iload2, x_if_icmp_ne, x_call2_0, x_call2_1, x_call2_2, x_call2_3, x_call2_4, x_istore3i, x_istore3r, x_istore3u, k_69_0, x_if_icmp_lt, x_iload3, x_ifCond_lt, x_isub, x_goto, u_237_63, u_237_65, ia_70, eo, e1, hs, hy, b01_0, ite_not, if_true, if_false, Int.reduceLT, Int.reduceEq]
      rw [if_pos (by omega)]
theorem m_ovr (h : inv I) (hE : RE I (M 70)) (hQ : RR I (M 70)) (hR : rok I) {v : Int} (hv : 0 ≤ v ∧ v ≤ 40) {c : co} (sc : Int) (P : Int → Int) (hc : cok I c) : ∃ L P', s_S X (d + 9) 237 [.ref 69, .int (iI v)] (mm (mk M (I 1 9) c sc P) J) = some ([.int (iI (ovr I v (I 1 12 - c.1).toNat c))], mm (mk (b72 M L) (I 1 9) c sc P') J) := by
  have hn6 := h.1
  have c1 := hc.1
  have h70 : ∀ L, b72 M L 70 = M 70 := fun L => b72_o (by decide)
  have e1 := m_ld (X := X) (d := d + 7) (J := J) (M := M) (n := I 1 9) (c := c) (sc := sc) (P := P)
  obtain ⟨c', sc', P', w', e2⟩ := m_ov1 (X := X) (d := d) (J := J) (M := b72 M (lyd M (mk M (I 1 9) c sc P 70))) h (by rw [h70]; exact hE) (by rw [h70]; exact hQ) hR hv (I 1 12 - c.1).toNat c sc P (.retAddr 0) hc (by omega)
  have e3 := m_lb (X := X) (d := d + 7) (J := J) (M := M) (M' := M) (L := lyd M (mk M (I 1 9) c sc P 70)) (n := I 1 9) h.1.2 (c := c) (c' := c') (sc := sc) (sc' := sc') (P := P) (P' := P') (fun k k0 k1 => if_pos ⟨k0, k1⟩) (fun o k _ => rfl)
  refine ⟨lyd M (mk M (I 1 9) c sc P 70), P', ?_⟩
  simp (disch := omega) only [v_237_69, u_237_0, x_iload1, x_sipush, x_call3_0, x_call3_1, x_call3_2, x_call3_3, x_call3_4, e_k_s, e_k_i, List.nil_append, List.cons_append, x_ifCond_ne, x_ifCond_neb, x_ireturn, u_237_12, x_aload0, x_call1_0, x_call1_1, x_call1_2, x_call1_3, x_call1_4, x_istore2i, x_istore2r, x_istore2u, x_jsr, x_iload2, x_if_icmp_ne, x_call2_0, x_call2_1, x_call2_2, x_call2_3, x_call2_4, x_istore3i, x_istore3r, x_istore3u, k_69_0, x_if_icmp_lt, x_iload3, x_ifCond_lt, x_isub, x_goto, u_237_63, u_237_65, u_237_69, ia_70, m_in1, e1, e2, e3, b01_0, ite_not, if_true, if_false, Int.reduceLT, Int.reduceEq]
  rw [if_pos (by omega)]
theorem m_bf1 (h : inv I) (hE : RE I (M 70)) (hQ : RR I (M 70)) (hR : rok I) {o : Nat} {f hi : Int} (ho : (o = 3 ∧ f = 1 ∧ hi = 39) ∨ (o = 4 ∧ f = 2 ∧ hi = 9)) {k : Int} (hk : 0 ≤ k ∧ k < I 1 9) {c : co} (hc : cok I c) {sc : Int} {L : Int → Int} (hL : ∀ (k : Int), 0 ≤ k → k < 74 → L k = mk M (I 1 9) c sc z0 70 k) : ∀ (n : Nat) (P : Int → Int) (v best most : Int) (w : Value), 0 ≤ v → v + n = hi + 1 → rg most → ∃ P', s_j X (d + 9) 235 23 [.ref 69, .int (iI k), .int (iI f), .int (iI hi), .int (iI best), .int (iI most), .int (iI v), w] [] (mm (mk (b72 M L) (I 1 9) c sc P) J) = some ([.int (iI (bsv I o k c n v best most))], mm (mk (b72 M L) (I 1 9) c sc P') J) := by
  have hn6 := h.1
  intro n
  induction n with
  | zero =>
    intro P v best most w h0 hn hm
    refine ⟨P, ?_⟩
    rw [u_235_23]
    simp (disch := omega) only [v_235_69, u_235_0, x_aload0, x_iload1, x_call2_0, x_call2_1, x_call2_2, x_call2_3, x_call2_4, e_k_s, e_k_i, List.nil_append, List.cons_append, x_ifCond_ne, x_ifCond_neb, x_sipush, x_ireturn, u_235_10, x_istore4i, x_istore4r, x_istore4u, x_istore5i, x_istore5r, x_istore5u, x_call1_0, x_call1_1, x_call1_2, x_call1_3, x_call1_4, x_istore6i, x_istore6r, x_istore6u, x_jsr, x_iload6, x_iload3, x_if_icmp_gt, x_iload2, x_call4_0, x_call4_1, x_call4_2, x_call4_3, x_call4_4, x_istore7i, x_istore7r, x_istore7u, x_iload7, x_iload5, x_if_icmp_le, x_goto, u_235_57, x_iload4, u_235_59, u_235_73, u_235_75, x_iinc6i, x_iinc6r, x_iinc6u, u_235_87, b01_0, ite_not, if_true, if_false, Int.reduceLT, Int.reduceEq]
    rw [if_pos (by omega)]
    rfl
  | succ n ih =>
    intro P v best most w h0 hn hm
    have hi1 : inv (up I o k v) := by
      rcases ho with ⟨rfl, rfl, rfl⟩ | ⟨rfl, rfl, rfl⟩
      · exact inv_u3 h (by omega)
      · exact inv_u4 h (by omega)
    have hr1 : rok (up I o k v) := rok_u (by omega) hR
    have hc1 : cok (up I o k v) c := by
      rcases ho with ⟨rfl, rfl, rfl⟩ | ⟨rfl, rfl, rfl⟩ <;> exact hc
    have h9 : up I o k v 1 9 = I 1 9 := up_o (by omega)
    have hE1 : RE (up I o k v) (b72 (up M 70 (38 + 6 * k + f) v) L 70) := by
      rw [b72_o (by decide)]
      rcases ho with ⟨rfl, rfl, rfl⟩ | ⟨rfl, rfl, rfl⟩
      · exact RE_u3 hE (by omega)
      · exact RE_u4 hE (by omega)
    have hQ1 : RR (up I o k v) (b72 (up M 70 (38 + 6 * k + f) v) L 70) := by
      rw [b72_o (by decide)]
      have hr : ∀ a : Nat, 9 ≤ a → up I o k v a = I a := fun a ha => by
        funext b
        exact up_o (by omega)
      exact RR_eq (by rw [hr 9 (by decide)]) (hr 10 (by decide)) (hr 11 (by decide)) (hr 12 (by decide)) (hr 13 (by decide)) (up_k (by omega)) (fun x hx => up_k (by omega)) hQ
    obtain ⟨c', sc', P1, e1⟩ := m_ro (X := X) (d := d) (J := J) (M := b72 (up M 70 (38 + 6 * k + f) v) L) hi1 hE1 hQ1 hr1 (n := 16) (by decide) sc P hc1
    rw [h9] at e1
    have hb := rst_b hi1 hc1 (m := 16) (by decide)
    have eu := mk_ur (M := M) (n := I 1 9) (c := c) (sc := sc) (k := 38 + 6 * k + f) (v := v) (P := P) (L := L) (by omega)
    have e3 := m_lb (X := X) (d := d + 8) (J := J) (M := M) (M' := up M 70 (38 + 6 * k + f) v) (L := L) (n := I 1 9) h.1.2 (c := c) (c' := c') (sc := sc) (sc' := sc') (P := z0) (P' := P1) hL (fun a b q => by
      unfold up
      rw [if_neg (by omega)])
    by_cases q : most < rst (up I o k v) c 16
    · obtain ⟨P', e2⟩ := ih P1 (v + 1) v (rst (up I o k v) c 16) (.int (iI (rst (up I o k v) c 16))) (by omega) (by omega) ⟨by omega, by omega⟩
      refine ⟨P', ?_⟩
      rw [show bsv I o k c (n + 1) v best most = bsv I o k c n (v + 1) v (rst (up I o k v) c 16) from if_pos q, ← e2]
      conv => lhs; rw [u_235_23]
      simp (disch := omega) only [v_235_69, u_235_0, x_aload0, x_iload1, x_call2_0, x_call2_1, x_call2_2, x_call2_3, x_call2_4, e_k_s, e_k_i, List.nil_append, List.cons_append, x_ifCond_ne, x_ifCond_neb, x_sipush, x_ireturn, u_235_10, x_istore4i, x_istore4r, x_istore4u, x_istore5i, x_istore5r, x_istore5u, x_call1_0, x_call1_1, x_call1_2, x_call1_3, x_call1_4, x_istore6i, x_istore6r, x_istore6u, x_jsr, x_iload6, x_iload3, x_if_icmp_gt, x_iload2, x_call4_0, x_call4_1, x_call4_2, x_call4_3, x_call4_4, x_istore7i, x_istore7r, x_istore7u, x_iload7, x_iload5, x_if_icmp_le, x_goto, u_235_57, x_iload4, u_235_59, u_235_73, u_235_75, x_iinc6i, x_iinc6r, x_iinc6u, u_235_87, m_puts, eu, e1, e3, b01_0, ite_not, if_true, if_false, Int.reduceLT, Int.reduceEq]
      rw [if_neg (by omega), if_pos q, if_pos q]
    · obtain ⟨P', e2⟩ := ih P1 (v + 1) best most (.int (iI (rst (up I o k v) c 16))) (by omega) (by omega) hm
      refine ⟨P', ?_⟩
      rw [show bsv I o k c (n + 1) v best most = bsv I o k c n (v + 1) best most from if_neg q, ← e2]
      conv => lhs; rw [u_235_23]
      simp (disch := omega) only [v_235_69, u_235_0, x_aload0, x_iload1, x_call2_0, x_call2_1, x_call2_2, x_call2_3, x_call2_4, e_k_s, e_k_i, List.nil_append, List.cons_append, x_ifCond_ne, x_ifCond_neb, x_sipush, x_ireturn, u_235_10, x_istore4i, x_istore4r, x_istore4u, x_istore5i, x_istore5r, x_istore5u, x_call1_0, x_call1_1, x_call1_2, x_call1_3, x_call1_4, x_istore6i, x_istore6r, x_istore6u, x_jsr, x_iload6, x_iload3, x_if_icmp_gt, x_iload2, x_call4_0, x_call4_1, x_call4_2, x_call4_3, x_call4_4, x_istore7i, x_istore7r, x_istore7u, x_iload7, x_iload5, x_if_icmp_le, x_goto, u_235_57, x_iload4, u_235_59, u_235_73, u_235_75, x_iinc6i, x_iinc6r, x_iinc6u, u_235_87, m_puts, eu, e1, e3, b01_0, ite_not, if_true, if_false, Int.reduceLT, Int.reduceEq]
      rw [if_neg (by omega), if_neg q, if_neg q]
theorem m_bf (h : inv I) (hE : RE I (M 70)) (hQ : RR I (M 70)) (hR : rok I) {o : Nat} {f hi : Int} (ho : (o = 3 ∧ f = 1 ∧ hi = 39) ∨ (o = 4 ∧ f = 2 ∧ hi = 9)) {k : Int} (hk : 0 ≤ k ∧ k < I 1 9) {c : co} (hc : cok I c) (sc : Int) (P : Int → Int) : ∃ L P', s_S X (d + 10) 235 [.ref 69, .int (iI k), .int (iI f), .int (iI hi)] (mm (mk M (I 1 9) c sc P) J) = some ([.int (iI (bsv I o k c (hi + 1).toNat 0 0 (-1)))], mm (mk (b72 M L) (I 1 9) c sc P') J) := by
  have hn6 := h.1
  have e0 := m_isp (X := X) (d := d + 7) (I := mk M (I 1 9) c sc P) (J := J) (k := k) (n := I 1 9) (by rw [mk_r (by omega)]; exact hE.2.1) ⟨⟨by omega, by omega⟩, hn6⟩
  rw [if_pos hk] at e0
  have e1 := m_ld (X := X) (d := d + 8) (J := J) (M := M) (n := I 1 9) (c := c) (sc := sc) (P := P)
  obtain ⟨P', e2⟩ := m_bf1 (X := X) (d := d) (J := J) (M := M) h hE hQ hR ho hk hc (sc := sc) (L := lyd M (mk M (I 1 9) c sc P 70)) (fun k k0 k1 => if_pos ⟨k0, k1⟩) (hi + 1).toNat P 0 0 (-1) (.retAddr 0) (by decide) (by omega) (by decide)
  refine ⟨lyd M (mk M (I 1 9) c sc P 70), P', ?_⟩
  simp (disch := omega) only [v_235_69, u_235_0, x_aload0, x_iload1, x_call2_0, x_call2_1, x_call2_2, x_call2_3, x_call2_4, e_k_s, e_k_i, List.nil_append, List.cons_append, x_ifCond_ne, x_ifCond_neb, x_sipush, x_ireturn, u_235_10, x_istore4i, x_istore4r, x_istore4u, x_istore5i, x_istore5r, x_istore5u, x_call1_0, x_call1_1, x_call1_2, x_call1_3, x_call1_4, x_istore6i, x_istore6r, x_istore6u, x_jsr, x_iload6, x_iload3, x_if_icmp_gt, x_iload2, x_call4_0, x_call4_1, x_call4_2, x_call4_3, x_call4_4, x_istore7i, x_istore7r, x_istore7u, x_iload7, x_iload5, x_if_icmp_le, x_goto, u_235_57, x_iload4, u_235_59, u_235_73, u_235_75, x_iinc6i, x_iinc6r, x_iinc6u, u_235_87, e0, e1, e2, b01_0, ite_not, if_true, if_false, Int.reduceLT, Int.reduceEq]
end
