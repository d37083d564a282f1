/-! GAPS, BRANCHES, FETCHING in the model -/
theorem ball_dec : (List.range 7).all (fun n => (List.range n).all fun k => decide (bt (2 ^ n - 1) k = 1)) = true := by decide +kernel
theorem bt_all {n k : Int} (hn : 0 ≤ n ∧ n ≤ 6) (hk : 0 ≤ k ∧ k < n) : bt (2 ^ n.toNat - 1) k = 1 := by
  obtain ⟨a, rfl⟩ := Int.eq_ofNat_of_zero_le hn.1
  obtain ⟨b, rfl⟩ := Int.eq_ofNat_of_zero_le hk.1
  exact of_decide_eq_true (List.all_eq_true.mp (List.all_eq_true.mp ball_dec a (List.mem_range.mpr (by omega))) b (List.mem_range.mpr (by omega)))
/-- the least place from p on, and from where she is, that none spans -/
def fd1 (B : Nat) (she p : Int) : Int := fu1 B (40 - max p she).toNat (max p she)
theorem fd1_s {B : Nat} {she p : Int} (hp : 0 ≤ p ∧ p < 40) (hs : 0 ≤ she ∧ she ≤ 40) : fd1 B she p = if she ≤ p ∧ ¬ B.testBit p.toNat = true then p else fd1 B she (p + 1) := by
  unfold fd1
  by_cases h : she ≤ p
  · rw [show max p she = p by omega, show max (p + 1) she = p + 1 by omega, show (40 - p).toNat = (40 - (p + 1)).toNat + 1 by omega]
    show (if B.testBit p.toNat = true then _ else _) = _
    by_cases q : B.testBit p.toNat = true
    · rw [if_pos q, if_neg (fun z => z.2 q)]
    · rw [if_neg q, if_pos ⟨h, q⟩]
  · rw [if_neg (fun z => h z.1), show max p she = max (p + 1) she by omega]
def mb1 (I : Nat → Int → Int) (s a : Int) : Nat → Int → Int → Int
  | 0, _, set => set
  | n + 1, b, set => mb1 I s a n (b + 1) (if bt set a = 1 ∧ clo I s a b then stb set b 1 else set)
def mb2 (I : Nat → Int → Int) (s : Int) : Nat → Int → Int → Int
  | 0, _, set => set
  | n + 1, a, set => mb2 I s n (a + 1) (mb1 I s a (I 1 9).toNat 0 set)
def mbR (I : Nat → Int → Int) (s set : Int) : Int := mb2 I s (I 1 9).toNat 0 set
def mbc (I : Nat → Int → Int) (s k : Int) : Int := if bt s k = 1 then 0 else itr (mbR I s) (I 1 9).toNat (stb 0 k 1)
def mcb (I : Nat → Int → Int) (s : Int) : Nat → Int → Int → Int
  | 0, _, a => a
  | n + 1, k, a => mcb I s n (k + 1) (a + (if mbc I s k ≠ 0 ∧ mbc I s k % stb 0 k 1 = 0 then 1 else 0))
theorem mb1_b {I : Nat → Int → Int} {s a : Int} : ∀ (n : Nat) (b set : Int), 0 ≤ b → b + n ≤ 6 → 0 ≤ set ∧ set < 64 → 0 ≤ mb1 I s a n b set ∧ mb1 I s a n b set < 64
  | 0, _, _, _, _, h => h
  | n + 1, b, set, h0, hn, h => by
    unfold mb1
    refine mb1_b n _ _ (by omega) (by omega) ?_
    split
    · have := (stb_i h (k := b) (by omega)).2.2.1
      omega
    · exact h
theorem mb2_b {I : Nat → Int → Int} (hn6 : 0 ≤ I 1 9 ∧ I 1 9 ≤ 6) {s : Int} : ∀ (n : Nat) (a set : Int), 0 ≤ set ∧ set < 64 → 0 ≤ mb2 I s n a set ∧ mb2 I s n a set < 64
  | 0, _, _, h => h
  | n + 1, a, set, h => by
    unfold mb2
    exact mb2_b hn6 n _ _ (mb1_b _ _ _ (by decide) (by omega) h)
theorem mbR_b {I : Nat → Int → Int} (hn6 : 0 ≤ I 1 9 ∧ I 1 9 ≤ 6) {s set : Int} (h : 0 ≤ set ∧ set < 64) : 0 ≤ mbR I s set ∧ mbR I s set < 64 := mb2_b hn6 _ _ _ h
theorem st0_b {k : Int} (hk : 0 ≤ k ∧ k < 6) : 0 < stb 0 k 1 ∧ stb 0 k 1 < 64 := by
  have : k = 0 ∨ k = 1 ∨ k = 2 ∨ k = 3 ∨ k = 4 ∨ k = 5 := by omega
  rcases this with rfl | rfl | rfl | rfl | rfl | rfl <;> decide
theorem mbc_b {I : Nat → Int → Int} (hn6 : 0 ≤ I 1 9 ∧ I 1 9 ≤ 6) {s k : Int} (hk : 0 ≤ k ∧ k < 6) : 0 ≤ mbc I s k ∧ mbc I s k < 64 := by
  unfold mbc
  split
  · decide
  · exact itr_b (fun s hs => mbR_b hn6 hs) _ _ (by have := st0_b hk; omega)
theorem sh1_i {k : Int} (hk : 0 ≤ k ∧ k < 6) : iI 1 <<< (iI k &&& 31) = iI (stb 0 k 1) := by
  rw [← (stb_i (s := 0) (k := k) (by decide) hk).1]
  exact Int32.zero_or.symm
section
variable {X : e_X} {d : Nat} {I J M : Nat → Int → Int}
theorem m_sp1 (h : inv I) (hE : RE I (M 70)) {y m sh st : Int} (hco : cok I (y, m, sh, st)) {sc : Int} {P : Int → Int} {p : Int} (hp : 0 ≤ p ∧ p < 100) {v1 v2 v3 : Int32} : ∀ (r n : Nat), (n : Int) + r = I 1 9 → s_j X (d + 4) 238 31 [.ref 69, .int v1, .int v2, .int v3, .int (iI p), .int (iI (if (plk I y (2 ^ (I 1 9).toNat - 1) n).testBit p.toNat = true then 1 else 0)), .int (iI (n : Nat))] [] (mm (mk M (I 1 9) (y, m, sh, st) sc P) J) = s_j X (d + 4) 238 72 [.ref 69, .int v1, .int v2, .int v3, .int (iI p), .int (iI (if (plk I y (2 ^ (I 1 9).toNat - 1) (I 1 9).toNat).testBit p.toNat = true then 1 else 0)), .int (iI (I 1 9))] [] (mm (mk M (I 1 9) (y, m, sh, st) sc P) J) := by
  have hn6 := h.1
  have e6 := hE.2.1
  intro r
  induction r with
  | zero =>
    intro n hn
    rw [u_238_31, show (I 1 9).toNat = n by omega, show ((n : Nat) : Int) = I 1 9 by omega]
    simp (disch := omega) only [v_238_69, u_238_0, x_iload1, x_sipush, x_call3_0, x_call3_1, x_call3_2, x_call3_3, x_call3_4, e_k_s, e_k_i, List.nil_append, List.cons_append, x_ifCond_ne, x_ifCond_neb, x_ireturn, u_238_11, x_istore2i, x_istore2r, x_istore2u, x_istore3i, x_istore3r, x_istore3u, x_istore4i, x_istore4r, x_istore4u, x_jsr, u_238_20, x_iload4, x_ifCond_lt, x_istore5i, x_istore5r, x_istore5u, x_istore6i, x_istore6r, x_istore6u, x_iload6, x_aload0, k_69_0, x_if_icmp_ge, x_iload5, x_ifCond_eq, x_ifCond_eqb, u_238_59, x_goto, u_238_63, u_238_64, x_iinc6i, x_iinc6r, x_iinc6u, x_iload2, x_call2_0, x_call2_1, x_call2_2, x_call2_3, x_call2_4, u_238_86, u_238_87, x_iadd, x_if_icmp_lt, u_238_110, x_iload3, u_238_111, x_iinc4i, x_iinc4r, x_iinc4u, u_238_118, u_238_126, u_238_127, ia_70, mk_r, e6, b01_0, ite_not, if_true, if_false, Int.reduceLT, Int.reduceEq]
    rw [if_neg (by omega)]
  | succ r ih =>
    intro n hn
    have hk : 0 ≤ (n : Int) ∧ (n : Int) < I 1 9 := by omega
    have es := m_ispd (X := X) (d := d + 1) (J := J) h hE hco (sc := sc) (P := P) (k := n) (p := p) hk ⟨by omega, by omega⟩
    obtain ⟨k1, k2, k3, k4⟩ := h.2.2.2.2.2.2.1 n hk.1 hk.2
    have hs := spn_b (kd := I 2 n) (y := y) k3
    have e1 := ih (n + 1) (by omega)
    rw [show (((n + 1 : Nat)) : Int) = (n : Int) + 1 by omega] at e1
    have ht : (plk I y (2 ^ (I 1 9).toNat - 1) (n + 1)).testBit p.toNat = ((plk I y (2 ^ (I 1 9).toNat - 1) n).testBit p.toNat || decide (I 3 n ≤ p ∧ p < I 3 n + spn (I 2 n) (I 4 n) y)) := by
      show (if bt (2 ^ (I 1 9).toNat - 1) n = 1 then _ else _ : Nat).testBit p.toNat = _
      rw [if_pos (bt_all hn6 hk), Nat.testBit_or, pl1_t]
      congr 1
      exact decide_eq_decide.mpr (by omega)
    rw [ht] at e1
    rw [u_238_31]
    by_cases t : (plk I y (2 ^ (I 1 9).toNat - 1) n).testBit p.toNat = true
    · rw [t, Bool.true_or, if_pos rfl] at e1
      rw [if_pos t]
      simp (disch := omega) only [v_238_69, u_238_0, x_iload1, x_sipush, x_call3_0, x_call3_1, x_call3_2, x_call3_3, x_call3_4, e_k_s, e_k_i, List.nil_append, List.cons_append, x_ifCond_ne, x_ifCond_neb, x_ireturn, u_238_11, x_istore2i, x_istore2r, x_istore2u, x_istore3i, x_istore3r, x_istore3u, x_istore4i, x_istore4r, x_istore4u, x_jsr, u_238_20, x_iload4, x_ifCond_lt, x_istore5i, x_istore5r, x_istore5u, x_istore6i, x_istore6r, x_istore6u, x_iload6, x_aload0, k_69_0, x_if_icmp_ge, x_iload5, x_ifCond_eq, x_ifCond_eqb, u_238_59, x_goto, u_238_63, u_238_64, x_iinc6i, x_iinc6r, x_iinc6u, x_iload2, x_call2_0, x_call2_1, x_call2_2, x_call2_3, x_call2_4, u_238_86, u_238_87, x_iadd, x_if_icmp_lt, u_238_110, x_iload3, u_238_111, x_iinc4i, x_iinc4r, x_iinc4u, u_238_118, u_238_126, u_238_127, ia_70, mk_r, e6, e1, b01_0, ite_not, if_true, if_false, Int.reduceLT, Int.reduceEq]
      rw [if_pos (by omega)]
    · rw [if_neg t]
      rw [Bool.eq_false_iff.mpr t, Bool.false_or] at e1
      by_cases z : I 3 n ≤ p ∧ p < I 3 n + spn (I 2 n) (I 4 n) y
      · rw [decide_eq_true z, if_pos rfl] at e1
        rw [if_pos z] at es
        simp (disch := omega) only [v_238_69, u_238_0, x_iload1, x_sipush, x_call3_0, x_call3_1, x_call3_2, x_call3_3, x_call3_4, e_k_s, e_k_i, List.nil_append, List.cons_append, x_ifCond_ne, x_ifCond_neb, x_ireturn, u_238_11, x_istore2i, x_istore2r, x_istore2u, x_istore3i, x_istore3r, x_istore3u, x_istore4i, x_istore4r, x_istore4u, x_jsr, u_238_20, x_iload4, x_ifCond_lt, x_istore5i, x_istore5r, x_istore5u, x_istore6i, x_istore6r, x_istore6u, x_iload6, x_aload0, k_69_0, x_if_icmp_ge, x_iload5, x_ifCond_eq, x_ifCond_eqb, u_238_59, x_goto, u_238_63, u_238_64, x_iinc6i, x_iinc6r, x_iinc6u, x_iload2, x_call2_0, x_call2_1, x_call2_2, x_call2_3, x_call2_4, u_238_86, u_238_87, x_iadd, x_if_icmp_lt, u_238_110, x_iload3, u_238_111, x_iinc4i, x_iinc4r, x_iinc4u, u_238_118, u_238_126, u_238_127, ia_70, mk_r, e6, es, e1, b01_0, ite_not, if_true, if_false, Int.reduceLT, Int.reduceEq]
        rw [if_pos (by omega)]
      · rw [decide_eq_false z, if_neg (by decide)] at e1
        rw [if_neg z] at es
        simp (disch := omega) only [v_238_69, u_238_0, x_iload1, x_sipush, x_call3_0, x_call3_1, x_call3_2, x_call3_3, x_call3_4, e_k_s, e_k_i, List.nil_append, List.cons_append, x_ifCond_ne, x_ifCond_neb, x_ireturn, u_238_11, x_istore2i, x_istore2r, x_istore2u, x_istore3i, x_istore3r, x_istore3u, x_istore4i, x_istore4r, x_istore4u, x_jsr, u_238_20, x_iload4, x_ifCond_lt, x_istore5i, x_istore5r, x_istore5u, x_istore6i, x_istore6r, x_istore6u, x_iload6, x_aload0, k_69_0, x_if_icmp_ge, x_iload5, x_ifCond_eq, x_ifCond_eqb, u_238_59, x_goto, u_238_63, u_238_64, x_iinc6i, x_iinc6r, x_iinc6u, x_iload2, x_call2_0, x_call2_1, x_call2_2, x_call2_3, x_call2_4, u_238_86, u_238_87, x_iadd, x_if_icmp_lt, u_238_110, x_iload3, u_238_111, x_iinc4i, x_iinc4r, x_iinc4u, u_238_118, u_238_126, u_238_127, ia_70, mk_r, e6, es, e1, b01_0, ite_not, if_true, if_false, Int.reduceLT, Int.reduceEq]
        rw [if_pos (by omega)]
theorem m_ga1 (h : inv I) (hE : RE I (M 70)) {y m sh st : Int} (hco : cok I (y, m, sh, st)) {sc : Int} {P : Int → Int} {v1 : Int32} : ∀ (r : Nat) (p : Int) (w5 w6 : Value), p + 1 = r → p < 40 → ∃ w5' w6', s_j X (d + 4) 238 20 [.ref 69, .int v1, .int (iI (cn1 (plk I y st (I 1 9).toNat) (39 - p).toNat (p + 1))), .int (iI (fd1 (plk I y (2 ^ (I 1 9).toNat - 1) (I 1 9).toNat) sh (p + 1))), .int (iI p), w5, w6] [] (mm (mk M (I 1 9) (y, m, sh, st) sc P) J) = s_j X (d + 4) 238 118 [.ref 69, .int v1, .int (iI (cn1 (plk I y st (I 1 9).toNat) 40 0)), .int (iI (fd1 (plk I y (2 ^ (I 1 9).toNat - 1) (I 1 9).toNat) sh 0)), .int (iI (-1)), w5', w6'] [] (mm (mk M (I 1 9) (y, m, sh, st) sc P) J) := by
  have c3 := hco.2.2.1
  simp only at c3
  intro r
  induction r with
  | zero =>
    intro p w5 w6 hp h40
    have : p = -1 := by omega
    subst this
    refine ⟨w5, w6, ?_⟩
    rw [u_238_20]
    simp (disch := omega) only [v_238_69, u_238_0, x_iload1, x_sipush, x_call3_0, x_call3_1, x_call3_2, x_call3_3, x_call3_4, e_k_s, e_k_i, List.nil_append, List.cons_append, x_ifCond_ne, x_ifCond_neb, x_ireturn, u_238_11, x_istore2i, x_istore2r, x_istore2u, x_istore3i, x_istore3r, x_istore3u, x_istore4i, x_istore4r, x_istore4u, x_jsr, x_iload4, x_ifCond_lt, x_istore5i, x_istore5r, x_istore5u, x_istore6i, x_istore6r, x_istore6u, u_238_31, x_iload6, x_aload0, k_69_0, x_if_icmp_ge, x_iload5, x_ifCond_eq, x_ifCond_eqb, u_238_59, x_goto, u_238_63, u_238_64, x_iinc6i, x_iinc6r, x_iinc6u, u_238_72, x_iload2, x_call2_0, x_call2_1, x_call2_2, x_call2_3, x_call2_4, u_238_86, u_238_87, x_iadd, x_if_icmp_lt, u_238_110, x_iload3, u_238_111, x_iinc4i, x_iinc4r, x_iinc4u, u_238_126, u_238_127, ia_70, b01_0, ite_not, if_true, if_false, Int.reduceLT, Int.reduceEq]
    rfl
  | succ r ih =>
    intro p w5 w6 hp h40
    have et := m_th (X := X) (d := d) (J := J) h hE hco (sc := sc) (P := P) (p := p) (by omega)
    have e1 := m_sp1 (X := X) (d := d) (J := J) h hE hco (sc := sc) (P := P) (p := p) (by omega) (v1 := v1) (v2 := iI (cn1 (plk I y st (I 1 9).toNat) (39 - p).toNat (p + 1))) (v3 := iI (fd1 (plk I y (2 ^ (I 1 9).toNat - 1) (I 1 9).toNat) sh (p + 1))) (I 1 9).toNat 0 (by have := h.1; omega)
    rw [show (plk I y (2 ^ (I 1 9).toNat - 1) 0).testBit p.toNat = false from Nat.zero_testBit _, if_neg (by decide)] at e1
    have c1 : cn1 (plk I y st (I 1 9).toNat) (39 - (p - 1)).toNat p = cn1 (plk I y st (I 1 9).toNat) (39 - p).toNat (p + 1) + (if (plk I y st (I 1 9).toNat).testBit p.toNat = true then 0 else 1) := by
      rw [show (39 - (p - 1)).toNat = (39 - p).toNat + 1 by omega]
      rfl
    have c2 := fd1_s (B := plk I y (2 ^ (I 1 9).toNat - 1) (I 1 9).toNat) (she := sh) (p := p) (by omega) c3
    obtain ⟨w5', w6', e2⟩ := ih (p - 1) (.int (iI (if (plk I y (2 ^ (I 1 9).toNat - 1) (I 1 9).toNat).testBit p.toNat = true then 1 else 0))) (.int (iI (I 1 9))) (by omega) (by omega)
    refine ⟨w5', w6', ?_⟩
    rw [show p - 1 + 1 = p by omega, c1, c2] at e2
    rw [← e2]
    conv => lhs; rw [u_238_20]
    have z0 : ((0 : Nat) : Int) = 0 := rfl
    rw [z0] at e1
    have pm : p + -1 = p - 1 := by omega
    by_cases t : (plk I y st (I 1 9).toNat).testBit p.toNat = true
    · rw [if_pos t] at et
      rw [if_pos t]
      by_cases q : (plk I y (2 ^ (I 1 9).toNat - 1) (I 1 9).toNat).testBit p.toNat = true
      · rw [if_pos q] at e1
        rw [if_neg (fun z => z.2 q), if_pos q]
        simp (disch := omega) only [v_238_69, u_238_0, x_iload1, x_sipush, x_call3_0, x_call3_1, x_call3_2, x_call3_3, x_call3_4, e_k_s, e_k_i, List.nil_append, List.cons_append, x_ifCond_ne, x_ifCond_neb, x_ireturn, u_238_11, x_istore2i, x_istore2r, x_istore2u, x_istore3i, x_istore3r, x_istore3u, x_istore4i, x_istore4r, x_istore4u, x_jsr, x_iload4, x_ifCond_lt, x_istore5i, x_istore5r, x_istore5u, x_istore6i, x_istore6r, x_istore6u, x_iload6, x_aload0, k_69_0, x_if_icmp_ge, x_iload5, x_ifCond_eq, x_ifCond_eqb, u_238_59, x_goto, u_238_63, u_238_64, x_iinc6i, x_iinc6r, x_iinc6u, u_238_72, x_iload2, x_call2_0, x_call2_1, x_call2_2, x_call2_3, x_call2_4, u_238_86, u_238_87, x_iadd, x_if_icmp_lt, u_238_110, x_iload3, u_238_111, x_iinc4i, x_iinc4r, x_iinc4u, u_238_126, u_238_127, ia_70, e1, et, mk_4, pm, Int.add_zero, b01_0, ite_not, if_true, if_false, Int.reduceLT, Int.reduceEq]
        rw [if_neg (by omega)]
        split <;> rfl
      · rw [if_neg q] at e1
        rw [if_neg q]
        by_cases q2 : sh ≤ p
        · rw [if_pos ⟨q2, q⟩]
          simp (disch := omega) only [v_238_69, u_238_0, x_iload1, x_sipush, x_call3_0, x_call3_1, x_call3_2, x_call3_3, x_call3_4, e_k_s, e_k_i, List.nil_append, List.cons_append, x_ifCond_ne, x_ifCond_neb, x_ireturn, u_238_11, x_istore2i, x_istore2r, x_istore2u, x_istore3i, x_istore3r, x_istore3u, x_istore4i, x_istore4r, x_istore4u, x_jsr, x_iload4, x_ifCond_lt, x_istore5i, x_istore5r, x_istore5u, x_istore6i, x_istore6r, x_istore6u, x_iload6, x_aload0, k_69_0, x_if_icmp_ge, x_iload5, x_ifCond_eq, x_ifCond_eqb, u_238_59, x_goto, u_238_63, u_238_64, x_iinc6i, x_iinc6r, x_iinc6u, u_238_72, x_iload2, x_call2_0, x_call2_1, x_call2_2, x_call2_3, x_call2_4, u_238_86, u_238_87, x_iadd, x_if_icmp_lt, u_238_110, x_iload3, u_238_111, x_iinc4i, x_iinc4r, x_iinc4u, u_238_126, u_238_127, ia_70, e1, et, mk_4, pm, Int.add_zero, b01_0, ite_not, if_true, if_false, Int.reduceLT, Int.reduceEq]
          rw [if_neg (by omega), if_neg (by omega)]
        · rw [if_neg (fun z => q2 z.1)]
          simp (disch := omega) only [v_238_69, u_238_0, x_iload1, x_sipush, x_call3_0, x_call3_1, x_call3_2, x_call3_3, x_call3_4, e_k_s, e_k_i, List.nil_append, List.cons_append, x_ifCond_ne, x_ifCond_neb, x_ireturn, u_238_11, x_istore2i, x_istore2r, x_istore2u, x_istore3i, x_istore3r, x_istore3u, x_istore4i, x_istore4r, x_istore4u, x_jsr, x_iload4, x_ifCond_lt, x_istore5i, x_istore5r, x_istore5u, x_istore6i, x_istore6r, x_istore6u, x_iload6, x_aload0, k_69_0, x_if_icmp_ge, x_iload5, x_ifCond_eq, x_ifCond_eqb, u_238_59, x_goto, u_238_63, u_238_64, x_iinc6i, x_iinc6r, x_iinc6u, u_238_72, x_iload2, x_call2_0, x_call2_1, x_call2_2, x_call2_3, x_call2_4, u_238_86, u_238_87, x_iadd, x_if_icmp_lt, u_238_110, x_iload3, u_238_111, x_iinc4i, x_iinc4r, x_iinc4u, u_238_126, u_238_127, ia_70, e1, et, mk_4, pm, Int.add_zero, b01_0, ite_not, if_true, if_false, Int.reduceLT, Int.reduceEq]
          rw [if_neg (by omega), if_pos (by omega)]
    · rw [if_neg t] at et
      rw [if_neg t]
      by_cases q : (plk I y (2 ^ (I 1 9).toNat - 1) (I 1 9).toNat).testBit p.toNat = true
      · rw [if_pos q] at e1
        rw [if_neg (fun z => z.2 q), if_pos q]
        simp (disch := omega) only [v_238_69, u_238_0, x_iload1, x_sipush, x_call3_0, x_call3_1, x_call3_2, x_call3_3, x_call3_4, e_k_s, e_k_i, List.nil_append, List.cons_append, x_ifCond_ne, x_ifCond_neb, x_ireturn, u_238_11, x_istore2i, x_istore2r, x_istore2u, x_istore3i, x_istore3r, x_istore3u, x_istore4i, x_istore4r, x_istore4u, x_jsr, x_iload4, x_ifCond_lt, x_istore5i, x_istore5r, x_istore5u, x_istore6i, x_istore6r, x_istore6u, x_iload6, x_aload0, k_69_0, x_if_icmp_ge, x_iload5, x_ifCond_eq, x_ifCond_eqb, u_238_59, x_goto, u_238_63, u_238_64, x_iinc6i, x_iinc6r, x_iinc6u, u_238_72, x_iload2, x_call2_0, x_call2_1, x_call2_2, x_call2_3, x_call2_4, u_238_86, u_238_87, x_iadd, x_if_icmp_lt, u_238_110, x_iload3, u_238_111, x_iinc4i, x_iinc4r, x_iinc4u, u_238_126, u_238_127, ia_70, e1, et, mk_4, pm, Int.add_zero, b01_0, ite_not, if_true, if_false, Int.reduceLT, Int.reduceEq]
        rw [if_neg (by omega)]
        split <;> rfl
      · rw [if_neg q] at e1
        rw [if_neg q]
        by_cases q2 : sh ≤ p
        · rw [if_pos ⟨q2, q⟩]
          simp (disch := omega) only [v_238_69, u_238_0, x_iload1, x_sipush, x_call3_0, x_call3_1, x_call3_2, x_call3_3, x_call3_4, e_k_s, e_k_i, List.nil_append, List.cons_append, x_ifCond_ne, x_ifCond_neb, x_ireturn, u_238_11, x_istore2i, x_istore2r, x_istore2u, x_istore3i, x_istore3r, x_istore3u, x_istore4i, x_istore4r, x_istore4u, x_jsr, x_iload4, x_ifCond_lt, x_istore5i, x_istore5r, x_istore5u, x_istore6i, x_istore6r, x_istore6u, x_iload6, x_aload0, k_69_0, x_if_icmp_ge, x_iload5, x_ifCond_eq, x_ifCond_eqb, u_238_59, x_goto, u_238_63, u_238_64, x_iinc6i, x_iinc6r, x_iinc6u, u_238_72, x_iload2, x_call2_0, x_call2_1, x_call2_2, x_call2_3, x_call2_4, u_238_86, u_238_87, x_iadd, x_if_icmp_lt, u_238_110, x_iload3, u_238_111, x_iinc4i, x_iinc4r, x_iinc4u, u_238_126, u_238_127, ia_70, e1, et, mk_4, pm, Int.add_zero, b01_0, ite_not, if_true, if_false, Int.reduceLT, Int.reduceEq]
          rw [if_neg (by omega), if_neg (by omega)]
        · rw [if_neg (fun z => q2 z.1)]
          simp (disch := omega) only [v_238_69, u_238_0, x_iload1, x_sipush, x_call3_0, x_call3_1, x_call3_2, x_call3_3, x_call3_4, e_k_s, e_k_i, List.nil_append, List.cons_append, x_ifCond_ne, x_ifCond_neb, x_ireturn, u_238_11, x_istore2i, x_istore2r, x_istore2u, x_istore3i, x_istore3r, x_istore3u, x_istore4i, x_istore4r, x_istore4u, x_jsr, x_iload4, x_ifCond_lt, x_istore5i, x_istore5r, x_istore5u, x_istore6i, x_istore6r, x_istore6u, x_iload6, x_aload0, k_69_0, x_if_icmp_ge, x_iload5, x_ifCond_eq, x_ifCond_eqb, u_238_59, x_goto, u_238_63, u_238_64, x_iinc6i, x_iinc6r, x_iinc6u, u_238_72, x_iload2, x_call2_0, x_call2_1, x_call2_2, x_call2_3, x_call2_4, u_238_86, u_238_87, x_iadd, x_if_icmp_lt, u_238_110, x_iload3, u_238_111, x_iinc4i, x_iinc4r, x_iinc4u, u_238_126, u_238_127, ia_70, e1, et, mk_4, pm, Int.add_zero, b01_0, ite_not, if_true, if_false, Int.reduceLT, Int.reduceEq]
          rw [if_neg (by omega), if_pos (by omega)]
theorem m_gap (h : inv I) (hE : RE I (M 70)) {c : co} (hco : cok I c) {sc : Int} {P : Int → Int} {w : Int} (hw : w = 0 ∨ w = 1) : s_S X (d + 5) 238 [.ref 69, .int (iI w)] (mm (mk M (I 1 9) c sc P) J) = some ([.int (iI (if w = 0 then fu1 (plk I c.1 (2 ^ (I 1 9).toNat - 1) (I 1 9).toNat) (40 - c.2.2.1).toNat c.2.2.1 else cn1 (plk I c.1 c.2.2.2 (I 1 9).toNat) 40 0))], mm (mk M (I 1 9) c sc P) J) := by
  obtain ⟨y, m, sh, st⟩ := c
  have c3 := hco.2.2.1
  simp only at c3
  obtain ⟨w5, w6, e⟩ := m_ga1 (X := X) (d := d) (J := J) h hE hco (sc := sc) (P := P) (v1 := iI w) 40 39 (.retAddr 0) (.retAddr 0) (by decide) (by decide)
  have c1 : cn1 (plk I y st (I 1 9).toNat) (39 - (39 : Int)).toNat (39 + 1) = 0 := rfl
  have c2 : fd1 (plk I y (2 ^ (I 1 9).toNat - 1) (I 1 9).toNat) sh (39 + 1) = -3 := by
    unfold fd1
    rw [show max (39 + 1) sh = 40 by omega]
    rfl
  have c4 : fd1 (plk I y (2 ^ (I 1 9).toNat - 1) (I 1 9).toNat) sh 0 = fu1 (plk I y (2 ^ (I 1 9).toNat - 1) (I 1 9).toNat) (40 - sh).toNat sh := by
    unfold fd1
    rw [show max 0 sh = sh by omega]
  rw [c1, c2, c4] at e
  rcases hw with rfl | rfl
  · simp (disch := omega) only [v_238_69, u_238_0, x_iload1, x_sipush, x_call3_0, x_call3_1, x_call3_2, x_call3_3, x_call3_4, e_k_s, e_k_i, List.nil_append, List.cons_append, x_ifCond_ne, x_ifCond_neb, x_ireturn, u_238_11, x_istore2i, x_istore2r, x_istore2u, x_istore3i, x_istore3r, x_istore3u, x_istore4i, x_istore4r, x_istore4u, x_jsr, x_iload4, x_ifCond_lt, x_istore5i, x_istore5r, x_istore5u, x_istore6i, x_istore6r, x_istore6u, u_238_31, x_iload6, x_aload0, k_69_0, x_if_icmp_ge, x_iload5, x_ifCond_eq, x_ifCond_eqb, u_238_59, x_goto, u_238_63, u_238_64, x_iinc6i, x_iinc6r, x_iinc6u, u_238_72, x_iload2, x_call2_0, x_call2_1, x_call2_2, x_call2_3, x_call2_4, u_238_86, u_238_87, x_iadd, x_if_icmp_lt, u_238_110, x_iload3, u_238_111, x_iinc4i, x_iinc4r, x_iinc4u, u_238_118, u_238_126, u_238_127, ia_70, m_in1, e, b01_0, ite_not, if_true, if_false, Int.reduceLT, Int.reduceEq]
    rfl
  · simp (disch := omega) only [v_238_69, u_238_0, x_iload1, x_sipush, x_call3_0, x_call3_1, x_call3_2, x_call3_3, x_call3_4, e_k_s, e_k_i, List.nil_append, List.cons_append, x_ifCond_ne, x_ifCond_neb, x_ireturn, u_238_11, x_istore2i, x_istore2r, x_istore2u, x_istore3i, x_istore3r, x_istore3u, x_istore4i, x_istore4r, x_istore4u, x_jsr, x_iload4, x_ifCond_lt, x_istore5i, x_istore5r, x_istore5u, x_istore6i, x_istore6r, x_istore6u, u_238_31, x_iload6, x_aload0, k_69_0, x_if_icmp_ge, x_iload5, x_ifCond_eq, x_ifCond_eqb, u_238_59, x_goto, u_238_63, u_238_64, x_iinc6i, x_iinc6r, x_iinc6u, u_238_72, x_iload2, x_call2_0, x_call2_1, x_call2_2, x_call2_3, x_call2_4, u_238_86, u_238_87, x_iadd, x_if_icmp_lt, u_238_110, x_iload3, u_238_111, x_iinc4i, x_iinc4r, x_iinc4u, u_238_118, u_238_126, u_238_127, ia_70, m_in1, e, b01_0, ite_not, if_true, if_false, Int.reduceLT, Int.reduceEq]
    rfl
theorem m_clo (h : inv I) (hE : RE I (M 70)) {y m sh st : Int} {sc : Int} {P : Int → Int} {a b : Int} (ha : 0 ≤ a ∧ a < I 1 9) (hb : 0 ≤ b ∧ b < I 1 9) : s_S X (d + 2) 241 [.ref 69, .int (iI a), .int (iI b)] (mm (mk M (I 1 9) (y, m, sh, st) sc P) J) = some ([.int (iI (if clo I st a b then 1 else 0))], mm (mk M (I 1 9) (y, m, sh, st) sc P) J) := by
  have hn := h.1
  obtain ⟨j1, j2, j3, j4⟩ := h.2.2.2.2.2.2.1 a ha.1 ha.2
  obtain ⟨k1, k2, k3, k4⟩ := h.2.2.2.2.2.2.1 b hb.1 hb.2
  obtain ⟨a0, a1, a2, a3⟩ := hE.2.2.1 a ha.1 ha.2
  obtain ⟨b0, b1, b2, b3⟩ := hE.2.2.1 b hb.1 hb.2
  have h1 := bt_01 st a
  have h2 := bt_01 st b
  have h3 := bt_rg st a
  have h4 := bt_rg st b
  have hc : (clo I st a b) = (¬ bt st a = 1 ∧ ¬ bt st b = 1 ∧ (I 5 a = I 5 b ∨ (-2 ≤ I 3 a - I 3 b ∧ I 3 a - I 3 b ≤ 2))) := by
    unfold clo iabs
    refine propext (and_congr Iff.rfl (and_congr Iff.rfl (or_congr Iff.rfl ?_)))
    split <;> omega
  simp only [hc]
  simp (disch := omega) only [v_241_69, u_241_0, x_aload0, x_iload1, x_sipush, x_call3_0, x_call3_1, x_call3_2, x_call3_3, x_call3_4, e_k_s, e_k_i, List.nil_append, List.cons_append, x_iload2, x_isub, x_istore3i, x_istore3r, x_istore3u, x_ifCond_ne, x_ifCond_neb, x_if_icmp_eq, x_iload3, x_ifCond_eq, x_ifCond_eqb, x_jsr, u_241_57, x_goto, u_241_61, u_241_62, x_zret0, x_zret1, x_zretb, m_get, mk_r, mk_s, a1, b1, a3, b3, m_in1, b01_0, ite_not, if_true, if_false, Int.reduceLT, Int.reduceEq]
  (repeat' split) <;> first | rfl | (exfalso; omega)
theorem m_mb1 (h : inv I) (hE : RE I (M 70)) {y m sh st : Int} {sc : Int} {P : Int → Int} {a : Int} (ha : 0 ≤ a ∧ a < I 1 9) {v1 v3 : Int32} : ∀ (n : Nat) (b set : Int), 0 ≤ b → b + n = I 1 9 → 0 ≤ set ∧ set < 64 → s_j X (d + 2) 240 35 [.ref 69, .int v1, .int (iI set), .int v3, .int (iI a), .int (iI b)] [] (mm (mk M (I 1 9) (y, m, sh, st) sc P) J) = s_j X (d + 2) 240 85 [.ref 69, .int v1, .int (iI (mb1 I st a n b set)), .int v3, .int (iI a), .int (iI (I 1 9))] [] (mm (mk M (I 1 9) (y, m, sh, st) sc P) J) := by
  have hn6 := h.1
  have e6 := hE.2.1
  intro n
  induction n with
  | zero =>
    intro b set h0 hn hs
    rw [u_240_35, show b = I 1 9 by omega]
    simp (disch := omega) only [v_240_69, u_240_0, x_sipush, x_iload1, x_ishl, x_istore2i, x_istore2r, x_istore2u, x_istore3i, x_istore3r, x_istore3u, x_jsr, u_240_6, x_iload3, x_aload0, k_69_0, x_if_icmp_ge, x_istore4i, x_istore4r, x_istore4u, u_240_20, x_iload4, x_istore5i, x_istore5r, x_istore5u, x_iload5, x_iload2, x_ishr, x_iand, x_if_icmp_ne, x_call3_0, x_call3_1, x_call3_2, x_call3_3, x_call3_4, e_k_s, e_k_i, List.nil_append, List.cons_append, x_ifCond_eq, x_ifCond_eqb, x_goto, u_240_76, u_240_77, x_ior, x_iinc5i, x_iinc5r, x_iinc5u, x_iinc4i, x_iinc4r, x_iinc4u, u_240_91, x_iinc3i, x_iinc3r, x_iinc3u, u_240_97, u_240_111, u_240_112, x_ireturn, ia_70, mk_r, e6, b01_0, ite_not, if_true, if_false, Int.reduceLT, Int.reduceEq]
    rw [if_neg (by omega)]
    rfl
  | succ n ih =>
    intro b set h0 hn hs
    have e1 := m_clo (X := X) (d := d) (J := J) h hE (y := y) (m := m) (sh := sh) (st := st) (sc := sc) (P := P) (a := a) (b := b) ha ⟨h0, by omega⟩
    have e2 := bt_i (s := set) (k := a) hs (by omega)
    have hbr := bt_rg set a
    have hst := stb_i hs (k := b) (by omega)
    have e3 := hst.1
    rw [sh1_i (by omega)] at e3
    have e5 : iI set ||| iI 0 = iI set := Int32.or_zero
    have e7 := sh1_i (k := b) (by omega)
    unfold mb1
    by_cases q1 : bt set a = 1
    · by_cases q2 : clo I st a b
      · have e4 := ih (b + 1) (stb set b 1) (by omega) (by omega) (by omega)
        rw [if_pos q2] at e1
        rw [if_pos ⟨q1, q2⟩, ← e4]
        conv => lhs; rw [u_240_35]
        simp (disch := omega) only [v_240_69, u_240_0, x_sipush, x_iload1, x_ishl, x_istore2i, x_istore2r, x_istore2u, x_istore3i, x_istore3r, x_istore3u, x_jsr, u_240_6, x_iload3, x_aload0, k_69_0, x_if_icmp_ge, x_istore4i, x_istore4r, x_istore4u, u_240_20, x_iload4, x_istore5i, x_istore5r, x_istore5u, x_iload5, x_iload2, x_ishr, x_iand, x_if_icmp_ne, x_call3_0, x_call3_1, x_call3_2, x_call3_3, x_call3_4, e_k_s, e_k_i, List.nil_append, List.cons_append, x_ifCond_eq, x_ifCond_eqb, x_goto, u_240_76, u_240_77, x_ior, x_iinc5i, x_iinc5r, x_iinc5u, x_iinc4i, x_iinc4r, x_iinc4u, u_240_91, x_iinc3i, x_iinc3r, x_iinc3u, u_240_97, u_240_111, u_240_112, x_ireturn, ia_70, mk_r, e6, e1, e2, q1, e7, e3, b01_0, ite_not, if_true, if_false, Int.reduceLT, Int.reduceEq]
        rw [if_pos (by omega)]
      · have e4 := ih (b + 1) set (by omega) (by omega) hs
        rw [if_neg q2] at e1
        rw [if_neg (fun q => q2 q.2), ← e4]
        conv => lhs; rw [u_240_35]
        simp (disch := omega) only [v_240_69, u_240_0, x_sipush, x_iload1, x_ishl, x_istore2i, x_istore2r, x_istore2u, x_istore3i, x_istore3r, x_istore3u, x_jsr, u_240_6, x_iload3, x_aload0, k_69_0, x_if_icmp_ge, x_istore4i, x_istore4r, x_istore4u, u_240_20, x_iload4, x_istore5i, x_istore5r, x_istore5u, x_iload5, x_iload2, x_ishr, x_iand, x_if_icmp_ne, x_call3_0, x_call3_1, x_call3_2, x_call3_3, x_call3_4, e_k_s, e_k_i, List.nil_append, List.cons_append, x_ifCond_eq, x_ifCond_eqb, x_goto, u_240_76, u_240_77, x_ior, x_iinc5i, x_iinc5r, x_iinc5u, x_iinc4i, x_iinc4r, x_iinc4u, u_240_91, x_iinc3i, x_iinc3r, x_iinc3u, u_240_97, u_240_111, u_240_112, x_ireturn, ia_70, mk_r, e6, e1, e2, q1, e5, b01_0, ite_not, if_true, if_false, Int.reduceLT, Int.reduceEq]
        rw [if_pos (by omega)]
    · have e4 := ih (b + 1) set (by omega) (by omega) hs
      rw [if_neg (fun q => q1 q.1), ← e4]
      conv => lhs; rw [u_240_35]
      simp (disch := omega) only [v_240_69, u_240_0, x_sipush, x_iload1, x_ishl, x_istore2i, x_istore2r, x_istore2u, x_istore3i, x_istore3r, x_istore3u, x_jsr, u_240_6, x_iload3, x_aload0, k_69_0, x_if_icmp_ge, x_istore4i, x_istore4r, x_istore4u, u_240_20, x_iload4, x_istore5i, x_istore5r, x_istore5u, x_iload5, x_iload2, x_ishr, x_iand, x_if_icmp_ne, x_call3_0, x_call3_1, x_call3_2, x_call3_3, x_call3_4, e_k_s, e_k_i, List.nil_append, List.cons_append, x_ifCond_eq, x_ifCond_eqb, x_goto, u_240_76, u_240_77, x_ior, x_iinc5i, x_iinc5r, x_iinc5u, x_iinc4i, x_iinc4r, x_iinc4u, u_240_91, x_iinc3i, x_iinc3r, x_iinc3u, u_240_97, u_240_111, u_240_112, x_ireturn, ia_70, mk_r, e6, e2, e5, b01_0, ite_not, if_true, if_false, Int.reduceLT, Int.reduceEq]
      rw [if_pos (by omega), if_neg q1]
theorem m_mb2 (h : inv I) (hE : RE I (M 70)) {y m sh st : Int} {sc : Int} {P : Int → Int} {v1 v3 : Int32} : ∀ (n : Nat) (a set : Int) (w : Value), 0 ≤ a → a + n = I 1 9 → 0 ≤ set ∧ set < 64 → ∃ w', s_j X (d + 2) 240 20 [.ref 69, .int v1, .int (iI set), .int v3, .int (iI a), w] [] (mm (mk M (I 1 9) (y, m, sh, st) sc P) J) = s_j X (d + 2) 240 91 [.ref 69, .int v1, .int (iI (mb2 I st n a set)), .int v3, .int (iI (I 1 9)), w'] [] (mm (mk M (I 1 9) (y, m, sh, st) sc P) J) := by
  have hn6 := h.1
  have e6 := hE.2.1
  intro n
  induction n with
  | zero =>
    intro a set w h0 hn hs
    refine ⟨w, ?_⟩
    rw [u_240_20, show a = I 1 9 by omega]
    simp (disch := omega) only [v_240_69, u_240_0, x_sipush, x_iload1, x_ishl, x_istore2i, x_istore2r, x_istore2u, x_istore3i, x_istore3r, x_istore3u, x_jsr, u_240_6, x_iload3, x_aload0, k_69_0, x_if_icmp_ge, x_istore4i, x_istore4r, x_istore4u, x_iload4, x_istore5i, x_istore5r, x_istore5u, u_240_35, x_iload5, x_iload2, x_ishr, x_iand, x_if_icmp_ne, x_call3_0, x_call3_1, x_call3_2, x_call3_3, x_call3_4, e_k_s, e_k_i, List.nil_append, List.cons_append, x_ifCond_eq, x_ifCond_eqb, x_goto, u_240_76, u_240_77, x_ior, x_iinc5i, x_iinc5r, x_iinc5u, u_240_85, x_iinc4i, x_iinc4r, x_iinc4u, x_iinc3i, x_iinc3r, x_iinc3u, u_240_97, u_240_111, u_240_112, x_ireturn, ia_70, mk_r, e6, b01_0, ite_not, if_true, if_false, Int.reduceLT, Int.reduceEq]
    rw [if_neg (by omega)]
    rfl
  | succ n ih =>
    intro a set w h0 hn hs
    have e1 := m_mb1 (X := X) (d := d) (J := J) h hE (y := y) (m := m) (sh := sh) (st := st) (sc := sc) (P := P) (a := a) ⟨h0, by omega⟩ (v1 := v1) (v3 := v3) (I 1 9).toNat 0 set (by decide) (by omega) hs
    have hb := mb1_b (I := I) (s := st) (a := a) (I 1 9).toNat 0 set (by decide) (by omega) hs
    obtain ⟨w', e2⟩ := ih (a + 1) (mb1 I st a (I 1 9).toNat 0 set) (.int (iI (I 1 9))) (by omega) (by omega) hb
    refine ⟨w', ?_⟩
    unfold mb2
    rw [← e2]
    conv => lhs; rw [u_240_20]
    simp (disch := omega) only [v_240_69, u_240_0, x_sipush, x_iload1, x_ishl, x_istore2i, x_istore2r, x_istore2u, x_istore3i, x_istore3r, x_istore3u, x_jsr, u_240_6, x_iload3, x_aload0, k_69_0, x_if_icmp_ge, x_istore4i, x_istore4r, x_istore4u, x_iload4, x_istore5i, x_istore5r, x_istore5u, x_iload5, x_iload2, x_ishr, x_iand, x_if_icmp_ne, x_call3_0, x_call3_1, x_call3_2, x_call3_3, x_call3_4, e_k_s, e_k_i, List.nil_append, List.cons_append, x_ifCond_eq, x_ifCond_eqb, x_goto, u_240_76, u_240_77, x_ior, x_iinc5i, x_iinc5r, x_iinc5u, u_240_85, x_iinc4i, x_iinc4r, x_iinc4u, x_iinc3i, x_iinc3r, x_iinc3u, u_240_97, u_240_111, u_240_112, x_ireturn, ia_70, mk_r, e6, e1, b01_0, ite_not, if_true, if_false, Int.reduceLT, Int.reduceEq]
    rw [if_pos (by omega)]
theorem m_mb3 (h : inv I) (hE : RE I (M 70)) {y m sh st : Int} {sc : Int} {P : Int → Int} {v1 : Int32} : ∀ (n : Nat) (i set : Int) (w w2 : Value), 0 ≤ i → i + n = I 1 9 → 0 ≤ set ∧ set < 64 → ∃ w' w2', s_j X (d + 2) 240 6 [.ref 69, .int v1, .int (iI set), .int (iI i), w, w2] [] (mm (mk M (I 1 9) (y, m, sh, st) sc P) J) = s_j X (d + 2) 240 97 [.ref 69, .int v1, .int (iI (itr (mbR I st) n set)), .int (iI (I 1 9)), w', w2'] [] (mm (mk M (I 1 9) (y, m, sh, st) sc P) J) := by
  have hn6 := h.1
  have e6 := hE.2.1
  intro n
  induction n with
  | zero =>
    intro i set w w2 h0 hn hs
    refine ⟨w, w2, ?_⟩
    rw [u_240_6, show i = I 1 9 by omega]
    simp (disch := omega) only [v_240_69, u_240_0, x_sipush, x_iload1, x_ishl, x_istore2i, x_istore2r, x_istore2u, x_istore3i, x_istore3r, x_istore3u, x_jsr, x_iload3, x_aload0, k_69_0, x_if_icmp_ge, x_istore4i, x_istore4r, x_istore4u, x_iload4, x_istore5i, x_istore5r, x_istore5u, u_240_35, x_iload5, x_iload2, x_ishr, x_iand, x_if_icmp_ne, x_call3_0, x_call3_1, x_call3_2, x_call3_3, x_call3_4, e_k_s, e_k_i, List.nil_append, List.cons_append, x_ifCond_eq, x_ifCond_eqb, x_goto, u_240_76, u_240_77, x_ior, x_iinc5i, x_iinc5r, x_iinc5u, u_240_85, x_iinc4i, x_iinc4r, x_iinc4u, u_240_91, x_iinc3i, x_iinc3r, x_iinc3u, u_240_111, u_240_112, x_ireturn, ia_70, mk_r, e6, b01_0, ite_not, if_true, if_false, Int.reduceLT, Int.reduceEq]
    rw [if_neg (by omega)]
    rfl
  | succ n ih =>
    intro i set w w2 h0 hn hs
    obtain ⟨w', e1⟩ := m_mb2 (X := X) (d := d) (J := J) h hE (y := y) (m := m) (sh := sh) (st := st) (sc := sc) (P := P) (v1 := v1) (v3 := iI i) (I 1 9).toNat 0 set w2 (by decide) (by omega) hs
    obtain ⟨w'', w2'', e2⟩ := ih (i + 1) (mbR I st set) (.int (iI (I 1 9))) w' (by omega) (by omega) (mbR_b hn6 hs)
    refine ⟨w'', w2'', ?_⟩
    unfold itr
    have hx : mbR I st set = mb2 I st (I 1 9).toNat 0 set := rfl
    rw [hx] at e2 ⊢
    rw [← e2]
    conv => lhs; rw [u_240_6]
    simp (disch := omega) only [v_240_69, u_240_0, x_sipush, x_iload1, x_ishl, x_istore2i, x_istore2r, x_istore2u, x_istore3i, x_istore3r, x_istore3u, x_jsr, x_iload3, x_aload0, k_69_0, x_if_icmp_ge, x_istore4i, x_istore4r, x_istore4u, x_iload4, x_istore5i, x_istore5r, x_istore5u, u_240_35, x_iload5, x_iload2, x_ishr, x_iand, x_if_icmp_ne, x_call3_0, x_call3_1, x_call3_2, x_call3_3, x_call3_4, e_k_s, e_k_i, List.nil_append, List.cons_append, x_ifCond_eq, x_ifCond_eqb, x_goto, u_240_76, u_240_77, x_ior, x_iinc5i, x_iinc5r, x_iinc5u, u_240_85, x_iinc4i, x_iinc4r, x_iinc4u, u_240_91, x_iinc3i, x_iinc3r, x_iinc3u, u_240_111, u_240_112, x_ireturn, ia_70, mk_r, e6, e1, b01_0, ite_not, if_true, if_false, Int.reduceLT, Int.reduceEq]
    rw [if_pos (by omega)]
theorem m_mbc (h : inv I) (hE : RE I (M 70)) {c : co} {sc : Int} {P : Int → Int} {k : Int} (hk : 0 ≤ k ∧ k < I 1 9) : s_S X (d + 3) 240 [.ref 69, .int (iI k)] (mm (mk M (I 1 9) c sc P) J) = some ([.int (iI (mbc I c.2.2.2 k))], mm (mk M (I 1 9) c sc P) J) := by
  obtain ⟨y, m, sh, st⟩ := c
  have hn6 := h.1
  have hb := bt_rg st k
  have hs := st0_b (k := k) (by omega)
  have e7 := sh1_i (k := k) (by omega)
  obtain ⟨w, w2, e⟩ := m_mb3 (X := X) (d := d) (J := J) h hE (y := y) (m := m) (sh := sh) (st := st) (sc := sc) (P := P) (v1 := iI k) (I 1 9).toNat 0 (stb 0 k 1) (.retAddr 0) (.retAddr 0) (by decide) (by omega) (by omega)
  unfold mbc
  simp (disch := omega) only [v_240_69, u_240_0, x_sipush, x_iload1, x_ishl, x_istore2i, x_istore2r, x_istore2u, x_istore3i, x_istore3r, x_istore3u, x_jsr, x_iload3, x_aload0, k_69_0, x_if_icmp_ge, x_istore4i, x_istore4r, x_istore4u, u_240_20, x_iload4, x_istore5i, x_istore5r, x_istore5u, u_240_35, x_iload5, x_iload2, x_ishr, x_iand, x_if_icmp_ne, x_call3_0, x_call3_1, x_call3_2, x_call3_3, x_call3_4, e_k_s, e_k_i, List.nil_append, List.cons_append, x_ifCond_eq, x_ifCond_eqb, x_goto, u_240_76, u_240_77, x_ior, x_iinc5i, x_iinc5r, x_iinc5u, u_240_85, x_iinc4i, x_iinc4r, x_iinc4u, u_240_91, x_iinc3i, x_iinc3r, x_iinc3u, u_240_97, u_240_111, u_240_112, x_ireturn, ia_70, e7, e, m_get, mk_s, b01_0, ite_not, if_true, if_false, Int.reduceLT, Int.reduceEq]
  (repeat' split) <;> first | rfl | (exfalso; omega)
theorem m_mcb1 (h : inv I) (hE : RE I (M 70)) {c : co} {sc : Int} {P : Int → Int} {v1 : Int32} : ∀ (n : Nat) (k a : Int) (w : Value), 0 ≤ k → k + n = I 1 9 → s_j X (d + 3) 239 29 [.ref 69, .int v1, .int (iI a), .int (iI k), w] [] (mm (mk M (I 1 9) c sc P) J) = some ([.int (iI (mcb I c.2.2.2 n k a))], mm (mk M (I 1 9) c sc P) J) := by
  have hn6 := h.1
  have e6 := hE.2.1
  intro n
  induction n with
  | zero =>
    intro k a w h0 hn
    rw [u_239_29]
    simp (disch := omega) only [v_239_69, u_239_0, x_iload1, x_sipush, x_if_icmp_eq, x_aload0, x_call2_0, x_call2_1, x_call2_2, x_call2_3, x_call2_4, e_k_s, e_k_i, List.nil_append, List.cons_append, x_ifCond_ne, x_ifCond_neb, x_ireturn, u_239_15, x_ifCond_lt, u_239_25, x_istore2i, x_istore2r, x_istore2u, x_istore3i, x_istore3r, x_istore3u, x_jsr, x_iload3, k_69_0, x_if_icmp_ge, x_istore4i, x_istore4r, x_istore4u, x_iload2, x_iload4, x_ifCond_eq, x_ifCond_eqb, x_ishl, x_iremI, x_goto, u_239_66, u_239_67, x_iadd, x_iinc3i, x_iinc3r, x_iinc3u, u_239_75, ia_70, mk_r, e6, b01_0, ite_not, if_true, if_false, Int.reduceLT, Int.reduceEq]
    rw [if_neg (by omega)]
    rfl
  | succ n ih =>
    intro k a w h0 hn
    have e1 := m_mbc (X := X) (d := d) (J := J) h hE (c := c) (sc := sc) (P := P) (k := k) ⟨h0, by omega⟩
    have hb := mbc_b hn6 (s := c.2.2.2) (k := k) (by omega)
    have hs := st0_b (k := k) (by omega)
    have e7 := sh1_i (k := k) (by omega)
    have hm := Int.emod_nonneg (mbc I c.2.2.2 k) (b := stb 0 k 1) (by omega)
    have hm2 := Int.emod_lt_of_pos (mbc I c.2.2.2 k) (b := stb 0 k 1) (by omega)
    have ih' := fun a => ih (k + 1) a (.int (iI (mbc I c.2.2.2 k))) (by omega) (by omega)
    rw [u_239_29]
    unfold mcb
    by_cases q1 : mbc I c.2.2.2 k = 0
    · rw [if_neg (fun z => z.1 q1), ← ih']
      simp (disch := omega) only [v_239_69, u_239_0, x_iload1, x_sipush, x_if_icmp_eq, x_aload0, x_call2_0, x_call2_1, x_call2_2, x_call2_3, x_call2_4, e_k_s, e_k_i, List.nil_append, List.cons_append, x_ifCond_ne, x_ifCond_neb, x_ireturn, u_239_15, x_ifCond_lt, u_239_25, x_istore2i, x_istore2r, x_istore2u, x_istore3i, x_istore3r, x_istore3u, x_jsr, x_iload3, k_69_0, x_if_icmp_ge, x_istore4i, x_istore4r, x_istore4u, x_iload2, x_iload4, x_ifCond_eq, x_ifCond_eqb, x_ishl, x_iremI, x_goto, u_239_66, u_239_67, x_iadd, x_iinc3i, x_iinc3r, x_iinc3u, u_239_75, ia_70, mk_r, e6, e1, q1, b01_0, ite_not, if_true, if_false, Int.reduceLT, Int.reduceEq]
      rw [if_pos (by omega)]
    · by_cases q2 : mbc I c.2.2.2 k % stb 0 k 1 = 0
      · rw [if_pos ⟨q1, q2⟩, ← ih']
        simp (disch := omega) only [v_239_69, u_239_0, x_iload1, x_sipush, x_if_icmp_eq, x_aload0, x_call2_0, x_call2_1, x_call2_2, x_call2_3, x_call2_4, e_k_s, e_k_i, List.nil_append, List.cons_append, x_ifCond_ne, x_ifCond_neb, x_ireturn, u_239_15, x_ifCond_lt, u_239_25, x_istore2i, x_istore2r, x_istore2u, x_istore3i, x_istore3r, x_istore3u, x_jsr, x_iload3, k_69_0, x_if_icmp_ge, x_istore4i, x_istore4r, x_istore4u, x_iload2, x_iload4, x_ifCond_eq, x_ifCond_eqb, x_ishl, x_iremI, x_goto, u_239_66, u_239_67, x_iadd, x_iinc3i, x_iinc3r, x_iinc3u, u_239_75, ia_70, mk_r, e6, e1, e7, tmod_n, q2, b01_0, ite_not, if_true, if_false, Int.reduceLT, Int.reduceEq]
        rw [if_pos (by omega), if_neg q1]
      · rw [if_neg (fun z => q2 z.2), ← ih']
        simp (disch := omega) only [v_239_69, u_239_0, x_iload1, x_sipush, x_if_icmp_eq, x_aload0, x_call2_0, x_call2_1, x_call2_2, x_call2_3, x_call2_4, e_k_s, e_k_i, List.nil_append, List.cons_append, x_ifCond_ne, x_ifCond_neb, x_ireturn, u_239_15, x_ifCond_lt, u_239_25, x_istore2i, x_istore2r, x_istore2u, x_istore3i, x_istore3r, x_istore3u, x_jsr, x_iload3, k_69_0, x_if_icmp_ge, x_istore4i, x_istore4r, x_istore4u, x_iload2, x_iload4, x_ifCond_eq, x_ifCond_eqb, x_ishl, x_iremI, x_goto, u_239_66, u_239_67, x_iadd, x_iinc3i, x_iinc3r, x_iinc3u, u_239_75, ia_70, mk_r, e6, e1, e7, tmod_n, b01_0, ite_not, if_true, if_false, Int.reduceLT, Int.reduceEq]
        rw [if_pos (by omega), if_neg q1, if_neg q2]
theorem m_brs (h : inv I) (hE : RE I (M 70)) {c : co} {sc : Int} {P : Int → Int} {w : Int} (hw : -1 ≤ w ∧ w < I 1 9) : s_S X (d + 4) 239 [.ref 69, .int (iI w)] (mm (mk M (I 1 9) c sc P) J) = some ([.int (iI (if w = -1 then mcb I c.2.2.2 (I 1 9).toNat 0 0 else mbc I c.2.2.2 w))], mm (mk M (I 1 9) c sc P) J) := by
  have hn6 := h.1
  by_cases q : w = -1
  · subst q
    have e := m_mcb1 (X := X) (d := d) (J := J) h hE (c := c) (sc := sc) (P := P) (v1 := iI (-1)) (I 1 9).toNat 0 0 (.retAddr 0) (by decide) (by omega)
    simp (disch := omega) only [v_239_69, u_239_0, x_iload1, x_sipush, x_if_icmp_eq, x_aload0, x_call2_0, x_call2_1, x_call2_2, x_call2_3, x_call2_4, e_k_s, e_k_i, List.nil_append, List.cons_append, x_ifCond_ne, x_ifCond_neb, x_ireturn, u_239_15, x_ifCond_lt, u_239_25, x_istore2i, x_istore2r, x_istore2u, x_istore3i, x_istore3r, x_istore3u, x_jsr, x_iload3, k_69_0, x_if_icmp_ge, x_istore4i, x_istore4r, x_istore4u, x_iload2, x_iload4, x_ifCond_eq, x_ifCond_eqb, x_ishl, x_iremI, x_goto, u_239_66, u_239_67, x_iadd, x_iinc3i, x_iinc3r, x_iinc3u, u_239_75, ia_70, e, b01_0, ite_not, if_true, if_false, Int.reduceLT, Int.reduceEq]
  · have e0 := m_isp (X := X) (d := d + 1) (I := mk M (I 1 9) c sc P) (J := J) (k := w) (n := I 1 9) (by rw [mk_r (by omega)]; exact hE.2.1) ⟨⟨by omega, by omega⟩, hn6⟩
    rw [if_pos (by omega)] at e0
    have e := m_mbc (X := X) (d := d) (J := J) h hE (c := c) (sc := sc) (P := P) (k := w) (by omega)
    rw [if_neg q]
    simp (disch := omega) only [v_239_69, u_239_0, x_iload1, x_sipush, x_if_icmp_eq, x_aload0, x_call2_0, x_call2_1, x_call2_2, x_call2_3, x_call2_4, e_k_s, e_k_i, List.nil_append, List.cons_append, x_ifCond_ne, x_ifCond_neb, x_ireturn, u_239_15, x_ifCond_lt, u_239_25, x_istore2i, x_istore2r, x_istore2u, x_istore3i, x_istore3r, x_istore3u, x_jsr, x_iload3, k_69_0, x_if_icmp_ge, x_istore4i, x_istore4r, x_istore4u, x_iload2, x_iload4, x_ifCond_eq, x_ifCond_eqb, x_ishl, x_iremI, x_goto, u_239_66, u_239_67, x_iadd, x_iinc3i, x_iinc3r, x_iinc3u, u_239_75, ia_70, e0, e, b01_0, ite_not, if_true, if_false, Int.reduceLT, Int.reduceEq]
    rw [if_neg q, if_neg (by omega)]
end
