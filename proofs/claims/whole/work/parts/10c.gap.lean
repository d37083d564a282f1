/-! GAPS, BRANCHES, FETCHING in the class -/
theorem lb_0 {B : Nat} {p : Int} (hB : B < 2 ^ 63) (hp : 0 ≤ p ∧ p < 64) : lg_cmp (((lI B).toUInt64 >>> ((iI p).toInt64.toUInt64 &&& Int64.toUInt64 63)).toInt64 &&& lI 1) (lI 0) = iI (if B.testBit p.toNat = true then 1 else 0) := by
  obtain ⟨k, rfl⟩ := Int.eq_ofNat_of_zero_le hp.1
  have hd : B / 2 ^ k ≤ B := Nat.div_le_self _ _
  have e : lI 1 = lI ((1 : Nat) : Int) := rfl
  rw [lN_ushr (by omega) hB, e, lN_and (by omega) (by decide), Nat.and_one_is_mod]
  have h2 : B / 2 ^ k % 2 = 0 ∨ B / 2 ^ k % 2 = 1 := by omega
  have h3 : B.testBit k = decide (B / 2 ^ k % 2 = 1) := by
    rw [Nat.testBit_eq_decide_div_mod_eq]
  show lg_cmp _ _ = iI (if B.testBit k = true then 1 else 0)
  rw [h3]
  rcases h2 with q | q <;> rw [q] <;> decide
def fu1 (B : Nat) : Nat → Int → Int
  | 0, _ => -3
  | n + 1, p => if B.testBit p.toNat = true then fu1 B n (p + 1) else p
def cn1 (B : Nat) : Nat → Int → Int
  | 0, _ => 0
  | n + 1, p => cn1 B n (p + 1) + (if B.testBit p.toNat = true then 0 else 1)
def lof (s : Int) : Nat → Int → Int
  | 0, _ => -3
  | n + 1, k => if bt s k = 1 then k else lof s n (k + 1)
abbrev clo (I : Nat → Int → Int) (s j k : Int) : Prop := ¬ bt s j = 1 ∧ ¬ bt s k = 1 ∧ (I 5 j = I 5 k ∨ iabs (I 3 j - I 3 k) ≤ 2)
/-- who is close to one of a set: over j, over k -/
def cl1 (I : Nat → Int → Int) (s set k : Int) : Nat → Int → Int → Int
  | 0, _, a => a
  | n + 1, j, a => cl1 I s set k n (j + 1) (if bt set j = 1 ∧ clo I s j k then stb a k 1 else a)
def cl2 (I : Nat → Int → Int) (s set : Int) : Nat → Int → Int → Int
  | 0, _, a => a
  | n + 1, k, a => cl2 I s set n (k + 1) (cl1 I s set k (I 1 9).toNat 0 a)
def itr (R : Int → Int) : Nat → Int → Int
  | 0, s => s
  | n + 1, s => itr R n (R s)
def orr (a b : Int) : Int := ((a.toNat ||| b.toNat : Nat) : Int)
def clR (I : Nat → Int → Int) (s : Int) (set : Int) : Int := orr set (cl2 I s set (I 1 9).toNat 0 0)
def brc (I : Nat → Int → Int) (k : Int) : Int := if bt (I 1 10) k = 1 then 0 else itr (clR I (I 1 10)) 6 (stb 0 k 1)
def cbr (I : Nat → Int → Int) : Nat → Int → Int → Int
  | 0, _, a => a
  | n + 1, k, a => cbr I n (k + 1) (if lof (brc I k) 6 0 = k then a + 1 else a)
/-- the least, the greatest FIRST place of a set -/
def mn1 (I : Nat → Int → Int) (s : Int) : Nat → Int → Int → Int
  | 0, _, a => a
  | n + 1, k, a => mn1 I s n (k + 1) (if bt s k = 1 then min a (I 3 k) else a)
def mx1 (I : Nat → Int → Int) (s : Int) : Nat → Int → Int → Int
  | 0, _, a => a
  | n + 1, k, a => mx1 I s n (k + 1) (if bt s k = 1 then max a (I 3 k) else a)
def way (I : Nat → Int → Int) (p s : Int) : Int :=
  if mx1 I s (I 1 9).toNat 0 (-1) < 0 then 0 else mx1 I s (I 1 9).toNat 0 (-1) - mn1 I s (I 1 9).toNat 0 40 + min (iabs (p - mn1 I s (I 1 9).toNat 0 40)) (iabs (p - mx1 I s (I 1 9).toNat 0 (-1)))
def ff1 (I : Nat → Int → Int) (p s : Int) : Nat → Int → Int
  | 0, _ => -3
  | n + 1, k => if bt s k = 1 ∧ iabs (p - I 3 k) + way I (I 3 k) (stb s k 0) = way I p s then k else ff1 I p s n (k + 1)
theorem orr_b {a b : Int} (ha : 0 ≤ a ∧ a < 64) (hb : 0 ≤ b ∧ b < 64) : 0 ≤ orr a b ∧ orr a b < 64 := by
  unfold orr
  have : a.toNat ||| b.toNat < 2 ^ 6 := Nat.or_lt_two_pow (by omega) (by omega)
  omega
theorem plc_plk {I : Nat → Int → Int} {st : Int} : ∀ n : Nat, plc I st n = plk I (I 1 11) st n
  | 0 => rfl
  | n + 1 => by
    unfold plc plk
    rw [plc_plk n]
theorem plk_b {I : Nat → Int → Int} (h : inv I) (y st : Int) : ∀ n : Nat, (n : Int) ≤ I 1 9 → plk I y st n < 2 ^ 52
  | 0, _ => by show 0 < 2 ^ 52; decide
  | n + 1, hn => by
    have h1 := plk_b h y st n (by omega)
    obtain ⟨k1, k2, k3, k4⟩ := h.2.2.2.2.2.2.1 n (by omega) (by omega)
    have hs := spn_b (kd := I 2 n) (y := y) k3
    unfold plk
    split
    · exact Nat.or_lt_two_pow h1 (pl1_b (by omega) (by omega))
    · exact h1
theorem cl1_b {I : Nat → Int → Int} {s set k : Int} (hk : 0 ≤ k ∧ k < 6) : ∀ (n : Nat) (j a : Int), 0 ≤ a ∧ a < 64 → 0 ≤ cl1 I s set k n j a ∧ cl1 I s set k n j a < 64
  | 0, _, _, h => h
  | n + 1, j, a, h => by
    unfold cl1
    refine cl1_b hk n _ _ ?_
    split
    · have := (stb_i h hk).2.2.1
      omega
    · exact h
theorem cl2_b {I : Nat → Int → Int} {s set : Int} : ∀ (n : Nat) (k a : Int), 0 ≤ k → k + n ≤ 6 → 0 ≤ a ∧ a < 64 → 0 ≤ cl2 I s set n k a ∧ cl2 I s set n k a < 64
  | 0, _, _, _, _, h => h
  | n + 1, k, a, h0, h6, h => by
    unfold cl2
    exact cl2_b n _ _ (by omega) (by omega) (cl1_b (by omega) _ _ _ h)
theorem clR_b {I : Nat → Int → Int} (h : 0 ≤ I 1 9 ∧ I 1 9 ≤ 6) {s set : Int} (hs : 0 ≤ set ∧ set < 64) : 0 ≤ clR I s set ∧ clR I s set < 64 := orr_b hs (cl2_b _ _ _ (by decide) (by omega) (by decide))
theorem itr_b {R : Int → Int} (h : ∀ s, 0 ≤ s ∧ s < 64 → 0 ≤ R s ∧ R s < 64) : ∀ (n : Nat) (s : Int), 0 ≤ s ∧ s < 64 → 0 ≤ itr R n s ∧ itr R n s < 64
  | 0, _, hs => hs
  | n + 1, s, hs => itr_b h n _ (h s hs)
theorem brc_b {I : Nat → Int → Int} (h : 0 ≤ I 1 9 ∧ I 1 9 ≤ 6) {k : Int} (hk : 0 ≤ k ∧ k < 6) : 0 ≤ brc I k ∧ brc I k < 64 := by
  unfold brc
  split
  · decide
  · refine itr_b (fun s hs => clR_b h hs) _ _ ?_
    have := (stb_i (s := 0) (by decide) hk).2.2.1
    omega
theorem lof_b {s : Int} : ∀ (n : Nat) (k : Int), lof s n k = -3 ∨ (k ≤ lof s n k ∧ lof s n k < k + n ∧ bt s (lof s n k) = 1)
  | 0, _ => Or.inl rfl
  | n + 1, k => by
    unfold lof
    split
    · rename_i q
      exact Or.inr ⟨by omega, by omega, q⟩
    · rcases lof_b (s := s) n (k + 1) with h | ⟨h1, h2, h3⟩
      · exact Or.inl h
      · exact Or.inr ⟨by omega, by omega, h3⟩
section
variable {X : e_X} {d : Nat} {I J : Nat → Int → Int}
theorem t_fu1 {B : Nat} (hB : B < 2 ^ 52) : ∀ (n : Nat) (p : Int), 0 ≤ p → p + n = 40 → s_j X (d + 2) 90 14 [.ref 1, .long (lI B), .retAddr 0, .int (iI p)] [] (mm I J) = some ([.int (iI (fu1 B n p))], mm I J) := by
  intro n
  induction n with
  | zero =>
    intro p h0 hn
    rw [u_90_14]
    simp (disch := omega) only [v_90_1, u_90_0, x_aload0, x_call1_0, x_call1_1, x_call1_2, x_call1_3, x_call1_4, e_k_s, e_k_i, List.nil_append, List.cons_append, x_call2_0, x_call2_1, x_call2_2, x_call2_3, x_call2_4, x_lstore1i, x_lstore1r, x_lstore1u, f_1_15, x_istore3i, x_istore3r, x_istore3u, x_jsr, x_iload3, x_sipush, x_if_icmp_gt, x_lload1, x_lushr, x_lconst, x_land, x_lcmp, x_ifCond_ne, x_ifCond_neb, x_ireturn, u_90_32, x_iinc3i, x_iinc3r, x_iinc3u, x_goto, u_90_38, b01_0, ite_not, if_true, if_false, Int.reduceLT, Int.reduceEq]
    rw [if_pos (by omega)]
    rfl
  | succ n ih =>
    intro p h0 hn
    have e1 := ih (p + 1) (by omega) (by omega)
    have e2 := lb_0 (B := B) (p := p) (by omega) (by omega)
    rw [u_90_14]
    unfold fu1
    by_cases q : B.testBit p.toNat = true
    · rw [if_pos q] at e2
      simp (disch := omega) only [v_90_1, u_90_0, x_aload0, x_call1_0, x_call1_1, x_call1_2, x_call1_3, x_call1_4, e_k_s, e_k_i, List.nil_append, List.cons_append, x_call2_0, x_call2_1, x_call2_2, x_call2_3, x_call2_4, x_lstore1i, x_lstore1r, x_lstore1u, f_1_15, x_istore3i, x_istore3r, x_istore3u, x_jsr, x_iload3, x_sipush, x_if_icmp_gt, x_lload1, x_lushr, x_lconst, x_land, x_lcmp, x_ifCond_ne, x_ifCond_neb, x_ireturn, u_90_32, x_iinc3i, x_iinc3r, x_iinc3u, x_goto, u_90_38, e1, e2, b01_0, ite_not, if_true, if_false, Int.reduceLT, Int.reduceEq]
      rw [if_neg (by omega), if_pos q]
    · rw [if_neg q] at e2
      simp (disch := omega) only [v_90_1, u_90_0, x_aload0, x_call1_0, x_call1_1, x_call1_2, x_call1_3, x_call1_4, e_k_s, e_k_i, List.nil_append, List.cons_append, x_call2_0, x_call2_1, x_call2_2, x_call2_3, x_call2_4, x_lstore1i, x_lstore1r, x_lstore1u, f_1_15, x_istore3i, x_istore3r, x_istore3u, x_jsr, x_iload3, x_sipush, x_if_icmp_gt, x_lload1, x_lushr, x_lconst, x_land, x_lcmp, x_ifCond_ne, x_ifCond_neb, x_ireturn, u_90_32, x_iinc3i, x_iinc3r, x_iinc3u, x_goto, u_90_38, e1, e2, b01_0, ite_not, if_true, if_false, Int.reduceLT, Int.reduceEq]
      rw [if_neg (by omega), if_neg q]
theorem t_fu (h : inv I) : s_S X (d + 3) 90 [.ref 1] (mm I J) = some ([.int (iI (fu1 (plk I (I 1 11) (2 ^ (I 1 9).toNat - 1) (I 1 9).toNat) (40 - I 1 15).toNat (I 1 15)))], mm I J) := by
  have h64 := pw_6 h.1
  have p0 : (0 : Int) < 2 ^ (I 1 9).toNat := Int.pow_pos (by decide)
  have hy : I 1 11 ≤ 16 := by have := h.2.2.1; have := h.2.2.2.1; omega
  have h15 := h.2.2.2.2.2.1
  have e0 := t_all (X := X) (d := d + 1) (J := J) h.1
  have e1 := t_pl (X := X) (d := d) (J := J) h hy (st := 2 ^ (I 1 9).toNat - 1) (by omega)
  rw [plc_plk] at e1
  have e2 := t_fu1 (X := X) (d := d) (I := I) (J := J) (plk_b h (I 1 11) (2 ^ (I 1 9).toNat - 1) (I 1 9).toNat (by have := h.1; omega)) (40 - I 1 15).toNat (I 1 15) h15.1 (by omega)
  simp (disch := omega) only [v_90_1, u_90_0, x_aload0, x_call1_0, x_call1_1, x_call1_2, x_call1_3, x_call1_4, e_k_s, e_k_i, List.nil_append, List.cons_append, x_call2_0, x_call2_1, x_call2_2, x_call2_3, x_call2_4, x_lstore1i, x_lstore1r, x_lstore1u, f_1_15, x_istore3i, x_istore3r, x_istore3u, x_jsr, x_iload3, x_sipush, x_if_icmp_gt, x_lload1, x_lushr, x_lconst, x_land, x_lcmp, x_ifCond_ne, x_ifCond_neb, x_ireturn, u_90_32, x_iinc3i, x_iinc3r, x_iinc3u, x_goto, u_90_38, e0, e1, e2, b01_0, ite_not, if_true, if_false, Int.reduceLT, Int.reduceEq]
theorem t_cn1 {B : Nat} (hB : B < 2 ^ 52) : ∀ (n : Nat) (p a : Int), 0 ≤ p → p + n = 40 → s_j X (d + 2) 92 14 [.ref 1, .long (lI B), .retAddr 0, .int (iI a), .int (iI p)] [] (mm I J) = some ([.int (iI (a + cn1 B n p))], mm I J) := by
  intro n
  induction n with
  | zero =>
    intro p a h0 hn
    rw [u_92_14]
    simp (disch := omega) only [v_92_1, u_92_0, x_aload0, f_1_10, x_call2_0, x_call2_1, x_call2_2, x_call2_3, x_call2_4, e_k_s, e_k_i, List.nil_append, List.cons_append, x_lstore1i, x_lstore1r, x_lstore1u, x_sipush, x_istore3i, x_istore3r, x_istore3u, x_istore4i, x_istore4r, x_istore4u, x_jsr, x_iload4, x_if_icmp_gt, x_lload1, x_lushr, x_lconst, x_land, x_lcmp, x_ifCond_ne, x_ifCond_neb, x_iinc3i, x_iinc3r, x_iinc3u, u_92_35, x_iinc4i, x_iinc4r, x_iinc4u, x_goto, u_92_41, x_iload3, x_ireturn, b01_0, ite_not, if_true, if_false, Int.reduceLT, Int.reduceEq]
    rw [if_pos (by omega), show cn1 B 0 p = 0 from rfl, Int.add_zero]
  | succ n ih =>
    intro p a h0 hn
    have e2 := lb_0 (B := B) (p := p) (by omega) (by omega)
    rw [u_92_14]
    unfold cn1
    by_cases q : B.testBit p.toNat = true
    · rw [if_pos q] at e2
      have e1 := ih (p + 1) a (by omega) (by omega)
      simp (disch := omega) only [v_92_1, u_92_0, x_aload0, f_1_10, x_call2_0, x_call2_1, x_call2_2, x_call2_3, x_call2_4, e_k_s, e_k_i, List.nil_append, List.cons_append, x_lstore1i, x_lstore1r, x_lstore1u, x_sipush, x_istore3i, x_istore3r, x_istore3u, x_istore4i, x_istore4r, x_istore4u, x_jsr, x_iload4, x_if_icmp_gt, x_lload1, x_lushr, x_lconst, x_land, x_lcmp, x_ifCond_ne, x_ifCond_neb, x_iinc3i, x_iinc3r, x_iinc3u, u_92_35, x_iinc4i, x_iinc4r, x_iinc4u, x_goto, u_92_41, x_iload3, x_ireturn, e1, e2, b01_0, ite_not, if_true, if_false, Int.reduceLT, Int.reduceEq]
      rw [if_neg (by omega), if_pos q, Int.add_zero]
    · rw [if_neg q] at e2
      have e1 := ih (p + 1) (a + 1) (by omega) (by omega)
      simp (disch := omega) only [v_92_1, u_92_0, x_aload0, f_1_10, x_call2_0, x_call2_1, x_call2_2, x_call2_3, x_call2_4, e_k_s, e_k_i, List.nil_append, List.cons_append, x_lstore1i, x_lstore1r, x_lstore1u, x_sipush, x_istore3i, x_istore3r, x_istore3u, x_istore4i, x_istore4r, x_istore4u, x_jsr, x_iload4, x_if_icmp_gt, x_lload1, x_lushr, x_lconst, x_land, x_lcmp, x_ifCond_ne, x_ifCond_neb, x_iinc3i, x_iinc3r, x_iinc3u, u_92_35, x_iinc4i, x_iinc4r, x_iinc4u, x_goto, u_92_41, x_iload3, x_ireturn, e1, e2, b01_0, ite_not, if_true, if_false, Int.reduceLT, Int.reduceEq]
      rw [if_neg (by omega), if_neg q, show a + 1 + cn1 B n (p + 1) = a + (cn1 B n (p + 1) + 1) by omega]
theorem t_cn (h : inv I) : s_S X (d + 3) 92 [.ref 1] (mm I J) = some ([.int (iI (cn1 (plk I (I 1 11) (I 1 10) (I 1 9).toNat) 40 0))], mm I J) := by
  have hs := inv_s h
  have hy : I 1 11 ≤ 16 := by have := h.2.2.1; have := h.2.2.2.1; omega
  have e1 := t_pl (X := X) (d := d) (J := J) h hy hs
  rw [plc_plk] at e1
  have e2 := t_cn1 (X := X) (d := d) (I := I) (J := J) (plk_b h (I 1 11) (I 1 10) (I 1 9).toNat (by have := h.1; omega)) 40 0 0 (by decide) (by decide)
  rw [Int.zero_add] at e2
  simp (disch := omega) only [v_92_1, u_92_0, x_aload0, f_1_10, x_call2_0, x_call2_1, x_call2_2, x_call2_3, x_call2_4, e_k_s, e_k_i, List.nil_append, List.cons_append, x_lstore1i, x_lstore1r, x_lstore1u, x_sipush, x_istore3i, x_istore3r, x_istore3u, x_istore4i, x_istore4r, x_istore4u, x_jsr, x_iload4, x_if_icmp_gt, x_lload1, x_lushr, x_lconst, x_land, x_lcmp, x_ifCond_ne, x_ifCond_neb, x_iinc3i, x_iinc3r, x_iinc3u, u_92_35, x_iinc4i, x_iinc4r, x_iinc4u, x_goto, u_92_41, x_iload3, x_ireturn, e1, e2, b01_0, ite_not, if_true, if_false, Int.reduceLT, Int.reduceEq]
theorem b_lo1 {s : Int} (hs : 0 ≤ s ∧ s < 64) : ∀ (n : Nat) (k : Int), 0 ≤ k → k + n = 6 → s_j X d 136 2 [.int (iI s), .int (iI k)] [] (mm I J) = some ([.int (iI (lof s n k))], mm I J) := by
  intro n
  induction n with
  | zero =>
    intro k h0 hn
    rw [u_136_2]
    simp (disch := omega) only [v_136, u_136_0, x_sipush, x_istore1i, x_istore1r, x_istore1u, x_jsr, x_iload1, x_if_icmp_ge, x_iload0, x_ishr, x_iand, x_if_icmp_ne, x_ireturn, u_136_19, x_iinc1i, x_iinc1r, x_iinc1u, x_goto, u_136_25, b01_0, ite_not, if_true, if_false, Int.reduceLT, Int.reduceEq]
    rw [if_neg (by omega)]
    rfl
  | succ n ih =>
    intro k h0 hn
    have e1 := ih (k + 1) (by omega) (by omega)
    have e2 := bt_i (s := s) (k := k) hs (by omega)
    have hb := bt_rg s k
    rw [u_136_2]
    unfold lof
    simp (disch := omega) only [v_136, u_136_0, x_sipush, x_istore1i, x_istore1r, x_istore1u, x_jsr, x_iload1, x_if_icmp_ge, x_iload0, x_ishr, x_iand, x_if_icmp_ne, x_ireturn, u_136_19, x_iinc1i, x_iinc1r, x_iinc1u, x_goto, u_136_25, e1, e2, b01_0, ite_not, if_true, if_false, Int.reduceLT, Int.reduceEq]
    rw [if_pos (by omega)]
    (repeat' split) <;> first | rfl | (exfalso; omega)
theorem b_lof {s : Int} (hs : 0 ≤ s ∧ s < 64) : s_S X (d + 1) 136 [.int (iI s)] (mm I J) = some ([.int (iI (lof s 6 0))], mm I J) := by
  have e := b_lo1 (X := X) (d := d) (I := I) (J := J) hs 6 0 (by decide) (by decide)
  simp (disch := omega) only [v_136, u_136_0, x_sipush, x_istore1i, x_istore1r, x_istore1u, x_jsr, x_iload1, x_if_icmp_ge, x_iload0, x_ishr, x_iand, x_if_icmp_ne, x_ireturn, u_136_19, x_iinc1i, x_iinc1r, x_iinc1u, x_goto, u_136_25, e, b01_0, ite_not, if_true, if_false, Int.reduceLT, Int.reduceEq]
theorem t_clo (h : inv I) {j k : Int} (hj : 0 ≤ j ∧ j < I 1 9) (hk : 0 ≤ k ∧ k < I 1 9) : s_S X (d + 2) 96 [.ref 1, .int (iI j), .int (iI k)] (mm I J) = some ([.int (iI (if clo I (I 1 10) j k then 1 else 0))], mm I J) := by
  have hn := h.1
  obtain ⟨j1, j2, j3, j4⟩ := h.2.2.2.2.2.2.1 j hj.1 hj.2
  obtain ⟨k1, k2, k3, k4⟩ := h.2.2.2.2.2.2.1 k hk.1 hk.2
  have e1 := t_seat (X := X) (d := d) (I := I) (J := J) (s := I 1 10) (k := j) rfl (inv_s h) (by omega)
  have e2 := t_seat (X := X) (d := d) (I := I) (J := J) (s := I 1 10) (k := k) rfl (inv_s h) (by omega)
  have ha : rg (iabs (I 3 j - I 3 k)) := by
    unfold iabs
    split <;> constructor <;> omega
  by_cases q1 : bt (I 1 10) j = 1
  · rw [if_pos q1] at e1
    simp (disch := omega) only [v_96_1, u_96_0, x_aload0, x_iload1, x_call2_0, x_call2_1, x_call2_2, x_call2_3, x_call2_4, e_k_s, e_k_i, List.nil_append, List.cons_append, x_ifCond_ne, x_ifCond_neb, x_iload2, x_ifCond_eq, x_ifCond_eqb, x_jsr, u_96_16, x_sipush, x_zret0, x_zret1, x_zretb, u_96_18, k_1_3, x_if_icmp_eq, k_1_1, x_isub, x_dneg_0, x_dneg_1, x_dneg_2, x_dneg_3, x_dneg_4, x_if_icmp_gt, u_96_53, x_goto, u_96_57, u_96_58, ia_3, ia_5, e1, b01_0, ite_not, if_true, if_false, Int.reduceLT, Int.reduceEq]
    rw [if_neg (fun q => q.1 q1)]
  · rw [if_neg q1] at e1
    by_cases q2 : bt (I 1 10) k = 1
    · rw [if_pos q2] at e2
      simp (disch := omega) only [v_96_1, u_96_0, x_aload0, x_iload1, x_call2_0, x_call2_1, x_call2_2, x_call2_3, x_call2_4, e_k_s, e_k_i, List.nil_append, List.cons_append, x_ifCond_ne, x_ifCond_neb, x_iload2, x_ifCond_eq, x_ifCond_eqb, x_jsr, u_96_16, x_sipush, x_zret0, x_zret1, x_zretb, u_96_18, k_1_3, x_if_icmp_eq, k_1_1, x_isub, x_dneg_0, x_dneg_1, x_dneg_2, x_dneg_3, x_dneg_4, x_if_icmp_gt, u_96_53, x_goto, u_96_57, u_96_58, ia_3, ia_5, e1, e2, b01_0, ite_not, if_true, if_false, Int.reduceLT, Int.reduceEq]
      rw [if_neg (fun q => q.2.1 q2)]
    · rw [if_neg q2] at e2
      simp (disch := omega) only [v_96_1, u_96_0, x_aload0, x_iload1, x_call2_0, x_call2_1, x_call2_2, x_call2_3, x_call2_4, e_k_s, e_k_i, List.nil_append, List.cons_append, x_ifCond_ne, x_ifCond_neb, x_iload2, x_ifCond_eq, x_ifCond_eqb, x_jsr, u_96_16, x_sipush, x_zret0, x_zret1, x_zretb, u_96_18, k_1_3, x_if_icmp_eq, k_1_1, x_isub, x_dneg_0, x_dneg_1, x_dneg_2, x_dneg_3, x_dneg_4, x_if_icmp_gt, u_96_53, x_goto, u_96_57, u_96_58, ia_3, ia_5, e1, e2, b01_0, ite_not, if_true, if_false, Int.reduceLT, Int.reduceEq]
      (repeat' split) <;> first | rfl | (exfalso; omega)
theorem t_cl1 (h : inv I) {set k : Int} (hset : 0 ≤ set ∧ set < 64) (hk : 0 ≤ k ∧ k < I 1 9) : ∀ (n : Nat) (j a : Int) , 0 ≤ j → j + n = I 1 9 → 0 ≤ a ∧ a < 64 → s_j X (d + 2) 95 15 [.ref 1, .int (iI set), .int (iI a), .int (iI k), .int (iI j)] [] (mm I J) = s_j X (d + 2) 95 56 [.ref 1, .int (iI set), .int (iI (cl1 I (I 1 10) set k n j a)), .int (iI k), .int (iI (I 1 9))] [] (mm I J) := by
  have hn6 := h.1
  intro n
  induction n with
  | zero =>
    intro j a h0 hn ha
    rw [u_95_15, show j = I 1 9 by omega]
    simp (disch := omega) only [v_95_1, u_95_0, x_sipush, x_istore2i, x_istore2r, x_istore2u, x_istore3i, x_istore3r, x_istore3u, x_jsr, u_95_4, x_iload3, x_aload0, f_1_9, x_if_icmp_ge, x_istore4i, x_istore4r, x_istore4u, x_iload4, x_iload1, x_ishr, x_iand, x_if_icmp_ne, x_call3_0, x_call3_1, x_call3_2, x_call3_3, x_call3_4, e_k_s, e_k_i, List.nil_append, List.cons_append, x_ifCond_eq, x_ifCond_eqb, x_iload2, x_ishl, x_ior, u_95_50, x_iinc4i, x_iinc4r, x_iinc4u, x_goto, x_iinc3i, x_iinc3r, x_iinc3u, u_95_62, x_ireturn, b01_0, ite_not, if_true, if_false, Int.reduceLT, Int.reduceEq]
    rw [if_neg (by omega)]
    rfl
  | succ n ih =>
    intro j a h0 hn ha
    have e1 := t_clo (X := X) (d := d) (J := J) h (j := j) (k := k) ⟨h0, by omega⟩ hk
    have e2 := bt_i (s := set) (k := j) hset (by omega)
    have hb := bt_rg set j
    have hst := stb_i ha (k := k) (by omega)
    have e3 := hst.1
    unfold cl1
    rw [u_95_15]
    by_cases q1 : bt set j = 1
    · by_cases q2 : clo I (I 1 10) j k
      · have e4 := ih (j + 1) (stb a k 1) (by omega) (by omega) (by omega)
        rw [if_pos q2] at e1
        rw [if_pos ⟨q1, q2⟩, ← e4]
        simp (disch := omega) only [v_95_1, u_95_0, x_sipush, x_istore2i, x_istore2r, x_istore2u, x_istore3i, x_istore3r, x_istore3u, x_jsr, u_95_4, x_iload3, x_aload0, f_1_9, x_if_icmp_ge, x_istore4i, x_istore4r, x_istore4u, x_iload4, x_iload1, x_ishr, x_iand, x_if_icmp_ne, x_call3_0, x_call3_1, x_call3_2, x_call3_3, x_call3_4, e_k_s, e_k_i, List.nil_append, List.cons_append, x_ifCond_eq, x_ifCond_eqb, x_iload2, x_ishl, x_ior, u_95_50, x_iinc4i, x_iinc4r, x_iinc4u, x_goto, x_iinc3i, x_iinc3r, x_iinc3u, u_95_62, x_ireturn, e1, e2, q1, e3, b01_0, ite_not, if_true, if_false, Int.reduceLT, Int.reduceEq]
        rw [if_pos (by omega)]
      · have e4 := ih (j + 1) a (by omega) (by omega) ha
        rw [if_neg q2] at e1
        rw [if_neg (fun q => q2 q.2), ← e4]
        simp (disch := omega) only [v_95_1, u_95_0, x_sipush, x_istore2i, x_istore2r, x_istore2u, x_istore3i, x_istore3r, x_istore3u, x_jsr, u_95_4, x_iload3, x_aload0, f_1_9, x_if_icmp_ge, x_istore4i, x_istore4r, x_istore4u, x_iload4, x_iload1, x_ishr, x_iand, x_if_icmp_ne, x_call3_0, x_call3_1, x_call3_2, x_call3_3, x_call3_4, e_k_s, e_k_i, List.nil_append, List.cons_append, x_ifCond_eq, x_ifCond_eqb, x_iload2, x_ishl, x_ior, u_95_50, x_iinc4i, x_iinc4r, x_iinc4u, x_goto, x_iinc3i, x_iinc3r, x_iinc3u, u_95_62, x_ireturn, e1, e2, q1, e3, b01_0, ite_not, if_true, if_false, Int.reduceLT, Int.reduceEq]
        rw [if_pos (by omega)]
    · have e4 := ih (j + 1) a (by omega) (by omega) ha
      rw [if_neg (fun q => q1 q.1), ← e4]
      simp (disch := omega) only [v_95_1, u_95_0, x_sipush, x_istore2i, x_istore2r, x_istore2u, x_istore3i, x_istore3r, x_istore3u, x_jsr, u_95_4, x_iload3, x_aload0, f_1_9, x_if_icmp_ge, x_istore4i, x_istore4r, x_istore4u, x_iload4, x_iload1, x_ishr, x_iand, x_if_icmp_ne, x_call3_0, x_call3_1, x_call3_2, x_call3_3, x_call3_4, e_k_s, e_k_i, List.nil_append, List.cons_append, x_ifCond_eq, x_ifCond_eqb, x_iload2, x_ishl, x_ior, u_95_50, x_iinc4i, x_iinc4r, x_iinc4u, x_goto, x_iinc3i, x_iinc3r, x_iinc3u, u_95_62, x_ireturn, e2, b01_0, ite_not, if_true, if_false, Int.reduceLT, Int.reduceEq]
      rw [if_pos (by omega), if_neg q1]
theorem t_cl2 (h : inv I) {set : Int} (hset : 0 ≤ set ∧ set < 64) : ∀ (n : Nat) (k a : Int) (w : Value), 0 ≤ k → k + n = I 1 9 → 0 ≤ a ∧ a < 64 → s_j X (d + 2) 95 4 [.ref 1, .int (iI set), .int (iI a), .int (iI k), w] [] (mm I J) = some ([.int (iI (cl2 I (I 1 10) set n k a))], mm I J) := by
  have hn6 := h.1
  intro n
  induction n with
  | zero =>
    intro k a w h0 hn ha
    rw [u_95_4]
    simp (disch := omega) only [v_95_1, u_95_0, x_sipush, x_istore2i, x_istore2r, x_istore2u, x_istore3i, x_istore3r, x_istore3u, x_jsr, x_iload3, x_aload0, f_1_9, x_if_icmp_ge, x_istore4i, x_istore4r, x_istore4u, x_iload4, x_iload1, x_ishr, x_iand, x_if_icmp_ne, x_call3_0, x_call3_1, x_call3_2, x_call3_3, x_call3_4, e_k_s, e_k_i, List.nil_append, List.cons_append, x_ifCond_eq, x_ifCond_eqb, x_iload2, x_ishl, x_ior, u_95_50, x_iinc4i, x_iinc4r, x_iinc4u, x_goto, x_iinc3i, x_iinc3r, x_iinc3u, u_95_62, x_ireturn, b01_0, ite_not, if_true, if_false, Int.reduceLT, Int.reduceEq]
    rw [if_neg (by omega)]
    rfl
  | succ n ih =>
    intro k a w h0 hn ha
    have e1 := t_cl1 (X := X) (d := d) (J := J) h (set := set) (k := k) hset ⟨h0, by omega⟩ (I 1 9).toNat 0 a (by decide) (by omega) ha
    have hb := cl1_b (I := I) (s := I 1 10) (set := set) (k := k) (by omega) (I 1 9).toNat 0 a ha
    have e2 := ih (k + 1) (cl1 I (I 1 10) set k (I 1 9).toNat 0 a) (.int (iI (I 1 9))) (by omega) (by omega) hb
    unfold cl2
    rw [← e2, u_95_4]
    simp (disch := omega) only [v_95_1, u_95_0, x_sipush, x_istore2i, x_istore2r, x_istore2u, x_istore3i, x_istore3r, x_istore3u, x_jsr, x_iload3, x_aload0, f_1_9, x_if_icmp_ge, x_istore4i, x_istore4r, x_istore4u, x_iload4, x_iload1, x_ishr, x_iand, x_if_icmp_ne, x_call3_0, x_call3_1, x_call3_2, x_call3_3, x_call3_4, e_k_s, e_k_i, List.nil_append, List.cons_append, x_ifCond_eq, x_ifCond_eqb, x_iload2, x_ishl, x_ior, u_95_50, x_iinc4i, x_iinc4r, x_iinc4u, x_goto, u_95_56, x_iinc3i, x_iinc3r, x_iinc3u, u_95_62, x_ireturn, e1, b01_0, ite_not, if_true, if_false, Int.reduceLT, Int.reduceEq]
    rw [if_pos (by omega)]
theorem t_clt (h : inv I) {set : Int} (hset : 0 ≤ set ∧ set < 64) : s_S X (d + 3) 95 [.ref 1, .int (iI set)] (mm I J) = some ([.int (iI (cl2 I (I 1 10) set (I 1 9).toNat 0 0))], mm I J) := by
  have e := t_cl2 (X := X) (d := d) (J := J) h hset (I 1 9).toNat 0 0 (.retAddr 0) (by decide) (by have := h.1; omega) (by decide)
  simp (disch := omega) only [v_95_1, u_95_0, x_sipush, x_istore2i, x_istore2r, x_istore2u, x_istore3i, x_istore3r, x_istore3u, x_jsr, x_iload3, x_aload0, f_1_9, x_if_icmp_ge, x_istore4i, x_istore4r, x_istore4u, u_95_15, x_iload4, x_iload1, x_ishr, x_iand, x_if_icmp_ne, x_call3_0, x_call3_1, x_call3_2, x_call3_3, x_call3_4, e_k_s, e_k_i, List.nil_append, List.cons_append, x_ifCond_eq, x_ifCond_eqb, x_iload2, x_ishl, x_ior, u_95_50, x_iinc4i, x_iinc4r, x_iinc4u, x_goto, u_95_56, x_iinc3i, x_iinc3r, x_iinc3u, u_95_62, x_ireturn, e, b01_0, ite_not, if_true, if_false, Int.reduceLT, Int.reduceEq]
theorem t_br1 (h : inv I) {k : Int} : ∀ (n : Nat) (i set : Int), 0 ≤ i → i + n = 6 → 0 ≤ set ∧ set < 64 → s_j X (d + 3) 94 16 [.ref 1, .int (iI k), .int (iI set), .int (iI i)] [] (mm I J) = some ([.int (iI (itr (clR I (I 1 10)) n set))], mm I J) := by
  have hn6 := h.1
  intro n
  induction n with
  | zero =>
    intro i set h0 hn hs
    rw [u_94_16]
    simp (disch := omega) only [v_94_1, u_94_0, x_aload0, x_iload1, x_call2_0, x_call2_1, x_call2_2, x_call2_3, x_call2_4, e_k_s, e_k_i, List.nil_append, List.cons_append, x_ifCond_eq, x_ifCond_eqb, x_sipush, x_ireturn, u_94_10, x_ishl, x_istore2i, x_istore2r, x_istore2u, x_istore3i, x_istore3r, x_istore3u, x_jsr, x_iload3, x_if_icmp_ge, x_iload2, x_ior, x_iinc3i, x_iinc3r, x_iinc3u, x_goto, u_94_36, b01_0, ite_not, if_true, if_false, Int.reduceLT, Int.reduceEq]
    rw [if_neg (by omega)]
    rfl
  | succ n ih =>
    intro i set h0 hn hs
    have e1 := t_clt (X := X) (d := d) (J := J) h hs
    have hc := cl2_b (I := I) (s := I 1 10) (set := set) (I 1 9).toNat 0 0 (by decide) (by omega) (by decide)
    have e2 := i_or (a := set) (b := cl2 I (I 1 10) set (I 1 9).toNat 0 0) (by omega) (by omega)
    have e3 := ih (i + 1) (clR I (I 1 10) set) (by omega) (by omega) (clR_b hn6 hs)
    unfold clR orr at e3
    unfold itr
    conv => rhs; unfold clR orr
    rw [u_94_16]
    simp (disch := omega) only [v_94_1, u_94_0, x_aload0, x_iload1, x_call2_0, x_call2_1, x_call2_2, x_call2_3, x_call2_4, e_k_s, e_k_i, List.nil_append, List.cons_append, x_ifCond_eq, x_ifCond_eqb, x_sipush, x_ireturn, u_94_10, x_ishl, x_istore2i, x_istore2r, x_istore2u, x_istore3i, x_istore3r, x_istore3u, x_jsr, x_iload3, x_if_icmp_ge, x_iload2, x_ior, x_iinc3i, x_iinc3r, x_iinc3u, x_goto, u_94_36, e1, e2, e3, b01_0, ite_not, if_true, if_false, Int.reduceLT, Int.reduceEq]
    rw [if_pos (by omega)]
theorem t_brc (h : inv I) {k : Int} (hk : 0 ≤ k ∧ k < I 1 9) : s_S X (d + 4) 94 [.ref 1, .int (iI k)] (mm I J) = some ([.int (iI (brc I k))], mm I J) := by
  have hn6 := h.1
  have e1 := t_seat (X := X) (d := d + 2) (I := I) (J := J) (s := I 1 10) (k := k) rfl (inv_s h) (by omega)
  have hst := stb_i (s := 0) (k := k) (by decide) (by omega)
  have e2 := t_br1 (X := X) (d := d) (J := J) h (k := k) 6 0 (stb 0 k 1) (by decide) (by decide) (by omega)
  have e3 : iI 1 <<< (iI k &&& 31) = iI (stb 0 k 1) := by
    rw [← hst.1]
    exact Int32.zero_or.symm
  unfold brc
  by_cases q : bt (I 1 10) k = 1
  · rw [if_pos q] at e1
    simp (disch := omega) only [v_94_1, u_94_0, x_aload0, x_iload1, x_call2_0, x_call2_1, x_call2_2, x_call2_3, x_call2_4, e_k_s, e_k_i, List.nil_append, List.cons_append, x_ifCond_eq, x_ifCond_eqb, x_sipush, x_ireturn, u_94_10, x_ishl, x_istore2i, x_istore2r, x_istore2u, x_istore3i, x_istore3r, x_istore3u, x_jsr, x_iload3, x_if_icmp_ge, x_iload2, x_ior, x_iinc3i, x_iinc3r, x_iinc3u, x_goto, u_94_36, e1, b01_0, ite_not, if_true, if_false, Int.reduceLT, Int.reduceEq]
    rw [if_pos q]
  · rw [if_neg q] at e1
    simp (disch := omega) only [v_94_1, u_94_0, x_aload0, x_iload1, x_call2_0, x_call2_1, x_call2_2, x_call2_3, x_call2_4, e_k_s, e_k_i, List.nil_append, List.cons_append, x_ifCond_eq, x_ifCond_eqb, x_sipush, x_ireturn, u_94_10, x_ishl, x_istore2i, x_istore2r, x_istore2u, x_istore3i, x_istore3r, x_istore3u, x_jsr, x_iload3, x_if_icmp_ge, x_iload2, x_ior, x_iinc3i, x_iinc3r, x_iinc3u, x_goto, u_94_36, e1, e2, e3, b01_0, ite_not, if_true, if_false, Int.reduceLT, Int.reduceEq]
    rw [if_neg q]
theorem t_cb1 (h : inv I) : ∀ (n : Nat) (k a : Int), 0 ≤ k → k + n = I 1 9 → s_j X (d + 4) 93 4 [.ref 1, .int (iI a), .int (iI k)] [] (mm I J) = some ([.int (iI (cbr I n k a))], mm I J) := by
  have hn6 := h.1
  intro n
  induction n with
  | zero =>
    intro k a h0 hn
    rw [u_93_4]
    simp (disch := omega) only [v_93_1, u_93_0, x_sipush, x_istore1i, x_istore1r, x_istore1u, x_istore2i, x_istore2r, x_istore2u, x_jsr, x_iload2, x_aload0, f_1_9, x_if_icmp_ge, x_call2_0, x_call2_1, x_call2_2, x_call2_3, x_call2_4, e_k_s, e_k_i, List.nil_append, List.cons_append, x_call1_0, x_call1_1, x_call1_2, x_call1_3, x_call1_4, x_if_icmp_ne, x_iinc1i, x_iinc1r, x_iinc1u, u_93_27, x_iinc2i, x_iinc2r, x_iinc2u, x_goto, u_93_33, x_iload1, x_ireturn, b01_0, ite_not, if_true, if_false, Int.reduceLT, Int.reduceEq]
    rw [if_neg (by omega)]
    rfl
  | succ n ih =>
    intro k a h0 hn
    have e1 := t_brc (X := X) (d := d) (J := J) h (k := k) ⟨h0, by omega⟩
    have hb := brc_b hn6 (k := k) (by omega)
    have e2 := b_lof (X := X) (d := d + 3) (I := I) (J := J) hb
    have hl := lof_b (s := brc I k) 6 0
    unfold cbr
    rw [u_93_4]
    by_cases q : lof (brc I k) 6 0 = k
    · have e3 := ih (k + 1) (a + 1) (by omega) (by omega)
      rw [if_pos q, ← e3]
      simp (disch := omega) only [v_93_1, u_93_0, x_sipush, x_istore1i, x_istore1r, x_istore1u, x_istore2i, x_istore2r, x_istore2u, x_jsr, x_iload2, x_aload0, f_1_9, x_if_icmp_ge, x_call2_0, x_call2_1, x_call2_2, x_call2_3, x_call2_4, e_k_s, e_k_i, List.nil_append, List.cons_append, x_call1_0, x_call1_1, x_call1_2, x_call1_3, x_call1_4, x_if_icmp_ne, x_iinc1i, x_iinc1r, x_iinc1u, u_93_27, x_iinc2i, x_iinc2r, x_iinc2u, x_goto, u_93_33, x_iload1, x_ireturn, e1, e2, q, b01_0, ite_not, if_true, if_false, Int.reduceLT, Int.reduceEq]
      rw [if_pos (by omega)]
    · have e3 := ih (k + 1) a (by omega) (by omega)
      rw [if_neg q, ← e3]
      simp (disch := omega) only [v_93_1, u_93_0, x_sipush, x_istore1i, x_istore1r, x_istore1u, x_istore2i, x_istore2r, x_istore2u, x_jsr, x_iload2, x_aload0, f_1_9, x_if_icmp_ge, x_call2_0, x_call2_1, x_call2_2, x_call2_3, x_call2_4, e_k_s, e_k_i, List.nil_append, List.cons_append, x_call1_0, x_call1_1, x_call1_2, x_call1_3, x_call1_4, x_if_icmp_ne, x_iinc1i, x_iinc1r, x_iinc1u, u_93_27, x_iinc2i, x_iinc2r, x_iinc2u, x_goto, u_93_33, x_iload1, x_ireturn, e1, e2, b01_0, ite_not, if_true, if_false, Int.reduceLT, Int.reduceEq]
      rw [if_pos (by omega), if_neg q]
theorem t_cbr (h : inv I) : s_S X (d + 5) 93 [.ref 1] (mm I J) = some ([.int (iI (cbr I (I 1 9).toNat 0 0))], mm I J) := by
  have e := t_cb1 (X := X) (d := d) (J := J) h (I 1 9).toNat 0 0 (by decide) (by have := h.1; omega)
  simp (disch := omega) only [v_93_1, u_93_0, x_sipush, x_istore1i, x_istore1r, x_istore1u, x_istore2i, x_istore2r, x_istore2u, x_jsr, x_iload2, x_aload0, f_1_9, x_if_icmp_ge, x_call2_0, x_call2_1, x_call2_2, x_call2_3, x_call2_4, e_k_s, e_k_i, List.nil_append, List.cons_append, x_call1_0, x_call1_1, x_call1_2, x_call1_3, x_call1_4, x_if_icmp_ne, x_iinc1i, x_iinc1r, x_iinc1u, u_93_27, x_iinc2i, x_iinc2r, x_iinc2u, x_goto, u_93_33, x_iload1, x_ireturn, e, b01_0, ite_not, if_true, if_false, Int.reduceLT, Int.reduceEq]
theorem mn1_b (h : inv I) {s : Int} : ∀ (n : Nat) (k a : Int), 0 ≤ k → k + n ≤ I 1 9 → 0 ≤ a ∧ a ≤ 40 → 0 ≤ mn1 I s n k a ∧ mn1 I s n k a ≤ a
  | 0, _, a, _, _, ha => ⟨ha.1, Int.le_refl a⟩
  | n + 1, k, a, h0, hn, ha => by
    have hk := (h.2.2.2.2.2.2.1 k h0 (by omega)).2.1
    unfold mn1
    have := mn1_b h (s := s) n (k + 1) (if bt s k = 1 then min a (I 3 k) else a) (by omega) (by omega) (by split <;> omega)
    refine ⟨this.1, Int.le_trans this.2 ?_⟩
    split <;> omega
theorem mx1_b (h : inv I) {s : Int} : ∀ (n : Nat) (k a : Int), 0 ≤ k → k + n ≤ I 1 9 → -1 ≤ a ∧ a ≤ 39 → a ≤ mx1 I s n k a ∧ mx1 I s n k a ≤ 39
  | 0, _, a, _, _, ha => ⟨Int.le_refl a, ha.2⟩
  | n + 1, k, a, h0, hn, ha => by
    have hk := (h.2.2.2.2.2.2.1 k h0 (by omega)).2.1
    unfold mx1
    have := mx1_b h (s := s) n (k + 1) (if bt s k = 1 then max a (I 3 k) else a) (by omega) (by omega) (by split <;> omega)
    refine ⟨Int.le_trans ?_ this.1, this.2⟩
    split <;> omega
theorem t_wa1 (h : inv I) {p s : Int} (hs : 0 ≤ s ∧ s < 64) : ∀ (n : Nat) (k a b : Int), 0 ≤ k → k + n = I 1 9 → 0 ≤ a ∧ a ≤ 40 → -1 ≤ b ∧ b ≤ 39 → s_j X (d + 1) 97 9 [.ref 1, .int (iI p), .int (iI s), .int (iI a), .int (iI b), .int (iI k)] [] (mm I J) = s_j X (d + 1) 97 60 [.ref 1, .int (iI p), .int (iI s), .int (iI (mn1 I s n k a)), .int (iI (mx1 I s n k b)), .int (iI (I 1 9))] [] (mm I J) := by
  have hn6 := h.1
  intro n
  induction n with
  | zero =>
    intro k a b h0 hn ha hb
    rw [u_97_9, show k = I 1 9 by omega]
    simp (disch := omega) only [v_97_1, u_97_0, x_sipush, x_istore3i, x_istore3r, x_istore3u, x_istore4i, x_istore4r, x_istore4u, x_istore5i, x_istore5r, x_istore5u, x_jsr, x_iload5, x_aload0, f_1_9, x_if_icmp_ge, x_iload2, x_ishr, x_iand, x_if_icmp_ne, x_iload3, k_1_1, x_dsub_0, x_dsub_1, x_dsub_2, x_dsub_3, x_dsub_4, x_iload4, x_dadd_0, x_dadd_1, x_dadd_2, x_dadd_3, x_dadd_4, u_97_54, x_iinc5i, x_iinc5r, x_iinc5u, x_goto, x_ifCond_ge, x_ireturn, u_97_67, x_isub, x_iload1, x_dneg_0, x_dneg_1, x_dneg_2, x_dneg_3, x_dneg_4, x_iadd, ia_3, b01_0, ite_not, if_true, if_false, Int.reduceLT, Int.reduceEq]
    rw [if_neg (by omega)]
    rfl
  | succ n ih =>
    intro k a b h0 hn ha hb
    have hk := (h.2.2.2.2.2.2.1 k h0 (by omega)).2.1
    have e2 := bt_i (s := s) (k := k) hs (by omega)
    have hbr := bt_rg s k
    unfold mn1 mx1
    rw [u_97_9]
    by_cases q : bt s k = 1
    · have e3 := ih (k + 1) (min a (I 3 k)) (max b (I 3 k)) (by omega) (by omega) (by omega) (by omega)
      rw [if_pos q, if_pos q, ← e3]
      simp (disch := omega) only [v_97_1, u_97_0, x_sipush, x_istore3i, x_istore3r, x_istore3u, x_istore4i, x_istore4r, x_istore4u, x_istore5i, x_istore5r, x_istore5u, x_jsr, x_iload5, x_aload0, f_1_9, x_if_icmp_ge, x_iload2, x_ishr, x_iand, x_if_icmp_ne, x_iload3, k_1_1, x_dsub_0, x_dsub_1, x_dsub_2, x_dsub_3, x_dsub_4, x_iload4, x_dadd_0, x_dadd_1, x_dadd_2, x_dadd_3, x_dadd_4, u_97_54, x_iinc5i, x_iinc5r, x_iinc5u, x_goto, x_ifCond_ge, x_ireturn, u_97_67, x_isub, x_iload1, x_dneg_0, x_dneg_1, x_dneg_2, x_dneg_3, x_dneg_4, x_iadd, ia_3, e2, q, b01_0, ite_not, if_true, if_false, Int.reduceLT, Int.reduceEq]
      rw [if_pos (by omega)]
    · have e3 := ih (k + 1) a b (by omega) (by omega) (by omega) (by omega)
      rw [if_neg q, if_neg q, ← e3]
      simp (disch := omega) only [v_97_1, u_97_0, x_sipush, x_istore3i, x_istore3r, x_istore3u, x_istore4i, x_istore4r, x_istore4u, x_istore5i, x_istore5r, x_istore5u, x_jsr, x_iload5, x_aload0, f_1_9, x_if_icmp_ge, x_iload2, x_ishr, x_iand, x_if_icmp_ne, x_iload3, k_1_1, x_dsub_0, x_dsub_1, x_dsub_2, x_dsub_3, x_dsub_4, x_iload4, x_dadd_0, x_dadd_1, x_dadd_2, x_dadd_3, x_dadd_4, u_97_54, x_iinc5i, x_iinc5r, x_iinc5u, x_goto, x_ifCond_ge, x_ireturn, u_97_67, x_isub, x_iload1, x_dneg_0, x_dneg_1, x_dneg_2, x_dneg_3, x_dneg_4, x_iadd, ia_3, e2, b01_0, ite_not, if_true, if_false, Int.reduceLT, Int.reduceEq]
      rw [if_pos (by omega), if_neg q]
theorem way_b (h : inv I) {p s : Int} (hp : 0 ≤ p ∧ p ≤ 40) : 0 ≤ way I p s + 40 ∧ way I p s ≤ 120 := by
  have h1 := mn1_b h (s := s) (I 1 9).toNat 0 40 (by decide) (by have := h.1; omega) (by decide)
  have h2 := mx1_b h (s := s) (I 1 9).toNat 0 (-1) (by decide) (by have := h.1; omega) (by decide)
  unfold way iabs
  (repeat' split) <;> omega
theorem t_way (h : inv I) {p s : Int} (hp : 0 ≤ p ∧ p ≤ 40) (hs : 0 ≤ s ∧ s < 64) : s_S X (d + 2) 97 [.ref 1, .int (iI p), .int (iI s)] (mm I J) = some ([.int (iI (way I p s))], mm I J) := by
  have e := t_wa1 (X := X) (d := d) (J := J) h (p := p) hs (I 1 9).toNat 0 40 (-1) (by decide) (by have := h.1; omega) (by decide) (by decide)
  have h1 := mn1_b h (s := s) (I 1 9).toNat 0 40 (by decide) (by have := h.1; omega) (by decide)
  have h2 := mx1_b h (s := s) (I 1 9).toNat 0 (-1) (by decide) (by have := h.1; omega) (by decide)
  have a1 : rg (iabs (p - mn1 I s (I 1 9).toNat 0 40)) := by
    unfold iabs
    split <;> constructor <;> omega
  have a2 : rg (iabs (p - mx1 I s (I 1 9).toNat 0 (-1))) := by
    unfold iabs
    split <;> constructor <;> omega
  unfold way
  simp (disch := omega) only [v_97_1, u_97_0, x_sipush, x_istore3i, x_istore3r, x_istore3u, x_istore4i, x_istore4r, x_istore4u, x_istore5i, x_istore5r, x_istore5u, x_jsr, x_iload5, x_aload0, f_1_9, x_if_icmp_ge, x_iload2, x_ishr, x_iand, x_if_icmp_ne, x_iload3, k_1_1, x_dsub_0, x_dsub_1, x_dsub_2, x_dsub_3, x_dsub_4, x_iload4, x_dadd_0, x_dadd_1, x_dadd_2, x_dadd_3, x_dadd_4, u_97_54, x_iinc5i, x_iinc5r, x_iinc5u, x_goto, u_97_60, x_ifCond_ge, x_ireturn, u_97_67, x_isub, x_iload1, x_dneg_0, x_dneg_1, x_dneg_2, x_dneg_3, x_dneg_4, x_iadd, ia_3, e, b01_0, ite_not, if_true, if_false, Int.reduceLT, Int.reduceEq]
  (repeat' split) <;> first | rfl | (exfalso; omega)
theorem t_ff1 (h : inv I) {p s : Int} (hp : 0 ≤ p ∧ p ≤ 40) (hs : 0 ≤ s ∧ s < 64) : ∀ (n : Nat) (k : Int) (w : Value), 0 ≤ k → k + n = I 1 9 → s_j X (d + 2) 98 10 [.ref 1, .int (iI p), .int (iI s), .int (iI (way I p s)), .int (iI k), w] [] (mm I J) = some ([.int (iI (ff1 I p s n k))], mm I J) := by
  have hn6 := h.1
  have hw := way_b h (p := p) (s := s) hp
  intro n
  induction n with
  | zero =>
    intro k w h0 hn
    rw [u_98_10]
    simp (disch := omega) only [v_98_1, u_98_0, x_aload0, x_iload1, x_iload2, x_call3_0, x_call3_1, x_call3_2, x_call3_3, x_call3_4, e_k_s, e_k_i, List.nil_append, List.cons_append, x_istore3i, x_istore3r, x_istore3u, x_sipush, x_istore4i, x_istore4r, x_istore4u, x_jsr, x_iload4, f_1_9, x_if_icmp_ge, x_ishr, x_iand, x_if_icmp_ne, k_1_1, x_isub, x_dneg_0, x_dneg_1, x_dneg_2, x_dneg_3, x_dneg_4, x_ishl, x_ixor, x_iadd, x_istore5i, x_istore5r, x_istore5u, x_iload5, x_iload3, x_ireturn, u_98_72, x_iinc4i, x_iinc4r, x_iinc4u, x_goto, u_98_78, ia_3, b01_0, ite_not, if_true, if_false, Int.reduceLT, Int.reduceEq]
    rw [if_neg (by omega)]
    rfl
  | succ n ih =>
    intro k w h0 hn
    have hk := (h.2.2.2.2.2.2.1 k h0 (by omega)).2.1
    have e2 := bt_i (s := s) (k := k) hs (by omega)
    have hbr := bt_rg s k
    have hst := stb_i hs (k := k) (by omega)
    have e4 := hst.2.1
    have e5 := t_way (X := X) (d := d) (J := J) h (p := I 3 k) (s := stb s k 0) (by omega) (by omega)
    have hw2 := way_b h (p := I 3 k) (s := stb s k 0) (by omega)
    have a1 : rg (p - I 3 k) := by constructor <;> omega
    have a2 : 0 ≤ iabs (p - I 3 k) ∧ iabs (p - I 3 k) ≤ 100 := by
      unfold iabs
      split <;> omega
    unfold ff1
    rw [u_98_10]
    by_cases q : bt s k = 1
    · by_cases q2 : iabs (p - I 3 k) + way I (I 3 k) (stb s k 0) = way I p s
      · rw [if_pos ⟨q, q2⟩]
        simp (disch := omega) only [v_98_1, u_98_0, x_aload0, x_iload1, x_iload2, x_call3_0, x_call3_1, x_call3_2, x_call3_3, x_call3_4, e_k_s, e_k_i, List.nil_append, List.cons_append, x_istore3i, x_istore3r, x_istore3u, x_sipush, x_istore4i, x_istore4r, x_istore4u, x_jsr, x_iload4, f_1_9, x_if_icmp_ge, x_ishr, x_iand, x_if_icmp_ne, k_1_1, x_isub, x_dneg_0, x_dneg_1, x_dneg_2, x_dneg_3, x_dneg_4, x_ishl, x_ixor, x_iadd, x_istore5i, x_istore5r, x_istore5u, x_iload5, x_iload3, x_ireturn, u_98_72, x_iinc4i, x_iinc4r, x_iinc4u, x_goto, u_98_78, ia_3, e2, q, e4, e5, q2, b01_0, ite_not, if_true, if_false, Int.reduceLT, Int.reduceEq]
        rw [if_pos (by omega)]
      · have e3 := ih (k + 1) (.int (iI (iabs (p - I 3 k) + way I (I 3 k) (stb s k 0)))) (by omega) (by omega)
        rw [if_neg (fun z => q2 z.2), ← e3]
        simp (disch := omega) only [v_98_1, u_98_0, x_aload0, x_iload1, x_iload2, x_call3_0, x_call3_1, x_call3_2, x_call3_3, x_call3_4, e_k_s, e_k_i, List.nil_append, List.cons_append, x_istore3i, x_istore3r, x_istore3u, x_sipush, x_istore4i, x_istore4r, x_istore4u, x_jsr, x_iload4, f_1_9, x_if_icmp_ge, x_ishr, x_iand, x_if_icmp_ne, k_1_1, x_isub, x_dneg_0, x_dneg_1, x_dneg_2, x_dneg_3, x_dneg_4, x_ishl, x_ixor, x_iadd, x_istore5i, x_istore5r, x_istore5u, x_iload5, x_iload3, x_ireturn, u_98_72, x_iinc4i, x_iinc4r, x_iinc4u, x_goto, u_98_78, ia_3, e2, q, e4, e5, b01_0, ite_not, if_true, if_false, Int.reduceLT, Int.reduceEq]
        rw [if_pos (by omega), if_neg q2]
    · have e3 := ih (k + 1) w (by omega) (by omega)
      rw [if_neg (fun z => q z.1), ← e3]
      simp (disch := omega) only [v_98_1, u_98_0, x_aload0, x_iload1, x_iload2, x_call3_0, x_call3_1, x_call3_2, x_call3_3, x_call3_4, e_k_s, e_k_i, List.nil_append, List.cons_append, x_istore3i, x_istore3r, x_istore3u, x_sipush, x_istore4i, x_istore4r, x_istore4u, x_jsr, x_iload4, f_1_9, x_if_icmp_ge, x_ishr, x_iand, x_if_icmp_ne, k_1_1, x_isub, x_dneg_0, x_dneg_1, x_dneg_2, x_dneg_3, x_dneg_4, x_ishl, x_ixor, x_iadd, x_istore5i, x_istore5r, x_istore5u, x_iload5, x_iload3, x_ireturn, u_98_72, x_iinc4i, x_iinc4r, x_iinc4u, x_goto, u_98_78, ia_3, e2, b01_0, ite_not, if_true, if_false, Int.reduceLT, Int.reduceEq]
      rw [if_pos (by omega), if_neg q]
theorem t_fft (h : inv I) {p s : Int} (hp : 0 ≤ p ∧ p ≤ 40) (hs : 0 ≤ s ∧ s < 64) : s_S X (d + 3) 98 [.ref 1, .int (iI p), .int (iI s)] (mm I J) = some ([.int (iI (ff1 I p s (I 1 9).toNat 0))], mm I J) := by
  have e1 := t_way (X := X) (d := d) (J := J) h (p := p) (s := s) hp hs
  have e2 := t_ff1 (X := X) (d := d) (J := J) h (p := p) hp hs (I 1 9).toNat 0 (.retAddr 0) (by decide) (by have := h.1; omega)
  simp (disch := omega) only [v_98_1, u_98_0, x_aload0, x_iload1, x_iload2, x_call3_0, x_call3_1, x_call3_2, x_call3_3, x_call3_4, e_k_s, e_k_i, List.nil_append, List.cons_append, x_istore3i, x_istore3r, x_istore3u, x_sipush, x_istore4i, x_istore4r, x_istore4u, x_jsr, x_iload4, f_1_9, x_if_icmp_ge, x_ishr, x_iand, x_if_icmp_ne, k_1_1, x_isub, x_dneg_0, x_dneg_1, x_dneg_2, x_dneg_3, x_dneg_4, x_ishl, x_ixor, x_iadd, x_istore5i, x_istore5r, x_istore5u, x_iload5, x_iload3, x_ireturn, u_98_72, x_iinc4i, x_iinc4r, x_iinc4u, x_goto, u_98_78, ia_3, e1, e2, b01_0, ite_not, if_true, if_false, Int.reduceLT, Int.reduceEq]
end
