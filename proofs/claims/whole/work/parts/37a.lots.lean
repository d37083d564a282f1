/-! LOTS, in class and model -/
def zn (z : Int) : Int := z * 1103515245 + 12345
def zuE (z : Int) : Int32 := ((iI z).toUInt32 >>> ((iI 16).toUInt32 &&& Int32.toUInt32 31)).toInt32
def zu (z : Int) : Int := (zuE z).toInt
theorem zu_i (z : Int) : zuE z = iI (zu z) := (iI_of _).symm
theorem zu_b (z : Int) : 0 ≤ zu z ∧ zu z < 65536 := by
  have h1 : ((iI z).toUInt32 >>> ((iI 16).toUInt32 &&& Int32.toUInt32 31)).toNat < 65536 := by
    rw [UInt32.toNat_shiftRight]
    have e : (((iI 16).toUInt32 &&& Int32.toUInt32 31).toNat % 32) = 16 := by decide
    rw [e, Nat.shiftRight_eq_div_pow]
    have := (iI z).toUInt32.toNat_lt
    omega
  have h2 : zu z = (((iI z).toUInt32 >>> ((iI 16).toUInt32 &&& Int32.toUInt32 31)).toNat : Int) := by
    show (((iI z).toUInt32 >>> ((iI 16).toUInt32 &&& Int32.toUInt32 31)).toBitVec).toInt = _
    rw [BitVec.toInt_eq_toNat_of_lt]
    · rfl
    · show 2 * ((iI z).toUInt32 >>> ((iI 16).toUInt32 &&& Int32.toUInt32 31)).toNat < 2 ^ 32
      omega
  omega
/-- the act that a lot is -/
def zl (I : Nat → Int → Int) (z : Int) : Int := zu z % (I 1 9 + 1)
theorem zl_b {I : Nat → Int → Int} (h : 0 ≤ I 1 9 ∧ I 1 9 ≤ 6) (z : Int) : 0 ≤ zl I z ∧ zl I z ≤ I 1 9 := by
  have h1 := Int.emod_nonneg (zu z) (b := I 1 9 + 1) (by omega)
  have h2 := Int.emod_lt_of_pos (zu z) (b := I 1 9 + 1) (by omega)
  unfold zl
  omega
def wlt (I : Nat → Int → Int) : Nat → co → Int → Int → Int × Int
  | 0, _, z, w => (w, z)
  | n + 1, c, z, w => wlt I n (pas I c (zl I (zn z))).2 (zn z) (w + (pas I c (zl I (zn z))).1)
def wla (I : Nat → Int → Int) (c : co) (z : Int) : Int × Int := wlt I (I 1 12 - c.1).toNat c z 0
def tmc (I : Nat → Int → Int) (c : co) (v : Int) : Nat → Int → Int → Int
  | 0, _, a => a
  | n + 1, z, a => tmc I c v n (wla I c z).2 (if v ≤ (wla I c z).1 then a + 1 else a)
theorem wlt_b {I : Nat → Int → Int} (h : inv I) : ∀ (n : Nat) (c : co) (z w : Int), cok I c → c.1 + n ≤ I 1 12 → w ≤ (wlt I n c z w).1 ∧ (wlt I n c z w).1 ≤ w + 21 * n
  | 0, _, _, _, _, _ => by unfold wlt; dsimp only; omega
  | n + 1, c, z, w, hc, hn => by
    have h1 := pas_ok h hc (by omega) (zl I (zn z))
    have h3 := wlt_b h n (pas I c (zl I (zn z))).2 (zn z) (w + (pas I c (zl I (zn z))).1) h1.1 (by omega)
    unfold wlt
    omega
theorem wla_b {I : Nat → Int → Int} (h : inv I) {c : co} (hc : cok I c) (z : Int) : 0 ≤ (wla I c z).1 ∧ (wla I c z).1 ≤ 400 := by
  have h16 := h.2.2.2.1
  have c1 := hc.1
  have := wlt_b h (I 1 12 - c.1).toNat c z 0 hc (by omega)
  unfold wla
  omega
theorem bk_16 {I : Nat → Int → Int} {c : co} {F : Int → Int} : bk I c F 1 16 = I 1 16 := rfl
theorem up_16 {I : Nat → Int → Int} {z : Int} : up I 1 16 z 1 16 = z := rfl
theorem up_169 {I : Nat → Int → Int} {z : Int} : up I 1 16 z 1 9 = I 1 9 := rfl
section
variable {X : e_X} {d : Nat} {I J M : Nat → Int → Int}
theorem t_lot (h : inv I) {c : co} {F : Int → Int} {z : Int} : s_S X (d + 1) 103 [.ref 1] (mm (bk (up I 1 16 z) c F) J) = some ([.int (iI (zl I (zn z)))], mm (bk (up I 1 16 (zn z)) c F) J) := by
  have hn := h.1
  have hb := zu_b (zn z)
  have e : ((iI (zn z)).toUInt32 >>> ((iI 16).toUInt32 &&& Int32.toUInt32 31)).toInt32 = iI (zu (zn z)) := zu_i _
  have t := tmod_n (a := zu (zn z)) (b := I 1 9 + 1) hb.1
  have ez : z * 1103515245 + 12345 = zn z := rfl
  unfold zl
  simp (disch := omega) only [v_103_1, u_103_0, x_aload0, f_1_16, x_sipush, x_imul, x_iadd, p_1_16, x_iushr, f_1_9, x_iremI, x_ireturn, bk_16, up_16, ez, bk_uz, up_up, e, bk_n0, up_169, t, b01_0, ite_not, if_true, if_false, Int.reduceLT, Int.reduceEq]
theorem t_wl1 (h : inv I) (hR : rok I) {mo yrs : Int} (hy : 0 ≤ yrs ∧ yrs ≤ 100) : ∀ (n : Nat) (c : co) (F : Int → Int) (z w i : Int), cok I c → c.1 + n ≤ I 1 12 → 0 ≤ i → i + n = yrs → ∃ c' F', s_j X (d + 5) 104 17 [.ref 1, .int (iI mo), .int (iI yrs), .int (iI w), .int (iI i)] [] (mm (bk (up I 1 16 z) c F) J) = s_j X (d + 5) 104 40 [.ref 1, .int (iI mo), .int (iI yrs), .int (iI (wlt I n c z w).1), .int (iI yrs)] [] (mm (bk (up I 1 16 (wlt I n c z w).2) c' F') J) := by
  intro n
  induction n with
  | zero =>
    intro c F z w i hc hn h0 hi
    refine ⟨c, F, ?_⟩
    rw [u_104_17, show i = yrs by omega]
    simp (disch := omega) only [v_104_1, u_104_0, x_aload0, x_call1_0, x_call1_1, x_call1_2, x_call1_3, x_call1_4, e_k_s, e_k_i, List.nil_append, List.cons_append, x_istore1i, x_istore1r, x_istore1u, x_sipush, x_call2_0, x_call2_1, x_call2_2, x_call2_3, x_call2_4, x_istore2i, x_istore2r, x_istore2u, x_istore3i, x_istore3r, x_istore3u, x_istore4i, x_istore4r, x_istore4u, x_jsr, x_iload4, x_iload2, x_if_icmp_ge, x_iload3, x_iadd, x_iinc4i, x_iinc4r, x_iinc4u, x_goto, x_iload1, x_ireturn, b01_0, ite_not, if_true, if_false, Int.reduceLT, Int.reduceEq]
    rw [if_neg (by omega)]
    rfl
  | succ n ih =>
    intro c F z w i hc hn h0 hi
    have hb := zl_b h.1 (zn z)
    have hp := pas_ok h hc (by omega) (zl I (zn z))
    have e0 := t_lot (X := X) (d := d + 4) (J := J) h (c := c) (F := F) (z := z)
    obtain ⟨F1, e1⟩ := s_pas (X := X) (d := d) (B := up I 1 16 (zn z)) (I := I) (J := J) (sq_up (by omega)) h hR hc F (a := zl I (zn z)) (by have := h.1; omega)
    obtain ⟨c', F', e2⟩ := ih (pas I c (zl I (zn z))).2 F1 (zn z) (w + (pas I c (zl I (zn z))).1) (i + 1) hp.1 (by omega) (by omega) (by omega)
    refine ⟨c', F', ?_⟩
    rw [show wlt I (n + 1) c z w = wlt I n (pas I c (zl I (zn z))).2 (zn z) (w + (pas I c (zl I (zn z))).1) from rfl, ← e2, u_104_17]
    simp (disch := omega) only [v_104_1, u_104_0, x_aload0, x_call1_0, x_call1_1, x_call1_2, x_call1_3, x_call1_4, e_k_s, e_k_i, List.nil_append, List.cons_append, x_istore1i, x_istore1r, x_istore1u, x_sipush, x_call2_0, x_call2_1, x_call2_2, x_call2_3, x_call2_4, x_istore2i, x_istore2r, x_istore2u, x_istore3i, x_istore3r, x_istore3u, x_istore4i, x_istore4r, x_istore4u, x_jsr, x_iload4, x_iload2, x_if_icmp_ge, x_iload3, x_iadd, x_iinc4i, x_iinc4r, x_iinc4u, x_goto, x_iload1, x_ireturn, e0, e1, b01_0, ite_not, if_true, if_false, Int.reduceLT, Int.reduceEq]
    rw [if_pos (by omega)]
theorem t_wla (h : inv I) (hR : rok I) {c : co} (hc : cok I c) (F : Int → Int) {z : Int} : ∃ F', s_S X (d + 6) 104 [.ref 1] (mm (bk (up I 1 16 z) c F) J) = some ([.int (iI (wla I c z).1)], mm (bk (up I 1 16 (wla I c z).2) c F') J) := by
  have hq : ∀ z, sq (up I 1 16 z) I := fun z => sq_up (by omega)
  have hy := yec_b (m := 16) (by decide) hc
  have c1 := hc.1
  have h16 := h.2.2.2.1
  have ey : yec I c 16 = I 1 12 - c.1 := by unfold yec; omega
  have e1 := s_mo (X := X) (d := d + 4) (B := up I 1 16 z) (J := J) (hq z) h hc (F := F)
  have e2 := s_yt (X := X) (d := d + 4) (B := up I 1 16 z) (J := J) (hq z) h hc (F := F) (m := 16) (by decide)
  obtain ⟨c', F', e3⟩ := t_wl1 (X := X) (d := d) (J := J) h hR (mo := cmo c) (yrs := yec I c 16) (by omega) (I 1 12 - c.1).toNat c F z 0 0 hc (by omega) (by decide) (by omega)
  have e4 := s_bo (X := X) (d := d + 4) (B := up I 1 16 (wlt I (I 1 12 - c.1).toNat c z 0).2) (J := J) (hq _) h hc (c' := c') (F := F')
  refine ⟨F', ?_⟩
  unfold wla
  simp (disch := omega) only [v_104_1, u_104_0, x_aload0, x_call1_0, x_call1_1, x_call1_2, x_call1_3, x_call1_4, e_k_s, e_k_i, List.nil_append, List.cons_append, x_istore1i, x_istore1r, x_istore1u, x_sipush, x_call2_0, x_call2_1, x_call2_2, x_call2_3, x_call2_4, x_istore2i, x_istore2r, x_istore2u, x_istore3i, x_istore3r, x_istore3u, x_istore4i, x_istore4r, x_istore4u, x_jsr, x_iload4, x_iload2, x_if_icmp_ge, x_iload3, x_iadd, x_iinc4i, x_iinc4r, x_iinc4u, x_goto, u_104_40, x_iload1, x_ireturn, e1, e2, e3, e4, b01_0, ite_not, if_true, if_false, Int.reduceLT, Int.reduceEq]
theorem b_ti1 (h : inv I) (hR : rok I) {c : co} (hc : cok I c) {n v z0 : Int} (hn : 0 ≤ n ∧ n ≤ 40) (hv : 0 ≤ v ∧ v ≤ 999) : ∀ (r : Nat) (i z a : Int) (F : Int → Int), 0 ≤ i → i + r = n → ∃ F' z', s_j X (d + 6) 151 37 [.ref 0, .int (iI n), .int (iI v), .int (iI z0), .int (iI a), .int (iI i)] [] (mm (bk (up I 1 16 z) c F) J) = s_j X (d + 6) 151 63 [.ref 0, .int (iI n), .int (iI v), .int (iI z0), .int (iI (tmc I c v r z a)), .int (iI n)] [] (mm (bk (up I 1 16 z') c F') J) := by
  intro r
  induction r with
  | zero =>
    intro i z a F h0 hi
    refine ⟨F, z, ?_⟩
    rw [u_151_37, show i = n by omega]
    simp (disch := omega) only [v_151_0, u_151_0, x_iload1, x_sipush, x_call3_0, x_call3_1, x_call3_2, x_call3_3, x_call3_4, e_k_s, e_k_i, List.nil_append, List.cons_append, x_ifCond_ne, x_ifCond_neb, x_iload2, x_ifCond_eq, x_ifCond_eqb, x_jsr, u_151_21, x_ireturn, u_151_23, x_aload0, k_0_0, f_1_16, f_20_16, x_istore3i, x_istore3r, x_istore3u, x_istore4i, x_istore4r, x_istore4u, x_istore5i, x_istore5r, x_istore5u, x_iload5, x_if_icmp_ge, x_call1_0, x_call1_1, x_call1_2, x_call1_3, x_call1_4, x_if_icmp_lt, x_iinc4i, x_iinc4r, x_iinc4u, u_151_57, x_iinc5i, x_iinc5r, x_iinc5u, x_goto, x_iload3, p_1_16, p_20_16, x_iload4, b01_0, ite_not, if_true, if_false, Int.reduceLT, Int.reduceEq]
    rw [if_neg (by omega)]
    rfl
  | succ r ih =>
    intro i z a F h0 hi
    obtain ⟨F1, e1⟩ := t_wla (X := X) (d := d) (J := J) h hR hc F (z := z)
    have hb := wla_b h hc z
    by_cases q : v ≤ (wla I c z).1
    · obtain ⟨F', z', e2⟩ := ih (i + 1) (wla I c z).2 (a + 1) F1 (by omega) (by omega)
      refine ⟨F', z', ?_⟩
      rw [show tmc I c v (r + 1) z a = tmc I c v r (wla I c z).2 (if v ≤ (wla I c z).1 then a + 1 else a) from rfl, if_pos q, ← e2, u_151_37]
      simp (disch := omega) only [v_151_0, u_151_0, x_iload1, x_sipush, x_call3_0, x_call3_1, x_call3_2, x_call3_3, x_call3_4, e_k_s, e_k_i, List.nil_append, List.cons_append, x_ifCond_ne, x_ifCond_neb, x_iload2, x_ifCond_eq, x_ifCond_eqb, x_jsr, u_151_21, x_ireturn, u_151_23, x_aload0, k_0_0, f_1_16, f_20_16, x_istore3i, x_istore3r, x_istore3u, x_istore4i, x_istore4r, x_istore4u, x_istore5i, x_istore5r, x_istore5u, x_iload5, x_if_icmp_ge, x_call1_0, x_call1_1, x_call1_2, x_call1_3, x_call1_4, x_if_icmp_lt, x_iinc4i, x_iinc4r, x_iinc4u, u_151_57, x_iinc5i, x_iinc5r, x_iinc5u, x_goto, x_iload3, p_1_16, p_20_16, x_iload4, e1, b01_0, ite_not, if_true, if_false, Int.reduceLT, Int.reduceEq]
      rw [if_pos (by omega), if_neg (by omega)]
    · obtain ⟨F', z', e2⟩ := ih (i + 1) (wla I c z).2 a F1 (by omega) (by omega)
      refine ⟨F', z', ?_⟩
      rw [show tmc I c v (r + 1) z a = tmc I c v r (wla I c z).2 (if v ≤ (wla I c z).1 then a + 1 else a) from rfl, if_neg q, ← e2, u_151_37]
      simp (disch := omega) only [v_151_0, u_151_0, x_iload1, x_sipush, x_call3_0, x_call3_1, x_call3_2, x_call3_3, x_call3_4, e_k_s, e_k_i, List.nil_append, List.cons_append, x_ifCond_ne, x_ifCond_neb, x_iload2, x_ifCond_eq, x_ifCond_eqb, x_jsr, u_151_21, x_ireturn, u_151_23, x_aload0, k_0_0, f_1_16, f_20_16, x_istore3i, x_istore3r, x_istore3u, x_istore4i, x_istore4r, x_istore4u, x_istore5i, x_istore5r, x_istore5u, x_iload5, x_if_icmp_ge, x_call1_0, x_call1_1, x_call1_2, x_call1_3, x_call1_4, x_if_icmp_lt, x_iinc4i, x_iinc4r, x_iinc4u, u_151_57, x_iinc5i, x_iinc5r, x_iinc5u, x_goto, x_iload3, p_1_16, p_20_16, x_iload4, e1, b01_0, ite_not, if_true, if_false, Int.reduceLT, Int.reduceEq]
      rw [if_pos (by omega), if_pos (by omega)]
theorem b_tim (h : inv I) (hR : rok I) {c : co} (hc : cok I c) {n v : Int} (hn : 1 ≤ n ∧ n ≤ 40) (hv : 0 ≤ v ∧ v ≤ 999) (F : Int → Int) : ∃ F', s_S X (d + 7) 151 [.ref 0, .int (iI n), .int (iI v)] (mm (bk I c F) J) = some ([.int (iI (tmc I c v n.toNat (I 1 16) 0))], mm (bk I c F') J) := by
  obtain ⟨F', z', e1⟩ := b_ti1 (X := X) (d := d) (J := J) h hR hc (n := n) (v := v) (z0 := I 1 16) (by omega) hv n.toNat 0 (I 1 16) 0 F (by decide) (by omega)
  rw [up_id] at e1
  have eo1 := b_out (X := X) (d := d + 5) (I := bk I c F) (J := J) (v := n) (a := 1) (b := 40) ⟨by omega, by omega⟩ (by decide) (by decide)
  rw [if_neg (by omega)] at eo1
  have eo2 := b_out (X := X) (d := d + 5) (I := bk I c F) (J := J) (v := v) (a := 0) (b := 999) ⟨by omega, by omega⟩ (by decide) (by decide)
  rw [if_neg (by omega)] at eo2
  refine ⟨F', ?_⟩
  simp (disch := omega) only [v_151_0, u_151_0, x_iload1, x_sipush, x_call3_0, x_call3_1, x_call3_2, x_call3_3, x_call3_4, e_k_s, e_k_i, List.nil_append, List.cons_append, x_ifCond_ne, x_ifCond_neb, x_iload2, x_ifCond_eq, x_ifCond_eqb, x_jsr, u_151_21, x_ireturn, u_151_23, x_aload0, k_0_0, f_1_16, f_20_16, x_istore3i, x_istore3r, x_istore3u, x_istore4i, x_istore4r, x_istore4u, x_istore5i, x_istore5r, x_istore5u, x_iload5, x_if_icmp_ge, x_call1_0, x_call1_1, x_call1_2, x_call1_3, x_call1_4, x_if_icmp_lt, x_iinc4i, x_iinc4r, x_iinc4u, u_151_57, x_iinc5i, x_iinc5r, x_iinc5u, x_goto, u_151_63, x_iload3, p_1_16, p_20_16, x_iload4, eo1, eo2, bk_16, e1, bk_uz, up_up, up_id, b01_0, ite_not, if_true, if_false, Int.reduceLT, Int.reduceEq]
theorem RE_5 {z : Int} (h : RE I (M 70)) (hn : 0 ≤ I 1 9 ∧ I 1 9 ≤ 6) : RE I (up M 70 5 z 70) := by
  obtain ⟨e1, e2, e3, e4, e5⟩ := h
  refine ⟨?_, ?_, fun j j0 j1 => ?_, fun g g0 g1 => ?_, fun y y0 y1 => ?_⟩
  · rw [up_k (by omega)]; exact e1
  · rw [up_k (by omega)]; exact e2
  · rw [up_k (by omega), up_k (by omega), up_k (by omega), up_k (by omega)]; exact e3 j j0 j1
  · rw [up_k (by omega), up_k (by omega)]; exact e4 g g0 g1
  · rw [up_k (by omega)]; exact e5 y y0 y1
theorem RR_5 {z : Int} (h : RR I (M 70)) : RR I (up M 70 5 z 70) := RR_eq rfl rfl rfl rfl rfl (up_k (by omega)) (fun x hx => up_k (by omega)) h
theorem mk_u70 {n : Int} {c : co} {sc k v : Int} {P : Int → Int} (q : (k ≠ 0 ∧ k ≠ 2 ∧ k ≠ 3 ∧ k ≠ 4) ∧ ¬ (38 ≤ k ∧ k < 38 + 6 * n ∧ (k - 38) % 6 = 4)) : up (mk M n c sc P) 70 k v = mk (up M 70 k v) n c sc P := by
  obtain ⟨⟨q0, q2, q3, q4⟩, q5⟩ := q
  funext a b
  by_cases h1 : a = 70
  · subst h1
    by_cases h2 : b = k
    · subst h2
      rw [up_self, mk_r ⟨⟨q0, q2, q3, q4⟩, q5⟩, up_self]
    · rw [up_k h2]
      unfold mk
      rw [if_pos rfl, if_pos rfl, up_k h2]
  · rw [up_o h1]
    unfold mk
    rw [if_neg h1, if_neg h1, up_o h1]
theorem up_705 {z : Int} : up M 70 5 z 70 5 = z := rfl
theorem m_lot (h : inv I) (hE : RE I (M 70)) (hQ : RR I (M 70)) (hR : rok I) {c : co} (hco : cok I c) (hy : c.1 < I 1 12) {sc z : Int} (P : Int → Int) : ∃ P', s_S X (d + 9) 269 [.ref 69] (mm (mk (up M 70 5 z) (I 1 9) c sc P) J) = some ([.int (iI (pas I c (zl I (zn z))).1)], mm (mk (up M 70 5 (zn z)) (I 1 9) (pas I c (zl I (zn z))).2 (sc + (pas I c (zl I (zn z))).1) P') J) := by
  have hn := h.1
  have hb := zu_b (zn z)
  have hzb := zl_b hn (zn z)
  have e : ((iI (zn z)).toUInt32 >>> ((iI 16).toUInt32 &&& Int32.toUInt32 31)).toInt32 = iI (zu (zn z)) := zu_i _
  have t := tmod_n (a := zu (zn z)) (b := I 1 9 + 1) hb.1
  have ez : z * 1103515245 + 12345 = zn z := rfl
  have e6 : up M 70 5 (zn z) 70 6 = I 1 9 := by rw [up_k (by omega)]; exact hE.2.1
  obtain ⟨P', e1⟩ := m_pas (X := X) (d := d) (J := J) (M := up M 70 5 (zn z)) h (RE_5 hE hn) (RR_5 hQ) hR hco hy (sc := sc) P (a := zl I (zn z)) (by omega)
  refine ⟨P', ?_⟩
  rw [← e1]
  unfold zl
  simp (disch := omega) only [v_269_69, u_269_0, x_aload0, k_69_0, x_sipush, x_imul, x_iadd, x_iushr, x_iremI, x_call2_0, x_call2_1, x_call2_2, x_call2_3, x_call2_4, e_k_s, e_k_i, List.nil_append, List.cons_append, x_ireturn, ia_70, is_70, mk_r, up_705, ez, mk_u70, up_up, e, e6, t, b01_0, ite_not, if_true, if_false, Int.reduceLT, Int.reduceEq]
  rw [show zu (zn z) % (I 1 9 + 1) = zl I (zn z) from rfl, e1]
  simp (disch := omega) only [v_269_69, u_269_0, x_aload0, k_69_0, x_sipush, x_imul, x_iadd, x_iushr, x_iremI, x_call2_0, x_call2_1, x_call2_2, x_call2_3, x_call2_4, e_k_s, e_k_i, List.nil_append, List.cons_append, x_ireturn, ia_70, is_70, b01_0, ite_not, if_true, if_false, Int.reduceLT, Int.reduceEq]
end
