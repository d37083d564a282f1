/-! LOST PIECES, in the class: over all pieces, by a code -/
def kk (c : Int) : Int := 1 + c / 100
def ww (c : Int) : Int := c / 10 % 10
def mq (c : Int) : Int := c % 10
theorem dig (c : Int) (h : 0 ≤ c ∧ c < 500) : (1 ≤ kk c ∧ kk c ≤ 5) ∧ (0 ≤ ww c ∧ ww c ≤ 9) ∧ (0 ≤ mq c ∧ mq c ≤ 9) ∧ c = 100 * (kk c - 1) + 10 * ww c + mq c := by
  unfold kk ww mq
  omega
theorem dig_n (c : Int) (h : 0 ≤ c ∧ c < 500) : (mq c < 9 ∧ kk (c + 1) = kk c ∧ ww (c + 1) = ww c ∧ mq (c + 1) = mq c + 1) ∨ (mq c = 9 ∧ ww c < 9 ∧ kk (c + 1) = kk c ∧ ww (c + 1) = ww c + 1 ∧ mq (c + 1) = 0) ∨ (mq c = 9 ∧ ww c = 9 ∧ c < 499 ∧ kk c < 5 ∧ kk (c + 1) = kk c + 1 ∧ ww (c + 1) = 0 ∧ mq (c + 1) = 0) ∨ (mq c = 9 ∧ ww c = 9 ∧ c = 499 ∧ kk c = 5) := by
  unfold kk ww mq
  omega
def wc (I : Nat → Int → Int) (c : Int) : Int := wrs I (kk c) (ww c) (mq c)
def cfn (I : Nat → Int → Int) : Nat → Int → Int → Int
  | 0, _, a => a
  | n + 1, c, a => cfn I n (c + 1) (if wc I c = 0 then a + 1 else a)
def ffc (I : Nat → Int → Int) : Nat → Int → Int
  | 0, _ => -1
  | n + 1, c => if wc I c = 0 then c else ffc I n (c + 1)
def ffa (c w : Int) : Int := if c = -1 then -3 else if w = 1 then kk c else if w = 2 then ww c else mq c
def llr (I : Nat → Int → Int) : Nat → Int → Int → Int
  | 0, _, s => lof s 6 0
  | n + 1, c, s => if wc I c = 0 then -3 else llr I n (c + 1) (if crd (wc I c) = 1 then orr s (wc I c) else s)
def bcE (x : Int32) : Int32 :=
  let a := x - ((x.toUInt32 >>> ((iI 1).toUInt32 &&& Int32.toUInt32 31)).toInt32 &&& iI 1431655765)
  let b := (a &&& iI 858993459) + ((a.toUInt32 >>> ((iI 2).toUInt32 &&& Int32.toUInt32 31)).toInt32 &&& iI 858993459)
  let c := (b + (b.toUInt32 >>> ((iI 4).toUInt32 &&& Int32.toUInt32 31)).toInt32) &&& iI 252645135
  let e := c + (c.toUInt32 >>> ((iI 8).toUInt32 &&& Int32.toUInt32 31)).toInt32
  let f := e + (e.toUInt32 >>> ((iI 16).toUInt32 &&& Int32.toUInt32 31)).toInt32
  f &&& iI 63
theorem bcE_dec : (List.range 64).all (fun a => decide (bcE (iI (a : Nat)) = iI (crd a))) = true := by decide +kernel
theorem bcE_i {a : Int} (h : 0 ≤ a ∧ a < 64) : bcE (iI a) = iI (crd a) := by
  obtain ⟨m, rfl⟩ := Int.eq_ofNat_of_zero_le h.1
  exact of_decide_eq_true (List.all_eq_true.mp bcE_dec m (List.mem_range.mpr (by omega)))
section
variable {X : e_X} {d : Nat} {I J : Nat → Int → Int}
theorem j_bc0 {x : Int32} : s_S X (d + 1) 300 [.int x] (mm I J) = some ([.int (bcE x)], mm I J) := by
  rw [v_300, u_300_0]
  rfl
theorem j_bc {a : Int} (h : 0 ≤ a ∧ a < 64) : s_S X (d + 1) 300 [.int (iI a)] (mm I J) = some ([.int (iI (crd a))], mm I J) := by
  rw [j_bc0, bcE_i h]
theorem t_cfE {a k w : Int} (hk : 1 ≤ k ∧ k ≤ 5) (hw : 0 ≤ w ∧ w ≤ 9) : s_j X d 99 20 [.ref 1, .int (iI a), .int (iI k), .int (iI w), .int (iI 10)] [] (mm I J) = if w < 9 then s_j X d 99 20 [.ref 1, .int (iI a), .int (iI k), .int (iI (w + 1)), .int (iI 0)] [] (mm I J) else if k < 5 then s_j X d 99 20 [.ref 1, .int (iI a), .int (iI (k + 1)), .int (iI 0), .int (iI 0)] [] (mm I J) else some ([.int (iI a)], mm I J) := by
  conv => lhs; rw [u_99_20]
  simp (disch := omega) only [v_99_1, u_99_0, x_sipush, x_istore1i, x_istore1r, x_istore1u, x_istore2i, x_istore2r, x_istore2u, x_jsr, u_99_4, x_iload2, x_if_icmp_gt, x_istore3i, x_istore3r, x_istore3u, u_99_11, x_iload3, x_istore4i, x_istore4r, x_istore4u, x_iload4, x_aload0, x_call4_0, x_call4_1, x_call4_2, x_call4_3, x_call4_4, e_k_s, e_k_i, List.nil_append, List.cons_append, x_ifCond_ne, x_ifCond_neb, x_iinc1i, x_iinc1r, x_iinc1u, u_99_41, x_iinc4i, x_iinc4r, x_iinc4u, x_goto, u_99_47, x_iinc3i, x_iinc3r, x_iinc3u, u_99_53, x_iinc2i, x_iinc2r, x_iinc2u, u_99_59, x_iload1, x_ireturn, ↓reduceIte, b01_0, ite_not, if_true, if_false, Int.reduceLT, Int.reduceEq]
  by_cases q : w < 9
  · rw [if_pos q, if_neg (by omega)]
  · rw [if_neg q, if_pos (by omega)]
    by_cases q2 : k < 5
    · rw [if_pos q2, if_neg (by omega)]
    · rw [if_neg q2, if_pos (by omega)]
theorem t_cf1 (h : inv I) (hp : rpk I) : ∀ (r : Nat) (c a : Int), 0 ≤ c → c + r + 1 = 500 → s_j X (d + 3) 99 20 [.ref 1, .int (iI a), .int (iI (kk c)), .int (iI (ww c)), .int (iI (mq c))] [] (mm I J) = some ([.int (iI (cfn I (r + 1) c a))], mm I J) := by
  intro r
  induction r with
  | zero =>
    intro c a h0 hc
    obtain ⟨d1, d2, d3, d4⟩ := dig c (by omega)
    have e1 := t_wrs (X := X) (d := d) (J := J) h hp (kd := kk c) (w := ww c) (m := mq c) ⟨by omega, by omega⟩ d2 d3
    have hb := wrs_b hp (kd := kk c) (w := ww c) (m := mq c)
    rcases dig_n c (by omega) with q | q | q | ⟨q1, q2, q3, q4⟩
    · omega
    · omega
    · omega
    have nx : ∀ a, s_j X (d + 3) 99 20 [.ref 1, .int (iI a), .int (iI (kk c)), .int (iI (ww c)), .int (iI (mq c + 1))] [] (mm I J) = some ([.int (iI a)], mm I J) := by
      intro a
      have e2 := t_cfE (X := X) (d := d + 3) (I := I) (J := J) (a := a) (k := kk c) (w := ww c) d1 d2
      rw [if_neg (by omega), if_neg (by omega)] at e2
      rw [← e2, q1]; rfl
    unfold cfn cfn wc
    rw [u_99_20]
    by_cases z : wrs I (kk c) (ww c) (mq c) = 0
    · rw [if_pos z]
      rw [z] at e1
      simp (disch := omega) only [v_99_1, u_99_0, x_sipush, x_istore1i, x_istore1r, x_istore1u, x_istore2i, x_istore2r, x_istore2u, x_jsr, x_iload2, x_if_icmp_gt, x_istore3i, x_istore3r, x_istore3u, x_iload3, x_istore4i, x_istore4r, x_istore4u, x_iload4, x_aload0, x_call4_0, x_call4_1, x_call4_2, x_call4_3, x_call4_4, e_k_s, e_k_i, List.nil_append, List.cons_append, x_ifCond_ne, x_ifCond_neb, x_iinc1i, x_iinc1r, x_iinc1u, u_99_41, x_iinc4i, x_iinc4r, x_iinc4u, x_goto, x_iinc3i, x_iinc3r, x_iinc3u, u_99_53, x_iinc2i, x_iinc2r, x_iinc2u, u_99_59, x_iload1, x_ireturn, e1, nx, b01_0, ite_not, if_true, if_false, Int.reduceLT, Int.reduceEq]
      rw [if_neg (by omega)]
    · rw [if_neg z]
      simp (disch := omega) only [v_99_1, u_99_0, x_sipush, x_istore1i, x_istore1r, x_istore1u, x_istore2i, x_istore2r, x_istore2u, x_jsr, x_iload2, x_if_icmp_gt, x_istore3i, x_istore3r, x_istore3u, x_iload3, x_istore4i, x_istore4r, x_istore4u, x_iload4, x_aload0, x_call4_0, x_call4_1, x_call4_2, x_call4_3, x_call4_4, e_k_s, e_k_i, List.nil_append, List.cons_append, x_ifCond_ne, x_ifCond_neb, x_iinc1i, x_iinc1r, x_iinc1u, u_99_41, x_iinc4i, x_iinc4r, x_iinc4u, x_goto, x_iinc3i, x_iinc3r, x_iinc3u, u_99_53, x_iinc2i, x_iinc2r, x_iinc2u, u_99_59, x_iload1, x_ireturn, e1, nx, b01_0, ite_not, if_true, if_false, Int.reduceLT, Int.reduceEq]
      rw [if_neg (by omega), if_neg z]
  | succ r ih =>
    intro c a h0 hc
    obtain ⟨d1, d2, d3, d4⟩ := dig c (by omega)
    have e1 := t_wrs (X := X) (d := d) (J := J) h hp (kd := kk c) (w := ww c) (m := mq c) ⟨by omega, by omega⟩ d2 d3
    have hb := wrs_b hp (kd := kk c) (w := ww c) (m := mq c)
    have nx : ∀ a, s_j X (d + 3) 99 20 [.ref 1, .int (iI a), .int (iI (kk c)), .int (iI (ww c)), .int (iI (mq c + 1))] [] (mm I J) = s_j X (d + 3) 99 20 [.ref 1, .int (iI a), .int (iI (kk (c + 1))), .int (iI (ww (c + 1))), .int (iI (mq (c + 1)))] [] (mm I J) := by
      intro a
      have e2 := t_cfE (X := X) (d := d + 3) (I := I) (J := J) (a := a) (k := kk c) (w := ww c) d1 d2
      rcases dig_n c (by omega) with ⟨q1, q2, q3, q4⟩ | ⟨q1, q2, q3, q4, q5⟩ | ⟨q1, q2, q3, q4, q5, q6, q7⟩ | ⟨q1, q2, q3, q4⟩
      · rw [q2, q3, q4]
      · rw [q1, q3, q4, q5, show (9 : Int) + 1 = 10 from rfl, e2, if_pos q2]
      · rw [q1, q5, q6, q7, show (9 : Int) + 1 = 10 from rfl, e2, if_neg (by omega), if_pos q4]
      · omega
    have e3 := fun a => ih (c + 1) a (by omega) (by omega)
    rw [show cfn I (r + 1 + 1) c a = cfn I (r + 1) (c + 1) (if wc I c = 0 then a + 1 else a) from rfl]
    unfold wc
    rw [u_99_20]
    by_cases z : wrs I (kk c) (ww c) (mq c) = 0
    · rw [if_pos z, ← e3]
      rw [z] at e1
      simp (disch := omega) only [v_99_1, u_99_0, x_sipush, x_istore1i, x_istore1r, x_istore1u, x_istore2i, x_istore2r, x_istore2u, x_jsr, x_iload2, x_if_icmp_gt, x_istore3i, x_istore3r, x_istore3u, x_iload3, x_istore4i, x_istore4r, x_istore4u, x_iload4, x_aload0, x_call4_0, x_call4_1, x_call4_2, x_call4_3, x_call4_4, e_k_s, e_k_i, List.nil_append, List.cons_append, x_ifCond_ne, x_ifCond_neb, x_iinc1i, x_iinc1r, x_iinc1u, u_99_41, x_iinc4i, x_iinc4r, x_iinc4u, x_goto, x_iinc3i, x_iinc3r, x_iinc3u, u_99_53, x_iinc2i, x_iinc2r, x_iinc2u, u_99_59, x_iload1, x_ireturn, e1, nx, b01_0, ite_not, if_true, if_false, Int.reduceLT, Int.reduceEq]
      rw [if_neg (by omega)]
    · rw [if_neg z, ← e3]
      simp (disch := omega) only [v_99_1, u_99_0, x_sipush, x_istore1i, x_istore1r, x_istore1u, x_istore2i, x_istore2r, x_istore2u, x_jsr, x_iload2, x_if_icmp_gt, x_istore3i, x_istore3r, x_istore3u, x_iload3, x_istore4i, x_istore4r, x_istore4u, x_iload4, x_aload0, x_call4_0, x_call4_1, x_call4_2, x_call4_3, x_call4_4, e_k_s, e_k_i, List.nil_append, List.cons_append, x_ifCond_ne, x_ifCond_neb, x_iinc1i, x_iinc1r, x_iinc1u, u_99_41, x_iinc4i, x_iinc4r, x_iinc4u, x_goto, x_iinc3i, x_iinc3r, x_iinc3u, u_99_53, x_iinc2i, x_iinc2r, x_iinc2u, u_99_59, x_iload1, x_ireturn, e1, nx, b01_0, ite_not, if_true, if_false, Int.reduceLT, Int.reduceEq]
      rw [if_neg (by omega), if_neg z]
theorem t_cfn (h : inv I) (hp : rpk I) : s_S X (d + 4) 99 [.ref 1] (mm I J) = some ([.int (iI (cfn I 500 0 0))], mm I J) := by
  have e : s_j X (d + 3) 99 20 [.ref 1, .int (iI 0), .int (iI 1), .int (iI 0), .int (iI 0)] [] (mm I J) = some ([.int (iI (cfn I 500 0 0))], mm I J) := t_cf1 (X := X) (d := d) (J := J) h hp 499 0 0 (by decide) (by decide)
  simp (disch := omega) only [v_99_1, u_99_0, x_sipush, x_istore1i, x_istore1r, x_istore1u, x_istore2i, x_istore2r, x_istore2u, x_jsr, u_99_4, x_iload2, x_if_icmp_gt, x_istore3i, x_istore3r, x_istore3u, u_99_11, x_iload3, x_istore4i, x_istore4r, x_istore4u, x_iload4, x_aload0, x_call4_0, x_call4_1, x_call4_2, x_call4_3, x_call4_4, e_k_s, e_k_i, List.nil_append, List.cons_append, x_ifCond_ne, x_ifCond_neb, x_iinc1i, x_iinc1r, x_iinc1u, u_99_41, x_iinc4i, x_iinc4r, x_iinc4u, x_goto, u_99_47, x_iinc3i, x_iinc3r, x_iinc3u, u_99_53, x_iinc2i, x_iinc2r, x_iinc2u, u_99_59, x_iload1, x_ireturn, ↓reduceIte, e, b01_0, ite_not, if_true, if_false, Int.reduceLT, Int.reduceEq]
theorem t_ffE {v k w : Int} (hk : 1 ≤ k ∧ k ≤ 5) (hw : 0 ≤ w ∧ w ≤ 9) : s_j X d 101 18 [.ref 1, .int (iI v), .int (iI k), .int (iI w), .int (iI 10)] [] (mm I J) = if w < 9 then s_j X d 101 18 [.ref 1, .int (iI v), .int (iI k), .int (iI (w + 1)), .int (iI 0)] [] (mm I J) else if k < 5 then s_j X d 101 18 [.ref 1, .int (iI v), .int (iI (k + 1)), .int (iI 0), .int (iI 0)] [] (mm I J) else some ([.int (iI (-3))], mm I J) := by
  conv => lhs; rw [u_101_18]
  simp (disch := omega) only [v_101_1, u_101_0, x_sipush, x_istore2i, x_istore2r, x_istore2u, x_jsr, u_101_2, x_iload2, x_if_icmp_gt, x_istore3i, x_istore3r, x_istore3u, u_101_9, x_iload3, x_istore4i, x_istore4r, x_istore4u, x_iload4, x_aload0, x_call4_0, x_call4_1, x_call4_2, x_call4_3, x_call4_4, e_k_s, e_k_i, List.nil_append, List.cons_append, x_ifCond_ne, x_ifCond_neb, x_iload1, x_if_icmp_ne, x_goto, u_101_45, u_101_54, u_101_56, x_ireturn, u_101_57, x_iinc4i, x_iinc4r, x_iinc4u, u_101_63, x_iinc3i, x_iinc3r, x_iinc3u, u_101_69, x_iinc2i, x_iinc2r, x_iinc2u, u_101_75, ↓reduceIte, b01_0, ite_not, if_true, if_false, Int.reduceLT, Int.reduceEq]
  by_cases q : w < 9
  · rw [if_pos q, if_neg (by omega)]
  · rw [if_neg q, if_pos (by omega)]
    by_cases q2 : k < 5
    · rw [if_pos q2, if_neg (by omega)]
    · rw [if_neg q2, if_pos (by omega)]
theorem t_ff1c (h : inv I) (hp : rpk I) {v : Int} (hv : v = 1 ∨ v = 2 ∨ v = 3) : ∀ (r : Nat) (c : Int), 0 ≤ c → c + r + 1 = 500 → s_j X (d + 3) 101 18 [.ref 1, .int (iI v), .int (iI (kk c)), .int (iI (ww c)), .int (iI (mq c))] [] (mm I J) = some ([.int (iI (ffa (ffc I (r + 1) c) v))], mm I J) := by
  intro r
  induction r with
  | zero =>
    intro c h0 hc
    obtain ⟨d1, d2, d3, d4⟩ := dig c (by omega)
    have e1 := t_wrs (X := X) (d := d) (J := J) h hp (kd := kk c) (w := ww c) (m := mq c) ⟨by omega, by omega⟩ d2 d3
    have hb := wrs_b hp (kd := kk c) (w := ww c) (m := mq c)
    rcases dig_n c (by omega) with q | q | q | ⟨q1, q2, q3, q4⟩
    · omega
    · omega
    · omega
    have e2 := t_ffE (X := X) (d := d + 3) (I := I) (J := J) (v := v) (k := kk c) (w := ww c) d1 d2
    rw [if_neg (by omega), if_neg (by omega)] at e2
    have nx : s_j X (d + 3) 101 18 [.ref 1, .int (iI v), .int (iI (kk c)), .int (iI (ww c)), .int (iI (mq c + 1))] [] (mm I J) = some ([.int (iI (-3))], mm I J) := by
      rw [← e2, q1]; rfl
    unfold ffc ffc wc
    rw [u_101_18]
    by_cases z : wrs I (kk c) (ww c) (mq c) = 0
    · rw [if_pos z]
      rw [z] at e1
      unfold ffa
      rw [if_neg (by omega)]
      rcases hv with rfl | rfl | rfl
      · simp (disch := omega) only [v_101_1, u_101_0, x_sipush, x_istore2i, x_istore2r, x_istore2u, x_jsr, x_iload2, x_if_icmp_gt, x_istore3i, x_istore3r, x_istore3u, x_iload3, x_istore4i, x_istore4r, x_istore4u, x_iload4, x_aload0, x_call4_0, x_call4_1, x_call4_2, x_call4_3, x_call4_4, e_k_s, e_k_i, List.nil_append, List.cons_append, x_ifCond_ne, x_ifCond_neb, x_iload1, x_if_icmp_ne, x_goto, u_101_45, u_101_54, u_101_56, x_ireturn, u_101_57, x_iinc4i, x_iinc4r, x_iinc4u, x_iinc3i, x_iinc3r, x_iinc3u, u_101_69, x_iinc2i, x_iinc2r, x_iinc2u, u_101_75, e1, nx, b01_0, ite_not, if_true, if_false, Int.reduceLT, Int.reduceEq]
        rw [if_neg (by omega)]
      · simp (disch := omega) only [v_101_1, u_101_0, x_sipush, x_istore2i, x_istore2r, x_istore2u, x_jsr, x_iload2, x_if_icmp_gt, x_istore3i, x_istore3r, x_istore3u, x_iload3, x_istore4i, x_istore4r, x_istore4u, x_iload4, x_aload0, x_call4_0, x_call4_1, x_call4_2, x_call4_3, x_call4_4, e_k_s, e_k_i, List.nil_append, List.cons_append, x_ifCond_ne, x_ifCond_neb, x_iload1, x_if_icmp_ne, x_goto, u_101_45, u_101_54, u_101_56, x_ireturn, u_101_57, x_iinc4i, x_iinc4r, x_iinc4u, x_iinc3i, x_iinc3r, x_iinc3u, u_101_69, x_iinc2i, x_iinc2r, x_iinc2u, u_101_75, e1, nx, b01_0, ite_not, if_true, if_false, Int.reduceLT, Int.reduceEq]
        rw [if_neg (by omega)]
      · simp (disch := omega) only [v_101_1, u_101_0, x_sipush, x_istore2i, x_istore2r, x_istore2u, x_jsr, x_iload2, x_if_icmp_gt, x_istore3i, x_istore3r, x_istore3u, x_iload3, x_istore4i, x_istore4r, x_istore4u, x_iload4, x_aload0, x_call4_0, x_call4_1, x_call4_2, x_call4_3, x_call4_4, e_k_s, e_k_i, List.nil_append, List.cons_append, x_ifCond_ne, x_ifCond_neb, x_iload1, x_if_icmp_ne, x_goto, u_101_45, u_101_54, u_101_56, x_ireturn, u_101_57, x_iinc4i, x_iinc4r, x_iinc4u, x_iinc3i, x_iinc3r, x_iinc3u, u_101_69, x_iinc2i, x_iinc2r, x_iinc2u, u_101_75, e1, nx, b01_0, ite_not, if_true, if_false, Int.reduceLT, Int.reduceEq]
        rw [if_neg (by omega)]
    · rw [if_neg z]
      simp (disch := omega) only [v_101_1, u_101_0, x_sipush, x_istore2i, x_istore2r, x_istore2u, x_jsr, x_iload2, x_if_icmp_gt, x_istore3i, x_istore3r, x_istore3u, x_iload3, x_istore4i, x_istore4r, x_istore4u, x_iload4, x_aload0, x_call4_0, x_call4_1, x_call4_2, x_call4_3, x_call4_4, e_k_s, e_k_i, List.nil_append, List.cons_append, x_ifCond_ne, x_ifCond_neb, x_iload1, x_if_icmp_ne, x_goto, u_101_45, u_101_54, u_101_56, x_ireturn, u_101_57, x_iinc4i, x_iinc4r, x_iinc4u, x_iinc3i, x_iinc3r, x_iinc3u, u_101_69, x_iinc2i, x_iinc2r, x_iinc2u, u_101_75, e1, nx, b01_0, ite_not, if_true, if_false, Int.reduceLT, Int.reduceEq]
      rw [if_neg (by omega), if_neg z]
      rfl
  | succ r ih =>
    intro c h0 hc
    obtain ⟨d1, d2, d3, d4⟩ := dig c (by omega)
    have e1 := t_wrs (X := X) (d := d) (J := J) h hp (kd := kk c) (w := ww c) (m := mq c) ⟨by omega, by omega⟩ d2 d3
    have hb := wrs_b hp (kd := kk c) (w := ww c) (m := mq c)
    have nx : s_j X (d + 3) 101 18 [.ref 1, .int (iI v), .int (iI (kk c)), .int (iI (ww c)), .int (iI (mq c + 1))] [] (mm I J) = s_j X (d + 3) 101 18 [.ref 1, .int (iI v), .int (iI (kk (c + 1))), .int (iI (ww (c + 1))), .int (iI (mq (c + 1)))] [] (mm I J) := by
      have e2 := t_ffE (X := X) (d := d + 3) (I := I) (J := J) (v := v) (k := kk c) (w := ww c) d1 d2
      rcases dig_n c (by omega) with ⟨q1, q2, q3, q4⟩ | ⟨q1, q2, q3, q4, q5⟩ | ⟨q1, q2, q3, q4, q5, q6, q7⟩ | ⟨q1, q2, q3, q4⟩
      · rw [q2, q3, q4]
      · rw [q1, q3, q4, q5, show (9 : Int) + 1 = 10 from rfl, e2, if_pos q2]
      · rw [q1, q5, q6, q7, show (9 : Int) + 1 = 10 from rfl, e2, if_neg (by omega), if_pos q4]
      · omega
    have e3 := ih (c + 1) (by omega) (by omega)
    rw [show ffc I (r + 1 + 1) c = if wc I c = 0 then c else ffc I (r + 1) (c + 1) from rfl]
    unfold wc
    rw [u_101_18]
    by_cases z : wrs I (kk c) (ww c) (mq c) = 0
    · rw [if_pos z]
      rw [z] at e1
      unfold ffa
      rw [if_neg (by omega)]
      rcases hv with rfl | rfl | rfl
      · simp (disch := omega) only [v_101_1, u_101_0, x_sipush, x_istore2i, x_istore2r, x_istore2u, x_jsr, x_iload2, x_if_icmp_gt, x_istore3i, x_istore3r, x_istore3u, x_iload3, x_istore4i, x_istore4r, x_istore4u, x_iload4, x_aload0, x_call4_0, x_call4_1, x_call4_2, x_call4_3, x_call4_4, e_k_s, e_k_i, List.nil_append, List.cons_append, x_ifCond_ne, x_ifCond_neb, x_iload1, x_if_icmp_ne, x_goto, u_101_45, u_101_54, u_101_56, x_ireturn, u_101_57, x_iinc4i, x_iinc4r, x_iinc4u, x_iinc3i, x_iinc3r, x_iinc3u, u_101_69, x_iinc2i, x_iinc2r, x_iinc2u, u_101_75, e1, nx, b01_0, ite_not, if_true, if_false, Int.reduceLT, Int.reduceEq]
        rw [if_neg (by omega)]
      · simp (disch := omega) only [v_101_1, u_101_0, x_sipush, x_istore2i, x_istore2r, x_istore2u, x_jsr, x_iload2, x_if_icmp_gt, x_istore3i, x_istore3r, x_istore3u, x_iload3, x_istore4i, x_istore4r, x_istore4u, x_iload4, x_aload0, x_call4_0, x_call4_1, x_call4_2, x_call4_3, x_call4_4, e_k_s, e_k_i, List.nil_append, List.cons_append, x_ifCond_ne, x_ifCond_neb, x_iload1, x_if_icmp_ne, x_goto, u_101_45, u_101_54, u_101_56, x_ireturn, u_101_57, x_iinc4i, x_iinc4r, x_iinc4u, x_iinc3i, x_iinc3r, x_iinc3u, u_101_69, x_iinc2i, x_iinc2r, x_iinc2u, u_101_75, e1, nx, b01_0, ite_not, if_true, if_false, Int.reduceLT, Int.reduceEq]
        rw [if_neg (by omega)]
      · simp (disch := omega) only [v_101_1, u_101_0, x_sipush, x_istore2i, x_istore2r, x_istore2u, x_jsr, x_iload2, x_if_icmp_gt, x_istore3i, x_istore3r, x_istore3u, x_iload3, x_istore4i, x_istore4r, x_istore4u, x_iload4, x_aload0, x_call4_0, x_call4_1, x_call4_2, x_call4_3, x_call4_4, e_k_s, e_k_i, List.nil_append, List.cons_append, x_ifCond_ne, x_ifCond_neb, x_iload1, x_if_icmp_ne, x_goto, u_101_45, u_101_54, u_101_56, x_ireturn, u_101_57, x_iinc4i, x_iinc4r, x_iinc4u, x_iinc3i, x_iinc3r, x_iinc3u, u_101_69, x_iinc2i, x_iinc2r, x_iinc2u, u_101_75, e1, nx, b01_0, ite_not, if_true, if_false, Int.reduceLT, Int.reduceEq]
        rw [if_neg (by omega)]
    · rw [if_neg z, ← e3]
      simp (disch := omega) only [v_101_1, u_101_0, x_sipush, x_istore2i, x_istore2r, x_istore2u, x_jsr, x_iload2, x_if_icmp_gt, x_istore3i, x_istore3r, x_istore3u, x_iload3, x_istore4i, x_istore4r, x_istore4u, x_iload4, x_aload0, x_call4_0, x_call4_1, x_call4_2, x_call4_3, x_call4_4, e_k_s, e_k_i, List.nil_append, List.cons_append, x_ifCond_ne, x_ifCond_neb, x_iload1, x_if_icmp_ne, x_goto, u_101_45, u_101_54, u_101_56, x_ireturn, u_101_57, x_iinc4i, x_iinc4r, x_iinc4u, x_iinc3i, x_iinc3r, x_iinc3u, u_101_69, x_iinc2i, x_iinc2r, x_iinc2u, u_101_75, e1, nx, b01_0, ite_not, if_true, if_false, Int.reduceLT, Int.reduceEq]
      rw [if_neg (by omega), if_neg z]
theorem t_ffc (h : inv I) (hp : rpk I) {v : Int} (hv : v = 1 ∨ v = 2 ∨ v = 3) : s_S X (d + 4) 101 [.ref 1, .int (iI v)] (mm I J) = some ([.int (iI (ffa (ffc I 500 0) v))], mm I J) := by
  have e : s_j X (d + 3) 101 18 [.ref 1, .int (iI v), .int (iI 1), .int (iI 0), .int (iI 0)] [] (mm I J) = some ([.int (iI (ffa (ffc I 500 0) v))], mm I J) := t_ff1c (X := X) (d := d) (J := J) h hp hv 499 0 (by decide) (by decide)
  simp (disch := omega) only [v_101_1, u_101_0, x_sipush, x_istore2i, x_istore2r, x_istore2u, x_jsr, u_101_2, x_iload2, x_if_icmp_gt, x_istore3i, x_istore3r, x_istore3u, u_101_9, x_iload3, x_istore4i, x_istore4r, x_istore4u, x_iload4, x_aload0, x_call4_0, x_call4_1, x_call4_2, x_call4_3, x_call4_4, e_k_s, e_k_i, List.nil_append, List.cons_append, x_ifCond_ne, x_ifCond_neb, x_iload1, x_if_icmp_ne, x_goto, u_101_45, u_101_54, u_101_56, x_ireturn, u_101_57, x_iinc4i, x_iinc4r, x_iinc4u, u_101_63, x_iinc3i, x_iinc3r, x_iinc3u, u_101_69, x_iinc2i, x_iinc2r, x_iinc2u, u_101_75, ↓reduceIte, e, b01_0, ite_not, if_true, if_false, Int.reduceLT, Int.reduceEq]
theorem t_llE {s k w : Int} {u : Value} (hs : 0 ≤ s ∧ s < 64) (hk : 1 ≤ k ∧ k ≤ 5) (hw : 0 ≤ w ∧ w ≤ 9) : s_j X (d + 1) 102 20 [.ref 1, .int (iI s), .int (iI k), .int (iI w), .int (iI 10), u] [] (mm I J) = if w < 9 then s_j X (d + 1) 102 20 [.ref 1, .int (iI s), .int (iI k), .int (iI (w + 1)), .int (iI 0), u] [] (mm I J) else if k < 5 then s_j X (d + 1) 102 20 [.ref 1, .int (iI s), .int (iI (k + 1)), .int (iI 0), .int (iI 0), u] [] (mm I J) else some ([.int (iI (lof s 6 0))], mm I J) := by
  have el := b_lof (X := X) (d := d) (I := I) (J := J) hs
  conv => lhs; rw [u_102_20]
  simp (disch := omega) only [v_102_1, u_102_0, x_sipush, x_istore1i, x_istore1r, x_istore1u, x_istore2i, x_istore2r, x_istore2u, x_jsr, u_102_4, x_iload2, x_if_icmp_gt, x_istore3i, x_istore3r, x_istore3u, u_102_11, x_iload3, x_istore4i, x_istore4r, x_istore4u, x_iload4, x_aload0, x_call4_0, x_call4_1, x_call4_2, x_call4_3, x_call4_4, e_k_s, e_k_i, List.nil_append, List.cons_append, x_istore5i, x_istore5r, x_istore5u, x_iload5, x_ifCond_ne, x_ifCond_neb, x_ireturn, u_102_45, x_call1_0, x_call1_1, x_call1_2, x_call1_3, x_call1_4, x_if_icmp_ne, x_iload1, x_ior, u_102_59, x_iinc4i, x_iinc4r, x_iinc4u, x_goto, u_102_65, x_iinc3i, x_iinc3r, x_iinc3u, u_102_71, x_iinc2i, x_iinc2r, x_iinc2u, u_102_77, ↓reduceIte, el, b01_0, ite_not, if_true, if_false, Int.reduceLT, Int.reduceEq]
  by_cases q : w < 9
  · rw [if_pos q, if_neg (by omega)]
  · rw [if_neg q, if_pos (by omega)]
    by_cases q2 : k < 5
    · rw [if_pos q2, if_neg (by omega)]
    · rw [if_neg q2, if_pos (by omega)]
theorem t_ll1 (h : inv I) (hp : rpk I) : ∀ (r : Nat) (c s : Int) (u : Value), 0 ≤ c → c + r + 1 = 500 → 0 ≤ s ∧ s < 64 → s_j X (d + 3) 102 20 [.ref 1, .int (iI s), .int (iI (kk c)), .int (iI (ww c)), .int (iI (mq c)), u] [] (mm I J) = some ([.int (iI (llr I (r + 1) c s))], mm I J) := by
  intro r
  induction r with
  | zero =>
    intro c s u h0 hc hs
    obtain ⟨d1, d2, d3, d4⟩ := dig c (by omega)
    have e1 := t_wrs (X := X) (d := d) (J := J) h hp (kd := kk c) (w := ww c) (m := mq c) ⟨by omega, by omega⟩ d2 d3
    have hb := wrs_b hp (kd := kk c) (w := ww c) (m := mq c)
    have ho := orr_b hs hb
    have hc0 := crd_b (s := wrs I (kk c) (ww c) (mq c))
    have e5 := j_bc (X := X) (d := d + 2) (I := I) (J := J) hb
    have e6 := i_or (a := s) (b := wrs I (kk c) (ww c) (mq c)) (by omega) (by omega)
    rw [show ((s.toNat ||| (wrs I (kk c) (ww c) (mq c)).toNat : Nat) : Int) = orr s (wrs I (kk c) (ww c) (mq c)) from rfl] at e6
    rcases dig_n c (by omega) with q | q | q | ⟨q1, q2, q3, q4⟩
    · omega
    · omega
    · omega
    have nx : ∀ s u, 0 ≤ s ∧ s < 64 → s_j X (d + 3) 102 20 [.ref 1, .int (iI s), .int (iI (kk c)), .int (iI (ww c)), .int (iI (mq c + 1)), u] [] (mm I J) = some ([.int (iI (lof s 6 0))], mm I J) := by
      intro s u hs
      have e2 := t_llE (X := X) (d := d + 2) (I := I) (J := J) (s := s) (k := kk c) (w := ww c) (u := u) hs d1 d2
      rw [if_neg (by omega), if_neg (by omega)] at e2
      rw [← e2, q1]; rfl
    have nx1 := fun u => nx s u hs
    have nx2 := fun u => nx _ u ho
    unfold llr llr wc
    rw [u_102_20]
    by_cases z : wrs I (kk c) (ww c) (mq c) = 0
    · rw [if_pos z]
      rw [z] at e1
      simp (disch := omega) only [v_102_1, u_102_0, x_sipush, x_istore1i, x_istore1r, x_istore1u, x_istore2i, x_istore2r, x_istore2u, x_jsr, x_iload2, x_if_icmp_gt, x_istore3i, x_istore3r, x_istore3u, x_iload3, x_istore4i, x_istore4r, x_istore4u, x_iload4, x_aload0, x_call4_0, x_call4_1, x_call4_2, x_call4_3, x_call4_4, e_k_s, e_k_i, List.nil_append, List.cons_append, x_istore5i, x_istore5r, x_istore5u, x_iload5, x_ifCond_ne, x_ifCond_neb, x_ireturn, u_102_45, x_call1_0, x_call1_1, x_call1_2, x_call1_3, x_call1_4, x_if_icmp_ne, x_iload1, x_ior, u_102_59, x_iinc4i, x_iinc4r, x_iinc4u, x_goto, x_iinc3i, x_iinc3r, x_iinc3u, u_102_71, x_iinc2i, x_iinc2r, x_iinc2u, u_102_77, e1, b01_0, ite_not, if_true, if_false, Int.reduceLT, Int.reduceEq]
      rw [if_neg (by omega)]
    · rw [if_neg z]
      by_cases z1 : crd (wrs I (kk c) (ww c) (mq c)) = 1
      · rw [if_pos z1]
        rw [z1] at e5
        simp (disch := omega) only [v_102_1, u_102_0, x_sipush, x_istore1i, x_istore1r, x_istore1u, x_istore2i, x_istore2r, x_istore2u, x_jsr, x_iload2, x_if_icmp_gt, x_istore3i, x_istore3r, x_istore3u, x_iload3, x_istore4i, x_istore4r, x_istore4u, x_iload4, x_aload0, x_call4_0, x_call4_1, x_call4_2, x_call4_3, x_call4_4, e_k_s, e_k_i, List.nil_append, List.cons_append, x_istore5i, x_istore5r, x_istore5u, x_iload5, x_ifCond_ne, x_ifCond_neb, x_ireturn, u_102_45, x_call1_0, x_call1_1, x_call1_2, x_call1_3, x_call1_4, x_if_icmp_ne, x_iload1, x_ior, u_102_59, x_iinc4i, x_iinc4r, x_iinc4u, x_goto, x_iinc3i, x_iinc3r, x_iinc3u, u_102_71, x_iinc2i, x_iinc2r, x_iinc2u, u_102_77, e1, e5, e6, nx2, b01_0, ite_not, if_true, if_false, Int.reduceLT, Int.reduceEq]
        rw [if_neg (by omega), if_neg z]
      · rw [if_neg z1]
        simp (disch := omega) only [v_102_1, u_102_0, x_sipush, x_istore1i, x_istore1r, x_istore1u, x_istore2i, x_istore2r, x_istore2u, x_jsr, x_iload2, x_if_icmp_gt, x_istore3i, x_istore3r, x_istore3u, x_iload3, x_istore4i, x_istore4r, x_istore4u, x_iload4, x_aload0, x_call4_0, x_call4_1, x_call4_2, x_call4_3, x_call4_4, e_k_s, e_k_i, List.nil_append, List.cons_append, x_istore5i, x_istore5r, x_istore5u, x_iload5, x_ifCond_ne, x_ifCond_neb, x_ireturn, u_102_45, x_call1_0, x_call1_1, x_call1_2, x_call1_3, x_call1_4, x_if_icmp_ne, x_iload1, x_ior, u_102_59, x_iinc4i, x_iinc4r, x_iinc4u, x_goto, x_iinc3i, x_iinc3r, x_iinc3u, u_102_71, x_iinc2i, x_iinc2r, x_iinc2u, u_102_77, e1, e5, e6, nx1, b01_0, ite_not, if_true, if_false, Int.reduceLT, Int.reduceEq]
        rw [if_neg (by omega), if_neg z, if_neg z1]
  | succ r ih =>
    intro c s u h0 hc hs
    obtain ⟨d1, d2, d3, d4⟩ := dig c (by omega)
    have e1 := t_wrs (X := X) (d := d) (J := J) h hp (kd := kk c) (w := ww c) (m := mq c) ⟨by omega, by omega⟩ d2 d3
    have hb := wrs_b hp (kd := kk c) (w := ww c) (m := mq c)
    have ho := orr_b hs hb
    have hc0 := crd_b (s := wrs I (kk c) (ww c) (mq c))
    have e5 := j_bc (X := X) (d := d + 2) (I := I) (J := J) hb
    have e6 := i_or (a := s) (b := wrs I (kk c) (ww c) (mq c)) (by omega) (by omega)
    rw [show ((s.toNat ||| (wrs I (kk c) (ww c) (mq c)).toNat : Nat) : Int) = orr s (wrs I (kk c) (ww c) (mq c)) from rfl] at e6
    have nx : ∀ s u, 0 ≤ s ∧ s < 64 → s_j X (d + 3) 102 20 [.ref 1, .int (iI s), .int (iI (kk c)), .int (iI (ww c)), .int (iI (mq c + 1)), u] [] (mm I J) = s_j X (d + 3) 102 20 [.ref 1, .int (iI s), .int (iI (kk (c + 1))), .int (iI (ww (c + 1))), .int (iI (mq (c + 1))), u] [] (mm I J) := by
      intro s u hs
      have e2 := t_llE (X := X) (d := d + 2) (I := I) (J := J) (s := s) (k := kk c) (w := ww c) (u := u) hs d1 d2
      rcases dig_n c (by omega) with ⟨q1, q2, q3, q4⟩ | ⟨q1, q2, q3, q4, q5⟩ | ⟨q1, q2, q3, q4, q5, q6, q7⟩ | ⟨q1, q2, q3, q4⟩
      · rw [q2, q3, q4]
      · rw [q1, q3, q4, q5, show (9 : Int) + 1 = 10 from rfl, e2, if_pos q2]
      · rw [q1, q5, q6, q7, show (9 : Int) + 1 = 10 from rfl, e2, if_neg (by omega), if_pos q4]
      · omega
    have nx1 := fun u => nx s u hs
    have nx2 := fun u => nx _ u ho
    have e3 := fun s u hs => ih (c + 1) s u (by omega) (by omega) hs
    rw [show llr I (r + 1 + 1) c s = if wc I c = 0 then -3 else llr I (r + 1) (c + 1) (if crd (wc I c) = 1 then orr s (wc I c) else s) from rfl]
    unfold wc
    rw [u_102_20]
    by_cases z : wrs I (kk c) (ww c) (mq c) = 0
    · rw [if_pos z]
      rw [z] at e1
      simp (disch := omega) only [v_102_1, u_102_0, x_sipush, x_istore1i, x_istore1r, x_istore1u, x_istore2i, x_istore2r, x_istore2u, x_jsr, x_iload2, x_if_icmp_gt, x_istore3i, x_istore3r, x_istore3u, x_iload3, x_istore4i, x_istore4r, x_istore4u, x_iload4, x_aload0, x_call4_0, x_call4_1, x_call4_2, x_call4_3, x_call4_4, e_k_s, e_k_i, List.nil_append, List.cons_append, x_istore5i, x_istore5r, x_istore5u, x_iload5, x_ifCond_ne, x_ifCond_neb, x_ireturn, u_102_45, x_call1_0, x_call1_1, x_call1_2, x_call1_3, x_call1_4, x_if_icmp_ne, x_iload1, x_ior, u_102_59, x_iinc4i, x_iinc4r, x_iinc4u, x_goto, x_iinc3i, x_iinc3r, x_iinc3u, u_102_71, x_iinc2i, x_iinc2r, x_iinc2u, u_102_77, e1, b01_0, ite_not, if_true, if_false, Int.reduceLT, Int.reduceEq]
      rw [if_neg (by omega)]
    · rw [if_neg z]
      by_cases z1 : crd (wrs I (kk c) (ww c) (mq c)) = 1
      · rw [if_pos z1, ← e3 _ (.int (iI (wrs I (kk c) (ww c) (mq c)))) ho]
        rw [z1] at e5
        simp (disch := omega) only [v_102_1, u_102_0, x_sipush, x_istore1i, x_istore1r, x_istore1u, x_istore2i, x_istore2r, x_istore2u, x_jsr, x_iload2, x_if_icmp_gt, x_istore3i, x_istore3r, x_istore3u, x_iload3, x_istore4i, x_istore4r, x_istore4u, x_iload4, x_aload0, x_call4_0, x_call4_1, x_call4_2, x_call4_3, x_call4_4, e_k_s, e_k_i, List.nil_append, List.cons_append, x_istore5i, x_istore5r, x_istore5u, x_iload5, x_ifCond_ne, x_ifCond_neb, x_ireturn, u_102_45, x_call1_0, x_call1_1, x_call1_2, x_call1_3, x_call1_4, x_if_icmp_ne, x_iload1, x_ior, u_102_59, x_iinc4i, x_iinc4r, x_iinc4u, x_goto, x_iinc3i, x_iinc3r, x_iinc3u, u_102_71, x_iinc2i, x_iinc2r, x_iinc2u, u_102_77, e1, e5, e6, nx2, b01_0, ite_not, if_true, if_false, Int.reduceLT, Int.reduceEq]
        rw [if_neg (by omega), if_neg z]
      · rw [if_neg z1, ← e3 _ (.int (iI (wrs I (kk c) (ww c) (mq c)))) hs]
        simp (disch := omega) only [v_102_1, u_102_0, x_sipush, x_istore1i, x_istore1r, x_istore1u, x_istore2i, x_istore2r, x_istore2u, x_jsr, x_iload2, x_if_icmp_gt, x_istore3i, x_istore3r, x_istore3u, x_iload3, x_istore4i, x_istore4r, x_istore4u, x_iload4, x_aload0, x_call4_0, x_call4_1, x_call4_2, x_call4_3, x_call4_4, e_k_s, e_k_i, List.nil_append, List.cons_append, x_istore5i, x_istore5r, x_istore5u, x_iload5, x_ifCond_ne, x_ifCond_neb, x_ireturn, u_102_45, x_call1_0, x_call1_1, x_call1_2, x_call1_3, x_call1_4, x_if_icmp_ne, x_iload1, x_ior, u_102_59, x_iinc4i, x_iinc4r, x_iinc4u, x_goto, x_iinc3i, x_iinc3r, x_iinc3u, u_102_71, x_iinc2i, x_iinc2r, x_iinc2u, u_102_77, e1, e5, e6, nx1, b01_0, ite_not, if_true, if_false, Int.reduceLT, Int.reduceEq]
        rw [if_neg (by omega), if_neg z, if_neg z1]
theorem t_llr (h : inv I) (hp : rpk I) : s_S X (d + 4) 102 [.ref 1] (mm I J) = some ([.int (iI (llr I 500 0 0))], mm I J) := by
  have e : s_j X (d + 3) 102 20 [.ref 1, .int (iI 0), .int (iI 1), .int (iI 0), .int (iI 0), .retAddr 0] [] (mm I J) = some ([.int (iI (llr I 500 0 0))], mm I J) := t_ll1 (X := X) (d := d) (J := J) h hp 499 0 0 (.retAddr 0) (by decide) (by decide) (by decide)
  simp (disch := omega) only [v_102_1, u_102_0, x_sipush, x_istore1i, x_istore1r, x_istore1u, x_istore2i, x_istore2r, x_istore2u, x_jsr, u_102_4, x_iload2, x_if_icmp_gt, x_istore3i, x_istore3r, x_istore3u, u_102_11, x_iload3, x_istore4i, x_istore4r, x_istore4u, x_iload4, x_aload0, x_call4_0, x_call4_1, x_call4_2, x_call4_3, x_call4_4, e_k_s, e_k_i, List.nil_append, List.cons_append, x_istore5i, x_istore5r, x_istore5u, x_iload5, x_ifCond_ne, x_ifCond_neb, x_ireturn, u_102_45, x_call1_0, x_call1_1, x_call1_2, x_call1_3, x_call1_4, x_if_icmp_ne, x_iload1, x_ior, u_102_59, x_iinc4i, x_iinc4r, x_iinc4u, x_goto, u_102_65, x_iinc3i, x_iinc3r, x_iinc3u, u_102_71, x_iinc2i, x_iinc2r, x_iinc2u, u_102_77, ↓reduceIte, e, b01_0, ite_not, if_true, if_false, Int.reduceLT, Int.reduceEq]
end
