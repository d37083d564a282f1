/-! THE CORE, in pure numbers -/
/-- bit k of a set -/
def bt (s k : Int) : Int := s / 2 ^ k.toNat % 2
def spn (kind width year : Int) : Int :=
  let p := 1 + width / 2
  if kind = 1 then 2 * p else if kind = 2 then p + 2 else if kind = 3 then (if year % 2 = 1 then 1 else p + 2)
  else if kind = 4 then min p 2 else if kind = 5 then (if year % 3 = 0 then 0 else min p 2) else p
def mdb (news mood : Int) : Int :=
  let f := news / 4
  if news % 4 = 0 then min 9 (mood + f) else if news % 4 = 1 then max 0 (mood - f)
  else if news % 4 = 2 then (if mood < 5 then min 5 (mood + f) else max 5 (mood - f)) else mood
/-- the grudge of piece k: its kind, the anger of its home -/
def grd (kind anger k : Int) : Int :=
  if kind = 1 then anger + 2 else if kind = 2 then anger + k else if kind = 3 then max 0 (anger + k - 3)
  else if kind = 4 then anger / 2 else if kind = 5 then anger / 2 * 2 else anger
theorem bt_dec : (List.range 64).all (fun a => (List.range 6).all fun b => decide ((iI a >>> (iI b &&& 31)) &&& iI 1 = iI (bt a b))) = true := by decide +kernel
theorem bt_i {s k : Int} (hs : 0 ≤ s ∧ s < 64) (hk : 0 ≤ k ∧ k < 6) : (iI s >>> (iI k &&& 31)) &&& iI 1 = iI (bt s k) := by
  obtain ⟨a, rfl⟩ := Int.eq_ofNat_of_zero_le hs.1
  obtain ⟨b, rfl⟩ := Int.eq_ofNat_of_zero_le hk.1
  exact of_decide_eq_true (List.all_eq_true.mp (List.all_eq_true.mp bt_dec a (List.mem_range.mpr (by omega))) b (List.mem_range.mpr (by omega)))
theorem bt_01 (s k : Int) : bt s k = 0 ∨ bt s k = 1 := by
  unfold bt
  omega
theorem bt_rg (s k : Int) : rg (bt s k) := by
  rcases bt_01 s k with h | h <;> rw [h] <;> decide
theorem tdiv_n {a b : Int} (h : 0 ≤ a) : Int.tdiv a b = a / b := by rw [Int.tdiv_eq_ediv_of_nonneg h]
theorem tmod_n {a b : Int} (h : 0 ≤ a) : Int.tmod a b = a % b := by rw [Int.tmod_eq_emod_of_nonneg h]
/-! SMALL METHODS of the class -/
section
variable {X : e_X} {d : Nat} {I J : Nat → Int → Int}
theorem b_out {v a b : Int} (hv : rg v) (ha : rg a) (hb : rg b) : s_S X (d + 1) 109 [.int (iI v), .int (iI a), .int (iI b)] (mm I J) = some ([.int (iI (if v < a ∨ b < v then 1 else 0))], mm I J) := by
  simp (disch := omega) only [v_109, u_109_0, x_iload0, x_iload1, x_if_icmp_lt, x_iload2, x_if_icmp_le, x_jsr, u_109_10, x_sipush, x_goto, u_109_14, u_109_15, x_zret0, x_zret1, x_zretb]
  (repeat' split) <;> first | rfl | (exfalso; omega)
theorem t_has {k n : Int} (hk : rg k) (hn : I 1 9 = n) (h6 : 0 ≤ n ∧ n ≤ 6) : s_S X (d + 1) 69 [.ref 1, .int (iI k)] (mm I J) = some ([.int (iI (if 0 ≤ k ∧ k < n then 1 else 0))], mm I J) := by
  simp (disch := omega) only [v_69_1, u_69_0, x_iload1, x_ifCond_lt, x_aload0, f_1_9, x_if_icmp_ge, x_sipush, x_goto, u_69_16, x_jsr, u_69_17, x_zret0, x_zret1, x_zretb, hn]
  (repeat' split) <;> first | rfl | (exfalso; omega)
theorem t_act {k n : Int} (hk : rg k) (hn : I 1 9 = n) (h6 : 0 ≤ n ∧ n ≤ 6) : s_S X (d + 1) 105 [.ref 1, .int (iI k)] (mm I J) = some ([.int (iI (if 0 ≤ k ∧ k ≤ n then 1 else 0))], mm I J) := by
  simp (disch := omega) only [v_105_1, u_105_0, x_iload1, x_ifCond_lt, x_aload0, f_1_9, x_if_icmp_gt, x_sipush, x_goto, u_105_16, x_jsr, u_105_17, x_zret0, x_zret1, x_zretb, hn]
  (repeat' split) <;> first | rfl | (exfalso; omega)
theorem t_over {y e : Int} (hy : I 1 11 = y) (he : I 1 12 = e) (h : rg y ∧ rg e) : s_S X (d + 1) 76 [.ref 1] (mm I J) = some ([.int (iI (if e ≤ y then 1 else 0))], mm I J) := by
  simp (disch := omega) only [v_76_1, u_76_0, x_aload0, f_1_11, f_1_12, x_if_icmp_lt, x_sipush, x_goto, u_76_15, x_jsr, u_76_16, x_zret0, x_zret1, x_zretb, hy, he]
  (repeat' split) <;> first | rfl | (exfalso; omega)
theorem t_seat {s k : Int} (hs : I 1 10 = s) (h : 0 ≤ s ∧ s < 64) (hk : 0 ≤ k ∧ k < 6) : s_S X (d + 1) 70 [.ref 1, .int (iI k)] (mm I J) = some ([.int (iI (if bt s k = 1 then 1 else 0))], mm I J) := by
  have hb := bt_rg s k
  simp (disch := omega) only [v_70_1, u_70_0, x_aload0, f_1_10, x_iload1, x_ishr, x_sipush, x_iand, x_if_icmp_ne, x_goto, u_70_16, x_jsr, u_70_17, x_zret0, x_zret1, x_zretb, hs, bt_i]
  (repeat' split) <;> first | rfl | (exfalso; omega)
theorem b_span {kd w y : Int} (hk : rg kd) (hw : 0 ≤ w ∧ w ≤ 9) (hy : 0 ≤ y ∧ y ≤ 16) : s_S X (d + 1) 111 [.int (iI kd), .int (iI w), .int (iI y)] (mm I J) = some ([.int (iI (spn kd w y))], mm I J) := by
  simp (disch := omega) only [v_111, u_111_0, x_sipush, x_iload1, x_idivI, x_iadd, x_istore3i, x_istore3r, x_istore3u, x_iload0, x_switch, e_sw_c, e_sw_n, u_111_40, x_iload3, x_imul, x_ireturn, u_111_44, u_111_48, x_iload2, x_iremI, x_if_icmp_ne, x_goto, u_111_59, x_jsr, u_111_62, u_111_63, x_dsub_0, x_dsub_1, x_dsub_2, x_dsub_3, x_dsub_4, u_111_69, x_ifCond_ne, x_ifCond_neb, u_111_79, u_111_84, u_111_85, tdiv_n, tmod_n]
  unfold spn
  (repeat' split) <;> first | rfl | (exfalso; omega)
theorem b_mood {nw md : Int} (hn : 0 ≤ nw ∧ nw ≤ 15) (hm : 0 ≤ md ∧ md ≤ 9) : s_S X (d + 1) 126 [.int (iI nw), .int (iI md)] (mm I J) = some ([.int (iI (mdb nw md))], mm I J) := by
  simp (disch := omega) only [v_126, u_126_0, x_iload0, x_sipush, x_idivI, x_istore2i, x_istore2r, x_istore2u, x_iremI, x_switch, e_sw_c, e_sw_n, u_126_32, x_iload1, x_iload2, x_iadd, x_dsub_0, x_dsub_1, x_dsub_2, x_dsub_3, x_dsub_4, x_ireturn, u_126_41, x_isub, x_dadd_0, x_dadd_1, x_dadd_2, x_dadd_3, x_dadd_4, u_126_49, x_if_icmp_ge, x_goto, u_126_64, x_jsr, u_126_71, u_126_72, tdiv_n, tmod_n]
  unfold mdb
  (repeat' split) <;> first | rfl | (exfalso; omega)
theorem t_gr {k kd h an : Int} (hk : 0 ≤ k ∧ k < 6) (h0 : I 2 k = kd) (hkd : rg kd) (h1 : I 5 k = h) (hh : 0 ≤ h ∧ h < 6) (h2 : I 6 h = an) (han : 0 ≤ an ∧ an ≤ 9) : s_S X (d + 1) 71 [.ref 1, .int (iI k)] (mm I J) = some ([.int (iI (grd kd an k))], mm I J) := by
  simp (disch := omega) only [v_71_1, u_71_0, x_aload0, k_1_4, k_1_3, x_iload1, x_istore2i, x_istore2r, x_istore2u, k_1_0, x_switch, e_sw_c, e_sw_n, u_71_52, x_iload2, x_sipush, x_iadd, x_ireturn, u_71_56, u_71_60, x_isub, x_dadd_0, x_dadd_1, x_dadd_2, x_dadd_3, x_dadd_4, u_71_70, x_idivI, u_71_74, x_imul, u_71_80, ia_2, ia_5, ia_6, h0, h1, h2, tdiv_n]
  unfold grd
  (repeat' split) <;> first | rfl | (exfalso; omega)
end
