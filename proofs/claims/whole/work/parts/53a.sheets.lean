/-! SHEETS, in class and model -/
def b8 (v : Int) : Int := ((iI v).toInt8.toInt32).toInt
def b16 (v : Int) : Int := ((iI v).toInt16.toInt32).toInt
theorem b8_i {v : Int} : (iI v).toInt8.toInt32 = iI (b8 v) := (Int32.ofInt_toInt _).symm
theorem b16_i {v : Int} : (iI v).toInt16.toInt32 = iI (b16 v) := (Int32.ofInt_toInt _).symm
theorem tI_rg (x : Int32) : rg x.toInt := by
  have h1 := Int32.le_toInt x
  have h2 := Int32.toInt_lt x
  constructor <;> omega
theorem i2l_i {v : Int} (h : rg v) : (iI v).toInt64 = lI v := Int32.toInt64_ofInt (by show (-2147483648 : Int) ≤ v; omega) (by show v ≤ (2147483647 : Int); omega)
theorem l2i_i {v : Int} : (lI v).toInt32 = iI v := Int64.toInt32_ofInt
/-- what a sheet of a kind keeps of a number -/
def cstq (k v : Int) : Int := if k = 0 then b8 v else if k = 1 then b16 v else if k = 4 then (if v = 0 then 0 else 1) else v
theorem cst_rg {k v : Int} (h : rg v) : rg (cstq k v) := by
  unfold cstq
  split
  · exact tI_rg _
  · split
    · exact tI_rg _
    · split
      · split <;> decide
      · exact h
def zrr (I : Nat → Int → Int) (o : Nat) (lo n : Int) : Nat → Int → Int := fun a b => if a = o ∧ lo ≤ b ∧ b < lo + n then 0 else I a b
theorem zrr_0 {I : Nat → Int → Int} {o : Nat} {lo : Int} : zrr I o lo 0 = I := by
  funext a b
  unfold zrr
  rw [if_neg (by omega)]
theorem zrr_u {I : Nat → Int → Int} {o : Nat} {lo n x : Int} (hx : x = lo + n) (hn : 0 ≤ n) : up (zrr I o lo n) o x 0 = zrr I o lo (n + 1) := by
  subst hx
  funext a b
  unfold up zrr
  by_cases q : a = o ∧ b = lo + n
  · rw [if_pos q, if_pos (by omega)]
  · rw [if_neg q]
    by_cases q2 : a = o ∧ lo ≤ b ∧ b < lo + n
    · rw [if_pos q2, if_pos (by omega)]
    · rw [if_neg q2, if_neg (by omega)]
section
variable {X : e_X} {d : Nat} {I J : Nat → Int → Int}
theorem s_has57 {i : Int} (hn : 0 ≤ I 57 2 ∧ I 57 2 ≤ 40) (hi : rg i) : s_S X (d + 1) 60 [.ref 57, .int (iI i)] (mm I J) = some ([.int (iI (if 0 ≤ i ∧ i < I 57 2 then 1 else 0))], mm I J) := by
  simp (disch := omega) only [v_60_57, v_60_59, v_60_61, v_60_63, u_60_0, x_iload1, x_ifCond_lt, x_aload0, f_57_2, x_if_icmp_ge, x_sipush, x_goto, u_60_22, x_jsr, u_60_23, x_zret0, x_zret1, x_zretb, ↓reduceIte, b01_0, ite_not, if_true, if_false, Int.reduceLT, Int.reduceEq]
  (repeat' split) <;> first | rfl | (exfalso; omega)
theorem s_cst57 {k v : Int} (e : I 57 1 = k) (hk : 0 ≤ k ∧ k ≤ 4) (hv : rg v) : s_S X (d + 1) 62 [.ref 57, .int (iI v)] (mm I J) = some ([.long (lI (cstq k v))], mm I J) := by
  have h1 := tI_rg ((iI v).toInt8.toInt32)
  have h2 := tI_rg ((iI v).toInt16.toInt32)
  have g1 : (iI (b8 v)).toInt64 = lI (b8 v) := i2l_i h1
  have g2 : (iI (b16 v)).toInt64 = lI (b16 v) := i2l_i h2
  have g3 : (iI v).toInt64 = lI v := i2l_i hv
  rcases (by omega : k = 0 ∨ k = 1 ∨ k = 2 ∨ k = 3 ∨ k = 4) with rfl | rfl | rfl | rfl | rfl
  · simp (disch := omega) only [v_62_57, v_62_59, v_62_61, v_62_63, u_62_0, x_aload0, f_57_1, x_switch, e_sw_c, e_sw_n, u_62_40, x_iload1, x_i2b, x_i2l, x_lreturn, u_62_44, x_i2s, u_62_48, x_ifCond_eq, x_ifCond_eqb, x_lconst, x_goto, u_62_56, x_jsr, u_62_57, u_62_58, e, b8_i, g1, ↓reduceIte, b01_0, ite_not, if_true, if_false, Int.reduceLT, Int.reduceEq]
    rfl
  · simp (disch := omega) only [v_62_57, v_62_59, v_62_61, v_62_63, u_62_0, x_aload0, f_57_1, x_switch, e_sw_c, e_sw_n, u_62_40, x_iload1, x_i2b, x_i2l, x_lreturn, u_62_44, x_i2s, u_62_48, x_ifCond_eq, x_ifCond_eqb, x_lconst, x_goto, u_62_56, x_jsr, u_62_57, u_62_58, e, b16_i, g2, ↓reduceIte, b01_0, ite_not, if_true, if_false, Int.reduceLT, Int.reduceEq]
    rfl
  · simp (disch := omega) only [v_62_57, v_62_59, v_62_61, v_62_63, u_62_0, x_aload0, f_57_1, x_switch, e_sw_c, e_sw_n, u_62_40, x_iload1, x_i2b, x_i2l, x_lreturn, u_62_44, x_i2s, u_62_48, x_ifCond_eq, x_ifCond_eqb, x_lconst, x_goto, u_62_56, x_jsr, u_62_57, u_62_58, e, g3, ↓reduceIte, b01_0, ite_not, if_true, if_false, Int.reduceLT, Int.reduceEq]
    rfl
  · simp (disch := omega) only [v_62_57, v_62_59, v_62_61, v_62_63, u_62_0, x_aload0, f_57_1, x_switch, e_sw_c, e_sw_n, u_62_40, x_iload1, x_i2b, x_i2l, x_lreturn, u_62_44, x_i2s, u_62_48, x_ifCond_eq, x_ifCond_eqb, x_lconst, x_goto, u_62_56, x_jsr, u_62_57, u_62_58, e, g3, ↓reduceIte, b01_0, ite_not, if_true, if_false, Int.reduceLT, Int.reduceEq]
    rfl
  · simp (disch := omega) only [v_62_57, v_62_59, v_62_61, v_62_63, u_62_0, x_aload0, f_57_1, x_switch, e_sw_c, e_sw_n, u_62_40, x_iload1, x_i2b, x_i2l, x_lreturn, u_62_44, x_i2s, u_62_48, x_ifCond_eq, x_ifCond_eqb, x_lconst, x_goto, u_62_56, x_jsr, u_62_57, u_62_58, e, ↓reduceIte, b01_0, ite_not, if_true, if_false, Int.reduceLT, Int.reduceEq]
    rw [show cstq 4 v = if v = 0 then 0 else 1 from rfl]
    (repeat' split) <;> first | rfl | (exfalso; omega)
theorem s_wr57 {k i v : Int} (e : I 57 1 = k) (hk : 0 ≤ k ∧ k ≤ 4) (hn : 0 ≤ I 57 2 ∧ I 57 2 ≤ 40) (hi : 0 ≤ i ∧ i < I 57 2) (hv : rg v) : s_S X (d + 2) 61 [.ref 57, .int (iI i), .int (iI v)] (mm I J) = some ([], mm I (up J 58 i (cstq k v))) := by
  have e1 := s_has57 (X := X) (d := d) (I := I) (J := J) (i := i) hn (by constructor <;> omega)
  have e2 := s_cst57 (X := X) (d := d) (I := I) (J := J) (v := v) e hk hv
  rw [if_pos hi] at e1
  simp (disch := omega) only [v_61_57, v_61_59, v_61_61, v_61_63, u_61_0, x_aload0, x_iload1, x_call2_0, x_call2_1, x_call2_2, x_call2_3, x_call2_4, e_k_s, e_k_i, List.nil_append, List.cons_append, x_ifCond_eq, x_ifCond_eqb, k_57_0, x_iload2, x_jsr, u_61_19, x_return, ls_58, e1, e2, ↓reduceIte, b01_0, ite_not, if_true, if_false, Int.reduceLT, Int.reduceEq]
theorem s_okd57 {k : Int} (h1 : rg (I 57 1)) (hk : rg k) : s_S X (d + 1) 63 [.ref 57, .int (iI k)] (mm I J) = some ([.int (iI (if I 57 1 = -1 then -11 else if I 57 1 = k then 0 else -13))], mm I J) := by
  simp (disch := omega) only [v_63_57, v_63_59, v_63_61, v_63_63, u_63_0, x_aload0, f_57_1, x_sipush, x_if_icmp_ne, x_ireturn, u_63_11, x_iload1, x_goto, u_63_23, x_jsr, u_63_25, ↓reduceIte, b01_0, ite_not, if_true, if_false, Int.reduceLT, Int.reduceEq]
  (repeat' split) <;> first | rfl | (exfalso; omega)
theorem s_rl57 {v1 v2 : Int32} : ∀ (n : Nat) (k : Int), 0 ≤ k → k + n = 40 → s_j X d 59 2 [.ref 57, .int v1, .int v2, .int (iI k)] [] (mm I (zrr J 58 0 k)) = s_j X d 59 21 [.ref 57, .int v1, .int v2, .int (iI 40)] [] (mm I (zrr J 58 0 40)) := by
  intro n
  induction n with
  | zero =>
    intro k k0 kn
    rw [u_59_2, show k = 40 by omega]
    simp (disch := omega) only [v_59_57, v_59_59, v_59_61, v_59_63, u_59_0, x_sipush, x_istore3i, x_istore3r, x_istore3u, x_jsr, x_iload3, x_if_icmp_ge, x_aload0, k_57_0, x_lconst, x_iinc3i, x_iinc3r, x_iinc3u, x_goto, x_iload1, p_57_1, x_iload2, p_57_2, x_return, ls_58, ↓reduceIte, b01_0, ite_not, if_true, if_false, Int.reduceLT, Int.reduceEq]
  | succ n ih =>
    intro k k0 kn
    have e1 := ih (k + 1) (by omega) (by omega)
    rw [← e1, u_59_2]
    have e2 : up (zrr J 58 0 k) 58 k 0 = zrr J 58 0 (k + 1) := zrr_u (by omega) k0
    simp (disch := omega) only [v_59_57, v_59_59, v_59_61, v_59_63, u_59_0, x_sipush, x_istore3i, x_istore3r, x_istore3u, x_jsr, x_iload3, x_if_icmp_ge, x_aload0, k_57_0, x_lconst, x_iinc3i, x_iinc3r, x_iinc3u, x_goto, x_iload1, p_57_1, x_iload2, p_57_2, x_return, ls_58, e2, ↓reduceIte, b01_0, ite_not, if_true, if_false, Int.reduceLT, Int.reduceEq]
    rw [if_pos (by omega)]
theorem s_rel57 {k v : Int} : s_S X (d + 1) 59 [.ref 57, .int (iI k), .int (iI v)] (mm I J) = some ([], mm (up (up I 57 1 k) 57 2 v) (zrr J 58 0 40)) := by
  have e1 := s_rl57 (X := X) (d := d) (I := I) (J := J) (v1 := iI k) (v2 := iI v) 40 0 (by decide) (by decide)
  rw [zrr_0] at e1
  simp (disch := omega) only [v_59_57, v_59_59, v_59_61, v_59_63, u_59_0, x_sipush, x_istore3i, x_istore3r, x_istore3u, x_jsr, x_iload3, x_if_icmp_ge, x_aload0, k_57_0, x_lconst, x_iinc3i, x_iinc3r, x_iinc3u, x_goto, u_59_21, x_iload1, p_57_1, x_iload2, p_57_2, x_return, ls_58, e1, ↓reduceIte, b01_0, ite_not, if_true, if_false, Int.reduceLT, Int.reduceEq]
theorem s_has59 {i : Int} (hn : 0 ≤ I 59 2 ∧ I 59 2 ≤ 40) (hi : rg i) : s_S X (d + 1) 60 [.ref 59, .int (iI i)] (mm I J) = some ([.int (iI (if 0 ≤ i ∧ i < I 59 2 then 1 else 0))], mm I J) := by
  simp (disch := omega) only [v_60_57, v_60_59, v_60_61, v_60_63, u_60_0, x_iload1, x_ifCond_lt, x_aload0, f_59_2, x_if_icmp_ge, x_sipush, x_goto, u_60_22, x_jsr, u_60_23, x_zret0, x_zret1, x_zretb, ↓reduceIte, b01_0, ite_not, if_true, if_false, Int.reduceLT, Int.reduceEq]
  (repeat' split) <;> first | rfl | (exfalso; omega)
theorem s_cst59 {k v : Int} (e : I 59 1 = k) (hk : 0 ≤ k ∧ k ≤ 4) (hv : rg v) : s_S X (d + 1) 62 [.ref 59, .int (iI v)] (mm I J) = some ([.long (lI (cstq k v))], mm I J) := by
  have h1 := tI_rg ((iI v).toInt8.toInt32)
  have h2 := tI_rg ((iI v).toInt16.toInt32)
  have g1 : (iI (b8 v)).toInt64 = lI (b8 v) := i2l_i h1
  have g2 : (iI (b16 v)).toInt64 = lI (b16 v) := i2l_i h2
  have g3 : (iI v).toInt64 = lI v := i2l_i hv
  rcases (by omega : k = 0 ∨ k = 1 ∨ k = 2 ∨ k = 3 ∨ k = 4) with rfl | rfl | rfl | rfl | rfl
  · simp (disch := omega) only [v_62_57, v_62_59, v_62_61, v_62_63, u_62_0, x_aload0, f_59_1, x_switch, e_sw_c, e_sw_n, u_62_40, x_iload1, x_i2b, x_i2l, x_lreturn, u_62_44, x_i2s, u_62_48, x_ifCond_eq, x_ifCond_eqb, x_lconst, x_goto, u_62_56, x_jsr, u_62_57, u_62_58, e, b8_i, g1, ↓reduceIte, b01_0, ite_not, if_true, if_false, Int.reduceLT, Int.reduceEq]
    rfl
  · simp (disch := omega) only [v_62_57, v_62_59, v_62_61, v_62_63, u_62_0, x_aload0, f_59_1, x_switch, e_sw_c, e_sw_n, u_62_40, x_iload1, x_i2b, x_i2l, x_lreturn, u_62_44, x_i2s, u_62_48, x_ifCond_eq, x_ifCond_eqb, x_lconst, x_goto, u_62_56, x_jsr, u_62_57, u_62_58, e, b16_i, g2, ↓reduceIte, b01_0, ite_not, if_true, if_false, Int.reduceLT, Int.reduceEq]
    rfl
  · simp (disch := omega) only [v_62_57, v_62_59, v_62_61, v_62_63, u_62_0, x_aload0, f_59_1, x_switch, e_sw_c, e_sw_n, u_62_40, x_iload1, x_i2b, x_i2l, x_lreturn, u_62_44, x_i2s, u_62_48, x_ifCond_eq, x_ifCond_eqb, x_lconst, x_goto, u_62_56, x_jsr, u_62_57, u_62_58, e, g3, ↓reduceIte, b01_0, ite_not, if_true, if_false, Int.reduceLT, Int.reduceEq]
    rfl
  · simp (disch := omega) only [v_62_57, v_62_59, v_62_61, v_62_63, u_62_0, x_aload0, f_59_1, x_switch, e_sw_c, e_sw_n, u_62_40, x_iload1, x_i2b, x_i2l, x_lreturn, u_62_44, x_i2s, u_62_48, x_ifCond_eq, x_ifCond_eqb, x_lconst, x_goto, u_62_56, x_jsr, u_62_57, u_62_58, e, g3, ↓reduceIte, b01_0, ite_not, if_true, if_false, Int.reduceLT, Int.reduceEq]
    rfl
  · simp (disch := omega) only [v_62_57, v_62_59, v_62_61, v_62_63, u_62_0, x_aload0, f_59_1, x_switch, e_sw_c, e_sw_n, u_62_40, x_iload1, x_i2b, x_i2l, x_lreturn, u_62_44, x_i2s, u_62_48, x_ifCond_eq, x_ifCond_eqb, x_lconst, x_goto, u_62_56, x_jsr, u_62_57, u_62_58, e, ↓reduceIte, b01_0, ite_not, if_true, if_false, Int.reduceLT, Int.reduceEq]
    rw [show cstq 4 v = if v = 0 then 0 else 1 from rfl]
    (repeat' split) <;> first | rfl | (exfalso; omega)
theorem s_wr59 {k i v : Int} (e : I 59 1 = k) (hk : 0 ≤ k ∧ k ≤ 4) (hn : 0 ≤ I 59 2 ∧ I 59 2 ≤ 40) (hi : 0 ≤ i ∧ i < I 59 2) (hv : rg v) : s_S X (d + 2) 61 [.ref 59, .int (iI i), .int (iI v)] (mm I J) = some ([], mm I (up J 60 i (cstq k v))) := by
  have e1 := s_has59 (X := X) (d := d) (I := I) (J := J) (i := i) hn (by constructor <;> omega)
  have e2 := s_cst59 (X := X) (d := d) (I := I) (J := J) (v := v) e hk hv
  rw [if_pos hi] at e1
  simp (disch := omega) only [v_61_57, v_61_59, v_61_61, v_61_63, u_61_0, x_aload0, x_iload1, x_call2_0, x_call2_1, x_call2_2, x_call2_3, x_call2_4, e_k_s, e_k_i, List.nil_append, List.cons_append, x_ifCond_eq, x_ifCond_eqb, k_59_0, x_iload2, x_jsr, u_61_19, x_return, ls_60, e1, e2, ↓reduceIte, b01_0, ite_not, if_true, if_false, Int.reduceLT, Int.reduceEq]
theorem s_okd59 {k : Int} (h1 : rg (I 59 1)) (hk : rg k) : s_S X (d + 1) 63 [.ref 59, .int (iI k)] (mm I J) = some ([.int (iI (if I 59 1 = -1 then -11 else if I 59 1 = k then 0 else -13))], mm I J) := by
  simp (disch := omega) only [v_63_57, v_63_59, v_63_61, v_63_63, u_63_0, x_aload0, f_59_1, x_sipush, x_if_icmp_ne, x_ireturn, u_63_11, x_iload1, x_goto, u_63_23, x_jsr, u_63_25, ↓reduceIte, b01_0, ite_not, if_true, if_false, Int.reduceLT, Int.reduceEq]
  (repeat' split) <;> first | rfl | (exfalso; omega)
theorem s_rl59 {v1 v2 : Int32} : ∀ (n : Nat) (k : Int), 0 ≤ k → k + n = 40 → s_j X d 59 2 [.ref 59, .int v1, .int v2, .int (iI k)] [] (mm I (zrr J 60 0 k)) = s_j X d 59 21 [.ref 59, .int v1, .int v2, .int (iI 40)] [] (mm I (zrr J 60 0 40)) := by
  intro n
  induction n with
  | zero =>
    intro k k0 kn
    rw [u_59_2, show k = 40 by omega]
    simp (disch := omega) only [v_59_57, v_59_59, v_59_61, v_59_63, u_59_0, x_sipush, x_istore3i, x_istore3r, x_istore3u, x_jsr, x_iload3, x_if_icmp_ge, x_aload0, k_59_0, x_lconst, x_iinc3i, x_iinc3r, x_iinc3u, x_goto, x_iload1, p_59_1, x_iload2, p_59_2, x_return, ls_60, ↓reduceIte, b01_0, ite_not, if_true, if_false, Int.reduceLT, Int.reduceEq]
  | succ n ih =>
    intro k k0 kn
    have e1 := ih (k + 1) (by omega) (by omega)
    rw [← e1, u_59_2]
    have e2 : up (zrr J 60 0 k) 60 k 0 = zrr J 60 0 (k + 1) := zrr_u (by omega) k0
    simp (disch := omega) only [v_59_57, v_59_59, v_59_61, v_59_63, u_59_0, x_sipush, x_istore3i, x_istore3r, x_istore3u, x_jsr, x_iload3, x_if_icmp_ge, x_aload0, k_59_0, x_lconst, x_iinc3i, x_iinc3r, x_iinc3u, x_goto, x_iload1, p_59_1, x_iload2, p_59_2, x_return, ls_60, e2, ↓reduceIte, b01_0, ite_not, if_true, if_false, Int.reduceLT, Int.reduceEq]
    rw [if_pos (by omega)]
theorem s_rel59 {k v : Int} : s_S X (d + 1) 59 [.ref 59, .int (iI k), .int (iI v)] (mm I J) = some ([], mm (up (up I 59 1 k) 59 2 v) (zrr J 60 0 40)) := by
  have e1 := s_rl59 (X := X) (d := d) (I := I) (J := J) (v1 := iI k) (v2 := iI v) 40 0 (by decide) (by decide)
  rw [zrr_0] at e1
  simp (disch := omega) only [v_59_57, v_59_59, v_59_61, v_59_63, u_59_0, x_sipush, x_istore3i, x_istore3r, x_istore3u, x_jsr, x_iload3, x_if_icmp_ge, x_aload0, k_59_0, x_lconst, x_iinc3i, x_iinc3r, x_iinc3u, x_goto, u_59_21, x_iload1, p_59_1, x_iload2, p_59_2, x_return, ls_60, e1, ↓reduceIte, b01_0, ite_not, if_true, if_false, Int.reduceLT, Int.reduceEq]
theorem s_has61 {i : Int} (hn : 0 ≤ I 61 2 ∧ I 61 2 ≤ 40) (hi : rg i) : s_S X (d + 1) 60 [.ref 61, .int (iI i)] (mm I J) = some ([.int (iI (if 0 ≤ i ∧ i < I 61 2 then 1 else 0))], mm I J) := by
  simp (disch := omega) only [v_60_57, v_60_59, v_60_61, v_60_63, u_60_0, x_iload1, x_ifCond_lt, x_aload0, f_61_2, x_if_icmp_ge, x_sipush, x_goto, u_60_22, x_jsr, u_60_23, x_zret0, x_zret1, x_zretb, ↓reduceIte, b01_0, ite_not, if_true, if_false, Int.reduceLT, Int.reduceEq]
  (repeat' split) <;> first | rfl | (exfalso; omega)
theorem s_cst61 {k v : Int} (e : I 61 1 = k) (hk : 0 ≤ k ∧ k ≤ 4) (hv : rg v) : s_S X (d + 1) 62 [.ref 61, .int (iI v)] (mm I J) = some ([.long (lI (cstq k v))], mm I J) := by
  have h1 := tI_rg ((iI v).toInt8.toInt32)
  have h2 := tI_rg ((iI v).toInt16.toInt32)
  have g1 : (iI (b8 v)).toInt64 = lI (b8 v) := i2l_i h1
  have g2 : (iI (b16 v)).toInt64 = lI (b16 v) := i2l_i h2
  have g3 : (iI v).toInt64 = lI v := i2l_i hv
  rcases (by omega : k = 0 ∨ k = 1 ∨ k = 2 ∨ k = 3 ∨ k = 4) with rfl | rfl | rfl | rfl | rfl
  · simp (disch := omega) only [v_62_57, v_62_59, v_62_61, v_62_63, u_62_0, x_aload0, f_61_1, x_switch, e_sw_c, e_sw_n, u_62_40, x_iload1, x_i2b, x_i2l, x_lreturn, u_62_44, x_i2s, u_62_48, x_ifCond_eq, x_ifCond_eqb, x_lconst, x_goto, u_62_56, x_jsr, u_62_57, u_62_58, e, b8_i, g1, ↓reduceIte, b01_0, ite_not, if_true, if_false, Int.reduceLT, Int.reduceEq]
    rfl
  · simp (disch := omega) only [v_62_57, v_62_59, v_62_61, v_62_63, u_62_0, x_aload0, f_61_1, x_switch, e_sw_c, e_sw_n, u_62_40, x_iload1, x_i2b, x_i2l, x_lreturn, u_62_44, x_i2s, u_62_48, x_ifCond_eq, x_ifCond_eqb, x_lconst, x_goto, u_62_56, x_jsr, u_62_57, u_62_58, e, b16_i, g2, ↓reduceIte, b01_0, ite_not, if_true, if_false, Int.reduceLT, Int.reduceEq]
    rfl
  · simp (disch := omega) only [v_62_57, v_62_59, v_62_61, v_62_63, u_62_0, x_aload0, f_61_1, x_switch, e_sw_c, e_sw_n, u_62_40, x_iload1, x_i2b, x_i2l, x_lreturn, u_62_44, x_i2s, u_62_48, x_ifCond_eq, x_ifCond_eqb, x_lconst, x_goto, u_62_56, x_jsr, u_62_57, u_62_58, e, g3, ↓reduceIte, b01_0, ite_not, if_true, if_false, Int.reduceLT, Int.reduceEq]
    rfl
  · simp (disch := omega) only [v_62_57, v_62_59, v_62_61, v_62_63, u_62_0, x_aload0, f_61_1, x_switch, e_sw_c, e_sw_n, u_62_40, x_iload1, x_i2b, x_i2l, x_lreturn, u_62_44, x_i2s, u_62_48, x_ifCond_eq, x_ifCond_eqb, x_lconst, x_goto, u_62_56, x_jsr, u_62_57, u_62_58, e, g3, ↓reduceIte, b01_0, ite_not, if_true, if_false, Int.reduceLT, Int.reduceEq]
    rfl
  · simp (disch := omega) only [v_62_57, v_62_59, v_62_61, v_62_63, u_62_0, x_aload0, f_61_1, x_switch, e_sw_c, e_sw_n, u_62_40, x_iload1, x_i2b, x_i2l, x_lreturn, u_62_44, x_i2s, u_62_48, x_ifCond_eq, x_ifCond_eqb, x_lconst, x_goto, u_62_56, x_jsr, u_62_57, u_62_58, e, ↓reduceIte, b01_0, ite_not, if_true, if_false, Int.reduceLT, Int.reduceEq]
    rw [show cstq 4 v = if v = 0 then 0 else 1 from rfl]
    (repeat' split) <;> first | rfl | (exfalso; omega)
theorem s_wr61 {k i v : Int} (e : I 61 1 = k) (hk : 0 ≤ k ∧ k ≤ 4) (hn : 0 ≤ I 61 2 ∧ I 61 2 ≤ 40) (hi : 0 ≤ i ∧ i < I 61 2) (hv : rg v) : s_S X (d + 2) 61 [.ref 61, .int (iI i), .int (iI v)] (mm I J) = some ([], mm I (up J 62 i (cstq k v))) := by
  have e1 := s_has61 (X := X) (d := d) (I := I) (J := J) (i := i) hn (by constructor <;> omega)
  have e2 := s_cst61 (X := X) (d := d) (I := I) (J := J) (v := v) e hk hv
  rw [if_pos hi] at e1
  simp (disch := omega) only [v_61_57, v_61_59, v_61_61, v_61_63, u_61_0, x_aload0, x_iload1, x_call2_0, x_call2_1, x_call2_2, x_call2_3, x_call2_4, e_k_s, e_k_i, List.nil_append, List.cons_append, x_ifCond_eq, x_ifCond_eqb, k_61_0, x_iload2, x_jsr, u_61_19, x_return, ls_62, e1, e2, ↓reduceIte, b01_0, ite_not, if_true, if_false, Int.reduceLT, Int.reduceEq]
theorem s_okd61 {k : Int} (h1 : rg (I 61 1)) (hk : rg k) : s_S X (d + 1) 63 [.ref 61, .int (iI k)] (mm I J) = some ([.int (iI (if I 61 1 = -1 then -11 else if I 61 1 = k then 0 else -13))], mm I J) := by
  simp (disch := omega) only [v_63_57, v_63_59, v_63_61, v_63_63, u_63_0, x_aload0, f_61_1, x_sipush, x_if_icmp_ne, x_ireturn, u_63_11, x_iload1, x_goto, u_63_23, x_jsr, u_63_25, ↓reduceIte, b01_0, ite_not, if_true, if_false, Int.reduceLT, Int.reduceEq]
  (repeat' split) <;> first | rfl | (exfalso; omega)
theorem s_rl61 {v1 v2 : Int32} : ∀ (n : Nat) (k : Int), 0 ≤ k → k + n = 40 → s_j X d 59 2 [.ref 61, .int v1, .int v2, .int (iI k)] [] (mm I (zrr J 62 0 k)) = s_j X d 59 21 [.ref 61, .int v1, .int v2, .int (iI 40)] [] (mm I (zrr J 62 0 40)) := by
  intro n
  induction n with
  | zero =>
    intro k k0 kn
    rw [u_59_2, show k = 40 by omega]
    simp (disch := omega) only [v_59_57, v_59_59, v_59_61, v_59_63, u_59_0, x_sipush, x_istore3i, x_istore3r, x_istore3u, x_jsr, x_iload3, x_if_icmp_ge, x_aload0, k_61_0, x_lconst, x_iinc3i, x_iinc3r, x_iinc3u, x_goto, x_iload1, p_61_1, x_iload2, p_61_2, x_return, ls_62, ↓reduceIte, b01_0, ite_not, if_true, if_false, Int.reduceLT, Int.reduceEq]
  | succ n ih =>
    intro k k0 kn
    have e1 := ih (k + 1) (by omega) (by omega)
    rw [← e1, u_59_2]
    have e2 : up (zrr J 62 0 k) 62 k 0 = zrr J 62 0 (k + 1) := zrr_u (by omega) k0
    simp (disch := omega) only [v_59_57, v_59_59, v_59_61, v_59_63, u_59_0, x_sipush, x_istore3i, x_istore3r, x_istore3u, x_jsr, x_iload3, x_if_icmp_ge, x_aload0, k_61_0, x_lconst, x_iinc3i, x_iinc3r, x_iinc3u, x_goto, x_iload1, p_61_1, x_iload2, p_61_2, x_return, ls_62, e2, ↓reduceIte, b01_0, ite_not, if_true, if_false, Int.reduceLT, Int.reduceEq]
    rw [if_pos (by omega)]
theorem s_rel61 {k v : Int} : s_S X (d + 1) 59 [.ref 61, .int (iI k), .int (iI v)] (mm I J) = some ([], mm (up (up I 61 1 k) 61 2 v) (zrr J 62 0 40)) := by
  have e1 := s_rl61 (X := X) (d := d) (I := I) (J := J) (v1 := iI k) (v2 := iI v) 40 0 (by decide) (by decide)
  rw [zrr_0] at e1
  simp (disch := omega) only [v_59_57, v_59_59, v_59_61, v_59_63, u_59_0, x_sipush, x_istore3i, x_istore3r, x_istore3u, x_jsr, x_iload3, x_if_icmp_ge, x_aload0, k_61_0, x_lconst, x_iinc3i, x_iinc3r, x_iinc3u, x_goto, u_59_21, x_iload1, p_61_1, x_iload2, p_61_2, x_return, ls_62, e1, ↓reduceIte, b01_0, ite_not, if_true, if_false, Int.reduceLT, Int.reduceEq]
theorem s_has63 {i : Int} (hn : 0 ≤ I 63 2 ∧ I 63 2 ≤ 40) (hi : rg i) : s_S X (d + 1) 60 [.ref 63, .int (iI i)] (mm I J) = some ([.int (iI (if 0 ≤ i ∧ i < I 63 2 then 1 else 0))], mm I J) := by
  simp (disch := omega) only [v_60_57, v_60_59, v_60_61, v_60_63, u_60_0, x_iload1, x_ifCond_lt, x_aload0, f_63_2, x_if_icmp_ge, x_sipush, x_goto, u_60_22, x_jsr, u_60_23, x_zret0, x_zret1, x_zretb, ↓reduceIte, b01_0, ite_not, if_true, if_false, Int.reduceLT, Int.reduceEq]
  (repeat' split) <;> first | rfl | (exfalso; omega)
theorem s_cst63 {k v : Int} (e : I 63 1 = k) (hk : 0 ≤ k ∧ k ≤ 4) (hv : rg v) : s_S X (d + 1) 62 [.ref 63, .int (iI v)] (mm I J) = some ([.long (lI (cstq k v))], mm I J) := by
  have h1 := tI_rg ((iI v).toInt8.toInt32)
  have h2 := tI_rg ((iI v).toInt16.toInt32)
  have g1 : (iI (b8 v)).toInt64 = lI (b8 v) := i2l_i h1
  have g2 : (iI (b16 v)).toInt64 = lI (b16 v) := i2l_i h2
  have g3 : (iI v).toInt64 = lI v := i2l_i hv
  rcases (by omega : k = 0 ∨ k = 1 ∨ k = 2 ∨ k = 3 ∨ k = 4) with rfl | rfl | rfl | rfl | rfl
  · simp (disch := omega) only [v_62_57, v_62_59, v_62_61, v_62_63, u_62_0, x_aload0, f_63_1, x_switch, e_sw_c, e_sw_n, u_62_40, x_iload1, x_i2b, x_i2l, x_lreturn, u_62_44, x_i2s, u_62_48, x_ifCond_eq, x_ifCond_eqb, x_lconst, x_goto, u_62_56, x_jsr, u_62_57, u_62_58, e, b8_i, g1, ↓reduceIte, b01_0, ite_not, if_true, if_false, Int.reduceLT, Int.reduceEq]
    rfl
  · simp (disch := omega) only [v_62_57, v_62_59, v_62_61, v_62_63, u_62_0, x_aload0, f_63_1, x_switch, e_sw_c, e_sw_n, u_62_40, x_iload1, x_i2b, x_i2l, x_lreturn, u_62_44, x_i2s, u_62_48, x_ifCond_eq, x_ifCond_eqb, x_lconst, x_goto, u_62_56, x_jsr, u_62_57, u_62_58, e, b16_i, g2, ↓reduceIte, b01_0, ite_not, if_true, if_false, Int.reduceLT, Int.reduceEq]
    rfl
  · simp (disch := omega) only [v_62_57, v_62_59, v_62_61, v_62_63, u_62_0, x_aload0, f_63_1, x_switch, e_sw_c, e_sw_n, u_62_40, x_iload1, x_i2b, x_i2l, x_lreturn, u_62_44, x_i2s, u_62_48, x_ifCond_eq, x_ifCond_eqb, x_lconst, x_goto, u_62_56, x_jsr, u_62_57, u_62_58, e, g3, ↓reduceIte, b01_0, ite_not, if_true, if_false, Int.reduceLT, Int.reduceEq]
    rfl
  · simp (disch := omega) only [v_62_57, v_62_59, v_62_61, v_62_63, u_62_0, x_aload0, f_63_1, x_switch, e_sw_c, e_sw_n, u_62_40, x_iload1, x_i2b, x_i2l, x_lreturn, u_62_44, x_i2s, u_62_48, x_ifCond_eq, x_ifCond_eqb, x_lconst, x_goto, u_62_56, x_jsr, u_62_57, u_62_58, e, g3, ↓reduceIte, b01_0, ite_not, if_true, if_false, Int.reduceLT, Int.reduceEq]
    rfl
  · simp (disch := omega) only [v_62_57, v_62_59, v_62_61, v_62_63, u_62_0, x_aload0, f_63_1, x_switch, e_sw_c, e_sw_n, u_62_40, x_iload1, x_i2b, x_i2l, x_lreturn, u_62_44, x_i2s, u_62_48, x_ifCond_eq, x_ifCond_eqb, x_lconst, x_goto, u_62_56, x_jsr, u_62_57, u_62_58, e, ↓reduceIte, b01_0, ite_not, if_true, if_false, Int.reduceLT, Int.reduceEq]
    rw [show cstq 4 v = if v = 0 then 0 else 1 from rfl]
    (repeat' split) <;> first | rfl | (exfalso; omega)
theorem s_wr63 {k i v : Int} (e : I 63 1 = k) (hk : 0 ≤ k ∧ k ≤ 4) (hn : 0 ≤ I 63 2 ∧ I 63 2 ≤ 40) (hi : 0 ≤ i ∧ i < I 63 2) (hv : rg v) : s_S X (d + 2) 61 [.ref 63, .int (iI i), .int (iI v)] (mm I J) = some ([], mm I (up J 64 i (cstq k v))) := by
  have e1 := s_has63 (X := X) (d := d) (I := I) (J := J) (i := i) hn (by constructor <;> omega)
  have e2 := s_cst63 (X := X) (d := d) (I := I) (J := J) (v := v) e hk hv
  rw [if_pos hi] at e1
  simp (disch := omega) only [v_61_57, v_61_59, v_61_61, v_61_63, u_61_0, x_aload0, x_iload1, x_call2_0, x_call2_1, x_call2_2, x_call2_3, x_call2_4, e_k_s, e_k_i, List.nil_append, List.cons_append, x_ifCond_eq, x_ifCond_eqb, k_63_0, x_iload2, x_jsr, u_61_19, x_return, ls_64, e1, e2, ↓reduceIte, b01_0, ite_not, if_true, if_false, Int.reduceLT, Int.reduceEq]
theorem s_okd63 {k : Int} (h1 : rg (I 63 1)) (hk : rg k) : s_S X (d + 1) 63 [.ref 63, .int (iI k)] (mm I J) = some ([.int (iI (if I 63 1 = -1 then -11 else if I 63 1 = k then 0 else -13))], mm I J) := by
  simp (disch := omega) only [v_63_57, v_63_59, v_63_61, v_63_63, u_63_0, x_aload0, f_63_1, x_sipush, x_if_icmp_ne, x_ireturn, u_63_11, x_iload1, x_goto, u_63_23, x_jsr, u_63_25, ↓reduceIte, b01_0, ite_not, if_true, if_false, Int.reduceLT, Int.reduceEq]
  (repeat' split) <;> first | rfl | (exfalso; omega)
theorem s_rl63 {v1 v2 : Int32} : ∀ (n : Nat) (k : Int), 0 ≤ k → k + n = 40 → s_j X d 59 2 [.ref 63, .int v1, .int v2, .int (iI k)] [] (mm I (zrr J 64 0 k)) = s_j X d 59 21 [.ref 63, .int v1, .int v2, .int (iI 40)] [] (mm I (zrr J 64 0 40)) := by
  intro n
  induction n with
  | zero =>
    intro k k0 kn
    rw [u_59_2, show k = 40 by omega]
    simp (disch := omega) only [v_59_57, v_59_59, v_59_61, v_59_63, u_59_0, x_sipush, x_istore3i, x_istore3r, x_istore3u, x_jsr, x_iload3, x_if_icmp_ge, x_aload0, k_63_0, x_lconst, x_iinc3i, x_iinc3r, x_iinc3u, x_goto, x_iload1, p_63_1, x_iload2, p_63_2, x_return, ls_64, ↓reduceIte, b01_0, ite_not, if_true, if_false, Int.reduceLT, Int.reduceEq]
  | succ n ih =>
    intro k k0 kn
    have e1 := ih (k + 1) (by omega) (by omega)
    rw [← e1, u_59_2]
    have e2 : up (zrr J 64 0 k) 64 k 0 = zrr J 64 0 (k + 1) := zrr_u (by omega) k0
    simp (disch := omega) only [v_59_57, v_59_59, v_59_61, v_59_63, u_59_0, x_sipush, x_istore3i, x_istore3r, x_istore3u, x_jsr, x_iload3, x_if_icmp_ge, x_aload0, k_63_0, x_lconst, x_iinc3i, x_iinc3r, x_iinc3u, x_goto, x_iload1, p_63_1, x_iload2, p_63_2, x_return, ls_64, e2, ↓reduceIte, b01_0, ite_not, if_true, if_false, Int.reduceLT, Int.reduceEq]
    rw [if_pos (by omega)]
theorem s_rel63 {k v : Int} : s_S X (d + 1) 59 [.ref 63, .int (iI k), .int (iI v)] (mm I J) = some ([], mm (up (up I 63 1 k) 63 2 v) (zrr J 64 0 40)) := by
  have e1 := s_rl63 (X := X) (d := d) (I := I) (J := J) (v1 := iI k) (v2 := iI v) 40 0 (by decide) (by decide)
  rw [zrr_0] at e1
  simp (disch := omega) only [v_59_57, v_59_59, v_59_61, v_59_63, u_59_0, x_sipush, x_istore3i, x_istore3r, x_istore3u, x_jsr, x_iload3, x_if_icmp_ge, x_aload0, k_63_0, x_lconst, x_iinc3i, x_iinc3r, x_iinc3u, x_goto, u_59_21, x_iload1, p_63_1, x_iload2, p_63_2, x_return, ls_64, e1, ↓reduceIte, b01_0, ite_not, if_true, if_false, Int.reduceLT, Int.reduceEq]
theorem m_cst {k v : Int} (hk : 0 ≤ k ∧ k ≤ 4) (hv : rg v) : s_S X (d + 1) 280 [.int (iI v), .int (iI k)] (mm I J) = some ([.int (iI (cstq k v))], mm I J) := by
  rcases (by omega : k = 0 ∨ k = 1 ∨ k = 2 ∨ k = 3 ∨ k = 4) with rfl | rfl | rfl | rfl | rfl
  · simp (disch := omega) only [v_280, u_280_0, x_iload1, x_ifCond_ne, x_ifCond_neb, x_iload0, x_i2b, x_goto, u_280_9, x_sipush, x_if_icmp_ne, x_i2s, u_280_19, x_ifCond_eq, x_ifCond_eqb, u_280_32, u_280_36, x_jsr, u_280_37, x_ireturn, b8_i, ↓reduceIte, b01_0, ite_not, if_true, if_false, Int.reduceLT, Int.reduceEq]
    rfl
  · simp (disch := omega) only [v_280, u_280_0, x_iload1, x_ifCond_ne, x_ifCond_neb, x_iload0, x_i2b, x_goto, u_280_9, x_sipush, x_if_icmp_ne, x_i2s, u_280_19, x_ifCond_eq, x_ifCond_eqb, u_280_32, u_280_36, x_jsr, u_280_37, x_ireturn, b16_i, ↓reduceIte, b01_0, ite_not, if_true, if_false, Int.reduceLT, Int.reduceEq]
    rfl
  · simp (disch := omega) only [v_280, u_280_0, x_iload1, x_ifCond_ne, x_ifCond_neb, x_iload0, x_i2b, x_goto, u_280_9, x_sipush, x_if_icmp_ne, x_i2s, u_280_19, x_ifCond_eq, x_ifCond_eqb, u_280_32, u_280_36, x_jsr, u_280_37, x_ireturn, ↓reduceIte, b01_0, ite_not, if_true, if_false, Int.reduceLT, Int.reduceEq]
    rfl
  · simp (disch := omega) only [v_280, u_280_0, x_iload1, x_ifCond_ne, x_ifCond_neb, x_iload0, x_i2b, x_goto, u_280_9, x_sipush, x_if_icmp_ne, x_i2s, u_280_19, x_ifCond_eq, x_ifCond_eqb, u_280_32, u_280_36, x_jsr, u_280_37, x_ireturn, ↓reduceIte, b01_0, ite_not, if_true, if_false, Int.reduceLT, Int.reduceEq]
    rfl
  · simp (disch := omega) only [v_280, u_280_0, x_iload1, x_ifCond_ne, x_ifCond_neb, x_iload0, x_i2b, x_goto, u_280_9, x_sipush, x_if_icmp_ne, x_i2s, u_280_19, x_ifCond_eq, x_ifCond_eqb, u_280_32, u_280_36, x_jsr, u_280_37, x_ireturn, ↓reduceIte, b01_0, ite_not, if_true, if_false, Int.reduceLT, Int.reduceEq]
    rw [show cstq 4 v = if v = 0 then 0 else 1 from rfl]
    (repeat' split) <;> first | rfl | (exfalso; omega)
theorem m_clr {q : Int} (hq : 0 ≤ q ∧ q < 4) {v2 v3 : Int32} : ∀ (n : Nat) (k : Int), 0 ≤ k → k + n = 40 → s_j X (d + 1) 277 64 [.ref 69, .int (iI q), .int v2, .int v3, .int (iI k)] [] (mm (zrr I 86 (40 * q) k) J) = some ([.int (iI 1)], mm (zrr I 86 (40 * q) 40) J) := by
  intro n
  induction n with
  | zero =>
    intro k k0 kn
    rw [u_277_64, show k = 40 by omega]
    simp (disch := omega) only [v_277_69, u_277_0, x_iload1, x_call1_0, x_call1_1, x_call1_2, x_call1_3, x_call1_4, e_k_s, e_k_i, List.nil_append, List.cons_append, x_ifCond_eq, x_ifCond_eqb, x_iload2, x_sipush, x_call3_0, x_call3_1, x_call3_2, x_call3_3, x_call3_4, x_ifCond_lt, x_iload3, x_if_icmp_le, x_jsr, u_277_26, x_ireturn, u_277_28, x_ifCond_ge, u_277_39, x_aload0, k_69_30, k_69_31, x_goto, u_277_59, u_277_60, x_istore4i, x_istore4r, x_istore4u, x_iload4, x_if_icmp_ge, k_69_32, x_imul, x_iadd, x_iinc4i, x_iinc4r, x_iinc4u, u_277_90, is_84, is_85, is_86, ↓reduceIte, b01_0, ite_not, if_true, if_false, Int.reduceLT, Int.reduceEq]
  | succ n ih =>
    intro k k0 kn
    have e1 := ih (k + 1) (by omega) (by omega)
    rw [← e1, u_277_64]
    have e2 : up (zrr I 86 (40 * q) k) 86 (40 * q + k) 0 = zrr I 86 (40 * q) (k + 1) := zrr_u rfl k0
    simp (disch := omega) only [v_277_69, u_277_0, x_iload1, x_call1_0, x_call1_1, x_call1_2, x_call1_3, x_call1_4, e_k_s, e_k_i, List.nil_append, List.cons_append, x_ifCond_eq, x_ifCond_eqb, x_iload2, x_sipush, x_call3_0, x_call3_1, x_call3_2, x_call3_3, x_call3_4, x_ifCond_lt, x_iload3, x_if_icmp_le, x_jsr, u_277_26, x_ireturn, u_277_28, x_ifCond_ge, u_277_39, x_aload0, k_69_30, k_69_31, x_goto, u_277_59, u_277_60, x_istore4i, x_istore4r, x_istore4u, x_iload4, x_if_icmp_ge, k_69_32, x_imul, x_iadd, x_iinc4i, x_iinc4r, x_iinc4u, u_277_90, is_84, is_85, is_86, e2, ↓reduceIte, b01_0, ite_not, if_true, if_false, Int.reduceLT, Int.reduceEq]
    rw [if_pos (by omega)]
theorem m_shk {q : Int} (hq : rg q) : s_S X (d + 2) 278 [.int (iI q)] (mm I J) = some ([.int (iI (if 0 ≤ q ∧ q ≤ 3 then 1 else 0))], mm I J) := by
  simp (disch := omega) only [v_278, u_278_0, x_iload0, x_sipush, x_call3_0, x_call3_1, x_call3_2, x_call3_3, x_call3_4, e_k_s, e_k_i, List.nil_append, List.cons_append, x_zret0, x_zret1, x_zretb, m_in1, ↓reduceIte, b01_0, ite_not, if_true, if_false, Int.reduceLT, Int.reduceEq]
theorem m_okd {q k : Int} (hq : 0 ≤ q ∧ q < 4) (h1 : -1 ≤ I 84 q ∧ I 84 q ≤ 4) (hk : rg k) : s_S X (d + 1) 282 [.ref 69, .int (iI q), .int (iI k)] (mm I J) = some ([.int (iI (if I 84 q = -1 then -11 else if I 84 q = k then 0 else -13))], mm I J) := by
  simp (disch := omega) only [v_282_69, u_282_0, x_aload0, k_69_30, x_iload1, x_ifCond_ge, x_sipush, x_goto, u_282_14, x_iload2, x_if_icmp_eq, u_282_29, x_jsr, u_282_30, x_ireturn, ia_84, ↓reduceIte, b01_0, ite_not, if_true, if_false, Int.reduceLT, Int.reduceEq]
  (repeat' split) <;> first | rfl | (exfalso; omega)
end
