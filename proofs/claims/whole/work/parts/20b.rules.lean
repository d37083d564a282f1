/-! THE RULES in the model's row -/
def crl (I : Nat → Int → Int) (S : Int → Int) : Nat → Int → Int → Int → Nat → Prop
  | 0, _, j, e, k => j = e ∧ k ≤ 1
  | n + 1, i, j, e, k => k ≤ 50 ∧ ((I 13 i = -1 ∧ S (122 + j) = 10015 ∧ 1 ≤ k ∧ crl I S n (i + 1) (j + 1) e k) ∨
      (((I 13 i = -2 ∧ S (122 + j) = 10013) ∨ (I 13 i = -3 ∧ S (122 + j) = 10014)) ∧ 2 ≤ k ∧ crl I S n (i + 1) (j + 1) e (k - 1)) ∨
      ∃ s l r, (s = 0 ∨ s = 1 ∨ s = 2) ∧ (0 ≤ l ∧ l ≤ 10004) ∧ (0 ≤ r ∧ r ≤ 10004) ∧ I 13 i = r + l * 2 ^ 14 + s * 2 ^ 28 ∧ S (122 + j) = l ∧ S (122 + (j + 1)) = r ∧ S (122 + (j + 1 + 1)) = 10010 + s ∧ crl I S n (i + 1) (j + 1 + 1 + 1) e (k + 1))
def mfr (S : Int → Int) (r : Int) : Int := if r = 0 then 0 else S (98 + 3 * (r - 1) + 2)
def RR (I : Nat → Int → Int) (S : Int → Int) : Prop := S 7 = I 9 5 ∧ ∀ i, 0 ≤ i → i < I 9 5 → S (98 + 3 * i + 0) = I 10 i ∧ S (98 + 3 * i + 1) = I 11 i ∧ 0 ≤ mfr S i ∧ S (98 + 3 * i + 2) ≤ 200 ∧ crl I S (I 12 i - rfr I i).toNat (rfr I i) (mfr S i) (S (98 + 3 * i + 2)) 0
theorem crl_le {I : Nat → Int → Int} {S : Int → Int} {e : Int} : ∀ (n : Nat) (i j : Int) (k : Nat), crl I S n i j e k → j + n ≤ e
  | 0, _, _, _, h => by have := h.1; omega
  | n + 1, i, j, k, h => by
    obtain ⟨-, h⟩ := h
    rcases h with ⟨_, _, _, h⟩ | ⟨_, _, h⟩ | ⟨s, l, r, _, _, _, _, _, _, _, h⟩
    · have := crl_le n _ _ _ h
      omega
    · have := crl_le n _ _ _ h
      omega
    · have := crl_le n _ _ _ h
      omega
/-- the model's pile of answers -/
def pok (P : Int → Int) : List Bool → Prop
  | [] => True
  | b :: t => P t.length = (if b = true then 1 else 0) ∧ pok P t
theorem pok_up {P : Int → Int} {k v : Int} : ∀ {s : List Bool}, (s.length : Int) ≤ k → pok P s → pok (upf P k v) s
  | [], _, _ => trivial
  | b :: t, h, hp => by
    rw [List.length_cons] at h
    refine ⟨?_, pok_up (s := t) (by omega) hp.2⟩
    show (if ((t.length : Nat) : Int) = k then v else P t.length) = _
    rw [if_neg (by omega)]
    exact hp.1
def jnd (op a b : Int) : Int := if op = 10010 then (if a < b then 1 else 0) else if op = 10011 then (if a = b then 1 else 0) else if op = 10012 then (if b < a then 1 else 0) else if op = 10013 then (if a ≠ 0 ∧ b ≠ 0 then 1 else 0) else if a ≠ 0 ∨ b ≠ 0 then 1 else 0
section
variable {X : e_X} {d : Nat} {I J : Nat → Int → Int}
theorem m_join {op a b : Int} (h : rg op ∧ rg a ∧ rg b) : s_S X (d + 1) 206 [.int (iI op), .int (iI a), .int (iI b)] (mm I J) = some ([.int (iI (jnd op a b))], mm I J) := by
  unfold jnd
  simp (disch := omega) only [v_206, u_206_0, x_iload0, x_switch, e_sw_c, e_sw_n, u_206_32, x_iload1, x_iload2, x_if_icmp_ge, x_sipush, x_goto, u_206_41, x_jsr, u_206_42, x_ireturn, u_206_43, x_if_icmp_ne, u_206_52, u_206_53, u_206_54, x_if_icmp_le, u_206_63, u_206_64, u_206_65, x_ifCond_eq, x_ifCond_eqb, u_206_77, u_206_78, u_206_79, x_ifCond_ne, x_ifCond_neb, u_206_87, u_206_91, u_206_92, b01_0, ite_not, if_true, if_false, Int.reduceLT, Int.reduceEq]
  (repeat' split) <;> first | rfl | (exfalso; omega)
variable {M : Nat → Int → Int}
theorem m_gr (h : inv I) (hE : RE I (M 70)) {c : co} {sc : Int} {P : Int → Int} {k : Int} (hk : 0 ≤ k ∧ k < I 1 9) : s_S X (d + 2) 198 [.ref 69, .int (iI k)] (mm (mk M (I 1 9) c sc P) J) = some ([.int (iI (gr I k))], mm (mk M (I 1 9) c sc P) J) := by
  obtain ⟨h1, h2, h3, h4, h5, h6, h7, h8, h9⟩ := h
  obtain ⟨e1, e2, e3, e4, e5⟩ := hE
  obtain ⟨k1, k2, k3, k4⟩ := h7 k hk.1 hk.2
  obtain ⟨a0, a1, a2, a3⟩ := e3 k hk.1 hk.2
  have b1 := (e4 (I 5 k) k4.1 (by omega)).1
  have k5 := (h8 (I 5 k) k4.1 (by omega)).1
  unfold gr grd
  simp (disch := omega) only [v_198_69, u_198_0, x_aload0, k_69_0, x_sipush, x_iload1, x_call3_0, x_call3_1, x_call3_2, x_call3_3, x_call3_4, e_k_s, e_k_i, List.nil_append, List.cons_append, x_iadd, x_istore2i, x_istore2r, x_istore2u, x_switch, e_sw_c, e_sw_n, u_198_56, x_iload2, x_ireturn, u_198_60, u_198_64, x_if_icmp_ge, x_goto, u_198_75, x_isub, x_jsr, u_198_80, u_198_81, x_idivI, u_198_85, x_imul, u_198_91, ia_70, m_get, mk_r, a0, a3, b1, tdiv_n, b01_0, ite_not, if_true, if_false, Int.reduceLT, Int.reduceEq]
  (repeat' split) <;> first | rfl | (exfalso; omega) | (refine sv ?_; omega)
theorem m_know (h : inv I) (hE : RE I (M 70)) {y m sh st : Int} {sc : Int} {P : Int → Int} {k : Int} (hk : 0 ≤ k ∧ k < I 1 9) {w : Int} (hw : 0 ≤ w ∧ w < 5) : s_S X (d + 3) 205 [.ref 69, .int (iI w), .int (iI k)] (mm (mk M (I 1 9) (y, m, sh, st) sc P) J) = some ([.int (iI (fct (bk I (y, m, sh, st) z0) k 14 w))], mm (mk M (I 1 9) (y, m, sh, st) sc P) J) := by
  have eg := m_gr (X := X) (d := d) (J := J) h hE (c := (y, m, sh, st)) (sc := sc) (P := P) hk
  obtain ⟨h1, h2, h3, h4, h5, h6, h7, h8, h9⟩ := h
  obtain ⟨e1, e2, e3, e4, e5⟩ := hE
  obtain ⟨a0, a1, a2, a3⟩ := e3 k hk.1 hk.2
  have : w = 0 ∨ w = 1 ∨ w = 2 ∨ w = 3 ∨ w = 4 := by omega
  rcases this with rfl | rfl | rfl | rfl | rfl
  · simp (disch := omega) only [v_205_69, u_205_0, x_iload1, x_ifCond_ne, x_ifCond_neb, x_aload0, k_69_0, x_sipush, x_goto, u_205_13, x_if_icmp_ne, x_iload2, x_call3_0, x_call3_1, x_call3_2, x_call3_3, x_call3_4, e_k_s, e_k_i, List.nil_append, List.cons_append, u_205_27, x_call2_0, x_call2_1, x_call2_2, x_call2_3, x_call2_4, u_205_40, u_205_54, x_jsr, u_205_55, x_ireturn, ia_70, m_get, mk_r, mk_0, a2, eg, Int.reduceEq, b01_0, ite_not, if_true, if_false, Int.reduceLT]
    rfl
  · simp (disch := omega) only [v_205_69, u_205_0, x_iload1, x_ifCond_ne, x_ifCond_neb, x_aload0, k_69_0, x_sipush, x_goto, u_205_13, x_if_icmp_ne, x_iload2, x_call3_0, x_call3_1, x_call3_2, x_call3_3, x_call3_4, e_k_s, e_k_i, List.nil_append, List.cons_append, u_205_27, x_call2_0, x_call2_1, x_call2_2, x_call2_3, x_call2_4, u_205_40, u_205_54, x_jsr, u_205_55, x_ireturn, ia_70, m_get, mk_r, mk_0, a2, eg, Int.reduceEq, b01_0, ite_not, if_true, if_false, Int.reduceLT]
    rfl
  · simp (disch := omega) only [v_205_69, u_205_0, x_iload1, x_ifCond_ne, x_ifCond_neb, x_aload0, k_69_0, x_sipush, x_goto, u_205_13, x_if_icmp_ne, x_iload2, x_call3_0, x_call3_1, x_call3_2, x_call3_3, x_call3_4, e_k_s, e_k_i, List.nil_append, List.cons_append, u_205_27, x_call2_0, x_call2_1, x_call2_2, x_call2_3, x_call2_4, u_205_40, u_205_54, x_jsr, u_205_55, x_ireturn, ia_70, m_get, mk_r, mk_0, a2, eg, Int.reduceEq, b01_0, ite_not, if_true, if_false, Int.reduceLT]
    rfl
  · simp (disch := omega) only [v_205_69, u_205_0, x_iload1, x_ifCond_ne, x_ifCond_neb, x_aload0, k_69_0, x_sipush, x_goto, u_205_13, x_if_icmp_ne, x_iload2, x_call3_0, x_call3_1, x_call3_2, x_call3_3, x_call3_4, e_k_s, e_k_i, List.nil_append, List.cons_append, u_205_27, x_call2_0, x_call2_1, x_call2_2, x_call2_3, x_call2_4, u_205_40, u_205_54, x_jsr, u_205_55, x_ireturn, ia_70, m_get, mk_r, mk_0, mk_3, a2, eg, Int.reduceEq, b01_0, ite_not, if_true, if_false, Int.reduceLT]
    rfl
  · simp (disch := omega) only [v_205_69, u_205_0, x_iload1, x_ifCond_ne, x_ifCond_neb, x_aload0, k_69_0, x_sipush, x_goto, u_205_13, x_if_icmp_ne, x_iload2, x_call3_0, x_call3_1, x_call3_2, x_call3_3, x_call3_4, e_k_s, e_k_i, List.nil_append, List.cons_append, u_205_27, x_call2_0, x_call2_1, x_call2_2, x_call2_3, x_call2_4, u_205_40, u_205_54, x_jsr, u_205_55, x_ireturn, ia_70, m_get, mk_r, mk_0, a2, eg, Int.reduceEq, b01_0, ite_not, if_true, if_false, Int.reduceLT]
    rfl
/-- a value is piled -/
theorem m_push (h : inv I) (hE : RE I (M 70)) {y m sh st : Int} {sc : Int} {P : Int → Int} {k : Int} (hk : 0 ≤ k ∧ k < I 1 9) {r n j v : Int} (hr : 0 ≤ r ∧ r < 8) (hn : 0 ≤ n ∧ n < 200) (hj : 0 ≤ j ∧ j < M 70 (98 + 3 * r + 2) ∧ M 70 (98 + 3 * r + 2) ≤ 200) (hv : M 70 (122 + j) = v) (hv2 : 0 ≤ v ∧ v ≤ 10004) {w : Value} : s_j X (d + 3) 204 20 [.ref 69, .int (iI r), .int (iI k), .int (iI n), .int (iI j), w] [] (mm (mk M (I 1 9) (y, m, sh, st) sc P) J) = s_j X (d + 3) 204 20 [.ref 69, .int (iI r), .int (iI k), .int (iI (n + 1)), .int (iI (j + 1)), .int (iI v)] [] (mm (mk M (I 1 9) (y, m, sh, st) sc (upf P n (fv (fct (bk I (y, m, sh, st) z0) k) v))) J) := by
  have hn6 := h.1
  rw [u_204_20]
  unfold fv
  by_cases q : v < 10000
  · rw [if_neg (by omega)]
    simp (disch := omega) only [v_204_69, u_204_0, x_sipush, x_istore3i, x_istore3r, x_istore3u, x_iload1, x_ifCond_ne, x_ifCond_neb, x_goto, u_204_10, x_aload0, x_isub, x_call3_0, x_call3_1, x_call3_2, x_call3_3, x_call3_4, e_k_s, e_k_i, List.nil_append, List.cons_append, x_jsr, u_204_18, x_istore4i, x_istore4r, x_istore4u, x_iload4, x_if_icmp_ge, k_69_0, x_iadd, x_istore5i, x_istore5r, x_istore5u, x_iload5, k_69_4, x_iload3, u_204_69, x_iload2, u_204_80, x_iinc3i, x_iinc3r, x_iinc3u, u_204_87, x_if_icmp_ne, u_204_116, u_204_146, x_iinc4i, x_iinc4r, x_iinc4u, u_204_152, x_ifCond_eq, x_ifCond_eqb, u_204_165, u_204_169, u_204_170, x_zret0, x_zret1, x_zretb, ia_70, is_70, ia_73, is_73, m_rule, mk_r, hv, mk_uP, b01_0, ite_not, if_true, if_false, Int.reduceLT, Int.reduceEq]
    rw [if_pos (by omega), if_pos (by omega), if_pos q]
  · rw [if_pos (by omega)]
    have eg := m_know (X := X) (d := d) (J := J) h hE (y := y) (m := m) (sh := sh) (st := st) (sc := sc) (P := P) hk (w := v - 10000) (by omega)
    simp (disch := omega) only [v_204_69, u_204_0, x_sipush, x_istore3i, x_istore3r, x_istore3u, x_iload1, x_ifCond_ne, x_ifCond_neb, x_goto, u_204_10, x_aload0, x_isub, x_call3_0, x_call3_1, x_call3_2, x_call3_3, x_call3_4, e_k_s, e_k_i, List.nil_append, List.cons_append, x_jsr, u_204_18, x_istore4i, x_istore4r, x_istore4u, x_iload4, x_if_icmp_ge, k_69_0, x_iadd, x_istore5i, x_istore5r, x_istore5u, x_iload5, k_69_4, x_iload3, u_204_69, x_iload2, u_204_80, x_iinc3i, x_iinc3r, x_iinc3u, u_204_87, x_if_icmp_ne, u_204_116, u_204_146, x_iinc4i, x_iinc4r, x_iinc4u, u_204_152, x_ifCond_eq, x_ifCond_eqb, u_204_165, u_204_169, u_204_170, x_zret0, x_zret1, x_zretb, ia_70, is_70, ia_73, is_73, m_rule, mk_r, hv, mk_uP, eg, b01_0, ite_not, if_true, if_false, Int.reduceLT, Int.reduceEq]
    rw [if_pos (by omega), if_pos (by omega), if_neg q]
theorem m_op2 (h : inv I) {y m sh st : Int} {sc : Int} {P : Int → Int} {k : Int} {r n j v : Int} (hr : 0 ≤ r ∧ r < 8) (hn : 2 ≤ n ∧ n < 200) (hj : 0 ≤ j ∧ j < M 70 (98 + 3 * r + 2) ∧ M 70 (98 + 3 * r + 2) ≤ 200) (hv : M 70 (122 + j) = v) (hv2 : 10010 ≤ v ∧ v ≤ 10014) {a b : Int} (ha : P (n - 2) = a) (hb : P (n - 1) = b) (hab : rg a ∧ rg b) {w : Value} : s_j X (d + 3) 204 20 [.ref 69, .int (iI r), .int (iI k), .int (iI n), .int (iI j), w] [] (mm (mk M (I 1 9) (y, m, sh, st) sc P) J) = s_j X (d + 3) 204 20 [.ref 69, .int (iI r), .int (iI k), .int (iI (n - 1)), .int (iI (j + 1)), .int (iI v)] [] (mm (mk M (I 1 9) (y, m, sh, st) sc (upf P (n - 2) (jnd v a b))) J) := by
  have hn6 := h.1
  have t1 : n - 1 - 1 = n - 2 := by omega
  have t2 : n + -1 = n - 1 := by omega
  rw [u_204_20]
  simp (disch := omega) only [v_204_69, u_204_0, x_sipush, x_istore3i, x_istore3r, x_istore3u, x_iload1, x_ifCond_ne, x_ifCond_neb, x_goto, u_204_10, x_aload0, x_isub, x_call3_0, x_call3_1, x_call3_2, x_call3_3, x_call3_4, e_k_s, e_k_i, List.nil_append, List.cons_append, x_jsr, u_204_18, x_istore4i, x_istore4r, x_istore4u, x_iload4, x_if_icmp_ge, k_69_0, x_iadd, x_istore5i, x_istore5r, x_istore5u, x_iload5, k_69_4, x_iload3, u_204_69, x_iload2, u_204_80, x_iinc3i, x_iinc3r, x_iinc3u, u_204_87, x_if_icmp_ne, u_204_116, u_204_146, x_iinc4i, x_iinc4r, x_iinc4u, u_204_152, x_ifCond_eq, x_ifCond_eqb, u_204_165, u_204_169, u_204_170, x_zret0, x_zret1, x_zretb, ia_70, is_70, ia_73, is_73, m_rule, mk_r, hv, mk_uP, mk_p, t1, t2, ha, hb, m_join, b01_0, ite_not, if_true, if_false, Int.reduceLT, Int.reduceEq]
  rw [if_pos (by omega), if_neg (by omega), if_neg (by omega)]
theorem m_not (h : inv I) {y m sh st : Int} {sc : Int} {P : Int → Int} {k : Int} {r n j : Int} (hr : 0 ≤ r ∧ r < 8) (hn : 1 ≤ n ∧ n < 200) (hj : 0 ≤ j ∧ j < M 70 (98 + 3 * r + 2) ∧ M 70 (98 + 3 * r + 2) ≤ 200) (hv : M 70 (122 + j) = 10015) {a : Int} (ha : P (n - 1) = a) {w : Value} : s_j X (d + 3) 204 20 [.ref 69, .int (iI r), .int (iI k), .int (iI n), .int (iI j), w] [] (mm (mk M (I 1 9) (y, m, sh, st) sc P) J) = s_j X (d + 3) 204 20 [.ref 69, .int (iI r), .int (iI k), .int (iI n), .int (iI (j + 1)), .int (iI 10015)] [] (mm (mk M (I 1 9) (y, m, sh, st) sc (upf P (n - 1) (1 - a))) J) := by
  have hn6 := h.1
  rw [u_204_20]
  simp (disch := omega) only [v_204_69, u_204_0, x_sipush, x_istore3i, x_istore3r, x_istore3u, x_iload1, x_ifCond_ne, x_ifCond_neb, x_goto, u_204_10, x_aload0, x_isub, x_call3_0, x_call3_1, x_call3_2, x_call3_3, x_call3_4, e_k_s, e_k_i, List.nil_append, List.cons_append, x_jsr, u_204_18, x_istore4i, x_istore4r, x_istore4u, x_iload4, x_if_icmp_ge, k_69_0, x_iadd, x_istore5i, x_istore5r, x_istore5u, x_iload5, k_69_4, x_iload3, u_204_69, x_iload2, u_204_80, x_iinc3i, x_iinc3r, x_iinc3u, u_204_87, x_if_icmp_ne, u_204_116, u_204_146, x_iinc4i, x_iinc4r, x_iinc4u, u_204_152, x_ifCond_eq, x_ifCond_eqb, u_204_165, u_204_169, u_204_170, x_zret0, x_zret1, x_zretb, ia_70, is_70, ia_73, is_73, m_rule, mk_r, hv, mk_uP, mk_p, ha, b01_0, ite_not, if_true, if_false, Int.reduceLT, Int.reduceEq]
  rw [if_pos (by omega)]
theorem bool_rg {b : Bool} : rg (if b = true then 1 else 0) := by cases b <;> decide
theorem m_h1 (h : inv I) (hE : RE I (M 70)) {y m sh st : Int} (hco : cok I (y, m, sh, st)) {sc : Int} {k : Int} (hk : 0 ≤ k ∧ k < I 1 9) {r : Int} (hr : 0 ≤ r ∧ r < 8) (he : M 70 (98 + 3 * r + 2) ≤ 200) : ∀ (n : Nat) (i j : Int) (bs : List Bool) (P : Int → Int) (w : Value), 0 ≤ j → crl I (M 70) n i j (M 70 (98 + 3 * r + 2)) bs.length → pok P bs → ∃ P' w', s_j X (d + 3) 204 20 [.ref 69, .int (iI r), .int (iI k), .int (iI bs.length), .int (iI j), w] [] (mm (mk M (I 1 9) (y, m, sh, st) sc P) J) = s_j X (d + 3) 204 152 [.ref 69, .int (iI r), .int (iI k), .int (iI (hrn (fct (bk I (y, m, sh, st) z0) k) n i bs).length), .int (iI (M 70 (98 + 3 * r + 2))), w'] [] (mm (mk M (I 1 9) (y, m, sh, st) sc P') J) ∧ pok P' (hrn (fct (bk I (y, m, sh, st) z0) k) n i bs) ∧ (hrn (fct (bk I (y, m, sh, st) z0) k) n i bs).length ≤ 1 := by
  have hn6 := h.1
  have f13 : ∀ i, fct (bk I (y, m, sh, st) z0) k 13 i = I 13 i := fun i => by rw [fct_o (by decide)]; rfl
  intro n
  induction n with
  | zero =>
    intro i j bs P w h0 hc hp
    obtain ⟨rfl, hl⟩ := hc
    refine ⟨P, w, ?_, hp, hl⟩
    rw [u_204_20]
    simp (disch := omega) only [v_204_69, u_204_0, x_sipush, x_istore3i, x_istore3r, x_istore3u, x_iload1, x_ifCond_ne, x_ifCond_neb, x_goto, u_204_10, x_aload0, x_isub, x_call3_0, x_call3_1, x_call3_2, x_call3_3, x_call3_4, e_k_s, e_k_i, List.nil_append, List.cons_append, x_jsr, u_204_18, x_istore4i, x_istore4r, x_istore4u, x_iload4, x_if_icmp_ge, k_69_0, x_iadd, x_istore5i, x_istore5r, x_istore5u, x_iload5, k_69_4, x_iload3, u_204_69, x_iload2, u_204_80, x_iinc3i, x_iinc3r, x_iinc3u, u_204_87, x_if_icmp_ne, u_204_116, u_204_146, x_iinc4i, x_iinc4r, x_iinc4u, x_ifCond_eq, x_ifCond_eqb, u_204_165, u_204_169, u_204_170, x_zret0, x_zret1, x_zretb, ia_70, is_70, ia_73, is_73, m_rule, mk_r, b01_0, ite_not, if_true, if_false, Int.reduceLT, Int.reduceEq]
    rw [if_neg (by omega)]
    rfl
  | succ n ih =>
    intro i j bs P w h0 hc hp
    obtain ⟨hl, hc⟩ := hc
    have hs : ∀ s', hst (fct (bk I (y, m, sh, st) z0) k) (I 13 i) bs = s' → hrn (fct (bk I (y, m, sh, st) z0) k) (n + 1) i bs = hrn (fct (bk I (y, m, sh, st) z0) k) n (i + 1) s' := by
      intro s' q
      show hrn _ n (i + 1) (hst _ (fct (bk I (y, m, sh, st) z0) k 13 i) bs) = _
      rw [f13, q]
    rcases hc with ⟨q1, q2, q3, hc⟩ | ⟨q1, q3, hc⟩ | ⟨s, l, rr, hs3, hl3, hr3, q1, q2, q3, q4, hc⟩
    · have hle := crl_le _ _ _ _ hc
      match bs, q3, hp with
      | b :: t, _, hp =>
        rw [List.length_cons] at hl hc ⊢
        rw [hs ((!b) :: t) (by rw [q1]; rfl)]
        have e1 := m_not (X := X) (d := d) (J := J) (M := M) h (y := y) (m := m) (sh := sh) (st := st) (sc := sc) (P := P) (k := k) (r := r) (n := ((t.length + 1 : Nat) : Int)) (j := j) hr (by omega) ⟨h0, by omega, he⟩ q2 (a := if b = true then 1 else 0) (by rw [show ((t.length + 1 : Nat) : Int) - 1 = t.length by omega]; exact hp.1) (w := w)
        rw [e1]
        exact ih (i + 1) (j + 1) ((!b) :: t) _ (.int (iI 10015)) (by omega) hc ⟨by
          show (if _ then _ else _) = _
          rw [if_pos (by omega)]
          cases b <;> rfl, pok_up (by omega) hp.2⟩
    · have hle := crl_le _ _ _ _ hc
      match bs, q3, hp with
      | b :: a :: t, _, hp =>
        rw [List.length_cons, List.length_cons] at hl hc ⊢
        have pa : P (((t.length + 1 + 1 : Nat) : Int) - 2) = if a = true then 1 else 0 := by
          rw [show ((t.length + 1 + 1 : Nat) : Int) - 2 = t.length by omega]
          exact hp.2.1
        have pb : P (((t.length + 1 + 1 : Nat) : Int) - 1) = if b = true then 1 else 0 := by
          rw [show ((t.length + 1 + 1 : Nat) : Int) - 1 = ((a :: t).length : Nat) by rw [List.length_cons]; omega]
          exact hp.1
        have len : (((t.length + 1 + 1 : Nat) : Int) - 1) = (((t.length + 1 : Nat)) : Int) := by omega
        rcases q1 with ⟨q1, q2⟩ | ⟨q1, q2⟩
        · rw [hs ((a && b) :: t) (by rw [q1]; rfl)]
          have e1 := m_op2 (X := X) (d := d) (J := J) (M := M) h (y := y) (m := m) (sh := sh) (st := st) (sc := sc) (P := P) (k := k) (r := r) (n := ((t.length + 1 + 1 : Nat) : Int)) (j := j) hr (by omega) ⟨h0, by omega, he⟩ q2 (by decide) pa pb ⟨bool_rg, bool_rg⟩ (w := w)
          rw [e1, len]
          exact ih (i + 1) (j + 1) ((a && b) :: t) _ (.int (iI 10013)) (by omega) hc ⟨by
            show (if _ then _ else _) = _
            rw [if_pos (by omega)]
            cases a <;> cases b <;> rfl, pok_up (by omega) hp.2.2⟩
        · rw [hs ((a || b) :: t) (by rw [q1]; rfl)]
          have e1 := m_op2 (X := X) (d := d) (J := J) (M := M) h (y := y) (m := m) (sh := sh) (st := st) (sc := sc) (P := P) (k := k) (r := r) (n := ((t.length + 1 + 1 : Nat) : Int)) (j := j) hr (by omega) ⟨h0, by omega, he⟩ q2 (by decide) pa pb ⟨bool_rg, bool_rg⟩ (w := w)
          rw [e1, len]
          exact ih (i + 1) (j + 1) ((a || b) :: t) _ (.int (iI 10014)) (by omega) hc ⟨by
            show (if _ then _ else _) = _
            rw [if_pos (by omega)]
            cases a <;> cases b <;> rfl, pok_up (by omega) hp.2.2⟩
    · have hle := crl_le _ _ _ _ hc
      have hrg := fct_rg (inv_bk (F := z0) h hco) (by show y ≤ 16; have := h.2.2.2.1; have := hco.1; simp only at this; omega) (k := k) hk
      have g1 := fv_rg hrg (v := l) (by omega)
      have g2 := fv_rg hrg (v := rr) (by omega)
      have e1 := m_push (X := X) (d := d) (J := J) (M := M) h hE (y := y) (m := m) (sh := sh) (st := st) (sc := sc) (P := P) (k := k) hk (r := r) (n := ((bs.length : Nat) : Int)) (j := j) hr (by omega) ⟨h0, by omega, he⟩ q2 hl3 (w := w)
      have e2 := m_push (X := X) (d := d) (J := J) (M := M) h hE (y := y) (m := m) (sh := sh) (st := st) (sc := sc) (P := upf P bs.length (fv (fct (bk I (y, m, sh, st) z0) k) l)) (k := k) hk (r := r) (n := ((bs.length : Nat) : Int) + 1) (j := j + 1) hr (by omega) ⟨by omega, by omega, he⟩ q3 hr3 (w := .int (iI l))
      have e3 := m_op2 (X := X) (d := d) (J := J) (M := M) h (y := y) (m := m) (sh := sh) (st := st) (sc := sc) (P := upf (upf P bs.length (fv (fct (bk I (y, m, sh, st) z0) k) l)) (bs.length + 1) (fv (fct (bk I (y, m, sh, st) z0) k) rr)) (k := k) (r := r) (n := ((bs.length : Nat) : Int) + 1 + 1) (j := j + 1 + 1) hr (by omega) ⟨by omega, by omega, he⟩ q4 (by omega)
        (a := fv (fct (bk I (y, m, sh, st) z0) k) l) (b := fv (fct (bk I (y, m, sh, st) z0) k) rr)
        (by unfold upf; rw [if_neg (by omega), if_pos (by omega)]) (by unfold upf; rw [if_pos (by omega)]) ⟨g1, g2⟩ (w := .int (iI rr))
      have hcb : cmb (fct (bk I (y, m, sh, st) z0) k) (I 13 i) = decide (cmpv s (fv (fct (bk I (y, m, sh, st) z0) k) l) (fv (fct (bk I (y, m, sh, st) z0) k) rr)) := by
        unfold cmb
        rw [q1, show (rr + l * 2 ^ 14 + s * 2 ^ 28) / 2 ^ 14 % 2 ^ 14 = l by omega, show (rr + l * 2 ^ 14 + s * 2 ^ 28) / 2 ^ 28 = s by omega, show (rr + l * 2 ^ 14 + s * 2 ^ 28) % 2 ^ 14 = rr by omega]
      rw [hs (cmb (fct (bk I (y, m, sh, st) z0) k) (I 13 i) :: bs) (by
        unfold hst
        rw [if_neg (by omega), if_neg (by omega), if_neg (by omega)]), e1, e2, e3, show ((bs.length : Nat) : Int) + 1 + 1 - 1 = (((cmb (fct (bk I (y, m, sh, st) z0) k) (I 13 i) :: bs).length : Nat) : Int) by rw [List.length_cons]; omega]
      refine ih (i + 1) (j + 1 + 1 + 1) (cmb (fct (bk I (y, m, sh, st) z0) k) (I 13 i) :: bs) _ (.int (iI (10010 + s))) (by omega) hc ⟨?_, pok_up (by omega) (pok_up (by omega) (pok_up (by omega) hp))⟩
      show (if _ then _ else _) = _
      rw [if_pos (by omega), hcb]
      rcases hs3 with rfl | rfl | rfl <;> simp [jnd, cmpv]
theorem m_hold (h : inv I) (hE : RE I (M 70)) (hQ : RR I (M 70)) (hR : rok I) {c : co} (hco : cok I c) {sc : Int} (P : Int → Int) {k : Int} (hk : 0 ≤ k ∧ k < I 1 9) {r : Int} (hr : 0 ≤ r ∧ r < I 9 5) : ∃ P', s_S X (d + 4) 204 [.ref 69, .int (iI r), .int (iI k)] (mm (mk M (I 1 9) c sc P) J) = some ([.int (iI (if rhl (fct (bk I c z0) k) r then 1 else 0))], mm (mk M (I 1 9) c sc P') J) := by
  obtain ⟨y, m, sh, st⟩ := c
  have hn6 := h.1
  have h8 := hR.1
  obtain ⟨q1, q2, q3, q4, q5⟩ := hQ.2 r hr.1 hr.2
  have hle := crl_le _ _ _ _ q5
  obtain ⟨P', w', e1, e2, e3⟩ := m_h1 (X := X) (d := d) (J := J) (M := M) h hE (y := y) (m := m) (sh := sh) (st := st) hco (sc := sc) (k := k) hk (r := r) (by omega) q4 (I 12 r - rfr I r).toNat (rfr I r) (mfr (M 70) r) [] P (.retAddr 0) q3 q5 trivial
  refine ⟨P', ?_⟩
  have f12 : ∀ i, fct (bk I (y, m, sh, st) z0) k 12 i = I 12 i := fun i => by rw [fct_o (by decide)]; rfl
  have hh : (rhl (fct (bk I (y, m, sh, st) z0) k) r) = (htp (hrn (fct (bk I (y, m, sh, st) z0) k) (I 12 r - rfr I r).toNat (rfr I r) []) = true) := by
    have : rfr (fct (bk I (y, m, sh, st) z0) k) r = rfr I r := by
      unfold rfr
      rw [f12]
    unfold rhl
    rw [this, f12]
  simp only [hh]
  have e0 : s_S X (d + 4) 204 [.ref 69, .int (iI r), .int (iI k)] (mm (mk M (I 1 9) (y, m, sh, st) sc P) J) = s_j X (d + 3) 204 20 [.ref 69, .int (iI r), .int (iI k), .int (iI (([] : List Bool).length : Nat)), .int (iI (mfr (M 70) r)), .retAddr 0] [] (mm (mk M (I 1 9) (y, m, sh, st) sc P) J) := by
    unfold mfr
    by_cases q : r = 0
    · subst q
      rw [if_pos rfl]
      simp (disch := omega) only [v_204_69, u_204_0, x_sipush, x_istore3i, x_istore3r, x_istore3u, x_iload1, x_ifCond_ne, x_ifCond_neb, x_goto, u_204_10, x_aload0, x_isub, x_call3_0, x_call3_1, x_call3_2, x_call3_3, x_call3_4, e_k_s, e_k_i, List.nil_append, List.cons_append, x_jsr, u_204_18, x_istore4i, x_istore4r, x_istore4u, x_iload4, x_if_icmp_ge, k_69_0, x_iadd, x_istore5i, x_istore5r, x_istore5u, x_iload5, k_69_4, x_iload3, u_204_69, x_iload2, u_204_80, x_iinc3i, x_iinc3r, x_iinc3u, u_204_87, x_if_icmp_ne, u_204_116, u_204_146, x_iinc4i, x_iinc4r, x_iinc4u, u_204_152, x_ifCond_eq, x_ifCond_eqb, u_204_165, u_204_169, u_204_170, x_zret0, x_zret1, x_zretb, ia_70, is_70, ia_73, is_73, b01_0, ite_not, if_true, if_false, Int.reduceLT, Int.reduceEq]
      rfl
    · rw [if_neg q]
      simp (disch := omega) only [v_204_69, u_204_0, x_sipush, x_istore3i, x_istore3r, x_istore3u, x_iload1, x_ifCond_ne, x_ifCond_neb, x_goto, u_204_10, x_aload0, x_isub, x_call3_0, x_call3_1, x_call3_2, x_call3_3, x_call3_4, e_k_s, e_k_i, List.nil_append, List.cons_append, x_jsr, u_204_18, x_istore4i, x_istore4r, x_istore4u, x_iload4, x_if_icmp_ge, k_69_0, x_iadd, x_istore5i, x_istore5r, x_istore5u, x_iload5, k_69_4, x_iload3, u_204_69, x_iload2, u_204_80, x_iinc3i, x_iinc3r, x_iinc3u, u_204_87, x_if_icmp_ne, u_204_116, u_204_146, x_iinc4i, x_iinc4r, x_iinc4u, u_204_152, x_ifCond_eq, x_ifCond_eqb, u_204_165, u_204_169, u_204_170, x_zret0, x_zret1, x_zretb, ia_70, is_70, ia_73, is_73, m_rule, mk_r, b01_0, ite_not, if_true, if_false, Int.reduceLT, Int.reduceEq]
      rw [if_neg q]
      rfl
  rw [e0, e1]
  generalize hrn (fct (bk I (y, m, sh, st) z0) k) (I 12 r - rfr I r).toNat (rfr I r) [] = bs at e2 e3 ⊢
  match bs, e2, e3 with
  | [], _, _ =>
    simp (disch := omega) only [v_204_69, u_204_0, x_sipush, x_istore3i, x_istore3r, x_istore3u, x_iload1, x_ifCond_ne, x_ifCond_neb, x_goto, u_204_10, x_aload0, x_isub, x_call3_0, x_call3_1, x_call3_2, x_call3_3, x_call3_4, e_k_s, e_k_i, List.nil_append, List.cons_append, x_jsr, u_204_18, x_istore4i, x_istore4r, x_istore4u, x_iload4, x_if_icmp_ge, k_69_0, x_iadd, x_istore5i, x_istore5r, x_istore5u, x_iload5, k_69_4, x_iload3, u_204_69, x_iload2, u_204_80, x_iinc3i, x_iinc3r, x_iinc3u, u_204_87, x_if_icmp_ne, u_204_116, u_204_146, x_iinc4i, x_iinc4r, x_iinc4u, u_204_152, x_ifCond_eq, x_ifCond_eqb, u_204_165, u_204_169, u_204_170, x_zret0, x_zret1, x_zretb, ia_70, is_70, ia_73, is_73, List.length_nil, Int.cast_ofNat_Int, b01_0, ite_not, if_true, if_false, Int.reduceLT, Int.reduceEq]
    rfl
  | [b], e2, _ =>
    have p0 : P' 0 = if b = true then 1 else 0 := e2.1
    have l1 : ((([b] : List Bool).length : Nat) : Int) = 1 := rfl
    rw [l1]
    cases b with
    | true =>
      rw [if_pos rfl] at p0
      simp (disch := omega) only [v_204_69, u_204_0, x_sipush, x_istore3i, x_istore3r, x_istore3u, x_iload1, x_ifCond_ne, x_ifCond_neb, x_goto, u_204_10, x_aload0, x_isub, x_call3_0, x_call3_1, x_call3_2, x_call3_3, x_call3_4, e_k_s, e_k_i, List.nil_append, List.cons_append, x_jsr, u_204_18, x_istore4i, x_istore4r, x_istore4u, x_iload4, x_if_icmp_ge, k_69_0, x_iadd, x_istore5i, x_istore5r, x_istore5u, x_iload5, k_69_4, x_iload3, u_204_69, x_iload2, u_204_80, x_iinc3i, x_iinc3r, x_iinc3u, u_204_87, x_if_icmp_ne, u_204_116, u_204_146, x_iinc4i, x_iinc4r, x_iinc4u, u_204_152, x_ifCond_eq, x_ifCond_eqb, u_204_165, u_204_169, u_204_170, x_zret0, x_zret1, x_zretb, ia_70, is_70, ia_73, is_73, mk_p, p0, b01_0, ite_not, if_true, if_false, Int.reduceLT, Int.reduceEq]
      rfl
    | false =>
      rw [if_neg (by decide)] at p0
      simp (disch := omega) only [v_204_69, u_204_0, x_sipush, x_istore3i, x_istore3r, x_istore3u, x_iload1, x_ifCond_ne, x_ifCond_neb, x_goto, u_204_10, x_aload0, x_isub, x_call3_0, x_call3_1, x_call3_2, x_call3_3, x_call3_4, e_k_s, e_k_i, List.nil_append, List.cons_append, x_jsr, u_204_18, x_istore4i, x_istore4r, x_istore4u, x_iload4, x_if_icmp_ge, k_69_0, x_iadd, x_istore5i, x_istore5r, x_istore5u, x_iload5, k_69_4, x_iload3, u_204_69, x_iload2, u_204_80, x_iinc3i, x_iinc3r, x_iinc3u, u_204_87, x_if_icmp_ne, u_204_116, u_204_146, x_iinc4i, x_iinc4r, x_iinc4u, u_204_152, x_ifCond_eq, x_ifCond_eqb, u_204_165, u_204_169, u_204_170, x_zret0, x_zret1, x_zretb, ia_70, is_70, ia_73, is_73, mk_p, p0, b01_0, ite_not, if_true, if_false, Int.reduceLT, Int.reduceEq]
      rfl
theorem m_wi1 (h : inv I) (hE : RE I (M 70)) (hQ : RR I (M 70)) (hR : rok I) {c : co} (hco : cok I c) {sc : Int} {k : Int} (hk : 0 ≤ k ∧ k < I 1 9) : ∀ (n : Nat) (r : Int) (P : Int → Int), 0 ≤ r → r + n = I 9 5 → ∃ P', s_j X (d + 4) 200 2 [.ref 69, .int (iI k), .int (iI r)] [] (mm (mk M (I 1 9) c sc P) J) = some ([.int (iI (tel (fct (bk I c z0) k) (I 2 k) n r))], mm (mk M (I 1 9) c sc P') J) := by
  have hn6 := h.1
  have h8 := hR.1
  have s7 := hQ.1
  have hkd := h.2.2.2.2.2.2.1 k hk.1 hk.2
  have a0 := (hE.2.2.1 k hk.1 hk.2).1
  intro n
  induction n with
  | zero =>
    intro r P h0 hn
    refine ⟨P, ?_⟩
    rw [u_200_2]
    simp (disch := omega) only [v_200_69, u_200_0, x_sipush, x_istore2i, x_istore2r, x_istore2u, x_jsr, x_iload2, x_aload0, k_69_0, x_if_icmp_ge, x_iload1, x_call3_0, x_call3_1, x_call3_2, x_call3_3, x_call3_4, e_k_s, e_k_i, List.nil_append, List.cons_append, x_call2_0, x_call2_1, x_call2_2, x_call2_3, x_call2_4, x_ifCond_eq, x_ifCond_eqb, x_ireturn, u_200_47, x_iinc2i, x_iinc2r, x_iinc2u, x_goto, u_200_53, ia_70, mk_r, s7, b01_0, ite_not, if_true, if_false, Int.reduceLT, Int.reduceEq]
    rw [if_neg (by omega)]
    rfl
  | succ n ih =>
    intro r P h0 hn
    obtain ⟨q1, q2, q3, q4, q5⟩ := hQ.2 r h0 (by omega)
    obtain ⟨r1, r2, r3⟩ := hR.2 r h0 (by omega)
    have e1 := m_und (X := X) (d := d + 2) (I := mk M (I 1 9) c sc P) (J := J) (kd := I 2 k) (ab := I 10 r) (by omega) ⟨by omega, by omega⟩
    obtain ⟨P1, e2⟩ := m_hold (X := X) (d := d) (J := J) (M := M) h hE hQ hR hco (sc := sc) P hk (r := r) ⟨h0, by omega⟩
    have f10 : ∀ i, fct (bk I c z0) k 10 i = I 10 i := fun i => by rw [fct_o (by decide)]; rfl
    have f11 : ∀ i, fct (bk I c z0) k 11 i = I 11 i := fun i => by rw [fct_o (by decide)]; rfl
    unfold tel
    rw [f10, f11]
    by_cases c1 : und (I 2 k) (I 10 r)
    · rw [if_pos c1] at e1
      by_cases c2 : rhl (fct (bk I c z0) k) r
      · rw [if_pos c2] at e2
        refine ⟨P1, ?_⟩
        rw [if_pos ⟨c1, c2⟩, u_200_2]
        simp (disch := omega) only [v_200_69, u_200_0, x_sipush, x_istore2i, x_istore2r, x_istore2u, x_jsr, x_iload2, x_aload0, k_69_0, x_if_icmp_ge, x_iload1, x_call3_0, x_call3_1, x_call3_2, x_call3_3, x_call3_4, e_k_s, e_k_i, List.nil_append, List.cons_append, x_call2_0, x_call2_1, x_call2_2, x_call2_3, x_call2_4, x_ifCond_eq, x_ifCond_eqb, x_ireturn, u_200_47, x_iinc2i, x_iinc2r, x_iinc2u, x_goto, u_200_53, ia_70, m_get, m_rule, mk_r, s7, a0, q1, q2, e1, e2, b01_0, ite_not, if_true, if_false, Int.reduceLT, Int.reduceEq]
        rw [if_pos (by omega)]
      · rw [if_neg c2] at e2
        obtain ⟨P2, e3⟩ := ih (r + 1) P1 (by omega) (by omega)
        refine ⟨P2, ?_⟩
        rw [if_neg (fun q => c2 q.2), ← e3]
        conv => lhs; rw [u_200_2]
        simp (disch := omega) only [v_200_69, u_200_0, x_sipush, x_istore2i, x_istore2r, x_istore2u, x_jsr, x_iload2, x_aload0, k_69_0, x_if_icmp_ge, x_iload1, x_call3_0, x_call3_1, x_call3_2, x_call3_3, x_call3_4, e_k_s, e_k_i, List.nil_append, List.cons_append, x_call2_0, x_call2_1, x_call2_2, x_call2_3, x_call2_4, x_ifCond_eq, x_ifCond_eqb, x_ireturn, u_200_47, x_iinc2i, x_iinc2r, x_iinc2u, x_goto, u_200_53, ia_70, m_get, m_rule, mk_r, s7, a0, q1, q2, e1, e2, b01_0, ite_not, if_true, if_false, Int.reduceLT, Int.reduceEq]
        rw [if_pos (by omega)]
    · rw [if_neg c1] at e1
      obtain ⟨P2, e3⟩ := ih (r + 1) P (by omega) (by omega)
      refine ⟨P2, ?_⟩
      rw [if_neg (fun q => c1 q.1), ← e3]
      conv => lhs; rw [u_200_2]
      simp (disch := omega) only [v_200_69, u_200_0, x_sipush, x_istore2i, x_istore2r, x_istore2u, x_jsr, x_iload2, x_aload0, k_69_0, x_if_icmp_ge, x_iload1, x_call3_0, x_call3_1, x_call3_2, x_call3_3, x_call3_4, e_k_s, e_k_i, List.nil_append, List.cons_append, x_call2_0, x_call2_1, x_call2_2, x_call2_3, x_call2_4, x_ifCond_eq, x_ifCond_eqb, x_ireturn, u_200_47, x_iinc2i, x_iinc2r, x_iinc2u, x_goto, u_200_53, ia_70, m_get, m_rule, mk_r, s7, a0, q1, q2, e1, b01_0, ite_not, if_true, if_false, Int.reduceLT, Int.reduceEq]
      rw [if_pos (by omega)]
theorem m_will (h : inv I) (hE : RE I (M 70)) (hQ : RR I (M 70)) (hR : rok I) {c : co} (hco : cok I c) {sc : Int} (P : Int → Int) {k : Int} (hk : 0 ≤ k ∧ k < I 1 9) : ∃ P', s_S X (d + 5) 200 [.ref 69, .int (iI k)] (mm (mk M (I 1 9) c sc P) J) = some ([.int (iI (wil I c k))], mm (mk M (I 1 9) c sc P') J) := by
  have h8 := hR.1
  obtain ⟨P', e⟩ := m_wi1 (X := X) (d := d) (J := J) (M := M) h hE hQ hR hco (sc := sc) hk (I 9 5).toNat 0 P (by decide) (by omega)
  refine ⟨P', ?_⟩
  simp (disch := omega) only [v_200_69, u_200_0, x_sipush, x_istore2i, x_istore2r, x_istore2u, x_jsr, x_iload2, x_aload0, k_69_0, x_if_icmp_ge, x_iload1, x_call3_0, x_call3_1, x_call3_2, x_call3_3, x_call3_4, e_k_s, e_k_i, List.nil_append, List.cons_append, x_call2_0, x_call2_1, x_call2_2, x_call2_3, x_call2_4, x_ifCond_eq, x_ifCond_eqb, x_ireturn, u_200_47, x_iinc2i, x_iinc2r, x_iinc2u, x_goto, u_200_53, ia_70, e, b01_0, ite_not, if_true, if_false, Int.reduceLT, Int.reduceEq]
  rfl
end
