/-! THE MODEL: its small methods -/
theorem sv {a b : Int} {m : e_M} (h : a = b) : (some ([Value.int (iI a)], m) : e_R) = some ([Value.int (iI b)], m) := by rw [h]
section
variable {X : e_X} {d : Nat} {I J : Nat → Int → Int}
theorem m_in1 {v a b : Int} (h : rg v ∧ rg a ∧ rg b) : s_S X (d + 1) 172 [.int (iI v), .int (iI a), .int (iI b)] (mm I J) = some ([.int (iI (if a ≤ v ∧ v ≤ b then 1 else 0))], mm I J) := by
  simp (disch := omega) only [v_172, u_172_0, x_iload0, x_iload1, x_if_icmp_lt, x_iload2, x_if_icmp_gt, x_sipush, x_goto, u_172_14, x_jsr, u_172_15, x_zret0, x_zret1, x_zretb, b01_0, ite_not, if_true, if_false, Int.reduceLT, Int.reduceEq]
  (repeat' split) <;> first | rfl | (exfalso; omega)
def hld (v m : Int) : Int := if v < 0 then 0 else if m < v then m else v
theorem m_held {v m : Int} (h : rg v ∧ rg m) : s_S X (d + 1) 222 [.int (iI v), .int (iI m)] (mm I J) = some ([.int (iI (hld v m))], mm I J) := by
  unfold hld
  simp (disch := omega) only [v_222, u_222_0, x_iload0, x_ifCond_ge, x_sipush, x_goto, u_222_8, x_iload1, x_if_icmp_le, u_222_17, x_jsr, u_222_18, x_ireturn, b01_0, ite_not, if_true, if_false, Int.reduceLT, Int.reduceEq]
  (repeat' split) <;> first | rfl | (exfalso; omega)
theorem m_get {k f : Int} (h : 0 ≤ 38 + 6 * k + f ∧ 38 + 6 * k + f < 322) : s_S X (d + 1) 196 [.ref 69, .int (iI k), .int (iI f)] (mm I J) = some ([.int (iI (I 70 (38 + 6 * k + f)))], mm I J) := by
  simp (disch := omega) only [v_196_69, u_196_0, x_aload0, k_69_0, x_sipush, x_iload1, x_imul, x_iadd, x_iload2, x_ireturn, ia_70, b01_0, ite_not, if_true, if_false, Int.reduceLT, Int.reduceEq]
theorem m_puts {k f v : Int} (h : 0 ≤ 38 + 6 * k + f ∧ 38 + 6 * k + f < 322) : s_S X (d + 1) 192 [.ref 69, .int (iI k), .int (iI f), .int (iI v)] (mm I J) = some ([], mm (up I 70 (38 + 6 * k + f) v) J) := by
  simp (disch := omega) only [v_192_69, u_192_0, x_aload0, k_69_0, x_sipush, x_iload1, x_imul, x_iadd, x_iload2, x_iload3, x_return, is_70, b01_0, ite_not, if_true, if_false, Int.reduceLT, Int.reduceEq]
theorem m_rule {r w : Int} (h : 0 ≤ 98 + 3 * r + w ∧ 98 + 3 * r + w < 322) : s_S X (d + 1) 201 [.ref 69, .int (iI r), .int (iI w)] (mm I J) = some ([.int (iI (I 70 (98 + 3 * r + w)))], mm I J) := by
  simp (disch := omega) only [v_201_69, u_201_0, x_aload0, k_69_0, x_sipush, x_iload1, x_imul, x_iadd, x_iload2, x_ireturn, ia_70, b01_0, ite_not, if_true, if_false, Int.reduceLT, Int.reduceEq]
theorem m_bec {p v : Int} (h : 0 ≤ p ∧ p < 322) : s_S X (d + 1) 208 [.ref 69, .int (iI p), .int (iI v)] (mm I J) = some ([.int (iI (I 70 p))], mm (up I 70 p v) J) := by
  simp (disch := omega) only [v_208_69, u_208_0, x_aload0, k_69_0, x_iload1, x_istore3i, x_istore3r, x_istore3u, x_iload2, x_iload3, x_ireturn, ia_70, is_70, b01_0, ite_not, if_true, if_false, Int.reduceLT, Int.reduceEq]
theorem m_over {y e : Int} (hy : I 70 0 = y) (he : I 70 1 = e) (h : rg y ∧ rg e) : s_S X (d + 1) 217 [.ref 69] (mm I J) = some ([.int (iI (if e ≤ y then 1 else 0))], mm I J) := by
  simp (disch := omega) only [v_217_69, u_217_0, x_aload0, k_69_0, x_sipush, x_if_icmp_lt, x_goto, u_217_19, x_jsr, u_217_20, x_zret0, x_zret1, x_zretb, ia_70, hy, he, b01_0, ite_not, if_true, if_false, Int.reduceLT, Int.reduceEq]
  (repeat' split) <;> first | rfl | (exfalso; omega)
theorem m_isp {k n : Int} (hn : I 70 6 = n) (h : rg k ∧ 0 ≤ n ∧ n ≤ 6) : s_S X (d + 2) 194 [.ref 69, .int (iI k)] (mm I J) = some ([.int (iI (if 0 ≤ k ∧ k < n then 1 else 0))], mm I J) := by
  simp (disch := omega) only [v_194_69, u_194_0, x_iload1, x_sipush, x_aload0, k_69_0, x_isub, x_call3_0, x_call3_1, x_call3_2, x_call3_3, x_call3_4, e_k_s, e_k_i, List.nil_append, List.cons_append, x_zret0, x_zret1, x_zretb, ia_70, hn, m_in1, b01_0, ite_not, if_true, if_false, Int.reduceLT, Int.reduceEq]
  (repeat' split) <;> first | rfl | (exfalso; omega)
theorem m_isa {k n : Int} (hn : I 70 6 = n) (h : rg k ∧ 0 ≤ n ∧ n ≤ 6) : s_S X (d + 2) 276 [.ref 69, .int (iI k)] (mm I J) = some ([.int (iI (if 0 ≤ k ∧ k ≤ n then 1 else 0))], mm I J) := by
  simp (disch := omega) only [v_276_69, u_276_0, x_iload1, x_sipush, x_aload0, k_69_0, x_call3_0, x_call3_1, x_call3_2, x_call3_3, x_call3_4, e_k_s, e_k_i, List.nil_append, List.cons_append, x_zret0, x_zret1, x_zretb, ia_70, hn, m_in1, b01_0, ite_not, if_true, if_false, Int.reduceLT, Int.reduceEq]
theorem m_abv {k : Int} (h : rg k) : s_S X (d + 1) 203 [.int (iI k)] (mm I J) = some ([.int (iI (if k = 3 then 2 else if k = 5 then 4 else 0))], mm I J) := by
  simp (disch := omega) only [v_203, u_203_0, x_iload0, x_sipush, x_if_icmp_ne, x_goto, u_203_9, u_203_18, x_jsr, u_203_19, x_ireturn, b01_0, ite_not, if_true, if_false, Int.reduceLT, Int.reduceEq]
  (repeat' split) <;> first | rfl | (exfalso; omega)
theorem m_un1 {kd ab k : Int} (hk : 0 ≤ k ∧ k ≤ 5) (ha : rg ab) : s_j X (d + 1) 202 2 [.int (iI kd), .int (iI ab), .int (iI k)] [] (mm I J) = if k = ab ∨ k = 0 then some ([.int (iI (if k = ab then 1 else 0))], mm I J) else s_j X (d + 1) 202 2 [.int (iI kd), .int (iI ab), .int (iI (if k = 3 then 2 else if k = 5 then 4 else 0))] [] (mm I J) := by
  rw [u_202_2]
  simp (disch := omega) only [v_202, u_202_0, x_iload0, x_istore2i, x_istore2r, x_istore2u, x_jsr, x_iload2, x_iload1, x_if_icmp_eq, x_ifCond_eq, x_ifCond_eqb, x_call1_0, x_call1_1, x_call1_2, x_call1_3, x_call1_4, e_k_s, e_k_i, List.nil_append, List.cons_append, x_goto, u_202_19, x_if_icmp_ne, x_sipush, u_202_28, u_202_29, x_zret0, x_zret1, x_zretb, m_abv, b01_0, ite_not, if_true, if_false, Int.reduceLT, Int.reduceEq]
  (repeat' split) <;> first | rfl | (exfalso; omega)
theorem m_und {kd ab : Int} (hk : 0 ≤ kd ∧ kd ≤ 5) (ha : rg ab) : s_S X (d + 2) 202 [.int (iI kd), .int (iI ab)] (mm I J) = some ([.int (iI (if und kd ab then 1 else 0))], mm I J) := by
  have e : s_S X (d + 2) 202 [.int (iI kd), .int (iI ab)] (mm I J) = s_j X (d + 1) 202 2 [.int (iI kd), .int (iI ab), .int (iI kd)] [] (mm I J) := by
    simp (disch := omega) only [v_202, u_202_0, x_iload0, x_istore2i, x_istore2r, x_istore2u, x_jsr, x_iload2, x_iload1, x_if_icmp_eq, x_ifCond_eq, x_ifCond_eqb, x_call1_0, x_call1_1, x_call1_2, x_call1_3, x_call1_4, e_k_s, e_k_i, List.nil_append, List.cons_append, x_goto, u_202_19, x_if_icmp_ne, x_sipush, u_202_28, u_202_29, x_zret0, x_zret1, x_zretb, b01_0, ite_not, if_true, if_false, Int.reduceLT, Int.reduceEq]
  rw [e]
  have e0 : s_j X (d + 1) 202 2 [.int (iI kd), .int (iI ab), .int (iI 0)] [] (mm I J) = some ([.int (iI (if 0 = ab then 1 else 0))], mm I J) := by
    rw [m_un1 (by decide) ha, if_pos (Or.inr rfl)]
  have : kd = 0 ∨ kd = 1 ∨ kd = 2 ∨ kd = 3 ∨ kd = 4 ∨ kd = 5 := by omega
  rcases this with rfl | rfl | rfl | rfl | rfl | rfl
  · rw [e0]
    (repeat' split) <;> first | rfl | (exfalso; omega)
  · rw [m_un1 (by decide) ha, show (if (1 : Int) = 3 then (2 : Int) else if (1 : Int) = 5 then 4 else 0) = 0 from rfl, e0]
    (repeat' split) <;> first | rfl | (exfalso; omega)
  · rw [m_un1 (by decide) ha, show (if (2 : Int) = 3 then (2 : Int) else if (2 : Int) = 5 then 4 else 0) = 0 from rfl, e0]
    (repeat' split) <;> first | rfl | (exfalso; omega)
  · rw [m_un1 (by decide) ha, show (if (3 : Int) = 3 then (2 : Int) else if (3 : Int) = 5 then 4 else 0) = 2 from rfl, m_un1 (k := 2) (by decide) ha, show (if (2 : Int) = 3 then (2 : Int) else if (2 : Int) = 5 then 4 else 0) = 0 from rfl, e0]
    (repeat' split) <;> first | rfl | (exfalso; omega)
  · rw [m_un1 (by decide) ha, show (if (4 : Int) = 3 then (2 : Int) else if (4 : Int) = 5 then 4 else 0) = 0 from rfl, e0]
    (repeat' split) <;> first | rfl | (exfalso; omega)
  · rw [m_un1 (by decide) ha, show (if (5 : Int) = 3 then (2 : Int) else if (5 : Int) = 5 then 4 else 0) = 4 from rfl, m_un1 (k := 4) (by decide) ha, show (if (4 : Int) = 3 then (2 : Int) else if (4 : Int) = 5 then 4 else 0) = 0 from rfl, e0]
    (repeat' split) <;> first | rfl | (exfalso; omega)
theorem m_span {kd w y : Int} (h : rg kd ∧ (0 ≤ w ∧ w ≤ 9) ∧ 0 ≤ y ∧ y ≤ 16) : s_S X (d + 1) 197 [.int (iI kd), .int (iI w), .int (iI y)] (mm I J) = some ([.int (iI (spn kd w y))], mm I J) := by
  unfold spn
  simp (disch := omega) only [v_197, u_197_0, x_sipush, x_iload1, x_idivI, x_iadd, x_istore3i, x_istore3r, x_istore3u, x_iload3, x_if_icmp_le, x_goto, u_197_15, x_jsr, u_197_16, x_istore4i, x_istore4r, x_istore4u, x_iload0, x_switch, e_sw_c, e_sw_n, u_197_52, x_imul, x_ireturn, u_197_56, u_197_60, x_iload2, x_iremI, x_if_icmp_ne, u_197_71, u_197_74, u_197_75, x_iload4, u_197_78, x_ifCond_ne, x_ifCond_neb, u_197_88, u_197_90, u_197_91, tdiv_n, tmod_n, b01_0, ite_not, if_true, if_false, Int.reduceLT, Int.reduceEq]
  (repeat' split) <;> first | rfl | (exfalso; omega) | (refine sv ?_; omega)
theorem m_mood {nw md : Int} (h : (0 ≤ nw ∧ nw ≤ 15) ∧ 0 ≤ md ∧ md ≤ 9) : s_S X (d + 2) 221 [.int (iI md), .int (iI nw)] (mm I J) = some ([.int (iI (mdb nw md))], mm I J) := by
  unfold mdb
  simp (disch := omega) only [v_221, u_221_0, x_iload1, x_sipush, x_idivI, x_istore2i, x_istore2r, x_istore2u, x_iload0, x_if_icmp_ge, x_isub, x_goto, u_221_15, x_jsr, u_221_18, x_istore3i, x_istore3r, x_istore3u, x_iload3, x_iload2, u_221_28, u_221_29, x_istore4i, x_istore4r, x_istore4u, x_iremI, x_switch, e_sw_c, e_sw_n, u_221_60, x_iadd, x_call2_0, x_call2_1, x_call2_2, x_call2_3, x_call2_4, e_k_s, e_k_i, List.nil_append, List.cons_append, x_ireturn, u_221_69, u_221_78, x_iload4, u_221_90, u_221_94, u_221_95, tdiv_n, tmod_n, m_held, b01_0, ite_not, if_true, if_false, Int.reduceLT, Int.reduceEq]
  unfold hld
  (repeat' split) <;> first | rfl | (exfalso; omega) | (refine sv ?_; omega)
end
/-! the model's row of numbers over a base -/
def mk (M : Nat → Int → Int) (n : Int) (c : co) (sc : Int) (P : Int → Int) : Nat → Int → Int := fun o k =>
  if o = 70 then (if k = 0 then c.1 else if k = 2 then sc else if k = 3 then c.2.1 else if k = 4 then c.2.2.1 else if 38 ≤ k ∧ k < 38 + 6 * n ∧ (k - 38) % 6 = 4 then bt c.2.2.2 ((k - 38) / 6) else M 70 k) else if o = 73 then P k else M o k
/-- what a model's row has of a table -/
def RE (I : Nat → Int → Int) (S : Int → Int) : Prop := S 1 = I 1 12 ∧ S 6 = I 1 9 ∧ (∀ k, 0 ≤ k → k < I 1 9 → S (38 + 6 * k + 0) = I 2 k ∧ S (38 + 6 * k + 1) = I 3 k ∧ S (38 + 6 * k + 2) = I 4 k ∧ S (38 + 6 * k + 3) = I 5 k) ∧
  (∀ g, 0 ≤ g → g < 6 → S (26 + g) = I 6 g ∧ S (32 + g) = I 7 g) ∧ ∀ y, 0 ≤ y → y < 16 → S (10 + y) = I 8 y
section
variable {M : Nat → Int → Int} {n y m h s sc v k : Int} {P : Int → Int}
theorem mk_0 : mk M n (y, m, h, s) sc P 70 0 = y := rfl
theorem mk_2 : mk M n (y, m, h, s) sc P 70 2 = sc := rfl
theorem mk_3 : mk M n (y, m, h, s) sc P 70 3 = m := rfl
theorem mk_4 : mk M n (y, m, h, s) sc P 70 4 = h := rfl
theorem mk_r {c : co} (q : (k ≠ 0 ∧ k ≠ 2 ∧ k ≠ 3 ∧ k ≠ 4) ∧ ¬ (38 ≤ k ∧ k < 38 + 6 * n ∧ (k - 38) % 6 = 4)) : mk M n c sc P 70 k = M 70 k := by
  obtain ⟨⟨q0, q2, q3, q4⟩, q5⟩ := q
  unfold mk
  rw [if_pos rfl, if_neg q0, if_neg q2, if_neg q3, if_neg q4, if_neg q5]
theorem mk_s (q : 0 ≤ k ∧ k < n) : mk M n (y, m, h, s) sc P 70 (38 + 6 * k + 4) = bt s k := by
  unfold mk
  rw [if_pos rfl, if_neg (by omega), if_neg (by omega), if_neg (by omega), if_neg (by omega), if_pos (by omega)]
  show bt s ((38 + 6 * k + 4 - 38) / 6) = _
  rw [show (38 + 6 * k + 4 - 38) / 6 = k by omega]
theorem mk_p {c : co} : mk M n c sc P 73 = P := rfl
theorem mk_o {c : co} {o : Nat} (h1 : o ≠ 70) (h2 : o ≠ 73) : mk M n c sc P o = M o := by
  funext k
  unfold mk
  rw [if_neg h1, if_neg h2]
theorem mk_u0 : up (mk M n (y, m, h, s) sc P) 70 0 v = mk M n (v, m, h, s) sc P := by
  funext o k
  unfold up mk
  (repeat' split) <;> simp_all
theorem mk_u2 : up (mk M n (y, m, h, s) sc P) 70 2 v = mk M n (y, m, h, s) v P := by
  funext o k
  unfold up mk
  (repeat' split) <;> simp_all
theorem mk_u3 : up (mk M n (y, m, h, s) sc P) 70 3 v = mk M n (y, v, h, s) sc P := by
  funext o k
  unfold up mk
  (repeat' split) <;> simp_all
theorem mk_u4 : up (mk M n (y, m, h, s) sc P) 70 4 v = mk M n (y, m, v, s) sc P := by
  funext o k
  unfold up mk
  (repeat' split) <;> simp_all
theorem mk_uP {c : co} : up (mk M n c sc P) 73 k v = mk M n c sc (upf P k v) := by
  funext o b
  unfold up mk upf
  (repeat' split) <;> simp_all
theorem mk_us (hn : 0 ≤ n ∧ n ≤ 6) (hs : 0 ≤ s ∧ s < 64) (q : 0 ≤ k ∧ k < n) (hv : v = 0 ∨ v = 1) : up (mk M n (y, m, h, s) sc P) 70 (38 + 6 * k + 4) v = mk M n (y, m, h, stb s k v) sc P := by
  have hb := (stb_i hs (k := k) (by omega)).2.2.2
  funext o b
  unfold up mk
  by_cases ho : o = 70
  · subst ho
    simp only [true_and, if_true]
    by_cases hbk : b = 38 + 6 * k + 4
    · subst hbk
      rw [if_pos rfl, if_neg (by omega), if_neg (by omega), if_neg (by omega), if_neg (by omega), if_pos (by omega), show (38 + 6 * k + 4 - 38) / 6 = k by omega]
      rcases hv with rfl | rfl
      · rw [(hb k (by omega)).2, if_pos rfl]
      · rw [(hb k (by omega)).1, if_pos rfl]
    · rw [if_neg hbk]
      by_cases hc : 38 ≤ b ∧ b < 38 + 6 * n ∧ (b - 38) % 6 = 4
      · rw [if_pos hc, if_pos hc]
        have hx : bt (stb s k v) ((b - 38) / 6) = bt s ((b - 38) / 6) := by
          rcases hv with rfl | rfl
          · rw [(hb _ (by omega)).2, if_neg (by omega)]
          · rw [(hb _ (by omega)).1, if_neg (by omega)]
        rw [hx]
      · rw [if_neg hc, if_neg hc]
  · rw [if_neg (fun q => ho q.1), if_neg ho, if_neg ho]
end
