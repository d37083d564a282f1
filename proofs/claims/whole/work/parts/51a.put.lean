/-! PAIRS: the table, pieces -/
section
variable {X : e_X} {d : Nat} {I J : Nat → Int → Int}
theorem b_in {v a b : Int} (h : a ≤ v ∧ v ≤ b) (hr : rg v ∧ rg a ∧ rg b) : s_S X (d + 1) 109 [.int (iI v), .int (iI a), .int (iI b)] (mm I J) = some ([.int (iI 0)], mm I J) := by
  rw [b_out hr.1 hr.2.1 hr.2.2, if_neg (by omega)]
theorem b_nin {v a b : Int} (h : v < a ∨ b < v) (hr : rg v ∧ rg a ∧ rg b) : s_S X (d + 1) 109 [.int (iI v), .int (iI a), .int (iI b)] (mm I J) = some ([.int (iI 1)], mm I J) := by
  rw [b_out hr.1 hr.2.1 hr.2.2, if_pos h]
theorem m_in {v a b : Int} (h : a ≤ v ∧ v ≤ b) (hr : rg v ∧ rg a ∧ rg b) : s_S X (d + 1) 172 [.int (iI v), .int (iI a), .int (iI b)] (mm I J) = some ([.int (iI 1)], mm I J) := by
  rw [m_in1 hr, if_pos h]
theorem m_nin {v a b : Int} (h : v < a ∨ b < v) (hr : rg v ∧ rg a ∧ rg b) : s_S X (d + 1) 172 [.int (iI v), .int (iI a), .int (iI b)] (mm I J) = some ([.int (iI 0)], mm I J) := by
  rw [m_in1 hr, if_neg (by omega)]
theorem t_in {k : Int} (h : 0 ≤ k ∧ k < I 1 9) (hn : I 1 9 ≤ 6) : s_S X (d + 1) 69 [.ref 1, .int (iI k)] (mm I J) = some ([.int (iI 1)], mm I J) := by
  rw [t_has (n := I 1 9) ⟨by omega, by omega⟩ rfl ⟨by omega, hn⟩, if_pos h]
theorem t_nin {k : Int} (h : k < 0 ∨ I 1 9 ≤ k) (hr : rg k ∧ 0 ≤ I 1 9 ∧ I 1 9 ≤ 6) : s_S X (d + 1) 69 [.ref 1, .int (iI k)] (mm I J) = some ([.int (iI 0)], mm I J) := by
  rw [t_has (n := I 1 9) hr.1 rfl hr.2, if_neg (by omega)]
theorem m_pin {k : Int} (h : 0 ≤ k ∧ k < I 70 6) (hn : I 70 6 ≤ 6) : s_S X (d + 2) 194 [.ref 69, .int (iI k)] (mm I J) = some ([.int (iI 1)], mm I J) := by
  rw [m_isp (n := I 70 6) rfl ⟨⟨by omega, by omega⟩, by omega, hn⟩, if_pos h]
theorem m_pnin {k : Int} (h : k < 0 ∨ I 70 6 ≤ k) (hr : rg k ∧ 0 ≤ I 70 6 ∧ I 70 6 ≤ 6) : s_S X (d + 2) 194 [.ref 69, .int (iI k)] (mm I J) = some ([.int (iI 0)], mm I J) := by
  rw [m_isp (n := I 70 6) rfl hr, if_neg (by omega)]
theorem m_39 {v : Int} (hr : rg v) : s_S X (d + 2) 189 [.int (iI v)] (mm I J) = some ([.int (iI (if 0 ≤ v ∧ v ≤ 39 then 1 else 0))], mm I J) := by
  simp (disch := omega) only [v_189, u_189_0, x_iload0, x_sipush, x_call3_0, x_call3_1, x_call3_2, x_call3_3, x_call3_4, e_k_s, e_k_i, List.nil_append, List.cons_append, x_zret0, x_zret1, x_zretb, m_in1, ↓reduceIte, b01_0, ite_not, if_true, if_false, Int.reduceLT, Int.reduceEq]
theorem m_9 {v : Int} (hr : rg v) : s_S X (d + 2) 190 [.int (iI v)] (mm I J) = some ([.int (iI (if 0 ≤ v ∧ v ≤ 9 then 1 else 0))], mm I J) := by
  simp (disch := omega) only [v_190, u_190_0, x_iload0, x_sipush, x_call3_0, x_call3_1, x_call3_2, x_call3_3, x_call3_4, e_k_s, e_k_i, List.nil_append, List.cons_append, x_zret0, x_zret1, x_zretb, m_in1, ↓reduceIte, b01_0, ite_not, if_true, if_false, Int.reduceLT, Int.reduceEq]
theorem m_5 {v : Int} (hr : rg v) : s_S X (d + 2) 191 [.int (iI v)] (mm I J) = some ([.int (iI (if 0 ≤ v ∧ v ≤ 5 then 1 else 0))], mm I J) := by
  simp (disch := omega) only [v_191, u_191_0, x_iload0, x_sipush, x_call3_0, x_call3_1, x_call3_2, x_call3_3, x_call3_4, e_k_s, e_k_i, List.nil_append, List.cons_append, x_zret0, x_zret1, x_zretb, m_in1, ↓reduceIte, b01_0, ite_not, if_true, if_false, Int.reduceLT, Int.reduceEq]
theorem m_3 {v : Int} (hr : rg v) : s_S X (d + 2) 278 [.int (iI v)] (mm I J) = some ([.int (iI (if 0 ≤ v ∧ v ≤ 3 then 1 else 0))], mm I J) := by
  simp (disch := omega) only [v_278, u_278_0, x_iload0, x_sipush, x_call3_0, x_call3_1, x_call3_2, x_call3_3, x_call3_4, e_k_s, e_k_i, List.nil_append, List.cons_append, x_zret0, x_zret1, x_zretb, m_in1, ↓reduceIte, b01_0, ite_not, if_true, if_false, Int.reduceLT, Int.reduceEq]
theorem b_put2 {k v : Int} (h : 0 ≤ k ∧ k < 6) : s_S X (d + 2) 114 [.ref 2, .int (iI k), .int (iI v)] (mm I J) = some ([.int (iI (I 2 k))], mm (up I 2 k v) J) := by
  simp (disch := omega) only [v_114, u_114_0, x_iload1, x_sipush, x_aload0, x_isub, x_call3_0, x_call3_1, x_call3_2, x_call3_3, x_call3_4, e_k_s, e_k_i, List.nil_append, List.cons_append, x_ifCond_eq, x_ifCond_eqb, x_ireturn, u_114_14, x_istore3i, x_istore3r, x_istore3u, x_iload2, x_iload3, al_2, ia_2, is_2, b_in, ↓reduceIte, b01_0, ite_not, if_true, if_false, Int.reduceLT, Int.reduceEq]
theorem b_put3 {k v : Int} (h : 0 ≤ k ∧ k < 6) : s_S X (d + 2) 114 [.ref 3, .int (iI k), .int (iI v)] (mm I J) = some ([.int (iI (I 3 k))], mm (up I 3 k v) J) := by
  simp (disch := omega) only [v_114, u_114_0, x_iload1, x_sipush, x_aload0, x_isub, x_call3_0, x_call3_1, x_call3_2, x_call3_3, x_call3_4, e_k_s, e_k_i, List.nil_append, List.cons_append, x_ifCond_eq, x_ifCond_eqb, x_ireturn, u_114_14, x_istore3i, x_istore3r, x_istore3u, x_iload2, x_iload3, al_3, ia_3, is_3, b_in, ↓reduceIte, b01_0, ite_not, if_true, if_false, Int.reduceLT, Int.reduceEq]
theorem b_put4 {k v : Int} (h : 0 ≤ k ∧ k < 6) : s_S X (d + 2) 114 [.ref 4, .int (iI k), .int (iI v)] (mm I J) = some ([.int (iI (I 4 k))], mm (up I 4 k v) J) := by
  simp (disch := omega) only [v_114, u_114_0, x_iload1, x_sipush, x_aload0, x_isub, x_call3_0, x_call3_1, x_call3_2, x_call3_3, x_call3_4, e_k_s, e_k_i, List.nil_append, List.cons_append, x_ifCond_eq, x_ifCond_eqb, x_ireturn, u_114_14, x_istore3i, x_istore3r, x_istore3u, x_iload2, x_iload3, al_4, ia_4, is_4, b_in, ↓reduceIte, b01_0, ite_not, if_true, if_false, Int.reduceLT, Int.reduceEq]
theorem b_put5 {k v : Int} (h : 0 ≤ k ∧ k < 6) : s_S X (d + 2) 114 [.ref 5, .int (iI k), .int (iI v)] (mm I J) = some ([.int (iI (I 5 k))], mm (up I 5 k v) J) := by
  simp (disch := omega) only [v_114, u_114_0, x_iload1, x_sipush, x_aload0, x_isub, x_call3_0, x_call3_1, x_call3_2, x_call3_3, x_call3_4, e_k_s, e_k_i, List.nil_append, List.cons_append, x_ifCond_eq, x_ifCond_eqb, x_ireturn, u_114_14, x_istore3i, x_istore3r, x_istore3u, x_iload2, x_iload3, al_5, ia_5, is_5, b_in, ↓reduceIte, b01_0, ite_not, if_true, if_false, Int.reduceLT, Int.reduceEq]
theorem b_put6 {k v : Int} (h : 0 ≤ k ∧ k < 6) : s_S X (d + 2) 114 [.ref 6, .int (iI k), .int (iI v)] (mm I J) = some ([.int (iI (I 6 k))], mm (up I 6 k v) J) := by
  simp (disch := omega) only [v_114, u_114_0, x_iload1, x_sipush, x_aload0, x_isub, x_call3_0, x_call3_1, x_call3_2, x_call3_3, x_call3_4, e_k_s, e_k_i, List.nil_append, List.cons_append, x_ifCond_eq, x_ifCond_eqb, x_ireturn, u_114_14, x_istore3i, x_istore3r, x_istore3u, x_iload2, x_iload3, al_6, ia_6, is_6, b_in, ↓reduceIte, b01_0, ite_not, if_true, if_false, Int.reduceLT, Int.reduceEq]
theorem b_put7 {k v : Int} (h : 0 ≤ k ∧ k < 6) : s_S X (d + 2) 114 [.ref 7, .int (iI k), .int (iI v)] (mm I J) = some ([.int (iI (I 7 k))], mm (up I 7 k v) J) := by
  simp (disch := omega) only [v_114, u_114_0, x_iload1, x_sipush, x_aload0, x_isub, x_call3_0, x_call3_1, x_call3_2, x_call3_3, x_call3_4, e_k_s, e_k_i, List.nil_append, List.cons_append, x_ifCond_eq, x_ifCond_eqb, x_ireturn, u_114_14, x_istore3i, x_istore3r, x_istore3u, x_iload2, x_iload3, al_7, ia_7, is_7, b_in, ↓reduceIte, b01_0, ite_not, if_true, if_false, Int.reduceLT, Int.reduceEq]
theorem b_put8 {k v : Int} (h : 0 ≤ k ∧ k < 16) : s_S X (d + 2) 114 [.ref 8, .int (iI k), .int (iI v)] (mm I J) = some ([.int (iI (I 8 k))], mm (up I 8 k v) J) := by
  simp (disch := omega) only [v_114, u_114_0, x_iload1, x_sipush, x_aload0, x_isub, x_call3_0, x_call3_1, x_call3_2, x_call3_3, x_call3_4, e_k_s, e_k_i, List.nil_append, List.cons_append, x_ifCond_eq, x_ifCond_eqb, x_ireturn, u_114_14, x_istore3i, x_istore3r, x_istore3u, x_iload2, x_iload3, al_8, ia_8, is_8, b_in, ↓reduceIte, b01_0, ite_not, if_true, if_false, Int.reduceLT, Int.reduceEq]
end
theorem inv_u2 {I : Nat → Int → Int} {k v : Int} (h : inv I) (hv : 1 ≤ v ∧ v ≤ 5) : inv (up I 2 k v) := by
  obtain ⟨h1, h2, h3, h4, h5, h6, h7, h8, h9⟩ := h
  refine ⟨h1, h2, h3, h4, h5, h6, fun j j0 j1 => ?_, h8, h9⟩
  obtain ⟨a1, a2, a3, a4⟩ := h7 j j0 j1
  refine ⟨?_, a2, a3, a4⟩
  rw [up_row]
  split
  · exact hv
  · exact a1
theorem inv_u5 {I : Nat → Int → Int} {k v : Int} (h : inv I) (hv : 0 ≤ v ∧ v ≤ 5) : inv (up I 5 k v) := by
  obtain ⟨h1, h2, h3, h4, h5, h6, h7, h8, h9⟩ := h
  refine ⟨h1, h2, h3, h4, h5, h6, fun j j0 j1 => ?_, h8, h9⟩
  obtain ⟨a1, a2, a3, a4⟩ := h7 j j0 j1
  refine ⟨a1, a2, a3, ?_⟩
  rw [up_row]
  split
  · exact hv
  · exact a4
theorem inv_u6 {I : Nat → Int → Int} {k v : Int} (h : inv I) (hv : 0 ≤ v ∧ v ≤ 9) : inv (up I 6 k v) := by
  obtain ⟨h1, h2, h3, h4, h5, h6, h7, h8, h9⟩ := h
  refine ⟨h1, h2, h3, h4, h5, h6, h7, fun j j0 j1 => ?_, h9⟩
  refine ⟨?_, (h8 j j0 j1).2⟩
  rw [up_row]
  split
  · exact hv
  · exact (h8 j j0 j1).1
theorem inv_u7 {I : Nat → Int → Int} {k v : Int} (h : inv I) (hv : 0 ≤ v ∧ v ≤ 9) : inv (up I 7 k v) := by
  obtain ⟨h1, h2, h3, h4, h5, h6, h7, h8, h9⟩ := h
  refine ⟨h1, h2, h3, h4, h5, h6, h7, fun j j0 j1 => ?_, h9⟩
  refine ⟨(h8 j j0 j1).1, ?_⟩
  rw [up_row]
  split
  · exact hv
  · exact (h8 j j0 j1).2
theorem inv_u8 {I : Nat → Int → Int} {k v : Int} (h : inv I) (hv : 0 ≤ v ∧ v ≤ 15) : inv (up I 8 k v) := by
  obtain ⟨h1, h2, h3, h4, h5, h6, h7, h8, h9⟩ := h
  refine ⟨h1, h2, h3, h4, h5, h6, h7, h8, fun j j0 j1 => ?_⟩
  rw [up_row]
  split
  · exact hv
  · exact h9 j j0 j1
/-- which cell of the class's table is which of the model's row -/
def cor (o : Nat) (k p : Int) : Prop := (o = 2 ∧ p = 38 + 6 * k + 0 ∧ 0 ≤ k ∧ k < 6) ∨ (o = 3 ∧ p = 38 + 6 * k + 1 ∧ 0 ≤ k ∧ k < 6) ∨ (o = 4 ∧ p = 38 + 6 * k + 2 ∧ 0 ≤ k ∧ k < 6) ∨ (o = 5 ∧ p = 38 + 6 * k + 3 ∧ 0 ≤ k ∧ k < 6) ∨ (o = 6 ∧ p = 26 + k ∧ 0 ≤ k ∧ k < 6) ∨ (o = 7 ∧ p = 32 + k ∧ 0 ≤ k ∧ k < 6) ∨ (o = 8 ∧ p = 10 + k ∧ 0 ≤ k ∧ k < 16)
theorem RE_up {T : Nat → Int → Int} {S : Int → Int} {o : Nat} {k p v : Int} (hc : cor o k p) (hn : 0 ≤ T 1 9 ∧ T 1 9 ≤ 6) (h : RE T S) : RE (up T o k v) (upf S p v) := by
  obtain ⟨e1, e2, e3, e4, e5⟩ := h
  have h19 : up T o k v 1 9 = T 1 9 := up_o (by unfold cor at hc; omega)
  have h112 : up T o k v 1 12 = T 1 12 := up_o (by unfold cor at hc; omega)
  unfold RE
  rw [h19, h112]
  refine ⟨?_, ?_, fun j j0 j1 => ?_, fun g g0 g1 => ?_, fun y y0 y1 => ?_⟩
  · unfold upf
    rw [if_neg (by unfold cor at hc; omega)]
    exact e1
  · unfold upf
    rw [if_neg (by unfold cor at hc; omega)]
    exact e2
  · obtain ⟨a0, a1, a2, a3⟩ := e3 j j0 j1
    rcases hc with ⟨rfl, rfl, -⟩ | ⟨rfl, rfl, -⟩ | ⟨rfl, rfl, -⟩ | ⟨rfl, rfl, -⟩ | ⟨rfl, rfl, q⟩ | ⟨rfl, rfl, q⟩ | ⟨rfl, rfl, q⟩
    · refine ⟨?_, ?_, ?_, ?_⟩ <;> (unfold upf up; (repeat' split) <;> first | rfl | assumption | (exfalso; omega))
    · refine ⟨?_, ?_, ?_, ?_⟩ <;> (unfold upf up; (repeat' split) <;> first | rfl | assumption | (exfalso; omega))
    · refine ⟨?_, ?_, ?_, ?_⟩ <;> (unfold upf up; (repeat' split) <;> first | rfl | assumption | (exfalso; omega))
    · refine ⟨?_, ?_, ?_, ?_⟩ <;> (unfold upf up; (repeat' split) <;> first | rfl | assumption | (exfalso; omega))
    · refine ⟨?_, ?_, ?_, ?_⟩ <;> (unfold upf up; (repeat' split) <;> first | rfl | assumption | (exfalso; omega))
    · refine ⟨?_, ?_, ?_, ?_⟩ <;> (unfold upf up; (repeat' split) <;> first | rfl | assumption | (exfalso; omega))
    · refine ⟨?_, ?_, ?_, ?_⟩ <;> (unfold upf up; (repeat' split) <;> first | rfl | assumption | (exfalso; omega))
  · obtain ⟨a0, a1⟩ := e4 g g0 g1
    rcases hc with ⟨rfl, rfl, q⟩ | ⟨rfl, rfl, q⟩ | ⟨rfl, rfl, q⟩ | ⟨rfl, rfl, q⟩ | ⟨rfl, rfl, q⟩ | ⟨rfl, rfl, q⟩ | ⟨rfl, rfl, q⟩
    · refine ⟨?_, ?_⟩ <;> (unfold upf up; (repeat' split) <;> first | rfl | assumption | (exfalso; omega))
    · refine ⟨?_, ?_⟩ <;> (unfold upf up; (repeat' split) <;> first | rfl | assumption | (exfalso; omega))
    · refine ⟨?_, ?_⟩ <;> (unfold upf up; (repeat' split) <;> first | rfl | assumption | (exfalso; omega))
    · refine ⟨?_, ?_⟩ <;> (unfold upf up; (repeat' split) <;> first | rfl | assumption | (exfalso; omega))
    · refine ⟨?_, ?_⟩ <;> (unfold upf up; (repeat' split) <;> first | rfl | assumption | (exfalso; omega))
    · refine ⟨?_, ?_⟩ <;> (unfold upf up; (repeat' split) <;> first | rfl | assumption | (exfalso; omega))
    · refine ⟨?_, ?_⟩ <;> (unfold upf up; (repeat' split) <;> first | rfl | assumption | (exfalso; omega))
  · have a0 := e5 y y0 y1
    rcases hc with ⟨rfl, rfl, q⟩ | ⟨rfl, rfl, q⟩ | ⟨rfl, rfl, q⟩ | ⟨rfl, rfl, q⟩ | ⟨rfl, rfl, q⟩ | ⟨rfl, rfl, q⟩ | ⟨rfl, rfl, q⟩ <;> (unfold upf up; (repeat' split) <;> first | rfl | assumption | (exfalso; omega))
theorem TB_up {T : Nat → Int → Int} {S : Int → Int} {o : Nat} {k p v : Int} (hc : cor o k p) (h : TB T S) (hi : inv (up T o k v)) : TB (up T o k v) (upf S p v) := by
  obtain ⟨a1, a2, a3, a4, a5, a6, a7⟩ := h
  have ho : 2 ≤ o ∧ o ≤ 8 := by unfold cor at hc; omega
  have hp : 10 ≤ p ∧ p < 74 ∧ ¬ (38 ≤ p ∧ (p - 38) % 6 = 4) := by unfold cor at hc; omega
  have hr : ∀ a : Nat, (a = 1 ∨ 9 ≤ a) → up T o k v a = T a := fun a ha => by
    funext b
    exact up_o (by omega)
  have hs : ∀ x, x ≠ p → upf S p v x = S x := fun x hx => if_neg hx
  refine ⟨hi, rok_u (by omega) a2, ?_, RE_up hc a1.1 a4, RR_eq (by rw [hr 9 (by omega)]) (hr 10 (by omega)) (hr 11 (by omega)) (hr 12 (by omega)) (hr 13 (by omega)) (hs 7 (by omega)) (fun x hx => hs x (by omega)) a5, ?_, ?_⟩
  · unfold rpk
    rw [hr 15 (by omega), hr 16 (by omega), hr 17 (by omega), hr 18 (by omega), hr 19 (by omega)]
    exact a3
  · have a36 := a3.1
    unfold RP
    rw [hr 15 (by omega), hr 16 (by omega), hr 17 (by omega), hr 18 (by omega), hr 19 (by omega), hs 8 (by omega)]
    refine ⟨a6.1, fun r r0 r1 => ?_⟩
    rw [hs _ (by omega), hs _ (by omega), hs _ (by omega), hs _ (by omega)]
    exact a6.2 r r0 r1
  · obtain ⟨c0, c2, c3, c4, c5, c6⟩ := a7
    unfold RC
    rw [hr 1 (by omega), hs 0 (by omega), hs 2 (by omega), hs 3 (by omega), hs 4 (by omega), hs 5 (by omega)]
    refine ⟨c0, c2, c3, c4, c5, fun j j0 j1 => ?_⟩
    rw [hs _ (by omega)]
    exact c6 j j0 j1
theorem up_upf {I : Nat → Int → Int} {o : Nat} {k v : Int} : up I o k v o = upf (I o) k v := by
  funext b
  unfold up upf
  by_cases q : b = k
  · rw [if_pos ⟨rfl, q⟩, if_pos q]
  · rw [if_neg (fun z => q z.2), if_neg q]
/-- a cell put in both -/
theorem Rel_put {I J : Nat → Int → Int} {o : Nat} {k p v : Int} (hc : cor o k p) (h : Rel I J) (hi : inv (up I o k v)) : Rel (up (up I o k v) 70 p v) J := by
  have ho : 2 ≤ o ∧ o ≤ 8 := by unfold cor at hc; omega
  have e70 : up I o k v 70 = I 70 := by
    funext b
    exact up_o (by omega)
  refine Rel_tb h ?_ (fun a b _ q1 q2 => ?_)
  · rw [up_upf, e70]
    exact TB_eq (fun a _ _ => by funext b; exact up_o (by omega)) (fun a _ _ => by funext b; exact up_o (by omega)) rfl (TB_up hc h.1 hi)
  · rw [up_o q2, up_o (by omega)]
