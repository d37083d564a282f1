section
variable {X : e_X} {d : Nat} {I J : Nat → Int → Int}
theorem l_hold (hf : ∀ i, 0 ≤ i ∧ i < 5 → rg (I 14 i)) {fr : Int} {n : Nat} (h0 : 0 ≤ fr) (hto : fr + n ≤ 200) (h : hok I n fr 0) : s_S X (d + 2) 10 [.ref 9, .int (iI fr), .int (iI (fr + n))] (mm I J) = some ([.int (iI (if htp (hrn I n fr []) = true then 1 else 0))], mm I J) := by
  have e0 : s_S X (d + 2) 10 [.ref 9, .int (iI fr), .int (iI (fr + n))] (mm I J) = s_j X (d + 1) 10 5 [.ref 9, .int (iI fr), .int (iI (fr + n)), .long (lI ((enc [] : Nat) : Int)), .retAddr 0, .int (iI fr), .retAddr 0] [] (mm I J) := by
    simp (disch := omega) only [v_10_9, v_10_40, u_10_0, x_lconst, x_lstore3i, x_lstore3r, x_lstore3u, x_iload1, x_istore5i, x_istore5r, x_istore5u, x_jsr, x_iload5, x_iload2, x_if_icmp_ge, x_aload0, k_9_3, x_istore6i, x_istore6r, x_istore6u, x_iload6, x_sipush, x_if_icmp_ne, x_lload3, x_lxor, x_goto, u_10_33, x_lushr, x_lor, x_land, u_10_53, u_10_71, x_lshl, x_call2_0, x_call2_1, x_call2_2, x_call2_3, x_call2_4, e_k_s, e_k_i, List.nil_append, List.cons_append, x_ifCond_eq, x_ifCond_eqb, u_10_87, u_10_88, u_10_90, x_iinc5i, x_iinc5r, x_iinc5u, u_10_96, x_lcmp, x_ifCond_ne, x_ifCond_neb, u_10_108, u_10_109, x_zret0, x_zret1, x_zretb, ia_13, b01_0, ite_not, if_true, if_false, Int.reduceLT, Int.reduceEq]
    rfl
  have e1 := l_h1 (X := X) (d := d) (J := J) (fr := fr) hf hto n fr [] (.retAddr 0) h h0 rfl (fun b e => by cases e)
  have hl := hok_l n fr [] h
  have e2 := htp_i (s := hrn I n fr []) (by omega)
  rw [e0]
  by_cases hc : htp (hrn I n fr []) = true
  · rw [if_pos hc] at e2
    rcases e1 with e1 | ⟨p, e1⟩ <;>
      (rw [e1]
       simp (disch := omega) only [v_10_9, v_10_40, u_10_0, x_lconst, x_lstore3i, x_lstore3r, x_lstore3u, x_iload1, x_istore5i, x_istore5r, x_istore5u, x_jsr, x_iload5, x_iload2, x_if_icmp_ge, x_aload0, k_9_3, x_istore6i, x_istore6r, x_istore6u, x_iload6, x_sipush, x_if_icmp_ne, x_lload3, x_lxor, x_goto, u_10_33, x_lushr, x_lor, x_land, u_10_53, u_10_71, x_lshl, x_call2_0, x_call2_1, x_call2_2, x_call2_3, x_call2_4, e_k_s, e_k_i, List.nil_append, List.cons_append, x_ifCond_eq, x_ifCond_eqb, u_10_87, u_10_88, u_10_90, x_iinc5i, x_iinc5r, x_iinc5u, u_10_96, x_lcmp, x_ifCond_ne, x_ifCond_neb, u_10_108, u_10_109, x_zret0, x_zret1, x_zretb, ia_13, e2, hc, b01_0, ite_not, if_true, if_false, Int.reduceLT, Int.reduceEq])
  · rw [if_neg hc] at e2
    rcases e1 with e1 | ⟨p, e1⟩ <;>
      (rw [e1, if_neg hc]
       simp (disch := omega) only [v_10_9, v_10_40, u_10_0, x_lconst, x_lstore3i, x_lstore3r, x_lstore3u, x_iload1, x_istore5i, x_istore5r, x_istore5u, x_jsr, x_iload5, x_iload2, x_if_icmp_ge, x_aload0, k_9_3, x_istore6i, x_istore6r, x_istore6u, x_iload6, x_sipush, x_if_icmp_ne, x_lload3, x_lxor, x_goto, u_10_33, x_lushr, x_lor, x_land, u_10_53, u_10_71, x_lshl, x_call2_0, x_call2_1, x_call2_2, x_call2_3, x_call2_4, e_k_s, e_k_i, List.nil_append, List.cons_append, x_ifCond_eq, x_ifCond_eqb, u_10_87, u_10_88, u_10_90, x_iinc5i, x_iinc5r, x_iinc5u, u_10_96, x_lcmp, x_ifCond_ne, x_ifCond_neb, u_10_108, u_10_109, x_zret0, x_zret1, x_zretb, ia_13, e2, Int.reduceNeg, b01_0, ite_not, if_true, if_false, Int.reduceLT, Int.reduceEq])
end
