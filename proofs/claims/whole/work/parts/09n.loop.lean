section
variable {X : e_X} {d : Nat} {I J : Nat → Int → Int}
theorem isC_rg {p : Int} (h : isC p) : 0 ≤ p ∧ p < 2147483648 := by
  obtain ⟨s, l, r, hs, hl, hr, rfl⟩ := h
  omega
theorem l_h1 {fr to : Int} (hf : ∀ i, 0 ≤ i ∧ i < 5 → rg (I 14 i)) (hto : to ≤ 200) : ∀ (n : Nat) (i : Int) (s : List Bool) (w : Value), hok I n i s.length → 0 ≤ i → i + n = to → (∀ b, w ≠ .long b) → s_j X (d + 1) 10 5 [.ref 9, .int (iI fr), .int (iI to), .long (lI ((enc s : Nat) : Int)), .retAddr 0, .int (iI i), w] [] (mm I J) = s_j X (d + 1) 10 96 [.ref 9, .int (iI fr), .int (iI to), .long (lI ((enc (hrn I n i s) : Nat) : Int)), .retAddr 0, .int (iI to), w] [] (mm I J) ∨ ∃ p, s_j X (d + 1) 10 5 [.ref 9, .int (iI fr), .int (iI to), .long (lI ((enc s : Nat) : Int)), .retAddr 0, .int (iI i), w] [] (mm I J) = s_j X (d + 1) 10 96 [.ref 9, .int (iI fr), .int (iI to), .long (lI ((enc (hrn I n i s) : Nat) : Int)), .retAddr 0, .int (iI to), .int p] [] (mm I J) := by
  intro n
  induction n with
  | zero =>
    intro i s w h h0 hn hw
    left
    have : i = to := by omega
    subst this
    rw [u_10_5]
    simp (disch := omega) only [v_10_9, v_10_40, u_10_0, x_lconst, x_lstore3i, x_lstore3r, x_lstore3u, x_iload1, x_istore5i, x_istore5r, x_istore5u, x_jsr, x_iload5, x_iload2, x_if_icmp_ge, x_aload0, k_9_3, x_istore6i, x_istore6r, x_istore6u, x_iload6, x_sipush, x_if_icmp_ne, x_lload3, x_lxor, x_goto, u_10_33, x_lushr, x_lor, x_land, u_10_53, u_10_71, x_lshl, x_call2_0, x_call2_1, x_call2_2, x_call2_3, x_call2_4, e_k_s, e_k_i, List.nil_append, List.cons_append, x_ifCond_eq, x_ifCond_eqb, u_10_87, u_10_88, u_10_90, x_iinc5i, x_iinc5r, x_iinc5u, x_lcmp, x_ifCond_ne, x_ifCond_neb, u_10_108, u_10_109, x_zret0, x_zret1, x_zretb, ia_13, b01_0, ite_not, if_true, if_false, Int.reduceLT, Int.reduceEq]
    rw [if_neg (by omega)]
    rfl
  | succ n ih =>
    intro i s w h h0 hn hw
    right
    have go : ∀ (s' : List Bool) (q : Int32), hok I n (i + 1) s'.length → ∃ p, s_j X (d + 1) 10 5 [.ref 9, .int (iI fr), .int (iI to), .long (lI ((enc s' : Nat) : Int)), .retAddr 0, .int (iI (i + 1)), .int q] [] (mm I J) = s_j X (d + 1) 10 96 [.ref 9, .int (iI fr), .int (iI to), .long (lI ((enc (hrn I n (i + 1) s') : Nat) : Int)), .retAddr 0, .int (iI to), .int p] [] (mm I J) := by
      intro s' q h'
      rcases ih (i + 1) s' (.int q) h' (by omega) (by omega) (fun b e => by cases e) with e | e
      · exact ⟨q, e⟩
      · exact e
    obtain ⟨hk, h⟩ := h
    rcases h with ⟨hp, hs, h⟩ | ⟨hp, hs, h⟩ | ⟨hp, h⟩
    · obtain ⟨b, t, rfl⟩ : ∃ b t, s = b :: t := by
        cases s with
        | nil => exact absurd hs (by decide)
        | cons b t => exact ⟨b, t, rfl⟩
      have e1 : lI ((enc (b :: t) : Nat) : Int) ^^^ lI 1 = lI ((enc ((!b) :: t) : Nat) : Int) := lN_xor1 (by have := enc_62 (s := t) (by rw [List.length_cons] at hk; omega); omega) b
      obtain ⟨p, e2⟩ := go ((!b) :: t) (iI (-1)) h
      refine ⟨p, ?_⟩
      have e3 : hrn I (n + 1) i (b :: t) = hrn I n (i + 1) ((!b) :: t) := by
        show hrn I n (i + 1) (hst I (I 13 i) (b :: t)) = _
        rw [hp]
        rfl
      rw [e3, ← e2, u_10_5]
      simp (disch := omega) only [v_10_9, v_10_40, u_10_0, x_lconst, x_lstore3i, x_lstore3r, x_lstore3u, x_iload1, x_istore5i, x_istore5r, x_istore5u, x_jsr, x_iload5, x_iload2, x_if_icmp_ge, x_aload0, k_9_3, x_istore6i, x_istore6r, x_istore6u, x_iload6, x_sipush, x_if_icmp_ne, x_lload3, x_lxor, x_goto, u_10_33, x_lushr, x_lor, x_land, u_10_53, u_10_71, x_lshl, x_call2_0, x_call2_1, x_call2_2, x_call2_3, x_call2_4, e_k_s, e_k_i, List.nil_append, List.cons_append, x_ifCond_eq, x_ifCond_eqb, u_10_87, u_10_88, u_10_90, x_iinc5i, x_iinc5r, x_iinc5u, x_lcmp, x_ifCond_ne, x_ifCond_neb, u_10_108, u_10_109, x_zret0, x_zret1, x_zretb, ia_13, hp, e1, b01_0, ite_not, if_true, if_false, Int.reduceLT, Int.reduceEq]
      rw [if_pos (by omega)]
    · obtain ⟨b, a, t, rfl⟩ : ∃ b a t, s = b :: a :: t := by
        match s, hs with
        | b :: a :: t, _ => exact ⟨b, a, t, rfl⟩
      rw [List.length_cons, List.length_cons] at hk h
      have e4 := enc_shr (s := a :: t) (b := b) (by rw [List.length_cons]; omega)
      rcases hp with hp | hp
      · have e1 := enc_and (s := t) (a := a) (b := b) (by omega)
        obtain ⟨p, e2⟩ := go ((a && b) :: t) (iI (-2)) h
        refine ⟨p, ?_⟩
        have e3 : hrn I (n + 1) i (b :: a :: t) = hrn I n (i + 1) ((a && b) :: t) := by
          show hrn I n (i + 1) (hst I (I 13 i) (b :: a :: t)) = _
          rw [hp]
          rfl
        rw [e3, ← e2, u_10_5]
        simp (disch := omega) only [v_10_9, v_10_40, u_10_0, x_lconst, x_lstore3i, x_lstore3r, x_lstore3u, x_iload1, x_istore5i, x_istore5r, x_istore5u, x_jsr, x_iload5, x_iload2, x_if_icmp_ge, x_aload0, k_9_3, x_istore6i, x_istore6r, x_istore6u, x_iload6, x_sipush, x_if_icmp_ne, x_lload3, x_lxor, x_goto, u_10_33, x_lushr, x_lor, x_land, u_10_53, u_10_71, x_lshl, x_call2_0, x_call2_1, x_call2_2, x_call2_3, x_call2_4, e_k_s, e_k_i, List.nil_append, List.cons_append, x_ifCond_eq, x_ifCond_eqb, u_10_87, u_10_88, u_10_90, x_iinc5i, x_iinc5r, x_iinc5u, x_lcmp, x_ifCond_ne, x_ifCond_neb, u_10_108, u_10_109, x_zret0, x_zret1, x_zretb, ia_13, hp, e1, e4, b01_0, ite_not, if_true, if_false, Int.reduceLT, Int.reduceEq]
        rw [if_pos (by omega)]
      · have e1 := enc_or (s := t) (a := a) (b := b) (by omega)
        obtain ⟨p, e2⟩ := go ((a || b) :: t) (iI (-3)) h
        refine ⟨p, ?_⟩
        have e3 : hrn I (n + 1) i (b :: a :: t) = hrn I n (i + 1) ((a || b) :: t) := by
          show hrn I n (i + 1) (hst I (I 13 i) (b :: a :: t)) = _
          rw [hp]
          rfl
        rw [e3, ← e2, u_10_5]
        simp (disch := omega) only [v_10_9, v_10_40, u_10_0, x_lconst, x_lstore3i, x_lstore3r, x_lstore3u, x_iload1, x_istore5i, x_istore5r, x_istore5u, x_jsr, x_iload5, x_iload2, x_if_icmp_ge, x_aload0, k_9_3, x_istore6i, x_istore6r, x_istore6u, x_iload6, x_sipush, x_if_icmp_ne, x_lload3, x_lxor, x_goto, u_10_33, x_lushr, x_lor, x_land, u_10_53, u_10_71, x_lshl, x_call2_0, x_call2_1, x_call2_2, x_call2_3, x_call2_4, e_k_s, e_k_i, List.nil_append, List.cons_append, x_ifCond_eq, x_ifCond_eqb, u_10_87, u_10_88, u_10_90, x_iinc5i, x_iinc5r, x_iinc5u, x_lcmp, x_ifCond_ne, x_ifCond_neb, u_10_108, u_10_109, x_zret0, x_zret1, x_zretb, ia_13, hp, e1, e4, b01_0, ite_not, if_true, if_false, Int.reduceLT, Int.reduceEq]
        rw [if_pos (by omega)]
    · have hr := isC_rg hp
      have ec := l_cmb (X := X) (d := d) (I := I) (J := J) hp hf
      have e1 := enc_push (s := s) (by omega) (cmb I (I 13 i))
      obtain ⟨p, e2⟩ := go (cmb I (I 13 i) :: s) (iI (I 13 i)) h
      refine ⟨p, ?_⟩
      have e3 : hrn I (n + 1) i s = hrn I n (i + 1) (cmb I (I 13 i) :: s) := by
        show hrn I n (i + 1) (hst I (I 13 i) s) = _
        unfold hst
        rw [if_neg (by omega), if_neg (by omega), if_neg (by omega)]
      rw [e3, ← e2, u_10_5]
      by_cases hc : cmb I (I 13 i) = true
      · rw [if_pos hc] at ec e1
        simp (disch := omega) only [v_10_9, v_10_40, u_10_0, x_lconst, x_lstore3i, x_lstore3r, x_lstore3u, x_iload1, x_istore5i, x_istore5r, x_istore5u, x_jsr, x_iload5, x_iload2, x_if_icmp_ge, x_aload0, k_9_3, x_istore6i, x_istore6r, x_istore6u, x_iload6, x_sipush, x_if_icmp_ne, x_lload3, x_lxor, x_goto, u_10_33, x_lushr, x_lor, x_land, u_10_53, u_10_71, x_lshl, x_call2_0, x_call2_1, x_call2_2, x_call2_3, x_call2_4, e_k_s, e_k_i, List.nil_append, List.cons_append, x_ifCond_eq, x_ifCond_eqb, u_10_87, u_10_88, u_10_90, x_iinc5i, x_iinc5r, x_iinc5u, x_lcmp, x_ifCond_ne, x_ifCond_neb, u_10_108, u_10_109, x_zret0, x_zret1, x_zretb, ia_13, ec, e1, b01_0, ite_not, if_true, if_false, Int.reduceLT, Int.reduceEq]
        rw [if_pos (by omega), if_neg (by omega), if_neg (by omega), if_neg (by omega)]
      · rw [if_neg hc] at ec e1
        simp (disch := omega) only [v_10_9, v_10_40, u_10_0, x_lconst, x_lstore3i, x_lstore3r, x_lstore3u, x_iload1, x_istore5i, x_istore5r, x_istore5u, x_jsr, x_iload5, x_iload2, x_if_icmp_ge, x_aload0, k_9_3, x_istore6i, x_istore6r, x_istore6u, x_iload6, x_sipush, x_if_icmp_ne, x_lload3, x_lxor, x_goto, u_10_33, x_lushr, x_lor, x_land, u_10_53, u_10_71, x_lshl, x_call2_0, x_call2_1, x_call2_2, x_call2_3, x_call2_4, e_k_s, e_k_i, List.nil_append, List.cons_append, x_ifCond_eq, x_ifCond_eqb, u_10_87, u_10_88, u_10_90, x_iinc5i, x_iinc5r, x_iinc5u, x_lcmp, x_ifCond_ne, x_ifCond_neb, u_10_108, u_10_109, x_zret0, x_zret1, x_zretb, ia_13, ec, e1, b01_0, ite_not, if_true, if_false, Int.reduceLT, Int.reduceEq]
        rw [if_pos (by omega), if_neg (by omega), if_neg (by omega), if_neg (by omega)]
end
