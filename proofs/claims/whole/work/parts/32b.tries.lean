/-! PLANS, in the class: the search -/
section
variable {X : e_X} {I J : Nat → Int → Int}
theorem lpk_s {α : Type} {f : Int → α → α} {n : Nat} {k : Int} {g : α} : lpk f (n + 1) k g = lpk f n (k + 1) (f k g) := rfl
theorem p_try (h : inv I) (hR : rok I) {len wt : Int} (hl : 0 ≤ len ∧ len ≤ 4) (hwt : 0 ≤ wt ∧ wt < 64) : ∀ (f D : Nat) (c : co) (wo to m : Int) (s : pac × (Int → Int)) (F : Int → Int), f + 6 ≤ D → (f : Int) ≤ len → cok I c → c.1 + f ≤ I 1 12 → (0 ≤ wo ∧ wo + 21 * f ≤ 1000) → (0 ≤ to ∧ to + f ≤ 4) → pst s.1 m → 0 ≤ m ∧ m + 7 ^ f ≤ 1000000 → (∃ F', s_S X D 19 [.ref 48, .int (iI (len - f)), .int (iI wo), .int (iI to)] (mm (bk (plo I len wt s.1 s.2) c F) J) = some ([], mm (bk (plo I len wt (trf (wgh wt) I len f c wo to s).1 (trf (wgh wt) I len f c wo to s).2) c F') J)) ∧ pst (trf (wgh wt) I len f c wo to s).1 (m + 7 ^ f) := by
  have hn6 := h.1
  have h64 := pw_6 hn6
  intro f
  induction f with
  | zero =>
    intro D c wo to m s F hD hf hc hy hw ht hp hm
    obtain ⟨D, rfl⟩ : ∃ D', D = D' + 1 + 1 := ⟨D - 2, by omega⟩
    have c4 := hc.2.2.2
    have e1 := p_wgh (X := X) (d := D) (I := I) (J := J) (len := len) (wt := wt) (A := s.2) (F := F) (g := s.1) (c := c) (wo := wo) (to := to) hp ⟨hm.1, by omega⟩ (by omega) (by omega) (by omega) hwt
    refine ⟨⟨F, ?_⟩, wgh_ok hp hm.1 (by omega) (by omega) (by omega)⟩
    rw [show trf (wgh wt) I len 0 c wo to s = (wgh wt s.2 wo to c.2.2.2 s.1, s.2) from rfl]
    simp (disch := omega) only [v_19_48, u_19_0, x_iload1, x_aload0, f_48_3, x_if_icmp_lt, x_iload2, x_iload3, x_call3_0, x_call3_1, x_call3_2, x_call3_3, x_call3_4, e_k_s, e_k_i, List.nil_append, List.cons_append, x_return, k_48_0, x_call1_0, x_call1_1, x_call1_2, x_call1_3, x_call1_4, x_istore4i, x_istore4r, x_istore4u, x_sipush, x_istore5i, x_istore5r, x_istore5u, x_jsr, u_19_27, x_iload5, f_1_9, x_if_icmp_gt, k_48_1, x_call2_0, x_call2_1, x_call2_2, x_call2_3, x_call2_4, x_istore6i, x_istore6r, x_istore6u, x_iadd, x_iload6, x_ifCond_ne, x_ifCond_neb, x_goto, u_19_75, u_19_78, x_call4_0, x_call4_1, x_call4_2, x_call4_3, x_call4_4, x_iload4, x_iinc5i, x_iinc5r, x_iinc5u, u_19_96, is_49, plo_3, e1, b01_0, ite_not, if_true, if_false, Int.reduceLT, Int.reduceEq]
    rw [if_neg (by omega)]
  | succ f ih =>
    intro D c wo to m s F hD hf hc hy hw ht hp hm
    obtain ⟨D, rfl⟩ : ∃ D', D = D' + 5 + 1 := ⟨D - 6, by omega⟩
    have c1 := hc.1
    have h16 := h.2.2.2.1
    have loop : ∀ (n : Nat) (k m : Int) (s : pac × (Int → Int)) (F : Int → Int) (w : Value), 0 ≤ k → k + n = I 1 9 + 1 → pst s.1 m → 0 ≤ m ∧ m + n * 7 ^ f ≤ 1000000 → (∃ F', s_j X (D + 5) 19 27 [.ref 48, .int (iI (len - ((f + 1 : Nat) : Int))), .int (iI wo), .int (iI to), .int (iI (cmo c)), .int (iI k), w] [] (mm (bk (plo I len wt s.1 s.2) c F) J) = some ([], mm (bk (plo I len wt (lpk (fun act s => trf (wgh wt) I len f (pas I c act).2 (wo + (pas I c act).1) (if act = 0 then to else to + 1) (s.1, upf s.2 (len - ((f : Int) + 1)) act)) n k s).1 (lpk (fun act s => trf (wgh wt) I len f (pas I c act).2 (wo + (pas I c act).1) (if act = 0 then to else to + 1) (s.1, upf s.2 (len - ((f : Int) + 1)) act)) n k s).2) c F') J)) ∧ pst (lpk (fun act s => trf (wgh wt) I len f (pas I c act).2 (wo + (pas I c act).1) (if act = 0 then to else to + 1) (s.1, upf s.2 (len - ((f : Int) + 1)) act)) n k s).1 (m + n * 7 ^ f) := by
      intro n
      induction n with
      | zero =>
        intro k m s F w h0 hn hp hm
        refine ⟨⟨F, ?_⟩, ?_⟩
        · rw [u_19_27]
          simp (disch := omega) only [v_19_48, u_19_0, x_iload1, x_aload0, f_48_3, x_if_icmp_lt, x_iload2, x_iload3, x_call3_0, x_call3_1, x_call3_2, x_call3_3, x_call3_4, e_k_s, e_k_i, List.nil_append, List.cons_append, x_return, u_19_15, k_48_0, x_call1_0, x_call1_1, x_call1_2, x_call1_3, x_call1_4, x_istore4i, x_istore4r, x_istore4u, x_sipush, x_istore5i, x_istore5r, x_istore5u, x_jsr, x_iload5, f_1_9, x_if_icmp_gt, k_48_1, x_call2_0, x_call2_1, x_call2_2, x_call2_3, x_call2_4, x_istore6i, x_istore6r, x_istore6u, x_iadd, x_iload6, x_ifCond_ne, x_ifCond_neb, x_goto, u_19_75, u_19_78, x_call4_0, x_call4_1, x_call4_2, x_call4_3, x_call4_4, x_iload4, x_iinc5i, x_iinc5r, x_iinc5u, u_19_96, is_49, plo_9, b01_0, ite_not, if_true, if_false, Int.reduceLT, Int.reduceEq]
          rw [if_pos (by omega)]
          rfl
        · rw [show m + ((0 : Nat) : Int) * 7 ^ f = m by simp]
          exact hp
      | succ n ihn =>
        intro k m s F w h0 hn hp hm
        have h7 : (0 : Int) < 7 ^ f := Int.pow_pos (by decide)
        have e9 : (((n + 1 : Nat)) : Int) * 7 ^ f = (n : Int) * 7 ^ f + 7 ^ f := by
          rw [show (((n + 1 : Nat)) : Int) = (n : Int) + 1 by omega, Int.add_mul, Int.one_mul]
        rw [e9] at hm
        have hnn : 0 ≤ (n : Int) * 7 ^ f := Int.mul_nonneg (by omega) (by omega)
        have hp1 := pas_ok h hc (by omega) k
        obtain ⟨F1, e1⟩ := s_pas (X := X) (d := D) (B := plo I len wt s.1 (upf s.2 (len - ((f : Int) + 1)) k)) (I := I) (J := J) plo_sq h hR hc F (a := k) (by omega)
        obtain ⟨⟨F2, e2⟩, p2⟩ := ih (D + 5) (pas I c k).2 (wo + (pas I c k).1) (if k = 0 then to else to + 1) m (s.1, upf s.2 (len - ((f : Int) + 1)) k) F1 (by omega) (by omega) hp1.1 (by omega) (by omega) (by split <;> omega) hp (by omega)
        have e3 := s_bo (X := X) (d := D + 4) (B := plo I len wt (trf (wgh wt) I len f (pas I c k).2 (wo + (pas I c k).1) (if k = 0 then to else to + 1) (s.1, upf s.2 (len - ((f : Int) + 1)) k)).1 (trf (wgh wt) I len f (pas I c k).2 (wo + (pas I c k).1) (if k = 0 then to else to + 1) (s.1, upf s.2 (len - ((f : Int) + 1)) k)).2) (I := I) (J := J) plo_sq h hc (c' := (pas I c k).2) (F := F2)
        obtain ⟨⟨F3, e4⟩, p4⟩ := ihn (k + 1) (m + 7 ^ f) (trf (wgh wt) I len f (pas I c k).2 (wo + (pas I c k).1) (if k = 0 then to else to + 1) (s.1, upf s.2 (len - ((f : Int) + 1)) k)) F2 (.int (iI (pas I c k).1)) (by omega) (by omega) p2 (by omega)
        refine ⟨⟨F3, ?_⟩, ?_⟩
        · rw [lpk_s, ← e4, u_19_27]
          have f1 : len - ((f + 1 : Nat) : Int) = len - ((f : Int) + 1) := by omega
          have f2 : len - ((f : Int) + 1) + 1 = len - (f : Int) := by omega
          by_cases q : k = 0
          · rw [if_pos q] at e2 e3 ⊢
            simp (disch := omega) only [u_19_0, x_iload1, x_aload0, f_48_3, x_if_icmp_lt, x_iload2, x_iload3, x_call3_0, x_call3_1, x_call3_2, x_call3_3, x_call3_4, e_k_s, e_k_i, List.nil_append, List.cons_append, x_return, u_19_15, k_48_0, x_call1_0, x_call1_1, x_call1_2, x_call1_3, x_call1_4, x_istore4i, x_istore4r, x_istore4u, x_sipush, x_istore5i, x_istore5r, x_istore5u, x_jsr, x_iload5, f_1_9, x_if_icmp_gt, k_48_1, x_call2_0, x_call2_1, x_call2_2, x_call2_3, x_call2_4, x_istore6i, x_istore6r, x_istore6u, x_iadd, x_iload6, x_ifCond_ne, x_ifCond_neb, x_goto, u_19_75, u_19_78, x_call4_0, x_call4_1, x_call4_2, x_call4_3, x_call4_4, x_iload4, x_iinc5i, x_iinc5r, x_iinc5u, u_19_96, is_49, plo_9, f1, plo_uA, e1, f2, e2, e3, b01_0, ite_not, if_true, if_false, Int.reduceLT, Int.reduceEq]
            rw [if_neg (by omega), if_pos q]
          · rw [if_neg q] at e2 e3 ⊢
            simp (disch := omega) only [u_19_0, x_iload1, x_aload0, f_48_3, x_if_icmp_lt, x_iload2, x_iload3, x_call3_0, x_call3_1, x_call3_2, x_call3_3, x_call3_4, e_k_s, e_k_i, List.nil_append, List.cons_append, x_return, u_19_15, k_48_0, x_call1_0, x_call1_1, x_call1_2, x_call1_3, x_call1_4, x_istore4i, x_istore4r, x_istore4u, x_sipush, x_istore5i, x_istore5r, x_istore5u, x_jsr, x_iload5, f_1_9, x_if_icmp_gt, k_48_1, x_call2_0, x_call2_1, x_call2_2, x_call2_3, x_call2_4, x_istore6i, x_istore6r, x_istore6u, x_iadd, x_iload6, x_ifCond_ne, x_ifCond_neb, x_goto, u_19_75, u_19_78, x_call4_0, x_call4_1, x_call4_2, x_call4_3, x_call4_4, x_iload4, x_iinc5i, x_iinc5r, x_iinc5u, u_19_96, is_49, plo_9, f1, plo_uA, e1, f2, e2, e3, b01_0, ite_not, if_true, if_false, Int.reduceLT, Int.reduceEq]
            rw [if_neg (by omega), if_neg q]
        · rw [lpk_s, e9, show m + ((n : Int) * 7 ^ f + 7 ^ f) = m + 7 ^ f + n * 7 ^ f by omega]
          exact p4
    have hb : (7 : Int) ^ (f + 1) = 7 * 7 ^ f := by rw [Int.pow_succ, Int.mul_comm]
    have h7 : (0 : Int) < 7 ^ f := Int.pow_pos (by decide)
    have hN : ((((I 1 9).toNat + 1 : Nat) : Int)) * 7 ^ f ≤ 7 * 7 ^ f := Int.mul_le_mul_of_nonneg_right (by omega) (by omega)
    have hN0 : 0 ≤ ((((I 1 9).toNat + 1 : Nat) : Int)) * 7 ^ f := Int.mul_nonneg (by omega) (by omega)
    obtain ⟨⟨F', e1⟩, p1⟩ := loop ((I 1 9).toNat + 1) 0 m s F (.retAddr 0) (by decide) (by omega) hp (by omega)
    have e0 := s_mo (X := X) (d := D + 4) (B := plo I len wt s.1 s.2) (I := I) (J := J) plo_sq h hc (F := F)
    refine ⟨⟨F', ?_⟩, ?_⟩
    · refine Eq.trans ?_ e1
      simp (disch := omega) only [v_19_48, u_19_0, x_iload1, x_aload0, f_48_3, x_if_icmp_lt, x_iload2, x_iload3, x_call3_0, x_call3_1, x_call3_2, x_call3_3, x_call3_4, e_k_s, e_k_i, List.nil_append, List.cons_append, x_return, u_19_15, k_48_0, x_call1_0, x_call1_1, x_call1_2, x_call1_3, x_call1_4, x_istore4i, x_istore4r, x_istore4u, x_sipush, x_istore5i, x_istore5r, x_istore5u, x_jsr, x_iload5, f_1_9, x_if_icmp_gt, k_48_1, x_call2_0, x_call2_1, x_call2_2, x_call2_3, x_call2_4, x_istore6i, x_istore6r, x_istore6u, x_iadd, x_iload6, x_ifCond_ne, x_ifCond_neb, x_goto, u_19_75, u_19_78, x_call4_0, x_call4_1, x_call4_2, x_call4_3, x_call4_4, x_iload4, x_iinc5i, x_iinc5r, x_iinc5u, u_19_96, is_49, plo_3, e0, b01_0, ite_not, if_true, if_false, Int.reduceLT, Int.reduceEq]
      rw [if_pos (by omega)]
    · obtain ⟨a1, a2, a3, a4⟩ := p1
      refine ⟨a1, ⟨a2.1, ?_⟩, a3, a4⟩
      rw [hb]
      exact Int.le_trans a2.2 (by omega)
end
