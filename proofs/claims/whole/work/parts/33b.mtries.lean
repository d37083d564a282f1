/-! PLANS, in the model: the search -/
section
variable {X : e_X} {I J M : Nat → Int → Int}
theorem m_try (h : inv I) (hE : RE I (M 70)) (hQ : RR I (M 70)) (hR : rok I) {len wt : Int} (hl : 0 ≤ len ∧ len ≤ 4) (hwt : 0 ≤ wt ∧ wt < 64) : ∀ (f D : Nat) (c : co) (sc wo to m : Int) (s : pac × (Int → Int)) (S P : Int → Int), f + 9 ≤ D → (f : Int) ≤ len → cok I c → c.1 + f ≤ I 1 12 → (0 ≤ wo ∧ wo + 21 * f ≤ 1000) → (0 ≤ to ∧ to + f ≤ 4) → mst s.1 m → 0 ≤ m ∧ m + 7 ^ f ≤ 1000000 → (∃ S' P', s_S X D 248 [.ref 69, .int (iI (len - f)), .int (iI len), .int (iI wo), .int (iI to), .int (iI wt)] (mm (mk (mpo M s.1 s.2 S) (I 1 9) c sc P) J) = some ([], mm (mk (mpo M (trf (mwg len wt) I len f c wo to s).1 (trf (mwg len wt) I len f c wo to s).2 S') (I 1 9) c sc P') J) ∧ ∀ x, x < 74 * (len - f) → S' x = S x) ∧ mst (trf (mwg len wt) I len f c wo to s).1 (m + 7 ^ f) := by
  have hn6 := h.1
  have h64 := pw_6 hn6
  have e6 := hE.2.1
  intro f
  induction f with
  | zero =>
    intro D c sc wo to m s S P hD hf hc hy hw ht hp hm
    obtain ⟨D, rfl⟩ : ∃ D', D = D' + 3 + 1 := ⟨D - 4, by omega⟩
    have c4 := hc.2.2.2
    have e1 := m_end (X := X) (d := D) (I := I) (J := J) (M := M) h hE hc (len := len) (wt := wt) (A := s.2) (S := S) (P := P) (g := s.1) (sc := sc) (wo := wo) (to := to) hl hp ⟨hm.1, by omega⟩ (by omega) (by omega) hwt
    refine ⟨⟨S, P, ?_, fun _ _ => rfl⟩, mwg_ok hp hm.1 (by omega) (by omega) (by omega)⟩
    rw [show trf (mwg len wt) I len 0 c wo to s = (mwg len wt s.2 wo to c.2.2.2 s.1, s.2) from rfl]
    simp (disch := omega) only [v_248_69, u_248_0, x_iload1, x_iload2, x_if_icmp_ne, x_aload0, x_iload3, x_iload4, x_iload5, x_call5_0, x_call5_1, x_call5_2, x_call5_3, x_call5_4, e_k_s, e_k_i, List.nil_append, List.cons_append, x_return, x_call2_0, x_call2_1, x_call2_2, x_call2_3, x_call2_4, x_sipush, x_istore6i, x_istore6r, x_istore6u, x_jsr, u_248_24, x_iload6, k_69_0, x_if_icmp_gt, k_69_19, x_istore7i, x_istore7r, x_istore7u, x_iadd, x_iload7, x_ifCond_le, x_goto, u_248_73, u_248_75, x_call6_0, x_call6_1, x_call6_2, x_call6_3, x_call6_4, x_iinc6i, x_iinc6r, x_iinc6u, u_248_91, ia_70, is_70, ia_79, is_79, e1, b01_0, ite_not, if_true, if_false, Int.reduceLT, Int.reduceEq]
    rw [if_pos (by omega)]
  | succ f ih =>
    intro D c sc wo to m s S P hD hf hc hy hw ht hp hm
    obtain ⟨D, rfl⟩ : ∃ D', D = D' + 8 + 1 := ⟨D - 9, by omega⟩
    have c1 := hc.1
    have h16 := h.2.2.2.1
    have fd : len - ((f + 1 : Nat) : Int) = len - ((f : Int) + 1) := by omega
    have loop : ∀ (n : Nat) (k m : Int) (s : pac × (Int → Int)) (S P : Int → Int) (w : Value), 0 ≤ k → k + n = I 1 9 + 1 → mst s.1 m → 0 ≤ m ∧ m + n * 7 ^ f ≤ 1000000 → (∀ x, 0 ≤ x → x < 74 → S (74 * (len - ((f : Int) + 1)) + x) = mk M (I 1 9) c sc z0 70 x) → (∃ S' P', s_j X (D + 8) 248 24 [.ref 69, .int (iI (len - ((f : Int) + 1))), .int (iI len), .int (iI wo), .int (iI to), .int (iI wt), .int (iI k), w] [] (mm (mk (mpo M s.1 s.2 S) (I 1 9) c sc P) J) = some ([], mm (mk (mpo M (lpk (fun act s => trf (mwg len wt) I len f (pas I c act).2 (wo + (pas I c act).1) (if act = 0 then to else to + 1) (s.1, upf s.2 (len - ((f : Int) + 1)) act)) n k s).1 (lpk (fun act s => trf (mwg len wt) I len f (pas I c act).2 (wo + (pas I c act).1) (if act = 0 then to else to + 1) (s.1, upf s.2 (len - ((f : Int) + 1)) act)) n k s).2 S') (I 1 9) c sc P') J) ∧ ∀ x, x < 74 * (len - ((f : Int) + 1)) → S' x = S x) ∧ mst (lpk (fun act s => trf (mwg len wt) I len f (pas I c act).2 (wo + (pas I c act).1) (if act = 0 then to else to + 1) (s.1, upf s.2 (len - ((f : Int) + 1)) act)) n k s).1 (m + n * 7 ^ f) := by
      intro n
      induction n with
      | zero =>
        intro k m s S P w h0 hn hp hm hS
        refine ⟨⟨S, P, ?_, fun _ _ => rfl⟩, ?_⟩
        · rw [u_248_24]
          simp (disch := omega) only [v_248_69, u_248_0, x_iload1, x_iload2, x_if_icmp_ne, x_aload0, x_iload3, x_iload4, x_iload5, x_call5_0, x_call5_1, x_call5_2, x_call5_3, x_call5_4, e_k_s, e_k_i, List.nil_append, List.cons_append, x_return, u_248_16, x_call2_0, x_call2_1, x_call2_2, x_call2_3, x_call2_4, x_sipush, x_istore6i, x_istore6r, x_istore6u, x_jsr, x_iload6, k_69_0, x_if_icmp_gt, k_69_19, x_istore7i, x_istore7r, x_istore7u, x_iadd, x_iload7, x_ifCond_le, x_goto, u_248_73, u_248_75, x_call6_0, x_call6_1, x_call6_2, x_call6_3, x_call6_4, x_iinc6i, x_iinc6r, x_iinc6u, u_248_91, ia_70, is_70, ia_79, is_79, mk_r, mpo_70, e6, b01_0, ite_not, if_true, if_false, Int.reduceLT, Int.reduceEq]
          rw [if_pos (by omega)]
          rfl
        · rw [show m + ((0 : Nat) : Int) * 7 ^ f = m by simp]
          exact hp
      | succ n ihn =>
        intro k m s S P w h0 hn hp hm hS
        have h7 : (0 : Int) < 7 ^ f := Int.pow_pos (by decide)
        have e9 : (((n + 1 : Nat)) : Int) * 7 ^ f = (n : Int) * 7 ^ f + 7 ^ f := by
          rw [show (((n + 1 : Nat)) : Int) = (n : Int) + 1 by omega, Int.add_mul, Int.one_mul]
        rw [e9] at hm
        have hnn : 0 ≤ (n : Int) * 7 ^ f := Int.mul_nonneg (by omega) (by omega)
        have hp1 := pas_ok h hc (by omega) k
        obtain ⟨P1, e1⟩ := m_pas (X := X) (d := D) (J := J) (M := mpo M s.1 (upf s.2 (len - ((f : Int) + 1)) k) S) h hE hQ hR hc (by omega) (sc := sc) P (a := k) (by omega)
        obtain ⟨⟨S2, P2, e2, hS2⟩, p2⟩ := ih (D + 8) (pas I c k).2 (sc + (pas I c k).1) (wo + (pas I c k).1) (if k = 0 then to else to + 1) m (s.1, upf s.2 (len - ((f : Int) + 1)) k) S P1 (by omega) (by omega) hp1.1 (by omega) (by omega) (by split <;> omega) hp (by omega)
        have hS2' : ∀ x, 0 ≤ x → x < 74 → S2 (74 * (len - ((f : Int) + 1)) + x) = mk M (I 1 9) c sc z0 70 x := fun x x0 x1 => by
          rw [hS2 _ (by omega)]
          exact hS x x0 x1
        have e3 := m_re (X := X) (d := D + 7) (I := mk (mpo M (trf (mwg len wt) I len f (pas I c k).2 (wo + (pas I c k).1) (if k = 0 then to else to + 1) (s.1, upf s.2 (len - ((f : Int) + 1)) k)).1 (trf (mwg len wt) I len f (pas I c k).2 (wo + (pas I c k).1) (if k = 0 then to else to + 1) (s.1, upf s.2 (len - ((f : Int) + 1)) k)).2 S2) (I 1 9) (pas I c k).2 (sc + (pas I c k).1) P2) (J := J) (dep := len - ((f : Int) + 1)) (by omega)
        rw [mpo_rs (c := c) (sc := sc) (P := z0) hn6.2 hS2'] at e3
        obtain ⟨⟨S3, P3, e4, hS3⟩, p4⟩ := ihn (k + 1) (m + 7 ^ f) (trf (mwg len wt) I len f (pas I c k).2 (wo + (pas I c k).1) (if k = 0 then to else to + 1) (s.1, upf s.2 (len - ((f : Int) + 1)) k)) S2 P2 (.int (iI (pas I c k).1)) (by omega) (by omega) p2 (by omega) hS2'
        refine ⟨⟨S3, P3, ?_, fun x hx => by rw [hS3 x hx, hS2 x (by omega)]⟩, ?_⟩
        · rw [lpk_s, ← e4, u_248_24]
          have f2 : len - ((f : Int) + 1) + 1 = len - (f : Int) := by omega
          by_cases q : k = 0
          · rw [if_pos q] at e2 e3 ⊢
            simp (disch := omega) only [u_248_0, x_iload1, x_iload2, x_if_icmp_ne, x_aload0, x_iload3, x_iload4, x_iload5, x_call5_0, x_call5_1, x_call5_2, x_call5_3, x_call5_4, e_k_s, e_k_i, List.nil_append, List.cons_append, x_return, u_248_16, x_call2_0, x_call2_1, x_call2_2, x_call2_3, x_call2_4, x_sipush, x_istore6i, x_istore6r, x_istore6u, x_jsr, x_iload6, k_69_0, x_if_icmp_gt, k_69_19, x_istore7i, x_istore7r, x_istore7u, x_iadd, x_iload7, x_ifCond_le, x_goto, u_248_73, u_248_75, x_call6_0, x_call6_1, x_call6_2, x_call6_3, x_call6_4, x_iinc6i, x_iinc6r, x_iinc6u, u_248_91, ia_70, is_70, ia_79, is_79, mk_r, mpo_70, e6, mpo_uA, e1, f2, e2, e3, b01_0, ite_not, if_true, if_false, Int.reduceLT, Int.reduceEq]
            rw [if_neg (by omega), if_neg (by omega)]
          · rw [if_neg q] at e2 e3 ⊢
            simp (disch := omega) only [u_248_0, x_iload1, x_iload2, x_if_icmp_ne, x_aload0, x_iload3, x_iload4, x_iload5, x_call5_0, x_call5_1, x_call5_2, x_call5_3, x_call5_4, e_k_s, e_k_i, List.nil_append, List.cons_append, x_return, u_248_16, x_call2_0, x_call2_1, x_call2_2, x_call2_3, x_call2_4, x_sipush, x_istore6i, x_istore6r, x_istore6u, x_jsr, x_iload6, k_69_0, x_if_icmp_gt, k_69_19, x_istore7i, x_istore7r, x_istore7u, x_iadd, x_iload7, x_ifCond_le, x_goto, u_248_73, u_248_75, x_call6_0, x_call6_1, x_call6_2, x_call6_3, x_call6_4, x_iinc6i, x_iinc6r, x_iinc6u, u_248_91, ia_70, is_70, ia_79, is_79, mk_r, mpo_70, e6, mpo_uA, e1, f2, e2, e3, b01_0, ite_not, if_true, if_false, Int.reduceLT, Int.reduceEq]
            rw [if_neg (by omega), if_pos (by omega)]
        · rw [lpk_s, e9, show m + ((n : Int) * 7 ^ f + 7 ^ f) = m + 7 ^ f + n * 7 ^ f by omega]
          exact p4
    have hb : (7 : Int) ^ (f + 1) = 7 * 7 ^ f := by rw [Int.pow_succ, Int.mul_comm]
    have h7 : (0 : Int) < 7 ^ f := Int.pow_pos (by decide)
    have hN : ((((I 1 9).toNat + 1 : Nat) : Int)) * 7 ^ f ≤ 7 * 7 ^ f := Int.mul_le_mul_of_nonneg_right (by omega) (by omega)
    have hN0 : 0 ≤ ((((I 1 9).toNat + 1 : Nat) : Int)) * 7 ^ f := Int.mul_nonneg (by omega) (by omega)
    obtain ⟨⟨S', P', e1, hS'⟩, p1⟩ := loop ((I 1 9).toNat + 1) 0 m s (svS S (mk M (I 1 9) c sc P 70) (len - ((f : Int) + 1))) P (.retAddr 0) (by decide) (by omega) hp (by omega) (fun x x0 x1 => by
      unfold svS
      rw [if_pos (by omega), show 74 * (len - ((f : Int) + 1)) + x - 74 * (len - ((f : Int) + 1)) = x by omega]
      rfl)
    have e0 := m_sv (X := X) (d := D + 7) (I := mk (mpo M s.1 s.2 S) (I 1 9) c sc P) (J := J) (dep := len - ((f : Int) + 1)) (by omega)
    rw [mpo_sv] at e0
    refine ⟨⟨S', P', ?_, fun x hx => ?_⟩, ?_⟩
    · refine Eq.trans ?_ e1
      rw [fd]
      simp (disch := omega) only [v_248_69, u_248_0, x_iload1, x_iload2, x_if_icmp_ne, x_aload0, x_iload3, x_iload4, x_iload5, x_call5_0, x_call5_1, x_call5_2, x_call5_3, x_call5_4, e_k_s, e_k_i, List.nil_append, List.cons_append, x_return, u_248_16, x_call2_0, x_call2_1, x_call2_2, x_call2_3, x_call2_4, x_sipush, x_istore6i, x_istore6r, x_istore6u, x_jsr, x_iload6, k_69_0, x_if_icmp_gt, k_69_19, x_istore7i, x_istore7r, x_istore7u, x_iadd, x_iload7, x_ifCond_le, x_goto, u_248_73, u_248_75, x_call6_0, x_call6_1, x_call6_2, x_call6_3, x_call6_4, x_iinc6i, x_iinc6r, x_iinc6u, u_248_91, ia_70, is_70, ia_79, is_79, e0, b01_0, ite_not, if_true, if_false, Int.reduceLT, Int.reduceEq]
      rw [if_neg (by omega)]
    · rw [hS' x (by omega)]
      unfold svS
      rw [if_neg (by omega)]
    · obtain ⟨a1, a2, a3, a4⟩ := p1
      refine ⟨a1, ⟨a2.1, ?_⟩, a3, a4⟩
      rw [hb]
      exact Int.le_trans a2.2 (by omega)
end
