/-! TRYING ALL; the GAME, in the model -/
def mp0 (M : Nat → Int → Int) : pac := (-1, 0, 5, 0, M 80)
theorem mpo_init {M : Nat → Int → Int} : up (up (up (up M 69 21 (-1)) 69 22 0) 69 23 5) 69 24 0 = mpo M (mp0 M) (M 79) (M 78) := by
  funext o k
  unfold up mpo mp0
  by_cases h : o = 69
  · subst h
    simp only [true_and, if_true]
    by_cases h3 : k = 21
    · subst h3; rfl
    · by_cases h4 : k = 22
      · subst h4; rfl
      · by_cases h5 : k = 23
        · subst h5; rfl
        · by_cases h6 : k = 24
          · subst h6; rfl
          · simp only [if_neg h3, if_neg h4, if_neg h5, if_neg h6]
  · rw [if_neg (fun z => h z.1), if_neg (fun z => h z.1), if_neg (fun z => h z.1), if_neg (fun z => h z.1), if_neg h]
    by_cases h1 : o = 78
    · rw [if_pos h1, h1]
    · by_cases h2 : o = 79
      · rw [if_neg h1, if_pos h2, h2]
      · by_cases h3 : o = 80
        · rw [if_neg h1, if_neg h2, if_pos h3, h3]
        · rw [if_neg h1, if_neg h2, if_neg h3]
def gid (M : Nat → Int → Int) : pac := (M 69 21, M 69 22, M 69 23, M 69 24, M 80)
theorem mpo_id {M : Nat → Int → Int} : mpo M (gid M) (M 79) (M 78) = M := by
  funext o k
  unfold mpo gid
  (repeat' split) <;> simp_all
def mtra (I M : Nat → Int → Int) (c : co) (n wt : Int) : pac × (Int → Int) := trf (mwg (yec I c n) wt) I (yec I c n) (yec I c n).toNat c 0 0 (mp0 M, M 79)
def cho (I : Nat → Int → Int) (y : Nat) (b : Bool) (c : co) : Int × Int := lpk (fun act (s : Int × Int) => if s.1 < 0 ∨ (if b = true then s.2 < gac I y b c act else gac I y b c act < s.2) then (act, gac I y b c act) else s) ((I 1 9).toNat + 1) 0 (-1, 0)
theorem cho_f {I : Nat → Int → Int} {y : Nat} {b : Bool} {c : co} : ∀ (n : Nat) (k : Int) (s : Int × Int), 0 < k → 0 ≤ s.1 → (lpk (fun act (s : Int × Int) => if s.1 < 0 ∨ (if b = true then s.2 < gac I y b c act else gac I y b c act < s.2) then (act, gac I y b c act) else s) n k s).2 = lpk (fun act v => if act = 0 ∨ (if b = true then v < (pas I c act).1 + gam I y (!b) (pas I c act).2 else (pas I c act).1 + gam I y (!b) (pas I c act).2 < v) then (pas I c act).1 + gam I y (!b) (pas I c act).2 else v) n k s.2
  | 0, _, _, _, _ => rfl
  | n + 1, k, s, hk, hs => by
    rw [lpk_s, lpk_s]
    by_cases q : (if b = true then s.2 < gac I y b c k else gac I y b c k < s.2)
    · rw [if_pos (Or.inr q), if_pos (show k = 0 ∨ (if b = true then s.2 < (pas I c k).1 + gam I y (!b) (pas I c k).2 else (pas I c k).1 + gam I y (!b) (pas I c k).2 < s.2) from Or.inr q)]
      exact cho_f n (k + 1) (k, gac I y b c k) (by omega) (by show 0 ≤ k; omega)
    · rw [if_neg (show ¬ (s.1 < 0 ∨ (if b = true then s.2 < gac I y b c k else gac I y b c k < s.2)) from fun z => z.elim (fun w => by omega) q), if_neg (show ¬ (k = 0 ∨ (if b = true then s.2 < (pas I c k).1 + gam I y (!b) (pas I c k).2 else (pas I c k).1 + gam I y (!b) (pas I c k).2 < s.2)) from fun z => z.elim (fun w => by omega) q)]
      exact cho_f n (k + 1) s (by omega) hs
theorem cho_gam {I : Nat → Int → Int} {y : Nat} {b : Bool} {c : co} : (cho I y b c).2 = gam I (y + 1) b c := by
  unfold cho
  rw [lpk_s, if_pos (Or.inl (by show (-1 : Int) < 0; decide))]
  rw [cho_f _ _ _ (by decide) (by show (0 : Int) ≤ 0; decide)]
  show _ = lpk _ ((I 1 9).toNat + 1) 0 0
  rw [lpk_s, if_pos (Or.inl rfl)]
  rfl
theorem cho_l {I : Nat → Int → Int} {y : Nat} {c : co} : ∀ (n : Nat) (k : Int) (s : Int × Int), 0 < k → 0 ≤ s.1 → lpk (fun act (s : Int × Int) => if s.1 < 0 ∨ (if true = true then s.2 < gac I y true c act else gac I y true c act < s.2) then (act, gac I y true c act) else s) n k s = lpk (fun act (s : Int × Int) => if s.2 < gac I y true c act then (act, gac I y true c act) else s) n k s
  | 0, _, _, _, _ => rfl
  | n + 1, k, s, hk, hs => by
    rw [lpk_s, lpk_s]
    by_cases q : s.2 < gac I y true c k
    · rw [if_pos (Or.inr (by rw [if_pos rfl]; exact q)), if_pos q]
      exact cho_l n (k + 1) (k, gac I y true c k) (by omega) (by show 0 ≤ k; omega)
    · rw [if_neg (fun z => z.elim (fun w => by omega) (fun w => q (by rw [if_pos rfl] at w; exact w))), if_neg q]
      exact cho_l n (k + 1) s (by omega) hs
theorem cho_lga {I : Nat → Int → Int} {y : Nat} {c : co} : cho I y true c = lga I y c := by
  unfold cho
  rw [lpk_s, if_pos (Or.inl (by show (-1 : Int) < 0; decide))]
  exact cho_l _ _ _ (by decide) (by show (0 : Int) ≤ 0; decide)
section
variable {X : e_X} {d : Nat} {I J M : Nat → Int → Int}
theorem m_days (h : inv I) (hE : RE I (M 70)) {c : co} (hc : cok I c) {sc : Int} {P : Int → Int} {n : Int} (hn : 0 ≤ n ∧ n ≤ 100) : s_S X (d + 2) 247 [.ref 69, .int (iI n)] (mm (mk M (I 1 9) c sc P) J) = some ([.int (iI (yec I c n))], mm (mk M (I 1 9) c sc P) J) := by
  have hn6 := h.1
  have h16 := h.2.2.2.1
  have c1 := hc.1
  have e1 := hE.1
  have eo := m_ov (X := X) (d := d) (J := J) (M := M) h hE hc (sc := sc) (P := P)
  have hy : ∀ sc P, mk M (I 1 9) c sc P 70 0 = c.1 := fun sc P => rfl
  unfold yec
  by_cases q : I 1 12 ≤ c.1
  · rw [if_pos q] at eo
    simp (disch := omega) only [v_247_69, u_247_0, x_aload0, x_call1_0, x_call1_1, x_call1_2, x_call1_3, x_call1_4, e_k_s, e_k_i, List.nil_append, List.cons_append, x_ifCond_eq, x_ifCond_eqb, x_sipush, x_goto, u_247_11, k_69_0, x_isub, x_jsr, u_247_24, x_istore2i, x_istore2r, x_istore2u, x_iload1, x_iload2, x_if_icmp_ge, u_247_34, u_247_35, x_ireturn, ia_70, eo, b01_0, ite_not, if_true, if_false, Int.reduceLT, Int.reduceEq]
    rw [show max 0 (min n (I 1 12 - c.1)) = 0 by omega]
    (repeat' split) <;> first | rfl | (exfalso; omega)
    all_goals (refine sv ?_; omega)
  · rw [if_neg q] at eo
    simp (disch := omega) only [v_247_69, u_247_0, x_aload0, x_call1_0, x_call1_1, x_call1_2, x_call1_3, x_call1_4, e_k_s, e_k_i, List.nil_append, List.cons_append, x_ifCond_eq, x_ifCond_eqb, x_sipush, x_goto, u_247_11, k_69_0, x_isub, x_jsr, u_247_24, x_istore2i, x_istore2r, x_istore2u, x_iload1, x_iload2, x_if_icmp_ge, u_247_34, u_247_35, x_ireturn, ia_70, eo, mk_r, e1, hy, b01_0, ite_not, if_true, if_false, Int.reduceLT, Int.reduceEq]
    (repeat' split) <;> first | rfl | (exfalso; omega) | (refine sv ?_; omega)
theorem m_tra (h : inv I) (hE : RE I (M 70)) (hQ : RR I (M 70)) (hR : rok I) {c : co} (hc : cok I c) {sc : Int} (P : Int → Int) {n wt : Int} (hn : 0 ≤ n ∧ n ≤ 4) (hwt : 0 ≤ wt ∧ wt < 64) : (∃ S' P', s_S X (d + 14) 246 [.ref 69, .int (iI n), .int (iI wt)] (mm (mk M (I 1 9) c sc P) J) = some ([], mm (mk (mpo M (mtra I M c n wt).1 (mtra I M c n wt).2 S') (I 1 9) c sc P') J)) ∧ mst (mtra I M c n wt).1 5000 := by
  have hy := yec_b hn.1 hc
  have h7 : (7 : Int) ^ (yec I c n).toNat ≤ 2401 := by
    have : (yec I c n).toNat = 0 ∨ (yec I c n).toNat = 1 ∨ (yec I c n).toNat = 2 ∨ (yec I c n).toNat = 3 ∨ (yec I c n).toNat = 4 := by omega
    rcases this with q | q | q | q | q <;> rw [q] <;> decide
  obtain ⟨⟨S', P', e1, -⟩, p1⟩ := m_try (X := X) (J := J) (M := M) h hE hQ hR (len := yec I c n) (wt := wt) (by omega) hwt (yec I c n).toNat (d + 13) c sc 0 0 0 (mp0 M, M 79) (M 78) P (by omega) (by omega) hc (by omega) (by omega) (by omega) ⟨⟨Int.le_refl (-1), (by decide : (-1 : Int) ≤ 1000)⟩, ⟨Int.le_refl 0, Int.le_refl 0⟩, ⟨(by decide : (0 : Int) ≤ 5), Int.le_refl 5⟩, Int.le_refl 0, (by decide : (0 : Int) < 64)⟩ (by omega)
  have hu : ∀ (k v : Int) (M : Nat → Int → Int), up (mk M (I 1 9) c sc P) 69 k v = mk (up M 69 k v) (I 1 9) c sc P := fun k v M => mpo_u 69 (by decide) (by decide)
  have e0 := m_days (X := X) (d := d + 11) (J := J) (M := mpo M (mp0 M) (M 79) (M 78)) h hE hc (sc := sc) (P := P) (n := n) ⟨by omega, by omega⟩
  rw [show yec I c n - (((yec I c n).toNat : Nat) : Int) = 0 by omega] at e1
  dsimp only at e1
  refine ⟨⟨S', P', ?_⟩, ?_⟩
  · unfold mtra
    simp (disch := omega) only [v_246_69, u_246_0, x_aload0, x_sipush, p_69_21, p_69_22, p_69_23, p_69_24, x_iload1, x_call2_0, x_call2_1, x_call2_2, x_call2_3, x_call2_4, e_k_s, e_k_i, List.nil_append, List.cons_append, x_iload2, x_call6_0, x_call6_1, x_call6_2, x_call6_3, x_call6_4, x_return, hu, mpo_init, e0, e1, b01_0, ite_not, if_true, if_false, Int.reduceLT, Int.reduceEq]
  · obtain ⟨a1, a2, a3, a4⟩ := p1
    exact ⟨a1, ⟨a2.1, Int.le_trans a2.2 (by omega)⟩, a3, a4⟩
theorem m_pl (h : inv I) (hE : RE I (M 70)) (hQ : RR I (M 70)) (hR : rok I) {len : Int} (hl : 0 ≤ len ∧ len ≤ 4) {g : pac} : ∀ (f D : Nat) (c : co) (sc : Int) (A S P : Int → Int), f + 9 ≤ D → (f : Int) ≤ len → cok I c → c.1 + f ≤ I 1 12 → ∃ A' S' P', s_S X D 258 [.ref 69, .int (iI (len - f)), .int (iI len)] (mm (mk (mpo M g A S) (I 1 9) c sc P) J) = some ([.int (iI (gam I f (decide ((len - f) % 2 = 0)) c))], mm (mk (mpo M g A' S') (I 1 9) c sc P') J) ∧ (∀ x, x < 74 * (len - f) → S' x = S x) ∧ (∀ y, f = y + 1 → A' (len - f) = (cho I y (decide ((len - f) % 2 = 0)) c).1) := by
  have hn6 := h.1
  have e6 := hE.2.1
  intro f
  induction f with
  | zero =>
    intro D c sc A S P hD hf hc hy
    obtain ⟨D, rfl⟩ : ∃ D', D = D' + 1 := ⟨D - 1, by omega⟩
    refine ⟨A, S, P, ?_, fun _ _ => rfl, fun y hy => by omega⟩
    simp (disch := omega) only [v_258_69, u_258_0, x_iload1, x_iload2, x_if_icmp_ne, x_sipush, x_ireturn, x_aload0, x_call2_0, x_call2_1, x_call2_2, x_call2_3, x_call2_4, e_k_s, e_k_i, List.nil_append, List.cons_append, x_istore3i, x_istore3r, x_istore3u, x_istore4i, x_istore4r, x_istore4u, x_istore5i, x_istore5r, x_istore5u, x_jsr, u_258_20, x_iload5, k_69_0, x_if_icmp_gt, x_istore6i, x_istore6r, x_istore6u, x_iload6, x_iadd, x_call3_0, x_call3_1, x_call3_2, x_call3_3, x_call3_4, x_istore7i, x_istore7r, x_istore7u, x_iload4, x_ifCond_lt, x_iremI, x_ifCond_ne, x_ifCond_neb, x_iload7, x_iload3, x_if_icmp_le, x_goto, u_258_78, x_if_icmp_ge, u_258_84, u_258_88, u_258_89, x_istore8i, x_istore8r, x_istore8u, x_iload8, x_ifCond_eq, x_ifCond_eqb, u_258_101, u_258_103, u_258_115, u_258_116, x_iinc5i, x_iinc5r, x_iinc5u, u_258_123, k_69_19, ia_70, is_70, ia_79, is_79, b01_0, ite_not, if_true, if_false, Int.reduceLT, Int.reduceEq]
    rw [if_pos (by omega)]
    rfl
  | succ f ih =>
    intro D c sc A S P hD hf hc hy
    obtain ⟨D, rfl⟩ : ∃ D', D = D' + 8 + 1 := ⟨D - 9, by omega⟩
    have c1 := hc.1
    have h16 := h.2.2.2.1
    have fd : len - ((f + 1 : Nat) : Int) = len - ((f : Int) + 1) := by omega
    have fb : decide ((len - (f : Int)) % 2 = 0) = !decide ((len - ((f : Int) + 1)) % 2 = 0) := by
      by_cases q : (len - ((f : Int) + 1)) % 2 = 0
      · rw [decide_eq_true q, decide_eq_false (by omega)]; rfl
      · rw [decide_eq_false q, decide_eq_true (by omega)]; rfl
    have hmod := Int.emod_nonneg (len - ((f : Int) + 1)) (b := 2) (by decide)
    have hmod2 := Int.emod_lt_of_pos (len - ((f : Int) + 1)) (b := 2) (by decide)
    have tm := tmod_n (a := len - ((f : Int) + 1)) (b := 2) (by omega)
    rw [fd]
    generalize hbb : decide ((len - ((f : Int) + 1)) % 2 = 0) = b at fb ⊢
    have loop : ∀ (n : Nat) (k : Int) (s : Int × Int) (A S P : Int → Int) (w6 w7 w8 : Value), 0 ≤ k → k + n = I 1 9 + 1 → (-1 ≤ s.1 ∧ s.1 ≤ 6) → (0 ≤ s.2 ∧ s.2 ≤ 1000) → (∀ x, 0 ≤ x → x < 74 → S (74 * (len - ((f : Int) + 1)) + x) = mk M (I 1 9) c sc z0 70 x) → ∃ A' S' P' w6' w7' w8' k', s_j X (D + 8) 258 20 [.ref 69, .int (iI (len - ((f : Int) + 1))), .int (iI len), .int (iI s.2), .int (iI s.1), .int (iI k), w6, w7, w8] [] (mm (mk (mpo M g A S) (I 1 9) c sc P) J) = s_j X (D + 8) 258 123 [.ref 69, .int (iI (len - ((f : Int) + 1))), .int (iI len), .int (iI (lpk (fun act (s : Int × Int) => if s.1 < 0 ∨ (if b = true then s.2 < gac I f b c act else gac I f b c act < s.2) then (act, gac I f b c act) else s) n k s).2), .int (iI (lpk (fun act (s : Int × Int) => if s.1 < 0 ∨ (if b = true then s.2 < gac I f b c act else gac I f b c act < s.2) then (act, gac I f b c act) else s) n k s).1), .int k', w6', w7', w8'] [] (mm (mk (mpo M g A' S') (I 1 9) c sc P') J) ∧ (∀ x, x < 74 * (len - ((f : Int) + 1)) → S' x = S x) := by
      intro n
      induction n with
      | zero =>
        intro k s A S P w6 w7 w8 h0 hn hs1 hs2 hS
        refine ⟨A, S, P, w6, w7, w8, iI k, ?_, fun _ _ => rfl⟩
        rw [u_258_20]
        simp (disch := omega) only [v_258_69, u_258_0, x_iload1, x_iload2, x_if_icmp_ne, x_sipush, x_ireturn, u_258_7, x_aload0, x_call2_0, x_call2_1, x_call2_2, x_call2_3, x_call2_4, e_k_s, e_k_i, List.nil_append, List.cons_append, x_istore3i, x_istore3r, x_istore3u, x_istore4i, x_istore4r, x_istore4u, x_istore5i, x_istore5r, x_istore5u, x_jsr, x_iload5, k_69_0, x_if_icmp_gt, x_istore6i, x_istore6r, x_istore6u, x_iload6, x_iadd, x_call3_0, x_call3_1, x_call3_2, x_call3_3, x_call3_4, x_istore7i, x_istore7r, x_istore7u, x_iload4, x_ifCond_lt, x_iremI, x_ifCond_ne, x_ifCond_neb, x_iload7, x_iload3, x_if_icmp_le, x_goto, u_258_78, x_if_icmp_ge, u_258_84, u_258_88, u_258_89, x_istore8i, x_istore8r, x_istore8u, x_iload8, x_ifCond_eq, x_ifCond_eqb, u_258_101, u_258_103, u_258_115, u_258_116, x_iinc5i, x_iinc5r, x_iinc5u, k_69_19, ia_70, is_70, ia_79, is_79, mk_r, mpo_70, e6, b01_0, ite_not, if_true, if_false, Int.reduceLT, Int.reduceEq]
        rw [if_pos (by omega)]
        rfl
      | succ n ihn =>
        intro k s A S P w6 w7 w8 h0 hn hs1 hs2 hS
        have hp1 := pas_ok h hc (by omega) k
        have hg := gac_b h (b := b) hc (show c.1 + f + 1 ≤ I 1 12 by omega) k
        obtain ⟨P1, e1⟩ := m_pas (X := X) (d := D) (J := J) (M := mpo M g A S) h hE hQ hR hc (by omega) (sc := sc) P (a := k) (by omega)
        obtain ⟨A2, S2, P2, e2, hS2, -⟩ := ih (D + 8) (pas I c k).2 (sc + (pas I c k).1) A S P1 (by omega) (by omega) hp1.1 (by omega)
        rw [fb] at e2
        have hS2' : ∀ x, 0 ≤ x → x < 74 → S2 (74 * (len - ((f : Int) + 1)) + x) = mk M (I 1 9) c sc z0 70 x := fun x x0 x1 => by
          rw [hS2 _ (by omega)]
          exact hS x x0 x1
        have e3 := m_re (X := X) (d := D + 7) (I := mk (mpo M g A2 S2) (I 1 9) (pas I c k).2 (sc + (pas I c k).1) P2) (J := J) (dep := len - ((f : Int) + 1)) (by omega)
        rw [mpo_rs (c := c) (sc := sc) (P := z0) hn6.2 hS2'] at e3
        have f2 : len - ((f : Int) + 1) + 1 = len - (f : Int) := by omega
        have eg : (pas I c k).1 + gam I f (!b) (pas I c k).2 = gac I f b c k := rfl
        by_cases q : s.1 < 0 ∨ (if b = true then s.2 < gac I f b c k else gac I f b c k < s.2)
        · obtain ⟨A3, S3, P3, w6', w7', w8', k', e4, hS3⟩ := ihn (k + 1) (k, gac I f b c k) A2 S2 P2 (.int (iI (pas I c k).1)) (.int (iI (gac I f b c k))) (.int (iI 1)) (by omega) (by omega) (by dsimp only; omega) (by dsimp only; omega) hS2'
          refine ⟨A3, S3, P3, w6', w7', w8', k', ?_, fun x hx => by rw [hS3 x hx, hS2 x (by omega)]⟩
          rw [lpk_s, if_pos q, ← e4, u_258_20]
          cases b with
          | true =>
            have hm : (len - ((f : Int) + 1)) % 2 = 0 := of_decide_eq_true hbb
            rw [if_pos rfl] at q
            simp (disch := omega) only [u_258_0, x_iload1, x_iload2, x_if_icmp_ne, x_sipush, x_ireturn, u_258_7, x_aload0, x_call2_0, x_call2_1, x_call2_2, x_call2_3, x_call2_4, e_k_s, e_k_i, List.nil_append, List.cons_append, x_istore3i, x_istore3r, x_istore3u, x_istore4i, x_istore4r, x_istore4u, x_istore5i, x_istore5r, x_istore5u, x_jsr, x_iload5, k_69_0, x_if_icmp_gt, x_istore6i, x_istore6r, x_istore6u, x_iload6, x_iadd, x_call3_0, x_call3_1, x_call3_2, x_call3_3, x_call3_4, x_istore7i, x_istore7r, x_istore7u, x_iload4, x_ifCond_lt, x_iremI, x_ifCond_ne, x_ifCond_neb, x_iload7, x_iload3, x_if_icmp_le, x_goto, u_258_78, x_if_icmp_ge, u_258_84, u_258_88, u_258_89, x_istore8i, x_istore8r, x_istore8u, x_iload8, x_ifCond_eq, x_ifCond_eqb, u_258_101, u_258_103, u_258_115, u_258_116, x_iinc5i, x_iinc5r, x_iinc5u, k_69_19, ia_70, is_70, ia_79, is_79, mk_r, mpo_70, e6, e1, f2, e2, eg, e3, tm, hm, b01_0, ite_not, if_true, if_false, Int.reduceLT, Int.reduceEq]
            rw [if_neg (by omega)]
            by_cases z : s.1 < 0
            · rw [if_pos z]
            · rw [if_neg z, if_pos (by omega)]
          | false =>
            have hm : ¬ (len - ((f : Int) + 1)) % 2 = 0 := of_decide_eq_false hbb
            rw [if_neg (by decide)] at q
            simp (disch := omega) only [u_258_0, x_iload1, x_iload2, x_if_icmp_ne, x_sipush, x_ireturn, u_258_7, x_aload0, x_call2_0, x_call2_1, x_call2_2, x_call2_3, x_call2_4, e_k_s, e_k_i, List.nil_append, List.cons_append, x_istore3i, x_istore3r, x_istore3u, x_istore4i, x_istore4r, x_istore4u, x_istore5i, x_istore5r, x_istore5u, x_jsr, x_iload5, k_69_0, x_if_icmp_gt, x_istore6i, x_istore6r, x_istore6u, x_iload6, x_iadd, x_call3_0, x_call3_1, x_call3_2, x_call3_3, x_call3_4, x_istore7i, x_istore7r, x_istore7u, x_iload4, x_ifCond_lt, x_iremI, x_ifCond_ne, x_ifCond_neb, x_iload7, x_iload3, x_if_icmp_le, x_goto, u_258_78, x_if_icmp_ge, u_258_84, u_258_88, u_258_89, x_istore8i, x_istore8r, x_istore8u, x_iload8, x_ifCond_eq, x_ifCond_eqb, u_258_101, u_258_103, u_258_115, u_258_116, x_iinc5i, x_iinc5r, x_iinc5u, k_69_19, ia_70, is_70, ia_79, is_79, mk_r, mpo_70, e6, e1, f2, e2, eg, e3, tm, b01_0, ite_not, if_true, if_false, Int.reduceLT, Int.reduceEq]
            rw [if_neg (by omega)]
            by_cases z : s.1 < 0
            · rw [if_pos z]
            · rw [if_neg z, if_neg hm, if_pos (by omega)]
        · obtain ⟨A3, S3, P3, w6', w7', w8', k', e4, hS3⟩ := ihn (k + 1) s A2 S2 P2 (.int (iI (pas I c k).1)) (.int (iI (gac I f b c k))) (.int (iI 0)) (by omega) (by omega) hs1 hs2 hS2'
          refine ⟨A3, S3, P3, w6', w7', w8', k', ?_, fun x hx => by rw [hS3 x hx, hS2 x (by omega)]⟩
          rw [lpk_s, if_neg q, ← e4, u_258_20]
          cases b with
          | true =>
            have hm : (len - ((f : Int) + 1)) % 2 = 0 := of_decide_eq_true hbb
            rw [if_pos rfl] at q
            simp (disch := omega) only [u_258_0, x_iload1, x_iload2, x_if_icmp_ne, x_sipush, x_ireturn, u_258_7, x_aload0, x_call2_0, x_call2_1, x_call2_2, x_call2_3, x_call2_4, e_k_s, e_k_i, List.nil_append, List.cons_append, x_istore3i, x_istore3r, x_istore3u, x_istore4i, x_istore4r, x_istore4u, x_istore5i, x_istore5r, x_istore5u, x_jsr, x_iload5, k_69_0, x_if_icmp_gt, x_istore6i, x_istore6r, x_istore6u, x_iload6, x_iadd, x_call3_0, x_call3_1, x_call3_2, x_call3_3, x_call3_4, x_istore7i, x_istore7r, x_istore7u, x_iload4, x_ifCond_lt, x_iremI, x_ifCond_ne, x_ifCond_neb, x_iload7, x_iload3, x_if_icmp_le, x_goto, u_258_78, x_if_icmp_ge, u_258_84, u_258_88, u_258_89, x_istore8i, x_istore8r, x_istore8u, x_iload8, x_ifCond_eq, x_ifCond_eqb, u_258_101, u_258_103, u_258_115, u_258_116, x_iinc5i, x_iinc5r, x_iinc5u, k_69_19, ia_70, is_70, ia_79, is_79, mk_r, mpo_70, e6, e1, f2, e2, eg, e3, tm, hm, b01_0, ite_not, if_true, if_false, Int.reduceLT, Int.reduceEq]
            rw [if_neg (by omega), if_neg (by omega), if_neg (by omega)]
          | false =>
            have hm : ¬ (len - ((f : Int) + 1)) % 2 = 0 := of_decide_eq_false hbb
            rw [if_neg (by decide)] at q
            simp (disch := omega) only [u_258_0, x_iload1, x_iload2, x_if_icmp_ne, x_sipush, x_ireturn, u_258_7, x_aload0, x_call2_0, x_call2_1, x_call2_2, x_call2_3, x_call2_4, e_k_s, e_k_i, List.nil_append, List.cons_append, x_istore3i, x_istore3r, x_istore3u, x_istore4i, x_istore4r, x_istore4u, x_istore5i, x_istore5r, x_istore5u, x_jsr, x_iload5, k_69_0, x_if_icmp_gt, x_istore6i, x_istore6r, x_istore6u, x_iload6, x_iadd, x_call3_0, x_call3_1, x_call3_2, x_call3_3, x_call3_4, x_istore7i, x_istore7r, x_istore7u, x_iload4, x_ifCond_lt, x_iremI, x_ifCond_ne, x_ifCond_neb, x_iload7, x_iload3, x_if_icmp_le, x_goto, u_258_78, x_if_icmp_ge, u_258_84, u_258_88, u_258_89, x_istore8i, x_istore8r, x_istore8u, x_iload8, x_ifCond_eq, x_ifCond_eqb, u_258_101, u_258_103, u_258_115, u_258_116, x_iinc5i, x_iinc5r, x_iinc5u, k_69_19, ia_70, is_70, ia_79, is_79, mk_r, mpo_70, e6, e1, f2, e2, eg, e3, tm, b01_0, ite_not, if_true, if_false, Int.reduceLT, Int.reduceEq]
            rw [if_neg (by omega), if_neg (by omega), if_neg hm, if_neg (by omega)]
    have e0 := m_sv (X := X) (d := D + 7) (I := mk (mpo M g A S) (I 1 9) c sc P) (J := J) (dep := len - ((f : Int) + 1)) (by omega)
    rw [mpo_sv] at e0
    obtain ⟨A', S', P', w6', w7', w8', k', e1, hS'⟩ := loop ((I 1 9).toNat + 1) 0 (-1, 0) A (svS S (mk M (I 1 9) c sc P 70) (len - ((f : Int) + 1))) P (.retAddr 0) (.retAddr 0) (.retAddr 0) (by decide) (by omega) (by dsimp only; omega) (by dsimp only; omega) (fun x x0 x1 => by
      unfold svS
      rw [if_pos (by omega), show 74 * (len - ((f : Int) + 1)) + x - 74 * (len - ((f : Int) + 1)) = x by omega]
      rfl)
    refine ⟨upf A' (len - ((f : Int) + 1)) (cho I f b c).1, S', P', ?_, fun x hx => ?_, fun y hyf => ?_⟩
    · rw [← cho_gam]
      have e1' : s_j X (D + 8) 258 20 [.ref 69, .int (iI (len - ((f : Int) + 1))), .int (iI len), .int (iI 0), .int (iI (-1)), .int (iI 0), .retAddr 0, .retAddr 0, .retAddr 0] [] (mm (mk (mpo M g A (svS S (mk M (I 1 9) c sc P 70) (len - ((f : Int) + 1)))) (I 1 9) c sc P) J) = s_j X (D + 8) 258 123 [.ref 69, .int (iI (len - ((f : Int) + 1))), .int (iI len), .int (iI (cho I f b c).2), .int (iI (cho I f b c).1), .int k', w6', w7', w8'] [] (mm (mk (mpo M g A' S') (I 1 9) c sc P') J) := e1
      simp (disch := omega) only [v_258_69, u_258_0, x_iload1, x_iload2, x_if_icmp_ne, x_sipush, x_ireturn, u_258_7, x_aload0, x_call2_0, x_call2_1, x_call2_2, x_call2_3, x_call2_4, e_k_s, e_k_i, List.nil_append, List.cons_append, x_istore3i, x_istore3r, x_istore3u, x_istore4i, x_istore4r, x_istore4u, x_istore5i, x_istore5r, x_istore5u, x_jsr, x_iload5, k_69_0, x_if_icmp_gt, x_istore6i, x_istore6r, x_istore6u, x_iload6, x_iadd, x_call3_0, x_call3_1, x_call3_2, x_call3_3, x_call3_4, x_istore7i, x_istore7r, x_istore7u, x_iload4, x_ifCond_lt, x_iremI, x_ifCond_ne, x_ifCond_neb, x_iload7, x_iload3, x_if_icmp_le, x_goto, u_258_78, x_if_icmp_ge, u_258_84, u_258_88, u_258_89, x_istore8i, x_istore8r, x_istore8u, x_iload8, x_ifCond_eq, x_ifCond_eqb, u_258_101, u_258_103, u_258_115, u_258_116, x_iinc5i, x_iinc5r, x_iinc5u, u_258_123, k_69_19, ia_70, is_70, ia_79, is_79, e0, e1', mpo_uA, b01_0, ite_not, if_true, if_false, Int.reduceLT, Int.reduceEq]
      rw [if_neg (by omega)]
    · rw [hS' x (by omega)]
      unfold svS
      rw [if_neg (by omega)]
    · have : y = f := by omega
      subst this
      exact if_pos rfl
end
