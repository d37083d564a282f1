/-! TRYING ALL; the GAME, in the class -/
def pl0 (I : Nat → Int → Int) : pac := (0, 0, -3, 0, I 50)
theorem plo_init {I : Nat → Int → Int} {len wt : Int} : up (up (up (up (up (up I 48 3 len) 48 4 wt) 48 5 0) 48 6 0) 48 7 (-3)) 48 8 0 = plo I len wt (pl0 I) (I 49) := by
  funext o k
  unfold up plo pl0
  by_cases h : o = 48
  · subst h
    simp only [true_and, if_true]
    by_cases h3 : k = 3
    · subst h3; rfl
    · by_cases h4 : k = 4
      · subst h4; rfl
      · by_cases h5 : k = 5
        · subst h5; rfl
        · by_cases h6 : k = 6
          · subst h6; rfl
          · by_cases h7 : k = 7
            · subst h7; rfl
            · by_cases h8 : k = 8
              · subst h8; rfl
              · simp only [if_neg h3, if_neg h4, if_neg h5, if_neg h6, if_neg h7, if_neg h8]
  · rw [if_neg (fun z => h z.1), if_neg (fun z => h z.1), if_neg (fun z => h z.1), if_neg (fun z => h z.1), if_neg (fun z => h z.1), if_neg (fun z => h z.1), if_neg h]
    by_cases h1 : o = 49
    · rw [if_pos h1, h1]
    · by_cases h2 : o = 50
      · rw [if_neg h1, if_pos h2, h2]
      · rw [if_neg h1, if_neg h2]
/-- what trying all comes to -/
def tra (I : Nat → Int → Int) (c : co) (n wt : Int) : pac × (Int → Int) := trf (wgh wt) I (yec I c n) (yec I c n).toNat c 0 0 (pl0 I, I 49)
def gam (I : Nat → Int → Int) : Nat → Bool → co → Int
  | 0, _, _ => 0
  | y + 1, b, c => lpk (fun act v => if act = 0 ∨ (if b = true then v < (pas I c act).1 + gam I y (!b) (pas I c act).2 else (pas I c act).1 + gam I y (!b) (pas I c act).2 < v) then (pas I c act).1 + gam I y (!b) (pas I c act).2 else v) ((I 1 9).toNat + 1) 0 0
/-- an act's worth in a game -/
def gac (I : Nat → Int → Int) (y : Nat) (b : Bool) (c : co) (act : Int) : Int := (pas I c act).1 + gam I y (!b) (pas I c act).2
def lga (I : Nat → Int → Int) (y : Nat) (c : co) : Int × Int := lpk (fun act (s : Int × Int) => if s.2 < gac I y true c act then (act, gac I y true c act) else s) (I 1 9).toNat 1 (0, gac I y true c 0)
theorem lpk_ind {α : Type} (P : α → Prop) {f : Int → α → α} : ∀ (n : Nat) (k : Int) (g : α), P g → (∀ j, k ≤ j → j < k + n → ∀ g, P g → P (f j g)) → P (lpk f n k g)
  | 0, _, _, h, _ => h
  | n + 1, k, g, h, hf => lpk_ind P n (k + 1) (f k g) (hf k (by omega) (by omega) g h) (fun j j0 j1 g hg => hf j (by omega) (by omega) g hg)
theorem if_p {α : Type} (P : α → Prop) {q : Prop} [Decidable q] {a b : α} (ha : P a) (hb : P b) : P (if q then a else b) := by
  by_cases h : q
  · rw [if_pos h]; exact ha
  · rw [if_neg h]; exact hb
theorem gam_b {I : Nat → Int → Int} (h : inv I) : ∀ (y : Nat) (b : Bool) (c : co), cok I c → c.1 + y ≤ I 1 12 → 0 ≤ gam I y b c ∧ gam I y b c ≤ 21 * y
  | 0, _, _, _, _ => by unfold gam; omega
  | y + 1, b, c, hc, hy => by
    have step : ∀ act, 0 ≤ (pas I c act).1 + gam I y (!b) (pas I c act).2 ∧ (pas I c act).1 + gam I y (!b) (pas I c act).2 ≤ 21 * ((y + 1 : Nat) : Int) := fun act => by
      have h1 := pas_ok h hc (by omega) act
      have h2 := gam_b h y (!b) (pas I c act).2 h1.1 (by omega)
      omega
    refine lpk_ind (fun v => 0 ≤ v ∧ v ≤ 21 * ((y + 1 : Nat) : Int)) _ 0 0 (by omega) (fun j _ _ v hv => ?_)
    exact if_p (fun v => 0 ≤ v ∧ v ≤ 21 * ((y + 1 : Nat) : Int)) (step j) hv
theorem gac_b {I : Nat → Int → Int} (h : inv I) {y : Nat} {b : Bool} {c : co} (hc : cok I c) (hy : c.1 + y + 1 ≤ I 1 12) (act : Int) : 0 ≤ gac I y b c act ∧ gac I y b c act ≤ 21 * (y + 1) := by
  have h1 := pas_ok h hc (by omega) act
  have h2 := gam_b h y (!b) (pas I c act).2 h1.1 (by omega)
  unfold gac
  omega
section
variable {X : e_X} {d : Nat} {I J : Nat → Int → Int}
theorem p_tra (h : inv I) (hR : rok I) {c : co} (hc : cok I c) (F : Int → Int) {n wt : Int} (hn : 0 ≤ n ∧ n ≤ 4) (hwt : 0 ≤ wt ∧ wt < 64) : (∃ F', s_S X (d + 11) 18 [.ref 48, .int (iI n), .int (iI wt)] (mm (bk I c F) J) = some ([], mm (bk (plo I (yec I c n) wt (tra I c n wt).1 (tra I c n wt).2) c F') J)) ∧ pst (tra I c n wt).1 5000 := by
  have hy := yec_b hn.1 hc
  have h7 : (7 : Int) ^ (yec I c n).toNat ≤ 2401 := by
    have : (yec I c n).toNat = 0 ∨ (yec I c n).toNat = 1 ∨ (yec I c n).toNat = 2 ∨ (yec I c n).toNat = 3 ∨ (yec I c n).toNat = 4 := by omega
    rcases this with q | q | q | q | q <;> rw [q] <;> decide
  obtain ⟨⟨F', e1⟩, p1⟩ := p_try (X := X) (J := J) h hR (len := yec I c n) (wt := wt) (by omega) hwt (yec I c n).toNat (d + 10) c 0 0 0 (pl0 I, I 49) F (by omega) (by omega) hc (by omega) (by omega) (by omega) ⟨⟨Int.le_refl 0, (by decide : (0 : Int) ≤ 1000)⟩, ⟨Int.le_refl 0, Int.le_refl 0⟩, Or.inl rfl, Int.le_refl 0, (by decide : (0 : Int) < 64)⟩ (by omega)
  have e0 := t_yt (X := X) (d := d + 9) (J := J) h hc (F := F) (m := n) ⟨by omega, by omega⟩
  have mn : min 4 (yec I c n) = yec I c n := by omega
  rw [show yec I c n - (((yec I c n).toNat : Nat) : Int) = 0 by omega] at e1
  refine ⟨⟨F', ?_⟩, ?_⟩
  · dsimp only at e1
    unfold tra
    simp (disch := omega) only [v_18_48, u_18_0, x_aload0, x_sipush, k_48_0, x_iload1, x_call2_0, x_call2_1, x_call2_2, x_call2_3, x_call2_4, e_k_s, e_k_i, List.nil_append, List.cons_append, x_dsub_0, x_dsub_1, x_dsub_2, x_dsub_3, x_dsub_4, p_48_3, x_iload2, p_48_4, p_48_5, p_48_6, p_48_7, p_48_8, x_call4_0, x_call4_1, x_call4_2, x_call4_3, x_call4_4, x_return, e0, mn, bk_u, plo_init, e1, b01_0, ite_not, if_true, if_false, Int.reduceLT, Int.reduceEq]
  · obtain ⟨a1, a2, a3, a4⟩ := p1
    exact ⟨a1, ⟨a2.1, Int.le_trans a2.2 (by omega)⟩, a3, a4⟩
theorem iI_b {b : Bool} : iI (if b = true then 1 else 0) = if b = true then iI 1 else iI 0 := by cases b <;> rfl
theorem p_gam (h : inv I) (hR : rok I) : ∀ (y D : Nat) (b : Bool) (c : co) (F : Int → Int), 2 * y + 6 ≤ D → (y : Int) ≤ 16 → cok I c → c.1 + y ≤ I 1 12 → ∃ F', s_S X D 21 [.ref 48, .int (iI y), .int (iI (if b = true then 1 else 0))] (mm (bk I c F) J) = some ([.int (iI (gam I y b c))], mm (bk I c F') J) := by
  have hn6 := h.1
  intro y
  induction y with
  | zero =>
    intro D b c F hD hy16 hc hy
    obtain ⟨D, rfl⟩ : ∃ D', D = D' + 1 := ⟨D - 1, by omega⟩
    refine ⟨F, ?_⟩
    simp (disch := omega) only [v_21_48, u_21_0, x_iload1, x_ifCond_gt, x_sipush, x_ireturn, x_istore3i, x_istore3r, x_istore3u, x_istore4i, x_istore4r, x_istore4u, x_jsr, u_21_11, x_iload4, x_aload0, k_48_0, f_1_9, x_if_icmp_gt, x_iload2, x_call4_0, x_call4_1, x_call4_2, x_call4_3, x_call4_4, e_k_s, e_k_i, List.nil_append, List.cons_append, x_istore5i, x_istore5r, x_istore5u, x_ifCond_eq, x_ifCond_eqb, x_iload5, x_iload3, x_if_icmp_le, x_goto, u_21_51, x_if_icmp_ge, u_21_57, u_21_60, x_iinc4i, x_iinc4r, x_iinc4u, u_21_66, Int.reduceLT, Int.cast_ofNat_Int, b01_0, ite_not, if_true, if_false, Int.reduceEq]
    rfl
  | succ y ih =>
    intro D b c F hD hy16 hc hy
    obtain ⟨D, rfl⟩ : ∃ D', D = D' + 5 + 1 + 1 := ⟨D - 7, by omega⟩
    have act : ∀ (k : Int) (F : Int → Int), 0 ≤ k → k ≤ I 1 9 → ∃ F', s_S X (D + 5 + 1) 22 [.ref 48, .int (iI k), .int (iI ((y + 1 : Nat) : Int)), .int (iI (if b = true then 1 else 0))] (mm (bk I c F) J) = some ([.int (iI (gac I y b c k))], mm (bk I c F') J) := by
      intro k F k0 k1
      have hp := pas_ok h hc (by omega) k
      obtain ⟨F1, e1⟩ := t_pas (X := X) (d := D) (J := J) h hR hc F (a := k) (by omega)
      obtain ⟨F2, e2⟩ := ih (D + 5) (!b) (pas I c k).2 F1 (by omega) (by omega) hp.1 (by omega)
      have e3 := t_bo (X := X) (d := D + 4) (J := J) h hc (c' := (pas I c k).2) (F := F2)
      have e0 := t_mo (X := X) (d := D + 4) (J := J) h hc (F := F)
      have f1 : ((y + 1 : Nat) : Int) - 1 = (y : Int) := by omega
      refine ⟨F2, ?_⟩
      unfold gac
      cases b with
      | true =>
        rw [show (if (!true) = true then (1 : Int) else 0) = 0 from rfl] at e2
        rw [show (if true = true then (1 : Int) else 0) = 1 from rfl]
        simp (disch := omega) only [v_22_48, u_22_0, x_aload0, k_48_0, x_call1_0, x_call1_1, x_call1_2, x_call1_3, x_call1_4, e_k_s, e_k_i, List.nil_append, List.cons_append, x_istore4i, x_istore4r, x_istore4u, x_iload1, x_call2_0, x_call2_1, x_call2_2, x_call2_3, x_call2_4, x_istore5i, x_istore5r, x_istore5u, x_iload5, x_iload2, x_sipush, x_isub, x_iload3, x_ifCond_ne, x_ifCond_neb, x_goto, u_22_33, x_jsr, u_22_34, x_call3_0, x_call3_1, x_call3_2, x_call3_3, x_call3_4, x_iadd, x_istore6i, x_istore6r, x_istore6u, x_iload4, x_iload6, x_ireturn, e0, e1, f1, e2, e3, b01_0, ite_not, if_true, if_false, Int.reduceLT, Int.reduceEq]
      | false =>
        rw [show (if (!false) = true then (1 : Int) else 0) = 1 from rfl] at e2
        rw [show (if false = true then (1 : Int) else 0) = 0 from rfl]
        simp (disch := omega) only [v_22_48, u_22_0, x_aload0, k_48_0, x_call1_0, x_call1_1, x_call1_2, x_call1_3, x_call1_4, e_k_s, e_k_i, List.nil_append, List.cons_append, x_istore4i, x_istore4r, x_istore4u, x_iload1, x_call2_0, x_call2_1, x_call2_2, x_call2_3, x_call2_4, x_istore5i, x_istore5r, x_istore5u, x_iload5, x_iload2, x_sipush, x_isub, x_iload3, x_ifCond_ne, x_ifCond_neb, x_goto, u_22_33, x_jsr, u_22_34, x_call3_0, x_call3_1, x_call3_2, x_call3_3, x_call3_4, x_iadd, x_istore6i, x_istore6r, x_istore6u, x_iload4, x_iload6, x_ireturn, e0, e1, f1, e2, e3, b01_0, ite_not, if_true, if_false, Int.reduceLT, Int.reduceEq]
    have loop : ∀ (n : Nat) (k v : Int) (F : Int → Int) (w : Value), 0 ≤ k → k + n = I 1 9 + 1 → 0 ≤ v ∧ v ≤ 1000 → ∃ F', s_j X (D + 5 + 1) 21 11 [.ref 48, .int (iI ((y + 1 : Nat) : Int)), .int (iI (if b = true then 1 else 0)), .int (iI v), .int (iI k), w] [] (mm (bk I c F) J) = some ([.int (iI (lpk (fun act v => if act = 0 ∨ (if b = true then v < (pas I c act).1 + gam I y (!b) (pas I c act).2 else (pas I c act).1 + gam I y (!b) (pas I c act).2 < v) then (pas I c act).1 + gam I y (!b) (pas I c act).2 else v) n k v))], mm (bk I c F') J) := by
      intro n
      induction n with
      | zero =>
        intro k v F w k0 kn hv
        refine ⟨F, ?_⟩
        rw [u_21_11]
        simp (disch := omega) only [v_21_48, u_21_0, x_iload1, x_ifCond_gt, x_sipush, x_ireturn, u_21_6, x_istore3i, x_istore3r, x_istore3u, x_istore4i, x_istore4r, x_istore4u, x_jsr, x_iload4, x_aload0, k_48_0, f_1_9, x_if_icmp_gt, x_iload2, x_call4_0, x_call4_1, x_call4_2, x_call4_3, x_call4_4, e_k_s, e_k_i, List.nil_append, List.cons_append, x_istore5i, x_istore5r, x_istore5u, x_ifCond_eq, x_ifCond_eqb, x_iload5, x_iload3, x_if_icmp_le, x_goto, u_21_51, x_if_icmp_ge, u_21_57, u_21_60, x_iinc4i, x_iinc4r, x_iinc4u, u_21_66, bk_n0, b01_0, ite_not, if_true, if_false, Int.reduceLT, Int.reduceEq]
        rw [if_pos (by omega)]
        rfl
      | succ n ihn =>
        intro k v F w k0 kn hv
        obtain ⟨F1, e1⟩ := act k F k0 (by omega)
        have hg := gac_b h (b := b) hc (show c.1 + y + 1 ≤ I 1 12 by omega) k
        have ih' := fun v hv => ihn (k + 1) v F1 (.int (iI (gac I y b c k))) (by omega) (by omega) hv
        by_cases q : k = 0 ∨ (if b = true then v < gac I y b c k else gac I y b c k < v)
        · obtain ⟨F', e2⟩ := ih' (gac I y b c k) (by omega)
          refine ⟨F', ?_⟩
          rw [lpk_s, if_pos (show k = 0 ∨ (if b = true then v < (pas I c k).1 + gam I y (!b) (pas I c k).2 else (pas I c k).1 + gam I y (!b) (pas I c k).2 < v) from q), show (pas I c k).1 + gam I y (!b) (pas I c k).2 = gac I y b c k from rfl, ← e2]
          cases b with
          | true =>
            rw [show (if true = true then (1 : Int) else 0) = 1 from rfl] at e1 ⊢
            rw [if_pos rfl] at q
            rw [u_21_11]
            simp (disch := omega) only [v_21_48, u_21_0, x_iload1, x_ifCond_gt, x_sipush, x_ireturn, u_21_6, x_istore3i, x_istore3r, x_istore3u, x_istore4i, x_istore4r, x_istore4u, x_jsr, x_iload4, x_aload0, k_48_0, f_1_9, x_if_icmp_gt, x_iload2, x_call4_0, x_call4_1, x_call4_2, x_call4_3, x_call4_4, e_k_s, e_k_i, List.nil_append, List.cons_append, x_istore5i, x_istore5r, x_istore5u, x_ifCond_eq, x_ifCond_eqb, x_iload5, x_iload3, x_if_icmp_le, x_goto, u_21_51, x_if_icmp_ge, u_21_57, u_21_60, x_iinc4i, x_iinc4r, x_iinc4u, u_21_66, bk_n0, e1, b01_0, ite_not, if_true, if_false, Int.reduceLT, Int.reduceEq]
            rw [if_neg (by omega)]
            by_cases z : k = 0
            · rw [if_pos z]
            · rw [if_neg z, if_pos (by omega)]
          | false =>
            rw [show (if false = true then (1 : Int) else 0) = 0 from rfl] at e1 ⊢
            rw [if_neg (by decide)] at q
            rw [u_21_11]
            simp (disch := omega) only [v_21_48, u_21_0, x_iload1, x_ifCond_gt, x_sipush, x_ireturn, u_21_6, x_istore3i, x_istore3r, x_istore3u, x_istore4i, x_istore4r, x_istore4u, x_jsr, x_iload4, x_aload0, k_48_0, f_1_9, x_if_icmp_gt, x_iload2, x_call4_0, x_call4_1, x_call4_2, x_call4_3, x_call4_4, e_k_s, e_k_i, List.nil_append, List.cons_append, x_istore5i, x_istore5r, x_istore5u, x_ifCond_eq, x_ifCond_eqb, x_iload5, x_iload3, x_if_icmp_le, x_goto, u_21_51, x_if_icmp_ge, u_21_57, u_21_60, x_iinc4i, x_iinc4r, x_iinc4u, u_21_66, bk_n0, e1, b01_0, ite_not, if_true, if_false, Int.reduceLT, Int.reduceEq]
            rw [if_neg (by omega)]
            by_cases z : k = 0
            · rw [if_pos z]
            · rw [if_neg z, if_pos (by omega)]
        · obtain ⟨F', e2⟩ := ih' v hv
          refine ⟨F', ?_⟩
          rw [lpk_s, if_neg (show ¬ (k = 0 ∨ (if b = true then v < (pas I c k).1 + gam I y (!b) (pas I c k).2 else (pas I c k).1 + gam I y (!b) (pas I c k).2 < v)) from q), ← e2]
          cases b with
          | true =>
            rw [show (if true = true then (1 : Int) else 0) = 1 from rfl] at e1 ⊢
            rw [if_pos rfl] at q
            rw [u_21_11]
            simp (disch := omega) only [v_21_48, u_21_0, x_iload1, x_ifCond_gt, x_sipush, x_ireturn, u_21_6, x_istore3i, x_istore3r, x_istore3u, x_istore4i, x_istore4r, x_istore4u, x_jsr, x_iload4, x_aload0, k_48_0, f_1_9, x_if_icmp_gt, x_iload2, x_call4_0, x_call4_1, x_call4_2, x_call4_3, x_call4_4, e_k_s, e_k_i, List.nil_append, List.cons_append, x_istore5i, x_istore5r, x_istore5u, x_ifCond_eq, x_ifCond_eqb, x_iload5, x_iload3, x_if_icmp_le, x_goto, u_21_51, x_if_icmp_ge, u_21_57, u_21_60, x_iinc4i, x_iinc4r, x_iinc4u, u_21_66, bk_n0, e1, b01_0, ite_not, if_true, if_false, Int.reduceLT, Int.reduceEq]
            rw [if_neg (by omega), if_neg (by omega), if_neg (by omega)]
          | false =>
            rw [show (if false = true then (1 : Int) else 0) = 0 from rfl] at e1 ⊢
            rw [if_neg (by decide)] at q
            rw [u_21_11]
            simp (disch := omega) only [v_21_48, u_21_0, x_iload1, x_ifCond_gt, x_sipush, x_ireturn, u_21_6, x_istore3i, x_istore3r, x_istore3u, x_istore4i, x_istore4r, x_istore4u, x_jsr, x_iload4, x_aload0, k_48_0, f_1_9, x_if_icmp_gt, x_iload2, x_call4_0, x_call4_1, x_call4_2, x_call4_3, x_call4_4, e_k_s, e_k_i, List.nil_append, List.cons_append, x_istore5i, x_istore5r, x_istore5u, x_ifCond_eq, x_ifCond_eqb, x_iload5, x_iload3, x_if_icmp_le, x_goto, u_21_51, x_if_icmp_ge, u_21_57, u_21_60, x_iinc4i, x_iinc4r, x_iinc4u, u_21_66, bk_n0, e1, b01_0, ite_not, if_true, if_false, Int.reduceLT, Int.reduceEq]
            rw [if_neg (by omega), if_neg (by omega), if_neg (by omega)]
    obtain ⟨F', e⟩ := loop ((I 1 9).toNat + 1) 0 0 F (.retAddr 0) (by decide) (by omega) (by decide)
    refine ⟨F', ?_⟩
    refine Eq.trans ?_ e
    simp (disch := omega) only [v_21_48, u_21_0, x_iload1, x_ifCond_gt, x_sipush, x_ireturn, u_21_6, x_istore3i, x_istore3r, x_istore3u, x_istore4i, x_istore4r, x_istore4u, x_jsr, x_iload4, x_aload0, k_48_0, f_1_9, x_if_icmp_gt, x_iload2, x_call4_0, x_call4_1, x_call4_2, x_call4_3, x_call4_4, e_k_s, e_k_i, List.nil_append, List.cons_append, x_istore5i, x_istore5r, x_istore5u, x_ifCond_eq, x_ifCond_eqb, x_iload5, x_iload3, x_if_icmp_le, x_goto, u_21_51, x_if_icmp_ge, u_21_57, u_21_60, x_iinc4i, x_iinc4r, x_iinc4u, u_21_66, b01_0, ite_not, if_true, if_false, Int.reduceLT, Int.reduceEq]
    rw [if_pos (by omega)]
theorem p_act (h : inv I) (hR : rok I) {y : Nat} {c : co} (hc : cok I c) (hy : c.1 + y + 1 ≤ I 1 12) (hy4 : y ≤ 3) {k : Int} (hk : 0 ≤ k ∧ k ≤ I 1 9) (F : Int → Int) : ∃ F', s_S X (d + 13) 22 [.ref 48, .int (iI k), .int (iI ((y + 1 : Nat) : Int)), .int (iI 1)] (mm (bk I c F) J) = some ([.int (iI (gac I y true c k))], mm (bk I c F') J) := by
  have hn6 := h.1
  have hp := pas_ok h hc (by omega) k
  obtain ⟨F1, e1⟩ := t_pas (X := X) (d := d + 7) (J := J) h hR hc F (a := k) (by omega)
  obtain ⟨F2, e2⟩ := p_gam (X := X) (J := J) h hR y (d + 12) false (pas I c k).2 F1 (by omega) (by omega) hp.1 (by omega)
  have e3 := t_bo (X := X) (d := d + 11) (J := J) h hc (c' := (pas I c k).2) (F := F2)
  have e0 := t_mo (X := X) (d := d + 11) (J := J) h hc (F := F)
  have f1 : ((y + 1 : Nat) : Int) - 1 = (y : Int) := by omega
  refine ⟨F2, ?_⟩
  unfold gac
  rw [show (if false = true then (1 : Int) else 0) = 0 from rfl] at e2
  simp (disch := omega) only [v_22_48, u_22_0, x_aload0, k_48_0, x_call1_0, x_call1_1, x_call1_2, x_call1_3, x_call1_4, e_k_s, e_k_i, List.nil_append, List.cons_append, x_istore4i, x_istore4r, x_istore4u, x_iload1, x_call2_0, x_call2_1, x_call2_2, x_call2_3, x_call2_4, x_istore5i, x_istore5r, x_istore5u, x_iload5, x_iload2, x_sipush, x_isub, x_iload3, x_ifCond_ne, x_ifCond_neb, x_goto, u_22_33, x_jsr, u_22_34, x_call3_0, x_call3_1, x_call3_2, x_call3_3, x_call3_4, x_iadd, x_istore6i, x_istore6r, x_istore6u, x_iload4, x_iload6, x_ireturn, e0, e1, f1, e2, e3, b01_0, ite_not, if_true, if_false, Int.reduceLT, Int.reduceEq]
  rfl
theorem p_lga (h : inv I) (hR : rok I) {y : Nat} {c : co} (hc : cok I c) (hy : c.1 + y + 1 ≤ I 1 12) (hy4 : y ≤ 3) (F : Int → Int) : ∃ F', s_S X (d + 14) 23 [.ref 48, .int (iI ((y + 1 : Nat) : Int))] (mm (bk I c F) J) = some ([.int (iI (lga I y c).1)], mm (bk I c F') J) := by
  have hn6 := h.1
  have loop : ∀ (n : Nat) (k : Int) (s : Int × Int) (F : Int → Int) (w : Value), 0 ≤ k → k + n = I 1 9 + 1 → 0 ≤ s.2 ∧ s.2 ≤ 1000 → ∃ F', s_j X (d + 13) 23 13 [.ref 48, .int (iI ((y + 1 : Nat) : Int)), .int (iI s.1), .int (iI s.2), .int (iI k), w] [] (mm (bk I c F) J) = some ([.int (iI (lpk (fun act (s : Int × Int) => if s.2 < gac I y true c act then (act, gac I y true c act) else s) n k s).1)], mm (bk I c F') J) := by
    intro n
    induction n with
    | zero =>
      intro k s F w k0 kn hs
      refine ⟨F, ?_⟩
      rw [u_23_13]
      simp (disch := omega) only [v_23_48, u_23_0, x_sipush, x_istore2i, x_istore2r, x_istore2u, x_aload0, x_iload1, x_call4_0, x_call4_1, x_call4_2, x_call4_3, x_call4_4, e_k_s, e_k_i, List.nil_append, List.cons_append, x_istore3i, x_istore3r, x_istore3u, x_istore4i, x_istore4r, x_istore4u, x_jsr, x_iload4, k_48_0, f_1_9, x_if_icmp_gt, x_istore5i, x_istore5r, x_istore5u, x_iload5, x_iload3, x_if_icmp_le, u_23_47, x_iinc4i, x_iinc4r, x_iinc4u, x_goto, u_23_53, x_iload2, x_ireturn, bk_n0, b01_0, ite_not, if_true, if_false, Int.reduceLT, Int.reduceEq]
      rw [if_pos (by omega)]
      rfl
    | succ n ihn =>
      intro k s F w k0 kn hs
      obtain ⟨F1, e1⟩ := p_act (X := X) (d := d) (J := J) h hR hc hy hy4 (k := k) (by omega) F
      have hg := gac_b h (b := true) hc hy k
      by_cases q : s.2 < gac I y true c k
      · obtain ⟨F', e2⟩ := ihn (k + 1) (k, gac I y true c k) F1 (.int (iI (gac I y true c k))) (by omega) (by omega) (by dsimp only; omega)
        refine ⟨F', ?_⟩
        rw [lpk_s, if_pos q, ← e2, u_23_13]
        simp (disch := omega) only [v_23_48, u_23_0, x_sipush, x_istore2i, x_istore2r, x_istore2u, x_aload0, x_iload1, x_call4_0, x_call4_1, x_call4_2, x_call4_3, x_call4_4, e_k_s, e_k_i, List.nil_append, List.cons_append, x_istore3i, x_istore3r, x_istore3u, x_istore4i, x_istore4r, x_istore4u, x_jsr, x_iload4, k_48_0, f_1_9, x_if_icmp_gt, x_istore5i, x_istore5r, x_istore5u, x_iload5, x_iload3, x_if_icmp_le, u_23_47, x_iinc4i, x_iinc4r, x_iinc4u, x_goto, u_23_53, x_iload2, x_ireturn, bk_n0, e1, b01_0, ite_not, if_true, if_false, Int.reduceLT, Int.reduceEq]
        rw [if_neg (by omega), if_pos q]
      · obtain ⟨F', e2⟩ := ihn (k + 1) s F1 (.int (iI (gac I y true c k))) (by omega) (by omega) hs
        refine ⟨F', ?_⟩
        rw [lpk_s, if_neg q, ← e2, u_23_13]
        simp (disch := omega) only [v_23_48, u_23_0, x_sipush, x_istore2i, x_istore2r, x_istore2u, x_aload0, x_iload1, x_call4_0, x_call4_1, x_call4_2, x_call4_3, x_call4_4, e_k_s, e_k_i, List.nil_append, List.cons_append, x_istore3i, x_istore3r, x_istore3u, x_istore4i, x_istore4r, x_istore4u, x_jsr, x_iload4, k_48_0, f_1_9, x_if_icmp_gt, x_istore5i, x_istore5r, x_istore5u, x_iload5, x_iload3, x_if_icmp_le, u_23_47, x_iinc4i, x_iinc4r, x_iinc4u, x_goto, u_23_53, x_iload2, x_ireturn, bk_n0, e1, b01_0, ite_not, if_true, if_false, Int.reduceLT, Int.reduceEq]
        rw [if_neg (by omega), if_neg q]
  obtain ⟨F1, e1⟩ := p_act (X := X) (d := d) (J := J) h hR hc hy hy4 (k := 0) (by omega) F
  have hg := gac_b h (b := true) hc hy 0
  obtain ⟨F', e2⟩ := loop (I 1 9).toNat 1 (0, gac I y true c 0) F1 (.retAddr 0) (by decide) (by omega) (by dsimp only; omega)
  refine ⟨F', ?_⟩
  refine Eq.trans ?_ e2
  simp (disch := omega) only [v_23_48, u_23_0, x_sipush, x_istore2i, x_istore2r, x_istore2u, x_aload0, x_iload1, x_call4_0, x_call4_1, x_call4_2, x_call4_3, x_call4_4, e_k_s, e_k_i, List.nil_append, List.cons_append, x_istore3i, x_istore3r, x_istore3u, x_istore4i, x_istore4r, x_istore4u, x_jsr, x_iload4, k_48_0, f_1_9, x_if_icmp_gt, x_istore5i, x_istore5r, x_istore5u, x_iload5, x_iload3, x_if_icmp_le, u_23_47, x_iinc4i, x_iinc4r, x_iinc4u, x_goto, u_23_53, x_iload2, x_ireturn, e1, b01_0, ite_not, if_true, if_false, Int.reduceLT, Int.reduceEq]
end
