/-! LOST PIECES: the same by class and model -/
theorem okr_t {I : Nat → Int → Int} {but kd w m : Int} : ∀ (n : Nat) (r : Int), okr I but kd w m n r = true ↔ ∀ j, r ≤ j → j < r + n → j = but ∨ ¬ bad I kd w m j
  | 0, r => ⟨fun _ j h0 h1 => by omega, fun _ => rfl⟩
  | n + 1, r => by
    unfold okr
    by_cases q : r = but ∨ ¬ bad I kd w m r
    · rw [if_pos q, okr_t n (r + 1)]
      constructor
      · intro h j h0 h1
        by_cases e : j = r
        · subst e; exact q
        · exact h j (by omega) (by omega)
      · intro h j h0 h1
        exact h j (by omega) (by omega)
    · rw [if_neg q]
      constructor
      · intro h; exact absurd h (by decide)
      · intro h; exact absurd (h r (by omega) (by omega)) q
theorem okc_t {I : Nat → Int → Int} (hp : rpk I) {but c : Int} : okc I but c = true ↔ ∀ j, 0 ≤ j → j < I 15 4 → j = but ∨ ¬ bad I (kk c) (ww c) (mq c) j := by
  have h6 := hp.1
  unfold okc
  rw [okr_t]
  constructor
  · intro h j h0 h1
    exact h j h0 (by omega)
  · intro h j h0 h1
    exact h j h0 (by omega)
theorem wc_b {I : Nat → Int → Int} (hp : rpk I) {c : Int} : 0 ≤ wc I c ∧ wc I c < 64 := wrs_b hp
theorem okc_wc {I : Nat → Int → Int} (hp : rpk I) {c : Int} : okc I (-1) c = true ↔ wc I c = 0 := by
  have h6 := hp.1
  rw [okc_t hp]
  constructor
  · intro h
    refine st_ext (wc_b hp) (by decide) fun k k0 k1 => ?_
    have z : bt 0 k = 0 := by unfold bt; simp
    have b := bt_01 (wc I c) k
    have : ¬ bt (wc I c) k = 1 := fun q => by
      have := (wrs_t hp ⟨k0, k1⟩).mp q
      rcases h k k0 this.1 with h | h
      · omega
      · exact h this.2
    omega
  · intro h j h0 h1
    right
    intro q
    have := (wrs_t hp (kd := kk c) (w := ww c) (m := mq c) (j := j) ⟨h0, by omega⟩).mpr ⟨h1, q⟩
    rw [show wrs I (kk c) (ww c) (mq c) = wc I c from rfl, h] at this
    unfold bt at this
    simp at this
theorem fcn_cfn {I : Nat → Int → Int} (hp : rpk I) : ∀ (n : Nat) (c a : Int), fcn I (-1) n c a = cfn I n c a
  | 0, _, _ => rfl
  | n + 1, c, a => by
    unfold fcn cfn
    rw [fcn_cfn hp n]
    by_cases q : wc I c = 0
    · rw [if_pos q, if_pos ((okc_wc hp).mpr q)]
    · rw [if_neg q, if_neg (fun z => q ((okc_wc hp).mp z)), Int.add_zero]
theorem fff_st {I : Nat → Int → Int} {but : Int} : ∀ (n : Nat) (c f : Int), 0 ≤ f → fff I but n c f = f
  | 0, _, _, _ => rfl
  | n + 1, c, f, h => by
    unfold fff
    rw [if_neg (fun z => by omega), fff_st n _ _ h]
theorem fff_ffc {I : Nat → Int → Int} (hp : rpk I) : ∀ (n : Nat) (c : Int), 0 ≤ c → fff I (-1) n c (-1) = ffc I n c
  | 0, _, _ => rfl
  | n + 1, c, h => by
    unfold fff ffc
    by_cases q : wc I c = 0
    · rw [if_pos q, if_pos ⟨(okc_wc hp).mpr q, by decide⟩, fff_st n _ _ h]
    · rw [if_neg q, if_neg (fun z => q ((okc_wc hp).mp z.1)), fff_ffc hp n (c + 1) (by omega)]
theorem cfn_ffc {I : Nat → Int → Int} : ∀ (n : Nat) (c a : Int), 0 ≤ c → (cfn I n c a = a ↔ ffc I n c = -1) ∧ a ≤ cfn I n c a
  | 0, _, _, _ => ⟨⟨fun _ => rfl, fun _ => rfl⟩, Int.le_refl _⟩
  | n + 1, c, a, h => by
    unfold cfn ffc
    by_cases q : wc I c = 0
    · rw [if_pos q, if_pos q]
      have := (cfn_ffc (I := I) n (c + 1) (a + 1) (by omega)).2
      omega
    · rw [if_neg q, if_neg q]
      exact cfn_ffc n (c + 1) a (by omega)
theorem lost_same {I : Nat → Int → Int} (hp : rpk I) {w : Int} (hw : 0 ≤ w ∧ w ≤ 3) : (if w = 0 then fcn I (-1) 500 0 0 else if fcn I (-1) 500 0 0 = 0 then -3 else if w = 1 then kk (fff I (-1) 500 0 (-1)) else if w = 2 then ww (fff I (-1) 500 0 (-1)) else mq (fff I (-1) 500 0 (-1))) = if w = 0 then cfn I 500 0 0 else ffa (ffc I 500 0) w := by
  rw [fcn_cfn hp, fff_ffc hp 500 0 (by decide)]
  have h := (cfn_ffc (I := I) 500 0 0 (by decide)).1
  unfold ffa
  by_cases q : w = 0
  · rw [if_pos q, if_pos q]
  · rw [if_neg q, if_neg q]
    by_cases q2 : cfn I 500 0 0 = 0
    · rw [if_pos q2, if_pos (h.mp q2)]
    · rw [if_neg q2, if_neg (fun z => q2 (h.mpr z))]
/-- a code's wrong reports are one alone -/
theorem crd1_dec : (List.range 64).all (fun a => (List.range 6).all fun r => decide ((a : Nat) ≠ 0 → ((crd a = 1 ∧ bt a r = 1) ↔ ∀ j : Nat, j < 6 → bt a j = 1 → j = r))) = true := by decide +kernel
theorem okc_r {I : Nat → Int → Int} (hp : rpk I) {c r : Int} (hz : ¬ wc I c = 0) (hr : 0 ≤ r ∧ r < 6) : okc I r c = true ↔ crd (wc I c) = 1 ∧ bt (wc I c) r = 1 := by
  have h6 := hp.1
  have hb := wc_b hp (c := c)
  rw [okc_t hp]
  have key : (∀ j, 0 ≤ j → j < I 15 4 → j = r ∨ ¬ bad I (kk c) (ww c) (mq c) j) ↔ ∀ j : Nat, j < 6 → bt (wc I c) j = 1 → j = r.toNat := by
    constructor
    · intro h j hj q
      have := (wrs_t hp (j := (j : Int)) ⟨by omega, by omega⟩).mp q
      rcases h j (by omega) this.1 with h | h
      · omega
      · exact absurd this.2 h
    · intro h j h0 h1
      by_cases q : bad I (kk c) (ww c) (mq c) j
      · left
        have q2 := (wrs_t hp (kd := kk c) (w := ww c) (m := mq c) (j := j) ⟨h0, by omega⟩).mpr ⟨h1, q⟩
        have := h j.toNat (by omega) (by rw [Int.toNat_of_nonneg h0]; exact q2)
        omega
      · exact Or.inr q
  rw [key]
  obtain ⟨a, ha⟩ := Int.eq_ofNat_of_zero_le hb.1
  obtain ⟨R, hR⟩ := Int.eq_ofNat_of_zero_le hr.1
  have h := of_decide_eq_true (List.all_eq_true.mp (List.all_eq_true.mp crd1_dec a (List.mem_range.mpr (by omega))) R (List.mem_range.mpr (by omega))) (by omega)
  rw [ha, hR, Int.toNat_natCast]
  exact h.symm
/-- liars' set, and who is in it -/
theorem llr_t {I : Nat → Int → Int} (hp : rpk I) : ∀ (n : Nat) (c s : Int), 0 ≤ c → (0 ≤ s ∧ s < 64) → (cfn I n c 0 ≠ 0 → llr I n c s = -3) ∧ (cfn I n c 0 = 0 → ∃ s', (0 ≤ s' ∧ s' < 64) ∧ llr I n c s = lof s' 6 0 ∧ ∀ r, 0 ≤ r → r < 6 → (bt s' r = 1 ↔ bt s r = 1 ∨ 0 < fcn I r n c 0))
  | 0, c, s, _, hs => ⟨fun h => absurd rfl h, fun _ => ⟨s, hs, rfl, fun r r0 r1 => ⟨fun q => Or.inl q, fun q => by
      rcases q with q | q
      · exact q
      · unfold fcn at q; omega⟩⟩⟩
  | n + 1, c, s, h0, hs => by
    have hm := (cfn_ffc (I := I) n (c + 1) 1 (by omega)).2
    have hb := wc_b hp (c := c)
    unfold cfn llr
    by_cases q : wc I c = 0
    · rw [if_pos q, if_pos q, Int.zero_add]
      exact ⟨fun _ => rfl, fun z => by omega⟩
    · rw [if_neg q, if_neg q]
      have ho := orr_b hs hb
      obtain ⟨r1, r2⟩ := llr_t hp n (c + 1) (if crd (wc I c) = 1 then orr s (wc I c) else s) (by omega) (by split <;> omega)
      refine ⟨r1, fun z => ?_⟩
      obtain ⟨s', hs', e, ht⟩ := r2 z
      refine ⟨s', hs', e, fun r r0 r6 => ?_⟩
      rw [ht r r0 r6]
      have hfc : fcn I r (n + 1) c 0 = fcn I r n (c + 1) (0 + (if okc I r c = true then 1 else 0)) := rfl
      have hk := okc_r hp q (r := r) ⟨r0, r6⟩
      by_cases w : okc I r c = true
      · have hb2 := fcn_b (I := I) (but := r) n (c + 1) (0 + 1)
        rw [hfc, if_pos w, if_pos (hk.mp w).1, bt_orr hs.1 hb.1]
        exact ⟨fun _ => Or.inr (by omega), fun _ => Or.inl (Or.inr (hk.mp w).2)⟩
      · rw [hfc, if_neg w, Int.add_zero]
        by_cases v : crd (wc I c) = 1
        · rw [if_pos v, bt_orr hs.1 hb.1]
          have nb : ¬ bt (wc I c) r = 1 := fun y => w (hk.mpr ⟨v, y⟩)
          constructor
          · rintro ((y | y) | y)
            · exact Or.inl y
            · exact absurd y nb
            · exact Or.inr y
          · rintro (y | y)
            · exact Or.inl (Or.inl y)
            · exact Or.inr y
        · rw [if_neg v]
theorem fcn_out {I : Nat → Int → Int} (hp : rpk I) {r : Int} (hr : I 15 4 ≤ r ∧ r < 6) (h : cfn I 500 0 0 = 0) : ¬ 0 < fcn I r 500 0 0 := by
  have e : ∀ (n : Nat) (c a : Int), fcn I r n c a = fcn I (-1) n c a := by
    intro n
    induction n with
    | zero => intro c a; rfl
    | succ n ih =>
      intro c a
      unfold fcn
      have : okc I r c = true ↔ okc I (-1) c = true := by
        rw [okc_t hp, okc_t hp]
        constructor
        · intro z j j0 j1
          rcases z j j0 j1 with z | z
          · omega
          · exact Or.inr z
        · intro z j j0 j1
          rcases z j j0 j1 with z | z
          · omega
          · exact Or.inr z
      have hx : (if okc I r c = true then (1 : Int) else 0) = if okc I (-1) c = true then 1 else 0 := by
        by_cases q : okc I (-1) c = true
        · rw [if_pos q, if_pos (this.mpr q)]
        · rw [if_neg q, if_neg (fun z => q (this.mp z))]
      rw [hx, ih]
  rw [e, fcn_cfn hp, h]
  decide
theorem mli_lof {I : Nat → Int → Int} {s : Int} : ∀ (n m : Nat) (r : Int), 0 ≤ r → r + n + m = 6 → (∀ j, r ≤ j → j < r + n → (bt s j = 1 ↔ 0 < fcn I j 500 0 0)) → (∀ j, r + n ≤ j → j < 6 → ¬ bt s j = 1) → lof s (n + m) r = mli I n r
  | 0, m, r, h0, hn, _, hno => by
    rw [Nat.zero_add]
    show lof s m r = -3
    rcases lof_b (s := s) m r with h | ⟨h1, h2, h3⟩
    · exact h
    · exact absurd h3 (hno _ (by omega) (by omega))
  | n + 1, m, r, h0, hn, hy, hno => by
    rw [show n + 1 + m = (n + m) + 1 by omega]
    unfold lof mli
    have ih := mli_lof (I := I) (s := s) n m (r + 1) (by omega) (by omega) (fun j j0 j1 => hy j (by omega) (by omega)) (fun j j0 j1 => hno j (by omega) j1)
    rw [ih]
    have := hy r (by omega) (by omega)
    by_cases q : bt s r = 1
    · rw [if_pos q, if_pos (this.mp q)]
    · rw [if_neg q, if_neg (fun z => q (this.mpr z))]
theorem liar_same {I : Nat → Int → Int} (hp : rpk I) : (if 0 < fcn I (-1) 500 0 0 then -3 else mli I (I 15 4).toNat 0) = llr I 500 0 0 := by
  have h6 := hp.1
  have hb := fcn_b (I := I) (but := -1) 500 0 0
  rw [fcn_cfn hp] at hb ⊢
  obtain ⟨r1, r2⟩ := llr_t hp 500 0 0 (by decide) (by decide)
  by_cases q : cfn I 500 0 0 = 0
  · rw [if_neg (by omega)]
    obtain ⟨s', hs', e, ht⟩ := r2 q
    rw [e]
    have z : ∀ r, ¬ bt 0 r = 1 := fun r => by unfold bt; simp
    have := mli_lof (I := I) (s := s') (I 15 4).toNat (6 - (I 15 4).toNat) 0 (by decide) (by omega) (fun j j0 j1 => by
      rw [ht j j0 (by omega)]
      exact ⟨fun w => w.elim (fun w => absurd w (z j)) id, Or.inr⟩) (fun j j0 j1 w => by
      rcases (ht j (by omega) j1).mp w with w | w
      · exact z j w
      · exact fcn_out hp ⟨by omega, j1⟩ q w)
    rw [show (I 15 4).toNat + (6 - (I 15 4).toNat) = 6 by omega] at this
    exact this.symm
  · rw [if_pos (by omega)]
    exact (r1 q).symm
