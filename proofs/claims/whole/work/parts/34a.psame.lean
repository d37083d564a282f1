/-! PLANS: the same by class and model -/
def pr1 (len : Int) (g g' : pac) : Prop := 0 < g.2.1 ∧ g.2.1 = g'.2.1 ∧ g.1 = g'.1 ∧ ((g.2.2.1 = g'.2.2.1 ∧ 0 ≤ g.2.2.1 ∧ g.2.2.1 ≤ 4) ∨ (g.2.2.1 = -3 ∧ g'.2.2.1 = 5)) ∧ g.2.2.2.1 = g'.2.2.2.1 ∧ ∀ i, 0 ≤ i → i < len → g.2.2.2.2 i = g'.2.2.2.2 i
def pr0 (len : Int) (g g' : pac) : Prop := pr1 len g g' ∨ (g.2.1 = 0 ∧ g'.2.1 = 0 ∧ g'.1 = -1 ∧ g.2.2.1 = -3 ∧ g'.2.2.1 = 5 ∧ g.2.2.2.1 = g'.2.2.2.1)
theorem pr_leaf {len wt wo to st : Int} {A A' : Int → Int} {g g' : pac} (hl : len ≤ 4) (h : pr0 len g g') (hw : 0 ≤ wo) (ht : 0 ≤ to ∧ to ≤ 4) (hA : ∀ i, 0 ≤ i → i < len → A i = A' i) (hst : 0 ≤ st ∧ st < 64) (hwt : 0 ≤ wt ∧ wt < 64) : pr1 len (wgh wt A wo to st g) (mwg len wt A' wo to st g') := by
  have ha := (adn_i (a := wt) (b := st) hwt hst).2
  have hc : ∀ i, 0 ≤ i → i < len → ∀ Q Q', cpy4 A Q i = cpyn len A' Q' i := fun i i0 i1 Q Q' => by
    unfold cpy4 cpyn
    rw [if_pos (by omega), if_pos ⟨i0, i1⟩]
    exact hA i i0 i1
  unfold wgh mwg pr1
  dsimp only
  rcases h with ⟨h1, h2, h3, h4, h5, h6⟩ | ⟨h1, h2, h3, h4, h5, h6⟩
  · rw [← h2, ← h3, ← h5]
    by_cases q : g.1 < wo
    · simp only [if_pos q, if_pos (show g.2.1 = 0 ∨ g.1 < wo from Or.inr q)]
      refine ⟨by decide, trivial, trivial, ?_, trivial, fun i i0 i1 => hc i i0 i1 _ _⟩
      by_cases z : ann st wt = wt
      · have z' := ha.mpr z
        simp only [z, z', true_and]
        rcases h4 with ⟨a, b, c⟩ | ⟨a, b⟩
        · rw [← a]
          left
          by_cases w : to < g.2.2.1
          · rw [if_pos w, if_pos (Or.inr w)]; omega
          · rw [if_neg w, if_neg (by omega)]; omega
        · rw [b, if_pos (Or.inl a), if_pos (by omega)]
          left; omega
      · have z' := fun q => z (ha.mp q)
        rw [if_neg (fun q => z q.1), if_neg (fun q => z' q.1)]
        exact h4
    · simp only [if_neg q, if_neg (show ¬ (g.2.1 = 0 ∨ g.1 < wo) from fun w => w.elim (fun w => by omega) q)]
      refine ⟨by split <;> omega, trivial, trivial, ?_, trivial, h6⟩
      by_cases z : ann st wt = wt
      · have z' := ha.mpr z
        simp only [z, z', true_and]
        rcases h4 with ⟨a, b, c⟩ | ⟨a, b⟩
        · rw [← a]
          left
          by_cases w : to < g.2.2.1
          · rw [if_pos w, if_pos (Or.inr w)]; omega
          · rw [if_neg w, if_neg (by omega)]; omega
        · rw [b, if_pos (Or.inl a), if_pos (by omega)]
          left; omega
      · have z' := fun q => z (ha.mp q)
        rw [if_neg (fun q => z q.1), if_neg (fun q => z' q.1)]
        exact h4
  · have q : g'.1 < wo := by omega
    simp only [if_pos q, if_pos (show g.2.1 = 0 ∨ g.1 < wo from Or.inl h1)]
    refine ⟨by decide, trivial, trivial, ?_, by rw [h6], fun i i0 i1 => hc i i0 i1 _ _⟩
    by_cases z : ann st wt = wt
    · have z' := ha.mpr z
      simp only [z, z', true_and]
      rw [h5, if_pos (Or.inl h4), if_pos (by omega)]
      left; omega
    · have z' := fun q => z (ha.mp q)
      rw [if_neg (fun q => z q.1), if_neg (fun q => z' q.1)]
      exact Or.inr ⟨h4, h5⟩
theorem pr_trf {I : Nat → Int → Int} (h : inv I) {len wt : Int} (hl : len ≤ 4) (hwt : 0 ≤ wt ∧ wt < 64) : ∀ (f : Nat) (c : co) (wo to : Int) (s s' : pac × (Int → Int)), (f : Int) ≤ len → cok I c → c.1 + f ≤ I 1 12 → 0 ≤ wo → (0 ≤ to ∧ to + f ≤ 4) → pr0 len s.1 s'.1 → (∀ i, 0 ≤ i → i < len - f → s.2 i = s'.2 i) → pr1 len (trf (wgh wt) I len f c wo to s).1 (trf (mwg len wt) I len f c wo to s').1 ∧ ∀ i, 0 ≤ i → i < len - f → (trf (wgh wt) I len f c wo to s).2 i = (trf (mwg len wt) I len f c wo to s').2 i := by
  have h64 := pw_6 h.1
  intro f
  induction f with
  | zero =>
    intro c wo to s s' hf hc hy hw ht hp hA
    have c4 := hc.2.2.2
    exact ⟨pr_leaf hl hp hw (by omega) (fun i i0 i1 => hA i i0 (by omega)) (by omega) hwt, hA⟩
  | succ f ih =>
    intro c wo to s s' hf hc hy hw ht hp hA
    have loop : ∀ (n : Nat) (k : Int) (s s' : pac × (Int → Int)), 0 ≤ k → pr0 len s.1 s'.1 → (∀ i, 0 ≤ i → i < len - ((f : Int) + 1) → s.2 i = s'.2 i) → (n = 0 ∨ pr1 len (lpk (fun act s => trf (wgh wt) I len f (pas I c act).2 (wo + (pas I c act).1) (if act = 0 then to else to + 1) (s.1, upf s.2 (len - ((f : Int) + 1)) act)) n k s).1 (lpk (fun act s => trf (mwg len wt) I len f (pas I c act).2 (wo + (pas I c act).1) (if act = 0 then to else to + 1) (s.1, upf s.2 (len - ((f : Int) + 1)) act)) n k s').1) ∧ ∀ i, 0 ≤ i → i < len - ((f : Int) + 1) → (lpk (fun act s => trf (wgh wt) I len f (pas I c act).2 (wo + (pas I c act).1) (if act = 0 then to else to + 1) (s.1, upf s.2 (len - ((f : Int) + 1)) act)) n k s).2 i = (lpk (fun act s => trf (mwg len wt) I len f (pas I c act).2 (wo + (pas I c act).1) (if act = 0 then to else to + 1) (s.1, upf s.2 (len - ((f : Int) + 1)) act)) n k s').2 i := by
      intro n
      induction n with
      | zero => intro k s s' k0 hp hA; exact ⟨Or.inl rfl, hA⟩
      | succ n ihn =>
        intro k s s' k0 hp hA
        rw [lpk_s, lpk_s]
        have hp1 := pas_ok h hc (by omega) k
        obtain ⟨r1, r2⟩ := ih (pas I c k).2 (wo + (pas I c k).1) (if k = 0 then to else to + 1) (s.1, upf s.2 (len - ((f : Int) + 1)) k) (s'.1, upf s'.2 (len - ((f : Int) + 1)) k) (by omega) hp1.1 (by omega) (by omega) (by split <;> omega) hp (fun i i0 i1 => by
          show (if _ then _ else _) = (if _ then _ else _)
          by_cases q : i = len - ((f : Int) + 1)
          · rw [if_pos q, if_pos q]
          · rw [if_neg q, if_neg q]
            exact hA i i0 (by omega))
        obtain ⟨l1, l2⟩ := ihn (k + 1) _ _ (by omega) (Or.inl r1) (fun i i0 i1 => r2 i i0 (by omega))
        refine ⟨Or.inr ?_, l2⟩
        rcases l1 with l1 | l1
        · subst l1
          exact r1
        · exact l1
    obtain ⟨l1, l2⟩ := loop ((I 1 9).toNat + 1) 0 s s' (by decide) hp (fun i i0 i1 => hA i i0 (by omega))
    rcases l1 with l1 | l1
    · omega
    · exact ⟨l1, fun i i0 i1 => l2 i i0 (by omega)⟩
theorem pr_tra {I M : Nat → Int → Int} (h : inv I) {c : co} (hc : cok I c) {n wt : Int} (hn : 0 ≤ n ∧ n ≤ 4) (hwt : 0 ≤ wt ∧ wt < 64) : pr1 (yec I c n) (tra I c n wt).1 (mtra I M c n wt).1 := by
  have hy := yec_b hn.1 hc
  exact (pr_trf h (len := yec I c n) (by omega) hwt (yec I c n).toNat c 0 0 (pl0 I, I 49) (mp0 M, M 79) (by omega) hc (by omega) (by decide) (by omega) (Or.inr ⟨rfl, rfl, rfl, rfl, rfl, rfl⟩) (fun i i0 i1 => by omega)).1
theorem lof_n {s n : Int} (hn : 0 ≤ n ∧ n ≤ 6) (hno : ∀ j, n ≤ j → j < 6 → ¬ bt s j = 1) : lof s 6 0 = lof s n.toNat 0 := by
  have g : ∀ (m r : Nat) (k : Int), (∀ j, k + m ≤ j → j < 6 → ¬ bt s j = 1) → 0 ≤ k → k + m + r = 6 → lof s (m + r) k = lof s m k := by
    intro m
    induction m with
    | zero =>
      intro r
      induction r with
      | zero => intro k _ _ _; rfl
      | succ r ih =>
        intro k hj k0 hk
        show (if bt s k = 1 then k else lof s (0 + r) (k + 1)) = -3
        rw [if_neg (hj k (by omega) (by omega)), ih (k + 1) (fun j j0 j1 => hj j (by omega) j1) (by omega) (by omega)]
        rfl
    | succ m ih =>
      intro r k hj k0 hk
      rw [show m + 1 + r = (m + r) + 1 by omega]
      show (if bt s k = 1 then k else lof s (m + r) (k + 1)) = (if bt s k = 1 then k else lof s m (k + 1))
      rw [ih r (k + 1) (fun j j0 j1 => hj j (by omega) j1) (by omega) (by omega)]
  have e := g n.toNat (6 - n.toNat) 0 (fun j j0 j1 => hno j (by omega) j1) (by decide) (by omega)
  rw [show n.toNat + (6 - n.toNat) = 6 by omega] at e
  exact e
/-- who never sits, of told ones -/
theorem nev_no {n wt ev : Int} (hn : 0 ≤ n ∧ n ≤ 6) (hwt : 0 ≤ wt ∧ wt < 2 ^ n.toNat) : ∀ j, n ≤ j → j < 6 → ¬ bt (wt - ann wt ev) j = 1 := by
  have h64 := pw_6 hn
  intro j j0 j1
  have hle : ann wt ev ≤ wt := by
    have : wt.toNat &&& ev.toNat ≤ wt.toNat := Nat.and_le_left
    unfold ann
    omega
  have h0 : 0 ≤ ann wt ev := by unfold ann; omega
  rw [bt_tb (by omega)]
  have h2 : (wt - ann wt ev).toNat < 2 ^ j.toNat := by
    refine Nat.lt_of_lt_of_le ?_ (Nat.pow_le_pow_right (by decide) (show n.toNat ≤ j.toNat by omega))
    have e : ((2 : Int) ^ n.toNat) = ((2 ^ n.toNat : Nat) : Int) := by rw [Int.natCast_pow]; rfl
    rw [e] at hwt
    omega
  rw [Nat.testBit_lt_two_pow h2]
  decide
