/-! FETCHING: the model's search comes to the line -/
theorem iabs_c (a b : Int) : iabs (a - b) = iabs (b - a) := by
  rw [iabs_m, iabs_m]
  omega
theorem way_z {I : Nat → Int → Int} (h : inv I) {p : Int} : way I p 0 = 0 := by
  rcases way_s h p 0 with ⟨w, _⟩ | ⟨lo, hi, a, b, w, l, ⟨a0, a1, a2, a3⟩, _⟩
  · exact w
  · unfold bt at a2
    simp at a2
theorem gor_w {I : Nat → Int → Int} (h : inv I) : ∀ (f : Nat) (L fr pl fi : Int) (g : Int × Int), (0 ≤ L ∧ L < 64) → (∀ j, I 1 9 ≤ j → j < 6 → ¬ bt L j = 1) → crd L ≤ f → 0 ≤ fr ∧ fr ≤ 40 → 0 ≤ pl → gor I f L fr pl fi g = if g.1 < 0 ∨ pl + way I fr L < g.1 then (pl + way I fr L, if fi < 0 ∧ L ≠ 0 then ff1 I fr L (I 1 9).toNat 0 else fi) else g := by
  have hn6 := h.1
  intro f
  have zero : ∀ (f : Nat) (fr pl fi : Int) (g : Int × Int), gor I f 0 fr pl fi g = if g.1 < 0 ∨ pl + way I fr 0 < g.1 then (pl + way I fr 0, if fi < 0 ∧ (0 : Int) ≠ 0 then ff1 I fr 0 (I 1 9).toNat 0 else fi) else g := by
    intro f fr pl fi g
    rw [gor_0, way_z h, Int.add_zero, if_neg (c := fi < 0 ∧ (0 : Int) ≠ 0) (fun q => q.2 rfl)]
  induction f with
  | zero =>
    intro L fr pl fi g hL hno hc hfr hpl
    have : L = 0 := (crd_0 hL).mp (by have := crd_b (s := L); omega)
    subst this
    exact zero 0 fr pl fi g
  | succ f ih =>
    intro L fr pl fi g hL hno hc hfr hpl
    by_cases hz : L = 0
    · subst hz
      exact zero (f + 1) fr pl fi g
    rw [gor_1 hz]
    have step : ∀ k, 0 ≤ k → k < I 1 9 → ∀ g : Int × Int, bt L k = 1 → gor I f (stb L k 0) (I 3 k) (pl + iabs (I 3 k - fr)) (if fi < 0 then k else fi) g = if g.1 < 0 ∨ pl + iabs (I 3 k - fr) + way I (I 3 k) (stb L k 0) < g.1 then (pl + iabs (I 3 k - fr) + way I (I 3 k) (stb L k 0), if fi < 0 then k else fi) else g := by
      intro k k0 k1 g hb
      have hst := stb_i hL (k := k) (by omega)
      have h3k := (h.2.2.2.2.2.2.1 k k0 k1).2.1
      have hcs := crd_s hL (k := k) (by omega)
      have ha : 0 ≤ iabs (I 3 k - fr) := by rw [iabs_m]; omega
      rw [ih (stb L k 0) (I 3 k) (pl + iabs (I 3 k - fr)) (if fi < 0 then k else fi) g (by omega) (fun j j0 j1 z => by
        rw [(hst.2.2.2 j (by omega)).2, if_neg (by omega)] at z
        exact hno j j0 j1 z) (by omega) (by omega) (by omega)]
      rw [if_neg (c := (if fi < 0 then k else fi) < 0 ∧ _) (fun q => by
        have := q.1
        split at this <;> omega)]
    have A : ∀ (n : Nat) (k : Int) (g : Int × Int), 0 ≤ k → k + n ≤ I 1 9 → 0 ≤ g.1 → (∀ j, k ≤ j → j < k + n → bt L j = 1 → g.1 ≤ pl + iabs (I 3 j - fr) + way I (I 3 j) (stb L j 0)) → lpk (fun k g => if bt L k = 1 then gor I f (stb L k 0) (I 3 k) (pl + iabs (I 3 k - fr)) (if fi < 0 then k else fi) g else g) n k g = g := by
      intro n
      induction n with
      | zero => intro k g _ _ _ _; rfl
      | succ n ihn =>
        intro k g k0 kn hg hv
        show lpk _ n (k + 1) (if bt L k = 1 then _ else _) = g
        by_cases q : bt L k = 1
        · rw [if_pos q, step k k0 (by omega) g q, if_neg (by have := hv k (by omega) (by omega) q; omega)]
          exact ihn (k + 1) g (by omega) (by omega) hg (fun j j0 j1 => hv j (by omega) (by omega))
        · rw [if_neg q]
          exact ihn (k + 1) g (by omega) (by omega) hg (fun j j0 j1 => hv j (by omega) (by omega))
    have B : ∀ (n : Nat) (k : Int) (g : Int × Int), 0 ≤ k → k + n ≤ I 1 9 → (∃ j, (k ≤ j ∧ j < k + n) ∧ bt L j = 1 ∧ iabs (fr - I 3 j) + way I (I 3 j) (stb L j 0) = way I fr L) → (g.1 < 0 ∨ pl + way I fr L < g.1) → lpk (fun k g => if bt L k = 1 then gor I f (stb L k 0) (I 3 k) (pl + iabs (I 3 k - fr)) (if fi < 0 then k else fi) g else g) n k g = (pl + way I fr L, if fi < 0 then ff1 I fr L n k else fi) := by
      intro n
      induction n with
      | zero => rintro k g _ _ ⟨j, hj, _⟩; omega
      | succ n ihn =>
        rintro k g k0 kn ⟨j, hj, hb, he⟩ hg
        show lpk _ n (k + 1) (if bt L k = 1 then _ else _) = _
        have hw0 := way_0 h (s := L) hfr
        by_cases q : bt L k = 1
        · have hk := way_k h (p := fr) hL ⟨k0, by omega⟩ q
          have hic := iabs_c (I 3 k) fr
          rw [if_pos q, step k k0 (by omega) g q]
          by_cases q2 : iabs (fr - I 3 k) + way I (I 3 k) (stb L k 0) = way I fr L
          · rw [show ff1 I fr L (n + 1) k = k from if_pos ⟨q, q2⟩, if_pos (by omega)]
            rw [A n (k + 1) _ (by omega) (by omega) (by show 0 ≤ pl + iabs (I 3 k - fr) + way I (I 3 k) (stb L k 0); omega) (fun j j0 j1 z => by
              have := way_k h (p := fr) hL (k := j) ⟨by omega, by omega⟩ z
              have := iabs_c (I 3 j) fr
              show pl + iabs (I 3 k - fr) + way I (I 3 k) (stb L k 0) ≤ _
              omega)]
            rw [show pl + iabs (I 3 k - fr) + way I (I 3 k) (stb L k 0) = pl + way I fr L by omega]
          · rw [show ff1 I fr L (n + 1) k = ff1 I fr L n (k + 1) from if_neg (fun z => q2 z.2)]
            have hj' : ¬ j = k := fun z => by subst z; exact q2 he
            refine ihn (k + 1) _ (by omega) (by omega) ⟨j, by omega, hb, he⟩ ?_
            split
            · right
              show pl + way I fr L < pl + iabs (I 3 k - fr) + way I (I 3 k) (stb L k 0)
              omega
            · exact hg
        · rw [if_neg q, show ff1 I fr L (n + 1) k = ff1 I fr L n (k + 1) from if_neg (fun z => q z.1)]
          have hj' : ¬ j = k := fun z => by subst z; exact q hb
          exact ihn (k + 1) g (by omega) (by omega) ⟨j, by omega, hb, he⟩ hg
    have hex : ∃ k, (0 ≤ k ∧ k < I 1 9) ∧ bt L k = 1 := by
      refine Classical.byContradiction fun q => hz ?_
      refine st_ext hL (by decide) fun k k0 k1 => ?_
      have z : bt 0 k = 0 := by unfold bt; simp
      have b := bt_01 L k
      have : ¬ bt L k = 1 := fun e => by
        by_cases w : k < I 1 9
        · exact q ⟨k, ⟨k0, w⟩, e⟩
        · exact hno k (by omega) k1 e
      omega
    obtain ⟨k, hk, hb⟩ := hex
    by_cases q : g.1 < 0 ∨ pl + way I fr L < g.1
    · obtain ⟨j, hj, hjb, hje⟩ := way_e h (p := fr) hL hk hb
      rw [if_pos q, B (I 1 9).toNat 0 g (by decide) (by omega) ⟨j, by omega, hjb, hje⟩ q]
      by_cases qf : fi < 0
      · rw [if_pos qf, if_pos ⟨qf, hz⟩]
      · rw [if_neg qf, if_neg (fun z => qf z.1)]
    · rw [if_neg q]
      refine A (I 1 9).toNat 0 g (by decide) (by omega) (by omega) (fun j j0 j1 z => ?_)
      have := way_k h (p := fr) hL (k := j) ⟨j0, by omega⟩ z
      have := iabs_c (I 3 j) fr
      omega
theorem ff1_z {I : Nat → Int → Int} {p : Int} : ∀ (n : Nat) (k : Int), ff1 I p 0 n k = -3
  | 0, _ => rfl
  | n + 1, k => by
    unfold ff1
    rw [if_neg (fun q => by
      have := q.1
      unfold bt at this
      simp at this), ff1_z n]
theorem awy_no {I : Nat → Int → Int} (h : inv I) {c : co} (hc : cok I c) : ∀ j, I 1 9 ≤ j → j < 6 → ¬ bt (awy I c.2.2.2) j = 1 := by
  have hn := h.1
  have hb := awy_b h hc
  intro j j0 j1
  have c4 := hc.2.2.2
  have hlt : awy I c.2.2.2 < 2 ^ (I 1 9).toNat := by
    unfold awy
    omega
  rw [bt_tb hb.1]
  have h2 : (awy I c.2.2.2).toNat < 2 ^ j.toNat := by
    refine Nat.lt_of_lt_of_le ?_ (Nat.pow_le_pow_right (by decide) (show (I 1 9).toNat ≤ j.toNat by omega))
    have e : ((2 : Int) ^ (I 1 9).toNat) = ((2 ^ (I 1 9).toNat : Nat) : Int) := by rw [Int.natCast_pow]; rfl
    rw [e] at hlt
    omega
  rw [Nat.testBit_lt_two_pow h2]
  decide
/-- what fetching answers -/
def fta (I : Nat → Int → Int) (st p w : Int) : Int := if w = 0 then way I p (awy I st) else ff1 I p (awy I st) (I 1 9).toNat 0
theorem fta_m {I : Nat → Int → Int} (h : inv I) {c : co} (hc : cok I c) {p w z : Int} (hp : 0 ≤ p ∧ p ≤ 40) : (if w = 0 then (gor I 6 (awy I c.2.2.2) p 0 (-1) (-1, z)).1 else if awy I c.2.2.2 = 0 then -3 else (gor I 6 (awy I c.2.2.2) p 0 (-1) (-1, z)).2) = fta I c.2.2.2 p w := by
  have hb := awy_b h hc
  have e := gor_w h 6 (awy I c.2.2.2) p 0 (-1) (-1, z) hb (awy_no h hc) crd_b.2 hp (Int.le_refl 0)
  rw [if_pos (Or.inl (by show (-1 : Int) < 0; decide)), Int.zero_add] at e
  rw [e]
  unfold fta
  by_cases q : w = 0
  · rw [if_pos q, if_pos q]
  · rw [if_neg q, if_neg q]
    by_cases q2 : awy I c.2.2.2 = 0
    · rw [if_pos q2, q2, ff1_z]
    · rw [if_neg q2]
      show (if (-1 : Int) < 0 ∧ awy I c.2.2.2 ≠ 0 then _ else _) = _
      rw [if_pos ⟨by decide, q2⟩]
