/-! WHAT TB SPEAKS OF -/
theorem crl_cg {I I' : Nat → Int → Int} {S S' : Int → Int} {e : Int} : ∀ (n : Nat) (i j : Int) (k : Nat), (∀ x, i ≤ x → x < i + n → I' 13 x = I 13 x) → (∀ x, 122 + j ≤ x → x < 122 + e → S' x = S x) → crl I S n i j e k → crl I' S' n i j e k
  | 0, _, _, _, _, _, h => h
  | n + 1, i, j, k, hI, hS, h => by
    obtain ⟨h0, h⟩ := h
    refine ⟨h0, ?_⟩
    have i1 := hI i (by omega) (by omega)
    rcases h with ⟨a1, a2, a3, a4⟩ | ⟨a1, a2, a3⟩ | ⟨s, l, r, b1, b2, b3, b4, b5, b6, b7, b8⟩
    · have := crl_le _ _ _ _ a4
      refine Or.inl ⟨by rw [i1]; exact a1, by rw [hS _ (by omega) (by omega)]; exact a2, a3, crl_cg n _ _ _ (fun x x0 x1 => hI x (by omega) (by omega)) (fun x x0 x1 => hS x (by omega) x1) a4⟩
    · have := crl_le _ _ _ _ a3
      refine Or.inr (Or.inl ⟨?_, a2, crl_cg n _ _ _ (fun x x0 x1 => hI x (by omega) (by omega)) (fun x x0 x1 => hS x (by omega) x1) a3⟩)
      rw [i1, hS _ (by omega) (by omega)]
      exact a1
    · have := crl_le _ _ _ _ b8
      refine Or.inr (Or.inr ⟨s, l, r, b1, b2, b3, by rw [i1]; exact b4, by rw [hS _ (by omega) (by omega)]; exact b5, by rw [hS _ (by omega) (by omega)]; exact b6, by rw [hS _ (by omega) (by omega)]; exact b7, crl_cg n _ _ _ (fun x x0 x1 => hI x (by omega) (by omega)) (fun x x0 x1 => hS x (by omega) x1) b8⟩)
def alk (T T' : Nat → Int → Int) : Prop := (∀ k, 9 ≤ k → k ≤ 16 → T' 1 k = T 1 k) ∧ (∀ o, 2 ≤ o → o ≤ 7 → ∀ k, 0 ≤ k → k < 6 → T' o k = T o k) ∧ (∀ k, 0 ≤ k → k < 16 → T' 8 k = T 8 k) ∧ T' 9 5 = T 9 5 ∧ (∀ o, 10 ≤ o → o ≤ 12 → ∀ k, 0 ≤ k → k < 8 → T' o k = T o k) ∧ (∀ k, 0 ≤ k → k < 200 → T' 13 k = T 13 k) ∧ T' 15 4 = T 15 4 ∧ ∀ o, 16 ≤ o → o ≤ 19 → ∀ k, 0 ≤ k → k < 6 → T' o k = T o k
theorem inv_alk {T T' : Nat → Int → Int} (a : alk T T') (h : inv T) : inv T' := by
  obtain ⟨a1, a2, a3, -⟩ := a
  obtain ⟨h1, h2, h3, h4, h5, h6, h7, h8, h9⟩ := h
  unfold inv
  rw [a1 9 (by decide) (by decide), a1 10 (by decide) (by decide), a1 11 (by decide) (by decide), a1 12 (by decide) (by decide), a1 14 (by decide) (by decide), a1 15 (by decide) (by decide)]
  refine ⟨h1, h2, h3, h4, h5, h6, fun k k0 k1 => ?_, fun g g0 g1 => ?_, fun y y0 y1 => ?_⟩
  · rw [a2 2 (by decide) (by decide) k k0 (by omega), a2 3 (by decide) (by decide) k k0 (by omega), a2 4 (by decide) (by decide) k k0 (by omega), a2 5 (by decide) (by decide) k k0 (by omega)]
    exact h7 k k0 k1
  · rw [a2 6 (by decide) (by decide) g g0 g1, a2 7 (by decide) (by decide) g g0 g1]
    exact h8 g g0 g1
  · rw [a3 y y0 y1]
    exact h9 y y0 y1
theorem rpk_alk {T T' : Nat → Int → Int} (a : alk T T') (h : rpk T) : rpk T' := by
  obtain ⟨-, -, -, -, -, -, a7, a8⟩ := a
  obtain ⟨h1, h2⟩ := h
  unfold rpk
  rw [a7]
  refine ⟨h1, fun i i0 i1 => ?_⟩
  rw [a8 16 (by decide) (by decide) i i0 (by omega), a8 17 (by decide) (by decide) i i0 (by omega), a8 18 (by decide) (by decide) i i0 (by omega), a8 19 (by decide) (by decide) i i0 (by omega)]
  exact h2 i i0 i1
theorem RE_alk {T T' : Nat → Int → Int} {S S' : Int → Int} (a : alk T T') (s : ∀ k, 0 ≤ k → k < 322 → S' k = S k) (hi : inv T) (h : RE T S) : RE T' S' := by
  obtain ⟨a1, a2, a3, -⟩ := a
  obtain ⟨h1, h2, h3, h4, h5⟩ := h
  have hn := hi.1
  unfold RE
  rw [a1 9 (by decide) (by decide), a1 12 (by decide) (by decide), s 1 (by decide) (by decide), s 6 (by decide) (by decide)]
  refine ⟨h1, h2, fun k k0 k1 => ?_, fun g g0 g1 => ?_, fun y y0 y1 => ?_⟩
  · rw [a2 2 (by decide) (by decide) k k0 (by omega), a2 3 (by decide) (by decide) k k0 (by omega), a2 4 (by decide) (by decide) k k0 (by omega), a2 5 (by decide) (by decide) k k0 (by omega), s _ (by omega) (by omega), s _ (by omega) (by omega), s _ (by omega) (by omega), s _ (by omega) (by omega)]
    exact h3 k k0 k1
  · rw [a2 6 (by decide) (by decide) g g0 g1, a2 7 (by decide) (by decide) g g0 g1, s _ (by omega) (by omega), s _ (by omega) (by omega)]
    exact h4 g g0 g1
  · rw [a3 y y0 y1, s _ (by omega) (by omega)]
    exact h5 y y0 y1
theorem RP_alk {T T' : Nat → Int → Int} {S S' : Int → Int} (a : alk T T') (s : ∀ k, 0 ≤ k → k < 322 → S' k = S k) (hp : rpk T) (h : RP T S) : RP T' S' := by
  obtain ⟨-, -, -, -, -, -, a7, a8⟩ := a
  obtain ⟨h1, h2⟩ := h
  have hn := hp.1
  unfold RP
  rw [a7, s 8 (by decide) (by decide)]
  refine ⟨h1, fun i i0 i1 => ?_⟩
  rw [a8 16 (by decide) (by decide) i i0 (by omega), a8 17 (by decide) (by decide) i i0 (by omega), a8 18 (by decide) (by decide) i i0 (by omega), a8 19 (by decide) (by decide) i i0 (by omega), s _ (by omega) (by omega), s _ (by omega) (by omega), s _ (by omega) (by omega), s _ (by omega) (by omega)]
  exact h2 i i0 i1
theorem RC_alk {T T' : Nat → Int → Int} {S S' : Int → Int} (a : alk T T') (s : ∀ k, 0 ≤ k → k < 322 → S' k = S k) (hi : inv T) (h : RC T S) : RC T' S' := by
  obtain ⟨a1, -⟩ := a
  obtain ⟨c0, c2, c3, c4, c5, c6⟩ := h
  have hn := hi.1
  unfold RC
  rw [a1 9 (by decide) (by decide), a1 10 (by decide) (by decide), a1 11 (by decide) (by decide), a1 13 (by decide) (by decide), a1 14 (by decide) (by decide), a1 15 (by decide) (by decide), a1 16 (by decide) (by decide), s 0 (by decide) (by decide), s 2 (by decide) (by decide), s 3 (by decide) (by decide), s 4 (by decide) (by decide), s 5 (by decide) (by decide)]
  refine ⟨c0, c2, c3, c4, c5, fun k k0 k1 => ?_⟩
  rw [s _ (by omega) (by omega)]
  exact c6 k k0 k1
theorem hok_cg {I I' : Nat → Int → Int} : ∀ (n : Nat) (i : Int) (k : Nat), (∀ x, i ≤ x → x < i + n → I' 13 x = I 13 x) → hok I n i k → hok I' n i k
  | 0, _, _, _, h => h
  | n + 1, i, k, hI, h => by
    obtain ⟨h0, h⟩ := h
    refine ⟨h0, ?_⟩
    rw [hI i (by omega) (by omega)]
    rcases h with ⟨a1, a2, a3⟩ | ⟨a1, a2, a3⟩ | ⟨a1, a2⟩
    · exact Or.inl ⟨a1, a2, hok_cg n _ _ (fun x x0 x1 => hI x (by omega) (by omega)) a3⟩
    · exact Or.inr (Or.inl ⟨a1, a2, hok_cg n _ _ (fun x x0 x1 => hI x (by omega) (by omega)) a3⟩)
    · exact Or.inr (Or.inr ⟨a1, hok_cg n _ _ (fun x x0 x1 => hI x (by omega) (by omega)) a2⟩)
theorem rfr_alk {T T' : Nat → Int → Int} (a : alk T T') {i : Int} (h : 0 ≤ i ∧ i < 8) : rfr T' i = rfr T i := by
  unfold rfr
  by_cases z : i = 0
  · rw [if_pos z, if_pos z]
  · rw [if_neg z, if_neg z, a.2.2.2.2.1 12 (by decide) (by decide) (i - 1) (by omega) (by omega)]
theorem rok_alk {T T' : Nat → Int → Int} (a : alk T T') (h : rok T) : rok T' := by
  obtain ⟨h1, h2⟩ := h
  unfold rok
  rw [a.2.2.2.1]
  refine ⟨h1, fun i i0 i1 => ?_⟩
  obtain ⟨b1, b2, b3, b4, b5, b6⟩ := h2 i i0 i1
  rw [rfr_alk a ⟨i0, by omega⟩, a.2.2.2.2.1 10 (by decide) (by decide) i i0 (by omega), a.2.2.2.2.1 11 (by decide) (by decide) i i0 (by omega), a.2.2.2.2.1 12 (by decide) (by decide) i i0 (by omega)]
  exact ⟨b1, b2, b3, b4, b5, hok_cg _ _ _ (fun x x0 x1 => a.2.2.2.2.2.1 x (by omega) (by omega)) b6⟩
theorem RR_alk {T T' : Nat → Int → Int} {S S' : Int → Int} (a : alk T T') (s : ∀ k, 0 ≤ k → k < 322 → S' k = S k) (hr : rok T) (h : RR T S) : RR T' S' := by
  obtain ⟨h1, h2⟩ := h
  obtain ⟨r1, r2⟩ := hr
  unfold RR
  rw [a.2.2.2.1, s 7 (by decide) (by decide)]
  refine ⟨h1, fun i i0 i1 => ?_⟩
  obtain ⟨b1, b2, b3, b4, b5⟩ := h2 i i0 i1
  obtain ⟨d1, d2, d3, d4, d5, d6⟩ := r2 i i0 i1
  have hm : mfr S' i = mfr S i := by
    unfold mfr
    by_cases z : i = 0
    · rw [if_pos z, if_pos z]
    · rw [if_neg z, if_neg z, s _ (by omega) (by omega)]
  rw [hm, rfr_alk a ⟨i0, by omega⟩, a.2.2.2.2.1 10 (by decide) (by decide) i i0 (by omega), a.2.2.2.2.1 11 (by decide) (by decide) i i0 (by omega), a.2.2.2.2.1 12 (by decide) (by decide) i i0 (by omega), s _ (by omega) (by omega), s _ (by omega) (by omega), s _ (by omega) (by omega)]
  exact ⟨b1, b2, b3, b4, crl_cg _ _ _ _ (fun x x0 x1 => a.2.2.2.2.2.1 x (by omega) (by omega)) (fun x x0 x1 => s x (by omega) (by omega)) b5⟩
theorem TB_alk {T T' : Nat → Int → Int} {S S' : Int → Int} (a : alk T T') (s : ∀ k, 0 ≤ k → k < 322 → S' k = S k) (h : TB T S) : TB T' S' := by
  obtain ⟨h1, h2, h3, h4, h5, h6, h7⟩ := h
  exact ⟨inv_alk a h1, rok_alk a h2, rpk_alk a h3, RE_alk a s h1 h4, RR_alk a s h2 h5, RP_alk a s h3 h6, RC_alk a s h1 h7⟩
