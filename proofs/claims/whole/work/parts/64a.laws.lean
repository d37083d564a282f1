/-! RULES that were read, as the laws of the class and the row of the model -/
theorem hok_r {I : Nat → Int → Int} : ∀ (D B : List prt) (k1 k2 : Nat), dq D k1 k2 → cod (I 13) (D ++ B) → ∀ (m : Nat), hok I m (((D ++ B).length : Nat) : Int) k2 → hok I (D.length + m) B.length k1
  | [], B, k1, k2, hd, hc, m, h => by
    have e : k2 = k1 := hd
    subst e
    rw [show ([] : List prt).length + m = m by rw [List.length_nil]; omega]
    exact h
  | p :: t, B, k1, k2, ⟨q, h1, h2, h3⟩, hc, m, h => by
    have e0 : I 13 ((t ++ B).length : Nat) = enp p := hc.1
    rw [show (p :: t) ++ B = p :: (t ++ B) from rfl, ll] at h
    rw [show (p :: t).length + m = t.length + (m + 1) by rw [List.length_cons]; omega]
    refine hok_r t B k1 q h1 hc.2 (m + 1) ⟨by omega, ?_⟩
    rcases h3 with ⟨c1, c2, c3⟩ | ⟨c1, c2, c3⟩ | ⟨c1, c2, c3, c4⟩
    · subst c3
      refine Or.inl ⟨?_, c2, h⟩
      rw [e0]
      unfold enp
      rw [if_pos (by omega), c1]
    · subst c3
      refine Or.inr (Or.inl ⟨?_, c2, h⟩)
      rw [e0]
      unfold enp
      rw [if_pos (by omega)]
      exact c1
    · subst c4
      refine Or.inr (Or.inr ⟨⟨p.1, p.2.1, p.2.2, c1, by omega, by omega, ?_⟩, h⟩)
      rw [e0]
      unfold enp
      rw [if_neg (by omega)]
theorem crl_r {I : Nat → Int → Int} {S : Int → Int} {e : Int} : ∀ (D B : List prt) (k1 k2 : Nat), dq D k1 k2 → cod (I 13) (D ++ B) → spx (fun j => S (122 + j)) (D ++ B) → ∀ (m : Nat), crl I S m (((D ++ B).length : Nat) : Int) (off (D ++ B)) e k2 → crl I S (D.length + m) B.length (off B) e k1
  | [], B, k1, k2, hd, hc, hs, m, h => by
    have e : k2 = k1 := hd
    subst e
    rw [show ([] : List prt).length + m = m by rw [List.length_nil]; omega]
    exact h
  | p :: t, B, k1, k2, ⟨q, h1, h2, h3⟩, hc, hs, m, h => by
    have e0 : I 13 ((t ++ B).length : Nat) = enp p := hc.1
    have s0 : p.1 < 0 → S (122 + off (t ++ B)) = cdn p := hs.1
    have s1 : 0 ≤ p.1 → S (122 + off (t ++ B)) = p.2.1 ∧ S (122 + (off (t ++ B) + 1)) = p.2.2 ∧ S (122 + (off (t ++ B) + 2)) = 10010 + p.1 := hs.2.1
    rw [show (p :: t) ++ B = p :: (t ++ B) from rfl, ll] at h
    rw [show (p :: t).length + m = t.length + (m + 1) by rw [List.length_cons]; omega]
    refine crl_r t B k1 q h1 hc.2 hs.2.2 (m + 1) ⟨by omega, ?_⟩
    rcases h3 with ⟨c1, c2, c3⟩ | ⟨c1, c2, c3⟩ | ⟨c1, c2, c3, c4⟩
    · subst c3
      rw [off_1 (by omega)] at h
      refine Or.inl ⟨?_, ?_, c2, h⟩
      · rw [e0]
        unfold enp
        rw [if_pos (by omega), c1]
      · rw [s0 (by omega)]
        unfold cdn
        rw [if_pos c1]
    · subst c3
      rw [off_1 (by omega)] at h
      refine Or.inr (Or.inl ⟨?_, c2, h⟩)
      rw [e0, s0 (by omega)]
      unfold enp cdn
      rw [if_pos (by omega), if_neg (by omega)]
      rcases c1 with c1 | c1
      · rw [if_pos c1]
        exact Or.inl ⟨c1, rfl⟩
      · rw [if_neg (by omega)]
        exact Or.inr ⟨c1, rfl⟩
    · subst c4
      rw [off_3 (by omega)] at h
      obtain ⟨g1, g2, g3⟩ := s1 (by omega)
      refine Or.inr (Or.inr ⟨p.1, p.2.1, p.2.2, c1, c2, c3, ?_, g1, g2, ?_, ?_⟩)
      · rw [e0]
        unfold enp
        rw [if_neg (by omega)]
      · rw [show off (t ++ B) + 1 + 1 = off (t ++ B) + 2 by omega]
        exact g3
      · rw [show off (t ++ B) + 1 + 1 + 1 = off (t ++ B) + 3 by omega]
        exact h
theorem cod_dr {Cd : Int → Int} : ∀ (D : List prt) {B : List prt}, cod Cd (D ++ B) → cod Cd B
  | [], _, h => h
  | _ :: t, _, h => cod_dr t h.2
theorem spx_dr {Sp : Int → Int} : ∀ (D : List prt) {B : List prt}, spx Sp (D ++ B) → spx Sp B
  | [], _, h => h
  | _ :: t, _, h => spx_dr t h.2.2
theorem rk_at {K V E Q Cd Sp : Int → Int} : ∀ (R : List rle) (i : Nat), i < R.length → rks R → rkc K V E R → mrd Q R → cod Cd (hcd R) → spx Sp (hcd R) → ∃ r t, t.length = i ∧ rks (r :: t) ∧ rkc K V E (r :: t) ∧ mrd Q (r :: t) ∧ cod Cd r.2.2 ∧ spx Sp r.2.2
  | [], i, hi, _, _, _, _, _ => absurd hi (Nat.not_lt_zero _)
  | r :: t, i, hi, h1, h2, h3, h4, h5 => by
    by_cases q : t.length = i
    · exact ⟨r, t, q, h1, h2, h3, h4, h5⟩
    · rw [List.length_cons] at hi
      obtain ⟨D, k, g1, g2, g3⟩ := h1.2.2.1
      have h4' : cod Cd r.2.2 := h4
      have h5' : spx Sp r.2.2 := h5
      rw [g1] at h4' h5'
      exact rk_at t i (by omega) h1.2.2.2.2 h2.2.2.2 h3.2.2.2 (cod_dr D h4') (spx_dr D h5')
theorem rr_of {I : Nat → Int → Int} {S : Int → Int} {R : List rle} (hR : rks R) (h8 : R.length ≤ 8) (h5 : I 9 5 = R.length) (hk : rkc (I 10) (I 11) (I 12) R) (hc : cod (I 13) (hcd R)) (s7 : S 7 = R.length) (hm : mrd (fun j => S (98 + j)) R) (hs : spx (fun j => S (122 + j)) (hcd R)) : rok I ∧ RR I S := by
  have key : ∀ i, 0 ≤ i → i < I 9 5 → ((0 ≤ I 10 i ∧ I 10 i ≤ 5) ∧ (0 ≤ I 11 i ∧ I 11 i ≤ 2) ∧ 0 ≤ rfr I i ∧ rfr I i ≤ I 12 i ∧ I 12 i ≤ 200 ∧ hok I (I 12 i - rfr I i).toNat (rfr I i) 0) ∧ (S (98 + 3 * i + 0) = I 10 i ∧ S (98 + 3 * i + 1) = I 11 i ∧ 0 ≤ mfr S i ∧ S (98 + 3 * i + 2) ≤ 200 ∧ crl I S (I 12 i - rfr I i).toNat (rfr I i) (mfr S i) (S (98 + 3 * i + 2)) 0) := by
    intro i i0 i1
    rw [h5] at i1
    obtain ⟨r, t, q1, q2, q3, q4, q5, q6⟩ := rk_at (K := I 10) (V := I 11) (E := I 12) (Q := fun j => S (98 + j)) (Cd := I 13) (Sp := fun j => S (122 + j)) R i.toNat (by omega) hR hk hm hc hs
    have ei : i = ((t.length : Nat) : Int) := by omega
    subst ei
    obtain ⟨k1, k2, k3, k4⟩ := q3
    obtain ⟨m1, m2, m3, m4⟩ := q4
    obtain ⟨b1, b2, ⟨D, k, b3, b4, b5⟩, b6, b7⟩ := q2
    have e1 : rfr I t.length = (hcd t).length := by
      unfold rfr
      cases t with
      | nil => rfl
      | cons r' t' =>
        rw [ll, if_neg (by omega), Int.add_sub_cancel]
        exact k4.2.2.1
    have e2 : mfr S t.length = off (hcd t) := by
      unfold mfr
      cases t with
      | nil => rfl
      | cons r' t' =>
        rw [ll, if_neg (by omega), Int.add_sub_cancel]
        have := m4.2.2.1
        rw [show 98 + 3 * (t'.length : Int) + 2 = 98 + (3 * (t'.length : Int) + 2) by omega]
        exact this
    have ol := off_len r.2.2
    have oh := off_ge (hcd t)
    have lD : ((r.2.2.length : Nat) : Int) = D.length + (hcd t).length := by
      rw [b3, List.length_append]
      omega
    rw [b3] at q5 q6
    have en : ((r.2.2.length : Int) - (hcd t).length).toNat = D.length + 0 := by omega
    have a0 : S (98 + 3 * (t.length : Int) + 0) = r.1 := by
      rw [show 98 + 3 * (t.length : Int) + 0 = 98 + 3 * (t.length : Int) by omega]
      exact m1
    have a1 : S (98 + 3 * (t.length : Int) + 1) = r.2.1 := by
      rw [show 98 + 3 * (t.length : Int) + 1 = 98 + (3 * (t.length : Int) + 1) by omega]
      exact m2
    have a2 : S (98 + 3 * (t.length : Int) + 2) = off r.2.2 := by
      rw [show 98 + 3 * (t.length : Int) + 2 = 98 + (3 * (t.length : Int) + 2) by omega]
      exact m3
    rw [e1, e2, k1, k2, k3, a0, a1, a2, en]
    refine ⟨⟨b1, b2, by omega, by omega, by omega, ?_⟩, rfl, rfl, oh, b6, ?_⟩
    · exact hok_r D (hcd t) 0 k b4 q5 0 (show k ≤ 58 by omega)
    · refine crl_r D (hcd t) 0 k b4 q5 q6 0 ⟨?_, b5⟩
      rw [b3]
  exact ⟨⟨by omega, fun i i0 i1 => (key i i0 i1).1⟩, by rw [s7, h5], fun i i0 i1 => (key i i0 i1).2⟩
theorem rkc_eq {K V E K' V' E' : Int → Int} : ∀ (R : List rle), (∀ k : Int, 0 ≤ k → k < R.length → K' k = K k ∧ V' k = V k ∧ E' k = E k) → rkc K V E R → rkc K' V' E' R
  | [], _, _ => trivial
  | r :: t, h, hr => by
    obtain ⟨g1, g2, g3⟩ := h t.length (by omega) (by rw [ll]; omega)
    refine ⟨g1.trans hr.1, g2.trans hr.2.1, g3.trans hr.2.2.1, rkc_eq t (fun k k0 k1 => h k k0 (by rw [ll]; omega)) hr.2.2.2⟩
theorem cod_eq {Cd Cd' : Int → Int} : ∀ (C : List prt), (∀ k : Int, 0 ≤ k → k < C.length → Cd' k = Cd k) → cod Cd C → cod Cd' C
  | [], _, _ => trivial
  | p :: t, h, hc => ⟨(h t.length (by omega) (by rw [ll]; omega)).trans hc.1, cod_eq t (fun k k0 k1 => h k k0 (by rw [ll]; omega)) hc.2⟩
theorem mrd_eq {K K' : Int → Int} : ∀ (R : List rle), (∀ k : Int, 0 ≤ k → k < 3 * R.length → K' k = K k) → mrd K R → mrd K' R
  | [], _, _ => trivial
  | r :: t, h, hr => by
    rw [ll] at h
    refine ⟨(h _ (by omega) (by omega)).trans hr.1, (h _ (by omega) (by omega)).trans hr.2.1, (h _ (by omega) (by omega)).trans hr.2.2.1, mrd_eq t (fun k k0 k1 => h k k0 (by omega)) hr.2.2.2⟩
theorem spx_eq {K K' : Int → Int} : ∀ (C : List prt), (∀ k : Int, 0 ≤ k → k < off C → K' k = K k) → spx K C → spx K' C
  | [], _, _ => trivial
  | p :: t, h, hr => by
    have o0 := off_ge t
    have e : off (p :: t) = off t + (if p.1 < 0 then 1 else 3) := rfl
    rw [e] at h
    refine ⟨fun q => ?_, fun q => ?_, spx_eq t (fun k k0 k1 => h k k0 (by split <;> omega)) hr.2.2⟩
    · rw [if_pos q] at h
      exact (h _ o0 (by omega)).trans (hr.1 q)
    · rw [if_neg (by omega)] at h
      obtain ⟨g1, g2, g3⟩ := hr.2.1 q
      exact ⟨(h _ o0 (by omega)).trans g1, (h _ (by omega) (by omega)).trans g2, (h _ (by omega) (by omega)).trans g3⟩
/-- other laws on the table -/
theorem TB_laws {T T' : Nat → Int → Int} {S S' : Int → Int} (h : TB T S) (h1 : ∀ o, 1 ≤ o → o ≤ 8 → T' o = T o) (h2 : ∀ o, 15 ≤ o → o ≤ 19 → T' o = T o) (hS : ∀ k, k < 98 → k ≠ 7 → S' k = S k) (hr : rok T' ∧ RR T' S') : TB T' S' := by
  have e1 := h1 1 (by decide) (by decide)
  have e2 := h1 2 (by decide) (by decide)
  have e3 := h1 3 (by decide) (by decide)
  have e4 := h1 4 (by decide) (by decide)
  have e5 := h1 5 (by decide) (by decide)
  have e6 := h1 6 (by decide) (by decide)
  have e7 := h1 7 (by decide) (by decide)
  have e8 := h1 8 (by decide) (by decide)
  have e15 := h2 15 (by decide) (by decide)
  have e16 := h2 16 (by decide) (by decide)
  have e17 := h2 17 (by decide) (by decide)
  have e18 := h2 18 (by decide) (by decide)
  have e19 := h2 19 (by decide) (by decide)
  obtain ⟨a1, a2, a3, a4, a5, a6, a7⟩ := h
  have n6 := a1.1
  have n8 := a3.1
  refine ⟨?_, hr.1, ?_, ?_, hr.2, ?_, ?_⟩
  · unfold inv
    rw [e1, e2, e3, e4, e5, e6, e7, e8]
    exact a1
  · unfold rpk
    rw [e15, e16, e17, e18, e19]
    exact a3
  · unfold RE
    rw [e1, e2, e3, e4, e5, e6, e7, e8]
    obtain ⟨r1, r2, r3, r4, r5⟩ := a4
    refine ⟨by rw [hS 1 (by decide) (by decide)]; exact r1, by rw [hS 6 (by decide) (by decide)]; exact r2, fun k k0 k1 => ?_, fun g g0 g1 => ?_, fun y y0 y1 => ?_⟩
    · rw [hS _ (by omega) (by omega), hS _ (by omega) (by omega), hS _ (by omega) (by omega), hS _ (by omega) (by omega)]
      exact r3 k k0 k1
    · rw [hS _ (by omega) (by omega), hS _ (by omega) (by omega)]
      exact r4 g g0 g1
    · rw [hS _ (by omega) (by omega)]
      exact r5 y y0 y1
  · unfold RP
    rw [e15, e16, e17, e18, e19, hS 8 (by decide) (by decide)]
    refine ⟨a6.1, fun r r0 r1 => ?_⟩
    rw [hS _ (by omega) (by omega), hS _ (by omega) (by omega), hS _ (by omega) (by omega), hS _ (by omega) (by omega)]
    exact a6.2 r r0 r1
  · unfold RC
    rw [e1, hS 0 (by decide) (by decide), hS 2 (by decide) (by decide), hS 3 (by decide) (by decide), hS 4 (by decide) (by decide), hS 5 (by decide) (by decide)]
    obtain ⟨c1, c2, c3, c4, c5, c6⟩ := a7
    refine ⟨c1, c2, c3, c4, c5, fun k k0 k1 => ?_⟩
    rw [hS _ (by omega) (by omega)]
    exact c6 k k0 k1
