/-! THE CLASS'S AUTOMATON reads conditions -/
def cR (X : e_X) (d : Nat) (A : Int → Int) (n : Int) (I J : Nat → Int → Int) (W : List Int) (op : Int) (z : e_R) (r : prs) : Prop := (r.1 = true → cT X d A n I J r.2.1 r.2.2 W 5 op z) ∧ (r.1 = false → cF I J r.2.1 z)
def cWs (X : e_X) (d : Nat) (A : Int → Int) (n : Int) (I J : Nat → Int → Int) (op : Int) (F : Int → List prt → prs) : Prop := ∀ (b : Int) (C : List prt) (W : List Int) (m : Nat) (z : e_R), (0 ≤ b ∧ b ≤ n) → wd A n b = 24 → W.head? ≠ some 12 → (C.length : Int) + m + W.length ≤ b → cT X d A n I J b C (List.replicate m 12 ++ W) 2 op z → cR X d A n I J W op z ((F b C).1, (F b C).2.1, nots m (F b C).2.2)
def cA1 (X : e_X) (d : Nat) (A : Int → Int) (n : Int) (I J : Nat → Int → Int) (W : List Int) (op : Int) (z : e_R) (r : prs) : Prop := (r.1 = true → ∃ Q Cc, (Q = [] ∨ Q = [10]) ∧ r.2.2 = jna Q Cc ∧ cT X d A n I J r.2.1 Cc (Q ++ W) 5 op z) ∧ (r.1 = false → cF I J r.2.1 z)
def cC1 (X : e_X) (d : Nat) (A : Int → Int) (n : Int) (I J : Nat → Int → Int) (W : List Int) (op : Int) (z : e_R) (r : prs) : Prop := (r.1 = true → ∃ Q Cc, (∀ q, q ∈ Q → q = 10 ∨ q = 11) ∧ r.2.2 = jna Q Cc ∧ cT X d A n I J r.2.1 Cc (Q ++ W) 5 op z) ∧ (r.1 = false → cF I J r.2.1 z)
theorem rep_len (m : Nat) (W : List Int) : (((List.replicate m (12 : Int) ++ W).length : Nat) : Int) = m + W.length := by
  rw [List.length_append, List.length_replicate]
  omega
theorem gd_l {n : Int} {k : Nat} {b : Int} {C : List prt} {r : prs} (h : gd n k b C r) (h1 : r.1 = true) : b < r.2.1 ∧ r.2.1 ≤ n ∧ (r.2.2.length : Int) ≤ C.length + (r.2.1 - b) := by
  obtain ⟨j1, j2, D, j3, j4, j5⟩ := h h1
  have := off_len D
  refine ⟨j1, j2, ?_⟩
  rw [j3, List.length_append]
  omega
section
variable {X : e_X} {d : Nat} {I J : Nat → Int → Int} {A : Int → Int} {n op : Int} {z : e_R} {F : Int → List prt → prs}
theorem c_pL (hT : tpd I A n) {b : Int} {C : List prt} {W : List Int} {m : Nat} (hb : 0 ≤ b ∧ b ≤ n) (q1 : ¬ wd A n b = 12) (q2 : ¬ wd A n b = 24) (hW : W.head? ≠ some 12) (hl : (C.length : Int) + m + W.length ≤ b) (h : cT X d A n I J b C (List.replicate m 12 ++ W) 2 op z) : cR X d A n I J W op z ((pL A n b C).1, (pL A n b C).2.1, nots m (pL A n b C).2.2) := by
  have hn := hT.1
  obtain ⟨lf, sg, h⟩ := h
  unfold pL
  by_cases c1 : isV (wd A n b)
  · rw [if_pos c1]
    have n1 := ns_lt (A := A) hb.2 (by omega)
    have h1 := k_val hT hb c1 h
    by_cases c2 : 21 ≤ wd A n (ns A n b) ∧ wd A n (ns A n b) ≤ 23
    · rw [if_pos c2]
      have n2 := ns_lt (A := A) n1.2 (by omega)
      have h2 := k_sign hT ⟨by omega, n1.2⟩ c2 h1
      by_cases c3 : isV (wd A n (ns A n (ns A n b)))
      · rw [if_pos c3]
        have n3 := ns_lt (A := A) n2.2 (by omega)
        exact ⟨fun _ => ⟨_, _, k_right hT ⟨by omega, n2.2⟩ c3 (vof_b c1) (by omega) hW (by omega) h2⟩, fun h => (by cases h)⟩
      · rw [if_neg c3]
        exact ⟨fun h => (by cases h), fun _ => k_rno (b := ns A n (ns A n b)) hT ⟨by omega, n2.2⟩ c3 h2⟩
    · rw [if_neg c2]
      exact ⟨fun h => (by cases h), fun _ => k_sno (b := ns A n b) hT ⟨by omega, n1.2⟩ c2 h1⟩
  · rw [if_neg c1]
    exact ⟨fun h => (by cases h), fun _ => k_vno hT hb q1 q2 c1 h⟩
theorem c_pN (hT : tpd I A n) {C : List prt} {W : List Int} : ∀ (f : Nat) (b : Int) (m : Nat), (0 ≤ b ∧ b ≤ n) → (C.length : Int) + m + W.length ≤ b → cT X d A n I J b C (List.replicate m 12 ++ W) 2 op z → cT X d A n I J (pN A n f b).2 C (List.replicate (m + (pN A n f b).1) 12 ++ W) 2 op z
  | 0, b, m, hb, hl, h => h
  | f + 1, b, m, hb, hl, h => by
    have e : pN A n (f + 1) b = if wd A n b = 12 then ((pN A n f (ns A n b)).1 + 1, (pN A n f (ns A n b)).2) else (0, b) := rfl
    rw [e]
    by_cases q : wd A n b = 12
    · rw [if_pos q]
      have n1 := ns_lt (A := A) hb.2 (by omega)
      obtain ⟨lf, sg, h⟩ := h
      have h1 := k_not hT hb q (by rw [rep_len]; omega) h
      have := c_pN hT f (ns A n b) (m + 1) ⟨by omega, n1.2⟩ (by omega) ⟨lf, sg, h1⟩
      rw [show m + 1 + (pN A n f (ns A n b)).1 = m + ((pN A n f (ns A n b)).1 + 1) by omega] at this
      exact this
    · rw [if_neg q]
      exact h
theorem c_pO (hT : tpd I A n) (hF : cWs X d A n I J op F) {b : Int} {C : List prt} {W : List Int} (hb : 0 ≤ b ∧ b ≤ n) (hW : W.head? ≠ some 12) (hl : (C.length : Int) + W.length ≤ b) (h : cT X d A n I J b C W 2 op z) : cR X d A n I J W op z (pO A n F b C) := by
  have hn := hT.1
  obtain ⟨i1, i2, i3⟩ := pN_b (A := A) (n := n) 201 b hb.2 (by omega)
  have h1 := c_pN (X := X) (d := d) (J := J) (op := op) (z := z) (C := C) (W := W) hT 201 b 0 hb (by omega) h
  rw [Nat.zero_add] at h1
  unfold pO pP
  by_cases q : wd A n (pN A n 201 b).2 = 24
  · simp only [if_pos q]
    exact hF _ C W _ z ⟨by omega, i2⟩ q hW (by omega) h1
  · simp only [if_neg q]
    exact c_pL hT ⟨by omega, i2⟩ i3 q hW (by omega) h1
theorem pA1_f {f : Nat} {r : prs} (h : r.1 = false) : pA1 A n F f r = r := by
  cases f with
  | zero => rfl
  | succ f =>
    show (if _ then _ else _) = _
    rw [if_neg (fun y => by rw [h] at y; exact absurd y.1 (by decide))]
theorem pC1_f {f : Nat} {r : prs} (h : r.1 = false) : pC1 A n F f r = r := by
  cases f with
  | zero => rfl
  | succ f =>
    show (if _ then _ else _) = _
    rw [if_neg (fun y => by rw [h] at y; exact absurd y.1 (by decide))]
theorem c_pA1 (hT : tpd I A n) (hF : cWs X d A n I J op F) (hG : wgd A n 0 F) {W : List Int} (h10 : W.head? ≠ some 10) : ∀ (f : Nat) (r : prs), (r.1 = true → 0 ≤ r.2.1 ∧ r.2.1 ≤ n ∧ (r.2.2.length : Int) + W.length ≤ r.2.1) → cA1 X d A n I J W op z r → cA1 X d A n I J W op z (pA1 A n F f r)
  | 0, r, hr, h => h
  | f + 1, r, hr, h => by
    have hn := hT.1
    have e : pA1 A n F (f + 1) r = if r.1 = true ∧ wd A n r.2.1 = 10 then pA1 A n F f ((pO A n F (ns A n r.2.1) r.2.2).1, (pO A n F (ns A n r.2.1) r.2.2).2.1, (-2, 0, 0) :: (pO A n F (ns A n r.2.1) r.2.2).2.2) else r := rfl
    rw [e]
    by_cases q : r.1 = true ∧ wd A n r.2.1 = 10
    · rw [if_pos q]
      obtain ⟨r1, r2, r3⟩ := hr q.1
      have n1 := ns_lt (A := A) r2 (by omega)
      obtain ⟨Q, Cc, s1, s2, lf, sg, s3⟩ := h.1 q.1
      have jl := jna_len Q Cc
      rw [← s2] at jl
      have h1 := k_joint (x := 10) (Or.inl rfl) hT ⟨r1, r2⟩ q.2 h10 h10 (fun y hy => by rcases s1 with rfl | rfl <;> simp_all) (by omega) s3
      rw [← s2] at h1
      have h2 := c_pO (X := X) (d := d) (J := J) (op := op) (z := z) (F := F) hT hF (b := ns A n r.2.1) (C := r.2.2) (W := 10 :: W) ⟨by omega, n1.2⟩ (by simp) (by rw [ll]; omega) ⟨lf, sg, h1⟩
      obtain ⟨o1, o2⟩ := pO_g (A := A) (n := n) (K := 0) (by decide) hG (k := 0) (Nat.le_refl 0) (b := ns A n r.2.1) (C := r.2.2) ⟨by omega, n1.2⟩ hn.2
      generalize pO A n F (ns A n r.2.1) r.2.2 = y at h2 o1 o2
      refine c_pA1 hT hF hG h10 f _ (fun hy => ?_) ⟨fun hy => ?_, fun hy => h2.2 hy⟩
      · have := gd_l o1 hy
        refine ⟨by simp only; omega, this.2.1, ?_⟩
        simp only
        rw [ll]
        omega
      · exact ⟨[10], y.2.2, Or.inr rfl, rfl, h2.1 hy⟩
    · rw [if_neg q]
      exact h
theorem c_pA (hT : tpd I A n) (hF : cWs X d A n I J op F) (hG : wgd A n 0 F) {W : List Int} (h12 : W.head? ≠ some 12) (h10 : W.head? ≠ some 10) {b : Int} {C : List prt} (hb : 0 ≤ b ∧ b ≤ n) (hl : (C.length : Int) + W.length ≤ b) (h : cT X d A n I J b C W 2 op z) : cA1 X d A n I J W op z (pA A n F b C) := by
  have hn := hT.1
  have h2 := c_pO (X := X) (d := d) (J := J) (op := op) (z := z) (F := F) hT hF (b := b) (C := C) (W := W) hb h12 hl h
  obtain ⟨o1, o2⟩ := pO_g (A := A) (n := n) (K := 0) (by decide) hG (k := 0) (Nat.le_refl 0) (b := b) (C := C) hb hn.2
  refine c_pA1 hT hF hG h10 201 _ (fun hy => ?_) ⟨fun hy => ⟨[], _, Or.inl rfl, rfl, h2.1 hy⟩, h2.2⟩
  have := gd_l o1 hy
  exact ⟨by omega, this.2.1, by omega⟩
theorem c_pC1 (hT : tpd I A n) (hF : cWs X d A n I J op F) (hG : wgd A n 1 F) {W : List Int} (h10 : W.head? ≠ some 10) (h11 : W.head? ≠ some 11) : ∀ (f : Nat) (r : prs), (r.1 = true → 0 ≤ r.2.1 ∧ r.2.1 ≤ n ∧ (r.2.2.length : Int) + W.length ≤ r.2.1) → cC1 X d A n I J W op z r → cC1 X d A n I J W op z (pC1 A n F f r)
  | 0, r, hr, h => h
  | f + 1, r, hr, h => by
    have hn := hT.1
    have hG0 : wgd A n 0 F := fun k b C hk => hG k b C (by omega)
    have e : pC1 A n F (f + 1) r = if r.1 = true ∧ wd A n r.2.1 = 11 then pC1 A n F f ((pA A n F (ns A n r.2.1) r.2.2).1, (pA A n F (ns A n r.2.1) r.2.2).2.1, (-3, 0, 0) :: (pA A n F (ns A n r.2.1) r.2.2).2.2) else r := rfl
    rw [e]
    by_cases q : r.1 = true ∧ wd A n r.2.1 = 11
    · rw [if_pos q]
      obtain ⟨r1, r2, r3⟩ := hr q.1
      have n1 := ns_lt (A := A) r2 (by omega)
      obtain ⟨Q, Cc, s1, s2, lf, sg, s3⟩ := h.1 q.1
      have jl := jna_len Q Cc
      rw [← s2] at jl
      have h1 := k_joint (x := 11) (Or.inr rfl) hT ⟨r1, r2⟩ q.2 h10 h11 s1 (by omega) s3
      rw [← s2] at h1
      have h2 := c_pA (X := X) (d := d) (J := J) (op := op) (z := z) (F := F) hT hF hG0 (W := 11 :: W) (by simp) (by simp) (b := ns A n r.2.1) (C := r.2.2) ⟨by omega, n1.2⟩ (by rw [ll]; omega) ⟨lf, sg, h1⟩
      obtain ⟨o1, o2, o3⟩ := pA_g (A := A) (n := n) (K := 0) (by decide) hG (k := 0) (Nat.le_refl 0) (b := ns A n r.2.1) (C := r.2.2) ⟨by omega, n1.2⟩ hn.2
      generalize pA A n F (ns A n r.2.1) r.2.2 = y at h2 o1 o2
      refine c_pC1 hT hF hG h10 h11 f _ (fun hy => ?_) ⟨fun hy => ?_, fun hy => h2.2 hy⟩
      · have := gd_l o1 hy
        refine ⟨by simp only; omega, this.2.1, ?_⟩
        simp only
        rw [ll]
        omega
      · obtain ⟨Q', C', t1, t2, t3⟩ := h2.1 hy
        refine ⟨Q' ++ [11], C', fun x hx => ?_, ?_, ?_⟩
        · rcases t1 with rfl | rfl <;> simp_all
        · rw [jna_app, ← t2]
          rfl
        · rw [List.append_assoc]
          exact t3
    · rw [if_neg q]
      exact h
theorem c_pC (hT : tpd I A n) (hF : cWs X d A n I J op F) (hG : wgd A n 1 F) {W : List Int} (h12 : W.head? ≠ some 12) (h10 : W.head? ≠ some 10) (h11 : W.head? ≠ some 11) {b : Int} {C : List prt} (hb : 0 ≤ b ∧ b ≤ n) (hl : (C.length : Int) + W.length ≤ b) (h : cT X d A n I J b C W 2 op z) : cC1 X d A n I J W op z (pC A n F b C) := by
  have hn := hT.1
  have hG0 : wgd A n 0 F := fun k b C hk => hG k b C (by omega)
  have h2 := c_pA (X := X) (d := d) (J := J) (op := op) (z := z) (F := F) hT hF hG0 (W := W) h12 h10 (b := b) (C := C) hb hl h
  obtain ⟨o1, o2, o3⟩ := pA_g (A := A) (n := n) (K := 0) (by decide) hG (k := 0) (Nat.le_refl 0) (b := b) (C := C) hb hn.2
  refine c_pC1 hT hF hG h10 h11 201 _ (fun hy => ?_) ⟨fun hy => ?_, h2.2⟩
  · have := gd_l o1 hy
    exact ⟨by omega, this.2.1, by omega⟩
  · obtain ⟨Q', C', t1, t2, t3⟩ := h2.1 hy
    refine ⟨Q', C', fun x hx => ?_, t2, t3⟩
    rcases t1 with rfl | rfl <;> simp_all
theorem c_pW (hT : tpd I A n) : ∀ (f : Nat) (op : Int), op = 3 - f → 0 ≤ op → cWs X d A n I J op (pW A n f)
  | 0, op, ho, h0 => fun b C W m z hb hw hW hl h => by
    obtain ⟨lf, sg, h⟩ := h
    have h3 : op = 3 := by omega
    rw [h3] at h
    exact ⟨fun y => (by cases y), fun _ => k_full hT hb hw h⟩
  | f + 1, op, ho, h0 => fun b C W m z hb hw hW hl h => by
    have hn := hT.1
    obtain ⟨lf, sg, h⟩ := h
    have n1 := ns_lt (A := A) hb.2 (by omega)
    have h1 := k_open hT hb hw (by rw [rep_len]; omega) (by omega) h
    have h2 := c_pC (X := X) (d := d) (J := J) (op := op + 1) (z := z) (F := pW A n f) hT (c_pW hT f (op + 1) (by omega) (by omega)) (pW_g hn.2 f 1 (by omega)) (W := 24 :: (List.replicate m 12 ++ W)) (by simp) (by simp) (by simp) (b := ns A n b) (C := C) ⟨by omega, n1.2⟩ (by rw [ll, rep_len]; omega) ⟨lf, sg, h1⟩
    obtain ⟨o1, o2, o3⟩ := pC_g (A := A) (n := n) (K := 0) (by decide) (pW_g hn.2 f 2 (by omega)) (k := 0) (Nat.le_refl 0) (b := ns A n b) (C := C) ⟨by omega, n1.2⟩ hn.2
    have e : pW A n (f + 1) b C = if (pC A n (pW A n f) (ns A n b) C).1 = true ∧ wd A n (pC A n (pW A n f) (ns A n b) C).2.1 = 25 then (true, ns A n (pC A n (pW A n f) (ns A n b) C).2.1, (pC A n (pW A n f) (ns A n b) C).2.2) else (false, (pC A n (pW A n f) (ns A n b) C).2.1, C) := rfl
    rw [e]
    generalize pC A n (pW A n f) (ns A n b) C = y at h2 o1 o2 o3
    by_cases q : y.1 = true ∧ wd A n y.2.1 = 25
    · rw [if_pos q]
      have g := gd_l o1 q.1
      obtain ⟨Q, Cc, s1, s2, lf, sg, s3⟩ := h2.1 q.1
      have jl := jna_len Q Cc
      rw [← s2] at jl
      have h3 := k_close hT ⟨by omega, g.2.1⟩ q.2 hW s1 (by omega) (by omega) s3
      rw [← s2, Int.add_sub_cancel] at h3
      exact ⟨fun _ => ⟨_, _, h3⟩, fun y => (by cases y)⟩
    · rw [if_neg q]
      refine ⟨fun y => (by cases y), fun _ => ?_⟩
      by_cases q1 : y.1 = true
      · obtain ⟨Q, Cc, s1, s2, lf, sg, s3⟩ := h2.1 q1
        have g := gd_l o1 q1
        have g3 := o3 q1
        exact k_jno (b := y.2.1) hT ⟨by omega, g.2.1⟩ g3.1 g3.2 (fun w => q ⟨q1, w⟩) (by omega) s3
      · exact h2.2 (by simpa using q1)
end
