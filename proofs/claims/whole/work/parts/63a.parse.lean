/-! THE RULES read, without a memory: parts (sign, left, right), the latest first; -1 not, -2 and, -3 or -/
abbrev prt : Type := Int × Int × Int
abbrev prs : Type := Bool × Int × List prt
/-- so many steps in the model -/
def off : List prt → Int
  | [] => 0
  | p :: t => off t + (if p.1 < 0 then 1 else 3)
theorem off_len : ∀ (C : List prt), (C.length : Int) ≤ off C
  | [] => Int.le_refl 0
  | p :: t => by
    have := off_len t
    show ((t.length + 1 : Nat) : Int) ≤ off t + (if p.1 < 0 then 1 else 3)
    split <;> omega
theorem off_app : ∀ (D C : List prt), off (D ++ C) = off D + off C
  | [], C => by
    show off C = 0 + off C
    omega
  | p :: t, C => by
    have := off_app t C
    show off (t ++ C) + _ = off t + _ + off C
    omega
/-- from a row of k answers to one of k' -/
def dq : List prt → Nat → Nat → Prop
  | [], k, k' => k' = k
  | p :: t, k, k' => ∃ m, dq t k m ∧ m ≤ 50 ∧ ((p.1 = -1 ∧ 1 ≤ m ∧ k' = m) ∨ ((p.1 = -2 ∨ p.1 = -3) ∧ 2 ≤ m ∧ k' = m - 1) ∨ ((p.1 = 0 ∨ p.1 = 1 ∨ p.1 = 2) ∧ (0 ≤ p.2.1 ∧ p.2.1 ≤ 10004) ∧ (0 ≤ p.2.2 ∧ p.2.2 ≤ 10004) ∧ k' = m + 1))
theorem dq_app {C : List prt} {k k1 : Nat} (h : dq C k k1) : ∀ (D : List prt) (k2 : Nat), dq D k1 k2 → dq (D ++ C) k k2
  | [], k2, h2 => by
    have : k2 = k1 := h2
    rw [this]
    exact h
  | p :: t, k2, h2 => by
    obtain ⟨m, q1, q2, q3⟩ := h2
    exact ⟨m, dq_app h t m q1, q2, q3⟩
section
variable (A : Int → Int) (n : Int)
abbrev isV (w : Int) : Prop := w = 18 ∨ (13 ≤ w ∧ w ≤ 17)
def vof (b : Int) : Int := if wd A n b = 18 then vl A n b else 10000 + wd A n b - 13
def pL (b : Int) (C : List prt) : prs :=
  if isV (wd A n b) then
    (if 21 ≤ wd A n (ns A n b) ∧ wd A n (ns A n b) ≤ 23 then
      (if isV (wd A n (ns A n (ns A n b))) then (true, ns A n (ns A n (ns A n b)), (wd A n (ns A n b) - 21, vof A n b, vof A n (ns A n (ns A n b))) :: C)
       else (false, ns A n (ns A n b), C))
     else (false, ns A n b, C))
  else (false, b, C)
def pN : Nat → Int → Nat × Int
  | 0, b => (0, b)
  | f + 1, b => if wd A n b = 12 then ((pN f (ns A n b)).1 + 1, (pN f (ns A n b)).2) else (0, b)
def nots : Nat → List prt → List prt
  | 0, C => C
  | m + 1, C => (-1, 0, 0) :: nots m C
/-- a comparison or what stands in brackets -/
def pP (W : Int → List prt → prs) (b : Int) (C : List prt) : prs := if wd A n b = 24 then W b C else pL A n b C
def pO (W : Int → List prt → prs) (b : Int) (C : List prt) : prs := ((pP A n W (pN A n 201 b).2 C).1, (pP A n W (pN A n 201 b).2 C).2.1, nots (pN A n 201 b).1 (pP A n W (pN A n 201 b).2 C).2.2)
def pA1 (W : Int → List prt → prs) : Nat → prs → prs
  | 0, r => r
  | f + 1, r => if r.1 = true ∧ wd A n r.2.1 = 10 then pA1 W f ((pO A n W (ns A n r.2.1) r.2.2).1, (pO A n W (ns A n r.2.1) r.2.2).2.1, (-2, 0, 0) :: (pO A n W (ns A n r.2.1) r.2.2).2.2) else r
def pA (W : Int → List prt → prs) (b : Int) (C : List prt) : prs := pA1 A n W 201 (pO A n W b C)
def pC1 (W : Int → List prt → prs) : Nat → prs → prs
  | 0, r => r
  | f + 1, r => if r.1 = true ∧ wd A n r.2.1 = 11 then pC1 W f ((pA A n W (ns A n r.2.1) r.2.2).1, (pA A n W (ns A n r.2.1) r.2.2).2.1, (-3, 0, 0) :: (pA A n W (ns A n r.2.1) r.2.2).2.2) else r
def pC (W : Int → List prt → prs) (b : Int) (C : List prt) : prs := pC1 A n W 201 (pA A n W b C)
/-- what stands in brackets, where f more may open -/
def pW : Nat → Int → List prt → prs
  | 0, b, C => (false, b, C)
  | f + 1, b, C => if (pC A n (pW f) (ns A n b) C).1 = true ∧ wd A n (pC A n (pW f) (ns A n b) C).2.1 = 25 then (true, ns A n (pC A n (pW f) (ns A n b) C).2.1, (pC A n (pW f) (ns A n b) C).2.2) else (false, (pC A n (pW f) (ns A n b) C).2.1, C)
/-- what is so of a good reading from a row of k answers -/
def gd (k : Nat) (b : Int) (C : List prt) (r : prs) : Prop := r.1 = true → b < r.2.1 ∧ r.2.1 ≤ n ∧ ∃ D, r.2.2 = D ++ C ∧ off D ≤ r.2.1 - b ∧ dq D k (k + 1)
/-- of a bad one -/
def bd (b : Int) (r : prs) : Prop := r.1 = false → b ≤ r.2.1 ∧ r.2.1 ≤ n
end
theorem nots_app (m : Nat) (D C : List prt) : nots m (D ++ C) = nots m D ++ C := by
  induction m with
  | zero => rfl
  | succ m ih =>
    show (-1, 0, 0) :: nots m (D ++ C) = (-1, 0, 0) :: nots m D ++ C
    rw [ih]
    rfl
theorem off_nots (m : Nat) (D : List prt) : off (nots m D) = off D + m := by
  induction m with
  | zero =>
    show off D = off D + 0
    omega
  | succ m ih =>
    show off (nots m D) + (if (-1 : Int) < 0 then 1 else 3) = _
    rw [if_pos (by decide), ih]
    omega
theorem dq_nots {D : List prt} {k k' : Nat} (h : dq D k k') (h1 : 1 ≤ k') (h5 : k' ≤ 50) : ∀ (m : Nat), dq (nots m D) k k'
  | 0 => h
  | m + 1 => ⟨k', dq_nots h h1 h5 m, h5, Or.inl ⟨rfl, h1, rfl⟩⟩
section
variable {A : Int → Int} {n : Int}
theorem vof_b {b : Int} (h : isV (wd A n b)) : 0 ≤ vof A n b ∧ vof A n b ≤ 10004 := by
  have h1 := vl_b (A := A) (n := n) (b := b)
  unfold vof
  split <;> omega
theorem pL_g {k : Nat} (hk : k ≤ 50) {b : Int} {C : List prt} (hb : b ≤ n) : gd n k b C (pL A n b C) ∧ bd n b (pL A n b C) := by
  unfold pL
  by_cases c1 : isV (wd A n b)
  · rw [if_pos c1]
    have n1 := ns_lt (A := A) hb (by omega)
    by_cases c2 : 21 ≤ wd A n (ns A n b) ∧ wd A n (ns A n b) ≤ 23
    · rw [if_pos c2]
      have n2 := ns_lt (A := A) n1.2 (by omega)
      by_cases c3 : isV (wd A n (ns A n (ns A n b)))
      · rw [if_pos c3]
        have n3 := ns_lt (A := A) n2.2 (by omega)
        refine ⟨fun _ => ⟨by simp only; omega, n3.2, [(wd A n (ns A n b) - 21, vof A n b, vof A n (ns A n (ns A n b)))], rfl, ?_, k, rfl, hk, Or.inr (Or.inr ⟨?_, vof_b c1, vof_b c3, rfl⟩)⟩, fun h => (by cases h)⟩
        · show 0 + (if wd A n (ns A n b) - 21 < 0 then 1 else 3) ≤ _
          rw [if_neg (by omega)]
          simp only
          omega
        · simp only
          omega
      · rw [if_neg c3]
        exact ⟨fun h => (by cases h), fun _ => by simp only; omega⟩
    · rw [if_neg c2]
      exact ⟨fun h => (by cases h), fun _ => by simp only; omega⟩
  · rw [if_neg c1]
    exact ⟨fun h => (by cases h), fun _ => by simp only; omega⟩
theorem pN_b : ∀ (f : Nat) (b : Int), b ≤ n → n - b < f → b + (pN A n f b).1 ≤ (pN A n f b).2 ∧ (pN A n f b).2 ≤ n ∧ wd A n (pN A n f b).2 ≠ 12
  | 0, b, h, hf => by omega
  | f + 1, b, h, hf => by
    have e : pN A n (f + 1) b = if wd A n b = 12 then ((pN A n f (ns A n b)).1 + 1, (pN A n f (ns A n b)).2) else (0, b) := rfl
    rw [e]
    by_cases q : wd A n b = 12
    · rw [if_pos q]
      have n1 := ns_lt (A := A) h (by omega)
      obtain ⟨i1, i2, i3⟩ := pN_b f (ns A n b) n1.2 (by omega)
      refine ⟨?_, i2, i3⟩
      simp only
      omega
    · rw [if_neg q]
      refine ⟨?_, h, q⟩
      simp only
      omega
/-- what brackets do -/
def wgd (A : Int → Int) (n : Int) (K : Nat) (W : Int → List prt → prs) : Prop := ∀ (k : Nat) (b : Int) (C : List prt), k ≤ K → (0 ≤ b ∧ b ≤ n) → wd A n b = 24 → gd n k b C (W b C) ∧ bd n b (W b C)
theorem pO_g {K : Nat} (hK : K ≤ 49) {W : Int → List prt → prs} (hW : wgd A n K W) {k : Nat} (hk : k ≤ K) {b : Int} {C : List prt} (hb : 0 ≤ b ∧ b ≤ n) (hn : n ≤ 200) : gd n k b C (pO A n W b C) ∧ bd n b (pO A n W b C) := by
  obtain ⟨i1, i2, i3⟩ := pN_b (A := A) (n := n) 201 b hb.2 (by omega)
  have hp : gd n k (pN A n 201 b).2 C (pP A n W (pN A n 201 b).2 C) ∧ bd n (pN A n 201 b).2 (pP A n W (pN A n 201 b).2 C) := by
    unfold pP
    by_cases q : wd A n (pN A n 201 b).2 = 24
    · rw [if_pos q]
      exact hW k _ C hk ⟨by omega, i2⟩ q
    · rw [if_neg q]
      exact pL_g (by omega) i2
  obtain ⟨g1, g2⟩ := hp
  unfold pO
  refine ⟨fun h => ?_, fun h => ?_⟩
  · obtain ⟨j1, j2, D, j3, j4, j5⟩ := g1 h
    refine ⟨by simp only; omega, j2, nots (pN A n 201 b).1 D, ?_, ?_, dq_nots j5 (by omega) (by omega) _⟩
    · simp only
      rw [j3, nots_app]
    · rw [off_nots]
      simp only
      omega
  · obtain ⟨j1, j2⟩ := g2 h
    exact ⟨by simp only; omega, j2⟩
theorem pA1_g {K : Nat} (hK : K ≤ 48) {W : Int → List prt → prs} (hW : wgd A n (K + 1) W) {k : Nat} (hk : k ≤ K) {b : Int} {C : List prt} (hb : 0 ≤ b) (hn : n ≤ 200) : ∀ (f : Nat) (r : prs), gd n k b C r → bd n b r → (r.1 = true → n - r.2.1 < f) → gd n k b C (pA1 A n W f r) ∧ bd n b (pA1 A n W f r) ∧ ((pA1 A n W f r).1 = true → wd A n (pA1 A n W f r).2.1 ≠ 10)
  | 0, r, h1, h2, h3 => ⟨h1, h2, fun h => by
      have := h3 h
      have := (h1 h).2.1
      omega⟩
  | f + 1, r, h1, h2, h3 => by
    have e : pA1 A n W (f + 1) r = if r.1 = true ∧ wd A n r.2.1 = 10 then pA1 A n W f ((pO A n W (ns A n r.2.1) r.2.2).1, (pO A n W (ns A n r.2.1) r.2.2).2.1, (-2, 0, 0) :: (pO A n W (ns A n r.2.1) r.2.2).2.2) else r := rfl
    rw [e]
    by_cases q : r.1 = true ∧ wd A n r.2.1 = 10
    · rw [if_pos q]
      obtain ⟨j1, j2, D, j3, j4, j5⟩ := h1 q.1
      have j6 := h3 q.1
      have n1 := ns_lt (A := A) j2 (by omega)
      obtain ⟨o1, o2⟩ := pO_g (A := A) (n := n) (K := K + 1) (by omega) hW (k := k + 1) (by omega) (b := ns A n r.2.1) (C := r.2.2) ⟨by omega, n1.2⟩ hn
      generalize pO A n W (ns A n r.2.1) r.2.2 = z at o1 o2
      refine pA1_g hK hW hk hb hn f _ (fun h => ?_) (fun h => ?_) (fun h => ?_)
      · obtain ⟨l1, l2, E, l3, l4, l5⟩ := o1 h
        refine ⟨by simp only; omega, l2, (-2, 0, 0) :: (E ++ D), ?_, ?_, k + 1 + 1, dq_app j5 E _ l5, by omega, Or.inr (Or.inl ⟨Or.inl rfl, by omega, by omega⟩)⟩
        · show (-2, 0, 0) :: z.2.2 = (-2, 0, 0) :: ((E ++ D) ++ C)
          rw [l3, j3, List.append_assoc]
        · show off (E ++ D) + (if (-2 : Int) < 0 then 1 else 3) ≤ z.2.1 - b
          rw [if_pos (by decide), off_app]
          omega
      · obtain ⟨l1, l2⟩ := o2 h
        exact ⟨by simp only; omega, l2⟩
      · obtain ⟨l1, l2, _⟩ := o1 h
        simp only
        omega
    · rw [if_neg q]
      exact ⟨h1, h2, fun h z => q ⟨h, z⟩⟩
theorem pA_g {K : Nat} (hK : K ≤ 48) {W : Int → List prt → prs} (hW : wgd A n (K + 1) W) {k : Nat} (hk : k ≤ K) {b : Int} {C : List prt} (hb : 0 ≤ b ∧ b ≤ n) (hn : n ≤ 200) : gd n k b C (pA A n W b C) ∧ bd n b (pA A n W b C) ∧ ((pA A n W b C).1 = true → wd A n (pA A n W b C).2.1 ≠ 10) := by
  obtain ⟨o1, o2⟩ := pO_g (A := A) (n := n) (K := K + 1) (by omega) hW (k := k) (by omega) (b := b) (C := C) hb hn
  exact pA1_g hK hW hk hb.1 hn 201 _ o1 o2 (fun h => by have := (o1 h).1; omega)
theorem pC1_g {K : Nat} (hK : K ≤ 47) {W : Int → List prt → prs} (hW : wgd A n (K + 2) W) {k : Nat} (hk : k ≤ K) {b : Int} {C : List prt} (hb : 0 ≤ b) (hn : n ≤ 200) : ∀ (f : Nat) (r : prs), gd n k b C r → bd n b r → (r.1 = true → n - r.2.1 < f) → (r.1 = true → wd A n r.2.1 ≠ 10) → gd n k b C (pC1 A n W f r) ∧ bd n b (pC1 A n W f r) ∧ ((pC1 A n W f r).1 = true → wd A n (pC1 A n W f r).2.1 ≠ 10 ∧ wd A n (pC1 A n W f r).2.1 ≠ 11)
  | 0, r, h1, h2, h3, h4 => ⟨h1, h2, fun h => by
      have := h3 h
      have := (h1 h).2.1
      omega⟩
  | f + 1, r, h1, h2, h3, h4 => by
    have e : pC1 A n W (f + 1) r = if r.1 = true ∧ wd A n r.2.1 = 11 then pC1 A n W f ((pA A n W (ns A n r.2.1) r.2.2).1, (pA A n W (ns A n r.2.1) r.2.2).2.1, (-3, 0, 0) :: (pA A n W (ns A n r.2.1) r.2.2).2.2) else r := rfl
    rw [e]
    by_cases q : r.1 = true ∧ wd A n r.2.1 = 11
    · rw [if_pos q]
      obtain ⟨j1, j2, D, j3, j4, j5⟩ := h1 q.1
      have j6 := h3 q.1
      have n1 := ns_lt (A := A) j2 (by omega)
      obtain ⟨o1, o2, o3⟩ := pA_g (A := A) (n := n) (K := K + 1) (by omega) hW (k := k + 1) (by omega) (b := ns A n r.2.1) (C := r.2.2) ⟨by omega, n1.2⟩ hn
      generalize pA A n W (ns A n r.2.1) r.2.2 = z at o1 o2 o3
      refine pC1_g hK hW hk hb hn f _ (fun h => ?_) (fun h => ?_) (fun h => ?_) o3
      · obtain ⟨l1, l2, E, l3, l4, l5⟩ := o1 h
        refine ⟨by simp only; omega, l2, (-3, 0, 0) :: (E ++ D), ?_, ?_, k + 1 + 1, dq_app j5 E _ l5, by omega, Or.inr (Or.inl ⟨Or.inr rfl, by omega, by omega⟩)⟩
        · show (-3, 0, 0) :: z.2.2 = (-3, 0, 0) :: ((E ++ D) ++ C)
          rw [l3, j3, List.append_assoc]
        · show off (E ++ D) + (if (-3 : Int) < 0 then 1 else 3) ≤ z.2.1 - b
          rw [if_pos (by decide), off_app]
          omega
      · obtain ⟨l1, l2⟩ := o2 h
        exact ⟨by simp only; omega, l2⟩
      · obtain ⟨l1, l2, _⟩ := o1 h
        simp only
        omega
    · rw [if_neg q]
      exact ⟨h1, h2, fun h => ⟨h4 h, fun z => q ⟨h, z⟩⟩⟩
theorem pC_g {K : Nat} (hK : K ≤ 47) {W : Int → List prt → prs} (hW : wgd A n (K + 2) W) {k : Nat} (hk : k ≤ K) {b : Int} {C : List prt} (hb : 0 ≤ b ∧ b ≤ n) (hn : n ≤ 200) : gd n k b C (pC A n W b C) ∧ bd n b (pC A n W b C) ∧ ((pC A n W b C).1 = true → wd A n (pC A n W b C).2.1 ≠ 10 ∧ wd A n (pC A n W b C).2.1 ≠ 11) := by
  obtain ⟨o1, o2, o3⟩ := pA_g (A := A) (n := n) (K := K + 1) (by omega) hW (k := k) (by omega) (b := b) (C := C) hb hn
  exact pC1_g hK hW hk hb.1 hn 201 _ o1 o2 (fun h => by have := (o1 h).1; omega) o3
theorem pW_g (hn : n ≤ 200) : ∀ (f K : Nat), K + 2 * f ≤ 49 → wgd A n K (pW A n f)
  | 0, K, _ => fun k b C hk hb hw => ⟨fun h => (by cases h), fun _ => ⟨Int.le_refl b, hb.2⟩⟩
  | f + 1, K, hK => fun k b C hk hb hw => by
    have n1 := ns_lt (A := A) hb.2 (by omega)
    obtain ⟨o1, o2, o3⟩ := pC_g (A := A) (n := n) (K := K) (by omega) (pW_g hn f (K + 2) (by omega)) hk (b := ns A n b) (C := C) ⟨by omega, n1.2⟩ hn
    have e : pW A n (f + 1) b C = if (pC A n (pW A n f) (ns A n b) C).1 = true ∧ wd A n (pC A n (pW A n f) (ns A n b) C).2.1 = 25 then (true, ns A n (pC A n (pW A n f) (ns A n b) C).2.1, (pC A n (pW A n f) (ns A n b) C).2.2) else (false, (pC A n (pW A n f) (ns A n b) C).2.1, C) := rfl
    rw [e]
    generalize pC A n (pW A n f) (ns A n b) C = z at o1 o2 o3
    by_cases q : z.1 = true ∧ wd A n z.2.1 = 25
    · rw [if_pos q]
      obtain ⟨j1, j2, D, j3, j4, j5⟩ := o1 q.1
      have n2 := ns_lt (A := A) j2 (by omega)
      refine ⟨fun _ => ⟨by simp only; omega, n2.2, D, j3, ?_, j5⟩, fun h => (by cases h)⟩
      simp only
      omega
    · rw [if_neg q]
      refine ⟨fun h => (by cases h), fun _ => ?_⟩
      by_cases y : z.1 = true
      · have := o1 y
        exact ⟨by simp only; omega, this.2.1⟩
      · have := o2 (by simpa using y)
        exact ⟨by simp only; omega, this.2⟩
end
/-! RULES, one behind the other: (kind, will, the code up to its end), the latest first -/
abbrev rle : Type := Int × Int × List prt
section
variable (A : Int → Int) (n : Int)
def pR0 (b : Int) (C : List prt) : prs := if wd A n b = 9 then pC A n (pW A n 3) (ns A n b) C else (true, b, C)
def pR (b : Int) (C : List prt) : prs :=
  if wd A n b ≤ 5 then
    (if (pR0 A n (ns A n b) C).1 = true then
      (if 6 ≤ wd A n (pR0 A n (ns A n b) C).2.1 ∧ wd A n (pR0 A n (ns A n b) C).2.1 ≤ 8 then
        (if wd A n (ns A n (pR0 A n (ns A n b) C).2.1) = 26 then (true, ns A n (ns A n (pR0 A n (ns A n b) C).2.1), (pR0 A n (ns A n b) C).2.2)
         else (false, ns A n (pR0 A n (ns A n b) C).2.1, C))
       else (false, (pR0 A n (ns A n b) C).2.1, C))
     else (false, (pR0 A n (ns A n b) C).2.1, C))
  else (false, b, C)
def pX : Nat → Int → List prt → List rle → Bool × Int × List rle
  | 0, b, _, R => (false, b, R)
  | f + 1, b, C, R => if wd A n b = 20 then (true, b, R) else if R.length = 8 then (false, b, R) else if (pR A n b C).1 = true then pX f (pR A n b C).2.1 (pR A n b C).2.2 ((wd A n b, wd A n (pR0 A n (ns A n b) C).2.1 - 6, (pR A n b C).2.2) :: R) else (false, (pR A n b C).2.1, R)
end
/-- the code of the rules -/
def hcd : List rle → List prt
  | [] => []
  | r :: _ => r.2.2
/-- what is so of rules that were read -/
def rks : List rle → Prop
  | [] => True
  | r :: t => (0 ≤ r.1 ∧ r.1 ≤ 5) ∧ (0 ≤ r.2.1 ∧ r.2.1 ≤ 2) ∧ (∃ D k, r.2.2 = D ++ hcd t ∧ dq D 0 k ∧ k ≤ 1) ∧ off r.2.2 ≤ 200 ∧ rks t
section
variable {A : Int → Int} {n : Int}
theorem pR0_g (hn : n ≤ 200) {b : Int} {C : List prt} (hb : 0 ≤ b ∧ b ≤ n) : ((pR0 A n b C).1 = true → b ≤ (pR0 A n b C).2.1 ∧ (pR0 A n b C).2.1 ≤ n ∧ ∃ D k, (pR0 A n b C).2.2 = D ++ C ∧ off D ≤ (pR0 A n b C).2.1 - b ∧ dq D 0 k ∧ k ≤ 1) ∧ bd n b (pR0 A n b C) := by
  unfold pR0
  by_cases q : wd A n b = 9
  · rw [if_pos q]
    have n1 := ns_lt (A := A) hb.2 (by omega)
    obtain ⟨o1, o2, o3⟩ := pC_g (A := A) (n := n) (K := 0) (by omega) (pW_g hn 3 2 (by omega)) (Nat.le_refl 0) (b := ns A n b) (C := C) ⟨by omega, n1.2⟩ hn
    refine ⟨fun h => ?_, fun h => ?_⟩
    · obtain ⟨j1, j2, D, j3, j4, j5⟩ := o1 h
      exact ⟨by omega, j2, D, 1, j3, by omega, j5, Nat.le_refl 1⟩
    · have := o2 h
      omega
  · rw [if_neg q]
    refine ⟨fun _ => ⟨Int.le_refl b, hb.2, [], 0, rfl, ?_, rfl, by decide⟩, fun h => (by cases h)⟩
    show (0 : Int) ≤ b - b
    omega
theorem pR_g (hn : n ≤ 200) {b : Int} {C : List prt} (hb : 0 ≤ b ∧ b ≤ n) : ((pR A n b C).1 = true → b < (pR A n b C).2.1 ∧ (pR A n b C).2.1 ≤ n ∧ wd A n b ≤ 5 ∧ (6 ≤ wd A n (pR0 A n (ns A n b) C).2.1 ∧ wd A n (pR0 A n (ns A n b) C).2.1 ≤ 8) ∧ ∃ D k, (pR A n b C).2.2 = D ++ C ∧ off D ≤ (pR A n b C).2.1 - b ∧ dq D 0 k ∧ k ≤ 1) ∧ bd n b (pR A n b C) := by
  unfold pR
  by_cases c1 : wd A n b ≤ 5
  · rw [if_pos c1]
    have n1 := ns_lt (A := A) hb.2 (by omega)
    obtain ⟨g1, g2⟩ := pR0_g (A := A) hn (b := ns A n b) (C := C) ⟨by omega, n1.2⟩
    generalize pR0 A n (ns A n b) C = z at g1 g2
    by_cases c2 : z.1 = true
    · rw [if_pos c2]
      obtain ⟨j1, j2, D, k, j3, j4, j5, j6⟩ := g1 c2
      by_cases c3 : 6 ≤ wd A n z.2.1 ∧ wd A n z.2.1 ≤ 8
      · rw [if_pos c3]
        have n2 := ns_lt (A := A) j2 (by omega)
        by_cases c4 : wd A n (ns A n z.2.1) = 26
        · rw [if_pos c4]
          have n3 := ns_lt (A := A) n2.2 (by omega)
          refine ⟨fun _ => ⟨by simp only; omega, n3.2, c1, c3, D, k, j3, ?_, j5, j6⟩, fun h => (by cases h)⟩
          simp only
          omega
        · rw [if_neg c4]
          exact ⟨fun h => (by cases h), fun _ => ⟨by simp only; omega, n2.2⟩⟩
      · rw [if_neg c3]
        exact ⟨fun h => (by cases h), fun _ => ⟨by simp only; omega, j2⟩⟩
    · rw [if_neg c2]
      have := g2 (by simpa using c2)
      exact ⟨fun h => (by cases h), fun _ => ⟨by simp only; omega, this.2⟩⟩
  · rw [if_neg c1]
    exact ⟨fun h => (by cases h), fun _ => ⟨Int.le_refl b, hb.2⟩⟩
theorem pX_g (hn : n ≤ 200) : ∀ (f : Nat) (b : Int) (R : List rle), (0 ≤ b ∧ b ≤ n) → rks R → off (hcd R) ≤ b → rks (pX A n f b (hcd R) R).2.2 ∧ (0 ≤ (pX A n f b (hcd R) R).2.1 ∧ (pX A n f b (hcd R) R).2.1 ≤ n) ∧ (R.length ≤ 8 → (pX A n f b (hcd R) R).2.2.length ≤ 8)
  | 0, b, R, hb, hR, ho => ⟨hR, hb, fun h => h⟩
  | f + 1, b, R, hb, hR, ho => by
    have e : pX A n (f + 1) b (hcd R) R = if wd A n b = 20 then (true, b, R) else if R.length = 8 then (false, b, R) else if (pR A n b (hcd R)).1 = true then pX A n f (pR A n b (hcd R)).2.1 (pR A n b (hcd R)).2.2 ((wd A n b, wd A n (pR0 A n (ns A n b) (hcd R)).2.1 - 6, (pR A n b (hcd R)).2.2) :: R) else (false, (pR A n b (hcd R)).2.1, R) := rfl
    rw [e]
    by_cases c1 : wd A n b = 20
    · rw [if_pos c1]; exact ⟨hR, hb, fun h => h⟩
    · rw [if_neg c1]
      by_cases c2 : R.length = 8
      · rw [if_pos c2]; exact ⟨hR, hb, fun h => h⟩
      · rw [if_neg c2]
        obtain ⟨g1, g2⟩ := pR_g (A := A) hn (b := b) (C := hcd R) hb
        by_cases c3 : (pR A n b (hcd R)).1 = true
        · rw [if_pos c3]
          obtain ⟨j1, j2, j3, j4, D, k, j5, j6, j7, j8⟩ := g1 c3
          have w0 := (wd_b (A := A) (n := n) (b := b)).1
          have ho2 : off (pR A n b (hcd R)).2.2 ≤ (pR A n b (hcd R)).2.1 := by
            rw [j5, off_app]
            omega
          have := pX_g hn f (pR A n b (hcd R)).2.1 ((wd A n b, wd A n (pR0 A n (ns A n b) (hcd R)).2.1 - 6, (pR A n b (hcd R)).2.2) :: R) ⟨by omega, j2⟩ ⟨⟨w0, j3⟩, ⟨by simp only; omega, by simp only; omega⟩, ⟨D, k, j5, j7, j8⟩, by simp only; omega, hR⟩ ho2
          refine ⟨this.1, this.2.1, fun h => this.2.2 ?_⟩
          rw [List.length_cons]
          omega
        · rw [if_neg c3]
          have := g2 (by simpa using c3)
          exact ⟨hR, ⟨by simp only; omega, this.2⟩, fun h => h⟩
end
