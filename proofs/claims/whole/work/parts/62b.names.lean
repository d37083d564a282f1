/-! NAMES: how the class finds them, how the model does -/
def nmf (A : Int → Int) (b q : Int) : List Int → Int → Int → Int
  | [], _, _ => 19
  | c :: t, nm, sm => if c = 44 then (if sm = q then nm else nmf A b q t (nm + 1) b) else nmf A b q t nm (if (b ≤ sm ∧ sm < q) ∧ A sm = c then sm + 1 else -1)
theorem nmf_d {A : Int → Int} {b q : Int} (hb : 0 ≤ b) (hq : b ≤ q) {t : List Int} {nm : Int} : ∀ (N : List Int), (∀ c, c ∈ N → c ≠ 44) → nmf A b q (N ++ 44 :: t) nm (-1) = nmf A b q t (nm + 1) b
  | [], _ => by
    show (if (44 : Int) = 44 then (if -1 = q then nm else nmf A b q t (nm + 1) b) else _) = _
    rw [if_pos rfl, if_neg (by omega)]
  | c :: N, h => by
    show (if c = 44 then _ else nmf A b q (N ++ 44 :: t) nm (if (b ≤ -1 ∧ -1 < q) ∧ A (-1) = c then -1 + 1 else -1)) = _
    rw [if_neg (h c (List.mem_cons_self ..)), if_neg (by omega)]
    exact nmf_d hb hq N (fun x hx => h x (List.mem_cons_of_mem _ hx))
theorem nmf_n {A : Int → Int} {b q : Int} (hb : 0 ≤ b) {t : List Int} {nm : Int} : ∀ (N : List Int) (sm : Int), (∀ c, c ∈ N → c ≠ 44) → b ≤ sm → sm ≤ q → nmf A b q (N ++ 44 :: t) nm sm = if wln A (q - sm).toNat sm = N then nm else nmf A b q t (nm + 1) b
  | [], sm, _, h1, h2 => by
    show (if (44 : Int) = 44 then (if sm = q then nm else nmf A b q t (nm + 1) b) else _) = _
    rw [if_pos rfl]
    by_cases z : sm = q
    · rw [if_pos z, if_pos]
      rw [z, Int.sub_self]
      rfl
    · rw [if_neg z, if_neg]
      intro e
      have := congrArg List.length e
      rw [wln_len] at this
      simp only [List.length_nil] at this
      omega
  | c :: N, sm, h, h1, h2 => by
    show (if c = 44 then _ else nmf A b q (N ++ 44 :: t) nm (if (b ≤ sm ∧ sm < q) ∧ A sm = c then sm + 1 else -1)) = _
    rw [if_neg (h c (List.mem_cons_self ..))]
    by_cases z : sm < q
    · have ew : wln A (q - sm).toNat sm = A sm :: wln A (q - (sm + 1)).toNat (sm + 1) := by
        rw [show (q - sm).toNat = (q - (sm + 1)).toNat + 1 by omega]
        rfl
      rw [ew]
      by_cases y : A sm = c
      · rw [if_pos ⟨⟨h1, z⟩, y⟩, nmf_n hb N (sm + 1) (fun x hx => h x (List.mem_cons_of_mem _ hx)) (by omega) (by omega)]
        by_cases w : wln A (q - (sm + 1)).toNat (sm + 1) = N
        · rw [if_pos w, if_pos (by rw [y, w])]
        · rw [if_neg w, if_neg (fun e => w (by injection e))]
      · rw [if_neg (fun e => y e.2), nmf_d hb (by omega) N (fun x hx => h x (List.mem_cons_of_mem _ hx)), if_neg (fun e => y (by injection e))]
    · rw [if_neg (fun e => z e.1.2), nmf_d hb (by omega) N (fun x hx => h x (List.mem_cons_of_mem _ hx)), if_neg]
      intro e
      have := congrArg List.length e
      rw [wln_len, List.length_cons] at this
      omega
def nmc (N : List (List Int)) : List Int := N.flatMap fun x => x ++ [44]
theorem nmf_all {A : Int → Int} {b q : Int} (hb : 0 ≤ b) (hq : b ≤ q) : ∀ (N : List (List Int)) (k : Int), (∀ x, x ∈ N → ∀ c, c ∈ x → c ≠ 44) → nmf A b q (nmc N) k b = nix N k (wln A (q - b).toNat b)
  | [], k, _ => rfl
  | x :: N, k, h => by
    have e : nmc (x :: N) = x ++ 44 :: nmc N := by
      unfold nmc
      rw [List.flatMap_cons, List.append_assoc]
      rfl
    rw [e, nmf_n hb x b (h x (List.mem_cons_self ..)) (Int.le_refl b) hq, nmf_all hb hq N (k + 1) (fun y hy => h y (List.mem_cons_of_mem _ hy))]
    rfl
theorem nmz_44 : ∀ x, x ∈ nmz → ∀ c, c ∈ x → c ≠ 44 := by decide
/-- the model's comparison of eight letters -/
def pmf (A : Int → Int) (q : Int) : List Int → Int → Bool
  | [], _ => true
  | c :: t, p => decide (c = if p < q then A p else 32) && pmf A q t (p + 1)
theorem pmf_sp {A : Int → Int} {q : Int} : ∀ (m : Nat) (p : Int), (∀ i, p ≤ i → i < q → A i ≠ 32) → p ≤ q → q - p ≤ m → (pmf A q (List.replicate m 32) p = true ↔ p = q)
  | 0, p, _, h1, h2 => ⟨fun _ => by omega, fun _ => rfl⟩
  | m + 1, p, hA, h1, h2 => by
    show (decide ((32 : Int) = if p < q then A p else 32) && pmf A q (List.replicate m 32) (p + 1)) = true ↔ _
    by_cases z : p < q
    · rw [if_pos z]
      have := hA p (Int.le_refl p) z
      simp only [Bool.and_eq_true, decide_eq_true_eq]
      omega
    · rw [if_neg z]
      have hq : p = q := by omega
      subst hq
      have : ∀ (k : Nat) (r : Int), p ≤ r → pmf A p (List.replicate k 32) r = true := by
        intro k
        induction k with
        | zero => intro r _; rfl
        | succ k ih =>
          intro r hr
          show (decide ((32 : Int) = if r < p then A r else 32) && pmf A p (List.replicate k 32) (r + 1)) = true
          rw [if_neg (by omega), ih (r + 1) (by omega)]
          rfl
      rw [this m (p + 1) (by omega)]
      simp
theorem pmf_n {A : Int → Int} {q : Int} : ∀ (N : List Int) (m : Nat) (p : Int), (∀ c, c ∈ N → c ≠ 32) → (∀ i, p ≤ i → i < q → A i ≠ 32) → p ≤ q → q - p ≤ N.length + m → (pmf A q (N ++ List.replicate m 32) p = true ↔ wln A (q - p).toNat p = N)
  | [], m, p, _, hA, h1, h2 => by
    rw [List.nil_append, pmf_sp m p hA h1 (by simp only [List.length_nil] at h2; omega)]
    constructor
    · intro e
      rw [e, Int.sub_self]
      rfl
    · intro e
      have := congrArg List.length e
      rw [wln_len] at this
      simp only [List.length_nil] at this
      omega
  | c :: N, m, p, hN, hA, h1, h2 => by
    show (decide (c = if p < q then A p else 32) && pmf A q (N ++ List.replicate m 32) (p + 1)) = true ↔ _
    have hc := hN c (List.mem_cons_self ..)
    rw [List.length_cons] at h2
    by_cases z : p < q
    · have ew : wln A (q - p).toNat p = A p :: wln A (q - (p + 1)).toNat (p + 1) := by
        rw [show (q - p).toNat = (q - (p + 1)).toNat + 1 by omega]
        rfl
      rw [if_pos z, ew, Bool.and_eq_true, pmf_n N m (p + 1) (fun x hx => hN x (List.mem_cons_of_mem _ hx)) (fun i i0 i1 => hA i (by omega) i1) (by omega) (by omega), decide_eq_true_eq]
      constructor
      · intro e
        rw [← e.1, e.2]
      · intro e
        injection e with e1 e2
        exact ⟨e1.symm, e2⟩
    · rw [if_neg z]
      constructor
      · intro e
        rw [Bool.and_eq_true, decide_eq_true_eq] at e
        exact absurd e.1 hc
      · intro e
        have := congrArg List.length e
        rw [wln_len, List.length_cons] at this
        omega
def pad8 (N : List Int) : List Int := N ++ List.replicate (8 - N.length) 32
theorem mnz_32 : ∀ x, x ∈ mnz → (∀ c, c ∈ x → c ≠ 32) ∧ x.length ≤ 8 := by decide
theorem ltr_pad : ltr = mnz.flatMap pad8 := by decide
theorem pad8_len {N : List Int} (h : N.length ≤ 8) : (pad8 N).length = 8 := by
  unfold pad8
  rw [List.length_append, List.length_replicate]
  omega
/-- the model's test of a name -/
theorem isn_w {A : Int → Int} {b q : Int} {N : List Int} (hN : (∀ c, c ∈ N → c ≠ 32) ∧ N.length ≤ 8) (hA : ∀ i, b ≤ i → i < q → A i ≠ 32) (hq : b ≤ q) : (q - b ≤ 8 ∧ pmf A q (pad8 N) b = true) ↔ wln A (q - b).toNat b = N := by
  by_cases z : q - b ≤ 8
  · have := pmf_n (A := A) (q := q) N (8 - N.length) b hN.1 hA hq (by omega)
    unfold pad8
    rw [this]
    exact ⟨fun e => e.2, fun e => ⟨z, e⟩⟩
  · constructor
    · intro e
      exact absurd e.1 z
    · intro e
      have := congrArg List.length e
      rw [wln_len] at this
      omega
