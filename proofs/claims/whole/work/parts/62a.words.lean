/-! WORDS of the tape: where they begin and end, which they are -/
def avn (P : Int → Bool) (A : Int → Int) (n : Int) : Nat → Int → Int
  | 0, p => p
  | f + 1, p => if p < n ∧ P (A p) = true then avn P A n f (p + 1) else p
def av (P : Int → Bool) (A : Int → Int) (n p : Int) : Int := avn P A n (n - p).toNat p
section
variable {P : Int → Bool} {A : Int → Int} {n p : Int}
theorem av_go (h : p < n) (hp : P (A p) = true) : av P A n p = av P A n (p + 1) := by
  unfold av
  rw [show (n - p).toNat = (n - (p + 1)).toNat + 1 by omega]
  show (if _ then _ else _) = _
  rw [if_pos ⟨h, hp⟩]
theorem av_no (h : ¬ (p < n ∧ P (A p) = true)) : av P A n p = p := by
  unfold av
  cases (n - p).toNat with
  | zero => rfl
  | succ f =>
    show (if _ then _ else _) = _
    rw [if_neg h]
theorem avn_ge : ∀ (f : Nat) (p : Int), p ≤ avn P A n f p
  | 0, p => Int.le_refl p
  | f + 1, p => by
    show p ≤ (if _ then _ else _)
    split
    · have := avn_ge f (p + 1)
      omega
    · exact Int.le_refl p
theorem avn_le : ∀ (f : Nat) (p : Int), p ≤ n → avn P A n f p ≤ n
  | 0, p, h => h
  | f + 1, p, h => by
    show (if _ then _ else _) ≤ n
    split
    · rename_i q
      exact avn_le f (p + 1) (by omega)
    · exact h
theorem avn_in : ∀ (f : Nat) (p i : Int), p ≤ i → i < avn P A n f p → P (A i) = true
  | 0, p, i, h, h' => by
    have : avn P A n 0 p = p := rfl
    omega
  | f + 1, p, i, h, h' => by
    have e : avn P A n (f + 1) p = if p < n ∧ P (A p) = true then avn P A n f (p + 1) else p := rfl
    rw [e] at h'
    split at h'
    · rename_i q
      by_cases z : i = p
      · rw [z]; exact q.2
      · exact avn_in f (p + 1) i (by omega) h'
    · omega
theorem av_ge : p ≤ av P A n p := avn_ge _ _
theorem av_le (h : p ≤ n) : av P A n p ≤ n := avn_le _ _ h
theorem av_in {i : Int} (h : p ≤ i) (h' : i < av P A n p) : P (A i) = true := avn_in _ _ _ h h'
end
def isS (c : Int) : Bool := decide (c = 32)
def isL (c : Int) : Bool := decide (97 ≤ c ∧ c ≤ 122)
def isD (c : Int) : Bool := decide (48 ≤ c ∧ c ≤ 57)
/-- the bytes from p on -/
def wln (A : Int → Int) : Nat → Int → List Int
  | 0, _ => []
  | f + 1, p => A p :: wln A f (p + 1)
theorem wln_len (A : Int → Int) : ∀ (f : Nat) (p : Int), (wln A f p).length = f
  | 0, _ => rfl
  | f + 1, p => by
    show (wln A f (p + 1)).length + 1 = _
    rw [wln_len A f (p + 1)]
/-- a number -/
def nvn (A : Int → Int) (b : Int) : Nat → Int → Int → Int
  | 0, _, v => v
  | f + 1, p, v => nvn A b f (p + 1) (if p - b < 4 then 10 * v + A p - 48 else v)
theorem nvn_b {A : Int → Int} {b : Int} : ∀ (f : Nat) (p v : Int), (∀ i, p ≤ i → i < p + f → 48 ≤ A i ∧ A i ≤ 57) → b ≤ p → 0 ≤ v → ((p - b = 0 ∧ v = 0) ∨ (p - b = 1 ∧ v ≤ 9) ∨ (p - b = 2 ∧ v ≤ 99) ∨ (p - b = 3 ∧ v ≤ 999) ∨ (4 ≤ p - b ∧ v ≤ 9999)) → 0 ≤ nvn A b f p v ∧ nvn A b f p v ≤ 9999
  | 0, p, v, _, _, h0, h => by
    show 0 ≤ v ∧ v ≤ 9999
    omega
  | f + 1, p, v, hA, hp, h0, h => by
    have a := hA p (by omega) (by omega)
    refine nvn_b f (p + 1) _ (fun i i0 i1 => hA i (by omega) (by omega)) (by omega) ?_ ?_
    · split <;> omega
    · split <;> omega
def nmz : List (List Int) := [[112, 108, 97, 116, 101], [100, 105, 115, 104], [116, 117, 114, 101, 101, 110], [98, 111, 97, 116], [115, 97, 117, 99, 101, 114], [99, 114, 97, 99, 107, 101, 100], [115, 105, 116], [115, 116, 97, 110, 100], [108, 101, 97, 118, 101], [105, 102], [97, 110, 100], [111, 114], [110, 111, 116], [121, 101, 97, 114], [119, 105, 100, 116, 104], [103, 114, 117, 100, 103, 101], [109, 111, 111, 100], [110, 117, 109, 98, 101, 114]]
def mnz : List (List Int) := [[112, 108, 97, 116, 101], [100, 105, 115, 104], [116, 117, 114, 101, 101, 110], [98, 111, 97, 116], [115, 97, 117, 99, 101, 114], [99, 114, 97, 99, 107, 101, 100], [115, 105, 116], [115, 116, 97, 110, 100], [108, 101, 97, 118, 101], [105, 102], [110, 111, 116], [97, 110, 100], [111, 114], [121, 101, 97, 114], [119, 105, 100, 116, 104], [103, 114, 117, 100, 103, 101], [109, 111, 111, 100], [110, 117, 109, 98, 101, 114]]
/-- which name -/
def nix : List (List Int) → Int → List Int → Int
  | [], _, _ => 19
  | N :: t, k, L => if L = N then k else nix t (k + 1) L
def mix : List (List Int) → Int → Int → List Int → Int
  | [], _, r, _ => r
  | N :: t, k, r, L => mix t (k + 1) (if L = N then k else r) L
/-- what the class calls w the model calls t -/
def TW (t w : Int) : Prop := (0 ≤ w ∧ w ≤ 9 ∧ t = w) ∨ (w = 10 ∧ t = 11) ∨ (w = 11 ∧ t = 12) ∨ (w = 12 ∧ t = 10) ∨ (13 ≤ w ∧ w ≤ 17 ∧ t = w) ∨ (w = 18 ∧ t = 100) ∨ (w = 19 ∧ (t = 101 ∨ (200 ≤ t ∧ t ≤ 455 ∧ t ≠ 240 ∧ t ≠ 241 ∧ t ≠ 259 ∧ t ≠ 260 ∧ t ≠ 261 ∧ t ≠ 262))) ∨ (w = 20 ∧ t = -1) ∨ (w = 21 ∧ t = 260) ∨ (w = 22 ∧ t = 261) ∨ (w = 23 ∧ t = 262) ∨ (w = 24 ∧ t = 240) ∨ (w = 25 ∧ t = 241) ∨ (w = 26 ∧ t = 259)
theorem TW_name (L : List Int) : TW (mix mnz 0 101 L) (nix nmz 0 L) := by
  by_cases h : L ∈ nmz
  · simp only [nmz, List.mem_cons, List.mem_nil_iff, or_false] at h
    rcases h with rfl | rfl | rfl | rfl | rfl | rfl | rfl | rfl | rfl | rfl | rfl | rfl | rfl | rfl | rfl | rfl | rfl | rfl <;> (unfold TW; decide)
  · have g : ∀ N, N ∈ nmz → ¬ L = N := fun N q z => h (by rw [z]; exact q)
    have e1 : nix nmz 0 L = 19 := by
      unfold nmz
      simp only [nix]
      repeat rw [if_neg (g _ (by decide))]
    have e2 : mix mnz 0 101 L = 101 := by
      unfold mnz
      simp only [mix]
      repeat rw [if_neg (g _ (by decide))]
    rw [e1, e2]
    unfold TW
    decide
theorem nix_b {L : List Int} : ∀ (N : List (List Int)) (k : Int), 0 ≤ k → k + N.length ≤ 18 → 0 ≤ nix N k L ∧ nix N k L ≤ 19
  | [], k, h0, h => by show (0 : Int) ≤ 19 ∧ (19 : Int) ≤ 19; omega
  | N :: t, k, h0, h => by
    rw [List.length_cons] at h
    have e : nix (N :: t) k L = if L = N then k else nix t (k + 1) L := rfl
    rw [e]
    split
    · omega
    · exact nix_b t (k + 1) (by omega) (by omega)
def sgw (c : Int) : Int := if c = 40 then 24 else if c = 41 then 25 else if c = 59 then 26 else if c = 60 then 21 else if c = 61 then 22 else if c = 62 then 23 else 19
theorem TW_sg {c : Int} (h : 0 ≤ c ∧ c ≤ 255) : TW (200 + c) (sgw c) := by
  have h6 : c = 40 ∨ c = 41 ∨ c = 59 ∨ c = 60 ∨ c = 61 ∨ c = 62 ∨ (c ≠ 40 ∧ c ≠ 41 ∧ c ≠ 59 ∧ c ≠ 60 ∧ c ≠ 61 ∧ c ≠ 62) := by omega
  rcases h6 with rfl | rfl | rfl | rfl | rfl | rfl | ⟨n1, n2, n3, n4, n5, n6⟩
  · unfold TW; decide
  · unfold TW; decide
  · unfold TW; decide
  · unfold TW; decide
  · unfold TW; decide
  · unfold TW; decide
  · have e : sgw c = 19 := by
      unfold sgw
      rw [if_neg n1, if_neg n2, if_neg n3, if_neg n4, if_neg n5, if_neg n6]
    rw [e]
    exact Or.inr (Or.inr (Or.inr (Or.inr (Or.inr (Or.inr (Or.inl ⟨rfl, Or.inr ⟨by omega, by omega, by omega, by omega, by omega, by omega, by omega, by omega⟩⟩))))))
theorem sgw_b {c : Int} : 19 ≤ sgw c ∧ sgw c ≤ 26 ∧ sgw c ≠ 20 := by
  unfold sgw
  (repeat' split) <;> omega
section
variable (A : Int → Int) (n : Int)
def sk (p : Int) : Int := av isS A n p
def lee (p : Int) : Int := av isL A n p
def dge (p : Int) : Int := av isD A n p
def wd (b : Int) : Int := if n ≤ b then 20 else if isL (A b) = true then nix nmz 0 (wln A (lee A n b - b).toNat b) else if isD (A b) = true then (if 4 < dge A n b - b then 19 else 18) else sgw (A b)
def tk (b : Int) : Int := if n ≤ b then -1 else if isL (A b) = true then mix mnz 0 101 (wln A (lee A n b - b).toNat b) else if isD (A b) = true then (if 4 < dge A n b - b then 101 else 100) else 200 + A b
def en (b : Int) : Int := if n ≤ b then b else if isL (A b) = true then lee A n b else if isD (A b) = true then dge A n b else b + 1
def vl (b : Int) : Int := nvn A b (dge A n b - b).toNat b 0
def ns (b : Int) : Int := sk A n (en A n b)
end
section
variable {A : Int → Int} {n b : Int}
theorem wd_b : 0 ≤ wd A n b ∧ wd A n b ≤ 26 := by
  unfold wd
  have h1 := nix_b (L := wln A (lee A n b - b).toNat b) nmz 0 (by decide) (by decide)
  have h2 := sgw_b (c := A b)
  (repeat' split) <;> omega
theorem wd_20 : wd A n b = 20 ↔ n ≤ b := by
  unfold wd
  have h1 := nix_b (L := wln A (lee A n b - b).toNat b) nmz 0 (by decide) (by decide)
  have h2 := sgw_b (c := A b)
  (repeat' split) <;> omega
theorem TW_tk (h : b < n → 0 ≤ A b ∧ A b ≤ 255) : TW (tk A n b) (wd A n b) := by
  unfold tk wd
  have h1 := TW_name (wln A (lee A n b - b).toNat b)
  by_cases c1 : n ≤ b
  · rw [if_pos c1, if_pos c1]; unfold TW; decide
  · rw [if_neg c1, if_neg c1]
    by_cases c2 : isL (A b) = true
    · rw [if_pos c2, if_pos c2]; exact h1
    · rw [if_neg c2, if_neg c2]
      by_cases c3 : isD (A b) = true
      · rw [if_pos c3, if_pos c3]
        by_cases c4 : 4 < dge A n b - b
        · rw [if_pos c4, if_pos c4]; unfold TW; decide
        · rw [if_neg c4, if_neg c4]; unfold TW; decide
      · rw [if_neg c3, if_neg c3]
        exact TW_sg (h (by omega))
theorem en_le (h : b ≤ n) : b ≤ en A n b ∧ en A n b ≤ n ∧ (b < n → b < en A n b) := by
  unfold en
  have h1 := av_le (P := isL) (A := A) h
  have h2 := av_le (P := isD) (A := A) h
  have h3 := av_ge (P := isL) (A := A) (n := n) (p := b)
  have h4 := av_ge (P := isD) (A := A) (n := n) (p := b)
  have h5 := av_ge (P := isL) (A := A) (n := n) (p := b + 1)
  have h6 := av_ge (P := isD) (A := A) (n := n) (p := b + 1)
  by_cases c1 : n ≤ b
  · rw [if_pos c1]; omega
  · rw [if_neg c1]
    by_cases c2 : isL (A b) = true
    · rw [if_pos c2]
      unfold lee
      rw [← av_go (by omega) c2] at h5
      omega
    · rw [if_neg c2]
      by_cases c3 : isD (A b) = true
      · rw [if_pos c3]
        unfold dge
        rw [← av_go (by omega) c3] at h6
        omega
      · rw [if_neg c3]; omega
theorem ns_le (h : b ≤ n) : b ≤ ns A n b ∧ ns A n b ≤ n ∧ (b < n → b < ns A n b) := by
  have h1 := en_le (A := A) h
  have h2 := av_ge (P := isS) (A := A) (n := n) (p := en A n b)
  have h3 := av_le (P := isS) (A := A) h1.2.1
  unfold ns sk
  omega
/-- behind a word that isn't the end -/
theorem ns_lt (h : b ≤ n) (hw : wd A n b ≠ 20) : b < ns A n b ∧ ns A n b ≤ n := by
  have h1 := ns_le (A := A) h
  have h2 := wd_20 (A := A) (n := n) (b := b)
  have : ¬ n ≤ b := fun z => hw (h2.mpr z)
  omega
theorem vl_b : 0 ≤ vl A n b ∧ vl A n b ≤ 9999 := by
  refine nvn_b _ b 0 (fun i i0 i1 => ?_) (Int.le_refl b) (Int.le_refl 0) (Or.inl ⟨by omega, rfl⟩)
  have h3 := av_ge (P := isD) (A := A) (n := n) (p := b)
  have := av_in (P := isD) (A := A) (n := n) (p := b) i0 (by unfold dge at i1; omega)
  exact of_decide_eq_true this
end
