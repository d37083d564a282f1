/-! WHETHER A RULE'S CODE HOLDS: its loop, on a row of bits -/
theorem enc_push {s : List Bool} (h : s.length ≤ 58) (b : Bool) : lI ((enc s : Nat) : Int) <<< ((iI 1).toInt64 &&& 63) ||| lI (if b = true then 1 else 0) = lI ((enc (b :: s) : Nat) : Int) := by
  have hb := enc_62 (s := s) (by omega)
  have e := lN_shl (a := enc s) (k := 1) (by decide) (by omega)
  simp only [Int.cast_ofNat_Int] at e
  have e1 : (if b = true then (1 : Int) else 0) = ((b.toNat : Nat) : Int) := by cases b <;> rfl
  have b1 : b.toNat ≤ 1 := Bool.toNat_le b
  rw [e, e1, lN_or (by omega) (by omega)]
  congr 2
  show enc s * 2 ^ 1 ||| b.toNat = 2 * enc s + b.toNat
  rw [← Nat.shiftLeft_eq, ← Nat.shiftLeft_add_eq_or_of_lt (by omega), Nat.shiftLeft_eq]
  omega
/-- a part of the code that is a comparison: sign, left, right -/
def isC (p : Int) : Prop := ∃ s l r : Int, (s = 0 ∨ s = 1 ∨ s = 2) ∧ (0 ≤ l ∧ l < 16384) ∧ (0 ≤ r ∧ r < 16384) ∧ p = r + l * 2 ^ 14 + s * 2 ^ 28
/-- what a comparison says -/
def cmb (I : Nat → Int → Int) (p : Int) : Bool := decide (cmpv (p / 2 ^ 28) (fv I (p / 2 ^ 14 % 2 ^ 14)) (fv I (p % 2 ^ 14)))
/-- one part of the code on a row of bits -/
def hst (I : Nat → Int → Int) (p : Int) (s : List Bool) : List Bool :=
  if p = -1 then (match s with
    | b :: t => (!b) :: t
    | t => t)
  else if p = -2 then (match s with
    | b :: a :: t => (a && b) :: t
    | t => t)
  else if p = -3 then (match s with
    | b :: a :: t => (a || b) :: t
    | t => t)
  else cmb I p :: s
/-- n parts from i on -/
def hrn (I : Nat → Int → Int) : Nat → Int → List Bool → List Bool
  | 0, _, s => s
  | n + 1, i, s => hrn I n (i + 1) (hst I (I 13 i) s)
/-- they fit, from a row of so many bits on -/
def hok (I : Nat → Int → Int) : Nat → Int → Nat → Prop
  | 0, _, k => k ≤ 58
  | n + 1, i, k => k ≤ 58 ∧ ((I 13 i = -1 ∧ 1 ≤ k ∧ hok I n (i + 1) k) ∨ ((I 13 i = -2 ∨ I 13 i = -3) ∧ 2 ≤ k ∧ hok I n (i + 1) (k - 1)) ∨ (isC (I 13 i) ∧ hok I n (i + 1) (k + 1)))
section
variable {X : e_X} {d : Nat} {I J : Nat → Int → Int}
theorem l_cmb {p : Int} (hp : isC p) (hf : ∀ i, 0 ≤ i ∧ i < 5 → rg (I 14 i)) : s_S X (d + 1) 11 [.ref 9, .int (iI p)] (mm I J) = some ([.int (iI (if cmb I p = true then 1 else 0))], mm I J) := by
  obtain ⟨s, l, r, hs, hl, hr, rfl⟩ := hp
  have q1 : (r + l * 2 ^ 14 + s * 2 ^ 28) / 2 ^ 14 % 2 ^ 14 = l := by omega
  have q3 : (r + l * 2 ^ 14 + s * 2 ^ 28) / 2 ^ 28 = s := by omega
  have q2 : (r + l * 2 ^ 14 + s * 2 ^ 28) % 2 ^ 14 = r := by omega
  rw [l_cmp hs hl hr hf]
  unfold cmb
  rw [q1, q2, q3]
  simp only [decide_eq_true_eq]
end
