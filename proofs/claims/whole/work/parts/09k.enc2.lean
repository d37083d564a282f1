/-! AND, OR on the row of bits -/
theorem lI_all : lI (-1) = Int64.ofBitVec (BitVec.allOnes 64) ∧ lI (-2) = Int64.ofBitVec (BitVec.allOnes 64 - 1#64) := by decide
theorem enc_shr {s : List Bool} {b : Bool} (h : s.length ≤ 59) : ((lI ((enc (b :: s) : Nat) : Int)).toUInt64 >>> ((iI 1).toInt64.toUInt64 &&& Int64.toUInt64 63)).toInt64 = lI ((enc s : Nat) : Int) := by
  have hb := enc_62 (s := b :: s) (by rw [List.length_cons]; omega)
  have e := lN_ushr (a := enc (b :: s)) (k := 1) (by decide) (by omega)
  simp only [Int.cast_ofNat_Int] at e
  rw [e]
  congr 2
  show (2 * enc s + b.toNat) / 2 ^ 1 = enc s
  have : b.toNat ≤ 1 := Bool.toNat_le b
  omega
/-- OR -/
theorem enc_or {s : List Bool} {a b : Bool} (h : s.length ≤ 58) : lI ((enc (a :: s) : Nat) : Int) ||| (lI ((enc (b :: a :: s) : Nat) : Int) &&& lI 1) = lI ((enc ((a || b) :: s) : Nat) : Int) := by
  have hb := enc_62 (s := b :: a :: s) (by rw [List.length_cons, List.length_cons]; omega)
  have ha := enc_62 (s := a :: s) (by rw [List.length_cons]; omega)
  have e : lI 1 = lI ((1 : Nat) : Int) := rfl
  have b1 : b.toNat ≤ 1 := Bool.toNat_le b
  rw [e, lN_and (by omega) (by decide), Nat.and_one_is_mod]
  have m : enc (b :: a :: s) % 2 = b.toNat := by
    conv => lhs; unfold enc
    omega
  rw [m, lN_or (by omega) (by omega)]
  congr 2
  show 2 * enc s + a.toNat ||| b.toNat = 2 * enc s + (a || b).toNat
  apply Nat.eq_of_testBit_eq
  intro i
  have d1 : ∀ c : Bool, (2 * enc s + c.toNat) / 2 = enc s := fun c => by have := Bool.toNat_le c; omega
  cases i with
  | zero => cases a <;> cases b <;> simp [Nat.testBit_zero]
  | succ i =>
    rw [Nat.testBit_or, Nat.testBit_succ, Nat.testBit_succ, Nat.testBit_succ, d1, d1, show b.toNat / 2 = 0 by omega, Nat.zero_testBit, Bool.or_false]
