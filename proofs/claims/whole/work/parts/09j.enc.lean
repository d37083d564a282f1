/-! A ROW OF BITS in a long: the 1 at first, then each
-/
def enc : List Bool → Nat
  | [] => 1
  | b :: s => 2 * enc s + b.toNat
theorem enc_b : ∀ s : List Bool, 0 < enc s ∧ enc s < 2 ^ (s.length + 1)
  | [] => by decide
  | b :: s => by
    have h := enc_b s
    have e : 2 ^ ((b :: s).length + 1) = 2 * 2 ^ (s.length + 1) := by rw [List.length_cons, Nat.pow_succ (n := 2) (m := s.length + 1), Nat.mul_comm]
    unfold enc
    rw [e]
    cases b <;> simp only [Bool.toNat_false, Bool.toNat_true] <;> omega
theorem enc_62 {s : List Bool} (h : s.length ≤ 60) : enc s < 2 ^ 61 := Nat.lt_of_lt_of_le (enc_b s).2 (Nat.pow_le_pow_right (by decide) (by omega))
theorem lN_xor1 {a : Nat} (h : a < 2 ^ 62) (b : Bool) : lI ((2 * a + b.toNat : Nat) : Int) ^^^ lI 1 = lI ((2 * a + (!b).toNat : Nat) : Int) := by
  have e : lI 1 = lI ((1 : Nat) : Int) := rfl
  rw [e]
  apply Int64.toBitVec_inj.mp
  rw [Int64.toBitVec_xor, lN_bv, lN_bv, lN_bv]
  apply BitVec.eq_of_toNat_eq
  have hb : b.toNat ≤ 1 := Bool.toNat_le b
  have hb2 : (!b).toNat ≤ 1 := Bool.toNat_le _
  rw [BitVec.toNat_xor, BitVec.toNat_ofNat, BitVec.toNat_ofNat, BitVec.toNat_ofNat, Nat.mod_eq_of_lt (by omega), Nat.mod_eq_of_lt (by omega), Nat.mod_eq_of_lt (by omega)]
  apply Nat.eq_of_testBit_eq
  intro i
  cases i with
  | zero => cases b <;> simp [Nat.testBit_zero]
  | succ i =>
    have d1 : (2 * a + b.toNat) / 2 = a := by omega
    have d2 : (2 * a + (!b).toNat) / 2 = a := by omega
    rw [Nat.testBit_xor, Nat.testBit_succ, Nat.testBit_succ, Nat.testBit_succ, d1, d2]
    show (a.testBit i ^^ (0 : Nat).testBit i) = a.testBit i
    rw [Nat.zero_testBit, Bool.xor_false]
