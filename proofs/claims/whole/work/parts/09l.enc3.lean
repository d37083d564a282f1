/-! AND on the row of bits -/
theorem l2_dec : (List.range 64).all (fun i => decide ((lI (-2)).toBitVec.getLsbD i = decide (i ≠ 0))) = true := by decide +kernel
theorem enc_and {s : List Bool} {a b : Bool} (h : s.length ≤ 58) : lI ((enc (a :: s) : Nat) : Int) &&& (lI ((enc (b :: a :: s) : Nat) : Int) ||| lI (-2)) = lI ((enc ((a && b) :: s) : Nat) : Int) := by
  apply Int64.toBitVec_inj.mp
  rw [Int64.toBitVec_and, Int64.toBitVec_or, lN_bv, lN_bv, lN_bv]
  apply BitVec.eq_of_getLsbD_eq
  intro i hi
  have h2 := of_decide_eq_true (List.all_eq_true.mp l2_dec i (List.mem_range.mpr hi))
  rw [BitVec.getLsbD_and, BitVec.getLsbD_or, h2, BitVec.getLsbD_ofNat, BitVec.getLsbD_ofNat, BitVec.getLsbD_ofNat, decide_eq_true hi, Bool.true_and, Bool.true_and, Bool.true_and]
  show ((2 * enc s + a.toNat).testBit i && ((2 * enc (a :: s) + b.toNat).testBit i || decide (i ≠ 0))) = (2 * enc s + (a && b).toNat).testBit i
  have d1 : ∀ c : Bool, (2 * enc s + c.toNat) / 2 = enc s := fun c => by have := Bool.toNat_le c; omega
  cases i with
  | zero => cases a <;> cases b <;> simp [Nat.testBit_zero]
  | succ i =>
    rw [Nat.testBit_succ, Nat.testBit_succ (2 * enc s + (a && b).toNat), d1, d1]
    simp
