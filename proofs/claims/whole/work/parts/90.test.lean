theorem iI_cl {z : Int} (h : 0 ≤ z ∧ z < 2147483648) : (iI z).toNatClampNeg = z.toNat := by
  obtain ⟨n, rfl⟩ := Int.eq_ofNat_of_zero_le h.1
  show (nI n).toNatClampNeg = _
  rw [nI_clamp (by omega)]
  simp
theorem iI_toInt {z : Int} (h : -2147483648 ≤ z ∧ z < 2147483648) : (iI z).toInt = z := Int32.toInt_ofInt_of_le (by simpa using h.1) (by simpa using h.2)
theorem iI_add (a b : Int) : iI a + iI b = iI (a + b) := (Int32.ofInt_add a b).symm
theorem iI_lt {a b : Int} (h : -2147483648 ≤ a ∧ a < 2147483648 ∧ -2147483648 ≤ b ∧ b < 2147483648) : (iI a < iI b) = (a < b) := by
  rw [Int32.lt_iff_toInt_lt, iI_toInt (by omega), iI_toInt (by omega)]
theorem e_in_iI {z : Int} {n : Nat} (h : 0 ≤ z ∧ z < n ∧ n < 2147483648) : e_in (iI z) n = true := by
  have := iI_cl (z := z) (by omega)
  simp only [e_in, this, Bool.not_eq_true', Bool.or_eq_false_iff, decide_eq_false_iff_not]
  refine ⟨?_, by omega⟩
  show ¬ iI z < iI 0
  rw [iI_lt (by omega)]
  omega
set_option maxHeartbeats 400000 in
theorem sp_grudge {X : e_X} {d : Nat} {ci cj} {k hm an kd : Nat} (hk : k < 6) (h0 : ci 2 k = iI kd) (hkd : kd < 6) (h1 : ci 5 k = iI hm) (hm6 : hm < 6) (h2 : ci 6 hm = iI an) (han : an < 10) :
   s_S X (d + 1) 71 [.ref 1, .int (iI k)] (h_K, ci, cj, h_R) = some ([.int (iI (if kd = 1 then an + 2 else an))], (h_K, ci, cj, h_R)) := by
  simp (disch := omega) only [v_71, u_71_0, x_aload0, x_getref, x_iload1, x_iaload, x_istore2i, x_switch, o_1_512, o_1_515, o_1_516, if_true, Nat.reduceMod, r_1_0, r_1_3, r_1_4, e_rf_s, a_2, a_5, a_6, e_in_iI, iI_cl, Int.toNat_natCast, h0, h1, h2, e_sw_c, e_sw_n, iI_toInt]
  trace_state
  sorry
