/-! THE TABLE of the class: its numbers lie in the cells 1 .. 19 of a memory I
-/
theorem b01_0 {p : Prop} [Decidable p] : ((if p then (1 : Int) else 0) = 0) = ¬ p := by
  by_cases h : p <;> simp [h]
/-- what holds of a table at rest -/
def inv (I : Nat → Int → Int) : Prop := (0 ≤ I 1 9 ∧ I 1 9 ≤ 6) ∧ (0 ≤ I 1 10 ∧ I 1 10 < 2 ^ (I 1 9).toNat) ∧ (0 ≤ I 1 11 ∧ I 1 11 ≤ I 1 12) ∧ (1 ≤ I 1 12 ∧ I 1 12 ≤ 16) ∧ (0 ≤ I 1 14 ∧ I 1 14 ≤ 9) ∧ (0 ≤ I 1 15 ∧ I 1 15 ≤ 40) ∧
  (∀ k, 0 ≤ k → k < I 1 9 → (1 ≤ I 2 k ∧ I 2 k ≤ 5) ∧ (0 ≤ I 3 k ∧ I 3 k ≤ 39) ∧ (0 ≤ I 4 k ∧ I 4 k ≤ 9) ∧ (0 ≤ I 5 k ∧ I 5 k ≤ 5)) ∧
  (∀ g, 0 ≤ g → g < 6 → (0 ≤ I 6 g ∧ I 6 g ≤ 9) ∧ (0 ≤ I 7 g ∧ I 7 g ≤ 9)) ∧ (∀ y, 0 ≤ y → y < 16 → 0 ≤ I 8 y ∧ I 8 y ≤ 15)
theorem pw_6 {n : Int} (h : 0 ≤ n ∧ n ≤ 6) : (2 : Int) ^ n.toNat ≤ 64 := by
  obtain ⟨m, rfl⟩ := Int.eq_ofNat_of_zero_le h.1
  have : m = 0 ∨ m = 1 ∨ m = 2 ∨ m = 3 ∨ m = 4 ∨ m = 5 ∨ m = 6 := by omega
  rcases this with rfl | rfl | rfl | rfl | rfl | rfl | rfl <;> decide
theorem inv_s {I : Nat → Int → Int} (h : inv I) : 0 ≤ I 1 10 ∧ I 1 10 < 64 := ⟨h.2.1.1, Int.lt_of_lt_of_le h.2.1.2 (pw_6 h.1)⟩
def gr (I : Nat → Int → Int) (k : Int) : Int := grd (I 2 k) (I 6 (I 5 k)) k
abbrev wsit (I : Nat → Int → Int) (k : Int) : Prop := ¬ bt (I 1 10) k = 1 ∧ gr I k ≤ I 1 14 + I 7 (I 5 k)
def nws (I : Nat → Int → Int) (y : Int) : Int := if 0 ≤ y ∧ y ≤ 15 then I 8 y else 0
def yet (I : Nat → Int → Int) (m : Int) : Int := max 0 (min m (I 1 12 - I 1 11))
theorem grd_b {kd an k : Int} (ha : 0 ≤ an ∧ an ≤ 9) (hk : 0 ≤ k ∧ k < 6) : 0 ≤ grd kd an k ∧ grd kd an k ≤ 14 := by
  unfold grd
  (repeat' split) <;> omega
section
variable {X : e_X} {d : Nat} {I J : Nat → Int → Int}
theorem t_gri (h : inv I) {k : Int} (hk : 0 ≤ k ∧ k < I 1 9) : s_S X (d + 1) 71 [.ref 1, .int (iI k)] (mm I J) = some ([.int (iI (gr I k))], mm I J) := by
  obtain ⟨h1, h2, h3, h4, h5, h6, h7, h8, h9⟩ := h
  obtain ⟨k1, k2, k3, k4⟩ := h7 k hk.1 hk.2
  have k5 := h8 (I 5 k) k4.1 (by omega)
  exact t_gr (by omega) rfl ⟨by omega, by omega⟩ rfl (by omega) rfl k5.1
theorem gr_b (h : inv I) {k : Int} (hk : 0 ≤ k ∧ k < I 1 9) : 0 ≤ gr I k ∧ gr I k ≤ 14 := by
  obtain ⟨h1, h2, h3, h4, h5, h6, h7, h8, h9⟩ := h
  obtain ⟨k1, k2, k3, k4⟩ := h7 k hk.1 hk.2
  have k5 := h8 (I 5 k) k4.1 (by omega)
  exact grd_b k5.1 (by omega)
theorem t_would (h : inv I) {k : Int} (hk : 0 ≤ k ∧ k < I 1 9) : s_S X (d + 2) 72 [.ref 1, .int (iI k)] (mm I J) = some ([.int (iI (if wsit I k then 1 else 0))], mm I J) := by
  have hg := gr_b h hk
  have e1 := t_gri (X := X) (d := d) (J := J) h hk
  have hs := inv_s h
  obtain ⟨h1, h2, h3, h4, h5, h6, h7, h8, h9⟩ := h
  obtain ⟨k1, k2, k3, k4⟩ := h7 k hk.1 hk.2
  have k5 := h8 (I 5 k) k4.1 (by omega)
  have e2 := t_seat (X := X) (d := d) (I := I) (J := J) (s := I 1 10) (k := k) rfl hs (by omega)
  simp (disch := omega) only [v_72_1, u_72_0, x_aload0, x_iload1, x_call2_0, x_call2_1, x_call2_2, x_call2_3, x_call2_4, e_k_s, e_k_i, List.nil_append, List.cons_append, x_ifCond_ne, x_ifCond_neb, f_1_14, k_1_5, k_1_3, x_iadd, x_if_icmp_gt, x_sipush, x_goto, u_72_36, x_jsr, u_72_37, x_zret0, x_zret1, x_zretb, ia_5, ia_7, e1, e2, b01_0]
  (repeat' split) <;> first | rfl | (exfalso; omega)
theorem t_news (h : inv I) {y : Int} (hy : rg y) : s_S X (d + 2) 77 [.ref 1, .int (iI y)] (mm I J) = some ([.int (iI (nws I y))], mm I J) := by
  have e1 := b_out (X := X) (d := d) (I := I) (J := J) hy (a := 0) (b := 15) (by decide) (by decide)
  unfold nws
  (repeat' (first | simp (disch := omega) only [v_77_1, u_77_0, x_iload1, x_sipush, x_call3_0, x_call3_1, x_call3_2, x_call3_3, x_call3_4, e_k_s, e_k_i, List.nil_append, List.cons_append, x_ifCond_eq, x_ifCond_eqb, x_goto, u_77_14, x_aload0, k_1_6, x_jsr, u_77_20, x_ireturn, ia_8, e1, b01_0] | split)) <;> first | rfl | (exfalso; omega)
theorem t_yet {m : Int} (hm : rg m) (h1 : 0 ≤ I 1 11 ∧ I 1 11 ≤ 16) (h2 : 1 ≤ I 1 12 ∧ I 1 12 ≤ 16) : s_S X (d + 1) 86 [.ref 1, .int (iI m)] (mm I J) = some ([.int (iI (yet I m))], mm I J) := by
  simp (disch := omega) only [v_86_1, u_86_0, x_sipush, x_iload1, x_aload0, f_1_12, f_1_11, x_isub, x_dsub_0, x_dsub_1, x_dsub_2, x_dsub_3, x_dsub_4, x_dadd_0, x_dadd_1, x_dadd_2, x_dadd_3, x_dadd_4, x_ireturn, b01_0]
  rfl
end
