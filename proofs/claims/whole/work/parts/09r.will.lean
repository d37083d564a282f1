/-! WHAT THE RULES TELL a piece
-/
def fct (I : Nat → Int → Int) (k : Int) : Nat → Int → Int := up (up (up (up (up I 14 0 (I 1 11)) 14 1 (I 4 k)) 14 2 (gr I k)) 14 3 (I 1 14)) 14 4 k
theorem fct_o {I : Nat → Int → Int} {k b : Int} {a : Nat} (h : a ≠ 14) : fct I k a b = I a b := by
  unfold fct
  rw [up_o h, up_o h, up_o h, up_o h, up_o h]
theorem hok_eq {I I' : Nat → Int → Int} (h : ∀ b, I' 13 b = I 13 b) : ∀ (n : Nat) (i : Int) (k : Nat), hok I' n i k = hok I n i k
  | 0, _, _ => rfl
  | n + 1, i, k => by
    unfold hok
    rw [h, hok_eq h, hok_eq h, hok_eq h]
theorem rok_fct {I : Nat → Int → Int} {k : Int} (h : rok I) : rok (fct I k) := by
  have e : ∀ i, rfr (fct I k) i = rfr I i := fun i => by
    unfold rfr
    rw [fct_o (by decide)]
  refine ⟨by rw [fct_o (by decide)]; exact h.1, fun i h0 h1 => ?_⟩
  rw [fct_o (by decide)] at h1
  rw [e, fct_o (by decide), fct_o (by decide), fct_o (by decide), hok_eq (fun b => fct_o (by decide))]
  exact h.2 i h0 h1
def will (I : Nat → Int → Int) (k : Int) : Int := tel (fct I k) (I 2 k) (I 9 5).toNat 0
section
variable {X : e_X} {d : Nat} {I J : Nat → Int → Int}
theorem fct_rg (h : inv I) (hy : I 1 11 ≤ 16) {k : Int} (hk : 0 ≤ k ∧ k < I 1 9) : ∀ i, 0 ≤ i ∧ i < 5 → rg (fct I k 14 i) := by
  have hg := gr_b h hk
  obtain ⟨h1, h2, h3, h4, h5, h6, h7, h8, h9⟩ := h
  obtain ⟨k1, k2, k3, k4⟩ := h7 k hk.1 hk.2
  intro i hi
  unfold fct
  simp only [up_row]
  (repeat' split) <;> (constructor <;> omega)
theorem t_will (h : inv I) (hR : rok I) (hy : I 1 11 ≤ 16) {k : Int} (hk : 0 ≤ k ∧ k < I 1 9) : s_S X (d + 4) 73 [.ref 1, .int (iI k)] (mm I J) = some ([.int (iI (will I k))], mm (fct I k) J) := by
  have hf := fct_rg h hy hk
  obtain ⟨h1, h2, h3, h4, h5, h6, h7, h8, h9⟩ := id h
  obtain ⟨k1, k2, k3, k4⟩ := h7 k hk.1 hk.2
  have e1 := l_tel (X := X) (d := d) (I := fct I k) (J := J) hf (rok_fct hR) (kd := I 2 k) (by omega)
  rw [fct_o (by decide)] at e1
  have g1 : gr (up (up I 14 0 (I 1 11)) 14 1 (I 4 k)) k = gr I k := by
    unfold gr
    simp only [up_o (show (2 : Nat) ≠ 14 by decide), up_o (show (6 : Nat) ≠ 14 by decide), up_o (show (5 : Nat) ≠ 14 by decide)]
  have hi : inv (up (up I 14 0 (I 1 11)) 14 1 (I 4 k)) := by
    unfold inv
    simp only [up_o (show (1 : Nat) ≠ 14 by decide), up_o (show (2 : Nat) ≠ 14 by decide), up_o (show (3 : Nat) ≠ 14 by decide), up_o (show (4 : Nat) ≠ 14 by decide), up_o (show (5 : Nat) ≠ 14 by decide), up_o (show (6 : Nat) ≠ 14 by decide), up_o (show (7 : Nat) ≠ 14 by decide), up_o (show (8 : Nat) ≠ 14 by decide)]
    exact h
  have e2 := t_gri (X := X) (d := d + 2) (J := J) hi (k := k) (by rw [up_o (by decide), up_o (by decide)]; exact hk)
  rw [g1] at e2
  have u1 : ∀ (M : Nat → Int → Int) (z v b : Int), up M 14 z v 1 b = M 1 b := fun M z v b => up_o (by decide)
  have u2 : ∀ (M : Nat → Int → Int) (z v b : Int), up M 14 z v 2 b = M 2 b := fun M z v b => up_o (by decide)
  have u4 : ∀ (M : Nat → Int → Int) (z v b : Int), up M 14 z v 4 b = M 4 b := fun M z v b => up_o (by decide)
  unfold fct at e1
  simp (disch := omega) only [v_73_1, u_73_0, x_aload0, k_1_7, k_9_4, x_sipush, f_1_11, k_1_2, x_iload1, x_call2_0, x_call2_1, x_call2_2, x_call2_3, x_call2_4, e_k_s, e_k_i, List.nil_append, List.cons_append, f_1_14, k_1_0, x_ireturn, ia_2, is_2, ia_4, is_4, ia_14, is_14, u1, u2, u4, e2, e1, b01_0, ite_not, if_true, if_false, Int.reduceLT, Int.reduceEq]
  rfl
end
