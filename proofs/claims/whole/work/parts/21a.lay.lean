/-! LAYING DOWN and back, in the model -/
def b72 (M : Nat → Int → Int) (L : Int → Int) : Nat → Int → Int := fun o k => if o = 72 then L k else M o k
theorem b72_o {M : Nat → Int → Int} {L : Int → Int} {o : Nat} (h : o ≠ 72) : b72 M L o = M o := by
  funext k
  exact if_neg h
/-- a row copied, i of its cells -/
def cpo (I : Nat → Int → Int) (src : Nat) (so : Int) (dst : Nat) (d0 i : Int) : Nat → Int → Int := fun o k => if o = dst ∧ d0 ≤ k ∧ k < d0 + i then I src (k - d0 + so) else I o k
theorem cpo_s {I : Nat → Int → Int} {src dst : Nat} {so d0 i x y : Int} (h0 : 0 ≤ i) (hx : x = d0 + i) (hy : y = so + i) : up (cpo I src so dst d0 i) dst x (I src y) = cpo I src so dst d0 (i + 1) := by
  subst hx
  subst hy
  funext o k
  unfold up cpo
  by_cases h1 : o = dst
  · by_cases h2 : k = d0 + i
    · rw [if_pos ⟨h1, h2⟩, if_pos ⟨h1, by omega, by omega⟩, h2, show d0 + i - d0 + so = so + i by omega]
    · rw [if_neg (fun z => h2 z.2)]
      by_cases h3 : d0 ≤ k ∧ k < d0 + i
      · rw [if_pos ⟨h1, h3⟩, if_pos ⟨h1, by omega, by omega⟩]
      · rw [if_neg (fun z => h3 z.2), if_neg (fun z => h3 ⟨z.2.1, by omega⟩)]
  · rw [if_neg (fun z => h1 z.1), if_neg (fun z => h1 z.1), if_neg (fun z => h1 z.1)]
theorem cpo_r {I : Nat → Int → Int} {src dst o : Nat} {so d0 i k : Int} (h : o ≠ dst) : cpo I src so dst d0 i o k = I o k := if_neg (fun z => h z.1)
theorem cpo_0 {I : Nat → Int → Int} {src dst : Nat} {so d0 : Int} : cpo I src so dst d0 0 = I := by
  funext o k
  exact if_neg (by omega)
section
variable {X : e_X} {d : Nat} {I J M : Nat → Int → Int}
theorem m_ld1 (I0 : Nat → Int → Int) : ∀ (n : Nat) (i : Int), 0 ≤ i → i + n = 74 → s_j X d 230 2 [.ref 69, .int (iI i)] [] (mm (cpo I0 70 0 72 0 i) J) = some ([], mm (cpo I0 70 0 72 0 74) J) := by
  intro n
  induction n with
  | zero =>
    intro i h0 hn
    rw [u_230_2, show i = 74 by omega]
    simp (disch := omega) only [v_230_69, u_230_0, x_sipush, x_istore1i, x_istore1r, x_istore1u, x_jsr, x_iload1, x_if_icmp_ge, x_aload0, k_69_2, k_69_0, x_iinc1i, x_iinc1r, x_iinc1u, x_goto, u_230_26, x_return, ia_70, is_70, ia_72, is_72, b01_0, ite_not, if_true, if_false, Int.reduceLT, Int.reduceEq]
  | succ n ih =>
    intro i h0 hn
    have e := ih (i + 1) (by omega) (by omega)
    have q := cpo_s (I := I0) (src := 70) (dst := 72) (so := 0) (d0 := 0) (i := i) (x := i) (y := i) h0 (by omega) (by omega)
    have r : cpo I0 70 0 72 0 i 70 i = I0 70 i := cpo_r (by decide)
    rw [← e, u_230_2]
    simp (disch := omega) only [v_230_69, u_230_0, x_sipush, x_istore1i, x_istore1r, x_istore1u, x_jsr, x_iload1, x_if_icmp_ge, x_aload0, k_69_2, k_69_0, x_iinc1i, x_iinc1r, x_iinc1u, x_goto, u_230_26, x_return, ia_70, is_70, ia_72, is_72, r, q, b01_0, ite_not, if_true, if_false, Int.reduceLT, Int.reduceEq]
    rw [if_pos (by omega)]
theorem m_ldr : s_S X (d + 1) 230 [.ref 69] (mm I J) = some ([], mm (cpo I 70 0 72 0 74) J) := by
  have e := m_ld1 (X := X) (d := d) (J := J) I 74 0 (by decide) (by decide)
  rw [cpo_0] at e
  simp (disch := omega) only [v_230_69, u_230_0, x_sipush, x_istore1i, x_istore1r, x_istore1u, x_jsr, x_iload1, x_if_icmp_ge, x_aload0, k_69_2, k_69_0, x_iinc1i, x_iinc1r, x_iinc1u, x_goto, u_230_26, x_return, ia_70, is_70, ia_72, is_72, e, b01_0, ite_not, if_true, if_false, Int.reduceLT, Int.reduceEq]
theorem m_lb1 (I0 : Nat → Int → Int) : ∀ (n : Nat) (i : Int), 0 ≤ i → i + n = 74 → s_j X d 232 2 [.ref 69, .int (iI i)] [] (mm (cpo I0 72 0 70 0 i) J) = some ([], mm (cpo I0 72 0 70 0 74) J) := by
  intro n
  induction n with
  | zero =>
    intro i h0 hn
    rw [u_232_2, show i = 74 by omega]
    simp (disch := omega) only [v_232_69, u_232_0, x_sipush, x_istore1i, x_istore1r, x_istore1u, x_jsr, x_iload1, x_if_icmp_ge, x_aload0, k_69_0, k_69_2, x_iinc1i, x_iinc1r, x_iinc1u, x_goto, u_232_26, x_return, ia_70, is_70, ia_72, is_72, b01_0, ite_not, if_true, if_false, Int.reduceLT, Int.reduceEq]
  | succ n ih =>
    intro i h0 hn
    have e := ih (i + 1) (by omega) (by omega)
    have q := cpo_s (I := I0) (src := 72) (dst := 70) (so := 0) (d0 := 0) (i := i) (x := i) (y := i) h0 (by omega) (by omega)
    have r : cpo I0 72 0 70 0 i 72 i = I0 72 i := cpo_r (by decide)
    rw [← e, u_232_2]
    simp (disch := omega) only [v_232_69, u_232_0, x_sipush, x_istore1i, x_istore1r, x_istore1u, x_jsr, x_iload1, x_if_icmp_ge, x_aload0, k_69_0, k_69_2, x_iinc1i, x_iinc1r, x_iinc1u, x_goto, u_232_26, x_return, ia_70, is_70, ia_72, is_72, r, q, b01_0, ite_not, if_true, if_false, Int.reduceLT, Int.reduceEq]
    rw [if_pos (by omega)]
theorem m_lbr : s_S X (d + 1) 232 [.ref 69] (mm I J) = some ([], mm (cpo I 72 0 70 0 74) J) := by
  have e := m_lb1 (X := X) (d := d) (J := J) I 74 0 (by decide) (by decide)
  rw [cpo_0] at e
  simp (disch := omega) only [v_232_69, u_232_0, x_sipush, x_istore1i, x_istore1r, x_istore1u, x_jsr, x_iload1, x_if_icmp_ge, x_aload0, k_69_0, k_69_2, x_iinc1i, x_iinc1r, x_iinc1u, x_goto, u_232_26, x_return, ia_70, is_70, ia_72, is_72, e, b01_0, ite_not, if_true, if_false, Int.reduceLT, Int.reduceEq]
/-- what is laid down -/
def lyd (M : Nat → Int → Int) (T : Int → Int) (k : Int) : Int := if 0 ≤ k ∧ k < 74 then T k else M 72 k
theorem m_ld {n : Int} {c : co} {sc : Int} {P : Int → Int} : s_S X (d + 1) 230 [.ref 69] (mm (mk M n c sc P) J) = some ([], mm (mk (b72 M (lyd M (mk M n c sc P 70))) n c sc P) J) := by
  rw [m_ldr]
  congr 3
  funext o k
  by_cases h1 : o = 72
  · subst h1
    rw [mk_o (by decide) (by decide)]
    unfold cpo b72 lyd
    by_cases h2 : 0 ≤ k ∧ k < 74
    · rw [if_pos ⟨rfl, h2⟩, if_pos rfl, if_pos h2, show k - 0 + 0 = k by omega]
    · rw [if_neg (fun z => h2 z.2), if_pos rfl, if_neg h2, mk_o (by decide) (by decide)]
  · rw [cpo, if_neg (fun z => h1 z.1)]
    unfold mk
    rw [b72_o (show (70 : Nat) ≠ 72 by decide), b72_o h1]
theorem m_lb {M' : Nat → Int → Int} {L : Int → Int} {n : Int} (hn : n ≤ 6) {c c' : co} {sc sc' : Int} {P P' : Int → Int} (hL : ∀ k, 0 ≤ k → k < 74 → L k = mk M n c sc P 70 k) (hM : ∀ o k, ¬ (o = 70 ∧ 0 ≤ k ∧ k < 74) → M' o k = M o k) : s_S X (d + 1) 232 [.ref 69] (mm (mk (b72 M' L) n c' sc' P') J) = some ([], mm (mk (b72 M L) n c sc P') J) := by
  rw [m_lbr]
  congr 3
  funext o k
  by_cases h1 : o = 70
  · subst h1
    by_cases h2 : 0 ≤ k ∧ k < 74
    · rw [cpo, if_pos ⟨rfl, by omega, by omega⟩, mk_o (by decide) (by decide), show k - 0 + 0 = k by omega]
      show (if (72 : Nat) = 72 then L k else _) = _
      rw [if_pos rfl, hL k h2.1 h2.2]
      unfold mk
      rw [b72_o (show (70 : Nat) ≠ 72 by decide)]
      rfl
    · rw [cpo, if_neg (fun z => h2 ⟨z.2.1, by omega⟩), mk_r (by omega), mk_r (by omega), b72_o (by decide), b72_o (by decide)]
      exact hM 70 k (fun z => h2 z.2)
  · rw [cpo, if_neg (fun z => h1 z.1)]
    unfold mk b72
    rw [if_neg h1, if_neg h1, hM o k (fun z => h1 z.1)]
end
