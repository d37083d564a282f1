/-! PLANS, in the model -/
def mpo (M : Nat → Int → Int) (g : pac) (A S : Int → Int) : Nat → Int → Int := fun o k =>
  if o = 69 then (if k = 21 then g.1 else if k = 22 then g.2.1 else if k = 23 then g.2.2.1 else if k = 24 then g.2.2.2.1 else M 69 k) else if o = 78 then S k else if o = 79 then A k else if o = 80 then g.2.2.2.2 k else M o k
section
variable {M : Nat → Int → Int} {n mo cn fe ev v k sc : Int} {Q A S P : Int → Int} {c : co} {g : pac}
theorem mpo_70 : mpo M g A S 70 = M 70 := rfl
theorem mpo_1 : mk (mpo M (mo, cn, fe, ev, Q) A S) n c sc P 69 21 = mo := rfl
theorem mpo_2 : mk (mpo M (mo, cn, fe, ev, Q) A S) n c sc P 69 22 = cn := rfl
theorem mpo_3 : mk (mpo M (mo, cn, fe, ev, Q) A S) n c sc P 69 23 = fe := rfl
theorem mpo_4 : mk (mpo M (mo, cn, fe, ev, Q) A S) n c sc P 69 24 = ev := rfl
theorem mpo_u (o : Nat) (h1 : o ≠ 70) (h2 : o ≠ 73) : up (mk M n c sc P) o k v = mk (up M o k v) n c sc P := by
  funext a b
  by_cases e : a = 70
  · subst e
    rw [up_o (Ne.symm h1)]
    unfold mk
    rw [if_pos rfl, if_pos rfl, up_o (Ne.symm h1)]
  · by_cases e2 : a = 73
    · subst e2
      rw [up_o (Ne.symm h2)]
      rfl
    · rw [mk_o e e2]
      unfold up
      rw [mk_o e e2]
theorem mpo_u1 : up (mk (mpo M (mo, cn, fe, ev, Q) A S) n c sc P) 69 21 v = mk (mpo M (v, cn, fe, ev, Q) A S) n c sc P := by
  rw [mpo_u 69 (by decide) (by decide)]
  congr 1
  funext o k
  unfold up mpo
  (repeat' split) <;> simp_all
theorem mpo_u2 : up (mk (mpo M (mo, cn, fe, ev, Q) A S) n c sc P) 69 22 v = mk (mpo M (mo, v, fe, ev, Q) A S) n c sc P := by
  rw [mpo_u 69 (by decide) (by decide)]
  congr 1
  funext o k
  unfold up mpo
  (repeat' split) <;> simp_all
theorem mpo_u3 : up (mk (mpo M (mo, cn, fe, ev, Q) A S) n c sc P) 69 23 v = mk (mpo M (mo, cn, v, ev, Q) A S) n c sc P := by
  rw [mpo_u 69 (by decide) (by decide)]
  congr 1
  funext o k
  unfold up mpo
  (repeat' split) <;> simp_all
theorem mpo_u4 : up (mk (mpo M (mo, cn, fe, ev, Q) A S) n c sc P) 69 24 v = mk (mpo M (mo, cn, fe, v, Q) A S) n c sc P := by
  rw [mpo_u 69 (by decide) (by decide)]
  congr 1
  funext o k
  unfold up mpo
  (repeat' split) <;> simp_all
theorem mpo_uA : up (mk (mpo M g A S) n c sc P) 79 k v = mk (mpo M g (upf A k v) S) n c sc P := by
  rw [mpo_u 79 (by decide) (by decide)]
  congr 1
  funext o k
  unfold up mpo upf
  (repeat' split) <;> simp_all
def cpyn (n : Int) (A Q : Int → Int) : Int → Int := fun b => if 0 ≤ b ∧ b < n then A b else Q b
theorem mpo_cp {len : Int} : cpo (mk (mpo M (mo, cn, fe, ev, Q) A S) n c sc P) 79 0 80 0 len = mk (mpo M (mo, cn, fe, ev, cpyn len A Q) A S) n c sc P := by
  funext o k
  by_cases h : o = 80
  · subst h
    rw [mk_o (by decide) (by decide)]
    unfold cpo
    rw [mk_o (by decide) (by decide), mk_o (by decide) (by decide)]
    show (if 80 = 80 ∧ 0 ≤ k ∧ k < 0 + len then A (k - 0 + 0) else Q k) = cpyn len A Q k
    unfold cpyn
    rw [show k - 0 + 0 = k by omega, Int.zero_add]
    by_cases q : 0 ≤ k ∧ k < len
    · rw [if_pos ⟨rfl, q⟩, if_pos q]
    · rw [if_neg (fun z => q z.2), if_neg q]
  · unfold cpo
    rw [if_neg (fun z => h z.1)]
    unfold mk mpo
    (repeat' split) <;> simp_all
/-- a depth's numbers saved -/
def svS (S T : Int → Int) (dep : Int) : Int → Int := fun x => if 74 * dep ≤ x ∧ x < 74 * dep + 74 then T (x - 74 * dep) else S x
theorem mpo_sv {dep : Int} : cpo (mk (mpo M g A S) n c sc P) 70 0 78 (74 * dep) 74 = mk (mpo M g A (svS S (mk M n c sc P 70) dep)) n c sc P := by
  funext o k
  by_cases h : o = 78
  · subst h
    rw [mk_o (by decide) (by decide)]
    unfold cpo
    rw [mk_o (o := 78) (by decide) (by decide)]
    show (if 78 = 78 ∧ 74 * dep ≤ k ∧ k < 74 * dep + 74 then mk (mpo M g A S) n c sc P 70 (k - 74 * dep + 0) else S k) = svS S (mk M n c sc P 70) dep k
    unfold svS
    rw [Int.add_zero]
    by_cases q : 74 * dep ≤ k ∧ k < 74 * dep + 74
    · rw [if_pos ⟨rfl, q⟩, if_pos q]
      rfl
    · rw [if_neg (fun z => q z.2), if_neg q]
  · unfold cpo
    rw [if_neg (fun z => h z.1)]
    unfold mk mpo
    (repeat' split) <;> simp_all
theorem mpo_rs {dep : Int} {c' : co} {sc' : Int} {P' : Int → Int} (hn : n ≤ 6) (hS : ∀ x, 0 ≤ x → x < 74 → S (74 * dep + x) = mk M n c sc P 70 x) : cpo (mk (mpo M g A S) n c' sc' P') 78 (74 * dep) 70 0 74 = mk (mpo M g A S) n c sc P' := by
  funext o k
  by_cases h : o = 70
  · subst h
    unfold cpo
    by_cases q : 0 ≤ k ∧ k < 74
    · rw [if_pos ⟨rfl, q.1, by omega⟩, mk_o (by decide) (by decide)]
      show S (k - 0 + 74 * dep) = _
      rw [show k - 0 + 74 * dep = 74 * dep + k by omega, hS k q.1 q.2]
      rfl
    · rw [if_neg (fun z => q ⟨z.2.1, by omega⟩), mk_r (by omega), mk_r (by omega)]
  · unfold cpo
    rw [if_neg (fun z => h z.1)]
    unfold mk
    rw [if_neg h, if_neg h]
end
def mwg (len wt : Int) (A : Int → Int) (wo to st : Int) (g : pac) : pac :=
  (if g.1 < wo then wo else g.1, if g.1 < wo then 1 else if wo = g.1 then g.2.1 + 1 else g.2.1, if wt - ann wt st = 0 ∧ to < g.2.2.1 then to else g.2.2.1, orr g.2.2.2.1 st, if g.1 < wo then cpyn len A g.2.2.2.2 else g.2.2.2.2)
theorem adn_dec : (List.range 64).all (fun a => (List.range 64).all fun b => decide (iI (a : Nat) &&& (iI (b : Nat) ^^^ iI (-1)) = iI (a - ann a b)) && decide ((a : Int) - ann a b = 0 ↔ ann b a = a)) = true := by decide +kernel
theorem adn_i {a b : Int} (ha : 0 ≤ a ∧ a < 64) (hb : 0 ≤ b ∧ b < 64) : iI a &&& (iI b ^^^ iI (-1)) = iI (a - ann a b) ∧ (a - ann a b = 0 ↔ ann b a = a) := by
  obtain ⟨m, rfl⟩ := Int.eq_ofNat_of_zero_le ha.1
  obtain ⟨n, rfl⟩ := Int.eq_ofNat_of_zero_le hb.1
  have h := List.all_eq_true.mp (List.all_eq_true.mp adn_dec m (List.mem_range.mpr (by omega))) n (List.mem_range.mpr (by omega))
  rw [Bool.and_eq_true] at h
  exact ⟨of_decide_eq_true h.1, of_decide_eq_true h.2⟩
def mst (g : pac) (m : Int) : Prop := (-1 ≤ g.1 ∧ g.1 ≤ 1000) ∧ (0 ≤ g.2.1 ∧ g.2.1 ≤ m) ∧ (0 ≤ g.2.2.1 ∧ g.2.2.1 ≤ 5) ∧ 0 ≤ g.2.2.2.1 ∧ g.2.2.2.1 < 64
theorem mwg_ok {len wt wo to st m : Int} {A : Int → Int} {g : pac} (hg : mst g m) (hm : 0 ≤ m) (hw : 0 ≤ wo ∧ wo ≤ 1000) (ht : 0 ≤ to ∧ to ≤ 4) (hs : 0 ≤ st ∧ st < 64) : mst (mwg len wt A wo to st g) (m + 1) := by
  obtain ⟨g1, g2, g3, g4⟩ := hg
  refine ⟨?_, ?_, ?_, ?_⟩
  · unfold mwg
    dsimp only
    split <;> omega
  · unfold mwg
    dsimp only
    (repeat' split) <;> omega
  · unfold mwg
    dsimp only
    split <;> omega
  · exact orr_b g4 hs
section
variable {X : e_X} {d : Nat} {I J M : Nat → Int → Int}
theorem m_sv1 (I0 : Nat → Int → Int) {dep : Int} (hd : 0 ≤ dep ∧ dep ≤ 4) : ∀ (n : Nat) (i : Int), 0 ≤ i → i + n = 74 → s_j X d 250 2 [.ref 69, .int (iI dep), .int (iI i)] [] (mm (cpo I0 70 0 78 (74 * dep) i) J) = some ([], mm (cpo I0 70 0 78 (74 * dep) 74) J) := by
  intro n
  induction n with
  | zero =>
    intro i h0 hn
    rw [u_250_2, show i = 74 by omega]
    simp (disch := omega) only [v_250_69, u_250_0, x_sipush, x_istore2i, x_istore2r, x_istore2u, x_jsr, x_iload2, x_if_icmp_ge, x_aload0, k_69_18, x_iload1, x_imul, x_iadd, k_69_0, x_iinc2i, x_iinc2r, x_iinc2u, x_goto, u_250_31, x_return, ia_70, is_70, ia_78, is_78, b01_0, ite_not, if_true, if_false, Int.reduceLT, Int.reduceEq]
  | succ n ih =>
    intro i h0 hn
    have e := ih (i + 1) (by omega) (by omega)
    have q := cpo_s (I := I0) (src := 70) (dst := 78) (so := 0) (d0 := 74 * dep) (i := i) (x := 74 * dep + i) (y := i) h0 (by omega) (by omega)
    have r : cpo I0 70 0 78 (74 * dep) i 70 i = I0 70 i := cpo_r (by decide)
    rw [← e, u_250_2]
    simp (disch := omega) only [v_250_69, u_250_0, x_sipush, x_istore2i, x_istore2r, x_istore2u, x_jsr, x_iload2, x_if_icmp_ge, x_aload0, k_69_18, x_iload1, x_imul, x_iadd, k_69_0, x_iinc2i, x_iinc2r, x_iinc2u, x_goto, u_250_31, x_return, ia_70, is_70, ia_78, is_78, r, q, b01_0, ite_not, if_true, if_false, Int.reduceLT, Int.reduceEq]
    rw [if_pos (by omega)]
theorem m_sv {dep : Int} (hd : 0 ≤ dep ∧ dep ≤ 4) : s_S X (d + 1) 250 [.ref 69, .int (iI dep)] (mm I J) = some ([], mm (cpo I 70 0 78 (74 * dep) 74) J) := by
  have e := m_sv1 (X := X) (d := d) (J := J) I hd 74 0 (by decide) (by decide)
  rw [cpo_0] at e
  simp (disch := omega) only [v_250_69, u_250_0, x_sipush, x_istore2i, x_istore2r, x_istore2u, x_jsr, x_iload2, x_if_icmp_ge, x_aload0, k_69_18, x_iload1, x_imul, x_iadd, k_69_0, x_iinc2i, x_iinc2r, x_iinc2u, x_goto, u_250_31, x_return, ia_70, is_70, ia_78, is_78, e, b01_0, ite_not, if_true, if_false, Int.reduceLT, Int.reduceEq]
theorem m_re1 (I0 : Nat → Int → Int) {dep : Int} (hd : 0 ≤ dep ∧ dep ≤ 4) : ∀ (n : Nat) (i : Int), 0 ≤ i → i + n = 74 → s_j X d 251 2 [.ref 69, .int (iI dep), .int (iI i)] [] (mm (cpo I0 78 (74 * dep) 70 0 i) J) = some ([], mm (cpo I0 78 (74 * dep) 70 0 74) J) := by
  intro n
  induction n with
  | zero =>
    intro i h0 hn
    rw [u_251_2, show i = 74 by omega]
    simp (disch := omega) only [v_251_69, u_251_0, x_sipush, x_istore2i, x_istore2r, x_istore2u, x_jsr, x_iload2, x_if_icmp_ge, x_aload0, k_69_0, k_69_18, x_iload1, x_imul, x_iadd, x_iinc2i, x_iinc2r, x_iinc2u, x_goto, u_251_31, x_return, ia_70, is_70, ia_78, is_78, b01_0, ite_not, if_true, if_false, Int.reduceLT, Int.reduceEq]
  | succ n ih =>
    intro i h0 hn
    have e := ih (i + 1) (by omega) (by omega)
    have q := cpo_s (I := I0) (src := 78) (dst := 70) (so := 74 * dep) (d0 := 0) (i := i) (x := i) (y := 74 * dep + i) h0 (by omega) (by omega)
    have r : cpo I0 78 (74 * dep) 70 0 i 78 (74 * dep + i) = I0 78 (74 * dep + i) := cpo_r (by decide)
    rw [← e, u_251_2]
    simp (disch := omega) only [v_251_69, u_251_0, x_sipush, x_istore2i, x_istore2r, x_istore2u, x_jsr, x_iload2, x_if_icmp_ge, x_aload0, k_69_0, k_69_18, x_iload1, x_imul, x_iadd, x_iinc2i, x_iinc2r, x_iinc2u, x_goto, u_251_31, x_return, ia_70, is_70, ia_78, is_78, r, q, b01_0, ite_not, if_true, if_false, Int.reduceLT, Int.reduceEq]
    rw [if_pos (by omega)]
theorem m_re {dep : Int} (hd : 0 ≤ dep ∧ dep ≤ 4) : s_S X (d + 1) 251 [.ref 69, .int (iI dep)] (mm I J) = some ([], mm (cpo I 78 (74 * dep) 70 0 74) J) := by
  have e := m_re1 (X := X) (d := d) (J := J) I hd 74 0 (by decide) (by decide)
  rw [cpo_0] at e
  simp (disch := omega) only [v_251_69, u_251_0, x_sipush, x_istore2i, x_istore2r, x_istore2u, x_jsr, x_iload2, x_if_icmp_ge, x_aload0, k_69_0, k_69_18, x_iload1, x_imul, x_iadd, x_iinc2i, x_iinc2r, x_iinc2u, x_goto, u_251_31, x_return, ia_70, is_70, ia_78, is_78, e, b01_0, ite_not, if_true, if_false, Int.reduceLT, Int.reduceEq]
theorem m_bp1 (I0 : Nat → Int → Int) {len : Int} (hl : 0 ≤ len ∧ len ≤ 4) {wo to wt : Int32} : ∀ (n : Nat) (i : Int), 0 ≤ i → i + n = len → s_j X d 249 21 [.ref 69, .int (iI len), .int wo, .int to, .int wt, .int (iI i)] [] (mm (cpo I0 79 0 80 0 i) J) = s_j X d 249 47 [.ref 69, .int (iI len), .int wo, .int to, .int wt, .int (iI len)] [] (mm (cpo I0 79 0 80 0 len) J) := by
  intro n
  induction n with
  | zero =>
    intro i h0 hn
    rw [u_249_21, show i = len by omega]
    simp (disch := omega) only [v_249_69, u_249_0, x_iload2, x_aload0, f_69_21, x_if_icmp_le, x_sipush, p_69_22, p_69_21, x_istore5i, x_istore5r, x_istore5u, x_jsr, x_iload5, x_iload1, x_if_icmp_ge, k_69_20, k_69_19, x_iinc5i, x_iinc5r, x_iinc5u, x_goto, x_dup_i, x_dup_r, f_69_22, x_if_icmp_ne, u_249_64, u_249_65, x_iadd, x_call2_0, x_call2_1, x_call2_2, x_call2_3, x_call2_4, e_k_s, e_k_i, List.nil_append, List.cons_append, x_iload4, x_ixor, x_iand, x_ifCond_ne, x_ifCond_neb, x_iload3, f_69_23, u_249_99, u_249_103, p_69_23, f_69_24, x_ior, p_69_24, x_return, ia_79, is_79, ia_80, is_80, b01_0, ite_not, if_true, if_false, Int.reduceLT, Int.reduceEq]
    rw [if_neg (by omega)]
  | succ n ih =>
    intro i h0 hn
    have e := ih (i + 1) (by omega) (by omega)
    have q := cpo_s (I := I0) (src := 79) (dst := 80) (so := 0) (d0 := 0) (i := i) (x := i) (y := i) h0 (by omega) (by omega)
    have r : cpo I0 79 0 80 0 i 79 i = I0 79 i := cpo_r (by decide)
    rw [← e, u_249_21]
    simp (disch := omega) only [v_249_69, u_249_0, x_iload2, x_aload0, f_69_21, x_if_icmp_le, x_sipush, p_69_22, p_69_21, x_istore5i, x_istore5r, x_istore5u, x_jsr, x_iload5, x_iload1, x_if_icmp_ge, k_69_20, k_69_19, x_iinc5i, x_iinc5r, x_iinc5u, x_goto, x_dup_i, x_dup_r, f_69_22, x_if_icmp_ne, u_249_64, u_249_65, x_iadd, x_call2_0, x_call2_1, x_call2_2, x_call2_3, x_call2_4, e_k_s, e_k_i, List.nil_append, List.cons_append, x_iload4, x_ixor, x_iand, x_ifCond_ne, x_ifCond_neb, x_iload3, f_69_23, u_249_99, u_249_103, p_69_23, f_69_24, x_ior, p_69_24, x_return, ia_79, is_79, ia_80, is_80, r, q, b01_0, ite_not, if_true, if_false, Int.reduceLT, Int.reduceEq]
    rw [if_pos (by omega)]
theorem m_end (h : inv I) (hE : RE I (M 70)) {c : co} (hc : cok I c) {len wt wo to m sc : Int} {A S P : Int → Int} {g : pac} (hl : 0 ≤ len ∧ len ≤ 4) (hg : mst g m) (hm : 0 ≤ m ∧ m ≤ 1000000) (hw : 0 ≤ wo ∧ wo ≤ 1000) (ht : 0 ≤ to ∧ to ≤ 4) (hwt : 0 ≤ wt ∧ wt < 64) : s_S X (d + 3) 249 [.ref 69, .int (iI len), .int (iI wo), .int (iI to), .int (iI wt)] (mm (mk (mpo M g A S) (I 1 9) c sc P) J) = some ([], mm (mk (mpo M (mwg len wt A wo to c.2.2.2 g) A S) (I 1 9) c sc P) J) := by
  obtain ⟨mo, cn, fe, ev, Q⟩ := g
  obtain ⟨g1, g2, g3, g4⟩ := hg
  simp only at g1 g2 g3 g4
  have h64 := pw_6 h.1
  have c4 := hc.2.2.2
  have es := fun (g : pac) => m_those (X := X) (d := d) (J := J) (M := mpo M g A S) h hE hc (sc := sc) (P := P)
  have e1 := i_or (a := ev) (b := c.2.2.2) (by omega) (by omega)
  have e2 := (adn_i (a := wt) (b := c.2.2.2) hwt (by omega)).1
  have ha := ann_b (a := wt) (b := c.2.2.2) hwt
  have hle : ann wt c.2.2.2 ≤ wt := by
    have : wt.toNat &&& c.2.2.2.toNat ≤ wt.toNat := Nat.and_le_left
    unfold ann
    omega
  have tail : ∀ (mo cn : Int) (Q : Int → Int) (w : Value), (-1 ≤ mo ∧ mo ≤ 1000) → s_j X (d + 2) 249 47 [.ref 69, .int (iI len), .int (iI wo), .int (iI to), .int (iI wt), w] [] (mm (mk (mpo M (mo, cn, fe, ev, Q) A S) (I 1 9) c sc P) J) = some ([], mm (mk (mpo M (mo, if wo = mo then cn + 1 else cn, if wt - ann wt c.2.2.2 = 0 ∧ to < fe then to else fe, orr ev c.2.2.2, Q) A S) (I 1 9) c sc P) J) := by
    intro mo cn Q w hmo
    unfold orr
    rw [u_249_47]
    by_cases q0 : wo = mo
    · rw [if_pos q0]
      by_cases q1 : wt - ann wt c.2.2.2 = 0
      · by_cases q2 : to < fe
        · rw [if_pos ⟨q1, q2⟩]
          simp (disch := omega) only [v_249_69, x_iload2, x_aload0, f_69_21, x_if_icmp_le, x_sipush, p_69_22, p_69_21, x_istore5i, x_istore5r, x_istore5u, x_jsr, x_iload5, x_iload1, x_if_icmp_ge, k_69_20, k_69_19, x_iinc5i, x_iinc5r, x_iinc5u, x_goto, x_dup_i, x_dup_r, f_69_22, x_if_icmp_ne, u_249_64, u_249_65, x_iadd, x_call2_0, x_call2_1, x_call2_2, x_call2_3, x_call2_4, e_k_s, e_k_i, List.nil_append, List.cons_append, x_iload4, x_ixor, x_iand, x_ifCond_ne, x_ifCond_neb, x_iload3, f_69_23, u_249_99, u_249_103, p_69_23, f_69_24, x_ior, p_69_24, x_return, ia_79, is_79, ia_80, is_80, mpo_1, mpo_2, mpo_3, mpo_4, mpo_u2, mpo_u3, mpo_u4, es, e1, e2, q1, b01_0, ite_not, if_true, if_false, Int.reduceLT, Int.reduceEq]
          rw [if_pos q0, if_pos q2]
        · rw [if_neg (fun z => q2 z.2)]
          simp (disch := omega) only [v_249_69, x_iload2, x_aload0, f_69_21, x_if_icmp_le, x_sipush, p_69_22, p_69_21, x_istore5i, x_istore5r, x_istore5u, x_jsr, x_iload5, x_iload1, x_if_icmp_ge, k_69_20, k_69_19, x_iinc5i, x_iinc5r, x_iinc5u, x_goto, x_dup_i, x_dup_r, f_69_22, x_if_icmp_ne, u_249_64, u_249_65, x_iadd, x_call2_0, x_call2_1, x_call2_2, x_call2_3, x_call2_4, e_k_s, e_k_i, List.nil_append, List.cons_append, x_iload4, x_ixor, x_iand, x_ifCond_ne, x_ifCond_neb, x_iload3, f_69_23, u_249_99, u_249_103, p_69_23, f_69_24, x_ior, p_69_24, x_return, ia_79, is_79, ia_80, is_80, mpo_1, mpo_2, mpo_3, mpo_4, mpo_u2, mpo_u3, mpo_u4, es, e1, e2, q1, b01_0, ite_not, if_true, if_false, Int.reduceLT, Int.reduceEq]
          rw [if_pos q0, if_neg q2]
      · rw [if_neg (fun z => q1 z.1)]
        simp (disch := omega) only [v_249_69, x_iload2, x_aload0, f_69_21, x_if_icmp_le, x_sipush, p_69_22, p_69_21, x_istore5i, x_istore5r, x_istore5u, x_jsr, x_iload5, x_iload1, x_if_icmp_ge, k_69_20, k_69_19, x_iinc5i, x_iinc5r, x_iinc5u, x_goto, x_dup_i, x_dup_r, f_69_22, x_if_icmp_ne, u_249_64, u_249_65, x_iadd, x_call2_0, x_call2_1, x_call2_2, x_call2_3, x_call2_4, e_k_s, e_k_i, List.nil_append, List.cons_append, x_iload4, x_ixor, x_iand, x_ifCond_ne, x_ifCond_neb, x_iload3, f_69_23, u_249_99, u_249_103, p_69_23, f_69_24, x_ior, p_69_24, x_return, ia_79, is_79, ia_80, is_80, mpo_1, mpo_2, mpo_3, mpo_4, mpo_u2, mpo_u3, mpo_u4, es, e1, e2, b01_0, ite_not, if_true, if_false, Int.reduceLT, Int.reduceEq]
        rw [if_pos q0, if_neg q1]
    · rw [if_neg q0]
      by_cases q1 : wt - ann wt c.2.2.2 = 0
      · by_cases q2 : to < fe
        · rw [if_pos ⟨q1, q2⟩]
          simp (disch := omega) only [v_249_69, x_iload2, x_aload0, f_69_21, x_if_icmp_le, x_sipush, p_69_22, p_69_21, x_istore5i, x_istore5r, x_istore5u, x_jsr, x_iload5, x_iload1, x_if_icmp_ge, k_69_20, k_69_19, x_iinc5i, x_iinc5r, x_iinc5u, x_goto, x_dup_i, x_dup_r, f_69_22, x_if_icmp_ne, u_249_64, u_249_65, x_iadd, x_call2_0, x_call2_1, x_call2_2, x_call2_3, x_call2_4, e_k_s, e_k_i, List.nil_append, List.cons_append, x_iload4, x_ixor, x_iand, x_ifCond_ne, x_ifCond_neb, x_iload3, f_69_23, u_249_99, u_249_103, p_69_23, f_69_24, x_ior, p_69_24, x_return, ia_79, is_79, ia_80, is_80, mpo_1, mpo_2, mpo_3, mpo_4, mpo_u2, mpo_u3, mpo_u4, es, e1, e2, q1, Int.add_zero, b01_0, ite_not, if_true, if_false, Int.reduceLT, Int.reduceEq]
          rw [if_neg q0, if_pos q2]
        · rw [if_neg (fun z => q2 z.2)]
          simp (disch := omega) only [v_249_69, x_iload2, x_aload0, f_69_21, x_if_icmp_le, x_sipush, p_69_22, p_69_21, x_istore5i, x_istore5r, x_istore5u, x_jsr, x_iload5, x_iload1, x_if_icmp_ge, k_69_20, k_69_19, x_iinc5i, x_iinc5r, x_iinc5u, x_goto, x_dup_i, x_dup_r, f_69_22, x_if_icmp_ne, u_249_64, u_249_65, x_iadd, x_call2_0, x_call2_1, x_call2_2, x_call2_3, x_call2_4, e_k_s, e_k_i, List.nil_append, List.cons_append, x_iload4, x_ixor, x_iand, x_ifCond_ne, x_ifCond_neb, x_iload3, f_69_23, u_249_99, u_249_103, p_69_23, f_69_24, x_ior, p_69_24, x_return, ia_79, is_79, ia_80, is_80, mpo_1, mpo_2, mpo_3, mpo_4, mpo_u2, mpo_u3, mpo_u4, es, e1, e2, q1, Int.add_zero, b01_0, ite_not, if_true, if_false, Int.reduceLT, Int.reduceEq]
          rw [if_neg q0, if_neg q2]
      · rw [if_neg (fun z => q1 z.1)]
        simp (disch := omega) only [v_249_69, x_iload2, x_aload0, f_69_21, x_if_icmp_le, x_sipush, p_69_22, p_69_21, x_istore5i, x_istore5r, x_istore5u, x_jsr, x_iload5, x_iload1, x_if_icmp_ge, k_69_20, k_69_19, x_iinc5i, x_iinc5r, x_iinc5u, x_goto, x_dup_i, x_dup_r, f_69_22, x_if_icmp_ne, u_249_64, u_249_65, x_iadd, x_call2_0, x_call2_1, x_call2_2, x_call2_3, x_call2_4, e_k_s, e_k_i, List.nil_append, List.cons_append, x_iload4, x_ixor, x_iand, x_ifCond_ne, x_ifCond_neb, x_iload3, f_69_23, u_249_99, u_249_103, p_69_23, f_69_24, x_ior, p_69_24, x_return, ia_79, is_79, ia_80, is_80, mpo_1, mpo_2, mpo_3, mpo_4, mpo_u2, mpo_u3, mpo_u4, es, e1, e2, Int.add_zero, b01_0, ite_not, if_true, if_false, Int.reduceLT, Int.reduceEq]
        rw [if_neg q0, if_neg q1]
  by_cases q : mo < wo
  · have f0 := m_bp1 (X := X) (d := d + 2) (J := J) (mk (mpo M (wo, 0, fe, ev, Q) A S) (I 1 9) c sc P) hl (wo := iI wo) (to := iI to) (wt := iI wt) len.toNat 0 (by decide) (by omega)
    rw [cpo_0, mpo_cp] at f0
    have f1 := tail wo 0 (cpyn len A Q) (.int (iI len)) (by omega)
    rw [if_pos rfl, Int.zero_add] at f1
    have f2 : mwg len wt A wo to c.2.2.2 (mo, cn, fe, ev, Q) = (wo, 1, if wt - ann wt c.2.2.2 = 0 ∧ to < fe then to else fe, orr ev c.2.2.2, cpyn len A Q) := by
      unfold mwg
      dsimp only
      rw [if_pos q, if_pos q, if_pos q]
    rw [f2]
    simp (disch := omega) only [v_249_69, u_249_0, x_iload2, x_aload0, f_69_21, x_if_icmp_le, x_sipush, p_69_22, p_69_21, x_istore5i, x_istore5r, x_istore5u, x_jsr, x_iload5, x_iload1, x_if_icmp_ge, k_69_20, k_69_19, x_iinc5i, x_iinc5r, x_iinc5u, x_goto, x_dup_i, x_dup_r, f_69_22, x_if_icmp_ne, u_249_64, u_249_65, x_iadd, x_call2_0, x_call2_1, x_call2_2, x_call2_3, x_call2_4, e_k_s, e_k_i, List.nil_append, List.cons_append, x_iload4, x_ixor, x_iand, x_ifCond_ne, x_ifCond_neb, x_iload3, f_69_23, u_249_99, u_249_103, p_69_23, f_69_24, x_ior, p_69_24, x_return, ia_79, is_79, ia_80, is_80, mpo_1, mpo_u1, mpo_u2, f0, f1, b01_0, ite_not, if_true, if_false, Int.reduceLT, Int.reduceEq]
    rw [if_pos (by omega)]
  · have f1 := tail mo cn Q (.retAddr 0) (by omega)
    have f2 : mwg len wt A wo to c.2.2.2 (mo, cn, fe, ev, Q) = (mo, if wo = mo then cn + 1 else cn, if wt - ann wt c.2.2.2 = 0 ∧ to < fe then to else fe, orr ev c.2.2.2, Q) := by
      unfold mwg
      dsimp only
      rw [if_neg q, if_neg q, if_neg q]
    rw [f2]
    simp (disch := omega) only [v_249_69, u_249_0, x_iload2, x_aload0, f_69_21, x_if_icmp_le, x_sipush, p_69_22, p_69_21, x_istore5i, x_istore5r, x_istore5u, x_jsr, x_iload5, x_iload1, x_if_icmp_ge, k_69_20, k_69_19, x_iinc5i, x_iinc5r, x_iinc5u, x_goto, x_dup_i, x_dup_r, f_69_22, x_if_icmp_ne, u_249_64, u_249_65, x_iadd, x_call2_0, x_call2_1, x_call2_2, x_call2_3, x_call2_4, e_k_s, e_k_i, List.nil_append, List.cons_append, x_iload4, x_ixor, x_iand, x_ifCond_ne, x_ifCond_neb, x_iload3, f_69_23, u_249_99, u_249_103, p_69_23, f_69_24, x_ior, p_69_24, x_return, ia_79, is_79, ia_80, is_80, mpo_1, mpo_u1, mpo_u2, f1, b01_0, ite_not, if_true, if_false, Int.reduceLT, Int.reduceEq]
    rw [if_neg (by omega)]
end
