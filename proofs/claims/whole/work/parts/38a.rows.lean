/-! ROWS, in class and model -/
/-- the class's rows over a base -/
def rwo (I : Nat → Int → Int) (cn : Int) (C : Int → Int) : Nat → Int → Int := fun o k => if o = 51 then (if k = 2 then cn else I 51 k) else if o = 52 then C k else I o k
theorem rwo_sq {I : Nat → Int → Int} {cn : Int} {C : Int → Int} : sq (rwo I cn C) I := ⟨rfl, rfl, fun o h0 h1 => by
  funext k
  unfold rwo
  rw [if_neg (by omega), if_neg (by omega)]⟩
def fil (I : Nat → Int → Int) (A : Int → Int) : Nat → Int → co → (Int → Int) → (Int → Int)
  | 0, _, _, C => C
  | n + 1, k, c, C => fil I A n (k + 1) (pas I c (A k)).2 (upf (upf (upf C (3 * k) (A k)) (3 * k + 1) (pas I c (A k)).1) (3 * k + 2) (pas I c (A k)).2.2.2.2)
def jdg (I : Nat → Int → Int) (C : Int → Int) : Nat → Int → co → Int
  | 0, _, _ => 0
  | n + 1, k, c => if (0 ≤ C (3 * k) ∧ C (3 * k) ≤ I 1 9) ∧ ¬ I 1 12 ≤ c.1 ∧ C (3 * k + 1) = (pas I c (C (3 * k))).1 ∧ C (3 * k + 2) = (pas I c (C (3 * k))).2.2.2.2 then jdg I C n (k + 1) (pas I c (C (3 * k))).2 else k + 1
section
variable {I : Nat → Int → Int} {cn k v : Int} {C F : Int → Int} {c : co}
theorem rwo_n : bk (rwo I cn C) c F 51 2 = cn := rfl
theorem rwo_c : bk (rwo I cn C) c F 52 k = C k := rfl
theorem rwo_s : bk (rwo I cn C) c F 1 10 = c.2.2.2 := rfl
theorem rwo_un : up (bk (rwo I cn C) c F) 51 2 v = bk (rwo I v C) c F := by
  rw [bk_u (by decide) (by decide)]
  congr 1
  funext o k
  unfold up rwo
  (repeat' split) <;> simp_all
theorem rwo_uc : up (bk (rwo I cn C) c F) 52 k v = bk (rwo I cn (upf C k v)) c F := by
  rw [bk_u (by decide) (by decide)]
  congr 1
  funext o k
  unfold up rwo upf
  (repeat' split) <;> simp_all
theorem rwo_id : rwo I (I 51 2) (I 52) = I := by
  funext o k
  unfold rwo
  (repeat' split) <;> simp_all
end
section
variable {X : e_X} {d : Nat} {I J M B : Nat → Int → Int}
theorem w_fi1 (hq : sq B I) (h : inv I) (hR : rok I) {A : Int → Int} {n mo : Int} (hB : B 50 = A) (hn : 0 ≤ n ∧ n ≤ 4) (hA : ∀ i, 0 ≤ i → i < n → 0 ≤ A i ∧ A i ≤ 6) {v2 : Int32} : ∀ (r : Nat) (k : Int) (c : co) (C F : Int → Int), 0 ≤ k → k + r = n → cok I c → c.1 + r ≤ I 1 12 → ∃ c' F', s_j X (d + 5) 54 20 [.ref 51, .ref 50, .int v2, .int (iI mo), .int (iI k)] [] (mm (bk (rwo B n C) c F) J) = s_j X (d + 5) 54 88 [.ref 51, .ref 50, .int v2, .int (iI mo), .int (iI n)] [] (mm (bk (rwo B n (fil I A r k c C)) c' F') J) := by
  intro r
  induction r with
  | zero =>
    intro k c C F k0 kn hc hy
    refine ⟨c, F, ?_⟩
    rw [u_54_20, show k = n by omega]
    simp (disch := omega) only [v_54_51, u_54_0, x_aload0, k_51_0, x_call1_0, x_call1_1, x_call1_2, x_call1_3, x_call1_4, e_k_s, e_k_i, List.nil_append, List.cons_append, x_istore3i, x_istore3r, x_istore3u, x_iload2, x_sipush, x_dsub_0, x_dsub_1, x_dsub_2, x_dsub_3, x_dsub_4, p_51_2, x_istore4i, x_istore4r, x_istore4u, x_jsr, x_iload4, f_51_2, x_if_icmp_ge, k_51_1, x_imul, x_aload1, x_iadd, x_call2_0, x_call2_1, x_call2_2, x_call2_3, x_call2_4, f_1_10, x_iinc4i, x_iinc4r, x_iinc4u, x_goto, x_iload3, x_ireturn, ia_52, is_52, rwo_n, b01_0, ite_not, if_true, if_false, Int.reduceLT, Int.reduceEq]
    rw [if_neg (by omega)]
    rfl
  | succ r ih =>
    intro k c C F k0 kn hc hy
    have ha := hA k k0 (by omega)
    have hp := pas_ok h hc (by omega) (A k)
    have hA5 : ∀ n C c F, bk (rwo B n C) c F 50 k = A k := fun n C c F => by
      show B 50 k = A k
      rw [hB]
    obtain ⟨F1, e1⟩ := s_pas (X := X) (d := d) (B := rwo B n (upf C (3 * k) (A k))) (I := I) (J := J) (sq_tr rwo_sq hq) h hR hc F (a := A k) (by omega)
    obtain ⟨c', F', e2⟩ := ih (k + 1) (pas I c (A k)).2 (upf (upf (upf C (3 * k) (A k)) (3 * k + 1) (pas I c (A k)).1) (3 * k + 2) (pas I c (A k)).2.2.2.2) F1 (by omega) (by omega) hp.1 (by omega)
    refine ⟨c', F', ?_⟩
    rw [show fil I A (r + 1) k c C = fil I A r (k + 1) (pas I c (A k)).2 (upf (upf (upf C (3 * k) (A k)) (3 * k + 1) (pas I c (A k)).1) (3 * k + 2) (pas I c (A k)).2.2.2.2) from rfl, ← e2, u_54_20]
    simp (disch := omega) only [v_54_51, u_54_0, x_aload0, k_51_0, x_call1_0, x_call1_1, x_call1_2, x_call1_3, x_call1_4, e_k_s, e_k_i, List.nil_append, List.cons_append, x_istore3i, x_istore3r, x_istore3u, x_iload2, x_sipush, x_dsub_0, x_dsub_1, x_dsub_2, x_dsub_3, x_dsub_4, p_51_2, x_istore4i, x_istore4r, x_istore4u, x_jsr, x_iload4, f_51_2, x_if_icmp_ge, k_51_1, x_imul, x_aload1, x_iadd, x_call2_0, x_call2_1, x_call2_2, x_call2_3, x_call2_4, f_1_10, x_iinc4i, x_iinc4r, x_iinc4u, x_goto, x_iload3, x_ireturn, ia_52, is_52, rwo_n, ia_50, hA5, rwo_uc, e1, rwo_s, b01_0, ite_not, if_true, if_false, Int.reduceLT, Int.reduceEq]
    rw [if_pos (by omega)]
theorem w_fil (hq : sq B I) (h : inv I) (hR : rok I) {A : Int → Int} {n : Int} (hB : B 50 = A) (hn : 0 ≤ n ∧ n ≤ 4) (hA : ∀ i, 0 ≤ i → i < n → 0 ≤ A i ∧ A i ≤ 6) {c : co} (hc : cok I c) (hy : c.1 + n ≤ I 1 12) {C F : Int → Int} {cn : Int} : ∃ F', s_S X (d + 6) 54 [.ref 51, .ref 50, .int (iI n)] (mm (bk (rwo B cn C) c F) J) = some ([.int (iI n)], mm (bk (rwo B n (fil I A n.toNat 0 c C)) c F') J) := by
  have e0 := s_mo (X := X) (d := d + 4) (B := rwo B cn C) (I := I) (J := J) (sq_tr rwo_sq hq) h hc (F := F)
  obtain ⟨c', F', e1⟩ := w_fi1 (X := X) (d := d) (J := J) hq h hR (n := n) (mo := cmo c) hB hn hA (v2 := iI n) n.toNat 0 c C F (by decide) (by omega) hc (by omega)
  have e2 := s_bo (X := X) (d := d + 4) (B := rwo B n (fil I A n.toNat 0 c C)) (I := I) (J := J) (sq_tr rwo_sq hq) h hc (c' := c') (F := F')
  have mn : min n 4 = n := by omega
  refine ⟨F', ?_⟩
  simp (disch := omega) only [v_54_51, u_54_0, x_aload0, k_51_0, x_call1_0, x_call1_1, x_call1_2, x_call1_3, x_call1_4, e_k_s, e_k_i, List.nil_append, List.cons_append, x_istore3i, x_istore3r, x_istore3u, x_iload2, x_sipush, x_dsub_0, x_dsub_1, x_dsub_2, x_dsub_3, x_dsub_4, p_51_2, x_istore4i, x_istore4r, x_istore4u, x_jsr, x_iload4, f_51_2, x_if_icmp_ge, k_51_1, x_imul, x_aload1, x_iadd, x_call2_0, x_call2_1, x_call2_2, x_call2_3, x_call2_4, f_1_10, x_iinc4i, x_iinc4r, x_iinc4u, x_goto, u_54_88, x_iload3, x_ireturn, ia_52, is_52, e0, mn, rwo_un, e1, e2, rwo_n, b01_0, ite_not, if_true, if_false, Int.reduceLT, Int.reduceEq]
theorem w_rgt (hq : sq B I) (h : inv I) (hR : rok I) {c : co} (hc : cok I c) {C F : Int → Int} {cn k : Int} (hk : 0 ≤ k ∧ k < 4) (hC : ∀ i, 0 ≤ i → i < 12 → rg (C i)) : ∃ F', s_S X (d + 6) 57 [.ref 51, .int (iI k)] (mm (bk (rwo B cn C) c F) J) = if (0 ≤ C (3 * k) ∧ C (3 * k) ≤ I 1 9) ∧ ¬ I 1 12 ≤ c.1 then some ([.int (iI (if C (3 * k + 1) = (pas I c (C (3 * k))).1 ∧ C (3 * k + 2) = (pas I c (C (3 * k))).2.2.2.2 then 1 else 0))], mm (bk (rwo B cn C) (pas I c (C (3 * k))).2 F') J) else some ([.int (iI 0)], mm (bk (rwo B cn C) c F) J) := by
  have hn6 := h.1
  have h16 := h.2.2.2.1
  have h64 := pw_6 hn6
  have c1 := hc.1
  have r0 := hC (3 * k) (by omega) (by omega)
  have r1 := hC (3 * k + 1) (by omega) (by omega)
  have r2 := hC (3 * k + 2) (by omega) (by omega)
  have e1 := t_act (X := X) (d := d + 4) (I := bk (rwo B cn C) c F) (J := J) (k := C (3 * k)) (n := I 1 9) r0 hq.1 hn6
  have e2 := t_over (X := X) (d := d + 4) (I := bk (rwo B cn C) c F) (J := J) (y := c.1) (e := I 1 12) rfl hq.2.1 ⟨⟨by omega, by omega⟩, ⟨by omega, by omega⟩⟩
  by_cases q : (0 ≤ C (3 * k) ∧ C (3 * k) ≤ I 1 9) ∧ ¬ I 1 12 ≤ c.1
  · rw [if_pos q.1] at e1
    rw [if_neg q.2] at e2
    have hp := pas_ok h hc (by omega) (C (3 * k))
    have hp4 := hp.1.2.2.2
    obtain ⟨F1, e3⟩ := s_pas (X := X) (d := d) (B := rwo B cn C) (I := I) (J := J) (sq_tr rwo_sq hq) h hR hc F (a := C (3 * k)) (by omega)
    refine ⟨F1, ?_⟩
    rw [if_pos q]
    simp (disch := omega) only [v_57_51, u_57_0, x_aload0, k_51_1, x_sipush, x_iload1, x_imul, x_istore2i, x_istore2r, x_istore2u, k_51_0, x_iload2, x_call2_0, x_call2_1, x_call2_2, x_call2_3, x_call2_4, e_k_s, e_k_i, List.nil_append, List.cons_append, x_ifCond_eq, x_ifCond_eqb, x_call1_0, x_call1_1, x_call1_2, x_call1_3, x_call1_4, x_jsr, u_57_30, x_zret0, x_zret1, x_zretb, u_57_32, x_istore3i, x_istore3r, x_istore3u, x_iadd, x_iload3, x_if_icmp_ne, f_1_10, x_goto, u_57_79, u_57_80, ia_52, rwo_c, e1, e2, e3, rwo_s, b01_0, ite_not, if_true, if_false, Int.reduceLT, Int.reduceEq]
    by_cases z1 : C (3 * k + 1) = (pas I c (C (3 * k))).1
    · by_cases z2 : C (3 * k + 2) = (pas I c (C (3 * k))).2.2.2.2
      · rw [if_pos z1, if_pos z2, if_pos ⟨z1, z2⟩]
      · rw [if_pos z1, if_neg z2, if_neg (fun z => z2 z.2)]
    · rw [if_neg z1, if_neg (fun z => z1 z.1)]
  · refine ⟨F, ?_⟩
    rw [if_neg q]
    by_cases q1 : 0 ≤ C (3 * k) ∧ C (3 * k) ≤ I 1 9
    · rw [if_pos q1] at e1
      rw [if_pos (Classical.byContradiction fun z => q ⟨q1, z⟩)] at e2
      simp (disch := omega) only [v_57_51, u_57_0, x_aload0, k_51_1, x_sipush, x_iload1, x_imul, x_istore2i, x_istore2r, x_istore2u, k_51_0, x_iload2, x_call2_0, x_call2_1, x_call2_2, x_call2_3, x_call2_4, e_k_s, e_k_i, List.nil_append, List.cons_append, x_ifCond_eq, x_ifCond_eqb, x_call1_0, x_call1_1, x_call1_2, x_call1_3, x_call1_4, x_jsr, u_57_30, x_zret0, x_zret1, x_zretb, u_57_32, x_istore3i, x_istore3r, x_istore3u, x_iadd, x_iload3, x_if_icmp_ne, f_1_10, x_goto, u_57_79, u_57_80, ia_52, rwo_c, e1, e2, b01_0, ite_not, if_true, if_false, Int.reduceLT, Int.reduceEq]
    · rw [if_neg q1] at e1
      simp (disch := omega) only [v_57_51, u_57_0, x_aload0, k_51_1, x_sipush, x_iload1, x_imul, x_istore2i, x_istore2r, x_istore2u, k_51_0, x_iload2, x_call2_0, x_call2_1, x_call2_2, x_call2_3, x_call2_4, e_k_s, e_k_i, List.nil_append, List.cons_append, x_ifCond_eq, x_ifCond_eqb, x_call1_0, x_call1_1, x_call1_2, x_call1_3, x_call1_4, x_jsr, u_57_30, x_zret0, x_zret1, x_zretb, u_57_32, x_istore3i, x_istore3r, x_istore3u, x_iadd, x_iload3, x_if_icmp_ne, f_1_10, x_goto, u_57_79, u_57_80, ia_52, rwo_c, e1, b01_0, ite_not, if_true, if_false, Int.reduceLT, Int.reduceEq]
theorem w_jd1 (hq : sq B I) (h : inv I) (hR : rok I) {C : Int → Int} {cn mo : Int} (hcn : 0 ≤ cn ∧ cn ≤ 4) (hC : ∀ i, 0 ≤ i → i < 12 → rg (C i)) : ∀ (r : Nat) (k : Int) (c : co) (F : Int → Int), 0 ≤ k → k + r = cn → cok I c → ∃ c' F' k', s_j X (d + 6) 56 12 [.ref 51, .int (iI mo), .int (iI 0), .int (iI k)] [] (mm (bk (rwo B cn C) c F) J) = s_j X (d + 6) 56 42 [.ref 51, .int (iI mo), .int (iI (jdg I C r k c)), .int k'] [] (mm (bk (rwo B cn C) c' F') J) := by
  intro r
  induction r with
  | zero =>
    intro k c F k0 kn hc
    refine ⟨c, F, iI k, ?_⟩
    rw [u_56_12]
    simp (disch := omega) only [v_56_51, u_56_0, x_aload0, k_51_0, x_call1_0, x_call1_1, x_call1_2, x_call1_3, x_call1_4, e_k_s, e_k_i, List.nil_append, List.cons_append, x_istore1i, x_istore1r, x_istore1u, x_sipush, x_istore2i, x_istore2r, x_istore2u, x_istore3i, x_istore3r, x_istore3u, x_jsr, x_iload3, f_51_2, x_if_icmp_ge, x_iload2, x_ifCond_ne, x_ifCond_neb, x_call2_0, x_call2_1, x_call2_2, x_call2_3, x_call2_4, x_iadd, u_56_36, x_iinc3i, x_iinc3r, x_iinc3u, x_goto, x_iload1, x_ireturn, rwo_n, b01_0, ite_not, if_true, if_false, Int.reduceLT, Int.reduceEq]
    rw [if_neg (by omega)]
    rfl
  | succ r ih =>
    intro k c F k0 kn hc
    have c1 := hc.1
    obtain ⟨F1, e1⟩ := w_rgt (X := X) (d := d) (J := J) hq h hR hc (C := C) (F := F) (cn := cn) (k := k) (by omega) hC
    have hj : jdg I C (r + 1) k c = if (0 ≤ C (3 * k) ∧ C (3 * k) ≤ I 1 9) ∧ ¬ I 1 12 ≤ c.1 ∧ C (3 * k + 1) = (pas I c (C (3 * k))).1 ∧ C (3 * k + 2) = (pas I c (C (3 * k))).2.2.2.2 then jdg I C r (k + 1) (pas I c (C (3 * k))).2 else k + 1 := rfl
    rw [hj, u_56_12]
    by_cases q : (0 ≤ C (3 * k) ∧ C (3 * k) ≤ I 1 9) ∧ ¬ I 1 12 ≤ c.1
    · rw [if_pos q] at e1
      by_cases q2 : C (3 * k + 1) = (pas I c (C (3 * k))).1 ∧ C (3 * k + 2) = (pas I c (C (3 * k))).2.2.2.2
      · have hp := pas_ok h hc (by omega) (C (3 * k))
        obtain ⟨c', F', k', e2⟩ := ih (k + 1) (pas I c (C (3 * k))).2 F1 (by omega) (by omega) hp.1
        refine ⟨c', F', k', ?_⟩
        rw [if_pos q2] at e1
        rw [if_pos ⟨q.1, q.2, q2⟩, ← e2]
        simp (disch := omega) only [v_56_51, u_56_0, x_aload0, k_51_0, x_call1_0, x_call1_1, x_call1_2, x_call1_3, x_call1_4, e_k_s, e_k_i, List.nil_append, List.cons_append, x_istore1i, x_istore1r, x_istore1u, x_sipush, x_istore2i, x_istore2r, x_istore2u, x_istore3i, x_istore3r, x_istore3u, x_jsr, x_iload3, f_51_2, x_if_icmp_ge, x_iload2, x_ifCond_ne, x_ifCond_neb, x_call2_0, x_call2_1, x_call2_2, x_call2_3, x_call2_4, x_iadd, u_56_36, x_iinc3i, x_iinc3r, x_iinc3u, x_goto, x_iload1, x_ireturn, rwo_n, e1, b01_0, ite_not, if_true, if_false, Int.reduceLT, Int.reduceEq]
        rw [if_pos (by omega)]
      · refine ⟨(pas I c (C (3 * k))).2, F1, iI (k + 1), ?_⟩
        rw [if_neg q2] at e1
        rw [if_neg (fun z => q2 z.2.2)]
        simp (disch := omega) only [v_56_51, u_56_0, x_aload0, k_51_0, x_call1_0, x_call1_1, x_call1_2, x_call1_3, x_call1_4, e_k_s, e_k_i, List.nil_append, List.cons_append, x_istore1i, x_istore1r, x_istore1u, x_sipush, x_istore2i, x_istore2r, x_istore2u, x_istore3i, x_istore3r, x_istore3u, x_jsr, x_iload3, f_51_2, x_if_icmp_ge, x_iload2, x_ifCond_ne, x_ifCond_neb, x_call2_0, x_call2_1, x_call2_2, x_call2_3, x_call2_4, x_iadd, u_56_36, x_iinc3i, x_iinc3r, x_iinc3u, x_goto, x_iload1, x_ireturn, rwo_n, e1, b01_0, ite_not, if_true, if_false, Int.reduceLT, Int.reduceEq]
        rw [if_pos (by omega), u_56_12]
        simp (disch := omega) only [v_56_51, u_56_0, x_aload0, k_51_0, x_call1_0, x_call1_1, x_call1_2, x_call1_3, x_call1_4, e_k_s, e_k_i, List.nil_append, List.cons_append, x_istore1i, x_istore1r, x_istore1u, x_sipush, x_istore2i, x_istore2r, x_istore2u, x_istore3i, x_istore3r, x_istore3u, x_jsr, x_iload3, f_51_2, x_if_icmp_ge, x_iload2, x_ifCond_ne, x_ifCond_neb, x_call2_0, x_call2_1, x_call2_2, x_call2_3, x_call2_4, x_iadd, u_56_36, x_iinc3i, x_iinc3r, x_iinc3u, x_goto, x_iload1, x_ireturn, rwo_n, b01_0, ite_not, if_true, if_false, Int.reduceLT, Int.reduceEq]
        by_cases z : k + 1 < cn
        · rw [if_pos z, if_neg (by omega)]
        · rw [if_neg z]
    · refine ⟨c, F, iI (k + 1), ?_⟩
      rw [if_neg q] at e1
      rw [if_neg (fun z => q ⟨z.1, z.2.1⟩)]
      simp (disch := omega) only [v_56_51, u_56_0, x_aload0, k_51_0, x_call1_0, x_call1_1, x_call1_2, x_call1_3, x_call1_4, e_k_s, e_k_i, List.nil_append, List.cons_append, x_istore1i, x_istore1r, x_istore1u, x_sipush, x_istore2i, x_istore2r, x_istore2u, x_istore3i, x_istore3r, x_istore3u, x_jsr, x_iload3, f_51_2, x_if_icmp_ge, x_iload2, x_ifCond_ne, x_ifCond_neb, x_call2_0, x_call2_1, x_call2_2, x_call2_3, x_call2_4, x_iadd, u_56_36, x_iinc3i, x_iinc3r, x_iinc3u, x_goto, x_iload1, x_ireturn, rwo_n, e1, b01_0, ite_not, if_true, if_false, Int.reduceLT, Int.reduceEq]
      rw [if_pos (by omega), u_56_12]
      simp (disch := omega) only [v_56_51, u_56_0, x_aload0, k_51_0, x_call1_0, x_call1_1, x_call1_2, x_call1_3, x_call1_4, e_k_s, e_k_i, List.nil_append, List.cons_append, x_istore1i, x_istore1r, x_istore1u, x_sipush, x_istore2i, x_istore2r, x_istore2u, x_istore3i, x_istore3r, x_istore3u, x_jsr, x_iload3, f_51_2, x_if_icmp_ge, x_iload2, x_ifCond_ne, x_ifCond_neb, x_call2_0, x_call2_1, x_call2_2, x_call2_3, x_call2_4, x_iadd, u_56_36, x_iinc3i, x_iinc3r, x_iinc3u, x_goto, x_iload1, x_ireturn, rwo_n, b01_0, ite_not, if_true, if_false, Int.reduceLT, Int.reduceEq]
      by_cases z : k + 1 < cn
      · rw [if_pos z, if_neg (by omega)]
      · rw [if_neg z]
theorem w_jdg (hq : sq B I) (h : inv I) (hR : rok I) {c : co} (hc : cok I c) {C F : Int → Int} {cn : Int} (hcn : 0 ≤ cn ∧ cn ≤ 4) (hC : ∀ i, 0 ≤ i → i < 12 → rg (C i)) : ∃ F', s_S X (d + 7) 56 [.ref 51] (mm (bk (rwo B cn C) c F) J) = some ([.int (iI (jdg I C cn.toNat 0 c))], mm (bk (rwo B cn C) c F') J) := by
  have e0 := s_mo (X := X) (d := d + 5) (B := rwo B cn C) (I := I) (J := J) (sq_tr rwo_sq hq) h hc (F := F)
  obtain ⟨c', F', k', e1⟩ := w_jd1 (X := X) (d := d) (J := J) hq h hR (C := C) (cn := cn) (mo := cmo c) hcn hC cn.toNat 0 c F (by decide) (by omega) hc
  have e2 := s_bo (X := X) (d := d + 5) (B := rwo B cn C) (I := I) (J := J) (sq_tr rwo_sq hq) h hc (c' := c') (F := F')
  refine ⟨F', ?_⟩
  simp (disch := omega) only [v_56_51, u_56_0, x_aload0, k_51_0, x_call1_0, x_call1_1, x_call1_2, x_call1_3, x_call1_4, e_k_s, e_k_i, List.nil_append, List.cons_append, x_istore1i, x_istore1r, x_istore1u, x_sipush, x_istore2i, x_istore2r, x_istore2u, x_istore3i, x_istore3r, x_istore3u, x_jsr, x_iload3, f_51_2, x_if_icmp_ge, x_iload2, x_ifCond_ne, x_ifCond_neb, x_call2_0, x_call2_1, x_call2_2, x_call2_3, x_call2_4, x_iadd, u_56_36, x_iinc3i, x_iinc3r, x_iinc3u, x_goto, u_56_42, x_iload1, x_ireturn, e0, e1, e2, b01_0, ite_not, if_true, if_false, Int.reduceLT, Int.reduceEq]
end
