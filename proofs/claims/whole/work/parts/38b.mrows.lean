/-! ROWS, in the model -/
def mro (M : Nat → Int → Int) (cn : Int) (C : Int → Int) : Nat → Int → Int := fun o k => if o = 69 then (if k = 29 then cn else M 69 k) else if o = 83 then C k else M o k
section
variable {M : Nat → Int → Int} {n cn k v sc : Int} {C P L : Int → Int} {c : co}
theorem mro_70 : mro M cn C 70 = M 70 := rfl
theorem mro_72 : mro M cn C 72 = M 72 := rfl
theorem mro_n : mk (b72 (mro M cn C) L) n c sc P 69 29 = cn := rfl
theorem mro_c : mk (b72 (mro M cn C) L) n c sc P 83 k = C k := rfl
theorem mro_80 : mk (b72 (mro M cn C) L) n c sc P 80 k = M 80 k := rfl
theorem mro_uc : up (mk (b72 (mro M cn C) L) n c sc P) 83 k v = mk (b72 (mro M cn (upf C k v)) L) n c sc P := by
  rw [mpo_u 83 (by decide) (by decide)]
  congr 1
  funext o k
  unfold up b72 mro upf
  (repeat' split) <;> simp_all
theorem mro_un : up (mk M n c sc P) 69 29 v = mk (mro M v (M 83)) n c sc P := by
  rw [mpo_u 69 (by decide) (by decide)]
  congr 1
  funext o k
  unfold up mro
  (repeat' split) <;> simp_all
theorem mro_id : mro M (M 69 29) (M 83) = M := by
  funext o k
  unfold mro
  (repeat' split) <;> simp_all
end
theorem fil_eq {I : Nat → Int → Int} {A A' : Int → Int} : ∀ (n : Nat) (k : Int) (c : co) (C C' : Int → Int), 0 ≤ k → (∀ i, 0 ≤ i → i < 3 * k → C i = C' i) → (∀ j, k ≤ j → j < k + n → A j = A' j) → ∀ i, 0 ≤ i → i < 3 * (k + n) → fil I A n k c C i = fil I A' n k c C' i
  | 0, k, c, C, C', k0, hC, _, i, i0, i1 => hC i i0 (by omega)
  | n + 1, k, c, C, C', k0, hC, hA, i, i0, i1 => by
    have hk := hA k (by omega) (by omega)
    show fil I A n (k + 1) _ _ i = fil I A' n (k + 1) _ _ i
    rw [hk]
    refine fil_eq n (k + 1) _ _ _ (by omega) (fun j j0 j1 => ?_) (fun j j0 j1 => hA j (by omega) (by omega)) i i0 (by omega)
    unfold upf
    by_cases q2 : j = 3 * k + 2
    · rw [if_pos q2, if_pos q2]
    · by_cases q1 : j = 3 * k + 1
      · rw [if_neg q2, if_neg q2, if_pos q1, if_pos q1]
      · by_cases q0 : j = 3 * k
        · rw [if_neg q2, if_neg q2, if_neg q1, if_neg q1, if_pos q0, if_pos q0]
        · rw [if_neg q2, if_neg q2, if_neg q1, if_neg q1, if_neg q0, if_neg q0]
          exact hC j j0 (by omega)
theorem fil_rg {I : Nat → Int → Int} (h : inv I) {A : Int → Int} : ∀ (n : Nat) (k : Int) (c : co) (C : Int → Int), cok I c → c.1 + n ≤ I 1 12 → (∀ i, rg (C i)) → (∀ j, k ≤ j → j < k + n → 0 ≤ A j ∧ A j ≤ 6) → ∀ i, rg (fil I A n k c C i)
  | 0, _, _, _, _, _, hC, _ => hC
  | n + 1, k, c, C, hc, hy, hC, hA => by
    have hp := pas_ok h hc (by omega) (A k)
    have h64 := pw_6 h.1
    have a := hA k (by omega) (by omega)
    have p4 := hp.1.2.2.2
    refine fil_rg h n (k + 1) _ _ hp.1 (by omega) (fun i => ?_) (fun j j0 j1 => hA j (by omega) (by omega))
    unfold upf
    split
    · constructor <;> omega
    · split
      · constructor <;> omega
      · split
        · constructor <;> omega
        · exact hC i
theorem jdg_eq {I : Nat → Int → Int} {C C' : Int → Int} : ∀ (n : Nat) (k : Int) (c : co), 0 ≤ k → (∀ i, 0 ≤ i → i < 3 * (k + n) → C i = C' i) → jdg I C n k c = jdg I C' n k c
  | 0, _, _, _, _ => rfl
  | n + 1, k, c, k0, hC => by
    unfold jdg
    rw [hC (3 * k) (by omega) (by omega), hC (3 * k + 1) (by omega) (by omega), hC (3 * k + 2) (by omega) (by omega), jdg_eq n (k + 1) _ (by omega) (fun i i0 i1 => hC i i0 (by omega))]
section
variable {X : e_X} {d : Nat} {I J M : Nat → Int → Int}
theorem m_pr1 (h : inv I) (hE : RE I (M 70)) (hQ : RR I (M 70)) (hR : rok I) {L : Int → Int} {n : Int} (hn : 0 ≤ n ∧ n ≤ 4) (hA : ∀ i, 0 ≤ i → i < n → 0 ≤ M 80 i ∧ M 80 i ≤ I 1 9) {v1 : Int32} : ∀ (r : Nat) (k : Int) (c : co) (sc : Int) (C P : Int → Int), 0 ≤ k → k + r = n → cok I c → c.1 + r ≤ I 1 12 → ∃ c' sc' P', s_j X (d + 8) 271 30 [.ref 69, .int v1, .int (iI k)] [] (mm (mk (b72 (mro M n C) L) (I 1 9) c sc P) J) = s_j X (d + 8) 271 93 [.ref 69, .int v1, .int (iI n)] [] (mm (mk (b72 (mro M n (fil I (M 80) r k c C)) L) (I 1 9) c' sc' P') J) := by
  have h70 : ∀ (n : Int) (C : Int → Int) (L : Int → Int), b72 (mro M n C) L 70 = M 70 := fun n C L => by rw [b72_o (by decide)]; rfl
  intro r
  induction r with
  | zero =>
    intro k c sc C P k0 kn hc hy
    refine ⟨c, sc, P, ?_⟩
    rw [u_271_30, show k = n by omega]
    simp (disch := omega) only [v_271_69, u_271_0, x_iload1, x_call1_0, x_call1_1, x_call1_2, x_call1_3, x_call1_4, e_k_s, e_k_i, List.nil_append, List.cons_append, x_ifCond_ne, x_ifCond_neb, x_sipush, x_ireturn, u_271_9, x_aload0, x_call3_0, x_call3_1, x_call3_2, x_call3_3, x_call3_4, x_call2_0, x_call2_1, x_call2_2, x_call2_3, x_call2_4, p_69_29, x_istore2i, x_istore2r, x_istore2u, x_jsr, x_iload2, f_69_29, x_if_icmp_ge, k_69_28, x_imul, k_69_20, x_iadd, x_iinc2i, x_iinc2r, x_iinc2u, x_goto, ia_80, is_80, ia_83, is_83, mro_n, ↓reduceIte, b01_0, ite_not, if_true, if_false, Int.reduceLT, Int.reduceEq]
    rw [if_neg (by omega)]
    rfl
  | succ r ih =>
    intro k c sc C P k0 kn hc hy
    have ha := hA k k0 (by omega)
    have hp := pas_ok h hc (by omega) (M 80 k)
    obtain ⟨P1, e1⟩ := m_pas (X := X) (d := d) (J := J) (M := b72 (mro M n (upf C (3 * k) (M 80 k))) L) h (by rw [h70]; exact hE) (by rw [h70]; exact hQ) hR hc (by omega) (sc := sc) P (a := M 80 k) (by omega)
    have e2 := m_those (X := X) (d := d + 6) (J := J) (M := b72 (mro M n (upf (upf C (3 * k) (M 80 k)) (3 * k + 1) (pas I c (M 80 k)).1)) L) h (by rw [h70]; exact hE) hp.1 (sc := sc + (pas I c (M 80 k)).1) (P := P1)
    obtain ⟨c', sc', P', e3⟩ := ih (k + 1) (pas I c (M 80 k)).2 (sc + (pas I c (M 80 k)).1) (upf (upf (upf C (3 * k) (M 80 k)) (3 * k + 1) (pas I c (M 80 k)).1) (3 * k + 2) (pas I c (M 80 k)).2.2.2.2) P1 (by omega) (by omega) hp.1 (by omega)
    refine ⟨c', sc', P', ?_⟩
    rw [show fil I (M 80) (r + 1) k c C = fil I (M 80) r (k + 1) (pas I c (M 80 k)).2 (upf (upf (upf C (3 * k) (M 80 k)) (3 * k + 1) (pas I c (M 80 k)).1) (3 * k + 2) (pas I c (M 80 k)).2.2.2.2) from rfl, ← e3, u_271_30]
    simp (disch := omega) only [v_271_69, u_271_0, x_iload1, x_call1_0, x_call1_1, x_call1_2, x_call1_3, x_call1_4, e_k_s, e_k_i, List.nil_append, List.cons_append, x_ifCond_ne, x_ifCond_neb, x_sipush, x_ireturn, u_271_9, x_aload0, x_call3_0, x_call3_1, x_call3_2, x_call3_3, x_call3_4, x_call2_0, x_call2_1, x_call2_2, x_call2_3, x_call2_4, p_69_29, x_istore2i, x_istore2r, x_istore2u, x_jsr, x_iload2, f_69_29, x_if_icmp_ge, k_69_28, x_imul, k_69_20, x_iadd, x_iinc2i, x_iinc2r, x_iinc2u, x_goto, ia_80, is_80, ia_83, is_83, mro_n, mro_80, mro_uc, e1, e2, ↓reduceIte, b01_0, ite_not, if_true, if_false, Int.reduceLT, Int.reduceEq]
    rw [if_pos (by omega)]
theorem m_pln {n : Int} (hn : rg n) : s_S X (d + 2) 245 [.int (iI n)] (mm I J) = some ([.int (iI (if 0 ≤ n ∧ n ≤ 4 then 1 else 0))], mm I J) := by
  simp (disch := omega) only [v_245, u_245_0, x_iload0, x_sipush, x_call3_0, x_call3_1, x_call3_2, x_call3_3, x_call3_4, e_k_s, e_k_i, List.nil_append, List.cons_append, x_zret0, x_zret1, x_zretb, m_in1, ↓reduceIte, b01_0, ite_not, if_true, if_false, Int.reduceLT, Int.reduceEq]
theorem m_prv (h : inv I) (hE : RE I (M 70)) (hQ : RR I (M 70)) (hR : rok I) {c : co} (hc : cok I c) {sc : Int} (P : Int → Int) {n : Int} (hn : 0 ≤ n ∧ n ≤ 4) (hA : ∀ i, 0 ≤ i → i < yec I c n → 0 ≤ (mtra I M c n 0).1.2.2.2.2 i ∧ (mtra I M c n 0).1.2.2.2.2 i ≤ I 1 9) : ∃ S' L P', s_S X (d + 15) 271 [.ref 69, .int (iI n)] (mm (mk M (I 1 9) c sc P) J) = some ([.int (iI (yec I c n))], mm (mk (b72 (mro (mpo M (mtra I M c n 0).1 (mtra I M c n 0).2 S') (yec I c n) (fil I (mtra I M c n 0).1.2.2.2.2 (yec I c n).toNat 0 c (M 83))) L) (I 1 9) c sc P') J) := by
  have hy := yec_b hn.1 hc
  obtain ⟨⟨S', P1, e1⟩, -⟩ := m_tra (X := X) (d := d) (J := J) (M := M) h hE hQ hR hc (sc := sc) P (n := n) (wt := 0) hn (by decide)
  have e2 := m_days (X := X) (d := d + 12) (J := J) (M := mpo M (mtra I M c n 0).1 (mtra I M c n 0).2 S') h hE hc (sc := sc) (P := P1) (n := n) ⟨by omega, by omega⟩
  have e3 := m_ld (X := X) (d := d + 13) (J := J) (M := mro (mpo M (mtra I M c n 0).1 (mtra I M c n 0).2 S') (yec I c n) (M 83)) (n := I 1 9) (c := c) (sc := sc) (P := P1)
  obtain ⟨c', sc', P2, e4⟩ := m_pr1 (X := X) (d := d + 6) (J := J) (M := mpo M (mtra I M c n 0).1 (mtra I M c n 0).2 S') h hE hQ hR (L := lyd (mro (mpo M (mtra I M c n 0).1 (mtra I M c n 0).2 S') (yec I c n) (M 83)) (mk (mro (mpo M (mtra I M c n 0).1 (mtra I M c n 0).2 S') (yec I c n) (M 83)) (I 1 9) c sc P1 70)) (n := yec I c n) (by omega) hA (v1 := iI n) (yec I c n).toNat 0 c sc (M 83) P1 (by decide) (by omega) hc (by omega)
  rw [show mpo M (mtra I M c n 0).1 (mtra I M c n 0).2 S' 80 = (mtra I M c n 0).1.2.2.2.2 from rfl] at e4
  have e5 := m_lb (X := X) (d := d + 13) (J := J) (M := mro (mpo M (mtra I M c n 0).1 (mtra I M c n 0).2 S') (yec I c n) (fil I (mtra I M c n 0).1.2.2.2.2 (yec I c n).toNat 0 c (M 83))) (M' := mro (mpo M (mtra I M c n 0).1 (mtra I M c n 0).2 S') (yec I c n) (fil I (mtra I M c n 0).1.2.2.2.2 (yec I c n).toNat 0 c (M 83))) (L := lyd (mro (mpo M (mtra I M c n 0).1 (mtra I M c n 0).2 S') (yec I c n) (M 83)) (mk (mro (mpo M (mtra I M c n 0).1 (mtra I M c n 0).2 S') (yec I c n) (M 83)) (I 1 9) c sc P1 70)) (n := I 1 9) h.1.2 (c := c) (c' := c') (sc := sc) (sc' := sc') (P := P1) (P' := P2) (fun k k0 k1 => (if_pos ⟨k0, k1⟩).trans rfl) (fun _ _ _ => rfl)
  have e6 := m_pln (X := X) (d := d + 12) (I := mk M (I 1 9) c sc P) (J := J) (n := n) ⟨by omega, by omega⟩
  rw [if_pos hn] at e6
  have e7 : ∀ v, up (mk (mpo M (mtra I M c n 0).1 (mtra I M c n 0).2 S') (I 1 9) c sc P1) 69 29 v = mk (mro (mpo M (mtra I M c n 0).1 (mtra I M c n 0).2 S') v (M 83)) (I 1 9) c sc P1 := fun v => mro_un
  refine ⟨S', lyd (mro (mpo M (mtra I M c n 0).1 (mtra I M c n 0).2 S') (yec I c n) (M 83)) (mk (mro (mpo M (mtra I M c n 0).1 (mtra I M c n 0).2 S') (yec I c n) (M 83)) (I 1 9) c sc P1 70), P2, ?_⟩
  simp (disch := omega) only [v_271_69, u_271_0, x_iload1, x_call1_0, x_call1_1, x_call1_2, x_call1_3, x_call1_4, e_k_s, e_k_i, List.nil_append, List.cons_append, x_ifCond_ne, x_ifCond_neb, x_sipush, x_ireturn, u_271_9, x_aload0, x_call3_0, x_call3_1, x_call3_2, x_call3_3, x_call3_4, x_call2_0, x_call2_1, x_call2_2, x_call2_3, x_call2_4, p_69_29, x_istore2i, x_istore2r, x_istore2u, x_jsr, x_iload2, f_69_29, x_if_icmp_ge, k_69_28, x_imul, k_69_20, x_iadd, x_iinc2i, x_iinc2r, x_iinc2u, x_goto, u_271_93, ia_80, is_80, ia_83, is_83, e6, e1, e2, e7, e3, e4, e5, mro_n, ↓reduceIte, b01_0, ite_not, if_true, if_false, Int.reduceLT, Int.reduceEq]
theorem m_jd1 (h : inv I) (hE : RE I (M 70)) (hQ : RR I (M 70)) (hR : rok I) {L C : Int → Int} {cn : Int} (hcn : 0 ≤ cn ∧ cn ≤ 4) (hC : ∀ i, 0 ≤ i → i < 12 → rg (C i)) : ∀ (r : Nat) (k : Int) (c : co) (sc : Int) (P : Int → Int) (w3 w4 w5 : Value), 0 ≤ k → k + r = cn → cok I c → ∃ c' sc' P' k' w3' w4' w5', s_j X (d + 8) 275 8 [.ref 69, .int (iI 0), .int (iI k), w3, w4, w5] [] (mm (mk (b72 (mro M cn C) L) (I 1 9) c sc P) J) = s_j X (d + 8) 275 133 [.ref 69, .int (iI (jdg I C r k c)), .int k', w3', w4', w5'] [] (mm (mk (b72 (mro M cn C) L) (I 1 9) c' sc' P') J) := by
  have hn6 := h.1
  have h16 := h.2.2.2.1
  have h64 := pw_6 hn6
  have h70 : ∀ (n : Int) (C : Int → Int) (L : Int → Int), b72 (mro M n C) L 70 = M 70 := fun n C L => by rw [b72_o (by decide)]; rfl
  intro r
  induction r with
  | zero =>
    intro k c sc P w3 w4 w5 k0 kn hc
    refine ⟨c, sc, P, iI k, w3, w4, w5, ?_⟩
    rw [u_275_8]
    simp (disch := omega) only [v_275_69, u_275_0, x_aload0, x_call1_0, x_call1_1, x_call1_2, x_call1_3, x_call1_4, e_k_s, e_k_i, List.nil_append, List.cons_append, x_sipush, x_istore1i, x_istore1r, x_istore1u, x_istore2i, x_istore2r, x_istore2u, x_jsr, x_iload2, f_69_29, x_if_icmp_ge, x_iload1, x_ifCond_ne, x_ifCond_neb, k_69_28, x_imul, x_call2_0, x_call2_1, x_call2_2, x_call2_3, x_call2_4, x_ifCond_eq, x_ifCond_eqb, x_goto, u_275_46, u_275_47, x_istore3i, x_istore3r, x_istore3u, x_iload3, u_275_67, u_275_68, x_istore4i, x_istore4r, x_istore4u, x_iload4, x_iadd, x_if_icmp_ne, u_275_111, u_275_112, x_istore5i, x_istore5r, x_istore5u, x_iload5, u_275_123, u_275_126, x_iinc2i, x_iinc2r, x_iinc2u, x_ireturn, ia_83, mro_n, ↓reduceIte, b01_0, ite_not, if_true, if_false, Int.reduceLT, Int.reduceEq]
    rw [if_neg (by omega)]
    rfl
  | succ r ih =>
    intro k c sc P w3 w4 w5 k0 kn hc
    have c1 := hc.1
    have r0 := hC (3 * k) (by omega) (by omega)
    have r1 := hC (3 * k + 1) (by omega) (by omega)
    have r2 := hC (3 * k + 2) (by omega) (by omega)
    have e1 := m_isa (X := X) (d := d + 6) (I := mk (b72 (mro M cn C) L) (I 1 9) c sc P) (J := J) (k := C (3 * k)) (n := I 1 9) (by rw [mk_r (by omega), h70]; exact hE.2.1) ⟨r0, hn6⟩
    have e2 := m_ov (X := X) (d := d + 7) (J := J) (M := b72 (mro M cn C) L) h (by rw [h70]; exact hE) hc (sc := sc) (P := P)
    have hj : jdg I C (r + 1) k c = if (0 ≤ C (3 * k) ∧ C (3 * k) ≤ I 1 9) ∧ ¬ I 1 12 ≤ c.1 ∧ C (3 * k + 1) = (pas I c (C (3 * k))).1 ∧ C (3 * k + 2) = (pas I c (C (3 * k))).2.2.2.2 then jdg I C r (k + 1) (pas I c (C (3 * k))).2 else k + 1 := rfl
    have k1 : 1 + k = k + 1 := by omega
    rw [hj, u_275_8]
    by_cases q : (0 ≤ C (3 * k) ∧ C (3 * k) ≤ I 1 9) ∧ ¬ I 1 12 ≤ c.1
    · rw [if_pos q.1] at e1
      rw [if_neg q.2] at e2
      have hp := pas_ok h hc (by omega) (C (3 * k))
      have hp4 := hp.1.2.2.2
      obtain ⟨P1, e3⟩ := m_pas (X := X) (d := d) (J := J) (M := b72 (mro M cn C) L) h (by rw [h70]; exact hE) (by rw [h70]; exact hQ) hR hc (by omega) (sc := sc) P (a := C (3 * k)) (by omega)
      have e4 := m_those (X := X) (d := d + 6) (J := J) (M := b72 (mro M cn C) L) h (by rw [h70]; exact hE) hp.1 (sc := sc + (pas I c (C (3 * k))).1) (P := P1)
      by_cases q2 : C (3 * k + 1) = (pas I c (C (3 * k))).1 ∧ C (3 * k + 2) = (pas I c (C (3 * k))).2.2.2.2
      · obtain ⟨c', sc', P', k', w3', w4', w5', e5⟩ := ih (k + 1) (pas I c (C (3 * k))).2 (sc + (pas I c (C (3 * k))).1) P1 (.int (iI 1)) (.int (iI (pas I c (C (3 * k))).1)) (.int (iI 1)) (by omega) (by omega) hp.1
        refine ⟨c', sc', P', k', w3', w4', w5', ?_⟩
        rw [if_pos ⟨q.1, q.2, q2⟩, ← e5]
        simp (disch := omega) only [v_275_69, u_275_0, x_aload0, x_call1_0, x_call1_1, x_call1_2, x_call1_3, x_call1_4, e_k_s, e_k_i, List.nil_append, List.cons_append, x_sipush, x_istore1i, x_istore1r, x_istore1u, x_istore2i, x_istore2r, x_istore2u, x_jsr, x_iload2, f_69_29, x_if_icmp_ge, x_iload1, x_ifCond_ne, x_ifCond_neb, k_69_28, x_imul, x_call2_0, x_call2_1, x_call2_2, x_call2_3, x_call2_4, x_ifCond_eq, x_ifCond_eqb, x_goto, u_275_46, u_275_47, x_istore3i, x_istore3r, x_istore3u, x_iload3, u_275_67, u_275_68, x_istore4i, x_istore4r, x_istore4u, x_iload4, x_iadd, x_if_icmp_ne, u_275_111, u_275_112, x_istore5i, x_istore5r, x_istore5u, x_iload5, u_275_123, u_275_126, x_iinc2i, x_iinc2r, x_iinc2u, x_ireturn, ia_83, mro_n, mro_c, e1, e2, e3, e4, q2.1, q2.2, ↓reduceIte, b01_0, ite_not, if_true, if_false, Int.reduceLT, Int.reduceEq]
        rw [if_pos (by omega)]
      · refine ⟨(pas I c (C (3 * k))).2, sc + (pas I c (C (3 * k))).1, P1, iI (k + 1), .int (iI 1), .int (iI (pas I c (C (3 * k))).1), .int (iI 0), ?_⟩
        rw [if_neg (fun z => q2 z.2.2)]
        have tail : s_j X (d + 8) 275 8 [.ref 69, .int (iI (k + 1)), .int (iI (k + 1)), .int (iI 1), .int (iI (pas I c (C (3 * k))).1), .int (iI 0)] [] (mm (mk (b72 (mro M cn C) L) (I 1 9) (pas I c (C (3 * k))).2 (sc + (pas I c (C (3 * k))).1) P1) J) = s_j X (d + 8) 275 133 [.ref 69, .int (iI (k + 1)), .int (iI (k + 1)), .int (iI 1), .int (iI (pas I c (C (3 * k))).1), .int (iI 0)] [] (mm (mk (b72 (mro M cn C) L) (I 1 9) (pas I c (C (3 * k))).2 (sc + (pas I c (C (3 * k))).1) P1) J) := by
          rw [u_275_8]
          simp (disch := omega) only [v_275_69, u_275_0, x_aload0, x_call1_0, x_call1_1, x_call1_2, x_call1_3, x_call1_4, e_k_s, e_k_i, List.nil_append, List.cons_append, x_sipush, x_istore1i, x_istore1r, x_istore1u, x_istore2i, x_istore2r, x_istore2u, x_jsr, x_iload2, f_69_29, x_if_icmp_ge, x_iload1, x_ifCond_ne, x_ifCond_neb, k_69_28, x_imul, x_call2_0, x_call2_1, x_call2_2, x_call2_3, x_call2_4, x_ifCond_eq, x_ifCond_eqb, x_goto, u_275_46, u_275_47, x_istore3i, x_istore3r, x_istore3u, x_iload3, u_275_67, u_275_68, x_istore4i, x_istore4r, x_istore4u, x_iload4, x_iadd, x_if_icmp_ne, u_275_111, u_275_112, x_istore5i, x_istore5r, x_istore5u, x_iload5, u_275_123, u_275_126, x_iinc2i, x_iinc2r, x_iinc2u, x_ireturn, ia_83, mro_n, ↓reduceIte, b01_0, ite_not, if_true, if_false, Int.reduceLT, Int.reduceEq]
          by_cases z : k + 1 < cn
          · rw [if_pos z, if_neg (by omega)]
          · rw [if_neg z]
        by_cases z1 : (pas I c (C (3 * k))).1 = C (3 * k + 1)
        · by_cases z2 : (pas I c (C (3 * k))).2.2.2.2 = C (3 * k + 2)
          · exact absurd ⟨z1.symm, z2.symm⟩ q2
          · simp (disch := omega) only [v_275_69, u_275_0, x_aload0, x_call1_0, x_call1_1, x_call1_2, x_call1_3, x_call1_4, e_k_s, e_k_i, List.nil_append, List.cons_append, x_sipush, x_istore1i, x_istore1r, x_istore1u, x_istore2i, x_istore2r, x_istore2u, x_jsr, x_iload2, f_69_29, x_if_icmp_ge, x_iload1, x_ifCond_ne, x_ifCond_neb, k_69_28, x_imul, x_call2_0, x_call2_1, x_call2_2, x_call2_3, x_call2_4, x_ifCond_eq, x_ifCond_eqb, x_goto, u_275_46, u_275_47, x_istore3i, x_istore3r, x_istore3u, x_iload3, u_275_67, u_275_68, x_istore4i, x_istore4r, x_istore4u, x_iload4, x_iadd, x_if_icmp_ne, u_275_111, u_275_112, x_istore5i, x_istore5r, x_istore5u, x_iload5, u_275_123, u_275_126, x_iinc2i, x_iinc2r, x_iinc2u, x_ireturn, ia_83, mro_n, mro_c, e1, e2, e3, e4, k1, tail, ↓reduceIte, b01_0, ite_not, if_true, if_false, Int.reduceLT, Int.reduceEq]
            rw [if_pos (by omega), if_pos z1, if_neg z2]
        · simp (disch := omega) only [v_275_69, u_275_0, x_aload0, x_call1_0, x_call1_1, x_call1_2, x_call1_3, x_call1_4, e_k_s, e_k_i, List.nil_append, List.cons_append, x_sipush, x_istore1i, x_istore1r, x_istore1u, x_istore2i, x_istore2r, x_istore2u, x_jsr, x_iload2, f_69_29, x_if_icmp_ge, x_iload1, x_ifCond_ne, x_ifCond_neb, k_69_28, x_imul, x_call2_0, x_call2_1, x_call2_2, x_call2_3, x_call2_4, x_ifCond_eq, x_ifCond_eqb, x_goto, u_275_46, u_275_47, x_istore3i, x_istore3r, x_istore3u, x_iload3, u_275_67, u_275_68, x_istore4i, x_istore4r, x_istore4u, x_iload4, x_iadd, x_if_icmp_ne, u_275_111, u_275_112, x_istore5i, x_istore5r, x_istore5u, x_iload5, u_275_123, u_275_126, x_iinc2i, x_iinc2r, x_iinc2u, x_ireturn, ia_83, mro_n, mro_c, e1, e2, e3, e4, k1, tail, ↓reduceIte, b01_0, ite_not, if_true, if_false, Int.reduceLT, Int.reduceEq]
          rw [if_pos (by omega), if_neg z1]
    · have tail : s_j X (d + 8) 275 8 [.ref 69, .int (iI (k + 1)), .int (iI (k + 1)), .int (iI 0), .int (iI 0), .int (iI 0)] [] (mm (mk (b72 (mro M cn C) L) (I 1 9) c sc P) J) = s_j X (d + 8) 275 133 [.ref 69, .int (iI (k + 1)), .int (iI (k + 1)), .int (iI 0), .int (iI 0), .int (iI 0)] [] (mm (mk (b72 (mro M cn C) L) (I 1 9) c sc P) J) := by
        rw [u_275_8]
        simp (disch := omega) only [v_275_69, u_275_0, x_aload0, x_call1_0, x_call1_1, x_call1_2, x_call1_3, x_call1_4, e_k_s, e_k_i, List.nil_append, List.cons_append, x_sipush, x_istore1i, x_istore1r, x_istore1u, x_istore2i, x_istore2r, x_istore2u, x_jsr, x_iload2, f_69_29, x_if_icmp_ge, x_iload1, x_ifCond_ne, x_ifCond_neb, k_69_28, x_imul, x_call2_0, x_call2_1, x_call2_2, x_call2_3, x_call2_4, x_ifCond_eq, x_ifCond_eqb, x_goto, u_275_46, u_275_47, x_istore3i, x_istore3r, x_istore3u, x_iload3, u_275_67, u_275_68, x_istore4i, x_istore4r, x_istore4u, x_iload4, x_iadd, x_if_icmp_ne, u_275_111, u_275_112, x_istore5i, x_istore5r, x_istore5u, x_iload5, u_275_123, u_275_126, x_iinc2i, x_iinc2r, x_iinc2u, x_ireturn, ia_83, mro_n, ↓reduceIte, b01_0, ite_not, if_true, if_false, Int.reduceLT, Int.reduceEq]
        by_cases z : k + 1 < cn
        · rw [if_pos z, if_neg (by omega)]
        · rw [if_neg z]
      refine ⟨c, sc, P, iI (k + 1), .int (iI 0), .int (iI 0), .int (iI 0), ?_⟩
      rw [if_neg (fun z => q ⟨z.1, z.2.1⟩)]
      by_cases q1 : 0 ≤ C (3 * k) ∧ C (3 * k) ≤ I 1 9
      · rw [if_pos q1] at e1
        rw [if_pos (Classical.byContradiction fun z => q ⟨q1, z⟩)] at e2
        simp (disch := omega) only [v_275_69, u_275_0, x_aload0, x_call1_0, x_call1_1, x_call1_2, x_call1_3, x_call1_4, e_k_s, e_k_i, List.nil_append, List.cons_append, x_sipush, x_istore1i, x_istore1r, x_istore1u, x_istore2i, x_istore2r, x_istore2u, x_jsr, x_iload2, f_69_29, x_if_icmp_ge, x_iload1, x_ifCond_ne, x_ifCond_neb, k_69_28, x_imul, x_call2_0, x_call2_1, x_call2_2, x_call2_3, x_call2_4, x_ifCond_eq, x_ifCond_eqb, x_goto, u_275_46, u_275_47, x_istore3i, x_istore3r, x_istore3u, x_iload3, u_275_67, u_275_68, x_istore4i, x_istore4r, x_istore4u, x_iload4, x_iadd, x_if_icmp_ne, u_275_111, u_275_112, x_istore5i, x_istore5r, x_istore5u, x_iload5, u_275_123, u_275_126, x_iinc2i, x_iinc2r, x_iinc2u, x_ireturn, ia_83, mro_n, mro_c, e1, e2, k1, tail, ↓reduceIte, b01_0, ite_not, if_true, if_false, Int.reduceLT, Int.reduceEq]
        rw [if_pos (by omega)]
      · rw [if_neg q1] at e1
        simp (disch := omega) only [v_275_69, u_275_0, x_aload0, x_call1_0, x_call1_1, x_call1_2, x_call1_3, x_call1_4, e_k_s, e_k_i, List.nil_append, List.cons_append, x_sipush, x_istore1i, x_istore1r, x_istore1u, x_istore2i, x_istore2r, x_istore2u, x_jsr, x_iload2, f_69_29, x_if_icmp_ge, x_iload1, x_ifCond_ne, x_ifCond_neb, k_69_28, x_imul, x_call2_0, x_call2_1, x_call2_2, x_call2_3, x_call2_4, x_ifCond_eq, x_ifCond_eqb, x_goto, u_275_46, u_275_47, x_istore3i, x_istore3r, x_istore3u, x_iload3, u_275_67, u_275_68, x_istore4i, x_istore4r, x_istore4u, x_iload4, x_iadd, x_if_icmp_ne, u_275_111, u_275_112, x_istore5i, x_istore5r, x_istore5u, x_iload5, u_275_123, u_275_126, x_iinc2i, x_iinc2r, x_iinc2u, x_ireturn, ia_83, mro_n, mro_c, e1, k1, tail, ↓reduceIte, b01_0, ite_not, if_true, if_false, Int.reduceLT, Int.reduceEq]
        rw [if_pos (by omega)]
theorem m_jdg (h : inv I) (hE : RE I (M 70)) (hQ : RR I (M 70)) (hR : rok I) {c : co} (hc : cok I c) {sc : Int} (P : Int → Int) (hcn : 0 ≤ M 69 29 ∧ M 69 29 ≤ 4) (hC : ∀ i, 0 ≤ i → i < 12 → rg (M 83 i)) : ∃ L P', s_S X (d + 9) 275 [.ref 69] (mm (mk M (I 1 9) c sc P) J) = some ([.int (iI (jdg I (M 83) (M 69 29).toNat 0 c))], mm (mk (b72 M L) (I 1 9) c sc P') J) := by
  have e0 := m_ld (X := X) (d := d + 7) (J := J) (M := M) (n := I 1 9) (c := c) (sc := sc) (P := P)
  obtain ⟨c', sc', P', k', w3', w4', w5', e1⟩ := m_jd1 (X := X) (d := d) (J := J) (M := M) h hE hQ hR (L := lyd M (mk M (I 1 9) c sc P 70)) (C := M 83) (cn := M 69 29) hcn hC (M 69 29).toNat 0 c sc P (.retAddr 0) (.retAddr 0) (.retAddr 0) (by decide) (by omega) hc
  rw [mro_id] at e1
  have e3 := m_lb (X := X) (d := d + 7) (J := J) (M := M) (M' := M) (L := lyd M (mk M (I 1 9) c sc P 70)) (n := I 1 9) h.1.2 (c := c) (c' := c') (sc := sc) (sc' := sc') (P := P) (P' := P') (fun k k0 k1 => if_pos ⟨k0, k1⟩) (fun _ _ _ => rfl)
  refine ⟨lyd M (mk M (I 1 9) c sc P 70), P', ?_⟩
  simp (disch := omega) only [v_275_69, u_275_0, x_aload0, x_call1_0, x_call1_1, x_call1_2, x_call1_3, x_call1_4, e_k_s, e_k_i, List.nil_append, List.cons_append, x_sipush, x_istore1i, x_istore1r, x_istore1u, x_istore2i, x_istore2r, x_istore2u, x_jsr, x_iload2, f_69_29, x_if_icmp_ge, x_iload1, x_ifCond_ne, x_ifCond_neb, k_69_28, x_imul, x_call2_0, x_call2_1, x_call2_2, x_call2_3, x_call2_4, x_ifCond_eq, x_ifCond_eqb, x_goto, u_275_46, u_275_47, x_istore3i, x_istore3r, x_istore3u, x_iload3, u_275_67, u_275_68, x_istore4i, x_istore4r, x_istore4u, x_iload4, x_iadd, x_if_icmp_ne, u_275_111, u_275_112, x_istore5i, x_istore5r, x_istore5u, x_iload5, u_275_123, u_275_126, x_iinc2i, x_iinc2r, x_iinc2u, u_275_133, x_ireturn, ia_83, e0, e1, e3, ↓reduceIte, b01_0, ite_not, if_true, if_false, Int.reduceLT, Int.reduceEq]
end
