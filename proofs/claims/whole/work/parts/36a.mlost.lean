/-! LOST PIECES, in the model -/
def loo (M : Nat → Int → Int) (ff : Int) (A B : Int → Int) : Nat → Int → Int := fun o k =>
  if o = 69 then (if k = 27 then ff else M 69 k) else if o = 81 then A k else if o = 82 then B k else M o k
def RP (I : Nat → Int → Int) (S : Int → Int) : Prop := S 8 = I 15 4 ∧ ∀ r, 0 ≤ r → r < I 15 4 → S (74 + 4 * r) = I 16 r ∧ S (74 + 4 * r + 1) = I 17 r ∧ S (74 + 4 * r + 2) = I 18 r ∧ S (74 + 4 * r + 3) = I 19 r
section
variable {M : Nat → Int → Int} {n v k sc ff : Int} {A B P : Int → Int} {c : co}
theorem loo_70 : loo M ff A B 70 = M 70 := rfl
theorem loo_f : mk (loo M ff A B) n c sc P 69 27 = ff := rfl
theorem loo_a : mk (loo M ff A B) n c sc P 81 k = A k := rfl
theorem loo_b : mk (loo M ff A B) n c sc P 82 k = B k := rfl
theorem loo_uf : up (mk (loo M ff A B) n c sc P) 69 27 v = mk (loo M v A B) n c sc P := by
  rw [mpo_u 69 (by decide) (by decide)]
  congr 1
  funext o k
  unfold up loo
  (repeat' split) <;> simp_all
theorem loo_ua : up (mk (loo M ff A B) n c sc P) 81 k v = mk (loo M ff (upf A k v) B) n c sc P := by
  rw [mpo_u 81 (by decide) (by decide)]
  congr 1
  funext o k
  unfold up loo upf
  (repeat' split) <;> simp_all
theorem loo_ub : up (mk (loo M ff A B) n c sc P) 82 k v = mk (loo M ff A (upf B k v)) n c sc P := by
  rw [mpo_u 82 (by decide) (by decide)]
  congr 1
  funext o k
  unfold up loo upf
  (repeat' split) <;> simp_all
theorem loo_id : loo M (M 69 27) (M 81) (M 82) = M := by
  funext o k
  unfold loo
  (repeat' split) <;> simp_all
end
def okr (I : Nat → Int → Int) (but kd w m : Int) : Nat → Int → Bool
  | 0, _ => true
  | n + 1, r => if r = but ∨ ¬ bad I kd w m r then okr I but kd w m n (r + 1) else false
def okc (I : Nat → Int → Int) (but c : Int) : Bool := okr I but (kk c) (ww c) (mq c) (I 15 4).toNat 0
def fcn (I : Nat → Int → Int) (but : Int) : Nat → Int → Int → Int
  | 0, _, a => a
  | n + 1, c, a => fcn I but n (c + 1) (a + (if okc I but c = true then 1 else 0))
def fff (I : Nat → Int → Int) (but : Int) : Nat → Int → Int → Int
  | 0, _, f => f
  | n + 1, c, f => fff I but n (c + 1) (if okc I but c = true ∧ f < 0 then c else f)
theorem fcn_b {I : Nat → Int → Int} {but : Int} : ∀ (n : Nat) (c a : Int), a ≤ fcn I but n c a ∧ fcn I but n c a ≤ a + n
  | 0, _, _ => by unfold fcn; omega
  | n + 1, c, a => by
    unfold fcn
    have := fcn_b (I := I) (but := but) n (c + 1) (a + (if okc I but c = true then 1 else 0))
    split at this <;> rename_i q
    · rw [if_pos q]; omega
    · rw [if_neg q]; omega
theorem fff_b {I : Nat → Int → Int} {but : Int} : ∀ (n : Nat) (c f : Int), 0 ≤ c → c + n ≤ 500 → -1 ≤ f ∧ f < 500 → -1 ≤ fff I but n c f ∧ fff I but n c f < 500
  | 0, _, _, _, _, h => h
  | n + 1, c, f, h0, hn, h => by
    unfold fff
    exact fff_b n _ _ (by omega) (by omega) (by split <;> omega)
section
variable {X : e_X} {d : Nat} {I J M : Nat → Int → Int}
theorem m_tl1 (h : inv I) (hE : RE I (M 70)) {c : co} {sc ff : Int} {P : Int → Int} {kd w m : Int} (hk : rg kd) (hw : 0 ≤ w ∧ w ≤ 9) (hm : 0 ≤ m ∧ m ≤ 9) : ∀ (n y : Nat) (A B : Int → Int) (w7 w8 : Value), y + n = 16 → (∀ j : Nat, j < y → A j = (sth I kd w m j).1 ∧ B j = (sth I kd w m j).2) → ∃ A' B', s_j X (d + 2) 264 9 [.ref 69, .int (iI kd), .int (iI w), .int (iI m), .int (iI (sth I kd w m y).2), .int (iI (sth I kd w m y).1), .int (iI (y : Nat)), w7, w8] [] (mm (mk (loo M ff A B) (I 1 9) c sc P) J) = some ([], mm (mk (loo M ff A' B') (I 1 9) c sc P) J) ∧ ∀ j : Nat, j < 16 → A' j = (sth I kd w m j).1 ∧ B' j = (sth I kd w m j).2 := by
  have hn6 := h.1
  intro n
  induction n with
  | zero =>
    intro y A B w7 w8 hy hA
    refine ⟨A, B, ?_, fun j hj => hA j (by omega)⟩
    rw [u_264_9]
    simp (disch := omega) only [v_264_69, u_264_0, x_iload3, x_istore4i, x_istore4r, x_istore4u, x_sipush, x_istore5i, x_istore5r, x_istore5u, x_istore6i, x_istore6r, x_istore6u, x_jsr, x_iload6, x_if_icmp_ge, x_aload0, k_69_25, x_iload5, k_69_26, x_iload4, k_69_0, x_iadd, x_call2_0, x_call2_1, x_call2_2, x_call2_3, x_call2_4, e_k_s, e_k_i, List.nil_append, List.cons_append, x_iload1, x_iload2, x_call3_0, x_call3_1, x_call3_2, x_call3_3, x_call3_4, x_istore7i, x_istore7r, x_istore7u, x_iload7, x_isub, x_istore8i, x_istore8r, x_istore8u, x_iload8, x_ifCond_gt, x_goto, u_264_78, x_if_icmp_le, u_264_94, u_264_96, x_iinc6i, x_iinc6r, x_iinc6u, u_264_105, x_return, ia_70, is_70, ia_81, is_81, ia_82, is_82, b01_0, ite_not, if_true, if_false, Int.reduceLT, Int.reduceEq]
    rw [if_neg (by omega)]
  | succ n ih =>
    intro y A B w7 w8 hy hA
    obtain ⟨s1, s2⟩ := sth_b h (kd := kd) hw hm y
    have hnw := nws_b h y
    have hmd := mdb_b hnw s2
    have hsp := spn_b (kd := kd) (y := y) hw
    have e8 := hE.2.2.2.2 y (by omega) (by omega)
    have en : nws I y = I 8 y := if_pos (by omega)
    have e1 := m_mood (X := X) (d := d) (I := mk (loo M ff (upf A y (sth I kd w m y).1) (upf B y (sth I kd w m y).2)) (I 1 9) c sc P) (J := J) ⟨hnw, s2⟩
    rw [en] at e1
    have e3 := m_span (X := X) (d := d + 1) (I := mk (loo M ff (upf A y (sth I kd w m y).1) (upf B y (sth I kd w m y).2)) (I 1 9) c sc P) (J := J) (kd := kd) (w := w) (y := y) ⟨hk, hw, by omega⟩
    obtain ⟨A', B', e2, hA'⟩ := ih (y + 1) (upf A y (sth I kd w m y).1) (upf B y (sth I kd w m y).2) (.int (iI (spn kd w y))) (.int (iI (spn kd w y - (sth I kd w m y).1))) (by omega) (fun j hj => by
      by_cases q : j = y
      · subst q
        exact ⟨if_pos rfl, if_pos rfl⟩
      · have := hA j (by omega)
        exact ⟨by show (if _ then _ else _) = _; rw [if_neg (by omega)]; exact this.1, by show (if _ then _ else _) = _; rw [if_neg (by omega)]; exact this.2⟩)
    refine ⟨A', B', ?_, hA'⟩
    rw [← e2, u_264_9]
    have s5 : (sth I kd w m (y + 1)).1 = (sth I kd w m y).1 + sst (spn kd w y) (sth I kd w m y).1 (mdb (nws I y) (sth I kd w m y).2) := rfl
    have s6 : (sth I kd w m (y + 1)).2 = mdb (nws I y) (sth I kd w m y).2 := rfl
    rw [s5, s6, en, show (((y + 1 : Nat)) : Int) = (y : Int) + 1 by omega]
    rw [en] at hmd
    unfold sst
    simp (disch := omega) only [v_264_69, u_264_0, x_iload3, x_istore4i, x_istore4r, x_istore4u, x_sipush, x_istore5i, x_istore5r, x_istore5u, x_istore6i, x_istore6r, x_istore6u, x_jsr, x_iload6, x_if_icmp_ge, x_aload0, k_69_25, x_iload5, k_69_26, x_iload4, k_69_0, x_iadd, x_call2_0, x_call2_1, x_call2_2, x_call2_3, x_call2_4, e_k_s, e_k_i, List.nil_append, List.cons_append, x_iload1, x_iload2, x_call3_0, x_call3_1, x_call3_2, x_call3_3, x_call3_4, x_istore7i, x_istore7r, x_istore7u, x_iload7, x_isub, x_istore8i, x_istore8r, x_istore8u, x_iload8, x_ifCond_gt, x_goto, u_264_78, x_if_icmp_le, u_264_94, u_264_96, x_iinc6i, x_iinc6r, x_iinc6u, u_264_105, x_return, ia_70, is_70, ia_81, is_81, ia_82, is_82, loo_ua, loo_ub, mk_r, loo_70, e8, e1, e3, b01_0, ite_not, if_true, if_false, Int.reduceLT, Int.reduceEq]
    rw [if_pos (by omega)]
    by_cases q1 : 0 < spn kd w y - (sth I kd w m y).1
    · rw [if_pos q1]
      by_cases q2 : mdb (I 8 y) (sth I kd w m y).2 + 1 < spn kd w y - (sth I kd w m y).1
      · rw [if_pos q2, if_neg (by omega), if_pos q2]
      · rw [if_neg q2, if_neg (by omega), if_neg q2]
    · rw [if_neg q1, if_pos (by omega), Int.add_zero]
theorem m_tls (h : inv I) (hE : RE I (M 70)) {c : co} {sc ff : Int} {P A B : Int → Int} {kd w m : Int} (hk : rg kd) (hw : 0 ≤ w ∧ w ≤ 9) (hm : 0 ≤ m ∧ m ≤ 9) : ∃ A' B', s_S X (d + 3) 264 [.ref 69, .int (iI kd), .int (iI w), .int (iI m)] (mm (mk (loo M ff A B) (I 1 9) c sc P) J) = some ([], mm (mk (loo M ff A' B') (I 1 9) c sc P) J) ∧ ∀ j : Nat, j < 16 → A' j = (sth I kd w m j).1 ∧ B' j = (sth I kd w m j).2 := by
  obtain ⟨A', B', e, hA⟩ := m_tl1 (X := X) (d := d) (J := J) (M := M) h hE (c := c) (sc := sc) (ff := ff) (P := P) hk hw hm 16 0 A B (.retAddr 0) (.retAddr 0) (by decide) (fun j hj => by omega)
  refine ⟨A', B', ?_, hA⟩
  have e' : s_j X (d + 2) 264 9 [.ref 69, .int (iI kd), .int (iI w), .int (iI m), .int (iI m), .int (iI 0), .int (iI 0), .retAddr 0, .retAddr 0] [] (mm (mk (loo M ff A B) (I 1 9) c sc P) J) = some ([], mm (mk (loo M ff A' B') (I 1 9) c sc P) J) := e
  simp (disch := omega) only [v_264_69, u_264_0, x_iload3, x_istore4i, x_istore4r, x_istore4u, x_sipush, x_istore5i, x_istore5r, x_istore5u, x_istore6i, x_istore6r, x_istore6u, x_jsr, x_iload6, x_if_icmp_ge, x_aload0, k_69_25, x_iload5, k_69_26, x_iload4, k_69_0, x_iadd, x_call2_0, x_call2_1, x_call2_2, x_call2_3, x_call2_4, e_k_s, e_k_i, List.nil_append, List.cons_append, x_iload1, x_iload2, x_call3_0, x_call3_1, x_call3_2, x_call3_3, x_call3_4, x_istore7i, x_istore7r, x_istore7u, x_iload7, x_isub, x_istore8i, x_istore8r, x_istore8u, x_iload8, x_ifCond_gt, x_goto, u_264_78, x_if_icmp_le, u_264_94, u_264_96, x_iinc6i, x_iinc6r, x_iinc6u, u_264_105, x_return, ia_70, is_70, ia_81, is_81, ia_82, is_82, e', b01_0, ite_not, if_true, if_false, Int.reduceLT, Int.reduceEq]
theorem m_iss (h : inv I) (hp : rpk I) (hP : RP I (M 70)) {c : co} {sc ff : Int} {P A B : Int → Int} {kd w m : Int} (hw : 0 ≤ w ∧ w ≤ 9) (hm : 0 ≤ m ∧ m ≤ 9) (hA : ∀ j : Nat, j < 16 → A j = (sth I kd w m j).1 ∧ B j = (sth I kd w m j).2) {r : Int} (hr : 0 ≤ r ∧ r < I 15 4) : s_S X (d + 2) 265 [.ref 69, .int (iI r)] (mm (mk (loo M ff A B) (I 1 9) c sc P) J) = some ([.int (iI (if ¬ bad I kd w m r then 1 else 0))], mm (mk (loo M ff A B) (I 1 9) c sc P) J) := by
  have hn6 := h.1
  have h6 := hp.1
  obtain ⟨p1, p2, p3, p4⟩ := hP.2 r hr.1 hr.2
  obtain ⟨r1, r2, r3, r4⟩ := hp.2 r hr.1 hr.2
  obtain ⟨a1, a2⟩ := hA (I 16 r).toNat (by omega)
  rw [Int.toNat_of_nonneg r1.1] at a1 a2
  obtain ⟨s1, s2⟩ := sth_b h (kd := kd) hw hm (I 16 r).toNat
  unfold bad
  by_cases q : I 17 r = 0
  · simp only [if_pos q]
    simp (disch := omega) only [v_265_69, u_265_0, x_sipush, x_iload1, x_imul, x_iadd, x_istore2i, x_istore2r, x_istore2u, x_aload0, k_69_0, x_iload2, x_ifCond_ne, x_ifCond_neb, k_69_25, x_goto, u_265_32, k_69_26, x_jsr, u_265_43, x_istore3i, x_istore3r, x_istore3u, x_iload3, x_call3_0, x_call3_1, x_call3_2, x_call3_3, x_call3_4, e_k_s, e_k_i, List.nil_append, List.cons_append, x_zret0, x_zret1, x_zretb, ia_70, ia_81, ia_82, mk_r, loo_70, p1, p2, p3, p4, loo_a, a1, q, m_in1, b01_0, ite_not, if_true, if_false, Int.reduceLT, Int.reduceEq]
    (repeat' split) <;> first | rfl | (exfalso; omega) | (refine sv ?_; omega)
  · simp only [if_neg q]
    simp (disch := omega) only [v_265_69, u_265_0, x_sipush, x_iload1, x_imul, x_iadd, x_istore2i, x_istore2r, x_istore2u, x_aload0, k_69_0, x_iload2, x_ifCond_ne, x_ifCond_neb, k_69_25, x_goto, u_265_32, k_69_26, x_jsr, u_265_43, x_istore3i, x_istore3r, x_istore3u, x_iload3, x_call3_0, x_call3_1, x_call3_2, x_call3_3, x_call3_4, e_k_s, e_k_i, List.nil_append, List.cons_append, x_zret0, x_zret1, x_zretb, ia_70, ia_81, ia_82, mk_r, loo_70, p1, p2, p3, p4, loo_b, a2, m_in1, b01_0, ite_not, if_true, if_false, Int.reduceLT, Int.reduceEq]
    rw [if_neg q]
    (repeat' split) <;> first | rfl | (exfalso; omega) | (refine sv ?_; omega)
theorem m_fi1 (h : inv I) (hp : rpk I) (hP : RP I (M 70)) {c : co} {sc ff : Int} {P A B : Int → Int} {kd w m : Int} (hw : 0 ≤ w ∧ w ≤ 9) (hm : 0 ≤ m ∧ m ≤ 9) (hA : ∀ j : Nat, j < 16 → A j = (sth I kd w m j).1 ∧ B j = (sth I kd w m j).2) {but : Int} (hb : rg but) {v2 v3 : Int32} : ∀ (n : Nat) (r : Int), 0 ≤ r → r + n = I 15 4 → ∃ r', s_j X (d + 3) 263 43 [.ref 69, .int (iI but), .int v2, .int v3, .int (iI 1), .int (iI r)] [] (mm (mk (loo M ff A B) (I 1 9) c sc P) J) = s_j X (d + 3) 263 88 [.ref 69, .int (iI but), .int v2, .int v3, .int (iI (if okr I but kd w m n r = true then 1 else 0)), .int r'] [] (mm (mk (loo M ff A B) (I 1 9) c sc P) J) := by
  have hn6 := h.1
  have h6 := hp.1
  have e8 := hP.1
  intro n
  induction n with
  | zero =>
    intro r h0 hn
    refine ⟨iI r, ?_⟩
    rw [u_263_43]
    simp (disch := omega) only [v_263_69, u_263_0, x_sipush, x_istore2i, x_istore2r, x_istore2u, x_aload0, p_69_27, x_istore3i, x_istore3r, x_istore3u, x_jsr, u_263_9, x_iload3, x_if_icmp_ge, x_idivI, x_iadd, x_iremI, x_call4_0, x_call4_1, x_call4_2, x_call4_3, x_call4_4, e_k_s, e_k_i, List.nil_append, List.cons_append, x_istore4i, x_istore4r, x_istore4u, x_istore5i, x_istore5r, x_istore5u, x_iload5, k_69_0, x_iload4, x_ifCond_eq, x_ifCond_eqb, x_iload1, x_if_icmp_eq, x_call2_0, x_call2_1, x_call2_2, x_call2_3, x_call2_4, u_263_75, x_goto, u_263_79, u_263_80, x_iinc5i, x_iinc5r, x_iinc5u, x_iload2, u_263_98, u_263_99, f_69_27, x_ifCond_ge, u_263_118, u_263_122, x_iinc3i, x_iinc3r, x_iinc3u, u_263_131, x_ireturn, ia_70, mk_r, loo_70, e8, b01_0, ite_not, if_true, if_false, Int.reduceLT, Int.reduceEq]
    rw [if_neg (by omega)]
    rfl
  | succ n ih =>
    intro r h0 hn
    have e1 := m_iss (X := X) (d := d + 1) (J := J) (M := M) h hp hP (c := c) (sc := sc) (ff := ff) (P := P) hw hm hA (r := r) ⟨h0, by omega⟩
    obtain ⟨r', e2⟩ := ih (r + 1) (by omega) (by omega)
    have hok : okr I but kd w m (n + 1) r = if r = but ∨ ¬ bad I kd w m r then okr I but kd w m n (r + 1) else false := rfl
    rw [hok, u_263_43]
    by_cases q1 : r = but
    · refine ⟨r', ?_⟩
      rw [if_pos (Or.inl q1), ← e2]
      simp (disch := omega) only [v_263_69, u_263_0, x_sipush, x_istore2i, x_istore2r, x_istore2u, x_aload0, p_69_27, x_istore3i, x_istore3r, x_istore3u, x_jsr, u_263_9, x_iload3, x_if_icmp_ge, x_idivI, x_iadd, x_iremI, x_call4_0, x_call4_1, x_call4_2, x_call4_3, x_call4_4, e_k_s, e_k_i, List.nil_append, List.cons_append, x_istore4i, x_istore4r, x_istore4u, x_istore5i, x_istore5r, x_istore5u, x_iload5, k_69_0, x_iload4, x_ifCond_eq, x_ifCond_eqb, x_iload1, x_if_icmp_eq, x_call2_0, x_call2_1, x_call2_2, x_call2_3, x_call2_4, u_263_75, x_goto, u_263_79, u_263_80, x_iinc5i, x_iinc5r, x_iinc5u, x_iload2, u_263_98, u_263_99, f_69_27, x_ifCond_ge, u_263_118, u_263_122, x_iinc3i, x_iinc3r, x_iinc3u, u_263_131, x_ireturn, ia_70, mk_r, loo_70, e8, b01_0, ite_not, if_true, if_false, Int.reduceLT, Int.reduceEq]
      rw [if_pos (by omega), if_pos q1]
    · by_cases q2 : bad I kd w m r
      · rw [if_neg (not_not_intro q2)] at e1
        refine ⟨iI (r + 1), ?_⟩
        rw [if_neg (c := r = but ∨ ¬ bad I kd w m r) (fun z => z.elim q1 (fun z => z q2))]
        simp (disch := omega) only [v_263_69, u_263_0, x_sipush, x_istore2i, x_istore2r, x_istore2u, x_aload0, p_69_27, x_istore3i, x_istore3r, x_istore3u, x_jsr, u_263_9, x_iload3, x_if_icmp_ge, x_idivI, x_iadd, x_iremI, x_call4_0, x_call4_1, x_call4_2, x_call4_3, x_call4_4, e_k_s, e_k_i, List.nil_append, List.cons_append, x_istore4i, x_istore4r, x_istore4u, x_istore5i, x_istore5r, x_istore5u, x_iload5, k_69_0, x_iload4, x_ifCond_eq, x_ifCond_eqb, x_iload1, x_if_icmp_eq, x_call2_0, x_call2_1, x_call2_2, x_call2_3, x_call2_4, u_263_75, x_goto, u_263_79, u_263_80, x_iinc5i, x_iinc5r, x_iinc5u, x_iload2, u_263_98, u_263_99, f_69_27, x_ifCond_ge, u_263_118, u_263_122, x_iinc3i, x_iinc3r, x_iinc3u, u_263_131, x_ireturn, ia_70, mk_r, loo_70, e8, e1, b01_0, ite_not, if_true, if_false, Int.reduceLT, Int.reduceEq]
        rw [if_pos (by omega), if_neg q1, u_263_43]
        simp (disch := omega) only [v_263_69, u_263_0, x_sipush, x_istore2i, x_istore2r, x_istore2u, x_aload0, p_69_27, x_istore3i, x_istore3r, x_istore3u, x_jsr, u_263_9, x_iload3, x_if_icmp_ge, x_idivI, x_iadd, x_iremI, x_call4_0, x_call4_1, x_call4_2, x_call4_3, x_call4_4, e_k_s, e_k_i, List.nil_append, List.cons_append, x_istore4i, x_istore4r, x_istore4u, x_istore5i, x_istore5r, x_istore5u, x_iload5, k_69_0, x_iload4, x_ifCond_eq, x_ifCond_eqb, x_iload1, x_if_icmp_eq, x_call2_0, x_call2_1, x_call2_2, x_call2_3, x_call2_4, u_263_75, x_goto, u_263_79, u_263_80, x_iinc5i, x_iinc5r, x_iinc5u, x_iload2, u_263_98, u_263_99, f_69_27, x_ifCond_ge, u_263_118, u_263_122, x_iinc3i, x_iinc3r, x_iinc3u, u_263_131, x_ireturn, ia_70, mk_r, loo_70, e8, b01_0, ite_not, if_true, if_false, Int.reduceLT, Int.reduceEq]
        by_cases z : r + 1 < I 15 4
        · rw [if_pos z]; rfl
        · rw [if_neg z]; rfl
      · rw [if_pos q2] at e1
        refine ⟨r', ?_⟩
        rw [if_pos (Or.inr q2), ← e2]
        simp (disch := omega) only [v_263_69, u_263_0, x_sipush, x_istore2i, x_istore2r, x_istore2u, x_aload0, p_69_27, x_istore3i, x_istore3r, x_istore3u, x_jsr, u_263_9, x_iload3, x_if_icmp_ge, x_idivI, x_iadd, x_iremI, x_call4_0, x_call4_1, x_call4_2, x_call4_3, x_call4_4, e_k_s, e_k_i, List.nil_append, List.cons_append, x_istore4i, x_istore4r, x_istore4u, x_istore5i, x_istore5r, x_istore5u, x_iload5, k_69_0, x_iload4, x_ifCond_eq, x_ifCond_eqb, x_iload1, x_if_icmp_eq, x_call2_0, x_call2_1, x_call2_2, x_call2_3, x_call2_4, u_263_75, x_goto, u_263_79, u_263_80, x_iinc5i, x_iinc5r, x_iinc5u, x_iload2, u_263_98, u_263_99, f_69_27, x_ifCond_ge, u_263_118, u_263_122, x_iinc3i, x_iinc3r, x_iinc3u, u_263_131, x_ireturn, ia_70, mk_r, loo_70, e8, e1, b01_0, ite_not, if_true, if_false, Int.reduceLT, Int.reduceEq]
        rw [if_pos (by omega), if_neg q1]
theorem m_fi2 (h : inv I) (hE : RE I (M 70)) (hp : rpk I) (hP : RP I (M 70)) {c : co} {sc : Int} {P : Int → Int} {but : Int} (hb : rg but) : ∀ (n : Nat) (cd a ff : Int) (A B : Int → Int) (w4 w5 : Value), 0 ≤ cd → cd + n = 500 → (0 ≤ a ∧ a ≤ cd) → (-1 ≤ ff ∧ ff < 500) → ∃ A' B', s_j X (d + 3) 263 9 [.ref 69, .int (iI but), .int (iI a), .int (iI cd), w4, w5] [] (mm (mk (loo M ff A B) (I 1 9) c sc P) J) = some ([.int (iI (fcn I but n cd a))], mm (mk (loo M (fff I but n cd ff) A' B') (I 1 9) c sc P) J) := by
  have h6 := hp.1
  intro n
  induction n with
  | zero =>
    intro cd a ff A B w4 w5 h0 hn ha hf
    refine ⟨A, B, ?_⟩
    rw [u_263_9]
    simp (disch := omega) only [v_263_69, u_263_0, x_sipush, x_istore2i, x_istore2r, x_istore2u, x_aload0, p_69_27, x_istore3i, x_istore3r, x_istore3u, x_jsr, x_iload3, x_if_icmp_ge, x_idivI, x_iadd, x_iremI, x_call4_0, x_call4_1, x_call4_2, x_call4_3, x_call4_4, e_k_s, e_k_i, List.nil_append, List.cons_append, x_istore4i, x_istore4r, x_istore4u, x_istore5i, x_istore5r, x_istore5u, x_iload5, k_69_0, x_iload4, x_ifCond_eq, x_ifCond_eqb, x_iload1, x_if_icmp_eq, x_call2_0, x_call2_1, x_call2_2, x_call2_3, x_call2_4, u_263_75, x_goto, u_263_79, u_263_80, x_iinc5i, x_iinc5r, x_iinc5u, u_263_88, x_iload2, u_263_98, u_263_99, f_69_27, x_ifCond_ge, u_263_118, u_263_122, x_iinc3i, x_iinc3r, x_iinc3u, u_263_131, x_ireturn, ia_70, b01_0, ite_not, if_true, if_false, Int.reduceLT, Int.reduceEq]
    rw [if_neg (by omega)]
    rfl
  | succ n ih =>
    intro cd a ff A B w4 w5 h0 hn ha hf
    obtain ⟨d1, d2, d3, -⟩ := dig cd (by omega)
    obtain ⟨A1, B1, e1, hA⟩ := m_tls (X := X) (d := d) (J := J) (M := M) h hE (c := c) (sc := sc) (ff := ff) (P := P) (A := A) (B := B) (kd := kk cd) (w := ww cd) (m := mq cd) ⟨by omega, by omega⟩ d2 d3
    obtain ⟨r', e2⟩ := m_fi1 (X := X) (d := d) (J := J) (M := M) h hp hP (c := c) (sc := sc) (ff := ff) (P := P) (kd := kk cd) d2 d3 hA hb (v2 := iI a) (v3 := iI cd) (I 15 4).toNat 0 (by decide) (by omega)
    rw [show okr I but (kk cd) (ww cd) (mq cd) (I 15 4).toNat 0 = okc I but cd from rfl] at e2
    unfold kk ww mq at e1
    have t1 := tdiv_n (a := cd) (b := 100) (by omega)
    have t2 := tdiv_n (a := cd) (b := 10) (by omega)
    have t3 := tmod_n (a := cd) (b := 10) (by omega)
    have t4 := tmod_n (a := cd / 10) (b := 10) (by omega)
    have hfc : fcn I but (n + 1) cd a = fcn I but n (cd + 1) (a + (if okc I but cd = true then 1 else 0)) := rfl
    have hff : fff I but (n + 1) cd ff = fff I but n (cd + 1) (if okc I but cd = true ∧ ff < 0 then cd else ff) := rfl
    rw [hfc, hff]
    by_cases q : okc I but cd = true
    · rw [if_pos q] at e2 ⊢
      by_cases q2 : ff < 0
      · obtain ⟨A', B', e3⟩ := ih (cd + 1) (a + 1) cd A1 B1 (.int (iI 1)) (.int r') (by omega) (by omega) (by omega) (by omega)
        refine ⟨A', B', ?_⟩
        rw [if_pos ⟨q, q2⟩, ← e3, u_263_9]
        simp (disch := omega) only [v_263_69, u_263_0, x_sipush, x_istore2i, x_istore2r, x_istore2u, x_aload0, p_69_27, x_istore3i, x_istore3r, x_istore3u, x_jsr, x_iload3, x_if_icmp_ge, x_idivI, x_iadd, x_iremI, x_call4_0, x_call4_1, x_call4_2, x_call4_3, x_call4_4, e_k_s, e_k_i, List.nil_append, List.cons_append, x_istore4i, x_istore4r, x_istore4u, x_istore5i, x_istore5r, x_istore5u, x_iload5, k_69_0, x_iload4, x_ifCond_eq, x_ifCond_eqb, x_iload1, x_if_icmp_eq, x_call2_0, x_call2_1, x_call2_2, x_call2_3, x_call2_4, u_263_75, x_goto, u_263_79, u_263_80, x_iinc5i, x_iinc5r, x_iinc5u, u_263_88, x_iload2, u_263_98, u_263_99, f_69_27, x_ifCond_ge, u_263_118, u_263_122, x_iinc3i, x_iinc3r, x_iinc3u, u_263_131, x_ireturn, ia_70, t1, t2, t3, t4, e1, e2, loo_f, loo_uf, b01_0, ite_not, if_true, if_false, Int.reduceLT, Int.reduceEq]
        rw [if_pos (by omega), if_pos q2]
      · obtain ⟨A', B', e3⟩ := ih (cd + 1) (a + 1) ff A1 B1 (.int (iI 1)) (.int r') (by omega) (by omega) (by omega) (by omega)
        refine ⟨A', B', ?_⟩
        rw [if_neg (fun z => q2 z.2), ← e3, u_263_9]
        simp (disch := omega) only [v_263_69, u_263_0, x_sipush, x_istore2i, x_istore2r, x_istore2u, x_aload0, p_69_27, x_istore3i, x_istore3r, x_istore3u, x_jsr, x_iload3, x_if_icmp_ge, x_idivI, x_iadd, x_iremI, x_call4_0, x_call4_1, x_call4_2, x_call4_3, x_call4_4, e_k_s, e_k_i, List.nil_append, List.cons_append, x_istore4i, x_istore4r, x_istore4u, x_istore5i, x_istore5r, x_istore5u, x_iload5, k_69_0, x_iload4, x_ifCond_eq, x_ifCond_eqb, x_iload1, x_if_icmp_eq, x_call2_0, x_call2_1, x_call2_2, x_call2_3, x_call2_4, u_263_75, x_goto, u_263_79, u_263_80, x_iinc5i, x_iinc5r, x_iinc5u, u_263_88, x_iload2, u_263_98, u_263_99, f_69_27, x_ifCond_ge, u_263_118, u_263_122, x_iinc3i, x_iinc3r, x_iinc3u, u_263_131, x_ireturn, ia_70, t1, t2, t3, t4, e1, e2, loo_f, loo_uf, b01_0, ite_not, if_true, if_false, Int.reduceLT, Int.reduceEq]
        rw [if_pos (by omega), if_neg q2]
    · rw [if_neg q] at e2 ⊢
      obtain ⟨A', B', e3⟩ := ih (cd + 1) a ff A1 B1 (.int (iI 0)) (.int r') (by omega) (by omega) (by omega) (by omega)
      refine ⟨A', B', ?_⟩
      rw [if_neg (fun z => q z.1), Int.add_zero, ← e3, u_263_9]
      simp (disch := omega) only [v_263_69, u_263_0, x_sipush, x_istore2i, x_istore2r, x_istore2u, x_aload0, p_69_27, x_istore3i, x_istore3r, x_istore3u, x_jsr, x_iload3, x_if_icmp_ge, x_idivI, x_iadd, x_iremI, x_call4_0, x_call4_1, x_call4_2, x_call4_3, x_call4_4, e_k_s, e_k_i, List.nil_append, List.cons_append, x_istore4i, x_istore4r, x_istore4u, x_istore5i, x_istore5r, x_istore5u, x_iload5, k_69_0, x_iload4, x_ifCond_eq, x_ifCond_eqb, x_iload1, x_if_icmp_eq, x_call2_0, x_call2_1, x_call2_2, x_call2_3, x_call2_4, u_263_75, x_goto, u_263_79, u_263_80, x_iinc5i, x_iinc5r, x_iinc5u, u_263_88, x_iload2, u_263_98, u_263_99, f_69_27, x_ifCond_ge, u_263_118, u_263_122, x_iinc3i, x_iinc3r, x_iinc3u, u_263_131, x_ireturn, ia_70, t1, t2, t3, t4, e1, e2, loo_f, loo_uf, Int.add_zero, b01_0, ite_not, if_true, if_false, Int.reduceLT, Int.reduceEq]
      rw [if_pos (by omega)]
theorem m_fit (h : inv I) (hE : RE I (M 70)) (hp : rpk I) (hP : RP I (M 70)) {c : co} {sc ff : Int} {A B P : Int → Int} {but : Int} (hb : rg but) : ∃ A' B', s_S X (d + 4) 263 [.ref 69, .int (iI but)] (mm (mk (loo M ff A B) (I 1 9) c sc P) J) = some ([.int (iI (fcn I but 500 0 0))], mm (mk (loo M (fff I but 500 0 (-1)) A' B') (I 1 9) c sc P) J) := by
  obtain ⟨A', B', e⟩ := m_fi2 (X := X) (d := d) (J := J) (M := M) h hE hp hP (c := c) (sc := sc) (P := P) hb 500 0 0 (-1) A B (.retAddr 0) (.retAddr 0) (by decide) (by decide) (by decide) (by decide)
  refine ⟨A', B', ?_⟩
  simp (disch := omega) only [v_263_69, u_263_0, x_sipush, x_istore2i, x_istore2r, x_istore2u, x_aload0, p_69_27, x_istore3i, x_istore3r, x_istore3u, x_jsr, x_iload3, x_if_icmp_ge, x_idivI, x_iadd, x_iremI, x_call4_0, x_call4_1, x_call4_2, x_call4_3, x_call4_4, e_k_s, e_k_i, List.nil_append, List.cons_append, x_istore4i, x_istore4r, x_istore4u, x_istore5i, x_istore5r, x_istore5u, u_263_43, x_iload5, k_69_0, x_iload4, x_ifCond_eq, x_ifCond_eqb, x_iload1, x_if_icmp_eq, x_call2_0, x_call2_1, x_call2_2, x_call2_3, x_call2_4, u_263_75, x_goto, u_263_79, u_263_80, x_iinc5i, x_iinc5r, x_iinc5u, u_263_88, x_iload2, u_263_98, u_263_99, f_69_27, x_ifCond_ge, u_263_118, u_263_122, x_iinc3i, x_iinc3r, x_iinc3u, u_263_131, x_ireturn, ia_70, loo_uf, e, b01_0, ite_not, if_true, if_false, Int.reduceLT, Int.reduceEq]
def mli (I : Nat → Int → Int) : Nat → Int → Int
  | 0, _ => -3
  | n + 1, r => if 0 < fcn I r 500 0 0 then r else mli I n (r + 1)
theorem m_li1 (h : inv I) (hE : RE I (M 70)) (hp : rpk I) (hP : RP I (M 70)) {c : co} {sc : Int} {P : Int → Int} : ∀ (n : Nat) (r ff : Int) (A B : Int → Int), 0 ≤ r → r + n = I 15 4 → ∃ ff' A' B', s_j X (d + 4) 266 13 [.ref 69, .int (iI r)] [] (mm (mk (loo M ff A B) (I 1 9) c sc P) J) = some ([.int (iI (mli I n r))], mm (mk (loo M ff' A' B') (I 1 9) c sc P) J) := by
  have hn6 := h.1
  have h6 := hp.1
  have e8 := hP.1
  intro n
  induction n with
  | zero =>
    intro r ff A B h0 hn
    refine ⟨ff, A, B, ?_⟩
    rw [u_266_13]
    simp (disch := omega) only [v_266_69, u_266_0, x_aload0, x_sipush, x_call2_0, x_call2_1, x_call2_2, x_call2_3, x_call2_4, e_k_s, e_k_i, List.nil_append, List.cons_append, x_ifCond_le, x_ireturn, u_266_11, x_istore1i, x_istore1r, x_istore1u, x_jsr, x_iload1, k_69_0, x_if_icmp_ge, u_266_34, x_iinc1i, x_iinc1r, x_iinc1u, x_goto, u_266_40, ia_70, mk_r, loo_70, e8, b01_0, ite_not, if_true, if_false, Int.reduceLT, Int.reduceEq]
    rw [if_neg (by omega)]
    rfl
  | succ n ih =>
    intro r ff A B h0 hn
    obtain ⟨A1, B1, e1⟩ := m_fit (X := X) (d := d) (J := J) (M := M) h hE hp hP (c := c) (sc := sc) (ff := ff) (A := A) (B := B) (P := P) (but := r) ⟨by omega, by omega⟩
    have hb := fcn_b (I := I) (but := r) 500 0 0
    have hm : mli I (n + 1) r = if 0 < fcn I r 500 0 0 then r else mli I n (r + 1) := rfl
    rw [hm, u_266_13]
    by_cases q : 0 < fcn I r 500 0 0
    · refine ⟨fff I r 500 0 (-1), A1, B1, ?_⟩
      rw [if_pos q]
      simp (disch := omega) only [v_266_69, u_266_0, x_aload0, x_sipush, x_call2_0, x_call2_1, x_call2_2, x_call2_3, x_call2_4, e_k_s, e_k_i, List.nil_append, List.cons_append, x_ifCond_le, x_ireturn, u_266_11, x_istore1i, x_istore1r, x_istore1u, x_jsr, x_iload1, k_69_0, x_if_icmp_ge, u_266_34, x_iinc1i, x_iinc1r, x_iinc1u, x_goto, u_266_40, ia_70, mk_r, loo_70, e8, e1, b01_0, ite_not, if_true, if_false, Int.reduceLT, Int.reduceEq]
      rw [if_pos (by omega), if_pos q]
    · obtain ⟨ff', A', B', e2⟩ := ih (r + 1) (fff I r 500 0 (-1)) A1 B1 (by omega) (by omega)
      refine ⟨ff', A', B', ?_⟩
      rw [if_neg q, ← e2]
      simp (disch := omega) only [v_266_69, u_266_0, x_aload0, x_sipush, x_call2_0, x_call2_1, x_call2_2, x_call2_3, x_call2_4, e_k_s, e_k_i, List.nil_append, List.cons_append, x_ifCond_le, x_ireturn, u_266_11, x_istore1i, x_istore1r, x_istore1u, x_jsr, x_iload1, k_69_0, x_if_icmp_ge, u_266_34, x_iinc1i, x_iinc1r, x_iinc1u, x_goto, u_266_40, ia_70, mk_r, loo_70, e8, e1, b01_0, ite_not, if_true, if_false, Int.reduceLT, Int.reduceEq]
      rw [if_pos (by omega), if_neg q]
theorem m_lia (h : inv I) (hE : RE I (M 70)) (hp : rpk I) (hP : RP I (M 70)) {c : co} {sc : Int} {P : Int → Int} : ∃ ff' A' B', s_S X (d + 5) 266 [.ref 69] (mm (mk M (I 1 9) c sc P) J) = some ([.int (iI (if 0 < fcn I (-1) 500 0 0 then -3 else mli I (I 15 4).toNat 0))], mm (mk (loo M ff' A' B') (I 1 9) c sc P) J) := by
  obtain ⟨A1, B1, e1⟩ := m_fit (X := X) (d := d) (J := J) (M := M) h hE hp hP (c := c) (sc := sc) (ff := M 69 27) (A := M 81) (B := M 82) (P := P) (but := -1) (by decide)
  rw [loo_id] at e1
  have hb := fcn_b (I := I) (but := -1) 500 0 0
  by_cases q : 0 < fcn I (-1) 500 0 0
  · refine ⟨fff I (-1) 500 0 (-1), A1, B1, ?_⟩
    rw [if_pos q]
    simp (disch := omega) only [v_266_69, u_266_0, x_aload0, x_sipush, x_call2_0, x_call2_1, x_call2_2, x_call2_3, x_call2_4, e_k_s, e_k_i, List.nil_append, List.cons_append, x_ifCond_le, x_ireturn, u_266_11, x_istore1i, x_istore1r, x_istore1u, x_jsr, x_iload1, k_69_0, x_if_icmp_ge, u_266_34, x_iinc1i, x_iinc1r, x_iinc1u, x_goto, u_266_40, ia_70, e1, b01_0, ite_not, if_true, if_false, Int.reduceLT, Int.reduceEq]
    rw [if_pos q]
  · obtain ⟨ff', A', B', e2⟩ := m_li1 (X := X) (d := d) (J := J) (M := M) h hE hp hP (c := c) (sc := sc) (P := P) (I 15 4).toNat 0 (fff I (-1) 500 0 (-1)) A1 B1 (by decide) (by have := hp.1; omega)
    refine ⟨ff', A', B', ?_⟩
    rw [if_neg q, ← e2]
    simp (disch := omega) only [v_266_69, u_266_0, x_aload0, x_sipush, x_call2_0, x_call2_1, x_call2_2, x_call2_3, x_call2_4, e_k_s, e_k_i, List.nil_append, List.cons_append, x_ifCond_le, x_ireturn, u_266_11, x_istore1i, x_istore1r, x_istore1u, x_jsr, x_iload1, k_69_0, x_if_icmp_ge, u_266_34, x_iinc1i, x_iinc1r, x_iinc1u, x_goto, u_266_40, ia_70, e1, b01_0, ite_not, if_true, if_false, Int.reduceLT, Int.reduceEq]
    rw [if_neg q]
theorem fff_p {I : Nat → Int → Int} {but : Int} : ∀ (n : Nat) (c a f : Int), 0 ≤ c → (0 ≤ f ∨ a < fcn I but n c a) → 0 ≤ fff I but n c f
  | 0, c, a, f, _, h => by
    rcases h with h | h
    · exact h
    · unfold fcn at h; omega
  | n + 1, c, a, f, h0, h => by
    unfold fff
    unfold fcn at h
    refine fff_p n (c + 1) (a + (if okc I but c = true then 1 else 0)) _ (by omega) ?_
    by_cases q : okc I but c = true
    · left
      by_cases hf : f < 0
      · rw [if_pos ⟨q, hf⟩]; exact h0
      · rw [if_neg (fun z => hf z.2)]; omega
    · rw [if_neg (fun z => q z.1)]
      rcases h with h | h
      · exact Or.inl h
      · right
        rw [if_neg q] at h ⊢
        omega
theorem m_los (h : inv I) (hE : RE I (M 70)) (hp : rpk I) (hP : RP I (M 70)) {c : co} {sc : Int} {P : Int → Int} {w : Int} (hw : 0 ≤ w ∧ w ≤ 3) : ∃ ff' A' B', s_S X (d + 5) 262 [.ref 69, .int (iI w)] (mm (mk M (I 1 9) c sc P) J) = some ([.int (iI (if w = 0 then fcn I (-1) 500 0 0 else if fcn I (-1) 500 0 0 = 0 then -3 else if w = 1 then kk (fff I (-1) 500 0 (-1)) else if w = 2 then ww (fff I (-1) 500 0 (-1)) else mq (fff I (-1) 500 0 (-1))))], mm (mk (loo M ff' A' B') (I 1 9) c sc P) J) := by
  obtain ⟨A1, B1, e1⟩ := m_fit (X := X) (d := d) (J := J) (M := M) h hE hp hP (c := c) (sc := sc) (ff := M 69 27) (A := M 81) (B := M 82) (P := P) (but := -1) (by decide)
  rw [loo_id] at e1
  have hb := fcn_b (I := I) (but := -1) 500 0 0
  have hf := fff_b (I := I) (but := -1) 500 0 (-1) (by decide) (by decide) (by decide)
  refine ⟨fff I (-1) 500 0 (-1), A1, B1, ?_⟩
  have : w = 0 ∨ w = 1 ∨ w = 2 ∨ w = 3 := by omega
  rcases this with rfl | rfl | rfl | rfl
  · simp (disch := omega) only [v_262_69, u_262_0, x_iload1, x_sipush, x_call3_0, x_call3_1, x_call3_2, x_call3_3, x_call3_4, e_k_s, e_k_i, List.nil_append, List.cons_append, x_ifCond_ne, x_ifCond_neb, x_ireturn, u_262_11, x_aload0, x_call2_0, x_call2_1, x_call2_2, x_call2_3, x_call2_4, x_istore2i, x_istore2r, x_istore2u, x_ifCond_le, x_iload2, u_262_28, x_goto, u_262_36, x_if_icmp_ne, f_69_27, x_idivI, x_iadd, u_262_53, x_iremI, u_262_71, x_jsr, u_262_78, m_in1, e1, b01_0, ite_not, if_true, if_false, Int.reduceLT, Int.reduceEq]
    rfl
  · unfold kk
    by_cases q : fcn I (-1) 500 0 0 = 0
    · simp (disch := omega) only [v_262_69, u_262_0, x_iload1, x_sipush, x_call3_0, x_call3_1, x_call3_2, x_call3_3, x_call3_4, e_k_s, e_k_i, List.nil_append, List.cons_append, x_ifCond_ne, x_ifCond_neb, x_ireturn, u_262_11, x_aload0, x_call2_0, x_call2_1, x_call2_2, x_call2_3, x_call2_4, x_istore2i, x_istore2r, x_istore2u, x_ifCond_le, x_iload2, u_262_28, x_goto, u_262_36, x_if_icmp_ne, f_69_27, x_idivI, x_iadd, u_262_53, x_iremI, u_262_71, x_jsr, u_262_78, m_in1, e1, q, ↓reduceIte, b01_0, ite_not, if_true, if_false, Int.reduceLT, Int.reduceEq]
      rfl
    · have hp := fff_p (I := I) (but := -1) 500 0 0 (-1) (by decide) (Or.inr (by omega))
      have t1 := tdiv_n (a := fff I (-1) 500 0 (-1)) (b := 100) hp
      rw [if_neg (by decide), if_neg q, if_pos rfl]
      simp (disch := omega) only [v_262_69, u_262_0, x_iload1, x_sipush, x_call3_0, x_call3_1, x_call3_2, x_call3_3, x_call3_4, e_k_s, e_k_i, List.nil_append, List.cons_append, x_ifCond_ne, x_ifCond_neb, x_ireturn, u_262_11, x_aload0, x_call2_0, x_call2_1, x_call2_2, x_call2_3, x_call2_4, x_istore2i, x_istore2r, x_istore2u, x_ifCond_le, x_iload2, u_262_28, x_goto, u_262_36, x_if_icmp_ne, f_69_27, x_idivI, x_iadd, u_262_53, x_iremI, u_262_71, x_jsr, u_262_78, m_in1, e1, ↓reduceIte, loo_f, t1, b01_0, ite_not, if_true, if_false, Int.reduceLT, Int.reduceEq]
      rw [if_neg q]
      rfl
  · unfold ww
    by_cases q : fcn I (-1) 500 0 0 = 0
    · simp (disch := omega) only [v_262_69, u_262_0, x_iload1, x_sipush, x_call3_0, x_call3_1, x_call3_2, x_call3_3, x_call3_4, e_k_s, e_k_i, List.nil_append, List.cons_append, x_ifCond_ne, x_ifCond_neb, x_ireturn, u_262_11, x_aload0, x_call2_0, x_call2_1, x_call2_2, x_call2_3, x_call2_4, x_istore2i, x_istore2r, x_istore2u, x_ifCond_le, x_iload2, u_262_28, x_goto, u_262_36, x_if_icmp_ne, f_69_27, x_idivI, x_iadd, u_262_53, x_iremI, u_262_71, x_jsr, u_262_78, m_in1, e1, q, ↓reduceIte, b01_0, ite_not, if_true, if_false, Int.reduceLT, Int.reduceEq]
      rfl
    · have hp := fff_p (I := I) (but := -1) 500 0 0 (-1) (by decide) (Or.inr (by omega))
      have t1 := tdiv_n (a := fff I (-1) 500 0 (-1)) (b := 10) hp
      have t2 := tmod_n (a := fff I (-1) 500 0 (-1) / 10) (b := 10) (by omega)
      rw [if_neg (by decide), if_neg q, if_neg (by decide), if_pos rfl]
      simp (disch := omega) only [v_262_69, u_262_0, x_iload1, x_sipush, x_call3_0, x_call3_1, x_call3_2, x_call3_3, x_call3_4, e_k_s, e_k_i, List.nil_append, List.cons_append, x_ifCond_ne, x_ifCond_neb, x_ireturn, u_262_11, x_aload0, x_call2_0, x_call2_1, x_call2_2, x_call2_3, x_call2_4, x_istore2i, x_istore2r, x_istore2u, x_ifCond_le, x_iload2, u_262_28, x_goto, u_262_36, x_if_icmp_ne, f_69_27, x_idivI, x_iadd, u_262_53, x_iremI, u_262_71, x_jsr, u_262_78, m_in1, e1, ↓reduceIte, loo_f, t1, t2, b01_0, ite_not, if_true, if_false, Int.reduceLT, Int.reduceEq]
      rw [if_neg q]
      rfl
  · unfold mq
    by_cases q : fcn I (-1) 500 0 0 = 0
    · simp (disch := omega) only [v_262_69, u_262_0, x_iload1, x_sipush, x_call3_0, x_call3_1, x_call3_2, x_call3_3, x_call3_4, e_k_s, e_k_i, List.nil_append, List.cons_append, x_ifCond_ne, x_ifCond_neb, x_ireturn, u_262_11, x_aload0, x_call2_0, x_call2_1, x_call2_2, x_call2_3, x_call2_4, x_istore2i, x_istore2r, x_istore2u, x_ifCond_le, x_iload2, u_262_28, x_goto, u_262_36, x_if_icmp_ne, f_69_27, x_idivI, x_iadd, u_262_53, x_iremI, u_262_71, x_jsr, u_262_78, m_in1, e1, q, ↓reduceIte, b01_0, ite_not, if_true, if_false, Int.reduceLT, Int.reduceEq]
      rfl
    · have hp := fff_p (I := I) (but := -1) 500 0 0 (-1) (by decide) (Or.inr (by omega))
      have t2 := tmod_n (a := fff I (-1) 500 0 (-1)) (b := 10) hp
      rw [if_neg (by decide), if_neg q, if_neg (by decide), if_neg (by decide)]
      simp (disch := omega) only [v_262_69, u_262_0, x_iload1, x_sipush, x_call3_0, x_call3_1, x_call3_2, x_call3_3, x_call3_4, e_k_s, e_k_i, List.nil_append, List.cons_append, x_ifCond_ne, x_ifCond_neb, x_ireturn, u_262_11, x_aload0, x_call2_0, x_call2_1, x_call2_2, x_call2_3, x_call2_4, x_istore2i, x_istore2r, x_istore2u, x_ifCond_le, x_iload2, u_262_28, x_goto, u_262_36, x_if_icmp_ne, f_69_27, x_idivI, x_iadd, u_262_53, x_iremI, u_262_71, x_jsr, u_262_78, m_in1, e1, ↓reduceIte, loo_f, t2, b01_0, ite_not, if_true, if_false, Int.reduceLT, Int.reduceEq]
      rw [if_neg q]
      rfl
end
