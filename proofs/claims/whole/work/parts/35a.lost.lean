/-! LOST PIECES, in the class -/
def sst (sp she md : Int) : Int := if sp - she ≤ 0 then 0 else if md + 1 < sp - she then md + 1 else sp - she
def sth (I : Nat → Int → Int) (kd w m : Int) : Nat → Int × Int
  | 0 => (0, m)
  | y + 1 => ((sth I kd w m y).1 + sst (spn kd w y) (sth I kd w m y).1 (mdb (nws I y) (sth I kd w m y).2), mdb (nws I y) (sth I kd w m y).2)
abbrev bad (I : Nat → Int → Int) (kd w m i : Int) : Prop := (if I 17 i = 0 then (sth I kd w m (I 16 i).toNat).1 else (sth I kd w m (I 16 i).toNat).2) < I 18 i ∨ I 19 i < (if I 17 i = 0 then (sth I kd w m (I 16 i).toNat).1 else (sth I kd w m (I 16 i).toNat).2)
def rpk (I : Nat → Int → Int) : Prop := (0 ≤ I 15 4 ∧ I 15 4 ≤ 6) ∧ ∀ i, 0 ≤ i → i < I 15 4 → (0 ≤ I 16 i ∧ I 16 i ≤ 15) ∧ (0 ≤ I 17 i ∧ I 17 i ≤ 1) ∧ (0 ≤ I 18 i ∧ I 18 i ≤ 40) ∧ (0 ≤ I 19 i ∧ I 19 i ≤ 40)
/-- those about y years that aren't so -/
def wb1 (I : Nat → Int → Int) (y she md : Int) : Nat → Int → Int → Int
  | 0, _, a => a
  | n + 1, i, a => wb1 I y she md n (i + 1) (if I 16 i = y ∧ ((if I 17 i = 0 then she else md) < I 18 i ∨ I 19 i < (if I 17 i = 0 then she else md)) then stb a i 1 else a)
def ltt (I : Nat → Int → Int) : Nat → Int → Int → Int
  | 0, _, a => a
  | n + 1, i, a => ltt I n (i + 1) (max a (I 16 i))
def wby (I : Nat → Int → Int) (kd w m : Int) : Nat → Int
  | 0 => wb1 I 0 0 m (I 15 4).toNat 0 0
  | y + 1 => orr (wby I kd w m y) (wb1 I ((y : Int) + 1) (sth I kd w m (y + 1)).1 (sth I kd w m (y + 1)).2 (I 15 4).toNat 0 0)
/-- the reports that aren't so by a piece -/
def wrs (I : Nat → Int → Int) (kd w m : Int) : Int := wby I kd w m (ltt I (I 15 4).toNat 0 0).toNat
theorem stp_sst {fr md sp : Int} (hf : 0 ≤ fr) (hs : sp ≤ 39) (h0 : 0 ≤ sp) : ∀ (n : Nat) (s : Int), 0 ≤ s → s + n = md + 1 → stp (pl1 0 sp.toNat) fr md n s = if fr + s < sp then min (md + 1) (sp - fr) else s
  | 0, s, _, hn => by
    unfold stp
    split <;> omega
  | n + 1, s, s0, hn => by
    unfold stp
    rw [pl1_t]
    by_cases q : fr + s < sp
    · rw [if_pos ⟨by omega, by omega, decide_eq_true (by omega)⟩, if_pos q, stp_sst hf hs h0 n (s + 1) (by omega) (by omega)]
      split <;> omega
    · rw [if_neg (fun z => q (by have := of_decide_eq_true z.2.2; omega)), if_neg q]
theorem sst_b {sp she md : Int} (hm : 0 ≤ md) (hs : sp ≤ 39) (h1 : 0 ≤ she ∧ she ≤ 40) : 0 ≤ sst sp she md ∧ she + sst sp she md ≤ 40 := by
  unfold sst
  (repeat' split) <;> omega
theorem sth_b {I : Nat → Int → Int} (h : inv I) {kd w m : Int} (hw : 0 ≤ w ∧ w ≤ 9) (hm : 0 ≤ m ∧ m ≤ 9) : ∀ y : Nat, (0 ≤ (sth I kd w m y).1 ∧ (sth I kd w m y).1 ≤ 40) ∧ 0 ≤ (sth I kd w m y).2 ∧ (sth I kd w m y).2 ≤ 9
  | 0 => ⟨⟨Int.le_refl 0, (by decide : (0 : Int) ≤ 40)⟩, hm⟩
  | y + 1 => by
    obtain ⟨h1, h2⟩ := sth_b h (kd := kd) hw hm y
    have hmd := mdb_b (nws_b h y) h2
    have hsp := spn_b (kd := kd) (y := y) hw
    have := sst_b (sp := spn kd w y) (she := (sth I kd w m y).1) hmd.1 (by omega) h1
    exact ⟨⟨by show 0 ≤ _ + _; omega, this.2⟩, hmd⟩
theorem wb1_b {I : Nat → Int → Int} {y she md : Int} : ∀ (n : Nat) (i a : Int), 0 ≤ i → i + n ≤ 6 → 0 ≤ a ∧ a < 64 → 0 ≤ wb1 I y she md n i a ∧ wb1 I y she md n i a < 64
  | 0, _, _, _, _, h => h
  | n + 1, i, a, h0, hn, h => by
    unfold wb1
    refine wb1_b n _ _ (by omega) (by omega) ?_
    have := (stb_i h (k := i) (by omega)).2.2.1
    split <;> omega
theorem wb1_t {I : Nat → Int → Int} {y she md : Int} {j : Int} (hj : 0 ≤ j ∧ j < 6) : ∀ (n : Nat) (i a : Int), 0 ≤ i → i + n ≤ 6 → 0 ≤ a ∧ a < 64 → (bt (wb1 I y she md n i a) j = 1 ↔ bt a j = 1 ∨ ((i ≤ j ∧ j < i + n) ∧ I 16 j = y ∧ ((if I 17 j = 0 then she else md) < I 18 j ∨ I 19 j < (if I 17 j = 0 then she else md))))
  | 0, i, a, _, _, _ => ⟨fun q => Or.inl q, fun q => by
      rcases q with q | ⟨q, _⟩
      · exact q
      · omega⟩
  | n + 1, i, a, h0, hn, h => by
    have hs := stb_i h (k := i) (by omega)
    unfold wb1
    by_cases q : I 16 i = y ∧ ((if I 17 i = 0 then she else md) < I 18 i ∨ I 19 i < (if I 17 i = 0 then she else md))
    · rw [if_pos q, wb1_t hj n (i + 1) _ (by omega) (by omega) (by omega), (hs.2.2.2 j hj).1]
      constructor
      · rintro (z | ⟨z, z2⟩)
        · by_cases e : j = i
          · subst e
            exact Or.inr ⟨by omega, q⟩
          · rw [if_neg e] at z
            exact Or.inl z
        · exact Or.inr ⟨by omega, z2⟩
      · rintro (z | ⟨z, z2⟩)
        · left
          split
          · rfl
          · exact z
        · by_cases e : j = i
          · left
            rw [if_pos e]
          · exact Or.inr ⟨by omega, z2⟩
    · rw [if_neg q, wb1_t hj n (i + 1) a (by omega) (by omega) h]
      constructor
      · rintro (z | ⟨z, z2⟩)
        · exact Or.inl z
        · exact Or.inr ⟨by omega, z2⟩
      · rintro (z | ⟨z, z2⟩)
        · exact Or.inl z
        · by_cases e : j = i
          · subst e
            exact absurd z2 q
          · exact Or.inr ⟨by omega, z2⟩
theorem ltt_b {I : Nat → Int → Int} (h : rpk I) : ∀ (n : Nat) (i a : Int), 0 ≤ i → i + n ≤ I 15 4 → 0 ≤ a ∧ a ≤ 15 → (0 ≤ ltt I n i a ∧ ltt I n i a ≤ 15) ∧ a ≤ ltt I n i a ∧ ∀ j, i ≤ j → j < i + n → I 16 j ≤ ltt I n i a
  | 0, _, _, _, _, h => ⟨h, Int.le_refl _, fun j h0 h1 => by omega⟩
  | n + 1, i, a, h0, hn, ha => by
    have hi := (h.2 i h0 (by omega)).1
    obtain ⟨r1, r2, r3⟩ := ltt_b h n (i + 1) (max a (I 16 i)) (by omega) (by omega) (by omega)
    unfold ltt
    refine ⟨r1, by omega, fun j j0 j1 => ?_⟩
    by_cases e : j = i
    · subst e; omega
    · exact r3 j (by omega) (by omega)
theorem wby_b {I : Nat → Int → Int} (h : rpk I) {kd w m : Int} : ∀ y : Nat, 0 ≤ wby I kd w m y ∧ wby I kd w m y < 64
  | 0 => wb1_b _ _ _ (by decide) (by have := h.1; omega) (by decide)
  | y + 1 => orr_b (wby_b h y) (wb1_b _ _ _ (by decide) (by have := h.1; omega) (by decide))
theorem wby_t {I : Nat → Int → Int} (h : rpk I) {kd w m : Int} {j : Int} (hj : 0 ≤ j ∧ j < 6) : ∀ y : Nat, bt (wby I kd w m y) j = 1 ↔ j < I 15 4 ∧ I 16 j ≤ y ∧ bad I kd w m j
  | 0 => by
    have hn := h.1
    have z : ¬ bt 0 j = 1 := by unfold bt; simp
    unfold wby
    rw [wb1_t hj _ _ _ (by decide) (by omega) (by decide)]
    constructor
    · rintro (q | ⟨q1, q2, q3⟩)
      · exact absurd q z
      · refine ⟨by omega, by omega, ?_⟩
        unfold bad
        rw [q2]
        exact q3
    · rintro ⟨q1, q2, q3⟩
      have q0 : I 16 j = 0 := by have := (h.2 j hj.1 q1).1; omega
      unfold bad at q3
      rw [q0] at q3
      exact Or.inr ⟨by omega, q0, q3⟩
  | y + 1 => by
    have hn := h.1
    have z : ¬ bt 0 j = 1 := by unfold bt; simp
    unfold wby
    rw [bt_orr (wby_b h y).1 (wb1_b _ _ _ (by decide) (by omega) (by decide)).1, wby_t h hj y, wb1_t hj _ _ _ (by decide) (by omega) (by decide)]
    constructor
    · rintro (⟨q1, q2, q3⟩ | q | ⟨q1, q2, q3⟩)
      · exact ⟨q1, by omega, q3⟩
      · exact absurd q z
      · refine ⟨by omega, by omega, ?_⟩
        unfold bad
        rw [q2, show ((y : Int) + 1).toNat = y + 1 by omega]
        exact q3
    · rintro ⟨q1, q2, q3⟩
      by_cases q0 : I 16 j = (y : Int) + 1
      · unfold bad at q3
        rw [q0, show ((y : Int) + 1).toNat = y + 1 by omega] at q3
        exact Or.inr (Or.inr ⟨by omega, q0, q3⟩)
      · exact Or.inl ⟨q1, by omega, q3⟩
theorem wrs_b {I : Nat → Int → Int} (h : rpk I) {kd w m : Int} : 0 ≤ wrs I kd w m ∧ wrs I kd w m < 64 := wby_b h _
theorem wrs_t {I : Nat → Int → Int} (h : rpk I) {kd w m : Int} {j : Int} (hj : 0 ≤ j ∧ j < 6) : bt (wrs I kd w m) j = 1 ↔ j < I 15 4 ∧ bad I kd w m j := by
  unfold wrs
  rw [wby_t h hj]
  obtain ⟨l1, -, l2⟩ := ltt_b h (I 15 4).toNat 0 0 (by decide) (by have := h.1; omega) (by decide)
  constructor
  · rintro ⟨q1, -, q3⟩
    exact ⟨q1, q3⟩
  · rintro ⟨q1, q3⟩
    have := l2 j hj.1 (by omega)
    exact ⟨q1, by omega, q3⟩
section
variable {X : e_X} {d : Nat} {I J : Nat → Int → Int}
theorem r_wb1 (h : rpk I) {y she md : Int} (hy : rg y) (hs : rg she) (hm : rg md) : ∀ (n : Nat) (i a : Int), 0 ≤ i → i + n = I 15 4 → 0 ≤ a ∧ a < 64 → s_j X (d + 1) 51 6 [.ref 15, .int (iI y), .int (iI she), .int (iI md), .int (iI a), .int (iI i)] [] (mm I J) = some ([.int (iI (wb1 I y she md n i a))], mm I J) := by
  have hn6 := h.1
  intro n
  induction n with
  | zero =>
    intro i a h0 hn ha
    rw [u_51_6]
    simp (disch := omega) only [v_51_15, u_51_0, x_sipush, x_istore4i, x_istore4r, x_istore4u, x_istore5i, x_istore5r, x_istore5u, x_jsr, x_iload5, x_aload0, f_15_4, x_if_icmp_ge, k_15_0, x_iload1, x_if_icmp_ne, k_15_1, x_ifCond_ne, x_ifCond_neb, x_iload2, x_goto, u_51_40, x_iload3, u_51_41, k_15_2, k_15_3, x_call3_0, x_call3_1, x_call3_2, x_call3_3, x_call3_4, e_k_s, e_k_i, List.nil_append, List.cons_append, x_ifCond_eq, x_ifCond_eqb, x_iload4, x_ishl, x_ior, u_51_70, x_iinc5i, x_iinc5r, x_iinc5u, u_51_76, x_ireturn, ia_16, ia_17, ia_18, ia_19, b01_0, ite_not, if_true, if_false, Int.reduceLT, Int.reduceEq]
    rw [if_neg (by omega)]
    rfl
  | succ n ih =>
    intro i a h0 hn ha
    obtain ⟨r1, r2, r3, r4⟩ := h.2 i h0 (by omega)
    have hst := stb_i ha (k := i) (by omega)
    have e3 := hst.1
    unfold wb1
    rw [u_51_6]
    by_cases q1 : I 16 i = y
    · by_cases q2 : I 17 i = 0
      · simp only [q2, if_true]
        have eo := b_out (X := X) (d := d) (I := I) (J := J) (v := she) (a := I 18 i) (b := I 19 i) hs ⟨by omega, by omega⟩ ⟨by omega, by omega⟩
        by_cases q3 : she < I 18 i ∨ I 19 i < she
        · have e := ih (i + 1) (stb a i 1) (by omega) (by omega) (by omega)
          rw [if_pos q3] at eo
          rw [if_pos ⟨q1, q3⟩, ← e]
          simp (disch := omega) only [v_51_15, u_51_0, x_sipush, x_istore4i, x_istore4r, x_istore4u, x_istore5i, x_istore5r, x_istore5u, x_jsr, x_iload5, x_aload0, f_15_4, x_if_icmp_ge, k_15_0, x_iload1, x_if_icmp_ne, k_15_1, x_ifCond_ne, x_ifCond_neb, x_iload2, x_goto, u_51_40, x_iload3, u_51_41, k_15_2, k_15_3, x_call3_0, x_call3_1, x_call3_2, x_call3_3, x_call3_4, e_k_s, e_k_i, List.nil_append, List.cons_append, x_ifCond_eq, x_ifCond_eqb, x_iload4, x_ishl, x_ior, u_51_70, x_iinc5i, x_iinc5r, x_iinc5u, u_51_76, x_ireturn, ia_16, ia_17, ia_18, ia_19, q2, eo, e3, b01_0, ite_not, if_true, if_false, Int.reduceLT, Int.reduceEq]
          rw [if_pos (by omega), if_pos q1]
        · have e := ih (i + 1) a (by omega) (by omega) ha
          rw [if_neg q3] at eo
          rw [if_neg (fun z => q3 z.2), ← e]
          simp (disch := omega) only [v_51_15, u_51_0, x_sipush, x_istore4i, x_istore4r, x_istore4u, x_istore5i, x_istore5r, x_istore5u, x_jsr, x_iload5, x_aload0, f_15_4, x_if_icmp_ge, k_15_0, x_iload1, x_if_icmp_ne, k_15_1, x_ifCond_ne, x_ifCond_neb, x_iload2, x_goto, u_51_40, x_iload3, u_51_41, k_15_2, k_15_3, x_call3_0, x_call3_1, x_call3_2, x_call3_3, x_call3_4, e_k_s, e_k_i, List.nil_append, List.cons_append, x_ifCond_eq, x_ifCond_eqb, x_iload4, x_ishl, x_ior, u_51_70, x_iinc5i, x_iinc5r, x_iinc5u, u_51_76, x_ireturn, ia_16, ia_17, ia_18, ia_19, q2, eo, e3, b01_0, ite_not, if_true, if_false, Int.reduceLT, Int.reduceEq]
          rw [if_pos (by omega), if_pos q1]
      · simp only [if_neg q2]
        have eo := b_out (X := X) (d := d) (I := I) (J := J) (v := md) (a := I 18 i) (b := I 19 i) hm ⟨by omega, by omega⟩ ⟨by omega, by omega⟩
        by_cases q3 : md < I 18 i ∨ I 19 i < md
        · have e := ih (i + 1) (stb a i 1) (by omega) (by omega) (by omega)
          rw [if_pos q3] at eo
          rw [if_pos ⟨q1, q3⟩, ← e]
          simp (disch := omega) only [v_51_15, u_51_0, x_sipush, x_istore4i, x_istore4r, x_istore4u, x_istore5i, x_istore5r, x_istore5u, x_jsr, x_iload5, x_aload0, f_15_4, x_if_icmp_ge, k_15_0, x_iload1, x_if_icmp_ne, k_15_1, x_ifCond_ne, x_ifCond_neb, x_iload2, x_goto, u_51_40, x_iload3, u_51_41, k_15_2, k_15_3, x_call3_0, x_call3_1, x_call3_2, x_call3_3, x_call3_4, e_k_s, e_k_i, List.nil_append, List.cons_append, x_ifCond_eq, x_ifCond_eqb, x_iload4, x_ishl, x_ior, u_51_70, x_iinc5i, x_iinc5r, x_iinc5u, u_51_76, x_ireturn, ia_16, ia_17, ia_18, ia_19, eo, e3, b01_0, ite_not, if_true, if_false, Int.reduceLT, Int.reduceEq]
          rw [if_pos (by omega), if_pos q1, if_neg q2]
        · have e := ih (i + 1) a (by omega) (by omega) ha
          rw [if_neg q3] at eo
          rw [if_neg (fun z => q3 z.2), ← e]
          simp (disch := omega) only [v_51_15, u_51_0, x_sipush, x_istore4i, x_istore4r, x_istore4u, x_istore5i, x_istore5r, x_istore5u, x_jsr, x_iload5, x_aload0, f_15_4, x_if_icmp_ge, k_15_0, x_iload1, x_if_icmp_ne, k_15_1, x_ifCond_ne, x_ifCond_neb, x_iload2, x_goto, u_51_40, x_iload3, u_51_41, k_15_2, k_15_3, x_call3_0, x_call3_1, x_call3_2, x_call3_3, x_call3_4, e_k_s, e_k_i, List.nil_append, List.cons_append, x_ifCond_eq, x_ifCond_eqb, x_iload4, x_ishl, x_ior, u_51_70, x_iinc5i, x_iinc5r, x_iinc5u, u_51_76, x_ireturn, ia_16, ia_17, ia_18, ia_19, eo, e3, b01_0, ite_not, if_true, if_false, Int.reduceLT, Int.reduceEq]
          rw [if_pos (by omega), if_pos q1, if_neg q2]
    · have e := ih (i + 1) a (by omega) (by omega) ha
      rw [if_neg (fun z => q1 z.1), ← e]
      simp (disch := omega) only [v_51_15, u_51_0, x_sipush, x_istore4i, x_istore4r, x_istore4u, x_istore5i, x_istore5r, x_istore5u, x_jsr, x_iload5, x_aload0, f_15_4, x_if_icmp_ge, k_15_0, x_iload1, x_if_icmp_ne, k_15_1, x_ifCond_ne, x_ifCond_neb, x_iload2, x_goto, u_51_40, x_iload3, u_51_41, k_15_2, k_15_3, x_call3_0, x_call3_1, x_call3_2, x_call3_3, x_call3_4, e_k_s, e_k_i, List.nil_append, List.cons_append, x_ifCond_eq, x_ifCond_eqb, x_iload4, x_ishl, x_ior, u_51_70, x_iinc5i, x_iinc5r, x_iinc5u, u_51_76, x_ireturn, ia_16, ia_17, ia_18, ia_19, b01_0, ite_not, if_true, if_false, Int.reduceLT, Int.reduceEq]
      rw [if_pos (by omega), if_neg q1]
theorem r_wb (h : rpk I) {y she md : Int} (hy : rg y) (hs : rg she) (hm : rg md) : s_S X (d + 2) 51 [.ref 15, .int (iI y), .int (iI she), .int (iI md)] (mm I J) = some ([.int (iI (wb1 I y she md (I 15 4).toNat 0 0))], mm I J) := by
  have e := r_wb1 (X := X) (d := d) (J := J) h hy hs hm (I 15 4).toNat 0 0 (by decide) (by have := h.1; omega) (by decide)
  simp (disch := omega) only [v_51_15, u_51_0, x_sipush, x_istore4i, x_istore4r, x_istore4u, x_istore5i, x_istore5r, x_istore5u, x_jsr, x_iload5, x_aload0, f_15_4, x_if_icmp_ge, k_15_0, x_iload1, x_if_icmp_ne, k_15_1, x_ifCond_ne, x_ifCond_neb, x_iload2, x_goto, u_51_40, x_iload3, u_51_41, k_15_2, k_15_3, x_call3_0, x_call3_1, x_call3_2, x_call3_3, x_call3_4, e_k_s, e_k_i, List.nil_append, List.cons_append, x_ifCond_eq, x_ifCond_eqb, x_iload4, x_ishl, x_ior, u_51_70, x_iinc5i, x_iinc5r, x_iinc5u, u_51_76, x_ireturn, ia_16, ia_17, ia_18, ia_19, e, b01_0, ite_not, if_true, if_false, Int.reduceLT, Int.reduceEq]
theorem r_lt1 (h : rpk I) : ∀ (n : Nat) (i a : Int), 0 ≤ i → i + n = I 15 4 → 0 ≤ a ∧ a ≤ 15 → s_j X d 50 4 [.ref 15, .int (iI a), .int (iI i)] [] (mm I J) = some ([.int (iI (ltt I n i a))], mm I J) := by
  have hn6 := h.1
  intro n
  induction n with
  | zero =>
    intro i a h0 hn ha
    rw [u_50_4]
    simp (disch := omega) only [v_50_15, u_50_0, x_sipush, x_istore1i, x_istore1r, x_istore1u, x_istore2i, x_istore2r, x_istore2u, x_jsr, x_iload2, x_aload0, f_15_4, x_if_icmp_ge, x_iload1, k_15_0, x_dadd_0, x_dadd_1, x_dadd_2, x_dadd_3, x_dadd_4, x_iinc2i, x_iinc2r, x_iinc2u, x_goto, u_50_29, x_ireturn, ia_16, b01_0, ite_not, if_true, if_false, Int.reduceLT, Int.reduceEq]
    rw [if_neg (by omega)]
    rfl
  | succ n ih =>
    intro i a h0 hn ha
    obtain ⟨r1, r2, r3, r4⟩ := h.2 i h0 (by omega)
    have e := ih (i + 1) (max a (I 16 i)) (by omega) (by omega) (by omega)
    unfold ltt
    rw [← e, u_50_4]
    simp (disch := omega) only [v_50_15, u_50_0, x_sipush, x_istore1i, x_istore1r, x_istore1u, x_istore2i, x_istore2r, x_istore2u, x_jsr, x_iload2, x_aload0, f_15_4, x_if_icmp_ge, x_iload1, k_15_0, x_dadd_0, x_dadd_1, x_dadd_2, x_dadd_3, x_dadd_4, x_iinc2i, x_iinc2r, x_iinc2u, x_goto, u_50_29, x_ireturn, ia_16, b01_0, ite_not, if_true, if_false, Int.reduceLT, Int.reduceEq]
    rw [if_pos (by omega)]
theorem r_lt (h : rpk I) : s_S X (d + 1) 50 [.ref 15] (mm I J) = some ([.int (iI (ltt I (I 15 4).toNat 0 0))], mm I J) := by
  have e := r_lt1 (X := X) (d := d) (J := J) h (I 15 4).toNat 0 0 (by decide) (by have := h.1; omega) (by decide)
  simp (disch := omega) only [v_50_15, u_50_0, x_sipush, x_istore1i, x_istore1r, x_istore1u, x_istore2i, x_istore2r, x_istore2u, x_jsr, x_iload2, x_aload0, f_15_4, x_if_icmp_ge, x_iload1, k_15_0, x_dadd_0, x_dadd_1, x_dadd_2, x_dadd_3, x_dadd_4, x_iinc2i, x_iinc2r, x_iinc2u, x_goto, u_50_29, x_ireturn, ia_16, e, b01_0, ite_not, if_true, if_false, Int.reduceLT, Int.reduceEq]
theorem t_wr1 (h : inv I) (hp : rpk I) {kd w m lt : Int} (hk : rg kd) (hw : 0 ≤ w ∧ w ≤ 9) (hm : 0 ≤ m ∧ m ≤ 9) (hl : 0 ≤ lt ∧ lt ≤ 15) : ∀ (n y : Nat), (y : Int) + n = lt → s_j X (d + 2) 100 32 [.ref 1, .int (iI kd), .int (iI w), .int (iI m), .int (iI lt), .int (iI (sth I kd w m y).2), .int (iI (sth I kd w m y).1), .int (iI (wby I kd w m y)), .int (iI (y : Nat))] [] (mm I J) = some ([.int (iI (wby I kd w m lt.toNat))], mm I J) := by
  intro n
  induction n with
  | zero =>
    intro y hn
    rw [u_100_32, show lt.toNat = y by omega]
    simp (disch := omega) only [v_100_1, u_100_0, x_aload0, k_1_8, x_call1_0, x_call1_1, x_call1_2, x_call1_3, x_call1_4, e_k_s, e_k_i, List.nil_append, List.cons_append, x_istore4i, x_istore4r, x_istore4u, x_iload3, x_istore5i, x_istore5r, x_istore5u, x_sipush, x_istore6i, x_istore6r, x_istore6u, x_iload6, x_iload5, x_call4_0, x_call4_1, x_call4_2, x_call4_3, x_call4_4, x_istore7i, x_istore7r, x_istore7u, x_istore8i, x_istore8r, x_istore8u, x_jsr, x_iload8, x_iload4, x_if_icmp_ge, x_call2_0, x_call2_1, x_call2_2, x_call2_3, x_call2_4, x_iload1, x_iload2, x_call3_0, x_call3_1, x_call3_2, x_call3_3, x_call3_4, x_iadd, x_iload7, x_ior, x_iinc8i, x_iinc8r, x_iinc8u, x_goto, u_100_101, x_ireturn, b01_0, ite_not, if_true, if_false, Int.reduceLT, Int.reduceEq]
    rw [if_neg (by omega)]
  | succ n ih =>
    intro y hn
    obtain ⟨s1, s2⟩ := sth_b h (kd := kd) hw hm y
    obtain ⟨s3, s4⟩ := sth_b h (kd := kd) hw hm (y + 1)
    have hnw := nws_b h y
    have hmd := mdb_b hnw s2
    have hsp := spn_b (kd := kd) (y := y) hw
    have e1 := t_news (X := X) (d := d) (J := J) h (y := y) ⟨by omega, by omega⟩
    have e2 := b_mood (X := X) (d := d + 1) (I := I) (J := J) hnw s2
    have e3 := b_span (X := X) (d := d + 1) (I := I) (J := J) (kd := kd) (w := w) (y := y) hk hw ⟨by omega, by omega⟩
    have e4 := b_pl1 (X := X) (d := d + 1) (I := I) (J := J) (f := 0) (w := (spn kd w y).toNat) (by omega) (by omega)
    rw [Int.toNat_of_nonneg hsp.1, Int.cast_ofNat_Int] at e4
    have e5 := b_stp (X := X) (d := d + 1) (I := I) (J := J) (B := pl1 0 (spn kd w y).toNat) (fr := (sth I kd w m y).1) (md := mdb (nws I y) (sth I kd w m y).2) (by have := pl1_b (f := 0) (w := (spn kd w y).toNat) (by omega) (by omega); omega) s1 hmd
    rw [stp_sst (by omega) (by omega) (by omega) _ _ (by decide) (by omega)] at e5
    have e6 : (if (sth I kd w m y).1 + 0 < spn kd w y then min (mdb (nws I y) (sth I kd w m y).2 + 1) (spn kd w y - (sth I kd w m y).1) else 0) = sst (spn kd w y) (sth I kd w m y).1 (mdb (nws I y) (sth I kd w m y).2) := by
      unfold sst
      (repeat' split) <;> omega
    rw [e6] at e5
    have s5 : (sth I kd w m y).1 + sst (spn kd w y) (sth I kd w m y).1 (mdb (nws I y) (sth I kd w m y).2) = (sth I kd w m (y + 1)).1 := rfl
    have s6 : mdb (nws I y) (sth I kd w m y).2 = (sth I kd w m (y + 1)).2 := rfl
    have e7 := r_wb (X := X) (d := d) (J := J) hp (y := (y : Int) + 1) (she := (sth I kd w m (y + 1)).1) (md := (sth I kd w m (y + 1)).2) ⟨by omega, by omega⟩ ⟨by omega, by omega⟩ ⟨by omega, by omega⟩
    have b1 := wby_b hp (kd := kd) (w := w) (m := m) y
    have b2 := wb1_b (I := I) (y := (y : Int) + 1) (she := (sth I kd w m (y + 1)).1) (md := (sth I kd w m (y + 1)).2) (I 15 4).toNat 0 0 (by decide) (by have := hp.1; omega) (by decide)
    have e8 := i_or (a := wby I kd w m y) (b := wb1 I ((y : Int) + 1) (sth I kd w m (y + 1)).1 (sth I kd w m (y + 1)).2 (I 15 4).toNat 0 0) (by omega) (by omega)
    have e9 := ih (y + 1) (by omega)
    rw [show (((y + 1 : Nat)) : Int) = (y : Int) + 1 by omega] at e9
    rw [← e9, u_100_32]
    rw [s6] at e2 e5 s5
    simp (disch := omega) only [v_100_1, u_100_0, x_aload0, k_1_8, x_call1_0, x_call1_1, x_call1_2, x_call1_3, x_call1_4, e_k_s, e_k_i, List.nil_append, List.cons_append, x_istore4i, x_istore4r, x_istore4u, x_iload3, x_istore5i, x_istore5r, x_istore5u, x_sipush, x_istore6i, x_istore6r, x_istore6u, x_iload6, x_iload5, x_call4_0, x_call4_1, x_call4_2, x_call4_3, x_call4_4, x_istore7i, x_istore7r, x_istore7u, x_istore8i, x_istore8r, x_istore8u, x_jsr, x_iload8, x_iload4, x_if_icmp_ge, x_call2_0, x_call2_1, x_call2_2, x_call2_3, x_call2_4, x_iload1, x_iload2, x_call3_0, x_call3_1, x_call3_2, x_call3_3, x_call3_4, x_iadd, x_iload7, x_ior, x_iinc8i, x_iinc8r, x_iinc8u, x_goto, u_100_101, x_ireturn, e1, e2, e3, e4, e5, s5, e7, e8, b01_0, ite_not, if_true, if_false, Int.reduceLT, Int.reduceEq]
    rw [if_pos (by omega)]
    rfl
theorem t_wrs (h : inv I) (hp : rpk I) {kd w m : Int} (hk : rg kd) (hw : 0 ≤ w ∧ w ≤ 9) (hm : 0 ≤ m ∧ m ≤ 9) : s_S X (d + 3) 100 [.ref 1, .int (iI kd), .int (iI w), .int (iI m)] (mm I J) = some ([.int (iI (wrs I kd w m))], mm I J) := by
  obtain ⟨l1, -, -⟩ := ltt_b hp (I 15 4).toNat 0 0 (by decide) (by have := hp.1; omega) (by decide)
  have e0 := r_lt (X := X) (d := d + 1) (J := J) hp
  have e1 := r_wb (X := X) (d := d) (J := J) hp (y := 0) (she := 0) (md := m) (by decide) (by decide) ⟨by omega, by omega⟩
  have e2 := t_wr1 (X := X) (d := d) (J := J) h hp (kd := kd) (w := w) (m := m) (lt := ltt I (I 15 4).toNat 0 0) hk hw hm l1 (ltt I (I 15 4).toNat 0 0).toNat 0 (by omega)
  have e3 : s_j X (d + 2) 100 32 [.ref 1, .int (iI kd), .int (iI w), .int (iI m), .int (iI (ltt I (I 15 4).toNat 0 0)), .int (iI m), .int (iI 0), .int (iI (wb1 I 0 0 m (I 15 4).toNat 0 0)), .int (iI 0)] [] (mm I J) = some ([.int (iI (wrs I kd w m))], mm I J) := e2
  simp (disch := omega) only [v_100_1, u_100_0, x_aload0, k_1_8, x_call1_0, x_call1_1, x_call1_2, x_call1_3, x_call1_4, e_k_s, e_k_i, List.nil_append, List.cons_append, x_istore4i, x_istore4r, x_istore4u, x_iload3, x_istore5i, x_istore5r, x_istore5u, x_sipush, x_istore6i, x_istore6r, x_istore6u, x_iload6, x_iload5, x_call4_0, x_call4_1, x_call4_2, x_call4_3, x_call4_4, x_istore7i, x_istore7r, x_istore7u, x_istore8i, x_istore8r, x_istore8u, x_jsr, x_iload8, x_iload4, x_if_icmp_ge, x_call2_0, x_call2_1, x_call2_2, x_call2_3, x_call2_4, x_iload1, x_iload2, x_call3_0, x_call3_1, x_call3_2, x_call3_3, x_call3_4, x_iadd, x_iload7, x_ior, x_iinc8i, x_iinc8r, x_iinc8u, x_goto, u_100_101, x_ireturn, e0, e1, e3, b01_0, ite_not, if_true, if_false, Int.reduceLT, Int.reduceEq]
end
