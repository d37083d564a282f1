/-! THE REST, in the class -/
def cmo (c : co) : Int := c.1 + c.2.1 * 2 ^ 5 + c.2.2.1 * 2 ^ 9 + c.2.2.2 * 2 ^ 15
def nxt (I : Nat → Int → Int) (c : co) : co := (pas I c (-1)).2
def rnN (I : Nat → Int → Int) : Nat → co → Int → Int
  | 0, _, w => w
  | n + 1, c, w => rnN I n (nxt I c) (w + (pas I c (-1)).1)
def yec (I : Nat → Int → Int) (c : co) (m : Int) : Int := max 0 (min m (I 1 12 - c.1))
def rst (I : Nat → Int → Int) (c : co) (m : Int) : Int := rnN I (yec I c m).toNat c 0
abbrev hit (set pl : Int) (c : co) : Prop := ((c.2.2.2.toNat &&& set.toNat : Nat) : Int) = set ∧ pl ≤ c.2.2.1
def unt (I : Nat → Int → Int) (set pl : Int) : Nat → co → Int
  | 0, _ => -3
  | n + 1, c => if hit set pl (nxt I c) then (nxt I c).1 - 1 else unt I set pl n (nxt I c)
def bsv (I : Nat → Int → Int) (o : Nat) (k : Int) (c : co) : Nat → Int → Int → Int → Int
  | 0, _, best, _ => best
  | n + 1, v, best, most => if most < rst (up I o k v) c 16 then bsv I o k c n (v + 1) v (rst (up I o k v) c 16) else bsv I o k c n (v + 1) best most
theorem nxt_ok {I : Nat → Int → Int} (h : inv I) {c : co} (hc : cok I c) (hy : c.1 < I 1 12) : cok I (nxt I c) ∧ (nxt I c).1 = c.1 + 1 := ⟨(pas_ok h hc hy (-1)).1, (pas_ok h hc hy (-1)).2.1⟩
theorem rnN_b {I : Nat → Int → Int} (h : inv I) : ∀ (n : Nat) (c : co) (w : Int), cok I c → c.1 + n ≤ I 1 12 → w ≤ rnN I n c w ∧ rnN I n c w ≤ w + 21 * n
  | 0, _, _, _, _ => by unfold rnN; omega
  | n + 1, c, w, hc, hn => by
    have h1 := pas_ok h hc (by omega) (-1)
    have h2 := nxt_ok h hc (by omega)
    have h3 := rnN_b h n (nxt I c) (w + (pas I c (-1)).1) h2.1 (by omega)
    unfold rnN
    omega
theorem yec_b {I : Nat → Int → Int} {c : co} {m : Int} (hm : 0 ≤ m) (hc : cok I c) : 0 ≤ yec I c m ∧ yec I c m ≤ m ∧ c.1 + yec I c m ≤ I 1 12 := by
  have := hc.1
  unfold yec
  omega
theorem rst_b {I : Nat → Int → Int} (h : inv I) {c : co} (hc : cok I c) {m : Int} (hm : 0 ≤ m) : 0 ≤ rst I c m ∧ rst I c m ≤ 21 * m := by
  have h1 := yec_b hm hc
  have h2 := rnN_b h (yec I c m).toNat c 0 hc (by omega)
  unfold rst
  omega
section
variable {X : e_X} {d : Nat} {I J : Nat → Int → Int}
theorem t_mo (h : inv I) {c : co} (hc : cok I c) {F : Int → Int} : s_S X (d + 1) 85 [.ref 1] (mm (bk I c F) J) = some ([.int (iI (cmo c))], mm (bk I c F) J) := by
  have h64 := pw_6 h.1
  have h16 := h.2.2.2.1
  obtain ⟨c1, c2, c3, c4⟩ := hc
  exact t_mom (I := bk I c F) (J := J) (by show 0 ≤ c.1 ∧ c.1 ≤ 16; omega) c2 c3 (by show 0 ≤ c.2.2.2 ∧ c.2.2.2 < 64; omega)
theorem t_bo (h : inv I) {c c' : co} (hc : cok I c) {F : Int → Int} : s_S X (d + 1) 87 [.ref 1, .int (iI (cmo c))] (mm (bk I c' F) J) = some ([], mm (bk I c F) J) := by
  have h64 := pw_6 h.1
  have h16 := h.2.2.2.1
  obtain ⟨c1, c2, c3, c4⟩ := hc
  obtain ⟨y, m, sh, st⟩ := c
  obtain ⟨y', m', sh', st'⟩ := c'
  simp only at c1 c2 c3 c4
  have e := t_back (X := X) (d := d) (I := bk I (y', m', sh', st') F) (J := J) (y := y) (md := m) (sh := sh) (st := st) (by omega) (by omega) (by omega) (by omega)
  unfold bck at e
  rw [bk_y, bk_m, bk_h, bk_s] at e
  exact e
theorem t_yt (h : inv I) {c : co} (hc : cok I c) {F : Int → Int} {m : Int} (hm : rg m) : s_S X (d + 1) 86 [.ref 1, .int (iI m)] (mm (bk I c F) J) = some ([.int (iI (yec I c m))], mm (bk I c F) J) := by
  have h16 := h.2.2.2.1
  have c1 := hc.1
  exact t_yet (I := bk I c F) (J := J) hm (by show 0 ≤ c.1 ∧ c.1 ≤ 16; omega) h16
theorem t_rw1 (h : inv I) (hR : rok I) {a mo yrs : Int} (hy : 0 ≤ yrs ∧ yrs ≤ 100) : ∀ (n : Nat) (c : co) (F : Int → Int) (w i : Int), cok I c → c.1 + n ≤ I 1 12 → 0 ≤ i → i + n = yrs → ∃ c' F', s_j X (d + 5) 84 17 [.ref 1, .int (iI a), .int (iI mo), .int (iI yrs), .int (iI w), .int (iI i)] [] (mm (bk I c F) J) = s_j X (d + 5) 84 39 [.ref 1, .int (iI a), .int (iI mo), .int (iI yrs), .int (iI (rnN I n c w)), .int (iI yrs)] [] (mm (bk I c' F') J) := by
  intro n
  induction n with
  | zero =>
    intro c F w i hc hn h0 hi
    refine ⟨c, F, ?_⟩
    rw [u_84_17, show i = yrs by omega]
    simp (disch := omega) only [v_84_1, u_84_0, x_aload0, x_call1_0, x_call1_1, x_call1_2, x_call1_3, x_call1_4, e_k_s, e_k_i, List.nil_append, List.cons_append, x_istore2i, x_istore2r, x_istore2u, x_iload1, x_call2_0, x_call2_1, x_call2_2, x_call2_3, x_call2_4, x_istore3i, x_istore3r, x_istore3u, x_sipush, x_istore4i, x_istore4r, x_istore4u, x_istore5i, x_istore5r, x_istore5u, x_jsr, x_iload5, x_iload3, x_if_icmp_ge, x_iload4, x_iadd, x_iinc5i, x_iinc5r, x_iinc5u, x_goto, x_iload2, x_ireturn, b01_0, ite_not, if_true, if_false, Int.reduceLT, Int.reduceEq]
    rw [if_neg (by omega)]
    rfl
  | succ n ih =>
    intro c F w i hc hn h0 hi
    have hx := nxt_ok h hc (by omega)
    obtain ⟨F1, e1⟩ := t_pas (X := X) (d := d) (J := J) h hR hc F (a := -1) (by decide)
    obtain ⟨c', F', e2⟩ := ih (nxt I c) F1 (w + (pas I c (-1)).1) (i + 1) hx.1 (by omega) (by omega) (by omega)
    refine ⟨c', F', ?_⟩
    rw [show rnN I (n + 1) c w = rnN I n (nxt I c) (w + (pas I c (-1)).1) from rfl, ← e2, u_84_17]
    simp (disch := omega) only [v_84_1, u_84_0, x_aload0, x_call1_0, x_call1_1, x_call1_2, x_call1_3, x_call1_4, e_k_s, e_k_i, List.nil_append, List.cons_append, x_istore2i, x_istore2r, x_istore2u, x_iload1, x_call2_0, x_call2_1, x_call2_2, x_call2_3, x_call2_4, x_istore3i, x_istore3r, x_istore3u, x_sipush, x_istore4i, x_istore4r, x_istore4u, x_istore5i, x_istore5r, x_istore5u, x_jsr, x_iload5, x_iload3, x_if_icmp_ge, x_iload4, x_iadd, x_iinc5i, x_iinc5r, x_iinc5u, x_goto, x_iload2, x_ireturn, e1, b01_0, ite_not, if_true, if_false, Int.reduceLT, Int.reduceEq]
    rw [if_pos (by omega)]
    rfl
theorem t_rst (h : inv I) (hR : rok I) {c : co} (hc : cok I c) (F : Int → Int) {m : Int} (hm : 0 ≤ m ∧ m ≤ 100) : ∃ F', s_S X (d + 6) 84 [.ref 1, .int (iI m)] (mm (bk I c F) J) = some ([.int (iI (rst I c m))], mm (bk I c F') J) := by
  have hy := yec_b hm.1 hc
  have e1 := t_mo (X := X) (d := d + 4) (J := J) h hc (F := F)
  have e2 := t_yt (X := X) (d := d + 4) (J := J) h hc (F := F) (m := m) ⟨by omega, by omega⟩
  obtain ⟨c', F', e3⟩ := t_rw1 (X := X) (d := d) (J := J) h hR (a := m) (mo := cmo c) (yrs := yec I c m) (by omega) (yec I c m).toNat c F 0 0 hc (by omega) (by decide) (by omega)
  have e4 := t_bo (X := X) (d := d + 4) (J := J) h hc (c' := c') (F := F')
  refine ⟨F', ?_⟩
  simp (disch := omega) only [v_84_1, u_84_0, x_aload0, x_call1_0, x_call1_1, x_call1_2, x_call1_3, x_call1_4, e_k_s, e_k_i, List.nil_append, List.cons_append, x_istore2i, x_istore2r, x_istore2u, x_iload1, x_call2_0, x_call2_1, x_call2_2, x_call2_3, x_call2_4, x_istore3i, x_istore3r, x_istore3u, x_sipush, x_istore4i, x_istore4r, x_istore4u, x_istore5i, x_istore5r, x_istore5u, x_jsr, x_iload5, x_iload3, x_if_icmp_ge, x_iload4, x_iadd, x_iinc5i, x_iinc5r, x_iinc5u, x_goto, u_84_39, x_iload2, x_ireturn, e1, e2, e3, e4, b01_0, ite_not, if_true, if_false, Int.reduceLT, Int.reduceEq]
  rfl
theorem t_ru1 (h : inv I) (hR : rok I) {set pl mo yrs : Int} (hset : 0 ≤ set ∧ set < 64) (hpl : 0 ≤ pl ∧ pl ≤ 40) (hy : 0 ≤ yrs ∧ yrs ≤ 100) : ∀ (n : Nat) (c : co) (F : Int → Int) (i : Int), cok I c → c.1 + n ≤ I 1 12 → 0 ≤ i → i + n = yrs → ∃ c' F' i', s_j X (d + 5) 88 20 [.ref 1, .int (iI set), .int (iI pl), .int (iI mo), .int (iI yrs), .int (iI (-3)), .int (iI i)] [] (mm (bk I c F) J) = s_j X (d + 5) 88 72 [.ref 1, .int (iI set), .int (iI pl), .int (iI mo), .int (iI yrs), .int (iI (unt I set pl n c)), .int (iI i')] [] (mm (bk I c' F') J) := by
  have h64 := pw_6 h.1
  have h16 := h.2.2.2.1
  intro n
  induction n with
  | zero =>
    intro c F i hc hn h0 hi
    refine ⟨c, F, i, ?_⟩
    rw [u_88_20]
    simp (disch := omega) only [v_88_1, u_88_0, x_aload0, x_call1_0, x_call1_1, x_call1_2, x_call1_3, x_call1_4, e_k_s, e_k_i, List.nil_append, List.cons_append, x_istore3i, x_istore3r, x_istore3u, x_sipush, x_call2_0, x_call2_1, x_call2_2, x_call2_3, x_call2_4, x_istore4i, x_istore4r, x_istore4u, x_istore5i, x_istore5r, x_istore5u, x_istore6i, x_istore6r, x_istore6u, x_jsr, x_iload6, x_iload4, x_if_icmp_ge, x_iload5, x_if_icmp_ne, x_pop, f_1_10, x_iload1, x_iand, f_1_15, x_iload2, x_if_icmp_lt, f_1_11, x_isub, u_88_66, x_iinc6i, x_iinc6r, x_iinc6u, x_goto, x_iload3, x_ireturn, b01_0, ite_not, if_true, if_false, Int.reduceLT, Int.reduceEq]
    rw [if_neg (by omega)]
    rfl
  | succ n ih =>
    intro c F i hc hn h0 hi
    have hx := nxt_ok h hc (by omega)
    obtain ⟨F1, e1⟩ := t_pas (X := X) (d := d) (J := J) h hR hc F (a := -1) (by decide)
    rw [show (pas I c (-1)).2 = nxt I c from rfl] at e1
    have c0 := hc.1
    obtain ⟨c1, c2, c3, c4⟩ := id hx.1
    have e2 := i_and (a := (nxt I c).2.2.2) (b := set) (by omega) (by omega)
    have hand : (nxt I c).2.2.2.toNat &&& set.toNat ≤ (nxt I c).2.2.2.toNat := Nat.and_le_left
    by_cases hh : hit set pl (nxt I c)
    · refine ⟨nxt I c, F1, i + 1, ?_⟩
      rw [show unt I set pl (n + 1) c = (nxt I c).1 - 1 from if_pos hh, u_88_20]
      have r0 : ∀ F, bk I (nxt I c) F 1 10 = (nxt I c).2.2.2 := fun F => rfl
      have r1 : ∀ F, bk I (nxt I c) F 1 15 = (nxt I c).2.2.1 := fun F => rfl
      have r2 : ∀ F, bk I (nxt I c) F 1 11 = (nxt I c).1 := fun F => rfl
      simp (disch := omega) only [v_88_1, u_88_0, x_aload0, x_call1_0, x_call1_1, x_call1_2, x_call1_3, x_call1_4, e_k_s, e_k_i, List.nil_append, List.cons_append, x_istore3i, x_istore3r, x_istore3u, x_sipush, x_call2_0, x_call2_1, x_call2_2, x_call2_3, x_call2_4, x_istore4i, x_istore4r, x_istore4u, x_istore5i, x_istore5r, x_istore5u, x_istore6i, x_istore6r, x_istore6u, x_jsr, x_iload6, x_iload4, x_if_icmp_ge, x_iload5, x_if_icmp_ne, x_pop, f_1_10, x_iload1, x_iand, f_1_15, x_iload2, x_if_icmp_lt, f_1_11, x_isub, u_88_66, x_iinc6i, x_iinc6r, x_iinc6u, x_goto, x_iload3, x_ireturn, e1, r0, r1, r2, e2, b01_0, ite_not, if_true, if_false, Int.reduceLT, Int.reduceEq]
      rw [if_pos (by omega), if_pos hh.1, if_neg (by omega), u_88_20]
      simp (disch := omega) only [v_88_1, u_88_0, x_aload0, x_call1_0, x_call1_1, x_call1_2, x_call1_3, x_call1_4, e_k_s, e_k_i, List.nil_append, List.cons_append, x_istore3i, x_istore3r, x_istore3u, x_sipush, x_call2_0, x_call2_1, x_call2_2, x_call2_3, x_call2_4, x_istore4i, x_istore4r, x_istore4u, x_istore5i, x_istore5r, x_istore5u, x_istore6i, x_istore6r, x_istore6u, x_jsr, x_iload6, x_iload4, x_if_icmp_ge, x_iload5, x_if_icmp_ne, x_pop, f_1_10, x_iload1, x_iand, f_1_15, x_iload2, x_if_icmp_lt, f_1_11, x_isub, u_88_66, x_iinc6i, x_iinc6r, x_iinc6u, x_goto, x_iload3, x_ireturn, b01_0, ite_not, if_true, if_false, Int.reduceLT, Int.reduceEq]
      by_cases q : i + 1 < yrs
      · rw [if_pos q, if_neg (by omega)]
      · rw [if_neg q]
    · obtain ⟨c', F', i', e3⟩ := ih (nxt I c) F1 (i + 1) hx.1 (by omega) (by omega) (by omega)
      refine ⟨c', F', i', ?_⟩
      rw [show unt I set pl (n + 1) c = unt I set pl n (nxt I c) from if_neg hh, ← e3, u_88_20]
      have r0 : ∀ F, bk I (nxt I c) F 1 10 = (nxt I c).2.2.2 := fun F => rfl
      have r1 : ∀ F, bk I (nxt I c) F 1 15 = (nxt I c).2.2.1 := fun F => rfl
      have r2 : ∀ F, bk I (nxt I c) F 1 11 = (nxt I c).1 := fun F => rfl
      simp (disch := omega) only [v_88_1, u_88_0, x_aload0, x_call1_0, x_call1_1, x_call1_2, x_call1_3, x_call1_4, e_k_s, e_k_i, List.nil_append, List.cons_append, x_istore3i, x_istore3r, x_istore3u, x_sipush, x_call2_0, x_call2_1, x_call2_2, x_call2_3, x_call2_4, x_istore4i, x_istore4r, x_istore4u, x_istore5i, x_istore5r, x_istore5u, x_istore6i, x_istore6r, x_istore6u, x_jsr, x_iload6, x_iload4, x_if_icmp_ge, x_iload5, x_if_icmp_ne, x_pop, f_1_10, x_iload1, x_iand, f_1_15, x_iload2, x_if_icmp_lt, f_1_11, x_isub, u_88_66, x_iinc6i, x_iinc6r, x_iinc6u, x_goto, x_iload3, x_ireturn, e1, r0, r1, r2, e2, b01_0, ite_not, if_true, if_false, Int.reduceLT, Int.reduceEq]
      rw [if_pos (by omega)]
      by_cases q : ((((nxt I c).2.2.2.toNat &&& set.toNat : Nat) : Int) = set)
      · rw [if_pos q, if_pos (by have : ¬ (pl ≤ (nxt I c).2.2.1) := fun z => hh ⟨q, z⟩
                                 omega)]
      · rw [if_neg q]
theorem t_unt (h : inv I) (hR : rok I) {c : co} (hc : cok I c) (F : Int → Int) {set pl : Int} (hset : 0 ≤ set ∧ set < 64) (hpl : 0 ≤ pl ∧ pl ≤ 40) : ∃ F', s_S X (d + 6) 88 [.ref 1, .int (iI set), .int (iI pl)] (mm (bk I c F) J) = some ([.int (iI (unt I set pl (yec I c 16).toNat c))], mm (bk I c F') J) := by
  have hy := yec_b (m := 16) (by decide) hc
  have e1 := t_mo (X := X) (d := d + 4) (J := J) h hc (F := F)
  have e2 := t_yt (X := X) (d := d + 4) (J := J) h hc (F := F) (m := 16) (by decide)
  obtain ⟨c', F', i', e3⟩ := t_ru1 (X := X) (d := d) (J := J) h hR (mo := cmo c) (yrs := yec I c 16) hset hpl (by omega) (yec I c 16).toNat c F 0 hc (by omega) (by decide) (by omega)
  have e4 := t_bo (X := X) (d := d + 4) (J := J) h hc (c' := c') (F := F')
  refine ⟨F', ?_⟩
  simp (disch := omega) only [v_88_1, u_88_0, x_aload0, x_call1_0, x_call1_1, x_call1_2, x_call1_3, x_call1_4, e_k_s, e_k_i, List.nil_append, List.cons_append, x_istore3i, x_istore3r, x_istore3u, x_sipush, x_call2_0, x_call2_1, x_call2_2, x_call2_3, x_call2_4, x_istore4i, x_istore4r, x_istore4u, x_istore5i, x_istore5r, x_istore5u, x_istore6i, x_istore6r, x_istore6u, x_jsr, x_iload6, x_iload4, x_if_icmp_ge, x_iload5, x_if_icmp_ne, x_pop, f_1_10, x_iload1, x_iand, f_1_15, x_iload2, x_if_icmp_lt, f_1_11, x_isub, u_88_66, x_iinc6i, x_iinc6r, x_iinc6u, x_goto, u_88_72, x_iload3, x_ireturn, e1, e2, e3, e4, b01_0, ite_not, if_true, if_false, Int.reduceLT, Int.reduceEq]
theorem inv_u3 {k v : Int} (h : inv I) (hv : 0 ≤ v ∧ v ≤ 39) : inv (up I 3 k v) := by
  obtain ⟨h1, h2, h3, h4, h5, h6, h7, h8, h9⟩ := h
  refine ⟨h1, h2, h3, h4, h5, h6, fun j j0 j1 => ?_, h8, h9⟩
  obtain ⟨a1, a2, a3, a4⟩ := h7 j j0 j1
  refine ⟨a1, ?_, a3, a4⟩
  rw [up_row]
  split
  · exact hv
  · exact a2
theorem inv_u4 {k v : Int} (h : inv I) (hv : 0 ≤ v ∧ v ≤ 9) : inv (up I 4 k v) := by
  obtain ⟨h1, h2, h3, h4, h5, h6, h7, h8, h9⟩ := h
  refine ⟨h1, h2, h3, h4, h5, h6, fun j j0 j1 => ?_, h8, h9⟩
  obtain ⟨a1, a2, a3, a4⟩ := h7 j j0 j1
  refine ⟨a1, a2, ?_, a4⟩
  rw [up_row]
  split
  · exact hv
  · exact a3
theorem rok_u {k v : Int} {o : Nat} (ho : o ≤ 8) (h : rok I) : rok (up I o k v) := by
  have e : ∀ a : Nat, 9 ≤ a → up I o k v a = I a := fun a ha => by
    funext b
    exact up_o (by omega)
  exact rok_eq (by rw [e 9 (by decide)]) (e 10 (by decide)) (e 11 (by decide)) (e 12 (by decide)) (e 13 (by decide)) h
theorem up_up {I : Nat → Int → Int} {o : Nat} {k v w : Int} : up (up I o k v) o k w = up I o k w := by
  funext a b
  unfold up
  split <;> rfl
theorem up_id {I : Nat → Int → Int} {o : Nat} {k : Int} : up I o k (I o k) = I := by
  funext a b
  unfold up
  split
  · rename_i q
    rw [q.1, q.2]
  · rfl
theorem t_bv1 (h : inv I) (hR : rok I) {o : Nat} {hi : Int} (ho : (o = 3 ∧ hi = 39) ∨ (o = 4 ∧ hi = 9)) {k : Int} (hk : 0 ≤ k ∧ k < 6) {c : co} (hc : cok I c) : ∀ (n : Nat) (F : Int → Int) (v best most u : Int) (w : Value), 0 ≤ v → v + n = hi + 1 → rg most → ∃ F' u' w' most' v', s_j X (d + 6) 89 14 [.ref 1, .ref o, .int (iI k), .int (iI hi), .int (iI (I o k)), .int (iI best), .int (iI most), .int (iI v), w] [] (mm (bk (up I o k u) c F) J) = s_j X (d + 6) 89 54 [.ref 1, .ref o, .int (iI k), .int (iI hi), .int (iI (I o k)), .int (iI (bsv I o k c n v best most)), .int (iI most'), .int (iI v'), w'] [] (mm (bk (up I o k u') c F') J) := by
  intro n
  induction n with
  | zero =>
    intro F v best most u w h0 hn hm
    refine ⟨F, u, w, most, v, ?_⟩
    rw [u_89_14]
    simp (disch := omega) only [v_89_1, u_89_0, x_aload1, x_iload2, x_istore4i, x_istore4r, x_istore4u, x_sipush, x_istore5i, x_istore5r, x_istore5u, x_istore6i, x_istore6r, x_istore6u, x_istore7i, x_istore7r, x_istore7u, x_jsr, x_iload7, x_iload3, x_if_icmp_gt, x_aload0, x_call2_0, x_call2_1, x_call2_2, x_call2_3, x_call2_4, e_k_s, e_k_i, List.nil_append, List.cons_append, x_istore8i, x_istore8r, x_istore8u, x_iload8, x_iload6, x_if_icmp_le, u_89_48, x_iinc7i, x_iinc7r, x_iinc7u, x_goto, x_iload4, x_iload5, x_ireturn, b01_0, ite_not, if_true, if_false, Int.reduceLT, Int.reduceEq]
    rw [if_pos (by omega)]
    rfl
  | succ n ih =>
    intro F v best most u w h0 hn hm
    have hi1 : inv (up I o k v) := by
      rcases ho with ⟨rfl, rfl⟩ | ⟨rfl, rfl⟩
      · exact inv_u3 h (by omega)
      · exact inv_u4 h (by omega)
    have hr1 : rok (up I o k v) := rok_u (by omega) hR
    have hc1 : cok (up I o k v) c := by
      rcases ho with ⟨rfl, rfl⟩ | ⟨rfl, rfl⟩ <;> exact hc
    obtain ⟨F1, e1⟩ := t_rst (X := X) (d := d) (J := J) hi1 hr1 hc1 F (m := 16) (by decide)
    have hb := rst_b hi1 hc1 (m := 16) (by decide)
    have bu : up (bk (up I o k u) c F) o k v = bk (up I o k v) c F := by
      rw [bk_u (by omega) (by omega), up_up]
    have key : ∀ bst mst, rg mst → ∃ F' u' w' most' v', s_j X (d + 6) 89 48 [.ref 1, .ref o, .int (iI k), .int (iI hi), .int (iI (I o k)), .int (iI bst), .int (iI mst), .int (iI v), .int (iI (rst (up I o k v) c 16))] [] (mm (bk (up I o k v) c F1) J) = s_j X (d + 6) 89 54 [.ref 1, .ref o, .int (iI k), .int (iI hi), .int (iI (I o k)), .int (iI (bsv I o k c n (v + 1) bst mst)), .int (iI most'), .int (iI v'), w'] [] (mm (bk (up I o k u') c F') J) := by
      intro bst mst hmst
      obtain ⟨F', u', w', m', v', e2⟩ := ih F1 (v + 1) bst mst v (.int (iI (rst (up I o k v) c 16))) (by omega) (by omega) hmst
      refine ⟨F', u', w', m', v', ?_⟩
      rw [← e2]
      simp (disch := omega) only [v_89_1, u_89_0, x_aload1, x_iload2, x_istore4i, x_istore4r, x_istore4u, x_sipush, x_istore5i, x_istore5r, x_istore5u, x_istore6i, x_istore6r, x_istore6u, x_istore7i, x_istore7r, x_istore7u, x_jsr, x_iload7, x_iload3, x_if_icmp_gt, x_aload0, x_call2_0, x_call2_1, x_call2_2, x_call2_3, x_call2_4, e_k_s, e_k_i, List.nil_append, List.cons_append, x_istore8i, x_istore8r, x_istore8u, x_iload8, x_iload6, x_if_icmp_le, u_89_48, x_iinc7i, x_iinc7r, x_iinc7u, x_goto, x_iload4, x_iload5, x_ireturn, b01_0, ite_not, if_true, if_false, Int.reduceLT, Int.reduceEq]
    by_cases q : most < rst (up I o k v) c 16
    · obtain ⟨F', u', w', m', v', e2⟩ := key v (rst (up I o k v) c 16) ⟨by omega, by omega⟩
      refine ⟨F', u', w', m', v', ?_⟩
      rw [show bsv I o k c (n + 1) v best most = bsv I o k c n (v + 1) v (rst (up I o k v) c 16) from if_pos q, ← e2, u_89_14]
      rcases ho with ⟨rfl, rfl⟩ | ⟨rfl, rfl⟩
      · simp (disch := omega) only [v_89_1, u_89_0, x_aload1, x_iload2, x_istore4i, x_istore4r, x_istore4u, x_sipush, x_istore5i, x_istore5r, x_istore5u, x_istore6i, x_istore6r, x_istore6u, x_istore7i, x_istore7r, x_istore7u, x_jsr, x_iload7, x_iload3, x_if_icmp_gt, x_aload0, x_call2_0, x_call2_1, x_call2_2, x_call2_3, x_call2_4, e_k_s, e_k_i, List.nil_append, List.cons_append, x_istore8i, x_istore8r, x_istore8u, x_iload8, x_iload6, x_if_icmp_le, x_iinc7i, x_iinc7r, x_iinc7u, x_goto, x_iload4, x_iload5, x_ireturn, bu, e1, is_3, b01_0, ite_not, if_true, if_false, Int.reduceLT, Int.reduceEq]
        rw [if_neg (by omega), if_pos q]
      · simp (disch := omega) only [v_89_1, u_89_0, x_aload1, x_iload2, x_istore4i, x_istore4r, x_istore4u, x_sipush, x_istore5i, x_istore5r, x_istore5u, x_istore6i, x_istore6r, x_istore6u, x_istore7i, x_istore7r, x_istore7u, x_jsr, x_iload7, x_iload3, x_if_icmp_gt, x_aload0, x_call2_0, x_call2_1, x_call2_2, x_call2_3, x_call2_4, e_k_s, e_k_i, List.nil_append, List.cons_append, x_istore8i, x_istore8r, x_istore8u, x_iload8, x_iload6, x_if_icmp_le, x_iinc7i, x_iinc7r, x_iinc7u, x_goto, x_iload4, x_iload5, x_ireturn, bu, e1, is_4, b01_0, ite_not, if_true, if_false, Int.reduceLT, Int.reduceEq]
        rw [if_neg (by omega), if_pos q]
    · obtain ⟨F', u', w', m', v', e2⟩ := key best most hm
      refine ⟨F', u', w', m', v', ?_⟩
      rw [show bsv I o k c (n + 1) v best most = bsv I o k c n (v + 1) best most from if_neg q, ← e2, u_89_14]
      rcases ho with ⟨rfl, rfl⟩ | ⟨rfl, rfl⟩
      · simp (disch := omega) only [v_89_1, u_89_0, x_aload1, x_iload2, x_istore4i, x_istore4r, x_istore4u, x_sipush, x_istore5i, x_istore5r, x_istore5u, x_istore6i, x_istore6r, x_istore6u, x_istore7i, x_istore7r, x_istore7u, x_jsr, x_iload7, x_iload3, x_if_icmp_gt, x_aload0, x_call2_0, x_call2_1, x_call2_2, x_call2_3, x_call2_4, e_k_s, e_k_i, List.nil_append, List.cons_append, x_istore8i, x_istore8r, x_istore8u, x_iload8, x_iload6, x_if_icmp_le, x_iinc7i, x_iinc7r, x_iinc7u, x_goto, x_iload4, x_iload5, x_ireturn, bu, e1, is_3, b01_0, ite_not, if_true, if_false, Int.reduceLT, Int.reduceEq]
        rw [if_neg (by omega), if_neg q]
      · simp (disch := omega) only [v_89_1, u_89_0, x_aload1, x_iload2, x_istore4i, x_istore4r, x_istore4u, x_sipush, x_istore5i, x_istore5r, x_istore5u, x_istore6i, x_istore6r, x_istore6u, x_istore7i, x_istore7r, x_istore7u, x_jsr, x_iload7, x_iload3, x_if_icmp_gt, x_aload0, x_call2_0, x_call2_1, x_call2_2, x_call2_3, x_call2_4, e_k_s, e_k_i, List.nil_append, List.cons_append, x_istore8i, x_istore8r, x_istore8u, x_iload8, x_iload6, x_if_icmp_le, x_iinc7i, x_iinc7r, x_iinc7u, x_goto, x_iload4, x_iload5, x_ireturn, bu, e1, is_4, b01_0, ite_not, if_true, if_false, Int.reduceLT, Int.reduceEq]
        rw [if_neg (by omega), if_neg q]
theorem t_bsv (h : inv I) (hR : rok I) {o : Nat} {hi : Int} (ho : (o = 3 ∧ hi = 39) ∨ (o = 4 ∧ hi = 9)) {k : Int} (hk : 0 ≤ k ∧ k < 6) {c : co} (hc : cok I c) (F : Int → Int) : ∃ F', s_S X (d + 7) 89 [.ref 1, .ref o, .int (iI k), .int (iI hi)] (mm (bk I c F) J) = some ([.int (iI (bsv I o k c (hi + 1).toNat 0 0 (-1)))], mm (bk I c F') J) := by
  obtain ⟨F', u', w', m', v', e1⟩ := t_bv1 (X := X) (d := d) (J := J) h hR ho hk hc (hi + 1).toNat F 0 0 (-1) (I o k) (.retAddr 0) (by decide) (by omega) (by decide)
  rw [up_id] at e1
  refine ⟨F', ?_⟩
  have bu : up (bk (up I o k u') c F') o k (I o k) = bk I c F' := by
    rw [bk_u (by omega) (by omega), up_up, up_id]
  have b0 : bk I c F o k = I o k := bk_o (by omega) (by omega)
  rcases ho with ⟨rfl, rfl⟩ | ⟨rfl, rfl⟩
  · simp (disch := omega) only [v_89_1, u_89_0, x_aload1, x_iload2, x_istore4i, x_istore4r, x_istore4u, x_sipush, x_istore5i, x_istore5r, x_istore5u, x_istore6i, x_istore6r, x_istore6u, x_istore7i, x_istore7r, x_istore7u, x_jsr, x_iload7, x_iload3, x_if_icmp_gt, x_aload0, x_call2_0, x_call2_1, x_call2_2, x_call2_3, x_call2_4, e_k_s, e_k_i, List.nil_append, List.cons_append, x_istore8i, x_istore8r, x_istore8u, x_iload8, x_iload6, x_if_icmp_le, u_89_48, x_iinc7i, x_iinc7r, x_iinc7u, x_goto, u_89_54, x_iload4, x_iload5, x_ireturn, bu, e1, ia_3, is_3, b0, b01_0, ite_not, if_true, if_false, Int.reduceLT, Int.reduceEq]
  · simp (disch := omega) only [v_89_1, u_89_0, x_aload1, x_iload2, x_istore4i, x_istore4r, x_istore4u, x_sipush, x_istore5i, x_istore5r, x_istore5u, x_istore6i, x_istore6r, x_istore6u, x_istore7i, x_istore7r, x_istore7u, x_jsr, x_iload7, x_iload3, x_if_icmp_gt, x_aload0, x_call2_0, x_call2_1, x_call2_2, x_call2_3, x_call2_4, e_k_s, e_k_i, List.nil_append, List.cons_append, x_istore8i, x_istore8r, x_istore8u, x_iload8, x_iload6, x_if_icmp_le, u_89_48, x_iinc7i, x_iinc7r, x_iinc7u, x_goto, u_89_54, x_iload4, x_iload5, x_ireturn, bu, e1, ia_4, is_4, b0, b01_0, ite_not, if_true, if_false, Int.reduceLT, Int.reduceEq]
end
