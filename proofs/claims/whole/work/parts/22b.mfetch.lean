/-! THOSE that are SEATED, FETCHING in the model -/
theorem tho_dec : (List.range 64).all (fun a => (List.range 6).all fun b => decide ((iI ((a : Nat) % 2 ^ b : Nat) : Int32) ||| iI (if bt a b = 1 then stb 0 b 1 else 0) = iI ((a % 2 ^ (b + 1) : Nat) : Int))) = true := by decide +kernel
theorem tho_i {a : Int} {b : Nat} (ha : 0 ≤ a ∧ a < 64) (hb : b < 6) : iI (a % 2 ^ b) ||| iI (if bt a b = 1 then stb 0 b 1 else 0) = iI (a % 2 ^ (b + 1)) := by
  obtain ⟨m, rfl⟩ := Int.eq_ofNat_of_zero_le ha.1
  have h := of_decide_eq_true (List.all_eq_true.mp (List.all_eq_true.mp tho_dec m (List.mem_range.mpr (by omega))) b (List.mem_range.mpr hb))
  have e : ∀ k : Nat, ((m : Int) % 2 ^ k) = ((m % 2 ^ k : Nat) : Int) := fun k => by
    rw [Int.natCast_emod, Int.natCast_pow]
    rfl
  rw [e, e]
  exact h
theorem awy_dec : (List.range 7).all (fun n => (List.range (2 ^ n)).all fun a => decide (iI (2 ^ n - 1) &&& (iI a ^^^ iI (-1)) = iI (2 ^ n - 1 - a)) && (List.range n).all fun k => decide (bt (2 ^ n - 1 - a) k = 1 - bt a k)) = true := by decide +kernel
theorem awy_i {n a : Int} (hn : 0 ≤ n ∧ n ≤ 6) (ha : 0 ≤ a ∧ a < 2 ^ n.toNat) : iI (2 ^ n.toNat - 1) &&& (iI a ^^^ iI (-1)) = iI (2 ^ n.toNat - 1 - a) ∧ ∀ k, 0 ≤ k → k < n → bt (2 ^ n.toNat - 1 - a) k = 1 - bt a k := by
  obtain ⟨N, rfl⟩ := Int.eq_ofNat_of_zero_le hn.1
  obtain ⟨m, rfl⟩ := Int.eq_ofNat_of_zero_le ha.1
  have e : ((2 : Int) ^ (Int.toNat ((N : Nat) : Int))) = ((2 ^ N : Nat) : Int) := by
    rw [Int.toNat_natCast, Int.natCast_pow]; rfl
  rw [e] at ha
  have h := List.all_eq_true.mp (List.all_eq_true.mp awy_dec N (List.mem_range.mpr (by omega))) m (List.mem_range.mpr (by omega))
  rw [Bool.and_eq_true] at h
  refine ⟨of_decide_eq_true h.1, fun k k0 k1 => ?_⟩
  obtain ⟨K, rfl⟩ := Int.eq_ofNat_of_zero_le k0
  exact of_decide_eq_true (List.all_eq_true.mp h.2 K (List.mem_range.mpr (by omega)))
/-- two numbers of the model's last search -/
def g2 (B : Nat → Int → Int) (a b : Int) : Nat → Int → Int := fun o k => if o = 69 then (if k = 16 then a else if k = 17 then b else B 69 k) else B o k
theorem g2_o {B : Nat → Int → Int} {a b k : Int} {o : Nat} (h : o ≠ 69) : g2 B a b o k = B o k := if_neg h
theorem g2_a {B : Nat → Int → Int} {a b : Int} : g2 B a b 69 16 = a := rfl
theorem g2_b {B : Nat → Int → Int} {a b : Int} : g2 B a b 69 17 = b := rfl
theorem g2_ua {B : Nat → Int → Int} {a b v : Int} : up (g2 B a b) 69 16 v = g2 B v b := by
  funext o k
  unfold up g2
  (repeat' split) <;> simp_all
theorem g2_ub {B : Nat → Int → Int} {a b v : Int} : up (g2 B a b) 69 17 v = g2 B a v := by
  funext o k
  unfold up g2
  (repeat' split) <;> simp_all
theorem g2_u {B : Nat → Int → Int} {v : Int} : up B 69 16 v = g2 B v (B 69 17) := by
  funext o k
  unfold up g2
  (repeat' split) <;> simp_all
def lpk {α : Type} (f : Int → α → α) : Nat → Int → α → α
  | 0, _, g => g
  | n + 1, k, g => lpk f n (k + 1) (f k g)
def gor (I : Nat → Int → Int) : Nat → Int → Int → Int → Int → Int × Int → Int × Int
  | 0, left, _, pl, fi, g => if left = 0 then (if g.1 < 0 ∨ pl < g.1 then (pl, fi) else g) else g
  | f + 1, left, fr, pl, fi, g => if left = 0 then (if g.1 < 0 ∨ pl < g.1 then (pl, fi) else g) else
      lpk (fun k g => if bt left k = 1 then gor I f (stb left k 0) (I 3 k) (pl + iabs (I 3 k - fr)) (if fi < 0 then k else fi) g else g) (I 1 9).toNat 0 g
/-- how many are left -/
def crd (s : Int) : Int := bt s 0 + bt s 1 + bt s 2 + bt s 3 + bt s 4 + bt s 5
theorem crd_dec : (List.range 64).all (fun a => (decide (crd a = 0) == decide (a = 0)) && (List.range 6).all fun b => decide (crd (stb a b 0) = crd a - bt a b)) = true := by decide +kernel
theorem crd_0 {s : Int} (hs : 0 ≤ s ∧ s < 64) : crd s = 0 ↔ s = 0 := by
  obtain ⟨m, rfl⟩ := Int.eq_ofNat_of_zero_le hs.1
  have h := List.all_eq_true.mp crd_dec m (List.mem_range.mpr (by omega))
  rw [Bool.and_eq_true, beq_iff_eq, decide_eq_decide] at h
  constructor
  · intro q
    have := h.1.mp q
    omega
  · intro q
    exact h.1.mpr (by omega)
theorem crd_s {s k : Int} (hs : 0 ≤ s ∧ s < 64) (hk : 0 ≤ k ∧ k < 6) : crd (stb s k 0) = crd s - bt s k := by
  obtain ⟨m, rfl⟩ := Int.eq_ofNat_of_zero_le hs.1
  obtain ⟨K, rfl⟩ := Int.eq_ofNat_of_zero_le hk.1
  have h := List.all_eq_true.mp crd_dec m (List.mem_range.mpr (by omega))
  rw [Bool.and_eq_true] at h
  exact of_decide_eq_true (List.all_eq_true.mp h.2 K (List.mem_range.mpr (by omega)))
theorem shn_dec : (List.range 7).all (fun n => decide ((iI 1 <<< (iI (n : Nat) &&& 31)) = iI (2 ^ n))) = true := by decide +kernel
theorem shn_i {n : Int} (h : 0 ≤ n ∧ n ≤ 6) : iI 1 <<< (iI n &&& 31) = iI (2 ^ n.toNat) := by
  obtain ⟨m, rfl⟩ := Int.eq_ofNat_of_zero_le h.1
  exact of_decide_eq_true (List.all_eq_true.mp shn_dec m (List.mem_range.mpr (by omega)))
section
variable {X : e_X} {d : Nat} {I J M B : Nat → Int → Int}
theorem m_th1s (h : inv I) (hE : RE I (M 70)) {y m sh st : Int} (hco : cok I (y, m, sh, st)) {sc : Int} {P : Int → Int} : ∀ (r n : Nat), (n : Int) + r = I 1 9 → s_j X (d + 1) 218 4 [.ref 69, .int (iI 4), .int (iI (st % 2 ^ n)), .int (iI (n : Nat))] [] (mm (mk M (I 1 9) (y, m, sh, st) sc P) J) = some ([.int (iI st)], mm (mk M (I 1 9) (y, m, sh, st) sc P) J) := by
  have hn6 := h.1
  have e6 := hE.2.1
  have c4 := hco.2.2.2
  simp only at c4
  have h64 := pw_6 hn6
  intro r
  induction r with
  | zero =>
    intro n hn
    rw [show (I 1 9).toNat = n by omega] at c4
    rw [u_218_4, Int.emod_eq_of_lt c4.1 c4.2]
    simp (disch := omega) only [v_218_69, u_218_0, x_sipush, x_istore2i, x_istore2r, x_istore2u, x_istore3i, x_istore3r, x_istore3u, x_jsr, x_iload3, x_aload0, k_69_0, x_if_icmp_ge, x_iload2, x_iload1, x_call3_0, x_call3_1, x_call3_2, x_call3_3, x_call3_4, e_k_s, e_k_i, List.nil_append, List.cons_append, x_ifCond_le, x_ishl, x_goto, u_218_31, u_218_32, x_ior, x_iinc3i, x_iinc3r, x_iinc3u, u_218_40, x_ireturn, ia_70, mk_r, e6, b01_0, ite_not, if_true, if_false, Int.reduceLT, Int.reduceEq]
    rw [if_neg (by omega)]
  | succ r ih =>
    intro n hn
    have hb := bt_rg st n
    have hb1 := bt_01 st n
    have e1 := ih (n + 1) (by omega)
    rw [show (((n + 1 : Nat)) : Int) = (n : Int) + 1 by omega] at e1
    have e2 := tho_i (a := st) (b := n) (by omega) (by omega)
    have e3 := sh1_i (k := n) (by omega)
    rw [u_218_4]
    by_cases q : bt st n = 1
    · rw [if_pos q] at e2
      simp (disch := omega) only [v_218_69, u_218_0, x_sipush, x_istore2i, x_istore2r, x_istore2u, x_istore3i, x_istore3r, x_istore3u, x_jsr, x_iload3, x_aload0, k_69_0, x_if_icmp_ge, x_iload2, x_iload1, x_call3_0, x_call3_1, x_call3_2, x_call3_3, x_call3_4, e_k_s, e_k_i, List.nil_append, List.cons_append, x_ifCond_le, x_ishl, x_goto, u_218_31, u_218_32, x_ior, x_iinc3i, x_iinc3r, x_iinc3u, u_218_40, x_ireturn, ia_70, mk_r, mk_s, m_get, e6, q, e3, e2, e1, b01_0, ite_not, if_true, if_false, Int.reduceLT, Int.reduceEq]
      rw [if_pos (by omega)]
    · rw [if_neg q] at e2
      have q0 : bt st n = 0 := by omega
      simp (disch := omega) only [v_218_69, u_218_0, x_sipush, x_istore2i, x_istore2r, x_istore2u, x_istore3i, x_istore3r, x_istore3u, x_jsr, x_iload3, x_aload0, k_69_0, x_if_icmp_ge, x_iload2, x_iload1, x_call3_0, x_call3_1, x_call3_2, x_call3_3, x_call3_4, e_k_s, e_k_i, List.nil_append, List.cons_append, x_ifCond_le, x_ishl, x_goto, u_218_31, u_218_32, x_ior, x_iinc3i, x_iinc3r, x_iinc3u, u_218_40, x_ireturn, ia_70, mk_r, mk_s, m_get, e6, q0, e3, e2, e1, b01_0, ite_not, if_true, if_false, Int.reduceLT, Int.reduceEq]
      rw [if_pos (by omega)]
theorem m_those (h : inv I) (hE : RE I (M 70)) {c : co} (hco : cok I c) {sc : Int} {P : Int → Int} : s_S X (d + 2) 218 [.ref 69, .int (iI 4)] (mm (mk M (I 1 9) c sc P) J) = some ([.int (iI c.2.2.2)], mm (mk M (I 1 9) c sc P) J) := by
  obtain ⟨y, m, sh, st⟩ := c
  have e := m_th1s (X := X) (d := d) (J := J) h hE hco (sc := sc) (P := P) (I 1 9).toNat 0 (by have := h.1; omega)
  rw [show st % 2 ^ 0 = 0 by simp] at e
  simp (disch := omega) only [v_218_69, u_218_0, x_sipush, x_istore2i, x_istore2r, x_istore2u, x_istore3i, x_istore3r, x_istore3u, x_jsr, x_iload3, x_aload0, k_69_0, x_if_icmp_ge, x_iload2, x_iload1, x_call3_0, x_call3_1, x_call3_2, x_call3_3, x_call3_4, e_k_s, e_k_i, List.nil_append, List.cons_append, x_ifCond_le, x_ishl, x_goto, u_218_31, u_218_32, x_ior, x_iinc3i, x_iinc3r, x_iinc3u, u_218_40, x_ireturn, ia_70, b01_0, ite_not, if_true, if_false, Int.reduceLT, Int.reduceEq]
  exact e
theorem gor_1 {I : Nat → Int → Int} {f : Nat} {left fr pl fi : Int} {g : Int × Int} (h : ¬ left = 0) : gor I (f + 1) left fr pl fi g = lpk (fun k g => if bt left k = 1 then gor I f (stb left k 0) (I 3 k) (pl + iabs (I 3 k - fr)) (if fi < 0 then k else fi) g else g) (I 1 9).toNat 0 g := if_neg h
theorem gor_0 {I : Nat → Int → Int} {f : Nat} {fr pl fi : Int} {g : Int × Int} : gor I f 0 fr pl fi g = if g.1 < 0 ∨ pl < g.1 then (pl, fi) else g := by
  cases f <;> rfl
theorem m_gor (h : inv I) (h6 : B 70 6 = I 1 9) (h3 : ∀ k, 0 ≤ k → k < I 1 9 → B 70 (38 + 6 * k + 1) = I 3 k) : ∀ (f D : Nat) (left fr pl fi : Int) (g : Int × Int), f + 2 ≤ D → 0 ≤ left ∧ left < 64 → crd left ≤ f → 0 ≤ fr ∧ fr ≤ 40 → 0 ≤ pl ∧ pl ≤ 1000 - 100 * crd left → (-1 ≤ fi ∧ fi < 6) → -1 ≤ g.1 ∧ g.1 ≤ 1000 → s_S X D 243 [.ref 69, .int (iI left), .int (iI fr), .int (iI pl), .int (iI fi)] (mm (g2 B g.1 g.2) J) = some ([], mm (g2 B (gor I f left fr pl fi g).1 (gor I f left fr pl fi g).2) J) ∧ -1 ≤ (gor I f left fr pl fi g).1 ∧ (gor I f left fr pl fi g).1 ≤ 1000 := by
  have hn6 := h.1
  have leaf : ∀ (f D : Nat) (fr pl fi : Int) (g : Int × Int), 2 ≤ D → 0 ≤ pl ∧ pl ≤ 1000 → -1 ≤ g.1 ∧ g.1 ≤ 1000 → s_S X D 243 [.ref 69, .int (iI 0), .int (iI fr), .int (iI pl), .int (iI fi)] (mm (g2 B g.1 g.2) J) = some ([], mm (g2 B (gor I f 0 fr pl fi g).1 (gor I f 0 fr pl fi g).2) J) ∧ -1 ≤ (gor I f 0 fr pl fi g).1 ∧ (gor I f 0 fr pl fi g).1 ≤ 1000 := by
    intro f D fr pl fi g hD hpl hg
    obtain ⟨D, rfl⟩ : ∃ D', D = D' + 1 := ⟨D - 1, by omega⟩
    rw [gor_0]
    by_cases q : g.1 < 0 ∨ pl < g.1
    · rw [if_pos q]
      refine ⟨?_, by show -1 ≤ pl; omega, by show pl ≤ 1000; omega⟩
      simp (disch := omega) only [v_243_69, u_243_0, x_iload1, x_ifCond_ne, x_ifCond_neb, x_aload0, f_69_16, x_ifCond_lt, x_iload3, x_if_icmp_ge, x_jsr, u_243_19, p_69_16, x_iload4, p_69_17, u_243_30, x_return, u_243_31, x_sipush, x_istore5i, x_istore5r, x_istore5u, x_iload5, k_69_0, x_ishr, x_iand, x_if_icmp_ne, x_call3_0, x_call3_1, x_call3_2, x_call3_3, x_call3_4, e_k_s, e_k_i, List.nil_append, List.cons_append, x_iload2, x_isub, x_goto, u_243_79, u_243_88, x_istore6i, x_istore6r, x_istore6u, x_ishl, x_ixor, x_iload6, x_iadd, x_ifCond_ge, u_243_120, u_243_122, x_call5_0, x_call5_1, x_call5_2, x_call5_3, x_call5_4, u_243_125, x_iinc5i, x_iinc5r, x_iinc5u, u_243_131, ia_70, g2_a, g2_b, g2_ua, g2_ub, b01_0, ite_not, if_true, if_false, Int.reduceLT, Int.reduceEq]
      by_cases q1 : g.1 < 0
      · rw [if_pos q1]
      · rw [if_neg q1, if_pos (by omega)]
    · rw [if_neg q]
      refine ⟨?_, hg⟩
      simp (disch := omega) only [v_243_69, u_243_0, x_iload1, x_ifCond_ne, x_ifCond_neb, x_aload0, f_69_16, x_ifCond_lt, x_iload3, x_if_icmp_ge, x_jsr, u_243_19, p_69_16, x_iload4, p_69_17, u_243_30, x_return, u_243_31, x_sipush, x_istore5i, x_istore5r, x_istore5u, x_iload5, k_69_0, x_ishr, x_iand, x_if_icmp_ne, x_call3_0, x_call3_1, x_call3_2, x_call3_3, x_call3_4, e_k_s, e_k_i, List.nil_append, List.cons_append, x_iload2, x_isub, x_goto, u_243_79, u_243_88, x_istore6i, x_istore6r, x_istore6u, x_ishl, x_ixor, x_iload6, x_iadd, x_ifCond_ge, u_243_120, u_243_122, x_call5_0, x_call5_1, x_call5_2, x_call5_3, x_call5_4, u_243_125, x_iinc5i, x_iinc5r, x_iinc5u, u_243_131, ia_70, g2_a, g2_b, g2_ua, g2_ub, b01_0, ite_not, if_true, if_false, Int.reduceLT, Int.reduceEq]
      rw [if_neg (by omega), if_neg (by omega)]
  intro f
  induction f with
  | zero =>
    intro D left fr pl fi g hD hl hc hfr hpl hfi hg
    have : left = 0 := (crd_0 hl).mp (by
      have b0 := bt_01 left 0; have b1 := bt_01 left 1; have b2 := bt_01 left 2; have b3 := bt_01 left 3; have b4 := bt_01 left 4; have b5 := bt_01 left 5
      unfold crd at hc ⊢
      omega)
    subst this
    have z : crd 0 = 0 := by decide
    exact leaf 0 D fr pl fi g (by omega) (by omega) hg
  | succ f ih =>
    intro D left fr pl fi g hD hl hc hfr hpl hfi hg
    have b0 := bt_01 left 0; have b1 := bt_01 left 1; have b2 := bt_01 left 2; have b3 := bt_01 left 3; have b4 := bt_01 left 4; have b5 := bt_01 left 5
    have hcc : 0 ≤ crd left ∧ crd left ≤ 6 := by unfold crd; omega
    by_cases hz : left = 0
    · subst hz
      exact leaf (f + 1) D fr pl fi g (by omega) (by omega) hg
    rw [gor_1 hz]
    obtain ⟨D, rfl⟩ : ∃ D', D = D' + 1 + 1 := ⟨D - 2, by omega⟩
    have loop : ∀ (n : Nat) (k : Int) (g : Int × Int) (w : Value), 0 ≤ k → k + n = I 1 9 → -1 ≤ g.1 ∧ g.1 ≤ 1000 → s_j X (D + 1) 243 34 [.ref 69, .int (iI left), .int (iI fr), .int (iI pl), .int (iI fi), .int (iI k), w] [] (mm (g2 B g.1 g.2) J) = some ([], mm (g2 B (lpk (fun k g => if bt left k = 1 then gor I f (stb left k 0) (I 3 k) (pl + iabs (I 3 k - fr)) (if fi < 0 then k else fi) g else g) n k g).1 (lpk (fun k g => if bt left k = 1 then gor I f (stb left k 0) (I 3 k) (pl + iabs (I 3 k - fr)) (if fi < 0 then k else fi) g else g) n k g).2) J) ∧ -1 ≤ (lpk (fun k g => if bt left k = 1 then gor I f (stb left k 0) (I 3 k) (pl + iabs (I 3 k - fr)) (if fi < 0 then k else fi) g else g) n k g).1 ∧ (lpk (fun k g => if bt left k = 1 then gor I f (stb left k 0) (I 3 k) (pl + iabs (I 3 k - fr)) (if fi < 0 then k else fi) g else g) n k g).1 ≤ 1000 := by
      intro n
      induction n with
      | zero =>
        intro k g w h0 hn hg
        refine ⟨?_, hg⟩
        rw [u_243_34]
        simp (disch := omega) only [v_243_69, u_243_0, x_iload1, x_ifCond_ne, x_ifCond_neb, x_aload0, f_69_16, x_ifCond_lt, x_iload3, x_if_icmp_ge, x_jsr, u_243_19, p_69_16, x_iload4, p_69_17, u_243_30, x_return, u_243_31, x_sipush, x_istore5i, x_istore5r, x_istore5u, x_iload5, k_69_0, x_ishr, x_iand, x_if_icmp_ne, x_call3_0, x_call3_1, x_call3_2, x_call3_3, x_call3_4, e_k_s, e_k_i, List.nil_append, List.cons_append, x_iload2, x_isub, x_goto, u_243_79, u_243_88, x_istore6i, x_istore6r, x_istore6u, x_ishl, x_ixor, x_iload6, x_iadd, x_ifCond_ge, u_243_120, u_243_122, x_call5_0, x_call5_1, x_call5_2, x_call5_3, x_call5_4, u_243_125, x_iinc5i, x_iinc5r, x_iinc5u, u_243_131, ia_70, g2_o, h6, b01_0, ite_not, if_true, if_false, Int.reduceLT, Int.reduceEq]
        rw [if_neg (by omega)]
        rfl
      | succ n ihn =>
        intro k g w h0 hn hg
        have hk3 := h3 k h0 (by omega)
        have h3k := (h.2.2.2.2.2.2.1 k h0 (by omega)).2.1
        have e2 := bt_i (s := left) (k := k) hl (by omega)
        have hbr := bt_rg left k
        have hst := stb_i hl (k := k) (by omega)
        have hcs := crd_s hl (k := k) (by omega)
        have e4 := hst.2.1
        have e7 := sh1_i (k := k) (by omega)
        rw [e7] at e4
        have ha : (0 ≤ iabs (I 3 k - fr) ∧ iabs (I 3 k - fr) ≤ 40) := by
          unfold iabs
          split <;> omega
        have ha1 : I 3 k < fr → fr - I 3 k = iabs (I 3 k - fr) := fun q => by
          unfold iabs
          rw [if_neg (by omega)]
          omega
        have ha2 : ¬ I 3 k < fr → I 3 k - fr = iabs (I 3 k - fr) := fun q => by
          unfold iabs
          rw [if_pos (by omega)]
        by_cases q : bt left k = 1
        · have r := ih (D + 1) (stb left k 0) (I 3 k) (pl + iabs (I 3 k - fr)) (if fi < 0 then k else fi) g (by omega) (by omega) (by omega) (by omega) (by omega) (by split <;> omega) hg
          obtain ⟨r1, r2⟩ := r
          have s1 := ihn (k + 1) (gor I f (stb left k 0) (I 3 k) (pl + iabs (I 3 k - fr)) (if fi < 0 then k else fi) g) (.int (iI (iabs (I 3 k - fr)))) (by omega) (by omega) r2
          have e9 : lpk (fun k g => if bt left k = 1 then gor I f (stb left k 0) (I 3 k) (pl + iabs (I 3 k - fr)) (if fi < 0 then k else fi) g else g) (n + 1) k g = lpk (fun k g => if bt left k = 1 then gor I f (stb left k 0) (I 3 k) (pl + iabs (I 3 k - fr)) (if fi < 0 then k else fi) g else g) n (k + 1) (gor I f (stb left k 0) (I 3 k) (pl + iabs (I 3 k - fr)) (if fi < 0 then k else fi) g) := by
            show lpk _ n (k + 1) (if bt left k = 1 then _ else _) = _
            rw [if_pos q]
          rw [e9]
          refine ⟨?_, s1.2⟩
          rw [← s1.1, u_243_34]
          by_cases qf : fi < 0
          · rw [if_pos qf] at r1 ⊢
            by_cases qa : I 3 k < fr
            · simp (disch := omega) only [u_243_0, x_iload1, x_ifCond_ne, x_ifCond_neb, x_aload0, f_69_16, x_ifCond_lt, x_iload3, x_if_icmp_ge, x_jsr, u_243_19, p_69_16, x_iload4, p_69_17, u_243_30, x_return, u_243_31, x_sipush, x_istore5i, x_istore5r, x_istore5u, x_iload5, k_69_0, x_ishr, x_iand, x_if_icmp_ne, x_call3_0, x_call3_1, x_call3_2, x_call3_3, x_call3_4, e_k_s, e_k_i, List.nil_append, List.cons_append, x_iload2, x_isub, x_goto, u_243_79, u_243_88, x_istore6i, x_istore6r, x_istore6u, x_ishl, x_ixor, x_iload6, x_iadd, x_ifCond_ge, u_243_120, u_243_122, x_call5_0, x_call5_1, x_call5_2, x_call5_3, x_call5_4, u_243_125, x_iinc5i, x_iinc5r, x_iinc5u, u_243_131, ia_70, g2_o, h6, m_get, hk3, e2, q, e7, e4, ha1 qa, r1, b01_0, ite_not, if_true, if_false, Int.reduceLT, Int.reduceEq]
              rw [if_pos (by omega), if_pos qa, if_pos qf]
            · have e0 : iabs (I 3 k - fr) = I 3 k - fr := (ha2 qa).symm
              rw [e0] at r1
              simp (disch := omega) only [u_243_0, x_iload1, x_ifCond_ne, x_ifCond_neb, x_aload0, f_69_16, x_ifCond_lt, x_iload3, x_if_icmp_ge, x_jsr, u_243_19, p_69_16, x_iload4, p_69_17, u_243_30, x_return, u_243_31, x_sipush, x_istore5i, x_istore5r, x_istore5u, x_iload5, k_69_0, x_ishr, x_iand, x_if_icmp_ne, x_call3_0, x_call3_1, x_call3_2, x_call3_3, x_call3_4, e_k_s, e_k_i, List.nil_append, List.cons_append, x_iload2, x_isub, x_goto, u_243_79, u_243_88, x_istore6i, x_istore6r, x_istore6u, x_ishl, x_ixor, x_iload6, x_iadd, x_ifCond_ge, u_243_120, u_243_122, x_call5_0, x_call5_1, x_call5_2, x_call5_3, x_call5_4, u_243_125, x_iinc5i, x_iinc5r, x_iinc5u, u_243_131, ia_70, g2_o, h6, m_get, hk3, e2, q, e7, e4, e0, r1, b01_0, ite_not, if_true, if_false, Int.reduceLT, Int.reduceEq]
              rw [if_pos (by omega), if_neg qa, if_pos qf]
          · rw [if_neg qf] at r1 ⊢
            by_cases qa : I 3 k < fr
            · simp (disch := omega) only [u_243_0, x_iload1, x_ifCond_ne, x_ifCond_neb, x_aload0, f_69_16, x_ifCond_lt, x_iload3, x_if_icmp_ge, x_jsr, u_243_19, p_69_16, x_iload4, p_69_17, u_243_30, x_return, u_243_31, x_sipush, x_istore5i, x_istore5r, x_istore5u, x_iload5, k_69_0, x_ishr, x_iand, x_if_icmp_ne, x_call3_0, x_call3_1, x_call3_2, x_call3_3, x_call3_4, e_k_s, e_k_i, List.nil_append, List.cons_append, x_iload2, x_isub, x_goto, u_243_79, u_243_88, x_istore6i, x_istore6r, x_istore6u, x_ishl, x_ixor, x_iload6, x_iadd, x_ifCond_ge, u_243_120, u_243_122, x_call5_0, x_call5_1, x_call5_2, x_call5_3, x_call5_4, u_243_125, x_iinc5i, x_iinc5r, x_iinc5u, u_243_131, ia_70, g2_o, h6, m_get, hk3, e2, q, e7, e4, ha1 qa, r1, b01_0, ite_not, if_true, if_false, Int.reduceLT, Int.reduceEq]
              rw [if_pos (by omega), if_pos qa, if_neg qf]
            · have e0 : iabs (I 3 k - fr) = I 3 k - fr := (ha2 qa).symm
              rw [e0] at r1
              simp (disch := omega) only [u_243_0, x_iload1, x_ifCond_ne, x_ifCond_neb, x_aload0, f_69_16, x_ifCond_lt, x_iload3, x_if_icmp_ge, x_jsr, u_243_19, p_69_16, x_iload4, p_69_17, u_243_30, x_return, u_243_31, x_sipush, x_istore5i, x_istore5r, x_istore5u, x_iload5, k_69_0, x_ishr, x_iand, x_if_icmp_ne, x_call3_0, x_call3_1, x_call3_2, x_call3_3, x_call3_4, e_k_s, e_k_i, List.nil_append, List.cons_append, x_iload2, x_isub, x_goto, u_243_79, u_243_88, x_istore6i, x_istore6r, x_istore6u, x_ishl, x_ixor, x_iload6, x_iadd, x_ifCond_ge, u_243_120, u_243_122, x_call5_0, x_call5_1, x_call5_2, x_call5_3, x_call5_4, u_243_125, x_iinc5i, x_iinc5r, x_iinc5u, u_243_131, ia_70, g2_o, h6, m_get, hk3, e2, q, e7, e4, e0, r1, b01_0, ite_not, if_true, if_false, Int.reduceLT, Int.reduceEq]
              rw [if_pos (by omega), if_neg qa, if_neg qf]
        · have s1 := ihn (k + 1) g w (by omega) (by omega) hg
          have e9 : lpk (fun k g => if bt left k = 1 then gor I f (stb left k 0) (I 3 k) (pl + iabs (I 3 k - fr)) (if fi < 0 then k else fi) g else g) (n + 1) k g = lpk (fun k g => if bt left k = 1 then gor I f (stb left k 0) (I 3 k) (pl + iabs (I 3 k - fr)) (if fi < 0 then k else fi) g else g) n (k + 1) g := by
            show lpk _ n (k + 1) (if bt left k = 1 then _ else _) = _
            rw [if_neg q]
          rw [e9]
          refine ⟨?_, s1.2⟩
          rw [← s1.1, u_243_34]
          simp (disch := omega) only [u_243_0, x_iload1, x_ifCond_ne, x_ifCond_neb, x_aload0, f_69_16, x_ifCond_lt, x_iload3, x_if_icmp_ge, x_jsr, u_243_19, p_69_16, x_iload4, p_69_17, u_243_30, x_return, u_243_31, x_sipush, x_istore5i, x_istore5r, x_istore5u, x_iload5, k_69_0, x_ishr, x_iand, x_if_icmp_ne, x_call3_0, x_call3_1, x_call3_2, x_call3_3, x_call3_4, e_k_s, e_k_i, List.nil_append, List.cons_append, x_iload2, x_isub, x_goto, u_243_79, u_243_88, x_istore6i, x_istore6r, x_istore6u, x_ishl, x_ixor, x_iload6, x_iadd, x_ifCond_ge, u_243_120, u_243_122, x_call5_0, x_call5_1, x_call5_2, x_call5_3, x_call5_4, u_243_125, x_iinc5i, x_iinc5r, x_iinc5u, u_243_131, ia_70, g2_o, h6, e2, b01_0, ite_not, if_true, if_false, Int.reduceLT, Int.reduceEq]
          rw [if_pos (by omega), if_neg q]
    obtain ⟨l1, l2⟩ := loop (I 1 9).toNat 0 g (.retAddr 0) (by decide) (by omega) hg
    refine ⟨?_, l2⟩
    rw [← l1]
    simp (disch := omega) only [v_243_69, u_243_0, x_iload1, x_ifCond_ne, x_ifCond_neb, x_aload0, f_69_16, x_ifCond_lt, x_iload3, x_if_icmp_ge, x_jsr, u_243_19, p_69_16, x_iload4, p_69_17, u_243_30, x_return, u_243_31, x_sipush, x_istore5i, x_istore5r, x_istore5u, x_iload5, k_69_0, x_ishr, x_iand, x_if_icmp_ne, x_call3_0, x_call3_1, x_call3_2, x_call3_3, x_call3_4, e_k_s, e_k_i, List.nil_append, List.cons_append, x_iload2, x_isub, x_goto, u_243_79, u_243_88, x_istore6i, x_istore6r, x_istore6u, x_ishl, x_ixor, x_iload6, x_iadd, x_ifCond_ge, u_243_120, u_243_122, x_call5_0, x_call5_1, x_call5_2, x_call5_3, x_call5_4, u_243_125, x_iinc5i, x_iinc5r, x_iinc5u, u_243_131, ia_70, b01_0, ite_not, if_true, if_false, Int.reduceLT, Int.reduceEq]
    rw [if_neg hz]
theorem crd_b {s : Int} : 0 ≤ crd s ∧ crd s ≤ 6 := by
  have b0 := bt_01 s 0; have b1 := bt_01 s 1; have b2 := bt_01 s 2; have b3 := bt_01 s 3; have b4 := bt_01 s 4; have b5 := bt_01 s 5
  unfold crd
  omega
/-- who is away -/
def awy (I : Nat → Int → Int) (st : Int) : Int := 2 ^ (I 1 9).toNat - 1 - st
theorem awy_b (h : inv I) {c : co} (hc : cok I c) : 0 ≤ awy I c.2.2.2 ∧ awy I c.2.2.2 < 64 := by
  have := pw_6 h.1
  have := hc.2.2.2
  unfold awy
  omega
theorem m_fet (h : inv I) (hE : RE I (M 70)) {c : co} (hco : cok I c) {sc : Int} {P : Int → Int} {p w : Int} (hp : 0 ≤ p ∧ p ≤ 40) (hw : w = 0 ∨ w = 1) : ∃ a b, s_S X (d + 9) 242 [.ref 69, .int (iI p), .int (iI w)] (mm (mk M (I 1 9) c sc P) J) = some ([.int (iI (if w = 0 then (gor I 6 (awy I c.2.2.2) p 0 (-1) (-1, M 69 17)).1 else if awy I c.2.2.2 = 0 then -3 else (gor I 6 (awy I c.2.2.2) p 0 (-1) (-1, M 69 17)).2))], mm (g2 (mk M (I 1 9) c sc P) a b) J) := by
  have hn6 := h.1
  have e6 := hE.2.1
  have e1 := m_those (X := X) (d := d + 6) (J := J) h hE hco (sc := sc) (P := P)
  have e2 := (awy_i h.1 hco.2.2.2).1
  have e3 := shn_i h.1
  have ha := awy_b h hco
  have r := m_gor (X := X) (J := J) (B := mk M (I 1 9) c sc P) h (by rw [mk_r (by omega)]; exact e6) (fun k k0 k1 => by rw [mk_r (by omega)]; exact (hE.2.2.1 k k0 k1).2.1) 6 (d + 8) (awy I c.2.2.2) p 0 (-1) (-1, M 69 17) (by omega) ha crd_b.2 hp (by have := crd_b (s := awy I c.2.2.2); omega) (by decide) (show -1 ≤ (-1 : Int) ∧ (-1 : Int) ≤ 1000 by decide)
  obtain ⟨r1, r2⟩ := r
  rw [show mk M (I 1 9) c sc P = mk M (I 1 9) c sc P from rfl] at r1
  have e4 : ∀ v, up (mk M (I 1 9) c sc P) 69 16 v = g2 (mk M (I 1 9) c sc P) v (M 69 17) := fun v => g2_u
  refine ⟨(gor I 6 (awy I c.2.2.2) p 0 (-1) (-1, M 69 17)).1, (gor I 6 (awy I c.2.2.2) p 0 (-1) (-1, M 69 17)).2, ?_⟩
  unfold awy at r1 ha ⊢
  have ar : rg (2 ^ (I 1 9).toNat - 1 - c.2.2.2) := ⟨by omega, by omega⟩
  rcases hw with rfl | rfl
  · simp (disch := omega) only [v_242_69, u_242_0, x_iload1, x_sipush, x_call3_0, x_call3_1, x_call3_2, x_call3_3, x_call3_4, e_k_s, e_k_i, List.nil_append, List.cons_append, x_ifCond_eq, x_ifCond_eqb, x_iload2, x_ifCond_ne, x_ifCond_neb, x_jsr, u_242_19, x_ireturn, u_242_21, x_aload0, k_69_0, x_ishl, x_isub, x_call2_0, x_call2_1, x_call2_2, x_call2_3, x_call2_4, x_ixor, x_iand, x_istore3i, x_istore3r, x_istore3u, p_69_16, x_iload3, x_call5_0, x_call5_1, x_call5_2, x_call5_3, x_call5_4, f_69_16, x_goto, u_242_65, u_242_74, f_69_17, u_242_78, ia_70, m_in1, mk_r, e6, e1, e3, e2, e4, r1, g2_a, g2_b, b01_0, ite_not, if_true, if_false, Int.reduceLT, Int.reduceEq]
    (repeat' split) <;> first | rfl | (exfalso; omega)
  · simp (disch := omega) only [v_242_69, u_242_0, x_iload1, x_sipush, x_call3_0, x_call3_1, x_call3_2, x_call3_3, x_call3_4, e_k_s, e_k_i, List.nil_append, List.cons_append, x_ifCond_eq, x_ifCond_eqb, x_iload2, x_ifCond_ne, x_ifCond_neb, x_jsr, u_242_19, x_ireturn, u_242_21, x_aload0, k_69_0, x_ishl, x_isub, x_call2_0, x_call2_1, x_call2_2, x_call2_3, x_call2_4, x_ixor, x_iand, x_istore3i, x_istore3r, x_istore3u, p_69_16, x_iload3, x_call5_0, x_call5_1, x_call5_2, x_call5_3, x_call5_4, f_69_16, x_goto, u_242_65, u_242_74, f_69_17, u_242_78, ia_70, m_in1, mk_r, e6, e1, e3, e2, e4, r1, g2_a, g2_b, b01_0, ite_not, if_true, if_false, Int.reduceLT, Int.reduceEq]
    (repeat' split) <;> first | rfl | (exfalso; omega)
end
