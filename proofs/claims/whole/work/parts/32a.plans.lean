/-! PLANS, in the class: all of a length, weighed -/
abbrev pac := Int × Int × Int × Int × (Int → Int)
def plo (I : Nat → Int → Int) (len wt : Int) (g : pac) (A : Int → Int) : Nat → Int → Int := fun o k =>
  if o = 48 then (if k = 3 then len else if k = 4 then wt else if k = 5 then g.1 else if k = 6 then g.2.1 else if k = 7 then g.2.2.1 else if k = 8 then g.2.2.2.1 else I 48 k) else if o = 49 then A k else if o = 50 then g.2.2.2.2 k else I o k
def cpy4 (A Q : Int → Int) : Int → Int := fun b => if 0 ≤ b ∧ b < 4 then A b else Q b
def ann (a b : Int) : Int := ((a.toNat &&& b.toNat : Nat) : Int)
section
variable {I : Nat → Int → Int} {len wt mo cn fe ev v k : Int} {Q A F : Int → Int} {c : co} {g : pac}
theorem plo_3 : bk (plo I len wt g A) c F 48 3 = len := rfl
theorem plo_4 : bk (plo I len wt g A) c F 48 4 = wt := rfl
theorem plo_5 : bk (plo I len wt (mo, cn, fe, ev, Q) A) c F 48 5 = mo := rfl
theorem plo_6 : bk (plo I len wt (mo, cn, fe, ev, Q) A) c F 48 6 = cn := rfl
theorem plo_7 : bk (plo I len wt (mo, cn, fe, ev, Q) A) c F 48 7 = fe := rfl
theorem plo_8 : bk (plo I len wt (mo, cn, fe, ev, Q) A) c F 48 8 = ev := rfl
theorem plo_9 : bk (plo I len wt g A) c F 1 9 = I 1 9 := rfl
theorem plo_10 : bk (plo I len wt g A) c F 1 10 = c.2.2.2 := rfl
theorem plo_u5 : up (bk (plo I len wt (mo, cn, fe, ev, Q) A) c F) 48 5 v = bk (plo I len wt (v, cn, fe, ev, Q) A) c F := by
  rw [bk_u (by decide) (by decide)]
  congr 1
  funext o k
  unfold up plo
  (repeat' split) <;> simp_all
theorem plo_u6 : up (bk (plo I len wt (mo, cn, fe, ev, Q) A) c F) 48 6 v = bk (plo I len wt (mo, v, fe, ev, Q) A) c F := by
  rw [bk_u (by decide) (by decide)]
  congr 1
  funext o k
  unfold up plo
  (repeat' split) <;> simp_all
theorem plo_u7 : up (bk (plo I len wt (mo, cn, fe, ev, Q) A) c F) 48 7 v = bk (plo I len wt (mo, cn, v, ev, Q) A) c F := by
  rw [bk_u (by decide) (by decide)]
  congr 1
  funext o k
  unfold up plo
  (repeat' split) <;> simp_all
theorem plo_u8 : up (bk (plo I len wt (mo, cn, fe, ev, Q) A) c F) 48 8 v = bk (plo I len wt (mo, cn, fe, v, Q) A) c F := by
  rw [bk_u (by decide) (by decide)]
  congr 1
  funext o k
  unfold up plo
  (repeat' split) <;> simp_all
theorem plo_uA : up (bk (plo I len wt g A) c F) 49 k v = bk (plo I len wt g (upf A k v)) c F := by
  rw [bk_u (by decide) (by decide)]
  congr 1
  funext o k
  unfold up plo upf
  (repeat' split) <;> simp_all
theorem plo_cp : cp (bk (plo I len wt (mo, cn, fe, ev, Q) A) c F) 49 50 4 = bk (plo I len wt (mo, cn, fe, ev, cpy4 A Q) A) c F := by
  funext o k
  by_cases h : o = 50
  · subst h
    rw [bk_o (by decide) (by decide)]
    unfold cp
    rw [bk_o (by decide) (by decide), bk_o (by decide) (by decide)]
    show (if 50 = 50 ∧ 0 ≤ k ∧ k < 4 then A k else Q k) = cpy4 A Q k
    unfold cpy4
    by_cases q : 0 ≤ k ∧ k < 4
    · rw [if_pos ⟨rfl, q⟩, if_pos q]
    · rw [if_neg (fun z => q z.2), if_neg q]
  · unfold cp
    rw [if_neg (fun z => h z.1)]
    unfold bk plo
    (repeat' split) <;> simp_all
theorem plo_sq : sq (plo I len wt g A) I := ⟨rfl, rfl, fun o h0 h1 => by
  funext k
  unfold plo
  rw [if_neg (by omega), if_neg (by omega), if_neg (by omega)]⟩
theorem plo_plo {g' : pac} {A' : Int → Int} {len' wt' : Int} : plo (plo I len wt g A) len' wt' g' A' = plo I len' wt' g' A' := by
  funext o k
  unfold plo
  (repeat' split) <;> simp_all
end
def wgh (wt : Int) (A : Int → Int) (wo to st : Int) (g : pac) : pac :=
  (if g.2.1 = 0 ∨ g.1 < wo then wo else g.1, if g.2.1 = 0 ∨ g.1 < wo then 1 else if wo = g.1 then g.2.1 + 1 else g.2.1,
   if ann st wt = wt ∧ (g.2.2.1 = -3 ∨ to < g.2.2.1) then to else g.2.2.1, orr g.2.2.2.1 st, if g.2.1 = 0 ∨ g.1 < wo then cpy4 A g.2.2.2.2 else g.2.2.2.2)
def trf (lf : (Int → Int) → Int → Int → Int → pac → pac) (I : Nat → Int → Int) (len : Int) : Nat → co → Int → Int → pac × (Int → Int) → pac × (Int → Int)
  | 0, c, wo, to, s => (lf s.2 wo to c.2.2.2 s.1, s.2)
  | f + 1, c, wo, to, s => lpk (fun act s => trf lf I len f (pas I c act).2 (wo + (pas I c act).1) (if act = 0 then to else to + 1) (s.1, upf s.2 (len - ((f : Int) + 1)) act)) ((I 1 9).toNat + 1) 0 s
def pst (g : pac) (m : Int) : Prop := (0 ≤ g.1 ∧ g.1 ≤ 1000) ∧ (0 ≤ g.2.1 ∧ g.2.1 ≤ m) ∧ (g.2.2.1 = -3 ∨ (0 ≤ g.2.2.1 ∧ g.2.2.1 ≤ 4)) ∧ 0 ≤ g.2.2.2.1 ∧ g.2.2.2.1 < 64
theorem ann_b {a b : Int} (ha : 0 ≤ a ∧ a < 64) : 0 ≤ ann a b ∧ ann a b < 64 := by
  have : a.toNat &&& b.toNat ≤ a.toNat := Nat.and_le_left
  unfold ann
  omega
theorem wgh_ok {wt wo to st m : Int} {A : Int → Int} {g : pac} (hg : pst g m) (hm : 0 ≤ m) (hw : 0 ≤ wo ∧ wo ≤ 1000) (ht : 0 ≤ to ∧ to ≤ 4) (hs : 0 ≤ st ∧ st < 64) : pst (wgh wt A wo to st g) (m + 1) := by
  obtain ⟨g1, g2, g3, g4⟩ := hg
  refine ⟨?_, ?_, ?_, ?_⟩
  · unfold wgh
    dsimp only
    split <;> omega
  · unfold wgh
    dsimp only
    (repeat' split) <;> omega
  · unfold wgh
    dsimp only
    split <;> omega
  · exact orr_b g4 hs
section
variable {X : e_X} {d c : Nat} {is : List Instr} {ls : List Value} {I J B : Nat → Int → Int}
theorem cp_49 : s_x X d c (.dmul :: is) ls [.int (iI 4), .int (iI 0), .ref 50, .int (iI 0), .ref 49] (mm I J) = s_x X d c is ls [] (mm (cp I 49 50 4) J) := x_copy rfl rfl (by decide) (by decide)
theorem p_wgh {len wt wo to m : Int} {A F : Int → Int} {g : pac} {c : co} (hg : pst g m) (hm : 0 ≤ m ∧ m ≤ 1000000) (hw : 0 ≤ wo ∧ wo ≤ 1000) (ht : 0 ≤ to ∧ to ≤ 4) (hs : 0 ≤ c.2.2.2 ∧ c.2.2.2 < 64) (hwt : 0 ≤ wt ∧ wt < 64) : s_S X (d + 1) 20 [.ref 48, .int (iI wo), .int (iI to)] (mm (bk (plo I len wt g A) c F) J) = some ([], mm (bk (plo I len wt (wgh wt A wo to c.2.2.2 g) A) c F) J) := by
  obtain ⟨mo, cn, fe, ev, Q⟩ := g
  obtain ⟨g1, g2, g3, g4⟩ := hg
  simp only at g1 g2 g3 g4
  have e1 := i_or (a := ev) (b := c.2.2.2) (by omega) (by omega)
  have e2 := i_and (a := c.2.2.2) (b := wt) (by omega) (by omega)
  have ha := ann_b (b := wt) hs
  unfold ann at ha
  have w3 : ∀ a b x q, (wgh wt A wo to c.2.2.2 (mo, cn, fe, ev, Q)) = (a, b, x, orr ev c.2.2.2, q) ↔ (if cn = 0 ∨ mo < wo then wo else mo) = a ∧ (if cn = 0 ∨ mo < wo then 1 else if wo = mo then cn + 1 else cn) = b ∧ (if ann c.2.2.2 wt = wt ∧ (fe = -3 ∨ to < fe) then to else fe) = x ∧ (if cn = 0 ∨ mo < wo then cpy4 A Q else Q) = q := by
    intro a b x q
    unfold wgh
    simp only [Prod.mk.injEq, true_and]
  -- behind the first part
  have tail : ∀ (mo cn : Int) (Q : Int → Int), s_j X d 20 57 [.ref 48, .int (iI wo), .int (iI to), .retAddr 0] [] (mm (bk (plo I len wt (mo, cn, fe, ev, Q) A) c F) J) = some ([], mm (bk (plo I len wt (mo, cn, if ann c.2.2.2 wt = wt ∧ (fe = -3 ∨ to < fe) then to else fe, orr ev c.2.2.2, Q) A) c F) J) := by
    intro mo cn Q
    unfold ann orr
    by_cases q1 : ((c.2.2.2.toNat &&& wt.toNat : Nat) : Int) = wt
    · by_cases q2 : fe = -3
      · rw [if_pos ⟨q1, Or.inl q2⟩]
        simp (disch := omega) only [v_20_48, x_aload0, f_48_6, x_ifCond_eq, x_ifCond_eqb, x_iload1, f_48_5, x_if_icmp_le, x_jsr, p_48_5, x_sipush, p_48_6, k_48_1, k_48_2, x_if_icmp_ne, x_dup_i, x_dup_r, x_iadd, u_20_57, f_48_8, k_48_0, f_1_10, f_20_10, x_ior, p_48_8, f_48_4, x_iand, x_goto, u_20_96, u_20_97, x_istore3i, x_istore3r, x_istore3u, x_iload3, f_48_7, x_if_icmp_eq, x_iload2, x_if_icmp_ge, u_20_119, p_48_7, u_20_124, x_return, plo_4, plo_7, plo_8, plo_10, e1, e2, plo_u8, plo_u7, q1, q2, b01_0, ite_not, if_true, if_false, Int.reduceLT, Int.reduceEq]
      · by_cases q3 : to < fe
        · rw [if_pos ⟨q1, Or.inr q3⟩]
          simp (disch := omega) only [v_20_48, x_aload0, f_48_6, x_ifCond_eq, x_ifCond_eqb, x_iload1, f_48_5, x_if_icmp_le, x_jsr, p_48_5, x_sipush, p_48_6, k_48_1, k_48_2, x_if_icmp_ne, x_dup_i, x_dup_r, x_iadd, u_20_57, f_48_8, k_48_0, f_1_10, f_20_10, x_ior, p_48_8, f_48_4, x_iand, x_goto, u_20_96, u_20_97, x_istore3i, x_istore3r, x_istore3u, x_iload3, f_48_7, x_if_icmp_eq, x_iload2, x_if_icmp_ge, u_20_119, p_48_7, u_20_124, x_return, plo_4, plo_7, plo_8, plo_10, e1, e2, plo_u8, plo_u7, q1, b01_0, ite_not, if_true, if_false, Int.reduceLT, Int.reduceEq]
          rw [if_neg q2, if_pos q3]
        · rw [if_neg (fun z => z.2.elim q2 q3)]
          simp (disch := omega) only [v_20_48, x_aload0, f_48_6, x_ifCond_eq, x_ifCond_eqb, x_iload1, f_48_5, x_if_icmp_le, x_jsr, p_48_5, x_sipush, p_48_6, k_48_1, k_48_2, x_if_icmp_ne, x_dup_i, x_dup_r, x_iadd, u_20_57, f_48_8, k_48_0, f_1_10, f_20_10, x_ior, p_48_8, f_48_4, x_iand, x_goto, u_20_96, u_20_97, x_istore3i, x_istore3r, x_istore3u, x_iload3, f_48_7, x_if_icmp_eq, x_iload2, x_if_icmp_ge, u_20_119, p_48_7, u_20_124, x_return, plo_4, plo_7, plo_8, plo_10, e1, e2, plo_u8, plo_u7, q1, b01_0, ite_not, if_true, if_false, Int.reduceLT, Int.reduceEq]
          rw [if_neg q2, if_neg q3]
    · rw [if_neg (fun z => q1 z.1)]
      simp (disch := omega) only [v_20_48, x_aload0, f_48_6, x_ifCond_eq, x_ifCond_eqb, x_iload1, f_48_5, x_if_icmp_le, x_jsr, p_48_5, x_sipush, p_48_6, k_48_1, k_48_2, x_if_icmp_ne, x_dup_i, x_dup_r, x_iadd, u_20_57, f_48_8, k_48_0, f_1_10, f_20_10, x_ior, p_48_8, f_48_4, x_iand, x_goto, u_20_96, u_20_97, x_istore3i, x_istore3r, x_istore3u, x_iload3, f_48_7, x_if_icmp_eq, x_iload2, x_if_icmp_ge, u_20_119, p_48_7, u_20_124, x_return, plo_4, plo_7, plo_8, plo_10, e1, e2, plo_u8, plo_u7, b01_0, ite_not, if_true, if_false, Int.reduceLT, Int.reduceEq]
      rw [if_neg q1]
  have e0 : ∀ (mo cn : Int) (Q : Int → Int), 0 ≤ mo ∧ mo ≤ 1000 → 0 ≤ cn ∧ cn ≤ 1000000 → s_j X d 20 39 [.ref 48, .int (iI wo), .int (iI to), .retAddr 0] [] (mm (bk (plo I len wt (mo, cn, fe, ev, Q) A) c F) J) = s_j X d 20 57 [.ref 48, .int (iI wo), .int (iI to), .retAddr 0] [] (mm (bk (plo I len wt (mo, if wo = mo then cn + 1 else cn, fe, ev, Q) A) c F) J) := by
    intro mo cn Q h1 h2
    by_cases q : wo = mo
    · rw [if_pos q]
      simp (disch := omega) only [v_20_48, x_aload0, f_48_6, x_ifCond_eq, x_ifCond_eqb, x_iload1, f_48_5, x_if_icmp_le, x_jsr, p_48_5, x_sipush, p_48_6, k_48_1, k_48_2, u_20_39, x_if_icmp_ne, x_dup_i, x_dup_r, x_iadd, f_48_8, k_48_0, f_1_10, f_20_10, x_ior, p_48_8, f_48_4, x_iand, x_goto, u_20_96, u_20_97, x_istore3i, x_istore3r, x_istore3u, x_iload3, f_48_7, x_if_icmp_eq, x_iload2, x_if_icmp_ge, u_20_119, p_48_7, u_20_124, x_return, plo_5, plo_6, plo_u6, b01_0, ite_not, if_true, if_false, Int.reduceLT, Int.reduceEq]
      rw [if_pos q]
    · rw [if_neg q]
      simp (disch := omega) only [v_20_48, x_aload0, f_48_6, x_ifCond_eq, x_ifCond_eqb, x_iload1, f_48_5, x_if_icmp_le, x_jsr, p_48_5, x_sipush, p_48_6, k_48_1, k_48_2, u_20_39, x_if_icmp_ne, x_dup_i, x_dup_r, x_iadd, f_48_8, k_48_0, f_1_10, f_20_10, x_ior, p_48_8, f_48_4, x_iand, x_goto, u_20_96, u_20_97, x_istore3i, x_istore3r, x_istore3u, x_iload3, f_48_7, x_if_icmp_eq, x_iload2, x_if_icmp_ge, u_20_119, p_48_7, u_20_124, x_return, plo_5, plo_6, plo_u6, b01_0, ite_not, if_true, if_false, Int.reduceLT, Int.reduceEq]
      rw [if_neg q]
  have t1 := tail
  by_cases q : cn = 0 ∨ mo < wo
  · have f1 := e0 wo 0 (cpy4 A Q) hw (by decide)
    rw [if_pos rfl, tail] at f1
    have f2 := (w3 wo 1 (if ann c.2.2.2 wt = wt ∧ (fe = -3 ∨ to < fe) then to else fe) (cpy4 A Q)).mpr ⟨if_pos q, if_pos q, rfl, if_pos q⟩
    rw [f2]
    rw [Int.zero_add] at f1
    simp (disch := omega) only [v_20_48, u_20_0, x_aload0, f_48_6, x_ifCond_eq, x_ifCond_eqb, x_iload1, f_48_5, x_if_icmp_le, x_jsr, u_20_15, p_48_5, x_sipush, p_48_6, k_48_1, k_48_2, x_if_icmp_ne, x_dup_i, x_dup_r, x_iadd, f_48_8, k_48_0, f_1_10, f_20_10, x_ior, p_48_8, f_48_4, x_iand, x_goto, u_20_96, u_20_97, x_istore3i, x_istore3r, x_istore3u, x_iload3, f_48_7, x_if_icmp_eq, x_iload2, x_if_icmp_ge, u_20_119, p_48_7, u_20_124, x_return, plo_5, plo_6, plo_u5, plo_u6, cp_49, plo_cp, f1, b01_0, ite_not, if_true, if_false, Int.reduceLT, Int.reduceEq]
    by_cases q1 : cn = 0
    · rw [if_pos q1]
    · rw [if_neg q1, if_pos (by omega)]
  · have f1 := e0 mo cn Q g1 (by omega)
    rw [tail] at f1
    have f2 := (w3 mo (if wo = mo then cn + 1 else cn) (if ann c.2.2.2 wt = wt ∧ (fe = -3 ∨ to < fe) then to else fe) Q).mpr ⟨if_neg q, if_neg q, rfl, if_neg q⟩
    rw [f2]
    simp (disch := omega) only [v_20_48, u_20_0, x_aload0, f_48_6, x_ifCond_eq, x_ifCond_eqb, x_iload1, f_48_5, x_if_icmp_le, x_jsr, u_20_15, p_48_5, x_sipush, p_48_6, k_48_1, k_48_2, x_if_icmp_ne, x_dup_i, x_dup_r, x_iadd, f_48_8, k_48_0, f_1_10, f_20_10, x_ior, p_48_8, f_48_4, x_iand, x_goto, u_20_96, u_20_97, x_istore3i, x_istore3r, x_istore3u, x_iload3, f_48_7, x_if_icmp_eq, x_iload2, x_if_icmp_ge, u_20_119, p_48_7, u_20_124, x_return, plo_5, plo_6, plo_u5, plo_u6, cp_49, plo_cp, f1, b01_0, ite_not, if_true, if_false, Int.reduceLT, Int.reduceEq]
    rw [if_neg (by omega), if_neg (by omega)]
end
