/-! THE CLASS'S AUTOMATON: its parts -/
def enp (p : prt) : Int := if p.1 < 0 then p.1 else p.2.2 + p.2.1 * 2 ^ 14 + p.1 * 2 ^ 28
/-- the code in a row -/
def cod (Cd : Int → Int) : List prt → Prop
  | [] => True
  | p :: t => Cd t.length = enp p ∧ cod Cd t
/-- what waits in a row -/
def stk (Wt : Int → Int) : List Int → Prop
  | [] => True
  | x :: t => Wt t.length = x ∧ (0 ≤ x ∧ x ≤ 24) ∧ stk Wt t
theorem ll {α : Type} (x : α) (t : List α) : (((x :: t).length : Nat) : Int) = (t.length : Int) + 1 := by
  rw [List.length_cons]
  omega
theorem l0 {α : Type} : ((([] : List α).length : Nat) : Int) = 0 := rfl
theorem cod_up {Cd : Int → Int} {k v : Int} : ∀ {C : List prt}, (C.length : Int) ≤ k → cod Cd C → cod (upf Cd k v) C
  | [], _, _ => trivial
  | p :: t, h, hp => by
    rw [ll] at h
    refine ⟨?_, cod_up (C := t) (by omega) hp.2⟩
    show (if ((t.length : Nat) : Int) = k then v else Cd t.length) = _
    rw [if_neg (by omega)]
    exact hp.1
theorem cod_sn {Cd : Int → Int} {C : List prt} {p : prt} (h : cod Cd C) : cod (upf Cd C.length (enp p)) (p :: C) := ⟨if_pos rfl, cod_up (Int.le_refl _) h⟩
theorem stk_up {Wt : Int → Int} {k v : Int} : ∀ {W : List Int}, (W.length : Int) ≤ k → stk Wt W → stk (upf Wt k v) W
  | [], _, _ => trivial
  | p :: t, h, hp => by
    rw [ll] at h
    refine ⟨?_, hp.2.1, stk_up (W := t) (by omega) hp.2.2⟩
    show (if ((t.length : Nat) : Int) = k then v else Wt t.length) = _
    rw [if_neg (by omega)]
    exact hp.1
theorem stk_sn {Wt : Int → Int} {W : List Int} {x : Int} (hx : 0 ≤ x ∧ x ≤ 24) (h : stk Wt W) : stk (upf Wt W.length x) (x :: W) := ⟨if_pos rfl, hx, stk_up (Int.le_refl _) h⟩
/-- joints appended -/
def jna : List Int → List prt → List prt
  | [], C => C
  | q :: t, C => jna t ((if q = 10 then (-2, 0, 0) else (-3, 0, 0)) :: C)
theorem jna_len : ∀ (Q : List Int) (C : List prt), (((jna Q C).length : Nat) : Int) = Q.length + C.length
  | [], C => by
    show (C.length : Int) = ((0 : Nat) : Int) + C.length
    omega
  | q :: t, C => by
    show (((jna t _).length : Nat) : Int) = _
    rw [jna_len t, ll, ll]
    omega
theorem jna_app : ∀ (Q P : List Int) (C : List prt), jna (Q ++ P) C = jna P (jna Q C)
  | [], _, _ => rfl
  | q :: t, P, C => jna_app t P _
theorem nots_s (m : Nat) (C : List prt) : nots m ((-1, 0, 0) :: C) = (-1, 0, 0) :: nots m C := by
  induction m with
  | zero => rfl
  | succ m ih =>
    show (-1, 0, 0) :: nots m ((-1, 0, 0) :: C) = (-1, 0, 0) :: (-1, 0, 0) :: nots m C
    rw [ih]
theorem nots_len (m : Nat) (C : List prt) : (((nots m C).length : Nat) : Int) = m + C.length := by
  induction m with
  | zero =>
    show (C.length : Int) = ((0 : Nat) : Int) + C.length
    omega
  | succ m ih =>
    show ((((-1, 0, 0) :: nots m C : List prt).length : Nat) : Int) = _
    rw [ll, ih]
    omega
section
variable {I : Nat → Int → Int} {a s v du lf sg op w sz : Int} {Cd Wt : Int → Int}
theorem rd_kp : kp I (rd I a s v du lf sg op w sz Cd Wt) := fun o k q => by
  unfold rd
  rw [if_neg (fun z => q (by unfold scr; omega)), if_neg (fun z => q (by unfold scr; omega)), if_neg (fun z => q (by unfold scr; omega)), if_neg (fun z => q (by unfold scr; omega)), if_neg (fun z => q (by unfold scr; omega)), if_neg (fun z => q (by unfold scr; omega)), if_neg (fun z => q (by unfold scr; omega)), if_neg (fun z => q (by unfold scr; omega)), if_neg (fun z => q (by unfold scr; omega)), if_neg (fun z => q (by unfold scr; omega)), if_neg (fun z => q (by unfold scr; omega))]
end
section
variable {X : e_X} {d : Nat} {I J : Nat → Int → Int} {a s v du lf sg op w sz : Int} {Cd Wt : Int → Int}
theorem b_cmp {l x r : Int} (hx : 0 ≤ x ∧ x ≤ 2) (hl : 0 ≤ l ∧ l < 16384) (hr : 0 ≤ r ∧ r < 16384) : s_S X (d + 1) 13 [.int (iI l), .int (iI x), .int (iI r)] (mm I J) = some ([.int (iI (r + l * 2 ^ 14 + x * 2 ^ 28))], mm I J) := by
  have key : ((iI x <<< (iI 28 &&& 31)) ||| (iI l <<< (iI 14 &&& 31))) ||| iI r = iI (r + l * 2 ^ 14 + x * 2 ^ 28) := by
    obtain ⟨p, rfl⟩ := Int.eq_ofNat_of_zero_le hx.1
    obtain ⟨q, rfl⟩ := Int.eq_ofNat_of_zero_le hl.1
    obtain ⟨t, rfl⟩ := Int.eq_ofNat_of_zero_le hr.1
    have e1 : iI p <<< (iI 28 &&& 31) = iI ((p * 2 ^ 28 : Nat) : Int) := iN_shl (k := 28) (by decide) (by omega)
    have e2 : iI q <<< (iI 14 &&& 31) = iI ((q * 2 ^ 14 : Nat) : Int) := iN_shl (k := 14) (by decide) (by omega)
    have o1 : p * 2 ^ 28 ||| q * 2 ^ 14 = p * 2 ^ 28 + q * 2 ^ 14 := by
      rw [← Nat.shiftLeft_eq p, ← Nat.shiftLeft_add_eq_or_of_lt (by omega)]
    have o2 : (p * 2 ^ 28 + q * 2 ^ 14) ||| t = p * 2 ^ 28 + q * 2 ^ 14 + t := by
      rw [show p * 2 ^ 28 + q * 2 ^ 14 = (p * 2 ^ 14 + q) * 2 ^ 14 by omega, ← Nat.shiftLeft_eq, ← Nat.shiftLeft_add_eq_or_of_lt (by omega)]
    rw [e1, e2, iN_or (by omega) (by omega), o1, iN_or (by omega) (by omega), o2]
    congr 1
    omega
  simp (disch := omega) only [v_13, u_13_0, x_iload1, x_sipush, x_ishl, x_iload0, x_ior, x_iload2, x_ireturn, key, ↓reduceIte, b01_0, ite_not, if_true, if_false, Int.reduceLT, Int.reduceEq]
theorem c_wait {x : Int} (hw : 0 ≤ w ∧ w < 200) : s_S X (d + 1) 38 [.ref 39, .int (iI x)] (mm (rd I a s v du lf sg op w sz Cd Wt) J) = some ([.int (iI 1)], mm (rd I a s v du lf sg op (w + 1) sz Cd (upf Wt w x)) J) := by
  have q := hw.2
  simp (disch := omega) only [v_38_39, u_38_0, x_aload0, f_39_13, x_sipush, x_if_icmp_lt, x_zret0, x_zret1, x_zretb, u_38_12, k_39_12, x_dup_i, x_dup_r, x_dup_x1, x_iadd, p_39_13, x_iload1, is_47, rd_39_3, rd_39_4, rd_39_5, rd_39_6, rd_39_9, rd_39_10, rd_39_11, rd_39_13, rd_40_6, rd_44, rd_47, rd_39_2, rd_39_7, rd_39_8, rd_40_5, rd_46, rd_41, rd_42, rd_43, rd_u_39_3, rd_u_39_4, rd_u_39_5, rd_u_39_6, rd_u_39_9, rd_u_39_10, rd_u_39_11, rd_u_39_13, rd_u_40_6, rd_u_44, rd_u_47, q, ↓reduceIte, b01_0, ite_not, if_true, if_false, Int.reduceLT, Int.reduceEq]
theorem c_app {x : Int} (hw : 0 ≤ sz ∧ sz < 200) : s_S X (d + 1) 14 [.ref 40, .int (iI x)] (mm (rd I a s v du lf sg op w sz Cd Wt) J) = some ([], mm (rd I a s v du lf sg op w (sz + 1) (upf Cd sz x) Wt) J) := by
  have q := hw.2
  simp (disch := omega) only [v_14_9, v_14_40, u_14_0, x_aload0, f_40_6, x_sipush, x_if_icmp_ge, k_40_3, x_dup_i, x_dup_r, x_dup_x1, x_iadd, p_40_6, x_iload1, x_jsr, u_14_27, x_return, is_44, rd_39_3, rd_39_4, rd_39_5, rd_39_6, rd_39_9, rd_39_10, rd_39_11, rd_39_13, rd_40_6, rd_44, rd_47, rd_39_2, rd_39_7, rd_39_8, rd_40_5, rd_46, rd_41, rd_42, rd_43, rd_u_39_3, rd_u_39_4, rd_u_39_5, rd_u_39_6, rd_u_39_9, rd_u_39_10, rd_u_39_11, rd_u_39_13, rd_u_40_6, rd_u_44, rd_u_47, q, ↓reduceIte, b01_0, ite_not, if_true, if_false, Int.reduceLT, Int.reduceEq]
theorem c_eo0 {W : List Int} (hs : stk Wt W) (hW : W.head? ≠ some 12) (hn : (W.length : Int) ≤ 200) : s_j X (d + 1) 43 0 [.ref 39] [] (mm (rd I a s v du lf sg op W.length sz Cd Wt) J) = some ([], mm (rd I a s v 5 lf sg op W.length sz Cd Wt) J) := by
  rw [u_43_0]
  cases W with
  | nil =>
    rw [l0]
    simp (disch := omega) only [v_43_39, x_aload0, f_39_13, x_ifCond_le, k_39_12, x_sipush, x_isub, x_if_icmp_ne, k_39_0, x_call2_0, x_call2_1, x_call2_2, x_call2_3, x_call2_4, e_k_s, e_k_i, List.nil_append, List.cons_append, x_dup_i, x_dup_r, p_39_13, x_goto, u_43_44, p_39_6, x_return, ia_47, rd_39_3, rd_39_4, rd_39_5, rd_39_6, rd_39_9, rd_39_10, rd_39_11, rd_39_13, rd_40_6, rd_44, rd_47, rd_39_2, rd_39_7, rd_39_8, rd_40_5, rd_46, rd_41, rd_42, rd_43, rd_u_39_3, rd_u_39_4, rd_u_39_5, rd_u_39_6, rd_u_39_9, rd_u_39_10, rd_u_39_11, rd_u_39_13, rd_u_40_6, rd_u_44, rd_u_47, ↓reduceIte, b01_0, ite_not, if_true, if_false, Int.reduceLT, Int.reduceEq]
  | cons x t =>
    rw [ll] at hn ⊢
    have q : ¬ x = 12 := fun z => hW (by rw [z]; rfl)
    have e1 := hs.1
    have e2 := hs.2.1
    have p : (0 : Int) < t.length + 1 := by omega
    simp (disch := omega) only [v_43_39, x_aload0, f_39_13, x_ifCond_le, k_39_12, x_sipush, x_isub, x_if_icmp_ne, k_39_0, x_call2_0, x_call2_1, x_call2_2, x_call2_3, x_call2_4, e_k_s, e_k_i, List.nil_append, List.cons_append, x_dup_i, x_dup_r, p_39_13, x_goto, u_43_44, p_39_6, x_return, ia_47, rd_39_3, rd_39_4, rd_39_5, rd_39_6, rd_39_9, rd_39_10, rd_39_11, rd_39_13, rd_40_6, rd_44, rd_47, rd_39_2, rd_39_7, rd_39_8, rd_40_5, rd_46, rd_41, rd_42, rd_43, rd_u_39_3, rd_u_39_4, rd_u_39_5, rd_u_39_6, rd_u_39_9, rd_u_39_10, rd_u_39_11, rd_u_39_13, rd_u_40_6, rd_u_44, rd_u_47, Int.add_sub_cancel, e1, q, p, ↓reduceIte, b01_0, ite_not, if_true, if_false, Int.reduceLT, Int.reduceEq]
theorem c_eo {W : List Int} (hW : W.head? ≠ some 12) : ∀ (m : Nat) (C : List prt) (Cd : Int → Int), cod Cd C → stk Wt (List.replicate m 12 ++ W) → (C.length : Int) + m + W.length ≤ 200 → ∃ Cd', s_j X (d + 1) 43 0 [.ref 39] [] (mm (rd I a s v du lf sg op (List.replicate m 12 ++ W).length C.length Cd Wt) J) = some ([], mm (rd I a s v 5 lf sg op W.length (nots m C).length Cd' Wt) J) ∧ cod Cd' (nots m C)
  | 0, C, Cd, hc, hs, hn => ⟨Cd, c_eo0 (W := W) hs hW (by omega), hc⟩
  | m + 1, C, Cd, hc, hs, hn => by
    have er : List.replicate (m + 1) (12 : Int) ++ W = 12 :: (List.replicate m 12 ++ W) := rfl
    rw [er] at hs ⊢
    obtain ⟨Cd', e1, e2⟩ := c_eo hW m ((-1, 0, 0) :: C) (upf Cd C.length (enp (-1, 0, 0))) (cod_sn hc) hs.2.2 (by rw [ll]; omega)
    rw [nots_s] at e1 e2
    refine ⟨Cd', ?_, e2⟩
    have lt : (((List.replicate m (12 : Int) ++ W).length : Nat) : Int) = m + W.length := by
      rw [List.length_append, List.length_replicate]
      omega
    have h1 := hs.1
    have ep : enp (-1, 0, 0) = -1 := rfl
    rw [ll, ep] at e1
    show _ = some ([], mm (rd I a s v 5 lf sg op W.length (((-1, 0, 0) :: nots m C : List prt).length : Nat) Cd' Wt) J)
    rw [← e1, ll]
    generalize (((List.replicate m (12 : Int) ++ W).length : Nat) : Int) = L at h1 lt ⊢
    have p : 0 < L + 1 := by omega
    have ea := c_app (X := X) (d := d) (I := I) (J := J) (a := a) (s := s) (v := v) (du := du) (lf := lf) (sg := sg) (op := op) (w := L + 1) (sz := C.length) (Cd := Cd) (Wt := Wt) (x := -1) (by omega)
    conv => lhs; rw [u_43_0]
    simp (disch := omega) only [v_43_39, x_aload0, f_39_13, x_ifCond_le, k_39_12, x_sipush, x_isub, x_if_icmp_ne, k_39_0, x_call2_0, x_call2_1, x_call2_2, x_call2_3, x_call2_4, e_k_s, e_k_i, List.nil_append, List.cons_append, x_dup_i, x_dup_r, p_39_13, x_goto, u_43_44, p_39_6, x_return, ia_47, rd_39_3, rd_39_4, rd_39_5, rd_39_6, rd_39_9, rd_39_10, rd_39_11, rd_39_13, rd_40_6, rd_44, rd_47, rd_39_2, rd_39_7, rd_39_8, rd_40_5, rd_46, rd_41, rd_42, rd_43, rd_u_39_3, rd_u_39_4, rd_u_39_5, rd_u_39_6, rd_u_39_9, rd_u_39_10, rd_u_39_11, rd_u_39_13, rd_u_40_6, rd_u_44, rd_u_47, Int.add_sub_cancel, h1, p, ea, ↓reduceIte, b01_0, ite_not, if_true, if_false, Int.reduceLT, Int.reduceEq]
/-- the joints go -/
theorem c_aj0 {x : Int} (hx : x = 10 ∨ x = 11) {W : List Int} (hs : stk Wt W) (h1 : W.head? ≠ some 10) (h2 : W.head? ≠ some x) (hn : (W.length : Int) ≤ 200) : s_j X (d + 1) 46 0 [.ref 39, .int (iI x)] [] (mm (rd I a s v du lf sg op W.length sz Cd Wt) J) = some ([], mm (rd I a s v du lf sg op W.length sz Cd Wt) J) := by
  rw [u_46_0]
  cases W with
  | nil =>
    rw [l0]
    simp (disch := omega) only [v_46_39, x_aload0, f_39_13, x_ifCond_le, k_39_12, x_sipush, x_isub, x_if_icmp_eq, x_iload1, x_if_icmp_ne, x_jsr, u_46_38, k_39_0, x_goto, u_46_63, u_46_65, x_call2_0, x_call2_1, x_call2_2, x_call2_3, x_call2_4, e_k_s, e_k_i, List.nil_append, List.cons_append, x_dup_i, x_dup_r, p_39_13, u_46_81, x_return, ia_47, rd_39_3, rd_39_4, rd_39_5, rd_39_6, rd_39_9, rd_39_10, rd_39_11, rd_39_13, rd_40_6, rd_44, rd_47, rd_39_2, rd_39_7, rd_39_8, rd_40_5, rd_46, rd_41, rd_42, rd_43, rd_u_39_3, rd_u_39_4, rd_u_39_5, rd_u_39_6, rd_u_39_9, rd_u_39_10, rd_u_39_11, rd_u_39_13, rd_u_40_6, rd_u_44, rd_u_47, ↓reduceIte, b01_0, ite_not, if_true, if_false, Int.reduceLT, Int.reduceEq]
  | cons y t =>
    rw [ll] at hn ⊢
    have q1 : ¬ y = 10 := fun z => h1 (by rw [z]; rfl)
    have q2 : ¬ y = x := fun z => h2 (by rw [z]; rfl)
    have e1 := hs.1
    have e2 := hs.2.1
    have p : (0 : Int) < t.length + 1 := by omega
    simp (disch := omega) only [v_46_39, x_aload0, f_39_13, x_ifCond_le, k_39_12, x_sipush, x_isub, x_if_icmp_eq, x_iload1, x_if_icmp_ne, x_jsr, u_46_38, k_39_0, x_goto, u_46_63, u_46_65, x_call2_0, x_call2_1, x_call2_2, x_call2_3, x_call2_4, e_k_s, e_k_i, List.nil_append, List.cons_append, x_dup_i, x_dup_r, p_39_13, u_46_81, x_return, ia_47, rd_39_3, rd_39_4, rd_39_5, rd_39_6, rd_39_9, rd_39_10, rd_39_11, rd_39_13, rd_40_6, rd_44, rd_47, rd_39_2, rd_39_7, rd_39_8, rd_40_5, rd_46, rd_41, rd_42, rd_43, rd_u_39_3, rd_u_39_4, rd_u_39_5, rd_u_39_6, rd_u_39_9, rd_u_39_10, rd_u_39_11, rd_u_39_13, rd_u_40_6, rd_u_44, rd_u_47, Int.add_sub_cancel, e1, q1, q2, p, ↓reduceIte, b01_0, ite_not, if_true, if_false, Int.reduceLT, Int.reduceEq]
theorem c_aj {x : Int} (hx : x = 10 ∨ x = 11) {W : List Int} (h1 : W.head? ≠ some 10) (h2 : W.head? ≠ some x) : ∀ (Q : List Int) (C : List prt) (Cd : Int → Int), (∀ q, q ∈ Q → q = 10 ∨ q = x) → cod Cd C → stk Wt (Q ++ W) → (C.length : Int) + Q.length + W.length ≤ 200 → ∃ Cd', s_j X (d + 1) 46 0 [.ref 39, .int (iI x)] [] (mm (rd I a s v du lf sg op (Q ++ W).length C.length Cd Wt) J) = some ([], mm (rd I a s v du lf sg op W.length (jna Q C).length Cd' Wt) J) ∧ cod Cd' (jna Q C)
  | [], C, Cd, hq, hc, hs, hn => ⟨Cd, c_aj0 (W := W) hx hs h1 h2 (by rw [l0] at hn; omega), hc⟩
  | q :: Q, C, Cd, hq, hc, hs, hn => by
    have er : (q :: Q) ++ W = q :: (Q ++ W) := rfl
    rw [er] at hs ⊢
    rw [ll] at hn
    have q0 := hq q (List.mem_cons_self ..)
    obtain ⟨Cd', e1, e2⟩ := c_aj hx h1 h2 Q ((if q = 10 then (-2, 0, 0) else (-3, 0, 0)) :: C) (upf Cd C.length (enp (if q = 10 then (-2, 0, 0) else (-3, 0, 0)))) (fun y hy => hq y (List.mem_cons_of_mem _ hy)) (cod_sn hc) hs.2.2 (by rw [ll]; omega)
    refine ⟨Cd', ?_, e2⟩
    have lt : (((Q ++ W).length : Nat) : Int) = Q.length + W.length := by
      rw [List.length_append]
      omega
    have g1 := hs.1
    show _ = some ([], mm (rd I a s v du lf sg op W.length ((jna Q ((if q = 10 then (-2, 0, 0) else (-3, 0, 0)) :: C)).length : Nat) Cd' Wt) J)
    rw [← e1, ll, ll]
    generalize (((Q ++ W).length : Nat) : Int) = L at g1 lt ⊢
    have p : 0 < L + 1 := by omega
    have ea := fun y => c_app (X := X) (d := d) (I := I) (J := J) (a := a) (s := s) (v := v) (du := du) (lf := lf) (sg := sg) (op := op) (w := L + 1) (sz := C.length) (Cd := Cd) (Wt := Wt) (x := y) (by omega)
    conv => lhs; rw [u_46_0]
    by_cases z : q = 10
    · have ep : enp (if q = 10 then (-2, 0, 0) else (-3, 0, 0)) = -2 := by rw [if_pos z]; rfl
      rw [ep]
      simp (disch := omega) only [v_46_39, x_aload0, f_39_13, x_ifCond_le, k_39_12, x_sipush, x_isub, x_if_icmp_eq, x_iload1, x_if_icmp_ne, x_jsr, u_46_38, k_39_0, x_goto, u_46_63, u_46_65, x_call2_0, x_call2_1, x_call2_2, x_call2_3, x_call2_4, e_k_s, e_k_i, List.nil_append, List.cons_append, x_dup_i, x_dup_r, p_39_13, u_46_81, x_return, ia_47, rd_39_3, rd_39_4, rd_39_5, rd_39_6, rd_39_9, rd_39_10, rd_39_11, rd_39_13, rd_40_6, rd_44, rd_47, rd_39_2, rd_39_7, rd_39_8, rd_40_5, rd_46, rd_41, rd_42, rd_43, rd_u_39_3, rd_u_39_4, rd_u_39_5, rd_u_39_6, rd_u_39_9, rd_u_39_10, rd_u_39_11, rd_u_39_13, rd_u_40_6, rd_u_44, rd_u_47, Int.add_sub_cancel, g1, z, p, ea, ↓reduceIte, b01_0, ite_not, if_true, if_false, Int.reduceLT, Int.reduceEq]
    · have ep : enp (if q = 10 then (-2, 0, 0) else (-3, 0, 0)) = -3 := by rw [if_neg z]; rfl
      have z2 : q = x := by omega
      have z3 : ¬ x = 10 := by omega
      rw [ep]
      simp (disch := omega) only [v_46_39, x_aload0, f_39_13, x_ifCond_le, k_39_12, x_sipush, x_isub, x_if_icmp_eq, x_iload1, x_if_icmp_ne, x_jsr, u_46_38, k_39_0, x_goto, u_46_63, u_46_65, x_call2_0, x_call2_1, x_call2_2, x_call2_3, x_call2_4, e_k_s, e_k_i, List.nil_append, List.cons_append, x_dup_i, x_dup_r, p_39_13, u_46_81, x_return, ia_47, rd_39_3, rd_39_4, rd_39_5, rd_39_6, rd_39_9, rd_39_10, rd_39_11, rd_39_13, rd_40_6, rd_44, rd_47, rd_39_2, rd_39_7, rd_39_8, rd_40_5, rd_46, rd_41, rd_42, rd_43, rd_u_39_3, rd_u_39_4, rd_u_39_5, rd_u_39_6, rd_u_39_9, rd_u_39_10, rd_u_39_11, rd_u_39_13, rd_u_40_6, rd_u_44, rd_u_47, Int.add_sub_cancel, g1, z2, z3, p, ea, ↓reduceIte, b01_0, ite_not, if_true, if_false, Int.reduceLT, Int.reduceEq]
/-- a bracket closes -/
theorem c_close {W Q : List Int} {m : Nat} {C : List prt} (hW : W.head? ≠ some 12) (hq : ∀ q, q ∈ Q → q = 10 ∨ q = 11) (hc : cod Cd C) (hs : stk Wt (Q ++ 24 :: (List.replicate m 12 ++ W))) (hn : (C.length : Int) + Q.length + m + W.length + 1 ≤ 200) (ho : 1 ≤ op ∧ op ≤ 3) : ∃ Cd', s_S X (d + 3) 45 [.ref 39] (mm (rd I a s v du lf sg op (Q ++ 24 :: (List.replicate m 12 ++ W)).length C.length Cd Wt) J) = some ([.int (iI 1)], mm (rd I a s v 5 lf sg (op - 1) W.length (nots m (jna Q C)).length Cd' Wt) J) ∧ cod Cd' (nots m (jna Q C)) := by
  have lt : (((List.replicate m (12 : Int) ++ W).length : Nat) : Int) = m + W.length := by
    rw [List.length_append, List.length_replicate]
    omega
  have jl := jna_len Q C
  obtain ⟨C1, e1, e2⟩ := c_aj (X := X) (d := d) (I := I) (J := J) (a := a) (s := s) (v := v) (du := du) (lf := lf) (sg := sg) (op := op - 1) (Wt := Wt) (x := 11) (Or.inr rfl) (W := 24 :: (List.replicate m 12 ++ W)) (by simp) (by simp) Q C Cd hq hc hs (by rw [ll]; omega)
  have hs2 : ∀ (Q : List Int) (V : List Int), stk Wt (Q ++ V) → stk Wt V := by
    intro Q
    induction Q with
    | nil => intro V h; exact h
    | cons q Q ih => intro V h; exact ih V h.2.2
  obtain ⟨C2, e3, e4⟩ := c_eo (X := X) (d := d) (I := I) (J := J) (a := a) (s := s) (v := v) (du := du) (lf := lf) (sg := sg) (op := op - 1) (Wt := Wt) hW m (jna Q C) C1 e2 (hs2 Q _ hs).2.2 (by omega)
  refine ⟨C2, ?_, e4⟩
  rw [ll] at e1
  generalize (((List.replicate m (12 : Int) ++ W).length : Nat) : Int) = L at lt e1 e3
  generalize (((Q ++ 24 :: (List.replicate m (12 : Int) ++ W)).length : Nat) : Int) = L2 at e1 ⊢
  have p : 0 < L + 1 := by omega
  have p0 : ¬ op = 0 := by omega
  simp (disch := omega) only [v_45_39, u_45_0, x_aload0, f_39_11, x_ifCond_ne, x_ifCond_neb, x_sipush, x_zret0, x_zret1, x_zretb, u_45_9, x_dup_i, x_dup_r, x_isub, p_39_11, x_call2_0, x_call2_1, x_call2_2, x_call2_3, x_call2_4, e_k_s, e_k_i, List.nil_append, List.cons_append, f_39_13, x_ifCond_le, p_39_13, x_jsr, u_45_42, x_call1_0, x_call1_1, x_call1_2, x_call1_3, x_call1_4, v_46_39, v_43_39, rd_39_3, rd_39_4, rd_39_5, rd_39_6, rd_39_9, rd_39_10, rd_39_11, rd_39_13, rd_40_6, rd_44, rd_47, rd_39_2, rd_39_7, rd_39_8, rd_40_5, rd_46, rd_41, rd_42, rd_43, rd_u_39_3, rd_u_39_4, rd_u_39_5, rd_u_39_6, rd_u_39_9, rd_u_39_10, rd_u_39_11, rd_u_39_13, rd_u_40_6, rd_u_44, rd_u_47, Int.add_sub_cancel, p, p0, e1, e3, ↓reduceIte, b01_0, ite_not, if_true, if_false, Int.reduceLT, Int.reduceEq]
end
