/-! ACTS of a thing, in class and model -/
def xr (a b : Int) : Int := (iI a ^^^ iI b).toInt
def rm (a b : Int) : Int := (iI a % iI b).toInt
abbrev ast := Int × (Int → Int)
def nt (b : Int) (s : ast) : ast := if s.1 < 30 then (s.1 + 1, upf s.2 s.1 b) else s
def app : List Int → ast → ast
  | [], s => s
  | b :: t, s => app t (nt b s)
def tu (kd : Int) : Int := if kd = 2 then 1 else if kd = 3 then 1 else 0
def su (kd : Int) : Int := if kd = 4 then 1 else if kd = 5 then 1 else 0
def lyE (kd : Int) : List Int := if kd = 1 then [20, 10] else if kd = 3 then [50, 10] else [10]
def lyV (kd n x : Int) : Int := if kd = 1 then (x * 2 + n) * 3 else if kd = 3 then xr (x * 2 + n) 4 else x * 2 + n
def tiE (kd : Int) : List Int := if kd = 2 then [30, 11, 10] else if kd = 3 then [30, 11, 50, 10] else if kd = 5 then [60, 11, 10] else if kd = 1 then [11, 20, 10] else [11, 10]
def tiV (kd n a x : Int) : Int := if kd = 2 then lyV 2 n (x + 1) - a else if kd = 3 then lyV 3 n (x + 1) - a else if kd = 5 then lyV 5 n x - a - 60 else lyV kd n x - a
/-- breaks, where it isn't parted by 0 -/
def brE (kd : Int) : List Int := if kd = 5 then [61, 40, 12, 10] else if kd = 4 then [40, 12] else [12]
def brV (kd n a x : Int) : Int := if kd = 5 then xr (0 - rm x (n + a - 3)) (lyV 5 n a) else if kd = 4 then 0 - rm x (n + a - 3) else rm x (n + a - 3)
/-- where it is -/
def bpE (kd : Int) : List Int := if kd = 5 then [61, 40, 12] else if kd = 4 then [40, 12] else [12]
def shE (kd : Int) : List Int := if kd = 3 then 51 :: 13 :: tiE 3 ++ brE 3 ++ tiE 3 else 13 :: tiE kd ++ brE kd
def shV (kd n a x : Int) : Int := if kd = 3 then xr (tiV 3 n a x) (brV 3 n a x) + tiV 3 n a n else xr (tiV kd n a x) (brV kd n a x)
def spE (kd : Int) : List Int := if kd = 3 then 51 :: 13 :: tiE 3 ++ bpE 3 else 13 :: tiE kd ++ bpE kd
theorem nt_b {b : Int} {s : ast} (h : 0 ≤ s.1 ∧ s.1 ≤ 30) : 0 ≤ (nt b s).1 ∧ (nt b s).1 ≤ 30 := by
  unfold nt
  split
  · dsimp only; omega
  · exact h
theorem app_b : ∀ (l : List Int) (s : ast), 0 ≤ s.1 ∧ s.1 ≤ 30 → 0 ≤ (app l s).1 ∧ (app l s).1 ≤ 30
  | [], _, h => h
  | _ :: t, _, h => app_b t _ (nt_b h)
theorem app_app : ∀ (l l' : List Int) (s : ast), app (l ++ l') s = app l' (app l s)
  | [], _, _ => rfl
  | _ :: t, l', s => app_app t l' _
def aco (I : Nat → Int → Int) (s : ast) (p kd n a : Int) : Nat → Int → Int := fun o k =>
  if o = 55 then (if k = 1 then s.1 else if k = 2 then p else if k = 3 then kd else if k = 4 then n else if k = 5 then a else I 55 k) else if o = 56 then s.2 k else I o k
def amo (B : Nat → Int → Int) (s : ast) (p own : Int) : Nat → Int → Int := fun o k =>
  if o = 69 then (if k = 36 then s.1 else if k = 37 then own else if k = 38 then p else B 69 k) else if o = 89 then s.2 k else B o k
section
variable {I B : Nat → Int → Int} {s : ast} {p kd n a own v k t : Int} {T : Int → Int}
theorem aco_1 : aco I s p kd n a 55 1 = s.1 := rfl
theorem aco_2 : aco I s p kd n a 55 2 = p := rfl
theorem aco_3 : aco I s p kd n a 55 3 = kd := rfl
theorem aco_4 : aco I s p kd n a 55 4 = n := rfl
theorem aco_5 : aco I s p kd n a 55 5 = a := rfl
theorem aco_up : up (aco I s p kd n a) 55 2 v = aco I s v kd n a := by
  funext o k
  unfold up aco
  (repeat' split) <;> simp_all
theorem aco_nt : up (up (aco I s p kd n a) 55 1 v) 56 k t = aco I (v, upf s.2 k t) p kd n a := by
  funext o b
  unfold up aco upf
  (repeat' split) <;> simp_all
theorem amo_1 : amo B s p own 69 36 = s.1 := rfl
theorem amo_2 : amo B s p own 69 37 = own := rfl
theorem amo_3 : amo B s p own 69 38 = p := rfl
theorem amo_o {o : Nat} (h1 : o ≠ 69) (h2 : o ≠ 89) : amo B s p own o k = B o k := by
  unfold amo
  rw [if_neg h1, if_neg h2]
theorem amo_up : up (amo B s p own) 69 38 v = amo B s v own := by
  funext o k
  unfold up amo
  (repeat' split) <;> simp_all
theorem amo_nt : up (up (amo B s p own) 89 k t) 69 36 v = amo B (v, upf s.2 k t) p own := by
  funext o b
  unfold up amo upf
  (repeat' split) <;> simp_all
theorem amo_89 : up (amo B s p own) 89 k t 69 36 = s.1 := rfl
end
section
variable {X : e_X} {d c : Nat} {is : List Instr} {ls st : List Value} {m : e_M} {I J B : Nat → Int → Int} {s : ast}
theorem x_xr {x y : Int} : s_x X d c (.ixor :: is) (ls) (.int (iI y) :: .int (iI x) :: st) m = s_x X d c is (ls) (.int (iI (xr x y)) :: st) m := by
  rw [x_ixor]
  unfold xr
  rw [iI_of]
theorem x_rm {x y : Int} (h : rg y ∧ y ≠ 0) : s_x X d c (.irem :: is) (ls) (.int (iI y) :: .int (iI x) :: st) m = s_x X d c is (ls) (.int (iI (rm x y)) :: st) m := by
  have hz : ¬ iI y = 0 := by
    show ¬ iI y = iI 0
    rw [iI_inj h.1 (by decide)]
    exact h.2
  rw [x_irem hz]
  unfold rm
  rw [iI_of]
theorem b_u2 {kd : Int} (hk : 0 ≤ kd ∧ kd ≤ 5) : s_S X (d + 2) 112 [.int (iI kd), .int (iI 2)] (mm I J) = some ([.int (iI (tu kd))], mm I J) := by
  rw [b_under hk (by decide)]
  unfold tu
  (repeat' split) <;> first | rfl | (exfalso; omega) | (refine sv ?_; omega)
theorem b_u4 {kd : Int} (hk : 0 ≤ kd ∧ kd ≤ 5) : s_S X (d + 2) 112 [.int (iI kd), .int (iI 4)] (mm I J) = some ([.int (iI (su kd))], mm I J) := by
  rw [b_under hk (by decide)]
  unfold su
  (repeat' split) <;> first | rfl | (exfalso; omega) | (refine sv ?_; omega)
theorem c_n0 {kd n a b : Int} (hs : 0 ≤ s.1 ∧ s.1 ≤ 30) : s_S X (d + 1) 4 [.ref 55, .int (iI b)] (mm (aco I s 0 kd n a) J) = some ([], mm (aco I (nt b s) 0 kd n a) J) := by
  unfold nt
  by_cases q : s.1 < 30
  · rw [if_pos q]
    simp (disch := omega) only [v_4_55, u_4_0, x_aload0, f_55_2, x_ifCond_ne, x_ifCond_neb, f_55_1, x_sipush, x_if_icmp_ge, k_55_0, x_dup_i, x_dup_r, x_dup_x1, x_iadd, p_55_1, x_iload1, x_jsr, u_4_33, x_return, is_56, aco_1, aco_2, aco_nt, ↓reduceIte, b01_0, ite_not, if_true, if_false, Int.reduceLT, Int.reduceEq]
    rw [if_pos q]
  · rw [if_neg q]
    simp (disch := omega) only [v_4_55, u_4_0, x_aload0, f_55_2, x_ifCond_ne, x_ifCond_neb, f_55_1, x_sipush, x_if_icmp_ge, k_55_0, x_dup_i, x_dup_r, x_dup_x1, x_iadd, p_55_1, x_iload1, x_jsr, u_4_33, x_return, is_56, aco_1, aco_2, aco_nt, ↓reduceIte, b01_0, ite_not, if_true, if_false, Int.reduceLT, Int.reduceEq]
    rw [if_neg q]
theorem c_n1 {kd n a b : Int} : s_S X (d + 1) 4 [.ref 55, .int (iI b)] (mm (aco I s 1 kd n a) J) = some ([], mm (aco I s 1 kd n a) J) := by
  simp (disch := omega) only [v_4_55, u_4_0, x_aload0, f_55_2, x_ifCond_ne, x_ifCond_neb, f_55_1, x_sipush, x_if_icmp_ge, k_55_0, x_dup_i, x_dup_r, x_dup_x1, x_iadd, p_55_1, x_iload1, x_jsr, u_4_33, x_return, is_56, aco_1, aco_2, ↓reduceIte, b01_0, ite_not, if_true, if_false, Int.reduceLT, Int.reduceEq]
theorem c_ly0 {kd n a x : Int} (hk : 1 ≤ kd ∧ kd ≤ 5) (hs : 0 ≤ s.1 ∧ s.1 ≤ 30) : s_S X (d + 2) 3 [.ref 55, .int (iI x)] (mm (aco I s 0 kd n a) J) = some ([.int (iI (lyV kd n x))], mm (aco I (app (lyE kd) s) 0 kd n a) J) := by
  have hn := fun b => c_n0 (X := X) (d := d) (I := I) (J := J) (s := s) (kd := kd) (n := n) (a := a) (b := b) hs
  have hn2 := fun b b' => c_n0 (X := X) (d := d) (I := I) (J := J) (s := nt b' s) (kd := kd) (n := n) (a := a) (b := b) (nt_b hs)
  have : kd = 1 ∨ kd = 2 ∨ kd = 3 ∨ kd = 4 ∨ kd = 5 := by omega
  rcases this with rfl | rfl | rfl | rfl | rfl
  · simp (disch := omega) only [v_3_55, u_3_0, x_aload0, f_55_3, x_sipush, x_if_icmp_ne, x_call2_0, x_call2_1, x_call2_2, x_call2_3, x_call2_4, e_k_s, e_k_i, List.nil_append, List.cons_append, x_jsr, u_3_14, u_3_28, x_iload1, x_imul, f_55_4, x_iadd, x_istore2i, x_istore2r, x_istore2u, x_iload2, x_ireturn, u_3_55, x_goto, u_3_69, u_3_70, x_xr, aco_3, aco_4, hn, hn2, ↓reduceIte, b01_0, ite_not, if_true, if_false, Int.reduceLT, Int.reduceEq]
    rfl
  · simp (disch := omega) only [v_3_55, u_3_0, x_aload0, f_55_3, x_sipush, x_if_icmp_ne, x_call2_0, x_call2_1, x_call2_2, x_call2_3, x_call2_4, e_k_s, e_k_i, List.nil_append, List.cons_append, x_jsr, u_3_14, u_3_28, x_iload1, x_imul, f_55_4, x_iadd, x_istore2i, x_istore2r, x_istore2u, x_iload2, x_ireturn, u_3_55, x_goto, u_3_69, u_3_70, x_xr, aco_3, aco_4, hn, hn2, ↓reduceIte, b01_0, ite_not, if_true, if_false, Int.reduceLT, Int.reduceEq]
    rfl
  · simp (disch := omega) only [v_3_55, u_3_0, x_aload0, f_55_3, x_sipush, x_if_icmp_ne, x_call2_0, x_call2_1, x_call2_2, x_call2_3, x_call2_4, e_k_s, e_k_i, List.nil_append, List.cons_append, x_jsr, u_3_14, u_3_28, x_iload1, x_imul, f_55_4, x_iadd, x_istore2i, x_istore2r, x_istore2u, x_iload2, x_ireturn, u_3_55, x_goto, u_3_69, u_3_70, x_xr, aco_3, aco_4, hn, hn2, ↓reduceIte, b01_0, ite_not, if_true, if_false, Int.reduceLT, Int.reduceEq]
    rfl
  · simp (disch := omega) only [v_3_55, u_3_0, x_aload0, f_55_3, x_sipush, x_if_icmp_ne, x_call2_0, x_call2_1, x_call2_2, x_call2_3, x_call2_4, e_k_s, e_k_i, List.nil_append, List.cons_append, x_jsr, u_3_14, u_3_28, x_iload1, x_imul, f_55_4, x_iadd, x_istore2i, x_istore2r, x_istore2u, x_iload2, x_ireturn, u_3_55, x_goto, u_3_69, u_3_70, x_xr, aco_3, aco_4, hn, hn2, ↓reduceIte, b01_0, ite_not, if_true, if_false, Int.reduceLT, Int.reduceEq]
    rfl
  · simp (disch := omega) only [v_3_55, u_3_0, x_aload0, f_55_3, x_sipush, x_if_icmp_ne, x_call2_0, x_call2_1, x_call2_2, x_call2_3, x_call2_4, e_k_s, e_k_i, List.nil_append, List.cons_append, x_jsr, u_3_14, u_3_28, x_iload1, x_imul, f_55_4, x_iadd, x_istore2i, x_istore2r, x_istore2u, x_iload2, x_ireturn, u_3_55, x_goto, u_3_69, u_3_70, x_xr, aco_3, aco_4, hn, hn2, ↓reduceIte, b01_0, ite_not, if_true, if_false, Int.reduceLT, Int.reduceEq]
    rfl
theorem c_ly1 {kd n a x : Int} (hk : 1 ≤ kd ∧ kd ≤ 5) : s_S X (d + 2) 3 [.ref 55, .int (iI x)] (mm (aco I s 1 kd n a) J) = some ([.int (iI (lyV kd n x))], mm (aco I s 1 kd n a) J) := by
  have hn := fun b => c_n1 (X := X) (d := d) (I := I) (J := J) (s := s) (kd := kd) (n := n) (a := a) (b := b)
  have : kd = 1 ∨ kd = 2 ∨ kd = 3 ∨ kd = 4 ∨ kd = 5 := by omega
  rcases this with rfl | rfl | rfl | rfl | rfl
  · simp (disch := omega) only [v_3_55, u_3_0, x_aload0, f_55_3, x_sipush, x_if_icmp_ne, x_call2_0, x_call2_1, x_call2_2, x_call2_3, x_call2_4, e_k_s, e_k_i, List.nil_append, List.cons_append, x_jsr, u_3_14, u_3_28, x_iload1, x_imul, f_55_4, x_iadd, x_istore2i, x_istore2r, x_istore2u, x_iload2, x_ireturn, u_3_55, x_goto, u_3_69, u_3_70, x_xr, aco_3, aco_4, hn, ↓reduceIte, b01_0, ite_not, if_true, if_false, Int.reduceLT, Int.reduceEq]
    rfl
  · simp (disch := omega) only [v_3_55, u_3_0, x_aload0, f_55_3, x_sipush, x_if_icmp_ne, x_call2_0, x_call2_1, x_call2_2, x_call2_3, x_call2_4, e_k_s, e_k_i, List.nil_append, List.cons_append, x_jsr, u_3_14, u_3_28, x_iload1, x_imul, f_55_4, x_iadd, x_istore2i, x_istore2r, x_istore2u, x_iload2, x_ireturn, u_3_55, x_goto, u_3_69, u_3_70, x_xr, aco_3, aco_4, hn, ↓reduceIte, b01_0, ite_not, if_true, if_false, Int.reduceLT, Int.reduceEq]
    rfl
  · simp (disch := omega) only [v_3_55, u_3_0, x_aload0, f_55_3, x_sipush, x_if_icmp_ne, x_call2_0, x_call2_1, x_call2_2, x_call2_3, x_call2_4, e_k_s, e_k_i, List.nil_append, List.cons_append, x_jsr, u_3_14, u_3_28, x_iload1, x_imul, f_55_4, x_iadd, x_istore2i, x_istore2r, x_istore2u, x_iload2, x_ireturn, u_3_55, x_goto, u_3_69, u_3_70, x_xr, aco_3, aco_4, hn, ↓reduceIte, b01_0, ite_not, if_true, if_false, Int.reduceLT, Int.reduceEq]
    rfl
  · simp (disch := omega) only [v_3_55, u_3_0, x_aload0, f_55_3, x_sipush, x_if_icmp_ne, x_call2_0, x_call2_1, x_call2_2, x_call2_3, x_call2_4, e_k_s, e_k_i, List.nil_append, List.cons_append, x_jsr, u_3_14, u_3_28, x_iload1, x_imul, f_55_4, x_iadd, x_istore2i, x_istore2r, x_istore2u, x_iload2, x_ireturn, u_3_55, x_goto, u_3_69, u_3_70, x_xr, aco_3, aco_4, hn, ↓reduceIte, b01_0, ite_not, if_true, if_false, Int.reduceLT, Int.reduceEq]
    rfl
  · simp (disch := omega) only [v_3_55, u_3_0, x_aload0, f_55_3, x_sipush, x_if_icmp_ne, x_call2_0, x_call2_1, x_call2_2, x_call2_3, x_call2_4, e_k_s, e_k_i, List.nil_append, List.cons_append, x_jsr, u_3_14, u_3_28, x_iload1, x_imul, f_55_4, x_iadd, x_istore2i, x_istore2r, x_istore2u, x_iload2, x_ireturn, u_3_55, x_goto, u_3_69, u_3_70, x_xr, aco_3, aco_4, hn, ↓reduceIte, b01_0, ite_not, if_true, if_false, Int.reduceLT, Int.reduceEq]
    rfl
theorem c_ti0 {kd n a x : Int} (hk : 1 ≤ kd ∧ kd ≤ 5) (hs : 0 ≤ s.1 ∧ s.1 ≤ 30) : s_S X (d + 3) 5 [.ref 55, .int (iI x)] (mm (aco I s 0 kd n a) J) = some ([.int (iI (tiV kd n a x))], mm (aco I (app (tiE kd) s) 0 kd n a) J) := by
  have hu := b_u2 (X := X) (d := d) (I := aco I s 0 kd n a) (J := J) (kd := kd) (by omega)
  have hn := fun b => c_n0 (X := X) (d := d + 1) (I := I) (J := J) (s := s) (kd := kd) (n := n) (a := a) (b := b) hs
  have hn2 := fun b b' => c_n0 (X := X) (d := d + 1) (I := I) (J := J) (s := nt b' s) (kd := kd) (n := n) (a := a) (b := b) (nt_b hs)
  have hl := fun x b => c_ly0 (X := X) (d := d) (I := I) (J := J) (s := nt b s) (kd := kd) (n := n) (a := a) (x := x) hk (nt_b hs)
  have hl2 := fun x b b' => c_ly0 (X := X) (d := d) (I := I) (J := J) (s := nt b (nt b' s)) (kd := kd) (n := n) (a := a) (x := x) hk (nt_b (nt_b hs))
  have : kd = 1 ∨ kd = 2 ∨ kd = 3 ∨ kd = 4 ∨ kd = 5 := by omega
  rcases this with rfl | rfl | rfl | rfl | rfl
  · rw [show tu 1 = 0 from rfl] at hu
    simp (disch := omega) only [v_5_55, u_5_0, x_aload0, f_55_3, x_sipush, x_call2_0, x_call2_1, x_call2_2, x_call2_3, x_call2_4, e_k_s, e_k_i, List.nil_append, List.cons_append, x_istore2i, x_istore2r, x_istore2u, x_iload2, x_ifCond_eq, x_ifCond_eqb, x_jsr, u_5_19, x_if_icmp_ne, u_5_33, x_iload1, x_iadd, x_goto, u_5_50, u_5_51, f_55_5, x_isub, x_istore3i, x_istore3r, x_istore3u, x_iload3, u_5_75, u_5_76, x_ireturn, aco_3, aco_5, hu, hn, hn2, hl, hl2, ↓reduceIte, b01_0, ite_not, if_true, if_false, Int.reduceLT, Int.reduceEq]
    rfl
  · rw [show tu 2 = 1 from rfl] at hu
    simp (disch := omega) only [v_5_55, u_5_0, x_aload0, f_55_3, x_sipush, x_call2_0, x_call2_1, x_call2_2, x_call2_3, x_call2_4, e_k_s, e_k_i, List.nil_append, List.cons_append, x_istore2i, x_istore2r, x_istore2u, x_iload2, x_ifCond_eq, x_ifCond_eqb, x_jsr, u_5_19, x_if_icmp_ne, u_5_33, x_iload1, x_iadd, x_goto, u_5_50, u_5_51, f_55_5, x_isub, x_istore3i, x_istore3r, x_istore3u, x_iload3, u_5_75, u_5_76, x_ireturn, aco_3, aco_5, hu, hn, hn2, hl, hl2, ↓reduceIte, b01_0, ite_not, if_true, if_false, Int.reduceLT, Int.reduceEq]
    rfl
  · rw [show tu 3 = 1 from rfl] at hu
    simp (disch := omega) only [v_5_55, u_5_0, x_aload0, f_55_3, x_sipush, x_call2_0, x_call2_1, x_call2_2, x_call2_3, x_call2_4, e_k_s, e_k_i, List.nil_append, List.cons_append, x_istore2i, x_istore2r, x_istore2u, x_iload2, x_ifCond_eq, x_ifCond_eqb, x_jsr, u_5_19, x_if_icmp_ne, u_5_33, x_iload1, x_iadd, x_goto, u_5_50, u_5_51, f_55_5, x_isub, x_istore3i, x_istore3r, x_istore3u, x_iload3, u_5_75, u_5_76, x_ireturn, aco_3, aco_5, hu, hn, hn2, hl, hl2, ↓reduceIte, b01_0, ite_not, if_true, if_false, Int.reduceLT, Int.reduceEq]
    rfl
  · rw [show tu 4 = 0 from rfl] at hu
    simp (disch := omega) only [v_5_55, u_5_0, x_aload0, f_55_3, x_sipush, x_call2_0, x_call2_1, x_call2_2, x_call2_3, x_call2_4, e_k_s, e_k_i, List.nil_append, List.cons_append, x_istore2i, x_istore2r, x_istore2u, x_iload2, x_ifCond_eq, x_ifCond_eqb, x_jsr, u_5_19, x_if_icmp_ne, u_5_33, x_iload1, x_iadd, x_goto, u_5_50, u_5_51, f_55_5, x_isub, x_istore3i, x_istore3r, x_istore3u, x_iload3, u_5_75, u_5_76, x_ireturn, aco_3, aco_5, hu, hn, hn2, hl, hl2, ↓reduceIte, b01_0, ite_not, if_true, if_false, Int.reduceLT, Int.reduceEq]
    rfl
  · rw [show tu 5 = 0 from rfl] at hu
    simp (disch := omega) only [v_5_55, u_5_0, x_aload0, f_55_3, x_sipush, x_call2_0, x_call2_1, x_call2_2, x_call2_3, x_call2_4, e_k_s, e_k_i, List.nil_append, List.cons_append, x_istore2i, x_istore2r, x_istore2u, x_iload2, x_ifCond_eq, x_ifCond_eqb, x_jsr, u_5_19, x_if_icmp_ne, u_5_33, x_iload1, x_iadd, x_goto, u_5_50, u_5_51, f_55_5, x_isub, x_istore3i, x_istore3r, x_istore3u, x_iload3, u_5_75, u_5_76, x_ireturn, aco_3, aco_5, hu, hn, hn2, hl, hl2, ↓reduceIte, b01_0, ite_not, if_true, if_false, Int.reduceLT, Int.reduceEq]
    rfl
theorem c_ti1 {kd n a x : Int} (hk : 1 ≤ kd ∧ kd ≤ 5) : s_S X (d + 3) 5 [.ref 55, .int (iI x)] (mm (aco I s 1 kd n a) J) = some ([.int (iI (tiV kd n a x))], mm (aco I s 1 kd n a) J) := by
  have hu := b_u2 (X := X) (d := d) (I := aco I s 1 kd n a) (J := J) (kd := kd) (by omega)
  have hn := fun b => c_n1 (X := X) (d := d + 1) (I := I) (J := J) (s := s) (kd := kd) (n := n) (a := a) (b := b)
  have hl := fun x => c_ly1 (X := X) (d := d) (I := I) (J := J) (s := s) (kd := kd) (n := n) (a := a) (x := x) hk
  have : kd = 1 ∨ kd = 2 ∨ kd = 3 ∨ kd = 4 ∨ kd = 5 := by omega
  rcases this with rfl | rfl | rfl | rfl | rfl
  · rw [show tu 1 = 0 from rfl] at hu
    simp (disch := omega) only [v_5_55, u_5_0, x_aload0, f_55_3, x_sipush, x_call2_0, x_call2_1, x_call2_2, x_call2_3, x_call2_4, e_k_s, e_k_i, List.nil_append, List.cons_append, x_istore2i, x_istore2r, x_istore2u, x_iload2, x_ifCond_eq, x_ifCond_eqb, x_jsr, u_5_19, x_if_icmp_ne, u_5_33, x_iload1, x_iadd, x_goto, u_5_50, u_5_51, f_55_5, x_isub, x_istore3i, x_istore3r, x_istore3u, x_iload3, u_5_75, u_5_76, x_ireturn, aco_3, aco_5, hu, hn, hl, ↓reduceIte, b01_0, ite_not, if_true, if_false, Int.reduceLT, Int.reduceEq]
    rfl
  · rw [show tu 2 = 1 from rfl] at hu
    simp (disch := omega) only [v_5_55, u_5_0, x_aload0, f_55_3, x_sipush, x_call2_0, x_call2_1, x_call2_2, x_call2_3, x_call2_4, e_k_s, e_k_i, List.nil_append, List.cons_append, x_istore2i, x_istore2r, x_istore2u, x_iload2, x_ifCond_eq, x_ifCond_eqb, x_jsr, u_5_19, x_if_icmp_ne, u_5_33, x_iload1, x_iadd, x_goto, u_5_50, u_5_51, f_55_5, x_isub, x_istore3i, x_istore3r, x_istore3u, x_iload3, u_5_75, u_5_76, x_ireturn, aco_3, aco_5, hu, hn, hl, ↓reduceIte, b01_0, ite_not, if_true, if_false, Int.reduceLT, Int.reduceEq]
    rfl
  · rw [show tu 3 = 1 from rfl] at hu
    simp (disch := omega) only [v_5_55, u_5_0, x_aload0, f_55_3, x_sipush, x_call2_0, x_call2_1, x_call2_2, x_call2_3, x_call2_4, e_k_s, e_k_i, List.nil_append, List.cons_append, x_istore2i, x_istore2r, x_istore2u, x_iload2, x_ifCond_eq, x_ifCond_eqb, x_jsr, u_5_19, x_if_icmp_ne, u_5_33, x_iload1, x_iadd, x_goto, u_5_50, u_5_51, f_55_5, x_isub, x_istore3i, x_istore3r, x_istore3u, x_iload3, u_5_75, u_5_76, x_ireturn, aco_3, aco_5, hu, hn, hl, ↓reduceIte, b01_0, ite_not, if_true, if_false, Int.reduceLT, Int.reduceEq]
    rfl
  · rw [show tu 4 = 0 from rfl] at hu
    simp (disch := omega) only [v_5_55, u_5_0, x_aload0, f_55_3, x_sipush, x_call2_0, x_call2_1, x_call2_2, x_call2_3, x_call2_4, e_k_s, e_k_i, List.nil_append, List.cons_append, x_istore2i, x_istore2r, x_istore2u, x_iload2, x_ifCond_eq, x_ifCond_eqb, x_jsr, u_5_19, x_if_icmp_ne, u_5_33, x_iload1, x_iadd, x_goto, u_5_50, u_5_51, f_55_5, x_isub, x_istore3i, x_istore3r, x_istore3u, x_iload3, u_5_75, u_5_76, x_ireturn, aco_3, aco_5, hu, hn, hl, ↓reduceIte, b01_0, ite_not, if_true, if_false, Int.reduceLT, Int.reduceEq]
    rfl
  · rw [show tu 5 = 0 from rfl] at hu
    simp (disch := omega) only [v_5_55, u_5_0, x_aload0, f_55_3, x_sipush, x_call2_0, x_call2_1, x_call2_2, x_call2_3, x_call2_4, e_k_s, e_k_i, List.nil_append, List.cons_append, x_istore2i, x_istore2r, x_istore2u, x_iload2, x_ifCond_eq, x_ifCond_eqb, x_jsr, u_5_19, x_if_icmp_ne, u_5_33, x_iload1, x_iadd, x_goto, u_5_50, u_5_51, f_55_5, x_isub, x_istore3i, x_istore3r, x_istore3u, x_iload3, u_5_75, u_5_76, x_ireturn, aco_3, aco_5, hu, hn, hl, ↓reduceIte, b01_0, ite_not, if_true, if_false, Int.reduceLT, Int.reduceEq]
    rfl
theorem c_br {kd n a x : Int} (hk : 1 ≤ kd ∧ kd ≤ 5) (hs : 0 ≤ s.1 ∧ s.1 ≤ 30) (hn5 : 0 ≤ n ∧ n ≤ 5) (ha5 : 0 ≤ a ∧ a ≤ 5) : s_S X (d + 3) 6 [.ref 55, .int (iI x)] (mm (aco I s 0 kd n a) J) = if n + a - 3 = 0 then some ([.int (iI 0)], mm (aco I (app (bpE kd) s) 1 kd n a) J) else some ([.int (iI (brV kd n a x))], mm (aco I (app (brE kd) s) 0 kd n a) J) := by
  have hu := b_u4 (X := X) (d := d) (I := aco I s 0 kd n a) (J := J) (kd := kd) (by omega)
  have hn := fun b => c_n0 (X := X) (d := d + 1) (I := I) (J := J) (s := s) (kd := kd) (n := n) (a := a) (b := b) hs
  have hn2 := fun b b' => c_n0 (X := X) (d := d + 1) (I := I) (J := J) (s := nt b' s) (kd := kd) (n := n) (a := a) (b := b) (nt_b hs)
  have hn3 := fun b b' b'' => c_n0 (X := X) (d := d + 1) (I := I) (J := J) (s := nt b' (nt b'' s)) (kd := kd) (n := n) (a := a) (b := b) (nt_b (nt_b hs))
  have hl := fun x b b' b'' => c_ly0 (X := X) (d := d) (I := I) (J := J) (s := nt b (nt b' (nt b'' s))) (kd := kd) (n := n) (a := a) (x := x) hk (nt_b (nt_b (nt_b hs)))
  by_cases q : n + a - 3 = 0
  · rw [if_pos q]
    have : kd = 1 ∨ kd = 2 ∨ kd = 3 ∨ kd = 4 ∨ kd = 5 := by omega
    rcases this with rfl | rfl | rfl | rfl | rfl
    · rw [show su 1 = 0 from rfl] at hu
      simp (disch := omega) only [v_6_55, u_6_0, x_aload0, f_55_3, x_sipush, x_call2_0, x_call2_1, x_call2_2, x_call2_3, x_call2_4, e_k_s, e_k_i, List.nil_append, List.cons_append, x_istore2i, x_istore2r, x_istore2u, x_if_icmp_ne, x_jsr, u_6_23, x_iload2, x_ifCond_eq, x_ifCond_eqb, u_6_33, f_55_4, f_55_5, x_iadd, x_isub, x_istore3i, x_istore3r, x_istore3u, x_iload3, x_ifCond_ne, x_ifCond_neb, p_55_2_0, p_55_2_1, p_55_2_b, x_ireturn, u_6_62, x_iload1, x_goto, u_6_74, u_6_77, x_istore4i, x_istore4r, x_istore4u, x_iload4, u_6_101, u_6_103, x_xr, x_rm, aco_3, aco_4, aco_5, hu, hn, hn2, hn3, hl, q, aco_up, ↓reduceIte, b01_0, ite_not, if_true, if_false, Int.reduceLT, Int.reduceEq]
      rfl
    · rw [show su 2 = 0 from rfl] at hu
      simp (disch := omega) only [v_6_55, u_6_0, x_aload0, f_55_3, x_sipush, x_call2_0, x_call2_1, x_call2_2, x_call2_3, x_call2_4, e_k_s, e_k_i, List.nil_append, List.cons_append, x_istore2i, x_istore2r, x_istore2u, x_if_icmp_ne, x_jsr, u_6_23, x_iload2, x_ifCond_eq, x_ifCond_eqb, u_6_33, f_55_4, f_55_5, x_iadd, x_isub, x_istore3i, x_istore3r, x_istore3u, x_iload3, x_ifCond_ne, x_ifCond_neb, p_55_2_0, p_55_2_1, p_55_2_b, x_ireturn, u_6_62, x_iload1, x_goto, u_6_74, u_6_77, x_istore4i, x_istore4r, x_istore4u, x_iload4, u_6_101, u_6_103, x_xr, x_rm, aco_3, aco_4, aco_5, hu, hn, hn2, hn3, hl, q, aco_up, ↓reduceIte, b01_0, ite_not, if_true, if_false, Int.reduceLT, Int.reduceEq]
      rfl
    · rw [show su 3 = 0 from rfl] at hu
      simp (disch := omega) only [v_6_55, u_6_0, x_aload0, f_55_3, x_sipush, x_call2_0, x_call2_1, x_call2_2, x_call2_3, x_call2_4, e_k_s, e_k_i, List.nil_append, List.cons_append, x_istore2i, x_istore2r, x_istore2u, x_if_icmp_ne, x_jsr, u_6_23, x_iload2, x_ifCond_eq, x_ifCond_eqb, u_6_33, f_55_4, f_55_5, x_iadd, x_isub, x_istore3i, x_istore3r, x_istore3u, x_iload3, x_ifCond_ne, x_ifCond_neb, p_55_2_0, p_55_2_1, p_55_2_b, x_ireturn, u_6_62, x_iload1, x_goto, u_6_74, u_6_77, x_istore4i, x_istore4r, x_istore4u, x_iload4, u_6_101, u_6_103, x_xr, x_rm, aco_3, aco_4, aco_5, hu, hn, hn2, hn3, hl, q, aco_up, ↓reduceIte, b01_0, ite_not, if_true, if_false, Int.reduceLT, Int.reduceEq]
      rfl
    · rw [show su 4 = 1 from rfl] at hu
      simp (disch := omega) only [v_6_55, u_6_0, x_aload0, f_55_3, x_sipush, x_call2_0, x_call2_1, x_call2_2, x_call2_3, x_call2_4, e_k_s, e_k_i, List.nil_append, List.cons_append, x_istore2i, x_istore2r, x_istore2u, x_if_icmp_ne, x_jsr, u_6_23, x_iload2, x_ifCond_eq, x_ifCond_eqb, u_6_33, f_55_4, f_55_5, x_iadd, x_isub, x_istore3i, x_istore3r, x_istore3u, x_iload3, x_ifCond_ne, x_ifCond_neb, p_55_2_0, p_55_2_1, p_55_2_b, x_ireturn, u_6_62, x_iload1, x_goto, u_6_74, u_6_77, x_istore4i, x_istore4r, x_istore4u, x_iload4, u_6_101, u_6_103, x_xr, x_rm, aco_3, aco_4, aco_5, hu, hn, hn2, hn3, hl, q, aco_up, ↓reduceIte, b01_0, ite_not, if_true, if_false, Int.reduceLT, Int.reduceEq]
      rfl
    · rw [show su 5 = 1 from rfl] at hu
      simp (disch := omega) only [v_6_55, u_6_0, x_aload0, f_55_3, x_sipush, x_call2_0, x_call2_1, x_call2_2, x_call2_3, x_call2_4, e_k_s, e_k_i, List.nil_append, List.cons_append, x_istore2i, x_istore2r, x_istore2u, x_if_icmp_ne, x_jsr, u_6_23, x_iload2, x_ifCond_eq, x_ifCond_eqb, u_6_33, f_55_4, f_55_5, x_iadd, x_isub, x_istore3i, x_istore3r, x_istore3u, x_iload3, x_ifCond_ne, x_ifCond_neb, p_55_2_0, p_55_2_1, p_55_2_b, x_ireturn, u_6_62, x_iload1, x_goto, u_6_74, u_6_77, x_istore4i, x_istore4r, x_istore4u, x_iload4, u_6_101, u_6_103, x_xr, x_rm, aco_3, aco_4, aco_5, hu, hn, hn2, hn3, hl, q, aco_up, ↓reduceIte, b01_0, ite_not, if_true, if_false, Int.reduceLT, Int.reduceEq]
      rfl
  · rw [if_neg q]
    have : kd = 1 ∨ kd = 2 ∨ kd = 3 ∨ kd = 4 ∨ kd = 5 := by omega
    rcases this with rfl | rfl | rfl | rfl | rfl
    · rw [show su 1 = 0 from rfl] at hu
      simp (disch := omega) only [v_6_55, u_6_0, x_aload0, f_55_3, x_sipush, x_call2_0, x_call2_1, x_call2_2, x_call2_3, x_call2_4, e_k_s, e_k_i, List.nil_append, List.cons_append, x_istore2i, x_istore2r, x_istore2u, x_if_icmp_ne, x_jsr, u_6_23, x_iload2, x_ifCond_eq, x_ifCond_eqb, u_6_33, f_55_4, f_55_5, x_iadd, x_isub, x_istore3i, x_istore3r, x_istore3u, x_iload3, x_ifCond_ne, x_ifCond_neb, p_55_2_0, p_55_2_1, p_55_2_b, x_ireturn, u_6_62, x_iload1, x_goto, u_6_74, u_6_77, x_istore4i, x_istore4r, x_istore4u, x_iload4, u_6_101, u_6_103, x_xr, x_rm, aco_3, aco_4, aco_5, hu, hn, hn2, hn3, hl, ↓reduceIte, b01_0, ite_not, if_true, if_false, Int.reduceLT, Int.reduceEq]
      rw [if_neg q]
      rfl
    · rw [show su 2 = 0 from rfl] at hu
      simp (disch := omega) only [v_6_55, u_6_0, x_aload0, f_55_3, x_sipush, x_call2_0, x_call2_1, x_call2_2, x_call2_3, x_call2_4, e_k_s, e_k_i, List.nil_append, List.cons_append, x_istore2i, x_istore2r, x_istore2u, x_if_icmp_ne, x_jsr, u_6_23, x_iload2, x_ifCond_eq, x_ifCond_eqb, u_6_33, f_55_4, f_55_5, x_iadd, x_isub, x_istore3i, x_istore3r, x_istore3u, x_iload3, x_ifCond_ne, x_ifCond_neb, p_55_2_0, p_55_2_1, p_55_2_b, x_ireturn, u_6_62, x_iload1, x_goto, u_6_74, u_6_77, x_istore4i, x_istore4r, x_istore4u, x_iload4, u_6_101, u_6_103, x_xr, x_rm, aco_3, aco_4, aco_5, hu, hn, hn2, hn3, hl, ↓reduceIte, b01_0, ite_not, if_true, if_false, Int.reduceLT, Int.reduceEq]
      rw [if_neg q]
      rfl
    · rw [show su 3 = 0 from rfl] at hu
      simp (disch := omega) only [v_6_55, u_6_0, x_aload0, f_55_3, x_sipush, x_call2_0, x_call2_1, x_call2_2, x_call2_3, x_call2_4, e_k_s, e_k_i, List.nil_append, List.cons_append, x_istore2i, x_istore2r, x_istore2u, x_if_icmp_ne, x_jsr, u_6_23, x_iload2, x_ifCond_eq, x_ifCond_eqb, u_6_33, f_55_4, f_55_5, x_iadd, x_isub, x_istore3i, x_istore3r, x_istore3u, x_iload3, x_ifCond_ne, x_ifCond_neb, p_55_2_0, p_55_2_1, p_55_2_b, x_ireturn, u_6_62, x_iload1, x_goto, u_6_74, u_6_77, x_istore4i, x_istore4r, x_istore4u, x_iload4, u_6_101, u_6_103, x_xr, x_rm, aco_3, aco_4, aco_5, hu, hn, hn2, hn3, hl, ↓reduceIte, b01_0, ite_not, if_true, if_false, Int.reduceLT, Int.reduceEq]
      rw [if_neg q]
      rfl
    · rw [show su 4 = 1 from rfl] at hu
      simp (disch := omega) only [v_6_55, u_6_0, x_aload0, f_55_3, x_sipush, x_call2_0, x_call2_1, x_call2_2, x_call2_3, x_call2_4, e_k_s, e_k_i, List.nil_append, List.cons_append, x_istore2i, x_istore2r, x_istore2u, x_if_icmp_ne, x_jsr, u_6_23, x_iload2, x_ifCond_eq, x_ifCond_eqb, u_6_33, f_55_4, f_55_5, x_iadd, x_isub, x_istore3i, x_istore3r, x_istore3u, x_iload3, x_ifCond_ne, x_ifCond_neb, p_55_2_0, p_55_2_1, p_55_2_b, x_ireturn, u_6_62, x_iload1, x_goto, u_6_74, u_6_77, x_istore4i, x_istore4r, x_istore4u, x_iload4, u_6_101, u_6_103, x_xr, x_rm, aco_3, aco_4, aco_5, hu, hn, hn2, hn3, hl, ↓reduceIte, b01_0, ite_not, if_true, if_false, Int.reduceLT, Int.reduceEq]
      rw [if_neg q]
      rfl
    · rw [show su 5 = 1 from rfl] at hu
      simp (disch := omega) only [v_6_55, u_6_0, x_aload0, f_55_3, x_sipush, x_call2_0, x_call2_1, x_call2_2, x_call2_3, x_call2_4, e_k_s, e_k_i, List.nil_append, List.cons_append, x_istore2i, x_istore2r, x_istore2u, x_if_icmp_ne, x_jsr, u_6_23, x_iload2, x_ifCond_eq, x_ifCond_eqb, u_6_33, f_55_4, f_55_5, x_iadd, x_isub, x_istore3i, x_istore3r, x_istore3u, x_iload3, x_ifCond_ne, x_ifCond_neb, p_55_2_0, p_55_2_1, p_55_2_b, x_ireturn, u_6_62, x_iload1, x_goto, u_6_74, u_6_77, x_istore4i, x_istore4r, x_istore4u, x_iload4, u_6_101, u_6_103, x_xr, x_rm, aco_3, aco_4, aco_5, hu, hn, hn2, hn3, hl, ↓reduceIte, b01_0, ite_not, if_true, if_false, Int.reduceLT, Int.reduceEq]
      rw [if_neg q]
      rfl
end
