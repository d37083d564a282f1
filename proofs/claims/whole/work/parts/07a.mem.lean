/-! THE HEAP behind the two constructors; memories over it; steps of the evaluator as rows for simp -/
def h_K : List (Nat × Nat) := [(9, 9), (8, 17), (100, 6), (100, 6), (100, 6), (100, 6), (100, 6), (100, 6), (100, 16), (1, 7), (100, 8), (100, 8), (100, 8), (100, 200), (100, 5), (4, 5), (100, 6), (100, 6), (100, 6), (100, 6), (8, 17), (100, 6), (100, 6), (100, 6), (100, 6), (100, 6), (100, 6), (100, 16), (1, 7), (100, 8), (100, 8), (100, 8), (100, 200), (100, 5), (4, 5), (100, 6), (100, 6), (100, 6), (100, 6), (3, 14), (1, 7), (100, 8), (100, 8), (100, 8), (100, 200), (100, 5), (100, 200), (100, 200), (2, 9), (100, 4), (100, 4), (5, 3), (100, 12), (206, 4), (207, 4), (0, 6), (100, 30), (6, 3), (102, 40), (6, 3), (102, 40), (6, 3), (102, 40), (6, 3), (102, 40), (7, 4), (7, 4), (7, 4), (7, 4), (10, 39), (100, 322), (100, 322), (100, 74), (100, 200), (100, 200), (101, 144), (100, 200), (100, 24), (100, 370), (100, 4), (100, 4), (100, 16), (100, 16), (100, 12), (100, 4), (100, 4), (100, 160), (100, 4), (100, 4), (100, 30)]
def h_R : Nat → Nat → Nat
  | 0, 0 => 2
  | 0, 1 => 21
  | 0, 3 => 40
  | 0, 4 => 49
  | 0, 5 => 52
  | 0, 6 => 54
  | 0, 7 => 55
  | 0, 8 => 56
  | 1, 0 => 3
  | 1, 1 => 4
  | 1, 2 => 5
  | 1, 3 => 6
  | 1, 4 => 7
  | 1, 5 => 8
  | 1, 6 => 9
  | 1, 7 => 10
  | 1, 8 => 16
  | 9, 0 => 11
  | 9, 1 => 12
  | 9, 2 => 13
  | 9, 3 => 14
  | 9, 4 => 15
  | 15, 0 => 17
  | 15, 1 => 18
  | 15, 2 => 19
  | 15, 3 => 20
  | 20, 0 => 22
  | 20, 1 => 23
  | 20, 2 => 24
  | 20, 3 => 25
  | 20, 4 => 26
  | 20, 5 => 27
  | 20, 6 => 28
  | 20, 7 => 29
  | 20, 8 => 35
  | 28, 0 => 30
  | 28, 1 => 31
  | 28, 2 => 32
  | 28, 3 => 33
  | 28, 4 => 34
  | 34, 0 => 36
  | 34, 1 => 37
  | 34, 2 => 38
  | 34, 3 => 39
  | 39, 0 => 41
  | 39, 1 => 47
  | 39, 12 => 48
  | 40, 0 => 42
  | 40, 1 => 43
  | 40, 2 => 44
  | 40, 3 => 45
  | 40, 4 => 46
  | 48, 0 => 2
  | 48, 1 => 50
  | 48, 2 => 51
  | 51, 0 => 2
  | 51, 1 => 53
  | 53, 0 => 58
  | 53, 1 => 60
  | 53, 2 => 62
  | 53, 3 => 64
  | 54, 0 => 66
  | 54, 1 => 67
  | 54, 2 => 68
  | 54, 3 => 69
  | 55, 0 => 57
  | 57, 0 => 59
  | 59, 0 => 61
  | 61, 0 => 63
  | 63, 0 => 65
  | 69, 0 => 71
  | 69, 1 => 72
  | 69, 2 => 73
  | 69, 4 => 74
  | 69, 5 => 75
  | 69, 7 => 76
  | 69, 14 => 77
  | 69, 15 => 78
  | 69, 18 => 79
  | 69, 19 => 80
  | 69, 20 => 81
  | 69, 25 => 82
  | 69, 26 => 83
  | 69, 28 => 84
  | 69, 30 => 85
  | 69, 31 => 86
  | 69, 32 => 87
  | 69, 33 => 88
  | 69, 34 => 89
  | 69, 35 => 90
  | _, _ => 0
/-- an int, a long by its value -/
def iI (z : Int) : Int32 := Int32.ofInt z
def lI (z : Int) : Int64 := Int64.ofInt z
/-- the values of ints -/
abbrev rg (z : Int) : Prop := -2147483648 ≤ z ∧ z < 2147483648
def up (I : Nat → Int → Int) (o : Nat) (k v : Int) : Nat → Int → Int := fun a b => if a = o ∧ b = k then v else I a b
def mm (I J : Nat → Int → Int) : e_M := (h_K, fun o k => iI (I o k), fun o k => lI (J o k), h_R)
def iabs (z : Int) : Int := if 0 ≤ z then z else -z
def iabv (z : Int) : Int := if z = 0 then -1 else if z = 3 then 2 else if z = 5 then 4 else 0
theorem iI_toInt {z : Int} (h : rg z) : (iI z).toInt = z := Int32.toInt_ofInt_of_le (by simpa using h.1) (by simpa using h.2)
theorem iI_of (x : Int32) : iI x.toInt = x := Int32.ofInt_toInt x
theorem iI_rg (x : Int32) : rg x.toInt := ⟨by have := x.le_toInt; simpa using this, by have := x.toInt_lt; simpa using this⟩
theorem iI_inj {a b : Int} (ha : rg a) (hb : rg b) : iI a = iI b ↔ a = b := ⟨fun h => by rw [← iI_toInt ha, ← iI_toInt hb, h], fun h => by rw [h]⟩
theorem iI_add (a b : Int) : iI a + iI b = iI (a + b) := (Int32.ofInt_add a b).symm
theorem iI_sub (a b : Int) : iI a - iI b = iI (a - b) := (Int32.ofInt_sub a b).symm
theorem iI_mul (a b : Int) : iI a * iI b = iI (a * b) := (Int32.ofInt_mul a b).symm
theorem iI_neg (a : Int) : - iI a = iI (- a) := (Int32.ofInt_neg a).symm
theorem iI_lt {a b : Int} (ha : rg a) (hb : rg b) : iI a < iI b ↔ a < b := by
  rw [Int32.lt_iff_toInt_lt, iI_toInt ha, iI_toInt hb]
theorem iI_le {a b : Int} (ha : rg a) (hb : rg b) : iI a ≤ iI b ↔ a ≤ b := by
  rw [Int32.le_iff_toInt_le, iI_toInt ha, iI_toInt hb]
theorem iI_cl {z : Int} (h : 0 ≤ z ∧ z < 2147483648) : (iI z).toNatClampNeg = z.toNat := by
  show (iI z).toInt.toNat = _
  rw [iI_toInt ⟨by omega, h.2⟩]
theorem iI_n0 {y : Int} (h : 0 < y ∧ y < 2147483648) : ¬ iI y = 0 := by
  show ¬ iI y = iI 0
  rw [iI_inj ⟨by omega, h.2⟩ (by decide)]
  omega
theorem iI_div {x y : Int} (hx : rg x) (h1 : 0 < y) (h2 : y < 2147483648) : iI x / iI y = iI (Int.tdiv x y) := by
  have hb : rg (Int.tdiv x y) := by
    have ha : (Int.tdiv x y).natAbs ≤ x.natAbs := by
      rw [Int.natAbs_tdiv]
      exact Nat.div_le_self _ _
    have h3 := hx.1
    have h4 := hx.2
    rcases Int.le_total 0 x with q | q
    · have := Int.tdiv_nonneg q (Int.le_of_lt h1)
      constructor <;> omega
    · have e : Int.tdiv x y = - Int.tdiv (-x) y := by rw [Int.neg_tdiv, Int.neg_neg]
      have := Int.tdiv_nonneg (a := -x) (b := y) (by omega) (Int.le_of_lt h1)
      constructor <;> omega
  apply Int32.toInt_inj.mp
  rw [Int32.toInt_div, iI_toInt hx, iI_toInt ⟨by omega, h2⟩, iI_toInt hb]
  exact Int.bmod_eq_of_le (by have := hb.1; simpa using this) (by have := hb.2; simpa using this)
theorem iI_rem {x y : Int} (hx : rg x) (h1 : 0 < y) (h2 : y < 2147483648) : iI x % iI y = iI (Int.tmod x y) := by
  have hb : rg (Int.tmod x y) := by
    have h3 : (Int.tmod x y).natAbs < y.natAbs := by
      rw [Int.natAbs_tmod]
      exact Nat.mod_lt _ (by omega)
    constructor <;> omega
  apply Int32.toInt_inj.mp
  rw [Int32.toInt_mod, iI_toInt hx, iI_toInt ⟨by omega, h2⟩, iI_toInt hb]
theorem iI_max {x y : Int} (hx : rg x) (hy : rg y) : (if iI x < iI y then iI y else iI x) = iI (max x y) := by
  by_cases h : x < y
  · rw [if_pos ((iI_lt hx hy).mpr h), Int.max_eq_right (by omega)]
  · rw [if_neg (fun q => h ((iI_lt hx hy).mp q)), Int.max_eq_left (by omega)]
theorem iI_min {x y : Int} (hx : rg x) (hy : rg y) : (if iI y < iI x then iI y else iI x) = iI (min x y) := by
  by_cases h : y < x
  · rw [if_pos ((iI_lt hy hx).mpr h), Int.min_eq_right (by omega)]
  · rw [if_neg (fun q => h ((iI_lt hy hx).mp q)), Int.min_eq_left (by omega)]
theorem iI_abs {x : Int} (hx : rg x) : (if (0 : Int32) ≤ iI x then iI x else 0 - iI x) = iI (iabs x) := by
  unfold iabs
  have e : ((0 : Int32) ≤ iI x) ↔ 0 ≤ x := iI_le (a := 0) (by decide) hx
  by_cases h : 0 ≤ x
  · rw [if_pos (e.mpr h), if_pos h]
  · rw [if_neg (fun q => h (e.mp q)), if_neg h]
    show iI 0 - iI x = _
    rw [iI_sub, Int.zero_sub]
theorem up_self (I : Nat → Int → Int) (o : Nat) (k v : Int) : up I o k v o k = v := if_pos ⟨rfl, rfl⟩
theorem up_o {I : Nat → Int → Int} {o a : Nat} {k v b : Int} (h : a ≠ o) : up I o k v a b = I a b := if_neg fun q => h q.1
theorem up_k {I : Nat → Int → Int} {o a : Nat} {k v b : Int} (h : b ≠ k) : up I o k v a b = I a b := if_neg fun q => h q.2
theorem up_row (I : Nat → Int → Int) (o : Nat) (k v b : Int) : up I o k v o b = if b = k then v else I o b := by
  unfold up
  by_cases h : b = k
  · rw [if_pos ⟨rfl, h⟩, if_pos h]
  · rw [if_neg (fun q => h q.2), if_neg h]
theorem mm_i {I J : Nat → Int → Int} {o k : Nat} {v : Int} : (h_K, e_up (fun (a b : Nat) => iI (I a b)) o k (iI v), (fun (a b : Nat) => lI (J a b)), h_R) = mm (up I o k v) J := by
  unfold mm e_up up
  congr 2
  funext a b
  by_cases h : a = o ∧ b = k
  · rw [if_pos h, if_pos ⟨h.1, by rw [h.2]⟩]
  · rw [if_neg h, if_neg (fun q => h ⟨q.1, by omega⟩)]
theorem mm_j {I J : Nat → Int → Int} {o k : Nat} {v : Int} : (h_K, (fun (a b : Nat) => iI (I a b)), e_up (fun (a b : Nat) => lI (J a b)) o k (lI v), h_R) = mm I (up J o k v) := by
  unfold mm e_up up
  congr 3
  funext a b
  by_cases h : a = o ∧ b = k
  · rw [if_pos h, if_pos ⟨h.1, by rw [h.2]⟩]
  · rw [if_neg h, if_neg (fun q => h ⟨q.1, by omega⟩)]
noncomputable def s_S (X : e_X) (d c : Nat) (as : List Value) (m : e_M) : e_R := e_S g_P g_mx e_rq X d c as m
noncomputable def s_g (X : e_X) (d c l : Nat) (ls st : List Value) (m : e_M) : e_R := e_go g_P X (s_S X d) c l ls st m
/-- a jump -/
noncomputable def s_j (X : e_X) (d c : Nat) (t : Int) (ls st : List Value) (m : e_M) : e_R := s_g X d c t.toNat ls st m
noncomputable def s_x (X : e_X) (d c : Nat) (is : List Instr) (ls st : List Value) (m : e_M) : e_R := e_x X (s_S X d) (s_g X d c) is ls st m
theorem s_g_eq {X : e_X} {d c l : Nat} {ls st : List Value} {m : e_M} : s_g X d c l ls st m = s_x X d c (g_P c l) ls st m := e_go_eq _ _ _ _ _ _
/-- behind a call -/
def e_k (r : e_R) (f : List Value → e_M → e_R) : e_R := match r with
  | some (v, m) => f v m
  | none => none
theorem e_k_s {v : List Value} {m : e_M} {f : List Value → e_M → e_R} : e_k (some (v, m)) f = f v m := rfl
theorem e_k_i {p : Prop} [Decidable p] {a b : e_R} {f : List Value → e_M → e_R} : e_k (if p then a else b) f = if p then e_k a f else e_k b f := by
  by_cases h : p
  · rw [if_pos h, if_pos h]
  · rw [if_neg h, if_neg h]
/-- there is an answer, and it is so -/
def wp (Q : List Value → e_M → Prop) (r : e_R) : Prop := ∃ v m, r = some (v, m) ∧ Q v m
theorem wp_s {Q : List Value → e_M → Prop} {v : List Value} {m : e_M} : wp Q (some (v, m)) ↔ Q v m := ⟨fun ⟨_, _, h, q⟩ => by cases h; exact q, fun q => ⟨v, m, rfl, q⟩⟩
theorem wp_k {Q : List Value → e_M → Prop} {r : e_R} {f : List Value → e_M → e_R} (h : wp (fun v m => wp Q (f v m)) r) : wp Q (e_k r f) := by
  obtain ⟨v, m, rfl, h⟩ := h
  exact h
theorem wp_m {Q Q' : List Value → e_M → Prop} {r : e_R} (h : wp Q r) (k : ∀ v m, Q v m → Q' v m) : wp Q' r := by
  obtain ⟨v, m, e, h⟩ := h
  exact ⟨v, m, e, k v m h⟩
theorem e_sw_n {X : e_X} {d c : Nat} {ls st : List Value} {m : e_M} {e : Int} {x : Int32} : e_sw (fun t => s_g X d c t ls st m) e [] x = s_j X d c e ls st m := rfl
theorem e_sw_c {X : e_X} {d c : Nat} {ls st : List Value} {m : e_M} {e a t : Int} {r : List (Int × Int)} {x : Int} (h : rg x) : e_sw (fun t => s_g X d c t ls st m) e ((a, t) :: r) (iI x) = if x = a then s_j X d c t ls st m else e_sw (fun t => s_g X d c t ls st m) e r (iI x) := by
  conv => lhs; unfold e_sw
  rw [iI_toInt h]
  rfl
section
variable {X : e_X} {d c : Nat} {is : List Instr} {ls l st r : List Value} {m : e_M}
theorem x_cd_eq {x y : Int} {t : Int} (h : rg x ∧ rg y) : (if e_c .eq (iI x) (iI y) = true then s_j X d c t ls st m else s_x X d c is ls st m) = if x = y then s_j X d c t ls st m else s_x X d c is ls st m := by
  simp only [e_c, decide_eq_true_eq, iI_inj h.1 h.2]
theorem x_cd_ne {x y : Int} {t : Int} (h : rg x ∧ rg y) : (if e_c .ne (iI x) (iI y) = true then s_j X d c t ls st m else s_x X d c is ls st m) = if x = y then s_x X d c is ls st m else s_j X d c t ls st m := by
  simp only [e_c, decide_eq_true_eq, iI_inj h.1 h.2]
  by_cases q : x = y
  · rw [if_pos q, if_neg (not_not_intro q)]
  · rw [if_neg q, if_pos q]
theorem x_cd_lt {x y : Int} {t : Int} (h : rg x ∧ rg y) : (if e_c .lt (iI x) (iI y) = true then s_j X d c t ls st m else s_x X d c is ls st m) = if x < y then s_j X d c t ls st m else s_x X d c is ls st m := by
  simp only [e_c, decide_eq_true_eq, iI_lt h.1 h.2]
theorem x_cd_ge {x y : Int} {t : Int} (h : rg x ∧ rg y) : (if e_c .ge (iI x) (iI y) = true then s_j X d c t ls st m else s_x X d c is ls st m) = if x < y then s_x X d c is ls st m else s_j X d c t ls st m := by
  simp only [e_c, decide_eq_true_eq, iI_le h.2 h.1]
  by_cases q : x < y
  · rw [if_pos q, if_neg (by omega)]
  · rw [if_neg q, if_pos (by omega)]
theorem x_cd_gt {x y : Int} {t : Int} (h : rg x ∧ rg y) : (if e_c .gt (iI x) (iI y) = true then s_j X d c t ls st m else s_x X d c is ls st m) = if y < x then s_j X d c t ls st m else s_x X d c is ls st m := by
  simp only [e_c, decide_eq_true_eq, iI_lt h.2 h.1]
theorem x_cd_le {x y : Int} {t : Int} (h : rg x ∧ rg y) : (if e_c .le (iI x) (iI y) = true then s_j X d c t ls st m else s_x X d c is ls st m) = if y < x then s_x X d c is ls st m else s_j X d c t ls st m := by
  simp only [e_c, decide_eq_true_eq, iI_le h.1 h.2]
  by_cases q : y < x
  · rw [if_pos q, if_neg (by omega)]
  · rw [if_neg q, if_pos (by omega)]
theorem e_in_I {z : Int} {n : Nat} (h : 0 ≤ z ∧ z < n) (hn : n ≤ 2147483648) : e_in (iI z) n = true := by
  have e := iI_cl (z := z) (by omega)
  simp only [e_in, e, Bool.not_eq_true', Bool.or_eq_false_iff, decide_eq_false_iff_not]
  refine ⟨?_, by omega⟩
  show ¬ iI z < iI 0
  rw [iI_lt ⟨by omega, by omega⟩ (by decide)]
  omega
variable {I J : Nat → Int → Int}
theorem x_pf {o n : Nat} {k v : Int} (h : e_ob h_K o n = true) (hk : ((n % 64 : Nat) : Int) = k) (hb : (!(e_bool n) || decide (iI v = 0) || decide (iI v = 1)) = true) : s_x X d c (.putfield n :: is) ls (.int (iI v) :: .ref o :: st) (mm I J) = s_x X d c is ls st (mm (up I o k v) J) := by
  subst hk
  rw [← mm_i]
  show (match (if (e_ob h_K o n && (!(e_bool n) || decide (iI v = 0) || decide (iI v = 1))) = true then _ else none : e_T) with | some (a, b, q) => _ | none => _) = _
  rw [h, hb]
  rfl
theorem x_ia {o n : Nat} {z : Int} (hn : e_ar h_K o e_kI = n) (h : 0 ≤ z ∧ z < n) (hn2 : n ≤ 2147483648 := by decide) : s_x X d c (.iaload :: is) ls (.int (iI z) :: .ref o :: st) (mm I J) = s_x X d c is ls (.int (iI (I o z)) :: st) (mm I J) := by
  show (match (if e_in (iI z) (e_ar h_K o e_kI) = true then some (ls, .int (iI (I o (iI z).toNatClampNeg)) :: st, mm I J) else none : e_T) with | some (a, b, q) => _ | none => _) = _
  rw [hn, e_in_I h hn2, iI_cl (by omega), Int.toNat_of_nonneg h.1]
  rfl
theorem x_ca {o n : Nat} {z : Int} (hn : e_ar h_K o e_kC = n) (h : 0 ≤ z ∧ z < n) (hn2 : n ≤ 2147483648 := by decide) : s_x X d c (.caload :: is) ls (.int (iI z) :: .ref o :: st) (mm I J) = s_x X d c is ls (.int (iI (I o z)) :: st) (mm I J) := by
  show (match (if e_in (iI z) (e_ar h_K o e_kC) = true then some (ls, .int (iI (I o (iI z).toNatClampNeg)) :: st, mm I J) else none : e_T) with | some (a, b, q) => _ | none => _) = _
  rw [hn, e_in_I h hn2, iI_cl (by omega), Int.toNat_of_nonneg h.1]
  rfl
theorem x_la {o n : Nat} {z : Int} (hn : e_ar h_K o e_kJ = n) (h : 0 ≤ z ∧ z < n) (hn2 : n ≤ 2147483648 := by decide) : s_x X d c (.laload :: is) ls (.int (iI z) :: .ref o :: st) (mm I J) = s_x X d c is ls (.long (lI (J o z)) :: st) (mm I J) := by
  show (match (if e_in (iI z) (e_ar h_K o e_kJ) = true then some (ls, .long (lI (J o (iI z).toNatClampNeg)) :: st, mm I J) else none : e_T) with | some (a, b, q) => _ | none => _) = _
  rw [hn, e_in_I h hn2, iI_cl (by omega), Int.toNat_of_nonneg h.1]
  rfl
theorem x_is {o n : Nat} {z v : Int} (hn : e_ar h_K o e_kI = n) (h : 0 ≤ z ∧ z < n) (hn2 : n ≤ 2147483648 := by decide) : s_x X d c (.iastore :: is) ls (.int (iI v) :: .int (iI z) :: .ref o :: st) (mm I J) = s_x X d c is ls st (mm (up I o z v) J) := by
  have e : (((iI z).toNatClampNeg : Nat) : Int) = z := by rw [iI_cl (by omega), Int.toNat_of_nonneg h.1]
  conv => rhs; rw [← e, ← mm_i]
  show (match (if e_in (iI z) (e_ar h_K o e_kI) = true then _ else none : e_T) with | some (a, b, q) => _ | none => _) = _
  rw [hn, e_in_I h hn2]
  rfl
theorem x_ls {o n : Nat} {z v : Int} (hn : e_ar h_K o e_kJ = n) (h : 0 ≤ z ∧ z < n) (hn2 : n ≤ 2147483648 := by decide) : s_x X d c (.lastore :: is) ls (.long (lI v) :: .int (iI z) :: .ref o :: st) (mm I J) = s_x X d c is ls st (mm I (up J o z v)) := by
  have e : (((iI z).toNatClampNeg : Nat) : Int) = z := by rw [iI_cl (by omega), Int.toNat_of_nonneg h.1]
  conv => rhs; rw [← e, ← mm_j]
  show (match (if e_in (iI z) (e_ar h_K o e_kJ) = true then _ else none : e_T) with | some (a, b, q) => _ | none => _) = _
  rw [hn, e_in_I h hn2]
  rfl
/-- System.arraycopy: from the row o to the row a -/
def cp (I : Nat → Int → Int) (o a : Nat) (n : Int) : Nat → Int → Int := fun x b => if x = a ∧ 0 ≤ b ∧ b < n then I o b else I x b
theorem x_copy {o a z0 z1 : Nat} {n : Int} (h0 : h_K[o]? = some (e_kI, z0)) (h1 : h_K[a]? = some (e_kI, z1)) (h : 0 ≤ n ∧ n ≤ z0 ∧ n ≤ z1 ∧ n < 2147483648) (hs : st.length ≤ 3) : s_x X d c (.dmul :: is) ls (.int (iI n) :: .int (iI 0) :: .ref a :: .int (iI 0) :: .ref o :: st) (mm I J) = s_x X d c is ls st (mm (cp I o a n) J) := by
  have e := iI_cl (z := n) ⟨h.1, h.2.2.2⟩
  have ez : (iI 0).toNatClampNeg = 0 := rfl
  have en : ¬ iI n < 0 := by
    show ¬ iI n < iI 0
    rw [iI_lt ⟨by omega, by omega⟩ (by decide)]
    omega
  have key : e_st X .dmul ls (.int (iI n) :: .int (iI 0) :: .ref a :: .int (iI 0) :: .ref o :: st) (mm I J) = some (ls, st, mm (cp I o a n) J) := by
    have b1 : (iI 0).toNatClampNeg + (iI n).toNatClampNeg ≤ z0 := by rw [ez, e]; omega
    have b2 : (iI 0).toNatClampNeg + (iI n).toNatClampNeg ≤ z1 := by rw [ez, e]; omega
    have k0 : (mm I J).1[o]? = some (e_kI, z0) := h0
    have k1 : (mm I J).1[a]? = some (e_kI, z1) := h1
    have z0' : ¬ iI 0 < 0 := by decide
    simp only [e_st, k0, k1, en, z0', b1, b2, hs, decide_true, decide_false, Bool.not_false, Bool.and_self, if_true]
    simp only [mm, cp]
    congr 5
    funext x b
    by_cases hx : x = a
    · subst hx
      rw [if_pos rfl]
      by_cases hb : b < n.toNat
      · rw [if_pos (by rw [ez, e]; omega), if_pos ⟨rfl, by omega, by omega⟩, ez]
        simp
      · rw [if_neg (by rw [ez, e]; omega), if_neg (by omega)]
    · rw [if_neg hx, if_neg (fun q => hx q.1)]
  show (match e_st X .dmul ls (.int (iI n) :: .int (iI 0) :: .ref a :: .int (iI 0) :: .ref o :: st) (mm I J) with | some (a, b, q) => s_x X d c is a b q | none => none) = _
  rw [key]
theorem x_sipush {v : Int} : s_x X d c (.sipush v :: is) (ls) (st) m = s_x X d c is (ls) (.int (iI v) :: st) m := rfl
theorem x_lconst {v : Int} : s_x X d c (.goto_w v :: is) (ls) (st) m = s_x X d c is (ls) (.long (lI v) :: st) m := rfl
theorem x_iload0 {x : Int32} : s_x X d c (.iload 0 :: is) (.int x :: l) (st) m = s_x X d c is (.int x :: l) (.int x :: st) m := rfl
theorem x_aload0 {x : Nat} : s_x X d c (.aload 0 :: is) (.ref x :: l) (st) m = s_x X d c is (.ref x :: l) (.ref x :: st) m := rfl
theorem x_lload0 {x : Int64} : s_x X d c (.lload 0 :: is) (.long x :: l) (st) m = s_x X d c is (.long x :: l) (.long x :: st) m := rfl
theorem x_istore0 {x : Int32} {w : Value} : s_x X d c (.istore 0 :: is) (w :: l) (.int x :: st) m = s_x X d c is (.int x :: l) (st) m := rfl
theorem x_astore0 {x : Nat} {w : Value} : s_x X d c (.astore 0 :: is) (w :: l) (.ref x :: st) m = s_x X d c is (.ref x :: l) (st) m := rfl
theorem x_lstore0 {x : Int64} {w w2 : Value} : s_x X d c (.lstore 0 :: is) (w :: w2 :: l) (.long x :: st) m = s_x X d c is (.long x :: .retAddr 0 :: l) (st) m := rfl
theorem x_iinc0 {x : Int} {v : Int} : s_x X d c (.iinc 0 v :: is) (.int (iI x) :: l) (st) m = s_x X d c is (.int (iI (x + v)) :: l) (st) m := (congrArg (fun z => s_x X d c is (.int z :: l) st m) (iI_add x v))
theorem x_iload1 {b0 : Value} {x : Int32} : s_x X d c (.iload 1 :: is) (b0 :: .int x :: l) (st) m = s_x X d c is (b0 :: .int x :: l) (.int x :: st) m := rfl
theorem x_aload1 {b0 : Value} {x : Nat} : s_x X d c (.aload 1 :: is) (b0 :: .ref x :: l) (st) m = s_x X d c is (b0 :: .ref x :: l) (.ref x :: st) m := rfl
theorem x_lload1 {b0 : Value} {x : Int64} : s_x X d c (.lload 1 :: is) (b0 :: .long x :: l) (st) m = s_x X d c is (b0 :: .long x :: l) (.long x :: st) m := rfl
theorem x_istore1i {p : Int32} {x : Int32} {w : Value} : s_x X d c (.istore 1 :: is) (.int p :: w :: l) (.int x :: st) m = s_x X d c is (.int p :: .int x :: l) (st) m := rfl
theorem x_astore1i {p : Int32} {x : Nat} {w : Value} : s_x X d c (.astore 1 :: is) (.int p :: w :: l) (.ref x :: st) m = s_x X d c is (.int p :: .ref x :: l) (st) m := rfl
theorem x_lstore1i {p : Int32} {x : Int64} {w w2 : Value} : s_x X d c (.lstore 1 :: is) (.int p :: w :: w2 :: l) (.long x :: st) m = s_x X d c is (.int p :: .long x :: .retAddr 0 :: l) (st) m := rfl
theorem x_iinc1i {p : Int32} {x : Int} {v : Int} : s_x X d c (.iinc 1 v :: is) (.int p :: .int (iI x) :: l) (st) m = s_x X d c is (.int p :: .int (iI (x + v)) :: l) (st) m := (congrArg (fun z => s_x X d c is (.int p :: .int z :: l) st m) (iI_add x v))
theorem x_istore1r {p : Nat} {x : Int32} {w : Value} : s_x X d c (.istore 1 :: is) (.ref p :: w :: l) (.int x :: st) m = s_x X d c is (.ref p :: .int x :: l) (st) m := rfl
theorem x_astore1r {p : Nat} {x : Nat} {w : Value} : s_x X d c (.astore 1 :: is) (.ref p :: w :: l) (.ref x :: st) m = s_x X d c is (.ref p :: .ref x :: l) (st) m := rfl
theorem x_lstore1r {p : Nat} {x : Int64} {w w2 : Value} : s_x X d c (.lstore 1 :: is) (.ref p :: w :: w2 :: l) (.long x :: st) m = s_x X d c is (.ref p :: .long x :: .retAddr 0 :: l) (st) m := rfl
theorem x_iinc1r {p : Nat} {x : Int} {v : Int} : s_x X d c (.iinc 1 v :: is) (.ref p :: .int (iI x) :: l) (st) m = s_x X d c is (.ref p :: .int (iI (x + v)) :: l) (st) m := (congrArg (fun z => s_x X d c is (.ref p :: .int z :: l) st m) (iI_add x v))
theorem x_istore1u {p : Nat} {x : Int32} {w : Value} : s_x X d c (.istore 1 :: is) (.retAddr p :: w :: l) (.int x :: st) m = s_x X d c is (.retAddr p :: .int x :: l) (st) m := rfl
theorem x_astore1u {p : Nat} {x : Nat} {w : Value} : s_x X d c (.astore 1 :: is) (.retAddr p :: w :: l) (.ref x :: st) m = s_x X d c is (.retAddr p :: .ref x :: l) (st) m := rfl
theorem x_lstore1u {p : Nat} {x : Int64} {w w2 : Value} : s_x X d c (.lstore 1 :: is) (.retAddr p :: w :: w2 :: l) (.long x :: st) m = s_x X d c is (.retAddr p :: .long x :: .retAddr 0 :: l) (st) m := rfl
theorem x_iinc1u {p : Nat} {x : Int} {v : Int} : s_x X d c (.iinc 1 v :: is) (.retAddr p :: .int (iI x) :: l) (st) m = s_x X d c is (.retAddr p :: .int (iI (x + v)) :: l) (st) m := (congrArg (fun z => s_x X d c is (.retAddr p :: .int z :: l) st m) (iI_add x v))
theorem x_iload2 {b0 b1 : Value} {x : Int32} : s_x X d c (.iload 2 :: is) (b0 :: b1 :: .int x :: l) (st) m = s_x X d c is (b0 :: b1 :: .int x :: l) (.int x :: st) m := rfl
theorem x_aload2 {b0 b1 : Value} {x : Nat} : s_x X d c (.aload 2 :: is) (b0 :: b1 :: .ref x :: l) (st) m = s_x X d c is (b0 :: b1 :: .ref x :: l) (.ref x :: st) m := rfl
theorem x_lload2 {b0 b1 : Value} {x : Int64} : s_x X d c (.lload 2 :: is) (b0 :: b1 :: .long x :: l) (st) m = s_x X d c is (b0 :: b1 :: .long x :: l) (.long x :: st) m := rfl
theorem x_istore2i {b0 : Value} {p : Int32} {x : Int32} {w : Value} : s_x X d c (.istore 2 :: is) (b0 :: .int p :: w :: l) (.int x :: st) m = s_x X d c is (b0 :: .int p :: .int x :: l) (st) m := rfl
theorem x_astore2i {b0 : Value} {p : Int32} {x : Nat} {w : Value} : s_x X d c (.astore 2 :: is) (b0 :: .int p :: w :: l) (.ref x :: st) m = s_x X d c is (b0 :: .int p :: .ref x :: l) (st) m := rfl
theorem x_lstore2i {b0 : Value} {p : Int32} {x : Int64} {w w2 : Value} : s_x X d c (.lstore 2 :: is) (b0 :: .int p :: w :: w2 :: l) (.long x :: st) m = s_x X d c is (b0 :: .int p :: .long x :: .retAddr 0 :: l) (st) m := rfl
theorem x_iinc2i {b0 : Value} {p : Int32} {x : Int} {v : Int} : s_x X d c (.iinc 2 v :: is) (b0 :: .int p :: .int (iI x) :: l) (st) m = s_x X d c is (b0 :: .int p :: .int (iI (x + v)) :: l) (st) m := (congrArg (fun z => s_x X d c is (b0 :: .int p :: .int z :: l) st m) (iI_add x v))
theorem x_istore2r {b0 : Value} {p : Nat} {x : Int32} {w : Value} : s_x X d c (.istore 2 :: is) (b0 :: .ref p :: w :: l) (.int x :: st) m = s_x X d c is (b0 :: .ref p :: .int x :: l) (st) m := rfl
theorem x_astore2r {b0 : Value} {p : Nat} {x : Nat} {w : Value} : s_x X d c (.astore 2 :: is) (b0 :: .ref p :: w :: l) (.ref x :: st) m = s_x X d c is (b0 :: .ref p :: .ref x :: l) (st) m := rfl
theorem x_lstore2r {b0 : Value} {p : Nat} {x : Int64} {w w2 : Value} : s_x X d c (.lstore 2 :: is) (b0 :: .ref p :: w :: w2 :: l) (.long x :: st) m = s_x X d c is (b0 :: .ref p :: .long x :: .retAddr 0 :: l) (st) m := rfl
theorem x_iinc2r {b0 : Value} {p : Nat} {x : Int} {v : Int} : s_x X d c (.iinc 2 v :: is) (b0 :: .ref p :: .int (iI x) :: l) (st) m = s_x X d c is (b0 :: .ref p :: .int (iI (x + v)) :: l) (st) m := (congrArg (fun z => s_x X d c is (b0 :: .ref p :: .int z :: l) st m) (iI_add x v))
theorem x_istore2u {b0 : Value} {p : Nat} {x : Int32} {w : Value} : s_x X d c (.istore 2 :: is) (b0 :: .retAddr p :: w :: l) (.int x :: st) m = s_x X d c is (b0 :: .retAddr p :: .int x :: l) (st) m := rfl
theorem x_astore2u {b0 : Value} {p : Nat} {x : Nat} {w : Value} : s_x X d c (.astore 2 :: is) (b0 :: .retAddr p :: w :: l) (.ref x :: st) m = s_x X d c is (b0 :: .retAddr p :: .ref x :: l) (st) m := rfl
theorem x_lstore2u {b0 : Value} {p : Nat} {x : Int64} {w w2 : Value} : s_x X d c (.lstore 2 :: is) (b0 :: .retAddr p :: w :: w2 :: l) (.long x :: st) m = s_x X d c is (b0 :: .retAddr p :: .long x :: .retAddr 0 :: l) (st) m := rfl
theorem x_iinc2u {b0 : Value} {p : Nat} {x : Int} {v : Int} : s_x X d c (.iinc 2 v :: is) (b0 :: .retAddr p :: .int (iI x) :: l) (st) m = s_x X d c is (b0 :: .retAddr p :: .int (iI (x + v)) :: l) (st) m := (congrArg (fun z => s_x X d c is (b0 :: .retAddr p :: .int z :: l) st m) (iI_add x v))
theorem x_iload3 {b0 b1 b2 : Value} {x : Int32} : s_x X d c (.iload 3 :: is) (b0 :: b1 :: b2 :: .int x :: l) (st) m = s_x X d c is (b0 :: b1 :: b2 :: .int x :: l) (.int x :: st) m := rfl
theorem x_aload3 {b0 b1 b2 : Value} {x : Nat} : s_x X d c (.aload 3 :: is) (b0 :: b1 :: b2 :: .ref x :: l) (st) m = s_x X d c is (b0 :: b1 :: b2 :: .ref x :: l) (.ref x :: st) m := rfl
theorem x_lload3 {b0 b1 b2 : Value} {x : Int64} : s_x X d c (.lload 3 :: is) (b0 :: b1 :: b2 :: .long x :: l) (st) m = s_x X d c is (b0 :: b1 :: b2 :: .long x :: l) (.long x :: st) m := rfl
theorem x_istore3i {b0 b1 : Value} {p : Int32} {x : Int32} {w : Value} : s_x X d c (.istore 3 :: is) (b0 :: b1 :: .int p :: w :: l) (.int x :: st) m = s_x X d c is (b0 :: b1 :: .int p :: .int x :: l) (st) m := rfl
theorem x_astore3i {b0 b1 : Value} {p : Int32} {x : Nat} {w : Value} : s_x X d c (.astore 3 :: is) (b0 :: b1 :: .int p :: w :: l) (.ref x :: st) m = s_x X d c is (b0 :: b1 :: .int p :: .ref x :: l) (st) m := rfl
theorem x_lstore3i {b0 b1 : Value} {p : Int32} {x : Int64} {w w2 : Value} : s_x X d c (.lstore 3 :: is) (b0 :: b1 :: .int p :: w :: w2 :: l) (.long x :: st) m = s_x X d c is (b0 :: b1 :: .int p :: .long x :: .retAddr 0 :: l) (st) m := rfl
theorem x_iinc3i {b0 b1 : Value} {p : Int32} {x : Int} {v : Int} : s_x X d c (.iinc 3 v :: is) (b0 :: b1 :: .int p :: .int (iI x) :: l) (st) m = s_x X d c is (b0 :: b1 :: .int p :: .int (iI (x + v)) :: l) (st) m := (congrArg (fun z => s_x X d c is (b0 :: b1 :: .int p :: .int z :: l) st m) (iI_add x v))
theorem x_istore3r {b0 b1 : Value} {p : Nat} {x : Int32} {w : Value} : s_x X d c (.istore 3 :: is) (b0 :: b1 :: .ref p :: w :: l) (.int x :: st) m = s_x X d c is (b0 :: b1 :: .ref p :: .int x :: l) (st) m := rfl
theorem x_astore3r {b0 b1 : Value} {p : Nat} {x : Nat} {w : Value} : s_x X d c (.astore 3 :: is) (b0 :: b1 :: .ref p :: w :: l) (.ref x :: st) m = s_x X d c is (b0 :: b1 :: .ref p :: .ref x :: l) (st) m := rfl
theorem x_lstore3r {b0 b1 : Value} {p : Nat} {x : Int64} {w w2 : Value} : s_x X d c (.lstore 3 :: is) (b0 :: b1 :: .ref p :: w :: w2 :: l) (.long x :: st) m = s_x X d c is (b0 :: b1 :: .ref p :: .long x :: .retAddr 0 :: l) (st) m := rfl
theorem x_iinc3r {b0 b1 : Value} {p : Nat} {x : Int} {v : Int} : s_x X d c (.iinc 3 v :: is) (b0 :: b1 :: .ref p :: .int (iI x) :: l) (st) m = s_x X d c is (b0 :: b1 :: .ref p :: .int (iI (x + v)) :: l) (st) m := (congrArg (fun z => s_x X d c is (b0 :: b1 :: .ref p :: .int z :: l) st m) (iI_add x v))
theorem x_istore3u {b0 b1 : Value} {p : Nat} {x : Int32} {w : Value} : s_x X d c (.istore 3 :: is) (b0 :: b1 :: .retAddr p :: w :: l) (.int x :: st) m = s_x X d c is (b0 :: b1 :: .retAddr p :: .int x :: l) (st) m := rfl
theorem x_astore3u {b0 b1 : Value} {p : Nat} {x : Nat} {w : Value} : s_x X d c (.astore 3 :: is) (b0 :: b1 :: .retAddr p :: w :: l) (.ref x :: st) m = s_x X d c is (b0 :: b1 :: .retAddr p :: .ref x :: l) (st) m := rfl
theorem x_lstore3u {b0 b1 : Value} {p : Nat} {x : Int64} {w w2 : Value} : s_x X d c (.lstore 3 :: is) (b0 :: b1 :: .retAddr p :: w :: w2 :: l) (.long x :: st) m = s_x X d c is (b0 :: b1 :: .retAddr p :: .long x :: .retAddr 0 :: l) (st) m := rfl
theorem x_iinc3u {b0 b1 : Value} {p : Nat} {x : Int} {v : Int} : s_x X d c (.iinc 3 v :: is) (b0 :: b1 :: .retAddr p :: .int (iI x) :: l) (st) m = s_x X d c is (b0 :: b1 :: .retAddr p :: .int (iI (x + v)) :: l) (st) m := (congrArg (fun z => s_x X d c is (b0 :: b1 :: .retAddr p :: .int z :: l) st m) (iI_add x v))
theorem x_iload4 {b0 b1 b2 b3 : Value} {x : Int32} : s_x X d c (.iload 4 :: is) (b0 :: b1 :: b2 :: b3 :: .int x :: l) (st) m = s_x X d c is (b0 :: b1 :: b2 :: b3 :: .int x :: l) (.int x :: st) m := rfl
theorem x_aload4 {b0 b1 b2 b3 : Value} {x : Nat} : s_x X d c (.aload 4 :: is) (b0 :: b1 :: b2 :: b3 :: .ref x :: l) (st) m = s_x X d c is (b0 :: b1 :: b2 :: b3 :: .ref x :: l) (.ref x :: st) m := rfl
theorem x_lload4 {b0 b1 b2 b3 : Value} {x : Int64} : s_x X d c (.lload 4 :: is) (b0 :: b1 :: b2 :: b3 :: .long x :: l) (st) m = s_x X d c is (b0 :: b1 :: b2 :: b3 :: .long x :: l) (.long x :: st) m := rfl
theorem x_istore4i {b0 b1 b2 : Value} {p : Int32} {x : Int32} {w : Value} : s_x X d c (.istore 4 :: is) (b0 :: b1 :: b2 :: .int p :: w :: l) (.int x :: st) m = s_x X d c is (b0 :: b1 :: b2 :: .int p :: .int x :: l) (st) m := rfl
theorem x_astore4i {b0 b1 b2 : Value} {p : Int32} {x : Nat} {w : Value} : s_x X d c (.astore 4 :: is) (b0 :: b1 :: b2 :: .int p :: w :: l) (.ref x :: st) m = s_x X d c is (b0 :: b1 :: b2 :: .int p :: .ref x :: l) (st) m := rfl
theorem x_lstore4i {b0 b1 b2 : Value} {p : Int32} {x : Int64} {w w2 : Value} : s_x X d c (.lstore 4 :: is) (b0 :: b1 :: b2 :: .int p :: w :: w2 :: l) (.long x :: st) m = s_x X d c is (b0 :: b1 :: b2 :: .int p :: .long x :: .retAddr 0 :: l) (st) m := rfl
theorem x_iinc4i {b0 b1 b2 : Value} {p : Int32} {x : Int} {v : Int} : s_x X d c (.iinc 4 v :: is) (b0 :: b1 :: b2 :: .int p :: .int (iI x) :: l) (st) m = s_x X d c is (b0 :: b1 :: b2 :: .int p :: .int (iI (x + v)) :: l) (st) m := (congrArg (fun z => s_x X d c is (b0 :: b1 :: b2 :: .int p :: .int z :: l) st m) (iI_add x v))
theorem x_istore4r {b0 b1 b2 : Value} {p : Nat} {x : Int32} {w : Value} : s_x X d c (.istore 4 :: is) (b0 :: b1 :: b2 :: .ref p :: w :: l) (.int x :: st) m = s_x X d c is (b0 :: b1 :: b2 :: .ref p :: .int x :: l) (st) m := rfl
theorem x_astore4r {b0 b1 b2 : Value} {p : Nat} {x : Nat} {w : Value} : s_x X d c (.astore 4 :: is) (b0 :: b1 :: b2 :: .ref p :: w :: l) (.ref x :: st) m = s_x X d c is (b0 :: b1 :: b2 :: .ref p :: .ref x :: l) (st) m := rfl
theorem x_lstore4r {b0 b1 b2 : Value} {p : Nat} {x : Int64} {w w2 : Value} : s_x X d c (.lstore 4 :: is) (b0 :: b1 :: b2 :: .ref p :: w :: w2 :: l) (.long x :: st) m = s_x X d c is (b0 :: b1 :: b2 :: .ref p :: .long x :: .retAddr 0 :: l) (st) m := rfl
theorem x_iinc4r {b0 b1 b2 : Value} {p : Nat} {x : Int} {v : Int} : s_x X d c (.iinc 4 v :: is) (b0 :: b1 :: b2 :: .ref p :: .int (iI x) :: l) (st) m = s_x X d c is (b0 :: b1 :: b2 :: .ref p :: .int (iI (x + v)) :: l) (st) m := (congrArg (fun z => s_x X d c is (b0 :: b1 :: b2 :: .ref p :: .int z :: l) st m) (iI_add x v))
theorem x_istore4u {b0 b1 b2 : Value} {p : Nat} {x : Int32} {w : Value} : s_x X d c (.istore 4 :: is) (b0 :: b1 :: b2 :: .retAddr p :: w :: l) (.int x :: st) m = s_x X d c is (b0 :: b1 :: b2 :: .retAddr p :: .int x :: l) (st) m := rfl
theorem x_astore4u {b0 b1 b2 : Value} {p : Nat} {x : Nat} {w : Value} : s_x X d c (.astore 4 :: is) (b0 :: b1 :: b2 :: .retAddr p :: w :: l) (.ref x :: st) m = s_x X d c is (b0 :: b1 :: b2 :: .retAddr p :: .ref x :: l) (st) m := rfl
theorem x_lstore4u {b0 b1 b2 : Value} {p : Nat} {x : Int64} {w w2 : Value} : s_x X d c (.lstore 4 :: is) (b0 :: b1 :: b2 :: .retAddr p :: w :: w2 :: l) (.long x :: st) m = s_x X d c is (b0 :: b1 :: b2 :: .retAddr p :: .long x :: .retAddr 0 :: l) (st) m := rfl
theorem x_iinc4u {b0 b1 b2 : Value} {p : Nat} {x : Int} {v : Int} : s_x X d c (.iinc 4 v :: is) (b0 :: b1 :: b2 :: .retAddr p :: .int (iI x) :: l) (st) m = s_x X d c is (b0 :: b1 :: b2 :: .retAddr p :: .int (iI (x + v)) :: l) (st) m := (congrArg (fun z => s_x X d c is (b0 :: b1 :: b2 :: .retAddr p :: .int z :: l) st m) (iI_add x v))
theorem x_iload5 {b0 b1 b2 b3 b4 : Value} {x : Int32} : s_x X d c (.iload 5 :: is) (b0 :: b1 :: b2 :: b3 :: b4 :: .int x :: l) (st) m = s_x X d c is (b0 :: b1 :: b2 :: b3 :: b4 :: .int x :: l) (.int x :: st) m := rfl
theorem x_aload5 {b0 b1 b2 b3 b4 : Value} {x : Nat} : s_x X d c (.aload 5 :: is) (b0 :: b1 :: b2 :: b3 :: b4 :: .ref x :: l) (st) m = s_x X d c is (b0 :: b1 :: b2 :: b3 :: b4 :: .ref x :: l) (.ref x :: st) m := rfl
theorem x_lload5 {b0 b1 b2 b3 b4 : Value} {x : Int64} : s_x X d c (.lload 5 :: is) (b0 :: b1 :: b2 :: b3 :: b4 :: .long x :: l) (st) m = s_x X d c is (b0 :: b1 :: b2 :: b3 :: b4 :: .long x :: l) (.long x :: st) m := rfl
theorem x_istore5i {b0 b1 b2 b3 : Value} {p : Int32} {x : Int32} {w : Value} : s_x X d c (.istore 5 :: is) (b0 :: b1 :: b2 :: b3 :: .int p :: w :: l) (.int x :: st) m = s_x X d c is (b0 :: b1 :: b2 :: b3 :: .int p :: .int x :: l) (st) m := rfl
theorem x_astore5i {b0 b1 b2 b3 : Value} {p : Int32} {x : Nat} {w : Value} : s_x X d c (.astore 5 :: is) (b0 :: b1 :: b2 :: b3 :: .int p :: w :: l) (.ref x :: st) m = s_x X d c is (b0 :: b1 :: b2 :: b3 :: .int p :: .ref x :: l) (st) m := rfl
theorem x_lstore5i {b0 b1 b2 b3 : Value} {p : Int32} {x : Int64} {w w2 : Value} : s_x X d c (.lstore 5 :: is) (b0 :: b1 :: b2 :: b3 :: .int p :: w :: w2 :: l) (.long x :: st) m = s_x X d c is (b0 :: b1 :: b2 :: b3 :: .int p :: .long x :: .retAddr 0 :: l) (st) m := rfl
theorem x_iinc5i {b0 b1 b2 b3 : Value} {p : Int32} {x : Int} {v : Int} : s_x X d c (.iinc 5 v :: is) (b0 :: b1 :: b2 :: b3 :: .int p :: .int (iI x) :: l) (st) m = s_x X d c is (b0 :: b1 :: b2 :: b3 :: .int p :: .int (iI (x + v)) :: l) (st) m := (congrArg (fun z => s_x X d c is (b0 :: b1 :: b2 :: b3 :: .int p :: .int z :: l) st m) (iI_add x v))
theorem x_istore5r {b0 b1 b2 b3 : Value} {p : Nat} {x : Int32} {w : Value} : s_x X d c (.istore 5 :: is) (b0 :: b1 :: b2 :: b3 :: .ref p :: w :: l) (.int x :: st) m = s_x X d c is (b0 :: b1 :: b2 :: b3 :: .ref p :: .int x :: l) (st) m := rfl
theorem x_astore5r {b0 b1 b2 b3 : Value} {p : Nat} {x : Nat} {w : Value} : s_x X d c (.astore 5 :: is) (b0 :: b1 :: b2 :: b3 :: .ref p :: w :: l) (.ref x :: st) m = s_x X d c is (b0 :: b1 :: b2 :: b3 :: .ref p :: .ref x :: l) (st) m := rfl
theorem x_lstore5r {b0 b1 b2 b3 : Value} {p : Nat} {x : Int64} {w w2 : Value} : s_x X d c (.lstore 5 :: is) (b0 :: b1 :: b2 :: b3 :: .ref p :: w :: w2 :: l) (.long x :: st) m = s_x X d c is (b0 :: b1 :: b2 :: b3 :: .ref p :: .long x :: .retAddr 0 :: l) (st) m := rfl
theorem x_iinc5r {b0 b1 b2 b3 : Value} {p : Nat} {x : Int} {v : Int} : s_x X d c (.iinc 5 v :: is) (b0 :: b1 :: b2 :: b3 :: .ref p :: .int (iI x) :: l) (st) m = s_x X d c is (b0 :: b1 :: b2 :: b3 :: .ref p :: .int (iI (x + v)) :: l) (st) m := (congrArg (fun z => s_x X d c is (b0 :: b1 :: b2 :: b3 :: .ref p :: .int z :: l) st m) (iI_add x v))
theorem x_istore5u {b0 b1 b2 b3 : Value} {p : Nat} {x : Int32} {w : Value} : s_x X d c (.istore 5 :: is) (b0 :: b1 :: b2 :: b3 :: .retAddr p :: w :: l) (.int x :: st) m = s_x X d c is (b0 :: b1 :: b2 :: b3 :: .retAddr p :: .int x :: l) (st) m := rfl
theorem x_astore5u {b0 b1 b2 b3 : Value} {p : Nat} {x : Nat} {w : Value} : s_x X d c (.astore 5 :: is) (b0 :: b1 :: b2 :: b3 :: .retAddr p :: w :: l) (.ref x :: st) m = s_x X d c is (b0 :: b1 :: b2 :: b3 :: .retAddr p :: .ref x :: l) (st) m := rfl
theorem x_lstore5u {b0 b1 b2 b3 : Value} {p : Nat} {x : Int64} {w w2 : Value} : s_x X d c (.lstore 5 :: is) (b0 :: b1 :: b2 :: b3 :: .retAddr p :: w :: w2 :: l) (.long x :: st) m = s_x X d c is (b0 :: b1 :: b2 :: b3 :: .retAddr p :: .long x :: .retAddr 0 :: l) (st) m := rfl
theorem x_iinc5u {b0 b1 b2 b3 : Value} {p : Nat} {x : Int} {v : Int} : s_x X d c (.iinc 5 v :: is) (b0 :: b1 :: b2 :: b3 :: .retAddr p :: .int (iI x) :: l) (st) m = s_x X d c is (b0 :: b1 :: b2 :: b3 :: .retAddr p :: .int (iI (x + v)) :: l) (st) m := (congrArg (fun z => s_x X d c is (b0 :: b1 :: b2 :: b3 :: .retAddr p :: .int z :: l) st m) (iI_add x v))
theorem x_iload6 {b0 b1 b2 b3 b4 b5 : Value} {x : Int32} : s_x X d c (.iload 6 :: is) (b0 :: b1 :: b2 :: b3 :: b4 :: b5 :: .int x :: l) (st) m = s_x X d c is (b0 :: b1 :: b2 :: b3 :: b4 :: b5 :: .int x :: l) (.int x :: st) m := rfl
theorem x_aload6 {b0 b1 b2 b3 b4 b5 : Value} {x : Nat} : s_x X d c (.aload 6 :: is) (b0 :: b1 :: b2 :: b3 :: b4 :: b5 :: .ref x :: l) (st) m = s_x X d c is (b0 :: b1 :: b2 :: b3 :: b4 :: b5 :: .ref x :: l) (.ref x :: st) m := rfl
theorem x_lload6 {b0 b1 b2 b3 b4 b5 : Value} {x : Int64} : s_x X d c (.lload 6 :: is) (b0 :: b1 :: b2 :: b3 :: b4 :: b5 :: .long x :: l) (st) m = s_x X d c is (b0 :: b1 :: b2 :: b3 :: b4 :: b5 :: .long x :: l) (.long x :: st) m := rfl
theorem x_istore6i {b0 b1 b2 b3 b4 : Value} {p : Int32} {x : Int32} {w : Value} : s_x X d c (.istore 6 :: is) (b0 :: b1 :: b2 :: b3 :: b4 :: .int p :: w :: l) (.int x :: st) m = s_x X d c is (b0 :: b1 :: b2 :: b3 :: b4 :: .int p :: .int x :: l) (st) m := rfl
theorem x_astore6i {b0 b1 b2 b3 b4 : Value} {p : Int32} {x : Nat} {w : Value} : s_x X d c (.astore 6 :: is) (b0 :: b1 :: b2 :: b3 :: b4 :: .int p :: w :: l) (.ref x :: st) m = s_x X d c is (b0 :: b1 :: b2 :: b3 :: b4 :: .int p :: .ref x :: l) (st) m := rfl
theorem x_lstore6i {b0 b1 b2 b3 b4 : Value} {p : Int32} {x : Int64} {w w2 : Value} : s_x X d c (.lstore 6 :: is) (b0 :: b1 :: b2 :: b3 :: b4 :: .int p :: w :: w2 :: l) (.long x :: st) m = s_x X d c is (b0 :: b1 :: b2 :: b3 :: b4 :: .int p :: .long x :: .retAddr 0 :: l) (st) m := rfl
theorem x_iinc6i {b0 b1 b2 b3 b4 : Value} {p : Int32} {x : Int} {v : Int} : s_x X d c (.iinc 6 v :: is) (b0 :: b1 :: b2 :: b3 :: b4 :: .int p :: .int (iI x) :: l) (st) m = s_x X d c is (b0 :: b1 :: b2 :: b3 :: b4 :: .int p :: .int (iI (x + v)) :: l) (st) m := (congrArg (fun z => s_x X d c is (b0 :: b1 :: b2 :: b3 :: b4 :: .int p :: .int z :: l) st m) (iI_add x v))
theorem x_istore6r {b0 b1 b2 b3 b4 : Value} {p : Nat} {x : Int32} {w : Value} : s_x X d c (.istore 6 :: is) (b0 :: b1 :: b2 :: b3 :: b4 :: .ref p :: w :: l) (.int x :: st) m = s_x X d c is (b0 :: b1 :: b2 :: b3 :: b4 :: .ref p :: .int x :: l) (st) m := rfl
theorem x_astore6r {b0 b1 b2 b3 b4 : Value} {p : Nat} {x : Nat} {w : Value} : s_x X d c (.astore 6 :: is) (b0 :: b1 :: b2 :: b3 :: b4 :: .ref p :: w :: l) (.ref x :: st) m = s_x X d c is (b0 :: b1 :: b2 :: b3 :: b4 :: .ref p :: .ref x :: l) (st) m := rfl
theorem x_lstore6r {b0 b1 b2 b3 b4 : Value} {p : Nat} {x : Int64} {w w2 : Value} : s_x X d c (.lstore 6 :: is) (b0 :: b1 :: b2 :: b3 :: b4 :: .ref p :: w :: w2 :: l) (.long x :: st) m = s_x X d c is (b0 :: b1 :: b2 :: b3 :: b4 :: .ref p :: .long x :: .retAddr 0 :: l) (st) m := rfl
theorem x_iinc6r {b0 b1 b2 b3 b4 : Value} {p : Nat} {x : Int} {v : Int} : s_x X d c (.iinc 6 v :: is) (b0 :: b1 :: b2 :: b3 :: b4 :: .ref p :: .int (iI x) :: l) (st) m = s_x X d c is (b0 :: b1 :: b2 :: b3 :: b4 :: .ref p :: .int (iI (x + v)) :: l) (st) m := (congrArg (fun z => s_x X d c is (b0 :: b1 :: b2 :: b3 :: b4 :: .ref p :: .int z :: l) st m) (iI_add x v))
theorem x_istore6u {b0 b1 b2 b3 b4 : Value} {p : Nat} {x : Int32} {w : Value} : s_x X d c (.istore 6 :: is) (b0 :: b1 :: b2 :: b3 :: b4 :: .retAddr p :: w :: l) (.int x :: st) m = s_x X d c is (b0 :: b1 :: b2 :: b3 :: b4 :: .retAddr p :: .int x :: l) (st) m := rfl
theorem x_astore6u {b0 b1 b2 b3 b4 : Value} {p : Nat} {x : Nat} {w : Value} : s_x X d c (.astore 6 :: is) (b0 :: b1 :: b2 :: b3 :: b4 :: .retAddr p :: w :: l) (.ref x :: st) m = s_x X d c is (b0 :: b1 :: b2 :: b3 :: b4 :: .retAddr p :: .ref x :: l) (st) m := rfl
theorem x_lstore6u {b0 b1 b2 b3 b4 : Value} {p : Nat} {x : Int64} {w w2 : Value} : s_x X d c (.lstore 6 :: is) (b0 :: b1 :: b2 :: b3 :: b4 :: .retAddr p :: w :: w2 :: l) (.long x :: st) m = s_x X d c is (b0 :: b1 :: b2 :: b3 :: b4 :: .retAddr p :: .long x :: .retAddr 0 :: l) (st) m := rfl
theorem x_iinc6u {b0 b1 b2 b3 b4 : Value} {p : Nat} {x : Int} {v : Int} : s_x X d c (.iinc 6 v :: is) (b0 :: b1 :: b2 :: b3 :: b4 :: .retAddr p :: .int (iI x) :: l) (st) m = s_x X d c is (b0 :: b1 :: b2 :: b3 :: b4 :: .retAddr p :: .int (iI (x + v)) :: l) (st) m := (congrArg (fun z => s_x X d c is (b0 :: b1 :: b2 :: b3 :: b4 :: .retAddr p :: .int z :: l) st m) (iI_add x v))
theorem x_iload7 {b0 b1 b2 b3 b4 b5 b6 : Value} {x : Int32} : s_x X d c (.iload 7 :: is) (b0 :: b1 :: b2 :: b3 :: b4 :: b5 :: b6 :: .int x :: l) (st) m = s_x X d c is (b0 :: b1 :: b2 :: b3 :: b4 :: b5 :: b6 :: .int x :: l) (.int x :: st) m := rfl
theorem x_aload7 {b0 b1 b2 b3 b4 b5 b6 : Value} {x : Nat} : s_x X d c (.aload 7 :: is) (b0 :: b1 :: b2 :: b3 :: b4 :: b5 :: b6 :: .ref x :: l) (st) m = s_x X d c is (b0 :: b1 :: b2 :: b3 :: b4 :: b5 :: b6 :: .ref x :: l) (.ref x :: st) m := rfl
theorem x_lload7 {b0 b1 b2 b3 b4 b5 b6 : Value} {x : Int64} : s_x X d c (.lload 7 :: is) (b0 :: b1 :: b2 :: b3 :: b4 :: b5 :: b6 :: .long x :: l) (st) m = s_x X d c is (b0 :: b1 :: b2 :: b3 :: b4 :: b5 :: b6 :: .long x :: l) (.long x :: st) m := rfl
theorem x_istore7i {b0 b1 b2 b3 b4 b5 : Value} {p : Int32} {x : Int32} {w : Value} : s_x X d c (.istore 7 :: is) (b0 :: b1 :: b2 :: b3 :: b4 :: b5 :: .int p :: w :: l) (.int x :: st) m = s_x X d c is (b0 :: b1 :: b2 :: b3 :: b4 :: b5 :: .int p :: .int x :: l) (st) m := rfl
theorem x_astore7i {b0 b1 b2 b3 b4 b5 : Value} {p : Int32} {x : Nat} {w : Value} : s_x X d c (.astore 7 :: is) (b0 :: b1 :: b2 :: b3 :: b4 :: b5 :: .int p :: w :: l) (.ref x :: st) m = s_x X d c is (b0 :: b1 :: b2 :: b3 :: b4 :: b5 :: .int p :: .ref x :: l) (st) m := rfl
theorem x_lstore7i {b0 b1 b2 b3 b4 b5 : Value} {p : Int32} {x : Int64} {w w2 : Value} : s_x X d c (.lstore 7 :: is) (b0 :: b1 :: b2 :: b3 :: b4 :: b5 :: .int p :: w :: w2 :: l) (.long x :: st) m = s_x X d c is (b0 :: b1 :: b2 :: b3 :: b4 :: b5 :: .int p :: .long x :: .retAddr 0 :: l) (st) m := rfl
theorem x_iinc7i {b0 b1 b2 b3 b4 b5 : Value} {p : Int32} {x : Int} {v : Int} : s_x X d c (.iinc 7 v :: is) (b0 :: b1 :: b2 :: b3 :: b4 :: b5 :: .int p :: .int (iI x) :: l) (st) m = s_x X d c is (b0 :: b1 :: b2 :: b3 :: b4 :: b5 :: .int p :: .int (iI (x + v)) :: l) (st) m := (congrArg (fun z => s_x X d c is (b0 :: b1 :: b2 :: b3 :: b4 :: b5 :: .int p :: .int z :: l) st m) (iI_add x v))
theorem x_istore7r {b0 b1 b2 b3 b4 b5 : Value} {p : Nat} {x : Int32} {w : Value} : s_x X d c (.istore 7 :: is) (b0 :: b1 :: b2 :: b3 :: b4 :: b5 :: .ref p :: w :: l) (.int x :: st) m = s_x X d c is (b0 :: b1 :: b2 :: b3 :: b4 :: b5 :: .ref p :: .int x :: l) (st) m := rfl
theorem x_astore7r {b0 b1 b2 b3 b4 b5 : Value} {p : Nat} {x : Nat} {w : Value} : s_x X d c (.astore 7 :: is) (b0 :: b1 :: b2 :: b3 :: b4 :: b5 :: .ref p :: w :: l) (.ref x :: st) m = s_x X d c is (b0 :: b1 :: b2 :: b3 :: b4 :: b5 :: .ref p :: .ref x :: l) (st) m := rfl
theorem x_lstore7r {b0 b1 b2 b3 b4 b5 : Value} {p : Nat} {x : Int64} {w w2 : Value} : s_x X d c (.lstore 7 :: is) (b0 :: b1 :: b2 :: b3 :: b4 :: b5 :: .ref p :: w :: w2 :: l) (.long x :: st) m = s_x X d c is (b0 :: b1 :: b2 :: b3 :: b4 :: b5 :: .ref p :: .long x :: .retAddr 0 :: l) (st) m := rfl
theorem x_iinc7r {b0 b1 b2 b3 b4 b5 : Value} {p : Nat} {x : Int} {v : Int} : s_x X d c (.iinc 7 v :: is) (b0 :: b1 :: b2 :: b3 :: b4 :: b5 :: .ref p :: .int (iI x) :: l) (st) m = s_x X d c is (b0 :: b1 :: b2 :: b3 :: b4 :: b5 :: .ref p :: .int (iI (x + v)) :: l) (st) m := (congrArg (fun z => s_x X d c is (b0 :: b1 :: b2 :: b3 :: b4 :: b5 :: .ref p :: .int z :: l) st m) (iI_add x v))
theorem x_istore7u {b0 b1 b2 b3 b4 b5 : Value} {p : Nat} {x : Int32} {w : Value} : s_x X d c (.istore 7 :: is) (b0 :: b1 :: b2 :: b3 :: b4 :: b5 :: .retAddr p :: w :: l) (.int x :: st) m = s_x X d c is (b0 :: b1 :: b2 :: b3 :: b4 :: b5 :: .retAddr p :: .int x :: l) (st) m := rfl
theorem x_astore7u {b0 b1 b2 b3 b4 b5 : Value} {p : Nat} {x : Nat} {w : Value} : s_x X d c (.astore 7 :: is) (b0 :: b1 :: b2 :: b3 :: b4 :: b5 :: .retAddr p :: w :: l) (.ref x :: st) m = s_x X d c is (b0 :: b1 :: b2 :: b3 :: b4 :: b5 :: .retAddr p :: .ref x :: l) (st) m := rfl
theorem x_lstore7u {b0 b1 b2 b3 b4 b5 : Value} {p : Nat} {x : Int64} {w w2 : Value} : s_x X d c (.lstore 7 :: is) (b0 :: b1 :: b2 :: b3 :: b4 :: b5 :: .retAddr p :: w :: w2 :: l) (.long x :: st) m = s_x X d c is (b0 :: b1 :: b2 :: b3 :: b4 :: b5 :: .retAddr p :: .long x :: .retAddr 0 :: l) (st) m := rfl
theorem x_iinc7u {b0 b1 b2 b3 b4 b5 : Value} {p : Nat} {x : Int} {v : Int} : s_x X d c (.iinc 7 v :: is) (b0 :: b1 :: b2 :: b3 :: b4 :: b5 :: .retAddr p :: .int (iI x) :: l) (st) m = s_x X d c is (b0 :: b1 :: b2 :: b3 :: b4 :: b5 :: .retAddr p :: .int (iI (x + v)) :: l) (st) m := (congrArg (fun z => s_x X d c is (b0 :: b1 :: b2 :: b3 :: b4 :: b5 :: .retAddr p :: .int z :: l) st m) (iI_add x v))
theorem x_iload8 {b0 b1 b2 b3 b4 b5 b6 b7 : Value} {x : Int32} : s_x X d c (.iload 8 :: is) (b0 :: b1 :: b2 :: b3 :: b4 :: b5 :: b6 :: b7 :: .int x :: l) (st) m = s_x X d c is (b0 :: b1 :: b2 :: b3 :: b4 :: b5 :: b6 :: b7 :: .int x :: l) (.int x :: st) m := rfl
theorem x_aload8 {b0 b1 b2 b3 b4 b5 b6 b7 : Value} {x : Nat} : s_x X d c (.aload 8 :: is) (b0 :: b1 :: b2 :: b3 :: b4 :: b5 :: b6 :: b7 :: .ref x :: l) (st) m = s_x X d c is (b0 :: b1 :: b2 :: b3 :: b4 :: b5 :: b6 :: b7 :: .ref x :: l) (.ref x :: st) m := rfl
theorem x_lload8 {b0 b1 b2 b3 b4 b5 b6 b7 : Value} {x : Int64} : s_x X d c (.lload 8 :: is) (b0 :: b1 :: b2 :: b3 :: b4 :: b5 :: b6 :: b7 :: .long x :: l) (st) m = s_x X d c is (b0 :: b1 :: b2 :: b3 :: b4 :: b5 :: b6 :: b7 :: .long x :: l) (.long x :: st) m := rfl
theorem x_istore8i {b0 b1 b2 b3 b4 b5 b6 : Value} {p : Int32} {x : Int32} {w : Value} : s_x X d c (.istore 8 :: is) (b0 :: b1 :: b2 :: b3 :: b4 :: b5 :: b6 :: .int p :: w :: l) (.int x :: st) m = s_x X d c is (b0 :: b1 :: b2 :: b3 :: b4 :: b5 :: b6 :: .int p :: .int x :: l) (st) m := rfl
theorem x_astore8i {b0 b1 b2 b3 b4 b5 b6 : Value} {p : Int32} {x : Nat} {w : Value} : s_x X d c (.astore 8 :: is) (b0 :: b1 :: b2 :: b3 :: b4 :: b5 :: b6 :: .int p :: w :: l) (.ref x :: st) m = s_x X d c is (b0 :: b1 :: b2 :: b3 :: b4 :: b5 :: b6 :: .int p :: .ref x :: l) (st) m := rfl
theorem x_lstore8i {b0 b1 b2 b3 b4 b5 b6 : Value} {p : Int32} {x : Int64} {w w2 : Value} : s_x X d c (.lstore 8 :: is) (b0 :: b1 :: b2 :: b3 :: b4 :: b5 :: b6 :: .int p :: w :: w2 :: l) (.long x :: st) m = s_x X d c is (b0 :: b1 :: b2 :: b3 :: b4 :: b5 :: b6 :: .int p :: .long x :: .retAddr 0 :: l) (st) m := rfl
theorem x_iinc8i {b0 b1 b2 b3 b4 b5 b6 : Value} {p : Int32} {x : Int} {v : Int} : s_x X d c (.iinc 8 v :: is) (b0 :: b1 :: b2 :: b3 :: b4 :: b5 :: b6 :: .int p :: .int (iI x) :: l) (st) m = s_x X d c is (b0 :: b1 :: b2 :: b3 :: b4 :: b5 :: b6 :: .int p :: .int (iI (x + v)) :: l) (st) m := (congrArg (fun z => s_x X d c is (b0 :: b1 :: b2 :: b3 :: b4 :: b5 :: b6 :: .int p :: .int z :: l) st m) (iI_add x v))
theorem x_istore8r {b0 b1 b2 b3 b4 b5 b6 : Value} {p : Nat} {x : Int32} {w : Value} : s_x X d c (.istore 8 :: is) (b0 :: b1 :: b2 :: b3 :: b4 :: b5 :: b6 :: .ref p :: w :: l) (.int x :: st) m = s_x X d c is (b0 :: b1 :: b2 :: b3 :: b4 :: b5 :: b6 :: .ref p :: .int x :: l) (st) m := rfl
theorem x_astore8r {b0 b1 b2 b3 b4 b5 b6 : Value} {p : Nat} {x : Nat} {w : Value} : s_x X d c (.astore 8 :: is) (b0 :: b1 :: b2 :: b3 :: b4 :: b5 :: b6 :: .ref p :: w :: l) (.ref x :: st) m = s_x X d c is (b0 :: b1 :: b2 :: b3 :: b4 :: b5 :: b6 :: .ref p :: .ref x :: l) (st) m := rfl
theorem x_lstore8r {b0 b1 b2 b3 b4 b5 b6 : Value} {p : Nat} {x : Int64} {w w2 : Value} : s_x X d c (.lstore 8 :: is) (b0 :: b1 :: b2 :: b3 :: b4 :: b5 :: b6 :: .ref p :: w :: w2 :: l) (.long x :: st) m = s_x X d c is (b0 :: b1 :: b2 :: b3 :: b4 :: b5 :: b6 :: .ref p :: .long x :: .retAddr 0 :: l) (st) m := rfl
theorem x_iinc8r {b0 b1 b2 b3 b4 b5 b6 : Value} {p : Nat} {x : Int} {v : Int} : s_x X d c (.iinc 8 v :: is) (b0 :: b1 :: b2 :: b3 :: b4 :: b5 :: b6 :: .ref p :: .int (iI x) :: l) (st) m = s_x X d c is (b0 :: b1 :: b2 :: b3 :: b4 :: b5 :: b6 :: .ref p :: .int (iI (x + v)) :: l) (st) m := (congrArg (fun z => s_x X d c is (b0 :: b1 :: b2 :: b3 :: b4 :: b5 :: b6 :: .ref p :: .int z :: l) st m) (iI_add x v))
theorem x_istore8u {b0 b1 b2 b3 b4 b5 b6 : Value} {p : Nat} {x : Int32} {w : Value} : s_x X d c (.istore 8 :: is) (b0 :: b1 :: b2 :: b3 :: b4 :: b5 :: b6 :: .retAddr p :: w :: l) (.int x :: st) m = s_x X d c is (b0 :: b1 :: b2 :: b3 :: b4 :: b5 :: b6 :: .retAddr p :: .int x :: l) (st) m := rfl
theorem x_astore8u {b0 b1 b2 b3 b4 b5 b6 : Value} {p : Nat} {x : Nat} {w : Value} : s_x X d c (.astore 8 :: is) (b0 :: b1 :: b2 :: b3 :: b4 :: b5 :: b6 :: .retAddr p :: w :: l) (.ref x :: st) m = s_x X d c is (b0 :: b1 :: b2 :: b3 :: b4 :: b5 :: b6 :: .retAddr p :: .ref x :: l) (st) m := rfl
theorem x_lstore8u {b0 b1 b2 b3 b4 b5 b6 : Value} {p : Nat} {x : Int64} {w w2 : Value} : s_x X d c (.lstore 8 :: is) (b0 :: b1 :: b2 :: b3 :: b4 :: b5 :: b6 :: .retAddr p :: w :: w2 :: l) (.long x :: st) m = s_x X d c is (b0 :: b1 :: b2 :: b3 :: b4 :: b5 :: b6 :: .retAddr p :: .long x :: .retAddr 0 :: l) (st) m := rfl
theorem x_iinc8u {b0 b1 b2 b3 b4 b5 b6 : Value} {p : Nat} {x : Int} {v : Int} : s_x X d c (.iinc 8 v :: is) (b0 :: b1 :: b2 :: b3 :: b4 :: b5 :: b6 :: .retAddr p :: .int (iI x) :: l) (st) m = s_x X d c is (b0 :: b1 :: b2 :: b3 :: b4 :: b5 :: b6 :: .retAddr p :: .int (iI (x + v)) :: l) (st) m := (congrArg (fun z => s_x X d c is (b0 :: b1 :: b2 :: b3 :: b4 :: b5 :: b6 :: .retAddr p :: .int z :: l) st m) (iI_add x v))
theorem x_iload9 {b0 b1 b2 b3 b4 b5 b6 b7 b8 : Value} {x : Int32} : s_x X d c (.iload 9 :: is) (b0 :: b1 :: b2 :: b3 :: b4 :: b5 :: b6 :: b7 :: b8 :: .int x :: l) (st) m = s_x X d c is (b0 :: b1 :: b2 :: b3 :: b4 :: b5 :: b6 :: b7 :: b8 :: .int x :: l) (.int x :: st) m := rfl
theorem x_aload9 {b0 b1 b2 b3 b4 b5 b6 b7 b8 : Value} {x : Nat} : s_x X d c (.aload 9 :: is) (b0 :: b1 :: b2 :: b3 :: b4 :: b5 :: b6 :: b7 :: b8 :: .ref x :: l) (st) m = s_x X d c is (b0 :: b1 :: b2 :: b3 :: b4 :: b5 :: b6 :: b7 :: b8 :: .ref x :: l) (.ref x :: st) m := rfl
theorem x_lload9 {b0 b1 b2 b3 b4 b5 b6 b7 b8 : Value} {x : Int64} : s_x X d c (.lload 9 :: is) (b0 :: b1 :: b2 :: b3 :: b4 :: b5 :: b6 :: b7 :: b8 :: .long x :: l) (st) m = s_x X d c is (b0 :: b1 :: b2 :: b3 :: b4 :: b5 :: b6 :: b7 :: b8 :: .long x :: l) (.long x :: st) m := rfl
theorem x_istore9i {b0 b1 b2 b3 b4 b5 b6 b7 : Value} {p : Int32} {x : Int32} {w : Value} : s_x X d c (.istore 9 :: is) (b0 :: b1 :: b2 :: b3 :: b4 :: b5 :: b6 :: b7 :: .int p :: w :: l) (.int x :: st) m = s_x X d c is (b0 :: b1 :: b2 :: b3 :: b4 :: b5 :: b6 :: b7 :: .int p :: .int x :: l) (st) m := rfl
theorem x_astore9i {b0 b1 b2 b3 b4 b5 b6 b7 : Value} {p : Int32} {x : Nat} {w : Value} : s_x X d c (.astore 9 :: is) (b0 :: b1 :: b2 :: b3 :: b4 :: b5 :: b6 :: b7 :: .int p :: w :: l) (.ref x :: st) m = s_x X d c is (b0 :: b1 :: b2 :: b3 :: b4 :: b5 :: b6 :: b7 :: .int p :: .ref x :: l) (st) m := rfl
theorem x_lstore9i {b0 b1 b2 b3 b4 b5 b6 b7 : Value} {p : Int32} {x : Int64} {w w2 : Value} : s_x X d c (.lstore 9 :: is) (b0 :: b1 :: b2 :: b3 :: b4 :: b5 :: b6 :: b7 :: .int p :: w :: w2 :: l) (.long x :: st) m = s_x X d c is (b0 :: b1 :: b2 :: b3 :: b4 :: b5 :: b6 :: b7 :: .int p :: .long x :: .retAddr 0 :: l) (st) m := rfl
theorem x_iinc9i {b0 b1 b2 b3 b4 b5 b6 b7 : Value} {p : Int32} {x : Int} {v : Int} : s_x X d c (.iinc 9 v :: is) (b0 :: b1 :: b2 :: b3 :: b4 :: b5 :: b6 :: b7 :: .int p :: .int (iI x) :: l) (st) m = s_x X d c is (b0 :: b1 :: b2 :: b3 :: b4 :: b5 :: b6 :: b7 :: .int p :: .int (iI (x + v)) :: l) (st) m := (congrArg (fun z => s_x X d c is (b0 :: b1 :: b2 :: b3 :: b4 :: b5 :: b6 :: b7 :: .int p :: .int z :: l) st m) (iI_add x v))
theorem x_istore9r {b0 b1 b2 b3 b4 b5 b6 b7 : Value} {p : Nat} {x : Int32} {w : Value} : s_x X d c (.istore 9 :: is) (b0 :: b1 :: b2 :: b3 :: b4 :: b5 :: b6 :: b7 :: .ref p :: w :: l) (.int x :: st) m = s_x X d c is (b0 :: b1 :: b2 :: b3 :: b4 :: b5 :: b6 :: b7 :: .ref p :: .int x :: l) (st) m := rfl
theorem x_astore9r {b0 b1 b2 b3 b4 b5 b6 b7 : Value} {p : Nat} {x : Nat} {w : Value} : s_x X d c (.astore 9 :: is) (b0 :: b1 :: b2 :: b3 :: b4 :: b5 :: b6 :: b7 :: .ref p :: w :: l) (.ref x :: st) m = s_x X d c is (b0 :: b1 :: b2 :: b3 :: b4 :: b5 :: b6 :: b7 :: .ref p :: .ref x :: l) (st) m := rfl
theorem x_lstore9r {b0 b1 b2 b3 b4 b5 b6 b7 : Value} {p : Nat} {x : Int64} {w w2 : Value} : s_x X d c (.lstore 9 :: is) (b0 :: b1 :: b2 :: b3 :: b4 :: b5 :: b6 :: b7 :: .ref p :: w :: w2 :: l) (.long x :: st) m = s_x X d c is (b0 :: b1 :: b2 :: b3 :: b4 :: b5 :: b6 :: b7 :: .ref p :: .long x :: .retAddr 0 :: l) (st) m := rfl
theorem x_iinc9r {b0 b1 b2 b3 b4 b5 b6 b7 : Value} {p : Nat} {x : Int} {v : Int} : s_x X d c (.iinc 9 v :: is) (b0 :: b1 :: b2 :: b3 :: b4 :: b5 :: b6 :: b7 :: .ref p :: .int (iI x) :: l) (st) m = s_x X d c is (b0 :: b1 :: b2 :: b3 :: b4 :: b5 :: b6 :: b7 :: .ref p :: .int (iI (x + v)) :: l) (st) m := (congrArg (fun z => s_x X d c is (b0 :: b1 :: b2 :: b3 :: b4 :: b5 :: b6 :: b7 :: .ref p :: .int z :: l) st m) (iI_add x v))
theorem x_istore9u {b0 b1 b2 b3 b4 b5 b6 b7 : Value} {p : Nat} {x : Int32} {w : Value} : s_x X d c (.istore 9 :: is) (b0 :: b1 :: b2 :: b3 :: b4 :: b5 :: b6 :: b7 :: .retAddr p :: w :: l) (.int x :: st) m = s_x X d c is (b0 :: b1 :: b2 :: b3 :: b4 :: b5 :: b6 :: b7 :: .retAddr p :: .int x :: l) (st) m := rfl
theorem x_astore9u {b0 b1 b2 b3 b4 b5 b6 b7 : Value} {p : Nat} {x : Nat} {w : Value} : s_x X d c (.astore 9 :: is) (b0 :: b1 :: b2 :: b3 :: b4 :: b5 :: b6 :: b7 :: .retAddr p :: w :: l) (.ref x :: st) m = s_x X d c is (b0 :: b1 :: b2 :: b3 :: b4 :: b5 :: b6 :: b7 :: .retAddr p :: .ref x :: l) (st) m := rfl
theorem x_lstore9u {b0 b1 b2 b3 b4 b5 b6 b7 : Value} {p : Nat} {x : Int64} {w w2 : Value} : s_x X d c (.lstore 9 :: is) (b0 :: b1 :: b2 :: b3 :: b4 :: b5 :: b6 :: b7 :: .retAddr p :: w :: w2 :: l) (.long x :: st) m = s_x X d c is (b0 :: b1 :: b2 :: b3 :: b4 :: b5 :: b6 :: b7 :: .retAddr p :: .long x :: .retAddr 0 :: l) (st) m := rfl
theorem x_iinc9u {b0 b1 b2 b3 b4 b5 b6 b7 : Value} {p : Nat} {x : Int} {v : Int} : s_x X d c (.iinc 9 v :: is) (b0 :: b1 :: b2 :: b3 :: b4 :: b5 :: b6 :: b7 :: .retAddr p :: .int (iI x) :: l) (st) m = s_x X d c is (b0 :: b1 :: b2 :: b3 :: b4 :: b5 :: b6 :: b7 :: .retAddr p :: .int (iI (x + v)) :: l) (st) m := (congrArg (fun z => s_x X d c is (b0 :: b1 :: b2 :: b3 :: b4 :: b5 :: b6 :: b7 :: .retAddr p :: .int z :: l) st m) (iI_add x v))
theorem x_iload10 {b0 b1 b2 b3 b4 b5 b6 b7 b8 b9 : Value} {x : Int32} : s_x X d c (.iload 10 :: is) (b0 :: b1 :: b2 :: b3 :: b4 :: b5 :: b6 :: b7 :: b8 :: b9 :: .int x :: l) (st) m = s_x X d c is (b0 :: b1 :: b2 :: b3 :: b4 :: b5 :: b6 :: b7 :: b8 :: b9 :: .int x :: l) (.int x :: st) m := rfl
theorem x_aload10 {b0 b1 b2 b3 b4 b5 b6 b7 b8 b9 : Value} {x : Nat} : s_x X d c (.aload 10 :: is) (b0 :: b1 :: b2 :: b3 :: b4 :: b5 :: b6 :: b7 :: b8 :: b9 :: .ref x :: l) (st) m = s_x X d c is (b0 :: b1 :: b2 :: b3 :: b4 :: b5 :: b6 :: b7 :: b8 :: b9 :: .ref x :: l) (.ref x :: st) m := rfl
theorem x_lload10 {b0 b1 b2 b3 b4 b5 b6 b7 b8 b9 : Value} {x : Int64} : s_x X d c (.lload 10 :: is) (b0 :: b1 :: b2 :: b3 :: b4 :: b5 :: b6 :: b7 :: b8 :: b9 :: .long x :: l) (st) m = s_x X d c is (b0 :: b1 :: b2 :: b3 :: b4 :: b5 :: b6 :: b7 :: b8 :: b9 :: .long x :: l) (.long x :: st) m := rfl
theorem x_istore10i {b0 b1 b2 b3 b4 b5 b6 b7 b8 : Value} {p : Int32} {x : Int32} {w : Value} : s_x X d c (.istore 10 :: is) (b0 :: b1 :: b2 :: b3 :: b4 :: b5 :: b6 :: b7 :: b8 :: .int p :: w :: l) (.int x :: st) m = s_x X d c is (b0 :: b1 :: b2 :: b3 :: b4 :: b5 :: b6 :: b7 :: b8 :: .int p :: .int x :: l) (st) m := rfl
theorem x_astore10i {b0 b1 b2 b3 b4 b5 b6 b7 b8 : Value} {p : Int32} {x : Nat} {w : Value} : s_x X d c (.astore 10 :: is) (b0 :: b1 :: b2 :: b3 :: b4 :: b5 :: b6 :: b7 :: b8 :: .int p :: w :: l) (.ref x :: st) m = s_x X d c is (b0 :: b1 :: b2 :: b3 :: b4 :: b5 :: b6 :: b7 :: b8 :: .int p :: .ref x :: l) (st) m := rfl
theorem x_lstore10i {b0 b1 b2 b3 b4 b5 b6 b7 b8 : Value} {p : Int32} {x : Int64} {w w2 : Value} : s_x X d c (.lstore 10 :: is) (b0 :: b1 :: b2 :: b3 :: b4 :: b5 :: b6 :: b7 :: b8 :: .int p :: w :: w2 :: l) (.long x :: st) m = s_x X d c is (b0 :: b1 :: b2 :: b3 :: b4 :: b5 :: b6 :: b7 :: b8 :: .int p :: .long x :: .retAddr 0 :: l) (st) m := rfl
theorem x_iinc10i {b0 b1 b2 b3 b4 b5 b6 b7 b8 : Value} {p : Int32} {x : Int} {v : Int} : s_x X d c (.iinc 10 v :: is) (b0 :: b1 :: b2 :: b3 :: b4 :: b5 :: b6 :: b7 :: b8 :: .int p :: .int (iI x) :: l) (st) m = s_x X d c is (b0 :: b1 :: b2 :: b3 :: b4 :: b5 :: b6 :: b7 :: b8 :: .int p :: .int (iI (x + v)) :: l) (st) m := (congrArg (fun z => s_x X d c is (b0 :: b1 :: b2 :: b3 :: b4 :: b5 :: b6 :: b7 :: b8 :: .int p :: .int z :: l) st m) (iI_add x v))
theorem x_istore10r {b0 b1 b2 b3 b4 b5 b6 b7 b8 : Value} {p : Nat} {x : Int32} {w : Value} : s_x X d c (.istore 10 :: is) (b0 :: b1 :: b2 :: b3 :: b4 :: b5 :: b6 :: b7 :: b8 :: .ref p :: w :: l) (.int x :: st) m = s_x X d c is (b0 :: b1 :: b2 :: b3 :: b4 :: b5 :: b6 :: b7 :: b8 :: .ref p :: .int x :: l) (st) m := rfl
theorem x_astore10r {b0 b1 b2 b3 b4 b5 b6 b7 b8 : Value} {p : Nat} {x : Nat} {w : Value} : s_x X d c (.astore 10 :: is) (b0 :: b1 :: b2 :: b3 :: b4 :: b5 :: b6 :: b7 :: b8 :: .ref p :: w :: l) (.ref x :: st) m = s_x X d c is (b0 :: b1 :: b2 :: b3 :: b4 :: b5 :: b6 :: b7 :: b8 :: .ref p :: .ref x :: l) (st) m := rfl
theorem x_lstore10r {b0 b1 b2 b3 b4 b5 b6 b7 b8 : Value} {p : Nat} {x : Int64} {w w2 : Value} : s_x X d c (.lstore 10 :: is) (b0 :: b1 :: b2 :: b3 :: b4 :: b5 :: b6 :: b7 :: b8 :: .ref p :: w :: w2 :: l) (.long x :: st) m = s_x X d c is (b0 :: b1 :: b2 :: b3 :: b4 :: b5 :: b6 :: b7 :: b8 :: .ref p :: .long x :: .retAddr 0 :: l) (st) m := rfl
theorem x_iinc10r {b0 b1 b2 b3 b4 b5 b6 b7 b8 : Value} {p : Nat} {x : Int} {v : Int} : s_x X d c (.iinc 10 v :: is) (b0 :: b1 :: b2 :: b3 :: b4 :: b5 :: b6 :: b7 :: b8 :: .ref p :: .int (iI x) :: l) (st) m = s_x X d c is (b0 :: b1 :: b2 :: b3 :: b4 :: b5 :: b6 :: b7 :: b8 :: .ref p :: .int (iI (x + v)) :: l) (st) m := (congrArg (fun z => s_x X d c is (b0 :: b1 :: b2 :: b3 :: b4 :: b5 :: b6 :: b7 :: b8 :: .ref p :: .int z :: l) st m) (iI_add x v))
theorem x_istore10u {b0 b1 b2 b3 b4 b5 b6 b7 b8 : Value} {p : Nat} {x : Int32} {w : Value} : s_x X d c (.istore 10 :: is) (b0 :: b1 :: b2 :: b3 :: b4 :: b5 :: b6 :: b7 :: b8 :: .retAddr p :: w :: l) (.int x :: st) m = s_x X d c is (b0 :: b1 :: b2 :: b3 :: b4 :: b5 :: b6 :: b7 :: b8 :: .retAddr p :: .int x :: l) (st) m := rfl
theorem x_astore10u {b0 b1 b2 b3 b4 b5 b6 b7 b8 : Value} {p : Nat} {x : Nat} {w : Value} : s_x X d c (.astore 10 :: is) (b0 :: b1 :: b2 :: b3 :: b4 :: b5 :: b6 :: b7 :: b8 :: .retAddr p :: w :: l) (.ref x :: st) m = s_x X d c is (b0 :: b1 :: b2 :: b3 :: b4 :: b5 :: b6 :: b7 :: b8 :: .retAddr p :: .ref x :: l) (st) m := rfl
theorem x_lstore10u {b0 b1 b2 b3 b4 b5 b6 b7 b8 : Value} {p : Nat} {x : Int64} {w w2 : Value} : s_x X d c (.lstore 10 :: is) (b0 :: b1 :: b2 :: b3 :: b4 :: b5 :: b6 :: b7 :: b8 :: .retAddr p :: w :: w2 :: l) (.long x :: st) m = s_x X d c is (b0 :: b1 :: b2 :: b3 :: b4 :: b5 :: b6 :: b7 :: b8 :: .retAddr p :: .long x :: .retAddr 0 :: l) (st) m := rfl
theorem x_iinc10u {b0 b1 b2 b3 b4 b5 b6 b7 b8 : Value} {p : Nat} {x : Int} {v : Int} : s_x X d c (.iinc 10 v :: is) (b0 :: b1 :: b2 :: b3 :: b4 :: b5 :: b6 :: b7 :: b8 :: .retAddr p :: .int (iI x) :: l) (st) m = s_x X d c is (b0 :: b1 :: b2 :: b3 :: b4 :: b5 :: b6 :: b7 :: b8 :: .retAddr p :: .int (iI (x + v)) :: l) (st) m := (congrArg (fun z => s_x X d c is (b0 :: b1 :: b2 :: b3 :: b4 :: b5 :: b6 :: b7 :: b8 :: .retAddr p :: .int z :: l) st m) (iI_add x v))
theorem x_iadd {x y : Int} : s_x X d c (.iadd :: is) (ls) (.int (iI y) :: .int (iI x) :: st) m = s_x X d c is (ls) (.int (iI (x + y)) :: st) m := congrArg (fun z => s_x X d c is ls (.int z :: st) m) (iI_add x y)
theorem x_isub {x y : Int} : s_x X d c (.isub :: is) (ls) (.int (iI y) :: .int (iI x) :: st) m = s_x X d c is (ls) (.int (iI (x - y)) :: st) m := congrArg (fun z => s_x X d c is ls (.int z :: st) m) (iI_sub x y)
theorem x_imul {x y : Int} : s_x X d c (.imul :: is) (ls) (.int (iI y) :: .int (iI x) :: st) m = s_x X d c is (ls) (.int (iI (x * y)) :: st) m := congrArg (fun z => s_x X d c is ls (.int z :: st) m) (iI_mul x y)
theorem x_iand {x y : Int32} : s_x X d c (.iand :: is) (ls) (.int y :: .int x :: st) m = s_x X d c is (ls) (.int (x &&& y) :: st) m := rfl
theorem x_ior {x y : Int32} : s_x X d c (.ior :: is) (ls) (.int y :: .int x :: st) m = s_x X d c is (ls) (.int (x ||| y) :: st) m := rfl
theorem x_ixor {x y : Int32} : s_x X d c (.ixor :: is) (ls) (.int y :: .int x :: st) m = s_x X d c is (ls) (.int (x ^^^ y) :: st) m := rfl
theorem x_ishl {x y : Int32} : s_x X d c (.ishl :: is) (ls) (.int y :: .int x :: st) m = s_x X d c is (ls) (.int (x <<< (y &&& 31)) :: st) m := rfl
theorem x_ishr {x y : Int32} : s_x X d c (.ishr :: is) (ls) (.int y :: .int x :: st) m = s_x X d c is (ls) (.int (x >>> (y &&& 31)) :: st) m := rfl
theorem x_iushr {x y : Int32} : s_x X d c (.iushr :: is) (ls) (.int y :: .int x :: st) m = s_x X d c is (ls) (.int ((x.toUInt32 >>> (y.toUInt32 &&& Int32.toUInt32 31)).toInt32) :: st) m := rfl
theorem x_idiv {x y : Int32} (h : ¬ y = 0) : s_x X d c (.idiv :: is) (ls) (.int y :: .int x :: st) m = s_x X d c is (ls) (.int (x / y) :: st) m := by
  simp only [s_x, e_x, e_st, e_id, if_neg h]
theorem x_irem {x y : Int32} (h : ¬ y = 0) : s_x X d c (.irem :: is) (ls) (.int y :: .int x :: st) m = s_x X d c is (ls) (.int (x % y) :: st) m := by
  simp only [s_x, e_x, e_st, e_id, if_neg h]
theorem x_idivI {x y : Int} (h : rg x ∧ 0 < y ∧ y < 2147483648) : s_x X d c (.idiv :: is) (ls) (.int (iI y) :: .int (iI x) :: st) m = s_x X d c is (ls) (.int (iI (Int.tdiv x y)) :: st) m := by
  rw [x_idiv (iI_n0 ⟨h.2.1, h.2.2⟩), iI_div h.1 h.2.1 h.2.2]
theorem x_iremI {x y : Int} (h : rg x ∧ 0 < y ∧ y < 2147483648) : s_x X d c (.irem :: is) (ls) (.int (iI y) :: .int (iI x) :: st) m = s_x X d c is (ls) (.int (iI (Int.tmod x y)) :: st) m := by
  rw [x_irem (iI_n0 ⟨h.2.1, h.2.2⟩), iI_rem h.1 h.2.1 h.2.2]
theorem x_ineg {x : Int} : s_x X d c (.ineg :: is) (ls) (.int (iI x) :: st) m = s_x X d c is (ls) (.int (iI (-x)) :: st) m := congrArg (fun z => s_x X d c is ls (.int z :: st) m) (iI_neg x)
theorem x_i2b {x : Int32} : s_x X d c (.i2b :: is) (ls) (.int x :: st) m = s_x X d c is (ls) (.int (x.toInt8.toInt32) :: st) m := rfl
theorem x_i2s {x : Int32} : s_x X d c (.i2s :: is) (ls) (.int x :: st) m = s_x X d c is (ls) (.int (x.toInt16.toInt32) :: st) m := rfl
theorem x_i2c {x : Int32} : s_x X d c (.i2c :: is) (ls) (.int x :: st) m = s_x X d c is (ls) (.int ((x.toUInt32 % 65536).toInt32) :: st) m := rfl
theorem x_ladd {x y : Int64} : s_x X d c (.ladd :: is) (ls) (.long y :: .long x :: st) m = s_x X d c is (ls) (.long (x + y) :: st) m := rfl
theorem x_lsub {x y : Int64} : s_x X d c (.lsub :: is) (ls) (.long y :: .long x :: st) m = s_x X d c is (ls) (.long (x - y) :: st) m := rfl
theorem x_land {x y : Int64} : s_x X d c (.land :: is) (ls) (.long y :: .long x :: st) m = s_x X d c is (ls) (.long (x &&& y) :: st) m := rfl
theorem x_lor {x y : Int64} : s_x X d c (.lor :: is) (ls) (.long y :: .long x :: st) m = s_x X d c is (ls) (.long (x ||| y) :: st) m := rfl
theorem x_lxor {x y : Int64} : s_x X d c (.lxor :: is) (ls) (.long y :: .long x :: st) m = s_x X d c is (ls) (.long (x ^^^ y) :: st) m := rfl
theorem x_lshl {x : Int64} {y : Int32} : s_x X d c (.lshl :: is) (ls) (.int y :: .long x :: st) m = s_x X d c is (ls) (.long (x <<< (y.toInt64 &&& 63)) :: st) m := rfl
theorem x_lshr {x : Int64} {y : Int32} : s_x X d c (.lshr :: is) (ls) (.int y :: .long x :: st) m = s_x X d c is (ls) (.long (x >>> (y.toInt64 &&& 63)) :: st) m := rfl
theorem x_lushr {x : Int64} {y : Int32} : s_x X d c (.lushr :: is) (ls) (.int y :: .long x :: st) m = s_x X d c is (ls) (.long ((x.toUInt64 >>> (y.toInt64.toUInt64 &&& Int64.toUInt64 63)).toInt64) :: st) m := rfl
theorem x_dadd_0 {x y : Int} (h : rg x ∧ rg y) : s_x X d c (.dadd :: is) (ls) ([.int (iI y), .int (iI x)]) m = s_x X d c is (ls) ([.int (iI (max x y))]) m := congrArg (fun z => s_x X d c is ls [.int z] m) (iI_max h.1 h.2)
theorem x_dsub_0 {x y : Int} (h : rg x ∧ rg y) : s_x X d c (.dsub :: is) (ls) ([.int (iI y), .int (iI x)]) m = s_x X d c is (ls) ([.int (iI (min x y))]) m := congrArg (fun z => s_x X d c is ls [.int z] m) (iI_min h.1 h.2)
theorem x_dneg_0 {x : Int} (h : rg x) : s_x X d c (.dneg :: is) (ls) ([.int (iI x)]) m = s_x X d c is (ls) ([.int (iI (iabs x))]) m := congrArg (fun z => s_x X d c is ls [.int z] m) (iI_abs h)
theorem x_pop2_0 {x : Nat} : s_x X d c (.pop2 :: is) (ls) ([.ref x]) m = s_x X d c is (ls) ([]) m := rfl
theorem x_dadd_1 {x y : Int} {s0 : Value} (h : rg x ∧ rg y) : s_x X d c (.dadd :: is) (ls) ([.int (iI y), .int (iI x), s0]) m = s_x X d c is (ls) ([.int (iI (max x y)), s0]) m := congrArg (fun z => s_x X d c is ls [.int z, s0] m) (iI_max h.1 h.2)
theorem x_dsub_1 {x y : Int} {s0 : Value} (h : rg x ∧ rg y) : s_x X d c (.dsub :: is) (ls) ([.int (iI y), .int (iI x), s0]) m = s_x X d c is (ls) ([.int (iI (min x y)), s0]) m := congrArg (fun z => s_x X d c is ls [.int z, s0] m) (iI_min h.1 h.2)
theorem x_dneg_1 {x : Int} {s0 : Value} (h : rg x) : s_x X d c (.dneg :: is) (ls) ([.int (iI x), s0]) m = s_x X d c is (ls) ([.int (iI (iabs x)), s0]) m := congrArg (fun z => s_x X d c is ls [.int z, s0] m) (iI_abs h)
theorem x_pop2_1 {x : Nat} {s0 : Value} : s_x X d c (.pop2 :: is) (ls) ([.ref x, s0]) m = s_x X d c is (ls) ([s0]) m := rfl
theorem x_dadd_2 {x y : Int} {s0 s1 : Value} (h : rg x ∧ rg y) : s_x X d c (.dadd :: is) (ls) ([.int (iI y), .int (iI x), s0, s1]) m = s_x X d c is (ls) ([.int (iI (max x y)), s0, s1]) m := congrArg (fun z => s_x X d c is ls [.int z, s0, s1] m) (iI_max h.1 h.2)
theorem x_dsub_2 {x y : Int} {s0 s1 : Value} (h : rg x ∧ rg y) : s_x X d c (.dsub :: is) (ls) ([.int (iI y), .int (iI x), s0, s1]) m = s_x X d c is (ls) ([.int (iI (min x y)), s0, s1]) m := congrArg (fun z => s_x X d c is ls [.int z, s0, s1] m) (iI_min h.1 h.2)
theorem x_dneg_2 {x : Int} {s0 s1 : Value} (h : rg x) : s_x X d c (.dneg :: is) (ls) ([.int (iI x), s0, s1]) m = s_x X d c is (ls) ([.int (iI (iabs x)), s0, s1]) m := congrArg (fun z => s_x X d c is ls [.int z, s0, s1] m) (iI_abs h)
theorem x_pop2_2 {x : Nat} {s0 s1 : Value} : s_x X d c (.pop2 :: is) (ls) ([.ref x, s0, s1]) m = s_x X d c is (ls) ([s0, s1]) m := rfl
theorem x_dadd_3 {x y : Int} {s0 s1 s2 : Value} (h : rg x ∧ rg y) : s_x X d c (.dadd :: is) (ls) ([.int (iI y), .int (iI x), s0, s1, s2]) m = s_x X d c is (ls) ([.int (iI (max x y)), s0, s1, s2]) m := congrArg (fun z => s_x X d c is ls [.int z, s0, s1, s2] m) (iI_max h.1 h.2)
theorem x_dsub_3 {x y : Int} {s0 s1 s2 : Value} (h : rg x ∧ rg y) : s_x X d c (.dsub :: is) (ls) ([.int (iI y), .int (iI x), s0, s1, s2]) m = s_x X d c is (ls) ([.int (iI (min x y)), s0, s1, s2]) m := congrArg (fun z => s_x X d c is ls [.int z, s0, s1, s2] m) (iI_min h.1 h.2)
theorem x_dneg_3 {x : Int} {s0 s1 s2 : Value} (h : rg x) : s_x X d c (.dneg :: is) (ls) ([.int (iI x), s0, s1, s2]) m = s_x X d c is (ls) ([.int (iI (iabs x)), s0, s1, s2]) m := congrArg (fun z => s_x X d c is ls [.int z, s0, s1, s2] m) (iI_abs h)
theorem x_pop2_3 {x : Nat} {s0 s1 s2 : Value} : s_x X d c (.pop2 :: is) (ls) ([.ref x, s0, s1, s2]) m = s_x X d c is (ls) ([s0, s1, s2]) m := rfl
theorem x_dadd_4 {x y : Int} {s0 s1 s2 s3 : Value} (h : rg x ∧ rg y) : s_x X d c (.dadd :: is) (ls) ([.int (iI y), .int (iI x), s0, s1, s2, s3]) m = s_x X d c is (ls) ([.int (iI (max x y)), s0, s1, s2, s3]) m := congrArg (fun z => s_x X d c is ls [.int z, s0, s1, s2, s3] m) (iI_max h.1 h.2)
theorem x_dsub_4 {x y : Int} {s0 s1 s2 s3 : Value} (h : rg x ∧ rg y) : s_x X d c (.dsub :: is) (ls) ([.int (iI y), .int (iI x), s0, s1, s2, s3]) m = s_x X d c is (ls) ([.int (iI (min x y)), s0, s1, s2, s3]) m := congrArg (fun z => s_x X d c is ls [.int z, s0, s1, s2, s3] m) (iI_min h.1 h.2)
theorem x_dneg_4 {x : Int} {s0 s1 s2 s3 : Value} (h : rg x) : s_x X d c (.dneg :: is) (ls) ([.int (iI x), s0, s1, s2, s3]) m = s_x X d c is (ls) ([.int (iI (iabs x)), s0, s1, s2, s3]) m := congrArg (fun z => s_x X d c is ls [.int z, s0, s1, s2, s3] m) (iI_abs h)
theorem x_pop2_4 {x : Nat} {s0 s1 s2 s3 : Value} : s_x X d c (.pop2 :: is) (ls) ([.ref x, s0, s1, s2, s3]) m = s_x X d c is (ls) ([s0, s1, s2, s3]) m := rfl
theorem x_lcmp {x y : Int64} : s_x X d c (.lcmp :: is) (ls) (.long y :: .long x :: st) m = s_x X d c is (ls) (.int (lg_cmp x y) :: st) m := rfl
theorem x_i2l {x : Int32} : s_x X d c (.i2l :: is) (ls) (.int x :: st) m = s_x X d c is (ls) (.long x.toInt64 :: st) m := rfl
theorem x_l2i {x : Int64} : s_x X d c (.l2i :: is) (ls) (.long x :: st) m = s_x X d c is (ls) (.int x.toInt32 :: st) m := rfl
theorem x_dup_i {x : Int32} : s_x X d c (.dup :: is) (ls) (.int x :: st) m = s_x X d c is (ls) (.int x :: .int x :: st) m := rfl
theorem x_dup_r {x : Nat} : s_x X d c (.dup :: is) (ls) (.ref x :: st) m = s_x X d c is (ls) (.ref x :: .ref x :: st) m := rfl
theorem x_pop {x : Int32} : s_x X d c (.pop :: is) (ls) (.int x :: st) m = s_x X d c is (ls) (st) m := rfl
theorem x_dup_x1 {x : Int32} {y : Nat} : s_x X d c (.dup_x1 :: is) (ls) (.int x :: .ref y :: st) m = s_x X d c is (ls) (.int x :: .ref y :: .int x :: st) m := rfl
theorem x_dup2 {x : Int32} {y : Nat} : s_x X d c (.dup2 :: is) (ls) (.int x :: .ref y :: st) m = s_x X d c is (ls) (.int x :: .ref y :: .int x :: .ref y :: st) m := rfl
theorem x_ifCond_eq {x : Int} {t : Int} (h : rg x) : s_x X d c (.ifCond .eq t :: is) (ls) (.int (iI x) :: st) m = if x = 0 then s_j X d c t ls st m else s_x X d c is (ls) (st) m := x_cd_eq (y := 0) ⟨h, by decide, by decide⟩
theorem x_ifCond_eqb {p : Prop} [Decidable p] {t : Int} : s_x X d c (.ifCond .eq t :: is) (ls) (.int (iI (if p then 1 else 0)) :: st) m = if p then s_x X d c is (ls) (st) m else s_j X d c t ls st m := by
  by_cases h : p
  · simp only [if_pos h]; rfl
  · simp only [if_neg h]; rfl
theorem x_if_icmp_eq {x y : Int} {t : Int} (h : rg x ∧ rg y) : s_x X d c (.if_icmp .eq t :: is) (ls) (.int (iI y) :: .int (iI x) :: st) m = if x = y then s_j X d c t ls st m else s_x X d c is (ls) (st) m := x_cd_eq (y := y) h
theorem x_ifCond_ne {x : Int} {t : Int} (h : rg x) : s_x X d c (.ifCond .ne t :: is) (ls) (.int (iI x) :: st) m = if x = 0 then s_x X d c is (ls) (st) m else s_j X d c t ls st m := x_cd_ne (y := 0) ⟨h, by decide, by decide⟩
theorem x_ifCond_neb {p : Prop} [Decidable p] {t : Int} : s_x X d c (.ifCond .ne t :: is) (ls) (.int (iI (if p then 1 else 0)) :: st) m = if p then s_j X d c t ls st m else s_x X d c is (ls) (st) m := by
  by_cases h : p
  · simp only [if_pos h]; rfl
  · simp only [if_neg h]; rfl
theorem x_if_icmp_ne {x y : Int} {t : Int} (h : rg x ∧ rg y) : s_x X d c (.if_icmp .ne t :: is) (ls) (.int (iI y) :: .int (iI x) :: st) m = if x = y then s_x X d c is (ls) (st) m else s_j X d c t ls st m := x_cd_ne (y := y) h
theorem x_ifCond_lt {x : Int} {t : Int} (h : rg x) : s_x X d c (.ifCond .lt t :: is) (ls) (.int (iI x) :: st) m = if x < 0 then s_j X d c t ls st m else s_x X d c is (ls) (st) m := x_cd_lt (y := 0) ⟨h, by decide, by decide⟩
theorem x_if_icmp_lt {x y : Int} {t : Int} (h : rg x ∧ rg y) : s_x X d c (.if_icmp .lt t :: is) (ls) (.int (iI y) :: .int (iI x) :: st) m = if x < y then s_j X d c t ls st m else s_x X d c is (ls) (st) m := x_cd_lt (y := y) h
theorem x_ifCond_ge {x : Int} {t : Int} (h : rg x) : s_x X d c (.ifCond .ge t :: is) (ls) (.int (iI x) :: st) m = if x < 0 then s_x X d c is (ls) (st) m else s_j X d c t ls st m := x_cd_ge (y := 0) ⟨h, by decide, by decide⟩
theorem x_if_icmp_ge {x y : Int} {t : Int} (h : rg x ∧ rg y) : s_x X d c (.if_icmp .ge t :: is) (ls) (.int (iI y) :: .int (iI x) :: st) m = if x < y then s_x X d c is (ls) (st) m else s_j X d c t ls st m := x_cd_ge (y := y) h
theorem x_ifCond_gt {x : Int} {t : Int} (h : rg x) : s_x X d c (.ifCond .gt t :: is) (ls) (.int (iI x) :: st) m = if 0 < x then s_j X d c t ls st m else s_x X d c is (ls) (st) m := x_cd_gt (y := 0) ⟨h, by decide, by decide⟩
theorem x_if_icmp_gt {x y : Int} {t : Int} (h : rg x ∧ rg y) : s_x X d c (.if_icmp .gt t :: is) (ls) (.int (iI y) :: .int (iI x) :: st) m = if y < x then s_j X d c t ls st m else s_x X d c is (ls) (st) m := x_cd_gt (y := y) h
theorem x_ifCond_le {x : Int} {t : Int} (h : rg x) : s_x X d c (.ifCond .le t :: is) (ls) (.int (iI x) :: st) m = if 0 < x then s_x X d c is (ls) (st) m else s_j X d c t ls st m := x_cd_le (y := 0) ⟨h, by decide, by decide⟩
theorem x_if_icmp_le {x y : Int} {t : Int} (h : rg x ∧ rg y) : s_x X d c (.if_icmp .le t :: is) (ls) (.int (iI y) :: .int (iI x) :: st) m = if y < x then s_x X d c is (ls) (st) m else s_j X d c t ls st m := x_cd_le (y := y) h
theorem x_goto {t : Int} : s_x X d c (.goto t :: is) (ls) (st) m = s_j X d c t ls st m := rfl
theorem x_jsr {t : Int} : s_x X d c (.jsr t :: is) (ls) (st) m = s_j X d c t ls st m := rfl
theorem x_switch {x : Int32} {e : Int} {ps : Array (Int × Int)} : s_x X d c (.lookupswitch e ps :: is) (ls) (.int x :: st) m = e_sw (fun t => s_g X d c t ls st m) e ps.toList x := rfl
theorem x_ireturn {x : Int32} : s_x X d c (.ireturn :: is) (ls) ([.int x]) m = some ([.int x], m) := rfl
theorem x_zret0 : s_x X d c (.areturn :: is) (ls) ([.int (iI 0)]) m = some ([.int (iI 0)], m) := rfl
theorem x_zret1 : s_x X d c (.areturn :: is) (ls) ([.int (iI 1)]) m = some ([.int (iI 1)], m) := rfl
theorem x_zretb {p : Prop} [Decidable p] : s_x X d c (.areturn :: is) (ls) ([.int (iI (if p then 1 else 0))]) m = some ([.int (iI (if p then 1 else 0))], m) := by
  by_cases h : p
  · simp only [if_pos h]; rfl
  · simp only [if_neg h]; rfl
theorem x_zret {x : Int32} (h : x = 0 ∨ x = 1) : s_x X d c (.areturn :: is) (ls) ([.int x]) m = some ([.int x], m) := by
  rcases h with rfl | rfl <;> rfl
theorem x_cret {x : Int32} (h : (x.toUInt32 % 65536).toInt32 = x) : s_x X d c (.freturn :: is) (ls) ([.int x]) m = some ([.int x], m) := by
  show (if _ then _ else _) = _
  rw [if_pos h]
theorem x_bret {x : Int32} (h : x.toInt8.toInt32 = x) : s_x X d c (.dreturn :: is) (ls) ([.int x]) m = some ([.int x], m) := by
  show (if _ then _ else _) = _
  rw [if_pos h]
theorem x_lreturn {x : Int64} : s_x X d c (.lreturn :: is) (ls) ([.long x]) m = some ([.long x], m) := rfl
theorem x_return : s_x X d c (.return_ :: is) (ls) ([]) m = some ([], m) := rfl
theorem x_call1_0 {e : Nat} {v0 : Value} : s_x X d c (.invokeinterface e 1 :: is) (ls) ([v0]) m = e_k (s_S X d e [v0] m) (fun r q => s_x X d c is ls (r ++ []) q) := rfl
theorem x_call1_1 {e : Nat} {v0 s0 : Value} : s_x X d c (.invokeinterface e 1 :: is) (ls) ([v0, s0]) m = e_k (s_S X d e [v0] m) (fun r q => s_x X d c is ls (r ++ [s0]) q) := rfl
theorem x_call1_2 {e : Nat} {v0 s0 s1 : Value} : s_x X d c (.invokeinterface e 1 :: is) (ls) ([v0, s0, s1]) m = e_k (s_S X d e [v0] m) (fun r q => s_x X d c is ls (r ++ [s0, s1]) q) := rfl
theorem x_call1_3 {e : Nat} {v0 s0 s1 s2 : Value} : s_x X d c (.invokeinterface e 1 :: is) (ls) ([v0, s0, s1, s2]) m = e_k (s_S X d e [v0] m) (fun r q => s_x X d c is ls (r ++ [s0, s1, s2]) q) := rfl
theorem x_call1_4 {e : Nat} {v0 s0 s1 s2 s3 : Value} : s_x X d c (.invokeinterface e 1 :: is) (ls) ([v0, s0, s1, s2, s3]) m = e_k (s_S X d e [v0] m) (fun r q => s_x X d c is ls (r ++ [s0, s1, s2, s3]) q) := rfl
theorem x_call2_0 {e : Nat} {v0 v1 : Value} : s_x X d c (.invokeinterface e 2 :: is) (ls) ([v1, v0]) m = e_k (s_S X d e [v0, v1] m) (fun r q => s_x X d c is ls (r ++ []) q) := rfl
theorem x_call2_1 {e : Nat} {v0 v1 s0 : Value} : s_x X d c (.invokeinterface e 2 :: is) (ls) ([v1, v0, s0]) m = e_k (s_S X d e [v0, v1] m) (fun r q => s_x X d c is ls (r ++ [s0]) q) := rfl
theorem x_call2_2 {e : Nat} {v0 v1 s0 s1 : Value} : s_x X d c (.invokeinterface e 2 :: is) (ls) ([v1, v0, s0, s1]) m = e_k (s_S X d e [v0, v1] m) (fun r q => s_x X d c is ls (r ++ [s0, s1]) q) := rfl
theorem x_call2_3 {e : Nat} {v0 v1 s0 s1 s2 : Value} : s_x X d c (.invokeinterface e 2 :: is) (ls) ([v1, v0, s0, s1, s2]) m = e_k (s_S X d e [v0, v1] m) (fun r q => s_x X d c is ls (r ++ [s0, s1, s2]) q) := rfl
theorem x_call2_4 {e : Nat} {v0 v1 s0 s1 s2 s3 : Value} : s_x X d c (.invokeinterface e 2 :: is) (ls) ([v1, v0, s0, s1, s2, s3]) m = e_k (s_S X d e [v0, v1] m) (fun r q => s_x X d c is ls (r ++ [s0, s1, s2, s3]) q) := rfl
theorem x_call3_0 {e : Nat} {v0 v1 v2 : Value} : s_x X d c (.invokeinterface e 3 :: is) (ls) ([v2, v1, v0]) m = e_k (s_S X d e [v0, v1, v2] m) (fun r q => s_x X d c is ls (r ++ []) q) := rfl
theorem x_call3_1 {e : Nat} {v0 v1 v2 s0 : Value} : s_x X d c (.invokeinterface e 3 :: is) (ls) ([v2, v1, v0, s0]) m = e_k (s_S X d e [v0, v1, v2] m) (fun r q => s_x X d c is ls (r ++ [s0]) q) := rfl
theorem x_call3_2 {e : Nat} {v0 v1 v2 s0 s1 : Value} : s_x X d c (.invokeinterface e 3 :: is) (ls) ([v2, v1, v0, s0, s1]) m = e_k (s_S X d e [v0, v1, v2] m) (fun r q => s_x X d c is ls (r ++ [s0, s1]) q) := rfl
theorem x_call3_3 {e : Nat} {v0 v1 v2 s0 s1 s2 : Value} : s_x X d c (.invokeinterface e 3 :: is) (ls) ([v2, v1, v0, s0, s1, s2]) m = e_k (s_S X d e [v0, v1, v2] m) (fun r q => s_x X d c is ls (r ++ [s0, s1, s2]) q) := rfl
theorem x_call3_4 {e : Nat} {v0 v1 v2 s0 s1 s2 s3 : Value} : s_x X d c (.invokeinterface e 3 :: is) (ls) ([v2, v1, v0, s0, s1, s2, s3]) m = e_k (s_S X d e [v0, v1, v2] m) (fun r q => s_x X d c is ls (r ++ [s0, s1, s2, s3]) q) := rfl
theorem x_call4_0 {e : Nat} {v0 v1 v2 v3 : Value} : s_x X d c (.invokeinterface e 4 :: is) (ls) ([v3, v2, v1, v0]) m = e_k (s_S X d e [v0, v1, v2, v3] m) (fun r q => s_x X d c is ls (r ++ []) q) := rfl
theorem x_call4_1 {e : Nat} {v0 v1 v2 v3 s0 : Value} : s_x X d c (.invokeinterface e 4 :: is) (ls) ([v3, v2, v1, v0, s0]) m = e_k (s_S X d e [v0, v1, v2, v3] m) (fun r q => s_x X d c is ls (r ++ [s0]) q) := rfl
theorem x_call4_2 {e : Nat} {v0 v1 v2 v3 s0 s1 : Value} : s_x X d c (.invokeinterface e 4 :: is) (ls) ([v3, v2, v1, v0, s0, s1]) m = e_k (s_S X d e [v0, v1, v2, v3] m) (fun r q => s_x X d c is ls (r ++ [s0, s1]) q) := rfl
theorem x_call4_3 {e : Nat} {v0 v1 v2 v3 s0 s1 s2 : Value} : s_x X d c (.invokeinterface e 4 :: is) (ls) ([v3, v2, v1, v0, s0, s1, s2]) m = e_k (s_S X d e [v0, v1, v2, v3] m) (fun r q => s_x X d c is ls (r ++ [s0, s1, s2]) q) := rfl
theorem x_call4_4 {e : Nat} {v0 v1 v2 v3 s0 s1 s2 s3 : Value} : s_x X d c (.invokeinterface e 4 :: is) (ls) ([v3, v2, v1, v0, s0, s1, s2, s3]) m = e_k (s_S X d e [v0, v1, v2, v3] m) (fun r q => s_x X d c is ls (r ++ [s0, s1, s2, s3]) q) := rfl
theorem x_call5_0 {e : Nat} {v0 v1 v2 v3 v4 : Value} : s_x X d c (.invokeinterface e 5 :: is) (ls) ([v4, v3, v2, v1, v0]) m = e_k (s_S X d e [v0, v1, v2, v3, v4] m) (fun r q => s_x X d c is ls (r ++ []) q) := rfl
theorem x_call5_1 {e : Nat} {v0 v1 v2 v3 v4 s0 : Value} : s_x X d c (.invokeinterface e 5 :: is) (ls) ([v4, v3, v2, v1, v0, s0]) m = e_k (s_S X d e [v0, v1, v2, v3, v4] m) (fun r q => s_x X d c is ls (r ++ [s0]) q) := rfl
theorem x_call5_2 {e : Nat} {v0 v1 v2 v3 v4 s0 s1 : Value} : s_x X d c (.invokeinterface e 5 :: is) (ls) ([v4, v3, v2, v1, v0, s0, s1]) m = e_k (s_S X d e [v0, v1, v2, v3, v4] m) (fun r q => s_x X d c is ls (r ++ [s0, s1]) q) := rfl
theorem x_call5_3 {e : Nat} {v0 v1 v2 v3 v4 s0 s1 s2 : Value} : s_x X d c (.invokeinterface e 5 :: is) (ls) ([v4, v3, v2, v1, v0, s0, s1, s2]) m = e_k (s_S X d e [v0, v1, v2, v3, v4] m) (fun r q => s_x X d c is ls (r ++ [s0, s1, s2]) q) := rfl
theorem x_call5_4 {e : Nat} {v0 v1 v2 v3 v4 s0 s1 s2 s3 : Value} : s_x X d c (.invokeinterface e 5 :: is) (ls) ([v4, v3, v2, v1, v0, s0, s1, s2, s3]) m = e_k (s_S X d e [v0, v1, v2, v3, v4] m) (fun r q => s_x X d c is ls (r ++ [s0, s1, s2, s3]) q) := rfl
theorem x_call6_0 {e : Nat} {v0 v1 v2 v3 v4 v5 : Value} : s_x X d c (.invokeinterface e 6 :: is) (ls) ([v5, v4, v3, v2, v1, v0]) m = e_k (s_S X d e [v0, v1, v2, v3, v4, v5] m) (fun r q => s_x X d c is ls (r ++ []) q) := rfl
theorem x_call6_1 {e : Nat} {v0 v1 v2 v3 v4 v5 s0 : Value} : s_x X d c (.invokeinterface e 6 :: is) (ls) ([v5, v4, v3, v2, v1, v0, s0]) m = e_k (s_S X d e [v0, v1, v2, v3, v4, v5] m) (fun r q => s_x X d c is ls (r ++ [s0]) q) := rfl
theorem x_call6_2 {e : Nat} {v0 v1 v2 v3 v4 v5 s0 s1 : Value} : s_x X d c (.invokeinterface e 6 :: is) (ls) ([v5, v4, v3, v2, v1, v0, s0, s1]) m = e_k (s_S X d e [v0, v1, v2, v3, v4, v5] m) (fun r q => s_x X d c is ls (r ++ [s0, s1]) q) := rfl
theorem x_call6_3 {e : Nat} {v0 v1 v2 v3 v4 v5 s0 s1 s2 : Value} : s_x X d c (.invokeinterface e 6 :: is) (ls) ([v5, v4, v3, v2, v1, v0, s0, s1, s2]) m = e_k (s_S X d e [v0, v1, v2, v3, v4, v5] m) (fun r q => s_x X d c is ls (r ++ [s0, s1, s2]) q) := rfl
theorem x_call6_4 {e : Nat} {v0 v1 v2 v3 v4 v5 s0 s1 s2 s3 : Value} : s_x X d c (.invokeinterface e 6 :: is) (ls) ([v5, v4, v3, v2, v1, v0, s0, s1, s2, s3]) m = e_k (s_S X d e [v0, v1, v2, v3, v4, v5] m) (fun r q => s_x X d c is ls (r ++ [s0, s1, s2, s3]) q) := rfl
theorem x_fload0 : s_x X d c (.fload 0 :: is) (ls) (.ref 1002 :: st) m = s_x X d c is (ls) (.ref 1003 :: st) m := rfl
theorem x_fload1 : s_x X d c (.fload 1 :: is) (ls) (.ref 1002 :: st) m = s_x X d c is (ls) (.int (iI 0) :: st) m := rfl
theorem x_fmul : s_x X d c (.fmul :: is) (ls) (.ref 1003 :: st) m = s_x X d c is (ls) (.int (iI 98) :: st) m := rfl
theorem x_fsub : s_x X d c (.fsub :: is) (ls) (.ref 1001 :: st) m = s_x X d c is (ls) (.int (iI 6) :: st) m := rfl
theorem x_fadd : s_x X d c (.fadd :: is) (ls) (.ref 1000 :: st) m = s_x X d c is (ls) (.int (Int32.ofNat X.1) :: st) m := rfl
theorem x_gets0 : s_x X d c (.getstatic 0 :: is) (ls) (st) m = s_x X d c is (ls) (.ref 1001 :: st) m := rfl
theorem x_gets1 : s_x X d c (.getstatic 1 :: is) (ls) (st) m = s_x X d c is (ls) (.int (iI 1) :: st) m := rfl
theorem x_gets2 : s_x X d c (.getstatic 2 :: is) (ls) (st) m = s_x X d c is (ls) (.retAddr 1 :: st) m := rfl
theorem x_gets3 : s_x X d c (.getstatic 3 :: is) (ls) (st) m = s_x X d c is (ls) (.ref 1002 :: st) m := rfl
theorem x_daload {z : Int} (h : 0 ≤ z ∧ z < 6) : s_x X d c (.daload :: is) (ls) (.int (iI z) :: .ref 1001 :: st) m = s_x X d c is (ls) (.int (iI (iabv z)) :: st) m := by
  obtain ⟨k, rfl⟩ := Int.eq_ofNat_of_zero_le h.1
  have : k = 0 ∨ k = 1 ∨ k = 2 ∨ k = 3 ∨ k = 4 ∨ k = 5 := by omega
  rcases this with rfl | rfl | rfl | rfl | rfl | rfl <;> rfl
end
