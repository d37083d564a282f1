/-! STEPS of the evaluator over this program, as rows for simp -/
/-- an int by its value -/
def iI (z : Int) : Int32 := Int32.ofInt z
noncomputable def s_S (X : e_X) (d c : Nat) (as : List Value) (m : e_M) : e_R := e_S g_P g_mx X d c as m
noncomputable def s_g (X : e_X) (d c l : Nat) (ls st : List Value) (m : e_M) : e_R := e_go g_P X (s_S X d) c l ls st m
/-- a jump -/
noncomputable def s_j (X : e_X) (d c : Nat) (t : Int) (ls st : List Value) (m : e_M) : e_R := s_g X d c t.toNat ls st m
noncomputable def s_x (X : e_X) (d c : Nat) (is : List Instr) (ls st : List Value) (m : e_M) : e_R := e_x X (s_S X d) (s_g X d c) is ls st m
theorem s_g_eq {X : e_X} {d c l : Nat} {ls st : List Value} {m : e_M} : s_g X d c l ls st m = s_x X d c (g_P c l) ls st m := e_go_eq _ _ _ _ _ _
/-- not a long -/
def e_nl : Value → Bool
  | .long _ => false
  | _ => true
/-- behind a call -/
def e_k (r : e_R) (f : List Value → e_M → e_R) : e_R := match r with
  | some (v, m) => f v m
  | none => none
theorem e_k_s {v : List Value} {m : e_M} {f : List Value → e_M → e_R} : e_k (some (v, m)) f = f v m := rfl
theorem e_nl_i {x : Int32} : e_nl (.int x) = true := rfl
theorem e_nl_r {x : Nat} : e_nl (.ref x) = true := rfl
theorem e_nl_u {x : Nat} : e_nl (.retAddr x) = true := rfl
theorem e_sw_n {X : e_X} {d c : Nat} {ls st : List Value} {m : e_M} {e : Int} {x : Int32} : e_sw (fun t => s_g X d c t ls st m) e [] x = s_j X d c e ls st m := rfl
theorem e_sw_c {X : e_X} {d c : Nat} {ls st : List Value} {m : e_M} {e a t : Int} {r : List (Int × Int)} {x : Int32} : e_sw (fun t => s_g X d c t ls st m) e ((a, t) :: r) x = if x.toInt = a then s_j X d c t ls st m else e_sw (fun t => s_g X d c t ls st m) e r x := rfl
theorem e_rf_0 : e_rf 0 = .null := rfl
theorem e_rf_s {n : Nat} : e_rf (n + 1) = .ref n := rfl
section
variable {X : e_X} {d c : Nat} {is : List Instr} {ls l st r : List Value} {m : e_M}
theorem x_sipush {v : Int} : s_x X d c (.sipush v :: is) (ls) (st) m = s_x X d c is (ls) (.int (iI v) :: st) m := rfl
theorem x_lconst {v : Int} : s_x X d c (.goto_w v :: is) (ls) (st) m = s_x X d c is (ls) (.long (Int64.ofInt v) :: st) m := rfl
theorem x_iload0 {x : Int32} : s_x X d c (.iload 0 :: is) (.int x :: l) (st) m = s_x X d c is (.int x :: l) (.int x :: st) m := rfl
theorem x_aload0 {x : Nat} : s_x X d c (.aload 0 :: is) (.ref x :: l) (st) m = s_x X d c is (.ref x :: l) (.ref x :: st) m := rfl
theorem x_lload0 {x : Int64} : s_x X d c (.lload 0 :: is) (.long x :: l) (st) m = s_x X d c is (.long x :: l) (.long x :: st) m := rfl
theorem x_istore0 {x : Int32} {w : Value} : s_x X d c (.istore 0 :: is) (w :: l) (.int x :: st) m = s_x X d c is (.int x :: l) (st) m := rfl
theorem x_astore0 {x : Nat} {w : Value} : s_x X d c (.astore 0 :: is) (w :: l) (.ref x :: st) m = s_x X d c is (.ref x :: l) (st) m := rfl
theorem x_lstore0 {x : Int64} {w w2 : Value} : s_x X d c (.lstore 0 :: is) (w :: w2 :: l) (.long x :: st) m = s_x X d c is (.long x :: .retAddr 0 :: l) (st) m := rfl
theorem x_iinc0 {x : Int32} {v : Int} : s_x X d c (.iinc 0 v :: is) (.int x :: l) (st) m = s_x X d c is (.int (x + iI v) :: l) (st) m := rfl
theorem x_iload1 {b0 : Value} {x : Int32} : s_x X d c (.iload 1 :: is) (b0 :: .int x :: l) (st) m = s_x X d c is (b0 :: .int x :: l) (.int x :: st) m := rfl
theorem x_aload1 {b0 : Value} {x : Nat} : s_x X d c (.aload 1 :: is) (b0 :: .ref x :: l) (st) m = s_x X d c is (b0 :: .ref x :: l) (.ref x :: st) m := rfl
theorem x_lload1 {b0 : Value} {x : Int64} : s_x X d c (.lload 1 :: is) (b0 :: .long x :: l) (st) m = s_x X d c is (b0 :: .long x :: l) (.long x :: st) m := rfl
theorem x_istore1i {p : Int32} {x : Int32} {w : Value} : s_x X d c (.istore 1 :: is) (.int p :: w :: l) (.int x :: st) m = s_x X d c is (.int p :: .int x :: l) (st) m := rfl
theorem x_astore1i {p : Int32} {x : Nat} {w : Value} : s_x X d c (.astore 1 :: is) (.int p :: w :: l) (.ref x :: st) m = s_x X d c is (.int p :: .ref x :: l) (st) m := rfl
theorem x_lstore1i {p : Int32} {x : Int64} {w w2 : Value} : s_x X d c (.lstore 1 :: is) (.int p :: w :: w2 :: l) (.long x :: st) m = s_x X d c is (.int p :: .long x :: .retAddr 0 :: l) (st) m := rfl
theorem x_iinc1i {p : Int32} {x : Int32} {v : Int} : s_x X d c (.iinc 1 v :: is) (.int p :: .int x :: l) (st) m = s_x X d c is (.int p :: .int (x + iI v) :: l) (st) m := rfl
theorem x_istore1r {p : Nat} {x : Int32} {w : Value} : s_x X d c (.istore 1 :: is) (.ref p :: w :: l) (.int x :: st) m = s_x X d c is (.ref p :: .int x :: l) (st) m := rfl
theorem x_astore1r {p : Nat} {x : Nat} {w : Value} : s_x X d c (.astore 1 :: is) (.ref p :: w :: l) (.ref x :: st) m = s_x X d c is (.ref p :: .ref x :: l) (st) m := rfl
theorem x_lstore1r {p : Nat} {x : Int64} {w w2 : Value} : s_x X d c (.lstore 1 :: is) (.ref p :: w :: w2 :: l) (.long x :: st) m = s_x X d c is (.ref p :: .long x :: .retAddr 0 :: l) (st) m := rfl
theorem x_iinc1r {p : Nat} {x : Int32} {v : Int} : s_x X d c (.iinc 1 v :: is) (.ref p :: .int x :: l) (st) m = s_x X d c is (.ref p :: .int (x + iI v) :: l) (st) m := rfl
theorem x_istore1u {p : Nat} {x : Int32} {w : Value} : s_x X d c (.istore 1 :: is) (.retAddr p :: w :: l) (.int x :: st) m = s_x X d c is (.retAddr p :: .int x :: l) (st) m := rfl
theorem x_astore1u {p : Nat} {x : Nat} {w : Value} : s_x X d c (.astore 1 :: is) (.retAddr p :: w :: l) (.ref x :: st) m = s_x X d c is (.retAddr p :: .ref x :: l) (st) m := rfl
theorem x_lstore1u {p : Nat} {x : Int64} {w w2 : Value} : s_x X d c (.lstore 1 :: is) (.retAddr p :: w :: w2 :: l) (.long x :: st) m = s_x X d c is (.retAddr p :: .long x :: .retAddr 0 :: l) (st) m := rfl
theorem x_iinc1u {p : Nat} {x : Int32} {v : Int} : s_x X d c (.iinc 1 v :: is) (.retAddr p :: .int x :: l) (st) m = s_x X d c is (.retAddr p :: .int (x + iI v) :: l) (st) m := rfl
theorem x_iload2 {b0 b1 : Value} {x : Int32} : s_x X d c (.iload 2 :: is) (b0 :: b1 :: .int x :: l) (st) m = s_x X d c is (b0 :: b1 :: .int x :: l) (.int x :: st) m := rfl
theorem x_aload2 {b0 b1 : Value} {x : Nat} : s_x X d c (.aload 2 :: is) (b0 :: b1 :: .ref x :: l) (st) m = s_x X d c is (b0 :: b1 :: .ref x :: l) (.ref x :: st) m := rfl
theorem x_lload2 {b0 b1 : Value} {x : Int64} : s_x X d c (.lload 2 :: is) (b0 :: b1 :: .long x :: l) (st) m = s_x X d c is (b0 :: b1 :: .long x :: l) (.long x :: st) m := rfl
theorem x_istore2i {b0 : Value} {p : Int32} {x : Int32} {w : Value} : s_x X d c (.istore 2 :: is) (b0 :: .int p :: w :: l) (.int x :: st) m = s_x X d c is (b0 :: .int p :: .int x :: l) (st) m := rfl
theorem x_astore2i {b0 : Value} {p : Int32} {x : Nat} {w : Value} : s_x X d c (.astore 2 :: is) (b0 :: .int p :: w :: l) (.ref x :: st) m = s_x X d c is (b0 :: .int p :: .ref x :: l) (st) m := rfl
theorem x_lstore2i {b0 : Value} {p : Int32} {x : Int64} {w w2 : Value} : s_x X d c (.lstore 2 :: is) (b0 :: .int p :: w :: w2 :: l) (.long x :: st) m = s_x X d c is (b0 :: .int p :: .long x :: .retAddr 0 :: l) (st) m := rfl
theorem x_iinc2i {b0 : Value} {p : Int32} {x : Int32} {v : Int} : s_x X d c (.iinc 2 v :: is) (b0 :: .int p :: .int x :: l) (st) m = s_x X d c is (b0 :: .int p :: .int (x + iI v) :: l) (st) m := rfl
theorem x_istore2r {b0 : Value} {p : Nat} {x : Int32} {w : Value} : s_x X d c (.istore 2 :: is) (b0 :: .ref p :: w :: l) (.int x :: st) m = s_x X d c is (b0 :: .ref p :: .int x :: l) (st) m := rfl
theorem x_astore2r {b0 : Value} {p : Nat} {x : Nat} {w : Value} : s_x X d c (.astore 2 :: is) (b0 :: .ref p :: w :: l) (.ref x :: st) m = s_x X d c is (b0 :: .ref p :: .ref x :: l) (st) m := rfl
theorem x_lstore2r {b0 : Value} {p : Nat} {x : Int64} {w w2 : Value} : s_x X d c (.lstore 2 :: is) (b0 :: .ref p :: w :: w2 :: l) (.long x :: st) m = s_x X d c is (b0 :: .ref p :: .long x :: .retAddr 0 :: l) (st) m := rfl
theorem x_iinc2r {b0 : Value} {p : Nat} {x : Int32} {v : Int} : s_x X d c (.iinc 2 v :: is) (b0 :: .ref p :: .int x :: l) (st) m = s_x X d c is (b0 :: .ref p :: .int (x + iI v) :: l) (st) m := rfl
theorem x_istore2u {b0 : Value} {p : Nat} {x : Int32} {w : Value} : s_x X d c (.istore 2 :: is) (b0 :: .retAddr p :: w :: l) (.int x :: st) m = s_x X d c is (b0 :: .retAddr p :: .int x :: l) (st) m := rfl
theorem x_astore2u {b0 : Value} {p : Nat} {x : Nat} {w : Value} : s_x X d c (.astore 2 :: is) (b0 :: .retAddr p :: w :: l) (.ref x :: st) m = s_x X d c is (b0 :: .retAddr p :: .ref x :: l) (st) m := rfl
theorem x_lstore2u {b0 : Value} {p : Nat} {x : Int64} {w w2 : Value} : s_x X d c (.lstore 2 :: is) (b0 :: .retAddr p :: w :: w2 :: l) (.long x :: st) m = s_x X d c is (b0 :: .retAddr p :: .long x :: .retAddr 0 :: l) (st) m := rfl
theorem x_iinc2u {b0 : Value} {p : Nat} {x : Int32} {v : Int} : s_x X d c (.iinc 2 v :: is) (b0 :: .retAddr p :: .int x :: l) (st) m = s_x X d c is (b0 :: .retAddr p :: .int (x + iI v) :: l) (st) m := rfl
theorem x_iload3 {b0 b1 b2 : Value} {x : Int32} : s_x X d c (.iload 3 :: is) (b0 :: b1 :: b2 :: .int x :: l) (st) m = s_x X d c is (b0 :: b1 :: b2 :: .int x :: l) (.int x :: st) m := rfl
theorem x_aload3 {b0 b1 b2 : Value} {x : Nat} : s_x X d c (.aload 3 :: is) (b0 :: b1 :: b2 :: .ref x :: l) (st) m = s_x X d c is (b0 :: b1 :: b2 :: .ref x :: l) (.ref x :: st) m := rfl
theorem x_lload3 {b0 b1 b2 : Value} {x : Int64} : s_x X d c (.lload 3 :: is) (b0 :: b1 :: b2 :: .long x :: l) (st) m = s_x X d c is (b0 :: b1 :: b2 :: .long x :: l) (.long x :: st) m := rfl
theorem x_istore3i {b0 b1 : Value} {p : Int32} {x : Int32} {w : Value} : s_x X d c (.istore 3 :: is) (b0 :: b1 :: .int p :: w :: l) (.int x :: st) m = s_x X d c is (b0 :: b1 :: .int p :: .int x :: l) (st) m := rfl
theorem x_astore3i {b0 b1 : Value} {p : Int32} {x : Nat} {w : Value} : s_x X d c (.astore 3 :: is) (b0 :: b1 :: .int p :: w :: l) (.ref x :: st) m = s_x X d c is (b0 :: b1 :: .int p :: .ref x :: l) (st) m := rfl
theorem x_lstore3i {b0 b1 : Value} {p : Int32} {x : Int64} {w w2 : Value} : s_x X d c (.lstore 3 :: is) (b0 :: b1 :: .int p :: w :: w2 :: l) (.long x :: st) m = s_x X d c is (b0 :: b1 :: .int p :: .long x :: .retAddr 0 :: l) (st) m := rfl
theorem x_iinc3i {b0 b1 : Value} {p : Int32} {x : Int32} {v : Int} : s_x X d c (.iinc 3 v :: is) (b0 :: b1 :: .int p :: .int x :: l) (st) m = s_x X d c is (b0 :: b1 :: .int p :: .int (x + iI v) :: l) (st) m := rfl
theorem x_istore3r {b0 b1 : Value} {p : Nat} {x : Int32} {w : Value} : s_x X d c (.istore 3 :: is) (b0 :: b1 :: .ref p :: w :: l) (.int x :: st) m = s_x X d c is (b0 :: b1 :: .ref p :: .int x :: l) (st) m := rfl
theorem x_astore3r {b0 b1 : Value} {p : Nat} {x : Nat} {w : Value} : s_x X d c (.astore 3 :: is) (b0 :: b1 :: .ref p :: w :: l) (.ref x :: st) m = s_x X d c is (b0 :: b1 :: .ref p :: .ref x :: l) (st) m := rfl
theorem x_lstore3r {b0 b1 : Value} {p : Nat} {x : Int64} {w w2 : Value} : s_x X d c (.lstore 3 :: is) (b0 :: b1 :: .ref p :: w :: w2 :: l) (.long x :: st) m = s_x X d c is (b0 :: b1 :: .ref p :: .long x :: .retAddr 0 :: l) (st) m := rfl
theorem x_iinc3r {b0 b1 : Value} {p : Nat} {x : Int32} {v : Int} : s_x X d c (.iinc 3 v :: is) (b0 :: b1 :: .ref p :: .int x :: l) (st) m = s_x X d c is (b0 :: b1 :: .ref p :: .int (x + iI v) :: l) (st) m := rfl
theorem x_istore3u {b0 b1 : Value} {p : Nat} {x : Int32} {w : Value} : s_x X d c (.istore 3 :: is) (b0 :: b1 :: .retAddr p :: w :: l) (.int x :: st) m = s_x X d c is (b0 :: b1 :: .retAddr p :: .int x :: l) (st) m := rfl
theorem x_astore3u {b0 b1 : Value} {p : Nat} {x : Nat} {w : Value} : s_x X d c (.astore 3 :: is) (b0 :: b1 :: .retAddr p :: w :: l) (.ref x :: st) m = s_x X d c is (b0 :: b1 :: .retAddr p :: .ref x :: l) (st) m := rfl
theorem x_lstore3u {b0 b1 : Value} {p : Nat} {x : Int64} {w w2 : Value} : s_x X d c (.lstore 3 :: is) (b0 :: b1 :: .retAddr p :: w :: w2 :: l) (.long x :: st) m = s_x X d c is (b0 :: b1 :: .retAddr p :: .long x :: .retAddr 0 :: l) (st) m := rfl
theorem x_iinc3u {b0 b1 : Value} {p : Nat} {x : Int32} {v : Int} : s_x X d c (.iinc 3 v :: is) (b0 :: b1 :: .retAddr p :: .int x :: l) (st) m = s_x X d c is (b0 :: b1 :: .retAddr p :: .int (x + iI v) :: l) (st) m := rfl
theorem x_iload4 {b0 b1 b2 b3 : Value} {x : Int32} : s_x X d c (.iload 4 :: is) (b0 :: b1 :: b2 :: b3 :: .int x :: l) (st) m = s_x X d c is (b0 :: b1 :: b2 :: b3 :: .int x :: l) (.int x :: st) m := rfl
theorem x_aload4 {b0 b1 b2 b3 : Value} {x : Nat} : s_x X d c (.aload 4 :: is) (b0 :: b1 :: b2 :: b3 :: .ref x :: l) (st) m = s_x X d c is (b0 :: b1 :: b2 :: b3 :: .ref x :: l) (.ref x :: st) m := rfl
theorem x_lload4 {b0 b1 b2 b3 : Value} {x : Int64} : s_x X d c (.lload 4 :: is) (b0 :: b1 :: b2 :: b3 :: .long x :: l) (st) m = s_x X d c is (b0 :: b1 :: b2 :: b3 :: .long x :: l) (.long x :: st) m := rfl
theorem x_istore4i {b0 b1 b2 : Value} {p : Int32} {x : Int32} {w : Value} : s_x X d c (.istore 4 :: is) (b0 :: b1 :: b2 :: .int p :: w :: l) (.int x :: st) m = s_x X d c is (b0 :: b1 :: b2 :: .int p :: .int x :: l) (st) m := rfl
theorem x_astore4i {b0 b1 b2 : Value} {p : Int32} {x : Nat} {w : Value} : s_x X d c (.astore 4 :: is) (b0 :: b1 :: b2 :: .int p :: w :: l) (.ref x :: st) m = s_x X d c is (b0 :: b1 :: b2 :: .int p :: .ref x :: l) (st) m := rfl
theorem x_lstore4i {b0 b1 b2 : Value} {p : Int32} {x : Int64} {w w2 : Value} : s_x X d c (.lstore 4 :: is) (b0 :: b1 :: b2 :: .int p :: w :: w2 :: l) (.long x :: st) m = s_x X d c is (b0 :: b1 :: b2 :: .int p :: .long x :: .retAddr 0 :: l) (st) m := rfl
theorem x_iinc4i {b0 b1 b2 : Value} {p : Int32} {x : Int32} {v : Int} : s_x X d c (.iinc 4 v :: is) (b0 :: b1 :: b2 :: .int p :: .int x :: l) (st) m = s_x X d c is (b0 :: b1 :: b2 :: .int p :: .int (x + iI v) :: l) (st) m := rfl
theorem x_istore4r {b0 b1 b2 : Value} {p : Nat} {x : Int32} {w : Value} : s_x X d c (.istore 4 :: is) (b0 :: b1 :: b2 :: .ref p :: w :: l) (.int x :: st) m = s_x X d c is (b0 :: b1 :: b2 :: .ref p :: .int x :: l) (st) m := rfl
theorem x_astore4r {b0 b1 b2 : Value} {p : Nat} {x : Nat} {w : Value} : s_x X d c (.astore 4 :: is) (b0 :: b1 :: b2 :: .ref p :: w :: l) (.ref x :: st) m = s_x X d c is (b0 :: b1 :: b2 :: .ref p :: .ref x :: l) (st) m := rfl
theorem x_lstore4r {b0 b1 b2 : Value} {p : Nat} {x : Int64} {w w2 : Value} : s_x X d c (.lstore 4 :: is) (b0 :: b1 :: b2 :: .ref p :: w :: w2 :: l) (.long x :: st) m = s_x X d c is (b0 :: b1 :: b2 :: .ref p :: .long x :: .retAddr 0 :: l) (st) m := rfl
theorem x_iinc4r {b0 b1 b2 : Value} {p : Nat} {x : Int32} {v : Int} : s_x X d c (.iinc 4 v :: is) (b0 :: b1 :: b2 :: .ref p :: .int x :: l) (st) m = s_x X d c is (b0 :: b1 :: b2 :: .ref p :: .int (x + iI v) :: l) (st) m := rfl
theorem x_istore4u {b0 b1 b2 : Value} {p : Nat} {x : Int32} {w : Value} : s_x X d c (.istore 4 :: is) (b0 :: b1 :: b2 :: .retAddr p :: w :: l) (.int x :: st) m = s_x X d c is (b0 :: b1 :: b2 :: .retAddr p :: .int x :: l) (st) m := rfl
theorem x_astore4u {b0 b1 b2 : Value} {p : Nat} {x : Nat} {w : Value} : s_x X d c (.astore 4 :: is) (b0 :: b1 :: b2 :: .retAddr p :: w :: l) (.ref x :: st) m = s_x X d c is (b0 :: b1 :: b2 :: .retAddr p :: .ref x :: l) (st) m := rfl
theorem x_lstore4u {b0 b1 b2 : Value} {p : Nat} {x : Int64} {w w2 : Value} : s_x X d c (.lstore 4 :: is) (b0 :: b1 :: b2 :: .retAddr p :: w :: w2 :: l) (.long x :: st) m = s_x X d c is (b0 :: b1 :: b2 :: .retAddr p :: .long x :: .retAddr 0 :: l) (st) m := rfl
theorem x_iinc4u {b0 b1 b2 : Value} {p : Nat} {x : Int32} {v : Int} : s_x X d c (.iinc 4 v :: is) (b0 :: b1 :: b2 :: .retAddr p :: .int x :: l) (st) m = s_x X d c is (b0 :: b1 :: b2 :: .retAddr p :: .int (x + iI v) :: l) (st) m := rfl
theorem x_iload5 {b0 b1 b2 b3 b4 : Value} {x : Int32} : s_x X d c (.iload 5 :: is) (b0 :: b1 :: b2 :: b3 :: b4 :: .int x :: l) (st) m = s_x X d c is (b0 :: b1 :: b2 :: b3 :: b4 :: .int x :: l) (.int x :: st) m := rfl
theorem x_aload5 {b0 b1 b2 b3 b4 : Value} {x : Nat} : s_x X d c (.aload 5 :: is) (b0 :: b1 :: b2 :: b3 :: b4 :: .ref x :: l) (st) m = s_x X d c is (b0 :: b1 :: b2 :: b3 :: b4 :: .ref x :: l) (.ref x :: st) m := rfl
theorem x_lload5 {b0 b1 b2 b3 b4 : Value} {x : Int64} : s_x X d c (.lload 5 :: is) (b0 :: b1 :: b2 :: b3 :: b4 :: .long x :: l) (st) m = s_x X d c is (b0 :: b1 :: b2 :: b3 :: b4 :: .long x :: l) (.long x :: st) m := rfl
theorem x_istore5i {b0 b1 b2 b3 : Value} {p : Int32} {x : Int32} {w : Value} : s_x X d c (.istore 5 :: is) (b0 :: b1 :: b2 :: b3 :: .int p :: w :: l) (.int x :: st) m = s_x X d c is (b0 :: b1 :: b2 :: b3 :: .int p :: .int x :: l) (st) m := rfl
theorem x_astore5i {b0 b1 b2 b3 : Value} {p : Int32} {x : Nat} {w : Value} : s_x X d c (.astore 5 :: is) (b0 :: b1 :: b2 :: b3 :: .int p :: w :: l) (.ref x :: st) m = s_x X d c is (b0 :: b1 :: b2 :: b3 :: .int p :: .ref x :: l) (st) m := rfl
theorem x_lstore5i {b0 b1 b2 b3 : Value} {p : Int32} {x : Int64} {w w2 : Value} : s_x X d c (.lstore 5 :: is) (b0 :: b1 :: b2 :: b3 :: .int p :: w :: w2 :: l) (.long x :: st) m = s_x X d c is (b0 :: b1 :: b2 :: b3 :: .int p :: .long x :: .retAddr 0 :: l) (st) m := rfl
theorem x_iinc5i {b0 b1 b2 b3 : Value} {p : Int32} {x : Int32} {v : Int} : s_x X d c (.iinc 5 v :: is) (b0 :: b1 :: b2 :: b3 :: .int p :: .int x :: l) (st) m = s_x X d c is (b0 :: b1 :: b2 :: b3 :: .int p :: .int (x + iI v) :: l) (st) m := rfl
theorem x_istore5r {b0 b1 b2 b3 : Value} {p : Nat} {x : Int32} {w : Value} : s_x X d c (.istore 5 :: is) (b0 :: b1 :: b2 :: b3 :: .ref p :: w :: l) (.int x :: st) m = s_x X d c is (b0 :: b1 :: b2 :: b3 :: .ref p :: .int x :: l) (st) m := rfl
theorem x_astore5r {b0 b1 b2 b3 : Value} {p : Nat} {x : Nat} {w : Value} : s_x X d c (.astore 5 :: is) (b0 :: b1 :: b2 :: b3 :: .ref p :: w :: l) (.ref x :: st) m = s_x X d c is (b0 :: b1 :: b2 :: b3 :: .ref p :: .ref x :: l) (st) m := rfl
theorem x_lstore5r {b0 b1 b2 b3 : Value} {p : Nat} {x : Int64} {w w2 : Value} : s_x X d c (.lstore 5 :: is) (b0 :: b1 :: b2 :: b3 :: .ref p :: w :: w2 :: l) (.long x :: st) m = s_x X d c is (b0 :: b1 :: b2 :: b3 :: .ref p :: .long x :: .retAddr 0 :: l) (st) m := rfl
theorem x_iinc5r {b0 b1 b2 b3 : Value} {p : Nat} {x : Int32} {v : Int} : s_x X d c (.iinc 5 v :: is) (b0 :: b1 :: b2 :: b3 :: .ref p :: .int x :: l) (st) m = s_x X d c is (b0 :: b1 :: b2 :: b3 :: .ref p :: .int (x + iI v) :: l) (st) m := rfl
theorem x_istore5u {b0 b1 b2 b3 : Value} {p : Nat} {x : Int32} {w : Value} : s_x X d c (.istore 5 :: is) (b0 :: b1 :: b2 :: b3 :: .retAddr p :: w :: l) (.int x :: st) m = s_x X d c is (b0 :: b1 :: b2 :: b3 :: .retAddr p :: .int x :: l) (st) m := rfl
theorem x_astore5u {b0 b1 b2 b3 : Value} {p : Nat} {x : Nat} {w : Value} : s_x X d c (.astore 5 :: is) (b0 :: b1 :: b2 :: b3 :: .retAddr p :: w :: l) (.ref x :: st) m = s_x X d c is (b0 :: b1 :: b2 :: b3 :: .retAddr p :: .ref x :: l) (st) m := rfl
theorem x_lstore5u {b0 b1 b2 b3 : Value} {p : Nat} {x : Int64} {w w2 : Value} : s_x X d c (.lstore 5 :: is) (b0 :: b1 :: b2 :: b3 :: .retAddr p :: w :: w2 :: l) (.long x :: st) m = s_x X d c is (b0 :: b1 :: b2 :: b3 :: .retAddr p :: .long x :: .retAddr 0 :: l) (st) m := rfl
theorem x_iinc5u {b0 b1 b2 b3 : Value} {p : Nat} {x : Int32} {v : Int} : s_x X d c (.iinc 5 v :: is) (b0 :: b1 :: b2 :: b3 :: .retAddr p :: .int x :: l) (st) m = s_x X d c is (b0 :: b1 :: b2 :: b3 :: .retAddr p :: .int (x + iI v) :: l) (st) m := rfl
theorem x_iload6 {b0 b1 b2 b3 b4 b5 : Value} {x : Int32} : s_x X d c (.iload 6 :: is) (b0 :: b1 :: b2 :: b3 :: b4 :: b5 :: .int x :: l) (st) m = s_x X d c is (b0 :: b1 :: b2 :: b3 :: b4 :: b5 :: .int x :: l) (.int x :: st) m := rfl
theorem x_aload6 {b0 b1 b2 b3 b4 b5 : Value} {x : Nat} : s_x X d c (.aload 6 :: is) (b0 :: b1 :: b2 :: b3 :: b4 :: b5 :: .ref x :: l) (st) m = s_x X d c is (b0 :: b1 :: b2 :: b3 :: b4 :: b5 :: .ref x :: l) (.ref x :: st) m := rfl
theorem x_lload6 {b0 b1 b2 b3 b4 b5 : Value} {x : Int64} : s_x X d c (.lload 6 :: is) (b0 :: b1 :: b2 :: b3 :: b4 :: b5 :: .long x :: l) (st) m = s_x X d c is (b0 :: b1 :: b2 :: b3 :: b4 :: b5 :: .long x :: l) (.long x :: st) m := rfl
theorem x_istore6i {b0 b1 b2 b3 b4 : Value} {p : Int32} {x : Int32} {w : Value} : s_x X d c (.istore 6 :: is) (b0 :: b1 :: b2 :: b3 :: b4 :: .int p :: w :: l) (.int x :: st) m = s_x X d c is (b0 :: b1 :: b2 :: b3 :: b4 :: .int p :: .int x :: l) (st) m := rfl
theorem x_astore6i {b0 b1 b2 b3 b4 : Value} {p : Int32} {x : Nat} {w : Value} : s_x X d c (.astore 6 :: is) (b0 :: b1 :: b2 :: b3 :: b4 :: .int p :: w :: l) (.ref x :: st) m = s_x X d c is (b0 :: b1 :: b2 :: b3 :: b4 :: .int p :: .ref x :: l) (st) m := rfl
theorem x_lstore6i {b0 b1 b2 b3 b4 : Value} {p : Int32} {x : Int64} {w w2 : Value} : s_x X d c (.lstore 6 :: is) (b0 :: b1 :: b2 :: b3 :: b4 :: .int p :: w :: w2 :: l) (.long x :: st) m = s_x X d c is (b0 :: b1 :: b2 :: b3 :: b4 :: .int p :: .long x :: .retAddr 0 :: l) (st) m := rfl
theorem x_iinc6i {b0 b1 b2 b3 b4 : Value} {p : Int32} {x : Int32} {v : Int} : s_x X d c (.iinc 6 v :: is) (b0 :: b1 :: b2 :: b3 :: b4 :: .int p :: .int x :: l) (st) m = s_x X d c is (b0 :: b1 :: b2 :: b3 :: b4 :: .int p :: .int (x + iI v) :: l) (st) m := rfl
theorem x_istore6r {b0 b1 b2 b3 b4 : Value} {p : Nat} {x : Int32} {w : Value} : s_x X d c (.istore 6 :: is) (b0 :: b1 :: b2 :: b3 :: b4 :: .ref p :: w :: l) (.int x :: st) m = s_x X d c is (b0 :: b1 :: b2 :: b3 :: b4 :: .ref p :: .int x :: l) (st) m := rfl
theorem x_astore6r {b0 b1 b2 b3 b4 : Value} {p : Nat} {x : Nat} {w : Value} : s_x X d c (.astore 6 :: is) (b0 :: b1 :: b2 :: b3 :: b4 :: .ref p :: w :: l) (.ref x :: st) m = s_x X d c is (b0 :: b1 :: b2 :: b3 :: b4 :: .ref p :: .ref x :: l) (st) m := rfl
theorem x_lstore6r {b0 b1 b2 b3 b4 : Value} {p : Nat} {x : Int64} {w w2 : Value} : s_x X d c (.lstore 6 :: is) (b0 :: b1 :: b2 :: b3 :: b4 :: .ref p :: w :: w2 :: l) (.long x :: st) m = s_x X d c is (b0 :: b1 :: b2 :: b3 :: b4 :: .ref p :: .long x :: .retAddr 0 :: l) (st) m := rfl
theorem x_iinc6r {b0 b1 b2 b3 b4 : Value} {p : Nat} {x : Int32} {v : Int} : s_x X d c (.iinc 6 v :: is) (b0 :: b1 :: b2 :: b3 :: b4 :: .ref p :: .int x :: l) (st) m = s_x X d c is (b0 :: b1 :: b2 :: b3 :: b4 :: .ref p :: .int (x + iI v) :: l) (st) m := rfl
theorem x_istore6u {b0 b1 b2 b3 b4 : Value} {p : Nat} {x : Int32} {w : Value} : s_x X d c (.istore 6 :: is) (b0 :: b1 :: b2 :: b3 :: b4 :: .retAddr p :: w :: l) (.int x :: st) m = s_x X d c is (b0 :: b1 :: b2 :: b3 :: b4 :: .retAddr p :: .int x :: l) (st) m := rfl
theorem x_astore6u {b0 b1 b2 b3 b4 : Value} {p : Nat} {x : Nat} {w : Value} : s_x X d c (.astore 6 :: is) (b0 :: b1 :: b2 :: b3 :: b4 :: .retAddr p :: w :: l) (.ref x :: st) m = s_x X d c is (b0 :: b1 :: b2 :: b3 :: b4 :: .retAddr p :: .ref x :: l) (st) m := rfl
theorem x_lstore6u {b0 b1 b2 b3 b4 : Value} {p : Nat} {x : Int64} {w w2 : Value} : s_x X d c (.lstore 6 :: is) (b0 :: b1 :: b2 :: b3 :: b4 :: .retAddr p :: w :: w2 :: l) (.long x :: st) m = s_x X d c is (b0 :: b1 :: b2 :: b3 :: b4 :: .retAddr p :: .long x :: .retAddr 0 :: l) (st) m := rfl
theorem x_iinc6u {b0 b1 b2 b3 b4 : Value} {p : Nat} {x : Int32} {v : Int} : s_x X d c (.iinc 6 v :: is) (b0 :: b1 :: b2 :: b3 :: b4 :: .retAddr p :: .int x :: l) (st) m = s_x X d c is (b0 :: b1 :: b2 :: b3 :: b4 :: .retAddr p :: .int (x + iI v) :: l) (st) m := rfl
theorem x_iload7 {b0 b1 b2 b3 b4 b5 b6 : Value} {x : Int32} : s_x X d c (.iload 7 :: is) (b0 :: b1 :: b2 :: b3 :: b4 :: b5 :: b6 :: .int x :: l) (st) m = s_x X d c is (b0 :: b1 :: b2 :: b3 :: b4 :: b5 :: b6 :: .int x :: l) (.int x :: st) m := rfl
theorem x_aload7 {b0 b1 b2 b3 b4 b5 b6 : Value} {x : Nat} : s_x X d c (.aload 7 :: is) (b0 :: b1 :: b2 :: b3 :: b4 :: b5 :: b6 :: .ref x :: l) (st) m = s_x X d c is (b0 :: b1 :: b2 :: b3 :: b4 :: b5 :: b6 :: .ref x :: l) (.ref x :: st) m := rfl
theorem x_lload7 {b0 b1 b2 b3 b4 b5 b6 : Value} {x : Int64} : s_x X d c (.lload 7 :: is) (b0 :: b1 :: b2 :: b3 :: b4 :: b5 :: b6 :: .long x :: l) (st) m = s_x X d c is (b0 :: b1 :: b2 :: b3 :: b4 :: b5 :: b6 :: .long x :: l) (.long x :: st) m := rfl
theorem x_istore7i {b0 b1 b2 b3 b4 b5 : Value} {p : Int32} {x : Int32} {w : Value} : s_x X d c (.istore 7 :: is) (b0 :: b1 :: b2 :: b3 :: b4 :: b5 :: .int p :: w :: l) (.int x :: st) m = s_x X d c is (b0 :: b1 :: b2 :: b3 :: b4 :: b5 :: .int p :: .int x :: l) (st) m := rfl
theorem x_astore7i {b0 b1 b2 b3 b4 b5 : Value} {p : Int32} {x : Nat} {w : Value} : s_x X d c (.astore 7 :: is) (b0 :: b1 :: b2 :: b3 :: b4 :: b5 :: .int p :: w :: l) (.ref x :: st) m = s_x X d c is (b0 :: b1 :: b2 :: b3 :: b4 :: b5 :: .int p :: .ref x :: l) (st) m := rfl
theorem x_lstore7i {b0 b1 b2 b3 b4 b5 : Value} {p : Int32} {x : Int64} {w w2 : Value} : s_x X d c (.lstore 7 :: is) (b0 :: b1 :: b2 :: b3 :: b4 :: b5 :: .int p :: w :: w2 :: l) (.long x :: st) m = s_x X d c is (b0 :: b1 :: b2 :: b3 :: b4 :: b5 :: .int p :: .long x :: .retAddr 0 :: l) (st) m := rfl
theorem x_iinc7i {b0 b1 b2 b3 b4 b5 : Value} {p : Int32} {x : Int32} {v : Int} : s_x X d c (.iinc 7 v :: is) (b0 :: b1 :: b2 :: b3 :: b4 :: b5 :: .int p :: .int x :: l) (st) m = s_x X d c is (b0 :: b1 :: b2 :: b3 :: b4 :: b5 :: .int p :: .int (x + iI v) :: l) (st) m := rfl
theorem x_istore7r {b0 b1 b2 b3 b4 b5 : Value} {p : Nat} {x : Int32} {w : Value} : s_x X d c (.istore 7 :: is) (b0 :: b1 :: b2 :: b3 :: b4 :: b5 :: .ref p :: w :: l) (.int x :: st) m = s_x X d c is (b0 :: b1 :: b2 :: b3 :: b4 :: b5 :: .ref p :: .int x :: l) (st) m := rfl
theorem x_astore7r {b0 b1 b2 b3 b4 b5 : Value} {p : Nat} {x : Nat} {w : Value} : s_x X d c (.astore 7 :: is) (b0 :: b1 :: b2 :: b3 :: b4 :: b5 :: .ref p :: w :: l) (.ref x :: st) m = s_x X d c is (b0 :: b1 :: b2 :: b3 :: b4 :: b5 :: .ref p :: .ref x :: l) (st) m := rfl
theorem x_lstore7r {b0 b1 b2 b3 b4 b5 : Value} {p : Nat} {x : Int64} {w w2 : Value} : s_x X d c (.lstore 7 :: is) (b0 :: b1 :: b2 :: b3 :: b4 :: b5 :: .ref p :: w :: w2 :: l) (.long x :: st) m = s_x X d c is (b0 :: b1 :: b2 :: b3 :: b4 :: b5 :: .ref p :: .long x :: .retAddr 0 :: l) (st) m := rfl
theorem x_iinc7r {b0 b1 b2 b3 b4 b5 : Value} {p : Nat} {x : Int32} {v : Int} : s_x X d c (.iinc 7 v :: is) (b0 :: b1 :: b2 :: b3 :: b4 :: b5 :: .ref p :: .int x :: l) (st) m = s_x X d c is (b0 :: b1 :: b2 :: b3 :: b4 :: b5 :: .ref p :: .int (x + iI v) :: l) (st) m := rfl
theorem x_istore7u {b0 b1 b2 b3 b4 b5 : Value} {p : Nat} {x : Int32} {w : Value} : s_x X d c (.istore 7 :: is) (b0 :: b1 :: b2 :: b3 :: b4 :: b5 :: .retAddr p :: w :: l) (.int x :: st) m = s_x X d c is (b0 :: b1 :: b2 :: b3 :: b4 :: b5 :: .retAddr p :: .int x :: l) (st) m := rfl
theorem x_astore7u {b0 b1 b2 b3 b4 b5 : Value} {p : Nat} {x : Nat} {w : Value} : s_x X d c (.astore 7 :: is) (b0 :: b1 :: b2 :: b3 :: b4 :: b5 :: .retAddr p :: w :: l) (.ref x :: st) m = s_x X d c is (b0 :: b1 :: b2 :: b3 :: b4 :: b5 :: .retAddr p :: .ref x :: l) (st) m := rfl
theorem x_lstore7u {b0 b1 b2 b3 b4 b5 : Value} {p : Nat} {x : Int64} {w w2 : Value} : s_x X d c (.lstore 7 :: is) (b0 :: b1 :: b2 :: b3 :: b4 :: b5 :: .retAddr p :: w :: w2 :: l) (.long x :: st) m = s_x X d c is (b0 :: b1 :: b2 :: b3 :: b4 :: b5 :: .retAddr p :: .long x :: .retAddr 0 :: l) (st) m := rfl
theorem x_iinc7u {b0 b1 b2 b3 b4 b5 : Value} {p : Nat} {x : Int32} {v : Int} : s_x X d c (.iinc 7 v :: is) (b0 :: b1 :: b2 :: b3 :: b4 :: b5 :: .retAddr p :: .int x :: l) (st) m = s_x X d c is (b0 :: b1 :: b2 :: b3 :: b4 :: b5 :: .retAddr p :: .int (x + iI v) :: l) (st) m := rfl
theorem x_iload8 {b0 b1 b2 b3 b4 b5 b6 b7 : Value} {x : Int32} : s_x X d c (.iload 8 :: is) (b0 :: b1 :: b2 :: b3 :: b4 :: b5 :: b6 :: b7 :: .int x :: l) (st) m = s_x X d c is (b0 :: b1 :: b2 :: b3 :: b4 :: b5 :: b6 :: b7 :: .int x :: l) (.int x :: st) m := rfl
theorem x_aload8 {b0 b1 b2 b3 b4 b5 b6 b7 : Value} {x : Nat} : s_x X d c (.aload 8 :: is) (b0 :: b1 :: b2 :: b3 :: b4 :: b5 :: b6 :: b7 :: .ref x :: l) (st) m = s_x X d c is (b0 :: b1 :: b2 :: b3 :: b4 :: b5 :: b6 :: b7 :: .ref x :: l) (.ref x :: st) m := rfl
theorem x_lload8 {b0 b1 b2 b3 b4 b5 b6 b7 : Value} {x : Int64} : s_x X d c (.lload 8 :: is) (b0 :: b1 :: b2 :: b3 :: b4 :: b5 :: b6 :: b7 :: .long x :: l) (st) m = s_x X d c is (b0 :: b1 :: b2 :: b3 :: b4 :: b5 :: b6 :: b7 :: .long x :: l) (.long x :: st) m := rfl
theorem x_istore8i {b0 b1 b2 b3 b4 b5 b6 : Value} {p : Int32} {x : Int32} {w : Value} : s_x X d c (.istore 8 :: is) (b0 :: b1 :: b2 :: b3 :: b4 :: b5 :: b6 :: .int p :: w :: l) (.int x :: st) m = s_x X d c is (b0 :: b1 :: b2 :: b3 :: b4 :: b5 :: b6 :: .int p :: .int x :: l) (st) m := rfl
theorem x_astore8i {b0 b1 b2 b3 b4 b5 b6 : Value} {p : Int32} {x : Nat} {w : Value} : s_x X d c (.astore 8 :: is) (b0 :: b1 :: b2 :: b3 :: b4 :: b5 :: b6 :: .int p :: w :: l) (.ref x :: st) m = s_x X d c is (b0 :: b1 :: b2 :: b3 :: b4 :: b5 :: b6 :: .int p :: .ref x :: l) (st) m := rfl
theorem x_lstore8i {b0 b1 b2 b3 b4 b5 b6 : Value} {p : Int32} {x : Int64} {w w2 : Value} : s_x X d c (.lstore 8 :: is) (b0 :: b1 :: b2 :: b3 :: b4 :: b5 :: b6 :: .int p :: w :: w2 :: l) (.long x :: st) m = s_x X d c is (b0 :: b1 :: b2 :: b3 :: b4 :: b5 :: b6 :: .int p :: .long x :: .retAddr 0 :: l) (st) m := rfl
theorem x_iinc8i {b0 b1 b2 b3 b4 b5 b6 : Value} {p : Int32} {x : Int32} {v : Int} : s_x X d c (.iinc 8 v :: is) (b0 :: b1 :: b2 :: b3 :: b4 :: b5 :: b6 :: .int p :: .int x :: l) (st) m = s_x X d c is (b0 :: b1 :: b2 :: b3 :: b4 :: b5 :: b6 :: .int p :: .int (x + iI v) :: l) (st) m := rfl
theorem x_istore8r {b0 b1 b2 b3 b4 b5 b6 : Value} {p : Nat} {x : Int32} {w : Value} : s_x X d c (.istore 8 :: is) (b0 :: b1 :: b2 :: b3 :: b4 :: b5 :: b6 :: .ref p :: w :: l) (.int x :: st) m = s_x X d c is (b0 :: b1 :: b2 :: b3 :: b4 :: b5 :: b6 :: .ref p :: .int x :: l) (st) m := rfl
theorem x_astore8r {b0 b1 b2 b3 b4 b5 b6 : Value} {p : Nat} {x : Nat} {w : Value} : s_x X d c (.astore 8 :: is) (b0 :: b1 :: b2 :: b3 :: b4 :: b5 :: b6 :: .ref p :: w :: l) (.ref x :: st) m = s_x X d c is (b0 :: b1 :: b2 :: b3 :: b4 :: b5 :: b6 :: .ref p :: .ref x :: l) (st) m := rfl
theorem x_lstore8r {b0 b1 b2 b3 b4 b5 b6 : Value} {p : Nat} {x : Int64} {w w2 : Value} : s_x X d c (.lstore 8 :: is) (b0 :: b1 :: b2 :: b3 :: b4 :: b5 :: b6 :: .ref p :: w :: w2 :: l) (.long x :: st) m = s_x X d c is (b0 :: b1 :: b2 :: b3 :: b4 :: b5 :: b6 :: .ref p :: .long x :: .retAddr 0 :: l) (st) m := rfl
theorem x_iinc8r {b0 b1 b2 b3 b4 b5 b6 : Value} {p : Nat} {x : Int32} {v : Int} : s_x X d c (.iinc 8 v :: is) (b0 :: b1 :: b2 :: b3 :: b4 :: b5 :: b6 :: .ref p :: .int x :: l) (st) m = s_x X d c is (b0 :: b1 :: b2 :: b3 :: b4 :: b5 :: b6 :: .ref p :: .int (x + iI v) :: l) (st) m := rfl
theorem x_istore8u {b0 b1 b2 b3 b4 b5 b6 : Value} {p : Nat} {x : Int32} {w : Value} : s_x X d c (.istore 8 :: is) (b0 :: b1 :: b2 :: b3 :: b4 :: b5 :: b6 :: .retAddr p :: w :: l) (.int x :: st) m = s_x X d c is (b0 :: b1 :: b2 :: b3 :: b4 :: b5 :: b6 :: .retAddr p :: .int x :: l) (st) m := rfl
theorem x_astore8u {b0 b1 b2 b3 b4 b5 b6 : Value} {p : Nat} {x : Nat} {w : Value} : s_x X d c (.astore 8 :: is) (b0 :: b1 :: b2 :: b3 :: b4 :: b5 :: b6 :: .retAddr p :: w :: l) (.ref x :: st) m = s_x X d c is (b0 :: b1 :: b2 :: b3 :: b4 :: b5 :: b6 :: .retAddr p :: .ref x :: l) (st) m := rfl
theorem x_lstore8u {b0 b1 b2 b3 b4 b5 b6 : Value} {p : Nat} {x : Int64} {w w2 : Value} : s_x X d c (.lstore 8 :: is) (b0 :: b1 :: b2 :: b3 :: b4 :: b5 :: b6 :: .retAddr p :: w :: w2 :: l) (.long x :: st) m = s_x X d c is (b0 :: b1 :: b2 :: b3 :: b4 :: b5 :: b6 :: .retAddr p :: .long x :: .retAddr 0 :: l) (st) m := rfl
theorem x_iinc8u {b0 b1 b2 b3 b4 b5 b6 : Value} {p : Nat} {x : Int32} {v : Int} : s_x X d c (.iinc 8 v :: is) (b0 :: b1 :: b2 :: b3 :: b4 :: b5 :: b6 :: .retAddr p :: .int x :: l) (st) m = s_x X d c is (b0 :: b1 :: b2 :: b3 :: b4 :: b5 :: b6 :: .retAddr p :: .int (x + iI v) :: l) (st) m := rfl
theorem x_iload9 {b0 b1 b2 b3 b4 b5 b6 b7 b8 : Value} {x : Int32} : s_x X d c (.iload 9 :: is) (b0 :: b1 :: b2 :: b3 :: b4 :: b5 :: b6 :: b7 :: b8 :: .int x :: l) (st) m = s_x X d c is (b0 :: b1 :: b2 :: b3 :: b4 :: b5 :: b6 :: b7 :: b8 :: .int x :: l) (.int x :: st) m := rfl
theorem x_aload9 {b0 b1 b2 b3 b4 b5 b6 b7 b8 : Value} {x : Nat} : s_x X d c (.aload 9 :: is) (b0 :: b1 :: b2 :: b3 :: b4 :: b5 :: b6 :: b7 :: b8 :: .ref x :: l) (st) m = s_x X d c is (b0 :: b1 :: b2 :: b3 :: b4 :: b5 :: b6 :: b7 :: b8 :: .ref x :: l) (.ref x :: st) m := rfl
theorem x_lload9 {b0 b1 b2 b3 b4 b5 b6 b7 b8 : Value} {x : Int64} : s_x X d c (.lload 9 :: is) (b0 :: b1 :: b2 :: b3 :: b4 :: b5 :: b6 :: b7 :: b8 :: .long x :: l) (st) m = s_x X d c is (b0 :: b1 :: b2 :: b3 :: b4 :: b5 :: b6 :: b7 :: b8 :: .long x :: l) (.long x :: st) m := rfl
theorem x_istore9i {b0 b1 b2 b3 b4 b5 b6 b7 : Value} {p : Int32} {x : Int32} {w : Value} : s_x X d c (.istore 9 :: is) (b0 :: b1 :: b2 :: b3 :: b4 :: b5 :: b6 :: b7 :: .int p :: w :: l) (.int x :: st) m = s_x X d c is (b0 :: b1 :: b2 :: b3 :: b4 :: b5 :: b6 :: b7 :: .int p :: .int x :: l) (st) m := rfl
theorem x_astore9i {b0 b1 b2 b3 b4 b5 b6 b7 : Value} {p : Int32} {x : Nat} {w : Value} : s_x X d c (.astore 9 :: is) (b0 :: b1 :: b2 :: b3 :: b4 :: b5 :: b6 :: b7 :: .int p :: w :: l) (.ref x :: st) m = s_x X d c is (b0 :: b1 :: b2 :: b3 :: b4 :: b5 :: b6 :: b7 :: .int p :: .ref x :: l) (st) m := rfl
theorem x_lstore9i {b0 b1 b2 b3 b4 b5 b6 b7 : Value} {p : Int32} {x : Int64} {w w2 : Value} : s_x X d c (.lstore 9 :: is) (b0 :: b1 :: b2 :: b3 :: b4 :: b5 :: b6 :: b7 :: .int p :: w :: w2 :: l) (.long x :: st) m = s_x X d c is (b0 :: b1 :: b2 :: b3 :: b4 :: b5 :: b6 :: b7 :: .int p :: .long x :: .retAddr 0 :: l) (st) m := rfl
theorem x_iinc9i {b0 b1 b2 b3 b4 b5 b6 b7 : Value} {p : Int32} {x : Int32} {v : Int} : s_x X d c (.iinc 9 v :: is) (b0 :: b1 :: b2 :: b3 :: b4 :: b5 :: b6 :: b7 :: .int p :: .int x :: l) (st) m = s_x X d c is (b0 :: b1 :: b2 :: b3 :: b4 :: b5 :: b6 :: b7 :: .int p :: .int (x + iI v) :: l) (st) m := rfl
theorem x_istore9r {b0 b1 b2 b3 b4 b5 b6 b7 : Value} {p : Nat} {x : Int32} {w : Value} : s_x X d c (.istore 9 :: is) (b0 :: b1 :: b2 :: b3 :: b4 :: b5 :: b6 :: b7 :: .ref p :: w :: l) (.int x :: st) m = s_x X d c is (b0 :: b1 :: b2 :: b3 :: b4 :: b5 :: b6 :: b7 :: .ref p :: .int x :: l) (st) m := rfl
theorem x_astore9r {b0 b1 b2 b3 b4 b5 b6 b7 : Value} {p : Nat} {x : Nat} {w : Value} : s_x X d c (.astore 9 :: is) (b0 :: b1 :: b2 :: b3 :: b4 :: b5 :: b6 :: b7 :: .ref p :: w :: l) (.ref x :: st) m = s_x X d c is (b0 :: b1 :: b2 :: b3 :: b4 :: b5 :: b6 :: b7 :: .ref p :: .ref x :: l) (st) m := rfl
theorem x_lstore9r {b0 b1 b2 b3 b4 b5 b6 b7 : Value} {p : Nat} {x : Int64} {w w2 : Value} : s_x X d c (.lstore 9 :: is) (b0 :: b1 :: b2 :: b3 :: b4 :: b5 :: b6 :: b7 :: .ref p :: w :: w2 :: l) (.long x :: st) m = s_x X d c is (b0 :: b1 :: b2 :: b3 :: b4 :: b5 :: b6 :: b7 :: .ref p :: .long x :: .retAddr 0 :: l) (st) m := rfl
theorem x_iinc9r {b0 b1 b2 b3 b4 b5 b6 b7 : Value} {p : Nat} {x : Int32} {v : Int} : s_x X d c (.iinc 9 v :: is) (b0 :: b1 :: b2 :: b3 :: b4 :: b5 :: b6 :: b7 :: .ref p :: .int x :: l) (st) m = s_x X d c is (b0 :: b1 :: b2 :: b3 :: b4 :: b5 :: b6 :: b7 :: .ref p :: .int (x + iI v) :: l) (st) m := rfl
theorem x_istore9u {b0 b1 b2 b3 b4 b5 b6 b7 : Value} {p : Nat} {x : Int32} {w : Value} : s_x X d c (.istore 9 :: is) (b0 :: b1 :: b2 :: b3 :: b4 :: b5 :: b6 :: b7 :: .retAddr p :: w :: l) (.int x :: st) m = s_x X d c is (b0 :: b1 :: b2 :: b3 :: b4 :: b5 :: b6 :: b7 :: .retAddr p :: .int x :: l) (st) m := rfl
theorem x_astore9u {b0 b1 b2 b3 b4 b5 b6 b7 : Value} {p : Nat} {x : Nat} {w : Value} : s_x X d c (.astore 9 :: is) (b0 :: b1 :: b2 :: b3 :: b4 :: b5 :: b6 :: b7 :: .retAddr p :: w :: l) (.ref x :: st) m = s_x X d c is (b0 :: b1 :: b2 :: b3 :: b4 :: b5 :: b6 :: b7 :: .retAddr p :: .ref x :: l) (st) m := rfl
theorem x_lstore9u {b0 b1 b2 b3 b4 b5 b6 b7 : Value} {p : Nat} {x : Int64} {w w2 : Value} : s_x X d c (.lstore 9 :: is) (b0 :: b1 :: b2 :: b3 :: b4 :: b5 :: b6 :: b7 :: .retAddr p :: w :: w2 :: l) (.long x :: st) m = s_x X d c is (b0 :: b1 :: b2 :: b3 :: b4 :: b5 :: b6 :: b7 :: .retAddr p :: .long x :: .retAddr 0 :: l) (st) m := rfl
theorem x_iinc9u {b0 b1 b2 b3 b4 b5 b6 b7 : Value} {p : Nat} {x : Int32} {v : Int} : s_x X d c (.iinc 9 v :: is) (b0 :: b1 :: b2 :: b3 :: b4 :: b5 :: b6 :: b7 :: .retAddr p :: .int x :: l) (st) m = s_x X d c is (b0 :: b1 :: b2 :: b3 :: b4 :: b5 :: b6 :: b7 :: .retAddr p :: .int (x + iI v) :: l) (st) m := rfl
theorem x_iload10 {b0 b1 b2 b3 b4 b5 b6 b7 b8 b9 : Value} {x : Int32} : s_x X d c (.iload 10 :: is) (b0 :: b1 :: b2 :: b3 :: b4 :: b5 :: b6 :: b7 :: b8 :: b9 :: .int x :: l) (st) m = s_x X d c is (b0 :: b1 :: b2 :: b3 :: b4 :: b5 :: b6 :: b7 :: b8 :: b9 :: .int x :: l) (.int x :: st) m := rfl
theorem x_aload10 {b0 b1 b2 b3 b4 b5 b6 b7 b8 b9 : Value} {x : Nat} : s_x X d c (.aload 10 :: is) (b0 :: b1 :: b2 :: b3 :: b4 :: b5 :: b6 :: b7 :: b8 :: b9 :: .ref x :: l) (st) m = s_x X d c is (b0 :: b1 :: b2 :: b3 :: b4 :: b5 :: b6 :: b7 :: b8 :: b9 :: .ref x :: l) (.ref x :: st) m := rfl
theorem x_lload10 {b0 b1 b2 b3 b4 b5 b6 b7 b8 b9 : Value} {x : Int64} : s_x X d c (.lload 10 :: is) (b0 :: b1 :: b2 :: b3 :: b4 :: b5 :: b6 :: b7 :: b8 :: b9 :: .long x :: l) (st) m = s_x X d c is (b0 :: b1 :: b2 :: b3 :: b4 :: b5 :: b6 :: b7 :: b8 :: b9 :: .long x :: l) (.long x :: st) m := rfl
theorem x_istore10i {b0 b1 b2 b3 b4 b5 b6 b7 b8 : Value} {p : Int32} {x : Int32} {w : Value} : s_x X d c (.istore 10 :: is) (b0 :: b1 :: b2 :: b3 :: b4 :: b5 :: b6 :: b7 :: b8 :: .int p :: w :: l) (.int x :: st) m = s_x X d c is (b0 :: b1 :: b2 :: b3 :: b4 :: b5 :: b6 :: b7 :: b8 :: .int p :: .int x :: l) (st) m := rfl
theorem x_astore10i {b0 b1 b2 b3 b4 b5 b6 b7 b8 : Value} {p : Int32} {x : Nat} {w : Value} : s_x X d c (.astore 10 :: is) (b0 :: b1 :: b2 :: b3 :: b4 :: b5 :: b6 :: b7 :: b8 :: .int p :: w :: l) (.ref x :: st) m = s_x X d c is (b0 :: b1 :: b2 :: b3 :: b4 :: b5 :: b6 :: b7 :: b8 :: .int p :: .ref x :: l) (st) m := rfl
theorem x_lstore10i {b0 b1 b2 b3 b4 b5 b6 b7 b8 : Value} {p : Int32} {x : Int64} {w w2 : Value} : s_x X d c (.lstore 10 :: is) (b0 :: b1 :: b2 :: b3 :: b4 :: b5 :: b6 :: b7 :: b8 :: .int p :: w :: w2 :: l) (.long x :: st) m = s_x X d c is (b0 :: b1 :: b2 :: b3 :: b4 :: b5 :: b6 :: b7 :: b8 :: .int p :: .long x :: .retAddr 0 :: l) (st) m := rfl
theorem x_iinc10i {b0 b1 b2 b3 b4 b5 b6 b7 b8 : Value} {p : Int32} {x : Int32} {v : Int} : s_x X d c (.iinc 10 v :: is) (b0 :: b1 :: b2 :: b3 :: b4 :: b5 :: b6 :: b7 :: b8 :: .int p :: .int x :: l) (st) m = s_x X d c is (b0 :: b1 :: b2 :: b3 :: b4 :: b5 :: b6 :: b7 :: b8 :: .int p :: .int (x + iI v) :: l) (st) m := rfl
theorem x_istore10r {b0 b1 b2 b3 b4 b5 b6 b7 b8 : Value} {p : Nat} {x : Int32} {w : Value} : s_x X d c (.istore 10 :: is) (b0 :: b1 :: b2 :: b3 :: b4 :: b5 :: b6 :: b7 :: b8 :: .ref p :: w :: l) (.int x :: st) m = s_x X d c is (b0 :: b1 :: b2 :: b3 :: b4 :: b5 :: b6 :: b7 :: b8 :: .ref p :: .int x :: l) (st) m := rfl
theorem x_astore10r {b0 b1 b2 b3 b4 b5 b6 b7 b8 : Value} {p : Nat} {x : Nat} {w : Value} : s_x X d c (.astore 10 :: is) (b0 :: b1 :: b2 :: b3 :: b4 :: b5 :: b6 :: b7 :: b8 :: .ref p :: w :: l) (.ref x :: st) m = s_x X d c is (b0 :: b1 :: b2 :: b3 :: b4 :: b5 :: b6 :: b7 :: b8 :: .ref p :: .ref x :: l) (st) m := rfl
theorem x_lstore10r {b0 b1 b2 b3 b4 b5 b6 b7 b8 : Value} {p : Nat} {x : Int64} {w w2 : Value} : s_x X d c (.lstore 10 :: is) (b0 :: b1 :: b2 :: b3 :: b4 :: b5 :: b6 :: b7 :: b8 :: .ref p :: w :: w2 :: l) (.long x :: st) m = s_x X d c is (b0 :: b1 :: b2 :: b3 :: b4 :: b5 :: b6 :: b7 :: b8 :: .ref p :: .long x :: .retAddr 0 :: l) (st) m := rfl
theorem x_iinc10r {b0 b1 b2 b3 b4 b5 b6 b7 b8 : Value} {p : Nat} {x : Int32} {v : Int} : s_x X d c (.iinc 10 v :: is) (b0 :: b1 :: b2 :: b3 :: b4 :: b5 :: b6 :: b7 :: b8 :: .ref p :: .int x :: l) (st) m = s_x X d c is (b0 :: b1 :: b2 :: b3 :: b4 :: b5 :: b6 :: b7 :: b8 :: .ref p :: .int (x + iI v) :: l) (st) m := rfl
theorem x_istore10u {b0 b1 b2 b3 b4 b5 b6 b7 b8 : Value} {p : Nat} {x : Int32} {w : Value} : s_x X d c (.istore 10 :: is) (b0 :: b1 :: b2 :: b3 :: b4 :: b5 :: b6 :: b7 :: b8 :: .retAddr p :: w :: l) (.int x :: st) m = s_x X d c is (b0 :: b1 :: b2 :: b3 :: b4 :: b5 :: b6 :: b7 :: b8 :: .retAddr p :: .int x :: l) (st) m := rfl
theorem x_astore10u {b0 b1 b2 b3 b4 b5 b6 b7 b8 : Value} {p : Nat} {x : Nat} {w : Value} : s_x X d c (.astore 10 :: is) (b0 :: b1 :: b2 :: b3 :: b4 :: b5 :: b6 :: b7 :: b8 :: .retAddr p :: w :: l) (.ref x :: st) m = s_x X d c is (b0 :: b1 :: b2 :: b3 :: b4 :: b5 :: b6 :: b7 :: b8 :: .retAddr p :: .ref x :: l) (st) m := rfl
theorem x_lstore10u {b0 b1 b2 b3 b4 b5 b6 b7 b8 : Value} {p : Nat} {x : Int64} {w w2 : Value} : s_x X d c (.lstore 10 :: is) (b0 :: b1 :: b2 :: b3 :: b4 :: b5 :: b6 :: b7 :: b8 :: .retAddr p :: w :: w2 :: l) (.long x :: st) m = s_x X d c is (b0 :: b1 :: b2 :: b3 :: b4 :: b5 :: b6 :: b7 :: b8 :: .retAddr p :: .long x :: .retAddr 0 :: l) (st) m := rfl
theorem x_iinc10u {b0 b1 b2 b3 b4 b5 b6 b7 b8 : Value} {p : Nat} {x : Int32} {v : Int} : s_x X d c (.iinc 10 v :: is) (b0 :: b1 :: b2 :: b3 :: b4 :: b5 :: b6 :: b7 :: b8 :: .retAddr p :: .int x :: l) (st) m = s_x X d c is (b0 :: b1 :: b2 :: b3 :: b4 :: b5 :: b6 :: b7 :: b8 :: .retAddr p :: .int (x + iI v) :: l) (st) m := rfl
theorem x_iadd {x y : Int32} : s_x X d c (.iadd :: is) (ls) (.int y :: .int x :: st) m = s_x X d c is (ls) (.int (x + y) :: st) m := rfl
theorem x_isub {x y : Int32} : s_x X d c (.isub :: is) (ls) (.int y :: .int x :: st) m = s_x X d c is (ls) (.int (x - y) :: st) m := rfl
theorem x_imul {x y : Int32} : s_x X d c (.imul :: is) (ls) (.int y :: .int x :: st) m = s_x X d c is (ls) (.int (x * y) :: st) m := rfl
theorem x_iand {x y : Int32} : s_x X d c (.iand :: is) (ls) (.int y :: .int x :: st) m = s_x X d c is (ls) (.int (x &&& y) :: st) m := rfl
theorem x_ior {x y : Int32} : s_x X d c (.ior :: is) (ls) (.int y :: .int x :: st) m = s_x X d c is (ls) (.int (x ||| y) :: st) m := rfl
theorem x_ixor {x y : Int32} : s_x X d c (.ixor :: is) (ls) (.int y :: .int x :: st) m = s_x X d c is (ls) (.int (x ^^^ y) :: st) m := rfl
theorem x_ishl {x y : Int32} : s_x X d c (.ishl :: is) (ls) (.int y :: .int x :: st) m = s_x X d c is (ls) (.int (x <<< (y &&& 31)) :: st) m := rfl
theorem x_ishr {x y : Int32} : s_x X d c (.ishr :: is) (ls) (.int y :: .int x :: st) m = s_x X d c is (ls) (.int (x >>> (y &&& 31)) :: st) m := rfl
theorem x_iushr {x y : Int32} : s_x X d c (.iushr :: is) (ls) (.int y :: .int x :: st) m = s_x X d c is (ls) (.int ((x.toUInt32 >>> (y.toUInt32 &&& Int32.toUInt32 31)).toInt32) :: st) m := rfl
theorem x_dadd {x y : Int32} : s_x X d c (.dadd :: is) (ls) (.int y :: .int x :: st) m = s_x X d c is (ls) (.int (if x < y then y else x) :: st) m := rfl
theorem x_dsub {x y : Int32} : s_x X d c (.dsub :: is) (ls) (.int y :: .int x :: st) m = s_x X d c is (ls) (.int (if y < x then y else x) :: st) m := rfl
theorem x_idiv {x y : Int32} (h : ¬ y = 0) : s_x X d c (.idiv :: is) (ls) (.int y :: .int x :: st) m = s_x X d c is (ls) (.int (x / y) :: st) m := by
  simp only [s_x, e_x, e_st, e_id, if_neg h]
theorem x_irem {x y : Int32} (h : ¬ y = 0) : s_x X d c (.irem :: is) (ls) (.int y :: .int x :: st) m = s_x X d c is (ls) (.int (x % y) :: st) m := by
  simp only [s_x, e_x, e_st, e_id, if_neg h]
theorem x_ineg {x : Int32} : s_x X d c (.ineg :: is) (ls) (.int x :: st) m = s_x X d c is (ls) (.int (-x) :: st) m := rfl
theorem x_i2b {x : Int32} : s_x X d c (.i2b :: is) (ls) (.int x :: st) m = s_x X d c is (ls) (.int (x.toInt8.toInt32) :: st) m := rfl
theorem x_i2s {x : Int32} : s_x X d c (.i2s :: is) (ls) (.int x :: st) m = s_x X d c is (ls) (.int (x.toInt16.toInt32) :: st) m := rfl
theorem x_i2c {x : Int32} : s_x X d c (.i2c :: is) (ls) (.int x :: st) m = s_x X d c is (ls) (.int ((x.toUInt32 % 65536).toInt32) :: st) m := rfl
theorem x_dneg {x : Int32} : s_x X d c (.dneg :: is) (ls) (.int x :: st) m = s_x X d c is (ls) (.int (if 0 ≤ x then x else 0 - x) :: st) m := rfl
theorem x_ladd {x y : Int64} : s_x X d c (.ladd :: is) (ls) (.long y :: .long x :: st) m = s_x X d c is (ls) (.long (x + y) :: st) m := rfl
theorem x_lsub {x y : Int64} : s_x X d c (.lsub :: is) (ls) (.long y :: .long x :: st) m = s_x X d c is (ls) (.long (x - y) :: st) m := rfl
theorem x_land {x y : Int64} : s_x X d c (.land :: is) (ls) (.long y :: .long x :: st) m = s_x X d c is (ls) (.long (x &&& y) :: st) m := rfl
theorem x_lor {x y : Int64} : s_x X d c (.lor :: is) (ls) (.long y :: .long x :: st) m = s_x X d c is (ls) (.long (x ||| y) :: st) m := rfl
theorem x_lxor {x y : Int64} : s_x X d c (.lxor :: is) (ls) (.long y :: .long x :: st) m = s_x X d c is (ls) (.long (x ^^^ y) :: st) m := rfl
theorem x_lshl {x : Int64} {y : Int32} : s_x X d c (.lshl :: is) (ls) (.int y :: .long x :: st) m = s_x X d c is (ls) (.long (x <<< (y.toInt64 &&& 63)) :: st) m := rfl
theorem x_lshr {x : Int64} {y : Int32} : s_x X d c (.lshr :: is) (ls) (.int y :: .long x :: st) m = s_x X d c is (ls) (.long (x >>> (y.toInt64 &&& 63)) :: st) m := rfl
theorem x_lushr {x : Int64} {y : Int32} : s_x X d c (.lushr :: is) (ls) (.int y :: .long x :: st) m = s_x X d c is (ls) (.long ((x.toUInt64 >>> (y.toInt64.toUInt64 &&& Int64.toUInt64 63)).toInt64) :: st) m := rfl
theorem x_lcmp {x y : Int64} : s_x X d c (.lcmp :: is) (ls) (.long y :: .long x :: st) m = s_x X d c is (ls) (.int (lg_cmp x y) :: st) m := rfl
theorem x_i2l {x : Int32} : s_x X d c (.i2l :: is) (ls) (.int x :: st) m = s_x X d c is (ls) (.long x.toInt64 :: st) m := rfl
theorem x_l2i {x : Int64} : s_x X d c (.l2i :: is) (ls) (.long x :: st) m = s_x X d c is (ls) (.int x.toInt32 :: st) m := rfl
theorem x_dup_i {x : Int32} : s_x X d c (.dup :: is) (ls) (.int x :: st) m = s_x X d c is (ls) (.int x :: .int x :: st) m := rfl
theorem x_dup_r {x : Nat} : s_x X d c (.dup :: is) (ls) (.ref x :: st) m = s_x X d c is (ls) (.ref x :: .ref x :: st) m := rfl
theorem x_pop {x : Int32} : s_x X d c (.pop :: is) (ls) (.int x :: st) m = s_x X d c is (ls) (st) m := rfl
theorem x_pop2 {x : Nat} : s_x X d c (.pop2 :: is) (ls) (.ref x :: st) m = s_x X d c is (ls) (st) m := rfl
theorem x_dup_x1 {x : Int32} {y : Nat} : s_x X d c (.dup_x1 :: is) (ls) (.int x :: .ref y :: st) m = s_x X d c is (ls) (.int x :: .ref y :: .int x :: st) m := rfl
theorem x_dup2 {x : Int32} {y : Nat} : s_x X d c (.dup2 :: is) (ls) (.int x :: .ref y :: st) m = s_x X d c is (ls) (.int x :: .ref y :: .int x :: .ref y :: st) m := rfl
theorem x_ifCond_eq {x : Int32} {t : Int} : s_x X d c (.ifCond .eq t :: is) (ls) (.int x :: st) m = if x = 0 then s_j X d c t ls st m else s_x X d c is (ls) (st) m := by
  show (if e_c .eq x 0 = true then s_j X d c t ls st m else s_x X d c is ls st m) = _
  simp only [e_c, decide_eq_true_eq]
theorem x_if_icmp_eq {x y : Int32} {t : Int} : s_x X d c (.if_icmp .eq t :: is) (ls) (.int y :: .int x :: st) m = if x = y then s_j X d c t ls st m else s_x X d c is (ls) (st) m := by
  show (if e_c .eq x y = true then s_j X d c t ls st m else s_x X d c is ls st m) = _
  simp only [e_c, decide_eq_true_eq]
theorem x_ifCond_ne {x : Int32} {t : Int} : s_x X d c (.ifCond .ne t :: is) (ls) (.int x :: st) m = if x = 0 then s_x X d c is (ls) (st) m else s_j X d c t ls st m := by
  show (if e_c .ne x 0 = true then s_j X d c t ls st m else s_x X d c is ls st m) = _
  simp only [e_c, decide_eq_true_eq]
  by_cases h : x = 0
  · rw [if_pos h, if_neg (not_not_intro h)]
  · rw [if_neg h, if_pos h]
theorem x_if_icmp_ne {x y : Int32} {t : Int} : s_x X d c (.if_icmp .ne t :: is) (ls) (.int y :: .int x :: st) m = if x = y then s_x X d c is (ls) (st) m else s_j X d c t ls st m := by
  show (if e_c .ne x y = true then s_j X d c t ls st m else s_x X d c is ls st m) = _
  simp only [e_c, decide_eq_true_eq]
  by_cases h : x = y
  · rw [if_pos h, if_neg (not_not_intro h)]
  · rw [if_neg h, if_pos h]
theorem x_ifCond_lt {x : Int32} {t : Int} : s_x X d c (.ifCond .lt t :: is) (ls) (.int x :: st) m = if x < 0 then s_j X d c t ls st m else s_x X d c is (ls) (st) m := by
  show (if e_c .lt x 0 = true then s_j X d c t ls st m else s_x X d c is ls st m) = _
  simp only [e_c, decide_eq_true_eq]
theorem x_if_icmp_lt {x y : Int32} {t : Int} : s_x X d c (.if_icmp .lt t :: is) (ls) (.int y :: .int x :: st) m = if x < y then s_j X d c t ls st m else s_x X d c is (ls) (st) m := by
  show (if e_c .lt x y = true then s_j X d c t ls st m else s_x X d c is ls st m) = _
  simp only [e_c, decide_eq_true_eq]
theorem x_ifCond_ge {x : Int32} {t : Int} : s_x X d c (.ifCond .ge t :: is) (ls) (.int x :: st) m = if x < 0 then s_x X d c is (ls) (st) m else s_j X d c t ls st m := by
  show (if e_c .ge x 0 = true then s_j X d c t ls st m else s_x X d c is ls st m) = _
  simp only [e_c, decide_eq_true_eq]
  by_cases h : x < 0
  · rw [if_pos h, if_neg (Int32.not_le.mpr h)]
  · rw [if_neg h, if_pos (Int32.not_lt.mp h)]
theorem x_if_icmp_ge {x y : Int32} {t : Int} : s_x X d c (.if_icmp .ge t :: is) (ls) (.int y :: .int x :: st) m = if x < y then s_x X d c is (ls) (st) m else s_j X d c t ls st m := by
  show (if e_c .ge x y = true then s_j X d c t ls st m else s_x X d c is ls st m) = _
  simp only [e_c, decide_eq_true_eq]
  by_cases h : x < y
  · rw [if_pos h, if_neg (Int32.not_le.mpr h)]
  · rw [if_neg h, if_pos (Int32.not_lt.mp h)]
theorem x_ifCond_gt {x : Int32} {t : Int} : s_x X d c (.ifCond .gt t :: is) (ls) (.int x :: st) m = if 0 < x then s_j X d c t ls st m else s_x X d c is (ls) (st) m := by
  show (if e_c .gt x 0 = true then s_j X d c t ls st m else s_x X d c is ls st m) = _
  simp only [e_c, decide_eq_true_eq]
theorem x_if_icmp_gt {x y : Int32} {t : Int} : s_x X d c (.if_icmp .gt t :: is) (ls) (.int y :: .int x :: st) m = if y < x then s_j X d c t ls st m else s_x X d c is (ls) (st) m := by
  show (if e_c .gt x y = true then s_j X d c t ls st m else s_x X d c is ls st m) = _
  simp only [e_c, decide_eq_true_eq]
theorem x_ifCond_le {x : Int32} {t : Int} : s_x X d c (.ifCond .le t :: is) (ls) (.int x :: st) m = if 0 < x then s_x X d c is (ls) (st) m else s_j X d c t ls st m := by
  show (if e_c .le x 0 = true then s_j X d c t ls st m else s_x X d c is ls st m) = _
  simp only [e_c, decide_eq_true_eq]
  by_cases h : 0 < x
  · rw [if_pos h, if_neg (Int32.not_le.mpr h)]
  · rw [if_neg h, if_pos (Int32.not_lt.mp h)]
theorem x_if_icmp_le {x y : Int32} {t : Int} : s_x X d c (.if_icmp .le t :: is) (ls) (.int y :: .int x :: st) m = if y < x then s_x X d c is (ls) (st) m else s_j X d c t ls st m := by
  show (if e_c .le x y = true then s_j X d c t ls st m else s_x X d c is ls st m) = _
  simp only [e_c, decide_eq_true_eq]
  by_cases h : y < x
  · rw [if_pos h, if_neg (Int32.not_le.mpr h)]
  · rw [if_neg h, if_pos (Int32.not_lt.mp h)]
theorem x_goto {t : Int} : s_x X d c (.goto t :: is) (ls) (st) m = s_j X d c t ls st m := rfl
theorem x_jsr {t : Int} : s_x X d c (.jsr t :: is) (ls) (st) m = s_j X d c t ls st m := rfl
theorem x_switch {x : Int32} {e : Int} {ps : Array (Int × Int)} : s_x X d c (.lookupswitch e ps :: is) (ls) (.int x :: st) m = e_sw (fun t => s_g X d c t ls st m) e ps.toList x := rfl
theorem x_ireturn {x : Int32} : s_x X d c (.ireturn :: is) (ls) ([.int x]) m = some ([.int x], m) := rfl
theorem x_lreturn {x : Int64} : s_x X d c (.lreturn :: is) (ls) ([.long x]) m = some ([.long x], m) := rfl
theorem x_return : s_x X d c (.return_ :: is) (ls) ([]) m = some ([], m) := rfl
theorem x_call1_0 {e : Nat} {v0 : Value} : s_x X d c (.invokeinterface e 1 :: is) (ls) ([v0]) m = e_k (s_S X d e [v0] m) (fun r q => s_x X d c is ls (r ++ []) q) := rfl
theorem x_call1_1 {e : Nat} {v0 s0 : Value} : s_x X d c (.invokeinterface e 1 :: is) (ls) ([v0, s0]) m = e_k (s_S X d e [v0] m) (fun r q => s_x X d c is ls (r ++ [s0]) q) := rfl
theorem x_call1_2 {e : Nat} {v0 s0 s1 : Value} : s_x X d c (.invokeinterface e 1 :: is) (ls) ([v0, s0, s1]) m = e_k (s_S X d e [v0] m) (fun r q => s_x X d c is ls (r ++ [s0, s1]) q) := rfl
theorem x_call1_3 {e : Nat} {v0 s0 s1 s2 : Value} : s_x X d c (.invokeinterface e 1 :: is) (ls) ([v0, s0, s1, s2]) m = e_k (s_S X d e [v0] m) (fun r q => s_x X d c is ls (r ++ [s0, s1, s2]) q) := rfl
theorem x_call1_4 {e : Nat} {v0 s0 s1 s2 s3 : Value} : s_x X d c (.invokeinterface e 1 :: is) (ls) ([v0, s0, s1, s2, s3]) m = e_k (s_S X d e [v0] m) (fun r q => s_x X d c is ls (r ++ [s0, s1, s2, s3]) q) := rfl
theorem x_call2_0 {e : Nat} {v0 v1 : Value} : s_x X d c (.invokeinterface e 2 :: is) (ls) ([v1, v0]) m = e_k (s_S X d e [v0, v1] m) (fun r q => s_x X d c is ls (r ++ []) q) := rfl
theorem x_call2_1 {e : Nat} {v0 v1 s0 : Value} : s_x X d c (.invokeinterface e 2 :: is) (ls) ([v1, v0, s0]) m = e_k (s_S X d e [v0, v1] m) (fun r q => s_x X d c is ls (r ++ [s0]) q) := rfl
theorem x_call2_2 {e : Nat} {v0 v1 s0 s1 : Value} : s_x X d c (.invokeinterface e 2 :: is) (ls) ([v1, v0, s0, s1]) m = e_k (s_S X d e [v0, v1] m) (fun r q => s_x X d c is ls (r ++ [s0, s1]) q) := rfl
theorem x_call2_3 {e : Nat} {v0 v1 s0 s1 s2 : Value} : s_x X d c (.invokeinterface e 2 :: is) (ls) ([v1, v0, s0, s1, s2]) m = e_k (s_S X d e [v0, v1] m) (fun r q => s_x X d c is ls (r ++ [s0, s1, s2]) q) := rfl
theorem x_call2_4 {e : Nat} {v0 v1 s0 s1 s2 s3 : Value} : s_x X d c (.invokeinterface e 2 :: is) (ls) ([v1, v0, s0, s1, s2, s3]) m = e_k (s_S X d e [v0, v1] m) (fun r q => s_x X d c is ls (r ++ [s0, s1, s2, s3]) q) := rfl
theorem x_call3_0 {e : Nat} {v0 v1 v2 : Value} : s_x X d c (.invokeinterface e 3 :: is) (ls) ([v2, v1, v0]) m = e_k (s_S X d e [v0, v1, v2] m) (fun r q => s_x X d c is ls (r ++ []) q) := rfl
theorem x_call3_1 {e : Nat} {v0 v1 v2 s0 : Value} : s_x X d c (.invokeinterface e 3 :: is) (ls) ([v2, v1, v0, s0]) m = e_k (s_S X d e [v0, v1, v2] m) (fun r q => s_x X d c is ls (r ++ [s0]) q) := rfl
theorem x_call3_2 {e : Nat} {v0 v1 v2 s0 s1 : Value} : s_x X d c (.invokeinterface e 3 :: is) (ls) ([v2, v1, v0, s0, s1]) m = e_k (s_S X d e [v0, v1, v2] m) (fun r q => s_x X d c is ls (r ++ [s0, s1]) q) := rfl
theorem x_call3_3 {e : Nat} {v0 v1 v2 s0 s1 s2 : Value} : s_x X d c (.invokeinterface e 3 :: is) (ls) ([v2, v1, v0, s0, s1, s2]) m = e_k (s_S X d e [v0, v1, v2] m) (fun r q => s_x X d c is ls (r ++ [s0, s1, s2]) q) := rfl
theorem x_call3_4 {e : Nat} {v0 v1 v2 s0 s1 s2 s3 : Value} : s_x X d c (.invokeinterface e 3 :: is) (ls) ([v2, v1, v0, s0, s1, s2, s3]) m = e_k (s_S X d e [v0, v1, v2] m) (fun r q => s_x X d c is ls (r ++ [s0, s1, s2, s3]) q) := rfl
theorem x_call4_0 {e : Nat} {v0 v1 v2 v3 : Value} : s_x X d c (.invokeinterface e 4 :: is) (ls) ([v3, v2, v1, v0]) m = e_k (s_S X d e [v0, v1, v2, v3] m) (fun r q => s_x X d c is ls (r ++ []) q) := rfl
theorem x_call4_1 {e : Nat} {v0 v1 v2 v3 s0 : Value} : s_x X d c (.invokeinterface e 4 :: is) (ls) ([v3, v2, v1, v0, s0]) m = e_k (s_S X d e [v0, v1, v2, v3] m) (fun r q => s_x X d c is ls (r ++ [s0]) q) := rfl
theorem x_call4_2 {e : Nat} {v0 v1 v2 v3 s0 s1 : Value} : s_x X d c (.invokeinterface e 4 :: is) (ls) ([v3, v2, v1, v0, s0, s1]) m = e_k (s_S X d e [v0, v1, v2, v3] m) (fun r q => s_x X d c is ls (r ++ [s0, s1]) q) := rfl
theorem x_call4_3 {e : Nat} {v0 v1 v2 v3 s0 s1 s2 : Value} : s_x X d c (.invokeinterface e 4 :: is) (ls) ([v3, v2, v1, v0, s0, s1, s2]) m = e_k (s_S X d e [v0, v1, v2, v3] m) (fun r q => s_x X d c is ls (r ++ [s0, s1, s2]) q) := rfl
theorem x_call4_4 {e : Nat} {v0 v1 v2 v3 s0 s1 s2 s3 : Value} : s_x X d c (.invokeinterface e 4 :: is) (ls) ([v3, v2, v1, v0, s0, s1, s2, s3]) m = e_k (s_S X d e [v0, v1, v2, v3] m) (fun r q => s_x X d c is ls (r ++ [s0, s1, s2, s3]) q) := rfl
theorem x_call5_0 {e : Nat} {v0 v1 v2 v3 v4 : Value} : s_x X d c (.invokeinterface e 5 :: is) (ls) ([v4, v3, v2, v1, v0]) m = e_k (s_S X d e [v0, v1, v2, v3, v4] m) (fun r q => s_x X d c is ls (r ++ []) q) := rfl
theorem x_call5_1 {e : Nat} {v0 v1 v2 v3 v4 s0 : Value} : s_x X d c (.invokeinterface e 5 :: is) (ls) ([v4, v3, v2, v1, v0, s0]) m = e_k (s_S X d e [v0, v1, v2, v3, v4] m) (fun r q => s_x X d c is ls (r ++ [s0]) q) := rfl
theorem x_call5_2 {e : Nat} {v0 v1 v2 v3 v4 s0 s1 : Value} : s_x X d c (.invokeinterface e 5 :: is) (ls) ([v4, v3, v2, v1, v0, s0, s1]) m = e_k (s_S X d e [v0, v1, v2, v3, v4] m) (fun r q => s_x X d c is ls (r ++ [s0, s1]) q) := rfl
theorem x_call5_3 {e : Nat} {v0 v1 v2 v3 v4 s0 s1 s2 : Value} : s_x X d c (.invokeinterface e 5 :: is) (ls) ([v4, v3, v2, v1, v0, s0, s1, s2]) m = e_k (s_S X d e [v0, v1, v2, v3, v4] m) (fun r q => s_x X d c is ls (r ++ [s0, s1, s2]) q) := rfl
theorem x_call5_4 {e : Nat} {v0 v1 v2 v3 v4 s0 s1 s2 s3 : Value} : s_x X d c (.invokeinterface e 5 :: is) (ls) ([v4, v3, v2, v1, v0, s0, s1, s2, s3]) m = e_k (s_S X d e [v0, v1, v2, v3, v4] m) (fun r q => s_x X d c is ls (r ++ [s0, s1, s2, s3]) q) := rfl
theorem x_call6_0 {e : Nat} {v0 v1 v2 v3 v4 v5 : Value} : s_x X d c (.invokeinterface e 6 :: is) (ls) ([v5, v4, v3, v2, v1, v0]) m = e_k (s_S X d e [v0, v1, v2, v3, v4, v5] m) (fun r q => s_x X d c is ls (r ++ []) q) := rfl
theorem x_call6_1 {e : Nat} {v0 v1 v2 v3 v4 v5 s0 : Value} : s_x X d c (.invokeinterface e 6 :: is) (ls) ([v5, v4, v3, v2, v1, v0, s0]) m = e_k (s_S X d e [v0, v1, v2, v3, v4, v5] m) (fun r q => s_x X d c is ls (r ++ [s0]) q) := rfl
theorem x_call6_2 {e : Nat} {v0 v1 v2 v3 v4 v5 s0 s1 : Value} : s_x X d c (.invokeinterface e 6 :: is) (ls) ([v5, v4, v3, v2, v1, v0, s0, s1]) m = e_k (s_S X d e [v0, v1, v2, v3, v4, v5] m) (fun r q => s_x X d c is ls (r ++ [s0, s1]) q) := rfl
theorem x_call6_3 {e : Nat} {v0 v1 v2 v3 v4 v5 s0 s1 s2 : Value} : s_x X d c (.invokeinterface e 6 :: is) (ls) ([v5, v4, v3, v2, v1, v0, s0, s1, s2]) m = e_k (s_S X d e [v0, v1, v2, v3, v4, v5] m) (fun r q => s_x X d c is ls (r ++ [s0, s1, s2]) q) := rfl
theorem x_call6_4 {e : Nat} {v0 v1 v2 v3 v4 v5 s0 s1 s2 s3 : Value} : s_x X d c (.invokeinterface e 6 :: is) (ls) ([v5, v4, v3, v2, v1, v0, s0, s1, s2, s3]) m = e_k (s_S X d e [v0, v1, v2, v3, v4, v5] m) (fun r q => s_x X d c is ls (r ++ [s0, s1, s2, s3]) q) := rfl
variable {K : List (Nat × Nat)} {ci : Nat → Nat → Int32} {cj : Nat → Nat → Int64} {cr : Nat → Nat → Nat}
theorem x_getfield {o n : Nat} : s_x X d c (.getfield n :: is) (ls) (.ref o :: st) (K, ci, cj, cr) = if e_ob K o n = true then s_x X d c is (ls) (.int (ci o (n % 64)) :: st) (K, ci, cj, cr) else none := by
  show (match (if e_ob K o n = true then _ else none : e_T) with | some (a, b, q) => _ | none => _) = _
  by_cases h : e_ob K o n = true
  · rw [if_pos h, if_pos h]; rfl
  · rw [if_neg h, if_neg h]
theorem x_getref {o n : Nat} : s_x X d c (.checkcast n :: is) (ls) (.ref o :: st) (K, ci, cj, cr) = if e_ob K o n = true then s_x X d c is (ls) (e_rf (cr o (n % 64)) :: st) (K, ci, cj, cr) else none := by
  show (match (if e_ob K o n = true then _ else none : e_T) with | some (a, b, q) => _ | none => _) = _
  by_cases h : e_ob K o n = true
  · rw [if_pos h, if_pos h]; rfl
  · rw [if_neg h, if_neg h]
theorem x_putfield {o n : Nat} {v : Int32} : s_x X d c (.putfield n :: is) (ls) (.int v :: .ref o :: st) (K, ci, cj, cr) = if (e_ob K o n && (!(e_bool n) || decide (v = 0) || decide (v = 1))) = true then s_x X d c is (ls) (st) (K, e_up ci o (n % 64) v, cj, cr) else none := by
  show (match (if (e_ob K o n && (!(e_bool n) || decide (v = 0) || decide (v = 1))) = true then _ else none : e_T) with | some (a, b, q) => _ | none => _) = _
  by_cases h : (e_ob K o n && (!(e_bool n) || decide (v = 0) || decide (v = 1))) = true
  · rw [if_pos h, if_pos h]; rfl
  · rw [if_neg h, if_neg h]
theorem x_iaload {o : Nat} {i : Int32} : s_x X d c (.iaload :: is) (ls) (.int i :: .ref o :: st) (K, ci, cj, cr) = if e_in i (e_ar K o e_kI) = true then s_x X d c is (ls) (.int (ci o i.toNatClampNeg) :: st) (K, ci, cj, cr) else none := by
  show (match (if e_in i (e_ar K o e_kI) = true then _ else none : e_T) with | some (a, b, q) => _ | none => _) = _
  by_cases h : e_in i (e_ar K o e_kI) = true
  · rw [if_pos h, if_pos h]; rfl
  · rw [if_neg h, if_neg h]
theorem x_caload {o : Nat} {i : Int32} : s_x X d c (.caload :: is) (ls) (.int i :: .ref o :: st) (K, ci, cj, cr) = if e_in i (e_ar K o e_kC) = true then s_x X d c is (ls) (.int (ci o i.toNatClampNeg) :: st) (K, ci, cj, cr) else none := by
  show (match (if e_in i (e_ar K o e_kC) = true then _ else none : e_T) with | some (a, b, q) => _ | none => _) = _
  by_cases h : e_in i (e_ar K o e_kC) = true
  · rw [if_pos h, if_pos h]; rfl
  · rw [if_neg h, if_neg h]
theorem x_laload {o : Nat} {i : Int32} : s_x X d c (.laload :: is) (ls) (.int i :: .ref o :: st) (K, ci, cj, cr) = if e_in i (e_ar K o e_kJ) = true then s_x X d c is (ls) (.long (cj o i.toNatClampNeg) :: st) (K, ci, cj, cr) else none := by
  show (match (if e_in i (e_ar K o e_kJ) = true then _ else none : e_T) with | some (a, b, q) => _ | none => _) = _
  by_cases h : e_in i (e_ar K o e_kJ) = true
  · rw [if_pos h, if_pos h]; rfl
  · rw [if_neg h, if_neg h]
theorem x_iastore {o : Nat} {i v : Int32} : s_x X d c (.iastore :: is) (ls) (.int v :: .int i :: .ref o :: st) (K, ci, cj, cr) = if e_in i (e_ar K o e_kI) = true then s_x X d c is (ls) (st) (K, e_up ci o i.toNatClampNeg v, cj, cr) else none := by
  show (match (if e_in i (e_ar K o e_kI) = true then _ else none : e_T) with | some (a, b, q) => _ | none => _) = _
  by_cases h : e_in i (e_ar K o e_kI) = true
  · rw [if_pos h, if_pos h]; rfl
  · rw [if_neg h, if_neg h]
theorem x_lastore {o : Nat} {i : Int32} {v : Int64} : s_x X d c (.lastore :: is) (ls) (.long v :: .int i :: .ref o :: st) (K, ci, cj, cr) = if e_in i (e_ar K o e_kJ) = true then s_x X d c is (ls) (st) (K, ci, e_up cj o i.toNatClampNeg v, cr) else none := by
  show (match (if e_in i (e_ar K o e_kJ) = true then _ else none : e_T) with | some (a, b, q) => _ | none => _) = _
  by_cases h : e_in i (e_ar K o e_kJ) = true
  · rw [if_pos h, if_pos h]; rfl
  · rw [if_neg h, if_neg h]
theorem x_faload {o : Nat} {i : Int32} : s_x X d c (.faload :: is) (ls) (.int i :: .ref o :: st) (K, ci, cj, cr) = if (decide (o = 1000) && e_in i X.1) = true then s_x X d c is (ls) (.int (X.2 i.toNatClampNeg) :: st) (K, ci, cj, cr) else none := by
  show (match (if (decide (o = 1000) && e_in i X.1) = true then _ else none : e_T) with | some (a, b, q) => _ | none => _) = _
  by_cases h : (decide (o = 1000) && e_in i X.1) = true
  · rw [if_pos h, if_pos h]; rfl
  · rw [if_neg h, if_neg h]
theorem x_fadd {o : Nat} : s_x X d c (.fadd :: is) (ls) (.ref o :: st) (K, ci, cj, cr) = if o = 1000 then s_x X d c is (ls) (.int (Int32.ofNat X.1) :: st) (K, ci, cj, cr) else none := by
  show (match (if o = 1000 then _ else none : e_T) with | some (a, b, q) => _ | none => _) = _
  by_cases h : o = 1000
  · rw [if_pos h, if_pos h]; rfl
  · rw [if_neg h, if_neg h]
theorem x_daload {o : Nat} {i : Int32} : s_x X d c (.daload :: is) (ls) (.int i :: .ref o :: st) (K, ci, cj, cr) = if (decide (o = 1001) && e_in i 6) = true then s_x X d c is (ls) (.int (e_abv i.toNatClampNeg) :: st) (K, ci, cj, cr) else none := by
  show (match (if (decide (o = 1001) && e_in i 6) = true then _ else none : e_T) with | some (a, b, q) => _ | none => _) = _
  by_cases h : (decide (o = 1001) && e_in i 6) = true
  · rw [if_pos h, if_pos h]; rfl
  · rw [if_neg h, if_neg h]
theorem x_fsub {o : Nat} : s_x X d c (.fsub :: is) (ls) (.ref o :: st) (K, ci, cj, cr) = if o = 1001 then s_x X d c is (ls) (.int 6 :: st) (K, ci, cj, cr) else none := by
  show (match (if o = 1001 then _ else none : e_T) with | some (a, b, q) => _ | none => _) = _
  by_cases h : o = 1001
  · rw [if_pos h, if_pos h]; rfl
  · rw [if_neg h, if_neg h]
theorem x_baload {o : Nat} {i : Int32} : s_x X d c (.baload :: is) (ls) (.int i :: .ref o :: st) (K, ci, cj, cr) = if (decide (o = 1003) && e_in i 98) = true then s_x X d c is (ls) (.int (e_nms.getD i.toNatClampNeg 0) :: st) (K, ci, cj, cr) else none := by
  show (match (if (decide (o = 1003) && e_in i 98) = true then _ else none : e_T) with | some (a, b, q) => _ | none => _) = _
  by_cases h : (decide (o = 1003) && e_in i 98) = true
  · rw [if_pos h, if_pos h]; rfl
  · rw [if_neg h, if_neg h]
theorem x_fmul {o : Nat} : s_x X d c (.fmul :: is) (ls) (.ref o :: st) (K, ci, cj, cr) = if o = 1003 then s_x X d c is (ls) (.int 98 :: st) (K, ci, cj, cr) else none := by
  show (match (if o = 1003 then _ else none : e_T) with | some (a, b, q) => _ | none => _) = _
  by_cases h : o = 1003
  · rw [if_pos h, if_pos h]; rfl
  · rw [if_neg h, if_neg h]
theorem x_fload0 : s_x X d c (.fload 0 :: is) (ls) (.ref 1002 :: st) m = s_x X d c is (ls) (.ref 1003 :: st) m := rfl
theorem x_fload1 : s_x X d c (.fload 1 :: is) (ls) (.ref 1002 :: st) m = s_x X d c is (ls) (.int 0 :: st) m := rfl
theorem x_gets0 : s_x X d c (.getstatic 0 :: is) (ls) (st) m = s_x X d c is (ls) (.ref 1001 :: st) m := rfl
theorem x_gets1 : s_x X d c (.getstatic 1 :: is) (ls) (st) m = s_x X d c is (ls) (.int 1 :: st) m := rfl
theorem x_gets2 : s_x X d c (.getstatic 2 :: is) (ls) (st) m = s_x X d c is (ls) (.ref 1004 :: st) m := rfl
theorem x_gets3 : s_x X d c (.getstatic 3 :: is) (ls) (st) m = s_x X d c is (ls) (.ref 1002 :: st) m := rfl
theorem x_alen {o z : Nat} (h : K[o]? = some (e_kI, z)) : s_x X d c (.arraylength :: is) ls (.ref o :: st) (K, ci, cj, cr) = s_x X d c is ls (.int (Int32.ofNat z) :: st) (K, ci, cj, cr) := by
  show (match (match K[o]? with | some (c, z) => if decide (c = e_kI) then some (ls, Value.int (Int32.ofNat z) :: st, (K, ci, cj, cr)) else none | none => none : e_T) with | some (a, b, q) => _ | none => _) = _
  rw [h]; rfl
theorem x_aaload {o k z : Nat} {i : Int32} (h : K[o]? = some (k, z)) (hk : e_kO ≤ k) (hi : e_in i z = true) : s_x X d c (.aaload :: is) ls (.int i :: .ref o :: st) (K, ci, cj, cr) = s_x X d c is ls (e_rf (cr o i.toNatClampNeg) :: st) (K, ci, cj, cr) := by
  show (match (match K[o]? with | some (c, z) => if decide (e_kO ≤ c) && e_in i z then some (ls, e_rf (cr o i.toNatClampNeg) :: st, (K, ci, cj, cr)) else none | none => none : e_T) with | some (a, b, q) => _ | none => _) = _
  rw [h]
  simp only [hk, hi, decide_true, Bool.and_self, if_true]
  rfl
theorem x_copy {o a : Nat} {n dp sp : Int32} (h : (decide (n < 0) || decide (dp < 0) || decide (sp < 0) || decide (e_ar K o e_kI < sp.toNatClampNeg + n.toNatClampNeg) || decide (e_ar K a e_kI < dp.toNatClampNeg + n.toNatClampNeg) || decide (st.length > 3) || decide (K.length ≤ o) || decide (K.length ≤ a)) = false) :
    s_x X d c (.dmul :: is) ls (.int n :: .int dp :: .ref a :: .int sp :: .ref o :: st) (K, ci, cj, cr) = s_x X d c is ls st (K, fun x b => if x = a then (if dp.toNatClampNeg ≤ b ∧ b < dp.toNatClampNeg + n.toNatClampNeg then ci o (sp.toNatClampNeg + (b - dp.toNatClampNeg)) else ci a b) else ci x b, cj, cr) := by
  show (match (if _ then none else _ : e_T) with | some (a, b, q) => _ | none => _) = _
  rw [if_neg (by rw [h]; decide)]
  rfl
end
