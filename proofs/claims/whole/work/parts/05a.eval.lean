/-! AN EVALUATOR of resolved code, over an abstract memory: kinds and sizes of the cells by their number; ints, longs and references (0: null, n + 1: cell n) by cell and place -/
abbrev e_M : Type := List (Nat × Nat) × (Nat → Nat → Int32) × (Nat → Nat → Int64) × (Nat → Nat → Nat)
/-- the script: how many, which -/
abbrev e_X : Type := Nat × (Nat → Int32)
abbrev e_R : Type := Option (List Value × e_M)
abbrev e_T : Type := Option (List Value × List Value × e_M)
def e_rf : Nat → Value
  | 0 => .null
  | n + 1 => .ref n
def e_up {α : Type} (f : Nat → Nat → α) (o k : Nat) (v : α) : Nat → Nat → α := fun a b => if a = o ∧ b = k then v else f a b
def e_in (i : Int32) (n : Nat) : Bool := !(decide (i < 0) || decide (n ≤ i.toNatClampNeg))
theorem e_in_iff {i : Int32} {n : Nat} : e_in i n = true ↔ vp_in i n := by
  simp [e_in, vp_in]
def e_abv (i : Nat) : Int32 := ([-1, 0, 0, 2, 0, 4] : List Int32).getD i 0
/-- kinds of arrays behind those of classes -/
def e_kI : Nat := 100
def e_kC : Nat := 101
def e_kJ : Nat := 102
def e_kO : Nat := 200
def e_c (c : Jvm.ClassFile.Cond) (x y : Int32) : Bool := match c with
  | .eq => decide (x = y)
  | .ne => decide (¬ x = y)
  | .lt => decide (x < y)
  | .ge => decide (y ≤ x)
  | .gt => decide (y < x)
  | .le => decide (x ≤ y)
def e_sw (J : Nat → e_R) (d : Int) (ps : List (Int × Int)) (x : Int32) : e_R := match ps with
  | [] => J d.toNat
  | (a, t) :: r => if x.toInt = a then J t.toNat else e_sw J d r x
/-- what may lie below a call's arguments -/
def e_lo (r : List Value) : Bool := decide (r.length ≤ 4)
def e_iq (f : Int32 → Int32 → Int32) (ls st : List Value) (m : e_M) : e_T := match st with
  | .int y :: .int x :: r => if e_lo r then some (ls, .int (f x y) :: r, m) else none
  | _ => none
def e_ii (f : Int32 → Int32 → Int32) (ls st : List Value) (m : e_M) : e_T := match st with
  | .int y :: .int x :: r => some (ls, .int (f x y) :: r, m)
  | _ => none
def e_i1 (f : Int32 → Int32) (ls st : List Value) (m : e_M) : e_T := match st with
  | .int x :: r => some (ls, .int (f x) :: r, m)
  | _ => none
def e_id (f : Int32 → Int32 → Int32) (ls st : List Value) (m : e_M) : e_T := match st with
  | .int y :: .int x :: r => if y = 0 then none else some (ls, .int (f x y) :: r, m)
  | _ => none
def e_jj (f : Int64 → Int64 → Int64) (ls st : List Value) (m : e_M) : e_T := match st with
  | .long y :: .long x :: r => some (ls, .long (f x y) :: r, m)
  | _ => none
def e_ji (f : Int64 → Int32 → Int64) (ls st : List Value) (m : e_M) : e_T := match st with
  | .int y :: .long x :: r => some (ls, .long (f x y) :: r, m)
  | _ => none
def e_st1 (i : Nat) (ls : List Value) (v : Value) : Option (List Value) :=
  if i < ls.length then (match i with
    | 0 => some (ls.set i v)
    | j + 1 => match ls[j]? with
      | some w => if w.category = 2 then none else some (ls.set (j + 1) v)
      | none => none) else none
def e_st2 (i : Nat) (ls : List Value) (v : Value) : Option (List Value) :=
  if i + 1 < ls.length then (match i with
    | 0 => some ((ls.set 0 v).set 1 (.retAddr 0))
    | j + 1 => match ls[j]? with
      | some w => if w.category = 2 then none else some ((ls.set (j + 1) v).set (j + 2) (.retAddr 0))
      | none => none) else none
/-- an object o of class n / 64, its place n % 64 -/
def e_ob (K : List (Nat × Nat)) (o n : Nat) : Bool := match K[o]? with
  | some (c, z) => decide (c = n / 64) && decide (n % 64 < z)
  | none => false
/-- an array o of a kind: how long -/
def e_ar (K : List (Nat × Nat)) (o k : Nat) : Nat := match K[o]? with
  | some (c, z) => if c = k then z else 0
  | none => 0
def e_st (X : e_X) (i : Instr) (ls st : List Value) (m : e_M) : e_T := match i with
  | .sipush v => some (ls, .int (Int32.ofInt v) :: st, m)
  | .goto_w v => some (ls, .long (Int64.ofInt v) :: st, m)
  | .iload i => match ls[i]? with
    | some (.int x) => some (ls, .int x :: st, m)
    | _ => none
  | .lload i => match ls[i]? with
    | some (.long x) => some (ls, .long x :: st, m)
    | _ => none
  | .aload i => match ls[i]? with
    | some (.ref x) => some (ls, .ref x :: st, m)
    | _ => none
  | .istore i => match st with
    | .int x :: r => (e_st1 i ls (.int x)).map fun l => (l, r, m)
    | _ => none
  | .astore i => match st with
    | .ref x :: r => (e_st1 i ls (.ref x)).map fun l => (l, r, m)
    | _ => none
  | .lstore i => match st with
    | .long x :: r => (e_st2 i ls (.long x)).map fun l => (l, r, m)
    | _ => none
  | .iinc i n => match ls[i]? with
    | some (.int x) => (e_st1 i ls (.int (x + Int32.ofInt n))).map fun l => (l, st, m)
    | _ => none
  | .iadd => e_ii (fun x y => x + y) ls st m
  | .isub => e_ii (fun x y => x - y) ls st m
  | .imul => e_ii (fun x y => x * y) ls st m
  | .idiv => e_id (fun x y => x / y) ls st m
  | .irem => e_id (fun x y => x % y) ls st m
  | .iand => e_ii (fun x y => x &&& y) ls st m
  | .ior => e_ii (fun x y => x ||| y) ls st m
  | .ixor => e_ii (fun x y => x ^^^ y) ls st m
  | .ishl => e_ii (fun x y => x <<< (y &&& 31)) ls st m
  | .ishr => e_ii (fun x y => x >>> (y &&& 31)) ls st m
  | .iushr => e_ii (fun x y => (x.toUInt32 >>> (y.toUInt32 &&& Int32.toUInt32 31)).toInt32) ls st m
  | .ineg => e_i1 (fun x => -x) ls st m
  | .i2b => e_i1 (fun x => x.toInt8.toInt32) ls st m
  | .i2s => e_i1 (fun x => x.toInt16.toInt32) ls st m
  | .i2c => e_i1 (fun x => (x.toUInt32 % 65536).toInt32) ls st m
  | .ladd => e_jj (fun x y => x + y) ls st m
  | .lsub => e_jj (fun x y => x - y) ls st m
  | .land => e_jj (fun x y => x &&& y) ls st m
  | .lor => e_jj (fun x y => x ||| y) ls st m
  | .lxor => e_jj (fun x y => x ^^^ y) ls st m
  | .lshl => e_ji (fun x y => x <<< (y.toInt64 &&& 63)) ls st m
  | .lshr => e_ji (fun x y => x >>> (y.toInt64 &&& 63)) ls st m
  | .lushr => e_ji (fun x y => (x.toUInt64 >>> (y.toInt64.toUInt64 &&& Int64.toUInt64 63)).toInt64) ls st m
  | .lcmp => match st with
    | .long y :: .long x :: r => some (ls, .int (lg_cmp x y) :: r, m)
    | _ => none
  | .i2l => match st with
    | .int x :: r => some (ls, .long x.toInt64 :: r, m)
    | _ => none
  | .l2i => match st with
    | .long x :: r => some (ls, .int x.toInt32 :: r, m)
    | _ => none
  | .dup => match st with
    | .int x :: r => some (ls, .int x :: .int x :: r, m)
    | .ref x :: r => some (ls, .ref x :: .ref x :: r, m)
    | _ => none
  | .pop => match st with
    | .int _ :: r => some (ls, r, m)
    | _ => none
  | .pop2 => match st with
    | .ref _ :: r => if e_lo r then some (ls, r, m) else none
    | _ => none
  | .dup_x1 => match st with
    | .int x :: .ref y :: r => some (ls, .int x :: .ref y :: .int x :: r, m)
    | _ => none
  | .dup2 => match st with
    | .int x :: .ref y :: r => some (ls, .int x :: .ref y :: .int x :: .ref y :: r, m)
    | _ => none
  -- Math.max, min, abs
  | .dadd => e_iq (fun x y => if x < y then y else x) ls st m
  | .dsub => e_iq (fun x y => if y < x then y else x) ls st m
  | .dneg => match st with
    | .int x :: r => if e_lo r then some (ls, .int (if 0 ≤ x then x else 0 - x) :: r, m) else none
    | _ => none
  -- fields
  | .getfield n => match st with
    | .ref o :: r => if e_ob m.1 o n then some (ls, .int (m.2.1 o (n % 64)) :: r, m) else none
    | _ => none
  | .checkcast n => match st with
    | .ref o :: r => if e_ob m.1 o n then some (ls, e_rf (m.2.2.2 o (n % 64)) :: r, m) else none
    | _ => none
  | .putfield n => match st with
    | .int v :: .ref o :: r => if e_ob m.1 o n && (!(e_bool n) || decide (v = 0) || decide (v = 1)) then some (ls, r, m.1, e_up m.2.1 o (n % 64) v, m.2.2.1, m.2.2.2) else none
    | _ => none
  | .instanceof n => match st with
    | .ref v :: .ref o :: r => if e_ob m.1 o n && decide (v < m.1.length) then some (ls, r, m.1, m.2.1, m.2.2.1, e_up m.2.2.2 o (n % 64) (v + 1)) else none
    | _ => none
  -- arrays
  | .iaload => match st with
    | .int i :: .ref o :: r => if e_in i (e_ar m.1 o e_kI) then some (ls, .int (m.2.1 o i.toNatClampNeg) :: r, m) else none
    | _ => none
  | .caload => match st with
    | .int i :: .ref o :: r => if e_in i (e_ar m.1 o e_kC) then some (ls, .int (m.2.1 o i.toNatClampNeg) :: r, m) else none
    | _ => none
  | .laload => match st with
    | .int i :: .ref o :: r => if e_in i (e_ar m.1 o e_kJ) then some (ls, .long (m.2.2.1 o i.toNatClampNeg) :: r, m) else none
    | _ => none
  | .anewarray n => match st with
    | .int i :: r => if i < 0 then none else some (ls, .ref m.1.length :: r, m.1 ++ [(e_kO + n, i.toNatClampNeg)], m.2.1, m.2.2.1, fun a b => if a = m.1.length then 0 else m.2.2.2 a b)
    | _ => none
  | .aaload => match st with
    | .int i :: .ref o :: r => match m.1[o]? with
      | some (c, z) => if decide (e_kO ≤ c) && e_in i z then some (ls, e_rf (m.2.2.2 o i.toNatClampNeg) :: r, m) else none
      | none => none
    | _ => none
  | .aastore => match st with
    | .ref v :: .int i :: .ref o :: r => match m.1[o]?, m.1[v]? with
      | some (c, z), some (d, _) => if decide (d < e_kI) && decide (c = e_kO + d) && e_in i z then some (ls, r, m.1, m.2.1, m.2.2.1, e_up m.2.2.2 o i.toNatClampNeg (v + 1)) else none
      | _, _ => none
    | _ => none
  | .iastore => match st with
    | .int v :: .int i :: .ref o :: r => if e_in i (e_ar m.1 o e_kI) then some (ls, r, m.1, e_up m.2.1 o i.toNatClampNeg v, m.2.2.1, m.2.2.2) else none
    | _ => none
  | .castore => match st with
    | .int v :: .int i :: .ref o :: r => if e_in i (e_ar m.1 o e_kC) && decide ((v.toUInt32 % 65536).toInt32 = v) then some (ls, r, m.1, e_up m.2.1 o i.toNatClampNeg v, m.2.2.1, m.2.2.2) else none
    | _ => none
  | .lastore => match st with
    | .long v :: .int i :: .ref o :: r => if e_in i (e_ar m.1 o e_kJ) then some (ls, r, m.1, m.2.1, e_up m.2.2.1 o i.toNatClampNeg v, m.2.2.2) else none
    | _ => none
  | .arraylength => match st with
    | .ref o :: r => match m.1[o]? with
      | some (c, z) => if decide (c = e_kI) then some (ls, .int (Int32.ofNat z) :: r, m) else none
      | none => none
    | _ => none
  | .new c => some (ls, .ref m.1.length :: st, m.1 ++ [(c, e_nf c)], fun a b => if a = m.1.length then 0 else m.2.1 a b, m.2.2.1, fun a b => if a = m.1.length then 0 else m.2.2.2 a b)
  | .newarray a => match st with
    | .int i :: r => if i < 0 then none else match a with
      | .int => some (ls, .ref m.1.length :: r, m.1 ++ [(e_kI, i.toNatClampNeg)], fun a b => if a = m.1.length then 0 else m.2.1 a b, m.2.2.1, fun a b => if a = m.1.length then 0 else m.2.2.2 a b)
      | .char => some (ls, .ref m.1.length :: r, m.1 ++ [(e_kC, i.toNatClampNeg)], fun a b => if a = m.1.length then 0 else m.2.1 a b, m.2.2.1, fun a b => if a = m.1.length then 0 else m.2.2.2 a b)
      | .long => some (ls, .ref m.1.length :: r, m.1 ++ [(e_kJ, i.toNatClampNeg)], m.2.1, fun a b => if a = m.1.length then 0 else m.2.2.1 a b, fun a b => if a = m.1.length then 0 else m.2.2.2 a b)
      | _ => none
    | _ => none
  -- System.arraycopy of ints
  | .dmul => match st with
    | .int n :: .int dp :: .ref d :: .int sp :: .ref o :: r => match m.1[o]?, m.1[d]? with
      | some (ka, z0), some (kb, z1) => if decide (ka = e_kI) && decide (kb = e_kI) && !(decide (n < 0)) && !(decide (dp < 0)) && !(decide (sp < 0)) && decide (sp.toNatClampNeg + n.toNatClampNeg ≤ z0) && decide (dp.toNatClampNeg + n.toNatClampNeg ≤ z1) && decide (r.length ≤ 3)
        then some (ls, r, m.1, fun a b => if a = d then (if dp.toNatClampNeg ≤ b ∧ b < dp.toNatClampNeg + n.toNatClampNeg then m.2.1 o (sp.toNatClampNeg + (b - dp.toNatClampNeg)) else m.2.1 d b) else m.2.1 a b, m.2.2.1, m.2.2.2) else none
      | _, _ => none
    | _ => none
  -- the script (1000), ABOVE (1001), the text of names (1002) and its bytes (1003), a formatter (1004)
  | .faload => match st with
    | .int i :: .ref o :: r => if decide (o = 1000) && e_in i X.1 then some (ls, .int (X.2 i.toNatClampNeg) :: r, m) else none
    | _ => none
  | .fadd => match st with
    | .ref o :: r => if o = 1000 then some (ls, .int (Int32.ofNat X.1) :: r, m) else none
    | _ => none
  | .daload => match st with
    | .int i :: .ref o :: r => if decide (o = 1001) && e_in i 6 then some (ls, .int (e_abv i.toNatClampNeg) :: r, m) else none
    | _ => none
  | .fsub => match st with
    | .ref o :: r => if o = 1001 then some (ls, .int 6 :: r, m) else none
    | _ => none
  | .fload n => match st with
    | .ref o :: r => if o = 1002 then (match n with
      | 0 => some (ls, .ref 1003 :: r, m)
      | 1 => some (ls, .int 0 :: r, m)
      | _ => none) else none
    | _ => none
  | .baload => match st with
    | .int i :: .ref o :: r => if decide (o = 1003) && e_in i 98 then some (ls, .int (e_nms.getD i.toNatClampNeg 0) :: r, m) else none
    | _ => none
  | .fmul => match st with
    | .ref o :: r => if o = 1003 then some (ls, .int 98 :: r, m) else none
    | _ => none
  | .getstatic n => match n with
    | 0 => some (ls, .ref 1001 :: st, m)
    | 1 => some (ls, .int 1 :: st, m)
    | 2 => some (ls, .retAddr 1 :: st, m)
    | 3 => some (ls, .ref 1002 :: st, m)
    | _ => none
  | _ => none

def e_x (X : e_X) (S : Nat → List Value → e_M → e_R) (J : Nat → List Value → List Value → e_M → e_R) : List Instr → List Value → List Value → e_M → e_R
  | [], _, _, _ => none
  | i :: is, ls, st, m =>
    match i with
    | .goto t => J t.toNat ls st m
    | .jsr t => J t.toNat ls st m
    | .ifCond c t => match st with
      | .int x :: r => if e_c c x 0 then J t.toNat ls r m else e_x X S J is ls r m
      | _ => none
    | .if_icmp c t => match st with
      | .int y :: .int x :: r => if e_c c x y then J t.toNat ls r m else e_x X S J is ls r m
      | _ => none
    | .lookupswitch d ps => match st with
      | .int x :: r => e_sw (fun t => J t ls r m) d ps.toList x
      | _ => none
    | .ireturn => match st with
      | [.int x] => some ([.int x], m)
      | _ => none
    | .areturn => match st with
      | [.int x] => if decide (x = 0) || decide (x = 1) then some ([.int x], m) else none
      | _ => none
    | .freturn => match st with
      | [.int x] => if (x.toUInt32 % 65536).toInt32 = x then some ([.int x], m) else none
      | _ => none
    | .dreturn => match st with
      | [.int x] => if x.toInt8.toInt32 = x then some ([.int x], m) else none
      | _ => none
    | .lreturn => match st with
      | [.long x] => some ([.long x], m)
      | _ => none
    | .return_ => match st with
      | [] => some ([], m)
      | _ => none
    | .invokeinterface c n => if decide (n ≤ st.length) && e_lo (st.drop n) then (match S c (st.take n).reverse m with
      | some (r, m') => e_x X S J is ls (r ++ st.drop n) m'
      | none => none) else none
    | i => match e_st X i ls st m with
      | some (ls', st', m') => e_x X S J is ls' st' m'
      | none => none
def e_ent (n : Nat) (as : List Value) : List Value :=
  let l := as.flatMap fun v => if v.category = 2 then [v, .retAddr 0] else [v]
  l ++ List.replicate (n - l.length) (.retAddr 0)
