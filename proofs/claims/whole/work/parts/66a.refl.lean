/-! THE CONSTRUCTORS, computed: an evaluator over lists of what was stored, the latest first -/
abbrev rM : Type := List (Nat × Nat) × List (Nat × Nat × Int) × List (Nat × Nat × Nat)
abbrev rR : Type := Option (List Value × rM)
def fz : List (Nat × Nat × Int) → Nat → Int → Int
  | [], _, _ => 0
  | e :: t, a, b => if a = e.1 ∧ b = (e.2.1 : Int) then e.2.2 else fz t a b
def fr : List (Nat × Nat × Nat) → Nat → Nat → Nat
  | [], _, _ => 0
  | e :: t, a, b => if a = e.1 ∧ b = e.2.1 then e.2.2 else fr t a b
def al (c : rM) : e_M := (c.1, fun a b => iI (fz c.2.1 a b), fun _ _ => lI 0, fr c.2.2)
def fre (c : rM) : Bool := c.2.1.all (fun e => decide (e.1 < c.1.length)) && c.2.2.all (fun e => decide (e.1 < c.1.length))
theorem fz_0 {n a : Nat} {b : Int} : ∀ (U : List (Nat × Nat × Int)), U.all (fun e => decide (e.1 < n)) = true → n ≤ a → fz U a b = 0
  | [], _, _ => rfl
  | e :: t, h, ha => by
    rw [List.all_cons, Bool.and_eq_true, decide_eq_true_eq] at h
    show (if _ then _ else _) = _
    rw [if_neg (fun q => by omega)]
    exact fz_0 t h.2 ha
theorem fr_0 {n a b : Nat} : ∀ (U : List (Nat × Nat × Nat)), U.all (fun e => decide (e.1 < n)) = true → n ≤ a → fr U a b = 0
  | [], _, _ => rfl
  | e :: t, h, ha => by
    rw [List.all_cons, Bool.and_eq_true, decide_eq_true_eq] at h
    show (if _ then _ else _) = _
    rw [if_neg (fun q => by omega)]
    exact fr_0 t h.2 ha
theorem fz_up {U : List (Nat × Nat × Int)} {o k : Nat} {v : Int32} : e_up (fun (a b : Nat) => iI (fz U a (b : Int))) o k v = fun (a b : Nat) => iI (fz ((o, k, v.toInt) :: U) a (b : Int)) := by
  funext a b
  show (if a = o ∧ b = k then v else iI (fz U a b)) = iI (if a = o ∧ (b : Int) = (k : Int) then v.toInt else fz U a b)
  by_cases h : a = o ∧ b = k
  · rw [if_pos h, if_pos ⟨h.1, by rw [h.2]⟩, iI_of]
  · rw [if_neg h, if_neg (fun q => h ⟨q.1, by omega⟩)]
theorem fr_up {V : List (Nat × Nat × Nat)} {o k v : Nat} : e_up (fr V) o k v = fr ((o, k, v) :: V) := rfl
theorem fz_cl {K : List (Nat × Nat)} {U : List (Nat × Nat × Int)} {V : List (Nat × Nat × Nat)} (h : fre (K, U, V) = true) : (fun (a b : Nat) => if a = K.length then (0 : Int32) else iI (fz U a (b : Int))) = fun (a b : Nat) => iI (fz U a (b : Int)) := by
  unfold fre at h
  rw [Bool.and_eq_true] at h
  funext a b
  by_cases q : a = K.length
  · rw [if_pos q, fz_0 U h.1 (by simp only; omega)]
    rfl
  · rw [if_neg q]
theorem fr_cl {K : List (Nat × Nat)} {U : List (Nat × Nat × Int)} {V : List (Nat × Nat × Nat)} (h : fre (K, U, V) = true) : (fun (a b : Nat) => if a = K.length then 0 else fr V a b) = fr V := by
  unfold fre at h
  rw [Bool.and_eq_true] at h
  funext a b
  by_cases q : a = K.length
  · rw [if_pos q, fr_0 V h.2 (by simp only; omega)]
  · rw [if_neg q]
theorem fl_cl {n : Nat} : (fun (a _ : Nat) => if a = n then (0 : Int64) else lI 0) = fun _ _ => lI 0 := by
  funext a b
  split <;> rfl
abbrev rT : Type := Option (List Value × List Value × rM)
def r_st (i : Instr) (ls st : List Value) (c : rM) : rT := match i with
  | .sipush v => some (ls, .int (Int32.ofInt v) :: st, c)
  | .iload i => match ls[i]? with
    | some (.int x) => some (ls, .int x :: st, c)
    | _ => none
  | .aload i => match ls[i]? with
    | some (.ref x) => some (ls, .ref x :: st, c)
    | _ => none
  | .istore i => match st with
    | .int x :: r => (e_st1 i ls (.int x)).map fun l => (l, r, c)
    | _ => none
  | .iinc i n => match ls[i]? with
    | some (.int x) => (e_st1 i ls (.int (x + Int32.ofInt n))).map fun l => (l, st, c)
    | _ => none
  | .iadd => match st with
    | .int y :: .int x :: r => some (ls, .int (x + y) :: r, c)
    | _ => none
  | .dup => match st with
    | .int x :: r => some (ls, .int x :: .int x :: r, c)
    | .ref x :: r => some (ls, .ref x :: .ref x :: r, c)
    | _ => none
  | .pop2 => match st with
    | .ref _ :: r => if e_lo r then some (ls, r, c) else none
    | _ => none
  | .checkcast n => match st with
    | .ref o :: r => if e_ob c.1 o n then some (ls, e_rf (fr c.2.2 o (n % 64)) :: r, c) else none
    | _ => none
  | .putfield n => match st with
    | .int v :: .ref o :: r => if e_ob c.1 o n && (!(e_bool n) || decide (v = 0) || decide (v = 1)) then some (ls, r, c.1, (o, n % 64, v.toInt) :: c.2.1, c.2.2) else none
    | _ => none
  | .instanceof n => match st with
    | .ref v :: .ref o :: r => if e_ob c.1 o n && decide (v < c.1.length) then some (ls, r, c.1, c.2.1, (o, n % 64, v + 1) :: c.2.2) else none
    | _ => none
  | .aastore => match st with
    | .ref v :: .int i :: .ref o :: r => match c.1[o]?, c.1[v]? with
      | some (c0, z), some (d, _) => if decide (d < e_kI) && decide (c0 = e_kO + d) && e_in i z then some (ls, r, c.1, c.2.1, (o, i.toNatClampNeg, v + 1) :: c.2.2) else none
      | _, _ => none
    | _ => none
  | .iastore => match st with
    | .int v :: .int i :: .ref o :: r => if e_in i (e_ar c.1 o e_kI) then some (ls, r, c.1, (o, i.toNatClampNeg, v.toInt) :: c.2.1, c.2.2) else none
    | _ => none
  | .castore => match st with
    | .int v :: .int i :: .ref o :: r => if e_in i (e_ar c.1 o e_kC) && decide ((v.toUInt32 % 65536).toInt32 = v) then some (ls, r, c.1, (o, i.toNatClampNeg, v.toInt) :: c.2.1, c.2.2) else none
    | _ => none
  | .new k => if fre c then some (ls, .ref c.1.length :: st, c.1 ++ [(k, e_nf k)], c.2) else none
  | .newarray a => match st with
    | .int i :: r => if i < 0 then none else if fre c then (match a with
      | .int => some (ls, .ref c.1.length :: r, c.1 ++ [(e_kI, i.toNatClampNeg)], c.2)
      | .char => some (ls, .ref c.1.length :: r, c.1 ++ [(e_kC, i.toNatClampNeg)], c.2)
      | .long => some (ls, .ref c.1.length :: r, c.1 ++ [(e_kJ, i.toNatClampNeg)], c.2)
      | _ => none) else none
    | _ => none
  | .anewarray n => match st with
    | .int i :: r => if i < 0 then none else if fre c then some (ls, .ref c.1.length :: r, c.1 ++ [(e_kO + n, i.toNatClampNeg)], c.2) else none
    | _ => none
  | _ => none
theorem r_st_s {X : e_X} {i : Instr} {ls st ls' st' : List Value} {c c' : rM} (h : r_st i ls st c = some (ls', st', c')) : e_st X i ls st (al c) = some (ls', st', al c') := by
  obtain ⟨K, U, V⟩ := c
  unfold r_st at h
  split at h
  · cases h; rfl
  · split at h
    · rename_i i0 o0 x q
      cases h
      show (match ls[i0]? with | some (Value.int x) => some (ls, Value.int x :: st, al (K, U, V)) | _ => none : e_T) = _
      rw [q]
    · cases h
  · split at h
    · rename_i i0 o0 x q
      cases h
      show (match ls[i0]? with | some (Value.ref x) => some (ls, Value.ref x :: st, al (K, U, V)) | _ => none : e_T) = _
      rw [q]
    · cases h
  · split at h
    · rename_i i0 st0 x r
      show (e_st1 i0 ls (.int x)).map (fun l => (l, r, al (K, U, V))) = _
      revert h
      cases e_st1 i0 ls (.int x) with
      | none => intro h; cases h
      | some l => intro h; cases h; rfl
    · cases h
  · split at h
    · rename_i i0 n0 o0 x q
      show (match ls[i0]? with | some (Value.int x) => (e_st1 i0 ls (.int (x + Int32.ofInt n0))).map (fun l => (l, st, al (K, U, V))) | _ => none) = _
      rw [q]
      dsimp only
      revert h
      cases e_st1 i0 ls (.int (x + Int32.ofInt n0)) with
      | none => intro h; cases h
      | some l => intro h; cases h; rfl
    · cases h
  · split at h
    · cases h; rfl
    · cases h
  · split at h
    · cases h; rfl
    · cases h; rfl
    · cases h
  · split at h
    · rename_i a r
      split at h
      · rename_i q
        cases h
        show (if e_lo _ = true then _ else _) = _
        rw [if_pos q]
      · cases h
    · cases h
  · split at h
    · split at h
      · rename_i q
        cases h
        show (if e_ob K _ _ = true then _ else _) = _
        rw [if_pos q]
        rfl
      · cases h
    · cases h
  · split at h
    · split at h
      · rename_i q
        cases h
        show (if (e_ob K _ _ && _) = true then _ else _) = _
        rw [if_pos q]
        show some (_, _, K, e_up (fun (a b : Nat) => iI (fz U a (b : Int))) _ _ _, _, _) = _
        rw [fz_up]
        rfl
      · cases h
    · cases h
  · split at h
    · split at h
      · rename_i q
        cases h
        show (if (e_ob K _ _ && decide (_ < K.length)) = true then _ else _) = _
        rw [if_pos q]
        rfl
      · cases h
    · cases h
  · split at h
    · rename_i st0 v0 i0 o0 r0
      have e0 : e_st X .aastore ls (.ref v0 :: .int i0 :: .ref o0 :: r0) (al (K, U, V)) = (match K[o0]?, K[v0]? with
        | some (c, z), some (d, _) => if (decide (d < e_kI) && decide (c = e_kO + d) && e_in i0 z) = true then some (ls, r0, K, (fun (a b : Nat) => iI (fz U a (b : Int))), (fun _ _ => lI 0), e_up (fr V) o0 i0.toNatClampNeg (v0 + 1)) else none
        | _, _ => none : e_T) := rfl
      rw [e0]
      split at h
      · rename_i q1 q2
        split at h
        · rename_i q
          cases h
          have q1 : K[o0]? = _ := q1
          have q2 : K[v0]? = _ := q2
          rw [q1, q2]
          dsimp only
          rw [if_pos q]
          rfl
        · cases h
      · cases h
    · cases h
  · split at h
    · split at h
      · rename_i q
        cases h
        show (if e_in _ (e_ar K _ e_kI) = true then _ else _) = _
        rw [if_pos q]
        show some (_, _, K, e_up (fun (a b : Nat) => iI (fz U a (b : Int))) _ _ _, _, _) = _
        rw [fz_up]
        rfl
      · cases h
    · cases h
  · split at h
    · split at h
      · rename_i q
        cases h
        show (if (e_in _ (e_ar K _ e_kC) && _) = true then _ else _) = _
        rw [if_pos q]
        show some (_, _, K, e_up (fun (a b : Nat) => iI (fz U a (b : Int))) _ _ _, _, _) = _
        rw [fz_up]
        rfl
      · cases h
    · cases h
  · split at h
    · rename_i q
      cases h
      show some (_, _, K ++ _, (fun (a b : Nat) => if a = K.length then (0 : Int32) else iI (fz U a (b : Int))), _, (fun (a b : Nat) => if a = K.length then 0 else fr V a b)) = _
      rw [fz_cl q, fr_cl q]
      rfl
    · cases h
  · split at h
    · rename_i i0 r
      split at h
      · cases h
      · rename_i q0
        split at h
        · rename_i q
          split at h
          · cases h
            show (if i0 < 0 then none else _) = _
            rw [if_neg q0]
            show some (_, _, K ++ _, (fun (a b : Nat) => if a = K.length then (0 : Int32) else iI (fz U a (b : Int))), _, (fun (a b : Nat) => if a = K.length then 0 else fr V a b)) = _
            rw [fz_cl q, fr_cl q]
            rfl
          · cases h
            show (if i0 < 0 then none else _) = _
            rw [if_neg q0]
            show some (_, _, K ++ _, (fun (a b : Nat) => if a = K.length then (0 : Int32) else iI (fz U a (b : Int))), _, (fun (a b : Nat) => if a = K.length then 0 else fr V a b)) = _
            rw [fz_cl q, fr_cl q]
            rfl
          · cases h
            show (if i0 < 0 then none else _) = _
            rw [if_neg q0]
            show some (_, _, K ++ _, _, (fun (a _ : Nat) => if a = K.length then (0 : Int64) else lI 0), (fun (a b : Nat) => if a = K.length then 0 else fr V a b)) = _
            rw [fl_cl, fr_cl q]
            rfl
          · cases h
        · cases h
    · cases h
  · split at h
    · rename_i i0 r
      split at h
      · cases h
      · rename_i q0
        split at h
        · rename_i q
          cases h
          show (if i0 < 0 then none else _) = _
          rw [if_neg q0]
          show some (_, _, K ++ _, _, _, (fun (a b : Nat) => if a = K.length then 0 else fr V a b)) = _
          rw [fr_cl q]
          rfl
        · cases h
    · cases h
  · cases h
