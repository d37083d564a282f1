/-! THE CODE is as resolved: each resolved instruction beside the decoded one -/
/-- may r stand for the instruction i of len bytes at pc of the method c -/
def k_ok (c pc len : Nat) (i r : Instr) : Bool := match r with
  | .sipush v => match i with
    | .iconst n => decide (n = v) && decide (len = 1)
    | .bipush n => decide (n = v) && decide (len = 2) && decide ((Int8.ofInt n).toInt32 = Int32.ofInt n)
    | .sipush n => decide (n = v) && decide (len = 3) && decide ((Int16.ofInt n).toInt32 = Int32.ofInt n)
    | .ldc x => decide (len = 2) && decide ((k_i (g_own c) x).map (·.1) = some v)
    | .ldc_w x => decide (len = 3) && decide ((k_i (g_own c) x).map (·.1) = some v)
    | _ => false
  | .goto_w v => match i with
    | .lconst n => decide (((n : Nat) : Int) = v) && decide (len = 1)
    | .ldc2_w x => decide (len = 3) && decide ((k_j (g_own c) x).map (·.1) = some v)
    | _ => false
  | .iload k => match i with
    | .iload n => decide (n = k) && decide (len = 2)
    | .iload_n n => decide (n.val = k) && decide (len = 1)
    | _ => false
  | .lload k => match i with
    | .lload n => decide (n = k) && decide (len = 2)
    | .lload_n n => decide (n.val = k) && decide (len = 1)
    | _ => false
  | .aload k => match i with
    | .aload n => decide (n = k) && decide (len = 2)
    | .aload_n n => decide (n.val = k) && decide (len = 1)
    | _ => false
  | .istore k => match i with
    | .istore n => decide (n = k) && decide (len = 2)
    | .istore_n n => decide (n.val = k) && decide (len = 1)
    | _ => false
  | .lstore k => match i with
    | .lstore n => decide (n = k) && decide (len = 2)
    | .lstore_n n => decide (n.val = k) && decide (len = 1)
    | _ => false
  | .astore k => match i with
    | .astore n => decide (n = k) && decide (len = 2)
    | .astore_n n => decide (n.val = k) && decide (len = 1)
    | _ => false
  | .iinc k v => decide (i = .iinc k v) && decide (len = 3)
  | .dadd => match i with
    | .invokestatic x => decide (len = 3) && decide ((k_s (g_own c) x).map (·.1) = some 0)
    | _ => false
  | .dsub => match i with
    | .invokestatic x => decide (len = 3) && decide ((k_s (g_own c) x).map (·.1) = some 1)
    | _ => false
  | .dneg => match i with
    | .invokestatic x => decide (len = 3) && decide ((k_s (g_own c) x).map (·.1) = some 2)
    | _ => false
  | .pop2 => match i with
    | .invokespecial x => decide (len = 3) && decide ((k_s (g_own c) x).map (·.1) = some 3)
    | _ => false
  | .dmul => match i with
    | .invokestatic x => decide (len = 3) && decide ((k_s (g_own c) x).map (·.1) = some 4)
    | _ => false
  | .getfield n => match i with
    | .getfield x => decide (len = 3) && decide ((k_f (g_own c) x).map (·.1) = some n) && !(q_rf (n / 64) (n % 64))
    | _ => false
  | .checkcast n => match i with
    | .getfield x => decide (len = 3) && decide ((k_f (g_own c) x).map (·.1) = some n) && q_rf (n / 64) (n % 64)
    | _ => false
  | .putfield n => match i with
    | .putfield x => decide (len = 3) && decide ((k_f (g_own c) x).map (·.1) = some n) && !(q_rf (n / 64) (n % 64)) && !((q_T (n / 64) (n % 64)).2.2.2)
    | _ => false
  | .instanceof n => match i with
    | .putfield x => decide (len = 3) && decide ((k_f (g_own c) x).map (fun e => (e.1, e.2.1)) = some (n, "")) && q_rf (n / 64) (n % 64) && decide ((q_T (n / 64) (n % 64)).2.2.2 = true) && decide (g_own c = n / 64) && decide ((g_y c).name = "<init>")
    | _ => false
  | .new k => match i with
    | .new x => decide (len = 3) && decide ((k_c (g_own c) x).map (·.1) = some k)
    | _ => false
  | .anewarray k => match i with
    | .anewarray x => decide (len = 3) && decide ((k_c (g_own c) x).map (·.1) = some k) && (decide (k = 6) || decide (k = 7))
    | _ => false
  | .newarray a => decide (i = .newarray a) && decide (len = 2)
  | .invokeinterface e n => match i with
    | .invokevirtual x => decide (len = 3) && decide ((k_m (g_own c) x).map (·.1) = some e) && decide ((g_k e).2.1 = 1) && decide ((g_k e).1 = n)
    | .invokestatic x => decide (len = 3) && decide ((k_m (g_own c) x).map (·.1) = some e) && decide ((g_k e).2.1 = 0) && decide ((g_k e).1 = n)
    | .invokespecial x => decide (len = 3) && decide ((k_m (g_own c) x).map (·.1) = some e) && decide ((g_k e).2.1 = 2) && decide ((g_k e).1 = n)
    | _ => false
  | .goto t => match i with
    | .goto off => decide (len = 3) && decide ((pc : Int) + off = t) && decide (0 ≤ t)
    | _ => false
  | .ifCond k t => match i with
    | .ifCond k' off => decide (len = 3) && decide (k' = k) && decide ((pc : Int) + off = t) && decide (0 ≤ t)
    | _ => false
  | .if_icmp k t => match i with
    | .if_icmp k' off => decide (len = 3) && decide (k' = k) && decide ((pc : Int) + off = t) && decide (0 ≤ t)
    | _ => false
  | .lookupswitch d ps => match i with
    | .tableswitch e lo hi offs => decide ((pc : Int) + e = d) && decide (0 ≤ d) && decide (ps.toList = offs.toList.mapIdx fun j o => (lo + j, (pc : Int) + o)) && decide (hi = lo + offs.size - 1) && ps.toList.all fun q => decide (0 ≤ q.2)
    | .lookupswitch e qs => decide ((pc : Int) + e = d) && decide (0 ≤ d) && decide (ps.toList = qs.toList.map fun q => (q.1, (pc : Int) + q.2)) && (ps.toList.all fun q => decide (0 ≤ q.2)) && (qs.toList.zip (qs.toList.drop 1)).all fun (a, next) => a.1 < next.1
    | _ => false
  | .ireturn => decide (i = .ireturn) && decide (len = 1) && decide (g_ret c = some .int)
  | .areturn => decide (i = .ireturn) && decide (len = 1) && decide (g_ret c = some .boolean)
  | .freturn => decide (i = .ireturn) && decide (len = 1) && decide (g_ret c = some .char)
  | .dreturn => decide (i = .ireturn) && decide (len = 1) && decide (g_ret c = some .byte)
  | .lreturn => decide (i = .lreturn) && decide (len = 1) && decide (g_ret c = some .long)
  | .return_ => decide (i = .return_) && decide (len = 1) && decide (g_ret c = none)
  | .faload => decide (i = .iaload) && decide (len = 1)
  | .fadd => decide (i = .arraylength) && decide (len = 1)
  | .daload => decide (i = .iaload) && decide (len = 1)
  | .fsub => decide (i = .arraylength) && decide (len = 1)
  | .fmul => decide (i = .arraylength) && decide (len = 1)
  | .fload k => match i with
    | .getfield x => decide (len = 3) && decide ((k_t (g_own c) x).map (·.1) = some k)
    | _ => false
  | .getstatic q => match i with
    | .getstatic x => decide (len = 3) && decide (q < 3) && decide ((k_g (g_own c) x).map (·.1) = some q)
    | .ldc x => decide (len = 2) && decide (q = 3) && decide (g_own c = 3) && decide (x = 88)
    | _ => false
  | .iaload => decide (i = .iaload) && decide (len = 1)
  | .caload => decide (i = .caload) && decide (len = 1)
  | .laload => decide (i = .laload) && decide (len = 1)
  | .aaload => decide (i = .aaload) && decide (len = 1)
  | .iastore => decide (i = .iastore) && decide (len = 1)
  | .castore => decide (i = .castore) && decide (len = 1)
  | .lastore => decide (i = .lastore) && decide (len = 1)
  | .aastore => decide (i = .aastore) && decide (len = 1)
  | .baload => decide (i = .baload) && decide (len = 1)
  | .arraylength => decide (i = .arraylength) && decide (len = 1)
  | .pop => decide (i = .pop) && decide (len = 1)
  | .dup => decide (i = .dup) && decide (len = 1)
  | .dup_x1 => decide (i = .dup_x1) && decide (len = 1)
  | .dup2 => decide (i = .dup2) && decide (len = 1)
  | .iadd => decide (i = .iadd) && decide (len = 1)
  | .isub => decide (i = .isub) && decide (len = 1)
  | .imul => decide (i = .imul) && decide (len = 1)
  | .idiv => decide (i = .idiv) && decide (len = 1)
  | .irem => decide (i = .irem) && decide (len = 1)
  | .iand => decide (i = .iand) && decide (len = 1)
  | .ior => decide (i = .ior) && decide (len = 1)
  | .ixor => decide (i = .ixor) && decide (len = 1)
  | .ishl => decide (i = .ishl) && decide (len = 1)
  | .ishr => decide (i = .ishr) && decide (len = 1)
  | .iushr => decide (i = .iushr) && decide (len = 1)
  | .ineg => decide (i = .ineg) && decide (len = 1)
  | .i2b => decide (i = .i2b) && decide (len = 1)
  | .i2s => decide (i = .i2s) && decide (len = 1)
  | .i2c => decide (i = .i2c) && decide (len = 1)
  | .ladd => decide (i = .ladd) && decide (len = 1)
  | .lsub => decide (i = .lsub) && decide (len = 1)
  | .land => decide (i = .land) && decide (len = 1)
  | .lor => decide (i = .lor) && decide (len = 1)
  | .lxor => decide (i = .lxor) && decide (len = 1)
  | .lshl => decide (i = .lshl) && decide (len = 1)
  | .lshr => decide (i = .lshr) && decide (len = 1)
  | .lushr => decide (i = .lushr) && decide (len = 1)
  | .lcmp => decide (i = .lcmp) && decide (len = 1)
  | .i2l => decide (i = .i2l) && decide (len = 1)
  | .l2i => decide (i = .l2i) && decide (len = 1)
  | _ => false
def k_chk (c : Nat) (b : ByteArray) : Nat → List Instr → Bool
  | _, [] => true
  | pc, r :: rs => match r with
    | .jsr t => decide ((pc : Int) = t)
    | r => match decode b pc with
      | .ok (i, len) => k_ok c pc len i r && k_chk c b (pc + len) rs
      | _ => false
def k_code (c : Nat) : Bool := (g_pr.getD c []).all fun q => k_chk c (g_b c) q.1 q.2
/-- some blocks of a method -/
def k_some (c i n : Nat) : Bool := (((g_pr.getD c []).drop i).take n).all fun q => k_chk c (g_b c) q.1 q.2
theorem k_some_all {c : Nat} (ks : List (Nat × Nat)) (h : ∀ q ∈ ks, k_some c q.1 q.2 = true) (hc : ∀ j, j < (g_pr.getD c []).length → ∃ q ∈ ks, q.1 ≤ j ∧ j < q.1 + q.2) : k_code c = true := by
  refine List.all_eq_true.mpr fun x hx => ?_
  obtain ⟨j, hj⟩ := List.getElem?_of_mem hx
  have hl := (List.getElem?_eq_some_iff.mp hj).1
  obtain ⟨q, hq, h1, h2⟩ := hc j hl
  refine List.all_eq_true.mp (h q hq) x ?_
  refine List.mem_of_getElem? (i := j - q.1) ?_
  rw [List.getElem?_take_of_lt (by omega), List.getElem?_drop, show q.1 + (j - q.1) = j by omega]
  exact hj
