/-! PLAIN INSTRUCTIONS: what the evaluator does, the machine does -/
def n_tx : String := "plate,dish,tureen,boat,saucer,cracked,sit,stand,leave,if,and,or,not,year,width,grudge,mood,number,"
/-- what is behind a table's row -/
theorem k_lookup_mem {α : Type} {i : Nat} {v : α} : ∀ {l : List (Nat × α)}, l.lookup i = some v → (i, v) ∈ l
  | [], h => by cases h
  | (j, w) :: l, h => by
    rw [List.lookup_cons] at h
    by_cases e : (i == j) = true
    · rw [e] at h
      have e' : i = j := by simpa using e
      cases h
      rw [e']
      exact List.mem_cons_self
    · have e' : (i == j) = false := by simpa using e
      rw [e'] at h
      exact List.mem_cons_of_mem _ (k_lookup_mem h)
theorem k_look {α : Type} {L : List (List (Nat × α))} {P : Nat → Nat × α → Bool} (h : (List.range 16).all (fun o => (L.getD o []).all (P o)) = true) (hl : L.length ≤ 16) {o i : Nat} {v : α} (hv : (L.getD o []).lookup i = some v) : P o (i, v) = true := by
  by_cases ho : o < 16
  · exact List.all_eq_true.mp (List.all_eq_true.mp h o (List.mem_range.mpr ho)) _ (k_lookup_mem hv)
  · rw [List.getD_eq_getElem?_getD, List.getElem?_eq_none (by omega)] at hv
    cases hv
theorem k_map1 {α β : Type} {x : Option (α × β)} {a : α} (h : x.map (·.1) = some a) : ∃ b, x = some (a, b) := by
  cases x with
  | none => cases h
  | some q =>
    obtain ⟨q1, q2⟩ := q
    simp only [Option.map_some, Option.some.injEq] at h
    exact ⟨q2, by rw [h]⟩

/-- the facts of the start that ride along: the script, the static row, the text, the words that the launch's tables don't keep by themselves -/
def n_S (G : n_G) (X : e_X) (U : State) : Prop :=
  va_T .int (G.2.2.1 1) X.1 (fun j => .int (X.2 j)) (fun q => n_b G ≤ q) U U.heap ∧
  va_Z "BridgeService" "ABOVE" "[I" (.ref (G.2.2.1 2)) (fun q => n_b G ≤ q) U U.heap ∧ va_T .int (G.2.2.1 2) 6 (fun j => .int (e_abv j)) (fun q => n_b G ≤ q) U U.heap ∧
  va_Z "java/lang/String" "COMPACT_STRINGS" "Z" (.int 1) (fun q => n_b G ≤ q) U U.heap ∧
  va_Z "jdk/internal/util/Preconditions" "SIOOBE_FORMATTER" "Ljava/util/function/BiFunction;" G.2.2.2 (fun q => n_b G ≤ q) U U.heap ∧
  vk_R "BridgeService$Reader" 88 n_tx (G.2.2.1 3) U ∧
  vk_S 1 [98] [e_nms] (fun _ => G.2.2.1 3) (fun _ => G.2.2.1 4) (fun q => n_b G ≤ q) U U.heap ∧
  (∀ w ∈ lw_tbl, k_nest w = true → va_Nw w U) ∧ va_AO "BridgeService$Sheet" U ∧ va_AO "BridgeService$Shelf" U
theorem n_S_moved {G : n_G} {X : e_X} {s U : State} {H : Heap} {locs : List Loc} (h : n_S G X s) (hS : va_S (fun q => n_b G ≤ q) s.heap H locs) (hU : U.heap = H) (hW : s.WarmedH U.vm) : n_S G X U := by
  obtain ⟨h1, h2, h3, h4, h5, h6, h7, h8, h9, h10⟩ := h
  have ha := hW.alike
  unfold n_S
  rw [hU]
  refine ⟨(h1.kept hS.2.1).moved ha, (h2.kept hS.2.1).moved ha, (h3.kept hS.2.1).moved ha, (h4.kept hS.2.1).moved ha, (h5.kept hS.2.1).moved ha, h6.warm hW, (h7.kept hS.2.1).moved ha, fun w hw hn => ?_, h9.moved ha, h10.moved ha⟩
  have h8 := h8 w hw hn
  cases w <;> first | (cases hn; done) | exact va_Nw.warmF hW h8 | exact va_Nw.warmM hW h8
/-- the frame of a body -/
def n_C (G : n_G) (X : e_X) (p : Program) (R : Room) (s : State) (m : MethodId) (args : Array Value) (meth : Method) (c : Code) (g nL : Nat) : Prop :=
  p.tables.exec = Jvm.exec ∧ c.code = g_b g ∧ c.maxLocals = nL ∧ s.vm.findClass (g_cn (g_own g)) = some m.cls ∧ (∀ w ∈ lw_tbl, (goodWord w = true ∨ k_nest w = true) → w.before args s = true) ∧ va_K G.1 q_cl (n_t G) s ∧ n_S G X s ∧ ((g_y g).name = "<init>" → meth.name = "<init>") ∧ n_b G ≤ s.heap.size ∧ 1 ≤ R.frames ∧ 100 ≤ R.locals
def n_R (G : n_G) (s : State) (k0 s0 nL : Nat) (m : e_M) (ls : List Value) (H : Heap) (locs : List Loc) (lsA : Array Slot) (cells slots : Nat) : Prop :=
  H.size = n_b G + m.1.length ∧ va_P G.1 q_cl (n_w G m) H ∧ va_S (fun q => n_b G ≤ q) s.heap H locs ∧ n_L G nL ls lsA ∧ cells + k0 = m.1.length ∧ slots + s0 = n_z m ∧ n_ok m
def n_Q (G : n_G) (X : e_X) (p : Program) (l : Launch) (e : Env) (R : Room) (s : State) (m : MethodId) (args : Array Value) (below : List Frame) (meth : Method) (c : Code) (g nL k0 s0 : Nat) (r : Instr) : Prop :=
  ∀ (i : Instr) (pc len : Nat) (mm mm' : e_M) (ls ls' st st' : List Value) (H : Heap) (locs : List Loc) (lsA : Array Slot) (cells slots : Nat) (Q : State → Prop),
    decode (g_b g) pc = .ok (i, len) → k_ok g pc len i r = true → e_st X r ls st mm = some (ls', st', mm') → n_R G s k0 s0 nL mm ls H locs lsA cells slots → mm'.1.length ≤ 900 → mm'.1.length ≤ R.cells + k0 → n_z mm' ≤ R.slots + s0 → n_z mm' ≤ 100000 →
    (∀ (H' : Heap) (locs' : List Loc) (lsA' : Array Slot) (cells' slots' : Nat), n_R G s k0 s0 nL mm' ls' H' locs' lsA' cells' slots' → W p l e R s m args below meth c H' locs' cells' slots' Q (F0 m (pc + len) lsA' (st'.map (n_v G)))) →
    W p l e R s m args below meth c H locs cells slots Q (F0 m pc lsA (st.map (n_v G)))
theorem n_cat2 (v : Value) : v.category ≤ 2 := by cases v <;> simp [Value.category]
theorem n_lo {f : Value → Value} : ∀ {r : List Value} {n : Nat}, r.length ≤ n → ((r.map f).map fun v => v.category).sum ≤ 2 * n
  | [], n, _ => Nat.zero_le _
  | v :: r, 0, h => by simp at h
  | v :: r, n + 1, h => by
    have h1 := n_lo (f := f) (r := r) (n := n) (by simpa using h)
    have h2 := n_cat2 (f v)
    simp only [List.map_cons, List.sum_cons]
    omega
section
variable {G : n_G} {X : e_X} {p : Program} {l : Launch} {e : Env} {R : Room} {s : State} {m : MethodId} {args : Array Value} {below : List Frame} {meth : Method} {c : Code} {g nL k0 s0 : Nat}
theorem n_iadd (C : n_C G X p R s m args meth c g nL) : n_Q G X p l e R s m args below meth c g nL k0 s0 .iadd := by
  intro i pc len mm mm' ls ls' st st' H locs lsA cells slots Q hd hk he hr h1 h2 h3 h4 kk
  simp only [k_ok, Bool.and_eq_true, decide_eq_true_eq] at hk
  obtain ⟨rfl, rfl⟩ := hk
  replace he : e_ii (fun x y => x + y) ls st mm = some (ls', st', mm') := he
  unfold e_ii at he
  split at he
  · cases he
    exact lv_iadd C.1 C.2.1 hd (kk _ _ _ _ _ hr)
  · cases he
theorem n_isub (C : n_C G X p R s m args meth c g nL) : n_Q G X p l e R s m args below meth c g nL k0 s0 .isub := by
  intro i pc len mm mm' ls ls' st st' H locs lsA cells slots Q hd hk he hr h1 h2 h3 h4 kk
  simp only [k_ok, Bool.and_eq_true, decide_eq_true_eq] at hk
  obtain ⟨rfl, rfl⟩ := hk
  replace he : e_ii (fun x y => x - y) ls st mm = some (ls', st', mm') := he
  unfold e_ii at he
  split at he
  · cases he
    exact lv_isub C.1 C.2.1 hd (kk _ _ _ _ _ hr)
  · cases he
theorem n_imul (C : n_C G X p R s m args meth c g nL) : n_Q G X p l e R s m args below meth c g nL k0 s0 .imul := by
  intro i pc len mm mm' ls ls' st st' H locs lsA cells slots Q hd hk he hr h1 h2 h3 h4 kk
  simp only [k_ok, Bool.and_eq_true, decide_eq_true_eq] at hk
  obtain ⟨rfl, rfl⟩ := hk
  replace he : e_ii (fun x y => x * y) ls st mm = some (ls', st', mm') := he
  unfold e_ii at he
  split at he
  · cases he
    exact lv_imul C.1 C.2.1 hd (kk _ _ _ _ _ hr)
  · cases he
theorem n_iand (C : n_C G X p R s m args meth c g nL) : n_Q G X p l e R s m args below meth c g nL k0 s0 .iand := by
  intro i pc len mm mm' ls ls' st st' H locs lsA cells slots Q hd hk he hr h1 h2 h3 h4 kk
  simp only [k_ok, Bool.and_eq_true, decide_eq_true_eq] at hk
  obtain ⟨rfl, rfl⟩ := hk
  replace he : e_ii (fun x y => x &&& y) ls st mm = some (ls', st', mm') := he
  unfold e_ii at he
  split at he
  · cases he
    exact lv_iand C.1 C.2.1 hd (kk _ _ _ _ _ hr)
  · cases he
theorem n_ior (C : n_C G X p R s m args meth c g nL) : n_Q G X p l e R s m args below meth c g nL k0 s0 .ior := by
  intro i pc len mm mm' ls ls' st st' H locs lsA cells slots Q hd hk he hr h1 h2 h3 h4 kk
  simp only [k_ok, Bool.and_eq_true, decide_eq_true_eq] at hk
  obtain ⟨rfl, rfl⟩ := hk
  replace he : e_ii (fun x y => x ||| y) ls st mm = some (ls', st', mm') := he
  unfold e_ii at he
  split at he
  · cases he
    exact lv_ior C.1 C.2.1 hd (kk _ _ _ _ _ hr)
  · cases he
theorem n_ixor (C : n_C G X p R s m args meth c g nL) : n_Q G X p l e R s m args below meth c g nL k0 s0 .ixor := by
  intro i pc len mm mm' ls ls' st st' H locs lsA cells slots Q hd hk he hr h1 h2 h3 h4 kk
  simp only [k_ok, Bool.and_eq_true, decide_eq_true_eq] at hk
  obtain ⟨rfl, rfl⟩ := hk
  replace he : e_ii (fun x y => x ^^^ y) ls st mm = some (ls', st', mm') := he
  unfold e_ii at he
  split at he
  · cases he
    exact lv_ixor C.1 C.2.1 hd (kk _ _ _ _ _ hr)
  · cases he
theorem n_ishl (C : n_C G X p R s m args meth c g nL) : n_Q G X p l e R s m args below meth c g nL k0 s0 .ishl := by
  intro i pc len mm mm' ls ls' st st' H locs lsA cells slots Q hd hk he hr h1 h2 h3 h4 kk
  simp only [k_ok, Bool.and_eq_true, decide_eq_true_eq] at hk
  obtain ⟨rfl, rfl⟩ := hk
  replace he : e_ii (fun x y => x <<< (y &&& 31)) ls st mm = some (ls', st', mm') := he
  unfold e_ii at he
  split at he
  · cases he
    exact lv_ishl C.1 C.2.1 hd (kk _ _ _ _ _ hr)
  · cases he
theorem n_ishr (C : n_C G X p R s m args meth c g nL) : n_Q G X p l e R s m args below meth c g nL k0 s0 .ishr := by
  intro i pc len mm mm' ls ls' st st' H locs lsA cells slots Q hd hk he hr h1 h2 h3 h4 kk
  simp only [k_ok, Bool.and_eq_true, decide_eq_true_eq] at hk
  obtain ⟨rfl, rfl⟩ := hk
  replace he : e_ii (fun x y => x >>> (y &&& 31)) ls st mm = some (ls', st', mm') := he
  unfold e_ii at he
  split at he
  · cases he
    exact lv_ishr C.1 C.2.1 hd (kk _ _ _ _ _ hr)
  · cases he
theorem n_iushr (C : n_C G X p R s m args meth c g nL) : n_Q G X p l e R s m args below meth c g nL k0 s0 .iushr := by
  intro i pc len mm mm' ls ls' st st' H locs lsA cells slots Q hd hk he hr h1 h2 h3 h4 kk
  simp only [k_ok, Bool.and_eq_true, decide_eq_true_eq] at hk
  obtain ⟨rfl, rfl⟩ := hk
  replace he : e_ii (fun x y => (x.toUInt32 >>> (y.toUInt32 &&& Int32.toUInt32 31)).toInt32) ls st mm = some (ls', st', mm') := he
  unfold e_ii at he
  split at he
  · cases he
    exact lv_iushr C.1 C.2.1 hd rfl (kk _ _ _ _ _ hr)
  · cases he
theorem n_idiv (C : n_C G X p R s m args meth c g nL) : n_Q G X p l e R s m args below meth c g nL k0 s0 .idiv := by
  intro i pc len mm mm' ls ls' st st' H locs lsA cells slots Q hd hk he hr h1 h2 h3 h4 kk
  simp only [k_ok, Bool.and_eq_true, decide_eq_true_eq] at hk
  obtain ⟨rfl, rfl⟩ := hk
  replace he : e_id (fun x y => x / y) ls st mm = some (ls', st', mm') := he
  unfold e_id at he
  split at he
  · split at he
    · cases he
    · rename_i hz
      cases he
      exact lv_idiv C.1 C.2.1 hd hz (kk _ _ _ _ _ hr)
  · cases he
theorem n_irem (C : n_C G X p R s m args meth c g nL) : n_Q G X p l e R s m args below meth c g nL k0 s0 .irem := by
  intro i pc len mm mm' ls ls' st st' H locs lsA cells slots Q hd hk he hr h1 h2 h3 h4 kk
  simp only [k_ok, Bool.and_eq_true, decide_eq_true_eq] at hk
  obtain ⟨rfl, rfl⟩ := hk
  replace he : e_id (fun x y => x % y) ls st mm = some (ls', st', mm') := he
  unfold e_id at he
  split at he
  · split at he
    · cases he
    · rename_i hz
      cases he
      refine lv_irem C.1 C.2.1 hd hz ?_
      rw [irem_eq_mod]
      exact kk _ _ _ _ _ hr
  · cases he
theorem n_ineg (C : n_C G X p R s m args meth c g nL) : n_Q G X p l e R s m args below meth c g nL k0 s0 .ineg := by
  intro i pc len mm mm' ls ls' st st' H locs lsA cells slots Q hd hk he hr h1 h2 h3 h4 kk
  simp only [k_ok, Bool.and_eq_true, decide_eq_true_eq] at hk
  obtain ⟨rfl, rfl⟩ := hk
  replace he : e_i1 (fun x => -x) ls st mm = some (ls', st', mm') := he
  unfold e_i1 at he
  split at he
  · cases he
    exact lv_ineg C.1 C.2.1 hd (kk _ _ _ _ _ hr)
  · cases he
theorem n_i2b (C : n_C G X p R s m args meth c g nL) : n_Q G X p l e R s m args below meth c g nL k0 s0 .i2b := by
  intro i pc len mm mm' ls ls' st st' H locs lsA cells slots Q hd hk he hr h1 h2 h3 h4 kk
  simp only [k_ok, Bool.and_eq_true, decide_eq_true_eq] at hk
  obtain ⟨rfl, rfl⟩ := hk
  replace he : e_i1 (fun x => x.toInt8.toInt32) ls st mm = some (ls', st', mm') := he
  unfold e_i1 at he
  split at he
  · cases he
    exact lv_i2b C.1 C.2.1 hd rfl (kk _ _ _ _ _ hr)
  · cases he
theorem n_i2s (C : n_C G X p R s m args meth c g nL) : n_Q G X p l e R s m args below meth c g nL k0 s0 .i2s := by
  intro i pc len mm mm' ls ls' st st' H locs lsA cells slots Q hd hk he hr h1 h2 h3 h4 kk
  simp only [k_ok, Bool.and_eq_true, decide_eq_true_eq] at hk
  obtain ⟨rfl, rfl⟩ := hk
  replace he : e_i1 (fun x => x.toInt16.toInt32) ls st mm = some (ls', st', mm') := he
  unfold e_i1 at he
  split at he
  · cases he
    exact lv_i2s C.1 C.2.1 hd rfl (kk _ _ _ _ _ hr)
  · cases he
theorem n_i2c (C : n_C G X p R s m args meth c g nL) : n_Q G X p l e R s m args below meth c g nL k0 s0 .i2c := by
  intro i pc len mm mm' ls ls' st st' H locs lsA cells slots Q hd hk he hr h1 h2 h3 h4 kk
  simp only [k_ok, Bool.and_eq_true, decide_eq_true_eq] at hk
  obtain ⟨rfl, rfl⟩ := hk
  replace he : e_i1 (fun x => (x.toUInt32 % 65536).toInt32) ls st mm = some (ls', st', mm') := he
  unfold e_i1 at he
  split at he
  · cases he
    exact lv_i2c C.1 C.2.1 hd rfl (kk _ _ _ _ _ hr)
  · cases he
theorem n_ladd (C : n_C G X p R s m args meth c g nL) : n_Q G X p l e R s m args below meth c g nL k0 s0 .ladd := by
  intro i pc len mm mm' ls ls' st st' H locs lsA cells slots Q hd hk he hr h1 h2 h3 h4 kk
  simp only [k_ok, Bool.and_eq_true, decide_eq_true_eq] at hk
  obtain ⟨rfl, rfl⟩ := hk
  replace he : e_jj (fun x y => x + y) ls st mm = some (ls', st', mm') := he
  unfold e_jj at he
  split at he
  · cases he
    exact lv_ladd C.1 C.2.1 hd (kk _ _ _ _ _ hr)
  · cases he
theorem n_lsub (C : n_C G X p R s m args meth c g nL) : n_Q G X p l e R s m args below meth c g nL k0 s0 .lsub := by
  intro i pc len mm mm' ls ls' st st' H locs lsA cells slots Q hd hk he hr h1 h2 h3 h4 kk
  simp only [k_ok, Bool.and_eq_true, decide_eq_true_eq] at hk
  obtain ⟨rfl, rfl⟩ := hk
  replace he : e_jj (fun x y => x - y) ls st mm = some (ls', st', mm') := he
  unfold e_jj at he
  split at he
  · cases he
    exact lv_lsub C.1 C.2.1 hd (kk _ _ _ _ _ hr)
  · cases he
theorem n_land (C : n_C G X p R s m args meth c g nL) : n_Q G X p l e R s m args below meth c g nL k0 s0 .land := by
  intro i pc len mm mm' ls ls' st st' H locs lsA cells slots Q hd hk he hr h1 h2 h3 h4 kk
  simp only [k_ok, Bool.and_eq_true, decide_eq_true_eq] at hk
  obtain ⟨rfl, rfl⟩ := hk
  replace he : e_jj (fun x y => x &&& y) ls st mm = some (ls', st', mm') := he
  unfold e_jj at he
  split at he
  · cases he
    exact lv_land C.1 C.2.1 hd (kk _ _ _ _ _ hr)
  · cases he
theorem n_lor (C : n_C G X p R s m args meth c g nL) : n_Q G X p l e R s m args below meth c g nL k0 s0 .lor := by
  intro i pc len mm mm' ls ls' st st' H locs lsA cells slots Q hd hk he hr h1 h2 h3 h4 kk
  simp only [k_ok, Bool.and_eq_true, decide_eq_true_eq] at hk
  obtain ⟨rfl, rfl⟩ := hk
  replace he : e_jj (fun x y => x ||| y) ls st mm = some (ls', st', mm') := he
  unfold e_jj at he
  split at he
  · cases he
    exact lv_lor C.1 C.2.1 hd (kk _ _ _ _ _ hr)
  · cases he
theorem n_lxor (C : n_C G X p R s m args meth c g nL) : n_Q G X p l e R s m args below meth c g nL k0 s0 .lxor := by
  intro i pc len mm mm' ls ls' st st' H locs lsA cells slots Q hd hk he hr h1 h2 h3 h4 kk
  simp only [k_ok, Bool.and_eq_true, decide_eq_true_eq] at hk
  obtain ⟨rfl, rfl⟩ := hk
  replace he : e_jj (fun x y => x ^^^ y) ls st mm = some (ls', st', mm') := he
  unfold e_jj at he
  split at he
  · cases he
    exact lv_lxor C.1 C.2.1 hd (kk _ _ _ _ _ hr)
  · cases he
theorem n_lshl (C : n_C G X p R s m args meth c g nL) : n_Q G X p l e R s m args below meth c g nL k0 s0 .lshl := by
  intro i pc len mm mm' ls ls' st st' H locs lsA cells slots Q hd hk he hr h1 h2 h3 h4 kk
  simp only [k_ok, Bool.and_eq_true, decide_eq_true_eq] at hk
  obtain ⟨rfl, rfl⟩ := hk
  replace he : e_ji (fun x y => x <<< (y.toInt64 &&& 63)) ls st mm = some (ls', st', mm') := he
  unfold e_ji at he
  split at he
  · cases he
    exact lv_lshl C.1 C.2.1 hd rfl (kk _ _ _ _ _ hr)
  · cases he
theorem n_lshr (C : n_C G X p R s m args meth c g nL) : n_Q G X p l e R s m args below meth c g nL k0 s0 .lshr := by
  intro i pc len mm mm' ls ls' st st' H locs lsA cells slots Q hd hk he hr h1 h2 h3 h4 kk
  simp only [k_ok, Bool.and_eq_true, decide_eq_true_eq] at hk
  obtain ⟨rfl, rfl⟩ := hk
  replace he : e_ji (fun x y => x >>> (y.toInt64 &&& 63)) ls st mm = some (ls', st', mm') := he
  unfold e_ji at he
  split at he
  · cases he
    exact lv_lshr C.1 C.2.1 hd rfl (kk _ _ _ _ _ hr)
  · cases he
theorem n_lushr (C : n_C G X p R s m args meth c g nL) : n_Q G X p l e R s m args below meth c g nL k0 s0 .lushr := by
  intro i pc len mm mm' ls ls' st st' H locs lsA cells slots Q hd hk he hr h1 h2 h3 h4 kk
  simp only [k_ok, Bool.and_eq_true, decide_eq_true_eq] at hk
  obtain ⟨rfl, rfl⟩ := hk
  replace he : e_ji (fun x y => (x.toUInt64 >>> (y.toInt64.toUInt64 &&& Int64.toUInt64 63)).toInt64) ls st mm = some (ls', st', mm') := he
  unfold e_ji at he
  split at he
  · cases he
    exact lv_lushr C.1 C.2.1 hd rfl (kk _ _ _ _ _ hr)
  · cases he
theorem n_lcmp (C : n_C G X p R s m args meth c g nL) : n_Q G X p l e R s m args below meth c g nL k0 s0 .lcmp := by
  intro i pc len mm mm' ls ls' st st' H locs lsA cells slots Q hd hk he hr h1 h2 h3 h4 kk
  simp only [k_ok, Bool.and_eq_true, decide_eq_true_eq] at hk
  obtain ⟨rfl, rfl⟩ := hk
  simp only [e_st] at he
  split at he
  · cases he
    exact W.lcmp C.1 C.2.1 hd (kk _ _ _ _ _ hr)
  · cases he
theorem n_i2l (C : n_C G X p R s m args meth c g nL) : n_Q G X p l e R s m args below meth c g nL k0 s0 .i2l := by
  intro i pc len mm mm' ls ls' st st' H locs lsA cells slots Q hd hk he hr h1 h2 h3 h4 kk
  simp only [k_ok, Bool.and_eq_true, decide_eq_true_eq] at hk
  obtain ⟨rfl, rfl⟩ := hk
  simp only [e_st] at he
  split at he
  · cases he
    exact lv_i2l C.1 C.2.1 hd rfl (kk _ _ _ _ _ hr)
  · cases he
theorem n_l2i (C : n_C G X p R s m args meth c g nL) : n_Q G X p l e R s m args below meth c g nL k0 s0 .l2i := by
  intro i pc len mm mm' ls ls' st st' H locs lsA cells slots Q hd hk he hr h1 h2 h3 h4 kk
  simp only [k_ok, Bool.and_eq_true, decide_eq_true_eq] at hk
  obtain ⟨rfl, rfl⟩ := hk
  simp only [e_st] at he
  split at he
  · cases he
    exact lv_l2i C.1 C.2.1 hd rfl (kk _ _ _ _ _ hr)
  · cases he
theorem n_dup (C : n_C G X p R s m args meth c g nL) : n_Q G X p l e R s m args below meth c g nL k0 s0 .dup := by
  intro i pc len mm mm' ls ls' st st' H locs lsA cells slots Q hd hk he hr h1 h2 h3 h4 kk
  simp only [k_ok, Bool.and_eq_true, decide_eq_true_eq] at hk
  obtain ⟨rfl, rfl⟩ := hk
  simp only [e_st] at he
  split at he
  · cases he
    exact lv_dup C.1 C.2.1 hd rfl (kk _ _ _ _ _ hr)
  · cases he
    exact lv_dup C.1 C.2.1 hd rfl (kk _ _ _ _ _ hr)
  · cases he
theorem n_pop (C : n_C G X p R s m args meth c g nL) : n_Q G X p l e R s m args below meth c g nL k0 s0 .pop := by
  intro i pc len mm mm' ls ls' st st' H locs lsA cells slots Q hd hk he hr h1 h2 h3 h4 kk
  simp only [k_ok, Bool.and_eq_true, decide_eq_true_eq] at hk
  obtain ⟨rfl, rfl⟩ := hk
  simp only [e_st] at he
  split at he
  · cases he
    exact lv_pop C.1 C.2.1 hd rfl (kk _ _ _ _ _ hr)
  · cases he
theorem n_dup_x1 (C : n_C G X p R s m args meth c g nL) : n_Q G X p l e R s m args below meth c g nL k0 s0 .dup_x1 := by
  intro i pc len mm mm' ls ls' st st' H locs lsA cells slots Q hd hk he hr h1 h2 h3 h4 kk
  simp only [k_ok, Bool.and_eq_true, decide_eq_true_eq] at hk
  obtain ⟨rfl, rfl⟩ := hk
  simp only [e_st] at he
  split at he
  · cases he
    exact lv_dup_x1 C.1 C.2.1 hd rfl rfl (kk _ _ _ _ _ hr)
  · cases he
theorem n_dup2 (C : n_C G X p R s m args meth c g nL) : n_Q G X p l e R s m args below meth c g nL k0 s0 .dup2 := by
  intro i pc len mm mm' ls ls' st st' H locs lsA cells slots Q hd hk he hr h1 h2 h3 h4 kk
  simp only [k_ok, Bool.and_eq_true, decide_eq_true_eq] at hk
  obtain ⟨rfl, rfl⟩ := hk
  simp only [e_st] at he
  split at he
  · cases he
    exact lv_dup2_11 C.1 C.2.1 hd rfl rfl (kk _ _ _ _ _ hr)
  · cases he
theorem n_fin2 (n : Fin 2) : Int64.ofNat (n : Nat) = Int64.ofInt ((n : Nat) : Int) := by
  obtain ⟨n, h⟩ := n
  have : n = 0 ∨ n = 1 := by omega
  rcases this with rfl | rfl <;> rfl
theorem n_good (C : n_C G X p R s m args meth c g nL) {w : Jvm.Cond} (h : w ∈ lw_tbl ∧ (goodWord w = true ∨ k_nest w = true)) : w.before args s = true := C.2.2.2.2.1 w h.1 h.2
theorem n_sipush {v : Int} (C : n_C G X p R s m args meth c g nL) : n_Q G X p l e R s m args below meth c g nL k0 s0 (.sipush v) := by
  intro i pc len mm mm' ls ls' st st' H locs lsA cells slots Q hd hk he hr h1 h2 h3 h4 kk
  have he : some (ls, .int (Int32.ofInt v) :: st, mm) = some (ls', st', mm') := he
  cases he
  simp only [k_ok] at hk
  split at hk
  · simp only [Bool.and_eq_true, decide_eq_true_eq] at hk
    obtain ⟨rfl, rfl⟩ := hk
    exact lv_iconst C.1 C.2.1 hd rfl (kk _ _ _ _ _ hr)
  · simp only [Bool.and_eq_true, decide_eq_true_eq] at hk
    obtain ⟨⟨rfl, rfl⟩, hz⟩ := hk
    exact lv_bipush C.1 C.2.1 hd hz (kk _ _ _ _ _ hr)
  · simp only [Bool.and_eq_true, decide_eq_true_eq] at hk
    obtain ⟨⟨rfl, rfl⟩, hz⟩ := hk
    exact lv_sipush C.1 C.2.1 hd hz (kk _ _ _ _ _ hr)
  · simp only [Bool.and_eq_true, decide_eq_true_eq] at hk
    obtain ⟨rfl, hz⟩ := hk
    obtain ⟨q, hq⟩ := k_map1 hz
    exact lv_ldc C.1 C.2.1 C.2.2.2.1 (n_good C (k_at_mem (k_look k_i_ok (by decide) hq))) hd (kk _ _ _ _ _ hr)
  · simp only [Bool.and_eq_true, decide_eq_true_eq] at hk
    obtain ⟨rfl, hz⟩ := hk
    obtain ⟨q, hq⟩ := k_map1 hz
    exact lv_ldcw C.1 C.2.1 C.2.2.2.1 (n_good C (k_at_mem (k_look k_i_ok (by decide) hq))) hd (kk _ _ _ _ _ hr)
  · cases hk
theorem n_lconst {v : Int} (C : n_C G X p R s m args meth c g nL) : n_Q G X p l e R s m args below meth c g nL k0 s0 (.goto_w v) := by
  intro i pc len mm mm' ls ls' st st' H locs lsA cells slots Q hd hk he hr h1 h2 h3 h4 kk
  have he : some (ls, .long (Int64.ofInt v) :: st, mm) = some (ls', st', mm') := he
  cases he
  simp only [k_ok] at hk
  split at hk
  · simp only [Bool.and_eq_true, decide_eq_true_eq] at hk
    obtain ⟨rfl, rfl⟩ := hk
    exact lv_lconst C.1 C.2.1 hd (n_fin2 _) (kk _ _ _ _ _ hr)
  · simp only [Bool.and_eq_true, decide_eq_true_eq] at hk
    obtain ⟨rfl, hz⟩ := hk
    obtain ⟨q, hq⟩ := k_map1 hz
    exact lv_ldc2 C.1 C.2.1 C.2.2.2.1 (n_good C (k_at_mem (k_look k_j_ok (by decide) hq))) hd (kk _ _ _ _ _ hr)
  · cases hk
theorem n_iload {k : Nat} (C : n_C G X p R s m args meth c g nL) : n_Q G X p l e R s m args below meth c g nL k0 s0 (.iload k) := by
  intro i pc len mm mm' ls ls' st st' H locs lsA cells slots Q hd hk he hr h1 h2 h3 h4 kk
  simp only [e_st] at he
  split at he
  · rename_i x hx
    cases he
    have hl := hr.2.2.2.1.2.2.2 _ _ hx rfl
    simp only [k_ok] at hk
    split at hk
    · simp only [Bool.and_eq_true, decide_eq_true_eq] at hk
      obtain ⟨rfl, rfl⟩ := hk
      exact lv_iload C.1 C.2.1 hd hl (kk _ _ _ _ _ hr)
    · simp only [Bool.and_eq_true, decide_eq_true_eq] at hk
      obtain ⟨rfl, rfl⟩ := hk
      exact lv_iload_n C.1 C.2.1 hd rfl hl (kk _ _ _ _ _ hr)
    · cases hk
  · cases he
theorem n_lload {k : Nat} (C : n_C G X p R s m args meth c g nL) : n_Q G X p l e R s m args below meth c g nL k0 s0 (.lload k) := by
  intro i pc len mm mm' ls ls' st st' H locs lsA cells slots Q hd hk he hr h1 h2 h3 h4 kk
  simp only [e_st] at he
  split at he
  · rename_i x hx
    cases he
    have hl := hr.2.2.2.1.2.2.2 _ _ hx rfl
    simp only [k_ok] at hk
    split at hk
    · simp only [Bool.and_eq_true, decide_eq_true_eq] at hk
      obtain ⟨rfl, rfl⟩ := hk
      exact lv_lload C.1 C.2.1 hd hl (kk _ _ _ _ _ hr)
    · simp only [Bool.and_eq_true, decide_eq_true_eq] at hk
      obtain ⟨rfl, rfl⟩ := hk
      exact lv_lload_n C.1 C.2.1 hd rfl hl (kk _ _ _ _ _ hr)
    · cases hk
  · cases he
theorem n_aload {k : Nat} (C : n_C G X p R s m args meth c g nL) : n_Q G X p l e R s m args below meth c g nL k0 s0 (.aload k) := by
  intro i pc len mm mm' ls ls' st st' H locs lsA cells slots Q hd hk he hr h1 h2 h3 h4 kk
  simp only [e_st] at he
  split at he
  · rename_i x hx
    cases he
    have hl := hr.2.2.2.1.2.2.2 _ _ hx rfl
    simp only [k_ok] at hk
    split at hk
    · simp only [Bool.and_eq_true, decide_eq_true_eq] at hk
      obtain ⟨rfl, rfl⟩ := hk
      exact lv_aload C.1 C.2.1 hd hl (kk _ _ _ _ _ hr)
    · simp only [Bool.and_eq_true, decide_eq_true_eq] at hk
      obtain ⟨rfl, rfl⟩ := hk
      exact lv_aload_n C.1 C.2.1 hd rfl hl (kk _ _ _ _ _ hr)
    · cases hk
  · cases he
theorem n_R_L {mm : e_M} {ls ls' : List Value} {H : Heap} {locs : List Loc} {lsA lsB : Array Slot} {cells slots : Nat} (hr : n_R G s k0 s0 nL mm ls H locs lsA cells slots) (h : n_L G nL ls' lsB) : n_R G s k0 s0 nL mm ls' H locs lsB cells slots := ⟨hr.1, hr.2.1, hr.2.2.1, h, hr.2.2.2.2⟩
theorem e_st1_lt {i : Nat} {ls ls' : List Value} {v : Value} (h : e_st1 i ls v = some ls') : i < ls.length := by
  unfold e_st1 at h
  split at h
  · assumption
  · cases h
theorem e_st2_lt {i : Nat} {ls ls' : List Value} {v : Value} (h : e_st2 i ls v = some ls') : i + 1 < ls.length := by
  unfold e_st2 at h
  split at h
  · assumption
  · cases h
theorem n_istore {k : Nat} (C : n_C G X p R s m args meth c g nL) : n_Q G X p l e R s m args below meth c g nL k0 s0 (.istore k) := by
  intro i pc len mm mm' ls ls' st st' H locs lsA cells slots Q hd hk he hr h1 h2 h3 h4 kk
  simp only [e_st] at he
  split at he
  · rename_i x r
    simp only [Option.map_eq_some_iff] at he
    obtain ⟨q, hq, he⟩ := he
    cases he
    have hlt : k < nL := by rw [← hr.2.2.2.1.1]; exact e_st1_lt hq
    have hL := n_L_has hr.2.2.2.1
    simp only [k_ok] at hk
    split at hk
    · simp only [Bool.and_eq_true, decide_eq_true_eq] at hk
      obtain ⟨rfl, rfl⟩ := hk
      exact lv_istore C.1 C.2.1 hd hL hlt rfl (fun ls' h' => kk _ _ _ _ _ (n_R_L hr (n_L_st1 hr.2.2.2.1 hq h').1))
    · simp only [Bool.and_eq_true, decide_eq_true_eq] at hk
      obtain ⟨rfl, rfl⟩ := hk
      exact lv_istore_n C.1 C.2.1 hd rfl hL hlt rfl (fun ls' h' => kk _ _ _ _ _ (n_R_L hr (n_L_st1 hr.2.2.2.1 hq h').1))
    · cases hk
  · cases he
theorem n_astore {k : Nat} (C : n_C G X p R s m args meth c g nL) : n_Q G X p l e R s m args below meth c g nL k0 s0 (.astore k) := by
  intro i pc len mm mm' ls ls' st st' H locs lsA cells slots Q hd hk he hr h1 h2 h3 h4 kk
  simp only [e_st] at he
  split at he
  · rename_i x r
    simp only [Option.map_eq_some_iff] at he
    obtain ⟨q, hq, he⟩ := he
    cases he
    have hlt : k < nL := by rw [← hr.2.2.2.1.1]; exact e_st1_lt hq
    have hL := n_L_has hr.2.2.2.1
    simp only [k_ok] at hk
    split at hk
    · simp only [Bool.and_eq_true, decide_eq_true_eq] at hk
      obtain ⟨rfl, rfl⟩ := hk
      exact lv_astore C.1 C.2.1 hd hL hlt rfl (fun ls' h' => kk _ _ _ _ _ (n_R_L hr (n_L_st1 hr.2.2.2.1 hq h').1))
    · simp only [Bool.and_eq_true, decide_eq_true_eq] at hk
      obtain ⟨rfl, rfl⟩ := hk
      exact lv_astore_n C.1 C.2.1 hd rfl hL hlt rfl (fun ls' h' => kk _ _ _ _ _ (n_R_L hr (n_L_st1 hr.2.2.2.1 hq h').1))
    · cases hk
  · cases he
theorem n_lstore {k : Nat} (C : n_C G X p R s m args meth c g nL) : n_Q G X p l e R s m args below meth c g nL k0 s0 (.lstore k) := by
  intro i pc len mm mm' ls ls' st st' H locs lsA cells slots Q hd hk he hr h1 h2 h3 h4 kk
  simp only [e_st] at he
  split at he
  · rename_i x r
    simp only [Option.map_eq_some_iff] at he
    obtain ⟨q, hq, he⟩ := he
    cases he
    have hlt : k + 1 < nL := by rw [← hr.2.2.2.1.1]; exact e_st2_lt hq
    have hL := n_L_has hr.2.2.2.1
    simp only [k_ok] at hk
    split at hk
    · simp only [Bool.and_eq_true, decide_eq_true_eq] at hk
      obtain ⟨rfl, rfl⟩ := hk
      exact lv_lstore C.1 C.2.1 hd hL hlt rfl (fun ls' h' => kk _ _ _ _ _ (n_R_L hr (n_L_st2 hr.2.2.2.1 hq h').1))
    · simp only [Bool.and_eq_true, decide_eq_true_eq] at hk
      obtain ⟨rfl, rfl⟩ := hk
      exact lv_lstore_n C.1 C.2.1 hd rfl hL hlt rfl (fun ls' h' => kk _ _ _ _ _ (n_R_L hr (n_L_st2 hr.2.2.2.1 hq h').1))
    · cases hk
  · cases he
theorem n_iinc {k : Nat} {v : Int} (C : n_C G X p R s m args meth c g nL) : n_Q G X p l e R s m args below meth c g nL k0 s0 (.iinc k v) := by
  intro i pc len mm mm' ls ls' st st' H locs lsA cells slots Q hd hk he hr h1 h2 h3 h4 kk
  simp only [e_st] at he
  split at he
  · rename_i x hx
    simp only [Option.map_eq_some_iff] at he
    obtain ⟨q, hq, he⟩ := he
    cases he
    have hlt : k < nL := by rw [← hr.2.2.2.1.1]; exact e_st1_lt hq
    have hL := n_L_has hr.2.2.2.1
    simp only [k_ok, Bool.and_eq_true, decide_eq_true_eq] at hk
    obtain ⟨rfl, rfl⟩ := hk
    obtain ⟨j, hj⟩ := List.getElem?_of_mem (n_ll_mem (G := G) (q := (k, .int x)) |>.mpr ⟨_, hx, rfl, rfl⟩)
    exact lv_iinc C.1 C.2.1 hd hL hj rfl hlt rfl (fun ls' h' => kk _ _ _ _ _ (n_R_L hr (n_L_st1 hr.2.2.2.1 hq h').1))
  · cases he
theorem n_w_max : (Jvm.Cond.static Lib.Math.max.name ∈ lw_tbl ∧ (goodWord (Jvm.Cond.static Lib.Math.max.name) = true ∨ k_nest (Jvm.Cond.static Lib.Math.max.name) = true)) ∧ (Jvm.Cond.code Lib.Math.max.name Lib.Math.max.code 2 (some .int) ∈ lw_tbl ∧ (goodWord (Jvm.Cond.code Lib.Math.max.name Lib.Math.max.code 2 (some .int)) = true ∨ k_nest (Jvm.Cond.code Lib.Math.max.name Lib.Math.max.code 2 (some .int)) = true)) := ⟨k_at_mem (p := 507) (by decide +kernel), k_at_mem (p := 508) (by decide +kernel)⟩
theorem n_w_Math : Jvm.Cond.initialized "java/lang/Math" ∈ lw_tbl ∧ (goodWord (Jvm.Cond.initialized "java/lang/Math") = true ∨ k_nest (Jvm.Cond.initialized "java/lang/Math") = true) := k_at_mem (p := 114) (by decide +kernel)
theorem n_dadd (C : n_C G X p R s m args meth c g nL) : n_Q G X p l e R s m args below meth c g nL k0 s0 .dadd := by
  intro i pc len mm mm' ls ls' st st' H locs lsA cells slots Q hd hk he hr h1 h2 h3 h4 kk
  replace he : e_iq (fun x y => if x < y then y else x) ls st mm = some (ls', st', mm') := he
  unfold e_iq at he
  split at he
  · split at he
    · rename_i hlo
      cases he
      simp only [k_ok] at hk
      split at hk
      · simp only [Bool.and_eq_true, decide_eq_true_eq] at hk
        obtain ⟨rfl, hz⟩ := hk
        obtain ⟨q, hq⟩ := k_map1 hz
        have hq2 := n_lo (f := n_v G) (of_decide_eq_true hlo)
        have hR1 := C.2.2.2.2.2.2.2.2.2.1
        have hR2 := C.2.2.2.2.2.2.2.2.2.2
        have hc1 := hr.2.2.2.2.1
        have hc2 := hr.2.2.2.2.2.1
        exact va_mmax C.1 C.2.1 (C.2.2.1.trans hr.2.2.2.1.2.1.symm) C.2.2.2.1 (n_good C (k_at_mem (k_look k_s_ok (by decide) hq))) (n_good C n_w_max.1) (n_good C n_w_Math) (n_good C n_w_max.2) hR1 (by omega) (by omega) (by omega) hd (kk _ _ _ _ _ hr)
      · cases hk
    · cases he
  · cases he
theorem n_w_min : (Jvm.Cond.static Lib.Math.min.name ∈ lw_tbl ∧ (goodWord (Jvm.Cond.static Lib.Math.min.name) = true ∨ k_nest (Jvm.Cond.static Lib.Math.min.name) = true)) ∧ (Jvm.Cond.code Lib.Math.min.name Lib.Math.min.code 2 (some .int) ∈ lw_tbl ∧ (goodWord (Jvm.Cond.code Lib.Math.min.name Lib.Math.min.code 2 (some .int)) = true ∨ k_nest (Jvm.Cond.code Lib.Math.min.name Lib.Math.min.code 2 (some .int)) = true)) := ⟨k_at_mem (p := 500) (by decide +kernel), k_at_mem (p := 501) (by decide +kernel)⟩
theorem n_dsub (C : n_C G X p R s m args meth c g nL) : n_Q G X p l e R s m args below meth c g nL k0 s0 .dsub := by
  intro i pc len mm mm' ls ls' st st' H locs lsA cells slots Q hd hk he hr h1 h2 h3 h4 kk
  replace he : e_iq (fun x y => if y < x then y else x) ls st mm = some (ls', st', mm') := he
  unfold e_iq at he
  split at he
  · split at he
    · rename_i hlo
      cases he
      simp only [k_ok] at hk
      split at hk
      · simp only [Bool.and_eq_true, decide_eq_true_eq] at hk
        obtain ⟨rfl, hz⟩ := hk
        obtain ⟨q, hq⟩ := k_map1 hz
        have hq2 := n_lo (f := n_v G) (of_decide_eq_true hlo)
        have hR1 := C.2.2.2.2.2.2.2.2.2.1
        have hR2 := C.2.2.2.2.2.2.2.2.2.2
        have hc1 := hr.2.2.2.2.1
        have hc2 := hr.2.2.2.2.2.1
        exact va_mmin C.1 C.2.1 (C.2.2.1.trans hr.2.2.2.1.2.1.symm) C.2.2.2.1 (n_good C (k_at_mem (k_look k_s_ok (by decide) hq))) (n_good C n_w_min.1) (n_good C n_w_Math) (n_good C n_w_min.2) hR1 (by omega) (by omega) (by omega) hd (kk _ _ _ _ _ hr)
      · cases hk
    · cases he
  · cases he
theorem n_w_abs : (Jvm.Cond.static Lib.Math.abs.name ∈ lw_tbl ∧ (goodWord (Jvm.Cond.static Lib.Math.abs.name) = true ∨ k_nest (Jvm.Cond.static Lib.Math.abs.name) = true)) ∧ (Jvm.Cond.code Lib.Math.abs.name Lib.Math.abs.code 1 (some .int) ∈ lw_tbl ∧ (goodWord (Jvm.Cond.code Lib.Math.abs.name Lib.Math.abs.code 1 (some .int)) = true ∨ k_nest (Jvm.Cond.code Lib.Math.abs.name Lib.Math.abs.code 1 (some .int)) = true)) := ⟨k_at_mem (p := 890) (by decide +kernel), k_at_mem (p := 891) (by decide +kernel)⟩
theorem n_dneg (C : n_C G X p R s m args meth c g nL) : n_Q G X p l e R s m args below meth c g nL k0 s0 .dneg := by
  intro i pc len mm mm' ls ls' st st' H locs lsA cells slots Q hd hk he hr h1 h2 h3 h4 kk
  simp only [e_st] at he
  split at he
  · split at he
    · rename_i hlo
      cases he
      simp only [k_ok] at hk
      split at hk
      · simp only [Bool.and_eq_true, decide_eq_true_eq] at hk
        obtain ⟨rfl, hz⟩ := hk
        obtain ⟨q, hq⟩ := k_map1 hz
        have hq2 := n_lo (f := n_v G) (of_decide_eq_true hlo)
        have hR1 := C.2.2.2.2.2.2.2.2.2.1
        have hR2 := C.2.2.2.2.2.2.2.2.2.2
        have hc1 := hr.2.2.2.2.1
        have hc2 := hr.2.2.2.2.2.1
        exact va_mabs C.1 C.2.1 (C.2.2.1.trans hr.2.2.2.1.2.1.symm) C.2.2.2.1 (n_good C (k_at_mem (k_look k_s_ok (by decide) hq))) (n_good C n_w_abs.1) (n_good C n_w_Math) (n_good C n_w_abs.2) hR1 (by omega) (by omega) (by omega) hd (kk _ _ _ _ _ hr)
      · cases hk
    · cases he
  · cases he
theorem n_w_obj : (Jvm.Cond.instanceMethod objectInit ∈ lw_tbl ∧ (goodWord (Jvm.Cond.instanceMethod objectInit) = true ∨ k_nest (Jvm.Cond.instanceMethod objectInit) = true)) ∧ (Jvm.Cond.code objectInit ⟨#[0xb1]⟩ 1 none ∈ lw_tbl ∧ (goodWord (Jvm.Cond.code objectInit ⟨#[0xb1]⟩ 1 none) = true ∨ k_nest (Jvm.Cond.code objectInit ⟨#[0xb1]⟩ 1 none) = true)) := ⟨k_at_mem (p := 127) (by decide +kernel), k_at_mem (p := 128) (by decide +kernel)⟩
theorem n_pop2 (C : n_C G X p R s m args meth c g nL) : n_Q G X p l e R s m args below meth c g nL k0 s0 .pop2 := by
  intro i pc len mm mm' ls ls' st st' H locs lsA cells slots Q hd hk he hr h1 h2 h3 h4 kk
  simp only [e_st] at he
  split at he
  · split at he
    · rename_i hlo
      cases he
      simp only [k_ok] at hk
      split at hk
      · simp only [Bool.and_eq_true, decide_eq_true_eq] at hk
        obtain ⟨rfl, hz⟩ := hk
        obtain ⟨q, hq⟩ := k_map1 hz
        have hq2 := n_lo (f := n_v G) (of_decide_eq_true hlo)
        have hR1 := C.2.2.2.2.2.2.2.2.2.1
        have hR2 := C.2.2.2.2.2.2.2.2.2.2
        exact W.objInit C.1 C.2.1 C.2.2.2.1 (n_good C (k_at_mem (k_look k_s_ok (by decide) hq))) (n_good C n_w_obj.1) (n_good C n_w_obj.2) rfl (hr.2.2.2.1.2.1.trans C.2.2.1.symm) rfl hd hR1 (by show 2 * 0 + _ + 12 ≤ _; omega) (kk _ _ _ _ _ hr)
      · cases hk
    · cases he
  · cases he
end
