/-! THE MACHINE BESIDE THE EVALUATOR: addresses, worlds, the relation -/
/-- what a run fixes: the tables' numbers; classes of arrays by kind; addresses: 0 the first cell, 1 the script, 2 ABOVE, 3 the text, 4 its bytes; a formatter or null -/
abbrev n_G : Type := va_G × (Nat → ClassId) × (Nat → Nat) × Value
def n_b (G : n_G) : Nat := G.2.2.1 0
def n_a (G : n_G) (o : Nat) : Nat := if o < 1000 then n_b G + o else G.2.2.1 (o - 999)
def n_v (G : n_G) : Value → Value
  | .ref o => .ref (n_a G o)
  | .retAddr _ => G.2.2.2
  | v => v
def n_o (G : n_G) : Nat → Option Nat
  | 0 => none
  | r + 1 => some (n_a G r)
theorem n_v_rf (G : n_G) (r : Nat) : n_v G (e_rf r) = va_rf (n_o G r) := by cases r <;> rfl
def n_cell (G : n_G) (m : e_M) (o c z : Nat) : va_E :=
  if c < 100 then .inr (c, (List.range z).map fun k => if q_rf c k then va_rf (n_o G (m.2.2.2 o k)) else .int (m.2.1 o k))
  else .inl (G.2.1 c, z, if c = 102 then .inr (.inl (m.2.2.1 o)) else if c < 200 then .inl (m.2.1 o) else .inr (.inr (.inr (.inr fun k => n_o G (m.2.2.2 o k)))))
def n_w (G : n_G) (m : e_M) : va_W := m.1.mapIdx fun o q => (n_b G + o, n_cell G m o q.1 q.2)
theorem n_w_at {G : n_G} {m : e_M} {o c z : Nat} (h : m.1[o]? = some (c, z)) : (n_w G m)[o]? = some (n_b G + o, n_cell G m o c z) := by
  simp [n_w, List.getElem?_mapIdx, h]
theorem n_w_len {G : n_G} {m : e_M} : (n_w G m).length = m.1.length := by simp [n_w]
theorem n_w_inv {G : n_G} {m : e_M} {o : Nat} {q : Nat × va_E} (h : (n_w G m)[o]? = some q) : ∃ c z, m.1[o]? = some (c, z) ∧ q = (n_b G + o, n_cell G m o c z) := by
  simp only [n_w, List.getElem?_mapIdx, Option.map_eq_some_iff] at h
  obtain ⟨⟨c, z⟩, h1, h2⟩ := h
  exact ⟨c, z, h1, h2.symm⟩
theorem n_w_D {G : n_G} {m : e_M} : va_D (fun q => n_b G ≤ q) (n_w G m) := by
  refine ⟨fun i j p q hi hj he => ?_, fun k q hk => ?_⟩
  · obtain ⟨c, z, -, rfl⟩ := n_w_inv hi
    obtain ⟨c', z', -, rfl⟩ := n_w_inv hj
    dsimp only at he
    omega
  · obtain ⟨c, z, -, rfl⟩ := n_w_inv hk
    exact Nat.le_add_right _ _
/-- one cell changed -/
theorem n_w_set {G : n_G} {m m' : e_M} {o c z : Nat} (h : m.1[o]? = some (c, z)) (h1 : m'.1 = m.1) (hi : ∀ a k, a ≠ o → m'.2.1 a k = m.2.1 a k) (hj : ∀ a k, a ≠ o → m'.2.2.1 a k = m.2.2.1 a k) (hr : ∀ a k, a ≠ o → m'.2.2.2 a k = m.2.2.2 a k) :
    n_w G m' = (n_w G m).set o (n_b G + o, n_cell G m' o c z) := by
  apply List.ext_getElem?
  intro a
  by_cases e : a = o
  · subst e
    have hl : a < (n_w G m).length := by rw [n_w_len]; exact (List.getElem?_eq_some_iff.mp h).1
    rw [List.getElem?_set_self hl]
    exact n_w_at (by rw [h1]; exact h)
  · rw [List.getElem?_set_ne (Ne.symm e)]
    cases hq : m.1[a]? with
    | none =>
      have l1 : m.1.length ≤ a := by simpa using hq
      rw [List.getElem?_eq_none (by rw [n_w_len, h1]; exact l1), List.getElem?_eq_none (by rw [n_w_len]; exact l1)]
    | some q =>
      obtain ⟨c', z'⟩ := q
      rw [n_w_at hq, n_w_at (m := m') (by rw [h1]; exact hq)]
      have i1 : m'.2.1 a = m.2.1 a := funext fun k => hi a k e
      have i2 : m'.2.2.1 a = m.2.2.1 a := funext fun k => hj a k e
      have i3 : ∀ k, m'.2.2.2 a k = m.2.2.2 a k := fun k => hr a k e
      simp only [n_cell, i1, i2, i3]
/-- one cell more -/
theorem n_w_push {G : n_G} {m m' : e_M} {c z : Nat} (h1 : m'.1 = m.1 ++ [(c, z)]) (hi : ∀ a k, a < m.1.length → m'.2.1 a k = m.2.1 a k) (hj : ∀ a k, a < m.1.length → m'.2.2.1 a k = m.2.2.1 a k) (hr : ∀ a k, a < m.1.length → m'.2.2.2 a k = m.2.2.2 a k) :
    n_w G m' = n_w G m ++ [(n_b G + m.1.length, n_cell G m' m.1.length c z)] := by
  apply List.ext_getElem?
  intro a
  rcases Nat.lt_trichotomy a m.1.length with e | e | e
  · rw [List.getElem?_append_left (by rw [n_w_len]; exact e)]
    have hq : m.1[a]? = some m.1[a] := List.getElem?_eq_getElem e
    generalize m.1[a] = q at hq
    obtain ⟨c', z'⟩ := q
    have hq' : m'.1[a]? = some (c', z') := by rw [h1, List.getElem?_append_left e]; exact hq
    rw [n_w_at hq, n_w_at hq']
    have i1 : m'.2.1 a = m.2.1 a := funext fun k => hi a k e
    have i2 : m'.2.2.1 a = m.2.2.1 a := funext fun k => hj a k e
    have i3 : ∀ k, m'.2.2.2 a k = m.2.2.2 a k := fun k => hr a k e
    simp only [n_cell, i1, i2, i3]
  · subst e
    rw [List.getElem?_append_right (by rw [n_w_len]; exact Nat.le_refl _), n_w_len, Nat.sub_self]
    exact n_w_at (by rw [h1, List.getElem?_append_right (Nat.le_refl _), Nat.sub_self]; rfl)
  · rw [List.getElem?_eq_none (by rw [n_w_len, h1]; simp; omega), List.getElem?_eq_none (by simp [n_w_len]; omega)]
/-- the kinds that there are -/
def n_kd (q : Nat × Nat) : Prop := (q.1 < 11 ∧ q.2 = e_nf q.1) ∨ q.1 = 100 ∨ q.1 = 101 ∨ q.1 = 102 ∨ q.1 = 206 ∨ q.1 = 207
def n_ok (m : e_M) : Prop := (∀ (o : Nat) (q : Nat × Nat), m.1[o]? = some q → n_kd q) ∧ ∀ (o k : Nat), o < m.1.length → m.2.2.2 o k ≤ m.1.length
def n_z (m : e_M) : Nat := (m.1.map (·.2)).sum
def n_t (G : n_G) : List (ClassId × FieldType) := [(G.2.1 100, .int), (G.2.1 101, .char), (G.2.1 102, .long), (G.2.1 206, .object "BridgeService$Sheet"), (G.2.1 207, .object "BridgeService$Shelf")]
/-! locals -/
def e_u : Value → Bool
  | .retAddr _ => true
  | _ => false
def n_ll (G : n_G) (ls : List Value) : List (Nat × Value) := (List.range ls.length).filterMap fun j => match ls[j]? with
  | some v => if e_u v then none else some (j, n_v G v)
  | none => none
def n_L (G : n_G) (nL : Nat) (ls : List Value) (lsA : Array Slot) : Prop := ls.length = nL ∧ lsA.size = nL ∧ lv_wf lsA ∧ ∀ (i : Nat) (v : Value), ls[i]? = some v → e_u v = false → lsA[i]? = some (.val (n_v G v))
theorem n_ll_mem {G : n_G} {ls : List Value} {q : Nat × Value} : q ∈ n_ll G ls ↔ ∃ v, ls[q.1]? = some v ∧ e_u v = false ∧ q.2 = n_v G v := by
  simp only [n_ll, List.mem_filterMap, List.mem_range]
  constructor
  · rintro ⟨j, hj, h⟩
    have hg : ls[j]? = some ls[j] := List.getElem?_eq_getElem hj
    rw [hg] at h
    dsimp only at h
    by_cases hu : e_u ls[j] = true
    · rw [if_pos hu] at h; cases h
    · rw [if_neg hu] at h
      cases h
      exact ⟨_, hg, by simpa using hu, rfl⟩
  · rintro ⟨v, h1, h2, h3⟩
    refine ⟨q.1, (List.getElem?_eq_some_iff.mp h1).1, ?_⟩
    rw [h1]
    dsimp only
    rw [if_neg (by rw [h2]; decide), ← h3]
theorem n_L_has {G : n_G} {nL : Nat} {ls : List Value} {lsA : Array Slot} (h : n_L G nL ls lsA) : lv_has lsA nL (n_ll G ls) := by
  refine ⟨h.2.1, h.2.2.1, fun q hq => ?_⟩
  obtain ⟨v, h1, h2, h3⟩ := n_ll_mem.mp hq
  rw [h3]
  exact h.2.2.2 _ _ h1 h2
theorem n_v_cat {G : n_G} {v : Value} (h : e_u v = false) : (n_v G v).category = v.category := by cases v <;> first | rfl | (cases h; done)
theorem n_L_st1 {G : n_G} {nL i : Nat} {ls ls' : List Value} {lsA lsB : Array Slot} {v : Value} (h : n_L G nL ls lsA) (hs : e_st1 i ls v = some ls') (hB : lv_has lsB nL ((i, n_v G v) :: (n_ll G ls).filter (fun q => !(q.1 == i) && !(q.1 + 1 == i && q.2.category == 2)))) : n_L G nL ls' lsB ∧ i < nL := by
  unfold e_st1 at hs
  split at hs
  · rename_i hi
    have key : (∀ w, i ≠ 0 → ls[i - 1]? = some w → ¬ w.category = 2) ∧ ls' = ls.set i v := by
      split at hs
      · cases hs
        exact ⟨fun w h0 => absurd rfl h0, rfl⟩
      · split at hs
        · rename_i j w hw
          split at hs
          · cases hs
          · rename_i hc
            cases hs
            exact ⟨fun w' _ hw' => by rw [Nat.succ_sub_one, hw] at hw'; cases hw'; exact hc, rfl⟩
        · cases hs
    obtain ⟨hc, rfl⟩ := key
    refine ⟨⟨by simp [h.1], hB.1, hB.2.1, fun j w hj hu => ?_⟩, by rw [← h.1]; exact hi⟩
    by_cases e : j = i
    · subst e
      rw [List.getElem?_set_self hi] at hj
      cases hj
      exact hB.2.2 _ List.mem_cons_self
    · rw [List.getElem?_set_ne (Ne.symm e)] at hj
      refine hB.2.2 (j, n_v G w) (List.mem_cons_of_mem _ (List.mem_filter.mpr ⟨n_ll_mem.mpr ⟨w, hj, hu, rfl⟩, ?_⟩))
      simp only [Bool.and_eq_true, Bool.not_eq_true', beq_eq_false_iff_ne, ne_eq, Bool.and_eq_false_iff]
      refine ⟨e, ?_⟩
      by_cases e2 : j + 1 = i
      · refine Or.inr fun hc2 => hc w (by omega) (by rw [← e2, Nat.add_sub_cancel]; exact hj) ?_
        rw [← n_v_cat (G := G) hu]
        exact hc2
      · exact Or.inl e2
  · cases hs
theorem n_L_st2 {G : n_G} {nL i : Nat} {ls ls' : List Value} {lsA lsB : Array Slot} {v : Value} (h : n_L G nL ls lsA) (hs : e_st2 i ls v = some ls') (hB : lv_has lsB nL ((i, n_v G v) :: (n_ll G ls).filter (fun q => !(q.1 == i) && (!(q.1 == i + 1) && !(q.1 + 1 == i && q.2.category == 2))))) : n_L G nL ls' lsB ∧ i + 1 < nL := by
  unfold e_st2 at hs
  split at hs
  · rename_i hi
    have key : (∀ w, i ≠ 0 → ls[i - 1]? = some w → ¬ w.category = 2) ∧ ls' = (ls.set i v).set (i + 1) (.retAddr 0) := by
      split at hs
      · cases hs
        exact ⟨fun w h0 => absurd rfl h0, rfl⟩
      · split at hs
        · rename_i j w hw
          split at hs
          · cases hs
          · rename_i hc
            cases hs
            exact ⟨fun w' _ hw' => by rw [Nat.succ_sub_one, hw] at hw'; cases hw'; exact hc, rfl⟩
        · cases hs
    obtain ⟨hc, rfl⟩ := key
    refine ⟨⟨by simp [h.1], hB.1, hB.2.1, fun j w hj hu => ?_⟩, by rw [← h.1]; exact hi⟩
    by_cases e1 : j = i + 1
    · subst e1
      rw [List.getElem?_set_self (by simpa using hi)] at hj
      cases hj
      cases hu
    · rw [List.getElem?_set_ne (Ne.symm e1)] at hj
      by_cases e : j = i
      · subst e
        rw [List.getElem?_set_self (by omega)] at hj
        cases hj
        exact hB.2.2 _ List.mem_cons_self
      · rw [List.getElem?_set_ne (Ne.symm e)] at hj
        refine hB.2.2 (j, n_v G w) (List.mem_cons_of_mem _ (List.mem_filter.mpr ⟨n_ll_mem.mpr ⟨w, hj, hu, rfl⟩, ?_⟩))
        simp only [Bool.and_eq_true, Bool.not_eq_true', beq_eq_false_iff_ne, ne_eq, Bool.and_eq_false_iff]
        refine ⟨e, e1, ?_⟩
        by_cases e2 : j + 1 = i
        · refine Or.inr fun hc2 => hc w (by omega) (by rw [← e2, Nat.add_sub_cancel]; exact hj) ?_
          rw [← n_v_cat (G := G) hu]
          exact hc2
        · exact Or.inl e2
  · cases hs
