/-! BLOCKS, CALLS, METHODS -/
def n_le (m m' : e_M) : Prop := m.1.length ≤ m'.1.length ∧ n_z m ≤ n_z m'
theorem n_le.rf {m : e_M} : n_le m m := ⟨Nat.le_refl _, Nat.le_refl _⟩
theorem n_le.tr {a b c : e_M} (h : n_le a b) (h' : n_le b c) : n_le a c := ⟨Nat.le_trans h.1 h'.1, Nat.le_trans h.2 h'.2⟩
theorem n_le_of {m m' : e_M} (h : ∃ q, m'.1 = m.1 ++ q) : n_le m m' := by
  obtain ⟨q, h⟩ := h
  refine ⟨by rw [h]; simp, ?_⟩
  unfold n_z
  rw [h, List.map_append, List.sum_append]
  exact Nat.le_add_right _ _
theorem e_ii_K {f ls st mm ls' st' mm'} (h : e_ii f ls st mm = some (ls', st', mm')) : ∃ q, mm'.1 = mm.1 ++ q := by
  unfold e_ii at h
  split at h
  · cases h; exact ⟨[], (List.append_nil _).symm⟩
  · cases h
theorem e_iq_K {f ls st mm ls' st' mm'} (h : e_iq f ls st mm = some (ls', st', mm')) : ∃ q, mm'.1 = mm.1 ++ q := by
  unfold e_iq at h
  split at h
  · split at h
    · cases h; exact ⟨[], (List.append_nil _).symm⟩
    · cases h
  · cases h
theorem e_i1_K {f ls st mm ls' st' mm'} (h : e_i1 f ls st mm = some (ls', st', mm')) : ∃ q, mm'.1 = mm.1 ++ q := by
  unfold e_i1 at h
  split at h
  · cases h; exact ⟨[], (List.append_nil _).symm⟩
  · cases h
theorem e_id_K {f ls st mm ls' st' mm'} (h : e_id f ls st mm = some (ls', st', mm')) : ∃ q, mm'.1 = mm.1 ++ q := by
  unfold e_id at h
  split at h
  · split at h
    · cases h
    · cases h; exact ⟨[], (List.append_nil _).symm⟩
  · cases h
theorem e_jj_K {f ls st mm ls' st' mm'} (h : e_jj f ls st mm = some (ls', st', mm')) : ∃ q, mm'.1 = mm.1 ++ q := by
  unfold e_jj at h
  split at h
  · cases h; exact ⟨[], (List.append_nil _).symm⟩
  · cases h
theorem e_ji_K {f ls st mm ls' st' mm'} (h : e_ji f ls st mm = some (ls', st', mm')) : ∃ q, mm'.1 = mm.1 ++ q := by
  unfold e_ji at h
  split at h
  · cases h; exact ⟨[], (List.append_nil _).symm⟩
  · cases h
theorem e_map_K {o : Option (List Value)} {r : List Value} {mm : e_M} {ls' st' mm'} (h : (o.map fun l => (l, r, mm)) = some (ls', st', mm')) : ∃ q, mm'.1 = mm.1 ++ q := by
  cases o with
  | none => cases h
  | some l => cases h; exact ⟨[], (List.append_nil _).symm⟩
theorem e_st_K {X : e_X} {i : Instr} {ls st : List Value} {mm : e_M} {ls' st' : List Value} {mm' : e_M} (h : e_st X i ls st mm = some (ls', st', mm')) : ∃ q, mm'.1 = mm.1 ++ q := by
  unfold e_st at h
  split at h <;> first
    | exact e_ii_K h
    | exact e_iq_K h
    | exact e_i1_K h
    | exact e_id_K h
    | exact e_jj_K h
    | exact e_ji_K h
    | (cases h; exact ⟨[], (List.append_nil _).symm⟩)
    | (cases h; done)
    | (cases h; exact ⟨_, rfl⟩)
    | (split at h <;> first
        | exact e_map_K h
        | (cases h; exact ⟨[], (List.append_nil _).symm⟩)
        | (cases h; done)
        | (cases h; exact ⟨_, rfl⟩)
        | (split at h <;> first
            | (cases h; exact ⟨[], (List.append_nil _).symm⟩)
            | (cases h; done)
            | (cases h; exact ⟨_, rfl⟩)
            | (split at h <;> first
                | (cases h; exact ⟨[], (List.append_nil _).symm⟩)
                | (cases h; done)
                | (cases h; exact ⟨_, rfl⟩))))
theorem e_x_sz {X : e_X} {S : Nat → List Value → e_M → e_R} {J : Nat → List Value → List Value → e_M → e_R} (hS : ∀ c as m r m', S c as m = some (r, m') → n_le m m') (hJ : ∀ t a b m r m', J t a b m = some (r, m') → n_le m m') : ∀ (is : List Instr) (ls st : List Value) (m : e_M) (r : List Value) (m' : e_M), e_x X S J is ls st m = some (r, m') → n_le m m' := by
  intro is
  induction is with
  | nil => intro ls st m r m' h; simp [e_x] at h
  | cons i is ih =>
    intro ls st m r m' h
    unfold e_x at h
    split at h
    · exact hJ _ _ _ _ _ _ h
    · exact hJ _ _ _ _ _ _ h
    · split at h
      · split at h
        · exact hJ _ _ _ _ _ _ h
        · exact ih _ _ _ _ _ h
      · cases h
    · split at h
      · split at h
        · exact hJ _ _ _ _ _ _ h
        · exact ih _ _ _ _ _ h
      · cases h
    · split at h
      · obtain ⟨t, h1, -⟩ := e_sw_J h
        exact hJ _ _ _ _ _ _ h1
      · cases h
    · split at h
      · cases h; exact n_le.rf
      · cases h
    · split at h
      · split at h
        · cases h; exact n_le.rf
        · cases h
      · cases h
    · split at h
      · split at h
        · cases h; exact n_le.rf
        · cases h
      · cases h
    · split at h
      · split at h
        · cases h; exact n_le.rf
        · cases h
      · cases h
    · split at h
      · cases h; exact n_le.rf
      · cases h
    · split at h
      · cases h; exact n_le.rf
      · cases h
    · split at h
      · split at h
        · rename_i hs
          exact (hS _ _ _ _ _ hs).tr (ih _ _ _ _ _ h)
        · cases h
      · cases h
    · split at h
      · rename_i hs
        exact (n_le_of (e_st_K hs)).tr (ih _ _ _ _ _ h)
      · cases h
section
variable {P : Nat → Nat → List Instr} {mx : Nat → Nat} {rc : Nat → List Value → e_M → Bool} {X : e_X}
theorem e_run_sz {S : Nat → List Value → e_M → e_R} (hS : ∀ c as m r m', S c as m = some (r, m') → n_le m m') {c : Nat} : ∀ (n lab : Nat) (ls st : List Value) (m : e_M) (r : List Value) (m' : e_M), e_run P X S c n lab ls st m = some (r, m') → n_le m m'
  | 0, _, _, _, _, _, _, h => by cases h
  | n + 1, lab, ls, st, m, r, m', h => by
    unfold e_run at h
    exact e_x_sz hS (fun t a b q r' m'' h' => e_run_sz hS n t a b q r' m'' h') _ _ _ _ _ _ h
theorem e_S_sz : ∀ (d c : Nat) (as : List Value) (m : e_M) (r : List Value) (m' : e_M), e_S P mx rc X d c as m = some (r, m') → n_le m m'
  | 0, _, _, _, _, _, h => by cases h
  | d + 1, c, as, m, r, m', h => by
    unfold e_S at h
    split at h
    · obtain ⟨n, hn⟩ := e_go_some.mp h
      exact e_run_sz (fun c as m r m' h => e_S_sz d c as m r m' h) n _ _ _ _ _ _ hn
    · cases h
end
def g_w (c : Nat) : List Jvm.Cond := .code (g_y c) (g_b c) (g_mx c) (g_ret c) :: lw_tbl.filter goodWord
def n_rm (d mc ms : Nat) : Room := { frames := d + 1, cells := mc, slots := ms, locals := 100 * (d + 1) }
def n_Pc (G : n_G) (X : e_X) (as : List Value) (m1 : e_M) : Array Value → State → Prop := fun v U => v = (as.map (n_v G)).toArray ∧ U.heap.size = n_b G + m1.1.length ∧ va_P G.1 q_cl (n_w G m1) U.heap ∧ va_K G.1 q_cl (n_t G) U ∧ n_S G X U ∧ n_ok m1
def n_Qc (G : n_G) (r : List Value) (m2 : e_M) : Array Value → State → Outcome → State → Prop := fun _ st o t => (∃ v : Option Value, o = .returned v ∧ v.toList = r.map (n_v G)) ∧ t.heap.size = n_b G + m2.1.length ∧ va_P G.1 q_cl (n_w G m2) t.heap ∧ n_ok m2 ∧ va_F (fun q => n_b G ≤ q) st t
/-- what the evaluator answers for calls at depth d, the methods meet -/
def n_M (l : Launch) (G : n_G) (X : e_X) (d : Nat) (S : Nat → List Value → e_M → e_R) : Prop := ∀ (c : Nat) (as : List Value) (m1 : e_M) (r : List Value) (m2 : e_M), c < 308 → S c as m1 = some (r, m2) → m2.1.length ≤ 900 → n_z m2 ≤ 100000 →
  e_rc c as m1 = true ∧ Met l (g_y c) (g_w c) (n_rm d (m2.1.length - m1.1.length) (n_z m2 - n_z m1)) (n_Pc G X as m1) (n_Qc G r m2) (m2.1.length - m1.1.length) (n_z m2 - n_z m1) (fun q => n_b G ≤ q)
theorem n_S_calling {G : n_G} {X : e_X} {U : State} {g : JFrame} {mk : MethodId} {a : Array Value} (h : n_S G X U) : n_S G X (U.calling g mk a) := by
  obtain ⟨h1, h2, h3, h4, h5, h6, h7, h8, h9, h10⟩ := h
  have ha : U.vm.Alike (U.calling g mk a).vm := Vm.Alike.refl U.vm
  exact ⟨h1.moved ha, h2.moved ha, h3.moved ha, h4.moved ha, h5.moved ha, vk_R.same (u := U) (U := U.calling g mk a) rfl h6, h7.moved ha, fun w hw hn => va_Nw.same (u := U) (U := U.calling g mk a) (by cases w <;> first | (cases hn; done) | rfl) rfl (h8 w hw hn), h9.moved ha, h10.moved ha⟩
theorem n_blind {G : n_G} {X : e_X} {as : List Value} {m1 : e_M} : FrameBlind (n_Pc G X as m1) := fun a U g mk q =>
  ⟨q.1, q.2.1, q.2.2.1, va_K.moved (u := U) (U := U.calling g mk a) (Vm.Alike.refl U.vm) q.2.2.2.1, n_S_calling q.2.2.2.2.1, q.2.2.2.2.2⟩
/-- a method's own facts -/
theorem k_me_at {c : Nat} (hc : c < 308) : k_me c = true := by
  have key : ∀ a m, (List.range' a m).all k_me = true → a ≤ c → c < a + m → k_me c = true := fun a m h h1 h2 => List.all_eq_true.mp h c (List.mem_range'_1.mpr ⟨h1, h2⟩)
  by_cases h : c < 14
  · exact key 0 14 k_me_0 (by omega) (by omega)
  by_cases h14 : c < 28
  · exact key 14 14 k_me_14 (by omega) (by omega)
  by_cases h28 : c < 42
  · exact key 28 14 k_me_28 (by omega) (by omega)
  by_cases h42 : c < 56
  · exact key 42 14 k_me_42 (by omega) (by omega)
  by_cases h56 : c < 70
  · exact key 56 14 k_me_56 (by omega) (by omega)
  by_cases h70 : c < 84
  · exact key 70 14 k_me_70 (by omega) (by omega)
  by_cases h84 : c < 98
  · exact key 84 14 k_me_84 (by omega) (by omega)
  by_cases h98 : c < 112
  · exact key 98 14 k_me_98 (by omega) (by omega)
  by_cases h112 : c < 126
  · exact key 112 14 k_me_112 (by omega) (by omega)
  by_cases h126 : c < 140
  · exact key 126 14 k_me_126 (by omega) (by omega)
  by_cases h140 : c < 154
  · exact key 140 14 k_me_140 (by omega) (by omega)
  by_cases h154 : c < 168
  · exact key 154 14 k_me_154 (by omega) (by omega)
  by_cases h168 : c < 182
  · exact key 168 14 k_me_168 (by omega) (by omega)
  by_cases h182 : c < 196
  · exact key 182 14 k_me_182 (by omega) (by omega)
  by_cases h196 : c < 210
  · exact key 196 14 k_me_196 (by omega) (by omega)
  by_cases h210 : c < 224
  · exact key 210 14 k_me_210 (by omega) (by omega)
  by_cases h224 : c < 238
  · exact key 224 14 k_me_224 (by omega) (by omega)
  by_cases h238 : c < 252
  · exact key 238 14 k_me_238 (by omega) (by omega)
  by_cases h252 : c < 266
  · exact key 252 14 k_me_252 (by omega) (by omega)
  by_cases h266 : c < 280
  · exact key 266 14 k_me_266 (by omega) (by omega)
  by_cases h280 : c < 294
  · exact key 280 14 k_me_280 (by omega) (by omega)
  by_cases h294 : c < 308
  · exact key 294 14 k_me_294 (by omega) (by omega)
  exact absurd hc h294
