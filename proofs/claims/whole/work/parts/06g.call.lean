/-! CALLS -/
theorem k_me_facts {c : Nat} (hc : c < 308) : (Jvm.Cond.code (g_y c) (g_b c) (g_mx c) (g_ret c) ∈ lw_tbl) ∧ (Jvm.Cond.initialized (g_y c).cls ∈ lw_tbl) ∧ ((g_k c).2.1 = 0 → Jvm.Cond.static (g_y c) ∈ lw_tbl) ∧ ((g_k c).2.1 = 1 → Jvm.Cond.instanceMethod (g_y c) ∈ lw_tbl ∧ Jvm.Cond.selects (g_y c).cls (g_y c) (g_y c) ∈ lw_tbl) ∧
    ((g_k c).2.1 = 2 → Jvm.Cond.instanceMethod (g_y c) ∈ lw_tbl ∧ (g_y c).name = "<init>" ∧ g_ret c = none) ∧ g_mx c ≤ 20 ∧ plainName (g_y c).cls = true ∧ ((g_y c).cls ≠ "java/lang/invoke/MethodHandle" ∧ (g_y c).cls ≠ "java/lang/invoke/VarHandle") ∧
    (parseMethodDescriptor (g_y c).desc).map (fun q => q.parameters.length) = some (if (g_k c).2.1 = 0 then (g_k c).1 else (g_k c).1 - 1) ∧ ((g_k c).2.1 = 0 ∨ 1 ≤ (g_k c).1) := by
  have h := k_me_at hc
  unfold k_me at h
  dsimp only at h
  rw [Bool.and_eq_true, Bool.and_eq_true, Bool.and_eq_true, Bool.and_eq_true, Bool.and_eq_true, Bool.and_eq_true, Bool.and_eq_true, Bool.and_eq_true] at h
  obtain ⟨⟨⟨⟨⟨⟨⟨⟨h1, h2⟩, h3⟩, h4⟩, h5⟩, h6⟩, h7⟩, h8⟩, h9⟩ := h
  refine ⟨k_cd_mem (by omega) h1, (k_at_mem h2).1, fun q => ?_, fun q => ?_, fun q => ?_, of_decide_eq_true h4, h5, ⟨of_decide_eq_true h6, of_decide_eq_true h7⟩, of_decide_eq_true h8, of_decide_eq_true h9⟩
  · rw [if_pos q] at h3
    exact (k_at_mem h3).1
  · rw [if_neg (by omega), if_pos q, Bool.and_eq_true] at h3
    exact ⟨(k_at_mem h3.1).1, (k_at_mem h3.2).1⟩
  · rw [if_neg (by omega), if_neg (by omega), Bool.and_eq_true, Bool.and_eq_true] at h3
    exact ⟨(k_at_mem h3.1).1, of_decide_eq_true h3.2.1, of_decide_eq_true h3.2.2⟩
theorem g_y_cls (c : Nat) : (g_y c).cls = g_cn (g_own c) := rfl
section
variable {G : n_G} {X : e_X} {p : Program} {l : Launch} {e : Env} {R : Room} {s : State} {m : MethodId} {args : Array Value} {below : List Frame} {meth : Method} {c : Code} {g nL k0 s0 d : Nat} {S : Nat → List Value → e_M → e_R} {Q : State → Prop}
/-- behind a call -/
theorem n_back {mm m2 : e_M} {ls r1 : List Value} {H : Heap} {locs : List Loc} {lsA : Array Slot} {cells slots pc : Nat} {st0 rest : List Value} {a : Array Value} {mc ms : Nat} (hr : n_R G s k0 s0 nL mm ls H locs lsA cells slots) (hle : n_le mm m2) (hmc : mc = m2.1.length - mm.1.length) (hms : ms = n_z m2 - n_z mm)
    (hrun : va_Run p l e R s m args below meth c H locs cells slots mc ms (F0 m pc lsA st0) rest (n_Qc G r1 m2 a) (fun q => n_b G ≤ q))
    (kk : ∀ (H' : Heap) (locs' : List Loc) (cells' slots' : Nat), n_R G s k0 s0 nL m2 ls H' locs' lsA cells' slots' → W p l e R s m args below meth c H' locs' cells' slots' Q (F0 m (pc + 3) lsA (r1.map (n_v G) ++ rest))) : W p l e R s m args below meth c H locs cells slots Q (F0 m pc lsA st0) := by
  intro T hT X'
  obtain ⟨v, st₀, t, T', L, h0, X'', hL, e1, e2, ⟨⟨v', hv, hvl⟩, hz, hP, hok, hF⟩, st⟩ := hrun T hT X'
  cases hv
  obtain ⟨r1', r2, r3, r4, r5, r6, r7⟩ := hr
  have hS : va_S (fun q => n_b G ≤ q) s.heap T'.heap (locs ++ L) := by
    refine ⟨by rw [e1, hz]; have := r3.1; have := hle.1; omega, fun q h1 h2 => ?_, fun q hq => ?_⟩
    · rw [e1, hF.2 q (by rw [h0]; exact Nat.lt_of_lt_of_le h1 r3.1) h2, h0]
      exact r3.2.1 q h1 h2
    · rcases List.mem_append.mp hq with h | h
      · exact r3.2.2 q h
      · exact hL q h
  obtain ⟨t2, a1, b1⟩ := kk T'.heap (locs ++ L) (cells + mc) (slots + ms) ⟨by rw [e1]; exact hz, by rw [e1]; exact hP, hS, r4, by have := hle.1; omega, by have := hle.2; omega, hok⟩ T' rfl X''
  rw [← hvl] at a1
  exact ⟨t2, st t2 a1, b1⟩
theorem n_words (C : n_C G X p R s m args meth c g nL) {c' : Nat} (hc : c' < 308) : ∀ w ∈ g_w c', ∀ (a' : Array Value) (U : State), s.WarmedH U.vm → w.before a' U = true := by
  intro w hw a' U hW
  unfold g_w at hw
  rcases List.mem_cons.mp hw with rfl | hw
  · exact word_at hW (Or.inl rfl) (n_good C ⟨(k_me_facts hc).1, Or.inl rfl⟩)
  · obtain ⟨h1, h2⟩ := List.mem_filter.mp hw
    exact word_at hW (good_of_word h2) (n_good C ⟨h1, Or.inl h2⟩)
theorem n_pre (C : n_C G X p R s m args meth c g nL) {mm : e_M} {ls as : List Value} {H : Heap} {locs : List Loc} {lsA : Array Slot} {cells slots : Nat} (hr : n_R G s k0 s0 nL mm ls H locs lsA cells slots) {v : Array Value} (hv : v = (as.map (n_v G)).toArray) : ∀ U : State, U.heap = H → s.WarmedH U.vm → n_Pc G X as mm v U := by
  intro U hU hW
  exact ⟨hv, by rw [hU]; exact hr.1, by rw [hU]; exact hr.2.1, C.2.2.2.2.2.1.moved hW.alike, n_S_moved C.2.2.2.2.2.2.1 hr.2.2.1 hU hW, hr.2.2.2.2.2.2⟩
theorem n_call (C : n_C G X p R s m args meth c g nL) (hM : n_M l G X d S) (hRf : d + 2 ≤ R.frames) (hRl : 8 + (20 + 11) + 100 * (d + 1) ≤ R.locals) {c' n pc len : Nat} {i : Instr} (hd : decode (g_b g) pc = .ok (i, len)) (hk : k_ok g pc len i (.invokeinterface c' n) = true) {ls st r1 : List Value} {mm m2 : e_M} {H : Heap} {locs : List Loc} {lsA : Array Slot} {cells slots : Nat}
    (hlo : e_lo (st.drop n) = true) (hs : S c' (st.take n).reverse mm = some (r1, m2)) (hr : n_R G s k0 s0 nL mm ls H locs lsA cells slots) (hle : n_le mm m2) (h1 : m2.1.length ≤ 900) (h2 : m2.1.length ≤ R.cells + k0) (h3 : n_z m2 ≤ R.slots + s0) (h4 : n_z m2 ≤ 100000)
    (kk : ∀ (H' : Heap) (locs' : List Loc) (cells' slots' : Nat), n_R G s k0 s0 nL m2 ls H' locs' lsA cells' slots' → W p l e R s m args below meth c H' locs' cells' slots' Q (F0 m (pc + len) lsA ((r1 ++ st.drop n).map (n_v G)))) :
    W p l e R s m args below meth c H locs cells slots Q (F0 m pc lsA (st.map (n_v G))) := by
  have hlk : ∀ x : Nat, (k_m (g_own g) x).map (·.1) = some c' → c' < 308 ∧ ∃ h : String, (k_mw (g_own g) x c' h).before args s = true := by
    intro x hx
    obtain ⟨⟨h, q⟩, hq⟩ := k_map1 hx
    have h0 := k_look k_m_ok (by decide) hq
    rw [Bool.and_eq_true] at h0
    exact ⟨of_decide_eq_true h0.2, h, n_good C (k_at_mem h0.1)⟩
  have hrest : ((((st.drop n).map (n_v G)).map fun v => v.category)).sum ≤ 8 := n_lo (f := n_v G) (of_decide_eq_true hlo)
  have hrm : ∀ {c'' : Nat}, c'' < 308 → 8 + (g_mx c'' + 11) + 100 * (d + 1) ≤ R.locals := fun hc => by have := (k_me_facts hc).2.2.2.2.2.1; omega
  have hcells : cells + (m2.1.length - mm.1.length) ≤ R.cells ∧ slots + (n_z m2 - n_z mm) ≤ R.slots := by
    have a1 := hr.2.2.2.2.1
    have a2 := hr.2.2.2.2.2.1
    have a3 := hle.1
    have a4 := hle.2
    omega
  have hst : st = (st.take n).reverse.reverse ++ st.drop n := by rw [List.reverse_reverse, List.take_append_drop]
  have hsz : (F0 m pc lsA (st.map (n_v G))).locals.size = nL := hr.2.2.2.1.2.1
  have kk' : len = 3 → ∀ (H' : Heap) (locs' : List Loc) (cells' slots' : Nat), n_R G s k0 s0 nL m2 ls H' locs' lsA cells' slots' → W p l e R s m args below meth c H' locs' cells' slots' Q (F0 m (pc + 3) lsA (r1.map (n_v G) ++ (st.drop n).map (n_v G))) := by
    intro hl H' locs' cells' slots' h
    have := kk H' locs' cells' slots' h
    rw [hl, List.map_append] at this
    exact this
  simp only [k_ok] at hk
  generalize has : (st.take n).reverse = as at hs hst
  have hSX : CallFix p m c (g_b g) nL s args [] (g_cn (g_own g)) := ⟨C.1, C.2.1, C.2.2.1, C.2.2.2.1, fun w h => absurd h List.not_mem_nil⟩
  split at hk
  · -- virtual
    rename_i x
    simp only [Bool.and_eq_true, decide_eq_true_eq] at hk
    obtain ⟨⟨⟨hl, hkm⟩, hkd⟩, hna⟩ := hk
    obtain ⟨hc, hh, hw⟩ := hlk x hkm
    obtain ⟨hrc, hMet⟩ := hM c' as mm r1 m2 hc hs h1 h4
    obtain ⟨f1, f2, -, f4, -, f6, -, f8, f9, f10⟩ := k_me_facts hc
    obtain ⟨f4a, f4b⟩ := f4 hkd
    simp only [e_rc, hkd, Bool.and_eq_true, decide_eq_true_eq] at hrc
    obtain ⟨hal, hrc⟩ := hrc
    split at hrc
    · rename_i o As
      have hAn : As.length = (g_k c').1 - 1 := by
        rw [List.length_cons] at hal
        omega
      have hrecv : ∃ cellB : Cell, H[n_a G o]? = some cellB ∧ cellB.vm.isStatics = false ∧ s.vm.findClass (g_y c').cls = some cellB.cls := by
        split at hrc
        · rename_i h13
          rw [of_decide_eq_true hrc, g_y_cls, h13]
          exact vk_recv C.2.2.2.2.2.2.1.2.2.2.2.2.2.1 (i := 0) (by decide) hr.2.2.1
        · split at hrc
          · rename_i ci z ho
            simp only [Bool.and_eq_true, decide_eq_true_eq] at hrc
            obtain ⟨rfl, hci⟩ := hrc
            obtain ⟨-, hwo⟩ := n_obj (G := G) hr.2.2.2.2.2.2 ho hci
            have ho9 : mm.1.length ≤ 900 := Nat.le_trans hle.1 h1
            rw [n_R_lt ho ho9, g_y_cls]
            exact va_recv C.2.2.2.2.2.1 hr.2.1 (q_cl_at hci) hwo
          · cases hrc
      have hstk : (F0 m pc lsA (st.map (n_v G))).stack = (As.map (n_v G)).reverse ++ .ref (n_a G o) :: (st.drop n).map (n_v G) := by
        show st.map (n_v G) = _
        conv => lhs; rw [hst]
        simp [List.map_append, List.map_reverse, n_v]
      have hsig : ∀ sig, parseMethodDescriptor (g_y c').desc = some sig → (g_k c').1 - 1 = sig.parameters.length := by
        intro sig hsig
        rw [hsig, if_neg (by omega)] at f9
        exact (Option.some.inj f9).symm
      have hP := n_pre C hr (as := .ref o :: As) (v := (Value.ref (n_a G o) :: As.map (n_v G)).toArray) rfl
      unfold k_mw at hw
      split at hw
      · exact n_back hr hle rfl rfl (va_runV (C := (g_y c').cls) (bytes := g_b c') (maxL := g_mx c') (ret := g_ret c') (n := (g_k c').1 - 1) (rest := (st.drop n).map (n_v G)) hSX hMet ⟨⟨rfl, rfl, hRf, hrm hc, n_words C hc, List.mem_cons_self, n_good C ⟨f1, Or.inl rfl⟩, n_good C ⟨f2, Or.inl rfl⟩, f8, hsig, hw⟩, n_good C ⟨f4a, Or.inl rfl⟩, n_good C ⟨f4b, Or.inl rfl⟩⟩ ⟨n_blind, hrecv, hP⟩ rfl (by rw [List.length_map]; exact hAn) hsz hstk (lv_room hrest) (by rw [hl] at hd; exact hd) hcells) (kk' hl)
      · exact n_back hr hle rfl rfl (va_runVN (C := (g_y c').cls) (host := hh) (bytes := g_b c') (maxL := g_mx c') (ret := g_ret c') (n := (g_k c').1 - 1) (rest := (st.drop n).map (n_v G)) hSX hMet ⟨⟨⟨rfl, rfl, hRf, hrm hc, n_words C hc, List.mem_cons_self⟩, n_good C ⟨f1, Or.inl rfl⟩, n_good C ⟨f2, Or.inl rfl⟩, f8, hsig, hw⟩, n_good C ⟨f4a, Or.inl rfl⟩, n_good C ⟨f4b, Or.inl rfl⟩⟩ ⟨n_blind, hrecv, hP⟩ rfl (by rw [List.length_map]; exact hAn) hsz hstk (lv_room hrest) (by rw [hl] at hd; exact hd) hcells) (kk' hl)
    · cases hrc
  · -- static
    rename_i x
    simp only [Bool.and_eq_true, decide_eq_true_eq] at hk
    obtain ⟨⟨⟨hl, hkm⟩, hkd⟩, hna⟩ := hk
    obtain ⟨hc, hh, hw⟩ := hlk x hkm
    obtain ⟨hrc, hMet⟩ := hM c' as mm r1 m2 hc hs h1 h4
    obtain ⟨f1, f2, f3, -, -, f6, -, f8, f9, f10⟩ := k_me_facts hc
    have f3 := f3 hkd
    simp only [e_rc, hkd, Bool.and_eq_true, decide_eq_true_eq] at hrc
    have hal := hrc.1
    have hstk : (F0 m pc lsA (st.map (n_v G))).stack = (as.map (n_v G)).reverse ++ (st.drop n).map (n_v G) := by
      show st.map (n_v G) = _
      conv => lhs; rw [hst]
      simp [List.map_append, List.map_reverse]
    have hsig : ∀ sig, parseMethodDescriptor (g_y c').desc = some sig → (g_k c').1 = sig.parameters.length := by
      intro sig hsig
      rw [hsig, if_pos hkd] at f9
      exact (Option.some.inj f9).symm
    have hP := n_pre C hr (as := as) (v := (as.map (n_v G)).toArray) rfl
    unfold k_mw at hw
    split at hw
    · exact n_back hr hle rfl rfl (va_runS (bytes := g_b c') (maxL := g_mx c') (ret := g_ret c') (n := (g_k c').1) (rest := (st.drop n).map (n_v G)) hSX hMet ⟨⟨rfl, rfl, hRf, hrm hc, n_words C hc, List.mem_cons_self, n_good C ⟨f1, Or.inl rfl⟩, n_good C ⟨f2, Or.inl rfl⟩, f8, hsig, hw⟩, n_good C ⟨f3, Or.inl rfl⟩⟩ ⟨n_blind, hP⟩ rfl (by rw [List.length_map]; exact hal) hsz hstk (lv_room hrest) (by rw [hl] at hd; exact hd) hcells) (kk' hl)
    · exact n_back hr hle rfl rfl (va_runSN (host := hh) (bytes := g_b c') (maxL := g_mx c') (ret := g_ret c') (n := (g_k c').1) (rest := (st.drop n).map (n_v G)) hSX hMet ⟨⟨⟨rfl, rfl, hRf, hrm hc, n_words C hc, List.mem_cons_self⟩, n_good C ⟨f1, Or.inl rfl⟩, n_good C ⟨f2, Or.inl rfl⟩, f8, hsig, hw⟩, n_good C ⟨f3, Or.inl rfl⟩, trivial⟩ ⟨n_blind, hP⟩ rfl (by rw [List.length_map]; exact hal) hsz hstk (lv_room hrest) (by rw [hl] at hd; exact hd) hcells) (kk' hl)
  · -- a constructor
    rename_i x
    simp only [Bool.and_eq_true, decide_eq_true_eq] at hk
    obtain ⟨⟨⟨hl, hkm⟩, hkd⟩, hna⟩ := hk
    obtain ⟨hc, hh, hw⟩ := hlk x hkm
    obtain ⟨hrc, hMet⟩ := hM c' as mm r1 m2 hc hs h1 h4
    obtain ⟨f1, f2, -, -, f5, f6, -, f8, f9, f10⟩ := k_me_facts hc
    obtain ⟨f5a, f5b, f5c⟩ := f5 hkd
    simp only [e_rc, hkd, Bool.and_eq_true, decide_eq_true_eq] at hrc
    obtain ⟨hal, hrc⟩ := hrc
    split at hrc
    · rename_i o As
      have hAn : As.length = (g_k c').1 - 1 := by
        rw [List.length_cons] at hal
        omega
      have hstk : (F0 m pc lsA (st.map (n_v G))).stack = (As.map (n_v G)).reverse ++ .ref (n_a G o) :: (st.drop n).map (n_v G) := by
        show st.map (n_v G) = _
        conv => lhs; rw [hst]
        simp [List.map_append, List.map_reverse, n_v]
      have hsig : ∀ sig, parseMethodDescriptor (g_y c').desc = some sig → (g_k c').1 - 1 = sig.parameters.length := by
        intro sig hsig
        rw [hsig, if_neg (by omega)] at f9
        exact (Option.some.inj f9).symm
      have hP := n_pre C hr (as := .ref o :: As) (v := (Value.ref (n_a G o) :: As.map (n_v G)).toArray) rfl
      have hcd : (Jvm.Cond.code (g_y c') (g_b c') (g_mx c') none) ∈ lw_tbl := by rw [← f5c]; exact f1
      have hcm : (Jvm.Cond.code (g_y c') (g_b c') (g_mx c') none) ∈ g_w c' := by
        unfold g_w
        rw [f5c]
        exact List.mem_cons_self
      unfold k_mw at hw
      split at hw
      · exact n_back hr hle rfl rfl (va_runI (bytes := g_b c') (maxL := g_mx c') (n := (g_k c').1 - 1) (rest := (st.drop n).map (n_v G)) hSX hMet ⟨⟨rfl, rfl, hRf, hrm hc, n_words C hc, hcm, n_good C ⟨hcd, Or.inl rfl⟩, n_good C ⟨f2, Or.inl rfl⟩, f8, hsig, hw⟩, f5b, n_good C ⟨f5a, Or.inl rfl⟩⟩ ⟨n_blind, hP⟩ rfl (by rw [List.length_map]; exact hAn) hsz hstk (lv_room hrest) (by rw [hl] at hd; exact hd) hcells) (kk' hl)
      · exact n_back hr hle rfl rfl (va_runIN (host := hh) (bytes := g_b c') (maxL := g_mx c') (n := (g_k c').1 - 1) (rest := (st.drop n).map (n_v G)) hSX hMet ⟨⟨⟨rfl, rfl, hRf, hrm hc, n_words C hc, hcm⟩, n_good C ⟨hcd, Or.inl rfl⟩, n_good C ⟨f2, Or.inl rfl⟩, f8, hsig, hw⟩, f5b, n_good C ⟨f5a, Or.inl rfl⟩⟩ ⟨n_blind, hP⟩ rfl (by rw [List.length_map]; exact hAn) hsz hstk (lv_room hrest) (by rw [hl] at hd; exact hd) hcells) (kk' hl)
    · cases hrc
  · cases hk
end
