/-! METHODS: the evaluator's answers, met -/
/-- the receiver fits, the arguments too -/
def e_rq (c : Nat) (as : List Value) (m : e_M) : Bool := e_rc c as m && decide ((e_ent (g_mx c) as).length = g_mx c)
theorem n_lookup {l : Nat} {is : List Instr} : ∀ {bs : List (Nat × List Instr)}, bs.lookup l = some is → (l, is) ∈ bs
  | [], h => by cases h
  | (a, b) :: bs, h => by
    rw [List.lookup_cons] at h
    split at h
    · rename_i q
      cases h
      rw [beq_iff_eq.mp q]
      exact List.mem_cons_self
    · exact List.mem_cons_of_mem _ (n_lookup h)
theorem k_chk_P {g : Nat} (hg : g < 309) (lab : Nat) : k_chk g (g_b g) lab (g_P g lab) = true := by
  have h := k_code_all g hg
  unfold k_code at h
  unfold g_P
  cases hq : (g_pr.getD g []).lookup lab with
  | none => simp [k_chk]
  | some is => exact List.all_eq_true.mp h _ (n_lookup hq)
theorem n_ent_sl (G : n_G) (hG : G.2.2.2.category = 1) : ∀ as : List Value, (lg_sl (as.map (n_v G))).length = (as.flatMap fun v => if v.category = 2 then [v, Value.retAddr 0] else [v]).length := by
  intro as
  induction as with
  | nil => rfl
  | cons v as ih =>
    have hc : (n_v G v).category = v.category := by
      cases v <;> first | rfl | exact hG
    have e1 : lg_sl ((v :: as).map (n_v G)) = (if (n_v G v).category = 2 then [Slot.val (n_v G v), .second] else [.val (n_v G v)]) ++ lg_sl (as.map (n_v G)) := rfl
    rw [e1, List.flatMap_cons, List.length_append, List.length_append, ih, hc]
    by_cases h : v.category = 2
    · rw [if_pos h, if_pos h]; rfl
    · rw [if_neg h, if_neg h]; rfl
theorem n_ent_args (G : n_G) (hG : G.2.2.2.category = 1) : ∀ (as : List Value) (n i : Nat) (v : Value), ((as.flatMap fun v => if v.category = 2 then [v, Value.retAddr 0] else [v]) ++ List.replicate n (Value.retAddr 0))[i]? = some v → e_u v = false → ∀ j, (j + i, n_v G v) ∈ lv_args j (as.map (n_v G)) := by
  intro as
  induction as with
  | nil =>
    intro n i v h hu
    rw [List.flatMap_nil, List.nil_append] at h
    have := List.eq_of_mem_replicate (List.mem_of_getElem? h)
    rw [this] at hu
    cases hu
  | cons w as ih =>
    intro n i v h hu j
    have hc : (n_v G w).category = w.category := by
      cases w <;> first | rfl | exact hG
    rw [List.map_cons, lv_args, hc]
    rw [List.flatMap_cons] at h
    by_cases h2 : w.category = 2
    · rw [if_pos h2] at h
      rw [if_pos h2]
      match i, h with
      | 0, h =>
        cases h
        exact List.mem_cons_self
      | 1, h =>
        cases h
        cases hu
      | i + 2, h =>
        have := ih n i v h hu (j + 2)
        rw [show j + 2 + i = j + (i + 2) by omega] at this
        exact List.mem_cons_of_mem _ this
    · rw [if_neg h2] at h
      rw [if_neg h2]
      match i, h with
      | 0, h =>
        cases h
        exact List.mem_cons_self
      | i + 1, h =>
        have := ih n i v h hu (j + 1)
        rw [show j + 1 + i = j + (i + 1) by omega] at this
        exact List.mem_cons_of_mem _ this
theorem n_ent (G : n_G) (hG : G.2.2.2.category = 1) {as : List Value} {nL : Nat} (h : (e_ent nL as).length = nL) : n_L G nL (e_ent nL as) ((lg_sl (as.map (n_v G)) ++ List.replicate (nL - (lg_sl (as.map (n_v G))).length) Slot.unset).toArray) := by
  have hs := n_ent_sl G hG as
  have hl : (lg_sl (as.map (n_v G))).length ≤ nL := by
    rw [hs]
    unfold e_ent at h
    rw [List.length_append, List.length_replicate] at h
    omega
  obtain ⟨h1, h2, h3⟩ := lv_entry (as.map (n_v G)) hl
  refine ⟨h, h1, h2, fun i v hi hu => ?_⟩
  have := n_ent_args G hG as _ i v hi hu 0
  rw [Nat.zero_add] at this
  exact h3 _ this
section
variable {G : n_G} {X : e_X} {p : Program} {l : Launch} {e : Env} {R : Room} {s : State} {m : MethodId} {args : Array Value} {below : List Frame} {meth : Method} {c : Code} {g nL k0 s0 d : Nat} {Q : State → Prop}
theorem n_run (C : n_C G X p R s m args meth c g nL) (hg : g < 309) (hM : n_M l G X d (e_S g_P g_mx e_rq X d)) (hRf : d + 2 ≤ R.frames) (hRl : 8 + (20 + 11) + 100 * (d + 1) ≤ R.locals)
    {r : List Value} {mf : e_M} (h1 : mf.1.length ≤ 900) (h2 : mf.1.length ≤ R.cells + k0) (h3 : n_z mf ≤ R.slots + s0) (h4 : n_z mf ≤ 100000)
    (hT : ∀ (pc' : Nat) (i ri : Instr) (H' : Heap) (locs' : List Loc) (lsA' : Array Slot) (ls' : List Value) (cells' slots' : Nat), decode (g_b g) pc' = .ok (i, 1) → ((i = .ireturn ∧ ∃ v ty, r = [.int v] ∧ g_ret g = some ty ∧ narrow ty (.int v) = .int v) ∨ (i = .lreturn ∧ (∃ v, r = [.long v]) ∧ g_ret g = some .long) ∨ (i = .return_ ∧ r = [] ∧ g_ret g = none)) → n_R G s k0 s0 nL mf ls' H' locs' lsA' cells' slots' → W p l e R s m args below meth c H' locs' cells' slots' Q (F0 m pc' lsA' (r.map (n_v G)))) :
    ∀ (n lab : Nat) (mm : e_M) (ls st : List Value) (H : Heap) (locs : List Loc) (lsA : Array Slot) (cells slots : Nat), e_run g_P X (e_S g_P g_mx e_rq X d) g n lab ls st mm = some (r, mf) → n_R G s k0 s0 nL mm ls H locs lsA cells slots → W p l e R s m args below meth c H locs cells slots Q (F0 m lab lsA (st.map (n_v G))) := by
  intro n
  induction n with
  | zero => intro lab mm ls st H locs lsA cells slots he; cases he
  | succ n ih =>
    intro lab mm ls st H locs lsA cells slots he hr
    unfold e_run at he
    have hSz : ∀ c as m r m', e_S g_P g_mx e_rq X d c as m = some (r, m') → n_le m m' := fun c as m r m' h => e_S_sz d c as m r m' h
    exact n_blk C hM hRf hRl hSz (fun t a b m r m' h => e_run_sz hSz n t a b m r m' h) h1 h2 h3 h4 (fun t ls' st' mm' H' locs' lsA' cells' slots' hj hr' => ih t mm' ls' st' H' locs' lsA' cells' slots' hj hr') hT _ lab mm ls st H locs lsA cells slots he (k_chk_P hg lab) hr
end
theorem n_R_start {G : n_G} {s : State} {nL : Nat} {m1 : e_M} {ls : List Value} {lsA : Array Slot} (hsz : s.heap.size = n_b G + m1.1.length) (hP : va_P G.1 q_cl (n_w G m1) s.heap) (hL : n_L G nL ls lsA) (hok : n_ok m1) : n_R G s m1.1.length (n_z m1) nL m1 ls s.heap [] lsA 0 0 :=
  ⟨hsz, hP, va_S.rf, hL, Nat.zero_add _, Nat.zero_add _, hok⟩
/-- every method, at every depth -/
theorem n_meth (l : Launch) (G : n_G) (X : e_X) (hG : G.2.2.2.category = 1) : ∀ d, n_M l G X d (e_S g_P g_mx e_rq X d) := by
  intro d
  induction d with
  | zero => intro c as m1 r m2 hc hs; cases hs
  | succ d ih =>
    intro g as m1 r m2 hc hs h1 h4
    have hle := e_S_sz _ _ _ _ _ _ hs
    unfold e_S at hs
    split at hs
    · rename_i hrq
      unfold e_rq at hrq
      rw [Bool.and_eq_true, decide_eq_true_eq] at hrq
      obtain ⟨hrc, hlen⟩ := hrq
      obtain ⟨n, hn⟩ := e_go_some.mp hs
      refine ⟨hrc, ?_⟩
      obtain ⟨f1, f2, f3, f4, f5, f6, f7, f8, f9, f10⟩ := k_me_facts hc
      refine Met.ofW (ws' := lw_tbl.filter goodWord) (cc := g_b g) (maxL := g_mx g) (ret := g_ret g) f7 rfl ?_
      intro p e s m args below meth cd s₁ B hml hP
      obtain ⟨rfl, hsz, hPw, hK, hSs, hok⟩ := hP
      have hws : ∀ w ∈ g_w g, w.before (as.map (n_v G)).toArray s = true := atoms_spec (ws := g_w g) B.pre
      have hlocks : meth.locks = false := B.notSynchronized
      have C : n_C G X p (n_rm (d + 1) (m2.1.length - m1.1.length) (n_z m2 - n_z m1)) s m (as.map (n_v G)).toArray meth cd g (g_mx g) := by
        refine ⟨B.exec, B.bytes, hml, findClass_of_methodNamed B.named, fun w hw hq => ?_, hK, hSs, fun hy => ?_, by omega, by show 1 ≤ d + 1 + 1; omega, by show 100 ≤ 100 * (d + 1 + 1); omega⟩
        · rcases hq with hq | hq
          · exact hws w (List.mem_cons_of_mem _ (List.mem_filter.mpr ⟨hw, hq⟩))
          · exact va_Nw.use (by cases w <;> first | (cases hq; done) | rfl) (hSs.2.2.2.2.2.2.2.1 w hw hq)
        · rw [(name_of_methodNamed B.named B.method).1]
          exact hy
      rw [lg_entry_eq]
      refine n_run C (by omega) ih (Nat.le_refl _) (by show 8 + (20 + 11) + 100 * (d + 1) ≤ 100 * (d + 1 + 1); omega) h1 (by show m2.1.length ≤ m2.1.length - m1.1.length + m1.1.length; have := hle.1; omega) (by show n_z m2 ≤ n_z m2 - n_z m1 + n_z m1; have := hle.2; omega) h4 ?_ n 0 m1 (e_ent (g_mx g) as) [] s.heap [] _ 0 0 hn (n_R_start hsz hPw (n_ent G hG hlen) hok)
      intro pc' i ri H' locs' lsA' ls' cells' slots' hd hret hr'
      obtain ⟨q1, q2, q3, q4, q5, q6, q7⟩ := hr'
      have e5 : cells' = m2.1.length - m1.1.length := by omega
      have e6 : slots' = n_z m2 - n_z m1 := by omega
      subst e5
      subst e6
      have hq : ∀ (v : Option Value) (t : State), v.toList = r.map (n_v G) → t.heap = H' → n_Qc G r m2 (as.map (n_v G)).toArray s (.returned v) t := fun v t hv ht => ⟨⟨v, rfl, hv⟩, by rw [ht]; exact q1, by rw [ht]; exact q2, q7, q3.F ht⟩
      rcases hret with ⟨rfl, v, ty, rfl, hty, hnar⟩ | ⟨rfl, ⟨v, rfl⟩, hty⟩ | ⟨rfl, rfl, hty⟩
      · exact W.zret (Qc := n_Qc G _ m2) (ty := ty) B.exec B.bytes (B.returns.trans hty) hnar (fun t ht _ => hq _ t rfl ht) q3.2.2 hd hlocks
      · exact W.lret (Qc := n_Qc G _ m2) B.exec B.bytes (B.returns.trans hty) (fun t ht _ => hq _ t rfl ht) q3.2.2 hd hlocks
      · exact W.vret (Qc := n_Qc G _ m2) B.exec B.bytes (B.returns.trans hty) (fun t ht _ => hq _ t rfl ht) q3.2.2 hd hlocks
    · cases hs
