/-! THE START: what the law's entry gives -/
def j_ws : List Jvm.Cond := [.laysStatic "BridgeService" "ABOVE" "[I", .initialized "BridgeService", .laysStatic "java/lang/String" "COMPACT_STRINGS" "Z", .initialized "java/lang/String", .laysStatic "jdk/internal/util/Preconditions" "SIOOBE_FORMATTER" "Ljava/util/function/BiFunction;", .initialized "jdk/internal/util/Preconditions", .stringRef "BridgeService$Reader" 88 n_tx, .arrayOver (.object "BridgeService$Sheet"), .arrayOver (.object "BridgeService$Shelf")]
def j_pl : List Nat := [527, 103, 635, 115, 651, 117, 625, 374, 376]
theorem j_ws_ok : (List.range 9).all (fun i => decide (lw_tbl[j_pl.getD i 0]? = j_ws[i]?)) = true := by decide +kernel
theorem j_ws_mem {i : Nat} (h : i < 9) {w : Jvm.Cond} (hw : j_ws[i]? = some w) : w ∈ lw_tbl := by
  have h1 := of_decide_eq_true (List.all_eq_true.mp j_ws_ok i (List.mem_range.mpr h))
  rw [hw] at h1
  exact List.mem_of_getElem? h1
def j_A : Jvm.Term := .static "BridgeService" "ABOVE" "[I"
def j_s : Jvm.Term := .string "BridgeService$Reader" 88
def j_v : Jvm.Term := .field j_s "java/lang/String" "value" "[B"
def j_G : Jvm.Cond := .and given_1 narrow_1
theorem j_f0 : ∀ w ∈ [Jvm.Cond.arrayOf j_A .int, .eq (.length j_A) (.int 6), .eq (.static "java/lang/String" "COMPACT_STRINGS" "Z") (.int 1), .isRef (.static "jdk/internal/util/Preconditions" "SIOOBE_FORMATTER" "Ljava/util/function/BiFunction;"), .exactly j_s "java/lang/String", .eq (.field j_s "java/lang/String" "coder" "B") (.int 0), .arrayOf j_v .byte, .eq (.length j_v) (.int 98)], w ∈ flatC j_G := by
  have h : ([Jvm.Cond.arrayOf j_A .int, .eq (.length j_A) (.int 6), .eq (.static "java/lang/String" "COMPACT_STRINGS" "Z") (.int 1), .isRef (.static "jdk/internal/util/Preconditions" "SIOOBE_FORMATTER" "Ljava/util/function/BiFunction;"), .exactly j_s "java/lang/String", .eq (.field j_s "java/lang/String" "coder" "B") (.int 0), .arrayOf j_v .byte, .eq (.length j_v) (.int 98)] : List Jvm.Cond).all (fun w => decide (w ∈ flatC j_G)) = true := by decide +kernel
  intro w hw
  exact of_decide_eq_true (List.all_eq_true.mp h w hw)
theorem j_f1 : (List.range 6).all (fun j => decide (Jvm.Cond.eq (.elem j_A (.int (Int32.ofNat j))) (.int (e_abv j)) ∈ flatC j_G)) = true := by decide +kernel
theorem j_f2 : (List.range 98).all (fun j => decide (Jvm.Cond.eq (.elem j_v (.int (Int32.ofNat j))) (.int (([e_nms].getD 0 []).getD j 0)) ∈ flatC j_G)) = true := by decide +kernel
theorem j_prim {s : State} {args : Array Value} {ty : FieldType} (hp : ∀ C, ty ≠ .object C) (h : (Jvm.Cond.arrayClass ty).before args s = true) : ∃ cA : ClassId, ArrOfT s cA ty ∧ va_RA s cA ty := by
  obtain ⟨cA, kA, comp, h1, h2, h3⟩ := Cond.arrayClass_spec h
  refine ⟨cA, fun n z => ⟨fun k h => (by cases h), kA, h2, comp, h3⟩, ?_⟩
  cases ty <;> first | exact h1 | exact absurd rfl (hp _)
theorem j_obj {s : State} {args : Array Value} {C : String} (h : (Jvm.Cond.arrayOver (.object C)).before args s = true) : ∃ cA : ClassId, ArrOfT s cA (.object C) ∧ va_RA s cA (.object C) := by
  obtain ⟨comp, cA, kA, h1, h2, h3, h4, h5⟩ := Cond.arrayOver_spec h
  exact ⟨cA, fun n z => ⟨fun k h => (by cases h), kA, h3, comp, h4⟩, kA, comp, h3, h4, h1, h5⟩
theorem j_start {p : Program} {s : State} {m : MethodId} {meth : Method} {c : Code} {b L : Nat} {xs : Nat → Int32} (C0 : lw_At p s m meth c b L xs) : ∃ G : n_G, G.2.2.2.category = 1 ∧ n_b G = s.heap.size ∧ G.2.2.1 1 = b ∧ va_K G.1 q_cl (n_t G) s ∧ n_S G (L, xs) s := by
  obtain ⟨a1, a2, a3, a4, a5, hts, hX, hb, a9, hgv⟩ := C0
  have hs := flat_of_before _ hgv
  have hw : ∀ {i : Nat} (w : Jvm.Cond), i < 9 → j_ws[i]? = some w → w.before #[Value.ref b] s = true := fun w hi h => hts w (j_ws_mem hi h)
  have hA : ∀ a : Nat, a < s.heap.size → ¬ s.heap.size ≤ a := fun a h => by omega
  -- classes
  have hk : ∀ k : Nat, ∃ q : ClassId × (Nat → Nat), k < 11 → u_Kn s (g_cn k) (q_T k) (e_nf k) q.1 q.2 := by
    intro k
    by_cases h : k < 11
    · have h1 := List.all_eq_true.mp n_cls_ok k (List.mem_range.mpr h)
      rw [Bool.and_eq_true] at h1
      obtain ⟨cC, iS, h2⟩ := u_known (ws := lw_tbl) (args := #[Value.ref b]) hts (fun w hw => (q_cl_ws h hw).1) (hts _ (k_at_mem h1.1).1)
      exact ⟨(cC, iS), fun _ => h2⟩
    · exact ⟨(0, fun _ => 0), fun q => absurd q h⟩
  obtain ⟨dd, hdd⟩ := Classical.axiomOfChoice hk
  obtain ⟨cI, hI1, hI2⟩ := j_prim (ty := .int) (fun C h => by cases h) (hts _ (n_ac _ (by simp)).1)
  obtain ⟨cC, hC1, hC2⟩ := j_prim (ty := .char) (fun C h => by cases h) (hts _ (n_ac _ (by simp)).1)
  obtain ⟨cJ, hJ1, hJ2⟩ := j_prim (ty := .long) (fun C h => by cases h) (hts _ (n_ac _ (by simp)).1)
  have hOS := hw (i := 7) _ (by decide) rfl
  have hOF := hw (i := 8) _ (by decide) rfl
  obtain ⟨cS, hS1, hS2⟩ := j_obj hOS
  obtain ⟨cF, hF1, hF2⟩ := j_obj hOF
  -- statics
  obtain ⟨tA, hA1, hA2⟩ := va_Tof (args := #[Value.ref b]) (s := s) (tm := j_A) (ty := .int) (N := 6) (f := fun j => .int (e_abv j)) (A := fun q => s.heap.size ≤ q) (by decide) (hs _ (j_f0 _ (by simp))) (va_eqt (hs _ (j_f0 (.eq (.length j_A) (.int 6)) (by simp)))) (fun j hj => va_eqt (hs _ (of_decide_eq_true (List.all_eq_true.mp j_f1 j (List.mem_range.mpr hj))))) hA
  have hZ1 := va_Zref (hw (i := 0) _ (by decide) rfl) (hw (i := 1) _ (by decide) rfl) hA1 hA
  have hZ2 := va_Zof (hw (i := 2) _ (by decide) rfl) (hw (i := 3) _ (by decide) rfl) (va_eqi (hs (.eq (.static "java/lang/String" "COMPACT_STRINGS" "Z") (.int 1)) (j_f0 _ (by simp)))) hA
  have hZ3 := va_Zqof (hw (i := 4) _ (by decide) rfl) (hw (i := 5) _ (by decide) rfl) (hs _ (j_f0 (.isRef (.static "jdk/internal/util/Preconditions" "SIOOBE_FORMATTER" "Ljava/util/function/BiFunction;")) (by simp))) hA
  have hZ3' : ∃ vF : Value, vF.category = 1 ∧ va_Z "jdk/internal/util/Preconditions" "SIOOBE_FORMATTER" "Ljava/util/function/BiFunction;" vF (fun q => s.heap.size ≤ q) s s.heap := by
    rcases hZ3 with h | ⟨t, h⟩
    · exact ⟨_, rfl, h⟩
    · exact ⟨_, rfl, h⟩
  obtain ⟨vF, hv1, hv2⟩ := hZ3'
  obtain ⟨adK, adV, hT1, hT2⟩ := vk_Sof (args := #[Value.ref b]) (s := s) (N := 1) (tm := fun _ => j_s) (len := [98]) (byt := [e_nms]) (A := fun q => s.heap.size ≤ q)
    (fun i hi => by have : i = 0 := by omega
                    subst this; decide)
    (fun i hi => hs _ (j_f0 _ (by simp))) (fun i hi => hs _ (j_f0 (.eq (.field j_s "java/lang/String" "coder" "B") (.int 0)) (by simp))) (fun i hi => hs _ (j_f0 (.arrayOf j_v .byte) (by simp)))
    (fun i hi => by have : i = 0 := by omega
                    subst this
                    exact hs (.eq (.length j_v) (.int 98)) (j_f0 _ (by simp)))
    (fun i hi j hj => by
      have : i = 0 := by omega
      subst this
      exact hs _ (of_decide_eq_true (List.all_eq_true.mp j_f2 j (List.mem_range.mpr hj))))
    (fun i j hi hj hij => by omega) hA
  have hR := vk_R.of (hw (i := 6) _ (by decide) rfl) (hT2 0 (by decide))
  refine ⟨((fun k => (dd k).1, fun k => (dd k).2), (fun k => if k = 100 then cI else if k = 101 then cC else if k = 102 then cJ else if k = 206 then cS else cF), (fun k => if k = 0 then s.heap.size else if k = 1 then b else if k = 2 then tA else if k = 3 then adK 0 else adV 0), vF), hv1, rfl, rfl, ⟨fun k q hq => ?_, fun k q hq => ?_⟩, ?_⟩
  · have hlt : k < 11 := by
      have := (List.getElem?_eq_some_iff.mp hq).1
      simpa using this
    rw [q_cl_at hlt] at hq
    cases hq
    exact hdd k hlt
  · unfold n_t at hq
    match k, hq with
    | 0, hq => cases hq; exact ⟨hI1, hI2⟩
    | 1, hq => cases hq; exact ⟨hC1, hC2⟩
    | 2, hq => cases hq; exact ⟨hJ1, hJ2⟩
    | 3, hq => cases hq; exact ⟨hS1, hS2⟩
    | 4, hq => cases hq; exact ⟨hF1, hF2⟩
    | n + 5, hq => cases hq
  · refine ⟨?_, hZ1, hA2, hZ2, hv2, hR, ?_, fun w hw hn => va_Nw.of (by cases w <;> first | (cases hn; done) | rfl) (hts w hw), va_AO.of hOS, va_AO.of hOF⟩
    · obtain ⟨scr, x1, x2, x3, x4, x5⟩ := hX
      exact ⟨scr, x1, x2, x3, Nat.le_of_eq x4.symm, by rw [x4], x5, by show ¬ s.heap.size ≤ b; omega⟩
    · refine ⟨fun i hi => ?_, fun i j hi hj _ => by omega⟩
      have : i = 0 := by omega
      subst this
      exact hT1.1 0 hi
/-- what is asked of the evaluator: for every script of at most 2560 ints the law's code answers 1, in a small memory -/
def j_goal : Prop := ∀ (L : Nat) (xs : Nat → Int32), L ≤ 2560 → ∃ (d : Nat) (mf : e_M), d ≤ 800 ∧ mf.1.length ≤ 900 ∧ n_z mf ≤ 100000 ∧ e_go g_P (L, xs) (e_S g_P g_mx e_rq (L, xs) d) 308 0 (e_ent 4 [.ref 1000]) [] ([], fun _ _ => 0, fun _ _ => 0, fun _ _ => 0) = some ([.int 1], mf)
theorem whole_of (hE : j_goal) {p : Program} {e : Env} {s : State} {m : MethodId} {below : List Frame} {meth : Method} {c : Code} (l : Launch) {b L : Nat} {xs : Nat → Int32} (hL : L ≤ 2560) (C0 : lw_At p s m meth c b L xs) : W p l e room_1 s m #[Value.ref b] below meth c s.heap [] 0 0 (lw_Z below #[Value.ref b] s) (entryFrame m ([Value.ref b] : List Value).toArray 4) := by
  obtain ⟨d, mf, hd, hm1, hm2, hgo⟩ := hE L xs hL
  obtain ⟨G, hG, hbG, hb1, hK, hSs⟩ := j_start C0
  obtain ⟨a1, a2, a3, a4, a5, hts, hX, hb, a9, hgv⟩ := C0
  obtain ⟨n, hn⟩ := e_go_some.mp hgo
  have C : n_C G (L, xs) p room_1 s m #[Value.ref b] meth c 308 4 := ⟨a1, a2, a4, a5, fun w hw _ => hts w hw, hK, hSs, fun h => absurd h (by decide), by omega, by decide, by decide⟩
  have hent : n_L G 4 (e_ent 4 [.ref 1000]) ((lg_sl ([Value.ref 1000].map (n_v G)) ++ List.replicate (4 - (lg_sl ([Value.ref 1000].map (n_v G))).length) Slot.unset).toArray) := n_ent G hG rfl
  have hv : ([Value.ref 1000].map (n_v G)) = [Value.ref b] := by
    show [Value.ref (n_a G 1000)] = _
    have : n_a G 1000 = b := hb1
    rw [this]
  rw [hv] at hent
  rw [lg_entry_eq]
  refine n_run C (by decide) (n_meth l G (L, xs) hG d) (k0 := 0) (s0 := 0) (r := [.int 1]) (mf := mf) ?_ ?_ hm1 ?_ ?_ hm2 ?_ n 0 ([], fun _ _ => 0, fun _ _ => 0, fun _ _ => 0) (e_ent 4 [.ref 1000]) [] s.heap [] _ 0 0 hn ⟨by rw [hbG]; rfl, fun k q hk => (by cases hk), va_S.rf, hent, rfl, rfl, fun o q h => (by cases h), fun o k h => absurd h (Nat.not_lt_zero _)⟩
  · show d + 2 ≤ 2048; omega
  · show 8 + (20 + 11) + 100 * (d + 1) ≤ 84000; omega
  · show mf.1.length ≤ 600000 + 0; omega
  · show n_z mf ≤ 7302250 + 0; omega
  · intro pc' i ri H' locs' lsA' ls' cells' slots' hdg hret hr'
    obtain ⟨q1, q2, q3, q4, q5, q6, q7⟩ := hr'
    rcases hret with ⟨rfl, v, ty, hv, hty, hnar⟩ | ⟨-, ⟨v, hv⟩, -⟩ | ⟨-, hv, -⟩
    · refine va_forget (fun q hq => ?_) (W.widen (k := 600000) (n := 7302250) (by omega) (by omega) ?_)
      · have := q3.2.2 q hq
        show s.heap.size ≤ q.base
        rw [← hbG]
        exact this
      · exact lw_ret a1 a2 a3 a9 hdg
    · cases hv
    · cases hv
