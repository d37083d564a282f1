/-! NEW CELLS, special references, copies -/
def n_pl1 : List Nat := [378, 136, 316, 263, 168, 356, 404, 423, 130, 122, 1218]
def n_pl2 : List Nat := [110, 105, 108, 107, 106, 109, 111, 112, 104, 103, 113]
theorem n_cls_ok : (List.range 11).all (fun c => k_at (n_pl1.getD c 0) (.instantiable (g_cn c) (e_nf c)) && k_at (n_pl2.getD c 0) (.initialized (g_cn c))) = true := by decide +kernel
theorem n_ac : ∀ w ∈ [Jvm.Cond.arrayClass .int, .arrayClass .char, .arrayClass .long], w ∈ lw_tbl ∧ (goodWord w = true ∨ k_nest w = true) := by
  intro w hw
  simp only [List.mem_cons, List.not_mem_nil, or_false] at hw
  rcases hw with rfl | rfl | rfl
  · exact k_at_mem (p := 166) (by decide +kernel)
  · exact k_at_mem (p := 1341) (by decide +kernel)
  · exact k_at_mem (p := 422) (by decide +kernel)
theorem n_cp : ∀ w ∈ [Jvm.Cond.native arraycopyName, .static arraycopyName, .initialized "java/lang/System"], w ∈ lw_tbl ∧ (goodWord w = true ∨ k_nest w = true) := by
  intro w hw
  simp only [List.mem_cons, List.not_mem_nil, or_false] at hw
  rcases hw with rfl | rfl | rfl
  · exact k_at_mem (p := 761) (by decide +kernel)
  · exact k_at_mem (p := 760) (by decide +kernel)
  · exact k_at_mem (p := 119) (by decide +kernel)
section
variable {G : n_G} {X : e_X} {p : Program} {l : Launch} {e : Env} {R : Room} {s : State} {m : MethodId} {args : Array Value} {below : List Frame} {meth : Method} {c : Code} {g nL k0 s0 : Nat}
/-- the relation behind a new cell -/
theorem n_R_push {mm mm' : e_M} {ls : List Value} {H H1 : Heap} {locs : List Loc} {lsA : Array Slot} {cells slots k z : Nat} (hr : n_R G s k0 s0 nL mm ls H locs lsA cells slots) (hk : n_kd (k, z)) (h1 : mm'.1 = mm.1 ++ [(k, z)]) (hi : ∀ a b, a < mm.1.length → mm'.2.1 a b = mm.2.1 a b) (hj : ∀ a b, a < mm.1.length → mm'.2.2.1 a b = mm.2.2.1 a b) (hx : ∀ a b, a < mm.1.length → mm'.2.2.2 a b = mm.2.2.2 a b) (hx2 : ∀ b, mm'.2.2.2 mm.1.length b ≤ mm.1.length + 1)
    (hz : H1.size = n_b G + mm.1.length + 1) (oq : ∀ a : Nat, a < n_b G + mm.1.length → H1[a]? = H[a]?) (hat : va_at G.1 q_cl (n_b G + mm.1.length, n_cell G mm' mm.1.length k z) H1) : n_R G s k0 s0 nL mm' ls H1 locs lsA (cells + 1) (slots + z) := by
  obtain ⟨r1, r2, r3, r4, r5, r6, r7, r8⟩ := hr
  have hl : mm'.1.length = mm.1.length + 1 := by rw [h1]; simp
  refine ⟨by rw [hz, hl]; omega, ?_, ⟨by have := r3.1; omega, fun a ha hna => ?_, r3.2.2⟩, r4, by omega, ?_, fun a b h => ?_, fun a b ha => ?_⟩
  · rw [n_w_push h1 hi hj hx]
    refine (r2.kept fun a q hq => oq q.1 ?_).app fun a q hq => ?_
    · have := (r2 a q hq).lt
      omega
    · have ha : a < 1 := (List.getElem?_eq_some_iff.mp hq).1
      rw [show a = 0 by omega] at hq
      cases hq
      exact hat
  · rw [oq a (by have := r3.1; omega)]
    exact r3.2.1 a ha hna
  · unfold n_z at r6 ⊢
    rw [h1, List.map_append, List.sum_append]
    simp
    omega
  · rw [h1] at h
    by_cases ha : a < mm.1.length
    · rw [List.getElem?_append_left ha] at h
      exact r7 a b h
    · rw [List.getElem?_append_right (by omega)] at h
      have hb : a - mm.1.length < 1 := (List.getElem?_eq_some_iff.mp h).1
      rw [show a - mm.1.length = 0 by omega] at h
      cases h
      exact hk
  · rw [hl] at ha ⊢
    by_cases e : a = mm.1.length
    · rw [e]; exact hx2 b
    · rw [hx a b (by omega)]
      have := r8 a b (by omega)
      omega
theorem n_new {k : Nat} (C : n_C G X p R s m args meth c g nL) : n_Q G X p l e R s m args below meth c g nL k0 s0 (.new k) := by
  intro i pc len mm mm' ls ls' st st' H locs lsA cells slots Q hd hk he hr h1 h2 h3 h4 kk
  replace he : some (ls, Value.ref mm.1.length :: st, ((mm.1 ++ [(k, e_nf k)], (fun a b => if a = mm.1.length then 0 else mm.2.1 a b), mm.2.2.1, (fun a b => if a = mm.1.length then 0 else mm.2.2.2 a b)) : e_M)) = some (ls', st', mm') := he
  simp only [Option.some.injEq, Prod.mk.injEq] at he
  obtain ⟨rfl, rfl, hmm⟩ := he
  simp only [k_ok] at hk
  split at hk
  · rename_i x
    simp only [Bool.and_eq_true, decide_eq_true_eq] at hk
    obtain ⟨rfl, hkc⟩ := hk
    obtain ⟨q, hq⟩ := k_map1 hkc
    have hc0 := k_look k_c_ok (by decide) hq
    simp only [Bool.and_eq_true, decide_eq_true_eq] at hc0
    obtain ⟨hc1, hk11⟩ := hc0
    have hc2 := List.all_eq_true.mp n_cls_ok k (List.mem_range.mpr hk11)
    simp only [Bool.and_eq_true] at hc2
    have hKn := C.2.2.2.2.2.1.1 k _ (q_cl_at hk11)
    have e1 : mm'.1 = mm.1 ++ [(k, e_nf k)] := by rw [← hmm]
    have e2 : mm'.1.length = mm.1.length + 1 := by rw [e1]; simp
    have e3 : n_z mm' = n_z mm + e_nf k := by
      unfold n_z
      rw [e1, List.map_append, List.sum_append]
      simp
    have hr5 := hr.2.2.2.2.1
    have hr6 := hr.2.2.2.2.2.1
    refine W.newcK C.1 C.2.1 C.2.2.2.1 (n_good C (k_at_mem hc1)) (n_good C (k_at_mem hc2.1)) (n_good C (k_at_mem hc2.2)) rfl hd (by omega) (by omega) hKn.2.1 hr.1 fun H1 kC hkC f1 f2 f3 => ?_
    have hres := kk H1 locs lsA (cells + 1) (slots + e_nf k) (n_R_push hr (Or.inl ⟨hk11, rfl⟩) e1 (fun a b ha => by rw [← hmm]; exact if_neg (by omega)) (fun a b ha => by rw [← hmm]) (fun a b ha => by rw [← hmm]; exact if_neg (by omega)) (fun b => by rw [← hmm]; dsimp only; rw [if_pos rfl]; omega) f2 f3 ?_)
    · show W p l e R s m args below meth c H1 locs (cells + 1) (slots + e_nf k) Q (F0 m (pc + 3) lsA (Value.ref (n_b G + mm.1.length) :: st.map (n_v G)))
      have ha : n_v G (.ref mm.1.length) = .ref (n_b G + mm.1.length) := by
        rw [n_v, n_R_lt (mm := mm') (q := (k, e_nf k)) (by rw [e1]; simp) h1]
      rw [← ha]
      exact hres
    · unfold n_cell
      rw [if_pos (by omega)]
      refine ⟨_, q_cl_at hk11, (u_born (q_ty k) (n_hts C hk11) (fun _ h => h) hKn hkC f1 (fun j hj => (q_tyk hk11 hj).1)).to fun j hj => ?_⟩
      have hv : vp_V ((List.range (e_nf k)).map fun j => if q_rf k j then va_rf (n_o G (mm'.2.2.2 mm.1.length j)) else .int (mm'.2.1 mm.1.length j)) j = if q_rf k j then va_rf (n_o G (mm'.2.2.2 mm.1.length j)) else .int (mm'.2.1 mm.1.length j) := by
        simp [vp_V, List.getD_eq_getElem?_getD, List.getElem?_map, List.getElem?_range hj]
      rw [hv, ← hmm]
      dsimp only
      rw [if_pos rfl, if_pos rfl]
      obtain ⟨-, t2, t3, -⟩ := q_tyk hk11 hj
      by_cases hrf : q_rf k j = true
      · rw [if_pos hrf]
        have t4 := (t2 hrf).2
        generalize q_ty k j = ty at t4
        cases ty <;> first | (cases t4; done) | rfl
      · rw [if_neg hrf, t3 (by simpa using hrf)]
        by_cases hb : e_bool (k * 64 + j) = true
        · rw [if_pos hb]; rfl
        · rw [if_neg hb]; rfl
  · cases hk
theorem n_newarr {a : ArrayType} (C : n_C G X p R s m args meth c g nL) : n_Q G X p l e R s m args below meth c g nL k0 s0 (.newarray a) := by
  intro i pc len mm mm' ls ls' st st' H locs lsA cells slots Q hd hk he hr h1 h2 h3 h4 kk
  simp only [k_ok, Bool.and_eq_true, decide_eq_true_eq] at hk
  obtain ⟨rfl, rfl⟩ := hk
  simp only [e_st] at he
  have gen : ∀ (kd : Nat) (ty : FieldType) (j : Int32) (r : List Value), newarray.typeOf a = ty → (Jvm.Cond.arrayClass ty ∈ [Jvm.Cond.arrayClass .int, .arrayClass .char, .arrayClass .long]) → n_kd (kd, j.toNatClampNeg) → ¬ j < 0 → componentBytes ty ≤ 8 → (∃ t0 : Nat, (n_t G)[t0]? = some (G.2.1 kd, ty)) → (∀ cA, va_RA s cA ty → s.vm.findClass ("[" ++ ty.toString) = some cA) → st = .int j :: r → ls' = ls → st' = .ref mm.1.length :: r → mm'.1 = mm.1 ++ [(kd, j.toNatClampNeg)] → (∀ a b, a < mm.1.length → mm'.2.1 a b = mm.2.1 a b) → (∀ a b, a < mm.1.length → mm'.2.2.1 a b = mm.2.2.1 a b) → (∀ a b, a < mm.1.length → mm'.2.2.2 a b = mm.2.2.2 a b) → (∀ b, mm'.2.2.2 mm.1.length b ≤ mm.1.length + 1) → (∀ H1 : Heap, H1[n_b G + mm.1.length]? = some (arrV (G.2.1 kd) j.toNatClampNeg (fun _ => defaultValue ty)) → va_at G.1 q_cl (n_b G + mm.1.length, n_cell G mm' mm.1.length kd j.toNatClampNeg) H1) → W p l e R s m args below meth c H locs cells slots Q (F0 m pc lsA (st.map (n_v G))) := by
    intro kd ty j r hty hw hkd hj hcb ⟨t0, ht0⟩ hRA est els est' e1 gi gj gx gx2 hat
    subst est
    subst els
    subst est'
    have e2 : mm'.1.length = mm.1.length + 1 := by rw [e1]; simp
    have e3 : n_z mm' = n_z mm + j.toNatClampNeg := by
      unfold n_z
      rw [e1, List.map_append, List.sum_append]
      simp
    have hr5 := hr.2.2.2.2.1
    have hr6 := hr.2.2.2.2.2.1
    have hcb2 : j.toNatClampNeg * componentBytes ty ≤ 100000 * 8 := Nat.mul_le_mul (by omega) hcb
    refine va_newaK C.1 C.2.1 (by rw [hty]; exact n_good C (n_ac _ hw)) (g := F0 m pc lsA (List.map (n_v G) (Value.int j :: r))) rfl hd (n := j) (rest := List.map (n_v G) r) rfl hj rfl (by rw [hty]; omega) (by omega) (by omega) hr.1 fun H1 cA f1 f2 f3 f4 f5 => ?_
    have hcA : cA = G.2.1 kd := by
      rw [hty] at f5
      exact Option.some.inj (f5.symm.trans (hRA _ (C.2.2.2.2.2.1.2 t0 _ ht0).2))
    subst hcA
    rw [hty] at f1
    have hres := kk H1 locs lsA (cells + 1) (slots + j.toNatClampNeg) (n_R_push hr hkd e1 gi gj gx gx2 f2 f3 (hat H1 f1))
    show W p l e R s m args below meth c H1 locs (cells + 1) (slots + j.toNatClampNeg) Q (F0 m (pc + 2) lsA (Value.ref (n_b G + mm.1.length) :: List.map (n_v G) r))
    have ha : n_v G (.ref mm.1.length) = .ref (n_b G + mm.1.length) := by
      rw [n_v, n_R_lt (mm := mm') (q := (kd, j.toNatClampNeg)) (by rw [e1]; simp) h1]
    rw [← ha]
    exact hres
  have hx2 : ∀ b, mm.2.2.2 mm.1.length b ≤ mm.1.length + 1 → True := fun _ _ => trivial
  split at he
  · rename_i j r
    split at he
    · cases he
    · rename_i hj
      split at he
      · simp only [Option.some.injEq, Prod.mk.injEq] at he
        obtain ⟨rfl, rfl, hmm⟩ := he
        refine gen 100 .int j r rfl (by simp) (Or.inr (Or.inl rfl)) hj (by decide) ⟨0, rfl⟩ (fun cA h => h) rfl rfl rfl (by rw [← hmm]; rfl) (fun a b ha => by rw [← hmm]; exact if_neg (by omega)) (fun a b ha => by rw [← hmm]) (fun a b ha => by rw [← hmm]; exact if_neg (by omega)) (fun b => by rw [← hmm]; dsimp only; rw [if_pos rfl]; omega) fun H1 f1 => ?_
        show H1[_]? = some (vp_cell _ _)
        rw [f1, ← hmm]
        unfold vp_cell
        dsimp only
        simp only [if_true]
        rfl
      · simp only [Option.some.injEq, Prod.mk.injEq] at he
        obtain ⟨rfl, rfl, hmm⟩ := he
        refine gen 101 .char j r rfl (by simp) (Or.inr (Or.inr (Or.inl rfl))) hj (by decide) ⟨1, rfl⟩ (fun cA h => h) rfl rfl rfl (by rw [← hmm]; rfl) (fun a b ha => by rw [← hmm]; exact if_neg (by omega)) (fun a b ha => by rw [← hmm]) (fun a b ha => by rw [← hmm]; exact if_neg (by omega)) (fun b => by rw [← hmm]; dsimp only; rw [if_pos rfl]; omega) fun H1 f1 => ?_
        show H1[_]? = some (vp_cell _ _)
        rw [f1, ← hmm]
        unfold vp_cell
        dsimp only
        simp only [if_true]
        rfl
      · simp only [Option.some.injEq, Prod.mk.injEq] at he
        obtain ⟨rfl, rfl, hmm⟩ := he
        refine gen 102 .long j r rfl (by simp) (Or.inr (Or.inr (Or.inr (Or.inl rfl)))) hj (by decide) ⟨2, rfl⟩ (fun cA h => h) rfl rfl rfl (by rw [← hmm]; rfl) (fun a b ha => by rw [← hmm]) (fun a b ha => by rw [← hmm]; exact if_neg (by omega)) (fun a b ha => by rw [← hmm]; exact if_neg (by omega)) (fun b => by rw [← hmm]; dsimp only; rw [if_pos rfl]; omega) fun H1 f1 => ?_
        show H1[_]? = some (vp_cell _ _)
        rw [f1, ← hmm]
        unfold vp_cell
        dsimp only
        simp only [if_true]
        rfl
      · cases he
  · cases he
theorem n_anew {k : Nat} (C : n_C G X p R s m args meth c g nL) : n_Q G X p l e R s m args below meth c g nL k0 s0 (.anewarray k) := by
  intro i pc len mm mm' ls ls' st st' H locs lsA cells slots Q hd hk he hr h1 h2 h3 h4 kk
  simp only [e_st] at he
  split at he
  · rename_i j r
    split at he
    · cases he
    · rename_i hj
      simp only [Option.some.injEq, Prod.mk.injEq] at he
      obtain ⟨rfl, rfl, hmm⟩ := he
      simp only [k_ok] at hk
      split at hk
      · rename_i x
        simp only [Bool.and_eq_true, Bool.or_eq_true, decide_eq_true_eq] at hk
        obtain ⟨⟨rfl, hkc⟩, h67⟩ := hk
        obtain ⟨q, hq⟩ := k_map1 hkc
        have hc0 := k_look k_c_ok (by decide) hq
        simp only [Bool.and_eq_true, decide_eq_true_eq] at hc0
        obtain ⟨hc1, hk11⟩ := hc0
        have e1 : mm'.1 = mm.1 ++ [(200 + k, j.toNatClampNeg)] := by rw [← hmm]; rfl
        have e2 : mm'.1.length = mm.1.length + 1 := by rw [e1]; simp
        have e3 : n_z mm' = n_z mm + j.toNatClampNeg := by
          unfold n_z
          rw [e1, List.map_append, List.sum_append]
          simp
        have hr5 := hr.2.2.2.2.1
        have hr6 := hr.2.2.2.2.2.1
        obtain ⟨hao, t0, ht0, hkd⟩ : va_AO (g_cn k) s ∧ ∃ t0 : Nat, (n_t G)[t0]? = some (G.2.1 (200 + k), FieldType.object (g_cn k)) ∧ n_kd (200 + k, j.toNatClampNeg) := by
          rcases h67 with rfl | rfl
          · exact ⟨C.2.2.2.2.2.2.1.2.2.2.2.2.2.2.2.1, 3, rfl, Or.inr (Or.inr (Or.inr (Or.inr (Or.inl rfl))))⟩
          · exact ⟨C.2.2.2.2.2.2.1.2.2.2.2.2.2.2.2.2, 4, rfl, Or.inr (Or.inr (Or.inr (Or.inr (Or.inr rfl))))⟩
        refine W.anew C.1 C.2.1 C.2.2.2.1 (n_good C (k_at_mem hc1)) (va_AO.use hao) (g := F0 m pc lsA (List.map (n_v G) (Value.int j :: r))) rfl hd (n := j) (rest := List.map (n_v G) r) rfl hj (by omega) (by omega) (by omega) fun cA kA comp f1 f2 f3 f4 => ?_
        have hcA : cA = G.2.1 (200 + k) := by
          obtain ⟨kA', comp', q1, q2, q3, q4⟩ := (C.2.2.2.2.2.1.2 t0 _ ht0).2
          exact Option.some.inj (f1.symm.trans q4)
        subst hcA
        have hz := hr.1
        have hres := kk (H.push { cls := G.2.1 (200 + k), slots := Array.replicate j.toNatClampNeg .null, vm := .none }) locs lsA (cells + 1) (slots + j.toNatClampNeg) (n_R_push hr hkd e1 (fun a b ha => by rw [← hmm]) (fun a b ha => by rw [← hmm]) (fun a b ha => by rw [← hmm]; exact if_neg (by omega)) (fun b => by rw [← hmm]; dsimp only; rw [if_pos rfl]; omega) (by rw [Array.size_push, hz]) (fun a ha => by rw [Array.getElem?_push, if_neg (by omega)]) ?_)
        · show W p l e R s m args below meth c _ locs (cells + 1) (slots + j.toNatClampNeg) Q (F0 m (pc + 3) lsA (Value.ref H.size :: List.map (n_v G) r))
          have ha : n_v G (.ref mm.1.length) = .ref H.size := by
            rw [n_v, n_R_lt (mm := mm') (q := (200 + k, j.toNatClampNeg)) (by rw [e1]; simp) h1, hz]
          rw [← ha]
          exact hres
        · unfold n_cell
          rw [if_neg (by omega), if_neg (by omega), if_neg (by omega), ← hmm]
          show (H.push _)[_]? = some (vp_cell _ _)
          rw [← hz, Array.getElem?_push_size, vp_cell_q, arrV_new]
          dsimp only
          simp only [if_true]
          rfl
      · cases hk
  · cases he
theorem n_getstatic {q : Nat} (C : n_C G X p R s m args meth c g nL) : n_Q G X p l e R s m args below meth c g nL k0 s0 (.getstatic q) := by
  intro i pc len mm mm' ls ls' st st' H locs lsA cells slots Q hd hk he hr h1 h2 h3 h4 kk
  have C7 := C.2.2.2.2.2.2.1
  simp only [k_ok] at hk
  split at hk
  · rename_i x
    simp only [Bool.and_eq_true, decide_eq_true_eq] at hk
    obtain ⟨⟨rfl, hq3⟩, hkg⟩ := hk
    obtain ⟨⟨hh, w⟩, hq⟩ := k_map1 hkg
    have hw := n_good C (k_at_mem (k_look k_g_ok (by decide) hq))
    have hho : hh = "" := by
      have h0 : (List.range 16).all (fun o => (k_gl.getD o []).all fun e => decide (e.2.2.1 = "")) = true := by decide +kernel
      exact of_decide_eq_true (k_look h0 (by decide) hq)
    subst hho
    simp only [if_true] at hw
    have : q = 0 ∨ q = 1 ∨ q = 2 := by omega
    rcases this with rfl | rfl | rfl
    · have he : some (ls, Value.ref 1001 :: st, mm) = some (ls', st', mm') := he
      cases he
      exact va_gets C.1 C.2.1 C7.2.1 hr.2.2.1 C.2.2.2.1 hw (fun _ h => h) hd (kk _ _ _ _ _ hr)
    · have he : some (ls, Value.int 1 :: st, mm) = some (ls', st', mm') := he
      cases he
      exact va_gets C.1 C.2.1 C7.2.2.2.1 hr.2.2.1 C.2.2.2.1 hw (fun _ h => h) hd (kk _ _ _ _ _ hr)
    · have he : some (ls, Value.retAddr 1 :: st, mm) = some (ls', st', mm') := he
      cases he
      exact va_gets C.1 C.2.1 C7.2.2.2.2.1 hr.2.2.1 C.2.2.2.1 hw (fun _ h => h) hd (kk _ _ _ _ _ hr)
  · rename_i x
    simp only [Bool.and_eq_true, decide_eq_true_eq] at hk
    obtain ⟨⟨⟨rfl, rfl⟩, hg⟩, rfl⟩ := hk
    have he : some (ls, Value.ref 1002 :: st, mm) = some (ls', st', mm') := he
    cases he
    have ho := C.2.2.2.1
    rw [hg] at ho
    exact va_ldcS C.1 C.2.1 ho C7.2.2.2.2.2.1 hd (kk _ _ _ _ _ hr)
  · cases hk
theorem n_faload (C : n_C G X p R s m args meth c g nL) : n_Q G X p l e R s m args below meth c g nL k0 s0 .faload := by
  intro i pc len mm mm' ls ls' st st' H locs lsA cells slots Q hd hk he hr h1 h2 h3 h4 kk
  simp only [k_ok, Bool.and_eq_true, decide_eq_true_eq] at hk
  obtain ⟨rfl, rfl⟩ := hk
  simp only [e_st] at he
  split at he
  · split at he
    · rename_i hin
      simp only [Bool.and_eq_true, decide_eq_true_eq] at hin
      obtain ⟨rfl, hin⟩ := hin
      cases he
      exact va_ti C.1 C.2.1 C.2.2.2.2.2.2.1.1 hr.2.2.1 (e_in_iff.mp hin) rfl hd (kk _ _ _ _ _ hr)
    · cases he
  · cases he
theorem n_fadd (C : n_C G X p R s m args meth c g nL) : n_Q G X p l e R s m args below meth c g nL k0 s0 .fadd := by
  intro i pc len mm mm' ls ls' st st' H locs lsA cells slots Q hd hk he hr h1 h2 h3 h4 kk
  simp only [k_ok, Bool.and_eq_true, decide_eq_true_eq] at hk
  obtain ⟨rfl, rfl⟩ := hk
  simp only [e_st] at he
  split at he
  · split at he
    · rename_i hin
      subst hin
      cases he
      exact va_tlen C.1 C.2.1 C.2.2.2.2.2.2.1.1 hr.2.2.1 rfl hd (kk _ _ _ _ _ hr)
    · cases he
  · cases he
theorem n_daload (C : n_C G X p R s m args meth c g nL) : n_Q G X p l e R s m args below meth c g nL k0 s0 .daload := by
  intro i pc len mm mm' ls ls' st st' H locs lsA cells slots Q hd hk he hr h1 h2 h3 h4 kk
  simp only [k_ok, Bool.and_eq_true, decide_eq_true_eq] at hk
  obtain ⟨rfl, rfl⟩ := hk
  simp only [e_st] at he
  split at he
  · split at he
    · rename_i hin
      simp only [Bool.and_eq_true, decide_eq_true_eq] at hin
      obtain ⟨rfl, hin⟩ := hin
      cases he
      exact va_ti C.1 C.2.1 C.2.2.2.2.2.2.1.2.2.1 hr.2.2.1 (e_in_iff.mp hin) rfl hd (kk _ _ _ _ _ hr)
    · cases he
  · cases he
theorem n_fsub (C : n_C G X p R s m args meth c g nL) : n_Q G X p l e R s m args below meth c g nL k0 s0 .fsub := by
  intro i pc len mm mm' ls ls' st st' H locs lsA cells slots Q hd hk he hr h1 h2 h3 h4 kk
  simp only [k_ok, Bool.and_eq_true, decide_eq_true_eq] at hk
  obtain ⟨rfl, rfl⟩ := hk
  simp only [e_st] at he
  split at he
  · split at he
    · rename_i hin
      subst hin
      cases he
      exact va_tlen C.1 C.2.1 C.2.2.2.2.2.2.1.2.2.1 hr.2.2.1 rfl hd (kk _ _ _ _ _ hr)
    · cases he
  · cases he
theorem n_baload (C : n_C G X p R s m args meth c g nL) : n_Q G X p l e R s m args below meth c g nL k0 s0 .baload := by
  intro i pc len mm mm' ls ls' st st' H locs lsA cells slots Q hd hk he hr h1 h2 h3 h4 kk
  simp only [k_ok, Bool.and_eq_true, decide_eq_true_eq] at hk
  obtain ⟨rfl, rfl⟩ := hk
  simp only [e_st] at he
  split at he
  · split at he
    · rename_i hin
      simp only [Bool.and_eq_true, decide_eq_true_eq] at hin
      obtain ⟨rfl, hin⟩ := hin
      cases he
      exact va_tb C.1 C.2.1 (C.2.2.2.2.2.2.1.2.2.2.2.2.2.1.1 0 (by decide)).2.2.2 hr.2.2.1 (e_in_iff.mp hin) rfl hd (kk _ _ _ _ _ hr)
    · cases he
  · cases he
theorem n_fmul (C : n_C G X p R s m args meth c g nL) : n_Q G X p l e R s m args below meth c g nL k0 s0 .fmul := by
  intro i pc len mm mm' ls ls' st st' H locs lsA cells slots Q hd hk he hr h1 h2 h3 h4 kk
  simp only [k_ok, Bool.and_eq_true, decide_eq_true_eq] at hk
  obtain ⟨rfl, rfl⟩ := hk
  simp only [e_st] at he
  split at he
  · split at he
    · rename_i hin
      subst hin
      cases he
      exact va_tlen C.1 C.2.1 (C.2.2.2.2.2.2.1.2.2.2.2.2.2.1.1 0 (by decide)).2.2.2 hr.2.2.1 rfl hd (kk _ _ _ _ _ hr)
    · cases he
  · cases he
theorem n_fload {n : Nat} (C : n_C G X p R s m args meth c g nL) : n_Q G X p l e R s m args below meth c g nL k0 s0 (.fload n) := by
  intro i pc len mm mm' ls ls' st st' H locs lsA cells slots Q hd hk he hr h1 h2 h3 h4 kk
  have hE := C.2.2.2.2.2.2.1.2.2.2.2.2.2.1.1 0 (by decide)
  simp only [k_ok] at hk
  split at hk
  · rename_i x
    simp only [Bool.and_eq_true, decide_eq_true_eq] at hk
    obtain ⟨rfl, hkt⟩ := hk
    obtain ⟨w, hq⟩ := k_map1 hkt
    have hw := n_good C (k_at_mem (k_look k_t_ok (by decide) hq))
    simp only [e_st] at he
    split at he
    · split at he
      · rename_i hin
        subst hin
        split at he
        · cases he
          exact vk_getf C.1 C.2.1 hE.2.2.1 hr.2.2.1 C.2.2.2.1 hw (fun _ h => h) hd (kk _ _ _ _ _ hr)
        · cases he
          exact vk_getf C.1 C.2.1 hE.2.1 hr.2.2.1 C.2.2.2.1 hw (fun _ h => h) hd (kk _ _ _ _ _ hr)
        · cases he
      · cases he
    · cases he
  · cases hk
theorem n_copy (C : n_C G X p R s m args meth c g nL) : n_Q G X p l e R s m args below meth c g nL k0 s0 .dmul := by
  intro i pc len mm mm' ls ls' st st' H locs lsA cells slots Q hd hk he hr h1 h2 h3 h4 kk
  simp only [k_ok] at hk
  split at hk
  · rename_i x
    simp only [Bool.and_eq_true, decide_eq_true_eq] at hk
    obtain ⟨rfl, hz⟩ := hk
    obtain ⟨q, hq⟩ := k_map1 hz
    have hlink := n_good C (k_at_mem (k_look k_s_ok (by decide) hq))
    simp only [e_st] at he
    split at he
    · rename_i n dp d sp o r
      split at he
      · rename_i ka z0 kb z1 ho hdd
        split at he
        · rename_i hc
          simp only [Bool.and_eq_true, decide_eq_true_eq, Bool.not_eq_true', decide_eq_false_iff_not] at hc
          obtain ⟨⟨⟨⟨⟨⟨⟨rfl, rfl⟩, g3⟩, g2⟩, g1⟩, g4⟩, g5⟩, g6⟩ := hc
          cases he
          have hM9 : mm.1.length ≤ 900 := h1
          have ha : n_v G (.ref o) = .ref (n_b G + o) := by rw [n_v, n_R_lt ho hM9]
          have hb : n_v G (.ref d) = .ref (n_b G + d) := by rw [n_v, n_R_lt hdd hM9]
          show W p l e R s m args below meth c H locs cells slots Q (F0 m pc lsA (.int n :: .int dp :: n_v G (.ref d) :: .int sp :: n_v G (.ref o) :: List.map (n_v G) st'))
          rw [ha, hb]
          have hP := hr.2.1
          have ha0 := n_int (G := G) ho
          have ha1 := n_int (G := G) hdd
          have hKt := C.2.2.2.2.2.1.2 0 (G.2.1 100, FieldType.int) rfl
          have nn : ∀ z : Int32, ¬ z < 0 → z.toInt = (z.toNatClampNeg : Int) := by
            intro z hz
            have hz0 : (0 : Int) ≤ z.toInt := by
              have := Int32.not_lt.mp hz
              simpa using Int32.le_iff_toInt_le.mp this
            show z.toInt = ((z.toInt.toNat : Nat) : Int)
            omega
          intro T hT X'
          have hc0 : H[n_b G + o]? = some (vp_cell (G.2.1 e_kI) (z0, .inl (mm.2.1 o))) := hP o _ ha0
          have hc1 : H[n_b G + d]? = some (vp_cell (G.2.1 e_kI) (z1, .inl (mm.2.1 d))) := hP d _ ha1
          obtain ⟨-, kA, hk0, cm0, hkk0⟩ := hKt.1 z0 (fun j => .int (mm.2.1 o j))
          obtain ⟨-, kB, hk1, cm1, hkk1⟩ := hKt.1 z1 (fun j => .int (mm.2.1 d j))
          have hR1 := C.2.2.2.2.2.2.2.2.2.1
          have hR2 := C.2.2.2.2.2.2.2.2.2.2
          have hlo := n_lo (f := n_v G) g6
          have hnw : nativeFrameWords "java/lang/System" "arraycopy" 5 = 7 := by decide +kernel
          obtain ⟨vm', X2, step⟩ := X'.arraycopy C.1 C.2.2.2.1 hlink (n_good C (n_cp _ (by simp))) (n_good C (n_cp _ (by simp))) (n_good C (n_cp _ (by simp))) (src := n_b G + o) (dst := n_b G + d) (cs := vp_cell (G.2.1 e_kI) (z0, .inl (mm.2.1 o))) (cd := vp_cell (G.2.1 e_kI) (z1, .inl (mm.2.1 d))) (srcPos := sp) (destPos := dp) (n := n) (by rw [hT]; exact hc0) (by rw [hT]; exact hc1)
            (fun _ h => by cases h) (fun _ h => by cases h) (fun h => by cases h) (fun h => by cases h) hk0 hk1 hkk0 hkk1 (by simp [refKind]) g1 g2 g3
            (by rw [nn sp g1, nn n g3]; show ¬ _ > ((arrV (G.2.1 e_kI) z0 (fun j => .int (mm.2.1 o j))).slots.size : Int); rw [arrV_size]; omega)
            (by rw [nn dp g2, nn n g3]; show ¬ _ > ((arrV (G.2.1 e_kI) z1 (fun j => .int (mm.2.1 d j))).slots.size : Int); rw [arrV_size]; omega)
            (fun vm₁ _ i hi => by
              have e : (vp_cell (G.2.1 e_kI) (z0, .inl (mm.2.1 o))).slots.getD (sp.toNatClampNeg + i) .null = .int (mm.2.1 o (sp.toNatClampNeg + i)) := by
                show (arrV (G.2.1 e_kI) z0 (fun j => .int (mm.2.1 o j))).slots.getD _ _ = _
                rw [Array.getD_eq_getD_getElem?, arrV_read _ _ (by omega)]
                rfl
              refine ⟨?_, ?_⟩
              · rw [e]
                rfl
              · rw [e]
                exact trivial)
            (g := F0 m pc lsA (.int n :: .int dp :: .ref (n_b G + d) :: .int sp :: .ref (n_b G + o) :: List.map (n_v G) st')) rfl (hr.2.2.2.1.2.1.trans C.2.2.1.symm) (rest := List.map (n_v G) st') rfl (by rw [C.2.1]; exact hd) hR1 (by show 2 * 0 + _ + _ ≤ _; omega)
          have e1 : copied (vp_cell (G.2.1 e_kI) (z0, .inl (mm.2.1 o))) (vp_cell (G.2.1 e_kI) (z1, .inl (mm.2.1 d))) sp dp n = vp_cell (G.2.1 e_kI) (z1, .inl (va_cpy (mm.2.1 o) (mm.2.1 d) sp.toNatClampNeg dp.toNatClampNeg n.toNatClampNeg)) := va_copied (fun z => .int z) (G.2.1 e_kI) (G.2.1 e_kI) (mm.2.1 o) (mm.2.1 d) g4
          rw [e1] at X2 step
          have hl : n_b G + d < H.size := (Array.getElem?_eq_some_iff.mp hc1).1
          have hheap : ((T.setVm vm').setCell (n_b G + d) (vp_cell (G.2.1 e_kI) (z1, .inl (va_cpy (mm.2.1 o) (mm.2.1 d) sp.toNatClampNeg dp.toNatClampNeg n.toNatClampNeg)))).heap = H.setIfInBounds (n_b G + d) (vp_cell (G.2.1 e_kI) (z1, .inl (va_cpy (mm.2.1 o) (mm.2.1 d) sp.toNatClampNeg dp.toNatClampNeg n.toNatClampNeg))) := by rw [← hT]; rfl
          have oq : ∀ q : Nat, q ≠ n_b G + d → (H.setIfInBounds (n_b G + d) (vp_cell (G.2.1 e_kI) (z1, .inl (va_cpy (mm.2.1 o) (mm.2.1 d) sp.toNatClampNeg dp.toNatClampNeg n.toNatClampNeg))))[q]? = H[q]? := fun q hq => by simp [Array.getElem?_setIfInBounds, Ne.symm hq]
          have hz1 : (H.setIfInBounds (n_b G + d) (vp_cell (G.2.1 e_kI) (z1, .inl (va_cpy (mm.2.1 o) (mm.2.1 d) sp.toNatClampNeg dp.toNatClampNeg n.toNatClampNeg)))).size = H.size := by simp
          obtain ⟨t, a1, b1⟩ := kk _ _ lsA cells slots (n_R_wr hr hdd rfl (fun a b h => if_neg h) (fun _ _ _ => rfl) (fun _ _ _ => rfl) (fun k => hr.2.2.2.2.2.2.2 d k (List.getElem?_eq_some_iff.mp hdd).1) hz1 oq
            (show (H.setIfInBounds (n_b G + d) _)[n_b G + d]? = some (vp_cell _ _) by
              simp only [Array.getElem?_setIfInBounds, hl, if_true]
              first
                | rfl
                | (congr 2; done))
            (⟨by rw [hz1]; exact hr.2.2.1.1, fun q g7 g8 => by
              rw [oq q (fun e => g8 (by rw [e]; exact Nat.le_add_right _ _))]
              exact hr.2.2.1.2.1 q g7 g8, fun q hq => by
              rcases List.mem_append.mp hq with h | h
              · exact hr.2.2.1.2.2 q h
              · obtain ⟨z, -, hz⟩ := List.mem_map.mp h
                rw [← hz]
                exact Nat.le_add_right _ _⟩)) _ hheap X2
          exact ⟨t, step t a1, b1⟩
        · cases he
      · cases he
    · cases he
  · cases hk
end
