/-! INSTRUCTIONS OVER CELLS: what the evaluator does, the machine does -/
theorem e_ob_at {K : List (Nat × Nat)} {o n : Nat} (h : e_ob K o n = true) : ∃ z, K[o]? = some (n / 64, z) ∧ n % 64 < z := by
  unfold e_ob at h
  split at h
  · rename_i c z hc
    simp only [Bool.and_eq_true, decide_eq_true_eq] at h
    exact ⟨z, by rw [hc, h.1], h.2⟩
  · cases h
theorem e_ar_at {K : List (Nat × Nat)} {o k : Nat} {i : Int32} (h : e_in i (e_ar K o k) = true) : ∃ z, K[o]? = some (k, z) ∧ vp_in i z := by
  rw [e_in_iff] at h
  unfold e_ar at h
  split at h
  · rename_i c z hc
    split at h
    · rename_i hk
      exact ⟨z, by rw [hc, hk], h⟩
    · exact absurd (Or.inr (Nat.zero_le _)) h
  · exact absurd (Or.inr (Nat.zero_le _)) h
theorem q_cl_at {c : Nat} (h : c < 11) : q_cl[c]? = some (g_cn c, q_T c, e_nf c) := by
  have : c = 0 ∨ c = 1 ∨ c = 2 ∨ c = 3 ∨ c = 4 ∨ c = 5 ∨ c = 6 ∨ c = 7 ∨ c = 8 ∨ c = 9 ∨ c = 10 := by omega
  rcases this with rfl | rfl | rfl | rfl | rfl | rfl | rfl | rfl | rfl | rfl | rfl <;> rfl
theorem q_cl_ws {c : Nat} (h : c < 11) {w : Jvm.Cond} (hw : w ∈ u_ws (g_cn c) (q_T c) (e_nf c)) : w ∈ lw_tbl ∧ (goodWord w = true ∨ k_nest w = true) := by
  have h1 := List.all_eq_true.mp (List.all_eq_true.mp q_cl_ok c (List.mem_range.mpr h)) w hw
  simp only [Bool.and_eq_true, decide_eq_true_eq] at h1
  exact ⟨h1.2, Or.inl h1.1⟩
theorem q_tyk {c k : Nat} (h : c < 11) (hk : k < e_nf c) : parseFieldDescriptor (q_T c k).2.2.1 = some (q_ty c k) ∧ (q_rf c k = true → e_bool (c * 64 + k) = false ∧ fits (q_ty c k) (.ref 0) = true) ∧ (q_rf c k = false → q_ty c k = if e_bool (c * 64 + k) then .boolean else .int) ∧ ∀ j, j < e_nf c → j ≠ k → (q_T c j).2.1 ≠ (q_T c k).2.1 := by
  have h1 := List.all_eq_true.mp (List.all_eq_true.mp q_ty_ok c (List.mem_range.mpr h)) k (List.mem_range.mpr hk)
  simp only [Bool.and_eq_true, decide_eq_true_eq, List.all_eq_true, List.mem_range, Bool.or_eq_true] at h1
  obtain ⟨⟨h1, h2⟩, h3⟩ := h1
  refine ⟨h1, fun q => ?_, fun q => ?_, fun j hj hjk => ?_⟩
  · rw [if_pos q] at h2
    simpa using h2
  · rw [if_neg (by rw [q]; decide)] at h2
    simpa using h2
  · rcases h3 j hj with e | e
    · exact absurd e hjk
    · exact e
theorem fits_ref {t : FieldType} (a : Nat) (h : fits t (.ref 0) = true) : fits t (.ref a) = true ∧ narrow t (.ref a) = .ref a := by
  cases t <;> first | (cases h; done) | exact ⟨rfl, rfl⟩
section
variable {G : n_G} {X : e_X} {p : Program} {l : Launch} {e : Env} {R : Room} {s : State} {m : MethodId} {args : Array Value} {below : List Frame} {meth : Method} {c : Code} {g nL k0 s0 : Nat}
theorem n_R_lt {mm : e_M} {o : Nat} {q : Nat × Nat} (ho : mm.1[o]? = some q) (h9 : mm.1.length ≤ 900) : n_a G o = n_b G + o := by
  have := (List.getElem?_eq_some_iff.mp ho).1
  unfold n_a
  rw [if_pos (by omega)]
/-- an object's world -/
theorem n_obj {mm : e_M} {o ci z : Nat} (hk : n_ok mm) (ho : mm.1[o]? = some (ci, z)) (hc : ci < 11) : z = e_nf ci ∧ (n_w G mm)[o]? = some (n_b G + o, .inr (ci, (List.range (e_nf ci)).map fun k => if q_rf ci k then va_rf (n_o G (mm.2.2.2 o k)) else .int (mm.2.1 o k))) := by
  have hz : z = e_nf ci := by
    rcases hk.1 o _ ho with h | h | h | h | h | h <;> dsimp only at h <;> omega
  subst hz
  refine ⟨rfl, ?_⟩
  rw [n_w_at ho]
  unfold n_cell
  rw [if_pos (by omega)]
theorem n_int {mm : e_M} {o z : Nat} (ho : mm.1[o]? = some (e_kI, z)) : (n_w G mm)[o]? = some (n_b G + o, .inl (G.2.1 e_kI, z, .inl (mm.2.1 o))) := by
  rw [n_w_at ho]; rfl
theorem n_chr {mm : e_M} {o z : Nat} (ho : mm.1[o]? = some (e_kC, z)) : (n_w G mm)[o]? = some (n_b G + o, .inl (G.2.1 e_kC, z, .inl (mm.2.1 o))) := by
  rw [n_w_at ho]; rfl
theorem n_lng {mm : e_M} {o z : Nat} (ho : mm.1[o]? = some (e_kJ, z)) : (n_w G mm)[o]? = some (n_b G + o, .inl (G.2.1 e_kJ, z, .inr (.inl (mm.2.2.1 o)))) := by
  rw [n_w_at ho]; rfl
theorem n_row {mm : e_M} {o k z : Nat} (ho : mm.1[o]? = some (k, z)) (hk : 200 ≤ k) : (n_w G mm)[o]? = some (n_b G + o, .inl (G.2.1 k, z, .inr (.inr (.inr (.inr fun j => n_o G (mm.2.2.2 o j)))))) := by
  rw [n_w_at ho]
  unfold n_cell
  rw [if_neg (by omega), if_neg (by omega), if_neg (by omega)]
theorem n_hts (C : n_C G X p R s m args meth c g nL) {ci : Nat} (h : ci < 11) : ∀ w ∈ u_ws (g_cn ci) (q_T ci) (e_nf ci), w.before args s = true := fun w hw => n_good C (q_cl_ws h hw)
/-- where a field's link leads -/
theorem n_lnk (C : n_C G X p R s m args meth c g nL) {x n : Nat} {h : String} {q : Nat} (hq : k_f (g_own g) x = some (n, h, q)) : n / 64 < 11 ∧ n % 64 < e_nf (n / 64) ∧ (k_fw (g_own g) x n h).before args s = true := by
  have h1 := k_look k_f_ok (by decide) hq
  simp only [Bool.and_eq_true, decide_eq_true_eq] at h1
  exact ⟨h1.1.2, h1.2, n_good C (k_at_mem h1.1.1)⟩
theorem n_getfield {n : Nat} (C : n_C G X p R s m args meth c g nL) : n_Q G X p l e R s m args below meth c g nL k0 s0 (.getfield n) := by
  intro i pc len mm mm' ls ls' st st' H locs lsA cells slots Q hd hk he hr h1 h2 h3 h4 kk
  simp only [e_st] at he
  split at he
  · rename_i o r
    split at he
    · rename_i hob
      cases he
      obtain ⟨z, ho, hz⟩ := e_ob_at hob
      simp only [k_ok] at hk
      split at hk
      · rename_i x
        simp only [Bool.and_eq_true, decide_eq_true_eq, Bool.not_eq_true'] at hk
        obtain ⟨⟨rfl, hkf⟩, hrf⟩ := hk
        obtain ⟨⟨ht, q⟩, hq⟩ := k_map1 hkf
        obtain ⟨g1, g2, g3⟩ := n_lnk C hq
        obtain ⟨-, hw⟩ := n_obj (G := G) hr.2.2.2.2.2.2 ho g1
        have hv : ((List.range (e_nf (n / 64))).map fun k => if q_rf (n / 64) k then va_rf (n_o G (mm.2.2.2 o k)) else .int (mm.2.1 o k))[n % 64]? = some (.int (mm.2.1 o (n % 64))) := by
          simp [List.getElem?_map, List.getElem?_range g2, hrf]
        have ha : n_v G (.ref o) = .ref (n_b G + o) := by rw [n_v, n_R_lt ho h1]
        show W p l e R s m args below meth c H locs cells slots Q (F0 m pc lsA (n_v G (.ref o) :: List.map (n_v G) r))
        rw [ha]
        unfold k_fw at g3
        split at g3
        · exact va_get C.1 C.2.1 (n_hts C g1) (fun _ h => h) C.2.2.2.1 C.2.2.2.2.2.1 hr.2.1 o hw (q_cl_at g1) (n % 64) g2 g3 (fun _ h => h) hv hd (kk _ _ _ _ _ hr)
        · exact va_getN C.1 C.2.1 (n_hts C g1) (fun _ h => h) C.2.2.2.1 C.2.2.2.2.2.1 hr.2.1 o hw (q_cl_at g1) (n % 64) g2 g3 (fun _ h => h) hv hd (kk _ _ _ _ _ hr)
      · cases hk
    · cases he
  · cases he
theorem n_getref {n : Nat} (C : n_C G X p R s m args meth c g nL) : n_Q G X p l e R s m args below meth c g nL k0 s0 (.checkcast n) := by
  intro i pc len mm mm' ls ls' st st' H locs lsA cells slots Q hd hk he hr h1 h2 h3 h4 kk
  simp only [e_st] at he
  split at he
  · rename_i o r
    split at he
    · rename_i hob
      cases he
      obtain ⟨z, ho, hz⟩ := e_ob_at hob
      simp only [k_ok] at hk
      split at hk
      · rename_i x
        simp only [Bool.and_eq_true, decide_eq_true_eq] at hk
        obtain ⟨⟨rfl, hkf⟩, hrf⟩ := hk
        obtain ⟨⟨ht, q⟩, hq⟩ := k_map1 hkf
        obtain ⟨g1, g2, g3⟩ := n_lnk C hq
        obtain ⟨-, hw⟩ := n_obj (G := G) hr.2.2.2.2.2.2 ho g1
        have hv : ((List.range (e_nf (n / 64))).map fun k => if q_rf (n / 64) k then va_rf (n_o G (mm.2.2.2 o k)) else .int (mm.2.1 o k))[n % 64]? = some (n_v G (e_rf (mm.2.2.2 o (n % 64)))) := by
          simp [List.getElem?_map, List.getElem?_range g2, hrf, n_v_rf]
        have ha : n_v G (.ref o) = .ref (n_b G + o) := by rw [n_v, n_R_lt ho h1]
        show W p l e R s m args below meth c H locs cells slots Q (F0 m pc lsA (n_v G (.ref o) :: List.map (n_v G) r))
        rw [ha]
        unfold k_fw at g3
        split at g3
        · exact va_get C.1 C.2.1 (n_hts C g1) (fun _ h => h) C.2.2.2.1 C.2.2.2.2.2.1 hr.2.1 o hw (q_cl_at g1) (n % 64) g2 g3 (fun _ h => h) hv hd (kk _ _ _ _ _ hr)
        · exact va_getN C.1 C.2.1 (n_hts C g1) (fun _ h => h) C.2.2.2.1 C.2.2.2.2.2.1 hr.2.1 o hw (q_cl_at g1) (n % 64) g2 g3 (fun _ h => h) hv hd (kk _ _ _ _ _ hr)
      · cases hk
    · cases he
  · cases he
/-- the relation behind a write into cell o -/
theorem n_R_wr {mm mm' : e_M} {ls : List Value} {H H1 : Heap} {locs locs1 : List Loc} {lsA : Array Slot} {cells slots o : Nat} {q : Nat × Nat} (hr : n_R G s k0 s0 nL mm ls H locs lsA cells slots) (ho : mm.1[o]? = some q) (h1 : mm'.1 = mm.1) (hi : ∀ a k, a ≠ o → mm'.2.1 a k = mm.2.1 a k) (hj : ∀ a k, a ≠ o → mm'.2.2.1 a k = mm.2.2.1 a k) (hx : ∀ a k, a ≠ o → mm'.2.2.2 a k = mm.2.2.2 a k) (hx2 : ∀ k, mm'.2.2.2 o k ≤ mm.1.length)
    (hz : H1.size = H.size) (oq : ∀ a : Nat, a ≠ n_b G + o → H1[a]? = H[a]?) (hat : va_at G.1 q_cl (n_b G + o, n_cell G mm' o q.1 q.2) H1) (hS : va_S (fun q => n_b G ≤ q) s.heap H1 locs1) : n_R G s k0 s0 nL mm' ls H1 locs1 lsA cells slots := by
  obtain ⟨r1, r2, r3, r4, r5, r6, r7, r8⟩ := hr
  refine ⟨by rw [hz, h1]; exact r1, ?_, hS, r4, by rw [h1]; exact r5, by unfold n_z; rw [h1]; exact r6, fun a b h => r7 a b (by rw [← h1]; exact h), fun a k ha => ?_⟩
  · rw [n_w_set (c := q.1) (z := q.2) ho h1 hi hj hx]
    exact r2.set n_w_D (n_w_at ho) hat oq
  · rw [h1] at ha ⊢
    by_cases e : a = o
    · rw [e]; exact hx2 k
    · rw [hx a k e]; exact r8 a k ha
theorem n_up_ne {α : Type} {f : Nat → Nat → α} {o k : Nat} {v : α} : ∀ a b, a ≠ o → e_up f o k v a b = f a b := fun a b h => by
  unfold e_up
  rw [if_neg (fun q => h q.1)]
theorem n_up_row {α : Type} {f : Nat → Nat → α} {o k : Nat} {v : α} (j : Nat) : e_up f o k v o j = if j = k then v else f o j := by
  unfold e_up
  by_cases h : j = k
  · rw [if_pos ⟨rfl, h⟩, if_pos h]
  · rw [if_neg (fun q => h q.2), if_neg h]
/-- the facts of an object's field that a write needs -/
theorem n_fld (C : n_C G X p R s m args meth c g nL) {mm : e_M} {ls : List Value} {H : Heap} {locs : List Loc} {lsA : Array Slot} {cells slots o ci z k : Nat} (hr : n_R G s k0 s0 nL mm ls H locs lsA cells slots) (ho : mm.1[o]? = some (ci, z)) (hc : ci < 11) (hk : k < e_nf ci) :
    ∃ (cell : Cell) (cf : ClassId) (kf : Class) (fi : Nat) (f : Field), H[n_b G + o]? = some cell ∧ cell.vm = .none ∧ cell.cls = G.1.1 ci ∧ s.fieldFound? (g_cn ci) (q_T ci k).2.1 (q_T ci k).2.2.1 = some (cf, kf, fi, f) ∧ f.isStatic = false ∧ f.slot < cell.slots.size ∧
      (∀ v : Value, fits (q_ty ci k) v = true → narrow (q_ty ci k) v = v → ((q_T ci k).2.2.2 = false → k2_Sd s f cell.cls v) ∧ ((q_T ci k).2.2.2 = true → (narrow f.type v = v ∧ s.fitsSlot cell.cls .none f.slot v = true) ∧ (s.vm.findClass (g_cn ci) = some m.cls → m.cls = cf))) ∧
      (∀ (v : Value) (mm' : e_M) (H1 : Heap), H1[n_b G + o]? = some (cell.setSlot f.slot v) → (∀ j, j < e_nf ci → (if q_rf ci j then va_rf (n_o G (mm'.2.2.2 o j)) else Value.int (mm'.2.1 o j)) = if j = k then v else if q_rf ci j then va_rf (n_o G (mm.2.2.2 o j)) else .int (mm.2.1 o j)) → va_at G.1 q_cl (n_b G + o, n_cell G mm' o ci z) H1) := by
  obtain ⟨hz, hw⟩ := n_obj (G := G) hr.2.2.2.2.2.2 ho hc
  subst hz
  have hK := C.2.2.2.2.2.1
  have hts := n_hts C hc
  have hcl := q_cl_at hc
  have hap := va_apart (own := g_cn ci) hts (fun _ h => h) (q_ty ci) (fun j hj => (q_tyk hc hj).1) (fun a ha b hb hab => (q_tyk hc hb).2.2.2 a ha hab) hK hcl
  obtain ⟨r, h1, cell, q1, q2, q3, q4⟩ := hr.2.1 o _ hw
  have hrr : r = (g_cn ci, q_T ci, e_nf ci) := Option.some.inj (h1.symm.trans hcl)
  subst hrr
  obtain ⟨hS, hfc, kC, hkC, hkind⟩ := hK.1 ci _ hcl
  obtain ⟨cf, kf, fi, f, hi, hsl⟩ := hS k hk
  have hlay := hts _ (u_in_lay hk)
  have hst := (u_facts hfc hkC (u_lays hts (fun _ h => h) hk) hi).1
  have hd := (q_tyk hc hk).1
  refine ⟨cell, cf, kf, fi, f, q1, q3, q2, hi, hst, by rw [hsl]; exact k2_hasslot (q4 k hk), fun v hf hn => ⟨fun hfin => ?_, fun hfin => ⟨?_, fun hown => ?_⟩⟩, fun v mm' H1 e1 hv => ?_⟩
  · unfold u_lay at hlay
    rw [if_neg (by rw [hfin]; decide)] at hlay
    have h6 := u_store hfc hkC hkind hlay hi hd hn hf
    rw [q2]
    exact h6
  · unfold u_lay at hlay
    rw [if_pos hfin] at hlay
    have h6 := u_fits hfc hkC hkind (Or.inr hlay) hi hd hn hf
    rw [q2]
    exact h6
  · unfold u_lay at hlay
    rw [if_pos hfin] at hlay
    obtain ⟨_, _, c', _, _, _, -, -, hf', -, -, -, hown2, -⟩ := Cond.laysFinal_spec hlay
    have e1 : c' = cf := by have := hi.symm.trans hf'; simp at this; exact this.1.symm
    rw [← e1]
    exact Option.some.inj (hown.symm.trans hown2)
  · rw [hsl] at e1
    unfold n_cell
    rw [if_pos (by omega)]
    refine ⟨_, hcl, t_OB.to (V := updV (vp_V ((List.range (e_nf ci)).map fun k => if q_rf ci k then va_rf (n_o G (mm.2.2.2 o k)) else .int (mm.2.1 o k))) k v) ⟨_, e1, q2, q3, t_set q4 hap hk v⟩ (fun j hj => ?_)⟩
    have e2 : vp_V ((List.range (e_nf ci)).map fun k => if q_rf ci k then va_rf (n_o G (mm'.2.2.2 o k)) else .int (mm'.2.1 o k)) j = if q_rf ci j then va_rf (n_o G (mm'.2.2.2 o j)) else .int (mm'.2.1 o j) := by
      simp [vp_V, List.getD_eq_getElem?_getD, List.getElem?_map, List.getElem?_range hj]
    have e3 : vp_V ((List.range (e_nf ci)).map fun k => if q_rf ci k then va_rf (n_o G (mm.2.2.2 o k)) else .int (mm.2.1 o k)) j = if q_rf ci j then va_rf (n_o G (mm.2.2.2 o j)) else .int (mm.2.1 o j) := by
      simp [vp_V, List.getD_eq_getElem?_getD, List.getElem?_map, List.getElem?_range hj]
    rw [e2, hv j hj]
    unfold updV
    rw [e3]
theorem n_putfield {n : Nat} (C : n_C G X p R s m args meth c g nL) : n_Q G X p l e R s m args below meth c g nL k0 s0 (.putfield n) := by
  intro i pc len mm mm' ls ls' st st' H locs lsA cells slots Q hd hk he hr h1 h2 h3 h4 kk
  simp only [e_st] at he
  split at he
  · rename_i v o r
    split at he
    · rename_i hob
      cases he
      simp only [Bool.and_eq_true, Bool.or_eq_true, Bool.not_eq_true', decide_eq_true_eq] at hob
      obtain ⟨hob, hbl⟩ := hob
      obtain ⟨z, ho, hz⟩ := e_ob_at hob
      simp only [k_ok] at hk
      split at hk
      · rename_i x
        simp only [Bool.and_eq_true, decide_eq_true_eq, Bool.not_eq_true'] at hk
        obtain ⟨⟨⟨rfl, hkf⟩, hrf⟩, hfin⟩ := hk
        obtain ⟨⟨ht, q⟩, hq⟩ := k_map1 hkf
        obtain ⟨g1, g2, g3⟩ := n_lnk C hq
        have hnn : n / 64 * 64 + n % 64 = n := by omega
        have hty := (q_tyk g1 g2).2.2.1 hrf
        rw [hnn] at hty
        have hfn : fits (q_ty (n / 64) (n % 64)) (.int v) = true ∧ narrow (q_ty (n / 64) (n % 64)) (.int v) = .int v := by
          rw [hty]
          by_cases hb : e_bool n = true
          · rw [if_pos hb]
            rcases hbl with (hbl | rfl) | rfl
            · rw [hb] at hbl; cases hbl
            · exact ⟨rfl, rfl⟩
            · exact ⟨rfl, rfl⟩
          · rw [if_neg hb]
            exact ⟨rfl, rfl⟩
        obtain ⟨cell, cf, kf, fi, f, f1, f2, -, f4, f5, f6, f7, f8⟩ := n_fld C hr ho g1 g2
        have hSd := (f7 (.int v) hfn.1 hfn.2).1 hfin
        have ha : n_v G (.ref o) = .ref (n_b G + o) := by rw [n_v, n_R_lt ho h1]
        show W p l e R s m args below meth c H locs cells slots Q (F0 m pc lsA (.int v :: n_v G (.ref o) :: List.map (n_v G) st'))
        rw [ha]
        have fin : ∀ H' : Heap, H'[n_b G + o]? = some (cell.setSlot f.slot (.int v)) → H'.size = H.size → (∀ q, q ≠ n_b G + o → H'[q]? = H[q]?) → W p l e R s m args below meth c H' (locs ++ [⟨n_b G + o, f.slot⟩]) cells slots Q (F0 m (pc + 3) lsA (List.map (n_v G) st')) := by
          intro H' e1 e2 e3
          refine kk _ _ _ _ _ (n_R_wr hr ho rfl (fun a b h => n_up_ne a b h) (fun _ _ _ => rfl) (fun _ _ _ => rfl) (fun k => hr.2.2.2.2.2.2.2 o k (List.getElem?_eq_some_iff.mp ho).1) e2 e3 (f8 (.int v) _ H' e1 fun j hj => ?_) (hr.2.2.1.put e2 e3 (Nat.le_add_right _ _)))
          dsimp only
          rw [n_up_row]
          by_cases ej : j = n % 64
          · subst ej
            rw [if_pos rfl, if_pos rfl, if_neg (by rw [hrf]; decide)]
          · rw [if_neg ej, if_neg ej]
        unfold k_fw at g3
        split at g3
        · exact W.putK C.1 C.2.1 (f := f) ⟨C.2.2.2.1, g3, ⟨_, _, _, f4⟩, f5⟩ hSd f1 f2 f6 rfl rfl hd fin
        · exact va_WputK C.1 C.2.1 (f := f) C.2.2.2.1 g3 f4 f5 hSd f1 f2 f6 rfl rfl hd fin
      · cases hk
    · cases he
  · cases he
theorem n_putref {n : Nat} (C : n_C G X p R s m args meth c g nL) : n_Q G X p l e R s m args below meth c g nL k0 s0 (.instanceof n) := by
  intro i pc len mm mm' ls ls' st st' H locs lsA cells slots Q hd hk he hr h1 h2 h3 h4 kk
  simp only [e_st] at he
  split at he
  · rename_i v o r
    split at he
    · rename_i hob
      cases he
      simp only [Bool.and_eq_true, decide_eq_true_eq] at hob
      obtain ⟨hob, hvl⟩ := hob
      obtain ⟨z, ho, hz⟩ := e_ob_at hob
      simp only [k_ok] at hk
      split at hk
      · rename_i x
        simp only [Bool.and_eq_true, decide_eq_true_eq] at hk
        obtain ⟨⟨⟨⟨⟨rfl, hkf⟩, hrf⟩, hfin⟩, hog⟩, hini⟩ := hk
        have hq0 : ∃ q, k_f (g_own g) x = some (n, "", q) := by
          cases hq : k_f (g_own g) x with
          | none => rw [hq] at hkf; cases hkf
          | some w =>
            obtain ⟨w1, w2, w3⟩ := w
            rw [hq] at hkf
            simp only [Option.map_some, Option.some.injEq, Prod.mk.injEq] at hkf
            exact ⟨w3, by rw [hkf.1, hkf.2]⟩
        obtain ⟨q, hq⟩ := hq0
        obtain ⟨g1, g2, g3⟩ := n_lnk C hq
        have hfn := fits_ref (n_a G v) ((q_tyk g1 g2).2.1 hrf).2
        obtain ⟨cell, cf, kf, fi, f, f1, f2, f3, f4, f5, f6, f7, f8⟩ := n_fld C hr ho g1 g2
        obtain ⟨hSd, hcf⟩ := (f7 (.ref (n_a G v)) hfn.1 hfn.2).2 hfin
        have ha : n_v G (.ref o) = .ref (n_b G + o) := by rw [n_v, n_R_lt ho h1]
        show W p l e R s m args below meth c H locs cells slots Q (F0 m pc lsA (.ref (n_a G v) :: n_v G (.ref o) :: List.map (n_v G) st'))
        rw [ha]
        unfold k_fw at g3
        rw [if_pos rfl] at g3
        refine W.putFinK C.1 C.2.1 C.2.2.2.1 g3 f4 f5 (hcf (by rw [← hog]; exact C.2.2.2.1)) (C.2.2.2.2.2.2.2.1 hini) hSd f1 f2 f6 rfl rfl hd fun H' e1 e2 e3 => ?_
        refine kk _ _ _ _ _ (n_R_wr hr ho rfl (fun _ _ _ => rfl) (fun _ _ _ => rfl) (fun a b h => n_up_ne a b h) (fun k => ?_) e2 e3 (f8 (.ref (n_a G v)) _ H' e1 fun j hj => ?_) (hr.2.2.1.put e2 e3 (Nat.le_add_right _ _)))
        · dsimp only
          rw [n_up_row]
          by_cases ej : k = n % 64
          · rw [if_pos ej]
            exact hvl
          · rw [if_neg ej]
            exact hr.2.2.2.2.2.2.2 o k (List.getElem?_eq_some_iff.mp ho).1
        · dsimp only
          rw [n_up_row]
          by_cases ej : j = n % 64
          · subst ej
            rw [if_pos rfl, if_pos rfl, if_pos hrf]
            rfl
          · rw [if_neg ej, if_neg ej]
      · cases hk
    · cases he
  · cases he
end
