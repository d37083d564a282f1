/-! ARRAYS, NEW CELLS, special references -/
section
variable {G : n_G} {X : e_X} {p : Program} {l : Launch} {e : Env} {R : Room} {s : State} {m : MethodId} {args : Array Value} {below : List Frame} {meth : Method} {c : Code} {g nL k0 s0 : Nat}
theorem n_iaload (C : n_C G X p R s m args meth c g nL) : n_Q G X p l e R s m args below meth c g nL k0 s0 .iaload := by
  intro i pc len mm mm' ls ls' st st' H locs lsA cells slots Q hd hk he hr h1 h2 h3 h4 kk
  simp only [k_ok, Bool.and_eq_true, decide_eq_true_eq] at hk
  obtain ⟨rfl, rfl⟩ := hk
  simp only [e_st] at he
  split at he
  · rename_i j o r
    split at he
    · rename_i hin
      cases he
      obtain ⟨z, ho, hz⟩ := e_ar_at hin
      have ha : n_v G (.ref o) = .ref (n_b G + o) := by rw [n_v, n_R_lt ho h1]
      show W p l e R s m args below meth c H locs cells slots Q (F0 m pc lsA (.int j :: n_v G (.ref o) :: List.map (n_v G) r))
      rw [ha]
      exact va_iald C.1 C.2.1 C.2.2.2.2.2.1 hr.2.1 o 0 (n_int ho) rfl hz hd (kk _ _ _ _ _ hr)
    · cases he
  · cases he
theorem n_caload (C : n_C G X p R s m args meth c g nL) : n_Q G X p l e R s m args below meth c g nL k0 s0 .caload := by
  intro i pc len mm mm' ls ls' st st' H locs lsA cells slots Q hd hk he hr h1 h2 h3 h4 kk
  simp only [k_ok, Bool.and_eq_true, decide_eq_true_eq] at hk
  obtain ⟨rfl, rfl⟩ := hk
  simp only [e_st] at he
  split at he
  · rename_i j o r
    split at he
    · rename_i hin
      cases he
      obtain ⟨z, ho, hz⟩ := e_ar_at hin
      have ha : n_v G (.ref o) = .ref (n_b G + o) := by rw [n_v, n_R_lt ho h1]
      show W p l e R s m args below meth c H locs cells slots Q (F0 m pc lsA (.int j :: n_v G (.ref o) :: List.map (n_v G) r))
      rw [ha]
      exact va_cald C.1 C.2.1 C.2.2.2.2.2.1 hr.2.1 o 1 (n_chr ho) rfl hz hd (kk _ _ _ _ _ hr)
    · cases he
  · cases he
theorem n_laload (C : n_C G X p R s m args meth c g nL) : n_Q G X p l e R s m args below meth c g nL k0 s0 .laload := by
  intro i pc len mm mm' ls ls' st st' H locs lsA cells slots Q hd hk he hr h1 h2 h3 h4 kk
  simp only [k_ok, Bool.and_eq_true, decide_eq_true_eq] at hk
  obtain ⟨rfl, rfl⟩ := hk
  simp only [e_st] at he
  split at he
  · rename_i j o r
    split at he
    · rename_i hin
      cases he
      obtain ⟨z, ho, hz⟩ := e_ar_at hin
      have ha : n_v G (.ref o) = .ref (n_b G + o) := by rw [n_v, n_R_lt ho h1]
      show W p l e R s m args below meth c H locs cells slots Q (F0 m pc lsA (.int j :: n_v G (.ref o) :: List.map (n_v G) r))
      rw [ha]
      exact va_lald C.1 C.2.1 C.2.2.2.2.2.1 hr.2.1 o 2 (n_lng ho) rfl hz hd (kk _ _ _ _ _ hr)
    · cases he
  · cases he
theorem n_aaload (C : n_C G X p R s m args meth c g nL) : n_Q G X p l e R s m args below meth c g nL k0 s0 .aaload := by
  intro i pc len mm mm' ls ls' st st' H locs lsA cells slots Q hd hk he hr h1 h2 h3 h4 kk
  simp only [k_ok, Bool.and_eq_true, decide_eq_true_eq] at hk
  obtain ⟨rfl, rfl⟩ := hk
  simp only [e_st] at he
  split at he
  · rename_i j o r
    split at he
    · rename_i k z ho
      split at he
      · rename_i hin
        simp only [Bool.and_eq_true, decide_eq_true_eq] at hin
        obtain ⟨hko, hin⟩ := hin
        have hko : 200 ≤ k := hko
        cases he
        have ha : n_v G (.ref o) = .ref (n_b G + o) := by rw [n_v, n_R_lt ho h1]
        show W p l e R s m args below meth c H locs cells slots Q (F0 m pc lsA (.int j :: n_v G (.ref o) :: List.map (n_v G) r))
        rw [ha]
        have hkk : k = 206 ∨ k = 207 := by
          rcases hr.2.2.2.2.2.2.1 o _ ho with h | h | h | h | h | h <;> dsimp only at h <;> omega
        have fin : W p l e R s m args below meth c H locs cells slots Q (F0 m (pc + 1) lsA (va_rf (n_o G (mm.2.2.2 o j.toNatClampNeg)) :: List.map (n_v G) r)) := by
          rw [← n_v_rf]
          exact kk _ _ _ _ _ hr
        rcases hkk with rfl | rfl
        · exact va_aldq C.1 C.2.1 C.2.2.2.2.2.1 hr.2.1 o 3 (n_row ho (by omega)) rfl (e_in_iff.mp hin) hd fin
        · exact va_aldq C.1 C.2.1 C.2.2.2.2.2.1 hr.2.1 o 4 (n_row ho (by omega)) rfl (e_in_iff.mp hin) hd fin
      · cases he
    · cases he
  · cases he
theorem n_alen (C : n_C G X p R s m args meth c g nL) : n_Q G X p l e R s m args below meth c g nL k0 s0 .arraylength := by
  intro i pc len mm mm' ls ls' st st' H locs lsA cells slots Q hd hk he hr h1 h2 h3 h4 kk
  simp only [k_ok, Bool.and_eq_true, decide_eq_true_eq] at hk
  obtain ⟨rfl, rfl⟩ := hk
  simp only [e_st] at he
  split at he
  · rename_i o r
    split at he
    · rename_i k z ho
      split at he
      · rename_i hin
        simp only [decide_eq_true_eq] at hin
        subst hin
        cases he
        have ha : n_v G (.ref o) = .ref (n_b G + o) := by rw [n_v, n_R_lt ho h1]
        show W p l e R s m args below meth c H locs cells slots Q (F0 m pc lsA (n_v G (.ref o) :: List.map (n_v G) r))
        rw [ha]
        exact va_alen C.1 C.2.1 C.2.2.2.2.2.1 hr.2.1 o 0 (n_int ho) rfl rfl hd (kk _ _ _ _ _ hr)
      · cases he
    · cases he
  · cases he
theorem n_arr_at {D : va_G} {cl : List vw_C} {a : Nat} {cA : ClassId} {n : Nat} {H1 : Heap} {F F' : Nat → Value} {k : Nat} {v : Value} {x : vp_A} (hx : vp_cell cA x = arrV cA n F') (h : H1[a]? = some ((arrV cA n F).setSlot k v)) (hF : ∀ j, F' j = if j = k then v else F j) : va_at D cl (a, .inl (cA, x)) H1 := by
  show H1[a]? = some (vp_cell cA x)
  rw [h, hx, arrV_store]
  congr 2
  funext j
  rw [hF]
  rfl
theorem n_iastore (C : n_C G X p R s m args meth c g nL) : n_Q G X p l e R s m args below meth c g nL k0 s0 .iastore := by
  intro i pc len mm mm' ls ls' st st' H locs lsA cells slots Q hd hk he hr h1 h2 h3 h4 kk
  simp only [k_ok, Bool.and_eq_true, decide_eq_true_eq] at hk
  obtain ⟨rfl, rfl⟩ := hk
  simp only [e_st] at he
  split at he
  · rename_i v j o r
    split at he
    · rename_i hin
      cases he
      obtain ⟨z, ho, hz⟩ := e_ar_at hin
      have ha : n_v G (.ref o) = .ref (n_b G + o) := by rw [n_v, n_R_lt ho h1]
      show W p l e R s m args below meth c H locs cells slots Q (F0 m pc lsA (.int v :: .int j :: n_v G (.ref o) :: List.map (n_v G) st'))
      rw [ha]
      refine W.iast C.1 C.2.1 (hr.2.1 o _ (n_int ho)) ((C.2.2.2.2.2.1.2 0 _ rfl).1 z (fun j => .int (mm.2.1 o j))) (fun q => by cases q) (by show ¬ (j < 0 ∨ (arrV _ _ _).slots.size ≤ _); rw [arrV_size]; exact hz) rfl rfl hd fun H1 e1 e2 e3 => ?_
      refine kk _ _ _ _ _ (n_R_wr hr ho rfl (fun a b h => n_up_ne a b h) (fun _ _ _ => rfl) (fun _ _ _ => rfl) (fun k => hr.2.2.2.2.2.2.2 o k (List.getElem?_eq_some_iff.mp ho).1) e2 e3 ?_ (hr.2.2.1.put e2 e3 (Nat.le_add_right _ _)))
      refine n_arr_at (k := j.toNatClampNeg) (v := .int v) (F := fun j => .int (mm.2.1 o j)) (vp_cell_i _ _ _) e1 fun q => ?_
      dsimp only
      rw [n_up_row]
      by_cases eq : q = j.toNatClampNeg
      · rw [if_pos eq, if_pos eq]
      · rw [if_neg eq, if_neg eq]
    · cases he
  · cases he
theorem n_castore (C : n_C G X p R s m args meth c g nL) : n_Q G X p l e R s m args below meth c g nL k0 s0 .castore := by
  intro i pc len mm mm' ls ls' st st' H locs lsA cells slots Q hd hk he hr h1 h2 h3 h4 kk
  simp only [k_ok, Bool.and_eq_true, decide_eq_true_eq] at hk
  obtain ⟨rfl, rfl⟩ := hk
  simp only [e_st] at he
  split at he
  · rename_i v j o r
    split at he
    · rename_i hin
      simp only [Bool.and_eq_true, decide_eq_true_eq] at hin
      obtain ⟨hin, hch⟩ := hin
      cases he
      obtain ⟨z, ho, hz⟩ := e_ar_at hin
      have ha : n_v G (.ref o) = .ref (n_b G + o) := by rw [n_v, n_R_lt ho h1]
      show W p l e R s m args below meth c H locs cells slots Q (F0 m pc lsA (.int v :: .int j :: n_v G (.ref o) :: List.map (n_v G) st'))
      rw [ha]
      refine W.cast C.1 C.2.1 (hr.2.1 o _ (n_chr ho)) ((C.2.2.2.2.2.1.2 1 _ rfl).1 z (fun j => .int (mm.2.1 o j))) (fun q => by cases q) (by show ¬ (j < 0 ∨ (arrV _ _ _).slots.size ≤ _); rw [arrV_size]; exact hz) rfl rfl hd fun H1 e1 e2 e3 => ?_
      refine kk _ _ _ _ _ (n_R_wr hr ho rfl (fun a b h => n_up_ne a b h) (fun _ _ _ => rfl) (fun _ _ _ => rfl) (fun k => hr.2.2.2.2.2.2.2 o k (List.getElem?_eq_some_iff.mp ho).1) e2 e3 ?_ (hr.2.2.1.put e2 e3 (Nat.le_add_right _ _)))
      have hv : narrow .char (.int v) = .int v := by
        have := vp_nar_char v
        first
          | (show Value.int _ = _; congr 1)
          | simpa [narrow] using hch
      refine n_arr_at (k := j.toNatClampNeg) (v := .int v) (F := fun j => .int (mm.2.1 o j)) (vp_cell_i _ _ _) (by first | exact e1 | (rw [hv] at e1; exact e1)) fun q => ?_
      dsimp only
      rw [n_up_row]
      by_cases eq : q = j.toNatClampNeg
      · rw [if_pos eq, if_pos eq]
      · rw [if_neg eq, if_neg eq]
    · cases he
  · cases he
theorem n_lastore (C : n_C G X p R s m args meth c g nL) : n_Q G X p l e R s m args below meth c g nL k0 s0 .lastore := by
  intro i pc len mm mm' ls ls' st st' H locs lsA cells slots Q hd hk he hr h1 h2 h3 h4 kk
  simp only [k_ok, Bool.and_eq_true, decide_eq_true_eq] at hk
  obtain ⟨rfl, rfl⟩ := hk
  simp only [e_st] at he
  split at he
  · rename_i v j o r
    split at he
    · rename_i hin
      cases he
      obtain ⟨z, ho, hz⟩ := e_ar_at hin
      have ha : n_v G (.ref o) = .ref (n_b G + o) := by rw [n_v, n_R_lt ho h1]
      show W p l e R s m args below meth c H locs cells slots Q (F0 m pc lsA (.long v :: .int j :: n_v G (.ref o) :: List.map (n_v G) st'))
      rw [ha]
      refine W.last C.1 C.2.1 (hr.2.1 o _ (n_lng ho)) ((C.2.2.2.2.2.1.2 2 _ rfl).1 z (fun j => .long (mm.2.2.1 o j))) (fun q => by cases q) (by show ¬ (j < 0 ∨ (arrV _ _ _).slots.size ≤ _); rw [arrV_size]; exact hz) rfl rfl hd fun H1 e1 e2 e3 => ?_
      refine kk _ _ _ _ _ (n_R_wr hr ho rfl (fun _ _ _ => rfl) (fun a b h => n_up_ne a b h) (fun _ _ _ => rfl) (fun k => hr.2.2.2.2.2.2.2 o k (List.getElem?_eq_some_iff.mp ho).1) e2 e3 ?_ (hr.2.2.1.put e2 e3 (Nat.le_add_right _ _)))
      refine n_arr_at (k := j.toNatClampNeg) (v := .long v) (F := fun j => .long (mm.2.2.1 o j)) (vp_cell_l _ _ _) e1 fun q => ?_
      dsimp only
      rw [n_up_row]
      by_cases eq : q = j.toNatClampNeg
      · rw [if_pos eq, if_pos eq]
      · rw [if_neg eq, if_neg eq]
    · cases he
  · cases he
theorem n_aastore (C : n_C G X p R s m args meth c g nL) : n_Q G X p l e R s m args below meth c g nL k0 s0 .aastore := by
  intro i pc len mm mm' ls ls' st st' H locs lsA cells slots Q hd hk he hr h1 h2 h3 h4 kk
  simp only [k_ok, Bool.and_eq_true, decide_eq_true_eq] at hk
  obtain ⟨rfl, rfl⟩ := hk
  simp only [e_st] at he
  split at he
  · rename_i v j o r
    split at he
    · rename_i k z d zd ho hvv
      split at he
      · rename_i hin
        simp only [Bool.and_eq_true, decide_eq_true_eq] at hin
        obtain ⟨⟨hd1, hd2⟩, hin⟩ := hin
        have hd1 : d < 100 := hd1
        have hd2 : k = 200 + d := hd2
        cases he
        have ha : n_v G (.ref o) = .ref (n_b G + o) := by rw [n_v, n_R_lt ho h1]
        have hb : n_v G (.ref v) = .ref (n_b G + v) := by rw [n_v, n_R_lt hvv h1]
        show W p l e R s m args below meth c H locs cells slots Q (F0 m pc lsA (n_v G (.ref v) :: .int j :: n_v G (.ref o) :: List.map (n_v G) st'))
        rw [ha, hb]
        have hkk : k = 206 ∨ k = 207 := by
          rcases hr.2.2.2.2.2.2.1 o _ ho with h | h | h | h | h | h <;> dsimp only at h <;> omega
        have hdd : d < 11 := by omega
        have hvl := (List.getElem?_eq_some_iff.mp hvv).1
        have hz := e_in_iff.mp hin
        have hlt : j.toNatClampNeg < z := Nat.not_le.mp fun q => hz (Or.inr q)
        have h0 : ¬ j < 0 := fun q => hz (Or.inl q)
        obtain ⟨-, hwv⟩ := n_obj (G := G) hr.2.2.2.2.2.2 hvv hdd
        obtain ⟨r', hr', cellV, g1, g2, g3, -⟩ := hr.2.1 v _ hwv
        have hcls := (C.2.2.2.2.2.1.1 d _ (q_cl_at hdd)).2
        obtain ⟨t0, ht0⟩ : ∃ t0 : Nat, (n_t G)[t0]? = some (G.2.1 k, FieldType.object (g_cn d)) := by
          rcases hkk with rfl | rfl
          · exact ⟨3, by rw [show d = 6 by omega]; rfl⟩
          · exact ⟨4, by rw [show d = 7 by omega]; rfl⟩
        obtain ⟨kA, comp, k1, k2, k3, -⟩ := (C.2.2.2.2.2.1.2 t0 _ ht0).2
        have hcomp : comp = G.1.1 d := Option.some.inj (k3.symm.trans hcls.1)
        subst hcomp
        obtain ⟨kC, hkC, -⟩ := hcls.2
        refine W.aast C.1 C.2.1 (hr.2.1 o _ (n_row ho (by omega))) (fun q h => by cases h) (fun h => by cases h) k1 k2 rfl hkC ⟨h0, by show _ < (arrV _ _ _).slots.size; rw [arrV_size]; exact hlt⟩ g1 (fun q h => by rw [g3] at h; cases h) (by rw [g2]; exact hkC) (by rw [g2]; exact va_assign hcls) rfl rfl hd fun H1 e1 e2 e3 => ?_
        refine kk _ _ _ _ _ (n_R_wr hr ho rfl (fun _ _ _ => rfl) (fun _ _ _ => rfl) (fun a b h => n_up_ne a b h) (fun q => ?_) e2 e3 ?_ (hr.2.2.1.put e2 e3 (Nat.le_add_right _ _)))
        · dsimp only
          rw [n_up_row]
          by_cases ej : q = j.toNatClampNeg
          · rw [if_pos ej]; omega
          · rw [if_neg ej]
            exact hr.2.2.2.2.2.2.2 o q (List.getElem?_eq_some_iff.mp ho).1
        · unfold n_cell
          rw [if_neg (by omega), if_neg (by omega), if_neg (by omega)]
          refine n_arr_at (k := j.toNatClampNeg) (v := .ref (n_b G + v)) (F := fun j => va_rf (n_o G (mm.2.2.2 o j))) (vp_cell_q _ _ _) e1 fun q => ?_
          dsimp only
          rw [n_up_row]
          by_cases eq : q = j.toNatClampNeg
          · rw [if_pos eq, if_pos eq]
            show Value.ref (n_a G v) = _
            rw [n_R_lt hvv h1]
          · rw [if_neg eq, if_neg eq]
      · cases he
    · cases he
  · cases he
end
