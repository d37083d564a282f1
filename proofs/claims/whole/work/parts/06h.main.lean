/-! BLOCKS AND METHODS, as the evaluator runs them -/
theorem n_sw_look {J : Nat → e_R} {x : Int32} (pc : Nat) (d : Int) : ∀ (ps : List (Int × Int)), e_sw J ((pc : Int) + d) (ps.map fun q => (q.1, (pc : Int) + q.2)) x = J ((pc : Int) + Op.lookupswitch.offset ps d x.toInt).toNat
  | [] => rfl
  | (a, o) :: ps => by
    show (if x.toInt = a then J ((pc : Int) + o).toNat else e_sw J _ _ x) = _
    by_cases h : x.toInt = a
    · rw [if_pos h]
      simp [Op.lookupswitch.offset, h]
    · rw [if_neg h]
      have e : Op.lookupswitch.offset ((a, o) :: ps) d x.toInt = Op.lookupswitch.offset ps d x.toInt := by
        have h' : ¬ a = x.toInt := fun q => h q.symm
        simp [Op.lookupswitch.offset, h, h']
      rw [e]
      exact n_sw_look pc d ps
theorem n_sw_tab {J : Nat → e_R} {x : Int32} (pc : Nat) (D : Int) : ∀ (offs : List Int) (lo : Int), e_sw J D (offs.mapIdx fun j o => (lo + j, (pc : Int) + o)) x = if x.toInt < lo ∨ lo + offs.length ≤ x.toInt then J D.toNat else J ((pc : Int) + offs.getD (x.toInt - lo).toNat 0).toNat
  | [], lo => by
    rw [if_pos (by simp; omega)]
    rfl
  | o :: offs, lo => by
    rw [List.mapIdx_cons]
    have ih := n_sw_tab (J := J) (x := x) pc D offs (lo + 1)
    have ef : (fun (j : Nat) (o : Int) => (lo + 1 + (j : Int), (pc : Int) + o)) = fun j o => (lo + ((j + 1 : Nat) : Int), (pc : Int) + o) := by
      funext j o
      congr 1
      omega
    rw [ef] at ih
    show (if x.toInt = lo + ((0 : Nat) : Int) then J ((pc : Int) + o).toNat else e_sw J D (offs.mapIdx fun (i : Nat) (o : Int) => (lo + ((i + 1 : Nat) : Int), (pc : Int) + o)) x) = _
    rw [ih]
    by_cases h : x.toInt = lo
    · rw [if_pos (by omega), if_neg (by simp only [List.length_cons]; omega), h, Int.sub_self]
      rfl
    · rw [if_neg (by omega)]
      by_cases h2 : x.toInt < lo ∨ lo + 1 + (offs.length : Int) ≤ x.toInt
      · rw [if_pos (by omega), if_pos (by simp only [List.length_cons]; omega)]
      · rw [if_neg (by omega), if_neg (by simp only [List.length_cons]; omega)]
        have e : (x.toInt - lo).toNat = (x.toInt - (lo + 1)).toNat + 1 := by omega
        rw [e, List.getD_cons_succ]
theorem k_chk_cons {c pc : Nat} {b : ByteArray} {r0 : Instr} {rs : List Instr} (hj : ∀ t, r0 ≠ .jsr t) (h : k_chk c b pc (r0 :: rs) = true) : ∃ i len, decode b pc = .ok (i, len) ∧ k_ok c pc len i r0 = true ∧ k_chk c b (pc + len) rs = true := by
  unfold k_chk at h
  split at h
  · exact absurd rfl (hj _)
  · split at h
    · rename_i i len hd
      rw [Bool.and_eq_true] at h
      exact ⟨i, len, hd, h.1, h.2⟩
    · cases h
section
variable {G : n_G} {X : e_X} {p : Program} {l : Launch} {e : Env} {R : Room} {s : State} {m : MethodId} {args : Array Value} {below : List Frame} {meth : Method} {c : Code} {g nL k0 s0 d : Nat} {S : Nat → List Value → e_M → e_R} {Q : State → Prop}
theorem n_plain (C : n_C G X p R s m args meth c g nL) (r : Instr) : n_Q G X p l e R s m args below meth c g nL k0 s0 r := by
  cases r <;> first
    | exact n_iload C | exact n_aload C | exact n_getfield C | exact n_getref C | exact n_sipush C | exact n_istore C | exact n_putfield C
    | exact n_iaload C | exact n_iastore C | exact n_iadd C | exact n_isub C | exact n_imul C | exact n_iand C | exact n_ior C | exact n_ixor C | exact n_ishl C | exact n_ishr C | exact n_iushr C
    | exact n_idiv C | exact n_irem C | exact n_ineg C | exact n_i2b C | exact n_i2s C | exact n_i2c C | exact n_ladd C | exact n_lsub C | exact n_land C | exact n_lor C | exact n_lxor C
    | exact n_lshl C | exact n_lshr C | exact n_lushr C | exact n_lcmp C | exact n_i2l C | exact n_l2i C | exact n_dup C | exact n_pop C | exact n_dup_x1 C | exact n_dup2 C | exact n_lconst C
    | exact n_lload C | exact n_astore C | exact n_lstore C | exact n_iinc C | exact n_dadd C | exact n_dsub C | exact n_dneg C | exact n_pop2 C | exact n_putref C
    | exact n_caload C | exact n_laload C | exact n_aaload C | exact n_alen C | exact n_castore C | exact n_lastore C | exact n_aastore C | exact n_new C | exact n_newarr C | exact n_anew C
    | exact n_getstatic C | exact n_faload C | exact n_fadd C | exact n_daload C | exact n_fsub C | exact n_baload C | exact n_fmul C | exact n_fload C | exact n_copy C
    | (intro i pc len mm mm' ls ls' st st' H locs lsA cells slots Q hd hk he; cases he; done)
theorem n_blk (C : n_C G X p R s m args meth c g nL) (hM : n_M l G X d S) (hRf : d + 2 ≤ R.frames) (hRl : 8 + (20 + 11) + 100 * (d + 1) ≤ R.locals) {J : Nat → List Value → List Value → e_M → e_R} (hSz : ∀ c as m r m', S c as m = some (r, m') → n_le m m') (hJz : ∀ t a b m r m', J t a b m = some (r, m') → n_le m m')
    {r : List Value} {mf : e_M} (h1 : mf.1.length ≤ 900) (h2 : mf.1.length ≤ R.cells + k0) (h3 : n_z mf ≤ R.slots + s0) (h4 : n_z mf ≤ 100000)
    (hJ : ∀ (t : Nat) (ls' st' : List Value) (mm' : e_M) (H' : Heap) (locs' : List Loc) (lsA' : Array Slot) (cells' slots' : Nat), J t ls' st' mm' = some (r, mf) → n_R G s k0 s0 nL mm' ls' H' locs' lsA' cells' slots' → W p l e R s m args below meth c H' locs' cells' slots' Q (F0 m t lsA' (st'.map (n_v G))))
    (hT : ∀ (pc' : Nat) (i ri : Instr) (H' : Heap) (locs' : List Loc) (lsA' : Array Slot) (ls' : List Value) (cells' slots' : Nat), decode (g_b g) pc' = .ok (i, 1) → ((i = .ireturn ∧ ∃ v ty, r = [.int v] ∧ g_ret g = some ty ∧ narrow ty (.int v) = .int v) ∨ (i = .lreturn ∧ (∃ v, r = [.long v]) ∧ g_ret g = some .long) ∨ (i = .return_ ∧ r = [] ∧ g_ret g = none)) → n_R G s k0 s0 nL mf ls' H' locs' lsA' cells' slots' → W p l e R s m args below meth c H' locs' cells' slots' Q (F0 m pc' lsA' (r.map (n_v G)))) :
    ∀ (is : List Instr) (pc : Nat) (mm : e_M) (ls st : List Value) (H : Heap) (locs : List Loc) (lsA : Array Slot) (cells slots : Nat), e_x X S J is ls st mm = some (r, mf) → k_chk g (g_b g) pc is = true → n_R G s k0 s0 nL mm ls H locs lsA cells slots → W p l e R s m args below meth c H locs cells slots Q (F0 m pc lsA (st.map (n_v G))) := by
  intro is
  induction is with
  | nil => intro pc mm ls st H locs lsA cells slots he; simp [e_x] at he
  | cons i0 is ih =>
    intro pc mm ls st H locs lsA cells slots he hc hr
    unfold e_x at he
    split at he
    · -- goto
      obtain ⟨i, len, hd, hk, hc'⟩ := k_chk_cons (fun t => by simp) hc
      simp only [k_ok] at hk
      split at hk
      · simp only [Bool.and_eq_true, decide_eq_true_eq] at hk
        obtain ⟨⟨rfl, ht⟩, h0⟩ := hk
        exact lv_goto C.1 C.2.1 hd (by rw [ht, Int.toNat_of_nonneg h0]) (hJ _ _ _ _ _ _ _ _ _ he hr)
      · cases hk
    · -- falling through
      unfold k_chk at hc
      simp only [decide_eq_true_eq] at hc
      rw [← hc, Int.toNat_natCast] at he
      exact hJ _ _ _ _ _ _ _ _ _ he hr
    · -- ifCond
      obtain ⟨i, len, hd, hk, hc'⟩ := k_chk_cons (fun t => by simp) hc
      rename_i k t
      split at he
      · rename_i x r0
        simp only [k_ok] at hk
        split at hk
        · rename_i k' off
          simp only [Bool.and_eq_true, decide_eq_true_eq] at hk
          obtain ⟨⟨⟨rfl, hkk⟩, ht⟩, h0⟩ := hk
          rw [hkk] at hd
          have ht' : (pc : Int) + off = (t.toNat : Int) := by rw [ht, Int.toNat_of_nonneg h0]
          have yes : e_c k x 0 = true → W p l e R s m args below meth c H locs cells slots Q (F0 m t.toNat lsA (List.map (n_v G) r0)) := fun h => by
            rw [if_pos h] at he
            exact hJ _ _ _ _ _ _ _ _ _ he hr
          have no : ¬ e_c k x 0 = true → W p l e R s m args below meth c H locs cells slots Q (F0 m (pc + 3) lsA (List.map (n_v G) r0)) := fun h => by
            rw [if_neg h] at he
            exact ih _ _ _ _ _ _ _ _ _ he hc' hr
          cases k
          · exact lv_if_eq C.1 C.2.1 hd ht' (fun h => yes (decide_eq_true h)) (fun h => no (by rw [e_c, decide_eq_true_eq]; exact h))
          · exact lv_if_ne C.1 C.2.1 hd ht' (fun h => yes (decide_eq_true h)) (fun h => no (by rw [e_c, decide_eq_true_eq]; exact not_not_intro h))
          · exact lv_if_lt C.1 C.2.1 hd ht' (fun h => yes (decide_eq_true h)) (fun h => no (by rw [e_c, decide_eq_true_eq]; exact h))
          · exact lv_if_ge C.1 C.2.1 hd ht' (fun h => yes (decide_eq_true h)) (fun h => no (by rw [e_c, decide_eq_true_eq]; exact h))
          · exact lv_if_gt C.1 C.2.1 hd ht' (fun h => yes (decide_eq_true h)) (fun h => no (by rw [e_c, decide_eq_true_eq]; exact h))
          · exact lv_if_le C.1 C.2.1 hd ht' (fun h => yes (decide_eq_true h)) (fun h => no (by rw [e_c, decide_eq_true_eq]; exact h))
        · cases hk
      · cases he
    · -- if_icmp
      obtain ⟨i, len, hd, hk, hc'⟩ := k_chk_cons (fun t => by simp) hc
      rename_i k t
      split at he
      · rename_i y x r0
        simp only [k_ok] at hk
        split at hk
        · rename_i k' off
          simp only [Bool.and_eq_true, decide_eq_true_eq] at hk
          obtain ⟨⟨⟨rfl, hkk⟩, ht⟩, h0⟩ := hk
          rw [hkk] at hd
          have ht' : (pc : Int) + off = (t.toNat : Int) := by rw [ht, Int.toNat_of_nonneg h0]
          have yes : e_c k x y = true → W p l e R s m args below meth c H locs cells slots Q (F0 m t.toNat lsA (List.map (n_v G) r0)) := fun h => by
            rw [if_pos h] at he
            exact hJ _ _ _ _ _ _ _ _ _ he hr
          have no : ¬ e_c k x y = true → W p l e R s m args below meth c H locs cells slots Q (F0 m (pc + 3) lsA (List.map (n_v G) r0)) := fun h => by
            rw [if_neg h] at he
            exact ih _ _ _ _ _ _ _ _ _ he hc' hr
          cases k
          · exact lv_icmp_eq C.1 C.2.1 hd ht' (fun h => yes (decide_eq_true h)) (fun h => no (by rw [e_c, decide_eq_true_eq]; exact h))
          · exact lv_icmp_ne C.1 C.2.1 hd ht' (fun h => yes (decide_eq_true h)) (fun h => no (by rw [e_c, decide_eq_true_eq]; exact not_not_intro h))
          · exact lv_icmp_lt C.1 C.2.1 hd ht' (fun h => yes (decide_eq_true h)) (fun h => no (by rw [e_c, decide_eq_true_eq]; exact h))
          · exact lv_icmp_ge C.1 C.2.1 hd ht' (fun h => yes (decide_eq_true h)) (fun h => no (by rw [e_c, decide_eq_true_eq]; exact h))
          · exact lv_icmp_gt C.1 C.2.1 hd ht' (fun h => yes (decide_eq_true h)) (fun h => no (by rw [e_c, decide_eq_true_eq]; exact h))
          · exact lv_icmp_le C.1 C.2.1 hd ht' (fun h => yes (decide_eq_true h)) (fun h => no (by rw [e_c, decide_eq_true_eq]; exact h))
        · cases hk
      · cases he
    · -- switches
      obtain ⟨i, len, hd, hk, hc'⟩ := k_chk_cons (fun t => by simp) hc
      split at he
      · rename_i x r0
        simp only [k_ok] at hk
        split at hk
        · rename_i e0 lo hi offs
          simp only [Bool.and_eq_true, decide_eq_true_eq, List.all_eq_true] at hk
          obtain ⟨⟨⟨⟨hd0, hd1⟩, hps⟩, hhi⟩, hall⟩ := hk
          rw [hps, ← hd0, n_sw_tab] at he
          have hsz : (offs.size : Int) = (offs.toList.length : Int) := by rw [Array.length_toList]
          by_cases hx : x.toInt < lo ∨ lo + (offs.toList.length : Int) ≤ x.toInt
          · rw [if_pos hx] at he
            exact lv_tableOut C.1 C.2.1 hd (by omega) (by rw [hd0, Int.toNat_of_nonneg hd1]) (by rw [hd0] at he; exact hJ _ _ _ _ _ _ _ _ _ he hr)
          · rw [if_neg hx] at he
            have hlt : (x.toInt - lo).toNat < offs.toList.length := by omega
            have ho : offs[(x.toInt - lo).toNat]? = some (offs.toList.getD (x.toInt - lo).toNat 0) := by
              rw [← Array.getElem?_toList, List.getD_eq_getElem?_getD, List.getElem?_eq_getElem hlt]
              rfl
            have h0 : 0 ≤ (pc : Int) + offs.toList.getD (x.toInt - lo).toNat 0 := by
              have hm : ((lo + ((x.toInt - lo).toNat : Int)), (pc : Int) + offs.toList.getD (x.toInt - lo).toNat 0) ∈ (offs.toList.mapIdx fun (j : Nat) (o : Int) => (lo + (j : Int), (pc : Int) + o)) := by
                refine List.mem_of_getElem? (i := (x.toInt - lo).toNat) ?_
                rw [List.getElem?_mapIdx, List.getD_eq_getElem?_getD, List.getElem?_eq_getElem hlt]
                rfl
              rw [← hps] at hm
              exact hall _ hm
            exact lv_tableIn C.1 C.2.1 hd (by omega) (by omega) ho (by rw [Int.toNat_of_nonneg h0]) (hJ _ _ _ _ _ _ _ _ _ he hr)
        · rename_i e0 qs
          simp only [Bool.and_eq_true, decide_eq_true_eq, List.all_eq_true (p := fun q : Int × Int => decide (0 ≤ q.2))] at hk
          obtain ⟨⟨⟨⟨hd0, hd1⟩, hps⟩, hall⟩, hso⟩ := hk
          rw [hps, ← hd0, n_sw_look] at he
          have h0 : 0 ≤ (pc : Int) + Op.lookupswitch.offset qs.toList e0 x.toInt := by
            rw [hps] at hall
            clear hps he hso hd
            generalize qs.toList = ql at hall
            induction ql with
            | nil => show 0 ≤ (pc : Int) + e0; omega
            | cons q ql ih2 =>
              obtain ⟨a, o⟩ := q
              by_cases h : x.toInt = a
              · have := hall (a, (pc : Int) + o) (by simp)
                simp [Op.lookupswitch.offset, h]
                simpa using this
              · have h' : ¬ a = x.toInt := fun q => h q.symm
                have e1 : Op.lookupswitch.offset ((a, o) :: ql) e0 x.toInt = Op.lookupswitch.offset ql e0 x.toInt := by simp [Op.lookupswitch.offset, h, h']
                rw [e1]
                exact ih2 fun z hz => hall z (by rw [List.map_cons]; exact List.mem_cons_of_mem _ hz)
          exact lv_lookup C.1 C.2.1 hd hso rfl (by rw [Int.toNat_of_nonneg h0]) (hJ _ _ _ _ _ _ _ _ _ he hr)
        · cases hk
      · cases he
    · -- ireturn
      obtain ⟨i, len, hd, hk, hc'⟩ := k_chk_cons (fun t => by simp) hc
      split at he
      · rename_i x
        cases he
        simp only [k_ok, Bool.and_eq_true, decide_eq_true_eq] at hk
        obtain ⟨⟨rfl, rfl⟩, hg⟩ := hk
        exact hT pc _ .ireturn _ _ _ _ _ _ hd (Or.inl ⟨rfl, x, .int, rfl, hg, rfl⟩) hr
      · cases he
    · -- a boolean
      obtain ⟨i, len, hd, hk, hc'⟩ := k_chk_cons (fun t => by simp) hc
      split at he
      · rename_i x
        split at he
        · rename_i hx
          cases he
          simp only [k_ok, Bool.and_eq_true, decide_eq_true_eq] at hk
          obtain ⟨⟨rfl, rfl⟩, hg⟩ := hk
          refine hT pc _ .ireturn _ _ _ _ _ _ hd (Or.inl ⟨rfl, x, .boolean, rfl, hg, ?_⟩) hr
          simp only [Bool.or_eq_true, decide_eq_true_eq] at hx
          rcases hx with rfl | rfl <;> rfl
        · cases he
      · cases he
    · -- a char
      obtain ⟨i, len, hd, hk, hc'⟩ := k_chk_cons (fun t => by simp) hc
      split at he
      · rename_i x
        split at he
        · rename_i hx
          cases he
          simp only [k_ok, Bool.and_eq_true, decide_eq_true_eq] at hk
          obtain ⟨⟨rfl, rfl⟩, hg⟩ := hk
          refine hT pc _ .ireturn _ _ _ _ _ _ hd (Or.inl ⟨rfl, _, .char, rfl, hg, ?_⟩) hr
          have := pk_nc x
          rw [hx] at this
          exact this
        · cases he
      · cases he
    · -- a byte
      obtain ⟨i, len, hd, hk, hc'⟩ := k_chk_cons (fun t => by simp) hc
      split at he
      · rename_i x
        split at he
        · rename_i hx
          cases he
          simp only [k_ok, Bool.and_eq_true, decide_eq_true_eq] at hk
          obtain ⟨⟨rfl, rfl⟩, hg⟩ := hk
          refine hT pc _ .ireturn _ _ _ _ _ _ hd (Or.inl ⟨rfl, _, .byte, rfl, hg, ?_⟩) hr
          have := pk_nb x
          rw [hx] at this
          exact this
        · cases he
      · cases he
    · -- lreturn
      obtain ⟨i, len, hd, hk, hc'⟩ := k_chk_cons (fun t => by simp) hc
      split at he
      · rename_i x
        cases he
        simp only [k_ok, Bool.and_eq_true, decide_eq_true_eq] at hk
        obtain ⟨⟨rfl, rfl⟩, hg⟩ := hk
        exact hT pc _ .lreturn _ _ _ _ _ _ hd (Or.inr (Or.inl ⟨rfl, ⟨x, rfl⟩, hg⟩)) hr
      · cases he
    · -- return
      obtain ⟨i, len, hd, hk, hc'⟩ := k_chk_cons (fun t => by simp) hc
      split at he
      · cases he
        simp only [k_ok, Bool.and_eq_true, decide_eq_true_eq] at hk
        obtain ⟨⟨rfl, rfl⟩, hg⟩ := hk
        exact hT pc _ .return_ _ _ _ _ _ _ hd (Or.inr (Or.inr ⟨rfl, rfl, hg⟩)) hr
      · cases he
    · -- a call
      rename_i c' n
      obtain ⟨i, len, hd, hk, hc'⟩ := k_chk_cons (fun t => by simp) hc
      split at he
      · rename_i hlo
        rw [Bool.and_eq_true] at hlo
        split at he
        · rename_i r1 m2 hs
          have hle2 := e_x_sz hSz hJz _ _ _ _ _ _ he
          have b1 := hle2.1
          have b2 := hle2.2
          exact n_call C hM hRf hRl hd hk hlo.2 hs hr (hSz _ _ _ _ _ hs) (by omega) (by omega) (by omega) (by omega) fun H' locs' cells' slots' hr' => ih _ _ _ _ _ _ _ _ _ he hc' hr'
        · cases he
      · cases he
    · -- a plain one
      rename_i n1 n1b n2 n3 n4 n5 n5a n5b n5c n6 n7 n8
      obtain ⟨i, len, hd, hk, hc'⟩ := k_chk_cons (fun t q => n1b t q) hc
      split at he
      · rename_i ls' st' m' hs
        have hle2 := e_x_sz hSz hJz _ _ _ _ _ _ he
        have b1 := hle2.1
        have b2 := hle2.2
        exact n_plain C i0 i pc len mm m' ls ls' st st' H locs lsA cells slots Q hd hk hs hr (by omega) (by omega) (by omega) (by omega) fun H' locs' lsA' cells' slots' hr' => ih _ _ _ _ _ _ _ _ _ he hc' hr'
      · cases he
end
