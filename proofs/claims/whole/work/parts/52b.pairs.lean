/-! PAIRS: rows -/
theorem trf_e {I : Nat → Int → Int} {len wt : Int} (hl : len ≤ 4) (hn : 0 ≤ I 1 9) : ∀ (f : Nat) (c : co) (wo to : Int) (s : pac × (Int → Int)), (f : Int) ≤ len → (s.1.2.1 = 0 ∨ ∀ i, 0 ≤ i → i < len → 0 ≤ s.1.2.2.2.2 i ∧ s.1.2.2.2.2 i ≤ I 1 9) → (∀ i, 0 ≤ i → i < len - f → 0 ≤ s.2 i ∧ s.2 i ≤ I 1 9) → ((trf (wgh wt) I len f c wo to s).1.2.1 = 0 ∨ ∀ i, 0 ≤ i → i < len → 0 ≤ (trf (wgh wt) I len f c wo to s).1.2.2.2.2 i ∧ (trf (wgh wt) I len f c wo to s).1.2.2.2.2 i ≤ I 1 9) ∧ ∀ i, 0 ≤ i → i < len - f → 0 ≤ (trf (wgh wt) I len f c wo to s).2 i ∧ (trf (wgh wt) I len f c wo to s).2 i ≤ I 1 9 := by
  intro f
  induction f with
  | zero =>
    intro c wo to s hf hg hA
    refine ⟨?_, hA⟩
    right
    intro i i0 i1
    show 0 ≤ (wgh wt s.2 wo to c.2.2.2 s.1).2.2.2.2 i ∧ (wgh wt s.2 wo to c.2.2.2 s.1).2.2.2.2 i ≤ I 1 9
    unfold wgh
    dsimp only
    by_cases q : s.1.2.1 = 0 ∨ s.1.1 < wo
    · rw [if_pos q]
      unfold cpy4
      rw [if_pos ⟨i0, by omega⟩]
      exact hA i i0 (by omega)
    · rw [if_neg q]
      rcases hg with z | z
      · exact absurd (Or.inl z) q
      · exact z i i0 i1
  | succ f ih =>
    intro c wo to s hf hg hA
    refine lpk_ind (fun s : pac × (Int → Int) => (s.1.2.1 = 0 ∨ ∀ i, 0 ≤ i → i < len → 0 ≤ s.1.2.2.2.2 i ∧ s.1.2.2.2.2 i ≤ I 1 9) ∧ ∀ i, 0 ≤ i → i < len - ((f + 1 : Nat) : Int) → 0 ≤ s.2 i ∧ s.2 i ≤ I 1 9) _ 0 s ⟨hg, hA⟩ (fun j j0 j1 s hs => ?_)
    obtain ⟨r1, r2⟩ := ih (pas I c j).2 (wo + (pas I c j).1) (if j = 0 then to else to + 1) (s.1, upf s.2 (len - ((f : Int) + 1)) j) (by omega) hs.1 (fun i i0 i1 => by
      show 0 ≤ (if i = len - ((f : Int) + 1) then j else s.2 i) ∧ (if i = len - ((f : Int) + 1) then j else s.2 i) ≤ I 1 9
      by_cases q : i = len - ((f : Int) + 1)
      · rw [if_pos q]
        omega
      · rw [if_neg q]
        exact hs.2 i i0 (by omega))
    exact ⟨r1, fun i i0 i1 => r2 i i0 (by omega)⟩
theorem tra_e {I : Nat → Int → Int} (h : inv I) {c : co} (hc : cok I c) {n wt : Int} (hn : 0 ≤ n ∧ n ≤ 4) (hp : 0 < (tra I c n wt).1.2.1) : ∀ i, 0 ≤ i → i < yec I c n → 0 ≤ (tra I c n wt).1.2.2.2.2 i ∧ (tra I c n wt).1.2.2.2.2 i ≤ I 1 9 := by
  have hy := yec_b hn.1 hc
  have r := (trf_e (I := I) (len := yec I c n) (wt := wt) (by omega) h.1.1 (yec I c n).toNat c 0 0 (pl0 I, I 49) (by omega) (Or.inl rfl) (fun i i0 i1 => by omega)).1
  rcases r with r | r
  · unfold tra at hp
    omega
  · exact r
section
variable {X : e_X} {d : Nat} {I J : Nat → Int → Int}
theorem q_prove (h : Rel I J) {a : Int} (ha : rg a) : pr X d I J 152 271 [.int (iI a)] := by
  have em := fun M => m_pln (X := X) (d := d + 27) (I := M) (J := J) (n := a) ha
  by_cases q : 0 ≤ a ∧ a ≤ 4
  · have hi := h.1.1
    have hE := h.1.2.2.2.1
    have hR := h.1.2.1
    have hc := inv_cof hi
    have hn6 := hi.1
    have hy := yec_b (I := I) (m := a) q.1 hc
    have hp := pr_tra (M := I) hi hc (n := a) (wt := 0) q (by decide)
    have hA := tra_e hi hc q hp.1
    obtain ⟨⟨F1, e1⟩, -⟩ := p_tra (X := X) (d := d + 18) (J := J) hi hR hc (I 14) (n := a) (wt := 0) q (by decide)
    rw [bk_self] at e1
    obtain ⟨F2, e2⟩ := w_fil (X := X) (d := d + 23) (J := J) (B := plo I (yec I (cof I) a) 0 (tra I (cof I) a 0).1 (tra I (cof I) a 0).2) plo_sq hi hR (A := (tra I (cof I) a 0).1.2.2.2.2) (n := yec I (cof I) a) rfl (by omega) (fun i i0 i1 => by have := hA i i0 i1; omega) hc hy.2.2 (C := I 52) (F := F1) (cn := I 51 2)
    have hid : rwo (plo I (yec I (cof I) a) 0 (tra I (cof I) a 0).1 (tra I (cof I) a 0).2) (I 51 2) (I 52) = plo I (yec I (cof I) a) 0 (tra I (cof I) a 0).1 (tra I (cof I) a 0).2 := rwo_id
    rw [hid] at e2
    generalize hP : plo I (yec I (cof I) a) 0 (tra I (cof I) a 0).1 (tra I (cof I) a 0).2 = P at *
    have r1 : bk P (cof I) F1 48 3 = yec I (cof I) a := by rw [← hP]; rfl
    generalize hN : bk (rwo P (yec I (cof I) a) (fil I (tra I (cof I) a 0).1.2.2.2.2 (yec I (cof I) a).toNat 0 (cof I) (I 52))) (cof I) F2 = N at *
    have n70 : N 70 = I 70 := by rw [← hN, ← hP]; rfl
    have hself : mk N (I 1 9) (cof I) (I 1 13) (N 73) = N := mk_self2 h.1.2.2.2.2.2.2 n70
    have hpN := pr_tra (M := N) hi hc (n := a) (wt := 0) q (by decide)
    have hAN : ∀ i, 0 ≤ i → i < yec I (cof I) a → 0 ≤ (mtra I N (cof I) a 0).1.2.2.2.2 i ∧ (mtra I N (cof I) a 0).1.2.2.2.2 i ≤ I 1 9 := fun i i0 i1 => by
      rw [← hpN.2.2.2.2.2 i i0 i1]
      exact hA i i0 i1
    obtain ⟨S', L, P', e3⟩ := m_prv (X := X) (d := d + 15) (J := J) (M := N) hi (by rw [n70]; exact hE) (by rw [n70]; exact h.1.2.2.2.2.1) hR hc (sc := I 1 13) (N 73) (n := a) q hAN
    rw [hself] at e3
    have k1 : kpE eRW I N := by
      rw [← hN]
      refine kpE_bk (fun o k s z => ?_) (by rw [← hP]; rfl)
      have s' := scr_14 s
      unfold eRW at z
      show rwo P _ _ o k = I o k
      unfold rwo
      rw [if_neg (by omega), if_neg (by omega), ← hP]
      unfold plo
      rw [if_neg s'.2.2.2.1, if_neg s'.2.2.2.2.1, if_neg s'.2.2.2.2.2.1]
    have k2 : kpE eRW N (mk (b72 (mro (mpo N (mtra I N (cof I) a 0).1 (mtra I N (cof I) a 0).2 S') (yec I (cof I) a) (fil I (mtra I N (cof I) a 0).1.2.2.2.2 (yec I (cof I) a).toNat 0 (cof I) (N 83))) L) (I 1 9) (cof I) (I 1 13) P') := by
      refine kpE_mk hself (fun o k s z => ?_) rfl
      have s' := scr_14 s
      rw [b72_o s'.2.1]
      unfold eRW at z
      unfold mro
      by_cases ho : o = 69
      · subst ho
        rw [if_pos rfl, if_neg (by omega)]
        exact kp_mpo _ _ s
      · rw [if_neg ho, if_neg (by omega)]
        exact kp_mpo _ _ s
    refine ⟨yec I (cof I) a, N, J, _, J, ?_, ?_, Rel_rows h (kpE_tr k1 k2) ?_⟩
    · simp (disch := omega) only [v_152_0, u_152_0, x_iload1, x_sipush, x_call3_0, x_call3_1, x_call3_2, x_call3_3, x_call3_4, e_k_s, e_k_i, List.nil_append, List.cons_append, x_ifCond_eq, x_ifCond_eqb, x_ireturn, u_152_11, x_aload0, k_0_4, k_0_5, k_48_2, f_48_3, b_in, e1, r1, e2, ↓reduceIte, b01_0, ite_not, if_true, if_false, Int.reduceLT, Int.reduceEq]
    · exact e3
    · have c0 : ∀ k, N 52 k = fil I (tra I (cof I) a 0).1.2.2.2.2 (yec I (cof I) a).toNat 0 (cof I) (I 52) k := fun k => by rw [← hN]; rfl
      have c1 : N 51 2 = yec I (cof I) a := by rw [← hN]; rfl
      have c2 : N 83 = I 83 := by
        funext k
        rw [← hN, ← hP]
        rfl
      refine ⟨?_, ?_, fun i => ?_, fun i i0 i1 => ?_⟩
      · show 0 ≤ N 51 2 ∧ N 51 2 ≤ 4
        rw [c1]; omega
      · show yec I (cof I) a = N 51 2
        rw [c1]
      · show rg (N 52 i) ∧ rg (fil I (mtra I N (cof I) a 0).1.2.2.2.2 (yec I (cof I) a).toNat 0 (cof I) (N 83) i)
        rw [c0, c2]
        have hw := h.2.2.2.1.2.2.1
        exact ⟨fil_rg hi _ _ _ _ hc (by omega) (fun i => (hw i).1) (fun j j0 j1 => by have := hA j (by omega) (by omega); omega) i, fil_rg hi _ _ _ _ hc (by omega) (fun i => (hw i).2) (fun j j0 j1 => by have := hAN j (by omega) (by omega); omega) i⟩
      · have i1' : i < 3 * N 51 2 := i1
        show N 52 i = fil I (mtra I N (cof I) a 0).1.2.2.2.2 (yec I (cof I) a).toNat 0 (cof I) (N 83) i
        rw [c0, c2]
        rw [c1] at i1'
        exact fil_eq _ _ _ _ _ (by decide) (fun i i0 i1 => by omega) (fun j j0 j1 => hpN.2.2.2.2.2 j (by omega) (by omega)) i i0 (by omega)
  · refine ⟨-1, I, J, I, J, ?_, ?_, h⟩
    · simp (disch := omega) only [v_152_0, u_152_0, x_iload1, x_sipush, x_call3_0, x_call3_1, x_call3_2, x_call3_3, x_call3_4, e_k_s, e_k_i, List.nil_append, List.cons_append, x_ifCond_eq, x_ifCond_eqb, x_ireturn, u_152_11, x_aload0, k_0_4, k_0_5, k_48_2, f_48_3, b_nin, ↓reduceIte, b01_0, ite_not, if_true, if_false, Int.reduceLT, Int.reduceEq]
    · simp (disch := omega) only [v_271_69, u_271_0, x_iload1, x_call1_0, x_call1_1, x_call1_2, x_call1_3, x_call1_4, e_k_s, e_k_i, List.nil_append, List.cons_append, x_ifCond_ne, x_ifCond_neb, x_sipush, x_ireturn, u_271_9, x_aload0, x_call3_0, x_call3_1, x_call3_2, x_call3_3, x_call3_4, x_call2_0, x_call2_1, x_call2_2, x_call2_3, x_call2_4, p_69_29, x_istore2i, x_istore2r, x_istore2u, x_jsr, x_iload2, f_69_29, x_if_icmp_ge, k_69_28, x_imul, k_69_20, x_iadd, x_iinc2i, x_iinc2r, x_iinc2u, x_goto, u_271_93, ia_80, is_80, ia_83, is_83, em, ↓reduceIte, b01_0, ite_not, if_true, if_false, Int.reduceLT, Int.reduceEq]
      rw [if_neg q]
end
