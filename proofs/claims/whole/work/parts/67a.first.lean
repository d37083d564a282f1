/-! THE FIRST MEMORY is related; the goal -/
theorem fz_no {o : Nat} {b : Int} : ∀ (U : List (Nat × Nat × Int)), U.all (fun e => decide (e.1 ≠ o)) = true → fz U o b = 0
  | [], _ => rfl
  | e :: t, h => by
    rw [List.all_cons, Bool.and_eq_true, decide_eq_true_eq] at h
    show (if _ then _ else _) = _
    rw [if_neg (fun q => h.1 q.1.symm)]
    exact fz_no t h.2
theorem U1_z : fz U1 1 9 = 0 ∧ fz U1 9 5 = 0 ∧ fz U1 15 4 = 0 ∧ fz U1 0 2 = 0 ∧ fz U1 51 2 = 0 ∧ fz U1 55 1 = 0 := by decide +kernel
theorem U1_no52 : U1.all (fun e => decide (e.1 ≠ 52)) = true := by decide +kernel
theorem U1_no83 : U1.all (fun e => decide (e.1 ≠ 83)) = true := by decide +kernel
theorem U1_no86 : U1.all (fun e => decide (e.1 ≠ 86)) = true := by decide +kernel
theorem U1_ltr : (List.range 144).all (fun k => decide (fz U1 75 k = ltr.getD k 0)) = true := by decide +kernel
theorem U1_6 : ∀ g : Fin 6, ((0 ≤ fz U1 6 g.val ∧ fz U1 6 g.val ≤ 9) ∧ (0 ≤ fz U1 7 g.val ∧ fz U1 7 g.val ≤ 9)) ∧ fz U1 70 (26 + g.val) = fz U1 6 g.val ∧ fz U1 70 (32 + g.val) = fz U1 7 g.val := by decide +kernel
theorem U1_16 : ∀ y : Fin 16, (0 ≤ fz U1 8 y.val ∧ fz U1 8 y.val ≤ 15) ∧ fz U1 70 (10 + y.val) = fz U1 8 y.val := by decide +kernel
theorem U1_s : ∀ q : Fin 4, (-1 ≤ fz U1 (57 + 2 * q.val) 1 ∧ fz U1 (57 + 2 * q.val) 1 ≤ 4) ∧ (0 ≤ fz U1 (57 + 2 * q.val) 2 ∧ fz U1 (57 + 2 * q.val) 2 ≤ 40) ∧ fz U1 84 q.val = fz U1 (57 + 2 * q.val) 1 ∧ fz U1 85 q.val = fz U1 (57 + 2 * q.val) 2 ∧ fz U1 (65 + q.val) 0 = 2 ∧ fz U1 87 q.val = -1 := by decide +kernel
theorem U1_TB : TB (fz U1) (fz U1 70) := by
  obtain ⟨z1, z2, z3, z4, z5, z6⟩ := U1_z
  refine ⟨⟨by decide +kernel, by decide +kernel, by decide +kernel, by decide +kernel, by decide +kernel, by decide +kernel, fun k k0 k1 => ?_, fun g g0 g1 => ?_, fun y y0 y1 => ?_⟩, ⟨by rw [z2]; decide, fun i i0 i1 => ?_⟩, ⟨by rw [z3]; decide, fun i i0 i1 => ?_⟩, ⟨by decide +kernel, by decide +kernel, fun k k0 k1 => ?_, fun g g0 g1 => ?_, fun y y0 y1 => ?_⟩, ⟨by decide +kernel, fun i i0 i1 => ?_⟩, ⟨by decide +kernel, fun i i0 i1 => ?_⟩, by decide +kernel, by decide +kernel, by decide +kernel, by decide +kernel, by decide +kernel, fun k k0 k1 => ?_⟩
  · rw [z1] at k1; omega
  · have := (U1_6 ⟨g.toNat, by omega⟩).1
    simp only [Int.toNat_of_nonneg g0] at this
    exact this
  · have := (U1_16 ⟨y.toNat, by omega⟩).1
    simp only [Int.toNat_of_nonneg y0] at this
    exact this
  · rw [z2] at i1; omega
  · rw [z3] at i1; omega
  · rw [z1] at k1; omega
  · have := (U1_6 ⟨g.toNat, by omega⟩).2
    simp only [Int.toNat_of_nonneg g0] at this
    exact this
  · have := (U1_16 ⟨y.toNat, by omega⟩).2
    simp only [Int.toNat_of_nonneg y0] at this
    exact this
  · rw [z2] at i1; omega
  · rw [z3] at i1; omega
  · rw [z1] at k1; omega
theorem Rel_1 : Rel (fz U1) (fun _ _ => 0) := by
  obtain ⟨z1, z2, z3, z4, z5, z6⟩ := U1_z
  refine ⟨U1_TB, ⟨Or.inl z4, by decide +kernel, fun q => by rw [z4] at q; cases q⟩, TP_0 (by decide +kernel) (by decide +kernel), ⟨by rw [z5]; decide, by decide +kernel, fun i => ?_, fun i i0 i1 => ?_⟩, fun q hq => ?_, fun q hq => ?_, ⟨by rw [z6]; decide, by decide +kernel, fun j j0 j1 => ?_⟩, fun k hk => ?_⟩
  · rw [fz_no U1 U1_no52, fz_no U1 U1_no83]
    decide
  · rw [z5] at i1; omega
  · obtain ⟨s1, s2, s3, s4, s5, s6⟩ := U1_s ⟨q, hq⟩
    refine ⟨s1, s2, s3, s4, fun j j0 j1 => ?_⟩
    rw [fz_no U1 U1_no86]
    exact ⟨rfl, by decide⟩
  · obtain ⟨s1, s2, s3, s4, s5, s6⟩ := U1_s ⟨q, hq⟩
    exact Or.inr (Or.inr ⟨s5, s6⟩)
  · rw [z6] at j1; omega
  · exact of_decide_eq_true (List.all_eq_true.mp U1_ltr k (List.mem_range.mpr hk))
theorem goal_ok : j_goal := by
  intro L xs hL
  obtain ⟨c, h1, h2, e1, e2⟩ := two_init (X := (L, xs))
  obtain ⟨I', J', e3⟩ := w_loop (X := (L, xs)) (d := 0) hL (L + 1) 0 (fz U1) (fun _ _ => 0) Rel_1 (Int.le_refl 0) (by decide) (by
    show (L : Int) - 0 < ((L + 1 : Nat) : Int)
    omega)
  have e3 : s_j (L, xs) 30 308 18 [.ref 1000, .ref 0, .ref 69, .int (iI 0)] [] (mm (fz U1) (fun _ _ => 0)) = some ([.int (iI 1)], mm I' J') := e3
  have e4 : s_j (L, xs) 30 308 0 [.ref 1000, .retAddr 0, .retAddr 0, .retAddr 0] [] (al ([], [], [])) = some ([.int (iI 1)], mm I' J') := by
    rw [u_308_0, x_newr rfl]
    show s_x (L, xs) 30 308 [.dup, .invokeinterface 107 1, .astore 1, .new 10, .dup, .invokeinterface 170 1, .astore 2, .sipush 0, .istore 3, .jsr 18] [.ref 1000, .retAddr 0, .retAddr 0, .retAddr 0] [.ref 0] (al b0r) = _
    simp only [x_dup_r, x_call1_1, e1, e_k_s, List.nil_append, x_astore1r]
    rw [x_newr h2, h1]
    show s_x (L, xs) 30 308 [.dup, .invokeinterface 170 1, .astore 2, .sipush 0, .istore 3, .jsr 18] [.ref 1000, .ref 0, .retAddr 0, .retAddr 0] [.ref 69] (al (c.1 ++ [(10, 39)], c.2)) = _
    simp only [x_dup_r, x_call1_1, e2, e_k_s, List.nil_append, x_astore2r, x_sipush, x_istore3r, x_jsr, al_mm]
    exact e3
  refine ⟨30, mm I' J', by decide, ?_, ?_, e4⟩
  · show h_K.length ≤ 900
    decide
  · show (h_K.map (·.2)).sum ≤ 100000
    decide
