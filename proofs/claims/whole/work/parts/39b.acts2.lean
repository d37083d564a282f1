/-! ACTS, further -/
def acV (act kd n a x : Int) : Int := if act = 0 then lyV kd n x else if act = 1 then tiV kd n a x else if n + a - 3 = 0 then -15 else if act = 2 then brV kd n a x else shV kd n a x
def acE (act kd n a : Int) : List Int := if act = 0 then lyE kd else if act = 1 then tiE kd else if act = 2 then (if n + a - 3 = 0 then bpE kd else brE kd) else if n + a - 3 = 0 then spE kd else shE kd
section
variable {X : e_X} {d : Nat} {I J B : Nat → Int → Int} {s : ast}
theorem c_sh {kd n a x : Int} (hk : 1 ≤ kd ∧ kd ≤ 5) (hs : 0 ≤ s.1 ∧ s.1 ≤ 30) (hn5 : 0 ≤ n ∧ n ≤ 5) (ha5 : 0 ≤ a ∧ a ≤ 5) : ∃ v, s_S X (d + 4) 7 [.ref 55, .int (iI x)] (mm (aco I s 0 kd n a) J) = if n + a - 3 = 0 then some ([.int (iI v)], mm (aco I (app (spE kd) s) 1 kd n a) J) else some ([.int (iI (shV kd n a x))], mm (aco I (app (shE kd) s) 0 kd n a) J) := by
  have hn := fun (s : ast) (hs : 0 ≤ s.1 ∧ s.1 ≤ 30) b => c_n0 (X := X) (d := d + 2) (I := I) (J := J) (s := s) (kd := kd) (n := n) (a := a) (b := b) hs
  have ht := fun (s : ast) (hs : 0 ≤ s.1 ∧ s.1 ≤ 30) x => c_ti0 (X := X) (d := d) (I := I) (J := J) (s := s) (kd := kd) (n := n) (a := a) (x := x) hk hs
  have ht1 := fun (s : ast) x => c_ti1 (X := X) (d := d) (I := I) (J := J) (s := s) (kd := kd) (n := n) (a := a) (x := x) hk
  have hb := fun (s : ast) (hs : 0 ≤ s.1 ∧ s.1 ≤ 30) x => c_br (X := X) (d := d) (I := I) (J := J) (s := s) (kd := kd) (n := n) (a := a) (x := x) hk hs hn5 ha5
  have n13 : 0 ≤ (nt 13 s).1 ∧ (nt 13 s).1 ≤ 30 := nt_b hs
  have n51 : 0 ≤ (nt 51 s).1 ∧ (nt 51 s).1 ≤ 30 := nt_b hs
  have n513 : 0 ≤ (nt 13 (nt 51 s)).1 ∧ (nt 13 (nt 51 s)).1 ≤ 30 := nt_b n51
  have e1 := hn s hs
  have e2 := hn (nt 51 s) n51
  have e3 := ht (nt 13 s) n13
  have e4 := ht (nt 13 (nt 51 s)) n513
  have e5 := hb (app (tiE kd) (nt 13 s)) (app_b _ _ n13)
  have e6 := hb (app (tiE kd) (nt 13 (nt 51 s))) (app_b _ _ n513)
  by_cases q3 : kd = 3
  · subst q3
    by_cases q : n + a - 3 = 0
    · refine ⟨xr (tiV 3 n a x) 0 + tiV 3 n a n, ?_⟩
      simp only [if_pos q] at e6
      rw [if_pos q]
      have e7 := ht1 (app (bpE 3) (app (tiE 3) (nt 13 (nt 51 s))))
      simp (disch := omega) only [v_7_55, u_7_0, x_aload0, f_55_3, x_sipush, x_if_icmp_ne, x_call2_0, x_call2_1, x_call2_2, x_call2_3, x_call2_4, e_k_s, e_k_i, List.nil_append, List.cons_append, x_jsr, u_7_14, x_iload1, x_istore2i, x_istore2r, x_istore2u, x_iload2, x_istore3i, x_istore3r, x_istore3u, x_iload3, f_55_4, x_iadd, x_goto, u_7_55, u_7_56, x_ireturn, x_xr, aco_3, aco_4, e1, e2, e4, e6, e7, ↓reduceIte, b01_0, ite_not, if_true, if_false, Int.reduceLT, Int.reduceEq]
      rw [show spE 3 = [51, 13] ++ tiE 3 ++ bpE 3 from rfl, app_app, app_app]
      rfl
    · refine ⟨0, ?_⟩
      simp only [if_neg q] at e6
      rw [if_neg q]
      have e7 := ht (app (brE 3) (app (tiE 3) (nt 13 (nt 51 s)))) (app_b _ _ (app_b _ _ n513))
      simp (disch := omega) only [v_7_55, u_7_0, x_aload0, f_55_3, x_sipush, x_if_icmp_ne, x_call2_0, x_call2_1, x_call2_2, x_call2_3, x_call2_4, e_k_s, e_k_i, List.nil_append, List.cons_append, x_jsr, u_7_14, x_iload1, x_istore2i, x_istore2r, x_istore2u, x_iload2, x_istore3i, x_istore3r, x_istore3u, x_iload3, f_55_4, x_iadd, x_goto, u_7_55, u_7_56, x_ireturn, x_xr, aco_3, aco_4, e1, e2, e4, e6, e7, ↓reduceIte, b01_0, ite_not, if_true, if_false, Int.reduceLT, Int.reduceEq]
      rw [show shE 3 = [51, 13] ++ tiE 3 ++ brE 3 ++ tiE 3 from rfl, app_app, app_app, app_app]
      rfl
  · by_cases q : n + a - 3 = 0
    · refine ⟨xr (tiV kd n a x) 0, ?_⟩
      simp only [if_pos q] at e5
      rw [if_pos q]
      simp (disch := omega) only [v_7_55, u_7_0, x_aload0, f_55_3, x_sipush, x_if_icmp_ne, x_call2_0, x_call2_1, x_call2_2, x_call2_3, x_call2_4, e_k_s, e_k_i, List.nil_append, List.cons_append, x_jsr, u_7_14, x_iload1, x_istore2i, x_istore2r, x_istore2u, x_iload2, x_istore3i, x_istore3r, x_istore3u, x_iload3, f_55_4, x_iadd, x_goto, u_7_55, u_7_56, x_ireturn, x_xr, aco_3, aco_4, e1, e3, e5, ↓reduceIte, b01_0, ite_not, if_true, if_false, Int.reduceLT, Int.reduceEq]
      rw [if_neg q3]
      have : spE kd = [13] ++ tiE kd ++ bpE kd := if_neg q3
      rw [this, app_app, app_app]
      rw [if_neg q3]
      rfl
    · refine ⟨0, ?_⟩
      simp only [if_neg q] at e5
      rw [if_neg q]
      simp (disch := omega) only [v_7_55, u_7_0, x_aload0, f_55_3, x_sipush, x_if_icmp_ne, x_call2_0, x_call2_1, x_call2_2, x_call2_3, x_call2_4, e_k_s, e_k_i, List.nil_append, List.cons_append, x_jsr, u_7_14, x_iload1, x_istore2i, x_istore2r, x_istore2u, x_iload2, x_istore3i, x_istore3r, x_istore3u, x_iload3, f_55_4, x_iadd, x_goto, u_7_55, u_7_56, x_ireturn, x_xr, aco_3, aco_4, e1, e3, e5, ↓reduceIte, b01_0, ite_not, if_true, if_false, Int.reduceLT, Int.reduceEq]
      have h1 : shE kd = [13] ++ tiE kd ++ brE kd := if_neg q3
      have h2 : shV kd n a x = xr (tiV kd n a x) (brV kd n a x) := if_neg q3
      rw [if_neg q3, if_neg q3, h1, h2, app_app, app_app]
      rfl
theorem c_pf {kd n a x act : Int} (hk : 1 ≤ kd ∧ kd ≤ 5) (hs : 0 ≤ s.1 ∧ s.1 ≤ 30) (hn5 : 0 ≤ n ∧ n ≤ 5) (ha5 : 0 ≤ a ∧ a ≤ 5) (hact : 0 ≤ act ∧ act ≤ 3) : ∃ p, s_S X (d + 5) 2 [.ref 55, .int (iI act), .int (iI x)] (mm (aco I s 0 kd n a) J) = some ([.int (iI (acV act kd n a x))], mm (aco I (app (acE act kd n a) s) p kd n a) J) := by
  have e0 := c_ly0 (X := X) (d := d + 2) (I := I) (J := J) (s := s) (kd := kd) (n := n) (a := a) (x := x) hk hs
  have e1 := c_ti0 (X := X) (d := d + 1) (I := I) (J := J) (s := s) (kd := kd) (n := n) (a := a) (x := x) hk hs
  have e2 := c_br (X := X) (d := d + 1) (I := I) (J := J) (s := s) (kd := kd) (n := n) (a := a) (x := x) hk hs hn5 ha5
  obtain ⟨v, e3⟩ := c_sh (X := X) (d := d) (I := I) (J := J) (s := s) (kd := kd) (n := n) (a := a) (x := x) hk hs hn5 ha5
  have : act = 0 ∨ act = 1 ∨ act = 2 ∨ act = 3 := by omega
  rcases this with rfl | rfl | rfl | rfl
  · refine ⟨0, ?_⟩
    simp (disch := omega) only [v_2_55, u_2_0, x_sipush, x_istore3i, x_istore3r, x_istore3u, x_iload1, x_switch, e_sw_c, e_sw_n, u_2_28, x_aload0, x_iload2, x_call2_0, x_call2_1, x_call2_2, x_call2_3, x_call2_4, e_k_s, e_k_i, List.nil_append, List.cons_append, x_goto, u_2_37, u_2_46, u_2_55, x_jsr, u_2_61, f_55_2, x_ifCond_eq, x_ifCond_eqb, u_2_73, x_iload3, u_2_74, x_ireturn, e0, aco_2, ↓reduceIte, b01_0, ite_not, if_true, if_false, Int.reduceLT, Int.reduceEq]
    rfl
  · refine ⟨0, ?_⟩
    simp (disch := omega) only [v_2_55, u_2_0, x_sipush, x_istore3i, x_istore3r, x_istore3u, x_iload1, x_switch, e_sw_c, e_sw_n, u_2_28, x_aload0, x_iload2, x_call2_0, x_call2_1, x_call2_2, x_call2_3, x_call2_4, e_k_s, e_k_i, List.nil_append, List.cons_append, x_goto, u_2_37, u_2_46, u_2_55, x_jsr, u_2_61, f_55_2, x_ifCond_eq, x_ifCond_eqb, u_2_73, x_iload3, u_2_74, x_ireturn, e1, aco_2, ↓reduceIte, b01_0, ite_not, if_true, if_false, Int.reduceLT, Int.reduceEq]
    rfl
  · by_cases q : n + a - 3 = 0
    · refine ⟨1, ?_⟩
      rw [if_pos q] at e2
      have h1 : acV 2 kd n a x = -15 := by unfold acV; rw [if_neg (by decide), if_neg (by decide), if_pos q]
      have h2 : acE 2 kd n a = bpE kd := by unfold acE; rw [if_neg (by decide), if_neg (by decide), if_pos rfl, if_pos q]
      rw [h1, h2]
      simp (disch := omega) only [v_2_55, u_2_0, x_sipush, x_istore3i, x_istore3r, x_istore3u, x_iload1, x_switch, e_sw_c, e_sw_n, u_2_28, x_aload0, x_iload2, x_call2_0, x_call2_1, x_call2_2, x_call2_3, x_call2_4, e_k_s, e_k_i, List.nil_append, List.cons_append, x_goto, u_2_37, u_2_46, u_2_55, x_jsr, u_2_61, f_55_2, x_ifCond_eq, x_ifCond_eqb, u_2_73, x_iload3, u_2_74, x_ireturn, e2, aco_2, ↓reduceIte, b01_0, ite_not, if_true, if_false, Int.reduceLT, Int.reduceEq]
    · refine ⟨0, ?_⟩
      rw [if_neg q] at e2
      have h1 : acV 2 kd n a x = brV kd n a x := by unfold acV; rw [if_neg (by decide), if_neg (by decide), if_neg q, if_pos rfl]
      have h2 : acE 2 kd n a = brE kd := by unfold acE; rw [if_neg (by decide), if_neg (by decide), if_pos rfl, if_neg q]
      rw [h1, h2]
      simp (disch := omega) only [v_2_55, u_2_0, x_sipush, x_istore3i, x_istore3r, x_istore3u, x_iload1, x_switch, e_sw_c, e_sw_n, u_2_28, x_aload0, x_iload2, x_call2_0, x_call2_1, x_call2_2, x_call2_3, x_call2_4, e_k_s, e_k_i, List.nil_append, List.cons_append, x_goto, u_2_37, u_2_46, u_2_55, x_jsr, u_2_61, f_55_2, x_ifCond_eq, x_ifCond_eqb, u_2_73, x_iload3, u_2_74, x_ireturn, e2, aco_2, ↓reduceIte, b01_0, ite_not, if_true, if_false, Int.reduceLT, Int.reduceEq]
  · by_cases q : n + a - 3 = 0
    · refine ⟨1, ?_⟩
      rw [if_pos q] at e3
      have h1 : acV 3 kd n a x = -15 := by unfold acV; rw [if_neg (by decide), if_neg (by decide), if_pos q]
      have h2 : acE 3 kd n a = spE kd := by unfold acE; rw [if_neg (by decide), if_neg (by decide), if_neg (by decide), if_pos q]
      rw [h1, h2]
      simp (disch := omega) only [v_2_55, u_2_0, x_sipush, x_istore3i, x_istore3r, x_istore3u, x_iload1, x_switch, e_sw_c, e_sw_n, u_2_28, x_aload0, x_iload2, x_call2_0, x_call2_1, x_call2_2, x_call2_3, x_call2_4, e_k_s, e_k_i, List.nil_append, List.cons_append, x_goto, u_2_37, u_2_46, u_2_55, x_jsr, u_2_61, f_55_2, x_ifCond_eq, x_ifCond_eqb, u_2_73, x_iload3, u_2_74, x_ireturn, e3, aco_2, ↓reduceIte, b01_0, ite_not, if_true, if_false, Int.reduceLT, Int.reduceEq]
    · refine ⟨0, ?_⟩
      rw [if_neg q] at e3
      have h1 : acV 3 kd n a x = shV kd n a x := by unfold acV; rw [if_neg (by decide), if_neg (by decide), if_neg q, if_neg (by decide)]
      have h2 : acE 3 kd n a = shE kd := by unfold acE; rw [if_neg (by decide), if_neg (by decide), if_neg (by decide), if_neg q]
      rw [h1, h2]
      simp (disch := omega) only [v_2_55, u_2_0, x_sipush, x_istore3i, x_istore3r, x_istore3u, x_iload1, x_switch, e_sw_c, e_sw_n, u_2_28, x_aload0, x_iload2, x_call2_0, x_call2_1, x_call2_2, x_call2_3, x_call2_4, e_k_s, e_k_i, List.nil_append, List.cons_append, x_goto, u_2_37, u_2_46, u_2_55, x_jsr, u_2_61, f_55_2, x_ifCond_eq, x_ifCond_eqb, u_2_73, x_iload3, u_2_74, x_ireturn, e3, aco_2, ↓reduceIte, b01_0, ite_not, if_true, if_false, Int.reduceLT, Int.reduceEq]
/-! the model's -/
theorem n_st {p own b : Int} (hs : 0 ≤ s.1 ∧ s.1 ≤ 30) : s_S X (d + 1) 291 [.ref 69, .int (iI b)] (mm (amo B s p own) J) = some ([], mm (amo B (nt b s) p own) J) := by
  unfold nt
  by_cases q : s.1 < 30
  · rw [if_pos q]
    simp (disch := omega) only [v_291_69, u_291_0, x_aload0, f_69_36, x_sipush, x_if_icmp_ge, k_69_35, x_iload1, x_dup_i, x_dup_r, x_iadd, p_69_36, x_jsr, u_291_29, x_return, is_89, amo_1, amo_89, amo_nt, ↓reduceIte, b01_0, ite_not, if_true, if_false, Int.reduceLT, Int.reduceEq]
    rw [if_pos q]
  · rw [if_neg q]
    simp (disch := omega) only [v_291_69, u_291_0, x_aload0, f_69_36, x_sipush, x_if_icmp_ge, k_69_35, x_iload1, x_dup_i, x_dup_r, x_iadd, p_69_36, x_jsr, u_291_29, x_return, is_89, amo_1, amo_89, amo_nt, ↓reduceIte, b01_0, ite_not, if_true, if_false, Int.reduceLT, Int.reduceEq]
    rw [if_neg q]
theorem n_ly {q own x p : Int} (hq : 0 ≤ q ∧ q ≤ 5) (hs : 0 ≤ s.1 ∧ s.1 ≤ 30) : s_S X (d + 3) 290 [.ref 69, .int (iI q), .int (iI x)] (mm (amo B s p own) J) = some ([.int (iI (lyV q own x))], mm (amo B (app (lyE q) s) p own) J) := by
  have hn := fun b => n_st (X := X) (d := d + 1) (B := B) (J := J) (s := s) (p := p) (own := own) (b := b) hs
  have hn2 := fun b b' => n_st (X := X) (d := d) (B := B) (J := J) (s := nt b' s) (p := p) (own := own) (b := b) (nt_b hs)
  have : q = 0 ∨ q = 1 ∨ q = 2 ∨ q = 3 ∨ q = 4 ∨ q = 5 := by omega
  rcases this with rfl | rfl | rfl | rfl | rfl | rfl
  · simp (disch := omega) only [v_290_69, u_290_0, x_iload1, x_sipush, x_if_icmp_ne, x_aload0, x_call2_0, x_call2_1, x_call2_2, x_call2_3, x_call2_4, e_k_s, e_k_i, List.nil_append, List.cons_append, x_iload2, x_call3_0, x_call3_1, x_call3_2, x_call3_3, x_call3_4, x_imul, x_ireturn, u_290_20, u_290_40, f_69_37, x_iadd, x_xr, amo_2, hn, hn2, ↓reduceIte, b01_0, ite_not, if_true, if_false, Int.reduceLT, Int.reduceEq]
    rfl
  · simp (disch := omega) only [v_290_69, u_290_0, x_iload1, x_sipush, x_if_icmp_ne, x_aload0, x_call2_0, x_call2_1, x_call2_2, x_call2_3, x_call2_4, e_k_s, e_k_i, List.nil_append, List.cons_append, x_iload2, x_call3_0, x_call3_1, x_call3_2, x_call3_3, x_call3_4, x_imul, x_ireturn, u_290_20, u_290_40, f_69_37, x_iadd, x_xr, amo_2, hn, hn2, ↓reduceIte, b01_0, ite_not, if_true, if_false, Int.reduceLT, Int.reduceEq]
    rfl
  · simp (disch := omega) only [v_290_69, u_290_0, x_iload1, x_sipush, x_if_icmp_ne, x_aload0, x_call2_0, x_call2_1, x_call2_2, x_call2_3, x_call2_4, e_k_s, e_k_i, List.nil_append, List.cons_append, x_iload2, x_call3_0, x_call3_1, x_call3_2, x_call3_3, x_call3_4, x_imul, x_ireturn, u_290_20, u_290_40, f_69_37, x_iadd, x_xr, amo_2, hn, hn2, ↓reduceIte, b01_0, ite_not, if_true, if_false, Int.reduceLT, Int.reduceEq]
    rfl
  · simp (disch := omega) only [v_290_69, u_290_0, x_iload1, x_sipush, x_if_icmp_ne, x_aload0, x_call2_0, x_call2_1, x_call2_2, x_call2_3, x_call2_4, e_k_s, e_k_i, List.nil_append, List.cons_append, x_iload2, x_call3_0, x_call3_1, x_call3_2, x_call3_3, x_call3_4, x_imul, x_ireturn, u_290_20, u_290_40, f_69_37, x_iadd, x_xr, amo_2, hn, hn2, ↓reduceIte, b01_0, ite_not, if_true, if_false, Int.reduceLT, Int.reduceEq]
    rfl
  · simp (disch := omega) only [v_290_69, u_290_0, x_iload1, x_sipush, x_if_icmp_ne, x_aload0, x_call2_0, x_call2_1, x_call2_2, x_call2_3, x_call2_4, e_k_s, e_k_i, List.nil_append, List.cons_append, x_iload2, x_call3_0, x_call3_1, x_call3_2, x_call3_3, x_call3_4, x_imul, x_ireturn, u_290_20, u_290_40, f_69_37, x_iadd, x_xr, amo_2, hn, hn2, ↓reduceIte, b01_0, ite_not, if_true, if_false, Int.reduceLT, Int.reduceEq]
    rfl
  · simp (disch := omega) only [v_290_69, u_290_0, x_iload1, x_sipush, x_if_icmp_ne, x_aload0, x_call2_0, x_call2_1, x_call2_2, x_call2_3, x_call2_4, e_k_s, e_k_i, List.nil_append, List.cons_append, x_iload2, x_call3_0, x_call3_1, x_call3_2, x_call3_3, x_call3_4, x_imul, x_ireturn, u_290_20, u_290_40, f_69_37, x_iadd, x_xr, amo_2, hn, hn2, ↓reduceIte, b01_0, ite_not, if_true, if_false, Int.reduceLT, Int.reduceEq]
    rfl
theorem n_ti0 {q own x p kd a : Int} (ho : 0 ≤ own ∧ own ≤ 5) (hk : 1 ≤ kd ∧ kd ≤ 5) (h0 : B 70 (38 + 6 * own + 0) = kd) (h3 : B 70 (38 + 6 * own + 3) = a) (hq : q = 0 ∨ q = 1 ∨ q = 4) (hs : 0 ≤ s.1 ∧ s.1 ≤ 30) : s_S X (d + 4) 292 [.ref 69, .int (iI q), .int (iI x)] (mm (amo B s p own) J) = some ([.int (iI (lyV kd own x - a))], mm (amo B (app (11 :: lyE kd) s) p own) J) := by
  have hn := n_st (X := X) (d := d + 2) (B := B) (J := J) (s := s) (p := p) (own := own) (b := 11) hs
  have hl := n_ly (X := X) (d := d) (B := B) (J := J) (s := nt 11 s) (q := kd) (own := own) (x := x) (p := p) (by omega) (nt_b hs)
  rcases hq with rfl | rfl | rfl
  · simp (disch := omega) only [v_292_69, u_292_0, x_iload1, x_sipush, x_if_icmp_eq, x_if_icmp_ne, x_jsr, u_292_10, x_aload0, x_call2_0, x_call2_1, x_call2_2, x_call2_3, x_call2_4, e_k_s, e_k_i, List.nil_append, List.cons_append, x_iload2, x_iadd, x_call3_0, x_call3_1, x_call3_2, x_call3_3, x_call3_4, x_ireturn, u_292_25, x_isub, u_292_46, f_69_37, amo_2, amo_o, m_get, h0, h3, hn, hl, ↓reduceIte, b01_0, ite_not, if_true, if_false, Int.reduceLT, Int.reduceEq]
    rfl
  · simp (disch := omega) only [v_292_69, u_292_0, x_iload1, x_sipush, x_if_icmp_eq, x_if_icmp_ne, x_jsr, u_292_10, x_aload0, x_call2_0, x_call2_1, x_call2_2, x_call2_3, x_call2_4, e_k_s, e_k_i, List.nil_append, List.cons_append, x_iload2, x_iadd, x_call3_0, x_call3_1, x_call3_2, x_call3_3, x_call3_4, x_ireturn, u_292_25, x_isub, u_292_46, f_69_37, amo_2, amo_o, m_get, h0, h3, hn, hl, ↓reduceIte, b01_0, ite_not, if_true, if_false, Int.reduceLT, Int.reduceEq]
    rfl
  · simp (disch := omega) only [v_292_69, u_292_0, x_iload1, x_sipush, x_if_icmp_eq, x_if_icmp_ne, x_jsr, u_292_10, x_aload0, x_call2_0, x_call2_1, x_call2_2, x_call2_3, x_call2_4, e_k_s, e_k_i, List.nil_append, List.cons_append, x_iload2, x_iadd, x_call3_0, x_call3_1, x_call3_2, x_call3_3, x_call3_4, x_ireturn, u_292_25, x_isub, u_292_46, f_69_37, amo_2, amo_o, m_get, h0, h3, hn, hl, ↓reduceIte, b01_0, ite_not, if_true, if_false, Int.reduceLT, Int.reduceEq]
    rfl
theorem n_ti {own x p kd a : Int} (ho : 0 ≤ own ∧ own ≤ 5) (hk : 1 ≤ kd ∧ kd ≤ 5) (h0 : B 70 (38 + 6 * own + 0) = kd) (h3 : B 70 (38 + 6 * own + 3) = a) (hs : 0 ≤ s.1 ∧ s.1 ≤ 30) : s_S X (d + 5) 292 [.ref 69, .int (iI kd), .int (iI x)] (mm (amo B s p own) J) = some ([.int (iI (tiV kd own a x))], mm (amo B (app (tiE kd) s) p own) J) := by
  have hn := fun b => n_st (X := X) (d := d + 3) (B := B) (J := J) (s := s) (p := p) (own := own) (b := b) hs
  have ht := fun q x b hq => n_ti0 (X := X) (d := d) (B := B) (J := J) (s := nt b s) (q := q) (own := own) (x := x) (p := p) ho hk h0 h3 hq (nt_b hs)
  have : kd = 1 ∨ kd = 2 ∨ kd = 3 ∨ kd = 4 ∨ kd = 5 := by omega
  rcases this with rfl | rfl | rfl | rfl | rfl
  · exact n_ti0 (X := X) (d := d + 1) ho hk h0 h3 (Or.inr (Or.inl rfl)) hs
  · have t := fun b x => ht 0 x b (Or.inl rfl)
    simp (disch := omega) only [u_292_0, x_iload1, x_sipush, x_if_icmp_eq, x_if_icmp_ne, x_jsr, u_292_10, x_aload0, x_call2_0, x_call2_1, x_call2_2, x_call2_3, x_call2_4, e_k_s, e_k_i, List.nil_append, List.cons_append, x_iload2, x_iadd, x_call3_0, x_call3_1, x_call3_2, x_call3_3, x_call3_4, x_ireturn, u_292_25, x_isub, u_292_46, f_69_37, hn, t, v_292_69 (d := d + 4), ↓reduceIte, b01_0, ite_not, if_true, if_false, Int.reduceLT, Int.reduceEq]
    rfl
  · have t := fun b x => ht 0 x b (Or.inl rfl)
    simp (disch := omega) only [u_292_0, x_iload1, x_sipush, x_if_icmp_eq, x_if_icmp_ne, x_jsr, u_292_10, x_aload0, x_call2_0, x_call2_1, x_call2_2, x_call2_3, x_call2_4, e_k_s, e_k_i, List.nil_append, List.cons_append, x_iload2, x_iadd, x_call3_0, x_call3_1, x_call3_2, x_call3_3, x_call3_4, x_ireturn, u_292_25, x_isub, u_292_46, f_69_37, hn, t, v_292_69 (d := d + 4), ↓reduceIte, b01_0, ite_not, if_true, if_false, Int.reduceLT, Int.reduceEq]
    rfl
  · exact n_ti0 (X := X) (d := d + 1) ho hk h0 h3 (Or.inr (Or.inr rfl)) hs
  · have t := fun b x => ht 4 x b (Or.inr (Or.inr rfl))
    simp (disch := omega) only [u_292_0, x_iload1, x_sipush, x_if_icmp_eq, x_if_icmp_ne, x_jsr, u_292_10, x_aload0, x_call2_0, x_call2_1, x_call2_2, x_call2_3, x_call2_4, e_k_s, e_k_i, List.nil_append, List.cons_append, x_iload2, x_iadd, x_call3_0, x_call3_1, x_call3_2, x_call3_3, x_call3_4, x_ireturn, u_292_25, x_isub, u_292_46, f_69_37, hn, t, v_292_69 (d := d + 4), ↓reduceIte, b01_0, ite_not, if_true, if_false, Int.reduceLT, Int.reduceEq]
    rfl
theorem n_br0 {q own x kd a : Int} (ho : 0 ≤ own ∧ own ≤ 5) (ha : 0 ≤ a ∧ a ≤ 5) (h3 : B 70 (38 + 6 * own + 3) = a) (hq : 0 ≤ q ∧ q ≤ 3) (hs : 0 ≤ s.1 ∧ s.1 ≤ 30) : s_S X (d + 2) 293 [.ref 69, .int (iI q), .int (iI x)] (mm (amo B s 0 own) J) = if own + a - 3 = 0 then some ([.int (iI 0)], mm (amo B (nt 12 s) 1 own) J) else some ([.int (iI (rm x (own + a - 3)))], mm (amo B (nt 12 s) 0 own) J) := by
  have hn := n_st (X := X) (d := d) (B := B) (J := J) (s := s) (p := 0) (own := own) (b := 12) hs
  by_cases z : own + a - 3 = 0
  · rw [if_pos z]
    simp (disch := omega) only [u_293_0, x_iload1, x_sipush, x_if_icmp_ne, x_aload0, x_call2_0, x_call2_1, x_call2_2, x_call2_3, x_call2_4, e_k_s, e_k_i, List.nil_append, List.cons_append, x_iload2, x_call3_0, x_call3_1, x_call3_2, x_call3_3, x_call3_4, x_istore3i, x_istore3r, x_istore3u, f_69_38, x_ifCond_eq, x_ifCond_eqb, x_goto, u_293_29, x_iload3, f_69_37, x_ixor, x_jsr, u_293_45, x_ireturn, u_293_46, x_ineg, u_293_65, x_iadd, x_isub, x_ifCond_ne, x_ifCond_neb, u_293_100, u_293_104, u_293_105, p_69_38_0, p_69_38_1, p_69_38_b, u_293_119, u_293_122, x_rm, amo_2, amo_3, amo_o, amo_up, m_get, h3, hn, z, v_293_69 (d := d + 1), ↓reduceIte, b01_0, ite_not, if_true, if_false, Int.reduceLT, Int.reduceEq]
    rw [if_neg (by omega), if_neg (by omega)]
  · rw [if_neg z]
    simp (disch := omega) only [u_293_0, x_iload1, x_sipush, x_if_icmp_ne, x_aload0, x_call2_0, x_call2_1, x_call2_2, x_call2_3, x_call2_4, e_k_s, e_k_i, List.nil_append, List.cons_append, x_iload2, x_call3_0, x_call3_1, x_call3_2, x_call3_3, x_call3_4, x_istore3i, x_istore3r, x_istore3u, f_69_38, x_ifCond_eq, x_ifCond_eqb, x_goto, u_293_29, x_iload3, f_69_37, x_ixor, x_jsr, u_293_45, x_ireturn, u_293_46, x_ineg, u_293_65, x_iadd, x_isub, x_ifCond_ne, x_ifCond_neb, u_293_100, u_293_104, u_293_105, p_69_38_0, p_69_38_1, p_69_38_b, u_293_119, u_293_122, x_rm, amo_2, amo_3, amo_o, amo_up, m_get, h3, hn, v_293_69 (d := d + 1), ↓reduceIte, b01_0, ite_not, if_true, if_false, Int.reduceLT, Int.reduceEq]
    rw [if_neg (by omega), if_neg (by omega), if_neg z]
theorem n_br {own x kd a : Int} (ho : 0 ≤ own ∧ own ≤ 5) (ha : 0 ≤ a ∧ a ≤ 5) (hk : 1 ≤ kd ∧ kd ≤ 5) (h3 : B 70 (38 + 6 * own + 3) = a) (hs : 0 ≤ s.1 ∧ s.1 ≤ 30) : s_S X (d + 4) 293 [.ref 69, .int (iI kd), .int (iI x)] (mm (amo B s 0 own) J) = if own + a - 3 = 0 then some ([.int (iI 0)], mm (amo B (app (bpE kd) s) 1 own) J) else some ([.int (iI (brV kd own a x))], mm (amo B (app (brE kd) s) 0 own) J) := by
  have n40 : 0 ≤ (nt 40 s).1 ∧ (nt 40 s).1 ≤ 30 := nt_b hs
  have n61 : 0 ≤ (nt 61 s).1 ∧ (nt 61 s).1 ≤ 30 := nt_b hs
  have n6140 : 0 ≤ (nt 40 (nt 61 s)).1 ∧ (nt 40 (nt 61 s)).1 ≤ 30 := nt_b n61
  have e40 := n_st (X := X) (d := d + 2) (B := B) (J := J) (s := s) (p := 0) (own := own) (b := 40) hs
  have e61 := n_st (X := X) (d := d + 2) (B := B) (J := J) (s := s) (p := 0) (own := own) (b := 61) hs
  have e6140 := n_st (X := X) (d := d + 1) (B := B) (J := J) (s := nt 61 s) (p := 0) (own := own) (b := 40) n61
  have b0 := n_br0 (X := X) (d := d + 1) (B := B) (J := J) (s := nt 40 s) (q := 0) (own := own) (x := x) (kd := kd) ho ha h3 (by decide) n40
  have b1 := n_br0 (X := X) (d := d) (B := B) (J := J) (s := nt 40 (nt 61 s)) (q := 0) (own := own) (x := x) (kd := kd) ho ha h3 (by decide) n6140
  have hl := n_ly (X := X) (d := d) (B := B) (J := J) (s := nt 12 (nt 40 (nt 61 s))) (q := 5) (own := own) (x := a) (p := 0) (by decide) (nt_b n6140)
  have bk : ∀ q, 0 ≤ q ∧ q ≤ 3 → s_S X (d + 4) 293 [.ref 69, .int (iI q), .int (iI x)] (mm (amo B s 0 own) J) = if own + a - 3 = 0 then some ([.int (iI 0)], mm (amo B (nt 12 s) 1 own) J) else some ([.int (iI (rm x (own + a - 3)))], mm (amo B (nt 12 s) 0 own) J) := fun q hq => n_br0 (X := X) (d := d + 2) (B := B) (J := J) (s := s) (q := q) (own := own) (x := x) (kd := kd) ho ha h3 hq hs
  have : kd = 1 ∨ kd = 2 ∨ kd = 3 ∨ kd = 4 ∨ kd = 5 := by omega
  rcases this with rfl | rfl | rfl | rfl | rfl
  · rw [bk 1 (by decide)]
    rfl
  · rw [bk 2 (by decide)]
    rfl
  · rw [bk 3 (by decide)]
    rfl
  · by_cases z : own + a - 3 = 0
    · rw [if_pos z] at b0 ⊢
      simp (disch := omega) only [u_293_0, x_iload1, x_sipush, x_if_icmp_ne, x_aload0, x_call2_0, x_call2_1, x_call2_2, x_call2_3, x_call2_4, e_k_s, e_k_i, List.nil_append, List.cons_append, x_iload2, x_call3_0, x_call3_1, x_call3_2, x_call3_3, x_call3_4, x_istore3i, x_istore3r, x_istore3u, f_69_38, x_ifCond_eq, x_ifCond_eqb, x_goto, u_293_29, x_iload3, f_69_37, x_ixor, x_jsr, u_293_45, x_ireturn, u_293_46, x_ineg, u_293_65, x_iadd, x_isub, x_ifCond_ne, x_ifCond_neb, u_293_100, u_293_104, u_293_105, p_69_38_0, p_69_38_1, p_69_38_b, u_293_119, x_iremI, u_293_122, amo_2, amo_3, e40, b0, v_293_69 (d := d + 3), ↓reduceIte, b01_0, ite_not, if_true, if_false, Int.reduceLT, Int.reduceEq]
      rfl
    · rw [if_neg z] at b0 ⊢
      have e := Int.zero_sub (rm x (own + a - 3))
      rw [show brV 4 own a x = 0 - rm x (own + a - 3) from rfl, e]
      simp (disch := omega) only [u_293_0, x_iload1, x_sipush, x_if_icmp_ne, x_aload0, x_call2_0, x_call2_1, x_call2_2, x_call2_3, x_call2_4, e_k_s, e_k_i, List.nil_append, List.cons_append, x_iload2, x_call3_0, x_call3_1, x_call3_2, x_call3_3, x_call3_4, x_istore3i, x_istore3r, x_istore3u, f_69_38, x_ifCond_eq, x_ifCond_eqb, x_goto, u_293_29, x_iload3, f_69_37, x_ixor, x_jsr, u_293_45, x_ireturn, u_293_46, x_ineg, u_293_65, x_iadd, x_isub, x_ifCond_ne, x_ifCond_neb, u_293_100, u_293_104, u_293_105, p_69_38_0, p_69_38_1, p_69_38_b, u_293_119, x_iremI, u_293_122, amo_2, amo_3, e40, b0, v_293_69 (d := d + 3), ↓reduceIte, b01_0, ite_not, if_true, if_false, Int.reduceLT, Int.reduceEq]
      rfl
  · by_cases z : own + a - 3 = 0
    · rw [if_pos z] at b1 ⊢
      simp (disch := omega) only [u_293_0, x_iload1, x_sipush, x_if_icmp_ne, x_aload0, x_call2_0, x_call2_1, x_call2_2, x_call2_3, x_call2_4, e_k_s, e_k_i, List.nil_append, List.cons_append, x_iload2, x_call3_0, x_call3_1, x_call3_2, x_call3_3, x_call3_4, x_istore3i, x_istore3r, x_istore3u, f_69_38, x_ifCond_eq, x_ifCond_eqb, x_goto, u_293_29, x_iload3, f_69_37, x_ixor, x_jsr, u_293_45, x_ireturn, u_293_46, x_ineg, u_293_65, x_iadd, x_isub, x_ifCond_ne, x_ifCond_neb, u_293_100, u_293_104, u_293_105, p_69_38_0, p_69_38_1, p_69_38_b, u_293_119, x_iremI, u_293_122, amo_2, amo_3, e61, e6140, b1, v_293_69 (d := d + 3), v_293_69 (d := d + 2), ↓reduceIte, b01_0, ite_not, if_true, if_false, Int.reduceLT, Int.reduceEq]
      rfl
    · rw [if_neg z] at b1 ⊢
      have e := Int.zero_sub (rm x (own + a - 3))
      rw [show brV 5 own a x = xr (0 - rm x (own + a - 3)) (lyV 5 own a) from rfl, e]
      simp (disch := omega) only [u_293_0, x_iload1, x_sipush, x_if_icmp_ne, x_aload0, x_call2_0, x_call2_1, x_call2_2, x_call2_3, x_call2_4, e_k_s, e_k_i, List.nil_append, List.cons_append, x_iload2, x_call3_0, x_call3_1, x_call3_2, x_call3_3, x_call3_4, x_istore3i, x_istore3r, x_istore3u, f_69_38, x_ifCond_eq, x_ifCond_eqb, x_goto, u_293_29, x_iload3, f_69_37, x_jsr, u_293_45, x_ireturn, u_293_46, x_ineg, u_293_65, x_iadd, x_isub, x_ifCond_ne, x_ifCond_neb, u_293_100, u_293_104, u_293_105, p_69_38_0, p_69_38_1, p_69_38_b, u_293_119, x_iremI, u_293_122, x_xr, amo_2, amo_3, amo_o, m_get, h3, e61, e6140, b1, hl, v_293_69 (d := d + 3), v_293_69 (d := d + 2), ↓reduceIte, b01_0, ite_not, if_true, if_false, Int.reduceLT, Int.reduceEq]
      rfl
theorem n_sh {own x kd a : Int} (ho : 0 ≤ own ∧ own ≤ 5) (ha : 0 ≤ a ∧ a ≤ 5) (hk : 1 ≤ kd ∧ kd ≤ 5) (h0 : B 70 (38 + 6 * own + 0) = kd) (h3 : B 70 (38 + 6 * own + 3) = a) (hs : 0 ≤ s.1 ∧ s.1 ≤ 30) : ∃ v, s_S X (d + 7) 294 [.ref 69, .int (iI kd), .int (iI x)] (mm (amo B s 0 own) J) = if own + a - 3 = 0 then some ([.int (iI v)], mm (amo B (app (spE kd) s) 1 own) J) else some ([.int (iI (shV kd own a x))], mm (amo B (app (shE kd) s) 0 own) J) := by
  have n13 : 0 ≤ (nt 13 s).1 ∧ (nt 13 s).1 ≤ 30 := nt_b hs
  have n51 : 0 ≤ (nt 51 s).1 ∧ (nt 51 s).1 ≤ 30 := nt_b hs
  have n513 : 0 ≤ (nt 13 (nt 51 s)).1 ∧ (nt 13 (nt 51 s)).1 ≤ 30 := nt_b n51
  have e1 := n_st (X := X) (d := d + 5) (B := B) (J := J) (s := s) (p := 0) (own := own) (b := 13) hs
  have e51 := n_st (X := X) (d := d + 5) (B := B) (J := J) (s := s) (p := 0) (own := own) (b := 51) hs
  have e5113 := n_st (X := X) (d := d + 4) (B := B) (J := J) (s := nt 51 s) (p := 0) (own := own) (b := 13) n51
  have t1 := n_ti (X := X) (d := d + 1) (B := B) (J := J) (s := nt 13 s) (own := own) (x := x) (p := 0) ho hk h0 h3 n13
  have t2 := n_ti (X := X) (d := d) (B := B) (J := J) (s := nt 13 (nt 51 s)) (own := own) (x := x) (p := 0) ho hk h0 h3 n513
  have b1 := n_br (X := X) (d := d + 2) (B := B) (J := J) (s := app (tiE kd) (nt 13 s)) (own := own) (x := x) ho ha hk h3 (app_b _ _ n13)
  have b2 := n_br (X := X) (d := d + 1) (B := B) (J := J) (s := app (tiE kd) (nt 13 (nt 51 s))) (own := own) (x := x) ho ha hk h3 (app_b _ _ n513)
  have t3 := n_ti (X := X) (d := d + 1) (B := B) (J := J) (s := app (brE kd) (app (tiE kd) (nt 13 (nt 51 s)))) (own := own) (x := own) (p := 0) ho hk h0 h3 (app_b _ _ (app_b _ _ n513))
  by_cases q3 : kd = 3
  · subst q3
    by_cases q : own + a - 3 = 0
    · refine ⟨0, ?_⟩
      rw [if_pos q] at b2 ⊢
      simp (disch := omega) only [u_294_0, x_iload1, x_sipush, x_if_icmp_ne, x_aload0, x_call2_0, x_call2_1, x_call2_2, x_call2_3, x_call2_4, e_k_s, e_k_i, List.nil_append, List.cons_append, x_iload2, x_call3_0, x_call3_1, x_call3_2, x_call3_3, x_call3_4, x_istore3i, x_istore3r, x_istore3u, f_69_38, x_ifCond_eq, x_ifCond_eqb, x_goto, u_294_29, x_iload3, f_69_37, x_iadd, x_jsr, u_294_40, x_ireturn, u_294_41, x_xr, amo_2, amo_3, amo_o, m_get, h0, e51, e5113, t2, b2, v_294_69 (d := d + 6), v_294_69 (d := d + 5), ↓reduceIte, b01_0, ite_not, if_true, if_false, Int.reduceLT, Int.reduceEq]
      rw [show spE 3 = [51, 13] ++ tiE 3 ++ bpE 3 from rfl, app_app, app_app]
      rfl
    · refine ⟨0, ?_⟩
      rw [if_neg q] at b2 ⊢
      simp (disch := omega) only [u_294_0, x_iload1, x_sipush, x_if_icmp_ne, x_aload0, x_call2_0, x_call2_1, x_call2_2, x_call2_3, x_call2_4, e_k_s, e_k_i, List.nil_append, List.cons_append, x_iload2, x_call3_0, x_call3_1, x_call3_2, x_call3_3, x_call3_4, x_istore3i, x_istore3r, x_istore3u, f_69_38, x_ifCond_eq, x_ifCond_eqb, x_goto, u_294_29, x_iload3, f_69_37, x_iadd, x_jsr, u_294_40, x_ireturn, u_294_41, x_xr, amo_2, amo_3, amo_o, m_get, h0, e51, e5113, t2, b2, t3, v_294_69 (d := d + 6), v_294_69 (d := d + 5), ↓reduceIte, b01_0, ite_not, if_true, if_false, Int.reduceLT, Int.reduceEq]
      rw [show shE 3 = [51, 13] ++ tiE 3 ++ brE 3 ++ tiE 3 from rfl, app_app, app_app, app_app]
      rfl
  · by_cases q : own + a - 3 = 0
    · refine ⟨xr (tiV kd own a x) 0, ?_⟩
      rw [if_pos q] at b1 ⊢
      simp (disch := omega) only [u_294_0, x_iload1, x_sipush, x_if_icmp_ne, x_aload0, x_call2_0, x_call2_1, x_call2_2, x_call2_3, x_call2_4, e_k_s, e_k_i, List.nil_append, List.cons_append, x_iload2, x_call3_0, x_call3_1, x_call3_2, x_call3_3, x_call3_4, x_istore3i, x_istore3r, x_istore3u, f_69_38, x_ifCond_eq, x_ifCond_eqb, x_goto, u_294_29, x_iload3, f_69_37, x_iadd, x_jsr, u_294_40, x_ireturn, u_294_41, x_xr, amo_2, amo_3, amo_o, m_get, h0, e1, t1, b1, v_294_69 (d := d + 6), ↓reduceIte, b01_0, ite_not, if_true, if_false, Int.reduceLT, Int.reduceEq]
      have : spE kd = [13] ++ tiE kd ++ bpE kd := if_neg q3
      rw [if_neg q3, this, app_app, app_app]
      rfl
    · refine ⟨0, ?_⟩
      rw [if_neg q] at b1 ⊢
      simp (disch := omega) only [u_294_0, x_iload1, x_sipush, x_if_icmp_ne, x_aload0, x_call2_0, x_call2_1, x_call2_2, x_call2_3, x_call2_4, e_k_s, e_k_i, List.nil_append, List.cons_append, x_iload2, x_call3_0, x_call3_1, x_call3_2, x_call3_3, x_call3_4, x_istore3i, x_istore3r, x_istore3u, f_69_38, x_ifCond_eq, x_ifCond_eqb, x_goto, u_294_29, x_iload3, f_69_37, x_iadd, x_jsr, u_294_40, x_ireturn, u_294_41, x_xr, amo_2, amo_3, amo_o, m_get, h0, e1, t1, b1, v_294_69 (d := d + 6), ↓reduceIte, b01_0, ite_not, if_true, if_false, Int.reduceLT, Int.reduceEq]
      have h1 : shE kd = [13] ++ tiE kd ++ brE kd := if_neg q3
      have h2 : shV kd own a x = xr (tiV kd own a x) (brV kd own a x) := if_neg q3
      rw [if_neg q3, h1, h2, app_app, app_app]
      rfl
end
