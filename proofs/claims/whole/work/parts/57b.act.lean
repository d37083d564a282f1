/-! PAIRS: act -/
theorem app_eq : ∀ (l : List Int) (s s' : ast), 0 ≤ s.1 → s.1 = s'.1 → (∀ j, 0 ≤ j → j < s.1 → s.2 j = s'.2 j) → (app l s).1 = (app l s').1 ∧ ∀ j, 0 ≤ j → j < (app l s).1 → (app l s).2 j = (app l s').2 j
  | [], s, s', _, h, e => ⟨h, e⟩
  | b :: l, s, s', h0, h, e => by
    show (app l (nt b s)).1 = (app l (nt b s')).1 ∧ ∀ j, 0 ≤ j → j < (app l (nt b s)).1 → (app l (nt b s)).2 j = (app l (nt b s')).2 j
    by_cases q : s.1 < 30
    · have n1 : nt b s = (s.1 + 1, upf s.2 s.1 b) := if_pos q
      have n2 : nt b s' = (s.1 + 1, upf s'.2 s.1 b) := by
        rw [h] at q ⊢
        exact if_pos q
      rw [n1, n2]
      refine app_eq l _ _ (by show 0 ≤ s.1 + 1; omega) rfl (fun j j0 j1 => ?_)
      have j1 : j < s.1 + 1 := j1
      show upf s.2 s.1 b j = upf s'.2 s.1 b j
      unfold upf
      by_cases z : j = s.1
      · rw [if_pos z, if_pos z]
      · rw [if_neg z, if_neg z]
        exact e j j0 (by omega)
    · have n1 : nt b s = s := if_neg q
      have n2 : nt b s' = s' := by
        rw [h] at q
        exact if_neg q
      rw [n1, n2]
      exact app_eq l _ _ h0 h e
section
variable {X : e_X} {d : Nat} {I J B : Nat → Int → Int}
theorem aco_new {kd n a : Int} : up (up (up (up (up (up I 55 1 0) 55 3 kd) 55 4 n) 55 5 a) 55 1 0) 55 2 0 = aco I (0, I 56) 0 kd n a := by
  funext o k
  unfold up aco
  (repeat' split) <;> simp_all
theorem amo_new {own : Int} : up (up (up B 69 36 0) 69 37 own) 69 38 0 = amo B (0, B 89) 0 own := by
  funext o k
  unfold up amo
  (repeat' split) <;> simp_all
theorem m_tk {q : Int} (hn6 : 0 ≤ I 1 9 ∧ I 1 9 ≤ 6) (e6 : I 70 6 = I 1 9) (hq : 0 ≤ q ∧ q < 4) (h1 : rg (I 87 q)) (h2 : I 87 q = 0 → rg (I 88 q)) : s_S X (d + 3) 288 [.ref 69, .int (iI q)] (mm I J) = some ([.int (iI (if I 87 q = 0 ∧ ¬ (0 ≤ I 88 q ∧ I 88 q < I 1 9) then -1 else I 87 q))], mm I J) := by
  by_cases q1 : I 87 q = 0
  · have e := m_isp (X := X) (d := d) (I := I) (J := J) (k := I 88 q) (n := I 1 9) e6 ⟨h2 q1, hn6⟩
    by_cases q2 : 0 ≤ I 88 q ∧ I 88 q < I 1 9
    · rw [if_pos q2] at e
      rw [if_neg (fun z => z.2 q2)]
      simp (disch := omega) only [v_288_69, u_288_0, x_aload0, k_69_33, x_iload1, x_ifCond_ne, x_ifCond_neb, k_69_34, x_call2_0, x_call2_1, x_call2_2, x_call2_3, x_call2_4, e_k_s, e_k_i, List.nil_append, List.cons_append, x_sipush, x_goto, u_288_26, x_jsr, u_288_32, x_ireturn, ia_87, ia_88, q1, e, ↓reduceIte, b01_0, ite_not, if_true, if_false, Int.reduceLT, Int.reduceEq]
    · rw [if_neg q2] at e
      rw [if_pos ⟨q1, q2⟩]
      simp (disch := omega) only [v_288_69, u_288_0, x_aload0, k_69_33, x_iload1, x_ifCond_ne, x_ifCond_neb, k_69_34, x_call2_0, x_call2_1, x_call2_2, x_call2_3, x_call2_4, e_k_s, e_k_i, List.nil_append, List.cons_append, x_sipush, x_goto, u_288_26, x_jsr, u_288_32, x_ireturn, ia_87, ia_88, q1, e, ↓reduceIte, b01_0, ite_not, if_true, if_false, Int.reduceLT, Int.reduceEq]
  · rw [if_neg (fun z => q1 z.1)]
    simp (disch := omega) only [v_288_69, u_288_0, x_aload0, k_69_33, x_iload1, x_ifCond_ne, x_ifCond_neb, k_69_34, x_call2_0, x_call2_1, x_call2_2, x_call2_3, x_call2_4, e_k_s, e_k_i, List.nil_append, List.cons_append, x_sipush, x_goto, u_288_26, x_jsr, u_288_32, x_ireturn, ia_87, ia_88, ↓reduceIte, b01_0, ite_not, if_true, if_false, Int.reduceLT, Int.reduceEq]
    rw [if_neg q1]
theorem TR_bad (h : Rel I J) : Rel (up (up I 55 1 0) 69 36 0) J := by
  refine Rel_trace h (fun o k _ z => ?_) ⟨⟨Int.le_refl 0, (by decide : (0 : Int) ≤ 30)⟩, rfl, fun j j0 j1 => ?_⟩
  · unfold eTR at z
    unfold up
    (repeat' split) <;> first | rfl | (exfalso; omega)
  · have j1 : j < 0 := j1
    omega
theorem m_act0 (h : Rel I J) (hB : B 70 = I 70) {i act x : Int} (hi : 0 ≤ i ∧ i < I 1 9) (hact : 0 ≤ act ∧ act ≤ 3) : ∃ p v, s_S X (d + 29) (if act = 0 then 290 else if act = 1 then 292 else if act = 2 then 293 else 294) [.ref 69, .int (iI (I 2 i)), .int (iI x)] (mm (amo B (0, B 89) 0 i) J) = some ([.int (iI v)], mm (amo B (app (acE act (I 2 i) i (I 5 i)) (0, B 89)) p i) J) ∧ (p = 0 ∧ v = acV act (I 2 i) i (I 5 i) x ∨ p = 1 ∧ acV act (I 2 i) i (I 5 i) x = -15) := by
  have hn6 := h.1.1.1
  obtain ⟨k1, k2, k3, k4⟩ := h.1.1.2.2.2.2.2.2.1 i hi.1 hi.2
  obtain ⟨r1, r2, r3, r4⟩ := h.1.2.2.2.1.2.2.1 i hi.1 hi.2
  have h0 : B 70 (38 + 6 * i + 0) = I 2 i := by rw [hB]; exact r1
  have h3 : B 70 (38 + 6 * i + 3) = I 5 i := by rw [hB]; exact r4
  rcases (by omega : act = 0 ∨ act = 1 ∨ act = 2 ∨ act = 3) with rfl | rfl | rfl | rfl
  · have e := n_ly (X := X) (d := d + 26) (B := B) (J := J) (s := (0, B 89)) (p := 0) (q := I 2 i) (own := i) (x := x) (by omega) ⟨Int.le_refl 0, (by decide : (0 : Int) ≤ 30)⟩
    refine ⟨0, lyV (I 2 i) i x, ?_, Or.inl ⟨rfl, rfl⟩⟩
    exact e
  · have e := n_ti (X := X) (d := d + 24) (B := B) (J := J) (s := (0, B 89)) (p := 0) (own := i) (x := x) (kd := I 2 i) (a := I 5 i) (by omega) k1 h0 h3 ⟨Int.le_refl 0, (by decide : (0 : Int) ≤ 30)⟩
    refine ⟨0, tiV (I 2 i) i (I 5 i) x, ?_, Or.inl ⟨rfl, rfl⟩⟩
    exact e
  · have e := n_br (X := X) (d := d + 25) (B := B) (J := J) (s := (0, B 89)) (own := i) (x := x) (kd := I 2 i) (a := I 5 i) (by omega) k4 k1 h3 ⟨Int.le_refl 0, (by decide : (0 : Int) ≤ 30)⟩
    by_cases z : i + I 5 i - 3 = 0
    · rw [if_pos z] at e
      have v1 : acV 2 (I 2 i) i (I 5 i) x = -15 := by
        unfold acV
        rw [if_neg (by decide), if_neg (by decide), if_pos z]
      have v2 : acE 2 (I 2 i) i (I 5 i) = bpE (I 2 i) := by
        unfold acE
        rw [if_neg (by decide), if_neg (by decide), if_pos rfl, if_pos z]
      refine ⟨1, 0, ?_, Or.inr ⟨rfl, v1⟩⟩
      rw [v2]
      exact e
    · rw [if_neg z] at e
      have v1 : acV 2 (I 2 i) i (I 5 i) x = brV (I 2 i) i (I 5 i) x := by
        unfold acV
        rw [if_neg (by decide), if_neg (by decide), if_neg z, if_pos rfl]
      have v2 : acE 2 (I 2 i) i (I 5 i) = brE (I 2 i) := by
        unfold acE
        rw [if_neg (by decide), if_neg (by decide), if_pos rfl, if_neg z]
      refine ⟨0, brV (I 2 i) i (I 5 i) x, ?_, Or.inl ⟨rfl, v1.symm⟩⟩
      rw [v2]
      exact e
  · obtain ⟨v, e⟩ := n_sh (X := X) (d := d + 22) (B := B) (J := J) (s := (0, B 89)) (own := i) (x := x) (kd := I 2 i) (a := I 5 i) (by omega) k4 k1 h0 h3 ⟨Int.le_refl 0, (by decide : (0 : Int) ≤ 30)⟩
    by_cases z : i + I 5 i - 3 = 0
    · rw [if_pos z] at e
      have v1 : acV 3 (I 2 i) i (I 5 i) x = -15 := by
        unfold acV
        rw [if_neg (by decide), if_neg (by decide), if_pos z]
      have v2 : acE 3 (I 2 i) i (I 5 i) = spE (I 2 i) := by
        unfold acE
        rw [if_neg (by decide), if_neg (by decide), if_neg (by decide), if_pos z]
      refine ⟨1, v, ?_, Or.inr ⟨rfl, v1⟩⟩
      rw [v2]
      exact e
    · rw [if_neg z] at e
      have v1 : acV 3 (I 2 i) i (I 5 i) x = shV (I 2 i) i (I 5 i) x := by
        unfold acV
        rw [if_neg (by decide), if_neg (by decide), if_neg z, if_neg (by decide)]
      have v2 : acE 3 (I 2 i) i (I 5 i) = shE (I 2 i) := by
        unfold acE
        rw [if_neg (by decide), if_neg (by decide), if_neg (by decide), if_neg z]
      refine ⟨0, shV (I 2 i) i (I 5 i) x, ?_, Or.inl ⟨rfl, v1.symm⟩⟩
      rw [v2]
      exact e
end
