/-! A ROW for each field and array of each object -/
section
variable {X : e_X} {d c : Nat} {is : List Instr} {ls l st r : List Value} {I J : Nat → Int → Int}
theorem k_0_0 : s_x X d c (.checkcast 576 :: is) (ls) (.ref 0 :: st) (mm I J) = s_x X d c is (ls) (.ref 1 :: st) (mm I J) := rfl
theorem k_0_1 : s_x X d c (.checkcast 577 :: is) (ls) (.ref 0 :: st) (mm I J) = s_x X d c is (ls) (.ref 20 :: st) (mm I J) := rfl
theorem f_0_2 : s_x X d c (.getfield 578 :: is) (ls) (.ref 0 :: st) (mm I J) = s_x X d c is (ls) (.int (iI (I 0 2)) :: st) (mm I J) := rfl
theorem p_0_2_0 : s_x X d c (.putfield 578 :: is) (ls) (.int (iI 0) :: .ref 0 :: st) (mm I J) = s_x X d c is (ls) (st) (mm (up I 0 2 0) J) := x_pf rfl rfl rfl
theorem p_0_2_1 : s_x X d c (.putfield 578 :: is) (ls) (.int (iI 1) :: .ref 0 :: st) (mm I J) = s_x X d c is (ls) (st) (mm (up I 0 2 1) J) := x_pf rfl rfl rfl
theorem p_0_2_b {p : Prop} [Decidable p] : s_x X d c (.putfield 578 :: is) (ls) (.int (iI (if p then 1 else 0)) :: .ref 0 :: st) (mm I J) = s_x X d c is (ls) (st) (mm (up I 0 2 (if p then 1 else 0)) J) := by
  by_cases h : p
  · simp only [if_pos h]; exact x_pf rfl rfl rfl
  · simp only [if_neg h]; exact x_pf rfl rfl rfl
theorem k_0_3 : s_x X d c (.checkcast 579 :: is) (ls) (.ref 0 :: st) (mm I J) = s_x X d c is (ls) (.ref 39 :: st) (mm I J) := rfl
theorem k_0_4 : s_x X d c (.checkcast 580 :: is) (ls) (.ref 0 :: st) (mm I J) = s_x X d c is (ls) (.ref 48 :: st) (mm I J) := rfl
theorem k_0_5 : s_x X d c (.checkcast 581 :: is) (ls) (.ref 0 :: st) (mm I J) = s_x X d c is (ls) (.ref 51 :: st) (mm I J) := rfl
theorem k_0_6 : s_x X d c (.checkcast 582 :: is) (ls) (.ref 0 :: st) (mm I J) = s_x X d c is (ls) (.ref 53 :: st) (mm I J) := rfl
theorem k_0_7 : s_x X d c (.checkcast 583 :: is) (ls) (.ref 0 :: st) (mm I J) = s_x X d c is (ls) (.ref 54 :: st) (mm I J) := rfl
theorem k_0_8 : s_x X d c (.checkcast 584 :: is) (ls) (.ref 0 :: st) (mm I J) = s_x X d c is (ls) (.ref 55 :: st) (mm I J) := rfl
theorem k_1_0 : s_x X d c (.checkcast 512 :: is) (ls) (.ref 1 :: st) (mm I J) = s_x X d c is (ls) (.ref 2 :: st) (mm I J) := rfl
theorem k_1_1 : s_x X d c (.checkcast 513 :: is) (ls) (.ref 1 :: st) (mm I J) = s_x X d c is (ls) (.ref 3 :: st) (mm I J) := rfl
theorem k_1_2 : s_x X d c (.checkcast 514 :: is) (ls) (.ref 1 :: st) (mm I J) = s_x X d c is (ls) (.ref 4 :: st) (mm I J) := rfl
theorem k_1_3 : s_x X d c (.checkcast 515 :: is) (ls) (.ref 1 :: st) (mm I J) = s_x X d c is (ls) (.ref 5 :: st) (mm I J) := rfl
theorem k_1_4 : s_x X d c (.checkcast 516 :: is) (ls) (.ref 1 :: st) (mm I J) = s_x X d c is (ls) (.ref 6 :: st) (mm I J) := rfl
theorem k_1_5 : s_x X d c (.checkcast 517 :: is) (ls) (.ref 1 :: st) (mm I J) = s_x X d c is (ls) (.ref 7 :: st) (mm I J) := rfl
theorem k_1_6 : s_x X d c (.checkcast 518 :: is) (ls) (.ref 1 :: st) (mm I J) = s_x X d c is (ls) (.ref 8 :: st) (mm I J) := rfl
theorem k_1_7 : s_x X d c (.checkcast 519 :: is) (ls) (.ref 1 :: st) (mm I J) = s_x X d c is (ls) (.ref 9 :: st) (mm I J) := rfl
theorem k_1_8 : s_x X d c (.checkcast 520 :: is) (ls) (.ref 1 :: st) (mm I J) = s_x X d c is (ls) (.ref 15 :: st) (mm I J) := rfl
theorem f_1_9 : s_x X d c (.getfield 521 :: is) (ls) (.ref 1 :: st) (mm I J) = s_x X d c is (ls) (.int (iI (I 1 9)) :: st) (mm I J) := rfl
theorem p_1_9 {v : Int} : s_x X d c (.putfield 521 :: is) (ls) (.int (iI v) :: .ref 1 :: st) (mm I J) = s_x X d c is (ls) (st) (mm (up I 1 9 v) J) := x_pf rfl rfl rfl
theorem f_1_10 : s_x X d c (.getfield 522 :: is) (ls) (.ref 1 :: st) (mm I J) = s_x X d c is (ls) (.int (iI (I 1 10)) :: st) (mm I J) := rfl
theorem p_1_10 {v : Int} : s_x X d c (.putfield 522 :: is) (ls) (.int (iI v) :: .ref 1 :: st) (mm I J) = s_x X d c is (ls) (st) (mm (up I 1 10 v) J) := x_pf rfl rfl rfl
theorem f_1_11 : s_x X d c (.getfield 523 :: is) (ls) (.ref 1 :: st) (mm I J) = s_x X d c is (ls) (.int (iI (I 1 11)) :: st) (mm I J) := rfl
theorem p_1_11 {v : Int} : s_x X d c (.putfield 523 :: is) (ls) (.int (iI v) :: .ref 1 :: st) (mm I J) = s_x X d c is (ls) (st) (mm (up I 1 11 v) J) := x_pf rfl rfl rfl
theorem f_1_12 : s_x X d c (.getfield 524 :: is) (ls) (.ref 1 :: st) (mm I J) = s_x X d c is (ls) (.int (iI (I 1 12)) :: st) (mm I J) := rfl
theorem p_1_12 {v : Int} : s_x X d c (.putfield 524 :: is) (ls) (.int (iI v) :: .ref 1 :: st) (mm I J) = s_x X d c is (ls) (st) (mm (up I 1 12 v) J) := x_pf rfl rfl rfl
theorem f_1_13 : s_x X d c (.getfield 525 :: is) (ls) (.ref 1 :: st) (mm I J) = s_x X d c is (ls) (.int (iI (I 1 13)) :: st) (mm I J) := rfl
theorem p_1_13 {v : Int} : s_x X d c (.putfield 525 :: is) (ls) (.int (iI v) :: .ref 1 :: st) (mm I J) = s_x X d c is (ls) (st) (mm (up I 1 13 v) J) := x_pf rfl rfl rfl
theorem f_1_14 : s_x X d c (.getfield 526 :: is) (ls) (.ref 1 :: st) (mm I J) = s_x X d c is (ls) (.int (iI (I 1 14)) :: st) (mm I J) := rfl
theorem p_1_14 {v : Int} : s_x X d c (.putfield 526 :: is) (ls) (.int (iI v) :: .ref 1 :: st) (mm I J) = s_x X d c is (ls) (st) (mm (up I 1 14 v) J) := x_pf rfl rfl rfl
theorem f_1_15 : s_x X d c (.getfield 527 :: is) (ls) (.ref 1 :: st) (mm I J) = s_x X d c is (ls) (.int (iI (I 1 15)) :: st) (mm I J) := rfl
theorem p_1_15 {v : Int} : s_x X d c (.putfield 527 :: is) (ls) (.int (iI v) :: .ref 1 :: st) (mm I J) = s_x X d c is (ls) (st) (mm (up I 1 15 v) J) := x_pf rfl rfl rfl
theorem f_1_16 : s_x X d c (.getfield 528 :: is) (ls) (.ref 1 :: st) (mm I J) = s_x X d c is (ls) (.int (iI (I 1 16)) :: st) (mm I J) := rfl
theorem p_1_16 {v : Int} : s_x X d c (.putfield 528 :: is) (ls) (.int (iI v) :: .ref 1 :: st) (mm I J) = s_x X d c is (ls) (st) (mm (up I 1 16 v) J) := x_pf rfl rfl rfl
theorem ia_2 {z : Int} (h : 0 ≤ z ∧ z < 6) : s_x X d c (.iaload :: is) (ls) (.int (iI z) :: .ref 2 :: st) (mm I J) = s_x X d c is (ls) (.int (iI (I 2 z)) :: st) (mm I J) := x_ia rfl h
theorem is_2 {z v : Int} (h : 0 ≤ z ∧ z < 6) : s_x X d c (.iastore :: is) (ls) (.int (iI v) :: .int (iI z) :: .ref 2 :: st) (mm I J) = s_x X d c is (ls) (st) (mm (up I 2 z v) J) := x_is rfl h
theorem al_2 : s_x X d c (.arraylength :: is) (ls) (.ref 2 :: st) (mm I J) = s_x X d c is (ls) (.int (iI 6) :: st) (mm I J) := rfl
theorem ia_3 {z : Int} (h : 0 ≤ z ∧ z < 6) : s_x X d c (.iaload :: is) (ls) (.int (iI z) :: .ref 3 :: st) (mm I J) = s_x X d c is (ls) (.int (iI (I 3 z)) :: st) (mm I J) := x_ia rfl h
theorem is_3 {z v : Int} (h : 0 ≤ z ∧ z < 6) : s_x X d c (.iastore :: is) (ls) (.int (iI v) :: .int (iI z) :: .ref 3 :: st) (mm I J) = s_x X d c is (ls) (st) (mm (up I 3 z v) J) := x_is rfl h
theorem al_3 : s_x X d c (.arraylength :: is) (ls) (.ref 3 :: st) (mm I J) = s_x X d c is (ls) (.int (iI 6) :: st) (mm I J) := rfl
theorem ia_4 {z : Int} (h : 0 ≤ z ∧ z < 6) : s_x X d c (.iaload :: is) (ls) (.int (iI z) :: .ref 4 :: st) (mm I J) = s_x X d c is (ls) (.int (iI (I 4 z)) :: st) (mm I J) := x_ia rfl h
theorem is_4 {z v : Int} (h : 0 ≤ z ∧ z < 6) : s_x X d c (.iastore :: is) (ls) (.int (iI v) :: .int (iI z) :: .ref 4 :: st) (mm I J) = s_x X d c is (ls) (st) (mm (up I 4 z v) J) := x_is rfl h
theorem al_4 : s_x X d c (.arraylength :: is) (ls) (.ref 4 :: st) (mm I J) = s_x X d c is (ls) (.int (iI 6) :: st) (mm I J) := rfl
theorem ia_5 {z : Int} (h : 0 ≤ z ∧ z < 6) : s_x X d c (.iaload :: is) (ls) (.int (iI z) :: .ref 5 :: st) (mm I J) = s_x X d c is (ls) (.int (iI (I 5 z)) :: st) (mm I J) := x_ia rfl h
theorem is_5 {z v : Int} (h : 0 ≤ z ∧ z < 6) : s_x X d c (.iastore :: is) (ls) (.int (iI v) :: .int (iI z) :: .ref 5 :: st) (mm I J) = s_x X d c is (ls) (st) (mm (up I 5 z v) J) := x_is rfl h
theorem al_5 : s_x X d c (.arraylength :: is) (ls) (.ref 5 :: st) (mm I J) = s_x X d c is (ls) (.int (iI 6) :: st) (mm I J) := rfl
theorem ia_6 {z : Int} (h : 0 ≤ z ∧ z < 6) : s_x X d c (.iaload :: is) (ls) (.int (iI z) :: .ref 6 :: st) (mm I J) = s_x X d c is (ls) (.int (iI (I 6 z)) :: st) (mm I J) := x_ia rfl h
theorem is_6 {z v : Int} (h : 0 ≤ z ∧ z < 6) : s_x X d c (.iastore :: is) (ls) (.int (iI v) :: .int (iI z) :: .ref 6 :: st) (mm I J) = s_x X d c is (ls) (st) (mm (up I 6 z v) J) := x_is rfl h
theorem al_6 : s_x X d c (.arraylength :: is) (ls) (.ref 6 :: st) (mm I J) = s_x X d c is (ls) (.int (iI 6) :: st) (mm I J) := rfl
theorem ia_7 {z : Int} (h : 0 ≤ z ∧ z < 6) : s_x X d c (.iaload :: is) (ls) (.int (iI z) :: .ref 7 :: st) (mm I J) = s_x X d c is (ls) (.int (iI (I 7 z)) :: st) (mm I J) := x_ia rfl h
theorem is_7 {z v : Int} (h : 0 ≤ z ∧ z < 6) : s_x X d c (.iastore :: is) (ls) (.int (iI v) :: .int (iI z) :: .ref 7 :: st) (mm I J) = s_x X d c is (ls) (st) (mm (up I 7 z v) J) := x_is rfl h
theorem al_7 : s_x X d c (.arraylength :: is) (ls) (.ref 7 :: st) (mm I J) = s_x X d c is (ls) (.int (iI 6) :: st) (mm I J) := rfl
theorem ia_8 {z : Int} (h : 0 ≤ z ∧ z < 16) : s_x X d c (.iaload :: is) (ls) (.int (iI z) :: .ref 8 :: st) (mm I J) = s_x X d c is (ls) (.int (iI (I 8 z)) :: st) (mm I J) := x_ia rfl h
theorem is_8 {z v : Int} (h : 0 ≤ z ∧ z < 16) : s_x X d c (.iastore :: is) (ls) (.int (iI v) :: .int (iI z) :: .ref 8 :: st) (mm I J) = s_x X d c is (ls) (st) (mm (up I 8 z v) J) := x_is rfl h
theorem al_8 : s_x X d c (.arraylength :: is) (ls) (.ref 8 :: st) (mm I J) = s_x X d c is (ls) (.int (iI 16) :: st) (mm I J) := rfl
theorem k_9_0 : s_x X d c (.checkcast 64 :: is) (ls) (.ref 9 :: st) (mm I J) = s_x X d c is (ls) (.ref 10 :: st) (mm I J) := rfl
theorem k_9_1 : s_x X d c (.checkcast 65 :: is) (ls) (.ref 9 :: st) (mm I J) = s_x X d c is (ls) (.ref 11 :: st) (mm I J) := rfl
theorem k_9_2 : s_x X d c (.checkcast 66 :: is) (ls) (.ref 9 :: st) (mm I J) = s_x X d c is (ls) (.ref 12 :: st) (mm I J) := rfl
theorem k_9_3 : s_x X d c (.checkcast 67 :: is) (ls) (.ref 9 :: st) (mm I J) = s_x X d c is (ls) (.ref 13 :: st) (mm I J) := rfl
theorem k_9_4 : s_x X d c (.checkcast 68 :: is) (ls) (.ref 9 :: st) (mm I J) = s_x X d c is (ls) (.ref 14 :: st) (mm I J) := rfl
theorem f_9_5 : s_x X d c (.getfield 69 :: is) (ls) (.ref 9 :: st) (mm I J) = s_x X d c is (ls) (.int (iI (I 9 5)) :: st) (mm I J) := rfl
theorem p_9_5 {v : Int} : s_x X d c (.putfield 69 :: is) (ls) (.int (iI v) :: .ref 9 :: st) (mm I J) = s_x X d c is (ls) (st) (mm (up I 9 5 v) J) := x_pf rfl rfl rfl
theorem f_9_6 : s_x X d c (.getfield 70 :: is) (ls) (.ref 9 :: st) (mm I J) = s_x X d c is (ls) (.int (iI (I 9 6)) :: st) (mm I J) := rfl
theorem p_9_6 {v : Int} : s_x X d c (.putfield 70 :: is) (ls) (.int (iI v) :: .ref 9 :: st) (mm I J) = s_x X d c is (ls) (st) (mm (up I 9 6 v) J) := x_pf rfl rfl rfl
theorem ia_10 {z : Int} (h : 0 ≤ z ∧ z < 8) : s_x X d c (.iaload :: is) (ls) (.int (iI z) :: .ref 10 :: st) (mm I J) = s_x X d c is (ls) (.int (iI (I 10 z)) :: st) (mm I J) := x_ia rfl h
theorem is_10 {z v : Int} (h : 0 ≤ z ∧ z < 8) : s_x X d c (.iastore :: is) (ls) (.int (iI v) :: .int (iI z) :: .ref 10 :: st) (mm I J) = s_x X d c is (ls) (st) (mm (up I 10 z v) J) := x_is rfl h
theorem al_10 : s_x X d c (.arraylength :: is) (ls) (.ref 10 :: st) (mm I J) = s_x X d c is (ls) (.int (iI 8) :: st) (mm I J) := rfl
theorem ia_11 {z : Int} (h : 0 ≤ z ∧ z < 8) : s_x X d c (.iaload :: is) (ls) (.int (iI z) :: .ref 11 :: st) (mm I J) = s_x X d c is (ls) (.int (iI (I 11 z)) :: st) (mm I J) := x_ia rfl h
theorem is_11 {z v : Int} (h : 0 ≤ z ∧ z < 8) : s_x X d c (.iastore :: is) (ls) (.int (iI v) :: .int (iI z) :: .ref 11 :: st) (mm I J) = s_x X d c is (ls) (st) (mm (up I 11 z v) J) := x_is rfl h
theorem al_11 : s_x X d c (.arraylength :: is) (ls) (.ref 11 :: st) (mm I J) = s_x X d c is (ls) (.int (iI 8) :: st) (mm I J) := rfl
theorem ia_12 {z : Int} (h : 0 ≤ z ∧ z < 8) : s_x X d c (.iaload :: is) (ls) (.int (iI z) :: .ref 12 :: st) (mm I J) = s_x X d c is (ls) (.int (iI (I 12 z)) :: st) (mm I J) := x_ia rfl h
theorem is_12 {z v : Int} (h : 0 ≤ z ∧ z < 8) : s_x X d c (.iastore :: is) (ls) (.int (iI v) :: .int (iI z) :: .ref 12 :: st) (mm I J) = s_x X d c is (ls) (st) (mm (up I 12 z v) J) := x_is rfl h
theorem al_12 : s_x X d c (.arraylength :: is) (ls) (.ref 12 :: st) (mm I J) = s_x X d c is (ls) (.int (iI 8) :: st) (mm I J) := rfl
theorem ia_13 {z : Int} (h : 0 ≤ z ∧ z < 200) : s_x X d c (.iaload :: is) (ls) (.int (iI z) :: .ref 13 :: st) (mm I J) = s_x X d c is (ls) (.int (iI (I 13 z)) :: st) (mm I J) := x_ia rfl h
theorem is_13 {z v : Int} (h : 0 ≤ z ∧ z < 200) : s_x X d c (.iastore :: is) (ls) (.int (iI v) :: .int (iI z) :: .ref 13 :: st) (mm I J) = s_x X d c is (ls) (st) (mm (up I 13 z v) J) := x_is rfl h
theorem al_13 : s_x X d c (.arraylength :: is) (ls) (.ref 13 :: st) (mm I J) = s_x X d c is (ls) (.int (iI 200) :: st) (mm I J) := rfl
theorem ia_14 {z : Int} (h : 0 ≤ z ∧ z < 5) : s_x X d c (.iaload :: is) (ls) (.int (iI z) :: .ref 14 :: st) (mm I J) = s_x X d c is (ls) (.int (iI (I 14 z)) :: st) (mm I J) := x_ia rfl h
theorem is_14 {z v : Int} (h : 0 ≤ z ∧ z < 5) : s_x X d c (.iastore :: is) (ls) (.int (iI v) :: .int (iI z) :: .ref 14 :: st) (mm I J) = s_x X d c is (ls) (st) (mm (up I 14 z v) J) := x_is rfl h
theorem al_14 : s_x X d c (.arraylength :: is) (ls) (.ref 14 :: st) (mm I J) = s_x X d c is (ls) (.int (iI 5) :: st) (mm I J) := rfl
theorem k_15_0 : s_x X d c (.checkcast 256 :: is) (ls) (.ref 15 :: st) (mm I J) = s_x X d c is (ls) (.ref 16 :: st) (mm I J) := rfl
theorem k_15_1 : s_x X d c (.checkcast 257 :: is) (ls) (.ref 15 :: st) (mm I J) = s_x X d c is (ls) (.ref 17 :: st) (mm I J) := rfl
theorem k_15_2 : s_x X d c (.checkcast 258 :: is) (ls) (.ref 15 :: st) (mm I J) = s_x X d c is (ls) (.ref 18 :: st) (mm I J) := rfl
theorem k_15_3 : s_x X d c (.checkcast 259 :: is) (ls) (.ref 15 :: st) (mm I J) = s_x X d c is (ls) (.ref 19 :: st) (mm I J) := rfl
theorem f_15_4 : s_x X d c (.getfield 260 :: is) (ls) (.ref 15 :: st) (mm I J) = s_x X d c is (ls) (.int (iI (I 15 4)) :: st) (mm I J) := rfl
theorem p_15_4 {v : Int} : s_x X d c (.putfield 260 :: is) (ls) (.int (iI v) :: .ref 15 :: st) (mm I J) = s_x X d c is (ls) (st) (mm (up I 15 4 v) J) := x_pf rfl rfl rfl
theorem ia_16 {z : Int} (h : 0 ≤ z ∧ z < 6) : s_x X d c (.iaload :: is) (ls) (.int (iI z) :: .ref 16 :: st) (mm I J) = s_x X d c is (ls) (.int (iI (I 16 z)) :: st) (mm I J) := x_ia rfl h
theorem is_16 {z v : Int} (h : 0 ≤ z ∧ z < 6) : s_x X d c (.iastore :: is) (ls) (.int (iI v) :: .int (iI z) :: .ref 16 :: st) (mm I J) = s_x X d c is (ls) (st) (mm (up I 16 z v) J) := x_is rfl h
theorem al_16 : s_x X d c (.arraylength :: is) (ls) (.ref 16 :: st) (mm I J) = s_x X d c is (ls) (.int (iI 6) :: st) (mm I J) := rfl
theorem ia_17 {z : Int} (h : 0 ≤ z ∧ z < 6) : s_x X d c (.iaload :: is) (ls) (.int (iI z) :: .ref 17 :: st) (mm I J) = s_x X d c is (ls) (.int (iI (I 17 z)) :: st) (mm I J) := x_ia rfl h
theorem is_17 {z v : Int} (h : 0 ≤ z ∧ z < 6) : s_x X d c (.iastore :: is) (ls) (.int (iI v) :: .int (iI z) :: .ref 17 :: st) (mm I J) = s_x X d c is (ls) (st) (mm (up I 17 z v) J) := x_is rfl h
theorem al_17 : s_x X d c (.arraylength :: is) (ls) (.ref 17 :: st) (mm I J) = s_x X d c is (ls) (.int (iI 6) :: st) (mm I J) := rfl
theorem ia_18 {z : Int} (h : 0 ≤ z ∧ z < 6) : s_x X d c (.iaload :: is) (ls) (.int (iI z) :: .ref 18 :: st) (mm I J) = s_x X d c is (ls) (.int (iI (I 18 z)) :: st) (mm I J) := x_ia rfl h
theorem is_18 {z v : Int} (h : 0 ≤ z ∧ z < 6) : s_x X d c (.iastore :: is) (ls) (.int (iI v) :: .int (iI z) :: .ref 18 :: st) (mm I J) = s_x X d c is (ls) (st) (mm (up I 18 z v) J) := x_is rfl h
theorem al_18 : s_x X d c (.arraylength :: is) (ls) (.ref 18 :: st) (mm I J) = s_x X d c is (ls) (.int (iI 6) :: st) (mm I J) := rfl
theorem ia_19 {z : Int} (h : 0 ≤ z ∧ z < 6) : s_x X d c (.iaload :: is) (ls) (.int (iI z) :: .ref 19 :: st) (mm I J) = s_x X d c is (ls) (.int (iI (I 19 z)) :: st) (mm I J) := x_ia rfl h
theorem is_19 {z v : Int} (h : 0 ≤ z ∧ z < 6) : s_x X d c (.iastore :: is) (ls) (.int (iI v) :: .int (iI z) :: .ref 19 :: st) (mm I J) = s_x X d c is (ls) (st) (mm (up I 19 z v) J) := x_is rfl h
theorem al_19 : s_x X d c (.arraylength :: is) (ls) (.ref 19 :: st) (mm I J) = s_x X d c is (ls) (.int (iI 6) :: st) (mm I J) := rfl
theorem k_20_0 : s_x X d c (.checkcast 512 :: is) (ls) (.ref 20 :: st) (mm I J) = s_x X d c is (ls) (.ref 21 :: st) (mm I J) := rfl
theorem k_20_1 : s_x X d c (.checkcast 513 :: is) (ls) (.ref 20 :: st) (mm I J) = s_x X d c is (ls) (.ref 22 :: st) (mm I J) := rfl
theorem k_20_2 : s_x X d c (.checkcast 514 :: is) (ls) (.ref 20 :: st) (mm I J) = s_x X d c is (ls) (.ref 23 :: st) (mm I J) := rfl
theorem k_20_3 : s_x X d c (.checkcast 515 :: is) (ls) (.ref 20 :: st) (mm I J) = s_x X d c is (ls) (.ref 24 :: st) (mm I J) := rfl
theorem k_20_4 : s_x X d c (.checkcast 516 :: is) (ls) (.ref 20 :: st) (mm I J) = s_x X d c is (ls) (.ref 25 :: st) (mm I J) := rfl
theorem k_20_5 : s_x X d c (.checkcast 517 :: is) (ls) (.ref 20 :: st) (mm I J) = s_x X d c is (ls) (.ref 26 :: st) (mm I J) := rfl
theorem k_20_6 : s_x X d c (.checkcast 518 :: is) (ls) (.ref 20 :: st) (mm I J) = s_x X d c is (ls) (.ref 27 :: st) (mm I J) := rfl
theorem k_20_7 : s_x X d c (.checkcast 519 :: is) (ls) (.ref 20 :: st) (mm I J) = s_x X d c is (ls) (.ref 28 :: st) (mm I J) := rfl
theorem k_20_8 : s_x X d c (.checkcast 520 :: is) (ls) (.ref 20 :: st) (mm I J) = s_x X d c is (ls) (.ref 34 :: st) (mm I J) := rfl
theorem f_20_9 : s_x X d c (.getfield 521 :: is) (ls) (.ref 20 :: st) (mm I J) = s_x X d c is (ls) (.int (iI (I 20 9)) :: st) (mm I J) := rfl
theorem p_20_9 {v : Int} : s_x X d c (.putfield 521 :: is) (ls) (.int (iI v) :: .ref 20 :: st) (mm I J) = s_x X d c is (ls) (st) (mm (up I 20 9 v) J) := x_pf rfl rfl rfl
theorem f_20_10 : s_x X d c (.getfield 522 :: is) (ls) (.ref 20 :: st) (mm I J) = s_x X d c is (ls) (.int (iI (I 20 10)) :: st) (mm I J) := rfl
theorem p_20_10 {v : Int} : s_x X d c (.putfield 522 :: is) (ls) (.int (iI v) :: .ref 20 :: st) (mm I J) = s_x X d c is (ls) (st) (mm (up I 20 10 v) J) := x_pf rfl rfl rfl
theorem f_20_11 : s_x X d c (.getfield 523 :: is) (ls) (.ref 20 :: st) (mm I J) = s_x X d c is (ls) (.int (iI (I 20 11)) :: st) (mm I J) := rfl
theorem p_20_11 {v : Int} : s_x X d c (.putfield 523 :: is) (ls) (.int (iI v) :: .ref 20 :: st) (mm I J) = s_x X d c is (ls) (st) (mm (up I 20 11 v) J) := x_pf rfl rfl rfl
theorem f_20_12 : s_x X d c (.getfield 524 :: is) (ls) (.ref 20 :: st) (mm I J) = s_x X d c is (ls) (.int (iI (I 20 12)) :: st) (mm I J) := rfl
theorem p_20_12 {v : Int} : s_x X d c (.putfield 524 :: is) (ls) (.int (iI v) :: .ref 20 :: st) (mm I J) = s_x X d c is (ls) (st) (mm (up I 20 12 v) J) := x_pf rfl rfl rfl
theorem f_20_13 : s_x X d c (.getfield 525 :: is) (ls) (.ref 20 :: st) (mm I J) = s_x X d c is (ls) (.int (iI (I 20 13)) :: st) (mm I J) := rfl
theorem p_20_13 {v : Int} : s_x X d c (.putfield 525 :: is) (ls) (.int (iI v) :: .ref 20 :: st) (mm I J) = s_x X d c is (ls) (st) (mm (up I 20 13 v) J) := x_pf rfl rfl rfl
theorem f_20_14 : s_x X d c (.getfield 526 :: is) (ls) (.ref 20 :: st) (mm I J) = s_x X d c is (ls) (.int (iI (I 20 14)) :: st) (mm I J) := rfl
theorem p_20_14 {v : Int} : s_x X d c (.putfield 526 :: is) (ls) (.int (iI v) :: .ref 20 :: st) (mm I J) = s_x X d c is (ls) (st) (mm (up I 20 14 v) J) := x_pf rfl rfl rfl
theorem f_20_15 : s_x X d c (.getfield 527 :: is) (ls) (.ref 20 :: st) (mm I J) = s_x X d c is (ls) (.int (iI (I 20 15)) :: st) (mm I J) := rfl
theorem p_20_15 {v : Int} : s_x X d c (.putfield 527 :: is) (ls) (.int (iI v) :: .ref 20 :: st) (mm I J) = s_x X d c is (ls) (st) (mm (up I 20 15 v) J) := x_pf rfl rfl rfl
theorem f_20_16 : s_x X d c (.getfield 528 :: is) (ls) (.ref 20 :: st) (mm I J) = s_x X d c is (ls) (.int (iI (I 20 16)) :: st) (mm I J) := rfl
theorem p_20_16 {v : Int} : s_x X d c (.putfield 528 :: is) (ls) (.int (iI v) :: .ref 20 :: st) (mm I J) = s_x X d c is (ls) (st) (mm (up I 20 16 v) J) := x_pf rfl rfl rfl
theorem ia_21 {z : Int} (h : 0 ≤ z ∧ z < 6) : s_x X d c (.iaload :: is) (ls) (.int (iI z) :: .ref 21 :: st) (mm I J) = s_x X d c is (ls) (.int (iI (I 21 z)) :: st) (mm I J) := x_ia rfl h
theorem is_21 {z v : Int} (h : 0 ≤ z ∧ z < 6) : s_x X d c (.iastore :: is) (ls) (.int (iI v) :: .int (iI z) :: .ref 21 :: st) (mm I J) = s_x X d c is (ls) (st) (mm (up I 21 z v) J) := x_is rfl h
theorem al_21 : s_x X d c (.arraylength :: is) (ls) (.ref 21 :: st) (mm I J) = s_x X d c is (ls) (.int (iI 6) :: st) (mm I J) := rfl
theorem ia_22 {z : Int} (h : 0 ≤ z ∧ z < 6) : s_x X d c (.iaload :: is) (ls) (.int (iI z) :: .ref 22 :: st) (mm I J) = s_x X d c is (ls) (.int (iI (I 22 z)) :: st) (mm I J) := x_ia rfl h
theorem is_22 {z v : Int} (h : 0 ≤ z ∧ z < 6) : s_x X d c (.iastore :: is) (ls) (.int (iI v) :: .int (iI z) :: .ref 22 :: st) (mm I J) = s_x X d c is (ls) (st) (mm (up I 22 z v) J) := x_is rfl h
theorem al_22 : s_x X d c (.arraylength :: is) (ls) (.ref 22 :: st) (mm I J) = s_x X d c is (ls) (.int (iI 6) :: st) (mm I J) := rfl
theorem ia_23 {z : Int} (h : 0 ≤ z ∧ z < 6) : s_x X d c (.iaload :: is) (ls) (.int (iI z) :: .ref 23 :: st) (mm I J) = s_x X d c is (ls) (.int (iI (I 23 z)) :: st) (mm I J) := x_ia rfl h
theorem is_23 {z v : Int} (h : 0 ≤ z ∧ z < 6) : s_x X d c (.iastore :: is) (ls) (.int (iI v) :: .int (iI z) :: .ref 23 :: st) (mm I J) = s_x X d c is (ls) (st) (mm (up I 23 z v) J) := x_is rfl h
theorem al_23 : s_x X d c (.arraylength :: is) (ls) (.ref 23 :: st) (mm I J) = s_x X d c is (ls) (.int (iI 6) :: st) (mm I J) := rfl
theorem ia_24 {z : Int} (h : 0 ≤ z ∧ z < 6) : s_x X d c (.iaload :: is) (ls) (.int (iI z) :: .ref 24 :: st) (mm I J) = s_x X d c is (ls) (.int (iI (I 24 z)) :: st) (mm I J) := x_ia rfl h
theorem is_24 {z v : Int} (h : 0 ≤ z ∧ z < 6) : s_x X d c (.iastore :: is) (ls) (.int (iI v) :: .int (iI z) :: .ref 24 :: st) (mm I J) = s_x X d c is (ls) (st) (mm (up I 24 z v) J) := x_is rfl h
theorem al_24 : s_x X d c (.arraylength :: is) (ls) (.ref 24 :: st) (mm I J) = s_x X d c is (ls) (.int (iI 6) :: st) (mm I J) := rfl
theorem ia_25 {z : Int} (h : 0 ≤ z ∧ z < 6) : s_x X d c (.iaload :: is) (ls) (.int (iI z) :: .ref 25 :: st) (mm I J) = s_x X d c is (ls) (.int (iI (I 25 z)) :: st) (mm I J) := x_ia rfl h
theorem is_25 {z v : Int} (h : 0 ≤ z ∧ z < 6) : s_x X d c (.iastore :: is) (ls) (.int (iI v) :: .int (iI z) :: .ref 25 :: st) (mm I J) = s_x X d c is (ls) (st) (mm (up I 25 z v) J) := x_is rfl h
theorem al_25 : s_x X d c (.arraylength :: is) (ls) (.ref 25 :: st) (mm I J) = s_x X d c is (ls) (.int (iI 6) :: st) (mm I J) := rfl
theorem ia_26 {z : Int} (h : 0 ≤ z ∧ z < 6) : s_x X d c (.iaload :: is) (ls) (.int (iI z) :: .ref 26 :: st) (mm I J) = s_x X d c is (ls) (.int (iI (I 26 z)) :: st) (mm I J) := x_ia rfl h
theorem is_26 {z v : Int} (h : 0 ≤ z ∧ z < 6) : s_x X d c (.iastore :: is) (ls) (.int (iI v) :: .int (iI z) :: .ref 26 :: st) (mm I J) = s_x X d c is (ls) (st) (mm (up I 26 z v) J) := x_is rfl h
theorem al_26 : s_x X d c (.arraylength :: is) (ls) (.ref 26 :: st) (mm I J) = s_x X d c is (ls) (.int (iI 6) :: st) (mm I J) := rfl
theorem ia_27 {z : Int} (h : 0 ≤ z ∧ z < 16) : s_x X d c (.iaload :: is) (ls) (.int (iI z) :: .ref 27 :: st) (mm I J) = s_x X d c is (ls) (.int (iI (I 27 z)) :: st) (mm I J) := x_ia rfl h
theorem is_27 {z v : Int} (h : 0 ≤ z ∧ z < 16) : s_x X d c (.iastore :: is) (ls) (.int (iI v) :: .int (iI z) :: .ref 27 :: st) (mm I J) = s_x X d c is (ls) (st) (mm (up I 27 z v) J) := x_is rfl h
theorem al_27 : s_x X d c (.arraylength :: is) (ls) (.ref 27 :: st) (mm I J) = s_x X d c is (ls) (.int (iI 16) :: st) (mm I J) := rfl
theorem k_28_0 : s_x X d c (.checkcast 64 :: is) (ls) (.ref 28 :: st) (mm I J) = s_x X d c is (ls) (.ref 29 :: st) (mm I J) := rfl
theorem k_28_1 : s_x X d c (.checkcast 65 :: is) (ls) (.ref 28 :: st) (mm I J) = s_x X d c is (ls) (.ref 30 :: st) (mm I J) := rfl
theorem k_28_2 : s_x X d c (.checkcast 66 :: is) (ls) (.ref 28 :: st) (mm I J) = s_x X d c is (ls) (.ref 31 :: st) (mm I J) := rfl
theorem k_28_3 : s_x X d c (.checkcast 67 :: is) (ls) (.ref 28 :: st) (mm I J) = s_x X d c is (ls) (.ref 32 :: st) (mm I J) := rfl
theorem k_28_4 : s_x X d c (.checkcast 68 :: is) (ls) (.ref 28 :: st) (mm I J) = s_x X d c is (ls) (.ref 33 :: st) (mm I J) := rfl
theorem f_28_5 : s_x X d c (.getfield 69 :: is) (ls) (.ref 28 :: st) (mm I J) = s_x X d c is (ls) (.int (iI (I 28 5)) :: st) (mm I J) := rfl
theorem p_28_5 {v : Int} : s_x X d c (.putfield 69 :: is) (ls) (.int (iI v) :: .ref 28 :: st) (mm I J) = s_x X d c is (ls) (st) (mm (up I 28 5 v) J) := x_pf rfl rfl rfl
theorem f_28_6 : s_x X d c (.getfield 70 :: is) (ls) (.ref 28 :: st) (mm I J) = s_x X d c is (ls) (.int (iI (I 28 6)) :: st) (mm I J) := rfl
theorem p_28_6 {v : Int} : s_x X d c (.putfield 70 :: is) (ls) (.int (iI v) :: .ref 28 :: st) (mm I J) = s_x X d c is (ls) (st) (mm (up I 28 6 v) J) := x_pf rfl rfl rfl
theorem ia_29 {z : Int} (h : 0 ≤ z ∧ z < 8) : s_x X d c (.iaload :: is) (ls) (.int (iI z) :: .ref 29 :: st) (mm I J) = s_x X d c is (ls) (.int (iI (I 29 z)) :: st) (mm I J) := x_ia rfl h
theorem is_29 {z v : Int} (h : 0 ≤ z ∧ z < 8) : s_x X d c (.iastore :: is) (ls) (.int (iI v) :: .int (iI z) :: .ref 29 :: st) (mm I J) = s_x X d c is (ls) (st) (mm (up I 29 z v) J) := x_is rfl h
theorem al_29 : s_x X d c (.arraylength :: is) (ls) (.ref 29 :: st) (mm I J) = s_x X d c is (ls) (.int (iI 8) :: st) (mm I J) := rfl
theorem ia_30 {z : Int} (h : 0 ≤ z ∧ z < 8) : s_x X d c (.iaload :: is) (ls) (.int (iI z) :: .ref 30 :: st) (mm I J) = s_x X d c is (ls) (.int (iI (I 30 z)) :: st) (mm I J) := x_ia rfl h
theorem is_30 {z v : Int} (h : 0 ≤ z ∧ z < 8) : s_x X d c (.iastore :: is) (ls) (.int (iI v) :: .int (iI z) :: .ref 30 :: st) (mm I J) = s_x X d c is (ls) (st) (mm (up I 30 z v) J) := x_is rfl h
theorem al_30 : s_x X d c (.arraylength :: is) (ls) (.ref 30 :: st) (mm I J) = s_x X d c is (ls) (.int (iI 8) :: st) (mm I J) := rfl
theorem ia_31 {z : Int} (h : 0 ≤ z ∧ z < 8) : s_x X d c (.iaload :: is) (ls) (.int (iI z) :: .ref 31 :: st) (mm I J) = s_x X d c is (ls) (.int (iI (I 31 z)) :: st) (mm I J) := x_ia rfl h
theorem is_31 {z v : Int} (h : 0 ≤ z ∧ z < 8) : s_x X d c (.iastore :: is) (ls) (.int (iI v) :: .int (iI z) :: .ref 31 :: st) (mm I J) = s_x X d c is (ls) (st) (mm (up I 31 z v) J) := x_is rfl h
theorem al_31 : s_x X d c (.arraylength :: is) (ls) (.ref 31 :: st) (mm I J) = s_x X d c is (ls) (.int (iI 8) :: st) (mm I J) := rfl
theorem ia_32 {z : Int} (h : 0 ≤ z ∧ z < 200) : s_x X d c (.iaload :: is) (ls) (.int (iI z) :: .ref 32 :: st) (mm I J) = s_x X d c is (ls) (.int (iI (I 32 z)) :: st) (mm I J) := x_ia rfl h
theorem is_32 {z v : Int} (h : 0 ≤ z ∧ z < 200) : s_x X d c (.iastore :: is) (ls) (.int (iI v) :: .int (iI z) :: .ref 32 :: st) (mm I J) = s_x X d c is (ls) (st) (mm (up I 32 z v) J) := x_is rfl h
theorem al_32 : s_x X d c (.arraylength :: is) (ls) (.ref 32 :: st) (mm I J) = s_x X d c is (ls) (.int (iI 200) :: st) (mm I J) := rfl
theorem ia_33 {z : Int} (h : 0 ≤ z ∧ z < 5) : s_x X d c (.iaload :: is) (ls) (.int (iI z) :: .ref 33 :: st) (mm I J) = s_x X d c is (ls) (.int (iI (I 33 z)) :: st) (mm I J) := x_ia rfl h
theorem is_33 {z v : Int} (h : 0 ≤ z ∧ z < 5) : s_x X d c (.iastore :: is) (ls) (.int (iI v) :: .int (iI z) :: .ref 33 :: st) (mm I J) = s_x X d c is (ls) (st) (mm (up I 33 z v) J) := x_is rfl h
theorem al_33 : s_x X d c (.arraylength :: is) (ls) (.ref 33 :: st) (mm I J) = s_x X d c is (ls) (.int (iI 5) :: st) (mm I J) := rfl
theorem k_34_0 : s_x X d c (.checkcast 256 :: is) (ls) (.ref 34 :: st) (mm I J) = s_x X d c is (ls) (.ref 35 :: st) (mm I J) := rfl
theorem k_34_1 : s_x X d c (.checkcast 257 :: is) (ls) (.ref 34 :: st) (mm I J) = s_x X d c is (ls) (.ref 36 :: st) (mm I J) := rfl
theorem k_34_2 : s_x X d c (.checkcast 258 :: is) (ls) (.ref 34 :: st) (mm I J) = s_x X d c is (ls) (.ref 37 :: st) (mm I J) := rfl
theorem k_34_3 : s_x X d c (.checkcast 259 :: is) (ls) (.ref 34 :: st) (mm I J) = s_x X d c is (ls) (.ref 38 :: st) (mm I J) := rfl
theorem f_34_4 : s_x X d c (.getfield 260 :: is) (ls) (.ref 34 :: st) (mm I J) = s_x X d c is (ls) (.int (iI (I 34 4)) :: st) (mm I J) := rfl
theorem p_34_4 {v : Int} : s_x X d c (.putfield 260 :: is) (ls) (.int (iI v) :: .ref 34 :: st) (mm I J) = s_x X d c is (ls) (st) (mm (up I 34 4 v) J) := x_pf rfl rfl rfl
theorem ia_35 {z : Int} (h : 0 ≤ z ∧ z < 6) : s_x X d c (.iaload :: is) (ls) (.int (iI z) :: .ref 35 :: st) (mm I J) = s_x X d c is (ls) (.int (iI (I 35 z)) :: st) (mm I J) := x_ia rfl h
theorem is_35 {z v : Int} (h : 0 ≤ z ∧ z < 6) : s_x X d c (.iastore :: is) (ls) (.int (iI v) :: .int (iI z) :: .ref 35 :: st) (mm I J) = s_x X d c is (ls) (st) (mm (up I 35 z v) J) := x_is rfl h
theorem al_35 : s_x X d c (.arraylength :: is) (ls) (.ref 35 :: st) (mm I J) = s_x X d c is (ls) (.int (iI 6) :: st) (mm I J) := rfl
theorem ia_36 {z : Int} (h : 0 ≤ z ∧ z < 6) : s_x X d c (.iaload :: is) (ls) (.int (iI z) :: .ref 36 :: st) (mm I J) = s_x X d c is (ls) (.int (iI (I 36 z)) :: st) (mm I J) := x_ia rfl h
theorem is_36 {z v : Int} (h : 0 ≤ z ∧ z < 6) : s_x X d c (.iastore :: is) (ls) (.int (iI v) :: .int (iI z) :: .ref 36 :: st) (mm I J) = s_x X d c is (ls) (st) (mm (up I 36 z v) J) := x_is rfl h
theorem al_36 : s_x X d c (.arraylength :: is) (ls) (.ref 36 :: st) (mm I J) = s_x X d c is (ls) (.int (iI 6) :: st) (mm I J) := rfl
theorem ia_37 {z : Int} (h : 0 ≤ z ∧ z < 6) : s_x X d c (.iaload :: is) (ls) (.int (iI z) :: .ref 37 :: st) (mm I J) = s_x X d c is (ls) (.int (iI (I 37 z)) :: st) (mm I J) := x_ia rfl h
theorem is_37 {z v : Int} (h : 0 ≤ z ∧ z < 6) : s_x X d c (.iastore :: is) (ls) (.int (iI v) :: .int (iI z) :: .ref 37 :: st) (mm I J) = s_x X d c is (ls) (st) (mm (up I 37 z v) J) := x_is rfl h
theorem al_37 : s_x X d c (.arraylength :: is) (ls) (.ref 37 :: st) (mm I J) = s_x X d c is (ls) (.int (iI 6) :: st) (mm I J) := rfl
theorem ia_38 {z : Int} (h : 0 ≤ z ∧ z < 6) : s_x X d c (.iaload :: is) (ls) (.int (iI z) :: .ref 38 :: st) (mm I J) = s_x X d c is (ls) (.int (iI (I 38 z)) :: st) (mm I J) := x_ia rfl h
theorem is_38 {z v : Int} (h : 0 ≤ z ∧ z < 6) : s_x X d c (.iastore :: is) (ls) (.int (iI v) :: .int (iI z) :: .ref 38 :: st) (mm I J) = s_x X d c is (ls) (st) (mm (up I 38 z v) J) := x_is rfl h
theorem al_38 : s_x X d c (.arraylength :: is) (ls) (.ref 38 :: st) (mm I J) = s_x X d c is (ls) (.int (iI 6) :: st) (mm I J) := rfl
theorem k_39_0 : s_x X d c (.checkcast 192 :: is) (ls) (.ref 39 :: st) (mm I J) = s_x X d c is (ls) (.ref 40 :: st) (mm I J) := rfl
theorem k_39_1 : s_x X d c (.checkcast 193 :: is) (ls) (.ref 39 :: st) (mm I J) = s_x X d c is (ls) (.ref 46 :: st) (mm I J) := rfl
theorem f_39_2 : s_x X d c (.getfield 194 :: is) (ls) (.ref 39 :: st) (mm I J) = s_x X d c is (ls) (.int (iI (I 39 2)) :: st) (mm I J) := rfl
theorem p_39_2 {v : Int} : s_x X d c (.putfield 194 :: is) (ls) (.int (iI v) :: .ref 39 :: st) (mm I J) = s_x X d c is (ls) (st) (mm (up I 39 2 v) J) := x_pf rfl rfl rfl
theorem f_39_3 : s_x X d c (.getfield 195 :: is) (ls) (.ref 39 :: st) (mm I J) = s_x X d c is (ls) (.int (iI (I 39 3)) :: st) (mm I J) := rfl
theorem p_39_3 {v : Int} : s_x X d c (.putfield 195 :: is) (ls) (.int (iI v) :: .ref 39 :: st) (mm I J) = s_x X d c is (ls) (st) (mm (up I 39 3 v) J) := x_pf rfl rfl rfl
theorem f_39_4 : s_x X d c (.getfield 196 :: is) (ls) (.ref 39 :: st) (mm I J) = s_x X d c is (ls) (.int (iI (I 39 4)) :: st) (mm I J) := rfl
theorem p_39_4 {v : Int} : s_x X d c (.putfield 196 :: is) (ls) (.int (iI v) :: .ref 39 :: st) (mm I J) = s_x X d c is (ls) (st) (mm (up I 39 4 v) J) := x_pf rfl rfl rfl
theorem f_39_5 : s_x X d c (.getfield 197 :: is) (ls) (.ref 39 :: st) (mm I J) = s_x X d c is (ls) (.int (iI (I 39 5)) :: st) (mm I J) := rfl
theorem p_39_5 {v : Int} : s_x X d c (.putfield 197 :: is) (ls) (.int (iI v) :: .ref 39 :: st) (mm I J) = s_x X d c is (ls) (st) (mm (up I 39 5 v) J) := x_pf rfl rfl rfl
theorem f_39_6 : s_x X d c (.getfield 198 :: is) (ls) (.ref 39 :: st) (mm I J) = s_x X d c is (ls) (.int (iI (I 39 6)) :: st) (mm I J) := rfl
theorem p_39_6 {v : Int} : s_x X d c (.putfield 198 :: is) (ls) (.int (iI v) :: .ref 39 :: st) (mm I J) = s_x X d c is (ls) (st) (mm (up I 39 6 v) J) := x_pf rfl rfl rfl
theorem f_39_7 : s_x X d c (.getfield 199 :: is) (ls) (.ref 39 :: st) (mm I J) = s_x X d c is (ls) (.int (iI (I 39 7)) :: st) (mm I J) := rfl
theorem p_39_7 {v : Int} : s_x X d c (.putfield 199 :: is) (ls) (.int (iI v) :: .ref 39 :: st) (mm I J) = s_x X d c is (ls) (st) (mm (up I 39 7 v) J) := x_pf rfl rfl rfl
theorem f_39_8 : s_x X d c (.getfield 200 :: is) (ls) (.ref 39 :: st) (mm I J) = s_x X d c is (ls) (.int (iI (I 39 8)) :: st) (mm I J) := rfl
theorem p_39_8 {v : Int} : s_x X d c (.putfield 200 :: is) (ls) (.int (iI v) :: .ref 39 :: st) (mm I J) = s_x X d c is (ls) (st) (mm (up I 39 8 v) J) := x_pf rfl rfl rfl
theorem f_39_9 : s_x X d c (.getfield 201 :: is) (ls) (.ref 39 :: st) (mm I J) = s_x X d c is (ls) (.int (iI (I 39 9)) :: st) (mm I J) := rfl
theorem p_39_9 {v : Int} : s_x X d c (.putfield 201 :: is) (ls) (.int (iI v) :: .ref 39 :: st) (mm I J) = s_x X d c is (ls) (st) (mm (up I 39 9 v) J) := x_pf rfl rfl rfl
theorem f_39_10 : s_x X d c (.getfield 202 :: is) (ls) (.ref 39 :: st) (mm I J) = s_x X d c is (ls) (.int (iI (I 39 10)) :: st) (mm I J) := rfl
theorem p_39_10 {v : Int} : s_x X d c (.putfield 202 :: is) (ls) (.int (iI v) :: .ref 39 :: st) (mm I J) = s_x X d c is (ls) (st) (mm (up I 39 10 v) J) := x_pf rfl rfl rfl
theorem f_39_11 : s_x X d c (.getfield 203 :: is) (ls) (.ref 39 :: st) (mm I J) = s_x X d c is (ls) (.int (iI (I 39 11)) :: st) (mm I J) := rfl
theorem p_39_11 {v : Int} : s_x X d c (.putfield 203 :: is) (ls) (.int (iI v) :: .ref 39 :: st) (mm I J) = s_x X d c is (ls) (st) (mm (up I 39 11 v) J) := x_pf rfl rfl rfl
theorem k_39_12 : s_x X d c (.checkcast 204 :: is) (ls) (.ref 39 :: st) (mm I J) = s_x X d c is (ls) (.ref 47 :: st) (mm I J) := rfl
theorem f_39_13 : s_x X d c (.getfield 205 :: is) (ls) (.ref 39 :: st) (mm I J) = s_x X d c is (ls) (.int (iI (I 39 13)) :: st) (mm I J) := rfl
theorem p_39_13 {v : Int} : s_x X d c (.putfield 205 :: is) (ls) (.int (iI v) :: .ref 39 :: st) (mm I J) = s_x X d c is (ls) (st) (mm (up I 39 13 v) J) := x_pf rfl rfl rfl
theorem k_40_0 : s_x X d c (.checkcast 64 :: is) (ls) (.ref 40 :: st) (mm I J) = s_x X d c is (ls) (.ref 41 :: st) (mm I J) := rfl
theorem k_40_1 : s_x X d c (.checkcast 65 :: is) (ls) (.ref 40 :: st) (mm I J) = s_x X d c is (ls) (.ref 42 :: st) (mm I J) := rfl
theorem k_40_2 : s_x X d c (.checkcast 66 :: is) (ls) (.ref 40 :: st) (mm I J) = s_x X d c is (ls) (.ref 43 :: st) (mm I J) := rfl
theorem k_40_3 : s_x X d c (.checkcast 67 :: is) (ls) (.ref 40 :: st) (mm I J) = s_x X d c is (ls) (.ref 44 :: st) (mm I J) := rfl
theorem k_40_4 : s_x X d c (.checkcast 68 :: is) (ls) (.ref 40 :: st) (mm I J) = s_x X d c is (ls) (.ref 45 :: st) (mm I J) := rfl
theorem f_40_5 : s_x X d c (.getfield 69 :: is) (ls) (.ref 40 :: st) (mm I J) = s_x X d c is (ls) (.int (iI (I 40 5)) :: st) (mm I J) := rfl
theorem p_40_5 {v : Int} : s_x X d c (.putfield 69 :: is) (ls) (.int (iI v) :: .ref 40 :: st) (mm I J) = s_x X d c is (ls) (st) (mm (up I 40 5 v) J) := x_pf rfl rfl rfl
theorem f_40_6 : s_x X d c (.getfield 70 :: is) (ls) (.ref 40 :: st) (mm I J) = s_x X d c is (ls) (.int (iI (I 40 6)) :: st) (mm I J) := rfl
theorem p_40_6 {v : Int} : s_x X d c (.putfield 70 :: is) (ls) (.int (iI v) :: .ref 40 :: st) (mm I J) = s_x X d c is (ls) (st) (mm (up I 40 6 v) J) := x_pf rfl rfl rfl
theorem ia_41 {z : Int} (h : 0 ≤ z ∧ z < 8) : s_x X d c (.iaload :: is) (ls) (.int (iI z) :: .ref 41 :: st) (mm I J) = s_x X d c is (ls) (.int (iI (I 41 z)) :: st) (mm I J) := x_ia rfl h
theorem is_41 {z v : Int} (h : 0 ≤ z ∧ z < 8) : s_x X d c (.iastore :: is) (ls) (.int (iI v) :: .int (iI z) :: .ref 41 :: st) (mm I J) = s_x X d c is (ls) (st) (mm (up I 41 z v) J) := x_is rfl h
theorem al_41 : s_x X d c (.arraylength :: is) (ls) (.ref 41 :: st) (mm I J) = s_x X d c is (ls) (.int (iI 8) :: st) (mm I J) := rfl
theorem ia_42 {z : Int} (h : 0 ≤ z ∧ z < 8) : s_x X d c (.iaload :: is) (ls) (.int (iI z) :: .ref 42 :: st) (mm I J) = s_x X d c is (ls) (.int (iI (I 42 z)) :: st) (mm I J) := x_ia rfl h
theorem is_42 {z v : Int} (h : 0 ≤ z ∧ z < 8) : s_x X d c (.iastore :: is) (ls) (.int (iI v) :: .int (iI z) :: .ref 42 :: st) (mm I J) = s_x X d c is (ls) (st) (mm (up I 42 z v) J) := x_is rfl h
theorem al_42 : s_x X d c (.arraylength :: is) (ls) (.ref 42 :: st) (mm I J) = s_x X d c is (ls) (.int (iI 8) :: st) (mm I J) := rfl
theorem ia_43 {z : Int} (h : 0 ≤ z ∧ z < 8) : s_x X d c (.iaload :: is) (ls) (.int (iI z) :: .ref 43 :: st) (mm I J) = s_x X d c is (ls) (.int (iI (I 43 z)) :: st) (mm I J) := x_ia rfl h
theorem is_43 {z v : Int} (h : 0 ≤ z ∧ z < 8) : s_x X d c (.iastore :: is) (ls) (.int (iI v) :: .int (iI z) :: .ref 43 :: st) (mm I J) = s_x X d c is (ls) (st) (mm (up I 43 z v) J) := x_is rfl h
theorem al_43 : s_x X d c (.arraylength :: is) (ls) (.ref 43 :: st) (mm I J) = s_x X d c is (ls) (.int (iI 8) :: st) (mm I J) := rfl
theorem ia_44 {z : Int} (h : 0 ≤ z ∧ z < 200) : s_x X d c (.iaload :: is) (ls) (.int (iI z) :: .ref 44 :: st) (mm I J) = s_x X d c is (ls) (.int (iI (I 44 z)) :: st) (mm I J) := x_ia rfl h
theorem is_44 {z v : Int} (h : 0 ≤ z ∧ z < 200) : s_x X d c (.iastore :: is) (ls) (.int (iI v) :: .int (iI z) :: .ref 44 :: st) (mm I J) = s_x X d c is (ls) (st) (mm (up I 44 z v) J) := x_is rfl h
theorem al_44 : s_x X d c (.arraylength :: is) (ls) (.ref 44 :: st) (mm I J) = s_x X d c is (ls) (.int (iI 200) :: st) (mm I J) := rfl
theorem ia_45 {z : Int} (h : 0 ≤ z ∧ z < 5) : s_x X d c (.iaload :: is) (ls) (.int (iI z) :: .ref 45 :: st) (mm I J) = s_x X d c is (ls) (.int (iI (I 45 z)) :: st) (mm I J) := x_ia rfl h
theorem is_45 {z v : Int} (h : 0 ≤ z ∧ z < 5) : s_x X d c (.iastore :: is) (ls) (.int (iI v) :: .int (iI z) :: .ref 45 :: st) (mm I J) = s_x X d c is (ls) (st) (mm (up I 45 z v) J) := x_is rfl h
theorem al_45 : s_x X d c (.arraylength :: is) (ls) (.ref 45 :: st) (mm I J) = s_x X d c is (ls) (.int (iI 5) :: st) (mm I J) := rfl
theorem ia_46 {z : Int} (h : 0 ≤ z ∧ z < 200) : s_x X d c (.iaload :: is) (ls) (.int (iI z) :: .ref 46 :: st) (mm I J) = s_x X d c is (ls) (.int (iI (I 46 z)) :: st) (mm I J) := x_ia rfl h
theorem is_46 {z v : Int} (h : 0 ≤ z ∧ z < 200) : s_x X d c (.iastore :: is) (ls) (.int (iI v) :: .int (iI z) :: .ref 46 :: st) (mm I J) = s_x X d c is (ls) (st) (mm (up I 46 z v) J) := x_is rfl h
theorem al_46 : s_x X d c (.arraylength :: is) (ls) (.ref 46 :: st) (mm I J) = s_x X d c is (ls) (.int (iI 200) :: st) (mm I J) := rfl
theorem ia_47 {z : Int} (h : 0 ≤ z ∧ z < 200) : s_x X d c (.iaload :: is) (ls) (.int (iI z) :: .ref 47 :: st) (mm I J) = s_x X d c is (ls) (.int (iI (I 47 z)) :: st) (mm I J) := x_ia rfl h
theorem is_47 {z v : Int} (h : 0 ≤ z ∧ z < 200) : s_x X d c (.iastore :: is) (ls) (.int (iI v) :: .int (iI z) :: .ref 47 :: st) (mm I J) = s_x X d c is (ls) (st) (mm (up I 47 z v) J) := x_is rfl h
theorem al_47 : s_x X d c (.arraylength :: is) (ls) (.ref 47 :: st) (mm I J) = s_x X d c is (ls) (.int (iI 200) :: st) (mm I J) := rfl
theorem k_48_0 : s_x X d c (.checkcast 128 :: is) (ls) (.ref 48 :: st) (mm I J) = s_x X d c is (ls) (.ref 1 :: st) (mm I J) := rfl
theorem k_48_1 : s_x X d c (.checkcast 129 :: is) (ls) (.ref 48 :: st) (mm I J) = s_x X d c is (ls) (.ref 49 :: st) (mm I J) := rfl
theorem k_48_2 : s_x X d c (.checkcast 130 :: is) (ls) (.ref 48 :: st) (mm I J) = s_x X d c is (ls) (.ref 50 :: st) (mm I J) := rfl
theorem f_48_3 : s_x X d c (.getfield 131 :: is) (ls) (.ref 48 :: st) (mm I J) = s_x X d c is (ls) (.int (iI (I 48 3)) :: st) (mm I J) := rfl
theorem p_48_3 {v : Int} : s_x X d c (.putfield 131 :: is) (ls) (.int (iI v) :: .ref 48 :: st) (mm I J) = s_x X d c is (ls) (st) (mm (up I 48 3 v) J) := x_pf rfl rfl rfl
theorem f_48_4 : s_x X d c (.getfield 132 :: is) (ls) (.ref 48 :: st) (mm I J) = s_x X d c is (ls) (.int (iI (I 48 4)) :: st) (mm I J) := rfl
theorem p_48_4 {v : Int} : s_x X d c (.putfield 132 :: is) (ls) (.int (iI v) :: .ref 48 :: st) (mm I J) = s_x X d c is (ls) (st) (mm (up I 48 4 v) J) := x_pf rfl rfl rfl
theorem f_48_5 : s_x X d c (.getfield 133 :: is) (ls) (.ref 48 :: st) (mm I J) = s_x X d c is (ls) (.int (iI (I 48 5)) :: st) (mm I J) := rfl
theorem p_48_5 {v : Int} : s_x X d c (.putfield 133 :: is) (ls) (.int (iI v) :: .ref 48 :: st) (mm I J) = s_x X d c is (ls) (st) (mm (up I 48 5 v) J) := x_pf rfl rfl rfl
theorem f_48_6 : s_x X d c (.getfield 134 :: is) (ls) (.ref 48 :: st) (mm I J) = s_x X d c is (ls) (.int (iI (I 48 6)) :: st) (mm I J) := rfl
theorem p_48_6 {v : Int} : s_x X d c (.putfield 134 :: is) (ls) (.int (iI v) :: .ref 48 :: st) (mm I J) = s_x X d c is (ls) (st) (mm (up I 48 6 v) J) := x_pf rfl rfl rfl
theorem f_48_7 : s_x X d c (.getfield 135 :: is) (ls) (.ref 48 :: st) (mm I J) = s_x X d c is (ls) (.int (iI (I 48 7)) :: st) (mm I J) := rfl
theorem p_48_7 {v : Int} : s_x X d c (.putfield 135 :: is) (ls) (.int (iI v) :: .ref 48 :: st) (mm I J) = s_x X d c is (ls) (st) (mm (up I 48 7 v) J) := x_pf rfl rfl rfl
theorem f_48_8 : s_x X d c (.getfield 136 :: is) (ls) (.ref 48 :: st) (mm I J) = s_x X d c is (ls) (.int (iI (I 48 8)) :: st) (mm I J) := rfl
theorem p_48_8 {v : Int} : s_x X d c (.putfield 136 :: is) (ls) (.int (iI v) :: .ref 48 :: st) (mm I J) = s_x X d c is (ls) (st) (mm (up I 48 8 v) J) := x_pf rfl rfl rfl
theorem ia_49 {z : Int} (h : 0 ≤ z ∧ z < 4) : s_x X d c (.iaload :: is) (ls) (.int (iI z) :: .ref 49 :: st) (mm I J) = s_x X d c is (ls) (.int (iI (I 49 z)) :: st) (mm I J) := x_ia rfl h
theorem is_49 {z v : Int} (h : 0 ≤ z ∧ z < 4) : s_x X d c (.iastore :: is) (ls) (.int (iI v) :: .int (iI z) :: .ref 49 :: st) (mm I J) = s_x X d c is (ls) (st) (mm (up I 49 z v) J) := x_is rfl h
theorem al_49 : s_x X d c (.arraylength :: is) (ls) (.ref 49 :: st) (mm I J) = s_x X d c is (ls) (.int (iI 4) :: st) (mm I J) := rfl
theorem ia_50 {z : Int} (h : 0 ≤ z ∧ z < 4) : s_x X d c (.iaload :: is) (ls) (.int (iI z) :: .ref 50 :: st) (mm I J) = s_x X d c is (ls) (.int (iI (I 50 z)) :: st) (mm I J) := x_ia rfl h
theorem is_50 {z v : Int} (h : 0 ≤ z ∧ z < 4) : s_x X d c (.iastore :: is) (ls) (.int (iI v) :: .int (iI z) :: .ref 50 :: st) (mm I J) = s_x X d c is (ls) (st) (mm (up I 50 z v) J) := x_is rfl h
theorem al_50 : s_x X d c (.arraylength :: is) (ls) (.ref 50 :: st) (mm I J) = s_x X d c is (ls) (.int (iI 4) :: st) (mm I J) := rfl
theorem k_51_0 : s_x X d c (.checkcast 320 :: is) (ls) (.ref 51 :: st) (mm I J) = s_x X d c is (ls) (.ref 1 :: st) (mm I J) := rfl
theorem k_51_1 : s_x X d c (.checkcast 321 :: is) (ls) (.ref 51 :: st) (mm I J) = s_x X d c is (ls) (.ref 52 :: st) (mm I J) := rfl
theorem f_51_2 : s_x X d c (.getfield 322 :: is) (ls) (.ref 51 :: st) (mm I J) = s_x X d c is (ls) (.int (iI (I 51 2)) :: st) (mm I J) := rfl
theorem p_51_2 {v : Int} : s_x X d c (.putfield 322 :: is) (ls) (.int (iI v) :: .ref 51 :: st) (mm I J) = s_x X d c is (ls) (st) (mm (up I 51 2 v) J) := x_pf rfl rfl rfl
theorem ia_52 {z : Int} (h : 0 ≤ z ∧ z < 12) : s_x X d c (.iaload :: is) (ls) (.int (iI z) :: .ref 52 :: st) (mm I J) = s_x X d c is (ls) (.int (iI (I 52 z)) :: st) (mm I J) := x_ia rfl h
theorem is_52 {z v : Int} (h : 0 ≤ z ∧ z < 12) : s_x X d c (.iastore :: is) (ls) (.int (iI v) :: .int (iI z) :: .ref 52 :: st) (mm I J) = s_x X d c is (ls) (st) (mm (up I 52 z v) J) := x_is rfl h
theorem al_52 : s_x X d c (.arraylength :: is) (ls) (.ref 52 :: st) (mm I J) = s_x X d c is (ls) (.int (iI 12) :: st) (mm I J) := rfl
theorem aa_53_0 : s_x X d c (.aaload :: is) (ls) (.int (iI 0) :: .ref 53 :: st) (mm I J) = s_x X d c is (ls) (.ref 57 :: st) (mm I J) := rfl
theorem aa_53_1 : s_x X d c (.aaload :: is) (ls) (.int (iI 1) :: .ref 53 :: st) (mm I J) = s_x X d c is (ls) (.ref 59 :: st) (mm I J) := rfl
theorem aa_53_2 : s_x X d c (.aaload :: is) (ls) (.int (iI 2) :: .ref 53 :: st) (mm I J) = s_x X d c is (ls) (.ref 61 :: st) (mm I J) := rfl
theorem aa_53_3 : s_x X d c (.aaload :: is) (ls) (.int (iI 3) :: .ref 53 :: st) (mm I J) = s_x X d c is (ls) (.ref 63 :: st) (mm I J) := rfl
theorem aa_54_0 : s_x X d c (.aaload :: is) (ls) (.int (iI 0) :: .ref 54 :: st) (mm I J) = s_x X d c is (ls) (.ref 65 :: st) (mm I J) := rfl
theorem aa_54_1 : s_x X d c (.aaload :: is) (ls) (.int (iI 1) :: .ref 54 :: st) (mm I J) = s_x X d c is (ls) (.ref 66 :: st) (mm I J) := rfl
theorem aa_54_2 : s_x X d c (.aaload :: is) (ls) (.int (iI 2) :: .ref 54 :: st) (mm I J) = s_x X d c is (ls) (.ref 67 :: st) (mm I J) := rfl
theorem aa_54_3 : s_x X d c (.aaload :: is) (ls) (.int (iI 3) :: .ref 54 :: st) (mm I J) = s_x X d c is (ls) (.ref 68 :: st) (mm I J) := rfl
theorem k_55_0 : s_x X d c (.checkcast 0 :: is) (ls) (.ref 55 :: st) (mm I J) = s_x X d c is (ls) (.ref 56 :: st) (mm I J) := rfl
theorem f_55_1 : s_x X d c (.getfield 1 :: is) (ls) (.ref 55 :: st) (mm I J) = s_x X d c is (ls) (.int (iI (I 55 1)) :: st) (mm I J) := rfl
theorem p_55_1 {v : Int} : s_x X d c (.putfield 1 :: is) (ls) (.int (iI v) :: .ref 55 :: st) (mm I J) = s_x X d c is (ls) (st) (mm (up I 55 1 v) J) := x_pf rfl rfl rfl
theorem f_55_2 : s_x X d c (.getfield 2 :: is) (ls) (.ref 55 :: st) (mm I J) = s_x X d c is (ls) (.int (iI (I 55 2)) :: st) (mm I J) := rfl
theorem p_55_2_0 : s_x X d c (.putfield 2 :: is) (ls) (.int (iI 0) :: .ref 55 :: st) (mm I J) = s_x X d c is (ls) (st) (mm (up I 55 2 0) J) := x_pf rfl rfl rfl
theorem p_55_2_1 : s_x X d c (.putfield 2 :: is) (ls) (.int (iI 1) :: .ref 55 :: st) (mm I J) = s_x X d c is (ls) (st) (mm (up I 55 2 1) J) := x_pf rfl rfl rfl
theorem p_55_2_b {p : Prop} [Decidable p] : s_x X d c (.putfield 2 :: is) (ls) (.int (iI (if p then 1 else 0)) :: .ref 55 :: st) (mm I J) = s_x X d c is (ls) (st) (mm (up I 55 2 (if p then 1 else 0)) J) := by
  by_cases h : p
  · simp only [if_pos h]; exact x_pf rfl rfl rfl
  · simp only [if_neg h]; exact x_pf rfl rfl rfl
theorem f_55_3 : s_x X d c (.getfield 3 :: is) (ls) (.ref 55 :: st) (mm I J) = s_x X d c is (ls) (.int (iI (I 55 3)) :: st) (mm I J) := rfl
theorem p_55_3 {v : Int} : s_x X d c (.putfield 3 :: is) (ls) (.int (iI v) :: .ref 55 :: st) (mm I J) = s_x X d c is (ls) (st) (mm (up I 55 3 v) J) := x_pf rfl rfl rfl
theorem f_55_4 : s_x X d c (.getfield 4 :: is) (ls) (.ref 55 :: st) (mm I J) = s_x X d c is (ls) (.int (iI (I 55 4)) :: st) (mm I J) := rfl
theorem p_55_4 {v : Int} : s_x X d c (.putfield 4 :: is) (ls) (.int (iI v) :: .ref 55 :: st) (mm I J) = s_x X d c is (ls) (st) (mm (up I 55 4 v) J) := x_pf rfl rfl rfl
theorem f_55_5 : s_x X d c (.getfield 5 :: is) (ls) (.ref 55 :: st) (mm I J) = s_x X d c is (ls) (.int (iI (I 55 5)) :: st) (mm I J) := rfl
theorem p_55_5 {v : Int} : s_x X d c (.putfield 5 :: is) (ls) (.int (iI v) :: .ref 55 :: st) (mm I J) = s_x X d c is (ls) (st) (mm (up I 55 5 v) J) := x_pf rfl rfl rfl
theorem ia_56 {z : Int} (h : 0 ≤ z ∧ z < 30) : s_x X d c (.iaload :: is) (ls) (.int (iI z) :: .ref 56 :: st) (mm I J) = s_x X d c is (ls) (.int (iI (I 56 z)) :: st) (mm I J) := x_ia rfl h
theorem is_56 {z v : Int} (h : 0 ≤ z ∧ z < 30) : s_x X d c (.iastore :: is) (ls) (.int (iI v) :: .int (iI z) :: .ref 56 :: st) (mm I J) = s_x X d c is (ls) (st) (mm (up I 56 z v) J) := x_is rfl h
theorem al_56 : s_x X d c (.arraylength :: is) (ls) (.ref 56 :: st) (mm I J) = s_x X d c is (ls) (.int (iI 30) :: st) (mm I J) := rfl
theorem k_57_0 : s_x X d c (.checkcast 384 :: is) (ls) (.ref 57 :: st) (mm I J) = s_x X d c is (ls) (.ref 58 :: st) (mm I J) := rfl
theorem f_57_1 : s_x X d c (.getfield 385 :: is) (ls) (.ref 57 :: st) (mm I J) = s_x X d c is (ls) (.int (iI (I 57 1)) :: st) (mm I J) := rfl
theorem p_57_1 {v : Int} : s_x X d c (.putfield 385 :: is) (ls) (.int (iI v) :: .ref 57 :: st) (mm I J) = s_x X d c is (ls) (st) (mm (up I 57 1 v) J) := x_pf rfl rfl rfl
theorem f_57_2 : s_x X d c (.getfield 386 :: is) (ls) (.ref 57 :: st) (mm I J) = s_x X d c is (ls) (.int (iI (I 57 2)) :: st) (mm I J) := rfl
theorem p_57_2 {v : Int} : s_x X d c (.putfield 386 :: is) (ls) (.int (iI v) :: .ref 57 :: st) (mm I J) = s_x X d c is (ls) (st) (mm (up I 57 2 v) J) := x_pf rfl rfl rfl
theorem la_58 {z : Int} (h : 0 ≤ z ∧ z < 40) : s_x X d c (.laload :: is) (ls) (.int (iI z) :: .ref 58 :: st) (mm I J) = s_x X d c is (ls) (.long (lI (J 58 z)) :: st) (mm I J) := x_la rfl h
theorem ls_58 {z v : Int} (h : 0 ≤ z ∧ z < 40) : s_x X d c (.lastore :: is) (ls) (.long (lI v) :: .int (iI z) :: .ref 58 :: st) (mm I J) = s_x X d c is (ls) (st) (mm I (up J 58 z v)) := x_ls rfl h
theorem k_59_0 : s_x X d c (.checkcast 384 :: is) (ls) (.ref 59 :: st) (mm I J) = s_x X d c is (ls) (.ref 60 :: st) (mm I J) := rfl
theorem f_59_1 : s_x X d c (.getfield 385 :: is) (ls) (.ref 59 :: st) (mm I J) = s_x X d c is (ls) (.int (iI (I 59 1)) :: st) (mm I J) := rfl
theorem p_59_1 {v : Int} : s_x X d c (.putfield 385 :: is) (ls) (.int (iI v) :: .ref 59 :: st) (mm I J) = s_x X d c is (ls) (st) (mm (up I 59 1 v) J) := x_pf rfl rfl rfl
theorem f_59_2 : s_x X d c (.getfield 386 :: is) (ls) (.ref 59 :: st) (mm I J) = s_x X d c is (ls) (.int (iI (I 59 2)) :: st) (mm I J) := rfl
theorem p_59_2 {v : Int} : s_x X d c (.putfield 386 :: is) (ls) (.int (iI v) :: .ref 59 :: st) (mm I J) = s_x X d c is (ls) (st) (mm (up I 59 2 v) J) := x_pf rfl rfl rfl
theorem la_60 {z : Int} (h : 0 ≤ z ∧ z < 40) : s_x X d c (.laload :: is) (ls) (.int (iI z) :: .ref 60 :: st) (mm I J) = s_x X d c is (ls) (.long (lI (J 60 z)) :: st) (mm I J) := x_la rfl h
theorem ls_60 {z v : Int} (h : 0 ≤ z ∧ z < 40) : s_x X d c (.lastore :: is) (ls) (.long (lI v) :: .int (iI z) :: .ref 60 :: st) (mm I J) = s_x X d c is (ls) (st) (mm I (up J 60 z v)) := x_ls rfl h
theorem k_61_0 : s_x X d c (.checkcast 384 :: is) (ls) (.ref 61 :: st) (mm I J) = s_x X d c is (ls) (.ref 62 :: st) (mm I J) := rfl
theorem f_61_1 : s_x X d c (.getfield 385 :: is) (ls) (.ref 61 :: st) (mm I J) = s_x X d c is (ls) (.int (iI (I 61 1)) :: st) (mm I J) := rfl
theorem p_61_1 {v : Int} : s_x X d c (.putfield 385 :: is) (ls) (.int (iI v) :: .ref 61 :: st) (mm I J) = s_x X d c is (ls) (st) (mm (up I 61 1 v) J) := x_pf rfl rfl rfl
theorem f_61_2 : s_x X d c (.getfield 386 :: is) (ls) (.ref 61 :: st) (mm I J) = s_x X d c is (ls) (.int (iI (I 61 2)) :: st) (mm I J) := rfl
theorem p_61_2 {v : Int} : s_x X d c (.putfield 386 :: is) (ls) (.int (iI v) :: .ref 61 :: st) (mm I J) = s_x X d c is (ls) (st) (mm (up I 61 2 v) J) := x_pf rfl rfl rfl
theorem la_62 {z : Int} (h : 0 ≤ z ∧ z < 40) : s_x X d c (.laload :: is) (ls) (.int (iI z) :: .ref 62 :: st) (mm I J) = s_x X d c is (ls) (.long (lI (J 62 z)) :: st) (mm I J) := x_la rfl h
theorem ls_62 {z v : Int} (h : 0 ≤ z ∧ z < 40) : s_x X d c (.lastore :: is) (ls) (.long (lI v) :: .int (iI z) :: .ref 62 :: st) (mm I J) = s_x X d c is (ls) (st) (mm I (up J 62 z v)) := x_ls rfl h
theorem k_63_0 : s_x X d c (.checkcast 384 :: is) (ls) (.ref 63 :: st) (mm I J) = s_x X d c is (ls) (.ref 64 :: st) (mm I J) := rfl
theorem f_63_1 : s_x X d c (.getfield 385 :: is) (ls) (.ref 63 :: st) (mm I J) = s_x X d c is (ls) (.int (iI (I 63 1)) :: st) (mm I J) := rfl
theorem p_63_1 {v : Int} : s_x X d c (.putfield 385 :: is) (ls) (.int (iI v) :: .ref 63 :: st) (mm I J) = s_x X d c is (ls) (st) (mm (up I 63 1 v) J) := x_pf rfl rfl rfl
theorem f_63_2 : s_x X d c (.getfield 386 :: is) (ls) (.ref 63 :: st) (mm I J) = s_x X d c is (ls) (.int (iI (I 63 2)) :: st) (mm I J) := rfl
theorem p_63_2 {v : Int} : s_x X d c (.putfield 386 :: is) (ls) (.int (iI v) :: .ref 63 :: st) (mm I J) = s_x X d c is (ls) (st) (mm (up I 63 2 v) J) := x_pf rfl rfl rfl
theorem la_64 {z : Int} (h : 0 ≤ z ∧ z < 40) : s_x X d c (.laload :: is) (ls) (.int (iI z) :: .ref 64 :: st) (mm I J) = s_x X d c is (ls) (.long (lI (J 64 z)) :: st) (mm I J) := x_la rfl h
theorem ls_64 {z v : Int} (h : 0 ≤ z ∧ z < 40) : s_x X d c (.lastore :: is) (ls) (.long (lI v) :: .int (iI z) :: .ref 64 :: st) (mm I J) = s_x X d c is (ls) (st) (mm I (up J 64 z v)) := x_ls rfl h
theorem f_65_0 : s_x X d c (.getfield 448 :: is) (ls) (.ref 65 :: st) (mm I J) = s_x X d c is (ls) (.int (iI (I 65 0)) :: st) (mm I J) := rfl
theorem p_65_0 {v : Int} : s_x X d c (.putfield 448 :: is) (ls) (.int (iI v) :: .ref 65 :: st) (mm I J) = s_x X d c is (ls) (st) (mm (up I 65 0 v) J) := x_pf rfl rfl rfl
theorem f_65_1 : s_x X d c (.getfield 449 :: is) (ls) (.ref 65 :: st) (mm I J) = s_x X d c is (ls) (.int (iI (I 65 1)) :: st) (mm I J) := rfl
theorem p_65_1 {v : Int} : s_x X d c (.putfield 449 :: is) (ls) (.int (iI v) :: .ref 65 :: st) (mm I J) = s_x X d c is (ls) (st) (mm (up I 65 1 v) J) := x_pf rfl rfl rfl
theorem f_65_2 : s_x X d c (.getfield 450 :: is) (ls) (.ref 65 :: st) (mm I J) = s_x X d c is (ls) (.int (iI (I 65 2)) :: st) (mm I J) := rfl
theorem p_65_2 {v : Int} : s_x X d c (.putfield 450 :: is) (ls) (.int (iI v) :: .ref 65 :: st) (mm I J) = s_x X d c is (ls) (st) (mm (up I 65 2 v) J) := x_pf rfl rfl rfl
theorem f_65_3 : s_x X d c (.getfield 451 :: is) (ls) (.ref 65 :: st) (mm I J) = s_x X d c is (ls) (.int (iI (I 65 3)) :: st) (mm I J) := rfl
theorem p_65_3 {v : Int} : s_x X d c (.putfield 451 :: is) (ls) (.int (iI v) :: .ref 65 :: st) (mm I J) = s_x X d c is (ls) (st) (mm (up I 65 3 v) J) := x_pf rfl rfl rfl
theorem f_66_0 : s_x X d c (.getfield 448 :: is) (ls) (.ref 66 :: st) (mm I J) = s_x X d c is (ls) (.int (iI (I 66 0)) :: st) (mm I J) := rfl
theorem p_66_0 {v : Int} : s_x X d c (.putfield 448 :: is) (ls) (.int (iI v) :: .ref 66 :: st) (mm I J) = s_x X d c is (ls) (st) (mm (up I 66 0 v) J) := x_pf rfl rfl rfl
theorem f_66_1 : s_x X d c (.getfield 449 :: is) (ls) (.ref 66 :: st) (mm I J) = s_x X d c is (ls) (.int (iI (I 66 1)) :: st) (mm I J) := rfl
theorem p_66_1 {v : Int} : s_x X d c (.putfield 449 :: is) (ls) (.int (iI v) :: .ref 66 :: st) (mm I J) = s_x X d c is (ls) (st) (mm (up I 66 1 v) J) := x_pf rfl rfl rfl
theorem f_66_2 : s_x X d c (.getfield 450 :: is) (ls) (.ref 66 :: st) (mm I J) = s_x X d c is (ls) (.int (iI (I 66 2)) :: st) (mm I J) := rfl
theorem p_66_2 {v : Int} : s_x X d c (.putfield 450 :: is) (ls) (.int (iI v) :: .ref 66 :: st) (mm I J) = s_x X d c is (ls) (st) (mm (up I 66 2 v) J) := x_pf rfl rfl rfl
theorem f_66_3 : s_x X d c (.getfield 451 :: is) (ls) (.ref 66 :: st) (mm I J) = s_x X d c is (ls) (.int (iI (I 66 3)) :: st) (mm I J) := rfl
theorem p_66_3 {v : Int} : s_x X d c (.putfield 451 :: is) (ls) (.int (iI v) :: .ref 66 :: st) (mm I J) = s_x X d c is (ls) (st) (mm (up I 66 3 v) J) := x_pf rfl rfl rfl
theorem f_67_0 : s_x X d c (.getfield 448 :: is) (ls) (.ref 67 :: st) (mm I J) = s_x X d c is (ls) (.int (iI (I 67 0)) :: st) (mm I J) := rfl
theorem p_67_0 {v : Int} : s_x X d c (.putfield 448 :: is) (ls) (.int (iI v) :: .ref 67 :: st) (mm I J) = s_x X d c is (ls) (st) (mm (up I 67 0 v) J) := x_pf rfl rfl rfl
theorem f_67_1 : s_x X d c (.getfield 449 :: is) (ls) (.ref 67 :: st) (mm I J) = s_x X d c is (ls) (.int (iI (I 67 1)) :: st) (mm I J) := rfl
theorem p_67_1 {v : Int} : s_x X d c (.putfield 449 :: is) (ls) (.int (iI v) :: .ref 67 :: st) (mm I J) = s_x X d c is (ls) (st) (mm (up I 67 1 v) J) := x_pf rfl rfl rfl
theorem f_67_2 : s_x X d c (.getfield 450 :: is) (ls) (.ref 67 :: st) (mm I J) = s_x X d c is (ls) (.int (iI (I 67 2)) :: st) (mm I J) := rfl
theorem p_67_2 {v : Int} : s_x X d c (.putfield 450 :: is) (ls) (.int (iI v) :: .ref 67 :: st) (mm I J) = s_x X d c is (ls) (st) (mm (up I 67 2 v) J) := x_pf rfl rfl rfl
theorem f_67_3 : s_x X d c (.getfield 451 :: is) (ls) (.ref 67 :: st) (mm I J) = s_x X d c is (ls) (.int (iI (I 67 3)) :: st) (mm I J) := rfl
theorem p_67_3 {v : Int} : s_x X d c (.putfield 451 :: is) (ls) (.int (iI v) :: .ref 67 :: st) (mm I J) = s_x X d c is (ls) (st) (mm (up I 67 3 v) J) := x_pf rfl rfl rfl
theorem f_68_0 : s_x X d c (.getfield 448 :: is) (ls) (.ref 68 :: st) (mm I J) = s_x X d c is (ls) (.int (iI (I 68 0)) :: st) (mm I J) := rfl
theorem p_68_0 {v : Int} : s_x X d c (.putfield 448 :: is) (ls) (.int (iI v) :: .ref 68 :: st) (mm I J) = s_x X d c is (ls) (st) (mm (up I 68 0 v) J) := x_pf rfl rfl rfl
theorem f_68_1 : s_x X d c (.getfield 449 :: is) (ls) (.ref 68 :: st) (mm I J) = s_x X d c is (ls) (.int (iI (I 68 1)) :: st) (mm I J) := rfl
theorem p_68_1 {v : Int} : s_x X d c (.putfield 449 :: is) (ls) (.int (iI v) :: .ref 68 :: st) (mm I J) = s_x X d c is (ls) (st) (mm (up I 68 1 v) J) := x_pf rfl rfl rfl
theorem f_68_2 : s_x X d c (.getfield 450 :: is) (ls) (.ref 68 :: st) (mm I J) = s_x X d c is (ls) (.int (iI (I 68 2)) :: st) (mm I J) := rfl
theorem p_68_2 {v : Int} : s_x X d c (.putfield 450 :: is) (ls) (.int (iI v) :: .ref 68 :: st) (mm I J) = s_x X d c is (ls) (st) (mm (up I 68 2 v) J) := x_pf rfl rfl rfl
theorem f_68_3 : s_x X d c (.getfield 451 :: is) (ls) (.ref 68 :: st) (mm I J) = s_x X d c is (ls) (.int (iI (I 68 3)) :: st) (mm I J) := rfl
theorem p_68_3 {v : Int} : s_x X d c (.putfield 451 :: is) (ls) (.int (iI v) :: .ref 68 :: st) (mm I J) = s_x X d c is (ls) (st) (mm (up I 68 3 v) J) := x_pf rfl rfl rfl
theorem k_69_0 : s_x X d c (.checkcast 640 :: is) (ls) (.ref 69 :: st) (mm I J) = s_x X d c is (ls) (.ref 70 :: st) (mm I J) := rfl
theorem k_69_1 : s_x X d c (.checkcast 641 :: is) (ls) (.ref 69 :: st) (mm I J) = s_x X d c is (ls) (.ref 71 :: st) (mm I J) := rfl
theorem k_69_2 : s_x X d c (.checkcast 642 :: is) (ls) (.ref 69 :: st) (mm I J) = s_x X d c is (ls) (.ref 72 :: st) (mm I J) := rfl
theorem f_69_3 : s_x X d c (.getfield 643 :: is) (ls) (.ref 69 :: st) (mm I J) = s_x X d c is (ls) (.int (iI (I 69 3)) :: st) (mm I J) := rfl
theorem p_69_3_0 : s_x X d c (.putfield 643 :: is) (ls) (.int (iI 0) :: .ref 69 :: st) (mm I J) = s_x X d c is (ls) (st) (mm (up I 69 3 0) J) := x_pf rfl rfl rfl
theorem p_69_3_1 : s_x X d c (.putfield 643 :: is) (ls) (.int (iI 1) :: .ref 69 :: st) (mm I J) = s_x X d c is (ls) (st) (mm (up I 69 3 1) J) := x_pf rfl rfl rfl
theorem p_69_3_b {p : Prop} [Decidable p] : s_x X d c (.putfield 643 :: is) (ls) (.int (iI (if p then 1 else 0)) :: .ref 69 :: st) (mm I J) = s_x X d c is (ls) (st) (mm (up I 69 3 (if p then 1 else 0)) J) := by
  by_cases h : p
  · simp only [if_pos h]; exact x_pf rfl rfl rfl
  · simp only [if_neg h]; exact x_pf rfl rfl rfl
theorem k_69_4 : s_x X d c (.checkcast 644 :: is) (ls) (.ref 69 :: st) (mm I J) = s_x X d c is (ls) (.ref 73 :: st) (mm I J) := rfl
theorem k_69_5 : s_x X d c (.checkcast 645 :: is) (ls) (.ref 69 :: st) (mm I J) = s_x X d c is (ls) (.ref 74 :: st) (mm I J) := rfl
theorem f_69_6 : s_x X d c (.getfield 646 :: is) (ls) (.ref 69 :: st) (mm I J) = s_x X d c is (ls) (.int (iI (I 69 6)) :: st) (mm I J) := rfl
theorem p_69_6 {v : Int} : s_x X d c (.putfield 646 :: is) (ls) (.int (iI v) :: .ref 69 :: st) (mm I J) = s_x X d c is (ls) (st) (mm (up I 69 6 v) J) := x_pf rfl rfl rfl
theorem k_69_7 : s_x X d c (.checkcast 647 :: is) (ls) (.ref 69 :: st) (mm I J) = s_x X d c is (ls) (.ref 75 :: st) (mm I J) := rfl
theorem f_69_8 : s_x X d c (.getfield 648 :: is) (ls) (.ref 69 :: st) (mm I J) = s_x X d c is (ls) (.int (iI (I 69 8)) :: st) (mm I J) := rfl
theorem p_69_8 {v : Int} : s_x X d c (.putfield 648 :: is) (ls) (.int (iI v) :: .ref 69 :: st) (mm I J) = s_x X d c is (ls) (st) (mm (up I 69 8 v) J) := x_pf rfl rfl rfl
theorem f_69_9 : s_x X d c (.getfield 649 :: is) (ls) (.ref 69 :: st) (mm I J) = s_x X d c is (ls) (.int (iI (I 69 9)) :: st) (mm I J) := rfl
theorem p_69_9 {v : Int} : s_x X d c (.putfield 649 :: is) (ls) (.int (iI v) :: .ref 69 :: st) (mm I J) = s_x X d c is (ls) (st) (mm (up I 69 9 v) J) := x_pf rfl rfl rfl
theorem f_69_10 : s_x X d c (.getfield 650 :: is) (ls) (.ref 69 :: st) (mm I J) = s_x X d c is (ls) (.int (iI (I 69 10)) :: st) (mm I J) := rfl
theorem p_69_10 {v : Int} : s_x X d c (.putfield 650 :: is) (ls) (.int (iI v) :: .ref 69 :: st) (mm I J) = s_x X d c is (ls) (st) (mm (up I 69 10 v) J) := x_pf rfl rfl rfl
theorem f_69_11 : s_x X d c (.getfield 651 :: is) (ls) (.ref 69 :: st) (mm I J) = s_x X d c is (ls) (.int (iI (I 69 11)) :: st) (mm I J) := rfl
theorem p_69_11 {v : Int} : s_x X d c (.putfield 651 :: is) (ls) (.int (iI v) :: .ref 69 :: st) (mm I J) = s_x X d c is (ls) (st) (mm (up I 69 11 v) J) := x_pf rfl rfl rfl
theorem f_69_12 : s_x X d c (.getfield 652 :: is) (ls) (.ref 69 :: st) (mm I J) = s_x X d c is (ls) (.int (iI (I 69 12)) :: st) (mm I J) := rfl
theorem p_69_12 {v : Int} : s_x X d c (.putfield 652 :: is) (ls) (.int (iI v) :: .ref 69 :: st) (mm I J) = s_x X d c is (ls) (st) (mm (up I 69 12 v) J) := x_pf rfl rfl rfl
theorem f_69_13 : s_x X d c (.getfield 653 :: is) (ls) (.ref 69 :: st) (mm I J) = s_x X d c is (ls) (.int (iI (I 69 13)) :: st) (mm I J) := rfl
theorem p_69_13 {v : Int} : s_x X d c (.putfield 653 :: is) (ls) (.int (iI v) :: .ref 69 :: st) (mm I J) = s_x X d c is (ls) (st) (mm (up I 69 13 v) J) := x_pf rfl rfl rfl
theorem k_69_14 : s_x X d c (.checkcast 654 :: is) (ls) (.ref 69 :: st) (mm I J) = s_x X d c is (ls) (.ref 76 :: st) (mm I J) := rfl
theorem k_69_15 : s_x X d c (.checkcast 655 :: is) (ls) (.ref 69 :: st) (mm I J) = s_x X d c is (ls) (.ref 77 :: st) (mm I J) := rfl
theorem f_69_16 : s_x X d c (.getfield 656 :: is) (ls) (.ref 69 :: st) (mm I J) = s_x X d c is (ls) (.int (iI (I 69 16)) :: st) (mm I J) := rfl
theorem p_69_16 {v : Int} : s_x X d c (.putfield 656 :: is) (ls) (.int (iI v) :: .ref 69 :: st) (mm I J) = s_x X d c is (ls) (st) (mm (up I 69 16 v) J) := x_pf rfl rfl rfl
theorem f_69_17 : s_x X d c (.getfield 657 :: is) (ls) (.ref 69 :: st) (mm I J) = s_x X d c is (ls) (.int (iI (I 69 17)) :: st) (mm I J) := rfl
theorem p_69_17 {v : Int} : s_x X d c (.putfield 657 :: is) (ls) (.int (iI v) :: .ref 69 :: st) (mm I J) = s_x X d c is (ls) (st) (mm (up I 69 17 v) J) := x_pf rfl rfl rfl
theorem k_69_18 : s_x X d c (.checkcast 658 :: is) (ls) (.ref 69 :: st) (mm I J) = s_x X d c is (ls) (.ref 78 :: st) (mm I J) := rfl
theorem k_69_19 : s_x X d c (.checkcast 659 :: is) (ls) (.ref 69 :: st) (mm I J) = s_x X d c is (ls) (.ref 79 :: st) (mm I J) := rfl
theorem k_69_20 : s_x X d c (.checkcast 660 :: is) (ls) (.ref 69 :: st) (mm I J) = s_x X d c is (ls) (.ref 80 :: st) (mm I J) := rfl
theorem f_69_21 : s_x X d c (.getfield 661 :: is) (ls) (.ref 69 :: st) (mm I J) = s_x X d c is (ls) (.int (iI (I 69 21)) :: st) (mm I J) := rfl
theorem p_69_21 {v : Int} : s_x X d c (.putfield 661 :: is) (ls) (.int (iI v) :: .ref 69 :: st) (mm I J) = s_x X d c is (ls) (st) (mm (up I 69 21 v) J) := x_pf rfl rfl rfl
theorem f_69_22 : s_x X d c (.getfield 662 :: is) (ls) (.ref 69 :: st) (mm I J) = s_x X d c is (ls) (.int (iI (I 69 22)) :: st) (mm I J) := rfl
theorem p_69_22 {v : Int} : s_x X d c (.putfield 662 :: is) (ls) (.int (iI v) :: .ref 69 :: st) (mm I J) = s_x X d c is (ls) (st) (mm (up I 69 22 v) J) := x_pf rfl rfl rfl
theorem f_69_23 : s_x X d c (.getfield 663 :: is) (ls) (.ref 69 :: st) (mm I J) = s_x X d c is (ls) (.int (iI (I 69 23)) :: st) (mm I J) := rfl
theorem p_69_23 {v : Int} : s_x X d c (.putfield 663 :: is) (ls) (.int (iI v) :: .ref 69 :: st) (mm I J) = s_x X d c is (ls) (st) (mm (up I 69 23 v) J) := x_pf rfl rfl rfl
theorem f_69_24 : s_x X d c (.getfield 664 :: is) (ls) (.ref 69 :: st) (mm I J) = s_x X d c is (ls) (.int (iI (I 69 24)) :: st) (mm I J) := rfl
theorem p_69_24 {v : Int} : s_x X d c (.putfield 664 :: is) (ls) (.int (iI v) :: .ref 69 :: st) (mm I J) = s_x X d c is (ls) (st) (mm (up I 69 24 v) J) := x_pf rfl rfl rfl
theorem k_69_25 : s_x X d c (.checkcast 665 :: is) (ls) (.ref 69 :: st) (mm I J) = s_x X d c is (ls) (.ref 81 :: st) (mm I J) := rfl
theorem k_69_26 : s_x X d c (.checkcast 666 :: is) (ls) (.ref 69 :: st) (mm I J) = s_x X d c is (ls) (.ref 82 :: st) (mm I J) := rfl
theorem f_69_27 : s_x X d c (.getfield 667 :: is) (ls) (.ref 69 :: st) (mm I J) = s_x X d c is (ls) (.int (iI (I 69 27)) :: st) (mm I J) := rfl
theorem p_69_27 {v : Int} : s_x X d c (.putfield 667 :: is) (ls) (.int (iI v) :: .ref 69 :: st) (mm I J) = s_x X d c is (ls) (st) (mm (up I 69 27 v) J) := x_pf rfl rfl rfl
theorem k_69_28 : s_x X d c (.checkcast 668 :: is) (ls) (.ref 69 :: st) (mm I J) = s_x X d c is (ls) (.ref 83 :: st) (mm I J) := rfl
theorem f_69_29 : s_x X d c (.getfield 669 :: is) (ls) (.ref 69 :: st) (mm I J) = s_x X d c is (ls) (.int (iI (I 69 29)) :: st) (mm I J) := rfl
theorem p_69_29 {v : Int} : s_x X d c (.putfield 669 :: is) (ls) (.int (iI v) :: .ref 69 :: st) (mm I J) = s_x X d c is (ls) (st) (mm (up I 69 29 v) J) := x_pf rfl rfl rfl
theorem k_69_30 : s_x X d c (.checkcast 670 :: is) (ls) (.ref 69 :: st) (mm I J) = s_x X d c is (ls) (.ref 84 :: st) (mm I J) := rfl
theorem k_69_31 : s_x X d c (.checkcast 671 :: is) (ls) (.ref 69 :: st) (mm I J) = s_x X d c is (ls) (.ref 85 :: st) (mm I J) := rfl
theorem k_69_32 : s_x X d c (.checkcast 672 :: is) (ls) (.ref 69 :: st) (mm I J) = s_x X d c is (ls) (.ref 86 :: st) (mm I J) := rfl
theorem k_69_33 : s_x X d c (.checkcast 673 :: is) (ls) (.ref 69 :: st) (mm I J) = s_x X d c is (ls) (.ref 87 :: st) (mm I J) := rfl
theorem k_69_34 : s_x X d c (.checkcast 674 :: is) (ls) (.ref 69 :: st) (mm I J) = s_x X d c is (ls) (.ref 88 :: st) (mm I J) := rfl
theorem k_69_35 : s_x X d c (.checkcast 675 :: is) (ls) (.ref 69 :: st) (mm I J) = s_x X d c is (ls) (.ref 89 :: st) (mm I J) := rfl
theorem f_69_36 : s_x X d c (.getfield 676 :: is) (ls) (.ref 69 :: st) (mm I J) = s_x X d c is (ls) (.int (iI (I 69 36)) :: st) (mm I J) := rfl
theorem p_69_36 {v : Int} : s_x X d c (.putfield 676 :: is) (ls) (.int (iI v) :: .ref 69 :: st) (mm I J) = s_x X d c is (ls) (st) (mm (up I 69 36 v) J) := x_pf rfl rfl rfl
theorem f_69_37 : s_x X d c (.getfield 677 :: is) (ls) (.ref 69 :: st) (mm I J) = s_x X d c is (ls) (.int (iI (I 69 37)) :: st) (mm I J) := rfl
theorem p_69_37 {v : Int} : s_x X d c (.putfield 677 :: is) (ls) (.int (iI v) :: .ref 69 :: st) (mm I J) = s_x X d c is (ls) (st) (mm (up I 69 37 v) J) := x_pf rfl rfl rfl
theorem f_69_38 : s_x X d c (.getfield 678 :: is) (ls) (.ref 69 :: st) (mm I J) = s_x X d c is (ls) (.int (iI (I 69 38)) :: st) (mm I J) := rfl
theorem p_69_38_0 : s_x X d c (.putfield 678 :: is) (ls) (.int (iI 0) :: .ref 69 :: st) (mm I J) = s_x X d c is (ls) (st) (mm (up I 69 38 0) J) := x_pf rfl rfl rfl
theorem p_69_38_1 : s_x X d c (.putfield 678 :: is) (ls) (.int (iI 1) :: .ref 69 :: st) (mm I J) = s_x X d c is (ls) (st) (mm (up I 69 38 1) J) := x_pf rfl rfl rfl
theorem p_69_38_b {p : Prop} [Decidable p] : s_x X d c (.putfield 678 :: is) (ls) (.int (iI (if p then 1 else 0)) :: .ref 69 :: st) (mm I J) = s_x X d c is (ls) (st) (mm (up I 69 38 (if p then 1 else 0)) J) := by
  by_cases h : p
  · simp only [if_pos h]; exact x_pf rfl rfl rfl
  · simp only [if_neg h]; exact x_pf rfl rfl rfl
theorem ia_70 {z : Int} (h : 0 ≤ z ∧ z < 322) : s_x X d c (.iaload :: is) (ls) (.int (iI z) :: .ref 70 :: st) (mm I J) = s_x X d c is (ls) (.int (iI (I 70 z)) :: st) (mm I J) := x_ia rfl h
theorem is_70 {z v : Int} (h : 0 ≤ z ∧ z < 322) : s_x X d c (.iastore :: is) (ls) (.int (iI v) :: .int (iI z) :: .ref 70 :: st) (mm I J) = s_x X d c is (ls) (st) (mm (up I 70 z v) J) := x_is rfl h
theorem al_70 : s_x X d c (.arraylength :: is) (ls) (.ref 70 :: st) (mm I J) = s_x X d c is (ls) (.int (iI 322) :: st) (mm I J) := rfl
theorem ia_71 {z : Int} (h : 0 ≤ z ∧ z < 322) : s_x X d c (.iaload :: is) (ls) (.int (iI z) :: .ref 71 :: st) (mm I J) = s_x X d c is (ls) (.int (iI (I 71 z)) :: st) (mm I J) := x_ia rfl h
theorem is_71 {z v : Int} (h : 0 ≤ z ∧ z < 322) : s_x X d c (.iastore :: is) (ls) (.int (iI v) :: .int (iI z) :: .ref 71 :: st) (mm I J) = s_x X d c is (ls) (st) (mm (up I 71 z v) J) := x_is rfl h
theorem al_71 : s_x X d c (.arraylength :: is) (ls) (.ref 71 :: st) (mm I J) = s_x X d c is (ls) (.int (iI 322) :: st) (mm I J) := rfl
theorem ia_72 {z : Int} (h : 0 ≤ z ∧ z < 74) : s_x X d c (.iaload :: is) (ls) (.int (iI z) :: .ref 72 :: st) (mm I J) = s_x X d c is (ls) (.int (iI (I 72 z)) :: st) (mm I J) := x_ia rfl h
theorem is_72 {z v : Int} (h : 0 ≤ z ∧ z < 74) : s_x X d c (.iastore :: is) (ls) (.int (iI v) :: .int (iI z) :: .ref 72 :: st) (mm I J) = s_x X d c is (ls) (st) (mm (up I 72 z v) J) := x_is rfl h
theorem al_72 : s_x X d c (.arraylength :: is) (ls) (.ref 72 :: st) (mm I J) = s_x X d c is (ls) (.int (iI 74) :: st) (mm I J) := rfl
theorem ia_73 {z : Int} (h : 0 ≤ z ∧ z < 200) : s_x X d c (.iaload :: is) (ls) (.int (iI z) :: .ref 73 :: st) (mm I J) = s_x X d c is (ls) (.int (iI (I 73 z)) :: st) (mm I J) := x_ia rfl h
theorem is_73 {z v : Int} (h : 0 ≤ z ∧ z < 200) : s_x X d c (.iastore :: is) (ls) (.int (iI v) :: .int (iI z) :: .ref 73 :: st) (mm I J) = s_x X d c is (ls) (st) (mm (up I 73 z v) J) := x_is rfl h
theorem al_73 : s_x X d c (.arraylength :: is) (ls) (.ref 73 :: st) (mm I J) = s_x X d c is (ls) (.int (iI 200) :: st) (mm I J) := rfl
theorem ia_74 {z : Int} (h : 0 ≤ z ∧ z < 200) : s_x X d c (.iaload :: is) (ls) (.int (iI z) :: .ref 74 :: st) (mm I J) = s_x X d c is (ls) (.int (iI (I 74 z)) :: st) (mm I J) := x_ia rfl h
theorem is_74 {z v : Int} (h : 0 ≤ z ∧ z < 200) : s_x X d c (.iastore :: is) (ls) (.int (iI v) :: .int (iI z) :: .ref 74 :: st) (mm I J) = s_x X d c is (ls) (st) (mm (up I 74 z v) J) := x_is rfl h
theorem al_74 : s_x X d c (.arraylength :: is) (ls) (.ref 74 :: st) (mm I J) = s_x X d c is (ls) (.int (iI 200) :: st) (mm I J) := rfl
theorem ca_75 {z : Int} (h : 0 ≤ z ∧ z < 144) : s_x X d c (.caload :: is) (ls) (.int (iI z) :: .ref 75 :: st) (mm I J) = s_x X d c is (ls) (.int (iI (I 75 z)) :: st) (mm I J) := x_ca rfl h
theorem ia_76 {z : Int} (h : 0 ≤ z ∧ z < 200) : s_x X d c (.iaload :: is) (ls) (.int (iI z) :: .ref 76 :: st) (mm I J) = s_x X d c is (ls) (.int (iI (I 76 z)) :: st) (mm I J) := x_ia rfl h
theorem is_76 {z v : Int} (h : 0 ≤ z ∧ z < 200) : s_x X d c (.iastore :: is) (ls) (.int (iI v) :: .int (iI z) :: .ref 76 :: st) (mm I J) = s_x X d c is (ls) (st) (mm (up I 76 z v) J) := x_is rfl h
theorem al_76 : s_x X d c (.arraylength :: is) (ls) (.ref 76 :: st) (mm I J) = s_x X d c is (ls) (.int (iI 200) :: st) (mm I J) := rfl
theorem ia_77 {z : Int} (h : 0 ≤ z ∧ z < 24) : s_x X d c (.iaload :: is) (ls) (.int (iI z) :: .ref 77 :: st) (mm I J) = s_x X d c is (ls) (.int (iI (I 77 z)) :: st) (mm I J) := x_ia rfl h
theorem is_77 {z v : Int} (h : 0 ≤ z ∧ z < 24) : s_x X d c (.iastore :: is) (ls) (.int (iI v) :: .int (iI z) :: .ref 77 :: st) (mm I J) = s_x X d c is (ls) (st) (mm (up I 77 z v) J) := x_is rfl h
theorem al_77 : s_x X d c (.arraylength :: is) (ls) (.ref 77 :: st) (mm I J) = s_x X d c is (ls) (.int (iI 24) :: st) (mm I J) := rfl
theorem ia_78 {z : Int} (h : 0 ≤ z ∧ z < 370) : s_x X d c (.iaload :: is) (ls) (.int (iI z) :: .ref 78 :: st) (mm I J) = s_x X d c is (ls) (.int (iI (I 78 z)) :: st) (mm I J) := x_ia rfl h
theorem is_78 {z v : Int} (h : 0 ≤ z ∧ z < 370) : s_x X d c (.iastore :: is) (ls) (.int (iI v) :: .int (iI z) :: .ref 78 :: st) (mm I J) = s_x X d c is (ls) (st) (mm (up I 78 z v) J) := x_is rfl h
theorem al_78 : s_x X d c (.arraylength :: is) (ls) (.ref 78 :: st) (mm I J) = s_x X d c is (ls) (.int (iI 370) :: st) (mm I J) := rfl
theorem ia_79 {z : Int} (h : 0 ≤ z ∧ z < 4) : s_x X d c (.iaload :: is) (ls) (.int (iI z) :: .ref 79 :: st) (mm I J) = s_x X d c is (ls) (.int (iI (I 79 z)) :: st) (mm I J) := x_ia rfl h
theorem is_79 {z v : Int} (h : 0 ≤ z ∧ z < 4) : s_x X d c (.iastore :: is) (ls) (.int (iI v) :: .int (iI z) :: .ref 79 :: st) (mm I J) = s_x X d c is (ls) (st) (mm (up I 79 z v) J) := x_is rfl h
theorem al_79 : s_x X d c (.arraylength :: is) (ls) (.ref 79 :: st) (mm I J) = s_x X d c is (ls) (.int (iI 4) :: st) (mm I J) := rfl
theorem ia_80 {z : Int} (h : 0 ≤ z ∧ z < 4) : s_x X d c (.iaload :: is) (ls) (.int (iI z) :: .ref 80 :: st) (mm I J) = s_x X d c is (ls) (.int (iI (I 80 z)) :: st) (mm I J) := x_ia rfl h
theorem is_80 {z v : Int} (h : 0 ≤ z ∧ z < 4) : s_x X d c (.iastore :: is) (ls) (.int (iI v) :: .int (iI z) :: .ref 80 :: st) (mm I J) = s_x X d c is (ls) (st) (mm (up I 80 z v) J) := x_is rfl h
theorem al_80 : s_x X d c (.arraylength :: is) (ls) (.ref 80 :: st) (mm I J) = s_x X d c is (ls) (.int (iI 4) :: st) (mm I J) := rfl
theorem ia_81 {z : Int} (h : 0 ≤ z ∧ z < 16) : s_x X d c (.iaload :: is) (ls) (.int (iI z) :: .ref 81 :: st) (mm I J) = s_x X d c is (ls) (.int (iI (I 81 z)) :: st) (mm I J) := x_ia rfl h
theorem is_81 {z v : Int} (h : 0 ≤ z ∧ z < 16) : s_x X d c (.iastore :: is) (ls) (.int (iI v) :: .int (iI z) :: .ref 81 :: st) (mm I J) = s_x X d c is (ls) (st) (mm (up I 81 z v) J) := x_is rfl h
theorem al_81 : s_x X d c (.arraylength :: is) (ls) (.ref 81 :: st) (mm I J) = s_x X d c is (ls) (.int (iI 16) :: st) (mm I J) := rfl
theorem ia_82 {z : Int} (h : 0 ≤ z ∧ z < 16) : s_x X d c (.iaload :: is) (ls) (.int (iI z) :: .ref 82 :: st) (mm I J) = s_x X d c is (ls) (.int (iI (I 82 z)) :: st) (mm I J) := x_ia rfl h
theorem is_82 {z v : Int} (h : 0 ≤ z ∧ z < 16) : s_x X d c (.iastore :: is) (ls) (.int (iI v) :: .int (iI z) :: .ref 82 :: st) (mm I J) = s_x X d c is (ls) (st) (mm (up I 82 z v) J) := x_is rfl h
theorem al_82 : s_x X d c (.arraylength :: is) (ls) (.ref 82 :: st) (mm I J) = s_x X d c is (ls) (.int (iI 16) :: st) (mm I J) := rfl
theorem ia_83 {z : Int} (h : 0 ≤ z ∧ z < 12) : s_x X d c (.iaload :: is) (ls) (.int (iI z) :: .ref 83 :: st) (mm I J) = s_x X d c is (ls) (.int (iI (I 83 z)) :: st) (mm I J) := x_ia rfl h
theorem is_83 {z v : Int} (h : 0 ≤ z ∧ z < 12) : s_x X d c (.iastore :: is) (ls) (.int (iI v) :: .int (iI z) :: .ref 83 :: st) (mm I J) = s_x X d c is (ls) (st) (mm (up I 83 z v) J) := x_is rfl h
theorem al_83 : s_x X d c (.arraylength :: is) (ls) (.ref 83 :: st) (mm I J) = s_x X d c is (ls) (.int (iI 12) :: st) (mm I J) := rfl
theorem ia_84 {z : Int} (h : 0 ≤ z ∧ z < 4) : s_x X d c (.iaload :: is) (ls) (.int (iI z) :: .ref 84 :: st) (mm I J) = s_x X d c is (ls) (.int (iI (I 84 z)) :: st) (mm I J) := x_ia rfl h
theorem is_84 {z v : Int} (h : 0 ≤ z ∧ z < 4) : s_x X d c (.iastore :: is) (ls) (.int (iI v) :: .int (iI z) :: .ref 84 :: st) (mm I J) = s_x X d c is (ls) (st) (mm (up I 84 z v) J) := x_is rfl h
theorem al_84 : s_x X d c (.arraylength :: is) (ls) (.ref 84 :: st) (mm I J) = s_x X d c is (ls) (.int (iI 4) :: st) (mm I J) := rfl
theorem ia_85 {z : Int} (h : 0 ≤ z ∧ z < 4) : s_x X d c (.iaload :: is) (ls) (.int (iI z) :: .ref 85 :: st) (mm I J) = s_x X d c is (ls) (.int (iI (I 85 z)) :: st) (mm I J) := x_ia rfl h
theorem is_85 {z v : Int} (h : 0 ≤ z ∧ z < 4) : s_x X d c (.iastore :: is) (ls) (.int (iI v) :: .int (iI z) :: .ref 85 :: st) (mm I J) = s_x X d c is (ls) (st) (mm (up I 85 z v) J) := x_is rfl h
theorem al_85 : s_x X d c (.arraylength :: is) (ls) (.ref 85 :: st) (mm I J) = s_x X d c is (ls) (.int (iI 4) :: st) (mm I J) := rfl
theorem ia_86 {z : Int} (h : 0 ≤ z ∧ z < 160) : s_x X d c (.iaload :: is) (ls) (.int (iI z) :: .ref 86 :: st) (mm I J) = s_x X d c is (ls) (.int (iI (I 86 z)) :: st) (mm I J) := x_ia rfl h
theorem is_86 {z v : Int} (h : 0 ≤ z ∧ z < 160) : s_x X d c (.iastore :: is) (ls) (.int (iI v) :: .int (iI z) :: .ref 86 :: st) (mm I J) = s_x X d c is (ls) (st) (mm (up I 86 z v) J) := x_is rfl h
theorem al_86 : s_x X d c (.arraylength :: is) (ls) (.ref 86 :: st) (mm I J) = s_x X d c is (ls) (.int (iI 160) :: st) (mm I J) := rfl
theorem ia_87 {z : Int} (h : 0 ≤ z ∧ z < 4) : s_x X d c (.iaload :: is) (ls) (.int (iI z) :: .ref 87 :: st) (mm I J) = s_x X d c is (ls) (.int (iI (I 87 z)) :: st) (mm I J) := x_ia rfl h
theorem is_87 {z v : Int} (h : 0 ≤ z ∧ z < 4) : s_x X d c (.iastore :: is) (ls) (.int (iI v) :: .int (iI z) :: .ref 87 :: st) (mm I J) = s_x X d c is (ls) (st) (mm (up I 87 z v) J) := x_is rfl h
theorem al_87 : s_x X d c (.arraylength :: is) (ls) (.ref 87 :: st) (mm I J) = s_x X d c is (ls) (.int (iI 4) :: st) (mm I J) := rfl
theorem ia_88 {z : Int} (h : 0 ≤ z ∧ z < 4) : s_x X d c (.iaload :: is) (ls) (.int (iI z) :: .ref 88 :: st) (mm I J) = s_x X d c is (ls) (.int (iI (I 88 z)) :: st) (mm I J) := x_ia rfl h
theorem is_88 {z v : Int} (h : 0 ≤ z ∧ z < 4) : s_x X d c (.iastore :: is) (ls) (.int (iI v) :: .int (iI z) :: .ref 88 :: st) (mm I J) = s_x X d c is (ls) (st) (mm (up I 88 z v) J) := x_is rfl h
theorem al_88 : s_x X d c (.arraylength :: is) (ls) (.ref 88 :: st) (mm I J) = s_x X d c is (ls) (.int (iI 4) :: st) (mm I J) := rfl
theorem ia_89 {z : Int} (h : 0 ≤ z ∧ z < 30) : s_x X d c (.iaload :: is) (ls) (.int (iI z) :: .ref 89 :: st) (mm I J) = s_x X d c is (ls) (.int (iI (I 89 z)) :: st) (mm I J) := x_ia rfl h
theorem is_89 {z v : Int} (h : 0 ≤ z ∧ z < 30) : s_x X d c (.iastore :: is) (ls) (.int (iI v) :: .int (iI z) :: .ref 89 :: st) (mm I J) = s_x X d c is (ls) (st) (mm (up I 89 z v) J) := x_is rfl h
theorem al_89 : s_x X d c (.arraylength :: is) (ls) (.ref 89 :: st) (mm I J) = s_x X d c is (ls) (.int (iI 30) :: st) (mm I J) := rfl
end
