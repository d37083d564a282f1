/-- A.begin -/
theorem g_l1 (l : Nat) : g_P 1 l = (g_c1.lookup l).getD [] := rfl
theorem v_1_55 {X : e_X} {d : Nat} {a1 : Int32} {a2 : Int32} {a3 : Int32} {I J : Nat → Int → Int} : s_S X (d + 1) 1 [.ref 55, .int a1, .int a2, .int a3] (mm I J) = s_j X d 1 0 [.ref 55, .int a1, .int a2, .int a3] [] (mm I J) := s_S_in rfl rfl
theorem u_1_0 {X : e_X} {d : Nat} {ls st : List Value} {m : e_M} : s_j X d 1 0 ls st m = s_x X d 1 [.aload 0, .iload 1, .putfield 3, .aload 0, .iload 2, .putfield 4, .aload 0, .iload 3, .putfield 5, .aload 0, .sipush 0, .putfield 1, .aload 0, .sipush 0, .putfield 2, .return_] ls st m := by
  rw [s_j, s_g_eq, g_l1]; rfl
/-- A.perform -/
theorem g_l2 (l : Nat) : g_P 2 l = (g_c2.lookup l).getD [] := rfl
theorem v_2_55 {X : e_X} {d : Nat} {a1 : Int32} {a2 : Int32} {I J : Nat → Int → Int} : s_S X (d + 1) 2 [.ref 55, .int a1, .int a2] (mm I J) = s_j X d 2 0 [.ref 55, .int a1, .int a2, .retAddr 0] [] (mm I J) := s_S_in rfl rfl
theorem u_2_0 {X : e_X} {d : Nat} {ls st : List Value} {m : e_M} : s_j X d 2 0 ls st m = s_x X d 2 [.sipush 0, .istore 3, .iload 1, .lookupswitch 55 #[(0, 28), (1, 37), (2, 46)]] ls st m := by
  rw [s_j, s_g_eq, g_l2]; rfl
theorem u_2_28 {X : e_X} {d : Nat} {ls st : List Value} {m : e_M} : s_j X d 2 28 ls st m = s_x X d 2 [.aload 0, .iload 2, .invokeinterface 3 2, .istore 3, .goto 61] ls st m := by
  rw [s_j, s_g_eq, g_l2]; rfl
theorem u_2_37 {X : e_X} {d : Nat} {ls st : List Value} {m : e_M} : s_j X d 2 37 ls st m = s_x X d 2 [.aload 0, .iload 2, .invokeinterface 5 2, .istore 3, .goto 61] ls st m := by
  rw [s_j, s_g_eq, g_l2]; rfl
theorem u_2_46 {X : e_X} {d : Nat} {ls st : List Value} {m : e_M} : s_j X d 2 46 ls st m = s_x X d 2 [.aload 0, .iload 2, .invokeinterface 6 2, .istore 3, .goto 61] ls st m := by
  rw [s_j, s_g_eq, g_l2]; rfl
theorem u_2_55 {X : e_X} {d : Nat} {ls st : List Value} {m : e_M} : s_j X d 2 55 ls st m = s_x X d 2 [.aload 0, .iload 2, .invokeinterface 7 2, .istore 3, .jsr 61] ls st m := by
  rw [s_j, s_g_eq, g_l2]; rfl
theorem u_2_61 {X : e_X} {d : Nat} {ls st : List Value} {m : e_M} : s_j X d 2 61 ls st m = s_x X d 2 [.aload 0, .getfield 2, .ifCond .eq 73, .sipush (-15), .goto 74] ls st m := by
  rw [s_j, s_g_eq, g_l2]; rfl
theorem u_2_73 {X : e_X} {d : Nat} {ls st : List Value} {m : e_M} : s_j X d 2 73 ls st m = s_x X d 2 [.iload 3, .jsr 74] ls st m := by
  rw [s_j, s_g_eq, g_l2]; rfl
theorem u_2_74 {X : e_X} {d : Nat} {ls st : List Value} {m : e_M} : s_j X d 2 74 ls st m = s_x X d 2 [.ireturn] ls st m := by
  rw [s_j, s_g_eq, g_l2]; rfl
/-- A.lays -/
theorem g_l3 (l : Nat) : g_P 3 l = (g_c3.lookup l).getD [] := rfl
theorem v_3_55 {X : e_X} {d : Nat} {a1 : Int32} {I J : Nat → Int → Int} : s_S X (d + 1) 3 [.ref 55, .int a1] (mm I J) = s_j X d 3 0 [.ref 55, .int a1, .retAddr 0] [] (mm I J) := s_S_in rfl rfl
theorem u_3_0 {X : e_X} {d : Nat} {ls st : List Value} {m : e_M} : s_j X d 3 0 ls st m = s_x X d 3 [.aload 0, .getfield 3, .sipush 1, .if_icmp .ne 14, .aload 0, .sipush 20, .invokeinterface 4 2, .jsr 14] ls st m := by
  rw [s_j, s_g_eq, g_l3]; rfl
theorem u_3_14 {X : e_X} {d : Nat} {ls st : List Value} {m : e_M} : s_j X d 3 14 ls st m = s_x X d 3 [.aload 0, .getfield 3, .sipush 3, .if_icmp .ne 28, .aload 0, .sipush 50, .invokeinterface 4 2, .jsr 28] ls st m := by
  rw [s_j, s_g_eq, g_l3]; rfl
theorem u_3_28 {X : e_X} {d : Nat} {ls st : List Value} {m : e_M} : s_j X d 3 28 ls st m = s_x X d 3 [.aload 0, .sipush 10, .invokeinterface 4 2, .iload 1, .sipush 2, .imul, .aload 0, .getfield 4, .iadd, .istore 2, .aload 0, .getfield 3, .sipush 1, .if_icmp .ne 55, .iload 2, .sipush 3, .imul, .ireturn] ls st m := by
  rw [s_j, s_g_eq, g_l3]; rfl
theorem u_3_55 {X : e_X} {d : Nat} {ls st : List Value} {m : e_M} : s_j X d 3 55 ls st m = s_x X d 3 [.aload 0, .getfield 3, .sipush 3, .if_icmp .ne 69, .iload 2, .sipush 4, .ixor, .goto 70] ls st m := by
  rw [s_j, s_g_eq, g_l3]; rfl
theorem u_3_69 {X : e_X} {d : Nat} {ls st : List Value} {m : e_M} : s_j X d 3 69 ls st m = s_x X d 3 [.iload 2, .jsr 70] ls st m := by
  rw [s_j, s_g_eq, g_l3]; rfl
theorem u_3_70 {X : e_X} {d : Nat} {ls st : List Value} {m : e_M} : s_j X d 3 70 ls st m = s_x X d 3 [.ireturn] ls st m := by
  rw [s_j, s_g_eq, g_l3]; rfl
/-- A.note -/
theorem g_l4 (l : Nat) : g_P 4 l = (g_c4.lookup l).getD [] := rfl
theorem v_4_55 {X : e_X} {d : Nat} {a1 : Int32} {I J : Nat → Int → Int} : s_S X (d + 1) 4 [.ref 55, .int a1] (mm I J) = s_j X d 4 0 [.ref 55, .int a1] [] (mm I J) := s_S_in rfl rfl
theorem u_4_0 {X : e_X} {d : Nat} {ls st : List Value} {m : e_M} : s_j X d 4 0 ls st m = s_x X d 4 [.aload 0, .getfield 2, .ifCond .ne 33, .aload 0, .getfield 1, .sipush 30, .if_icmp .ge 33, .aload 0, .checkcast 0, .aload 0, .dup, .getfield 1, .dup_x1, .sipush 1, .iadd, .putfield 1, .iload 1, .iastore, .jsr 33] ls st m := by
  rw [s_j, s_g_eq, g_l4]; rfl
theorem u_4_33 {X : e_X} {d : Nat} {ls st : List Value} {m : e_M} : s_j X d 4 33 ls st m = s_x X d 4 [.return_] ls st m := by
  rw [s_j, s_g_eq, g_l4]; rfl
/-- A.tilts -/
theorem g_l5 (l : Nat) : g_P 5 l = (g_c5.lookup l).getD [] := rfl
theorem v_5_55 {X : e_X} {d : Nat} {a1 : Int32} {I J : Nat → Int → Int} : s_S X (d + 1) 5 [.ref 55, .int a1] (mm I J) = s_j X d 5 0 [.ref 55, .int a1, .retAddr 0, .retAddr 0] [] (mm I J) := s_S_in rfl rfl
theorem u_5_0 {X : e_X} {d : Nat} {ls st : List Value} {m : e_M} : s_j X d 5 0 ls st m = s_x X d 5 [.aload 0, .getfield 3, .sipush 2, .invokeinterface 112 2, .istore 2, .iload 2, .ifCond .eq 19, .aload 0, .sipush 30, .invokeinterface 4 2, .jsr 19] ls st m := by
  rw [s_j, s_g_eq, g_l5]; rfl
theorem u_5_19 {X : e_X} {d : Nat} {ls st : List Value} {m : e_M} : s_j X d 5 19 ls st m = s_x X d 5 [.aload 0, .getfield 3, .sipush 5, .if_icmp .ne 33, .aload 0, .sipush 60, .invokeinterface 4 2, .jsr 33] ls st m := by
  rw [s_j, s_g_eq, g_l5]; rfl
theorem u_5_33 {X : e_X} {d : Nat} {ls st : List Value} {m : e_M} : s_j X d 5 33 ls st m = s_x X d 5 [.aload 0, .sipush 11, .invokeinterface 4 2, .aload 0, .iload 2, .ifCond .eq 50, .iload 1, .sipush 1, .iadd, .goto 51] ls st m := by
  rw [s_j, s_g_eq, g_l5]; rfl
theorem u_5_50 {X : e_X} {d : Nat} {ls st : List Value} {m : e_M} : s_j X d 5 50 ls st m = s_x X d 5 [.iload 1, .jsr 51] ls st m := by
  rw [s_j, s_g_eq, g_l5]; rfl
theorem u_5_51 {X : e_X} {d : Nat} {ls st : List Value} {m : e_M} : s_j X d 5 51 ls st m = s_x X d 5 [.invokeinterface 3 2, .aload 0, .getfield 5, .isub, .istore 3, .aload 0, .getfield 3, .sipush 5, .if_icmp .ne 75, .iload 3, .sipush 60, .isub, .goto 76] ls st m := by
  rw [s_j, s_g_eq, g_l5]; rfl
theorem u_5_75 {X : e_X} {d : Nat} {ls st : List Value} {m : e_M} : s_j X d 5 75 ls st m = s_x X d 5 [.iload 3, .jsr 76] ls st m := by
  rw [s_j, s_g_eq, g_l5]; rfl
theorem u_5_76 {X : e_X} {d : Nat} {ls st : List Value} {m : e_M} : s_j X d 5 76 ls st m = s_x X d 5 [.ireturn] ls st m := by
  rw [s_j, s_g_eq, g_l5]; rfl
/-- A.breaks -/
theorem g_l6 (l : Nat) : g_P 6 l = (g_c6.lookup l).getD [] := rfl
theorem v_6_55 {X : e_X} {d : Nat} {a1 : Int32} {I J : Nat → Int → Int} : s_S X (d + 1) 6 [.ref 55, .int a1] (mm I J) = s_j X d 6 0 [.ref 55, .int a1, .retAddr 0, .retAddr 0, .retAddr 0] [] (mm I J) := s_S_in rfl rfl
theorem u_6_0 {X : e_X} {d : Nat} {ls st : List Value} {m : e_M} : s_j X d 6 0 ls st m = s_x X d 6 [.aload 0, .getfield 3, .sipush 4, .invokeinterface 112 2, .istore 2, .aload 0, .getfield 3, .sipush 5, .if_icmp .ne 23, .aload 0, .sipush 61, .invokeinterface 4 2, .jsr 23] ls st m := by
  rw [s_j, s_g_eq, g_l6]; rfl
theorem u_6_23 {X : e_X} {d : Nat} {ls st : List Value} {m : e_M} : s_j X d 6 23 ls st m = s_x X d 6 [.iload 2, .ifCond .eq 33, .aload 0, .sipush 40, .invokeinterface 4 2, .jsr 33] ls st m := by
  rw [s_j, s_g_eq, g_l6]; rfl
theorem u_6_33 {X : e_X} {d : Nat} {ls st : List Value} {m : e_M} : s_j X d 6 33 ls st m = s_x X d 6 [.aload 0, .sipush 12, .invokeinterface 4 2, .aload 0, .getfield 4, .aload 0, .getfield 5, .iadd, .sipush 3, .isub, .istore 3, .iload 3, .ifCond .ne 62, .aload 0, .sipush 1, .putfield 2, .sipush 0, .ireturn] ls st m := by
  rw [s_j, s_g_eq, g_l6]; rfl
theorem u_6_62 {X : e_X} {d : Nat} {ls st : List Value} {m : e_M} : s_j X d 6 62 ls st m = s_x X d 6 [.iload 2, .ifCond .eq 74, .sipush 0, .iload 1, .iload 3, .irem, .isub, .goto 77] ls st m := by
  rw [s_j, s_g_eq, g_l6]; rfl
theorem u_6_74 {X : e_X} {d : Nat} {ls st : List Value} {m : e_M} : s_j X d 6 74 ls st m = s_x X d 6 [.iload 1, .iload 3, .irem, .jsr 77] ls st m := by
  rw [s_j, s_g_eq, g_l6]; rfl
theorem u_6_77 {X : e_X} {d : Nat} {ls st : List Value} {m : e_M} : s_j X d 6 77 ls st m = s_x X d 6 [.istore 4, .aload 0, .getfield 3, .sipush 5, .if_icmp .ne 101, .iload 4, .aload 0, .aload 0, .getfield 5, .invokeinterface 3 2, .ixor, .goto 103] ls st m := by
  rw [s_j, s_g_eq, g_l6]; rfl
theorem u_6_101 {X : e_X} {d : Nat} {ls st : List Value} {m : e_M} : s_j X d 6 101 ls st m = s_x X d 6 [.iload 4, .jsr 103] ls st m := by
  rw [s_j, s_g_eq, g_l6]; rfl
theorem u_6_103 {X : e_X} {d : Nat} {ls st : List Value} {m : e_M} : s_j X d 6 103 ls st m = s_x X d 6 [.ireturn] ls st m := by
  rw [s_j, s_g_eq, g_l6]; rfl
/-- A.shines -/
theorem g_l7 (l : Nat) : g_P 7 l = (g_c7.lookup l).getD [] := rfl
theorem v_7_55 {X : e_X} {d : Nat} {a1 : Int32} {I J : Nat → Int → Int} : s_S X (d + 1) 7 [.ref 55, .int a1] (mm I J) = s_j X d 7 0 [.ref 55, .int a1, .retAddr 0, .retAddr 0] [] (mm I J) := s_S_in rfl rfl
theorem u_7_0 {X : e_X} {d : Nat} {ls st : List Value} {m : e_M} : s_j X d 7 0 ls st m = s_x X d 7 [.aload 0, .getfield 3, .sipush 3, .if_icmp .ne 14, .aload 0, .sipush 51, .invokeinterface 4 2, .jsr 14] ls st m := by
  rw [s_j, s_g_eq, g_l7]; rfl
theorem u_7_14 {X : e_X} {d : Nat} {ls st : List Value} {m : e_M} : s_j X d 7 14 ls st m = s_x X d 7 [.aload 0, .sipush 13, .invokeinterface 4 2, .aload 0, .iload 1, .invokeinterface 5 2, .istore 2, .iload 2, .aload 0, .iload 1, .invokeinterface 6 2, .ixor, .istore 3, .aload 0, .getfield 3, .sipush 3, .if_icmp .ne 55, .iload 3, .aload 0, .aload 0, .getfield 4, .invokeinterface 5 2, .iadd, .goto 56] ls st m := by
  rw [s_j, s_g_eq, g_l7]; rfl
theorem u_7_55 {X : e_X} {d : Nat} {ls st : List Value} {m : e_M} : s_j X d 7 55 ls st m = s_x X d 7 [.iload 3, .jsr 56] ls st m := by
  rw [s_j, s_g_eq, g_l7]; rfl
theorem u_7_56 {X : e_X} {d : Nat} {ls st : List Value} {m : e_M} : s_j X d 7 56 ls st m = s_x X d 7 [.ireturn] ls st m := by
  rw [s_j, s_g_eq, g_l7]; rfl
/-- L.tellTo -/
theorem g_l9 (l : Nat) : g_P 9 l = (g_c9.lookup l).getD [] := rfl
theorem v_9_9 {X : e_X} {d : Nat} {a1 : Int32} {I J : Nat → Int → Int} : s_S X (d + 1) 9 [.ref 9, .int a1] (mm I J) = s_j X d 9 0 [.ref 9, .int a1, .retAddr 0, .retAddr 0] [] (mm I J) := s_S_in rfl rfl
theorem v_9_40 {X : e_X} {d : Nat} {a1 : Int32} {I J : Nat → Int → Int} : s_S X (d + 1) 9 [.ref 40, .int a1] (mm I J) = s_j X d 9 0 [.ref 40, .int a1, .retAddr 0, .retAddr 0] [] (mm I J) := s_S_in rfl rfl
theorem u_9_0 {X : e_X} {d : Nat} {ls st : List Value} {m : e_M} : s_j X d 9 0 ls st m = s_x X d 9 [.sipush 0, .istore 2, .sipush 0, .istore 3, .jsr 4] ls st m := by
  rw [s_j, s_g_eq, g_l9]; rfl
theorem u_9_4 {X : e_X} {d : Nat} {ls st : List Value} {m : e_M} : s_j X d 9 4 ls st m = s_x X d 9 [.iload 3, .aload 0, .getfield 69, .if_icmp .ge 59, .iload 1, .aload 0, .checkcast 64, .iload 3, .iaload, .invokeinterface 112 2, .ifCond .eq 46, .aload 0, .iload 2, .aload 0, .checkcast 66, .iload 3, .iaload, .invokeinterface 10 3, .ifCond .eq 46, .aload 0, .checkcast 65, .iload 3, .iaload, .ireturn] ls st m := by
  rw [s_j, s_g_eq, g_l9]; rfl
theorem u_9_46 {X : e_X} {d : Nat} {ls st : List Value} {m : e_M} : s_j X d 9 46 ls st m = s_x X d 9 [.aload 0, .checkcast 66, .iload 3, .iaload, .istore 2, .iinc 3 1, .goto 4] ls st m := by
  rw [s_j, s_g_eq, g_l9]; rfl
theorem u_9_59 {X : e_X} {d : Nat} {ls st : List Value} {m : e_M} : s_j X d 9 59 ls st m = s_x X d 9 [.sipush 0, .ireturn] ls st m := by
  rw [s_j, s_g_eq, g_l9]; rfl
/-- L.holds -/
theorem g_l10 (l : Nat) : g_P 10 l = (g_c10.lookup l).getD [] := rfl
theorem v_10_9 {X : e_X} {d : Nat} {a1 : Int32} {a2 : Int32} {I J : Nat → Int → Int} : s_S X (d + 1) 10 [.ref 9, .int a1, .int a2] (mm I J) = s_j X d 10 0 [.ref 9, .int a1, .int a2, .retAddr 0, .retAddr 0, .retAddr 0, .retAddr 0] [] (mm I J) := s_S_in rfl rfl
theorem v_10_40 {X : e_X} {d : Nat} {a1 : Int32} {a2 : Int32} {I J : Nat → Int → Int} : s_S X (d + 1) 10 [.ref 40, .int a1, .int a2] (mm I J) = s_j X d 10 0 [.ref 40, .int a1, .int a2, .retAddr 0, .retAddr 0, .retAddr 0, .retAddr 0] [] (mm I J) := s_S_in rfl rfl
theorem u_10_0 {X : e_X} {d : Nat} {ls st : List Value} {m : e_M} : s_j X d 10 0 ls st m = s_x X d 10 [.goto_w 1, .lstore 3, .iload 1, .istore 5, .jsr 5] ls st m := by
  rw [s_j, s_g_eq, g_l10]; rfl
theorem u_10_5 {X : e_X} {d : Nat} {ls st : List Value} {m : e_M} : s_j X d 10 5 ls st m = s_x X d 10 [.iload 5, .iload 2, .if_icmp .ge 96, .aload 0, .checkcast 67, .iload 5, .iaload, .istore 6, .iload 6, .sipush (-1), .if_icmp .ne 33, .lload 3, .goto_w 1, .lxor, .lstore 3, .goto 90] ls st m := by
  rw [s_j, s_g_eq, g_l10]; rfl
theorem u_10_33 {X : e_X} {d : Nat} {ls st : List Value} {m : e_M} : s_j X d 10 33 ls st m = s_x X d 10 [.iload 6, .sipush (-2), .if_icmp .ne 53, .lload 3, .sipush 1, .lushr, .lload 3, .goto_w (-2), .lor, .land, .lstore 3, .goto 90] ls st m := by
  rw [s_j, s_g_eq, g_l10]; rfl
theorem u_10_53 {X : e_X} {d : Nat} {ls st : List Value} {m : e_M} : s_j X d 10 53 ls st m = s_x X d 10 [.iload 6, .sipush (-3), .if_icmp .ne 71, .lload 3, .sipush 1, .lushr, .lload 3, .goto_w 1, .land, .lor, .lstore 3, .goto 90] ls st m := by
  rw [s_j, s_g_eq, g_l10]; rfl
theorem u_10_71 {X : e_X} {d : Nat} {ls st : List Value} {m : e_M} : s_j X d 10 71 ls st m = s_x X d 10 [.lload 3, .sipush 1, .lshl, .aload 0, .iload 6, .invokeinterface 11 2, .ifCond .eq 87, .goto_w 1, .goto 88] ls st m := by
  rw [s_j, s_g_eq, g_l10]; rfl
theorem u_10_87 {X : e_X} {d : Nat} {ls st : List Value} {m : e_M} : s_j X d 10 87 ls st m = s_x X d 10 [.goto_w 0, .jsr 88] ls st m := by
  rw [s_j, s_g_eq, g_l10]; rfl
theorem u_10_88 {X : e_X} {d : Nat} {ls st : List Value} {m : e_M} : s_j X d 10 88 ls st m = s_x X d 10 [.lor, .lstore 3, .jsr 90] ls st m := by
  rw [s_j, s_g_eq, g_l10]; rfl
theorem u_10_90 {X : e_X} {d : Nat} {ls st : List Value} {m : e_M} : s_j X d 10 90 ls st m = s_x X d 10 [.iinc 5 1, .goto 5] ls st m := by
  rw [s_j, s_g_eq, g_l10]; rfl
theorem u_10_96 {X : e_X} {d : Nat} {ls st : List Value} {m : e_M} : s_j X d 10 96 ls st m = s_x X d 10 [.lload 3, .goto_w 1, .land, .goto_w 1, .lcmp, .ifCond .ne 108, .sipush 1, .goto 109] ls st m := by
  rw [s_j, s_g_eq, g_l10]; rfl
theorem u_10_108 {X : e_X} {d : Nat} {ls st : List Value} {m : e_M} : s_j X d 10 108 ls st m = s_x X d 10 [.sipush 0, .jsr 109] ls st m := by
  rw [s_j, s_g_eq, g_l10]; rfl
theorem u_10_109 {X : e_X} {d : Nat} {ls st : List Value} {m : e_M} : s_j X d 10 109 ls st m = s_x X d 10 [.areturn] ls st m := by
  rw [s_j, s_g_eq, g_l10]; rfl
/-- L.compares -/
theorem g_l11 (l : Nat) : g_P 11 l = (g_c11.lookup l).getD [] := rfl
theorem v_11_9 {X : e_X} {d : Nat} {a1 : Int32} {I J : Nat → Int → Int} : s_S X (d + 1) 11 [.ref 9, .int a1] (mm I J) = s_j X d 11 0 [.ref 9, .int a1, .retAddr 0, .retAddr 0] [] (mm I J) := s_S_in rfl rfl
theorem v_11_40 {X : e_X} {d : Nat} {a1 : Int32} {I J : Nat → Int → Int} : s_S X (d + 1) 11 [.ref 40, .int a1] (mm I J) = s_j X d 11 0 [.ref 40, .int a1, .retAddr 0, .retAddr 0] [] (mm I J) := s_S_in rfl rfl
theorem u_11_0 {X : e_X} {d : Nat} {ls st : List Value} {m : e_M} : s_j X d 11 0 ls st m = s_x X d 11 [.iload 1, .sipush 14, .ishr, .sipush 16383, .iand, .istore 2, .iload 1, .sipush 16383, .iand, .istore 3, .iload 2, .sipush 10000, .if_icmp .lt 40, .iload 2, .sipush 10005, .if_icmp .ge 40, .aload 0, .checkcast 68, .iload 2, .sipush 10000, .isub, .iaload, .istore 2, .jsr 40] ls st m := by
  rw [s_j, s_g_eq, g_l11]; rfl
theorem u_11_40 {X : e_X} {d : Nat} {ls st : List Value} {m : e_M} : s_j X d 11 40 ls st m = s_x X d 11 [.iload 3, .sipush 10000, .if_icmp .lt 65, .iload 3, .sipush 10005, .if_icmp .ge 65, .aload 0, .checkcast 68, .iload 3, .sipush 10000, .isub, .iaload, .istore 3, .jsr 65] ls st m := by
  rw [s_j, s_g_eq, g_l11]; rfl
theorem u_11_65 {X : e_X} {d : Nat} {ls st : List Value} {m : e_M} : s_j X d 11 65 ls st m = s_x X d 11 [.iload 1, .sipush 28, .ishr, .lookupswitch 118 #[(0, 96), (1, 107)]] ls st m := by
  rw [s_j, s_g_eq, g_l11]; rfl
theorem u_11_96 {X : e_X} {d : Nat} {ls st : List Value} {m : e_M} : s_j X d 11 96 ls st m = s_x X d 11 [.iload 2, .iload 3, .if_icmp .ge 105, .sipush 1, .goto 106] ls st m := by
  rw [s_j, s_g_eq, g_l11]; rfl
theorem u_11_105 {X : e_X} {d : Nat} {ls st : List Value} {m : e_M} : s_j X d 11 105 ls st m = s_x X d 11 [.sipush 0, .jsr 106] ls st m := by
  rw [s_j, s_g_eq, g_l11]; rfl
theorem u_11_106 {X : e_X} {d : Nat} {ls st : List Value} {m : e_M} : s_j X d 11 106 ls st m = s_x X d 11 [.areturn] ls st m := by
  rw [s_j, s_g_eq, g_l11]; rfl
theorem u_11_107 {X : e_X} {d : Nat} {ls st : List Value} {m : e_M} : s_j X d 11 107 ls st m = s_x X d 11 [.iload 2, .iload 3, .if_icmp .ne 116, .sipush 1, .goto 117] ls st m := by
  rw [s_j, s_g_eq, g_l11]; rfl
theorem u_11_116 {X : e_X} {d : Nat} {ls st : List Value} {m : e_M} : s_j X d 11 116 ls st m = s_x X d 11 [.sipush 0, .jsr 117] ls st m := by
  rw [s_j, s_g_eq, g_l11]; rfl
theorem u_11_117 {X : e_X} {d : Nat} {ls st : List Value} {m : e_M} : s_j X d 11 117 ls st m = s_x X d 11 [.areturn] ls st m := by
  rw [s_j, s_g_eq, g_l11]; rfl
theorem u_11_118 {X : e_X} {d : Nat} {ls st : List Value} {m : e_M} : s_j X d 11 118 ls st m = s_x X d 11 [.iload 2, .iload 3, .if_icmp .le 127, .sipush 1, .goto 128] ls st m := by
  rw [s_j, s_g_eq, g_l11]; rfl
theorem u_11_127 {X : e_X} {d : Nat} {ls st : List Value} {m : e_M} : s_j X d 11 127 ls st m = s_x X d 11 [.sipush 0, .jsr 128] ls st m := by
  rw [s_j, s_g_eq, g_l11]; rfl
theorem u_11_128 {X : e_X} {d : Nat} {ls st : List Value} {m : e_M} : s_j X d 11 128 ls st m = s_x X d 11 [.areturn] ls st m := by
  rw [s_j, s_g_eq, g_l11]; rfl
/-- L.empty -/
theorem g_l12 (l : Nat) : g_P 12 l = (g_c12.lookup l).getD [] := rfl
theorem v_12_9 {X : e_X} {d : Nat}  {I J : Nat → Int → Int} : s_S X (d + 1) 12 [.ref 9] (mm I J) = s_j X d 12 0 [.ref 9] [] (mm I J) := s_S_in rfl rfl
theorem v_12_40 {X : e_X} {d : Nat}  {I J : Nat → Int → Int} : s_S X (d + 1) 12 [.ref 40] (mm I J) = s_j X d 12 0 [.ref 40] [] (mm I J) := s_S_in rfl rfl
theorem u_12_0 {X : e_X} {d : Nat} {ls st : List Value} {m : e_M} : s_j X d 12 0 ls st m = s_x X d 12 [.aload 0, .sipush 0, .putfield 69, .aload 0, .sipush 0, .putfield 70, .return_] ls st m := by
  rw [s_j, s_g_eq, g_l12]; rfl
/-- L.comparison -/
theorem g_l13 (l : Nat) : g_P 13 l = (g_c13.lookup l).getD [] := rfl
theorem v_13 {X : e_X} {d : Nat} {a0 : Int32} {a1 : Int32} {a2 : Int32} {I J : Nat → Int → Int} : s_S X (d + 1) 13 [.int a0, .int a1, .int a2] (mm I J) = s_j X d 13 0 [.int a0, .int a1, .int a2] [] (mm I J) := s_S_in rfl rfl
theorem u_13_0 {X : e_X} {d : Nat} {ls st : List Value} {m : e_M} : s_j X d 13 0 ls st m = s_x X d 13 [.iload 1, .sipush 28, .ishl, .iload 0, .sipush 14, .ishl, .ior, .iload 2, .ior, .ireturn] ls st m := by
  rw [s_j, s_g_eq, g_l13]; rfl
/-- L.append -/
theorem g_l14 (l : Nat) : g_P 14 l = (g_c14.lookup l).getD [] := rfl
theorem v_14_9 {X : e_X} {d : Nat} {a1 : Int32} {I J : Nat → Int → Int} : s_S X (d + 1) 14 [.ref 9, .int a1] (mm I J) = s_j X d 14 0 [.ref 9, .int a1] [] (mm I J) := s_S_in rfl rfl
theorem v_14_40 {X : e_X} {d : Nat} {a1 : Int32} {I J : Nat → Int → Int} : s_S X (d + 1) 14 [.ref 40, .int a1] (mm I J) = s_j X d 14 0 [.ref 40, .int a1] [] (mm I J) := s_S_in rfl rfl
theorem u_14_0 {X : e_X} {d : Nat} {ls st : List Value} {m : e_M} : s_j X d 14 0 ls st m = s_x X d 14 [.aload 0, .getfield 70, .sipush 200, .if_icmp .ge 27, .aload 0, .checkcast 67, .aload 0, .dup, .getfield 70, .dup_x1, .sipush 1, .iadd, .putfield 70, .iload 1, .iastore, .jsr 27] ls st m := by
  rw [s_j, s_g_eq, g_l14]; rfl
theorem u_14_27 {X : e_X} {d : Nat} {ls st : List Value} {m : e_M} : s_j X d 14 27 ls st m = s_x X d 14 [.return_] ls st m := by
  rw [s_j, s_g_eq, g_l14]; rfl
/-- L.close -/
theorem g_l15 (l : Nat) : g_P 15 l = (g_c15.lookup l).getD [] := rfl
theorem v_15_9 {X : e_X} {d : Nat} {a1 : Int32} {a2 : Int32} {I J : Nat → Int → Int} : s_S X (d + 1) 15 [.ref 9, .int a1, .int a2] (mm I J) = s_j X d 15 0 [.ref 9, .int a1, .int a2] [] (mm I J) := s_S_in rfl rfl
theorem v_15_40 {X : e_X} {d : Nat} {a1 : Int32} {a2 : Int32} {I J : Nat → Int → Int} : s_S X (d + 1) 15 [.ref 40, .int a1, .int a2] (mm I J) = s_j X d 15 0 [.ref 40, .int a1, .int a2] [] (mm I J) := s_S_in rfl rfl
theorem u_15_0 {X : e_X} {d : Nat} {ls st : List Value} {m : e_M} : s_j X d 15 0 ls st m = s_x X d 15 [.aload 0, .getfield 69, .sipush 8, .if_icmp .lt 10, .return_] ls st m := by
  rw [s_j, s_g_eq, g_l15]; rfl
theorem u_15_10 {X : e_X} {d : Nat} {ls st : List Value} {m : e_M} : s_j X d 15 10 ls st m = s_x X d 15 [.aload 0, .checkcast 64, .aload 0, .getfield 69, .iload 1, .iastore, .aload 0, .checkcast 65, .aload 0, .getfield 69, .iload 2, .iastore, .aload 0, .checkcast 66, .aload 0, .getfield 69, .aload 0, .getfield 70, .iastore, .aload 0, .dup, .getfield 69, .sipush 1, .iadd, .putfield 69, .return_] ls st m := by
  rw [s_j, s_g_eq, g_l15]; rfl
/-- L.copyFrom -/
theorem g_l16 (l : Nat) : g_P 16 l = (g_c16.lookup l).getD [] := rfl
theorem v_16_9 {X : e_X} {d : Nat} {a1 : Nat} {I J : Nat → Int → Int} : s_S X (d + 1) 16 [.ref 9, .ref a1] (mm I J) = s_j X d 16 0 [.ref 9, .ref a1] [] (mm I J) := s_S_in rfl rfl
theorem v_16_28 {X : e_X} {d : Nat} {a1 : Nat} {I J : Nat → Int → Int} : s_S X (d + 1) 16 [.ref 28, .ref a1] (mm I J) = s_j X d 16 0 [.ref 28, .ref a1] [] (mm I J) := s_S_in rfl rfl
theorem u_16_0 {X : e_X} {d : Nat} {ls st : List Value} {m : e_M} : s_j X d 16 0 ls st m = s_x X d 16 [.aload 1, .checkcast 64, .sipush 0, .aload 0, .checkcast 64, .sipush 0, .sipush 8, .dmul, .aload 1, .checkcast 65, .sipush 0, .aload 0, .checkcast 65, .sipush 0, .sipush 8, .dmul, .aload 1, .checkcast 66, .sipush 0, .aload 0, .checkcast 66, .sipush 0, .sipush 8, .dmul, .aload 1, .checkcast 67, .sipush 0, .aload 0, .checkcast 67, .sipush 0, .sipush 200, .dmul, .aload 0, .aload 1, .getfield 69, .putfield 69, .aload 0, .aload 1, .getfield 70, .putfield 70, .return_] ls st m := by
  rw [s_j, s_g_eq, g_l16]; rfl
/-- P.tryAll -/
theorem g_l18 (l : Nat) : g_P 18 l = (g_c18.lookup l).getD [] := rfl
theorem v_18_48 {X : e_X} {d : Nat} {a1 : Int32} {a2 : Int32} {I J : Nat → Int → Int} : s_S X (d + 1) 18 [.ref 48, .int a1, .int a2] (mm I J) = s_j X d 18 0 [.ref 48, .int a1, .int a2] [] (mm I J) := s_S_in rfl rfl
theorem u_18_0 {X : e_X} {d : Nat} {ls st : List Value} {m : e_M} : s_j X d 18 0 ls st m = s_x X d 18 [.aload 0, .sipush 4, .aload 0, .checkcast 128, .iload 1, .invokeinterface 86 2, .dsub, .putfield 131, .aload 0, .iload 2, .putfield 132, .aload 0, .sipush 0, .putfield 133, .aload 0, .sipush 0, .putfield 134, .aload 0, .sipush (-3), .putfield 135, .aload 0, .sipush 0, .putfield 136, .aload 0, .sipush 0, .sipush 0, .sipush 0, .invokeinterface 19 4, .return_] ls st m := by
  rw [s_j, s_g_eq, g_l18]; rfl
/-- P.tryFrom -/
theorem g_l19 (l : Nat) : g_P 19 l = (g_c19.lookup l).getD [] := rfl
theorem v_19_48 {X : e_X} {d : Nat} {a1 : Int32} {a2 : Int32} {a3 : Int32} {I J : Nat → Int → Int} : s_S X (d + 1) 19 [.ref 48, .int a1, .int a2, .int a3] (mm I J) = s_j X d 19 0 [.ref 48, .int a1, .int a2, .int a3, .retAddr 0, .retAddr 0, .retAddr 0] [] (mm I J) := s_S_in rfl rfl
theorem u_19_0 {X : e_X} {d : Nat} {ls st : List Value} {m : e_M} : s_j X d 19 0 ls st m = s_x X d 19 [.iload 1, .aload 0, .getfield 131, .if_icmp .lt 15, .aload 0, .iload 2, .iload 3, .invokeinterface 20 3, .return_] ls st m := by
  rw [s_j, s_g_eq, g_l19]; rfl
theorem u_19_15 {X : e_X} {d : Nat} {ls st : List Value} {m : e_M} : s_j X d 19 15 ls st m = s_x X d 19 [.aload 0, .checkcast 128, .invokeinterface 85 1, .istore 4, .sipush 0, .istore 5, .jsr 27] ls st m := by
  rw [s_j, s_g_eq, g_l19]; rfl
theorem u_19_27 {X : e_X} {d : Nat} {ls st : List Value} {m : e_M} : s_j X d 19 27 ls st m = s_x X d 19 [.iload 5, .aload 0, .checkcast 128, .getfield 521, .if_icmp .gt 96, .aload 0, .checkcast 129, .iload 1, .iload 5, .iastore, .aload 0, .checkcast 128, .iload 5, .invokeinterface 79 2, .istore 6, .aload 0, .iload 1, .sipush 1, .iadd, .iload 2, .iload 6, .iadd, .iload 5, .ifCond .ne 75, .iload 3, .goto 78] ls st m := by
  rw [s_j, s_g_eq, g_l19]; rfl
theorem u_19_75 {X : e_X} {d : Nat} {ls st : List Value} {m : e_M} : s_j X d 19 75 ls st m = s_x X d 19 [.iload 3, .sipush 1, .iadd, .jsr 78] ls st m := by
  rw [s_j, s_g_eq, g_l19]; rfl
theorem u_19_78 {X : e_X} {d : Nat} {ls st : List Value} {m : e_M} : s_j X d 19 78 ls st m = s_x X d 19 [.invokeinterface 19 4, .aload 0, .checkcast 128, .iload 4, .invokeinterface 87 2, .iinc 5 1, .goto 27] ls st m := by
  rw [s_j, s_g_eq, g_l19]; rfl
theorem u_19_96 {X : e_X} {d : Nat} {ls st : List Value} {m : e_M} : s_j X d 19 96 ls st m = s_x X d 19 [.return_] ls st m := by
  rw [s_j, s_g_eq, g_l19]; rfl
/-- P.weigh -/
theorem g_l20 (l : Nat) : g_P 20 l = (g_c20.lookup l).getD [] := rfl
theorem v_20_48 {X : e_X} {d : Nat} {a1 : Int32} {a2 : Int32} {I J : Nat → Int → Int} : s_S X (d + 1) 20 [.ref 48, .int a1, .int a2] (mm I J) = s_j X d 20 0 [.ref 48, .int a1, .int a2, .retAddr 0] [] (mm I J) := s_S_in rfl rfl
theorem u_20_0 {X : e_X} {d : Nat} {ls st : List Value} {m : e_M} : s_j X d 20 0 ls st m = s_x X d 20 [.aload 0, .getfield 134, .ifCond .eq 15, .iload 1, .aload 0, .getfield 133, .if_icmp .le 39, .jsr 15] ls st m := by
  rw [s_j, s_g_eq, g_l20]; rfl
theorem u_20_15 {X : e_X} {d : Nat} {ls st : List Value} {m : e_M} : s_j X d 20 15 ls st m = s_x X d 20 [.aload 0, .iload 1, .putfield 133, .aload 0, .sipush 0, .putfield 134, .aload 0, .checkcast 129, .sipush 0, .aload 0, .checkcast 130, .sipush 0, .sipush 4, .dmul, .jsr 39] ls st m := by
  rw [s_j, s_g_eq, g_l20]; rfl
theorem u_20_39 {X : e_X} {d : Nat} {ls st : List Value} {m : e_M} : s_j X d 20 39 ls st m = s_x X d 20 [.iload 1, .aload 0, .getfield 133, .if_icmp .ne 57, .aload 0, .dup, .getfield 134, .sipush 1, .iadd, .putfield 134, .jsr 57] ls st m := by
  rw [s_j, s_g_eq, g_l20]; rfl
theorem u_20_57 {X : e_X} {d : Nat} {ls st : List Value} {m : e_M} : s_j X d 20 57 ls st m = s_x X d 20 [.aload 0, .dup, .getfield 136, .aload 0, .checkcast 128, .getfield 522, .ior, .putfield 136, .aload 0, .checkcast 128, .getfield 522, .aload 0, .getfield 132, .iand, .aload 0, .getfield 132, .if_icmp .ne 96, .sipush 1, .goto 97] ls st m := by
  rw [s_j, s_g_eq, g_l20]; rfl
theorem u_20_96 {X : e_X} {d : Nat} {ls st : List Value} {m : e_M} : s_j X d 20 96 ls st m = s_x X d 20 [.sipush 0, .jsr 97] ls st m := by
  rw [s_j, s_g_eq, g_l20]; rfl
theorem u_20_97 {X : e_X} {d : Nat} {ls st : List Value} {m : e_M} : s_j X d 20 97 ls st m = s_x X d 20 [.istore 3, .iload 3, .ifCond .eq 124, .aload 0, .getfield 135, .sipush (-3), .if_icmp .eq 119, .iload 2, .aload 0, .getfield 135, .if_icmp .ge 124, .jsr 119] ls st m := by
  rw [s_j, s_g_eq, g_l20]; rfl
theorem u_20_119 {X : e_X} {d : Nat} {ls st : List Value} {m : e_M} : s_j X d 20 119 ls st m = s_x X d 20 [.aload 0, .iload 2, .putfield 135, .jsr 124] ls st m := by
  rw [s_j, s_g_eq, g_l20]; rfl
theorem u_20_124 {X : e_X} {d : Nat} {ls st : List Value} {m : e_M} : s_j X d 20 124 ls st m = s_x X d 20 [.return_] ls st m := by
  rw [s_j, s_g_eq, g_l20]; rfl
/-- P.valueOfGame -/
theorem g_l21 (l : Nat) : g_P 21 l = (g_c21.lookup l).getD [] := rfl
theorem v_21_48 {X : e_X} {d : Nat} {a1 : Int32} {a2 : Int32} {I J : Nat → Int → Int} : s_S X (d + 1) 21 [.ref 48, .int a1, .int a2] (mm I J) = s_j X d 21 0 [.ref 48, .int a1, .int a2, .retAddr 0, .retAddr 0, .retAddr 0] [] (mm I J) := s_S_in rfl rfl
theorem u_21_0 {X : e_X} {d : Nat} {ls st : List Value} {m : e_M} : s_j X d 21 0 ls st m = s_x X d 21 [.iload 1, .ifCond .gt 6, .sipush 0, .ireturn] ls st m := by
  rw [s_j, s_g_eq, g_l21]; rfl
theorem u_21_6 {X : e_X} {d : Nat} {ls st : List Value} {m : e_M} : s_j X d 21 6 ls st m = s_x X d 21 [.sipush 0, .istore 3, .sipush 0, .istore 4, .jsr 11] ls st m := by
  rw [s_j, s_g_eq, g_l21]; rfl
theorem u_21_11 {X : e_X} {d : Nat} {ls st : List Value} {m : e_M} : s_j X d 21 11 ls st m = s_x X d 21 [.iload 4, .aload 0, .checkcast 128, .getfield 521, .if_icmp .gt 66, .aload 0, .iload 4, .iload 1, .iload 2, .invokeinterface 22 4, .istore 5, .iload 4, .ifCond .eq 57, .iload 2, .ifCond .eq 51, .iload 5, .iload 3, .if_icmp .le 60, .goto 57] ls st m := by
  rw [s_j, s_g_eq, g_l21]; rfl
theorem u_21_51 {X : e_X} {d : Nat} {ls st : List Value} {m : e_M} : s_j X d 21 51 ls st m = s_x X d 21 [.iload 5, .iload 3, .if_icmp .ge 60, .jsr 57] ls st m := by
  rw [s_j, s_g_eq, g_l21]; rfl
theorem u_21_57 {X : e_X} {d : Nat} {ls st : List Value} {m : e_M} : s_j X d 21 57 ls st m = s_x X d 21 [.iload 5, .istore 3, .jsr 60] ls st m := by
  rw [s_j, s_g_eq, g_l21]; rfl
theorem u_21_60 {X : e_X} {d : Nat} {ls st : List Value} {m : e_M} : s_j X d 21 60 ls st m = s_x X d 21 [.iinc 4 1, .goto 11] ls st m := by
  rw [s_j, s_g_eq, g_l21]; rfl
theorem u_21_66 {X : e_X} {d : Nat} {ls st : List Value} {m : e_M} : s_j X d 21 66 ls st m = s_x X d 21 [.iload 3, .ireturn] ls st m := by
  rw [s_j, s_g_eq, g_l21]; rfl
/-- P.valueOfAct -/
theorem g_l22 (l : Nat) : g_P 22 l = (g_c22.lookup l).getD [] := rfl
theorem v_22_48 {X : e_X} {d : Nat} {a1 : Int32} {a2 : Int32} {a3 : Int32} {I J : Nat → Int → Int} : s_S X (d + 1) 22 [.ref 48, .int a1, .int a2, .int a3] (mm I J) = s_j X d 22 0 [.ref 48, .int a1, .int a2, .int a3, .retAddr 0, .retAddr 0, .retAddr 0] [] (mm I J) := s_S_in rfl rfl
theorem u_22_0 {X : e_X} {d : Nat} {ls st : List Value} {m : e_M} : s_j X d 22 0 ls st m = s_x X d 22 [.aload 0, .checkcast 128, .invokeinterface 85 1, .istore 4, .aload 0, .checkcast 128, .iload 1, .invokeinterface 79 2, .istore 5, .iload 5, .aload 0, .iload 2, .sipush 1, .isub, .iload 3, .ifCond .ne 33, .sipush 1, .goto 34] ls st m := by
  rw [s_j, s_g_eq, g_l22]; rfl
theorem u_22_33 {X : e_X} {d : Nat} {ls st : List Value} {m : e_M} : s_j X d 22 33 ls st m = s_x X d 22 [.sipush 0, .jsr 34] ls st m := by
  rw [s_j, s_g_eq, g_l22]; rfl
theorem u_22_34 {X : e_X} {d : Nat} {ls st : List Value} {m : e_M} : s_j X d 22 34 ls st m = s_x X d 22 [.invokeinterface 21 3, .iadd, .istore 6, .aload 0, .checkcast 128, .iload 4, .invokeinterface 87 2, .iload 6, .ireturn] ls st m := by
  rw [s_j, s_g_eq, g_l22]; rfl
/-- P.leastGoodAct -/
theorem g_l23 (l : Nat) : g_P 23 l = (g_c23.lookup l).getD [] := rfl
theorem v_23_48 {X : e_X} {d : Nat} {a1 : Int32} {I J : Nat → Int → Int} : s_S X (d + 1) 23 [.ref 48, .int a1] (mm I J) = s_j X d 23 0 [.ref 48, .int a1, .retAddr 0, .retAddr 0, .retAddr 0, .retAddr 0] [] (mm I J) := s_S_in rfl rfl
theorem u_23_0 {X : e_X} {d : Nat} {ls st : List Value} {m : e_M} : s_j X d 23 0 ls st m = s_x X d 23 [.sipush 0, .istore 2, .aload 0, .sipush 0, .iload 1, .sipush 1, .invokeinterface 22 4, .istore 3, .sipush 1, .istore 4, .jsr 13] ls st m := by
  rw [s_j, s_g_eq, g_l23]; rfl
theorem u_23_13 {X : e_X} {d : Nat} {ls st : List Value} {m : e_M} : s_j X d 23 13 ls st m = s_x X d 23 [.iload 4, .aload 0, .checkcast 128, .getfield 521, .if_icmp .gt 53, .aload 0, .iload 4, .iload 1, .sipush 1, .invokeinterface 22 4, .istore 5, .iload 5, .iload 3, .if_icmp .le 47, .iload 5, .istore 3, .iload 4, .istore 2, .jsr 47] ls st m := by
  rw [s_j, s_g_eq, g_l23]; rfl
theorem u_23_47 {X : e_X} {d : Nat} {ls st : List Value} {m : e_M} : s_j X d 23 47 ls st m = s_x X d 23 [.iinc 4 1, .goto 13] ls st m := by
  rw [s_j, s_g_eq, g_l23]; rfl
theorem u_23_53 {X : e_X} {d : Nat} {ls st : List Value} {m : e_M} : s_j X d 23 53 ls st m = s_x X d 23 [.iload 2, .ireturn] ls st m := by
  rw [s_j, s_g_eq, g_l23]; rfl
/-- R.takeBytes -/
theorem g_l25 (l : Nat) : g_P 25 l = (g_c25.lookup l).getD [] := rfl
theorem v_25_39 {X : e_X} {d : Nat} {a1 : Int64} {a2 : Int32} {I J : Nat → Int → Int} : s_S X (d + 1) 25 [.ref 39, .long a1, .int a2] (mm I J) = s_j X d 25 0 [.ref 39, .long a1, .retAddr 0, .int a2, .retAddr 0] [] (mm I J) := s_S_in rfl rfl
theorem u_25_0 {X : e_X} {d : Nat} {ls st : List Value} {m : e_M} : s_j X d 25 0 ls st m = s_x X d 25 [.sipush 0, .istore 4, .jsr 3] ls st m := by
  rw [s_j, s_g_eq, g_l25]; rfl
theorem u_25_3 {X : e_X} {d : Nat} {ls st : List Value} {m : e_M} : s_j X d 25 3 ls st m = s_x X d 25 [.iload 4, .iload 3, .if_icmp .ge 53, .aload 0, .getfield 194, .sipush 200, .if_icmp .ge 53, .aload 0, .checkcast 193, .aload 0, .dup, .getfield 194, .dup_x1, .sipush 1, .iadd, .putfield 194, .lload 1, .sipush 8, .iload 4, .imul, .lushr, .goto_w 255, .land, .l2i, .iastore, .iinc 4 1, .goto 3] ls st m := by
  rw [s_j, s_g_eq, g_l25]; rfl
theorem u_25_53 {X : e_X} {d : Nat} {ls st : List Value} {m : e_M} : s_j X d 25 53 ls st m = s_x X d 25 [.aload 0, .getfield 194, .ireturn] ls st m := by
  rw [s_j, s_g_eq, g_l25]; rfl
/-- R.readAll -/
theorem g_l26 (l : Nat) : g_P 26 l = (g_c26.lookup l).getD [] := rfl
theorem v_26_39 {X : e_X} {d : Nat}  {I J : Nat → Int → Int} : s_S X (d + 1) 26 [.ref 39] (mm I J) = s_j X d 26 0 [.ref 39, .retAddr 0, .retAddr 0] [] (mm I J) := s_S_in rfl rfl
theorem u_26_0 {X : e_X} {d : Nat} {ls st : List Value} {m : e_M} : s_j X d 26 0 ls st m = s_x X d 26 [.aload 0, .checkcast 192, .invokeinterface 12 1, .aload 0, .sipush 0, .putfield 195, .aload 0, .sipush 0, .putfield 198, .aload 0, .sipush 0, .putfield 203, .aload 0, .sipush 0, .putfield 205, .aload 0, .invokeinterface 27 1, .istore 1, .sipush 0, .istore 2, .jsr 34] ls st m := by
  rw [s_j, s_g_eq, g_l26]; rfl
theorem u_26_34 {X : e_X} {d : Nat} {ls st : List Value} {m : e_M} : s_j X d 26 34 ls st m = s_x X d 26 [.iload 2, .sipush 200, .if_icmp .ge 66, .iload 1, .sipush 20, .if_icmp .eq 66, .aload 0, .iload 1, .invokeinterface 33 2, .ifCond .eq 66, .aload 0, .invokeinterface 27 1, .istore 1, .iinc 2 1, .goto 34] ls st m := by
  rw [s_j, s_g_eq, g_l26]; rfl
theorem u_26_66 {X : e_X} {d : Nat} {ls st : List Value} {m : e_M} : s_j X d 26 66 ls st m = s_x X d 26 [.aload 0, .sipush 0, .putfield 194, .iload 1, .sipush 20, .if_icmp .ne 88, .aload 0, .getfield 198, .ifCond .ne 88, .sipush (-1), .goto 92] ls st m := by
  rw [s_j, s_g_eq, g_l26]; rfl
theorem u_26_88 {X : e_X} {d : Nat} {ls st : List Value} {m : e_M} : s_j X d 26 88 ls st m = s_x X d 26 [.aload 0, .getfield 196, .jsr 92] ls st m := by
  rw [s_j, s_g_eq, g_l26]; rfl
theorem u_26_92 {X : e_X} {d : Nat} {ls st : List Value} {m : e_M} : s_j X d 26 92 ls st m = s_x X d 26 [.ireturn] ls st m := by
  rw [s_j, s_g_eq, g_l26]; rfl
/-- R.nextWord -/
theorem g_l27 (l : Nat) : g_P 27 l = (g_c27.lookup l).getD [] := rfl
theorem v_27_39 {X : e_X} {d : Nat}  {I J : Nat → Int → Int} : s_S X (d + 1) 27 [.ref 39] (mm I J) = s_j X d 27 0 [.ref 39, .retAddr 0] [] (mm I J) := s_S_in rfl rfl
theorem u_27_0 {X : e_X} {d : Nat} {ls st : List Value} {m : e_M} : s_j X d 27 0 ls st m = s_x X d 27 [.aload 0, .getfield 195, .aload 0, .getfield 194, .if_icmp .ge 38, .aload 0, .checkcast 193, .aload 0, .getfield 195, .iaload, .sipush 32, .if_icmp .ne 38, .aload 0, .dup, .getfield 195, .sipush 1, .iadd, .putfield 195, .goto 0] ls st m := by
  rw [s_j, s_g_eq, g_l27]; rfl
theorem u_27_38 {X : e_X} {d : Nat} {ls st : List Value} {m : e_M} : s_j X d 27 38 ls st m = s_x X d 27 [.aload 0, .aload 0, .getfield 195, .putfield 196, .aload 0, .getfield 195, .aload 0, .getfield 194, .if_icmp .lt 60, .sipush 20, .ireturn] ls st m := by
  rw [s_j, s_g_eq, g_l27]; rfl
theorem u_27_60 {X : e_X} {d : Nat} {ls st : List Value} {m : e_M} : s_j X d 27 60 ls st m = s_x X d 27 [.aload 0, .checkcast 193, .aload 0, .getfield 195, .iaload, .istore 1, .iload 1, .invokeinterface 28 1, .ifCond .eq 82, .aload 0, .invokeinterface 29 1, .ireturn] ls st m := by
  rw [s_j, s_g_eq, g_l27]; rfl
theorem u_27_82 {X : e_X} {d : Nat} {ls st : List Value} {m : e_M} : s_j X d 27 82 ls st m = s_x X d 27 [.iload 1, .invokeinterface 30 1, .ifCond .eq 94, .aload 0, .invokeinterface 31 1, .ireturn] ls st m := by
  rw [s_j, s_g_eq, g_l27]; rfl
theorem u_27_94 {X : e_X} {d : Nat} {ls st : List Value} {m : e_M} : s_j X d 27 94 ls st m = s_x X d 27 [.aload 0, .dup, .getfield 195, .sipush 1, .iadd, .putfield 195, .iload 1, .invokeinterface 32 1, .ireturn] ls st m := by
  rw [s_j, s_g_eq, g_l27]; rfl
/-- R.isLetter -/
theorem g_l28 (l : Nat) : g_P 28 l = (g_c28.lookup l).getD [] := rfl
theorem v_28 {X : e_X} {d : Nat} {a0 : Int32} {I J : Nat → Int → Int} : s_S X (d + 1) 28 [.int a0] (mm I J) = s_j X d 28 0 [.int a0] [] (mm I J) := s_S_in rfl rfl
theorem u_28_0 {X : e_X} {d : Nat} {ls st : List Value} {m : e_M} : s_j X d 28 0 ls st m = s_x X d 28 [.iload 0, .sipush 97, .if_icmp .lt 16, .iload 0, .sipush 122, .if_icmp .gt 16, .sipush 1, .goto 17] ls st m := by
  rw [s_j, s_g_eq, g_l28]; rfl
theorem u_28_16 {X : e_X} {d : Nat} {ls st : List Value} {m : e_M} : s_j X d 28 16 ls st m = s_x X d 28 [.sipush 0, .jsr 17] ls st m := by
  rw [s_j, s_g_eq, g_l28]; rfl
theorem u_28_17 {X : e_X} {d : Nat} {ls st : List Value} {m : e_M} : s_j X d 28 17 ls st m = s_x X d 28 [.areturn] ls st m := by
  rw [s_j, s_g_eq, g_l28]; rfl
/-- R.readName -/
theorem g_l29 (l : Nat) : g_P 29 l = (g_c29.lookup l).getD [] := rfl
theorem v_29_39 {X : e_X} {d : Nat}  {I J : Nat → Int → Int} : s_S X (d + 1) 29 [.ref 39] (mm I J) = s_j X d 29 0 [.ref 39, .retAddr 0, .retAddr 0, .retAddr 0, .retAddr 0] [] (mm I J) := s_S_in rfl rfl
theorem u_29_0 {X : e_X} {d : Nat} {ls st : List Value} {m : e_M} : s_j X d 29 0 ls st m = s_x X d 29 [.aload 0, .getfield 195, .aload 0, .getfield 194, .if_icmp .ge 39, .aload 0, .checkcast 193, .aload 0, .getfield 195, .iaload, .invokeinterface 28 1, .ifCond .eq 39, .aload 0, .dup, .getfield 195, .sipush 1, .iadd, .putfield 195, .goto 0] ls st m := by
  rw [s_j, s_g_eq, g_l29]; rfl
theorem u_29_39 {X : e_X} {d : Nat} {ls st : List Value} {m : e_M} : s_j X d 29 39 ls st m = s_x X d 29 [.sipush 0, .istore 1, .aload 0, .getfield 196, .istore 2, .sipush 0, .istore 3, .jsr 48] ls st m := by
  rw [s_j, s_g_eq, g_l29]; rfl
theorem u_29_48 {X : e_X} {d : Nat} {ls st : List Value} {m : e_M} : s_j X d 29 48 ls st m = s_x X d 29 [.iload 3, .getstatic 3, .invokeinterface 301 1, .if_icmp .ge 134, .getstatic 3, .iload 3, .invokeinterface 303 2, .istore 4, .iload 4, .sipush 44, .if_icmp .ne 93, .iload 2, .aload 0, .getfield 195, .if_icmp .ne 82, .iload 1, .ireturn] ls st m := by
  rw [s_j, s_g_eq, g_l29]; rfl
theorem u_29_82 {X : e_X} {d : Nat} {ls st : List Value} {m : e_M} : s_j X d 29 82 ls st m = s_x X d 29 [.iinc 1 1, .aload 0, .getfield 196, .istore 2, .goto 128] ls st m := by
  rw [s_j, s_g_eq, g_l29]; rfl
theorem u_29_93 {X : e_X} {d : Nat} {ls st : List Value} {m : e_M} : s_j X d 29 93 ls st m = s_x X d 29 [.iload 2, .aload 0, .getfield 196, .if_icmp .lt 126, .iload 2, .aload 0, .getfield 195, .if_icmp .ge 126, .aload 0, .checkcast 193, .iload 2, .iaload, .iload 4, .if_icmp .ne 126, .iinc 2 1, .goto 128] ls st m := by
  rw [s_j, s_g_eq, g_l29]; rfl
theorem u_29_126 {X : e_X} {d : Nat} {ls st : List Value} {m : e_M} : s_j X d 29 126 ls st m = s_x X d 29 [.sipush (-1), .istore 2, .jsr 128] ls st m := by
  rw [s_j, s_g_eq, g_l29]; rfl
theorem u_29_128 {X : e_X} {d : Nat} {ls st : List Value} {m : e_M} : s_j X d 29 128 ls st m = s_x X d 29 [.iinc 3 1, .goto 48] ls st m := by
  rw [s_j, s_g_eq, g_l29]; rfl
theorem u_29_134 {X : e_X} {d : Nat} {ls st : List Value} {m : e_M} : s_j X d 29 134 ls st m = s_x X d 29 [.sipush 19, .ireturn] ls st m := by
  rw [s_j, s_g_eq, g_l29]; rfl
/-- R.isDigit -/
theorem g_l30 (l : Nat) : g_P 30 l = (g_c30.lookup l).getD [] := rfl
theorem v_30 {X : e_X} {d : Nat} {a0 : Int32} {I J : Nat → Int → Int} : s_S X (d + 1) 30 [.int a0] (mm I J) = s_j X d 30 0 [.int a0] [] (mm I J) := s_S_in rfl rfl
theorem u_30_0 {X : e_X} {d : Nat} {ls st : List Value} {m : e_M} : s_j X d 30 0 ls st m = s_x X d 30 [.iload 0, .sipush 48, .if_icmp .lt 16, .iload 0, .sipush 57, .if_icmp .gt 16, .sipush 1, .goto 17] ls st m := by
  rw [s_j, s_g_eq, g_l30]; rfl
theorem u_30_16 {X : e_X} {d : Nat} {ls st : List Value} {m : e_M} : s_j X d 30 16 ls st m = s_x X d 30 [.sipush 0, .jsr 17] ls st m := by
  rw [s_j, s_g_eq, g_l30]; rfl
theorem u_30_17 {X : e_X} {d : Nat} {ls st : List Value} {m : e_M} : s_j X d 30 17 ls st m = s_x X d 30 [.areturn] ls st m := by
  rw [s_j, s_g_eq, g_l30]; rfl
/-- R.readNumber -/
theorem g_l31 (l : Nat) : g_P 31 l = (g_c31.lookup l).getD [] := rfl
theorem v_31_39 {X : e_X} {d : Nat}  {I J : Nat → Int → Int} : s_S X (d + 1) 31 [.ref 39] (mm I J) = s_j X d 31 0 [.ref 39] [] (mm I J) := s_S_in rfl rfl
theorem u_31_0 {X : e_X} {d : Nat} {ls st : List Value} {m : e_M} : s_j X d 31 0 ls st m = s_x X d 31 [.aload 0, .sipush 0, .putfield 197, .jsr 5] ls st m := by
  rw [s_j, s_g_eq, g_l31]; rfl
theorem u_31_5 {X : e_X} {d : Nat} {ls st : List Value} {m : e_M} : s_j X d 31 5 ls st m = s_x X d 31 [.aload 0, .getfield 195, .aload 0, .getfield 194, .if_icmp .ge 81, .aload 0, .checkcast 193, .aload 0, .getfield 195, .iaload, .invokeinterface 30 1, .ifCond .eq 81, .aload 0, .getfield 195, .aload 0, .getfield 196, .isub, .sipush 4, .if_icmp .ge 68, .aload 0, .sipush 10, .aload 0, .getfield 197, .imul, .aload 0, .checkcast 193, .aload 0, .getfield 195, .iaload, .iadd, .sipush 48, .isub, .putfield 197, .jsr 68] ls st m := by
  rw [s_j, s_g_eq, g_l31]; rfl
theorem u_31_68 {X : e_X} {d : Nat} {ls st : List Value} {m : e_M} : s_j X d 31 68 ls st m = s_x X d 31 [.aload 0, .dup, .getfield 195, .sipush 1, .iadd, .putfield 195, .goto 5] ls st m := by
  rw [s_j, s_g_eq, g_l31]; rfl
theorem u_31_81 {X : e_X} {d : Nat} {ls st : List Value} {m : e_M} : s_j X d 31 81 ls st m = s_x X d 31 [.aload 0, .getfield 195, .aload 0, .getfield 196, .isub, .sipush 4, .if_icmp .le 99, .sipush 19, .goto 101] ls st m := by
  rw [s_j, s_g_eq, g_l31]; rfl
theorem u_31_99 {X : e_X} {d : Nat} {ls st : List Value} {m : e_M} : s_j X d 31 99 ls st m = s_x X d 31 [.sipush 18, .jsr 101] ls st m := by
  rw [s_j, s_g_eq, g_l31]; rfl
theorem u_31_101 {X : e_X} {d : Nat} {ls st : List Value} {m : e_M} : s_j X d 31 101 ls st m = s_x X d 31 [.ireturn] ls st m := by
  rw [s_j, s_g_eq, g_l31]; rfl
/-- R.signWord -/
theorem g_l32 (l : Nat) : g_P 32 l = (g_c32.lookup l).getD [] := rfl
theorem v_32 {X : e_X} {d : Nat} {a0 : Int32} {I J : Nat → Int → Int} : s_S X (d + 1) 32 [.int a0] (mm I J) = s_j X d 32 0 [.int a0] [] (mm I J) := s_S_in rfl rfl
theorem u_32_0 {X : e_X} {d : Nat} {ls st : List Value} {m : e_M} : s_j X d 32 0 ls st m = s_x X d 32 [.iload 0, .lookupswitch 78 #[(40, 69), (41, 72), (59, 75), (60, 60), (61, 63), (62, 66)]] ls st m := by
  rw [s_j, s_g_eq, g_l32]; rfl
theorem u_32_60 {X : e_X} {d : Nat} {ls st : List Value} {m : e_M} : s_j X d 32 60 ls st m = s_x X d 32 [.sipush 21, .ireturn] ls st m := by
  rw [s_j, s_g_eq, g_l32]; rfl
theorem u_32_63 {X : e_X} {d : Nat} {ls st : List Value} {m : e_M} : s_j X d 32 63 ls st m = s_x X d 32 [.sipush 22, .ireturn] ls st m := by
  rw [s_j, s_g_eq, g_l32]; rfl
theorem u_32_66 {X : e_X} {d : Nat} {ls st : List Value} {m : e_M} : s_j X d 32 66 ls st m = s_x X d 32 [.sipush 23, .ireturn] ls st m := by
  rw [s_j, s_g_eq, g_l32]; rfl
theorem u_32_69 {X : e_X} {d : Nat} {ls st : List Value} {m : e_M} : s_j X d 32 69 ls st m = s_x X d 32 [.sipush 24, .ireturn] ls st m := by
  rw [s_j, s_g_eq, g_l32]; rfl
theorem u_32_72 {X : e_X} {d : Nat} {ls st : List Value} {m : e_M} : s_j X d 32 72 ls st m = s_x X d 32 [.sipush 25, .ireturn] ls st m := by
  rw [s_j, s_g_eq, g_l32]; rfl
theorem u_32_75 {X : e_X} {d : Nat} {ls st : List Value} {m : e_M} : s_j X d 32 75 ls st m = s_x X d 32 [.sipush 26, .ireturn] ls st m := by
  rw [s_j, s_g_eq, g_l32]; rfl
theorem u_32_78 {X : e_X} {d : Nat} {ls st : List Value} {m : e_M} : s_j X d 32 78 ls st m = s_x X d 32 [.sipush 19, .ireturn] ls st m := by
  rw [s_j, s_g_eq, g_l32]; rfl
/-- R.mayStand -/
theorem g_l33 (l : Nat) : g_P 33 l = (g_c33.lookup l).getD [] := rfl
theorem v_33_39 {X : e_X} {d : Nat} {a1 : Int32} {I J : Nat → Int → Int} : s_S X (d + 1) 33 [.ref 39, .int a1] (mm I J) = s_j X d 33 0 [.ref 39, .int a1] [] (mm I J) := s_S_in rfl rfl
theorem u_33_0 {X : e_X} {d : Nat} {ls st : List Value} {m : e_M} : s_j X d 33 0 ls st m = s_x X d 33 [.aload 0, .getfield 198, .lookupswitch 80 #[(0, 44), (1, 50), (2, 56), (3, 62), (4, 68), (5, 74)]] ls st m := by
  rw [s_j, s_g_eq, g_l33]; rfl
theorem u_33_44 {X : e_X} {d : Nat} {ls st : List Value} {m : e_M} : s_j X d 33 44 ls st m = s_x X d 33 [.aload 0, .iload 1, .invokeinterface 34 2, .areturn] ls st m := by
  rw [s_j, s_g_eq, g_l33]; rfl
theorem u_33_50 {X : e_X} {d : Nat} {ls st : List Value} {m : e_M} : s_j X d 33 50 ls st m = s_x X d 33 [.aload 0, .iload 1, .invokeinterface 35 2, .areturn] ls st m := by
  rw [s_j, s_g_eq, g_l33]; rfl
theorem u_33_56 {X : e_X} {d : Nat} {ls st : List Value} {m : e_M} : s_j X d 33 56 ls st m = s_x X d 33 [.aload 0, .iload 1, .invokeinterface 37 2, .areturn] ls st m := by
  rw [s_j, s_g_eq, g_l33]; rfl
theorem u_33_62 {X : e_X} {d : Nat} {ls st : List Value} {m : e_M} : s_j X d 33 62 ls st m = s_x X d 33 [.aload 0, .iload 1, .invokeinterface 41 2, .areturn] ls st m := by
  rw [s_j, s_g_eq, g_l33]; rfl
theorem u_33_68 {X : e_X} {d : Nat} {ls st : List Value} {m : e_M} : s_j X d 33 68 ls st m = s_x X d 33 [.aload 0, .iload 1, .invokeinterface 42 2, .areturn] ls st m := by
  rw [s_j, s_g_eq, g_l33]; rfl
theorem u_33_74 {X : e_X} {d : Nat} {ls st : List Value} {m : e_M} : s_j X d 33 74 ls st m = s_x X d 33 [.aload 0, .iload 1, .invokeinterface 44 2, .areturn] ls st m := by
  rw [s_j, s_g_eq, g_l33]; rfl
theorem u_33_80 {X : e_X} {d : Nat} {ls st : List Value} {m : e_M} : s_j X d 33 80 ls st m = s_x X d 33 [.aload 0, .iload 1, .invokeinterface 47 2, .areturn] ls st m := by
  rw [s_j, s_g_eq, g_l33]; rfl
/-- R.takeKind -/
theorem g_l34 (l : Nat) : g_P 34 l = (g_c34.lookup l).getD [] := rfl
theorem v_34_39 {X : e_X} {d : Nat} {a1 : Int32} {I J : Nat → Int → Int} : s_S X (d + 1) 34 [.ref 39, .int a1] (mm I J) = s_j X d 34 0 [.ref 39, .int a1] [] (mm I J) := s_S_in rfl rfl
theorem u_34_0 {X : e_X} {d : Nat} {ls st : List Value} {m : e_M} : s_j X d 34 0 ls st m = s_x X d 34 [.iload 1, .sipush 5, .if_icmp .gt 17, .aload 0, .checkcast 192, .getfield 69, .sipush 8, .if_icmp .lt 19, .jsr 17] ls st m := by
  rw [s_j, s_g_eq, g_l34]; rfl
theorem u_34_17 {X : e_X} {d : Nat} {ls st : List Value} {m : e_M} : s_j X d 34 17 ls st m = s_x X d 34 [.sipush 0, .areturn] ls st m := by
  rw [s_j, s_g_eq, g_l34]; rfl
theorem u_34_19 {X : e_X} {d : Nat} {ls st : List Value} {m : e_M} : s_j X d 34 19 ls st m = s_x X d 34 [.aload 0, .iload 1, .putfield 199, .aload 0, .sipush 1, .putfield 198, .sipush 1, .areturn] ls st m := by
  rw [s_j, s_g_eq, g_l34]; rfl
/-- R.takeTail -/
theorem g_l35 (l : Nat) : g_P 35 l = (g_c35.lookup l).getD [] := rfl
theorem v_35_39 {X : e_X} {d : Nat} {a1 : Int32} {I J : Nat → Int → Int} : s_S X (d + 1) 35 [.ref 39, .int a1] (mm I J) = s_j X d 35 0 [.ref 39, .int a1] [] (mm I J) := s_S_in rfl rfl
theorem u_35_0 {X : e_X} {d : Nat} {ls st : List Value} {m : e_M} : s_j X d 35 0 ls st m = s_x X d 35 [.iload 1, .sipush 9, .if_icmp .eq 12, .aload 0, .iload 1, .invokeinterface 36 2, .areturn] ls st m := by
  rw [s_j, s_g_eq, g_l35]; rfl
theorem u_35_12 {X : e_X} {d : Nat} {ls st : List Value} {m : e_M} : s_j X d 35 12 ls st m = s_x X d 35 [.aload 0, .sipush 2, .putfield 198, .sipush 1, .areturn] ls st m := by
  rw [s_j, s_g_eq, g_l35]; rfl
/-- R.takeWill -/
theorem g_l36 (l : Nat) : g_P 36 l = (g_c36.lookup l).getD [] := rfl
theorem v_36_39 {X : e_X} {d : Nat} {a1 : Int32} {I J : Nat → Int → Int} : s_S X (d + 1) 36 [.ref 39, .int a1] (mm I J) = s_j X d 36 0 [.ref 39, .int a1] [] (mm I J) := s_S_in rfl rfl
theorem u_36_0 {X : e_X} {d : Nat} {ls st : List Value} {m : e_M} : s_j X d 36 0 ls st m = s_x X d 36 [.iload 1, .sipush 6, .sipush 8, .invokeinterface 109 3, .ifCond .eq 13, .sipush 0, .areturn] ls st m := by
  rw [s_j, s_g_eq, g_l36]; rfl
theorem u_36_13 {X : e_X} {d : Nat} {ls st : List Value} {m : e_M} : s_j X d 36 13 ls st m = s_x X d 36 [.aload 0, .iload 1, .sipush 6, .isub, .putfield 200, .aload 0, .sipush 6, .putfield 198, .sipush 1, .areturn] ls st m := by
  rw [s_j, s_g_eq, g_l36]; rfl
/-- R.takeOne -/
theorem g_l37 (l : Nat) : g_P 37 l = (g_c37.lookup l).getD [] := rfl
theorem v_37_39 {X : e_X} {d : Nat} {a1 : Int32} {I J : Nat → Int → Int} : s_S X (d + 1) 37 [.ref 39, .int a1] (mm I J) = s_j X d 37 0 [.ref 39, .int a1] [] (mm I J) := s_S_in rfl rfl
theorem u_37_0 {X : e_X} {d : Nat} {ls st : List Value} {m : e_M} : s_j X d 37 0 ls st m = s_x X d 37 [.iload 1, .sipush 12, .if_icmp .ne 13, .aload 0, .sipush 12, .invokeinterface 38 2, .areturn] ls st m := by
  rw [s_j, s_g_eq, g_l37]; rfl
theorem u_37_13 {X : e_X} {d : Nat} {ls st : List Value} {m : e_M} : s_j X d 37 13 ls st m = s_x X d 37 [.iload 1, .sipush 24, .if_icmp .ne 52, .aload 0, .dup, .getfield 203, .sipush 1, .iadd, .putfield 203, .aload 0, .getfield 203, .sipush 3, .if_icmp .gt 50, .aload 0, .sipush 24, .invokeinterface 38 2, .ifCond .eq 50, .sipush 1, .goto 51] ls st m := by
  rw [s_j, s_g_eq, g_l37]; rfl
theorem u_37_50 {X : e_X} {d : Nat} {ls st : List Value} {m : e_M} : s_j X d 37 50 ls st m = s_x X d 37 [.sipush 0, .jsr 51] ls st m := by
  rw [s_j, s_g_eq, g_l37]; rfl
theorem u_37_51 {X : e_X} {d : Nat} {ls st : List Value} {m : e_M} : s_j X d 37 51 ls st m = s_x X d 37 [.areturn] ls st m := by
  rw [s_j, s_g_eq, g_l37]; rfl
theorem u_37_52 {X : e_X} {d : Nat} {ls st : List Value} {m : e_M} : s_j X d 37 52 ls st m = s_x X d 37 [.iload 1, .invokeinterface 39 1, .ifCond .ne 61, .sipush 0, .areturn] ls st m := by
  rw [s_j, s_g_eq, g_l37]; rfl
theorem u_37_61 {X : e_X} {d : Nat} {ls st : List Value} {m : e_M} : s_j X d 37 61 ls st m = s_x X d 37 [.aload 0, .aload 0, .iload 1, .invokeinterface 40 2, .putfield 201, .aload 0, .sipush 3, .putfield 198, .sipush 1, .areturn] ls st m := by
  rw [s_j, s_g_eq, g_l37]; rfl
/-- R.waitWith -/
theorem g_l38 (l : Nat) : g_P 38 l = (g_c38.lookup l).getD [] := rfl
theorem v_38_39 {X : e_X} {d : Nat} {a1 : Int32} {I J : Nat → Int → Int} : s_S X (d + 1) 38 [.ref 39, .int a1] (mm I J) = s_j X d 38 0 [.ref 39, .int a1] [] (mm I J) := s_S_in rfl rfl
theorem u_38_0 {X : e_X} {d : Nat} {ls st : List Value} {m : e_M} : s_j X d 38 0 ls st m = s_x X d 38 [.aload 0, .getfield 205, .sipush 200, .if_icmp .lt 12, .sipush 0, .areturn] ls st m := by
  rw [s_j, s_g_eq, g_l38]; rfl
theorem u_38_12 {X : e_X} {d : Nat} {ls st : List Value} {m : e_M} : s_j X d 38 12 ls st m = s_x X d 38 [.aload 0, .checkcast 204, .aload 0, .dup, .getfield 205, .dup_x1, .sipush 1, .iadd, .putfield 205, .iload 1, .iastore, .sipush 1, .areturn] ls st m := by
  rw [s_j, s_g_eq, g_l38]; rfl
/-- R.isValue -/
theorem g_l39 (l : Nat) : g_P 39 l = (g_c39.lookup l).getD [] := rfl
theorem v_39 {X : e_X} {d : Nat} {a0 : Int32} {I J : Nat → Int → Int} : s_S X (d + 1) 39 [.int a0] (mm I J) = s_j X d 39 0 [.int a0] [] (mm I J) := s_S_in rfl rfl
theorem u_39_0 {X : e_X} {d : Nat} {ls st : List Value} {m : e_M} : s_j X d 39 0 ls st m = s_x X d 39 [.iload 0, .sipush 18, .if_icmp .eq 17, .iload 0, .sipush 13, .sipush 17, .invokeinterface 109 3, .ifCond .ne 21, .jsr 17] ls st m := by
  rw [s_j, s_g_eq, g_l39]; rfl
theorem u_39_17 {X : e_X} {d : Nat} {ls st : List Value} {m : e_M} : s_j X d 39 17 ls st m = s_x X d 39 [.sipush 1, .goto 22] ls st m := by
  rw [s_j, s_g_eq, g_l39]; rfl
theorem u_39_21 {X : e_X} {d : Nat} {ls st : List Value} {m : e_M} : s_j X d 39 21 ls st m = s_x X d 39 [.sipush 0, .jsr 22] ls st m := by
  rw [s_j, s_g_eq, g_l39]; rfl
theorem u_39_22 {X : e_X} {d : Nat} {ls st : List Value} {m : e_M} : s_j X d 39 22 ls st m = s_x X d 39 [.areturn] ls st m := by
  rw [s_j, s_g_eq, g_l39]; rfl
/-- R.valueOf -/
theorem g_l40 (l : Nat) : g_P 40 l = (g_c40.lookup l).getD [] := rfl
theorem v_40_39 {X : e_X} {d : Nat} {a1 : Int32} {I J : Nat → Int → Int} : s_S X (d + 1) 40 [.ref 39, .int a1] (mm I J) = s_j X d 40 0 [.ref 39, .int a1] [] (mm I J) := s_S_in rfl rfl
theorem u_40_0 {X : e_X} {d : Nat} {ls st : List Value} {m : e_M} : s_j X d 40 0 ls st m = s_x X d 40 [.iload 1, .sipush 18, .if_icmp .ne 13, .aload 0, .getfield 197, .goto 21] ls st m := by
  rw [s_j, s_g_eq, g_l40]; rfl
theorem u_40_13 {X : e_X} {d : Nat} {ls st : List Value} {m : e_M} : s_j X d 40 13 ls st m = s_x X d 40 [.sipush 10000, .iload 1, .iadd, .sipush 13, .isub, .jsr 21] ls st m := by
  rw [s_j, s_g_eq, g_l40]; rfl
theorem u_40_21 {X : e_X} {d : Nat} {ls st : List Value} {m : e_M} : s_j X d 40 21 ls st m = s_x X d 40 [.ireturn] ls st m := by
  rw [s_j, s_g_eq, g_l40]; rfl
/-- R.takeSign -/
theorem g_l41 (l : Nat) : g_P 41 l = (g_c41.lookup l).getD [] := rfl
theorem v_41_39 {X : e_X} {d : Nat} {a1 : Int32} {I J : Nat → Int → Int} : s_S X (d + 1) 41 [.ref 39, .int a1] (mm I J) = s_j X d 41 0 [.ref 39, .int a1] [] (mm I J) := s_S_in rfl rfl
theorem u_41_0 {X : e_X} {d : Nat} {ls st : List Value} {m : e_M} : s_j X d 41 0 ls st m = s_x X d 41 [.iload 1, .sipush 21, .sipush 23, .invokeinterface 109 3, .ifCond .eq 13, .sipush 0, .areturn] ls st m := by
  rw [s_j, s_g_eq, g_l41]; rfl
theorem u_41_13 {X : e_X} {d : Nat} {ls st : List Value} {m : e_M} : s_j X d 41 13 ls st m = s_x X d 41 [.aload 0, .iload 1, .sipush 21, .isub, .putfield 202, .aload 0, .sipush 4, .putfield 198, .sipush 1, .areturn] ls st m := by
  rw [s_j, s_g_eq, g_l41]; rfl
/-- R.takeRight -/
theorem g_l42 (l : Nat) : g_P 42 l = (g_c42.lookup l).getD [] := rfl
theorem v_42_39 {X : e_X} {d : Nat} {a1 : Int32} {I J : Nat → Int → Int} : s_S X (d + 1) 42 [.ref 39, .int a1] (mm I J) = s_j X d 42 0 [.ref 39, .int a1] [] (mm I J) := s_S_in rfl rfl
theorem u_42_0 {X : e_X} {d : Nat} {ls st : List Value} {m : e_M} : s_j X d 42 0 ls st m = s_x X d 42 [.iload 1, .invokeinterface 39 1, .ifCond .ne 9, .sipush 0, .areturn] ls st m := by
  rw [s_j, s_g_eq, g_l42]; rfl
theorem u_42_9 {X : e_X} {d : Nat} {ls st : List Value} {m : e_M} : s_j X d 42 9 ls st m = s_x X d 42 [.aload 0, .checkcast 192, .aload 0, .getfield 201, .aload 0, .getfield 202, .aload 0, .iload 1, .invokeinterface 40 2, .invokeinterface 13 3, .invokeinterface 14 2, .aload 0, .invokeinterface 43 1, .sipush 1, .areturn] ls st m := by
  rw [s_j, s_g_eq, g_l42]; rfl
/-- R.endOne -/
theorem g_l43 (l : Nat) : g_P 43 l = (g_c43.lookup l).getD [] := rfl
theorem v_43_39 {X : e_X} {d : Nat}  {I J : Nat → Int → Int} : s_S X (d + 1) 43 [.ref 39] (mm I J) = s_j X d 43 0 [.ref 39] [] (mm I J) := s_S_in rfl rfl
theorem u_43_0 {X : e_X} {d : Nat} {ls st : List Value} {m : e_M} : s_j X d 43 0 ls st m = s_x X d 43 [.aload 0, .getfield 205, .ifCond .le 44, .aload 0, .checkcast 204, .aload 0, .getfield 205, .sipush 1, .isub, .iaload, .sipush 12, .if_icmp .ne 44, .aload 0, .checkcast 192, .sipush (-1), .invokeinterface 14 2, .aload 0, .dup, .getfield 205, .sipush 1, .isub, .putfield 205, .goto 0] ls st m := by
  rw [s_j, s_g_eq, g_l43]; rfl
theorem u_43_44 {X : e_X} {d : Nat} {ls st : List Value} {m : e_M} : s_j X d 43 44 ls st m = s_x X d 43 [.aload 0, .sipush 5, .putfield 198, .return_] ls st m := by
  rw [s_j, s_g_eq, g_l43]; rfl
/-- R.takeJoint -/
theorem g_l44 (l : Nat) : g_P 44 l = (g_c44.lookup l).getD [] := rfl
theorem v_44_39 {X : e_X} {d : Nat} {a1 : Int32} {I J : Nat → Int → Int} : s_S X (d + 1) 44 [.ref 39, .int a1] (mm I J) = s_j X d 44 0 [.ref 39, .int a1] [] (mm I J) := s_S_in rfl rfl
theorem u_44_0 {X : e_X} {d : Nat} {ls st : List Value} {m : e_M} : s_j X d 44 0 ls st m = s_x X d 44 [.iload 1, .sipush 25, .if_icmp .ne 11, .aload 0, .invokeinterface 45 1, .areturn] ls st m := by
  rw [s_j, s_g_eq, g_l44]; rfl
theorem u_44_11 {X : e_X} {d : Nat} {ls st : List Value} {m : e_M} : s_j X d 44 11 ls st m = s_x X d 44 [.iload 1, .sipush 10, .if_icmp .eq 23, .iload 1, .sipush 11, .if_icmp .ne 39, .jsr 23] ls st m := by
  rw [s_j, s_g_eq, g_l44]; rfl
theorem u_44_23 {X : e_X} {d : Nat} {ls st : List Value} {m : e_M} : s_j X d 44 23 ls st m = s_x X d 44 [.aload 0, .iload 1, .invokeinterface 46 2, .aload 0, .sipush 2, .putfield 198, .aload 0, .iload 1, .invokeinterface 38 2, .areturn] ls st m := by
  rw [s_j, s_g_eq, g_l44]; rfl
theorem u_44_39 {X : e_X} {d : Nat} {ls st : List Value} {m : e_M} : s_j X d 44 39 ls st m = s_x X d 44 [.aload 0, .getfield 203, .ifCond .le 48, .sipush 0, .areturn] ls st m := by
  rw [s_j, s_g_eq, g_l44]; rfl
theorem u_44_48 {X : e_X} {d : Nat} {ls st : List Value} {m : e_M} : s_j X d 44 48 ls st m = s_x X d 44 [.aload 0, .sipush 11, .invokeinterface 46 2, .aload 0, .iload 1, .invokeinterface 36 2, .areturn] ls st m := by
  rw [s_j, s_g_eq, g_l44]; rfl
/-- R.takeClose -/
theorem g_l45 (l : Nat) : g_P 45 l = (g_c45.lookup l).getD [] := rfl
theorem v_45_39 {X : e_X} {d : Nat}  {I J : Nat → Int → Int} : s_S X (d + 1) 45 [.ref 39] (mm I J) = s_j X d 45 0 [.ref 39] [] (mm I J) := s_S_in rfl rfl
theorem u_45_0 {X : e_X} {d : Nat} {ls st : List Value} {m : e_M} : s_j X d 45 0 ls st m = s_x X d 45 [.aload 0, .getfield 203, .ifCond .ne 9, .sipush 0, .areturn] ls st m := by
  rw [s_j, s_g_eq, g_l45]; rfl
theorem u_45_9 {X : e_X} {d : Nat} {ls st : List Value} {m : e_M} : s_j X d 45 9 ls st m = s_x X d 45 [.aload 0, .dup, .getfield 203, .sipush 1, .isub, .putfield 203, .aload 0, .sipush 11, .invokeinterface 46 2, .aload 0, .getfield 205, .ifCond .le 42, .aload 0, .dup, .getfield 205, .sipush 1, .isub, .putfield 205, .jsr 42] ls st m := by
  rw [s_j, s_g_eq, g_l45]; rfl
theorem u_45_42 {X : e_X} {d : Nat} {ls st : List Value} {m : e_M} : s_j X d 45 42 ls st m = s_x X d 45 [.aload 0, .invokeinterface 43 1, .sipush 1, .areturn] ls st m := by
  rw [s_j, s_g_eq, g_l45]; rfl
/-- R.appendJoints -/
theorem g_l46 (l : Nat) : g_P 46 l = (g_c46.lookup l).getD [] := rfl
theorem v_46_39 {X : e_X} {d : Nat} {a1 : Int32} {I J : Nat → Int → Int} : s_S X (d + 1) 46 [.ref 39, .int a1] (mm I J) = s_j X d 46 0 [.ref 39, .int a1] [] (mm I J) := s_S_in rfl rfl
theorem u_46_0 {X : e_X} {d : Nat} {ls st : List Value} {m : e_M} : s_j X d 46 0 ls st m = s_x X d 46 [.aload 0, .getfield 205, .ifCond .le 81, .aload 0, .checkcast 204, .aload 0, .getfield 205, .sipush 1, .isub, .iaload, .sipush 10, .if_icmp .eq 38, .aload 0, .checkcast 204, .aload 0, .getfield 205, .sipush 1, .isub, .iaload, .iload 1, .if_icmp .ne 81, .jsr 38] ls st m := by
  rw [s_j, s_g_eq, g_l46]; rfl
theorem u_46_38 {X : e_X} {d : Nat} {ls st : List Value} {m : e_M} : s_j X d 46 38 ls st m = s_x X d 46 [.aload 0, .checkcast 192, .aload 0, .checkcast 204, .aload 0, .getfield 205, .sipush 1, .isub, .iaload, .sipush 10, .if_icmp .ne 63, .sipush (-2), .goto 65] ls st m := by
  rw [s_j, s_g_eq, g_l46]; rfl
theorem u_46_63 {X : e_X} {d : Nat} {ls st : List Value} {m : e_M} : s_j X d 46 63 ls st m = s_x X d 46 [.sipush (-3), .jsr 65] ls st m := by
  rw [s_j, s_g_eq, g_l46]; rfl
theorem u_46_65 {X : e_X} {d : Nat} {ls st : List Value} {m : e_M} : s_j X d 46 65 ls st m = s_x X d 46 [.invokeinterface 14 2, .aload 0, .dup, .getfield 205, .sipush 1, .isub, .putfield 205, .goto 0] ls st m := by
  rw [s_j, s_g_eq, g_l46]; rfl
theorem u_46_81 {X : e_X} {d : Nat} {ls st : List Value} {m : e_M} : s_j X d 46 81 ls st m = s_x X d 46 [.return_] ls st m := by
  rw [s_j, s_g_eq, g_l46]; rfl
/-- R.takeSemicolon -/
theorem g_l47 (l : Nat) : g_P 47 l = (g_c47.lookup l).getD [] := rfl
theorem v_47_39 {X : e_X} {d : Nat} {a1 : Int32} {I J : Nat → Int → Int} : s_S X (d + 1) 47 [.ref 39, .int a1] (mm I J) = s_j X d 47 0 [.ref 39, .int a1] [] (mm I J) := s_S_in rfl rfl
theorem u_47_0 {X : e_X} {d : Nat} {ls st : List Value} {m : e_M} : s_j X d 47 0 ls st m = s_x X d 47 [.iload 1, .sipush 26, .if_icmp .eq 8, .sipush 0, .areturn] ls st m := by
  rw [s_j, s_g_eq, g_l47]; rfl
theorem u_47_8 {X : e_X} {d : Nat} {ls st : List Value} {m : e_M} : s_j X d 47 8 ls st m = s_x X d 47 [.aload 0, .checkcast 192, .aload 0, .getfield 199, .aload 0, .getfield 200, .invokeinterface 15 3, .aload 0, .sipush 0, .putfield 198, .sipush 1, .areturn] ls st m := by
  rw [s_j, s_g_eq, g_l47]; rfl
/-- Rp.add -/
theorem g_l49 (l : Nat) : g_P 49 l = (g_c49.lookup l).getD [] := rfl
theorem v_49_15 {X : e_X} {d : Nat} {a1 : Int32} {a2 : Int32} {a3 : Int32} {a4 : Int32} {I J : Nat → Int → Int} : s_S X (d + 1) 49 [.ref 15, .int a1, .int a2, .int a3, .int a4] (mm I J) = s_j X d 49 0 [.ref 15, .int a1, .int a2, .int a3, .int a4] [] (mm I J) := s_S_in rfl rfl
theorem u_49_0 {X : e_X} {d : Nat} {ls st : List Value} {m : e_M} : s_j X d 49 0 ls st m = s_x X d 49 [.aload 0, .getfield 260, .sipush 6, .if_icmp .lt 12, .sipush (-2), .ireturn] ls st m := by
  rw [s_j, s_g_eq, g_l49]; rfl
theorem u_49_12 {X : e_X} {d : Nat} {ls st : List Value} {m : e_M} : s_j X d 49 12 ls st m = s_x X d 49 [.aload 0, .checkcast 256, .aload 0, .getfield 260, .iload 1, .iastore, .aload 0, .checkcast 257, .aload 0, .getfield 260, .iload 2, .iastore, .aload 0, .checkcast 258, .aload 0, .getfield 260, .iload 3, .iastore, .aload 0, .checkcast 259, .aload 0, .getfield 260, .iload 4, .iastore, .aload 0, .dup, .getfield 260, .dup_x1, .sipush 1, .iadd, .putfield 260, .ireturn] ls st m := by
  rw [s_j, s_g_eq, g_l49]; rfl
/-- Rp.latest -/
theorem g_l50 (l : Nat) : g_P 50 l = (g_c50.lookup l).getD [] := rfl
theorem v_50_15 {X : e_X} {d : Nat}  {I J : Nat → Int → Int} : s_S X (d + 1) 50 [.ref 15] (mm I J) = s_j X d 50 0 [.ref 15, .retAddr 0, .retAddr 0] [] (mm I J) := s_S_in rfl rfl
theorem u_50_0 {X : e_X} {d : Nat} {ls st : List Value} {m : e_M} : s_j X d 50 0 ls st m = s_x X d 50 [.sipush 0, .istore 1, .sipush 0, .istore 2, .jsr 4] ls st m := by
  rw [s_j, s_g_eq, g_l50]; rfl
theorem u_50_4 {X : e_X} {d : Nat} {ls st : List Value} {m : e_M} : s_j X d 50 4 ls st m = s_x X d 50 [.iload 2, .aload 0, .getfield 260, .if_icmp .ge 29, .iload 1, .aload 0, .checkcast 256, .iload 2, .iaload, .dadd, .istore 1, .iinc 2 1, .goto 4] ls st m := by
  rw [s_j, s_g_eq, g_l50]; rfl
theorem u_50_29 {X : e_X} {d : Nat} {ls st : List Value} {m : e_M} : s_j X d 50 29 ls st m = s_x X d 50 [.iload 1, .ireturn] ls st m := by
  rw [s_j, s_g_eq, g_l50]; rfl
/-- Rp.wrongBehind -/
theorem g_l51 (l : Nat) : g_P 51 l = (g_c51.lookup l).getD [] := rfl
theorem v_51_15 {X : e_X} {d : Nat} {a1 : Int32} {a2 : Int32} {a3 : Int32} {I J : Nat → Int → Int} : s_S X (d + 1) 51 [.ref 15, .int a1, .int a2, .int a3] (mm I J) = s_j X d 51 0 [.ref 15, .int a1, .int a2, .int a3, .retAddr 0, .retAddr 0] [] (mm I J) := s_S_in rfl rfl
theorem u_51_0 {X : e_X} {d : Nat} {ls st : List Value} {m : e_M} : s_j X d 51 0 ls st m = s_x X d 51 [.sipush 0, .istore 4, .sipush 0, .istore 5, .jsr 6] ls st m := by
  rw [s_j, s_g_eq, g_l51]; rfl
theorem u_51_6 {X : e_X} {d : Nat} {ls st : List Value} {m : e_M} : s_j X d 51 6 ls st m = s_x X d 51 [.iload 5, .aload 0, .getfield 260, .if_icmp .ge 76, .aload 0, .checkcast 256, .iload 5, .iaload, .iload 1, .if_icmp .ne 70, .aload 0, .checkcast 257, .iload 5, .iaload, .ifCond .ne 40, .iload 2, .goto 41] ls st m := by
  rw [s_j, s_g_eq, g_l51]; rfl
theorem u_51_40 {X : e_X} {d : Nat} {ls st : List Value} {m : e_M} : s_j X d 51 40 ls st m = s_x X d 51 [.iload 3, .jsr 41] ls st m := by
  rw [s_j, s_g_eq, g_l51]; rfl
theorem u_51_41 {X : e_X} {d : Nat} {ls st : List Value} {m : e_M} : s_j X d 51 41 ls st m = s_x X d 51 [.aload 0, .checkcast 258, .iload 5, .iaload, .aload 0, .checkcast 259, .iload 5, .iaload, .invokeinterface 109 3, .ifCond .eq 70, .iload 4, .sipush 1, .iload 5, .ishl, .ior, .istore 4, .jsr 70] ls st m := by
  rw [s_j, s_g_eq, g_l51]; rfl
theorem u_51_70 {X : e_X} {d : Nat} {ls st : List Value} {m : e_M} : s_j X d 51 70 ls st m = s_x X d 51 [.iinc 5 1, .goto 6] ls st m := by
  rw [s_j, s_g_eq, g_l51]; rfl
theorem u_51_76 {X : e_X} {d : Nat} {ls st : List Value} {m : e_M} : s_j X d 51 76 ls st m = s_x X d 51 [.iload 4, .ireturn] ls st m := by
  rw [s_j, s_g_eq, g_l51]; rfl
/-- Rp.copyFrom -/
theorem g_l52 (l : Nat) : g_P 52 l = (g_c52.lookup l).getD [] := rfl
theorem v_52_15 {X : e_X} {d : Nat} {a1 : Nat} {I J : Nat → Int → Int} : s_S X (d + 1) 52 [.ref 15, .ref a1] (mm I J) = s_j X d 52 0 [.ref 15, .ref a1] [] (mm I J) := s_S_in rfl rfl
theorem v_52_34 {X : e_X} {d : Nat} {a1 : Nat} {I J : Nat → Int → Int} : s_S X (d + 1) 52 [.ref 34, .ref a1] (mm I J) = s_j X d 52 0 [.ref 34, .ref a1] [] (mm I J) := s_S_in rfl rfl
theorem u_52_0 {X : e_X} {d : Nat} {ls st : List Value} {m : e_M} : s_j X d 52 0 ls st m = s_x X d 52 [.aload 1, .checkcast 256, .sipush 0, .aload 0, .checkcast 256, .sipush 0, .sipush 6, .dmul, .aload 1, .checkcast 257, .sipush 0, .aload 0, .checkcast 257, .sipush 0, .sipush 6, .dmul, .aload 1, .checkcast 258, .sipush 0, .aload 0, .checkcast 258, .sipush 0, .sipush 6, .dmul, .aload 1, .checkcast 259, .sipush 0, .aload 0, .checkcast 259, .sipush 0, .sipush 6, .dmul, .aload 0, .aload 1, .getfield 260, .putfield 260, .return_] ls st m := by
  rw [s_j, s_g_eq, g_l52]; rfl
/-- Rw.fill -/
theorem g_l54 (l : Nat) : g_P 54 l = (g_c54.lookup l).getD [] := rfl
theorem v_54_51 {X : e_X} {d : Nat} {a1 : Nat} {a2 : Int32} {I J : Nat → Int → Int} : s_S X (d + 1) 54 [.ref 51, .ref a1, .int a2] (mm I J) = s_j X d 54 0 [.ref 51, .ref a1, .int a2, .retAddr 0, .retAddr 0] [] (mm I J) := s_S_in rfl rfl
theorem u_54_0 {X : e_X} {d : Nat} {ls st : List Value} {m : e_M} : s_j X d 54 0 ls st m = s_x X d 54 [.aload 0, .checkcast 320, .invokeinterface 85 1, .istore 3, .aload 0, .iload 2, .sipush 4, .dsub, .putfield 322, .sipush 0, .istore 4, .jsr 20] ls st m := by
  rw [s_j, s_g_eq, g_l54]; rfl
theorem u_54_20 {X : e_X} {d : Nat} {ls st : List Value} {m : e_M} : s_j X d 54 20 ls st m = s_x X d 54 [.iload 4, .aload 0, .getfield 322, .if_icmp .ge 88, .aload 0, .checkcast 321, .sipush 3, .iload 4, .imul, .aload 1, .iload 4, .iaload, .iastore, .aload 0, .checkcast 321, .sipush 3, .iload 4, .imul, .sipush 1, .iadd, .aload 0, .checkcast 320, .aload 1, .iload 4, .iaload, .invokeinterface 79 2, .iastore, .aload 0, .checkcast 321, .sipush 3, .iload 4, .imul, .sipush 2, .iadd, .aload 0, .checkcast 320, .getfield 522, .iastore, .iinc 4 1, .goto 20] ls st m := by
  rw [s_j, s_g_eq, g_l54]; rfl
theorem u_54_88 {X : e_X} {d : Nat} {ls st : List Value} {m : e_M} : s_j X d 54 88 ls st m = s_x X d 54 [.aload 0, .checkcast 320, .iload 3, .invokeinterface 87 2, .aload 0, .getfield 322, .ireturn] ls st m := by
  rw [s_j, s_g_eq, g_l54]; rfl
/-- Rw.has -/
theorem g_l55 (l : Nat) : g_P 55 l = (g_c55.lookup l).getD [] := rfl
theorem v_55_51 {X : e_X} {d : Nat} {a1 : Int32} {a2 : Int32} {I J : Nat → Int → Int} : s_S X (d + 1) 55 [.ref 51, .int a1, .int a2] (mm I J) = s_j X d 55 0 [.ref 51, .int a1, .int a2] [] (mm I J) := s_S_in rfl rfl
theorem u_55_0 {X : e_X} {d : Nat} {ls st : List Value} {m : e_M} : s_j X d 55 0 ls st m = s_x X d 55 [.iload 1, .ifCond .lt 25, .iload 1, .aload 0, .getfield 322, .if_icmp .ge 25, .iload 2, .ifCond .lt 25, .iload 2, .sipush 3, .if_icmp .ge 25, .sipush 1, .goto 26] ls st m := by
  rw [s_j, s_g_eq, g_l55]; rfl
theorem u_55_25 {X : e_X} {d : Nat} {ls st : List Value} {m : e_M} : s_j X d 55 25 ls st m = s_x X d 55 [.sipush 0, .jsr 26] ls st m := by
  rw [s_j, s_g_eq, g_l55]; rfl
theorem u_55_26 {X : e_X} {d : Nat} {ls st : List Value} {m : e_M} : s_j X d 55 26 ls st m = s_x X d 55 [.areturn] ls st m := by
  rw [s_j, s_g_eq, g_l55]; rfl
/-- Rw.firstWrong -/
theorem g_l56 (l : Nat) : g_P 56 l = (g_c56.lookup l).getD [] := rfl
theorem v_56_51 {X : e_X} {d : Nat}  {I J : Nat → Int → Int} : s_S X (d + 1) 56 [.ref 51] (mm I J) = s_j X d 56 0 [.ref 51, .retAddr 0, .retAddr 0, .retAddr 0] [] (mm I J) := s_S_in rfl rfl
theorem u_56_0 {X : e_X} {d : Nat} {ls st : List Value} {m : e_M} : s_j X d 56 0 ls st m = s_x X d 56 [.aload 0, .checkcast 320, .invokeinterface 85 1, .istore 1, .sipush 0, .istore 2, .sipush 0, .istore 3, .jsr 12] ls st m := by
  rw [s_j, s_g_eq, g_l56]; rfl
theorem u_56_12 {X : e_X} {d : Nat} {ls st : List Value} {m : e_M} : s_j X d 56 12 ls st m = s_x X d 56 [.iload 3, .aload 0, .getfield 322, .if_icmp .ge 42, .iload 2, .ifCond .ne 42, .aload 0, .iload 3, .invokeinterface 57 2, .ifCond .ne 36, .iload 3, .sipush 1, .iadd, .istore 2, .jsr 36] ls st m := by
  rw [s_j, s_g_eq, g_l56]; rfl
theorem u_56_36 {X : e_X} {d : Nat} {ls st : List Value} {m : e_M} : s_j X d 56 36 ls st m = s_x X d 56 [.iinc 3 1, .goto 12] ls st m := by
  rw [s_j, s_g_eq, g_l56]; rfl
theorem u_56_42 {X : e_X} {d : Nat} {ls st : List Value} {m : e_M} : s_j X d 56 42 ls st m = s_x X d 56 [.aload 0, .checkcast 320, .iload 1, .invokeinterface 87 2, .iload 2, .ireturn] ls st m := by
  rw [s_j, s_g_eq, g_l56]; rfl
/-- Rw.isRight -/
theorem g_l57 (l : Nat) : g_P 57 l = (g_c57.lookup l).getD [] := rfl
theorem v_57_51 {X : e_X} {d : Nat} {a1 : Int32} {I J : Nat → Int → Int} : s_S X (d + 1) 57 [.ref 51, .int a1] (mm I J) = s_j X d 57 0 [.ref 51, .int a1, .retAddr 0, .retAddr 0] [] (mm I J) := s_S_in rfl rfl
theorem u_57_0 {X : e_X} {d : Nat} {ls st : List Value} {m : e_M} : s_j X d 57 0 ls st m = s_x X d 57 [.aload 0, .checkcast 321, .sipush 3, .iload 1, .imul, .iaload, .istore 2, .aload 0, .checkcast 320, .iload 2, .invokeinterface 105 2, .ifCond .eq 30, .aload 0, .checkcast 320, .invokeinterface 76 1, .ifCond .eq 32, .jsr 30] ls st m := by
  rw [s_j, s_g_eq, g_l57]; rfl
theorem u_57_30 {X : e_X} {d : Nat} {ls st : List Value} {m : e_M} : s_j X d 57 30 ls st m = s_x X d 57 [.sipush 0, .areturn] ls st m := by
  rw [s_j, s_g_eq, g_l57]; rfl
theorem u_57_32 {X : e_X} {d : Nat} {ls st : List Value} {m : e_M} : s_j X d 57 32 ls st m = s_x X d 57 [.aload 0, .checkcast 320, .iload 2, .invokeinterface 79 2, .istore 3, .aload 0, .checkcast 321, .sipush 3, .iload 1, .imul, .sipush 1, .iadd, .iaload, .iload 3, .if_icmp .ne 79, .aload 0, .checkcast 321, .sipush 3, .iload 1, .imul, .sipush 2, .iadd, .iaload, .aload 0, .checkcast 320, .getfield 522, .if_icmp .ne 79, .sipush 1, .goto 80] ls st m := by
  rw [s_j, s_g_eq, g_l57]; rfl
theorem u_57_79 {X : e_X} {d : Nat} {ls st : List Value} {m : e_M} : s_j X d 57 79 ls st m = s_x X d 57 [.sipush 0, .jsr 80] ls st m := by
  rw [s_j, s_g_eq, g_l57]; rfl
theorem u_57_80 {X : e_X} {d : Nat} {ls st : List Value} {m : e_M} : s_j X d 57 80 ls st m = s_x X d 57 [.areturn] ls st m := by
  rw [s_j, s_g_eq, g_l57]; rfl
/-- Sh.become -/
theorem g_l59 (l : Nat) : g_P 59 l = (g_c59.lookup l).getD [] := rfl
theorem v_59_57 {X : e_X} {d : Nat} {a1 : Int32} {a2 : Int32} {I J : Nat → Int → Int} : s_S X (d + 1) 59 [.ref 57, .int a1, .int a2] (mm I J) = s_j X d 59 0 [.ref 57, .int a1, .int a2, .retAddr 0] [] (mm I J) := s_S_in rfl rfl
theorem v_59_59 {X : e_X} {d : Nat} {a1 : Int32} {a2 : Int32} {I J : Nat → Int → Int} : s_S X (d + 1) 59 [.ref 59, .int a1, .int a2] (mm I J) = s_j X d 59 0 [.ref 59, .int a1, .int a2, .retAddr 0] [] (mm I J) := s_S_in rfl rfl
theorem v_59_61 {X : e_X} {d : Nat} {a1 : Int32} {a2 : Int32} {I J : Nat → Int → Int} : s_S X (d + 1) 59 [.ref 61, .int a1, .int a2] (mm I J) = s_j X d 59 0 [.ref 61, .int a1, .int a2, .retAddr 0] [] (mm I J) := s_S_in rfl rfl
theorem v_59_63 {X : e_X} {d : Nat} {a1 : Int32} {a2 : Int32} {I J : Nat → Int → Int} : s_S X (d + 1) 59 [.ref 63, .int a1, .int a2] (mm I J) = s_j X d 59 0 [.ref 63, .int a1, .int a2, .retAddr 0] [] (mm I J) := s_S_in rfl rfl
theorem u_59_0 {X : e_X} {d : Nat} {ls st : List Value} {m : e_M} : s_j X d 59 0 ls st m = s_x X d 59 [.sipush 0, .istore 3, .jsr 2] ls st m := by
  rw [s_j, s_g_eq, g_l59]; rfl
theorem u_59_2 {X : e_X} {d : Nat} {ls st : List Value} {m : e_M} : s_j X d 59 2 ls st m = s_x X d 59 [.iload 3, .sipush 40, .if_icmp .ge 21, .aload 0, .checkcast 384, .iload 3, .goto_w 0, .lastore, .iinc 3 1, .goto 2] ls st m := by
  rw [s_j, s_g_eq, g_l59]; rfl
theorem u_59_21 {X : e_X} {d : Nat} {ls st : List Value} {m : e_M} : s_j X d 59 21 ls st m = s_x X d 59 [.aload 0, .iload 1, .putfield 385, .aload 0, .iload 2, .putfield 386, .return_] ls st m := by
  rw [s_j, s_g_eq, g_l59]; rfl
/-- Sh.hasItem -/
theorem g_l60 (l : Nat) : g_P 60 l = (g_c60.lookup l).getD [] := rfl
theorem v_60_57 {X : e_X} {d : Nat} {a1 : Int32} {I J : Nat → Int → Int} : s_S X (d + 1) 60 [.ref 57, .int a1] (mm I J) = s_j X d 60 0 [.ref 57, .int a1] [] (mm I J) := s_S_in rfl rfl
theorem v_60_59 {X : e_X} {d : Nat} {a1 : Int32} {I J : Nat → Int → Int} : s_S X (d + 1) 60 [.ref 59, .int a1] (mm I J) = s_j X d 60 0 [.ref 59, .int a1] [] (mm I J) := s_S_in rfl rfl
theorem v_60_61 {X : e_X} {d : Nat} {a1 : Int32} {I J : Nat → Int → Int} : s_S X (d + 1) 60 [.ref 61, .int a1] (mm I J) = s_j X d 60 0 [.ref 61, .int a1] [] (mm I J) := s_S_in rfl rfl
theorem v_60_63 {X : e_X} {d : Nat} {a1 : Int32} {I J : Nat → Int → Int} : s_S X (d + 1) 60 [.ref 63, .int a1] (mm I J) = s_j X d 60 0 [.ref 63, .int a1] [] (mm I J) := s_S_in rfl rfl
theorem u_60_0 {X : e_X} {d : Nat} {ls st : List Value} {m : e_M} : s_j X d 60 0 ls st m = s_x X d 60 [.iload 1, .ifCond .lt 22, .iload 1, .aload 0, .getfield 386, .if_icmp .ge 22, .iload 1, .sipush 40, .if_icmp .ge 22, .sipush 1, .goto 23] ls st m := by
  rw [s_j, s_g_eq, g_l60]; rfl
theorem u_60_22 {X : e_X} {d : Nat} {ls st : List Value} {m : e_M} : s_j X d 60 22 ls st m = s_x X d 60 [.sipush 0, .jsr 23] ls st m := by
  rw [s_j, s_g_eq, g_l60]; rfl
theorem u_60_23 {X : e_X} {d : Nat} {ls st : List Value} {m : e_M} : s_j X d 60 23 ls st m = s_x X d 60 [.areturn] ls st m := by
  rw [s_j, s_g_eq, g_l60]; rfl
/-- Sh.putItem -/
theorem g_l61 (l : Nat) : g_P 61 l = (g_c61.lookup l).getD [] := rfl
theorem v_61_57 {X : e_X} {d : Nat} {a1 : Int32} {a2 : Int32} {I J : Nat → Int → Int} : s_S X (d + 1) 61 [.ref 57, .int a1, .int a2] (mm I J) = s_j X d 61 0 [.ref 57, .int a1, .int a2] [] (mm I J) := s_S_in rfl rfl
theorem v_61_59 {X : e_X} {d : Nat} {a1 : Int32} {a2 : Int32} {I J : Nat → Int → Int} : s_S X (d + 1) 61 [.ref 59, .int a1, .int a2] (mm I J) = s_j X d 61 0 [.ref 59, .int a1, .int a2] [] (mm I J) := s_S_in rfl rfl
theorem v_61_61 {X : e_X} {d : Nat} {a1 : Int32} {a2 : Int32} {I J : Nat → Int → Int} : s_S X (d + 1) 61 [.ref 61, .int a1, .int a2] (mm I J) = s_j X d 61 0 [.ref 61, .int a1, .int a2] [] (mm I J) := s_S_in rfl rfl
theorem v_61_63 {X : e_X} {d : Nat} {a1 : Int32} {a2 : Int32} {I J : Nat → Int → Int} : s_S X (d + 1) 61 [.ref 63, .int a1, .int a2] (mm I J) = s_j X d 61 0 [.ref 63, .int a1, .int a2] [] (mm I J) := s_S_in rfl rfl
theorem u_61_0 {X : e_X} {d : Nat} {ls st : List Value} {m : e_M} : s_j X d 61 0 ls st m = s_x X d 61 [.aload 0, .iload 1, .invokeinterface 60 2, .ifCond .eq 19, .aload 0, .checkcast 384, .iload 1, .aload 0, .iload 2, .invokeinterface 62 2, .lastore, .jsr 19] ls st m := by
  rw [s_j, s_g_eq, g_l61]; rfl
theorem u_61_19 {X : e_X} {d : Nat} {ls st : List Value} {m : e_M} : s_j X d 61 19 ls st m = s_x X d 61 [.return_] ls st m := by
  rw [s_j, s_g_eq, g_l61]; rfl
/-- Sh.narrowed -/
theorem g_l62 (l : Nat) : g_P 62 l = (g_c62.lookup l).getD [] := rfl
theorem v_62_57 {X : e_X} {d : Nat} {a1 : Int32} {I J : Nat → Int → Int} : s_S X (d + 1) 62 [.ref 57, .int a1] (mm I J) = s_j X d 62 0 [.ref 57, .int a1] [] (mm I J) := s_S_in rfl rfl
theorem v_62_59 {X : e_X} {d : Nat} {a1 : Int32} {I J : Nat → Int → Int} : s_S X (d + 1) 62 [.ref 59, .int a1] (mm I J) = s_j X d 62 0 [.ref 59, .int a1] [] (mm I J) := s_S_in rfl rfl
theorem v_62_61 {X : e_X} {d : Nat} {a1 : Int32} {I J : Nat → Int → Int} : s_S X (d + 1) 62 [.ref 61, .int a1] (mm I J) = s_j X d 62 0 [.ref 61, .int a1] [] (mm I J) := s_S_in rfl rfl
theorem v_62_63 {X : e_X} {d : Nat} {a1 : Int32} {I J : Nat → Int → Int} : s_S X (d + 1) 62 [.ref 63, .int a1] (mm I J) = s_j X d 62 0 [.ref 63, .int a1] [] (mm I J) := s_S_in rfl rfl
theorem u_62_0 {X : e_X} {d : Nat} {ls st : List Value} {m : e_M} : s_j X d 62 0 ls st m = s_x X d 62 [.aload 0, .getfield 385, .lookupswitch 58 #[(0, 40), (1, 44), (2, 58), (3, 58), (4, 48)]] ls st m := by
  rw [s_j, s_g_eq, g_l62]; rfl
theorem u_62_40 {X : e_X} {d : Nat} {ls st : List Value} {m : e_M} : s_j X d 62 40 ls st m = s_x X d 62 [.iload 1, .i2b, .i2l, .lreturn] ls st m := by
  rw [s_j, s_g_eq, g_l62]; rfl
theorem u_62_44 {X : e_X} {d : Nat} {ls st : List Value} {m : e_M} : s_j X d 62 44 ls st m = s_x X d 62 [.iload 1, .i2s, .i2l, .lreturn] ls st m := by
  rw [s_j, s_g_eq, g_l62]; rfl
theorem u_62_48 {X : e_X} {d : Nat} {ls st : List Value} {m : e_M} : s_j X d 62 48 ls st m = s_x X d 62 [.iload 1, .ifCond .eq 56, .goto_w 1, .goto 57] ls st m := by
  rw [s_j, s_g_eq, g_l62]; rfl
theorem u_62_56 {X : e_X} {d : Nat} {ls st : List Value} {m : e_M} : s_j X d 62 56 ls st m = s_x X d 62 [.goto_w 0, .jsr 57] ls st m := by
  rw [s_j, s_g_eq, g_l62]; rfl
theorem u_62_57 {X : e_X} {d : Nat} {ls st : List Value} {m : e_M} : s_j X d 62 57 ls st m = s_x X d 62 [.lreturn] ls st m := by
  rw [s_j, s_g_eq, g_l62]; rfl
theorem u_62_58 {X : e_X} {d : Nat} {ls st : List Value} {m : e_M} : s_j X d 62 58 ls st m = s_x X d 62 [.iload 1, .i2l, .lreturn] ls st m := by
  rw [s_j, s_g_eq, g_l62]; rfl
/-- Sh.refusalAs -/
theorem g_l63 (l : Nat) : g_P 63 l = (g_c63.lookup l).getD [] := rfl
theorem v_63_57 {X : e_X} {d : Nat} {a1 : Int32} {I J : Nat → Int → Int} : s_S X (d + 1) 63 [.ref 57, .int a1] (mm I J) = s_j X d 63 0 [.ref 57, .int a1] [] (mm I J) := s_S_in rfl rfl
theorem v_63_59 {X : e_X} {d : Nat} {a1 : Int32} {I J : Nat → Int → Int} : s_S X (d + 1) 63 [.ref 59, .int a1] (mm I J) = s_j X d 63 0 [.ref 59, .int a1] [] (mm I J) := s_S_in rfl rfl
theorem v_63_61 {X : e_X} {d : Nat} {a1 : Int32} {I J : Nat → Int → Int} : s_S X (d + 1) 63 [.ref 61, .int a1] (mm I J) = s_j X d 63 0 [.ref 61, .int a1] [] (mm I J) := s_S_in rfl rfl
theorem v_63_63 {X : e_X} {d : Nat} {a1 : Int32} {I J : Nat → Int → Int} : s_S X (d + 1) 63 [.ref 63, .int a1] (mm I J) = s_j X d 63 0 [.ref 63, .int a1] [] (mm I J) := s_S_in rfl rfl
theorem u_63_0 {X : e_X} {d : Nat} {ls st : List Value} {m : e_M} : s_j X d 63 0 ls st m = s_x X d 63 [.aload 0, .getfield 385, .sipush (-1), .if_icmp .ne 11, .sipush (-11), .ireturn] ls st m := by
  rw [s_j, s_g_eq, g_l63]; rfl
theorem u_63_11 {X : e_X} {d : Nat} {ls st : List Value} {m : e_M} : s_j X d 63 11 ls st m = s_x X d 63 [.aload 0, .getfield 385, .iload 1, .if_icmp .ne 23, .sipush 0, .goto 25] ls st m := by
  rw [s_j, s_g_eq, g_l63]; rfl
theorem u_63_23 {X : e_X} {d : Nat} {ls st : List Value} {m : e_M} : s_j X d 63 23 ls st m = s_x X d 63 [.sipush (-13), .jsr 25] ls st m := by
  rw [s_j, s_g_eq, g_l63]; rfl
theorem u_63_25 {X : e_X} {d : Nat} {ls st : List Value} {m : e_M} : s_j X d 63 25 ls st m = s_x X d 63 [.ireturn] ls st m := by
  rw [s_j, s_g_eq, g_l63]; rfl
/-- Sf.holdRow -/
theorem g_l65 (l : Nat) : g_P 65 l = (g_c65.lookup l).getD [] := rfl
theorem v_65_65 {X : e_X} {d : Nat} {a1 : Int32} {a2 : Int32} {I J : Nat → Int → Int} : s_S X (d + 1) 65 [.ref 65, .int a1, .int a2] (mm I J) = s_j X d 65 0 [.ref 65, .int a1, .int a2] [] (mm I J) := s_S_in rfl rfl
theorem v_65_66 {X : e_X} {d : Nat} {a1 : Int32} {a2 : Int32} {I J : Nat → Int → Int} : s_S X (d + 1) 65 [.ref 66, .int a1, .int a2] (mm I J) = s_j X d 65 0 [.ref 66, .int a1, .int a2] [] (mm I J) := s_S_in rfl rfl
theorem v_65_67 {X : e_X} {d : Nat} {a1 : Int32} {a2 : Int32} {I J : Nat → Int → Int} : s_S X (d + 1) 65 [.ref 67, .int a1, .int a2] (mm I J) = s_j X d 65 0 [.ref 67, .int a1, .int a2] [] (mm I J) := s_S_in rfl rfl
theorem v_65_68 {X : e_X} {d : Nat} {a1 : Int32} {a2 : Int32} {I J : Nat → Int → Int} : s_S X (d + 1) 65 [.ref 68, .int a1, .int a2] (mm I J) = s_j X d 65 0 [.ref 68, .int a1, .int a2] [] (mm I J) := s_S_in rfl rfl
theorem u_65_0 {X : e_X} {d : Nat} {ls st : List Value} {m : e_M} : s_j X d 65 0 ls st m = s_x X d 65 [.aload 0, .iload 1, .sipush (-1), .if_icmp .ne 10, .sipush 2, .goto 11] ls st m := by
  rw [s_j, s_g_eq, g_l65]; rfl
theorem u_65_10 {X : e_X} {d : Nat} {ls st : List Value} {m : e_M} : s_j X d 65 10 ls st m = s_x X d 65 [.sipush 1, .jsr 11] ls st m := by
  rw [s_j, s_g_eq, g_l65]; rfl
theorem u_65_11 {X : e_X} {d : Nat} {ls st : List Value} {m : e_M} : s_j X d 65 11 ls st m = s_x X d 65 [.putfield 448, .aload 0, .iload 1, .putfield 450, .aload 0, .iload 2, .putfield 451, .return_] ls st m := by
  rw [s_j, s_g_eq, g_l65]; rfl
/-- Sf.hold -/
theorem g_l66 (l : Nat) : g_P 66 l = (g_c66.lookup l).getD [] := rfl
theorem v_66_65 {X : e_X} {d : Nat} {a1 : Int32} {a2 : Int32} {I J : Nat → Int → Int} : s_S X (d + 1) 66 [.ref 65, .int a1, .int a2] (mm I J) = s_j X d 66 0 [.ref 65, .int a1, .int a2] [] (mm I J) := s_S_in rfl rfl
theorem v_66_66 {X : e_X} {d : Nat} {a1 : Int32} {a2 : Int32} {I J : Nat → Int → Int} : s_S X (d + 1) 66 [.ref 66, .int a1, .int a2] (mm I J) = s_j X d 66 0 [.ref 66, .int a1, .int a2] [] (mm I J) := s_S_in rfl rfl
theorem v_66_67 {X : e_X} {d : Nat} {a1 : Int32} {a2 : Int32} {I J : Nat → Int → Int} : s_S X (d + 1) 66 [.ref 67, .int a1, .int a2] (mm I J) = s_j X d 66 0 [.ref 67, .int a1, .int a2] [] (mm I J) := s_S_in rfl rfl
theorem v_66_68 {X : e_X} {d : Nat} {a1 : Int32} {a2 : Int32} {I J : Nat → Int → Int} : s_S X (d + 1) 66 [.ref 68, .int a1, .int a2] (mm I J) = s_j X d 66 0 [.ref 68, .int a1, .int a2] [] (mm I J) := s_S_in rfl rfl
theorem u_66_0 {X : e_X} {d : Nat} {ls st : List Value} {m : e_M} : s_j X d 66 0 ls st m = s_x X d 66 [.aload 0, .iload 1, .putfield 448, .aload 0, .iload 2, .putfield 449, .return_] ls st m := by
  rw [s_j, s_g_eq, g_l66]; rfl
/-- T.addPiece -/
theorem g_l68 (l : Nat) : g_P 68 l = (g_c68.lookup l).getD [] := rfl
theorem v_68_1 {X : e_X} {d : Nat} {a1 : Int32} {a2 : Int32} {a3 : Int32} {a4 : Int32} {I J : Nat → Int → Int} : s_S X (d + 1) 68 [.ref 1, .int a1, .int a2, .int a3, .int a4] (mm I J) = s_j X d 68 0 [.ref 1, .int a1, .int a2, .int a3, .int a4] [] (mm I J) := s_S_in rfl rfl
theorem u_68_0 {X : e_X} {d : Nat} {ls st : List Value} {m : e_M} : s_j X d 68 0 ls st m = s_x X d 68 [.aload 0, .getfield 521, .sipush 6, .if_icmp .lt 12, .sipush (-2), .ireturn] ls st m := by
  rw [s_j, s_g_eq, g_l68]; rfl
theorem u_68_12 {X : e_X} {d : Nat} {ls st : List Value} {m : e_M} : s_j X d 68 12 ls st m = s_x X d 68 [.aload 0, .checkcast 512, .aload 0, .getfield 521, .iload 1, .iastore, .aload 0, .checkcast 513, .aload 0, .getfield 521, .iload 2, .iastore, .aload 0, .checkcast 514, .aload 0, .getfield 521, .iload 3, .iastore, .aload 0, .checkcast 515, .aload 0, .getfield 521, .iload 4, .iastore, .aload 0, .dup, .getfield 521, .dup_x1, .sipush 1, .iadd, .putfield 521, .ireturn] ls st m := by
  rw [s_j, s_g_eq, g_l68]; rfl
/-- T.hasPiece -/
theorem g_l69 (l : Nat) : g_P 69 l = (g_c69.lookup l).getD [] := rfl
theorem v_69_1 {X : e_X} {d : Nat} {a1 : Int32} {I J : Nat → Int → Int} : s_S X (d + 1) 69 [.ref 1, .int a1] (mm I J) = s_j X d 69 0 [.ref 1, .int a1] [] (mm I J) := s_S_in rfl rfl
theorem u_69_0 {X : e_X} {d : Nat} {ls st : List Value} {m : e_M} : s_j X d 69 0 ls st m = s_x X d 69 [.iload 1, .ifCond .lt 16, .iload 1, .aload 0, .getfield 521, .if_icmp .ge 16, .sipush 1, .goto 17] ls st m := by
  rw [s_j, s_g_eq, g_l69]; rfl
theorem u_69_16 {X : e_X} {d : Nat} {ls st : List Value} {m : e_M} : s_j X d 69 16 ls st m = s_x X d 69 [.sipush 0, .jsr 17] ls st m := by
  rw [s_j, s_g_eq, g_l69]; rfl
theorem u_69_17 {X : e_X} {d : Nat} {ls st : List Value} {m : e_M} : s_j X d 69 17 ls st m = s_x X d 69 [.areturn] ls st m := by
  rw [s_j, s_g_eq, g_l69]; rfl
/-- T.isSeated -/
theorem g_l70 (l : Nat) : g_P 70 l = (g_c70.lookup l).getD [] := rfl
theorem v_70_1 {X : e_X} {d : Nat} {a1 : Int32} {I J : Nat → Int → Int} : s_S X (d + 1) 70 [.ref 1, .int a1] (mm I J) = s_j X d 70 0 [.ref 1, .int a1] [] (mm I J) := s_S_in rfl rfl
theorem u_70_0 {X : e_X} {d : Nat} {ls st : List Value} {m : e_M} : s_j X d 70 0 ls st m = s_x X d 70 [.aload 0, .getfield 522, .iload 1, .ishr, .sipush 1, .iand, .sipush 1, .if_icmp .ne 16, .sipush 1, .goto 17] ls st m := by
  rw [s_j, s_g_eq, g_l70]; rfl
theorem u_70_16 {X : e_X} {d : Nat} {ls st : List Value} {m : e_M} : s_j X d 70 16 ls st m = s_x X d 70 [.sipush 0, .jsr 17] ls st m := by
  rw [s_j, s_g_eq, g_l70]; rfl
theorem u_70_17 {X : e_X} {d : Nat} {ls st : List Value} {m : e_M} : s_j X d 70 17 ls st m = s_x X d 70 [.areturn] ls st m := by
  rw [s_j, s_g_eq, g_l70]; rfl
/-- T.grudgeOf -/
theorem g_l71 (l : Nat) : g_P 71 l = (g_c71.lookup l).getD [] := rfl
theorem v_71_1 {X : e_X} {d : Nat} {a1 : Int32} {I J : Nat → Int → Int} : s_S X (d + 1) 71 [.ref 1, .int a1] (mm I J) = s_j X d 71 0 [.ref 1, .int a1, .retAddr 0] [] (mm I J) := s_S_in rfl rfl
theorem u_71_0 {X : e_X} {d : Nat} {ls st : List Value} {m : e_M} : s_j X d 71 0 ls st m = s_x X d 71 [.aload 0, .checkcast 516, .aload 0, .checkcast 515, .iload 1, .iaload, .iaload, .istore 2, .aload 0, .checkcast 512, .iload 1, .iaload, .lookupswitch 80 #[(1, 52), (2, 56), (3, 60), (4, 70), (5, 74)]] ls st m := by
  rw [s_j, s_g_eq, g_l71]; rfl
theorem u_71_52 {X : e_X} {d : Nat} {ls st : List Value} {m : e_M} : s_j X d 71 52 ls st m = s_x X d 71 [.iload 2, .sipush 2, .iadd, .ireturn] ls st m := by
  rw [s_j, s_g_eq, g_l71]; rfl
theorem u_71_56 {X : e_X} {d : Nat} {ls st : List Value} {m : e_M} : s_j X d 71 56 ls st m = s_x X d 71 [.iload 2, .iload 1, .iadd, .ireturn] ls st m := by
  rw [s_j, s_g_eq, g_l71]; rfl
theorem u_71_60 {X : e_X} {d : Nat} {ls st : List Value} {m : e_M} : s_j X d 71 60 ls st m = s_x X d 71 [.sipush 0, .iload 2, .iload 1, .iadd, .sipush 3, .isub, .dadd, .ireturn] ls st m := by
  rw [s_j, s_g_eq, g_l71]; rfl
theorem u_71_70 {X : e_X} {d : Nat} {ls st : List Value} {m : e_M} : s_j X d 71 70 ls st m = s_x X d 71 [.iload 2, .sipush 2, .idiv, .ireturn] ls st m := by
  rw [s_j, s_g_eq, g_l71]; rfl
theorem u_71_74 {X : e_X} {d : Nat} {ls st : List Value} {m : e_M} : s_j X d 71 74 ls st m = s_x X d 71 [.iload 2, .sipush 2, .idiv, .sipush 2, .imul, .ireturn] ls st m := by
  rw [s_j, s_g_eq, g_l71]; rfl
theorem u_71_80 {X : e_X} {d : Nat} {ls st : List Value} {m : e_M} : s_j X d 71 80 ls st m = s_x X d 71 [.iload 2, .ireturn] ls st m := by
  rw [s_j, s_g_eq, g_l71]; rfl
/-- T.wouldSit -/
theorem g_l72 (l : Nat) : g_P 72 l = (g_c72.lookup l).getD [] := rfl
theorem v_72_1 {X : e_X} {d : Nat} {a1 : Int32} {I J : Nat → Int → Int} : s_S X (d + 1) 72 [.ref 1, .int a1] (mm I J) = s_j X d 72 0 [.ref 1, .int a1] [] (mm I J) := s_S_in rfl rfl
theorem u_72_0 {X : e_X} {d : Nat} {ls st : List Value} {m : e_M} : s_j X d 72 0 ls st m = s_x X d 72 [.aload 0, .iload 1, .invokeinterface 70 2, .ifCond .ne 36, .aload 0, .iload 1, .invokeinterface 71 2, .aload 0, .getfield 526, .aload 0, .checkcast 517, .aload 0, .checkcast 515, .iload 1, .iaload, .iaload, .iadd, .if_icmp .gt 36, .sipush 1, .goto 37] ls st m := by
  rw [s_j, s_g_eq, g_l72]; rfl
theorem u_72_36 {X : e_X} {d : Nat} {ls st : List Value} {m : e_M} : s_j X d 72 36 ls st m = s_x X d 72 [.sipush 0, .jsr 37] ls st m := by
  rw [s_j, s_g_eq, g_l72]; rfl
theorem u_72_37 {X : e_X} {d : Nat} {ls st : List Value} {m : e_M} : s_j X d 72 37 ls st m = s_x X d 72 [.areturn] ls st m := by
  rw [s_j, s_g_eq, g_l72]; rfl
/-- T.willOf -/
theorem g_l73 (l : Nat) : g_P 73 l = (g_c73.lookup l).getD [] := rfl
theorem v_73_1 {X : e_X} {d : Nat} {a1 : Int32} {I J : Nat → Int → Int} : s_S X (d + 1) 73 [.ref 1, .int a1] (mm I J) = s_j X d 73 0 [.ref 1, .int a1] [] (mm I J) := s_S_in rfl rfl
theorem u_73_0 {X : e_X} {d : Nat} {ls st : List Value} {m : e_M} : s_j X d 73 0 ls st m = s_x X d 73 [.aload 0, .checkcast 519, .checkcast 68, .sipush 0, .aload 0, .getfield 523, .iastore, .aload 0, .checkcast 519, .checkcast 68, .sipush 1, .aload 0, .checkcast 514, .iload 1, .iaload, .iastore, .aload 0, .checkcast 519, .checkcast 68, .sipush 2, .aload 0, .iload 1, .invokeinterface 71 2, .iastore, .aload 0, .checkcast 519, .checkcast 68, .sipush 3, .aload 0, .getfield 526, .iastore, .aload 0, .checkcast 519, .checkcast 68, .sipush 4, .iload 1, .iastore, .aload 0, .checkcast 519, .aload 0, .checkcast 512, .iload 1, .iaload, .invokeinterface 9 2, .ireturn] ls st m := by
  rw [s_j, s_g_eq, g_l73]; rfl
/-- T.putSeated -/
theorem g_l74 (l : Nat) : g_P 74 l = (g_c74.lookup l).getD [] := rfl
theorem v_74_1 {X : e_X} {d : Nat} {a1 : Int32} {a2 : Int32} {I J : Nat → Int → Int} : s_S X (d + 1) 74 [.ref 1, .int a1, .int a2] (mm I J) = s_j X d 74 0 [.ref 1, .int a1, .int a2, .retAddr 0] [] (mm I J) := s_S_in rfl rfl
theorem u_74_0 {X : e_X} {d : Nat} {ls st : List Value} {m : e_M} : s_j X d 74 0 ls st m = s_x X d 74 [.aload 0, .getfield 522, .iload 1, .ishr, .sipush 1, .iand, .istore 3, .aload 0, .iload 2, .ifCond .eq 25, .aload 0, .getfield 522, .sipush 1, .iload 1, .ishl, .ior, .goto 35] ls st m := by
  rw [s_j, s_g_eq, g_l74]; rfl
theorem u_74_25 {X : e_X} {d : Nat} {ls st : List Value} {m : e_M} : s_j X d 74 25 ls st m = s_x X d 74 [.aload 0, .getfield 522, .sipush 1, .iload 1, .ishl, .sipush (-1), .ixor, .iand, .jsr 35] ls st m := by
  rw [s_j, s_g_eq, g_l74]; rfl
theorem u_74_35 {X : e_X} {d : Nat} {ls st : List Value} {m : e_M} : s_j X d 74 35 ls st m = s_x X d 74 [.putfield 522, .iload 3, .ireturn] ls st m := by
  rw [s_j, s_g_eq, g_l74]; rfl
/-- T.beginAnew -/
theorem g_l75 (l : Nat) : g_P 75 l = (g_c75.lookup l).getD [] := rfl
theorem v_75_1 {X : e_X} {d : Nat}  {I J : Nat → Int → Int} : s_S X (d + 1) 75 [.ref 1] (mm I J) = s_j X d 75 0 [.ref 1] [] (mm I J) := s_S_in rfl rfl
theorem u_75_0 {X : e_X} {d : Nat} {ls st : List Value} {m : e_M} : s_j X d 75 0 ls st m = s_x X d 75 [.aload 0, .sipush 0, .putfield 523, .aload 0, .sipush 0, .putfield 525, .aload 0, .sipush 5, .putfield 526, .aload 0, .sipush 0, .putfield 527, .aload 0, .sipush 0, .putfield 522, .return_] ls st m := by
  rw [s_j, s_g_eq, g_l75]; rfl
/-- T.isOver -/
theorem g_l76 (l : Nat) : g_P 76 l = (g_c76.lookup l).getD [] := rfl
theorem v_76_1 {X : e_X} {d : Nat}  {I J : Nat → Int → Int} : s_S X (d + 1) 76 [.ref 1] (mm I J) = s_j X d 76 0 [.ref 1] [] (mm I J) := s_S_in rfl rfl
theorem u_76_0 {X : e_X} {d : Nat} {ls st : List Value} {m : e_M} : s_j X d 76 0 ls st m = s_x X d 76 [.aload 0, .getfield 523, .aload 0, .getfield 524, .if_icmp .lt 15, .sipush 1, .goto 16] ls st m := by
  rw [s_j, s_g_eq, g_l76]; rfl
theorem u_76_15 {X : e_X} {d : Nat} {ls st : List Value} {m : e_M} : s_j X d 76 15 ls st m = s_x X d 76 [.sipush 0, .jsr 16] ls st m := by
  rw [s_j, s_g_eq, g_l76]; rfl
theorem u_76_16 {X : e_X} {d : Nat} {ls st : List Value} {m : e_M} : s_j X d 76 16 ls st m = s_x X d 76 [.areturn] ls st m := by
  rw [s_j, s_g_eq, g_l76]; rfl
/-- T.newsIn -/
theorem g_l77 (l : Nat) : g_P 77 l = (g_c77.lookup l).getD [] := rfl
theorem v_77_1 {X : e_X} {d : Nat} {a1 : Int32} {I J : Nat → Int → Int} : s_S X (d + 1) 77 [.ref 1, .int a1] (mm I J) = s_j X d 77 0 [.ref 1, .int a1] [] (mm I J) := s_S_in rfl rfl
theorem u_77_0 {X : e_X} {d : Nat} {ls st : List Value} {m : e_M} : s_j X d 77 0 ls st m = s_x X d 77 [.iload 1, .sipush 0, .sipush 15, .invokeinterface 109 3, .ifCond .eq 14, .sipush 0, .goto 20] ls st m := by
  rw [s_j, s_g_eq, g_l77]; rfl
theorem u_77_14 {X : e_X} {d : Nat} {ls st : List Value} {m : e_M} : s_j X d 77 14 ls st m = s_x X d 77 [.aload 0, .checkcast 518, .iload 1, .iaload, .jsr 20] ls st m := by
  rw [s_j, s_g_eq, g_l77]; rfl
theorem u_77_20 {X : e_X} {d : Nat} {ls st : List Value} {m : e_M} : s_j X d 77 20 ls st m = s_x X d 77 [.ireturn] ls st m := by
  rw [s_j, s_g_eq, g_l77]; rfl
/-- T.passAndScore -/
theorem g_l78 (l : Nat) : g_P 78 l = (g_c78.lookup l).getD [] := rfl
theorem v_78_1 {X : e_X} {d : Nat} {a1 : Int32} {I J : Nat → Int → Int} : s_S X (d + 1) 78 [.ref 1, .int a1] (mm I J) = s_j X d 78 0 [.ref 1, .int a1, .retAddr 0] [] (mm I J) := s_S_in rfl rfl
theorem u_78_0 {X : e_X} {d : Nat} {ls st : List Value} {m : e_M} : s_j X d 78 0 ls st m = s_x X d 78 [.aload 0, .iload 1, .invokeinterface 79 2, .istore 2, .aload 0, .dup, .getfield 525, .iload 2, .iadd, .putfield 525, .iload 2, .ireturn] ls st m := by
  rw [s_j, s_g_eq, g_l78]; rfl
/-- T.passYear -/
theorem g_l79 (l : Nat) : g_P 79 l = (g_c79.lookup l).getD [] := rfl
theorem v_79_1 {X : e_X} {d : Nat} {a1 : Int32} {I J : Nat → Int → Int} : s_S X (d + 1) 79 [.ref 1, .int a1] (mm I J) = s_j X d 79 0 [.ref 1, .int a1, .retAddr 0, .retAddr 0, .retAddr 0, .retAddr 0] [] (mm I J) := s_S_in rfl rfl
theorem u_79_0 {X : e_X} {d : Nat} {ls st : List Value} {m : e_M} : s_j X d 79 0 ls st m = s_x X d 79 [.aload 0, .aload 0, .aload 0, .getfield 523, .invokeinterface 77 2, .aload 0, .getfield 526, .invokeinterface 126 2, .putfield 526, .iload 1, .sipush (-1), .if_icmp .ne 31, .aload 0, .invokeinterface 80 1, .goto 34] ls st m := by
  rw [s_j, s_g_eq, g_l79]; rfl
theorem u_79_31 {X : e_X} {d : Nat} {ls st : List Value} {m : e_M} : s_j X d 79 31 ls st m = s_x X d 79 [.iload 1, .sipush 1, .isub, .jsr 34] ls st m := by
  rw [s_j, s_g_eq, g_l79]; rfl
theorem u_79_34 {X : e_X} {d : Nat} {ls st : List Value} {m : e_M} : s_j X d 79 34 ls st m = s_x X d 79 [.istore 2, .aload 0, .iload 2, .invokeinterface 69 2, .ifCond .eq 51, .aload 0, .iload 2, .invokeinterface 73 2, .goto 52] ls st m := by
  rw [s_j, s_g_eq, g_l79]; rfl
theorem u_79_51 {X : e_X} {d : Nat} {ls st : List Value} {m : e_M} : s_j X d 79 51 ls st m = s_x X d 79 [.sipush 1, .jsr 52] ls st m := by
  rw [s_j, s_g_eq, g_l79]; rfl
theorem u_79_52 {X : e_X} {d : Nat} {ls st : List Value} {m : e_M} : s_j X d 79 52 ls st m = s_x X d 79 [.istore 3, .sipush 0, .istore 4, .iload 3, .ifCond .ne 70, .aload 0, .iload 2, .invokeinterface 81 2, .istore 4, .goto 80] ls st m := by
  rw [s_j, s_g_eq, g_l79]; rfl
theorem u_79_70 {X : e_X} {d : Nat} {ls st : List Value} {m : e_M} : s_j X d 79 70 ls st m = s_x X d 79 [.iload 3, .sipush 2, .if_icmp .ne 80, .aload 0, .iload 2, .invokeinterface 82 2, .jsr 80] ls st m := by
  rw [s_j, s_g_eq, g_l79]; rfl
theorem u_79_80 {X : e_X} {d : Nat} {ls st : List Value} {m : e_M} : s_j X d 79 80 ls st m = s_x X d 79 [.aload 0, .aload 0, .getfield 522, .invokeinterface 83 2, .aload 0, .getfield 527, .aload 0, .getfield 526, .invokeinterface 128 3, .istore 5, .aload 0, .dup, .getfield 527, .iload 5, .iadd, .putfield 527, .aload 0, .dup, .getfield 523, .sipush 1, .iadd, .putfield 523, .iload 4, .sipush 2, .iload 5, .imul, .iadd, .ireturn] ls st m := by
  rw [s_j, s_g_eq, g_l79]; rfl
/-- T.leastWilling -/
theorem g_l80 (l : Nat) : g_P 80 l = (g_c80.lookup l).getD [] := rfl
theorem v_80_1 {X : e_X} {d : Nat}  {I J : Nat → Int → Int} : s_S X (d + 1) 80 [.ref 1] (mm I J) = s_j X d 80 0 [.ref 1, .retAddr 0] [] (mm I J) := s_S_in rfl rfl
theorem u_80_0 {X : e_X} {d : Nat} {ls st : List Value} {m : e_M} : s_j X d 80 0 ls st m = s_x X d 80 [.sipush 0, .istore 1, .jsr 2] ls st m := by
  rw [s_j, s_g_eq, g_l80]; rfl
theorem u_80_2 {X : e_X} {d : Nat} {ls st : List Value} {m : e_M} : s_j X d 80 2 ls st m = s_x X d 80 [.iload 1, .aload 0, .getfield 521, .if_icmp .ge 26, .aload 0, .iload 1, .invokeinterface 72 2, .ifCond .eq 20, .iload 1, .ireturn] ls st m := by
  rw [s_j, s_g_eq, g_l80]; rfl
theorem u_80_20 {X : e_X} {d : Nat} {ls st : List Value} {m : e_M} : s_j X d 80 20 ls st m = s_x X d 80 [.iinc 1 1, .goto 2] ls st m := by
  rw [s_j, s_g_eq, g_l80]; rfl
theorem u_80_26 {X : e_X} {d : Nat} {ls st : List Value} {m : e_M} : s_j X d 80 26 ls st m = s_x X d 80 [.sipush (-3), .ireturn] ls st m := by
  rw [s_j, s_g_eq, g_l80]; rfl
/-- T.sitDown -/
theorem g_l81 (l : Nat) : g_P 81 l = (g_c81.lookup l).getD [] := rfl
theorem v_81_1 {X : e_X} {d : Nat} {a1 : Int32} {I J : Nat → Int → Int} : s_S X (d + 1) 81 [.ref 1, .int a1] (mm I J) = s_j X d 81 0 [.ref 1, .int a1] [] (mm I J) := s_S_in rfl rfl
theorem u_81_0 {X : e_X} {d : Nat} {ls st : List Value} {m : e_M} : s_j X d 81 0 ls st m = s_x X d 81 [.aload 0, .iload 1, .invokeinterface 70 2, .ifCond .eq 10, .sipush 0, .ireturn] ls st m := by
  rw [s_j, s_g_eq, g_l81]; rfl
theorem u_81_10 {X : e_X} {d : Nat} {ls st : List Value} {m : e_M} : s_j X d 81 10 ls st m = s_x X d 81 [.aload 0, .iload 1, .invokeinterface 72 2, .ifCond .ne 34, .aload 0, .sipush 0, .aload 0, .getfield 526, .sipush 1, .isub, .dadd, .putfield 526, .sipush 0, .ireturn] ls st m := by
  rw [s_j, s_g_eq, g_l81]; rfl
theorem u_81_34 {X : e_X} {d : Nat} {ls st : List Value} {m : e_M} : s_j X d 81 34 ls st m = s_x X d 81 [.aload 0, .sipush 0, .aload 0, .getfield 526, .aload 0, .iload 1, .invokeinterface 71 2, .sipush 3, .idiv, .isub, .dadd, .putfield 526, .aload 0, .iload 1, .sipush 1, .invokeinterface 74 3, .pop, .sipush 1, .ireturn] ls st m := by
  rw [s_j, s_g_eq, g_l81]; rfl
/-- T.getUp -/
theorem g_l82 (l : Nat) : g_P 82 l = (g_c82.lookup l).getD [] := rfl
theorem v_82_1 {X : e_X} {d : Nat} {a1 : Int32} {I J : Nat → Int → Int} : s_S X (d + 1) 82 [.ref 1, .int a1] (mm I J) = s_j X d 82 0 [.ref 1, .int a1] [] (mm I J) := s_S_in rfl rfl
theorem u_82_0 {X : e_X} {d : Nat} {ls st : List Value} {m : e_M} : s_j X d 82 0 ls st m = s_x X d 82 [.aload 0, .iload 1, .invokeinterface 70 2, .ifCond .ne 9, .return_] ls st m := by
  rw [s_j, s_g_eq, g_l82]; rfl
theorem u_82_9 {X : e_X} {d : Nat} {ls st : List Value} {m : e_M} : s_j X d 82 9 ls st m = s_x X d 82 [.aload 0, .iload 1, .sipush 0, .invokeinterface 74 3, .pop, .aload 0, .sipush 9, .aload 0, .getfield 526, .sipush 1, .iadd, .dsub, .putfield 526, .return_] ls st m := by
  rw [s_j, s_g_eq, g_l82]; rfl
/-- T.placesSpanned -/
theorem g_l83 (l : Nat) : g_P 83 l = (g_c83.lookup l).getD [] := rfl
theorem v_83_1 {X : e_X} {d : Nat} {a1 : Int32} {I J : Nat → Int → Int} : s_S X (d + 1) 83 [.ref 1, .int a1] (mm I J) = s_j X d 83 0 [.ref 1, .int a1, .retAddr 0, .retAddr 0, .retAddr 0] [] (mm I J) := s_S_in rfl rfl
theorem u_83_0 {X : e_X} {d : Nat} {ls st : List Value} {m : e_M} : s_j X d 83 0 ls st m = s_x X d 83 [.goto_w 0, .lstore 2, .sipush 0, .istore 4, .jsr 5] ls st m := by
  rw [s_j, s_g_eq, g_l83]; rfl
theorem u_83_5 {X : e_X} {d : Nat} {ls st : List Value} {m : e_M} : s_j X d 83 5 ls st m = s_x X d 83 [.iload 4, .aload 0, .getfield 521, .if_icmp .ge 64, .iload 1, .iload 4, .ishr, .sipush 1, .iand, .sipush 1, .if_icmp .ne 58, .lload 2, .aload 0, .checkcast 513, .iload 4, .iaload, .aload 0, .checkcast 512, .iload 4, .iaload, .aload 0, .checkcast 514, .iload 4, .iaload, .aload 0, .getfield 523, .invokeinterface 111 3, .invokeinterface 127 2, .lor, .lstore 2, .jsr 58] ls st m := by
  rw [s_j, s_g_eq, g_l83]; rfl
theorem u_83_58 {X : e_X} {d : Nat} {ls st : List Value} {m : e_M} : s_j X d 83 58 ls st m = s_x X d 83 [.iinc 4 1, .goto 5] ls st m := by
  rw [s_j, s_g_eq, g_l83]; rfl
theorem u_83_64 {X : e_X} {d : Nat} {ls st : List Value} {m : e_M} : s_j X d 83 64 ls st m = s_x X d 83 [.lload 2, .lreturn] ls st m := by
  rw [s_j, s_g_eq, g_l83]; rfl
/-- T.restWorth -/
theorem g_l84 (l : Nat) : g_P 84 l = (g_c84.lookup l).getD [] := rfl
theorem v_84_1 {X : e_X} {d : Nat} {a1 : Int32} {I J : Nat → Int → Int} : s_S X (d + 1) 84 [.ref 1, .int a1] (mm I J) = s_j X d 84 0 [.ref 1, .int a1, .retAddr 0, .retAddr 0, .retAddr 0, .retAddr 0] [] (mm I J) := s_S_in rfl rfl
theorem u_84_0 {X : e_X} {d : Nat} {ls st : List Value} {m : e_M} : s_j X d 84 0 ls st m = s_x X d 84 [.aload 0, .invokeinterface 85 1, .istore 2, .aload 0, .iload 1, .invokeinterface 86 2, .istore 3, .sipush 0, .istore 4, .sipush 0, .istore 5, .jsr 17] ls st m := by
  rw [s_j, s_g_eq, g_l84]; rfl
theorem u_84_17 {X : e_X} {d : Nat} {ls st : List Value} {m : e_M} : s_j X d 84 17 ls st m = s_x X d 84 [.iload 5, .iload 3, .if_icmp .ge 39, .iload 4, .aload 0, .sipush (-1), .invokeinterface 79 2, .iadd, .istore 4, .iinc 5 1, .goto 17] ls st m := by
  rw [s_j, s_g_eq, g_l84]; rfl
theorem u_84_39 {X : e_X} {d : Nat} {ls st : List Value} {m : e_M} : s_j X d 84 39 ls st m = s_x X d 84 [.aload 0, .iload 2, .invokeinterface 87 2, .iload 4, .ireturn] ls st m := by
  rw [s_j, s_g_eq, g_l84]; rfl
/-- T.moment -/
theorem g_l85 (l : Nat) : g_P 85 l = (g_c85.lookup l).getD [] := rfl
theorem v_85_1 {X : e_X} {d : Nat}  {I J : Nat → Int → Int} : s_S X (d + 1) 85 [.ref 1] (mm I J) = s_j X d 85 0 [.ref 1] [] (mm I J) := s_S_in rfl rfl
theorem u_85_0 {X : e_X} {d : Nat} {ls st : List Value} {m : e_M} : s_j X d 85 0 ls st m = s_x X d 85 [.aload 0, .getfield 523, .aload 0, .getfield 526, .sipush 5, .ishl, .ior, .aload 0, .getfield 527, .sipush 9, .ishl, .ior, .aload 0, .getfield 522, .sipush 15, .ishl, .ior, .ireturn] ls st m := by
  rw [s_j, s_g_eq, g_l85]; rfl
/-- T.yearsYet -/
theorem g_l86 (l : Nat) : g_P 86 l = (g_c86.lookup l).getD [] := rfl
theorem v_86_1 {X : e_X} {d : Nat} {a1 : Int32} {I J : Nat → Int → Int} : s_S X (d + 1) 86 [.ref 1, .int a1] (mm I J) = s_j X d 86 0 [.ref 1, .int a1] [] (mm I J) := s_S_in rfl rfl
theorem u_86_0 {X : e_X} {d : Nat} {ls st : List Value} {m : e_M} : s_j X d 86 0 ls st m = s_x X d 86 [.sipush 0, .iload 1, .aload 0, .getfield 524, .aload 0, .getfield 523, .isub, .dsub, .dadd, .ireturn] ls st m := by
  rw [s_j, s_g_eq, g_l86]; rfl
/-- T.backTo -/
theorem g_l87 (l : Nat) : g_P 87 l = (g_c87.lookup l).getD [] := rfl
theorem v_87_1 {X : e_X} {d : Nat} {a1 : Int32} {I J : Nat → Int → Int} : s_S X (d + 1) 87 [.ref 1, .int a1] (mm I J) = s_j X d 87 0 [.ref 1, .int a1] [] (mm I J) := s_S_in rfl rfl
theorem u_87_0 {X : e_X} {d : Nat} {ls st : List Value} {m : e_M} : s_j X d 87 0 ls st m = s_x X d 87 [.aload 0, .iload 1, .sipush 31, .iand, .putfield 523, .aload 0, .iload 1, .sipush 5, .ishr, .sipush 15, .iand, .putfield 526, .aload 0, .iload 1, .sipush 9, .ishr, .sipush 63, .iand, .putfield 527, .aload 0, .iload 1, .sipush 15, .ishr, .sipush 63, .iand, .putfield 522, .return_] ls st m := by
  rw [s_j, s_g_eq, g_l87]; rfl
/-- T.restUntil -/
theorem g_l88 (l : Nat) : g_P 88 l = (g_c88.lookup l).getD [] := rfl
theorem v_88_1 {X : e_X} {d : Nat} {a1 : Int32} {a2 : Int32} {I J : Nat → Int → Int} : s_S X (d + 1) 88 [.ref 1, .int a1, .int a2] (mm I J) = s_j X d 88 0 [.ref 1, .int a1, .int a2, .retAddr 0, .retAddr 0, .retAddr 0, .retAddr 0] [] (mm I J) := s_S_in rfl rfl
theorem u_88_0 {X : e_X} {d : Nat} {ls st : List Value} {m : e_M} : s_j X d 88 0 ls st m = s_x X d 88 [.aload 0, .invokeinterface 85 1, .istore 3, .aload 0, .sipush 16, .invokeinterface 86 2, .istore 4, .sipush (-3), .istore 5, .sipush 0, .istore 6, .jsr 20] ls st m := by
  rw [s_j, s_g_eq, g_l88]; rfl
theorem u_88_20 {X : e_X} {d : Nat} {ls st : List Value} {m : e_M} : s_j X d 88 20 ls st m = s_x X d 88 [.iload 6, .iload 4, .if_icmp .ge 72, .iload 5, .sipush (-3), .if_icmp .ne 72, .aload 0, .sipush (-1), .invokeinterface 79 2, .pop, .aload 0, .getfield 522, .iload 1, .iand, .iload 1, .if_icmp .ne 66, .aload 0, .getfield 527, .iload 2, .if_icmp .lt 66, .aload 0, .getfield 523, .sipush 1, .isub, .istore 5, .jsr 66] ls st m := by
  rw [s_j, s_g_eq, g_l88]; rfl
theorem u_88_66 {X : e_X} {d : Nat} {ls st : List Value} {m : e_M} : s_j X d 88 66 ls st m = s_x X d 88 [.iinc 6 1, .goto 20] ls st m := by
  rw [s_j, s_g_eq, g_l88]; rfl
theorem u_88_72 {X : e_X} {d : Nat} {ls st : List Value} {m : e_M} : s_j X d 88 72 ls st m = s_x X d 88 [.aload 0, .iload 3, .invokeinterface 87 2, .iload 5, .ireturn] ls st m := by
  rw [s_j, s_g_eq, g_l88]; rfl
/-- T.bestValue -/
theorem g_l89 (l : Nat) : g_P 89 l = (g_c89.lookup l).getD [] := rfl
theorem v_89_1 {X : e_X} {d : Nat} {a1 : Nat} {a2 : Int32} {a3 : Int32} {I J : Nat → Int → Int} : s_S X (d + 1) 89 [.ref 1, .ref a1, .int a2, .int a3] (mm I J) = s_j X d 89 0 [.ref 1, .ref a1, .int a2, .int a3, .retAddr 0, .retAddr 0, .retAddr 0, .retAddr 0, .retAddr 0] [] (mm I J) := s_S_in rfl rfl
theorem u_89_0 {X : e_X} {d : Nat} {ls st : List Value} {m : e_M} : s_j X d 89 0 ls st m = s_x X d 89 [.aload 1, .iload 2, .iaload, .istore 4, .sipush 0, .istore 5, .sipush (-1), .istore 6, .sipush 0, .istore 7, .jsr 14] ls st m := by
  rw [s_j, s_g_eq, g_l89]; rfl
theorem u_89_14 {X : e_X} {d : Nat} {ls st : List Value} {m : e_M} : s_j X d 89 14 ls st m = s_x X d 89 [.iload 7, .iload 3, .if_icmp .gt 54, .aload 1, .iload 2, .iload 7, .iastore, .aload 0, .sipush 16, .invokeinterface 84 2, .istore 8, .iload 8, .iload 6, .if_icmp .le 48, .iload 8, .istore 6, .iload 7, .istore 5, .jsr 48] ls st m := by
  rw [s_j, s_g_eq, g_l89]; rfl
theorem u_89_48 {X : e_X} {d : Nat} {ls st : List Value} {m : e_M} : s_j X d 89 48 ls st m = s_x X d 89 [.iinc 7 1, .goto 14] ls st m := by
  rw [s_j, s_g_eq, g_l89]; rfl
theorem u_89_54 {X : e_X} {d : Nat} {ls st : List Value} {m : e_M} : s_j X d 89 54 ls st m = s_x X d 89 [.aload 1, .iload 2, .iload 4, .iastore, .iload 5, .ireturn] ls st m := by
  rw [s_j, s_g_eq, g_l89]; rfl
/-- T.firstUnspanned -/
theorem g_l90 (l : Nat) : g_P 90 l = (g_c90.lookup l).getD [] := rfl
theorem v_90_1 {X : e_X} {d : Nat}  {I J : Nat → Int → Int} : s_S X (d + 1) 90 [.ref 1] (mm I J) = s_j X d 90 0 [.ref 1, .retAddr 0, .retAddr 0, .retAddr 0] [] (mm I J) := s_S_in rfl rfl
theorem u_90_0 {X : e_X} {d : Nat} {ls st : List Value} {m : e_M} : s_j X d 90 0 ls st m = s_x X d 90 [.aload 0, .aload 0, .invokeinterface 91 1, .invokeinterface 83 2, .lstore 1, .aload 0, .getfield 527, .istore 3, .jsr 14] ls st m := by
  rw [s_j, s_g_eq, g_l90]; rfl
theorem u_90_14 {X : e_X} {d : Nat} {ls st : List Value} {m : e_M} : s_j X d 90 14 ls st m = s_x X d 90 [.iload 3, .sipush 39, .if_icmp .gt 38, .lload 1, .iload 3, .lushr, .goto_w 1, .land, .goto_w 0, .lcmp, .ifCond .ne 32, .iload 3, .ireturn] ls st m := by
  rw [s_j, s_g_eq, g_l90]; rfl
theorem u_90_32 {X : e_X} {d : Nat} {ls st : List Value} {m : e_M} : s_j X d 90 32 ls st m = s_x X d 90 [.iinc 3 1, .goto 14] ls st m := by
  rw [s_j, s_g_eq, g_l90]; rfl
theorem u_90_38 {X : e_X} {d : Nat} {ls st : List Value} {m : e_M} : s_j X d 90 38 ls st m = s_x X d 90 [.sipush (-3), .ireturn] ls st m := by
  rw [s_j, s_g_eq, g_l90]; rfl
/-- T.allPieces -/
theorem g_l91 (l : Nat) : g_P 91 l = (g_c91.lookup l).getD [] := rfl
theorem v_91_1 {X : e_X} {d : Nat}  {I J : Nat → Int → Int} : s_S X (d + 1) 91 [.ref 1] (mm I J) = s_j X d 91 0 [.ref 1] [] (mm I J) := s_S_in rfl rfl
theorem u_91_0 {X : e_X} {d : Nat} {ls st : List Value} {m : e_M} : s_j X d 91 0 ls st m = s_x X d 91 [.sipush 1, .aload 0, .getfield 521, .ishl, .sipush 1, .isub, .ireturn] ls st m := by
  rw [s_j, s_g_eq, g_l91]; rfl
/-- T.countNotThere -/
theorem g_l92 (l : Nat) : g_P 92 l = (g_c92.lookup l).getD [] := rfl
theorem v_92_1 {X : e_X} {d : Nat}  {I J : Nat → Int → Int} : s_S X (d + 1) 92 [.ref 1] (mm I J) = s_j X d 92 0 [.ref 1, .retAddr 0, .retAddr 0, .retAddr 0, .retAddr 0] [] (mm I J) := s_S_in rfl rfl
theorem u_92_0 {X : e_X} {d : Nat} {ls st : List Value} {m : e_M} : s_j X d 92 0 ls st m = s_x X d 92 [.aload 0, .aload 0, .getfield 522, .invokeinterface 83 2, .lstore 1, .sipush 0, .istore 3, .sipush 0, .istore 4, .jsr 14] ls st m := by
  rw [s_j, s_g_eq, g_l92]; rfl
theorem u_92_14 {X : e_X} {d : Nat} {ls st : List Value} {m : e_M} : s_j X d 92 14 ls st m = s_x X d 92 [.iload 4, .sipush 39, .if_icmp .gt 41, .lload 1, .iload 4, .lushr, .goto_w 1, .land, .goto_w 0, .lcmp, .ifCond .ne 35, .iinc 3 1, .jsr 35] ls st m := by
  rw [s_j, s_g_eq, g_l92]; rfl
theorem u_92_35 {X : e_X} {d : Nat} {ls st : List Value} {m : e_M} : s_j X d 92 35 ls st m = s_x X d 92 [.iinc 4 1, .goto 14] ls st m := by
  rw [s_j, s_g_eq, g_l92]; rfl
theorem u_92_41 {X : e_X} {d : Nat} {ls st : List Value} {m : e_M} : s_j X d 92 41 ls st m = s_x X d 92 [.iload 3, .ireturn] ls st m := by
  rw [s_j, s_g_eq, g_l92]; rfl
/-- T.countBranches -/
theorem g_l93 (l : Nat) : g_P 93 l = (g_c93.lookup l).getD [] := rfl
theorem v_93_1 {X : e_X} {d : Nat}  {I J : Nat → Int → Int} : s_S X (d + 1) 93 [.ref 1] (mm I J) = s_j X d 93 0 [.ref 1, .retAddr 0, .retAddr 0] [] (mm I J) := s_S_in rfl rfl
theorem u_93_0 {X : e_X} {d : Nat} {ls st : List Value} {m : e_M} : s_j X d 93 0 ls st m = s_x X d 93 [.sipush 0, .istore 1, .sipush 0, .istore 2, .jsr 4] ls st m := by
  rw [s_j, s_g_eq, g_l93]; rfl
theorem u_93_4 {X : e_X} {d : Nat} {ls st : List Value} {m : e_M} : s_j X d 93 4 ls st m = s_x X d 93 [.iload 2, .aload 0, .getfield 521, .if_icmp .ge 33, .aload 0, .iload 2, .invokeinterface 94 2, .invokeinterface 136 1, .iload 2, .if_icmp .ne 27, .iinc 1 1, .jsr 27] ls st m := by
  rw [s_j, s_g_eq, g_l93]; rfl
theorem u_93_27 {X : e_X} {d : Nat} {ls st : List Value} {m : e_M} : s_j X d 93 27 ls st m = s_x X d 93 [.iinc 2 1, .goto 4] ls st m := by
  rw [s_j, s_g_eq, g_l93]; rfl
theorem u_93_33 {X : e_X} {d : Nat} {ls st : List Value} {m : e_M} : s_j X d 93 33 ls st m = s_x X d 93 [.iload 1, .ireturn] ls st m := by
  rw [s_j, s_g_eq, g_l93]; rfl
/-- T.branchOf -/
theorem g_l94 (l : Nat) : g_P 94 l = (g_c94.lookup l).getD [] := rfl
theorem v_94_1 {X : e_X} {d : Nat} {a1 : Int32} {I J : Nat → Int → Int} : s_S X (d + 1) 94 [.ref 1, .int a1] (mm I J) = s_j X d 94 0 [.ref 1, .int a1, .retAddr 0, .retAddr 0] [] (mm I J) := s_S_in rfl rfl
theorem u_94_0 {X : e_X} {d : Nat} {ls st : List Value} {m : e_M} : s_j X d 94 0 ls st m = s_x X d 94 [.aload 0, .iload 1, .invokeinterface 70 2, .ifCond .eq 10, .sipush 0, .ireturn] ls st m := by
  rw [s_j, s_g_eq, g_l94]; rfl
theorem u_94_10 {X : e_X} {d : Nat} {ls st : List Value} {m : e_M} : s_j X d 94 10 ls st m = s_x X d 94 [.sipush 1, .iload 1, .ishl, .istore 2, .sipush 0, .istore 3, .jsr 16] ls st m := by
  rw [s_j, s_g_eq, g_l94]; rfl
theorem u_94_16 {X : e_X} {d : Nat} {ls st : List Value} {m : e_M} : s_j X d 94 16 ls st m = s_x X d 94 [.iload 3, .sipush 6, .if_icmp .ge 36, .iload 2, .aload 0, .iload 2, .invokeinterface 95 2, .ior, .istore 2, .iinc 3 1, .goto 16] ls st m := by
  rw [s_j, s_g_eq, g_l94]; rfl
theorem u_94_36 {X : e_X} {d : Nat} {ls st : List Value} {m : e_M} : s_j X d 94 36 ls st m = s_x X d 94 [.iload 2, .ireturn] ls st m := by
  rw [s_j, s_g_eq, g_l94]; rfl
/-- T.closeTo -/
theorem g_l95 (l : Nat) : g_P 95 l = (g_c95.lookup l).getD [] := rfl
theorem v_95_1 {X : e_X} {d : Nat} {a1 : Int32} {I J : Nat → Int → Int} : s_S X (d + 1) 95 [.ref 1, .int a1] (mm I J) = s_j X d 95 0 [.ref 1, .int a1, .retAddr 0, .retAddr 0, .retAddr 0] [] (mm I J) := s_S_in rfl rfl
theorem u_95_0 {X : e_X} {d : Nat} {ls st : List Value} {m : e_M} : s_j X d 95 0 ls st m = s_x X d 95 [.sipush 0, .istore 2, .sipush 0, .istore 3, .jsr 4] ls st m := by
  rw [s_j, s_g_eq, g_l95]; rfl
theorem u_95_4 {X : e_X} {d : Nat} {ls st : List Value} {m : e_M} : s_j X d 95 4 ls st m = s_x X d 95 [.iload 3, .aload 0, .getfield 521, .if_icmp .ge 62, .sipush 0, .istore 4, .jsr 15] ls st m := by
  rw [s_j, s_g_eq, g_l95]; rfl
theorem u_95_15 {X : e_X} {d : Nat} {ls st : List Value} {m : e_M} : s_j X d 95 15 ls st m = s_x X d 95 [.iload 4, .aload 0, .getfield 521, .if_icmp .ge 56, .iload 1, .iload 4, .ishr, .sipush 1, .iand, .sipush 1, .if_icmp .ne 50, .aload 0, .iload 4, .iload 3, .invokeinterface 96 3, .ifCond .eq 50, .iload 2, .sipush 1, .iload 3, .ishl, .ior, .istore 2, .jsr 50] ls st m := by
  rw [s_j, s_g_eq, g_l95]; rfl
theorem u_95_50 {X : e_X} {d : Nat} {ls st : List Value} {m : e_M} : s_j X d 95 50 ls st m = s_x X d 95 [.iinc 4 1, .goto 15] ls st m := by
  rw [s_j, s_g_eq, g_l95]; rfl
theorem u_95_56 {X : e_X} {d : Nat} {ls st : List Value} {m : e_M} : s_j X d 95 56 ls st m = s_x X d 95 [.iinc 3 1, .goto 4] ls st m := by
  rw [s_j, s_g_eq, g_l95]; rfl
theorem u_95_62 {X : e_X} {d : Nat} {ls st : List Value} {m : e_M} : s_j X d 95 62 ls st m = s_x X d 95 [.iload 2, .ireturn] ls st m := by
  rw [s_j, s_g_eq, g_l95]; rfl
/-- T.areClose -/
theorem g_l96 (l : Nat) : g_P 96 l = (g_c96.lookup l).getD [] := rfl
theorem v_96_1 {X : e_X} {d : Nat} {a1 : Int32} {a2 : Int32} {I J : Nat → Int → Int} : s_S X (d + 1) 96 [.ref 1, .int a1, .int a2] (mm I J) = s_j X d 96 0 [.ref 1, .int a1, .int a2] [] (mm I J) := s_S_in rfl rfl
theorem u_96_0 {X : e_X} {d : Nat} {ls st : List Value} {m : e_M} : s_j X d 96 0 ls st m = s_x X d 96 [.aload 0, .iload 1, .invokeinterface 70 2, .ifCond .ne 16, .aload 0, .iload 2, .invokeinterface 70 2, .ifCond .eq 18, .jsr 16] ls st m := by
  rw [s_j, s_g_eq, g_l96]; rfl
theorem u_96_16 {X : e_X} {d : Nat} {ls st : List Value} {m : e_M} : s_j X d 96 16 ls st m = s_x X d 96 [.sipush 0, .areturn] ls st m := by
  rw [s_j, s_g_eq, g_l96]; rfl
theorem u_96_18 {X : e_X} {d : Nat} {ls st : List Value} {m : e_M} : s_j X d 96 18 ls st m = s_x X d 96 [.aload 0, .checkcast 515, .iload 1, .iaload, .aload 0, .checkcast 515, .iload 2, .iaload, .if_icmp .eq 53, .aload 0, .checkcast 513, .iload 1, .iaload, .aload 0, .checkcast 513, .iload 2, .iaload, .isub, .dneg, .sipush 2, .if_icmp .gt 57, .jsr 53] ls st m := by
  rw [s_j, s_g_eq, g_l96]; rfl
theorem u_96_53 {X : e_X} {d : Nat} {ls st : List Value} {m : e_M} : s_j X d 96 53 ls st m = s_x X d 96 [.sipush 1, .goto 58] ls st m := by
  rw [s_j, s_g_eq, g_l96]; rfl
theorem u_96_57 {X : e_X} {d : Nat} {ls st : List Value} {m : e_M} : s_j X d 96 57 ls st m = s_x X d 96 [.sipush 0, .jsr 58] ls st m := by
  rw [s_j, s_g_eq, g_l96]; rfl
theorem u_96_58 {X : e_X} {d : Nat} {ls st : List Value} {m : e_M} : s_j X d 96 58 ls st m = s_x X d 96 [.areturn] ls st m := by
  rw [s_j, s_g_eq, g_l96]; rfl
/-- T.wayOver -/
theorem g_l97 (l : Nat) : g_P 97 l = (g_c97.lookup l).getD [] := rfl
theorem v_97_1 {X : e_X} {d : Nat} {a1 : Int32} {a2 : Int32} {I J : Nat → Int → Int} : s_S X (d + 1) 97 [.ref 1, .int a1, .int a2] (mm I J) = s_j X d 97 0 [.ref 1, .int a1, .int a2, .retAddr 0, .retAddr 0, .retAddr 0] [] (mm I J) := s_S_in rfl rfl
theorem u_97_0 {X : e_X} {d : Nat} {ls st : List Value} {m : e_M} : s_j X d 97 0 ls st m = s_x X d 97 [.sipush 40, .istore 3, .sipush (-1), .istore 4, .sipush 0, .istore 5, .jsr 9] ls st m := by
  rw [s_j, s_g_eq, g_l97]; rfl
theorem u_97_9 {X : e_X} {d : Nat} {ls st : List Value} {m : e_M} : s_j X d 97 9 ls st m = s_x X d 97 [.iload 5, .aload 0, .getfield 521, .if_icmp .ge 60, .iload 2, .iload 5, .ishr, .sipush 1, .iand, .sipush 1, .if_icmp .ne 54, .iload 3, .aload 0, .checkcast 513, .iload 5, .iaload, .dsub, .istore 3, .iload 4, .aload 0, .checkcast 513, .iload 5, .iaload, .dadd, .istore 4, .jsr 54] ls st m := by
  rw [s_j, s_g_eq, g_l97]; rfl
theorem u_97_54 {X : e_X} {d : Nat} {ls st : List Value} {m : e_M} : s_j X d 97 54 ls st m = s_x X d 97 [.iinc 5 1, .goto 9] ls st m := by
  rw [s_j, s_g_eq, g_l97]; rfl
theorem u_97_60 {X : e_X} {d : Nat} {ls st : List Value} {m : e_M} : s_j X d 97 60 ls st m = s_x X d 97 [.iload 4, .ifCond .ge 67, .sipush 0, .ireturn] ls st m := by
  rw [s_j, s_g_eq, g_l97]; rfl
theorem u_97_67 {X : e_X} {d : Nat} {ls st : List Value} {m : e_M} : s_j X d 97 67 ls st m = s_x X d 97 [.iload 4, .iload 3, .isub, .iload 1, .iload 3, .isub, .dneg, .iload 1, .iload 4, .isub, .dneg, .dsub, .iadd, .ireturn] ls st m := by
  rw [s_j, s_g_eq, g_l97]; rfl
/-- T.firstFetched -/
theorem g_l98 (l : Nat) : g_P 98 l = (g_c98.lookup l).getD [] := rfl
theorem v_98_1 {X : e_X} {d : Nat} {a1 : Int32} {a2 : Int32} {I J : Nat → Int → Int} : s_S X (d + 1) 98 [.ref 1, .int a1, .int a2] (mm I J) = s_j X d 98 0 [.ref 1, .int a1, .int a2, .retAddr 0, .retAddr 0, .retAddr 0] [] (mm I J) := s_S_in rfl rfl
theorem u_98_0 {X : e_X} {d : Nat} {ls st : List Value} {m : e_M} : s_j X d 98 0 ls st m = s_x X d 98 [.aload 0, .iload 1, .iload 2, .invokeinterface 97 3, .istore 3, .sipush 0, .istore 4, .jsr 10] ls st m := by
  rw [s_j, s_g_eq, g_l98]; rfl
theorem u_98_10 {X : e_X} {d : Nat} {ls st : List Value} {m : e_M} : s_j X d 98 10 ls st m = s_x X d 98 [.iload 4, .aload 0, .getfield 521, .if_icmp .ge 78, .iload 2, .iload 4, .ishr, .sipush 1, .iand, .sipush 1, .if_icmp .ne 72, .iload 1, .aload 0, .checkcast 513, .iload 4, .iaload, .isub, .dneg, .aload 0, .aload 0, .checkcast 513, .iload 4, .iaload, .iload 2, .sipush 1, .iload 4, .ishl, .sipush (-1), .ixor, .iand, .invokeinterface 97 3, .iadd, .istore 5, .iload 5, .iload 3, .if_icmp .ne 72, .iload 4, .ireturn] ls st m := by
  rw [s_j, s_g_eq, g_l98]; rfl
theorem u_98_72 {X : e_X} {d : Nat} {ls st : List Value} {m : e_M} : s_j X d 98 72 ls st m = s_x X d 98 [.iinc 4 1, .goto 10] ls st m := by
  rw [s_j, s_g_eq, g_l98]; rfl
theorem u_98_78 {X : e_X} {d : Nat} {ls st : List Value} {m : e_M} : s_j X d 98 78 ls st m = s_x X d 98 [.sipush (-3), .ireturn] ls st m := by
  rw [s_j, s_g_eq, g_l98]; rfl
/-- T.countFitting -/
theorem g_l99 (l : Nat) : g_P 99 l = (g_c99.lookup l).getD [] := rfl
theorem v_99_1 {X : e_X} {d : Nat}  {I J : Nat → Int → Int} : s_S X (d + 1) 99 [.ref 1] (mm I J) = s_j X d 99 0 [.ref 1, .retAddr 0, .retAddr 0, .retAddr 0, .retAddr 0] [] (mm I J) := s_S_in rfl rfl
theorem u_99_0 {X : e_X} {d : Nat} {ls st : List Value} {m : e_M} : s_j X d 99 0 ls st m = s_x X d 99 [.sipush 0, .istore 1, .sipush 1, .istore 2, .jsr 4] ls st m := by
  rw [s_j, s_g_eq, g_l99]; rfl
theorem u_99_4 {X : e_X} {d : Nat} {ls st : List Value} {m : e_M} : s_j X d 99 4 ls st m = s_x X d 99 [.iload 2, .sipush 5, .if_icmp .gt 59, .sipush 0, .istore 3, .jsr 11] ls st m := by
  rw [s_j, s_g_eq, g_l99]; rfl
theorem u_99_11 {X : e_X} {d : Nat} {ls st : List Value} {m : e_M} : s_j X d 99 11 ls st m = s_x X d 99 [.iload 3, .sipush 9, .if_icmp .gt 53, .sipush 0, .istore 4, .jsr 20] ls st m := by
  rw [s_j, s_g_eq, g_l99]; rfl
theorem u_99_20 {X : e_X} {d : Nat} {ls st : List Value} {m : e_M} : s_j X d 99 20 ls st m = s_x X d 99 [.iload 4, .sipush 9, .if_icmp .gt 47, .aload 0, .iload 2, .iload 3, .iload 4, .invokeinterface 100 4, .ifCond .ne 41, .iinc 1 1, .jsr 41] ls st m := by
  rw [s_j, s_g_eq, g_l99]; rfl
theorem u_99_41 {X : e_X} {d : Nat} {ls st : List Value} {m : e_M} : s_j X d 99 41 ls st m = s_x X d 99 [.iinc 4 1, .goto 20] ls st m := by
  rw [s_j, s_g_eq, g_l99]; rfl
theorem u_99_47 {X : e_X} {d : Nat} {ls st : List Value} {m : e_M} : s_j X d 99 47 ls st m = s_x X d 99 [.iinc 3 1, .goto 11] ls st m := by
  rw [s_j, s_g_eq, g_l99]; rfl
theorem u_99_53 {X : e_X} {d : Nat} {ls st : List Value} {m : e_M} : s_j X d 99 53 ls st m = s_x X d 99 [.iinc 2 1, .goto 4] ls st m := by
  rw [s_j, s_g_eq, g_l99]; rfl
theorem u_99_59 {X : e_X} {d : Nat} {ls st : List Value} {m : e_M} : s_j X d 99 59 ls st m = s_x X d 99 [.iload 1, .ireturn] ls st m := by
  rw [s_j, s_g_eq, g_l99]; rfl
/-- T.wrongBy -/
theorem g_l100 (l : Nat) : g_P 100 l = (g_c100.lookup l).getD [] := rfl
theorem v_100_1 {X : e_X} {d : Nat} {a1 : Int32} {a2 : Int32} {a3 : Int32} {I J : Nat → Int → Int} : s_S X (d + 1) 100 [.ref 1, .int a1, .int a2, .int a3] (mm I J) = s_j X d 100 0 [.ref 1, .int a1, .int a2, .int a3, .retAddr 0, .retAddr 0, .retAddr 0, .retAddr 0, .retAddr 0] [] (mm I J) := s_S_in rfl rfl
theorem u_100_0 {X : e_X} {d : Nat} {ls st : List Value} {m : e_M} : s_j X d 100 0 ls st m = s_x X d 100 [.aload 0, .checkcast 520, .invokeinterface 50 1, .istore 4, .iload 3, .istore 5, .sipush 0, .istore 6, .aload 0, .checkcast 520, .sipush 0, .iload 6, .iload 5, .invokeinterface 51 4, .istore 7, .sipush 0, .istore 8, .jsr 32] ls st m := by
  rw [s_j, s_g_eq, g_l100]; rfl
theorem u_100_32 {X : e_X} {d : Nat} {ls st : List Value} {m : e_M} : s_j X d 100 32 ls st m = s_x X d 100 [.iload 8, .iload 4, .if_icmp .ge 101, .aload 0, .iload 8, .invokeinterface 77 2, .iload 5, .invokeinterface 126 2, .istore 5, .iload 6, .sipush 0, .iload 1, .iload 2, .iload 8, .invokeinterface 111 3, .invokeinterface 127 2, .iload 6, .iload 5, .invokeinterface 128 3, .iadd, .istore 6, .iload 7, .aload 0, .checkcast 520, .iload 8, .sipush 1, .iadd, .iload 6, .iload 5, .invokeinterface 51 4, .ior, .istore 7, .iinc 8 1, .goto 32] ls st m := by
  rw [s_j, s_g_eq, g_l100]; rfl
theorem u_100_101 {X : e_X} {d : Nat} {ls st : List Value} {m : e_M} : s_j X d 100 101 ls st m = s_x X d 100 [.iload 7, .ireturn] ls st m := by
  rw [s_j, s_g_eq, g_l100]; rfl
/-- T.firstFitting -/
theorem g_l101 (l : Nat) : g_P 101 l = (g_c101.lookup l).getD [] := rfl
theorem v_101_1 {X : e_X} {d : Nat} {a1 : Int32} {I J : Nat → Int → Int} : s_S X (d + 1) 101 [.ref 1, .int a1] (mm I J) = s_j X d 101 0 [.ref 1, .int a1, .retAddr 0, .retAddr 0, .retAddr 0] [] (mm I J) := s_S_in rfl rfl
theorem u_101_0 {X : e_X} {d : Nat} {ls st : List Value} {m : e_M} : s_j X d 101 0 ls st m = s_x X d 101 [.sipush 1, .istore 2, .jsr 2] ls st m := by
  rw [s_j, s_g_eq, g_l101]; rfl
theorem u_101_2 {X : e_X} {d : Nat} {ls st : List Value} {m : e_M} : s_j X d 101 2 ls st m = s_x X d 101 [.iload 2, .sipush 5, .if_icmp .gt 75, .sipush 0, .istore 3, .jsr 9] ls st m := by
  rw [s_j, s_g_eq, g_l101]; rfl
theorem u_101_9 {X : e_X} {d : Nat} {ls st : List Value} {m : e_M} : s_j X d 101 9 ls st m = s_x X d 101 [.iload 3, .sipush 9, .if_icmp .gt 69, .sipush 0, .istore 4, .jsr 18] ls st m := by
  rw [s_j, s_g_eq, g_l101]; rfl
theorem u_101_18 {X : e_X} {d : Nat} {ls st : List Value} {m : e_M} : s_j X d 101 18 ls st m = s_x X d 101 [.iload 4, .sipush 9, .if_icmp .gt 63, .aload 0, .iload 2, .iload 3, .iload 4, .invokeinterface 100 4, .ifCond .ne 57, .iload 1, .sipush 1, .if_icmp .ne 45, .iload 2, .goto 56] ls st m := by
  rw [s_j, s_g_eq, g_l101]; rfl
theorem u_101_45 {X : e_X} {d : Nat} {ls st : List Value} {m : e_M} : s_j X d 101 45 ls st m = s_x X d 101 [.iload 1, .sipush 2, .if_icmp .ne 54, .iload 3, .goto 56] ls st m := by
  rw [s_j, s_g_eq, g_l101]; rfl
theorem u_101_54 {X : e_X} {d : Nat} {ls st : List Value} {m : e_M} : s_j X d 101 54 ls st m = s_x X d 101 [.iload 4, .jsr 56] ls st m := by
  rw [s_j, s_g_eq, g_l101]; rfl
theorem u_101_56 {X : e_X} {d : Nat} {ls st : List Value} {m : e_M} : s_j X d 101 56 ls st m = s_x X d 101 [.ireturn] ls st m := by
  rw [s_j, s_g_eq, g_l101]; rfl
theorem u_101_57 {X : e_X} {d : Nat} {ls st : List Value} {m : e_M} : s_j X d 101 57 ls st m = s_x X d 101 [.iinc 4 1, .goto 18] ls st m := by
  rw [s_j, s_g_eq, g_l101]; rfl
theorem u_101_63 {X : e_X} {d : Nat} {ls st : List Value} {m : e_M} : s_j X d 101 63 ls st m = s_x X d 101 [.iinc 3 1, .goto 9] ls st m := by
  rw [s_j, s_g_eq, g_l101]; rfl
theorem u_101_69 {X : e_X} {d : Nat} {ls st : List Value} {m : e_M} : s_j X d 101 69 ls st m = s_x X d 101 [.iinc 2 1, .goto 2] ls st m := by
  rw [s_j, s_g_eq, g_l101]; rfl
theorem u_101_75 {X : e_X} {d : Nat} {ls st : List Value} {m : e_M} : s_j X d 101 75 ls st m = s_x X d 101 [.sipush (-3), .ireturn] ls st m := by
  rw [s_j, s_g_eq, g_l101]; rfl
/-- T.leastLiar -/
theorem g_l102 (l : Nat) : g_P 102 l = (g_c102.lookup l).getD [] := rfl
theorem v_102_1 {X : e_X} {d : Nat}  {I J : Nat → Int → Int} : s_S X (d + 1) 102 [.ref 1] (mm I J) = s_j X d 102 0 [.ref 1, .retAddr 0, .retAddr 0, .retAddr 0, .retAddr 0, .retAddr 0] [] (mm I J) := s_S_in rfl rfl
theorem u_102_0 {X : e_X} {d : Nat} {ls st : List Value} {m : e_M} : s_j X d 102 0 ls st m = s_x X d 102 [.sipush 0, .istore 1, .sipush 1, .istore 2, .jsr 4] ls st m := by
  rw [s_j, s_g_eq, g_l102]; rfl
theorem u_102_4 {X : e_X} {d : Nat} {ls st : List Value} {m : e_M} : s_j X d 102 4 ls st m = s_x X d 102 [.iload 2, .sipush 5, .if_icmp .gt 77, .sipush 0, .istore 3, .jsr 11] ls st m := by
  rw [s_j, s_g_eq, g_l102]; rfl
theorem u_102_11 {X : e_X} {d : Nat} {ls st : List Value} {m : e_M} : s_j X d 102 11 ls st m = s_x X d 102 [.iload 3, .sipush 9, .if_icmp .gt 71, .sipush 0, .istore 4, .jsr 20] ls st m := by
  rw [s_j, s_g_eq, g_l102]; rfl
theorem u_102_20 {X : e_X} {d : Nat} {ls st : List Value} {m : e_M} : s_j X d 102 20 ls st m = s_x X d 102 [.iload 4, .sipush 9, .if_icmp .gt 65, .aload 0, .iload 2, .iload 3, .iload 4, .invokeinterface 100 4, .istore 5, .iload 5, .ifCond .ne 45, .sipush (-3), .ireturn] ls st m := by
  rw [s_j, s_g_eq, g_l102]; rfl
theorem u_102_45 {X : e_X} {d : Nat} {ls st : List Value} {m : e_M} : s_j X d 102 45 ls st m = s_x X d 102 [.iload 5, .invokeinterface 300 1, .sipush 1, .if_icmp .ne 59, .iload 1, .iload 5, .ior, .istore 1, .jsr 59] ls st m := by
  rw [s_j, s_g_eq, g_l102]; rfl
theorem u_102_59 {X : e_X} {d : Nat} {ls st : List Value} {m : e_M} : s_j X d 102 59 ls st m = s_x X d 102 [.iinc 4 1, .goto 20] ls st m := by
  rw [s_j, s_g_eq, g_l102]; rfl
theorem u_102_65 {X : e_X} {d : Nat} {ls st : List Value} {m : e_M} : s_j X d 102 65 ls st m = s_x X d 102 [.iinc 3 1, .goto 11] ls st m := by
  rw [s_j, s_g_eq, g_l102]; rfl
theorem u_102_71 {X : e_X} {d : Nat} {ls st : List Value} {m : e_M} : s_j X d 102 71 ls st m = s_x X d 102 [.iinc 2 1, .goto 4] ls st m := by
  rw [s_j, s_g_eq, g_l102]; rfl
theorem u_102_77 {X : e_X} {d : Nat} {ls st : List Value} {m : e_M} : s_j X d 102 77 ls st m = s_x X d 102 [.iload 1, .invokeinterface 136 1, .ireturn] ls st m := by
  rw [s_j, s_g_eq, g_l102]; rfl
/-- T.drawLot -/
theorem g_l103 (l : Nat) : g_P 103 l = (g_c103.lookup l).getD [] := rfl
theorem v_103_1 {X : e_X} {d : Nat}  {I J : Nat → Int → Int} : s_S X (d + 1) 103 [.ref 1] (mm I J) = s_j X d 103 0 [.ref 1] [] (mm I J) := s_S_in rfl rfl
theorem u_103_0 {X : e_X} {d : Nat} {ls st : List Value} {m : e_M} : s_j X d 103 0 ls st m = s_x X d 103 [.aload 0, .aload 0, .getfield 528, .sipush 1103515245, .imul, .sipush 12345, .iadd, .putfield 528, .aload 0, .getfield 528, .sipush 16, .iushr, .aload 0, .getfield 521, .sipush 1, .iadd, .irem, .ireturn] ls st m := by
  rw [s_j, s_g_eq, g_l103]; rfl
/-- T.worthByLot -/
theorem g_l104 (l : Nat) : g_P 104 l = (g_c104.lookup l).getD [] := rfl
theorem v_104_1 {X : e_X} {d : Nat}  {I J : Nat → Int → Int} : s_S X (d + 1) 104 [.ref 1] (mm I J) = s_j X d 104 0 [.ref 1, .retAddr 0, .retAddr 0, .retAddr 0, .retAddr 0] [] (mm I J) := s_S_in rfl rfl
theorem u_104_0 {X : e_X} {d : Nat} {ls st : List Value} {m : e_M} : s_j X d 104 0 ls st m = s_x X d 104 [.aload 0, .invokeinterface 85 1, .istore 1, .aload 0, .sipush 16, .invokeinterface 86 2, .istore 2, .sipush 0, .istore 3, .sipush 0, .istore 4, .jsr 17] ls st m := by
  rw [s_j, s_g_eq, g_l104]; rfl
theorem u_104_17 {X : e_X} {d : Nat} {ls st : List Value} {m : e_M} : s_j X d 104 17 ls st m = s_x X d 104 [.iload 4, .iload 2, .if_icmp .ge 40, .iload 3, .aload 0, .aload 0, .invokeinterface 103 1, .invokeinterface 79 2, .iadd, .istore 3, .iinc 4 1, .goto 17] ls st m := by
  rw [s_j, s_g_eq, g_l104]; rfl
theorem u_104_40 {X : e_X} {d : Nat} {ls st : List Value} {m : e_M} : s_j X d 104 40 ls st m = s_x X d 104 [.aload 0, .iload 1, .invokeinterface 87 2, .iload 3, .ireturn] ls st m := by
  rw [s_j, s_g_eq, g_l104]; rfl
/-- T.isAct -/
theorem g_l105 (l : Nat) : g_P 105 l = (g_c105.lookup l).getD [] := rfl
theorem v_105_1 {X : e_X} {d : Nat} {a1 : Int32} {I J : Nat → Int → Int} : s_S X (d + 1) 105 [.ref 1, .int a1] (mm I J) = s_j X d 105 0 [.ref 1, .int a1] [] (mm I J) := s_S_in rfl rfl
theorem u_105_0 {X : e_X} {d : Nat} {ls st : List Value} {m : e_M} : s_j X d 105 0 ls st m = s_x X d 105 [.iload 1, .ifCond .lt 16, .iload 1, .aload 0, .getfield 521, .if_icmp .gt 16, .sipush 1, .goto 17] ls st m := by
  rw [s_j, s_g_eq, g_l105]; rfl
theorem u_105_16 {X : e_X} {d : Nat} {ls st : List Value} {m : e_M} : s_j X d 105 16 ls st m = s_x X d 105 [.sipush 0, .jsr 17] ls st m := by
  rw [s_j, s_g_eq, g_l105]; rfl
theorem u_105_17 {X : e_X} {d : Nat} {ls st : List Value} {m : e_M} : s_j X d 105 17 ls st m = s_x X d 105 [.areturn] ls st m := by
  rw [s_j, s_g_eq, g_l105]; rfl
/-- T.copyFrom -/
theorem g_l106 (l : Nat) : g_P 106 l = (g_c106.lookup l).getD [] := rfl
theorem v_106_1 {X : e_X} {d : Nat} {a1 : Nat} {I J : Nat → Int → Int} : s_S X (d + 1) 106 [.ref 1, .ref a1] (mm I J) = s_j X d 106 0 [.ref 1, .ref a1] [] (mm I J) := s_S_in rfl rfl
theorem v_106_20 {X : e_X} {d : Nat} {a1 : Nat} {I J : Nat → Int → Int} : s_S X (d + 1) 106 [.ref 20, .ref a1] (mm I J) = s_j X d 106 0 [.ref 20, .ref a1] [] (mm I J) := s_S_in rfl rfl
theorem u_106_0 {X : e_X} {d : Nat} {ls st : List Value} {m : e_M} : s_j X d 106 0 ls st m = s_x X d 106 [.aload 1, .checkcast 512, .sipush 0, .aload 0, .checkcast 512, .sipush 0, .sipush 6, .dmul, .aload 1, .checkcast 513, .sipush 0, .aload 0, .checkcast 513, .sipush 0, .sipush 6, .dmul, .aload 1, .checkcast 514, .sipush 0, .aload 0, .checkcast 514, .sipush 0, .sipush 6, .dmul, .aload 1, .checkcast 515, .sipush 0, .aload 0, .checkcast 515, .sipush 0, .sipush 6, .dmul, .aload 1, .checkcast 516, .sipush 0, .aload 0, .checkcast 516, .sipush 0, .sipush 6, .dmul, .aload 1, .checkcast 517, .sipush 0, .aload 0, .checkcast 517, .sipush 0, .sipush 6, .dmul, .aload 1, .checkcast 518, .sipush 0, .aload 0, .checkcast 518, .sipush 0, .sipush 16, .dmul, .aload 0, .checkcast 519, .aload 1, .checkcast 519, .invokeinterface 16 2, .aload 0, .checkcast 520, .aload 1, .checkcast 520, .invokeinterface 52 2, .aload 0, .aload 1, .getfield 521, .putfield 521, .aload 0, .aload 1, .getfield 522, .putfield 522, .aload 0, .aload 1, .getfield 523, .putfield 523, .aload 0, .aload 1, .getfield 524, .putfield 524, .aload 0, .aload 1, .getfield 525, .putfield 525, .aload 0, .aload 1, .getfield 526, .putfield 526, .aload 0, .aload 1, .getfield 527, .putfield 527, .aload 0, .aload 1, .getfield 528, .putfield 528, .return_] ls st m := by
  rw [s_j, s_g_eq, g_l106]; rfl
