/-- A.begin -/
theorem g_l1 (l : Nat) : g_P 1 l = (g_c1.lookup l).getD [] := rfl
theorem v_1 {X : e_X} {d : Nat} (a0 : Nat) (a1 : Int32) (a2 : Int32) (a3 : Int32) {m : e_M} : s_S X (d + 1) 1 [.ref a0, .int a1, .int a2, .int a3] m = s_j X d 1 0 [.ref a0, .int a1, .int a2, .int a3] [] m := rfl
theorem u_1_0 {X : e_X} {d : Nat} {ls st : List Value} {m : e_M} : s_j X d 1 0 ls st m = s_x X d 1 [.aload 0, .iload 1, .putfield 3, .aload 0, .iload 2, .putfield 4, .aload 0, .iload 3, .putfield 5, .aload 0, .sipush 0, .putfield 1, .aload 0, .sipush 0, .putfield 2, .return_] ls st m := by
  rw [s_j, s_g_eq, g_l1]; rfl
/-- A.perform -/
theorem g_l2 (l : Nat) : g_P 2 l = (g_c2.lookup l).getD [] := rfl
theorem v_2 {X : e_X} {d : Nat} (a0 : Nat) (a1 : Int32) (a2 : Int32) {m : e_M} : s_S X (d + 1) 2 [.ref a0, .int a1, .int a2] m = s_j X d 2 0 [.ref a0, .int a1, .int a2, .retAddr 0] [] m := rfl
theorem u_2_0 {X : e_X} {d : Nat} {ls st : List Value} {m : e_M} : s_j X d 2 0 ls st m = s_x X d 2 [.sipush 0, .istore 3, .iload 1, .lookupswitch 55 #[(0, 28), (1, 37), (2, 46)]] ls st m := by
  rw [s_j, s_g_eq, g_l2]; rfl
theorem u_2_28 {X : e_X} {d : Nat} {ls st : List Value} {m : e_M} : s_j X d 2 28 ls st m = s_x X d 2 [.aload 0, .iload 2, .invokeinterface 3 2, .istore 3, .goto 61] ls st m := by
  rw [s_j, s_g_eq, g_l2]; rfl
theorem u_2_37 {X : e_X} {d : Nat} {ls st : List Value} {m : e_M} : s_j X d 2 37 ls st m = s_x X d 2 [.aload 0, .iload 2, .invokeinterface 5 2, .istore 3, .goto 61] ls st m := by
  rw [s_j, s_g_eq, g_l2]; rfl
theorem u_2_46 {X : e_X} {d : Nat} {ls st : List Value} {m : e_M} : s_j X d 2 46 ls st m = s_x X d 2 [.aload 0, .iload 2, .invokeinterface 6 2, .istore 3, .goto 61] ls st m := by
  rw [s_j, s_g_eq, g_l2]; rfl
theorem u_2_55 {X : e_X} {d : Nat} {ls st : List Value} {m : e_M} : s_j X d 2 55 ls st m = s_x X d 2 [.aload 0, .iload 2, .invokeinterface 7 2, .istore 3, .jsr 61] ls st m := by
  rw [s_j, s_g_eq, g_l2]; rfl
theorem u_2_61 {X : e_X} {d : Nat} {ls st : List Value} {m : e_M} : s_j X d 2 61 ls st m = s_x X d 2 [.aload 0, .getfield 2, .ifCond .eq 73, .sipush (-15), .goto 74] ls st m := by
  rw [s_j, s_g_eq, g_l2]; rfl
theorem u_2_73 {X : e_X} {d : Nat} {ls st : List Value} {m : e_M} : s_j X d 2 73 ls st m = s_x X d 2 [.iload 3, .jsr 74] ls st m := by
  rw [s_j, s_g_eq, g_l2]; rfl
theorem u_2_74 {X : e_X} {d : Nat} {ls st : List Value} {m : e_M} : s_j X d 2 74 ls st m = s_x X d 2 [.ireturn] ls st m := by
  rw [s_j, s_g_eq, g_l2]; rfl
/-- A.lays -/
theorem g_l3 (l : Nat) : g_P 3 l = (g_c3.lookup l).getD [] := rfl
theorem v_3 {X : e_X} {d : Nat} (a0 : Nat) (a1 : Int32) {m : e_M} : s_S X (d + 1) 3 [.ref a0, .int a1] m = s_j X d 3 0 [.ref a0, .int a1, .retAddr 0] [] m := rfl
theorem u_3_0 {X : e_X} {d : Nat} {ls st : List Value} {m : e_M} : s_j X d 3 0 ls st m = s_x X d 3 [.aload 0, .getfield 3, .sipush 1, .if_icmp .ne 14, .aload 0, .sipush 20, .invokeinterface 4 2, .jsr 14] ls st m := by
  rw [s_j, s_g_eq, g_l3]; rfl
theorem u_3_14 {X : e_X} {d : Nat} {ls st : List Value} {m : e_M} : s_j X d 3 14 ls st m = s_x X d 3 [.aload 0, .getfield 3, .sipush 3, .if_icmp .ne 28, .aload 0, .sipush 50, .invokeinterface 4 2, .jsr 28] ls st m := by
  rw [s_j, s_g_eq, g_l3]; rfl
theorem u_3_28 {X : e_X} {d : Nat} {ls st : List Value} {m : e_M} : s_j X d 3 28 ls st m = s_x X d 3 [.aload 0, .sipush 10, .invokeinterface 4 2, .iload 1, .sipush 2, .imul, .aload 0, .getfield 4, .iadd, .istore 2, .aload 0, .getfield 3, .sipush 1, .if_icmp .ne 55, .iload 2, .sipush 3, .imul, .ireturn] ls st m := by
  rw [s_j, s_g_eq, g_l3]; rfl
theorem u_3_55 {X : e_X} {d : Nat} {ls st : List Value} {m : e_M} : s_j X d 3 55 ls st m = s_x X d 3 [.aload 0, .getfield 3, .sipush 3, .if_icmp .ne 69, .iload 2, .sipush 4, .ixor, .goto 70] ls st m := by
  rw [s_j, s_g_eq, g_l3]; rfl
theorem u_3_69 {X : e_X} {d : Nat} {ls st : List Value} {m : e_M} : s_j X d 3 69 ls st m = s_x X d 3 [.iload 2, .jsr 70] ls st m := by
  rw [s_j, s_g_eq, g_l3]; rfl
theorem u_3_70 {X : e_X} {d : Nat} {ls st : List Value} {m : e_M} : s_j X d 3 70 ls st m = s_x X d 3 [.ireturn] ls st m := by
  rw [s_j, s_g_eq, g_l3]; rfl
/-- A.note -/
theorem g_l4 (l : Nat) : g_P 4 l = (g_c4.lookup l).getD [] := rfl
theorem v_4 {X : e_X} {d : Nat} (a0 : Nat) (a1 : Int32) {m : e_M} : s_S X (d + 1) 4 [.ref a0, .int a1] m = s_j X d 4 0 [.ref a0, .int a1] [] m := rfl
theorem u_4_0 {X : e_X} {d : Nat} {ls st : List Value} {m : e_M} : s_j X d 4 0 ls st m = s_x X d 4 [.aload 0, .getfield 2, .ifCond .ne 33, .aload 0, .getfield 1, .sipush 30, .if_icmp .ge 33, .aload 0, .checkcast 0, .aload 0, .dup, .getfield 1, .dup_x1, .sipush 1, .iadd, .putfield 1, .iload 1, .iastore, .jsr 33] ls st m := by
  rw [s_j, s_g_eq, g_l4]; rfl
theorem u_4_33 {X : e_X} {d : Nat} {ls st : List Value} {m : e_M} : s_j X d 4 33 ls st m = s_x X d 4 [.return_] ls st m := by
  rw [s_j, s_g_eq, g_l4]; rfl
/-- A.tilts -/
theorem g_l5 (l : Nat) : g_P 5 l = (g_c5.lookup l).getD [] := rfl
theorem v_5 {X : e_X} {d : Nat} (a0 : Nat) (a1 : Int32) {m : e_M} : s_S X (d + 1) 5 [.ref a0, .int a1] m = s_j X d 5 0 [.ref a0, .int a1, .retAddr 0, .retAddr 0] [] m := rfl
theorem u_5_0 {X : e_X} {d : Nat} {ls st : List Value} {m : e_M} : s_j X d 5 0 ls st m = s_x X d 5 [.aload 0, .getfield 3, .sipush 2, .invokeinterface 112 2, .istore 2, .iload 2, .ifCond .eq 19, .aload 0, .sipush 30, .invokeinterface 4 2, .jsr 19] ls st m := by
  rw [s_j, s_g_eq, g_l5]; rfl
theorem u_5_19 {X : e_X} {d : Nat} {ls st : List Value} {m : e_M} : s_j X d 5 19 ls st m = s_x X d 5 [.aload 0, .getfield 3, .sipush 5, .if_icmp .ne 33, .aload 0, .sipush 60, .invokeinterface 4 2, .jsr 33] ls st m := by
  rw [s_j, s_g_eq, g_l5]; rfl
theorem u_5_33 {X : e_X} {d : Nat} {ls st : List Value} {m : e_M} : s_j X d 5 33 ls st m = s_x X d 5 [.aload 0, .sipush 11, .invokeinterface 4 2, .aload 0, .iload 2, .ifCond .eq 50, .iload 1, .sipush 1, .iadd, .goto 51] ls st m := by
  rw [s_j, s_g_eq, g_l5]; rfl
theorem u_5_50 {X : e_X} {d : Nat} {ls st : List Value} {m : e_M} : s_j X d 5 50 ls st m = s_x X d 5 [.iload 1, .jsr 51] ls st m := by
  rw [s_j, s_g_eq, g_l5]; rfl
theorem u_5_51 {X : e_X} {d : Nat} {ls st : List Value} {m : e_M} : s_j X d 5 51 ls st m = s_x X d 5 [.invokeinterface 3 2, .aload 0, .getfield 5, .isub, .istore 3, .aload 0, .getfield 3, .sipush 5, .if_icmp .ne 75, .iload 3, .sipush 60, .isub, .goto 76] ls st m := by
  rw [s_j, s_g_eq, g_l5]; rfl
theorem u_5_75 {X : e_X} {d : Nat} {ls st : List Value} {m : e_M} : s_j X d 5 75 ls st m = s_x X d 5 [.iload 3, .jsr 76] ls st m := by
  rw [s_j, s_g_eq, g_l5]; rfl
theorem u_5_76 {X : e_X} {d : Nat} {ls st : List Value} {m : e_M} : s_j X d 5 76 ls st m = s_x X d 5 [.ireturn] ls st m := by
  rw [s_j, s_g_eq, g_l5]; rfl
/-- A.breaks -/
theorem g_l6 (l : Nat) : g_P 6 l = (g_c6.lookup l).getD [] := rfl
theorem v_6 {X : e_X} {d : Nat} (a0 : Nat) (a1 : Int32) {m : e_M} : s_S X (d + 1) 6 [.ref a0, .int a1] m = s_j X d 6 0 [.ref a0, .int a1, .retAddr 0, .retAddr 0, .retAddr 0] [] m := rfl
theorem u_6_0 {X : e_X} {d : Nat} {ls st : List Value} {m : e_M} : s_j X d 6 0 ls st m = s_x X d 6 [.aload 0, .getfield 3, .sipush 4, .invokeinterface 112 2, .istore 2, .aload 0, .getfield 3, .sipush 5, .if_icmp .ne 23, .aload 0, .sipush 61, .invokeinterface 4 2, .jsr 23] ls st m := by
  rw [s_j, s_g_eq, g_l6]; rfl
theorem u_6_23 {X : e_X} {d : Nat} {ls st : List Value} {m : e_M} : s_j X d 6 23 ls st m = s_x X d 6 [.iload 2, .ifCond .eq 33, .aload 0, .sipush 40, .invokeinterface 4 2, .jsr 33] ls st m := by
  rw [s_j, s_g_eq, g_l6]; rfl
theorem u_6_33 {X : e_X} {d : Nat} {ls st : List Value} {m : e_M} : s_j X d 6 33 ls st m = s_x X d 6 [.aload 0, .sipush 12, .invokeinterface 4 2, .aload 0, .getfield 4, .aload 0, .getfield 5, .iadd, .sipush 3, .isub, .istore 3, .iload 3, .ifCond .ne 62, .aload 0, .sipush 1, .putfield 2, .sipush 0, .ireturn] ls st m := by
  rw [s_j, s_g_eq, g_l6]; rfl
theorem u_6_62 {X : e_X} {d : Nat} {ls st : List Value} {m : e_M} : s_j X d 6 62 ls st m = s_x X d 6 [.iload 2, .ifCond .eq 74, .sipush 0, .iload 1, .iload 3, .irem, .isub, .goto 77] ls st m := by
  rw [s_j, s_g_eq, g_l6]; rfl
theorem u_6_74 {X : e_X} {d : Nat} {ls st : List Value} {m : e_M} : s_j X d 6 74 ls st m = s_x X d 6 [.iload 1, .iload 3, .irem, .jsr 77] ls st m := by
  rw [s_j, s_g_eq, g_l6]; rfl
theorem u_6_77 {X : e_X} {d : Nat} {ls st : List Value} {m : e_M} : s_j X d 6 77 ls st m = s_x X d 6 [.istore 4, .aload 0, .getfield 3, .sipush 5, .if_icmp .ne 101, .iload 4, .aload 0, .aload 0, .getfield 5, .invokeinterface 3 2, .ixor, .goto 103] ls st m := by
  rw [s_j, s_g_eq, g_l6]; rfl
theorem u_6_101 {X : e_X} {d : Nat} {ls st : List Value} {m : e_M} : s_j X d 6 101 ls st m = s_x X d 6 [.iload 4, .jsr 103] ls st m := by
  rw [s_j, s_g_eq, g_l6]; rfl
theorem u_6_103 {X : e_X} {d : Nat} {ls st : List Value} {m : e_M} : s_j X d 6 103 ls st m = s_x X d 6 [.ireturn] ls st m := by
  rw [s_j, s_g_eq, g_l6]; rfl
/-- A.shines -/
theorem g_l7 (l : Nat) : g_P 7 l = (g_c7.lookup l).getD [] := rfl
theorem v_7 {X : e_X} {d : Nat} (a0 : Nat) (a1 : Int32) {m : e_M} : s_S X (d + 1) 7 [.ref a0, .int a1] m = s_j X d 7 0 [.ref a0, .int a1, .retAddr 0, .retAddr 0] [] m := rfl
theorem u_7_0 {X : e_X} {d : Nat} {ls st : List Value} {m : e_M} : s_j X d 7 0 ls st m = s_x X d 7 [.aload 0, .getfield 3, .sipush 3, .if_icmp .ne 14, .aload 0, .sipush 51, .invokeinterface 4 2, .jsr 14] ls st m := by
  rw [s_j, s_g_eq, g_l7]; rfl
theorem u_7_14 {X : e_X} {d : Nat} {ls st : List Value} {m : e_M} : s_j X d 7 14 ls st m = s_x X d 7 [.aload 0, .sipush 13, .invokeinterface 4 2, .aload 0, .iload 1, .invokeinterface 5 2, .istore 2, .iload 2, .aload 0, .iload 1, .invokeinterface 6 2, .ixor, .istore 3, .aload 0, .getfield 3, .sipush 3, .if_icmp .ne 55, .iload 3, .aload 0, .aload 0, .getfield 4, .invokeinterface 5 2, .iadd, .goto 56] ls st m := by
  rw [s_j, s_g_eq, g_l7]; rfl
theorem u_7_55 {X : e_X} {d : Nat} {ls st : List Value} {m : e_M} : s_j X d 7 55 ls st m = s_x X d 7 [.iload 3, .jsr 56] ls st m := by
  rw [s_j, s_g_eq, g_l7]; rfl
theorem u_7_56 {X : e_X} {d : Nat} {ls st : List Value} {m : e_M} : s_j X d 7 56 ls st m = s_x X d 7 [.ireturn] ls st m := by
  rw [s_j, s_g_eq, g_l7]; rfl
/-- L.tellTo -/
theorem g_l9 (l : Nat) : g_P 9 l = (g_c9.lookup l).getD [] := rfl
theorem v_9 {X : e_X} {d : Nat} (a0 : Nat) (a1 : Int32) {m : e_M} : s_S X (d + 1) 9 [.ref a0, .int a1] m = s_j X d 9 0 [.ref a0, .int a1, .retAddr 0, .retAddr 0] [] m := rfl
theorem u_9_0 {X : e_X} {d : Nat} {ls st : List Value} {m : e_M} : s_j X d 9 0 ls st m = s_x X d 9 [.sipush 0, .istore 2, .sipush 0, .istore 3, .jsr 4] ls st m := by
  rw [s_j, s_g_eq, g_l9]; rfl
theorem u_9_4 {X : e_X} {d : Nat} {ls st : List Value} {m : e_M} : s_j X d 9 4 ls st m = s_x X d 9 [.iload 3, .aload 0, .getfield 69, .if_icmp .ge 59, .iload 1, .aload 0, .checkcast 64, .iload 3, .iaload, .invokeinterface 112 2, .ifCond .eq 46, .aload 0, .iload 2, .aload 0, .checkcast 66, .iload 3, .iaload, .invokeinterface 10 3, .ifCond .eq 46, .aload 0, .checkcast 65, .iload 3, .iaload, .ireturn] ls st m := by
  rw [s_j, s_g_eq, g_l9]; rfl
theorem u_9_46 {X : e_X} {d : Nat} {ls st : List Value} {m : e_M} : s_j X d 9 46 ls st m = s_x X d 9 [.aload 0, .checkcast 66, .iload 3, .iaload, .istore 2, .iinc 3 1, .goto 4] ls st m := by
  rw [s_j, s_g_eq, g_l9]; rfl
theorem u_9_59 {X : e_X} {d : Nat} {ls st : List Value} {m : e_M} : s_j X d 9 59 ls st m = s_x X d 9 [.sipush 0, .ireturn] ls st m := by
  rw [s_j, s_g_eq, g_l9]; rfl
/-- L.holds -/
theorem g_l10 (l : Nat) : g_P 10 l = (g_c10.lookup l).getD [] := rfl
theorem v_10 {X : e_X} {d : Nat} (a0 : Nat) (a1 : Int32) (a2 : Int32) {m : e_M} : s_S X (d + 1) 10 [.ref a0, .int a1, .int a2] m = s_j X d 10 0 [.ref a0, .int a1, .int a2, .retAddr 0, .retAddr 0, .retAddr 0, .retAddr 0] [] m := rfl
theorem u_10_0 {X : e_X} {d : Nat} {ls st : List Value} {m : e_M} : s_j X d 10 0 ls st m = s_x X d 10 [.goto_w 1, .lstore 3, .iload 1, .istore 5, .jsr 5] ls st m := by
  rw [s_j, s_g_eq, g_l10]; rfl
theorem u_10_5 {X : e_X} {d : Nat} {ls st : List Value} {m : e_M} : s_j X d 10 5 ls st m = s_x X d 10 [.iload 5, .iload 2, .if_icmp .ge 96, .aload 0, .checkcast 67, .iload 5, .iaload, .istore 6, .iload 6, .sipush (-1), .if_icmp .ne 33, .lload 3, .goto_w 1, .lxor, .lstore 3, .goto 90] ls st m := by
  rw [s_j, s_g_eq, g_l10]; rfl
theorem u_10_33 {X : e_X} {d : Nat} {ls st : List Value} {m : e_M} : s_j X d 10 33 ls st m = s_x X d 10 [.iload 6, .sipush (-2), .if_icmp .ne 53, .lload 3, .sipush 1, .lushr, .lload 3, .goto_w (-2), .lor, .land, .lstore 3, .goto 90] ls st m := by
  rw [s_j, s_g_eq, g_l10]; rfl
theorem u_10_53 {X : e_X} {d : Nat} {ls st : List Value} {m : e_M} : s_j X d 10 53 ls st m = s_x X d 10 [.iload 6, .sipush (-3), .if_icmp .ne 71, .lload 3, .sipush 1, .lushr, .lload 3, .goto_w 1, .land, .lor, .lstore 3, .goto 90] ls st m := by
  rw [s_j, s_g_eq, g_l10]; rfl
theorem u_10_71 {X : e_X} {d : Nat} {ls st : List Value} {m : e_M} : s_j X d 10 71 ls st m = s_x X d 10 [.lload 3, .sipush 1, .lshl, .aload 0, .iload 6, .invokeinterface 11 2, .ifCond .eq 87, .goto_w 1, .goto 88] ls st m := by
  rw [s_j, s_g_eq, g_l10]; rfl
theorem u_10_87 {X : e_X} {d : Nat} {ls st : List Value} {m : e_M} : s_j X d 10 87 ls st m = s_x X d 10 [.goto_w 0, .jsr 88] ls st m := by
  rw [s_j, s_g_eq, g_l10]; rfl
theorem u_10_88 {X : e_X} {d : Nat} {ls st : List Value} {m : e_M} : s_j X d 10 88 ls st m = s_x X d 10 [.lor, .lstore 3, .jsr 90] ls st m := by
  rw [s_j, s_g_eq, g_l10]; rfl
theorem u_10_90 {X : e_X} {d : Nat} {ls st : List Value} {m : e_M} : s_j X d 10 90 ls st m = s_x X d 10 [.iinc 5 1, .goto 5] ls st m := by
  rw [s_j, s_g_eq, g_l10]; rfl
theorem u_10_96 {X : e_X} {d : Nat} {ls st : List Value} {m : e_M} : s_j X d 10 96 ls st m = s_x X d 10 [.lload 3, .goto_w 1, .land, .goto_w 1, .lcmp, .ifCond .ne 108, .sipush 1, .goto 109] ls st m := by
  rw [s_j, s_g_eq, g_l10]; rfl
theorem u_10_108 {X : e_X} {d : Nat} {ls st : List Value} {m : e_M} : s_j X d 10 108 ls st m = s_x X d 10 [.sipush 0, .jsr 109] ls st m := by
  rw [s_j, s_g_eq, g_l10]; rfl
theorem u_10_109 {X : e_X} {d : Nat} {ls st : List Value} {m : e_M} : s_j X d 10 109 ls st m = s_x X d 10 [.ireturn] ls st m := by
  rw [s_j, s_g_eq, g_l10]; rfl
/-- L.compares -/
theorem g_l11 (l : Nat) : g_P 11 l = (g_c11.lookup l).getD [] := rfl
theorem v_11 {X : e_X} {d : Nat} (a0 : Nat) (a1 : Int32) {m : e_M} : s_S X (d + 1) 11 [.ref a0, .int a1] m = s_j X d 11 0 [.ref a0, .int a1, .retAddr 0, .retAddr 0] [] m := rfl
theorem u_11_0 {X : e_X} {d : Nat} {ls st : List Value} {m : e_M} : s_j X d 11 0 ls st m = s_x X d 11 [.iload 1, .sipush 14, .ishr, .sipush 16383, .iand, .istore 2, .iload 1, .sipush 16383, .iand, .istore 3, .iload 2, .sipush 10000, .if_icmp .lt 40, .iload 2, .sipush 10005, .if_icmp .ge 40, .aload 0, .checkcast 68, .iload 2, .sipush 10000, .isub, .iaload, .istore 2, .jsr 40] ls st m := by
  rw [s_j, s_g_eq, g_l11]; rfl
theorem u_11_40 {X : e_X} {d : Nat} {ls st : List Value} {m : e_M} : s_j X d 11 40 ls st m = s_x X d 11 [.iload 3, .sipush 10000, .if_icmp .lt 65, .iload 3, .sipush 10005, .if_icmp .ge 65, .aload 0, .checkcast 68, .iload 3, .sipush 10000, .isub, .iaload, .istore 3, .jsr 65] ls st m := by
  rw [s_j, s_g_eq, g_l11]; rfl
theorem u_11_65 {X : e_X} {d : Nat} {ls st : List Value} {m : e_M} : s_j X d 11 65 ls st m = s_x X d 11 [.iload 1, .sipush 28, .ishr, .lookupswitch 118 #[(0, 96), (1, 107)]] ls st m := by
  rw [s_j, s_g_eq, g_l11]; rfl
theorem u_11_96 {X : e_X} {d : Nat} {ls st : List Value} {m : e_M} : s_j X d 11 96 ls st m = s_x X d 11 [.iload 2, .iload 3, .if_icmp .ge 105, .sipush 1, .goto 106] ls st m := by
  rw [s_j, s_g_eq, g_l11]; rfl
theorem u_11_105 {X : e_X} {d : Nat} {ls st : List Value} {m : e_M} : s_j X d 11 105 ls st m = s_x X d 11 [.sipush 0, .jsr 106] ls st m := by
  rw [s_j, s_g_eq, g_l11]; rfl
theorem u_11_106 {X : e_X} {d : Nat} {ls st : List Value} {m : e_M} : s_j X d 11 106 ls st m = s_x X d 11 [.ireturn] ls st m := by
  rw [s_j, s_g_eq, g_l11]; rfl
theorem u_11_107 {X : e_X} {d : Nat} {ls st : List Value} {m : e_M} : s_j X d 11 107 ls st m = s_x X d 11 [.iload 2, .iload 3, .if_icmp .ne 116, .sipush 1, .goto 117] ls st m := by
  rw [s_j, s_g_eq, g_l11]; rfl
theorem u_11_116 {X : e_X} {d : Nat} {ls st : List Value} {m : e_M} : s_j X d 11 116 ls st m = s_x X d 11 [.sipush 0, .jsr 117] ls st m := by
  rw [s_j, s_g_eq, g_l11]; rfl
theorem u_11_117 {X : e_X} {d : Nat} {ls st : List Value} {m : e_M} : s_j X d 11 117 ls st m = s_x X d 11 [.ireturn] ls st m := by
  rw [s_j, s_g_eq, g_l11]; rfl
theorem u_11_118 {X : e_X} {d : Nat} {ls st : List Value} {m : e_M} : s_j X d 11 118 ls st m = s_x X d 11 [.iload 2, .iload 3, .if_icmp .le 127, .sipush 1, .goto 128] ls st m := by
  rw [s_j, s_g_eq, g_l11]; rfl
theorem u_11_127 {X : e_X} {d : Nat} {ls st : List Value} {m : e_M} : s_j X d 11 127 ls st m = s_x X d 11 [.sipush 0, .jsr 128] ls st m := by
  rw [s_j, s_g_eq, g_l11]; rfl
theorem u_11_128 {X : e_X} {d : Nat} {ls st : List Value} {m : e_M} : s_j X d 11 128 ls st m = s_x X d 11 [.ireturn] ls st m := by
  rw [s_j, s_g_eq, g_l11]; rfl
/-- L.empty -/
theorem g_l12 (l : Nat) : g_P 12 l = (g_c12.lookup l).getD [] := rfl
theorem v_12 {X : e_X} {d : Nat} (a0 : Nat) {m : e_M} : s_S X (d + 1) 12 [.ref a0] m = s_j X d 12 0 [.ref a0] [] m := rfl
theorem u_12_0 {X : e_X} {d : Nat} {ls st : List Value} {m : e_M} : s_j X d 12 0 ls st m = s_x X d 12 [.aload 0, .sipush 0, .putfield 69, .aload 0, .sipush 0, .putfield 70, .return_] ls st m := by
  rw [s_j, s_g_eq, g_l12]; rfl
/-- L.comparison -/
theorem g_l13 (l : Nat) : g_P 13 l = (g_c13.lookup l).getD [] := rfl
theorem v_13 {X : e_X} {d : Nat} (a0 : Int32) (a1 : Int32) (a2 : Int32) {m : e_M} : s_S X (d + 1) 13 [.int a0, .int a1, .int a2] m = s_j X d 13 0 [.int a0, .int a1, .int a2] [] m := rfl
theorem u_13_0 {X : e_X} {d : Nat} {ls st : List Value} {m : e_M} : s_j X d 13 0 ls st m = s_x X d 13 [.iload 1, .sipush 28, .ishl, .iload 0, .sipush 14, .ishl, .ior, .iload 2, .ior, .ireturn] ls st m := by
  rw [s_j, s_g_eq, g_l13]; rfl
/-- L.append -/
theorem g_l14 (l : Nat) : g_P 14 l = (g_c14.lookup l).getD [] := rfl
theorem v_14 {X : e_X} {d : Nat} (a0 : Nat) (a1 : Int32) {m : e_M} : s_S X (d + 1) 14 [.ref a0, .int a1] m = s_j X d 14 0 [.ref a0, .int a1] [] m := rfl
theorem u_14_0 {X : e_X} {d : Nat} {ls st : List Value} {m : e_M} : s_j X d 14 0 ls st m = s_x X d 14 [.aload 0, .getfield 70, .sipush 200, .if_icmp .ge 27, .aload 0, .checkcast 67, .aload 0, .dup, .getfield 70, .dup_x1, .sipush 1, .iadd, .putfield 70, .iload 1, .iastore, .jsr 27] ls st m := by
  rw [s_j, s_g_eq, g_l14]; rfl
theorem u_14_27 {X : e_X} {d : Nat} {ls st : List Value} {m : e_M} : s_j X d 14 27 ls st m = s_x X d 14 [.return_] ls st m := by
  rw [s_j, s_g_eq, g_l14]; rfl
/-- L.close -/
theorem g_l15 (l : Nat) : g_P 15 l = (g_c15.lookup l).getD [] := rfl
theorem v_15 {X : e_X} {d : Nat} (a0 : Nat) (a1 : Int32) (a2 : Int32) {m : e_M} : s_S X (d + 1) 15 [.ref a0, .int a1, .int a2] m = s_j X d 15 0 [.ref a0, .int a1, .int a2] [] m := rfl
theorem u_15_0 {X : e_X} {d : Nat} {ls st : List Value} {m : e_M} : s_j X d 15 0 ls st m = s_x X d 15 [.aload 0, .getfield 69, .sipush 8, .if_icmp .lt 10, .return_] ls st m := by
  rw [s_j, s_g_eq, g_l15]; rfl
theorem u_15_10 {X : e_X} {d : Nat} {ls st : List Value} {m : e_M} : s_j X d 15 10 ls st m = s_x X d 15 [.aload 0, .checkcast 64, .aload 0, .getfield 69, .iload 1, .iastore, .aload 0, .checkcast 65, .aload 0, .getfield 69, .iload 2, .iastore, .aload 0, .checkcast 66, .aload 0, .getfield 69, .aload 0, .getfield 70, .iastore, .aload 0, .dup, .getfield 69, .sipush 1, .iadd, .putfield 69, .return_] ls st m := by
  rw [s_j, s_g_eq, g_l15]; rfl
/-- L.copyFrom -/
theorem g_l16 (l : Nat) : g_P 16 l = (g_c16.lookup l).getD [] := rfl
theorem v_16 {X : e_X} {d : Nat} (a0 : Nat) (a1 : Nat) {m : e_M} : s_S X (d + 1) 16 [.ref a0, .ref a1] m = s_j X d 16 0 [.ref a0, .ref a1] [] m := rfl
theorem u_16_0 {X : e_X} {d : Nat} {ls st : List Value} {m : e_M} : s_j X d 16 0 ls st m = s_x X d 16 [.aload 1, .checkcast 64, .sipush 0, .aload 0, .checkcast 64, .sipush 0, .sipush 8, .dmul, .aload 1, .checkcast 65, .sipush 0, .aload 0, .checkcast 65, .sipush 0, .sipush 8, .dmul, .aload 1, .checkcast 66, .sipush 0, .aload 0, .checkcast 66, .sipush 0, .sipush 8, .dmul, .aload 1, .checkcast 67, .sipush 0, .aload 0, .checkcast 67, .sipush 0, .sipush 200, .dmul, .aload 0, .aload 1, .getfield 69, .putfield 69, .aload 0, .aload 1, .getfield 70, .putfield 70, .return_] ls st m := by
  rw [s_j, s_g_eq, g_l16]; rfl
/-- P.tryAll -/
theorem g_l18 (l : Nat) : g_P 18 l = (g_c18.lookup l).getD [] := rfl
theorem v_18 {X : e_X} {d : Nat} (a0 : Nat) (a1 : Int32) (a2 : Int32) {m : e_M} : s_S X (d + 1) 18 [.ref a0, .int a1, .int a2] m = s_j X d 18 0 [.ref a0, .int a1, .int a2] [] m := rfl
theorem u_18_0 {X : e_X} {d : Nat} {ls st : List Value} {m : e_M} : s_j X d 18 0 ls st m = s_x X d 18 [.aload 0, .sipush 4, .aload 0, .checkcast 128, .iload 1, .invokeinterface 86 2, .dsub, .putfield 131, .aload 0, .iload 2, .putfield 132, .aload 0, .sipush 0, .putfield 133, .aload 0, .sipush 0, .putfield 134, .aload 0, .sipush (-3), .putfield 135, .aload 0, .sipush 0, .putfield 136, .aload 0, .sipush 0, .sipush 0, .sipush 0, .invokeinterface 19 4, .return_] ls st m := by
  rw [s_j, s_g_eq, g_l18]; rfl
/-- P.tryFrom -/
theorem g_l19 (l : Nat) : g_P 19 l = (g_c19.lookup l).getD [] := rfl
theorem v_19 {X : e_X} {d : Nat} (a0 : Nat) (a1 : Int32) (a2 : Int32) (a3 : Int32) {m : e_M} : s_S X (d + 1) 19 [.ref a0, .int a1, .int a2, .int a3] m = s_j X d 19 0 [.ref a0, .int a1, .int a2, .int a3, .retAddr 0, .retAddr 0, .retAddr 0] [] m := rfl
theorem u_19_0 {X : e_X} {d : Nat} {ls st : List Value} {m : e_M} : s_j X d 19 0 ls st m = s_x X d 19 [.iload 1, .aload 0, .getfield 131, .if_icmp .lt 15, .aload 0, .iload 2, .iload 3, .invokeinterface 20 3, .return_] ls st m := by
  rw [s_j, s_g_eq, g_l19]; rfl
theorem u_19_15 {X : e_X} {d : Nat} {ls st : List Value} {m : e_M} : s_j X d 19 15 ls st m = s_x X d 19 [.aload 0, .checkcast 128, .invokeinterface 85 1, .istore 4, .sipush 0, .istore 5, .jsr 27] ls st m := by
  rw [s_j, s_g_eq, g_l19]; rfl
theorem u_19_27 {X : e_X} {d : Nat} {ls st : List Value} {m : e_M} : s_j X d 19 27 ls st m = s_x X d 19 [.iload 5, .aload 0, .checkcast 128, .getfield 521, .if_icmp .gt 96, .aload 0, .checkcast 129, .iload 1, .iload 5, .iastore, .aload 0, .checkcast 128, .iload 5, .invokeinterface 79 2, .istore 6, .aload 0, .iload 1, .sipush 1, .iadd, .iload 2, .iload 6, .iadd, .iload 5, .ifCond .ne 75, .iload 3, .goto 78] ls st m := by
  rw [s_j, s_g_eq, g_l19]; rfl
theorem u_19_75 {X : e_X} {d : Nat} {ls st : List Value} {m : e_M} : s_j X d 19 75 ls st m = s_x X d 19 [.iload 3, .sipush 1, .iadd, .jsr 78] ls st m := by
  rw [s_j, s_g_eq, g_l19]; rfl
theorem u_19_78 {X : e_X} {d : Nat} {ls st : List Value} {m : e_M} : s_j X d 19 78 ls st m = s_x X d 19 [.invokeinterface 19 4, .aload 0, .checkcast 128, .iload 4, .invokeinterface 87 2, .iinc 5 1, .goto 27] ls st m := by
  rw [s_j, s_g_eq, g_l19]; rfl
theorem u_19_96 {X : e_X} {d : Nat} {ls st : List Value} {m : e_M} : s_j X d 19 96 ls st m = s_x X d 19 [.return_] ls st m := by
  rw [s_j, s_g_eq, g_l19]; rfl
/-- P.weigh -/
theorem g_l20 (l : Nat) : g_P 20 l = (g_c20.lookup l).getD [] := rfl
theorem v_20 {X : e_X} {d : Nat} (a0 : Nat) (a1 : Int32) (a2 : Int32) {m : e_M} : s_S X (d + 1) 20 [.ref a0, .int a1, .int a2] m = s_j X d 20 0 [.ref a0, .int a1, .int a2, .retAddr 0] [] m := rfl
theorem u_20_0 {X : e_X} {d : Nat} {ls st : List Value} {m : e_M} : s_j X d 20 0 ls st m = s_x X d 20 [.aload 0, .getfield 134, .ifCond .eq 15, .iload 1, .aload 0, .getfield 133, .if_icmp .le 39, .jsr 15] ls st m := by
  rw [s_j, s_g_eq, g_l20]; rfl
theorem u_20_15 {X : e_X} {d : Nat} {ls st : List Value} {m : e_M} : s_j X d 20 15 ls st m = s_x X d 20 [.aload 0, .iload 1, .putfield 133, .aload 0, .sipush 0, .putfield 134, .aload 0, .checkcast 129, .sipush 0, .aload 0, .checkcast 130, .sipush 0, .sipush 4, .dmul, .jsr 39] ls st m := by
  rw [s_j, s_g_eq, g_l20]; rfl
theorem u_20_39 {X : e_X} {d : Nat} {ls st : List Value} {m : e_M} : s_j X d 20 39 ls st m = s_x X d 20 [.iload 1, .aload 0, .getfield 133, .if_icmp .ne 57, .aload 0, .dup, .getfield 134, .sipush 1, .iadd, .putfield 134, .jsr 57] ls st m := by
  rw [s_j, s_g_eq, g_l20]; rfl
theorem u_20_57 {X : e_X} {d : Nat} {ls st : List Value} {m : e_M} : s_j X d 20 57 ls st m = s_x X d 20 [.aload 0, .dup, .getfield 136, .aload 0, .checkcast 128, .getfield 522, .ior, .putfield 136, .aload 0, .checkcast 128, .getfield 522, .aload 0, .getfield 132, .iand, .aload 0, .getfield 132, .if_icmp .ne 96, .sipush 1, .goto 97] ls st m := by
  rw [s_j, s_g_eq, g_l20]; rfl
theorem u_20_96 {X : e_X} {d : Nat} {ls st : List Value} {m : e_M} : s_j X d 20 96 ls st m = s_x X d 20 [.sipush 0, .jsr 97] ls st m := by
  rw [s_j, s_g_eq, g_l20]; rfl
theorem u_20_97 {X : e_X} {d : Nat} {ls st : List Value} {m : e_M} : s_j X d 20 97 ls st m = s_x X d 20 [.istore 3, .iload 3, .ifCond .eq 124, .aload 0, .getfield 135, .sipush (-3), .if_icmp .eq 119, .iload 2, .aload 0, .getfield 135, .if_icmp .ge 124, .jsr 119] ls st m := by
  rw [s_j, s_g_eq, g_l20]; rfl
theorem u_20_119 {X : e_X} {d : Nat} {ls st : List Value} {m : e_M} : s_j X d 20 119 ls st m = s_x X d 20 [.aload 0, .iload 2, .putfield 135, .jsr 124] ls st m := by
  rw [s_j, s_g_eq, g_l20]; rfl
theorem u_20_124 {X : e_X} {d : Nat} {ls st : List Value} {m : e_M} : s_j X d 20 124 ls st m = s_x X d 20 [.return_] ls st m := by
  rw [s_j, s_g_eq, g_l20]; rfl
/-- P.valueOfGame -/
theorem g_l21 (l : Nat) : g_P 21 l = (g_c21.lookup l).getD [] := rfl
theorem v_21 {X : e_X} {d : Nat} (a0 : Nat) (a1 : Int32) (a2 : Int32) {m : e_M} : s_S X (d + 1) 21 [.ref a0, .int a1, .int a2] m = s_j X d 21 0 [.ref a0, .int a1, .int a2, .retAddr 0, .retAddr 0, .retAddr 0] [] m := rfl
theorem u_21_0 {X : e_X} {d : Nat} {ls st : List Value} {m : e_M} : s_j X d 21 0 ls st m = s_x X d 21 [.iload 1, .ifCond .gt 6, .sipush 0, .ireturn] ls st m := by
  rw [s_j, s_g_eq, g_l21]; rfl
theorem u_21_6 {X : e_X} {d : Nat} {ls st : List Value} {m : e_M} : s_j X d 21 6 ls st m = s_x X d 21 [.sipush 0, .istore 3, .sipush 0, .istore 4, .jsr 11] ls st m := by
  rw [s_j, s_g_eq, g_l21]; rfl
theorem u_21_11 {X : e_X} {d : Nat} {ls st : List Value} {m : e_M} : s_j X d 21 11 ls st m = s_x X d 21 [.iload 4, .aload 0, .checkcast 128, .getfield 521, .if_icmp .gt 66, .aload 0, .iload 4, .iload 1, .iload 2, .invokeinterface 22 4, .istore 5, .iload 4, .ifCond .eq 57, .iload 2, .ifCond .eq 51, .iload 5, .iload 3, .if_icmp .le 60, .goto 57] ls st m := by
  rw [s_j, s_g_eq, g_l21]; rfl
theorem u_21_51 {X : e_X} {d : Nat} {ls st : List Value} {m : e_M} : s_j X d 21 51 ls st m = s_x X d 21 [.iload 5, .iload 3, .if_icmp .ge 60, .jsr 57] ls st m := by
  rw [s_j, s_g_eq, g_l21]; rfl
theorem u_21_57 {X : e_X} {d : Nat} {ls st : List Value} {m : e_M} : s_j X d 21 57 ls st m = s_x X d 21 [.iload 5, .istore 3, .jsr 60] ls st m := by
  rw [s_j, s_g_eq, g_l21]; rfl
theorem u_21_60 {X : e_X} {d : Nat} {ls st : List Value} {m : e_M} : s_j X d 21 60 ls st m = s_x X d 21 [.iinc 4 1, .goto 11] ls st m := by
  rw [s_j, s_g_eq, g_l21]; rfl
theorem u_21_66 {X : e_X} {d : Nat} {ls st : List Value} {m : e_M} : s_j X d 21 66 ls st m = s_x X d 21 [.iload 3, .ireturn] ls st m := by
  rw [s_j, s_g_eq, g_l21]; rfl
/-- P.valueOfAct -/
theorem g_l22 (l : Nat) : g_P 22 l = (g_c22.lookup l).getD [] := rfl
theorem v_22 {X : e_X} {d : Nat} (a0 : Nat) (a1 : Int32) (a2 : Int32) (a3 : Int32) {m : e_M} : s_S X (d + 1) 22 [.ref a0, .int a1, .int a2, .int a3] m = s_j X d 22 0 [.ref a0, .int a1, .int a2, .int a3, .retAddr 0, .retAddr 0, .retAddr 0] [] m := rfl
theorem u_22_0 {X : e_X} {d : Nat} {ls st : List Value} {m : e_M} : s_j X d 22 0 ls st m = s_x X d 22 [.aload 0, .checkcast 128, .invokeinterface 85 1, .istore 4, .aload 0, .checkcast 128, .iload 1, .invokeinterface 79 2, .istore 5, .iload 5, .aload 0, .iload 2, .sipush 1, .isub, .iload 3, .ifCond .ne 33, .sipush 1, .goto 34] ls st m := by
  rw [s_j, s_g_eq, g_l22]; rfl
theorem u_22_33 {X : e_X} {d : Nat} {ls st : List Value} {m : e_M} : s_j X d 22 33 ls st m = s_x X d 22 [.sipush 0, .jsr 34] ls st m := by
  rw [s_j, s_g_eq, g_l22]; rfl
theorem u_22_34 {X : e_X} {d : Nat} {ls st : List Value} {m : e_M} : s_j X d 22 34 ls st m = s_x X d 22 [.invokeinterface 21 3, .iadd, .istore 6, .aload 0, .checkcast 128, .iload 4, .invokeinterface 87 2, .iload 6, .ireturn] ls st m := by
  rw [s_j, s_g_eq, g_l22]; rfl
/-- P.leastGoodAct -/
theorem g_l23 (l : Nat) : g_P 23 l = (g_c23.lookup l).getD [] := rfl
theorem v_23 {X : e_X} {d : Nat} (a0 : Nat) (a1 : Int32) {m : e_M} : s_S X (d + 1) 23 [.ref a0, .int a1] m = s_j X d 23 0 [.ref a0, .int a1, .retAddr 0, .retAddr 0, .retAddr 0, .retAddr 0] [] m := rfl
theorem u_23_0 {X : e_X} {d : Nat} {ls st : List Value} {m : e_M} : s_j X d 23 0 ls st m = s_x X d 23 [.sipush 0, .istore 2, .aload 0, .sipush 0, .iload 1, .sipush 1, .invokeinterface 22 4, .istore 3, .sipush 1, .istore 4, .jsr 13] ls st m := by
  rw [s_j, s_g_eq, g_l23]; rfl
theorem u_23_13 {X : e_X} {d : Nat} {ls st : List Value} {m : e_M} : s_j X d 23 13 ls st m = s_x X d 23 [.iload 4, .aload 0, .checkcast 128, .getfield 521, .if_icmp .gt 53, .aload 0, .iload 4, .iload 1, .sipush 1, .invokeinterface 22 4, .istore 5, .iload 5, .iload 3, .if_icmp .le 47, .iload 5, .istore 3, .iload 4, .istore 2, .jsr 47] ls st m := by
  rw [s_j, s_g_eq, g_l23]; rfl
theorem u_23_47 {X : e_X} {d : Nat} {ls st : List Value} {m : e_M} : s_j X d 23 47 ls st m = s_x X d 23 [.iinc 4 1, .goto 13] ls st m := by
  rw [s_j, s_g_eq, g_l23]; rfl
theorem u_23_53 {X : e_X} {d : Nat} {ls st : List Value} {m : e_M} : s_j X d 23 53 ls st m = s_x X d 23 [.iload 2, .ireturn] ls st m := by
  rw [s_j, s_g_eq, g_l23]; rfl
/-- R.takeBytes -/
theorem g_l25 (l : Nat) : g_P 25 l = (g_c25.lookup l).getD [] := rfl
theorem v_25 {X : e_X} {d : Nat} (a0 : Nat) (a1 : Int64) (a2 : Int32) {m : e_M} : s_S X (d + 1) 25 [.ref a0, .long a1, .int a2] m = s_j X d 25 0 [.ref a0, .long a1, .retAddr 0, .int a2, .retAddr 0] [] m := rfl
theorem u_25_0 {X : e_X} {d : Nat} {ls st : List Value} {m : e_M} : s_j X d 25 0 ls st m = s_x X d 25 [.sipush 0, .istore 4, .jsr 3] ls st m := by
  rw [s_j, s_g_eq, g_l25]; rfl
theorem u_25_3 {X : e_X} {d : Nat} {ls st : List Value} {m : e_M} : s_j X d 25 3 ls st m = s_x X d 25 [.iload 4, .iload 3, .if_icmp .ge 53, .aload 0, .getfield 194, .sipush 200, .if_icmp .ge 53, .aload 0, .checkcast 193, .aload 0, .dup, .getfield 194, .dup_x1, .sipush 1, .iadd, .putfield 194, .lload 1, .sipush 8, .iload 4, .imul, .lushr, .goto_w 255, .land, .l2i, .iastore, .iinc 4 1, .goto 3] ls st m := by
  rw [s_j, s_g_eq, g_l25]; rfl
theorem u_25_53 {X : e_X} {d : Nat} {ls st : List Value} {m : e_M} : s_j X d 25 53 ls st m = s_x X d 25 [.aload 0, .getfield 194, .ireturn] ls st m := by
  rw [s_j, s_g_eq, g_l25]; rfl
/-- R.readAll -/
theorem g_l26 (l : Nat) : g_P 26 l = (g_c26.lookup l).getD [] := rfl
theorem v_26 {X : e_X} {d : Nat} (a0 : Nat) {m : e_M} : s_S X (d + 1) 26 [.ref a0] m = s_j X d 26 0 [.ref a0, .retAddr 0, .retAddr 0] [] m := rfl
theorem u_26_0 {X : e_X} {d : Nat} {ls st : List Value} {m : e_M} : s_j X d 26 0 ls st m = s_x X d 26 [.aload 0, .checkcast 192, .invokeinterface 12 1, .aload 0, .sipush 0, .putfield 195, .aload 0, .sipush 0, .putfield 198, .aload 0, .sipush 0, .putfield 203, .aload 0, .sipush 0, .putfield 205, .aload 0, .invokeinterface 27 1, .istore 1, .sipush 0, .istore 2, .jsr 34] ls st m := by
  rw [s_j, s_g_eq, g_l26]; rfl
theorem u_26_34 {X : e_X} {d : Nat} {ls st : List Value} {m : e_M} : s_j X d 26 34 ls st m = s_x X d 26 [.iload 2, .sipush 200, .if_icmp .ge 66, .iload 1, .sipush 20, .if_icmp .eq 66, .aload 0, .iload 1, .invokeinterface 33 2, .ifCond .eq 66, .aload 0, .invokeinterface 27 1, .istore 1, .iinc 2 1, .goto 34] ls st m := by
  rw [s_j, s_g_eq, g_l26]; rfl
theorem u_26_66 {X : e_X} {d : Nat} {ls st : List Value} {m : e_M} : s_j X d 26 66 ls st m = s_x X d 26 [.aload 0, .sipush 0, .putfield 194, .iload 1, .sipush 20, .if_icmp .ne 88, .aload 0, .getfield 198, .ifCond .ne 88, .sipush (-1), .goto 92] ls st m := by
  rw [s_j, s_g_eq, g_l26]; rfl
theorem u_26_88 {X : e_X} {d : Nat} {ls st : List Value} {m : e_M} : s_j X d 26 88 ls st m = s_x X d 26 [.aload 0, .getfield 196, .jsr 92] ls st m := by
  rw [s_j, s_g_eq, g_l26]; rfl
theorem u_26_92 {X : e_X} {d : Nat} {ls st : List Value} {m : e_M} : s_j X d 26 92 ls st m = s_x X d 26 [.ireturn] ls st m := by
  rw [s_j, s_g_eq, g_l26]; rfl
/-- R.nextWord -/
theorem g_l27 (l : Nat) : g_P 27 l = (g_c27.lookup l).getD [] := rfl
theorem v_27 {X : e_X} {d : Nat} (a0 : Nat) {m : e_M} : s_S X (d + 1) 27 [.ref a0] m = s_j X d 27 0 [.ref a0, .retAddr 0] [] m := rfl
theorem u_27_0 {X : e_X} {d : Nat} {ls st : List Value} {m : e_M} : s_j X d 27 0 ls st m = s_x X d 27 [.aload 0, .getfield 195, .aload 0, .getfield 194, .if_icmp .ge 38, .aload 0, .checkcast 193, .aload 0, .getfield 195, .iaload, .sipush 32, .if_icmp .ne 38, .aload 0, .dup, .getfield 195, .sipush 1, .iadd, .putfield 195, .goto 0] ls st m := by
  rw [s_j, s_g_eq, g_l27]; rfl
theorem u_27_38 {X : e_X} {d : Nat} {ls st : List Value} {m : e_M} : s_j X d 27 38 ls st m = s_x X d 27 [.aload 0, .aload 0, .getfield 195, .putfield 196, .aload 0, .getfield 195, .aload 0, .getfield 194, .if_icmp .lt 60, .sipush 20, .ireturn] ls st m := by
  rw [s_j, s_g_eq, g_l27]; rfl
theorem u_27_60 {X : e_X} {d : Nat} {ls st : List Value} {m : e_M} : s_j X d 27 60 ls st m = s_x X d 27 [.aload 0, .checkcast 193, .aload 0, .getfield 195, .iaload, .istore 1, .iload 1, .invokeinterface 28 1, .ifCond .eq 82, .aload 0, .invokeinterface 29 1, .ireturn] ls st m := by
  rw [s_j, s_g_eq, g_l27]; rfl
theorem u_27_82 {X : e_X} {d : Nat} {ls st : List Value} {m : e_M} : s_j X d 27 82 ls st m = s_x X d 27 [.iload 1, .invokeinterface 30 1, .ifCond .eq 94, .aload 0, .invokeinterface 31 1, .ireturn] ls st m := by
  rw [s_j, s_g_eq, g_l27]; rfl
theorem u_27_94 {X : e_X} {d : Nat} {ls st : List Value} {m : e_M} : s_j X d 27 94 ls st m = s_x X d 27 [.aload 0, .dup, .getfield 195, .sipush 1, .iadd, .putfield 195, .iload 1, .invokeinterface 32 1, .ireturn] ls st m := by
  rw [s_j, s_g_eq, g_l27]; rfl
/-- R.isLetter -/
theorem g_l28 (l : Nat) : g_P 28 l = (g_c28.lookup l).getD [] := rfl
theorem v_28 {X : e_X} {d : Nat} (a0 : Int32) {m : e_M} : s_S X (d + 1) 28 [.int a0] m = s_j X d 28 0 [.int a0] [] m := rfl
theorem u_28_0 {X : e_X} {d : Nat} {ls st : List Value} {m : e_M} : s_j X d 28 0 ls st m = s_x X d 28 [.iload 0, .sipush 97, .if_icmp .lt 16, .iload 0, .sipush 122, .if_icmp .gt 16, .sipush 1, .goto 17] ls st m := by
  rw [s_j, s_g_eq, g_l28]; rfl
theorem u_28_16 {X : e_X} {d : Nat} {ls st : List Value} {m : e_M} : s_j X d 28 16 ls st m = s_x X d 28 [.sipush 0, .jsr 17] ls st m := by
  rw [s_j, s_g_eq, g_l28]; rfl
theorem u_28_17 {X : e_X} {d : Nat} {ls st : List Value} {m : e_M} : s_j X d 28 17 ls st m = s_x X d 28 [.ireturn] ls st m := by
  rw [s_j, s_g_eq, g_l28]; rfl
/-- R.readName -/
theorem g_l29 (l : Nat) : g_P 29 l = (g_c29.lookup l).getD [] := rfl
theorem v_29 {X : e_X} {d : Nat} (a0 : Nat) {m : e_M} : s_S X (d + 1) 29 [.ref a0] m = s_j X d 29 0 [.ref a0, .retAddr 0, .retAddr 0, .retAddr 0, .retAddr 0] [] m := rfl
theorem u_29_0 {X : e_X} {d : Nat} {ls st : List Value} {m : e_M} : s_j X d 29 0 ls st m = s_x X d 29 [.aload 0, .getfield 195, .aload 0, .getfield 194, .if_icmp .ge 39, .aload 0, .checkcast 193, .aload 0, .getfield 195, .iaload, .invokeinterface 28 1, .ifCond .eq 39, .aload 0, .dup, .getfield 195, .sipush 1, .iadd, .putfield 195, .goto 0] ls st m := by
  rw [s_j, s_g_eq, g_l29]; rfl
theorem u_29_39 {X : e_X} {d : Nat} {ls st : List Value} {m : e_M} : s_j X d 29 39 ls st m = s_x X d 29 [.sipush 0, .istore 1, .aload 0, .getfield 196, .istore 2, .sipush 0, .istore 3, .jsr 48] ls st m := by
  rw [s_j, s_g_eq, g_l29]; rfl
theorem u_29_48 {X : e_X} {d : Nat} {ls st : List Value} {m : e_M} : s_j X d 29 48 ls st m = s_x X d 29 [.iload 3, .getstatic 3, .invokeinterface 301 1, .if_icmp .ge 134, .getstatic 3, .iload 3, .invokeinterface 303 2, .istore 4, .iload 4, .sipush 44, .if_icmp .ne 93, .iload 2, .aload 0, .getfield 195, .if_icmp .ne 82, .iload 1, .ireturn] ls st m := by
  rw [s_j, s_g_eq, g_l29]; rfl
theorem u_29_82 {X : e_X} {d : Nat} {ls st : List Value} {m : e_M} : s_j X d 29 82 ls st m = s_x X d 29 [.iinc 1 1, .aload 0, .getfield 196, .istore 2, .goto 128] ls st m := by
  rw [s_j, s_g_eq, g_l29]; rfl
theorem u_29_93 {X : e_X} {d : Nat} {ls st : List Value} {m : e_M} : s_j X d 29 93 ls st m = s_x X d 29 [.iload 2, .aload 0, .getfield 196, .if_icmp .lt 126, .iload 2, .aload 0, .getfield 195, .if_icmp .ge 126, .aload 0, .checkcast 193, .iload 2, .iaload, .iload 4, .if_icmp .ne 126, .iinc 2 1, .goto 128] ls st m := by
  rw [s_j, s_g_eq, g_l29]; rfl
theorem u_29_126 {X : e_X} {d : Nat} {ls st : List Value} {m : e_M} : s_j X d 29 126 ls st m = s_x X d 29 [.sipush (-1), .istore 2, .jsr 128] ls st m := by
  rw [s_j, s_g_eq, g_l29]; rfl
theorem u_29_128 {X : e_X} {d : Nat} {ls st : List Value} {m : e_M} : s_j X d 29 128 ls st m = s_x X d 29 [.iinc 3 1, .goto 48] ls st m := by
  rw [s_j, s_g_eq, g_l29]; rfl
theorem u_29_134 {X : e_X} {d : Nat} {ls st : List Value} {m : e_M} : s_j X d 29 134 ls st m = s_x X d 29 [.sipush 19, .ireturn] ls st m := by
  rw [s_j, s_g_eq, g_l29]; rfl
/-- R.isDigit -/
theorem g_l30 (l : Nat) : g_P 30 l = (g_c30.lookup l).getD [] := rfl
theorem v_30 {X : e_X} {d : Nat} (a0 : Int32) {m : e_M} : s_S X (d + 1) 30 [.int a0] m = s_j X d 30 0 [.int a0] [] m := rfl
theorem u_30_0 {X : e_X} {d : Nat} {ls st : List Value} {m : e_M} : s_j X d 30 0 ls st m = s_x X d 30 [.iload 0, .sipush 48, .if_icmp .lt 16, .iload 0, .sipush 57, .if_icmp .gt 16, .sipush 1, .goto 17] ls st m := by
  rw [s_j, s_g_eq, g_l30]; rfl
theorem u_30_16 {X : e_X} {d : Nat} {ls st : List Value} {m : e_M} : s_j X d 30 16 ls st m = s_x X d 30 [.sipush 0, .jsr 17] ls st m := by
  rw [s_j, s_g_eq, g_l30]; rfl
theorem u_30_17 {X : e_X} {d : Nat} {ls st : List Value} {m : e_M} : s_j X d 30 17 ls st m = s_x X d 30 [.ireturn] ls st m := by
  rw [s_j, s_g_eq, g_l30]; rfl
/-- R.readNumber -/
theorem g_l31 (l : Nat) : g_P 31 l = (g_c31.lookup l).getD [] := rfl
theorem v_31 {X : e_X} {d : Nat} (a0 : Nat) {m : e_M} : s_S X (d + 1) 31 [.ref a0] m = s_j X d 31 0 [.ref a0] [] m := rfl
theorem u_31_0 {X : e_X} {d : Nat} {ls st : List Value} {m : e_M} : s_j X d 31 0 ls st m = s_x X d 31 [.aload 0, .sipush 0, .putfield 197, .jsr 5] ls st m := by
  rw [s_j, s_g_eq, g_l31]; rfl
theorem u_31_5 {X : e_X} {d : Nat} {ls st : List Value} {m : e_M} : s_j X d 31 5 ls st m = s_x X d 31 [.aload 0, .getfield 195, .aload 0, .getfield 194, .if_icmp .ge 81, .aload 0, .checkcast 193, .aload 0, .getfield 195, .iaload, .invokeinterface 30 1, .ifCond .eq 81, .aload 0, .getfield 195, .aload 0, .getfield 196, .isub, .sipush 4, .if_icmp .ge 68, .aload 0, .sipush 10, .aload 0, .getfield 197, .imul, .aload 0, .checkcast 193, .aload 0, .getfield 195, .iaload, .iadd, .sipush 48, .isub, .putfield 197, .jsr 68] ls st m := by
  rw [s_j, s_g_eq, g_l31]; rfl
theorem u_31_68 {X : e_X} {d : Nat} {ls st : List Value} {m : e_M} : s_j X d 31 68 ls st m = s_x X d 31 [.aload 0, .dup, .getfield 195, .sipush 1, .iadd, .putfield 195, .goto 5] ls st m := by
  rw [s_j, s_g_eq, g_l31]; rfl
theorem u_31_81 {X : e_X} {d : Nat} {ls st : List Value} {m : e_M} : s_j X d 31 81 ls st m = s_x X d 31 [.aload 0, .getfield 195, .aload 0, .getfield 196, .isub, .sipush 4, .if_icmp .le 99, .sipush 19, .goto 101] ls st m := by
  rw [s_j, s_g_eq, g_l31]; rfl
theorem u_31_99 {X : e_X} {d : Nat} {ls st : List Value} {m : e_M} : s_j X d 31 99 ls st m = s_x X d 31 [.sipush 18, .jsr 101] ls st m := by
  rw [s_j, s_g_eq, g_l31]; rfl
theorem u_31_101 {X : e_X} {d : Nat} {ls st : List Value} {m : e_M} : s_j X d 31 101 ls st m = s_x X d 31 [.ireturn] ls st m := by
  rw [s_j, s_g_eq, g_l31]; rfl
/-- R.signWord -/
theorem g_l32 (l : Nat) : g_P 32 l = (g_c32.lookup l).getD [] := rfl
theorem v_32 {X : e_X} {d : Nat} (a0 : Int32) {m : e_M} : s_S X (d + 1) 32 [.int a0] m = s_j X d 32 0 [.int a0] [] m := rfl
theorem u_32_0 {X : e_X} {d : Nat} {ls st : List Value} {m : e_M} : s_j X d 32 0 ls st m = s_x X d 32 [.iload 0, .lookupswitch 78 #[(40, 69), (41, 72), (59, 75), (60, 60), (61, 63), (62, 66)]] ls st m := by
  rw [s_j, s_g_eq, g_l32]; rfl
theorem u_32_60 {X : e_X} {d : Nat} {ls st : List Value} {m : e_M} : s_j X d 32 60 ls st m = s_x X d 32 [.sipush 21, .ireturn] ls st m := by
  rw [s_j, s_g_eq, g_l32]; rfl
theorem u_32_63 {X : e_X} {d : Nat} {ls st : List Value} {m : e_M} : s_j X d 32 63 ls st m = s_x X d 32 [.sipush 22, .ireturn] ls st m := by
  rw [s_j, s_g_eq, g_l32]; rfl
theorem u_32_66 {X : e_X} {d : Nat} {ls st : List Value} {m : e_M} : s_j X d 32 66 ls st m = s_x X d 32 [.sipush 23, .ireturn] ls st m := by
  rw [s_j, s_g_eq, g_l32]; rfl
theorem u_32_69 {X : e_X} {d : Nat} {ls st : List Value} {m : e_M} : s_j X d 32 69 ls st m = s_x X d 32 [.sipush 24, .ireturn] ls st m := by
  rw [s_j, s_g_eq, g_l32]; rfl
theorem u_32_72 {X : e_X} {d : Nat} {ls st : List Value} {m : e_M} : s_j X d 32 72 ls st m = s_x X d 32 [.sipush 25, .ireturn] ls st m := by
  rw [s_j, s_g_eq, g_l32]; rfl
theorem u_32_75 {X : e_X} {d : Nat} {ls st : List Value} {m : e_M} : s_j X d 32 75 ls st m = s_x X d 32 [.sipush 26, .ireturn] ls st m := by
  rw [s_j, s_g_eq, g_l32]; rfl
theorem u_32_78 {X : e_X} {d : Nat} {ls st : List Value} {m : e_M} : s_j X d 32 78 ls st m = s_x X d 32 [.sipush 19, .ireturn] ls st m := by
  rw [s_j, s_g_eq, g_l32]; rfl
/-- R.mayStand -/
theorem g_l33 (l : Nat) : g_P 33 l = (g_c33.lookup l).getD [] := rfl
theorem v_33 {X : e_X} {d : Nat} (a0 : Nat) (a1 : Int32) {m : e_M} : s_S X (d + 1) 33 [.ref a0, .int a1] m = s_j X d 33 0 [.ref a0, .int a1] [] m := rfl
theorem u_33_0 {X : e_X} {d : Nat} {ls st : List Value} {m : e_M} : s_j X d 33 0 ls st m = s_x X d 33 [.aload 0, .getfield 198, .lookupswitch 80 #[(0, 44), (1, 50), (2, 56), (3, 62), (4, 68), (5, 74)]] ls st m := by
  rw [s_j, s_g_eq, g_l33]; rfl
theorem u_33_44 {X : e_X} {d : Nat} {ls st : List Value} {m : e_M} : s_j X d 33 44 ls st m = s_x X d 33 [.aload 0, .iload 1, .invokeinterface 34 2, .ireturn] ls st m := by
  rw [s_j, s_g_eq, g_l33]; rfl
theorem u_33_50 {X : e_X} {d : Nat} {ls st : List Value} {m : e_M} : s_j X d 33 50 ls st m = s_x X d 33 [.aload 0, .iload 1, .invokeinterface 35 2, .ireturn] ls st m := by
  rw [s_j, s_g_eq, g_l33]; rfl
theorem u_33_56 {X : e_X} {d : Nat} {ls st : List Value} {m : e_M} : s_j X d 33 56 ls st m = s_x X d 33 [.aload 0, .iload 1, .invokeinterface 37 2, .ireturn] ls st m := by
  rw [s_j, s_g_eq, g_l33]; rfl
theorem u_33_62 {X : e_X} {d : Nat} {ls st : List Value} {m : e_M} : s_j X d 33 62 ls st m = s_x X d 33 [.aload 0, .iload 1, .invokeinterface 41 2, .ireturn] ls st m := by
  rw [s_j, s_g_eq, g_l33]; rfl
theorem u_33_68 {X : e_X} {d : Nat} {ls st : List Value} {m : e_M} : s_j X d 33 68 ls st m = s_x X d 33 [.aload 0, .iload 1, .invokeinterface 42 2, .ireturn] ls st m := by
  rw [s_j, s_g_eq, g_l33]; rfl
theorem u_33_74 {X : e_X} {d : Nat} {ls st : List Value} {m : e_M} : s_j X d 33 74 ls st m = s_x X d 33 [.aload 0, .iload 1, .invokeinterface 44 2, .ireturn] ls st m := by
  rw [s_j, s_g_eq, g_l33]; rfl
theorem u_33_80 {X : e_X} {d : Nat} {ls st : List Value} {m : e_M} : s_j X d 33 80 ls st m = s_x X d 33 [.aload 0, .iload 1, .invokeinterface 47 2, .ireturn] ls st m := by
  rw [s_j, s_g_eq, g_l33]; rfl
/-- R.takeKind -/
theorem g_l34 (l : Nat) : g_P 34 l = (g_c34.lookup l).getD [] := rfl
theorem v_34 {X : e_X} {d : Nat} (a0 : Nat) (a1 : Int32) {m : e_M} : s_S X (d + 1) 34 [.ref a0, .int a1] m = s_j X d 34 0 [.ref a0, .int a1] [] m := rfl
theorem u_34_0 {X : e_X} {d : Nat} {ls st : List Value} {m : e_M} : s_j X d 34 0 ls st m = s_x X d 34 [.iload 1, .sipush 5, .if_icmp .gt 17, .aload 0, .checkcast 192, .getfield 69, .sipush 8, .if_icmp .lt 19, .jsr 17] ls st m := by
  rw [s_j, s_g_eq, g_l34]; rfl
theorem u_34_17 {X : e_X} {d : Nat} {ls st : List Value} {m : e_M} : s_j X d 34 17 ls st m = s_x X d 34 [.sipush 0, .ireturn] ls st m := by
  rw [s_j, s_g_eq, g_l34]; rfl
theorem u_34_19 {X : e_X} {d : Nat} {ls st : List Value} {m : e_M} : s_j X d 34 19 ls st m = s_x X d 34 [.aload 0, .iload 1, .putfield 199, .aload 0, .sipush 1, .putfield 198, .sipush 1, .ireturn] ls st m := by
  rw [s_j, s_g_eq, g_l34]; rfl
/-- R.takeTail -/
theorem g_l35 (l : Nat) : g_P 35 l = (g_c35.lookup l).getD [] := rfl
theorem v_35 {X : e_X} {d : Nat} (a0 : Nat) (a1 : Int32) {m : e_M} : s_S X (d + 1) 35 [.ref a0, .int a1] m = s_j X d 35 0 [.ref a0, .int a1] [] m := rfl
theorem u_35_0 {X : e_X} {d : Nat} {ls st : List Value} {m : e_M} : s_j X d 35 0 ls st m = s_x X d 35 [.iload 1, .sipush 9, .if_icmp .eq 12, .aload 0, .iload 1, .invokeinterface 36 2, .ireturn] ls st m := by
  rw [s_j, s_g_eq, g_l35]; rfl
theorem u_35_12 {X : e_X} {d : Nat} {ls st : List Value} {m : e_M} : s_j X d 35 12 ls st m = s_x X d 35 [.aload 0, .sipush 2, .putfield 198, .sipush 1, .ireturn] ls st m := by
  rw [s_j, s_g_eq, g_l35]; rfl
/-- R.takeWill -/
theorem g_l36 (l : Nat) : g_P 36 l = (g_c36.lookup l).getD [] := rfl
theorem v_36 {X : e_X} {d : Nat} (a0 : Nat) (a1 : Int32) {m : e_M} : s_S X (d + 1) 36 [.ref a0, .int a1] m = s_j X d 36 0 [.ref a0, .int a1] [] m := rfl
theorem u_36_0 {X : e_X} {d : Nat} {ls st : List Value} {m : e_M} : s_j X d 36 0 ls st m = s_x X d 36 [.iload 1, .sipush 6, .sipush 8, .invokeinterface 109 3, .ifCond .eq 13, .sipush 0, .ireturn] ls st m := by
  rw [s_j, s_g_eq, g_l36]; rfl
theorem u_36_13 {X : e_X} {d : Nat} {ls st : List Value} {m : e_M} : s_j X d 36 13 ls st m = s_x X d 36 [.aload 0, .iload 1, .sipush 6, .isub, .putfield 200, .aload 0, .sipush 6, .putfield 198, .sipush 1, .ireturn] ls st m := by
  rw [s_j, s_g_eq, g_l36]; rfl
/-- R.takeOne -/
theorem g_l37 (l : Nat) : g_P 37 l = (g_c37.lookup l).getD [] := rfl
theorem v_37 {X : e_X} {d : Nat} (a0 : Nat) (a1 : Int32) {m : e_M} : s_S X (d + 1) 37 [.ref a0, .int a1] m = s_j X d 37 0 [.ref a0, .int a1] [] m := rfl
theorem u_37_0 {X : e_X} {d : Nat} {ls st : List Value} {m : e_M} : s_j X d 37 0 ls st m = s_x X d 37 [.iload 1, .sipush 12, .if_icmp .ne 13, .aload 0, .sipush 12, .invokeinterface 38 2, .ireturn] ls st m := by
  rw [s_j, s_g_eq, g_l37]; rfl
theorem u_37_13 {X : e_X} {d : Nat} {ls st : List Value} {m : e_M} : s_j X d 37 13 ls st m = s_x X d 37 [.iload 1, .sipush 24, .if_icmp .ne 52, .aload 0, .dup, .getfield 203, .sipush 1, .iadd, .putfield 203, .aload 0, .getfield 203, .sipush 3, .if_icmp .gt 50, .aload 0, .sipush 24, .invokeinterface 38 2, .ifCond .eq 50, .sipush 1, .goto 51] ls st m := by
  rw [s_j, s_g_eq, g_l37]; rfl
theorem u_37_50 {X : e_X} {d : Nat} {ls st : List Value} {m : e_M} : s_j X d 37 50 ls st m = s_x X d 37 [.sipush 0, .jsr 51] ls st m := by
  rw [s_j, s_g_eq, g_l37]; rfl
theorem u_37_51 {X : e_X} {d : Nat} {ls st : List Value} {m : e_M} : s_j X d 37 51 ls st m = s_x X d 37 [.ireturn] ls st m := by
  rw [s_j, s_g_eq, g_l37]; rfl
theorem u_37_52 {X : e_X} {d : Nat} {ls st : List Value} {m : e_M} : s_j X d 37 52 ls st m = s_x X d 37 [.iload 1, .invokeinterface 39 1, .ifCond .ne 61, .sipush 0, .ireturn] ls st m := by
  rw [s_j, s_g_eq, g_l37]; rfl
theorem u_37_61 {X : e_X} {d : Nat} {ls st : List Value} {m : e_M} : s_j X d 37 61 ls st m = s_x X d 37 [.aload 0, .aload 0, .iload 1, .invokeinterface 40 2, .putfield 201, .aload 0, .sipush 3, .putfield 198, .sipush 1, .ireturn] ls st m := by
  rw [s_j, s_g_eq, g_l37]; rfl
/-- R.waitWith -/
theorem g_l38 (l : Nat) : g_P 38 l = (g_c38.lookup l).getD [] := rfl
theorem v_38 {X : e_X} {d : Nat} (a0 : Nat) (a1 : Int32) {m : e_M} : s_S X (d + 1) 38 [.ref a0, .int a1] m = s_j X d 38 0 [.ref a0, .int a1] [] m := rfl
theorem u_38_0 {X : e_X} {d : Nat} {ls st : List Value} {m : e_M} : s_j X d 38 0 ls st m = s_x X d 38 [.aload 0, .getfield 205, .sipush 200, .if_icmp .lt 12, .sipush 0, .ireturn] ls st m := by
  rw [s_j, s_g_eq, g_l38]; rfl
theorem u_38_12 {X : e_X} {d : Nat} {ls st : List Value} {m : e_M} : s_j X d 38 12 ls st m = s_x X d 38 [.aload 0, .checkcast 204, .aload 0, .dup, .getfield 205, .dup_x1, .sipush 1, .iadd, .putfield 205, .iload 1, .iastore, .sipush 1, .ireturn] ls st m := by
  rw [s_j, s_g_eq, g_l38]; rfl
/-- R.isValue -/
theorem g_l39 (l : Nat) : g_P 39 l = (g_c39.lookup l).getD [] := rfl
theorem v_39 {X : e_X} {d : Nat} (a0 : Int32) {m : e_M} : s_S X (d + 1) 39 [.int a0] m = s_j X d 39 0 [.int a0] [] m := rfl
theorem u_39_0 {X : e_X} {d : Nat} {ls st : List Value} {m : e_M} : s_j X d 39 0 ls st m = s_x X d 39 [.iload 0, .sipush 18, .if_icmp .eq 17, .iload 0, .sipush 13, .sipush 17, .invokeinterface 109 3, .ifCond .ne 21, .jsr 17] ls st m := by
  rw [s_j, s_g_eq, g_l39]; rfl
theorem u_39_17 {X : e_X} {d : Nat} {ls st : List Value} {m : e_M} : s_j X d 39 17 ls st m = s_x X d 39 [.sipush 1, .goto 22] ls st m := by
  rw [s_j, s_g_eq, g_l39]; rfl
theorem u_39_21 {X : e_X} {d : Nat} {ls st : List Value} {m : e_M} : s_j X d 39 21 ls st m = s_x X d 39 [.sipush 0, .jsr 22] ls st m := by
  rw [s_j, s_g_eq, g_l39]; rfl
theorem u_39_22 {X : e_X} {d : Nat} {ls st : List Value} {m : e_M} : s_j X d 39 22 ls st m = s_x X d 39 [.ireturn] ls st m := by
  rw [s_j, s_g_eq, g_l39]; rfl
/-- R.valueOf -/
theorem g_l40 (l : Nat) : g_P 40 l = (g_c40.lookup l).getD [] := rfl
theorem v_40 {X : e_X} {d : Nat} (a0 : Nat) (a1 : Int32) {m : e_M} : s_S X (d + 1) 40 [.ref a0, .int a1] m = s_j X d 40 0 [.ref a0, .int a1] [] m := rfl
theorem u_40_0 {X : e_X} {d : Nat} {ls st : List Value} {m : e_M} : s_j X d 40 0 ls st m = s_x X d 40 [.iload 1, .sipush 18, .if_icmp .ne 13, .aload 0, .getfield 197, .goto 21] ls st m := by
  rw [s_j, s_g_eq, g_l40]; rfl
theorem u_40_13 {X : e_X} {d : Nat} {ls st : List Value} {m : e_M} : s_j X d 40 13 ls st m = s_x X d 40 [.sipush 10000, .iload 1, .iadd, .sipush 13, .isub, .jsr 21] ls st m := by
  rw [s_j, s_g_eq, g_l40]; rfl
theorem u_40_21 {X : e_X} {d : Nat} {ls st : List Value} {m : e_M} : s_j X d 40 21 ls st m = s_x X d 40 [.ireturn] ls st m := by
  rw [s_j, s_g_eq, g_l40]; rfl
/-- R.takeSign -/
theorem g_l41 (l : Nat) : g_P 41 l = (g_c41.lookup l).getD [] := rfl
theorem v_41 {X : e_X} {d : Nat} (a0 : Nat) (a1 : Int32) {m : e_M} : s_S X (d + 1) 41 [.ref a0, .int a1] m = s_j X d 41 0 [.ref a0, .int a1] [] m := rfl
theorem u_41_0 {X : e_X} {d : Nat} {ls st : List Value} {m : e_M} : s_j X d 41 0 ls st m = s_x X d 41 [.iload 1, .sipush 21, .sipush 23, .invokeinterface 109 3, .ifCond .eq 13, .sipush 0, .ireturn] ls st m := by
  rw [s_j, s_g_eq, g_l41]; rfl
theorem u_41_13 {X : e_X} {d : Nat} {ls st : List Value} {m : e_M} : s_j X d 41 13 ls st m = s_x X d 41 [.aload 0, .iload 1, .sipush 21, .isub, .putfield 202, .aload 0, .sipush 4, .putfield 198, .sipush 1, .ireturn] ls st m := by
  rw [s_j, s_g_eq, g_l41]; rfl
/-- R.takeRight -/
theorem g_l42 (l : Nat) : g_P 42 l = (g_c42.lookup l).getD [] := rfl
theorem v_42 {X : e_X} {d : Nat} (a0 : Nat) (a1 : Int32) {m : e_M} : s_S X (d + 1) 42 [.ref a0, .int a1] m = s_j X d 42 0 [.ref a0, .int a1] [] m := rfl
theorem u_42_0 {X : e_X} {d : Nat} {ls st : List Value} {m : e_M} : s_j X d 42 0 ls st m = s_x X d 42 [.iload 1, .invokeinterface 39 1, .ifCond .ne 9, .sipush 0, .ireturn] ls st m := by
  rw [s_j, s_g_eq, g_l42]; rfl
theorem u_42_9 {X : e_X} {d : Nat} {ls st : List Value} {m : e_M} : s_j X d 42 9 ls st m = s_x X d 42 [.aload 0, .checkcast 192, .aload 0, .getfield 201, .aload 0, .getfield 202, .aload 0, .iload 1, .invokeinterface 40 2, .invokeinterface 13 3, .invokeinterface 14 2, .aload 0, .invokeinterface 43 1, .sipush 1, .ireturn] ls st m := by
  rw [s_j, s_g_eq, g_l42]; rfl
/-- R.endOne -/
theorem g_l43 (l : Nat) : g_P 43 l = (g_c43.lookup l).getD [] := rfl
theorem v_43 {X : e_X} {d : Nat} (a0 : Nat) {m : e_M} : s_S X (d + 1) 43 [.ref a0] m = s_j X d 43 0 [.ref a0] [] m := rfl
theorem u_43_0 {X : e_X} {d : Nat} {ls st : List Value} {m : e_M} : s_j X d 43 0 ls st m = s_x X d 43 [.aload 0, .getfield 205, .ifCond .le 44, .aload 0, .checkcast 204, .aload 0, .getfield 205, .sipush 1, .isub, .iaload, .sipush 12, .if_icmp .ne 44, .aload 0, .checkcast 192, .sipush (-1), .invokeinterface 14 2, .aload 0, .dup, .getfield 205, .sipush 1, .isub, .putfield 205, .goto 0] ls st m := by
  rw [s_j, s_g_eq, g_l43]; rfl
theorem u_43_44 {X : e_X} {d : Nat} {ls st : List Value} {m : e_M} : s_j X d 43 44 ls st m = s_x X d 43 [.aload 0, .sipush 5, .putfield 198, .return_] ls st m := by
  rw [s_j, s_g_eq, g_l43]; rfl
/-- R.takeJoint -/
theorem g_l44 (l : Nat) : g_P 44 l = (g_c44.lookup l).getD [] := rfl
theorem v_44 {X : e_X} {d : Nat} (a0 : Nat) (a1 : Int32) {m : e_M} : s_S X (d + 1) 44 [.ref a0, .int a1] m = s_j X d 44 0 [.ref a0, .int a1] [] m := rfl
theorem u_44_0 {X : e_X} {d : Nat} {ls st : List Value} {m : e_M} : s_j X d 44 0 ls st m = s_x X d 44 [.iload 1, .sipush 25, .if_icmp .ne 11, .aload 0, .invokeinterface 45 1, .ireturn] ls st m := by
  rw [s_j, s_g_eq, g_l44]; rfl
theorem u_44_11 {X : e_X} {d : Nat} {ls st : List Value} {m : e_M} : s_j X d 44 11 ls st m = s_x X d 44 [.iload 1, .sipush 10, .if_icmp .eq 23, .iload 1, .sipush 11, .if_icmp .ne 39, .jsr 23] ls st m := by
  rw [s_j, s_g_eq, g_l44]; rfl
theorem u_44_23 {X : e_X} {d : Nat} {ls st : List Value} {m : e_M} : s_j X d 44 23 ls st m = s_x X d 44 [.aload 0, .iload 1, .invokeinterface 46 2, .aload 0, .sipush 2, .putfield 198, .aload 0, .iload 1, .invokeinterface 38 2, .ireturn] ls st m := by
  rw [s_j, s_g_eq, g_l44]; rfl
theorem u_44_39 {X : e_X} {d : Nat} {ls st : List Value} {m : e_M} : s_j X d 44 39 ls st m = s_x X d 44 [.aload 0, .getfield 203, .ifCond .le 48, .sipush 0, .ireturn] ls st m := by
  rw [s_j, s_g_eq, g_l44]; rfl
theorem u_44_48 {X : e_X} {d : Nat} {ls st : List Value} {m : e_M} : s_j X d 44 48 ls st m = s_x X d 44 [.aload 0, .sipush 11, .invokeinterface 46 2, .aload 0, .iload 1, .invokeinterface 36 2, .ireturn] ls st m := by
  rw [s_j, s_g_eq, g_l44]; rfl
/-- R.takeClose -/
theorem g_l45 (l : Nat) : g_P 45 l = (g_c45.lookup l).getD [] := rfl
theorem v_45 {X : e_X} {d : Nat} (a0 : Nat) {m : e_M} : s_S X (d + 1) 45 [.ref a0] m = s_j X d 45 0 [.ref a0] [] m := rfl
theorem u_45_0 {X : e_X} {d : Nat} {ls st : List Value} {m : e_M} : s_j X d 45 0 ls st m = s_x X d 45 [.aload 0, .getfield 203, .ifCond .ne 9, .sipush 0, .ireturn] ls st m := by
  rw [s_j, s_g_eq, g_l45]; rfl
theorem u_45_9 {X : e_X} {d : Nat} {ls st : List Value} {m : e_M} : s_j X d 45 9 ls st m = s_x X d 45 [.aload 0, .dup, .getfield 203, .sipush 1, .isub, .putfield 203, .aload 0, .sipush 11, .invokeinterface 46 2, .aload 0, .getfield 205, .ifCond .le 42, .aload 0, .dup, .getfield 205, .sipush 1, .isub, .putfield 205, .jsr 42] ls st m := by
  rw [s_j, s_g_eq, g_l45]; rfl
theorem u_45_42 {X : e_X} {d : Nat} {ls st : List Value} {m : e_M} : s_j X d 45 42 ls st m = s_x X d 45 [.aload 0, .invokeinterface 43 1, .sipush 1, .ireturn] ls st m := by
  rw [s_j, s_g_eq, g_l45]; rfl
/-- R.appendJoints -/
theorem g_l46 (l : Nat) : g_P 46 l = (g_c46.lookup l).getD [] := rfl
theorem v_46 {X : e_X} {d : Nat} (a0 : Nat) (a1 : Int32) {m : e_M} : s_S X (d + 1) 46 [.ref a0, .int a1] m = s_j X d 46 0 [.ref a0, .int a1] [] m := rfl
theorem u_46_0 {X : e_X} {d : Nat} {ls st : List Value} {m : e_M} : s_j X d 46 0 ls st m = s_x X d 46 [.aload 0, .getfield 205, .ifCond .le 81, .aload 0, .checkcast 204, .aload 0, .getfield 205, .sipush 1, .isub, .iaload, .sipush 10, .if_icmp .eq 38, .aload 0, .checkcast 204, .aload 0, .getfield 205, .sipush 1, .isub, .iaload, .iload 1, .if_icmp .ne 81, .jsr 38] ls st m := by
  rw [s_j, s_g_eq, g_l46]; rfl
theorem u_46_38 {X : e_X} {d : Nat} {ls st : List Value} {m : e_M} : s_j X d 46 38 ls st m = s_x X d 46 [.aload 0, .checkcast 192, .aload 0, .checkcast 204, .aload 0, .getfield 205, .sipush 1, .isub, .iaload, .sipush 10, .if_icmp .ne 63, .sipush (-2), .goto 65] ls st m := by
  rw [s_j, s_g_eq, g_l46]; rfl
theorem u_46_63 {X : e_X} {d : Nat} {ls st : List Value} {m : e_M} : s_j X d 46 63 ls st m = s_x X d 46 [.sipush (-3), .jsr 65] ls st m := by
  rw [s_j, s_g_eq, g_l46]; rfl
theorem u_46_65 {X : e_X} {d : Nat} {ls st : List Value} {m : e_M} : s_j X d 46 65 ls st m = s_x X d 46 [.invokeinterface 14 2, .aload 0, .dup, .getfield 205, .sipush 1, .isub, .putfield 205, .goto 0] ls st m := by
  rw [s_j, s_g_eq, g_l46]; rfl
theorem u_46_81 {X : e_X} {d : Nat} {ls st : List Value} {m : e_M} : s_j X d 46 81 ls st m = s_x X d 46 [.return_] ls st m := by
  rw [s_j, s_g_eq, g_l46]; rfl
/-- R.takeSemicolon -/
theorem g_l47 (l : Nat) : g_P 47 l = (g_c47.lookup l).getD [] := rfl
theorem v_47 {X : e_X} {d : Nat} (a0 : Nat) (a1 : Int32) {m : e_M} : s_S X (d + 1) 47 [.ref a0, .int a1] m = s_j X d 47 0 [.ref a0, .int a1] [] m := rfl
theorem u_47_0 {X : e_X} {d : Nat} {ls st : List Value} {m : e_M} : s_j X d 47 0 ls st m = s_x X d 47 [.iload 1, .sipush 26, .if_icmp .eq 8, .sipush 0, .ireturn] ls st m := by
  rw [s_j, s_g_eq, g_l47]; rfl
theorem u_47_8 {X : e_X} {d : Nat} {ls st : List Value} {m : e_M} : s_j X d 47 8 ls st m = s_x X d 47 [.aload 0, .checkcast 192, .aload 0, .getfield 199, .aload 0, .getfield 200, .invokeinterface 15 3, .aload 0, .sipush 0, .putfield 198, .sipush 1, .ireturn] ls st m := by
  rw [s_j, s_g_eq, g_l47]; rfl
/-- Rp.add -/
theorem g_l49 (l : Nat) : g_P 49 l = (g_c49.lookup l).getD [] := rfl
theorem v_49 {X : e_X} {d : Nat} (a0 : Nat) (a1 : Int32) (a2 : Int32) (a3 : Int32) (a4 : Int32) {m : e_M} : s_S X (d + 1) 49 [.ref a0, .int a1, .int a2, .int a3, .int a4] m = s_j X d 49 0 [.ref a0, .int a1, .int a2, .int a3, .int a4] [] m := rfl
theorem u_49_0 {X : e_X} {d : Nat} {ls st : List Value} {m : e_M} : s_j X d 49 0 ls st m = s_x X d 49 [.aload 0, .getfield 260, .sipush 6, .if_icmp .lt 12, .sipush (-2), .ireturn] ls st m := by
  rw [s_j, s_g_eq, g_l49]; rfl
theorem u_49_12 {X : e_X} {d : Nat} {ls st : List Value} {m : e_M} : s_j X d 49 12 ls st m = s_x X d 49 [.aload 0, .checkcast 256, .aload 0, .getfield 260, .iload 1, .iastore, .aload 0, .checkcast 257, .aload 0, .getfield 260, .iload 2, .iastore, .aload 0, .checkcast 258, .aload 0, .getfield 260, .iload 3, .iastore, .aload 0, .checkcast 259, .aload 0, .getfield 260, .iload 4, .iastore, .aload 0, .dup, .getfield 260, .dup_x1, .sipush 1, .iadd, .putfield 260, .ireturn] ls st m := by
  rw [s_j, s_g_eq, g_l49]; rfl
/-- Rp.latest -/
theorem g_l50 (l : Nat) : g_P 50 l = (g_c50.lookup l).getD [] := rfl
theorem v_50 {X : e_X} {d : Nat} (a0 : Nat) {m : e_M} : s_S X (d + 1) 50 [.ref a0] m = s_j X d 50 0 [.ref a0, .retAddr 0, .retAddr 0] [] m := rfl
theorem u_50_0 {X : e_X} {d : Nat} {ls st : List Value} {m : e_M} : s_j X d 50 0 ls st m = s_x X d 50 [.sipush 0, .istore 1, .sipush 0, .istore 2, .jsr 4] ls st m := by
  rw [s_j, s_g_eq, g_l50]; rfl
theorem u_50_4 {X : e_X} {d : Nat} {ls st : List Value} {m : e_M} : s_j X d 50 4 ls st m = s_x X d 50 [.iload 2, .aload 0, .getfield 260, .if_icmp .ge 29, .iload 1, .aload 0, .checkcast 256, .iload 2, .iaload, .dadd, .istore 1, .iinc 2 1, .goto 4] ls st m := by
  rw [s_j, s_g_eq, g_l50]; rfl
theorem u_50_29 {X : e_X} {d : Nat} {ls st : List Value} {m : e_M} : s_j X d 50 29 ls st m = s_x X d 50 [.iload 1, .ireturn] ls st m := by
  rw [s_j, s_g_eq, g_l50]; rfl
/-- Rp.wrongBehind -/
theorem g_l51 (l : Nat) : g_P 51 l = (g_c51.lookup l).getD [] := rfl
theorem v_51 {X : e_X} {d : Nat} (a0 : Nat) (a1 : Int32) (a2 : Int32) (a3 : Int32) {m : e_M} : s_S X (d + 1) 51 [.ref a0, .int a1, .int a2, .int a3] m = s_j X d 51 0 [.ref a0, .int a1, .int a2, .int a3, .retAddr 0, .retAddr 0] [] m := rfl
theorem u_51_0 {X : e_X} {d : Nat} {ls st : List Value} {m : e_M} : s_j X d 51 0 ls st m = s_x X d 51 [.sipush 0, .istore 4, .sipush 0, .istore 5, .jsr 6] ls st m := by
  rw [s_j, s_g_eq, g_l51]; rfl
theorem u_51_6 {X : e_X} {d : Nat} {ls st : List Value} {m : e_M} : s_j X d 51 6 ls st m = s_x X d 51 [.iload 5, .aload 0, .getfield 260, .if_icmp .ge 76, .aload 0, .checkcast 256, .iload 5, .iaload, .iload 1, .if_icmp .ne 70, .aload 0, .checkcast 257, .iload 5, .iaload, .ifCond .ne 40, .iload 2, .goto 41] ls st m := by
  rw [s_j, s_g_eq, g_l51]; rfl
theorem u_51_40 {X : e_X} {d : Nat} {ls st : List Value} {m : e_M} : s_j X d 51 40 ls st m = s_x X d 51 [.iload 3, .jsr 41] ls st m := by
  rw [s_j, s_g_eq, g_l51]; rfl
theorem u_51_41 {X : e_X} {d : Nat} {ls st : List Value} {m : e_M} : s_j X d 51 41 ls st m = s_x X d 51 [.aload 0, .checkcast 258, .iload 5, .iaload, .aload 0, .checkcast 259, .iload 5, .iaload, .invokeinterface 109 3, .ifCond .eq 70, .iload 4, .sipush 1, .iload 5, .ishl, .ior, .istore 4, .jsr 70] ls st m := by
  rw [s_j, s_g_eq, g_l51]; rfl
theorem u_51_70 {X : e_X} {d : Nat} {ls st : List Value} {m : e_M} : s_j X d 51 70 ls st m = s_x X d 51 [.iinc 5 1, .goto 6] ls st m := by
  rw [s_j, s_g_eq, g_l51]; rfl
theorem u_51_76 {X : e_X} {d : Nat} {ls st : List Value} {m : e_M} : s_j X d 51 76 ls st m = s_x X d 51 [.iload 4, .ireturn] ls st m := by
  rw [s_j, s_g_eq, g_l51]; rfl
/-- Rp.copyFrom -/
theorem g_l52 (l : Nat) : g_P 52 l = (g_c52.lookup l).getD [] := rfl
theorem v_52 {X : e_X} {d : Nat} (a0 : Nat) (a1 : Nat) {m : e_M} : s_S X (d + 1) 52 [.ref a0, .ref a1] m = s_j X d 52 0 [.ref a0, .ref a1] [] m := rfl
theorem u_52_0 {X : e_X} {d : Nat} {ls st : List Value} {m : e_M} : s_j X d 52 0 ls st m = s_x X d 52 [.aload 1, .checkcast 256, .sipush 0, .aload 0, .checkcast 256, .sipush 0, .sipush 6, .dmul, .aload 1, .checkcast 257, .sipush 0, .aload 0, .checkcast 257, .sipush 0, .sipush 6, .dmul, .aload 1, .checkcast 258, .sipush 0, .aload 0, .checkcast 258, .sipush 0, .sipush 6, .dmul, .aload 1, .checkcast 259, .sipush 0, .aload 0, .checkcast 259, .sipush 0, .sipush 6, .dmul, .aload 0, .aload 1, .getfield 260, .putfield 260, .return_] ls st m := by
  rw [s_j, s_g_eq, g_l52]; rfl
/-- Rw.fill -/
theorem g_l54 (l : Nat) : g_P 54 l = (g_c54.lookup l).getD [] := rfl
theorem v_54 {X : e_X} {d : Nat} (a0 : Nat) (a1 : Nat) (a2 : Int32) {m : e_M} : s_S X (d + 1) 54 [.ref a0, .ref a1, .int a2] m = s_j X d 54 0 [.ref a0, .ref a1, .int a2, .retAddr 0, .retAddr 0] [] m := rfl
theorem u_54_0 {X : e_X} {d : Nat} {ls st : List Value} {m : e_M} : s_j X d 54 0 ls st m = s_x X d 54 [.aload 0, .checkcast 320, .invokeinterface 85 1, .istore 3, .aload 0, .iload 2, .sipush 4, .dsub, .putfield 322, .sipush 0, .istore 4, .jsr 20] ls st m := by
  rw [s_j, s_g_eq, g_l54]; rfl
theorem u_54_20 {X : e_X} {d : Nat} {ls st : List Value} {m : e_M} : s_j X d 54 20 ls st m = s_x X d 54 [.iload 4, .aload 0, .getfield 322, .if_icmp .ge 88, .aload 0, .checkcast 321, .sipush 3, .iload 4, .imul, .aload 1, .iload 4, .iaload, .iastore, .aload 0, .checkcast 321, .sipush 3, .iload 4, .imul, .sipush 1, .iadd, .aload 0, .checkcast 320, .aload 1, .iload 4, .iaload, .invokeinterface 79 2, .iastore, .aload 0, .checkcast 321, .sipush 3, .iload 4, .imul, .sipush 2, .iadd, .aload 0, .checkcast 320, .getfield 522, .iastore, .iinc 4 1, .goto 20] ls st m := by
  rw [s_j, s_g_eq, g_l54]; rfl
theorem u_54_88 {X : e_X} {d : Nat} {ls st : List Value} {m : e_M} : s_j X d 54 88 ls st m = s_x X d 54 [.aload 0, .checkcast 320, .iload 3, .invokeinterface 87 2, .aload 0, .getfield 322, .ireturn] ls st m := by
  rw [s_j, s_g_eq, g_l54]; rfl
/-- Rw.has -/
theorem g_l55 (l : Nat) : g_P 55 l = (g_c55.lookup l).getD [] := rfl
theorem v_55 {X : e_X} {d : Nat} (a0 : Nat) (a1 : Int32) (a2 : Int32) {m : e_M} : s_S X (d + 1) 55 [.ref a0, .int a1, .int a2] m = s_j X d 55 0 [.ref a0, .int a1, .int a2] [] m := rfl
theorem u_55_0 {X : e_X} {d : Nat} {ls st : List Value} {m : e_M} : s_j X d 55 0 ls st m = s_x X d 55 [.iload 1, .ifCond .lt 25, .iload 1, .aload 0, .getfield 322, .if_icmp .ge 25, .iload 2, .ifCond .lt 25, .iload 2, .sipush 3, .if_icmp .ge 25, .sipush 1, .goto 26] ls st m := by
  rw [s_j, s_g_eq, g_l55]; rfl
theorem u_55_25 {X : e_X} {d : Nat} {ls st : List Value} {m : e_M} : s_j X d 55 25 ls st m = s_x X d 55 [.sipush 0, .jsr 26] ls st m := by
  rw [s_j, s_g_eq, g_l55]; rfl
theorem u_55_26 {X : e_X} {d : Nat} {ls st : List Value} {m : e_M} : s_j X d 55 26 ls st m = s_x X d 55 [.ireturn] ls st m := by
  rw [s_j, s_g_eq, g_l55]; rfl
/-- Rw.firstWrong -/
theorem g_l56 (l : Nat) : g_P 56 l = (g_c56.lookup l).getD [] := rfl
theorem v_56 {X : e_X} {d : Nat} (a0 : Nat) {m : e_M} : s_S X (d + 1) 56 [.ref a0] m = s_j X d 56 0 [.ref a0, .retAddr 0, .retAddr 0, .retAddr 0] [] m := rfl
theorem u_56_0 {X : e_X} {d : Nat} {ls st : List Value} {m : e_M} : s_j X d 56 0 ls st m = s_x X d 56 [.aload 0, .checkcast 320, .invokeinterface 85 1, .istore 1, .sipush 0, .istore 2, .sipush 0, .istore 3, .jsr 12] ls st m := by
  rw [s_j, s_g_eq, g_l56]; rfl
theorem u_56_12 {X : e_X} {d : Nat} {ls st : List Value} {m : e_M} : s_j X d 56 12 ls st m = s_x X d 56 [.iload 3, .aload 0, .getfield 322, .if_icmp .ge 42, .iload 2, .ifCond .ne 42, .aload 0, .iload 3, .invokeinterface 57 2, .ifCond .ne 36, .iload 3, .sipush 1, .iadd, .istore 2, .jsr 36] ls st m := by
  rw [s_j, s_g_eq, g_l56]; rfl
theorem u_56_36 {X : e_X} {d : Nat} {ls st : List Value} {m : e_M} : s_j X d 56 36 ls st m = s_x X d 56 [.iinc 3 1, .goto 12] ls st m := by
  rw [s_j, s_g_eq, g_l56]; rfl
theorem u_56_42 {X : e_X} {d : Nat} {ls st : List Value} {m : e_M} : s_j X d 56 42 ls st m = s_x X d 56 [.aload 0, .checkcast 320, .iload 1, .invokeinterface 87 2, .iload 2, .ireturn] ls st m := by
  rw [s_j, s_g_eq, g_l56]; rfl
/-- Rw.isRight -/
theorem g_l57 (l : Nat) : g_P 57 l = (g_c57.lookup l).getD [] := rfl
theorem v_57 {X : e_X} {d : Nat} (a0 : Nat) (a1 : Int32) {m : e_M} : s_S X (d + 1) 57 [.ref a0, .int a1] m = s_j X d 57 0 [.ref a0, .int a1, .retAddr 0, .retAddr 0] [] m := rfl
theorem u_57_0 {X : e_X} {d : Nat} {ls st : List Value} {m : e_M} : s_j X d 57 0 ls st m = s_x X d 57 [.aload 0, .checkcast 321, .sipush 3, .iload 1, .imul, .iaload, .istore 2, .aload 0, .checkcast 320, .iload 2, .invokeinterface 105 2, .ifCond .eq 30, .aload 0, .checkcast 320, .invokeinterface 76 1, .ifCond .eq 32, .jsr 30] ls st m := by
  rw [s_j, s_g_eq, g_l57]; rfl
theorem u_57_30 {X : e_X} {d : Nat} {ls st : List Value} {m : e_M} : s_j X d 57 30 ls st m = s_x X d 57 [.sipush 0, .ireturn] ls st m := by
  rw [s_j, s_g_eq, g_l57]; rfl
theorem u_57_32 {X : e_X} {d : Nat} {ls st : List Value} {m : e_M} : s_j X d 57 32 ls st m = s_x X d 57 [.aload 0, .checkcast 320, .iload 2, .invokeinterface 79 2, .istore 3, .aload 0, .checkcast 321, .sipush 3, .iload 1, .imul, .sipush 1, .iadd, .iaload, .iload 3, .if_icmp .ne 79, .aload 0, .checkcast 321, .sipush 3, .iload 1, .imul, .sipush 2, .iadd, .iaload, .aload 0, .checkcast 320, .getfield 522, .if_icmp .ne 79, .sipush 1, .goto 80] ls st m := by
  rw [s_j, s_g_eq, g_l57]; rfl
theorem u_57_79 {X : e_X} {d : Nat} {ls st : List Value} {m : e_M} : s_j X d 57 79 ls st m = s_x X d 57 [.sipush 0, .jsr 80] ls st m := by
  rw [s_j, s_g_eq, g_l57]; rfl
theorem u_57_80 {X : e_X} {d : Nat} {ls st : List Value} {m : e_M} : s_j X d 57 80 ls st m = s_x X d 57 [.ireturn] ls st m := by
  rw [s_j, s_g_eq, g_l57]; rfl
/-- Sh.become -/
theorem g_l59 (l : Nat) : g_P 59 l = (g_c59.lookup l).getD [] := rfl
theorem v_59 {X : e_X} {d : Nat} (a0 : Nat) (a1 : Int32) (a2 : Int32) {m : e_M} : s_S X (d + 1) 59 [.ref a0, .int a1, .int a2] m = s_j X d 59 0 [.ref a0, .int a1, .int a2, .retAddr 0] [] m := rfl
theorem u_59_0 {X : e_X} {d : Nat} {ls st : List Value} {m : e_M} : s_j X d 59 0 ls st m = s_x X d 59 [.sipush 0, .istore 3, .jsr 2] ls st m := by
  rw [s_j, s_g_eq, g_l59]; rfl
theorem u_59_2 {X : e_X} {d : Nat} {ls st : List Value} {m : e_M} : s_j X d 59 2 ls st m = s_x X d 59 [.iload 3, .sipush 40, .if_icmp .ge 21, .aload 0, .checkcast 384, .iload 3, .goto_w 0, .lastore, .iinc 3 1, .goto 2] ls st m := by
  rw [s_j, s_g_eq, g_l59]; rfl
theorem u_59_21 {X : e_X} {d : Nat} {ls st : List Value} {m : e_M} : s_j X d 59 21 ls st m = s_x X d 59 [.aload 0, .iload 1, .putfield 385, .aload 0, .iload 2, .putfield 386, .return_] ls st m := by
  rw [s_j, s_g_eq, g_l59]; rfl
/-- Sh.hasItem -/
theorem g_l60 (l : Nat) : g_P 60 l = (g_c60.lookup l).getD [] := rfl
theorem v_60 {X : e_X} {d : Nat} (a0 : Nat) (a1 : Int32) {m : e_M} : s_S X (d + 1) 60 [.ref a0, .int a1] m = s_j X d 60 0 [.ref a0, .int a1] [] m := rfl
theorem u_60_0 {X : e_X} {d : Nat} {ls st : List Value} {m : e_M} : s_j X d 60 0 ls st m = s_x X d 60 [.iload 1, .ifCond .lt 22, .iload 1, .aload 0, .getfield 386, .if_icmp .ge 22, .iload 1, .sipush 40, .if_icmp .ge 22, .sipush 1, .goto 23] ls st m := by
  rw [s_j, s_g_eq, g_l60]; rfl
theorem u_60_22 {X : e_X} {d : Nat} {ls st : List Value} {m : e_M} : s_j X d 60 22 ls st m = s_x X d 60 [.sipush 0, .jsr 23] ls st m := by
  rw [s_j, s_g_eq, g_l60]; rfl
theorem u_60_23 {X : e_X} {d : Nat} {ls st : List Value} {m : e_M} : s_j X d 60 23 ls st m = s_x X d 60 [.ireturn] ls st m := by
  rw [s_j, s_g_eq, g_l60]; rfl
/-- Sh.putItem -/
theorem g_l61 (l : Nat) : g_P 61 l = (g_c61.lookup l).getD [] := rfl
theorem v_61 {X : e_X} {d : Nat} (a0 : Nat) (a1 : Int32) (a2 : Int32) {m : e_M} : s_S X (d + 1) 61 [.ref a0, .int a1, .int a2] m = s_j X d 61 0 [.ref a0, .int a1, .int a2] [] m := rfl
theorem u_61_0 {X : e_X} {d : Nat} {ls st : List Value} {m : e_M} : s_j X d 61 0 ls st m = s_x X d 61 [.aload 0, .iload 1, .invokeinterface 60 2, .ifCond .eq 19, .aload 0, .checkcast 384, .iload 1, .aload 0, .iload 2, .invokeinterface 62 2, .lastore, .jsr 19] ls st m := by
  rw [s_j, s_g_eq, g_l61]; rfl
theorem u_61_19 {X : e_X} {d : Nat} {ls st : List Value} {m : e_M} : s_j X d 61 19 ls st m = s_x X d 61 [.return_] ls st m := by
  rw [s_j, s_g_eq, g_l61]; rfl
/-- Sh.narrowed -/
theorem g_l62 (l : Nat) : g_P 62 l = (g_c62.lookup l).getD [] := rfl
theorem v_62 {X : e_X} {d : Nat} (a0 : Nat) (a1 : Int32) {m : e_M} : s_S X (d + 1) 62 [.ref a0, .int a1] m = s_j X d 62 0 [.ref a0, .int a1] [] m := rfl
theorem u_62_0 {X : e_X} {d : Nat} {ls st : List Value} {m : e_M} : s_j X d 62 0 ls st m = s_x X d 62 [.aload 0, .getfield 385, .lookupswitch 58 #[(0, 40), (1, 44), (2, 58), (3, 58), (4, 48)]] ls st m := by
  rw [s_j, s_g_eq, g_l62]; rfl
theorem u_62_40 {X : e_X} {d : Nat} {ls st : List Value} {m : e_M} : s_j X d 62 40 ls st m = s_x X d 62 [.iload 1, .i2b, .i2l, .lreturn] ls st m := by
  rw [s_j, s_g_eq, g_l62]; rfl
theorem u_62_44 {X : e_X} {d : Nat} {ls st : List Value} {m : e_M} : s_j X d 62 44 ls st m = s_x X d 62 [.iload 1, .i2s, .i2l, .lreturn] ls st m := by
  rw [s_j, s_g_eq, g_l62]; rfl
theorem u_62_48 {X : e_X} {d : Nat} {ls st : List Value} {m : e_M} : s_j X d 62 48 ls st m = s_x X d 62 [.iload 1, .ifCond .eq 56, .goto_w 1, .goto 57] ls st m := by
  rw [s_j, s_g_eq, g_l62]; rfl
theorem u_62_56 {X : e_X} {d : Nat} {ls st : List Value} {m : e_M} : s_j X d 62 56 ls st m = s_x X d 62 [.goto_w 0, .jsr 57] ls st m := by
  rw [s_j, s_g_eq, g_l62]; rfl
theorem u_62_57 {X : e_X} {d : Nat} {ls st : List Value} {m : e_M} : s_j X d 62 57 ls st m = s_x X d 62 [.lreturn] ls st m := by
  rw [s_j, s_g_eq, g_l62]; rfl
theorem u_62_58 {X : e_X} {d : Nat} {ls st : List Value} {m : e_M} : s_j X d 62 58 ls st m = s_x X d 62 [.iload 1, .i2l, .lreturn] ls st m := by
  rw [s_j, s_g_eq, g_l62]; rfl
/-- Sh.refusalAs -/
theorem g_l63 (l : Nat) : g_P 63 l = (g_c63.lookup l).getD [] := rfl
theorem v_63 {X : e_X} {d : Nat} (a0 : Nat) (a1 : Int32) {m : e_M} : s_S X (d + 1) 63 [.ref a0, .int a1] m = s_j X d 63 0 [.ref a0, .int a1] [] m := rfl
theorem u_63_0 {X : e_X} {d : Nat} {ls st : List Value} {m : e_M} : s_j X d 63 0 ls st m = s_x X d 63 [.aload 0, .getfield 385, .sipush (-1), .if_icmp .ne 11, .sipush (-11), .ireturn] ls st m := by
  rw [s_j, s_g_eq, g_l63]; rfl
theorem u_63_11 {X : e_X} {d : Nat} {ls st : List Value} {m : e_M} : s_j X d 63 11 ls st m = s_x X d 63 [.aload 0, .getfield 385, .iload 1, .if_icmp .ne 23, .sipush 0, .goto 25] ls st m := by
  rw [s_j, s_g_eq, g_l63]; rfl
theorem u_63_23 {X : e_X} {d : Nat} {ls st : List Value} {m : e_M} : s_j X d 63 23 ls st m = s_x X d 63 [.sipush (-13), .jsr 25] ls st m := by
  rw [s_j, s_g_eq, g_l63]; rfl
theorem u_63_25 {X : e_X} {d : Nat} {ls st : List Value} {m : e_M} : s_j X d 63 25 ls st m = s_x X d 63 [.ireturn] ls st m := by
  rw [s_j, s_g_eq, g_l63]; rfl
/-- Sf.holdRow -/
theorem g_l65 (l : Nat) : g_P 65 l = (g_c65.lookup l).getD [] := rfl
theorem v_65 {X : e_X} {d : Nat} (a0 : Nat) (a1 : Int32) (a2 : Int32) {m : e_M} : s_S X (d + 1) 65 [.ref a0, .int a1, .int a2] m = s_j X d 65 0 [.ref a0, .int a1, .int a2] [] m := rfl
theorem u_65_0 {X : e_X} {d : Nat} {ls st : List Value} {m : e_M} : s_j X d 65 0 ls st m = s_x X d 65 [.aload 0, .iload 1, .sipush (-1), .if_icmp .ne 10, .sipush 2, .goto 11] ls st m := by
  rw [s_j, s_g_eq, g_l65]; rfl
theorem u_65_10 {X : e_X} {d : Nat} {ls st : List Value} {m : e_M} : s_j X d 65 10 ls st m = s_x X d 65 [.sipush 1, .jsr 11] ls st m := by
  rw [s_j, s_g_eq, g_l65]; rfl
theorem u_65_11 {X : e_X} {d : Nat} {ls st : List Value} {m : e_M} : s_j X d 65 11 ls st m = s_x X d 65 [.putfield 448, .aload 0, .iload 1, .putfield 450, .aload 0, .iload 2, .putfield 451, .return_] ls st m := by
  rw [s_j, s_g_eq, g_l65]; rfl
/-- Sf.hold -/
theorem g_l66 (l : Nat) : g_P 66 l = (g_c66.lookup l).getD [] := rfl
theorem v_66 {X : e_X} {d : Nat} (a0 : Nat) (a1 : Int32) (a2 : Int32) {m : e_M} : s_S X (d + 1) 66 [.ref a0, .int a1, .int a2] m = s_j X d 66 0 [.ref a0, .int a1, .int a2] [] m := rfl
theorem u_66_0 {X : e_X} {d : Nat} {ls st : List Value} {m : e_M} : s_j X d 66 0 ls st m = s_x X d 66 [.aload 0, .iload 1, .putfield 448, .aload 0, .iload 2, .putfield 449, .return_] ls st m := by
  rw [s_j, s_g_eq, g_l66]; rfl
/-- T.addPiece -/
theorem g_l68 (l : Nat) : g_P 68 l = (g_c68.lookup l).getD [] := rfl
theorem v_68 {X : e_X} {d : Nat} (a0 : Nat) (a1 : Int32) (a2 : Int32) (a3 : Int32) (a4 : Int32) {m : e_M} : s_S X (d + 1) 68 [.ref a0, .int a1, .int a2, .int a3, .int a4] m = s_j X d 68 0 [.ref a0, .int a1, .int a2, .int a3, .int a4] [] m := rfl
theorem u_68_0 {X : e_X} {d : Nat} {ls st : List Value} {m : e_M} : s_j X d 68 0 ls st m = s_x X d 68 [.aload 0, .getfield 521, .sipush 6, .if_icmp .lt 12, .sipush (-2), .ireturn] ls st m := by
  rw [s_j, s_g_eq, g_l68]; rfl
theorem u_68_12 {X : e_X} {d : Nat} {ls st : List Value} {m : e_M} : s_j X d 68 12 ls st m = s_x X d 68 [.aload 0, .checkcast 512, .aload 0, .getfield 521, .iload 1, .iastore, .aload 0, .checkcast 513, .aload 0, .getfield 521, .iload 2, .iastore, .aload 0, .checkcast 514, .aload 0, .getfield 521, .iload 3, .iastore, .aload 0, .checkcast 515, .aload 0, .getfield 521, .iload 4, .iastore, .aload 0, .dup, .getfield 521, .dup_x1, .sipush 1, .iadd, .putfield 521, .ireturn] ls st m := by
  rw [s_j, s_g_eq, g_l68]; rfl
/-- T.hasPiece -/
theorem g_l69 (l : Nat) : g_P 69 l = (g_c69.lookup l).getD [] := rfl
theorem v_69 {X : e_X} {d : Nat} (a0 : Nat) (a1 : Int32) {m : e_M} : s_S X (d + 1) 69 [.ref a0, .int a1] m = s_j X d 69 0 [.ref a0, .int a1] [] m := rfl
theorem u_69_0 {X : e_X} {d : Nat} {ls st : List Value} {m : e_M} : s_j X d 69 0 ls st m = s_x X d 69 [.iload 1, .ifCond .lt 16, .iload 1, .aload 0, .getfield 521, .if_icmp .ge 16, .sipush 1, .goto 17] ls st m := by
  rw [s_j, s_g_eq, g_l69]; rfl
theorem u_69_16 {X : e_X} {d : Nat} {ls st : List Value} {m : e_M} : s_j X d 69 16 ls st m = s_x X d 69 [.sipush 0, .jsr 17] ls st m := by
  rw [s_j, s_g_eq, g_l69]; rfl
theorem u_69_17 {X : e_X} {d : Nat} {ls st : List Value} {m : e_M} : s_j X d 69 17 ls st m = s_x X d 69 [.ireturn] ls st m := by
  rw [s_j, s_g_eq, g_l69]; rfl
/-- T.isSeated -/
theorem g_l70 (l : Nat) : g_P 70 l = (g_c70.lookup l).getD [] := rfl
theorem v_70 {X : e_X} {d : Nat} (a0 : Nat) (a1 : Int32) {m : e_M} : s_S X (d + 1) 70 [.ref a0, .int a1] m = s_j X d 70 0 [.ref a0, .int a1] [] m := rfl
theorem u_70_0 {X : e_X} {d : Nat} {ls st : List Value} {m : e_M} : s_j X d 70 0 ls st m = s_x X d 70 [.aload 0, .getfield 522, .iload 1, .ishr, .sipush 1, .iand, .sipush 1, .if_icmp .ne 16, .sipush 1, .goto 17] ls st m := by
  rw [s_j, s_g_eq, g_l70]; rfl
theorem u_70_16 {X : e_X} {d : Nat} {ls st : List Value} {m : e_M} : s_j X d 70 16 ls st m = s_x X d 70 [.sipush 0, .jsr 17] ls st m := by
  rw [s_j, s_g_eq, g_l70]; rfl
theorem u_70_17 {X : e_X} {d : Nat} {ls st : List Value} {m : e_M} : s_j X d 70 17 ls st m = s_x X d 70 [.ireturn] ls st m := by
  rw [s_j, s_g_eq, g_l70]; rfl
/-- T.grudgeOf -/
theorem g_l71 (l : Nat) : g_P 71 l = (g_c71.lookup l).getD [] := rfl
theorem v_71 {X : e_X} {d : Nat} (a0 : Nat) (a1 : Int32) {m : e_M} : s_S X (d + 1) 71 [.ref a0, .int a1] m = s_j X d 71 0 [.ref a0, .int a1, .retAddr 0] [] m := rfl
theorem u_71_0 {X : e_X} {d : Nat} {ls st : List Value} {m : e_M} : s_j X d 71 0 ls st m = s_x X d 71 [.aload 0, .checkcast 516, .aload 0, .checkcast 515, .iload 1, .iaload, .iaload, .istore 2, .aload 0, .checkcast 512, .iload 1, .iaload, .lookupswitch 80 #[(1, 52), (2, 56), (3, 60), (4, 70), (5, 74)]] ls st m := by
  rw [s_j, s_g_eq, g_l71]; rfl
theorem u_71_52 {X : e_X} {d : Nat} {ls st : List Value} {m : e_M} : s_j X d 71 52 ls st m = s_x X d 71 [.iload 2, .sipush 2, .iadd, .ireturn] ls st m := by
  rw [s_j, s_g_eq, g_l71]; rfl
theorem u_71_56 {X : e_X} {d : Nat} {ls st : List Value} {m : e_M} : s_j X d 71 56 ls st m = s_x X d 71 [.iload 2, .iload 1, .iadd, .ireturn] ls st m := by
  rw [s_j, s_g_eq, g_l71]; rfl
theorem u_71_60 {X : e_X} {d : Nat} {ls st : List Value} {m : e_M} : s_j X d 71 60 ls st m = s_x X d 71 [.sipush 0, .iload 2, .iload 1, .iadd, .sipush 3, .isub, .dadd, .ireturn] ls st m := by
  rw [s_j, s_g_eq, g_l71]; rfl
theorem u_71_70 {X : e_X} {d : Nat} {ls st : List Value} {m : e_M} : s_j X d 71 70 ls st m = s_x X d 71 [.iload 2, .sipush 2, .idiv, .ireturn] ls st m := by
  rw [s_j, s_g_eq, g_l71]; rfl
theorem u_71_74 {X : e_X} {d : Nat} {ls st : List Value} {m : e_M} : s_j X d 71 74 ls st m = s_x X d 71 [.iload 2, .sipush 2, .idiv, .sipush 2, .imul, .ireturn] ls st m := by
  rw [s_j, s_g_eq, g_l71]; rfl
theorem u_71_80 {X : e_X} {d : Nat} {ls st : List Value} {m : e_M} : s_j X d 71 80 ls st m = s_x X d 71 [.iload 2, .ireturn] ls st m := by
  rw [s_j, s_g_eq, g_l71]; rfl
/-- T.wouldSit -/
theorem g_l72 (l : Nat) : g_P 72 l = (g_c72.lookup l).getD [] := rfl
theorem v_72 {X : e_X} {d : Nat} (a0 : Nat) (a1 : Int32) {m : e_M} : s_S X (d + 1) 72 [.ref a0, .int a1] m = s_j X d 72 0 [.ref a0, .int a1] [] m := rfl
theorem u_72_0 {X : e_X} {d : Nat} {ls st : List Value} {m : e_M} : s_j X d 72 0 ls st m = s_x X d 72 [.aload 0, .iload 1, .invokeinterface 70 2, .ifCond .ne 36, .aload 0, .iload 1, .invokeinterface 71 2, .aload 0, .getfield 526, .aload 0, .checkcast 517, .aload 0, .checkcast 515, .iload 1, .iaload, .iaload, .iadd, .if_icmp .gt 36, .sipush 1, .goto 37] ls st m := by
  rw [s_j, s_g_eq, g_l72]; rfl
theorem u_72_36 {X : e_X} {d : Nat} {ls st : List Value} {m : e_M} : s_j X d 72 36 ls st m = s_x X d 72 [.sipush 0, .jsr 37] ls st m := by
  rw [s_j, s_g_eq, g_l72]; rfl
theorem u_72_37 {X : e_X} {d : Nat} {ls st : List Value} {m : e_M} : s_j X d 72 37 ls st m = s_x X d 72 [.ireturn] ls st m := by
  rw [s_j, s_g_eq, g_l72]; rfl
/-- T.willOf -/
theorem g_l73 (l : Nat) : g_P 73 l = (g_c73.lookup l).getD [] := rfl
theorem v_73 {X : e_X} {d : Nat} (a0 : Nat) (a1 : Int32) {m : e_M} : s_S X (d + 1) 73 [.ref a0, .int a1] m = s_j X d 73 0 [.ref a0, .int a1] [] m := rfl
theorem u_73_0 {X : e_X} {d : Nat} {ls st : List Value} {m : e_M} : s_j X d 73 0 ls st m = s_x X d 73 [.aload 0, .checkcast 519, .checkcast 68, .sipush 0, .aload 0, .getfield 523, .iastore, .aload 0, .checkcast 519, .checkcast 68, .sipush 1, .aload 0, .checkcast 514, .iload 1, .iaload, .iastore, .aload 0, .checkcast 519, .checkcast 68, .sipush 2, .aload 0, .iload 1, .invokeinterface 71 2, .iastore, .aload 0, .checkcast 519, .checkcast 68, .sipush 3, .aload 0, .getfield 526, .iastore, .aload 0, .checkcast 519, .checkcast 68, .sipush 4, .iload 1, .iastore, .aload 0, .checkcast 519, .aload 0, .checkcast 512, .iload 1, .iaload, .invokeinterface 9 2, .ireturn] ls st m := by
  rw [s_j, s_g_eq, g_l73]; rfl
/-- T.putSeated -/
theorem g_l74 (l : Nat) : g_P 74 l = (g_c74.lookup l).getD [] := rfl
theorem v_74 {X : e_X} {d : Nat} (a0 : Nat) (a1 : Int32) (a2 : Int32) {m : e_M} : s_S X (d + 1) 74 [.ref a0, .int a1, .int a2] m = s_j X d 74 0 [.ref a0, .int a1, .int a2, .retAddr 0] [] m := rfl
theorem u_74_0 {X : e_X} {d : Nat} {ls st : List Value} {m : e_M} : s_j X d 74 0 ls st m = s_x X d 74 [.aload 0, .getfield 522, .iload 1, .ishr, .sipush 1, .iand, .istore 3, .aload 0, .iload 2, .ifCond .eq 25, .aload 0, .getfield 522, .sipush 1, .iload 1, .ishl, .ior, .goto 35] ls st m := by
  rw [s_j, s_g_eq, g_l74]; rfl
theorem u_74_25 {X : e_X} {d : Nat} {ls st : List Value} {m : e_M} : s_j X d 74 25 ls st m = s_x X d 74 [.aload 0, .getfield 522, .sipush 1, .iload 1, .ishl, .sipush (-1), .ixor, .iand, .jsr 35] ls st m := by
  rw [s_j, s_g_eq, g_l74]; rfl
theorem u_74_35 {X : e_X} {d : Nat} {ls st : List Value} {m : e_M} : s_j X d 74 35 ls st m = s_x X d 74 [.putfield 522, .iload 3, .ireturn] ls st m := by
  rw [s_j, s_g_eq, g_l74]; rfl
/-- T.beginAnew -/
theorem g_l75 (l : Nat) : g_P 75 l = (g_c75.lookup l).getD [] := rfl
theorem v_75 {X : e_X} {d : Nat} (a0 : Nat) {m : e_M} : s_S X (d + 1) 75 [.ref a0] m = s_j X d 75 0 [.ref a0] [] m := rfl
theorem u_75_0 {X : e_X} {d : Nat} {ls st : List Value} {m : e_M} : s_j X d 75 0 ls st m = s_x X d 75 [.aload 0, .sipush 0, .putfield 523, .aload 0, .sipush 0, .putfield 525, .aload 0, .sipush 5, .putfield 526, .aload 0, .sipush 0, .putfield 527, .aload 0, .sipush 0, .putfield 522, .return_] ls st m := by
  rw [s_j, s_g_eq, g_l75]; rfl
/-- T.isOver -/
theorem g_l76 (l : Nat) : g_P 76 l = (g_c76.lookup l).getD [] := rfl
theorem v_76 {X : e_X} {d : Nat} (a0 : Nat) {m : e_M} : s_S X (d + 1) 76 [.ref a0] m = s_j X d 76 0 [.ref a0] [] m := rfl
theorem u_76_0 {X : e_X} {d : Nat} {ls st : List Value} {m : e_M} : s_j X d 76 0 ls st m = s_x X d 76 [.aload 0, .getfield 523, .aload 0, .getfield 524, .if_icmp .lt 15, .sipush 1, .goto 16] ls st m := by
  rw [s_j, s_g_eq, g_l76]; rfl
theorem u_76_15 {X : e_X} {d : Nat} {ls st : List Value} {m : e_M} : s_j X d 76 15 ls st m = s_x X d 76 [.sipush 0, .jsr 16] ls st m := by
  rw [s_j, s_g_eq, g_l76]; rfl
theorem u_76_16 {X : e_X} {d : Nat} {ls st : List Value} {m : e_M} : s_j X d 76 16 ls st m = s_x X d 76 [.ireturn] ls st m := by
  rw [s_j, s_g_eq, g_l76]; rfl
/-- T.newsIn -/
theorem g_l77 (l : Nat) : g_P 77 l = (g_c77.lookup l).getD [] := rfl
theorem v_77 {X : e_X} {d : Nat} (a0 : Nat) (a1 : Int32) {m : e_M} : s_S X (d + 1) 77 [.ref a0, .int a1] m = s_j X d 77 0 [.ref a0, .int a1] [] m := rfl
theorem u_77_0 {X : e_X} {d : Nat} {ls st : List Value} {m : e_M} : s_j X d 77 0 ls st m = s_x X d 77 [.iload 1, .sipush 0, .sipush 15, .invokeinterface 109 3, .ifCond .eq 14, .sipush 0, .goto 20] ls st m := by
  rw [s_j, s_g_eq, g_l77]; rfl
theorem u_77_14 {X : e_X} {d : Nat} {ls st : List Value} {m : e_M} : s_j X d 77 14 ls st m = s_x X d 77 [.aload 0, .checkcast 518, .iload 1, .iaload, .jsr 20] ls st m := by
  rw [s_j, s_g_eq, g_l77]; rfl
theorem u_77_20 {X : e_X} {d : Nat} {ls st : List Value} {m : e_M} : s_j X d 77 20 ls st m = s_x X d 77 [.ireturn] ls st m := by
  rw [s_j, s_g_eq, g_l77]; rfl
/-- T.passAndScore -/
theorem g_l78 (l : Nat) : g_P 78 l = (g_c78.lookup l).getD [] := rfl
theorem v_78 {X : e_X} {d : Nat} (a0 : Nat) (a1 : Int32) {m : e_M} : s_S X (d + 1) 78 [.ref a0, .int a1] m = s_j X d 78 0 [.ref a0, .int a1, .retAddr 0] [] m := rfl
theorem u_78_0 {X : e_X} {d : Nat} {ls st : List Value} {m : e_M} : s_j X d 78 0 ls st m = s_x X d 78 [.aload 0, .iload 1, .invokeinterface 79 2, .istore 2, .aload 0, .dup, .getfield 525, .iload 2, .iadd, .putfield 525, .iload 2, .ireturn] ls st m := by
  rw [s_j, s_g_eq, g_l78]; rfl
/-- T.passYear -/
theorem g_l79 (l : Nat) : g_P 79 l = (g_c79.lookup l).getD [] := rfl
theorem v_79 {X : e_X} {d : Nat} (a0 : Nat) (a1 : Int32) {m : e_M} : s_S X (d + 1) 79 [.ref a0, .int a1] m = s_j X d 79 0 [.ref a0, .int a1, .retAddr 0, .retAddr 0, .retAddr 0, .retAddr 0] [] m := rfl
theorem u_79_0 {X : e_X} {d : Nat} {ls st : List Value} {m : e_M} : s_j X d 79 0 ls st m = s_x X d 79 [.aload 0, .aload 0, .aload 0, .getfield 523, .invokeinterface 77 2, .aload 0, .getfield 526, .invokeinterface 126 2, .putfield 526, .iload 1, .sipush (-1), .if_icmp .ne 31, .aload 0, .invokeinterface 80 1, .goto 34] ls st m := by
  rw [s_j, s_g_eq, g_l79]; rfl
theorem u_79_31 {X : e_X} {d : Nat} {ls st : List Value} {m : e_M} : s_j X d 79 31 ls st m = s_x X d 79 [.iload 1, .sipush 1, .isub, .jsr 34] ls st m := by
  rw [s_j, s_g_eq, g_l79]; rfl
theorem u_79_34 {X : e_X} {d : Nat} {ls st : List Value} {m : e_M} : s_j X d 79 34 ls st m = s_x X d 79 [.istore 2, .aload 0, .iload 2, .invokeinterface 69 2, .ifCond .eq 51, .aload 0, .iload 2, .invokeinterface 73 2, .goto 52] ls st m := by
  rw [s_j, s_g_eq, g_l79]; rfl
theorem u_79_51 {X : e_X} {d : Nat} {ls st : List Value} {m : e_M} : s_j X d 79 51 ls st m = s_x X d 79 [.sipush 1, .jsr 52] ls st m := by
  rw [s_j, s_g_eq, g_l79]; rfl
theorem u_79_52 {X : e_X} {d : Nat} {ls st : List Value} {m : e_M} : s_j X d 79 52 ls st m = s_x X d 79 [.istore 3, .sipush 0, .istore 4, .iload 3, .ifCond .ne 70, .aload 0, .iload 2, .invokeinterface 81 2, .istore 4, .goto 80] ls st m := by
  rw [s_j, s_g_eq, g_l79]; rfl
theorem u_79_70 {X : e_X} {d : Nat} {ls st : List Value} {m : e_M} : s_j X d 79 70 ls st m = s_x X d 79 [.iload 3, .sipush 2, .if_icmp .ne 80, .aload 0, .iload 2, .invokeinterface 82 2, .jsr 80] ls st m := by
  rw [s_j, s_g_eq, g_l79]; rfl
theorem u_79_80 {X : e_X} {d : Nat} {ls st : List Value} {m : e_M} : s_j X d 79 80 ls st m = s_x X d 79 [.aload 0, .aload 0, .getfield 522, .invokeinterface 83 2, .aload 0, .getfield 527, .aload 0, .getfield 526, .invokeinterface 128 3, .istore 5, .aload 0, .dup, .getfield 527, .iload 5, .iadd, .putfield 527, .aload 0, .dup, .getfield 523, .sipush 1, .iadd, .putfield 523, .iload 4, .sipush 2, .iload 5, .imul, .iadd, .ireturn] ls st m := by
  rw [s_j, s_g_eq, g_l79]; rfl
/-- T.leastWilling -/
theorem g_l80 (l : Nat) : g_P 80 l = (g_c80.lookup l).getD [] := rfl
theorem v_80 {X : e_X} {d : Nat} (a0 : Nat) {m : e_M} : s_S X (d + 1) 80 [.ref a0] m = s_j X d 80 0 [.ref a0, .retAddr 0] [] m := rfl
theorem u_80_0 {X : e_X} {d : Nat} {ls st : List Value} {m : e_M} : s_j X d 80 0 ls st m = s_x X d 80 [.sipush 0, .istore 1, .jsr 2] ls st m := by
  rw [s_j, s_g_eq, g_l80]; rfl
theorem u_80_2 {X : e_X} {d : Nat} {ls st : List Value} {m : e_M} : s_j X d 80 2 ls st m = s_x X d 80 [.iload 1, .aload 0, .getfield 521, .if_icmp .ge 26, .aload 0, .iload 1, .invokeinterface 72 2, .ifCond .eq 20, .iload 1, .ireturn] ls st m := by
  rw [s_j, s_g_eq, g_l80]; rfl
theorem u_80_20 {X : e_X} {d : Nat} {ls st : List Value} {m : e_M} : s_j X d 80 20 ls st m = s_x X d 80 [.iinc 1 1, .goto 2] ls st m := by
  rw [s_j, s_g_eq, g_l80]; rfl
theorem u_80_26 {X : e_X} {d : Nat} {ls st : List Value} {m : e_M} : s_j X d 80 26 ls st m = s_x X d 80 [.sipush (-3), .ireturn] ls st m := by
  rw [s_j, s_g_eq, g_l80]; rfl
/-- T.sitDown -/
theorem g_l81 (l : Nat) : g_P 81 l = (g_c81.lookup l).getD [] := rfl
theorem v_81 {X : e_X} {d : Nat} (a0 : Nat) (a1 : Int32) {m : e_M} : s_S X (d + 1) 81 [.ref a0, .int a1] m = s_j X d 81 0 [.ref a0, .int a1] [] m := rfl
theorem u_81_0 {X : e_X} {d : Nat} {ls st : List Value} {m : e_M} : s_j X d 81 0 ls st m = s_x X d 81 [.aload 0, .iload 1, .invokeinterface 70 2, .ifCond .eq 10, .sipush 0, .ireturn] ls st m := by
  rw [s_j, s_g_eq, g_l81]; rfl
theorem u_81_10 {X : e_X} {d : Nat} {ls st : List Value} {m : e_M} : s_j X d 81 10 ls st m = s_x X d 81 [.aload 0, .iload 1, .invokeinterface 72 2, .ifCond .ne 34, .aload 0, .sipush 0, .aload 0, .getfield 526, .sipush 1, .isub, .dadd, .putfield 526, .sipush 0, .ireturn] ls st m := by
  rw [s_j, s_g_eq, g_l81]; rfl
theorem u_81_34 {X : e_X} {d : Nat} {ls st : List Value} {m : e_M} : s_j X d 81 34 ls st m = s_x X d 81 [.aload 0, .sipush 0, .aload 0, .getfield 526, .aload 0, .iload 1, .invokeinterface 71 2, .sipush 3, .idiv, .isub, .dadd, .putfield 526, .aload 0, .iload 1, .sipush 1, .invokeinterface 74 3, .pop, .sipush 1, .ireturn] ls st m := by
  rw [s_j, s_g_eq, g_l81]; rfl
/-- T.getUp -/
theorem g_l82 (l : Nat) : g_P 82 l = (g_c82.lookup l).getD [] := rfl
theorem v_82 {X : e_X} {d : Nat} (a0 : Nat) (a1 : Int32) {m : e_M} : s_S X (d + 1) 82 [.ref a0, .int a1] m = s_j X d 82 0 [.ref a0, .int a1] [] m := rfl
theorem u_82_0 {X : e_X} {d : Nat} {ls st : List Value} {m : e_M} : s_j X d 82 0 ls st m = s_x X d 82 [.aload 0, .iload 1, .invokeinterface 70 2, .ifCond .ne 9, .return_] ls st m := by
  rw [s_j, s_g_eq, g_l82]; rfl
theorem u_82_9 {X : e_X} {d : Nat} {ls st : List Value} {m : e_M} : s_j X d 82 9 ls st m = s_x X d 82 [.aload 0, .iload 1, .sipush 0, .invokeinterface 74 3, .pop, .aload 0, .sipush 9, .aload 0, .getfield 526, .sipush 1, .iadd, .dsub, .putfield 526, .return_] ls st m := by
  rw [s_j, s_g_eq, g_l82]; rfl
/-- T.placesSpanned -/
theorem g_l83 (l : Nat) : g_P 83 l = (g_c83.lookup l).getD [] := rfl
theorem v_83 {X : e_X} {d : Nat} (a0 : Nat) (a1 : Int32) {m : e_M} : s_S X (d + 1) 83 [.ref a0, .int a1] m = s_j X d 83 0 [.ref a0, .int a1, .retAddr 0, .retAddr 0, .retAddr 0] [] m := rfl
theorem u_83_0 {X : e_X} {d : Nat} {ls st : List Value} {m : e_M} : s_j X d 83 0 ls st m = s_x X d 83 [.goto_w 0, .lstore 2, .sipush 0, .istore 4, .jsr 5] ls st m := by
  rw [s_j, s_g_eq, g_l83]; rfl
theorem u_83_5 {X : e_X} {d : Nat} {ls st : List Value} {m : e_M} : s_j X d 83 5 ls st m = s_x X d 83 [.iload 4, .aload 0, .getfield 521, .if_icmp .ge 64, .iload 1, .iload 4, .ishr, .sipush 1, .iand, .sipush 1, .if_icmp .ne 58, .lload 2, .aload 0, .checkcast 513, .iload 4, .iaload, .aload 0, .checkcast 512, .iload 4, .iaload, .aload 0, .checkcast 514, .iload 4, .iaload, .aload 0, .getfield 523, .invokeinterface 111 3, .invokeinterface 127 2, .lor, .lstore 2, .jsr 58] ls st m := by
  rw [s_j, s_g_eq, g_l83]; rfl
theorem u_83_58 {X : e_X} {d : Nat} {ls st : List Value} {m : e_M} : s_j X d 83 58 ls st m = s_x X d 83 [.iinc 4 1, .goto 5] ls st m := by
  rw [s_j, s_g_eq, g_l83]; rfl
theorem u_83_64 {X : e_X} {d : Nat} {ls st : List Value} {m : e_M} : s_j X d 83 64 ls st m = s_x X d 83 [.lload 2, .lreturn] ls st m := by
  rw [s_j, s_g_eq, g_l83]; rfl
/-- T.restWorth -/
theorem g_l84 (l : Nat) : g_P 84 l = (g_c84.lookup l).getD [] := rfl
theorem v_84 {X : e_X} {d : Nat} (a0 : Nat) (a1 : Int32) {m : e_M} : s_S X (d + 1) 84 [.ref a0, .int a1] m = s_j X d 84 0 [.ref a0, .int a1, .retAddr 0, .retAddr 0, .retAddr 0, .retAddr 0] [] m := rfl
theorem u_84_0 {X : e_X} {d : Nat} {ls st : List Value} {m : e_M} : s_j X d 84 0 ls st m = s_x X d 84 [.aload 0, .invokeinterface 85 1, .istore 2, .aload 0, .iload 1, .invokeinterface 86 2, .istore 3, .sipush 0, .istore 4, .sipush 0, .istore 5, .jsr 17] ls st m := by
  rw [s_j, s_g_eq, g_l84]; rfl
theorem u_84_17 {X : e_X} {d : Nat} {ls st : List Value} {m : e_M} : s_j X d 84 17 ls st m = s_x X d 84 [.iload 5, .iload 3, .if_icmp .ge 39, .iload 4, .aload 0, .sipush (-1), .invokeinterface 79 2, .iadd, .istore 4, .iinc 5 1, .goto 17] ls st m := by
  rw [s_j, s_g_eq, g_l84]; rfl
theorem u_84_39 {X : e_X} {d : Nat} {ls st : List Value} {m : e_M} : s_j X d 84 39 ls st m = s_x X d 84 [.aload 0, .iload 2, .invokeinterface 87 2, .iload 4, .ireturn] ls st m := by
  rw [s_j, s_g_eq, g_l84]; rfl
/-- T.moment -/
theorem g_l85 (l : Nat) : g_P 85 l = (g_c85.lookup l).getD [] := rfl
theorem v_85 {X : e_X} {d : Nat} (a0 : Nat) {m : e_M} : s_S X (d + 1) 85 [.ref a0] m = s_j X d 85 0 [.ref a0] [] m := rfl
theorem u_85_0 {X : e_X} {d : Nat} {ls st : List Value} {m : e_M} : s_j X d 85 0 ls st m = s_x X d 85 [.aload 0, .getfield 523, .aload 0, .getfield 526, .sipush 5, .ishl, .ior, .aload 0, .getfield 527, .sipush 9, .ishl, .ior, .aload 0, .getfield 522, .sipush 15, .ishl, .ior, .ireturn] ls st m := by
  rw [s_j, s_g_eq, g_l85]; rfl
/-- T.yearsYet -/
theorem g_l86 (l : Nat) : g_P 86 l = (g_c86.lookup l).getD [] := rfl
theorem v_86 {X : e_X} {d : Nat} (a0 : Nat) (a1 : Int32) {m : e_M} : s_S X (d + 1) 86 [.ref a0, .int a1] m = s_j X d 86 0 [.ref a0, .int a1] [] m := rfl
theorem u_86_0 {X : e_X} {d : Nat} {ls st : List Value} {m : e_M} : s_j X d 86 0 ls st m = s_x X d 86 [.sipush 0, .iload 1, .aload 0, .getfield 524, .aload 0, .getfield 523, .isub, .dsub, .dadd, .ireturn] ls st m := by
  rw [s_j, s_g_eq, g_l86]; rfl
/-- T.backTo -/
theorem g_l87 (l : Nat) : g_P 87 l = (g_c87.lookup l).getD [] := rfl
theorem v_87 {X : e_X} {d : Nat} (a0 : Nat) (a1 : Int32) {m : e_M} : s_S X (d + 1) 87 [.ref a0, .int a1] m = s_j X d 87 0 [.ref a0, .int a1] [] m := rfl
theorem u_87_0 {X : e_X} {d : Nat} {ls st : List Value} {m : e_M} : s_j X d 87 0 ls st m = s_x X d 87 [.aload 0, .iload 1, .sipush 31, .iand, .putfield 523, .aload 0, .iload 1, .sipush 5, .ishr, .sipush 15, .iand, .putfield 526, .aload 0, .iload 1, .sipush 9, .ishr, .sipush 63, .iand, .putfield 527, .aload 0, .iload 1, .sipush 15, .ishr, .sipush 63, .iand, .putfield 522, .return_] ls st m := by
  rw [s_j, s_g_eq, g_l87]; rfl
/-- T.restUntil -/
theorem g_l88 (l : Nat) : g_P 88 l = (g_c88.lookup l).getD [] := rfl
theorem v_88 {X : e_X} {d : Nat} (a0 : Nat) (a1 : Int32) (a2 : Int32) {m : e_M} : s_S X (d + 1) 88 [.ref a0, .int a1, .int a2] m = s_j X d 88 0 [.ref a0, .int a1, .int a2, .retAddr 0, .retAddr 0, .retAddr 0, .retAddr 0] [] m := rfl
theorem u_88_0 {X : e_X} {d : Nat} {ls st : List Value} {m : e_M} : s_j X d 88 0 ls st m = s_x X d 88 [.aload 0, .invokeinterface 85 1, .istore 3, .aload 0, .sipush 16, .invokeinterface 86 2, .istore 4, .sipush (-3), .istore 5, .sipush 0, .istore 6, .jsr 20] ls st m := by
  rw [s_j, s_g_eq, g_l88]; rfl
theorem u_88_20 {X : e_X} {d : Nat} {ls st : List Value} {m : e_M} : s_j X d 88 20 ls st m = s_x X d 88 [.iload 6, .iload 4, .if_icmp .ge 72, .iload 5, .sipush (-3), .if_icmp .ne 72, .aload 0, .sipush (-1), .invokeinterface 79 2, .pop, .aload 0, .getfield 522, .iload 1, .iand, .iload 1, .if_icmp .ne 66, .aload 0, .getfield 527, .iload 2, .if_icmp .lt 66, .aload 0, .getfield 523, .sipush 1, .isub, .istore 5, .jsr 66] ls st m := by
  rw [s_j, s_g_eq, g_l88]; rfl
theorem u_88_66 {X : e_X} {d : Nat} {ls st : List Value} {m : e_M} : s_j X d 88 66 ls st m = s_x X d 88 [.iinc 6 1, .goto 20] ls st m := by
  rw [s_j, s_g_eq, g_l88]; rfl
theorem u_88_72 {X : e_X} {d : Nat} {ls st : List Value} {m : e_M} : s_j X d 88 72 ls st m = s_x X d 88 [.aload 0, .iload 3, .invokeinterface 87 2, .iload 5, .ireturn] ls st m := by
  rw [s_j, s_g_eq, g_l88]; rfl
/-- T.bestValue -/
theorem g_l89 (l : Nat) : g_P 89 l = (g_c89.lookup l).getD [] := rfl
theorem v_89 {X : e_X} {d : Nat} (a0 : Nat) (a1 : Nat) (a2 : Int32) (a3 : Int32) {m : e_M} : s_S X (d + 1) 89 [.ref a0, .ref a1, .int a2, .int a3] m = s_j X d 89 0 [.ref a0, .ref a1, .int a2, .int a3, .retAddr 0, .retAddr 0, .retAddr 0, .retAddr 0, .retAddr 0] [] m := rfl
theorem u_89_0 {X : e_X} {d : Nat} {ls st : List Value} {m : e_M} : s_j X d 89 0 ls st m = s_x X d 89 [.aload 1, .iload 2, .iaload, .istore 4, .sipush 0, .istore 5, .sipush (-1), .istore 6, .sipush 0, .istore 7, .jsr 14] ls st m := by
  rw [s_j, s_g_eq, g_l89]; rfl
theorem u_89_14 {X : e_X} {d : Nat} {ls st : List Value} {m : e_M} : s_j X d 89 14 ls st m = s_x X d 89 [.iload 7, .iload 3, .if_icmp .gt 54, .aload 1, .iload 2, .iload 7, .iastore, .aload 0, .sipush 16, .invokeinterface 84 2, .istore 8, .iload 8, .iload 6, .if_icmp .le 48, .iload 8, .istore 6, .iload 7, .istore 5, .jsr 48] ls st m := by
  rw [s_j, s_g_eq, g_l89]; rfl
theorem u_89_48 {X : e_X} {d : Nat} {ls st : List Value} {m : e_M} : s_j X d 89 48 ls st m = s_x X d 89 [.iinc 7 1, .goto 14] ls st m := by
  rw [s_j, s_g_eq, g_l89]; rfl
theorem u_89_54 {X : e_X} {d : Nat} {ls st : List Value} {m : e_M} : s_j X d 89 54 ls st m = s_x X d 89 [.aload 1, .iload 2, .iload 4, .iastore, .iload 5, .ireturn] ls st m := by
  rw [s_j, s_g_eq, g_l89]; rfl
/-- T.firstUnspanned -/
theorem g_l90 (l : Nat) : g_P 90 l = (g_c90.lookup l).getD [] := rfl
theorem v_90 {X : e_X} {d : Nat} (a0 : Nat) {m : e_M} : s_S X (d + 1) 90 [.ref a0] m = s_j X d 90 0 [.ref a0, .retAddr 0, .retAddr 0, .retAddr 0] [] m := rfl
theorem u_90_0 {X : e_X} {d : Nat} {ls st : List Value} {m : e_M} : s_j X d 90 0 ls st m = s_x X d 90 [.aload 0, .aload 0, .invokeinterface 91 1, .invokeinterface 83 2, .lstore 1, .aload 0, .getfield 527, .istore 3, .jsr 14] ls st m := by
  rw [s_j, s_g_eq, g_l90]; rfl
theorem u_90_14 {X : e_X} {d : Nat} {ls st : List Value} {m : e_M} : s_j X d 90 14 ls st m = s_x X d 90 [.iload 3, .sipush 39, .if_icmp .gt 38, .lload 1, .iload 3, .lushr, .goto_w 1, .land, .goto_w 0, .lcmp, .ifCond .ne 32, .iload 3, .ireturn] ls st m := by
  rw [s_j, s_g_eq, g_l90]; rfl
theorem u_90_32 {X : e_X} {d : Nat} {ls st : List Value} {m : e_M} : s_j X d 90 32 ls st m = s_x X d 90 [.iinc 3 1, .goto 14] ls st m := by
  rw [s_j, s_g_eq, g_l90]; rfl
theorem u_90_38 {X : e_X} {d : Nat} {ls st : List Value} {m : e_M} : s_j X d 90 38 ls st m = s_x X d 90 [.sipush (-3), .ireturn] ls st m := by
  rw [s_j, s_g_eq, g_l90]; rfl
/-- T.allPieces -/
theorem g_l91 (l : Nat) : g_P 91 l = (g_c91.lookup l).getD [] := rfl
theorem v_91 {X : e_X} {d : Nat} (a0 : Nat) {m : e_M} : s_S X (d + 1) 91 [.ref a0] m = s_j X d 91 0 [.ref a0] [] m := rfl
theorem u_91_0 {X : e_X} {d : Nat} {ls st : List Value} {m : e_M} : s_j X d 91 0 ls st m = s_x X d 91 [.sipush 1, .aload 0, .getfield 521, .ishl, .sipush 1, .isub, .ireturn] ls st m := by
  rw [s_j, s_g_eq, g_l91]; rfl
/-- T.countNotThere -/
theorem g_l92 (l : Nat) : g_P 92 l = (g_c92.lookup l).getD [] := rfl
theorem v_92 {X : e_X} {d : Nat} (a0 : Nat) {m : e_M} : s_S X (d + 1) 92 [.ref a0] m = s_j X d 92 0 [.ref a0, .retAddr 0, .retAddr 0, .retAddr 0, .retAddr 0] [] m := rfl
theorem u_92_0 {X : e_X} {d : Nat} {ls st : List Value} {m : e_M} : s_j X d 92 0 ls st m = s_x X d 92 [.aload 0, .aload 0, .getfield 522, .invokeinterface 83 2, .lstore 1, .sipush 0, .istore 3, .sipush 0, .istore 4, .jsr 14] ls st m := by
  rw [s_j, s_g_eq, g_l92]; rfl
theorem u_92_14 {X : e_X} {d : Nat} {ls st : List Value} {m : e_M} : s_j X d 92 14 ls st m = s_x X d 92 [.iload 4, .sipush 39, .if_icmp .gt 41, .lload 1, .iload 4, .lushr, .goto_w 1, .land, .goto_w 0, .lcmp, .ifCond .ne 35, .iinc 3 1, .jsr 35] ls st m := by
  rw [s_j, s_g_eq, g_l92]; rfl
theorem u_92_35 {X : e_X} {d : Nat} {ls st : List Value} {m : e_M} : s_j X d 92 35 ls st m = s_x X d 92 [.iinc 4 1, .goto 14] ls st m := by
  rw [s_j, s_g_eq, g_l92]; rfl
theorem u_92_41 {X : e_X} {d : Nat} {ls st : List Value} {m : e_M} : s_j X d 92 41 ls st m = s_x X d 92 [.iload 3, .ireturn] ls st m := by
  rw [s_j, s_g_eq, g_l92]; rfl
/-- T.countBranches -/
theorem g_l93 (l : Nat) : g_P 93 l = (g_c93.lookup l).getD [] := rfl
theorem v_93 {X : e_X} {d : Nat} (a0 : Nat) {m : e_M} : s_S X (d + 1) 93 [.ref a0] m = s_j X d 93 0 [.ref a0, .retAddr 0, .retAddr 0] [] m := rfl
theorem u_93_0 {X : e_X} {d : Nat} {ls st : List Value} {m : e_M} : s_j X d 93 0 ls st m = s_x X d 93 [.sipush 0, .istore 1, .sipush 0, .istore 2, .jsr 4] ls st m := by
  rw [s_j, s_g_eq, g_l93]; rfl
theorem u_93_4 {X : e_X} {d : Nat} {ls st : List Value} {m : e_M} : s_j X d 93 4 ls st m = s_x X d 93 [.iload 2, .aload 0, .getfield 521, .if_icmp .ge 33, .aload 0, .iload 2, .invokeinterface 94 2, .invokeinterface 136 1, .iload 2, .if_icmp .ne 27, .iinc 1 1, .jsr 27] ls st m := by
  rw [s_j, s_g_eq, g_l93]; rfl
theorem u_93_27 {X : e_X} {d : Nat} {ls st : List Value} {m : e_M} : s_j X d 93 27 ls st m = s_x X d 93 [.iinc 2 1, .goto 4] ls st m := by
  rw [s_j, s_g_eq, g_l93]; rfl
theorem u_93_33 {X : e_X} {d : Nat} {ls st : List Value} {m : e_M} : s_j X d 93 33 ls st m = s_x X d 93 [.iload 1, .ireturn] ls st m := by
  rw [s_j, s_g_eq, g_l93]; rfl
/-- T.branchOf -/
theorem g_l94 (l : Nat) : g_P 94 l = (g_c94.lookup l).getD [] := rfl
theorem v_94 {X : e_X} {d : Nat} (a0 : Nat) (a1 : Int32) {m : e_M} : s_S X (d + 1) 94 [.ref a0, .int a1] m = s_j X d 94 0 [.ref a0, .int a1, .retAddr 0, .retAddr 0] [] m := rfl
theorem u_94_0 {X : e_X} {d : Nat} {ls st : List Value} {m : e_M} : s_j X d 94 0 ls st m = s_x X d 94 [.aload 0, .iload 1, .invokeinterface 70 2, .ifCond .eq 10, .sipush 0, .ireturn] ls st m := by
  rw [s_j, s_g_eq, g_l94]; rfl
theorem u_94_10 {X : e_X} {d : Nat} {ls st : List Value} {m : e_M} : s_j X d 94 10 ls st m = s_x X d 94 [.sipush 1, .iload 1, .ishl, .istore 2, .sipush 0, .istore 3, .jsr 16] ls st m := by
  rw [s_j, s_g_eq, g_l94]; rfl
theorem u_94_16 {X : e_X} {d : Nat} {ls st : List Value} {m : e_M} : s_j X d 94 16 ls st m = s_x X d 94 [.iload 3, .sipush 6, .if_icmp .ge 36, .iload 2, .aload 0, .iload 2, .invokeinterface 95 2, .ior, .istore 2, .iinc 3 1, .goto 16] ls st m := by
  rw [s_j, s_g_eq, g_l94]; rfl
theorem u_94_36 {X : e_X} {d : Nat} {ls st : List Value} {m : e_M} : s_j X d 94 36 ls st m = s_x X d 94 [.iload 2, .ireturn] ls st m := by
  rw [s_j, s_g_eq, g_l94]; rfl
/-- T.closeTo -/
theorem g_l95 (l : Nat) : g_P 95 l = (g_c95.lookup l).getD [] := rfl
theorem v_95 {X : e_X} {d : Nat} (a0 : Nat) (a1 : Int32) {m : e_M} : s_S X (d + 1) 95 [.ref a0, .int a1] m = s_j X d 95 0 [.ref a0, .int a1, .retAddr 0, .retAddr 0, .retAddr 0] [] m := rfl
theorem u_95_0 {X : e_X} {d : Nat} {ls st : List Value} {m : e_M} : s_j X d 95 0 ls st m = s_x X d 95 [.sipush 0, .istore 2, .sipush 0, .istore 3, .jsr 4] ls st m := by
  rw [s_j, s_g_eq, g_l95]; rfl
theorem u_95_4 {X : e_X} {d : Nat} {ls st : List Value} {m : e_M} : s_j X d 95 4 ls st m = s_x X d 95 [.iload 3, .aload 0, .getfield 521, .if_icmp .ge 62, .sipush 0, .istore 4, .jsr 15] ls st m := by
  rw [s_j, s_g_eq, g_l95]; rfl
theorem u_95_15 {X : e_X} {d : Nat} {ls st : List Value} {m : e_M} : s_j X d 95 15 ls st m = s_x X d 95 [.iload 4, .aload 0, .getfield 521, .if_icmp .ge 56, .iload 1, .iload 4, .ishr, .sipush 1, .iand, .sipush 1, .if_icmp .ne 50, .aload 0, .iload 4, .iload 3, .invokeinterface 96 3, .ifCond .eq 50, .iload 2, .sipush 1, .iload 3, .ishl, .ior, .istore 2, .jsr 50] ls st m := by
  rw [s_j, s_g_eq, g_l95]; rfl
theorem u_95_50 {X : e_X} {d : Nat} {ls st : List Value} {m : e_M} : s_j X d 95 50 ls st m = s_x X d 95 [.iinc 4 1, .goto 15] ls st m := by
  rw [s_j, s_g_eq, g_l95]; rfl
theorem u_95_56 {X : e_X} {d : Nat} {ls st : List Value} {m : e_M} : s_j X d 95 56 ls st m = s_x X d 95 [.iinc 3 1, .goto 4] ls st m := by
  rw [s_j, s_g_eq, g_l95]; rfl
theorem u_95_62 {X : e_X} {d : Nat} {ls st : List Value} {m : e_M} : s_j X d 95 62 ls st m = s_x X d 95 [.iload 2, .ireturn] ls st m := by
  rw [s_j, s_g_eq, g_l95]; rfl
/-- T.areClose -/
theorem g_l96 (l : Nat) : g_P 96 l = (g_c96.lookup l).getD [] := rfl
theorem v_96 {X : e_X} {d : Nat} (a0 : Nat) (a1 : Int32) (a2 : Int32) {m : e_M} : s_S X (d + 1) 96 [.ref a0, .int a1, .int a2] m = s_j X d 96 0 [.ref a0, .int a1, .int a2] [] m := rfl
theorem u_96_0 {X : e_X} {d : Nat} {ls st : List Value} {m : e_M} : s_j X d 96 0 ls st m = s_x X d 96 [.aload 0, .iload 1, .invokeinterface 70 2, .ifCond .ne 16, .aload 0, .iload 2, .invokeinterface 70 2, .ifCond .eq 18, .jsr 16] ls st m := by
  rw [s_j, s_g_eq, g_l96]; rfl
theorem u_96_16 {X : e_X} {d : Nat} {ls st : List Value} {m : e_M} : s_j X d 96 16 ls st m = s_x X d 96 [.sipush 0, .ireturn] ls st m := by
  rw [s_j, s_g_eq, g_l96]; rfl
theorem u_96_18 {X : e_X} {d : Nat} {ls st : List Value} {m : e_M} : s_j X d 96 18 ls st m = s_x X d 96 [.aload 0, .checkcast 515, .iload 1, .iaload, .aload 0, .checkcast 515, .iload 2, .iaload, .if_icmp .eq 53, .aload 0, .checkcast 513, .iload 1, .iaload, .aload 0, .checkcast 513, .iload 2, .iaload, .isub, .dneg, .sipush 2, .if_icmp .gt 57, .jsr 53] ls st m := by
  rw [s_j, s_g_eq, g_l96]; rfl
theorem u_96_53 {X : e_X} {d : Nat} {ls st : List Value} {m : e_M} : s_j X d 96 53 ls st m = s_x X d 96 [.sipush 1, .goto 58] ls st m := by
  rw [s_j, s_g_eq, g_l96]; rfl
theorem u_96_57 {X : e_X} {d : Nat} {ls st : List Value} {m : e_M} : s_j X d 96 57 ls st m = s_x X d 96 [.sipush 0, .jsr 58] ls st m := by
  rw [s_j, s_g_eq, g_l96]; rfl
theorem u_96_58 {X : e_X} {d : Nat} {ls st : List Value} {m : e_M} : s_j X d 96 58 ls st m = s_x X d 96 [.ireturn] ls st m := by
  rw [s_j, s_g_eq, g_l96]; rfl
/-- T.wayOver -/
theorem g_l97 (l : Nat) : g_P 97 l = (g_c97.lookup l).getD [] := rfl
theorem v_97 {X : e_X} {d : Nat} (a0 : Nat) (a1 : Int32) (a2 : Int32) {m : e_M} : s_S X (d + 1) 97 [.ref a0, .int a1, .int a2] m = s_j X d 97 0 [.ref a0, .int a1, .int a2, .retAddr 0, .retAddr 0, .retAddr 0] [] m := rfl
theorem u_97_0 {X : e_X} {d : Nat} {ls st : List Value} {m : e_M} : s_j X d 97 0 ls st m = s_x X d 97 [.sipush 40, .istore 3, .sipush (-1), .istore 4, .sipush 0, .istore 5, .jsr 9] ls st m := by
  rw [s_j, s_g_eq, g_l97]; rfl
theorem u_97_9 {X : e_X} {d : Nat} {ls st : List Value} {m : e_M} : s_j X d 97 9 ls st m = s_x X d 97 [.iload 5, .aload 0, .getfield 521, .if_icmp .ge 60, .iload 2, .iload 5, .ishr, .sipush 1, .iand, .sipush 1, .if_icmp .ne 54, .iload 3, .aload 0, .checkcast 513, .iload 5, .iaload, .dsub, .istore 3, .iload 4, .aload 0, .checkcast 513, .iload 5, .iaload, .dadd, .istore 4, .jsr 54] ls st m := by
  rw [s_j, s_g_eq, g_l97]; rfl
theorem u_97_54 {X : e_X} {d : Nat} {ls st : List Value} {m : e_M} : s_j X d 97 54 ls st m = s_x X d 97 [.iinc 5 1, .goto 9] ls st m := by
  rw [s_j, s_g_eq, g_l97]; rfl
theorem u_97_60 {X : e_X} {d : Nat} {ls st : List Value} {m : e_M} : s_j X d 97 60 ls st m = s_x X d 97 [.iload 4, .ifCond .ge 67, .sipush 0, .ireturn] ls st m := by
  rw [s_j, s_g_eq, g_l97]; rfl
theorem u_97_67 {X : e_X} {d : Nat} {ls st : List Value} {m : e_M} : s_j X d 97 67 ls st m = s_x X d 97 [.iload 4, .iload 3, .isub, .iload 1, .iload 3, .isub, .dneg, .iload 1, .iload 4, .isub, .dneg, .dsub, .iadd, .ireturn] ls st m := by
  rw [s_j, s_g_eq, g_l97]; rfl
/-- T.firstFetched -/
theorem g_l98 (l : Nat) : g_P 98 l = (g_c98.lookup l).getD [] := rfl
theorem v_98 {X : e_X} {d : Nat} (a0 : Nat) (a1 : Int32) (a2 : Int32) {m : e_M} : s_S X (d + 1) 98 [.ref a0, .int a1, .int a2] m = s_j X d 98 0 [.ref a0, .int a1, .int a2, .retAddr 0, .retAddr 0, .retAddr 0] [] m := rfl
theorem u_98_0 {X : e_X} {d : Nat} {ls st : List Value} {m : e_M} : s_j X d 98 0 ls st m = s_x X d 98 [.aload 0, .iload 1, .iload 2, .invokeinterface 97 3, .istore 3, .sipush 0, .istore 4, .jsr 10] ls st m := by
  rw [s_j, s_g_eq, g_l98]; rfl
theorem u_98_10 {X : e_X} {d : Nat} {ls st : List Value} {m : e_M} : s_j X d 98 10 ls st m = s_x X d 98 [.iload 4, .aload 0, .getfield 521, .if_icmp .ge 78, .iload 2, .iload 4, .ishr, .sipush 1, .iand, .sipush 1, .if_icmp .ne 72, .iload 1, .aload 0, .checkcast 513, .iload 4, .iaload, .isub, .dneg, .aload 0, .aload 0, .checkcast 513, .iload 4, .iaload, .iload 2, .sipush 1, .iload 4, .ishl, .sipush (-1), .ixor, .iand, .invokeinterface 97 3, .iadd, .istore 5, .iload 5, .iload 3, .if_icmp .ne 72, .iload 4, .ireturn] ls st m := by
  rw [s_j, s_g_eq, g_l98]; rfl
theorem u_98_72 {X : e_X} {d : Nat} {ls st : List Value} {m : e_M} : s_j X d 98 72 ls st m = s_x X d 98 [.iinc 4 1, .goto 10] ls st m := by
  rw [s_j, s_g_eq, g_l98]; rfl
theorem u_98_78 {X : e_X} {d : Nat} {ls st : List Value} {m : e_M} : s_j X d 98 78 ls st m = s_x X d 98 [.sipush (-3), .ireturn] ls st m := by
  rw [s_j, s_g_eq, g_l98]; rfl
/-- T.countFitting -/
theorem g_l99 (l : Nat) : g_P 99 l = (g_c99.lookup l).getD [] := rfl
theorem v_99 {X : e_X} {d : Nat} (a0 : Nat) {m : e_M} : s_S X (d + 1) 99 [.ref a0] m = s_j X d 99 0 [.ref a0, .retAddr 0, .retAddr 0, .retAddr 0, .retAddr 0] [] m := rfl
theorem u_99_0 {X : e_X} {d : Nat} {ls st : List Value} {m : e_M} : s_j X d 99 0 ls st m = s_x X d 99 [.sipush 0, .istore 1, .sipush 1, .istore 2, .jsr 4] ls st m := by
  rw [s_j, s_g_eq, g_l99]; rfl
theorem u_99_4 {X : e_X} {d : Nat} {ls st : List Value} {m : e_M} : s_j X d 99 4 ls st m = s_x X d 99 [.iload 2, .sipush 5, .if_icmp .gt 59, .sipush 0, .istore 3, .jsr 11] ls st m := by
  rw [s_j, s_g_eq, g_l99]; rfl
theorem u_99_11 {X : e_X} {d : Nat} {ls st : List Value} {m : e_M} : s_j X d 99 11 ls st m = s_x X d 99 [.iload 3, .sipush 9, .if_icmp .gt 53, .sipush 0, .istore 4, .jsr 20] ls st m := by
  rw [s_j, s_g_eq, g_l99]; rfl
theorem u_99_20 {X : e_X} {d : Nat} {ls st : List Value} {m : e_M} : s_j X d 99 20 ls st m = s_x X d 99 [.iload 4, .sipush 9, .if_icmp .gt 47, .aload 0, .iload 2, .iload 3, .iload 4, .invokeinterface 100 4, .ifCond .ne 41, .iinc 1 1, .jsr 41] ls st m := by
  rw [s_j, s_g_eq, g_l99]; rfl
theorem u_99_41 {X : e_X} {d : Nat} {ls st : List Value} {m : e_M} : s_j X d 99 41 ls st m = s_x X d 99 [.iinc 4 1, .goto 20] ls st m := by
  rw [s_j, s_g_eq, g_l99]; rfl
theorem u_99_47 {X : e_X} {d : Nat} {ls st : List Value} {m : e_M} : s_j X d 99 47 ls st m = s_x X d 99 [.iinc 3 1, .goto 11] ls st m := by
  rw [s_j, s_g_eq, g_l99]; rfl
theorem u_99_53 {X : e_X} {d : Nat} {ls st : List Value} {m : e_M} : s_j X d 99 53 ls st m = s_x X d 99 [.iinc 2 1, .goto 4] ls st m := by
  rw [s_j, s_g_eq, g_l99]; rfl
theorem u_99_59 {X : e_X} {d : Nat} {ls st : List Value} {m : e_M} : s_j X d 99 59 ls st m = s_x X d 99 [.iload 1, .ireturn] ls st m := by
  rw [s_j, s_g_eq, g_l99]; rfl
/-- T.wrongBy -/
theorem g_l100 (l : Nat) : g_P 100 l = (g_c100.lookup l).getD [] := rfl
theorem v_100 {X : e_X} {d : Nat} (a0 : Nat) (a1 : Int32) (a2 : Int32) (a3 : Int32) {m : e_M} : s_S X (d + 1) 100 [.ref a0, .int a1, .int a2, .int a3] m = s_j X d 100 0 [.ref a0, .int a1, .int a2, .int a3, .retAddr 0, .retAddr 0, .retAddr 0, .retAddr 0, .retAddr 0] [] m := rfl
theorem u_100_0 {X : e_X} {d : Nat} {ls st : List Value} {m : e_M} : s_j X d 100 0 ls st m = s_x X d 100 [.aload 0, .checkcast 520, .invokeinterface 50 1, .istore 4, .iload 3, .istore 5, .sipush 0, .istore 6, .aload 0, .checkcast 520, .sipush 0, .iload 6, .iload 5, .invokeinterface 51 4, .istore 7, .sipush 0, .istore 8, .jsr 32] ls st m := by
  rw [s_j, s_g_eq, g_l100]; rfl
theorem u_100_32 {X : e_X} {d : Nat} {ls st : List Value} {m : e_M} : s_j X d 100 32 ls st m = s_x X d 100 [.iload 8, .iload 4, .if_icmp .ge 101, .aload 0, .iload 8, .invokeinterface 77 2, .iload 5, .invokeinterface 126 2, .istore 5, .iload 6, .sipush 0, .iload 1, .iload 2, .iload 8, .invokeinterface 111 3, .invokeinterface 127 2, .iload 6, .iload 5, .invokeinterface 128 3, .iadd, .istore 6, .iload 7, .aload 0, .checkcast 520, .iload 8, .sipush 1, .iadd, .iload 6, .iload 5, .invokeinterface 51 4, .ior, .istore 7, .iinc 8 1, .goto 32] ls st m := by
  rw [s_j, s_g_eq, g_l100]; rfl
theorem u_100_101 {X : e_X} {d : Nat} {ls st : List Value} {m : e_M} : s_j X d 100 101 ls st m = s_x X d 100 [.iload 7, .ireturn] ls st m := by
  rw [s_j, s_g_eq, g_l100]; rfl
/-- T.firstFitting -/
theorem g_l101 (l : Nat) : g_P 101 l = (g_c101.lookup l).getD [] := rfl
theorem v_101 {X : e_X} {d : Nat} (a0 : Nat) (a1 : Int32) {m : e_M} : s_S X (d + 1) 101 [.ref a0, .int a1] m = s_j X d 101 0 [.ref a0, .int a1, .retAddr 0, .retAddr 0, .retAddr 0] [] m := rfl
theorem u_101_0 {X : e_X} {d : Nat} {ls st : List Value} {m : e_M} : s_j X d 101 0 ls st m = s_x X d 101 [.sipush 1, .istore 2, .jsr 2] ls st m := by
  rw [s_j, s_g_eq, g_l101]; rfl
theorem u_101_2 {X : e_X} {d : Nat} {ls st : List Value} {m : e_M} : s_j X d 101 2 ls st m = s_x X d 101 [.iload 2, .sipush 5, .if_icmp .gt 75, .sipush 0, .istore 3, .jsr 9] ls st m := by
  rw [s_j, s_g_eq, g_l101]; rfl
theorem u_101_9 {X : e_X} {d : Nat} {ls st : List Value} {m : e_M} : s_j X d 101 9 ls st m = s_x X d 101 [.iload 3, .sipush 9, .if_icmp .gt 69, .sipush 0, .istore 4, .jsr 18] ls st m := by
  rw [s_j, s_g_eq, g_l101]; rfl
theorem u_101_18 {X : e_X} {d : Nat} {ls st : List Value} {m : e_M} : s_j X d 101 18 ls st m = s_x X d 101 [.iload 4, .sipush 9, .if_icmp .gt 63, .aload 0, .iload 2, .iload 3, .iload 4, .invokeinterface 100 4, .ifCond .ne 57, .iload 1, .sipush 1, .if_icmp .ne 45, .iload 2, .goto 56] ls st m := by
  rw [s_j, s_g_eq, g_l101]; rfl
theorem u_101_45 {X : e_X} {d : Nat} {ls st : List Value} {m : e_M} : s_j X d 101 45 ls st m = s_x X d 101 [.iload 1, .sipush 2, .if_icmp .ne 54, .iload 3, .goto 56] ls st m := by
  rw [s_j, s_g_eq, g_l101]; rfl
theorem u_101_54 {X : e_X} {d : Nat} {ls st : List Value} {m : e_M} : s_j X d 101 54 ls st m = s_x X d 101 [.iload 4, .jsr 56] ls st m := by
  rw [s_j, s_g_eq, g_l101]; rfl
theorem u_101_56 {X : e_X} {d : Nat} {ls st : List Value} {m : e_M} : s_j X d 101 56 ls st m = s_x X d 101 [.ireturn] ls st m := by
  rw [s_j, s_g_eq, g_l101]; rfl
theorem u_101_57 {X : e_X} {d : Nat} {ls st : List Value} {m : e_M} : s_j X d 101 57 ls st m = s_x X d 101 [.iinc 4 1, .goto 18] ls st m := by
  rw [s_j, s_g_eq, g_l101]; rfl
theorem u_101_63 {X : e_X} {d : Nat} {ls st : List Value} {m : e_M} : s_j X d 101 63 ls st m = s_x X d 101 [.iinc 3 1, .goto 9] ls st m := by
  rw [s_j, s_g_eq, g_l101]; rfl
theorem u_101_69 {X : e_X} {d : Nat} {ls st : List Value} {m : e_M} : s_j X d 101 69 ls st m = s_x X d 101 [.iinc 2 1, .goto 2] ls st m := by
  rw [s_j, s_g_eq, g_l101]; rfl
theorem u_101_75 {X : e_X} {d : Nat} {ls st : List Value} {m : e_M} : s_j X d 101 75 ls st m = s_x X d 101 [.sipush (-3), .ireturn] ls st m := by
  rw [s_j, s_g_eq, g_l101]; rfl
/-- T.leastLiar -/
theorem g_l102 (l : Nat) : g_P 102 l = (g_c102.lookup l).getD [] := rfl
theorem v_102 {X : e_X} {d : Nat} (a0 : Nat) {m : e_M} : s_S X (d + 1) 102 [.ref a0] m = s_j X d 102 0 [.ref a0, .retAddr 0, .retAddr 0, .retAddr 0, .retAddr 0, .retAddr 0] [] m := rfl
theorem u_102_0 {X : e_X} {d : Nat} {ls st : List Value} {m : e_M} : s_j X d 102 0 ls st m = s_x X d 102 [.sipush 0, .istore 1, .sipush 1, .istore 2, .jsr 4] ls st m := by
  rw [s_j, s_g_eq, g_l102]; rfl
theorem u_102_4 {X : e_X} {d : Nat} {ls st : List Value} {m : e_M} : s_j X d 102 4 ls st m = s_x X d 102 [.iload 2, .sipush 5, .if_icmp .gt 77, .sipush 0, .istore 3, .jsr 11] ls st m := by
  rw [s_j, s_g_eq, g_l102]; rfl
theorem u_102_11 {X : e_X} {d : Nat} {ls st : List Value} {m : e_M} : s_j X d 102 11 ls st m = s_x X d 102 [.iload 3, .sipush 9, .if_icmp .gt 71, .sipush 0, .istore 4, .jsr 20] ls st m := by
  rw [s_j, s_g_eq, g_l102]; rfl
theorem u_102_20 {X : e_X} {d : Nat} {ls st : List Value} {m : e_M} : s_j X d 102 20 ls st m = s_x X d 102 [.iload 4, .sipush 9, .if_icmp .gt 65, .aload 0, .iload 2, .iload 3, .iload 4, .invokeinterface 100 4, .istore 5, .iload 5, .ifCond .ne 45, .sipush (-3), .ireturn] ls st m := by
  rw [s_j, s_g_eq, g_l102]; rfl
theorem u_102_45 {X : e_X} {d : Nat} {ls st : List Value} {m : e_M} : s_j X d 102 45 ls st m = s_x X d 102 [.iload 5, .invokeinterface 300 1, .sipush 1, .if_icmp .ne 59, .iload 1, .iload 5, .ior, .istore 1, .jsr 59] ls st m := by
  rw [s_j, s_g_eq, g_l102]; rfl
theorem u_102_59 {X : e_X} {d : Nat} {ls st : List Value} {m : e_M} : s_j X d 102 59 ls st m = s_x X d 102 [.iinc 4 1, .goto 20] ls st m := by
  rw [s_j, s_g_eq, g_l102]; rfl
theorem u_102_65 {X : e_X} {d : Nat} {ls st : List Value} {m : e_M} : s_j X d 102 65 ls st m = s_x X d 102 [.iinc 3 1, .goto 11] ls st m := by
  rw [s_j, s_g_eq, g_l102]; rfl
theorem u_102_71 {X : e_X} {d : Nat} {ls st : List Value} {m : e_M} : s_j X d 102 71 ls st m = s_x X d 102 [.iinc 2 1, .goto 4] ls st m := by
  rw [s_j, s_g_eq, g_l102]; rfl
theorem u_102_77 {X : e_X} {d : Nat} {ls st : List Value} {m : e_M} : s_j X d 102 77 ls st m = s_x X d 102 [.iload 1, .invokeinterface 136 1, .ireturn] ls st m := by
  rw [s_j, s_g_eq, g_l102]; rfl
/-- T.drawLot -/
theorem g_l103 (l : Nat) : g_P 103 l = (g_c103.lookup l).getD [] := rfl
theorem v_103 {X : e_X} {d : Nat} (a0 : Nat) {m : e_M} : s_S X (d + 1) 103 [.ref a0] m = s_j X d 103 0 [.ref a0] [] m := rfl
theorem u_103_0 {X : e_X} {d : Nat} {ls st : List Value} {m : e_M} : s_j X d 103 0 ls st m = s_x X d 103 [.aload 0, .aload 0, .getfield 528, .sipush 1103515245, .imul, .sipush 12345, .iadd, .putfield 528, .aload 0, .getfield 528, .sipush 16, .iushr, .aload 0, .getfield 521, .sipush 1, .iadd, .irem, .ireturn] ls st m := by
  rw [s_j, s_g_eq, g_l103]; rfl
/-- T.worthByLot -/
theorem g_l104 (l : Nat) : g_P 104 l = (g_c104.lookup l).getD [] := rfl
theorem v_104 {X : e_X} {d : Nat} (a0 : Nat) {m : e_M} : s_S X (d + 1) 104 [.ref a0] m = s_j X d 104 0 [.ref a0, .retAddr 0, .retAddr 0, .retAddr 0, .retAddr 0] [] m := rfl
theorem u_104_0 {X : e_X} {d : Nat} {ls st : List Value} {m : e_M} : s_j X d 104 0 ls st m = s_x X d 104 [.aload 0, .invokeinterface 85 1, .istore 1, .aload 0, .sipush 16, .invokeinterface 86 2, .istore 2, .sipush 0, .istore 3, .sipush 0, .istore 4, .jsr 17] ls st m := by
  rw [s_j, s_g_eq, g_l104]; rfl
theorem u_104_17 {X : e_X} {d : Nat} {ls st : List Value} {m : e_M} : s_j X d 104 17 ls st m = s_x X d 104 [.iload 4, .iload 2, .if_icmp .ge 40, .iload 3, .aload 0, .aload 0, .invokeinterface 103 1, .invokeinterface 79 2, .iadd, .istore 3, .iinc 4 1, .goto 17] ls st m := by
  rw [s_j, s_g_eq, g_l104]; rfl
theorem u_104_40 {X : e_X} {d : Nat} {ls st : List Value} {m : e_M} : s_j X d 104 40 ls st m = s_x X d 104 [.aload 0, .iload 1, .invokeinterface 87 2, .iload 3, .ireturn] ls st m := by
  rw [s_j, s_g_eq, g_l104]; rfl
/-- T.isAct -/
theorem g_l105 (l : Nat) : g_P 105 l = (g_c105.lookup l).getD [] := rfl
theorem v_105 {X : e_X} {d : Nat} (a0 : Nat) (a1 : Int32) {m : e_M} : s_S X (d + 1) 105 [.ref a0, .int a1] m = s_j X d 105 0 [.ref a0, .int a1] [] m := rfl
theorem u_105_0 {X : e_X} {d : Nat} {ls st : List Value} {m : e_M} : s_j X d 105 0 ls st m = s_x X d 105 [.iload 1, .ifCond .lt 16, .iload 1, .aload 0, .getfield 521, .if_icmp .gt 16, .sipush 1, .goto 17] ls st m := by
  rw [s_j, s_g_eq, g_l105]; rfl
theorem u_105_16 {X : e_X} {d : Nat} {ls st : List Value} {m : e_M} : s_j X d 105 16 ls st m = s_x X d 105 [.sipush 0, .jsr 17] ls st m := by
  rw [s_j, s_g_eq, g_l105]; rfl
theorem u_105_17 {X : e_X} {d : Nat} {ls st : List Value} {m : e_M} : s_j X d 105 17 ls st m = s_x X d 105 [.ireturn] ls st m := by
  rw [s_j, s_g_eq, g_l105]; rfl
/-- T.copyFrom -/
theorem g_l106 (l : Nat) : g_P 106 l = (g_c106.lookup l).getD [] := rfl
theorem v_106 {X : e_X} {d : Nat} (a0 : Nat) (a1 : Nat) {m : e_M} : s_S X (d + 1) 106 [.ref a0, .ref a1] m = s_j X d 106 0 [.ref a0, .ref a1] [] m := rfl
theorem u_106_0 {X : e_X} {d : Nat} {ls st : List Value} {m : e_M} : s_j X d 106 0 ls st m = s_x X d 106 [.aload 1, .checkcast 512, .sipush 0, .aload 0, .checkcast 512, .sipush 0, .sipush 6, .dmul, .aload 1, .checkcast 513, .sipush 0, .aload 0, .checkcast 513, .sipush 0, .sipush 6, .dmul, .aload 1, .checkcast 514, .sipush 0, .aload 0, .checkcast 514, .sipush 0, .sipush 6, .dmul, .aload 1, .checkcast 515, .sipush 0, .aload 0, .checkcast 515, .sipush 0, .sipush 6, .dmul, .aload 1, .checkcast 516, .sipush 0, .aload 0, .checkcast 516, .sipush 0, .sipush 6, .dmul, .aload 1, .checkcast 517, .sipush 0, .aload 0, .checkcast 517, .sipush 0, .sipush 6, .dmul, .aload 1, .checkcast 518, .sipush 0, .aload 0, .checkcast 518, .sipush 0, .sipush 16, .dmul, .aload 0, .checkcast 519, .aload 1, .checkcast 519, .invokeinterface 16 2, .aload 0, .checkcast 520, .aload 1, .checkcast 520, .invokeinterface 52 2, .aload 0, .aload 1, .getfield 521, .putfield 521, .aload 0, .aload 1, .getfield 522, .putfield 522, .aload 0, .aload 1, .getfield 523, .putfield 523, .aload 0, .aload 1, .getfield 524, .putfield 524, .aload 0, .aload 1, .getfield 525, .putfield 525, .aload 0, .aload 1, .getfield 526, .putfield 526, .aload 0, .aload 1, .getfield 527, .putfield 527, .aload 0, .aload 1, .getfield 528, .putfield 528, .return_] ls st m := by
  rw [s_j, s_g_eq, g_l106]; rfl
/-- B.plate -/
theorem g_l108 (l : Nat) : g_P 108 l = (g_c108.lookup l).getD [] := rfl
theorem v_108 {X : e_X} {d : Nat} (a0 : Nat) (a1 : Int32) (a2 : Int32) (a3 : Int32) (a4 : Int32) {m : e_M} : s_S X (d + 1) 108 [.ref a0, .int a1, .int a2, .int a3, .int a4] m = s_j X d 108 0 [.ref a0, .int a1, .int a2, .int a3, .int a4] [] m := rfl
theorem u_108_0 {X : e_X} {d : Nat} {ls st : List Value} {m : e_M} : s_j X d 108 0 ls st m = s_x X d 108 [.iload 1, .sipush 1, .sipush 5, .invokeinterface 109 3, .ifCond .ne 19, .iload 2, .sipush 0, .sipush 39, .invokeinterface 109 3, .ifCond .eq 21, .jsr 19] ls st m := by
  rw [s_j, s_g_eq, g_l108]; rfl
theorem u_108_19 {X : e_X} {d : Nat} {ls st : List Value} {m : e_M} : s_j X d 108 19 ls st m = s_x X d 108 [.sipush (-1), .ireturn] ls st m := by
  rw [s_j, s_g_eq, g_l108]; rfl
theorem u_108_21 {X : e_X} {d : Nat} {ls st : List Value} {m : e_M} : s_j X d 108 21 ls st m = s_x X d 108 [.iload 3, .sipush 0, .sipush 9, .invokeinterface 109 3, .ifCond .ne 41, .iload 4, .sipush 0, .sipush 5, .invokeinterface 109 3, .ifCond .eq 43, .jsr 41] ls st m := by
  rw [s_j, s_g_eq, g_l108]; rfl
theorem u_108_41 {X : e_X} {d : Nat} {ls st : List Value} {m : e_M} : s_j X d 108 41 ls st m = s_x X d 108 [.sipush (-1), .ireturn] ls st m := by
  rw [s_j, s_g_eq, g_l108]; rfl
theorem u_108_43 {X : e_X} {d : Nat} {ls st : List Value} {m : e_M} : s_j X d 108 43 ls st m = s_x X d 108 [.aload 0, .checkcast 576, .getfield 521, .sipush 6, .if_icmp .lt 58, .sipush (-2), .ireturn] ls st m := by
  rw [s_j, s_g_eq, g_l108]; rfl
theorem u_108_58 {X : e_X} {d : Nat} {ls st : List Value} {m : e_M} : s_j X d 108 58 ls st m = s_x X d 108 [.aload 0, .checkcast 576, .iload 1, .iload 2, .iload 3, .iload 4, .invokeinterface 68 5, .ireturn] ls st m := by
  rw [s_j, s_g_eq, g_l108]; rfl
/-- B.isOutside -/
theorem g_l109 (l : Nat) : g_P 109 l = (g_c109.lookup l).getD [] := rfl
theorem v_109 {X : e_X} {d : Nat} (a0 : Int32) (a1 : Int32) (a2 : Int32) {m : e_M} : s_S X (d + 1) 109 [.int a0, .int a1, .int a2] m = s_j X d 109 0 [.int a0, .int a1, .int a2] [] m := rfl
theorem u_109_0 {X : e_X} {d : Nat} {ls st : List Value} {m : e_M} : s_j X d 109 0 ls st m = s_x X d 109 [.iload 0, .iload 1, .if_icmp .lt 10, .iload 0, .iload 2, .if_icmp .le 14, .jsr 10] ls st m := by
  rw [s_j, s_g_eq, g_l109]; rfl
theorem u_109_10 {X : e_X} {d : Nat} {ls st : List Value} {m : e_M} : s_j X d 109 10 ls st m = s_x X d 109 [.sipush 1, .goto 15] ls st m := by
  rw [s_j, s_g_eq, g_l109]; rfl
theorem u_109_14 {X : e_X} {d : Nat} {ls st : List Value} {m : e_M} : s_j X d 109 14 ls st m = s_x X d 109 [.sipush 0, .jsr 15] ls st m := by
  rw [s_j, s_g_eq, g_l109]; rfl
theorem u_109_15 {X : e_X} {d : Nat} {ls st : List Value} {m : e_M} : s_j X d 109 15 ls st m = s_x X d 109 [.ireturn] ls st m := by
  rw [s_j, s_g_eq, g_l109]; rfl
/-- B.plateOf -/
theorem g_l110 (l : Nat) : g_P 110 l = (g_c110.lookup l).getD [] := rfl
theorem v_110 {X : e_X} {d : Nat} (a0 : Nat) (a1 : Int32) (a2 : Int32) {m : e_M} : s_S X (d + 1) 110 [.ref a0, .int a1, .int a2] m = s_j X d 110 0 [.ref a0, .int a1, .int a2] [] m := rfl
theorem u_110_0 {X : e_X} {d : Nat} {ls st : List Value} {m : e_M} : s_j X d 110 0 ls st m = s_x X d 110 [.aload 0, .checkcast 576, .iload 1, .invokeinterface 69 2, .ifCond .ne 13, .sipush (-1), .ireturn] ls st m := by
  rw [s_j, s_g_eq, g_l110]; rfl
theorem u_110_13 {X : e_X} {d : Nat} {ls st : List Value} {m : e_M} : s_j X d 110 13 ls st m = s_x X d 110 [.iload 2, .lookupswitch 185 #[(0, 64), (1, 74), (2, 84), (3, 94), (4, 104), (5, 121), (6, 150), (7, 159), (8, 176)]] ls st m := by
  rw [s_j, s_g_eq, g_l110]; rfl
theorem u_110_64 {X : e_X} {d : Nat} {ls st : List Value} {m : e_M} : s_j X d 110 64 ls st m = s_x X d 110 [.aload 0, .checkcast 576, .checkcast 512, .iload 1, .iaload, .ireturn] ls st m := by
  rw [s_j, s_g_eq, g_l110]; rfl
theorem u_110_74 {X : e_X} {d : Nat} {ls st : List Value} {m : e_M} : s_j X d 110 74 ls st m = s_x X d 110 [.aload 0, .checkcast 576, .checkcast 513, .iload 1, .iaload, .ireturn] ls st m := by
  rw [s_j, s_g_eq, g_l110]; rfl
theorem u_110_84 {X : e_X} {d : Nat} {ls st : List Value} {m : e_M} : s_j X d 110 84 ls st m = s_x X d 110 [.aload 0, .checkcast 576, .checkcast 514, .iload 1, .iaload, .ireturn] ls st m := by
  rw [s_j, s_g_eq, g_l110]; rfl
theorem u_110_94 {X : e_X} {d : Nat} {ls st : List Value} {m : e_M} : s_j X d 110 94 ls st m = s_x X d 110 [.aload 0, .checkcast 576, .checkcast 515, .iload 1, .iaload, .ireturn] ls st m := by
  rw [s_j, s_g_eq, g_l110]; rfl
theorem u_110_104 {X : e_X} {d : Nat} {ls st : List Value} {m : e_M} : s_j X d 110 104 ls st m = s_x X d 110 [.aload 0, .checkcast 576, .iload 1, .invokeinterface 70 2, .ifCond .eq 119, .sipush 1, .goto 120] ls st m := by
  rw [s_j, s_g_eq, g_l110]; rfl
theorem u_110_119 {X : e_X} {d : Nat} {ls st : List Value} {m : e_M} : s_j X d 110 119 ls st m = s_x X d 110 [.sipush 0, .jsr 120] ls st m := by
  rw [s_j, s_g_eq, g_l110]; rfl
theorem u_110_120 {X : e_X} {d : Nat} {ls st : List Value} {m : e_M} : s_j X d 110 120 ls st m = s_x X d 110 [.ireturn] ls st m := by
  rw [s_j, s_g_eq, g_l110]; rfl
theorem u_110_121 {X : e_X} {d : Nat} {ls st : List Value} {m : e_M} : s_j X d 110 121 ls st m = s_x X d 110 [.aload 0, .checkcast 576, .checkcast 512, .iload 1, .iaload, .aload 0, .checkcast 576, .checkcast 514, .iload 1, .iaload, .aload 0, .checkcast 576, .getfield 523, .invokeinterface 111 3, .ireturn] ls st m := by
  rw [s_j, s_g_eq, g_l110]; rfl
theorem u_110_150 {X : e_X} {d : Nat} {ls st : List Value} {m : e_M} : s_j X d 110 150 ls st m = s_x X d 110 [.aload 0, .checkcast 576, .iload 1, .invokeinterface 71 2, .ireturn] ls st m := by
  rw [s_j, s_g_eq, g_l110]; rfl
theorem u_110_159 {X : e_X} {d : Nat} {ls st : List Value} {m : e_M} : s_j X d 110 159 ls st m = s_x X d 110 [.aload 0, .checkcast 576, .iload 1, .invokeinterface 72 2, .ifCond .eq 174, .sipush 1, .goto 175] ls st m := by
  rw [s_j, s_g_eq, g_l110]; rfl
theorem u_110_174 {X : e_X} {d : Nat} {ls st : List Value} {m : e_M} : s_j X d 110 174 ls st m = s_x X d 110 [.sipush 0, .jsr 175] ls st m := by
  rw [s_j, s_g_eq, g_l110]; rfl
theorem u_110_175 {X : e_X} {d : Nat} {ls st : List Value} {m : e_M} : s_j X d 110 175 ls st m = s_x X d 110 [.ireturn] ls st m := by
  rw [s_j, s_g_eq, g_l110]; rfl
theorem u_110_176 {X : e_X} {d : Nat} {ls st : List Value} {m : e_M} : s_j X d 110 176 ls st m = s_x X d 110 [.aload 0, .checkcast 576, .iload 1, .invokeinterface 73 2, .ireturn] ls st m := by
  rw [s_j, s_g_eq, g_l110]; rfl
theorem u_110_185 {X : e_X} {d : Nat} {ls st : List Value} {m : e_M} : s_j X d 110 185 ls st m = s_x X d 110 [.sipush (-1), .ireturn] ls st m := by
  rw [s_j, s_g_eq, g_l110]; rfl
/-- B.spanOf -/
theorem g_l111 (l : Nat) : g_P 111 l = (g_c111.lookup l).getD [] := rfl
theorem v_111 {X : e_X} {d : Nat} (a0 : Int32) (a1 : Int32) (a2 : Int32) {m : e_M} : s_S X (d + 1) 111 [.int a0, .int a1, .int a2] m = s_j X d 111 0 [.int a0, .int a1, .int a2, .retAddr 0] [] m := rfl
theorem u_111_0 {X : e_X} {d : Nat} {ls st : List Value} {m : e_M} : s_j X d 111 0 ls st m = s_x X d 111 [.sipush 1, .iload 1, .sipush 2, .idiv, .iadd, .istore 3, .iload 0, .lookupswitch 85 #[(1, 40), (2, 44), (3, 48), (4, 63), (5, 69)]] ls st m := by
  rw [s_j, s_g_eq, g_l111]; rfl
theorem u_111_40 {X : e_X} {d : Nat} {ls st : List Value} {m : e_M} : s_j X d 111 40 ls st m = s_x X d 111 [.sipush 2, .iload 3, .imul, .ireturn] ls st m := by
  rw [s_j, s_g_eq, g_l111]; rfl
theorem u_111_44 {X : e_X} {d : Nat} {ls st : List Value} {m : e_M} : s_j X d 111 44 ls st m = s_x X d 111 [.iload 3, .sipush 2, .iadd, .ireturn] ls st m := by
  rw [s_j, s_g_eq, g_l111]; rfl
theorem u_111_48 {X : e_X} {d : Nat} {ls st : List Value} {m : e_M} : s_j X d 111 48 ls st m = s_x X d 111 [.iload 2, .sipush 2, .irem, .sipush 1, .if_icmp .ne 59, .sipush 1, .goto 62] ls st m := by
  rw [s_j, s_g_eq, g_l111]; rfl
theorem u_111_59 {X : e_X} {d : Nat} {ls st : List Value} {m : e_M} : s_j X d 111 59 ls st m = s_x X d 111 [.iload 3, .sipush 2, .iadd, .jsr 62] ls st m := by
  rw [s_j, s_g_eq, g_l111]; rfl
theorem u_111_62 {X : e_X} {d : Nat} {ls st : List Value} {m : e_M} : s_j X d 111 62 ls st m = s_x X d 111 [.ireturn] ls st m := by
  rw [s_j, s_g_eq, g_l111]; rfl
theorem u_111_63 {X : e_X} {d : Nat} {ls st : List Value} {m : e_M} : s_j X d 111 63 ls st m = s_x X d 111 [.iload 3, .sipush 2, .dsub, .ireturn] ls st m := by
  rw [s_j, s_g_eq, g_l111]; rfl
theorem u_111_69 {X : e_X} {d : Nat} {ls st : List Value} {m : e_M} : s_j X d 111 69 ls st m = s_x X d 111 [.iload 2, .sipush 3, .irem, .ifCond .ne 79, .sipush 0, .goto 84] ls st m := by
  rw [s_j, s_g_eq, g_l111]; rfl
theorem u_111_79 {X : e_X} {d : Nat} {ls st : List Value} {m : e_M} : s_j X d 111 79 ls st m = s_x X d 111 [.iload 3, .sipush 2, .dsub, .jsr 84] ls st m := by
  rw [s_j, s_g_eq, g_l111]; rfl
theorem u_111_84 {X : e_X} {d : Nat} {ls st : List Value} {m : e_M} : s_j X d 111 84 ls st m = s_x X d 111 [.ireturn] ls st m := by
  rw [s_j, s_g_eq, g_l111]; rfl
theorem u_111_85 {X : e_X} {d : Nat} {ls st : List Value} {m : e_M} : s_j X d 111 85 ls st m = s_x X d 111 [.iload 3, .ireturn] ls st m := by
  rw [s_j, s_g_eq, g_l111]; rfl
/-- B.isUnder -/
theorem g_l112 (l : Nat) : g_P 112 l = (g_c112.lookup l).getD [] := rfl
theorem v_112 {X : e_X} {d : Nat} (a0 : Int32) (a1 : Int32) {m : e_M} : s_S X (d + 1) 112 [.int a0, .int a1] m = s_j X d 112 0 [.int a0, .int a1, .retAddr 0] [] m := rfl
theorem u_112_0 {X : e_X} {d : Nat} {ls st : List Value} {m : e_M} : s_j X d 112 0 ls st m = s_x X d 112 [.iload 0, .istore 2, .jsr 2] ls st m := by
  rw [s_j, s_g_eq, g_l112]; rfl
theorem u_112_2 {X : e_X} {d : Nat} {ls st : List Value} {m : e_M} : s_j X d 112 2 ls st m = s_x X d 112 [.iload 2, .ifCond .lt 30, .iload 2, .getstatic 0, .fsub, .if_icmp .ge 30, .iload 2, .iload 1, .if_icmp .ne 21, .sipush 1, .ireturn] ls st m := by
  rw [s_j, s_g_eq, g_l112]; rfl
theorem u_112_21 {X : e_X} {d : Nat} {ls st : List Value} {m : e_M} : s_j X d 112 21 ls st m = s_x X d 112 [.getstatic 0, .iload 2, .daload, .istore 2, .goto 2] ls st m := by
  rw [s_j, s_g_eq, g_l112]; rfl
theorem u_112_30 {X : e_X} {d : Nat} {ls st : List Value} {m : e_M} : s_j X d 112 30 ls st m = s_x X d 112 [.sipush 0, .ireturn] ls st m := by
  rw [s_j, s_g_eq, g_l112]; rfl
/-- B.change -/
theorem g_l113 (l : Nat) : g_P 113 l = (g_c113.lookup l).getD [] := rfl
theorem v_113 {X : e_X} {d : Nat} (a0 : Nat) (a1 : Int32) (a2 : Int32) (a3 : Int32) {m : e_M} : s_S X (d + 1) 113 [.ref a0, .int a1, .int a2, .int a3] m = s_j X d 113 0 [.ref a0, .int a1, .int a2, .int a3] [] m := rfl
theorem u_113_0 {X : e_X} {d : Nat} {ls st : List Value} {m : e_M} : s_j X d 113 0 ls st m = s_x X d 113 [.aload 0, .checkcast 576, .iload 1, .invokeinterface 69 2, .ifCond .ne 13, .sipush (-1), .ireturn] ls st m := by
  rw [s_j, s_g_eq, g_l113]; rfl
theorem u_113_13 {X : e_X} {d : Nat} {ls st : List Value} {m : e_M} : s_j X d 113 13 ls st m = s_x X d 113 [.iload 2, .lookupswitch 156 #[(1, 44), (2, 71), (3, 98), (4, 124)]] ls st m := by
  rw [s_j, s_g_eq, g_l113]; rfl
theorem u_113_44 {X : e_X} {d : Nat} {ls st : List Value} {m : e_M} : s_j X d 113 44 ls st m = s_x X d 113 [.iload 3, .sipush 0, .sipush 39, .invokeinterface 109 3, .ifCond .eq 58, .sipush (-1), .goto 70] ls st m := by
  rw [s_j, s_g_eq, g_l113]; rfl
theorem u_113_58 {X : e_X} {d : Nat} {ls st : List Value} {m : e_M} : s_j X d 113 58 ls st m = s_x X d 113 [.aload 0, .checkcast 576, .checkcast 513, .iload 1, .iload 3, .invokeinterface 114 3, .jsr 70] ls st m := by
  rw [s_j, s_g_eq, g_l113]; rfl
theorem u_113_70 {X : e_X} {d : Nat} {ls st : List Value} {m : e_M} : s_j X d 113 70 ls st m = s_x X d 113 [.ireturn] ls st m := by
  rw [s_j, s_g_eq, g_l113]; rfl
theorem u_113_71 {X : e_X} {d : Nat} {ls st : List Value} {m : e_M} : s_j X d 113 71 ls st m = s_x X d 113 [.iload 3, .sipush 0, .sipush 9, .invokeinterface 109 3, .ifCond .eq 85, .sipush (-1), .goto 97] ls st m := by
  rw [s_j, s_g_eq, g_l113]; rfl
theorem u_113_85 {X : e_X} {d : Nat} {ls st : List Value} {m : e_M} : s_j X d 113 85 ls st m = s_x X d 113 [.aload 0, .checkcast 576, .checkcast 514, .iload 1, .iload 3, .invokeinterface 114 3, .jsr 97] ls st m := by
  rw [s_j, s_g_eq, g_l113]; rfl
theorem u_113_97 {X : e_X} {d : Nat} {ls st : List Value} {m : e_M} : s_j X d 113 97 ls st m = s_x X d 113 [.ireturn] ls st m := by
  rw [s_j, s_g_eq, g_l113]; rfl
theorem u_113_98 {X : e_X} {d : Nat} {ls st : List Value} {m : e_M} : s_j X d 113 98 ls st m = s_x X d 113 [.iload 3, .sipush 0, .sipush 5, .invokeinterface 109 3, .ifCond .eq 111, .sipush (-1), .goto 123] ls st m := by
  rw [s_j, s_g_eq, g_l113]; rfl
theorem u_113_111 {X : e_X} {d : Nat} {ls st : List Value} {m : e_M} : s_j X d 113 111 ls st m = s_x X d 113 [.aload 0, .checkcast 576, .checkcast 515, .iload 1, .iload 3, .invokeinterface 114 3, .jsr 123] ls st m := by
  rw [s_j, s_g_eq, g_l113]; rfl
theorem u_113_123 {X : e_X} {d : Nat} {ls st : List Value} {m : e_M} : s_j X d 113 123 ls st m = s_x X d 113 [.ireturn] ls st m := by
  rw [s_j, s_g_eq, g_l113]; rfl
theorem u_113_124 {X : e_X} {d : Nat} {ls st : List Value} {m : e_M} : s_j X d 113 124 ls st m = s_x X d 113 [.iload 3, .sipush 0, .sipush 1, .invokeinterface 109 3, .ifCond .eq 137, .sipush (-1), .goto 155] ls st m := by
  rw [s_j, s_g_eq, g_l113]; rfl
theorem u_113_137 {X : e_X} {d : Nat} {ls st : List Value} {m : e_M} : s_j X d 113 137 ls st m = s_x X d 113 [.aload 0, .checkcast 576, .iload 1, .iload 3, .sipush 1, .if_icmp .ne 151, .sipush 1, .goto 152] ls st m := by
  rw [s_j, s_g_eq, g_l113]; rfl
theorem u_113_151 {X : e_X} {d : Nat} {ls st : List Value} {m : e_M} : s_j X d 113 151 ls st m = s_x X d 113 [.sipush 0, .jsr 152] ls st m := by
  rw [s_j, s_g_eq, g_l113]; rfl
theorem u_113_152 {X : e_X} {d : Nat} {ls st : List Value} {m : e_M} : s_j X d 113 152 ls st m = s_x X d 113 [.invokeinterface 74 3, .jsr 155] ls st m := by
  rw [s_j, s_g_eq, g_l113]; rfl
theorem u_113_155 {X : e_X} {d : Nat} {ls st : List Value} {m : e_M} : s_j X d 113 155 ls st m = s_x X d 113 [.ireturn] ls st m := by
  rw [s_j, s_g_eq, g_l113]; rfl
theorem u_113_156 {X : e_X} {d : Nat} {ls st : List Value} {m : e_M} : s_j X d 113 156 ls st m = s_x X d 113 [.sipush (-1), .ireturn] ls st m := by
  rw [s_j, s_g_eq, g_l113]; rfl
/-- B.put -/
theorem g_l114 (l : Nat) : g_P 114 l = (g_c114.lookup l).getD [] := rfl
theorem v_114 {X : e_X} {d : Nat} (a0 : Nat) (a1 : Int32) (a2 : Int32) {m : e_M} : s_S X (d + 1) 114 [.ref a0, .int a1, .int a2] m = s_j X d 114 0 [.ref a0, .int a1, .int a2, .retAddr 0] [] m := rfl
theorem u_114_0 {X : e_X} {d : Nat} {ls st : List Value} {m : e_M} : s_j X d 114 0 ls st m = s_x X d 114 [.iload 1, .sipush 0, .aload 0, .arraylength, .sipush 1, .isub, .invokeinterface 109 3, .ifCond .eq 14, .sipush (-1), .ireturn] ls st m := by
  rw [s_j, s_g_eq, g_l114]; rfl
theorem u_114_14 {X : e_X} {d : Nat} {ls st : List Value} {m : e_M} : s_j X d 114 14 ls st m = s_x X d 114 [.aload 0, .iload 1, .iaload, .istore 3, .aload 0, .iload 1, .iload 2, .iastore, .iload 3, .ireturn] ls st m := by
  rw [s_j, s_g_eq, g_l114]; rfl
/-- B.remake -/
theorem g_l115 (l : Nat) : g_P 115 l = (g_c115.lookup l).getD [] := rfl
theorem v_115 {X : e_X} {d : Nat} (a0 : Nat) (a1 : Int32) (a2 : Int32) {m : e_M} : s_S X (d + 1) 115 [.ref a0, .int a1, .int a2] m = s_j X d 115 0 [.ref a0, .int a1, .int a2] [] m := rfl
theorem u_115_0 {X : e_X} {d : Nat} {ls st : List Value} {m : e_M} : s_j X d 115 0 ls st m = s_x X d 115 [.aload 0, .checkcast 576, .iload 1, .invokeinterface 69 2, .ifCond .eq 20, .iload 2, .sipush 1, .sipush 5, .invokeinterface 109 3, .ifCond .eq 22, .jsr 20] ls st m := by
  rw [s_j, s_g_eq, g_l115]; rfl
theorem u_115_20 {X : e_X} {d : Nat} {ls st : List Value} {m : e_M} : s_j X d 115 20 ls st m = s_x X d 115 [.sipush (-1), .ireturn] ls st m := by
  rw [s_j, s_g_eq, g_l115]; rfl
theorem u_115_22 {X : e_X} {d : Nat} {ls st : List Value} {m : e_M} : s_j X d 115 22 ls st m = s_x X d 115 [.aload 0, .checkcast 576, .checkcast 512, .iload 1, .iload 2, .invokeinterface 114 3, .ireturn] ls st m := by
  rw [s_j, s_g_eq, g_l115]; rfl
/-- B.news -/
theorem g_l116 (l : Nat) : g_P 116 l = (g_c116.lookup l).getD [] := rfl
theorem v_116 {X : e_X} {d : Nat} (a0 : Nat) (a1 : Int32) (a2 : Int32) {m : e_M} : s_S X (d + 1) 116 [.ref a0, .int a1, .int a2] m = s_j X d 116 0 [.ref a0, .int a1, .int a2] [] m := rfl
theorem u_116_0 {X : e_X} {d : Nat} {ls st : List Value} {m : e_M} : s_j X d 116 0 ls st m = s_x X d 116 [.iload 1, .sipush 0, .sipush 15, .invokeinterface 109 3, .ifCond .ne 20, .iload 2, .sipush 0, .sipush 15, .invokeinterface 109 3, .ifCond .eq 22, .jsr 20] ls st m := by
  rw [s_j, s_g_eq, g_l116]; rfl
theorem u_116_20 {X : e_X} {d : Nat} {ls st : List Value} {m : e_M} : s_j X d 116 20 ls st m = s_x X d 116 [.sipush (-1), .ireturn] ls st m := by
  rw [s_j, s_g_eq, g_l116]; rfl
theorem u_116_22 {X : e_X} {d : Nat} {ls st : List Value} {m : e_M} : s_j X d 116 22 ls st m = s_x X d 116 [.aload 0, .checkcast 576, .checkcast 518, .iload 1, .iload 2, .invokeinterface 114 3, .ireturn] ls st m := by
  rw [s_j, s_g_eq, g_l116]; rfl
/-- B.home -/
theorem g_l117 (l : Nat) : g_P 117 l = (g_c117.lookup l).getD [] := rfl
theorem v_117 {X : e_X} {d : Nat} (a0 : Nat) (a1 : Int32) (a2 : Int32) (a3 : Int32) {m : e_M} : s_S X (d + 1) 117 [.ref a0, .int a1, .int a2, .int a3] m = s_j X d 117 0 [.ref a0, .int a1, .int a2, .int a3] [] m := rfl
theorem u_117_0 {X : e_X} {d : Nat} {ls st : List Value} {m : e_M} : s_j X d 117 0 ls st m = s_x X d 117 [.iload 1, .sipush 0, .sipush 5, .invokeinterface 109 3, .ifCond .ne 28, .iload 2, .sipush 0, .sipush 1, .invokeinterface 109 3, .ifCond .ne 28, .iload 3, .sipush 0, .sipush 9, .invokeinterface 109 3, .ifCond .eq 30, .jsr 28] ls st m := by
  rw [s_j, s_g_eq, g_l117]; rfl
theorem u_117_28 {X : e_X} {d : Nat} {ls st : List Value} {m : e_M} : s_j X d 117 28 ls st m = s_x X d 117 [.sipush (-1), .ireturn] ls st m := by
  rw [s_j, s_g_eq, g_l117]; rfl
theorem u_117_30 {X : e_X} {d : Nat} {ls st : List Value} {m : e_M} : s_j X d 117 30 ls st m = s_x X d 117 [.iload 2, .ifCond .ne 44, .aload 0, .checkcast 576, .checkcast 516, .goto 51] ls st m := by
  rw [s_j, s_g_eq, g_l117]; rfl
theorem u_117_44 {X : e_X} {d : Nat} {ls st : List Value} {m : e_M} : s_j X d 117 44 ls st m = s_x X d 117 [.aload 0, .checkcast 576, .checkcast 517, .jsr 51] ls st m := by
  rw [s_j, s_g_eq, g_l117]; rfl
theorem u_117_51 {X : e_X} {d : Nat} {ls st : List Value} {m : e_M} : s_j X d 117 51 ls st m = s_x X d 117 [.iload 1, .iload 3, .invokeinterface 114 3, .ireturn] ls st m := by
  rw [s_j, s_g_eq, g_l117]; rfl
/-- B.homeOf -/
theorem g_l118 (l : Nat) : g_P 118 l = (g_c118.lookup l).getD [] := rfl
theorem v_118 {X : e_X} {d : Nat} (a0 : Nat) (a1 : Int32) (a2 : Int32) {m : e_M} : s_S X (d + 1) 118 [.ref a0, .int a1, .int a2] m = s_j X d 118 0 [.ref a0, .int a1, .int a2] [] m := rfl
theorem u_118_0 {X : e_X} {d : Nat} {ls st : List Value} {m : e_M} : s_j X d 118 0 ls st m = s_x X d 118 [.iload 1, .sipush 0, .sipush 5, .invokeinterface 109 3, .ifCond .ne 18, .iload 2, .sipush 0, .sipush 1, .invokeinterface 109 3, .ifCond .eq 20, .jsr 18] ls st m := by
  rw [s_j, s_g_eq, g_l118]; rfl
theorem u_118_18 {X : e_X} {d : Nat} {ls st : List Value} {m : e_M} : s_j X d 118 18 ls st m = s_x X d 118 [.sipush (-1), .ireturn] ls st m := by
  rw [s_j, s_g_eq, g_l118]; rfl
theorem u_118_20 {X : e_X} {d : Nat} {ls st : List Value} {m : e_M} : s_j X d 118 20 ls st m = s_x X d 118 [.iload 2, .ifCond .ne 36, .aload 0, .checkcast 576, .checkcast 516, .iload 1, .iaload, .goto 45] ls st m := by
  rw [s_j, s_g_eq, g_l118]; rfl
theorem u_118_36 {X : e_X} {d : Nat} {ls st : List Value} {m : e_M} : s_j X d 118 36 ls st m = s_x X d 118 [.aload 0, .checkcast 576, .checkcast 517, .iload 1, .iaload, .jsr 45] ls st m := by
  rw [s_j, s_g_eq, g_l118]; rfl
theorem u_118_45 {X : e_X} {d : Nat} {ls st : List Value} {m : e_M} : s_j X d 118 45 ls st m = s_x X d 118 [.ireturn] ls st m := by
  rw [s_j, s_g_eq, g_l118]; rfl
/-- B.family -/
theorem g_l119 (l : Nat) : g_P 119 l = (g_c119.lookup l).getD [] := rfl
theorem v_119 {X : e_X} {d : Nat} (a0 : Nat) (a1 : Int32) (a2 : Int32) {m : e_M} : s_S X (d + 1) 119 [.ref a0, .int a1, .int a2] m = s_j X d 119 0 [.ref a0, .int a1, .int a2, .retAddr 0] [] m := rfl
theorem u_119_0 {X : e_X} {d : Nat} {ls st : List Value} {m : e_M} : s_j X d 119 0 ls st m = s_x X d 119 [.iload 1, .sipush 0, .sipush 1, .invokeinterface 109 3, .ifCond .ne 28, .iload 2, .sipush 0, .iload 1, .ifCond .ne 20, .sipush 9, .goto 22] ls st m := by
  rw [s_j, s_g_eq, g_l119]; rfl
theorem u_119_20 {X : e_X} {d : Nat} {ls st : List Value} {m : e_M} : s_j X d 119 20 ls st m = s_x X d 119 [.sipush 40, .jsr 22] ls st m := by
  rw [s_j, s_g_eq, g_l119]; rfl
theorem u_119_22 {X : e_X} {d : Nat} {ls st : List Value} {m : e_M} : s_j X d 119 22 ls st m = s_x X d 119 [.invokeinterface 109 3, .ifCond .eq 30, .jsr 28] ls st m := by
  rw [s_j, s_g_eq, g_l119]; rfl
theorem u_119_28 {X : e_X} {d : Nat} {ls st : List Value} {m : e_M} : s_j X d 119 28 ls st m = s_x X d 119 [.sipush (-1), .ireturn] ls st m := by
  rw [s_j, s_g_eq, g_l119]; rfl
theorem u_119_30 {X : e_X} {d : Nat} {ls st : List Value} {m : e_M} : s_j X d 119 30 ls st m = s_x X d 119 [.iload 1, .ifCond .ne 44, .aload 0, .checkcast 576, .getfield 526, .goto 51] ls st m := by
  rw [s_j, s_g_eq, g_l119]; rfl
theorem u_119_44 {X : e_X} {d : Nat} {ls st : List Value} {m : e_M} : s_j X d 119 44 ls st m = s_x X d 119 [.aload 0, .checkcast 576, .getfield 527, .jsr 51] ls st m := by
  rw [s_j, s_g_eq, g_l119]; rfl
theorem u_119_51 {X : e_X} {d : Nat} {ls st : List Value} {m : e_M} : s_j X d 119 51 ls st m = s_x X d 119 [.istore 3, .iload 1, .ifCond .ne 67, .aload 0, .checkcast 576, .iload 2, .putfield 526, .goto 75] ls st m := by
  rw [s_j, s_g_eq, g_l119]; rfl
theorem u_119_67 {X : e_X} {d : Nat} {ls st : List Value} {m : e_M} : s_j X d 119 67 ls st m = s_x X d 119 [.aload 0, .checkcast 576, .iload 2, .putfield 527, .jsr 75] ls st m := by
  rw [s_j, s_g_eq, g_l119]; rfl
theorem u_119_75 {X : e_X} {d : Nat} {ls st : List Value} {m : e_M} : s_j X d 119 75 ls st m = s_x X d 119 [.iload 3, .ireturn] ls st m := by
  rw [s_j, s_g_eq, g_l119]; rfl
/-- B.ends -/
theorem g_l120 (l : Nat) : g_P 120 l = (g_c120.lookup l).getD [] := rfl
theorem v_120 {X : e_X} {d : Nat} (a0 : Nat) (a1 : Int32) {m : e_M} : s_S X (d + 1) 120 [.ref a0, .int a1] m = s_j X d 120 0 [.ref a0, .int a1, .retAddr 0] [] m := rfl
theorem u_120_0 {X : e_X} {d : Nat} {ls st : List Value} {m : e_M} : s_j X d 120 0 ls st m = s_x X d 120 [.iload 1, .sipush 1, .sipush 16, .invokeinterface 109 3, .ifCond .eq 12, .sipush (-1), .ireturn] ls st m := by
  rw [s_j, s_g_eq, g_l120]; rfl
theorem u_120_12 {X : e_X} {d : Nat} {ls st : List Value} {m : e_M} : s_j X d 120 12 ls st m = s_x X d 120 [.iload 1, .aload 0, .checkcast 576, .getfield 523, .if_icmp .ge 26, .sipush (-4), .ireturn] ls st m := by
  rw [s_j, s_g_eq, g_l120]; rfl
theorem u_120_26 {X : e_X} {d : Nat} {ls st : List Value} {m : e_M} : s_j X d 120 26 ls st m = s_x X d 120 [.aload 0, .checkcast 576, .getfield 524, .istore 2, .aload 0, .checkcast 576, .iload 1, .putfield 524, .iload 2, .ireturn] ls st m := by
  rw [s_j, s_g_eq, g_l120]; rfl
/-- B.anew -/
theorem g_l121 (l : Nat) : g_P 121 l = (g_c121.lookup l).getD [] := rfl
theorem v_121 {X : e_X} {d : Nat} (a0 : Nat) {m : e_M} : s_S X (d + 1) 121 [.ref a0] m = s_j X d 121 0 [.ref a0, .retAddr 0] [] m := rfl
theorem u_121_0 {X : e_X} {d : Nat} {ls st : List Value} {m : e_M} : s_j X d 121 0 ls st m = s_x X d 121 [.aload 0, .checkcast 576, .getfield 523, .istore 1, .aload 0, .checkcast 576, .invokeinterface 75 1, .iload 1, .ireturn] ls st m := by
  rw [s_j, s_g_eq, g_l121]; rfl
/-- B.state -/
theorem g_l122 (l : Nat) : g_P 122 l = (g_c122.lookup l).getD [] := rfl
theorem v_122 {X : e_X} {d : Nat} (a0 : Nat) (a1 : Int32) {m : e_M} : s_S X (d + 1) 122 [.ref a0, .int a1] m = s_j X d 122 0 [.ref a0, .int a1] [] m := rfl
theorem u_122_0 {X : e_X} {d : Nat} {ls st : List Value} {m : e_M} : s_j X d 122 0 ls st m = s_x X d 122 [.iload 1, .lookupswitch 127 #[(0, 48), (1, 56), (2, 64), (3, 72), (4, 88), (5, 96), (6, 111), (7, 119)]] ls st m := by
  rw [s_j, s_g_eq, g_l122]; rfl
theorem u_122_48 {X : e_X} {d : Nat} {ls st : List Value} {m : e_M} : s_j X d 122 48 ls st m = s_x X d 122 [.aload 0, .checkcast 576, .getfield 523, .ireturn] ls st m := by
  rw [s_j, s_g_eq, g_l122]; rfl
theorem u_122_56 {X : e_X} {d : Nat} {ls st : List Value} {m : e_M} : s_j X d 122 56 ls st m = s_x X d 122 [.aload 0, .checkcast 576, .getfield 524, .ireturn] ls st m := by
  rw [s_j, s_g_eq, g_l122]; rfl
theorem u_122_64 {X : e_X} {d : Nat} {ls st : List Value} {m : e_M} : s_j X d 122 64 ls st m = s_x X d 122 [.aload 0, .checkcast 576, .getfield 525, .ireturn] ls st m := by
  rw [s_j, s_g_eq, g_l122]; rfl
theorem u_122_72 {X : e_X} {d : Nat} {ls st : List Value} {m : e_M} : s_j X d 122 72 ls st m = s_x X d 122 [.aload 0, .checkcast 576, .invokeinterface 76 1, .ifCond .eq 86, .sipush 1, .goto 87] ls st m := by
  rw [s_j, s_g_eq, g_l122]; rfl
theorem u_122_86 {X : e_X} {d : Nat} {ls st : List Value} {m : e_M} : s_j X d 122 86 ls st m = s_x X d 122 [.sipush 0, .jsr 87] ls st m := by
  rw [s_j, s_g_eq, g_l122]; rfl
theorem u_122_87 {X : e_X} {d : Nat} {ls st : List Value} {m : e_M} : s_j X d 122 87 ls st m = s_x X d 122 [.ireturn] ls st m := by
  rw [s_j, s_g_eq, g_l122]; rfl
theorem u_122_88 {X : e_X} {d : Nat} {ls st : List Value} {m : e_M} : s_j X d 122 88 ls st m = s_x X d 122 [.aload 0, .checkcast 576, .getfield 522, .ireturn] ls st m := by
  rw [s_j, s_g_eq, g_l122]; rfl
theorem u_122_96 {X : e_X} {d : Nat} {ls st : List Value} {m : e_M} : s_j X d 122 96 ls st m = s_x X d 122 [.aload 0, .checkcast 576, .aload 0, .checkcast 576, .getfield 523, .invokeinterface 77 2, .ireturn] ls st m := by
  rw [s_j, s_g_eq, g_l122]; rfl
theorem u_122_111 {X : e_X} {d : Nat} {ls st : List Value} {m : e_M} : s_j X d 122 111 ls st m = s_x X d 122 [.aload 0, .checkcast 576, .getfield 526, .ireturn] ls st m := by
  rw [s_j, s_g_eq, g_l122]; rfl
theorem u_122_119 {X : e_X} {d : Nat} {ls st : List Value} {m : e_M} : s_j X d 122 119 ls st m = s_x X d 122 [.aload 0, .checkcast 576, .getfield 527, .ireturn] ls st m := by
  rw [s_j, s_g_eq, g_l122]; rfl
theorem u_122_127 {X : e_X} {d : Nat} {ls st : List Value} {m : e_M} : s_j X d 122 127 ls st m = s_x X d 122 [.sipush (-1), .ireturn] ls st m := by
  rw [s_j, s_g_eq, g_l122]; rfl
/-- B.feed -/
theorem g_l123 (l : Nat) : g_P 123 l = (g_c123.lookup l).getD [] := rfl
theorem v_123 {X : e_X} {d : Nat} (a0 : Nat) (a1 : Int64) (a2 : Int32) {m : e_M} : s_S X (d + 1) 123 [.ref a0, .long a1, .int a2] m = s_j X d 123 0 [.ref a0, .long a1, .retAddr 0, .int a2] [] m := rfl
theorem u_123_0 {X : e_X} {d : Nat} {ls st : List Value} {m : e_M} : s_j X d 123 0 ls st m = s_x X d 123 [.iload 3, .sipush 1, .sipush 8, .invokeinterface 109 3, .ifCond .eq 12, .sipush (-1), .ireturn] ls st m := by
  rw [s_j, s_g_eq, g_l123]; rfl
theorem u_123_12 {X : e_X} {d : Nat} {ls st : List Value} {m : e_M} : s_j X d 123 12 ls st m = s_x X d 123 [.aload 0, .checkcast 579, .getfield 194, .iload 3, .iadd, .sipush 200, .if_icmp .le 30, .sipush (-2), .ireturn] ls st m := by
  rw [s_j, s_g_eq, g_l123]; rfl
theorem u_123_30 {X : e_X} {d : Nat} {ls st : List Value} {m : e_M} : s_j X d 123 30 ls st m = s_x X d 123 [.aload 0, .checkcast 579, .lload 1, .iload 3, .invokeinterface 25 3, .ireturn] ls st m := by
  rw [s_j, s_g_eq, g_l123]; rfl
/-- B.rules -/
theorem g_l124 (l : Nat) : g_P 124 l = (g_c124.lookup l).getD [] := rfl
theorem v_124 {X : e_X} {d : Nat} (a0 : Nat) {m : e_M} : s_S X (d + 1) 124 [.ref a0] m = s_j X d 124 0 [.ref a0, .retAddr 0] [] m := rfl
theorem u_124_0 {X : e_X} {d : Nat} {ls st : List Value} {m : e_M} : s_j X d 124 0 ls st m = s_x X d 124 [.aload 0, .checkcast 579, .invokeinterface 26 1, .istore 1, .iload 1, .sipush (-1), .if_icmp .eq 18, .sipush (-100), .iload 1, .isub, .ireturn] ls st m := by
  rw [s_j, s_g_eq, g_l124]; rfl
theorem u_124_18 {X : e_X} {d : Nat} {ls st : List Value} {m : e_M} : s_j X d 124 18 ls st m = s_x X d 124 [.aload 0, .checkcast 576, .checkcast 519, .aload 0, .checkcast 579, .checkcast 192, .invokeinterface 16 2, .aload 0, .checkcast 576, .checkcast 519, .getfield 69, .ireturn] ls st m := by
  rw [s_j, s_g_eq, g_l124]; rfl
/-- B.year -/
theorem g_l125 (l : Nat) : g_P 125 l = (g_c125.lookup l).getD [] := rfl
theorem v_125 {X : e_X} {d : Nat} (a0 : Nat) {m : e_M} : s_S X (d + 1) 125 [.ref a0] m = s_j X d 125 0 [.ref a0] [] m := rfl
theorem u_125_0 {X : e_X} {d : Nat} {ls st : List Value} {m : e_M} : s_j X d 125 0 ls st m = s_x X d 125 [.aload 0, .checkcast 576, .invokeinterface 76 1, .ifCond .eq 13, .sipush (-4), .ireturn] ls st m := by
  rw [s_j, s_g_eq, g_l125]; rfl
theorem u_125_13 {X : e_X} {d : Nat} {ls st : List Value} {m : e_M} : s_j X d 125 13 ls st m = s_x X d 125 [.aload 0, .checkcast 576, .sipush (-1), .invokeinterface 78 2, .ireturn] ls st m := by
  rw [s_j, s_g_eq, g_l125]; rfl
/-- B.moodBehind -/
theorem g_l126 (l : Nat) : g_P 126 l = (g_c126.lookup l).getD [] := rfl
theorem v_126 {X : e_X} {d : Nat} (a0 : Int32) (a1 : Int32) {m : e_M} : s_S X (d + 1) 126 [.int a0, .int a1] m = s_j X d 126 0 [.int a0, .int a1, .retAddr 0] [] m := rfl
theorem u_126_0 {X : e_X} {d : Nat} {ls st : List Value} {m : e_M} : s_j X d 126 0 ls st m = s_x X d 126 [.iload 0, .sipush 4, .idiv, .istore 2, .iload 0, .sipush 4, .irem, .lookupswitch 72 #[(0, 32), (1, 41), (2, 49)]] ls st m := by
  rw [s_j, s_g_eq, g_l126]; rfl
theorem u_126_32 {X : e_X} {d : Nat} {ls st : List Value} {m : e_M} : s_j X d 126 32 ls st m = s_x X d 126 [.sipush 9, .iload 1, .iload 2, .iadd, .dsub, .ireturn] ls st m := by
  rw [s_j, s_g_eq, g_l126]; rfl
theorem u_126_41 {X : e_X} {d : Nat} {ls st : List Value} {m : e_M} : s_j X d 126 41 ls st m = s_x X d 126 [.sipush 0, .iload 1, .iload 2, .isub, .dadd, .ireturn] ls st m := by
  rw [s_j, s_g_eq, g_l126]; rfl
theorem u_126_49 {X : e_X} {d : Nat} {ls st : List Value} {m : e_M} : s_j X d 126 49 ls st m = s_x X d 126 [.iload 1, .sipush 5, .if_icmp .ge 64, .sipush 5, .iload 1, .iload 2, .iadd, .dsub, .goto 71] ls st m := by
  rw [s_j, s_g_eq, g_l126]; rfl
theorem u_126_64 {X : e_X} {d : Nat} {ls st : List Value} {m : e_M} : s_j X d 126 64 ls st m = s_x X d 126 [.sipush 5, .iload 1, .iload 2, .isub, .dadd, .jsr 71] ls st m := by
  rw [s_j, s_g_eq, g_l126]; rfl
theorem u_126_71 {X : e_X} {d : Nat} {ls st : List Value} {m : e_M} : s_j X d 126 71 ls st m = s_x X d 126 [.ireturn] ls st m := by
  rw [s_j, s_g_eq, g_l126]; rfl
theorem u_126_72 {X : e_X} {d : Nat} {ls st : List Value} {m : e_M} : s_j X d 126 72 ls st m = s_x X d 126 [.iload 1, .ireturn] ls st m := by
  rw [s_j, s_g_eq, g_l126]; rfl
/-- B.placesOf -/
theorem g_l127 (l : Nat) : g_P 127 l = (g_c127.lookup l).getD [] := rfl
theorem v_127 {X : e_X} {d : Nat} (a0 : Int32) (a1 : Int32) {m : e_M} : s_S X (d + 1) 127 [.int a0, .int a1] m = s_j X d 127 0 [.int a0, .int a1] [] m := rfl
theorem u_127_0 {X : e_X} {d : Nat} {ls st : List Value} {m : e_M} : s_j X d 127 0 ls st m = s_x X d 127 [.goto_w 1, .iload 1, .lshl, .goto_w 1, .lsub, .iload 0, .lshl, .lreturn] ls st m := by
  rw [s_j, s_g_eq, g_l127]; rfl
/-- B.stepsOn -/
theorem g_l128 (l : Nat) : g_P 128 l = (g_c128.lookup l).getD [] := rfl
theorem v_128 {X : e_X} {d : Nat} (a0 : Int64) (a1 : Int32) (a2 : Int32) {m : e_M} : s_S X (d + 1) 128 [.long a0, .int a1, .int a2] m = s_j X d 128 0 [.long a0, .retAddr 0, .int a1, .int a2, .retAddr 0] [] m := rfl
theorem u_128_0 {X : e_X} {d : Nat} {ls st : List Value} {m : e_M} : s_j X d 128 0 ls st m = s_x X d 128 [.sipush 0, .istore 4, .jsr 3] ls st m := by
  rw [s_j, s_g_eq, g_l128]; rfl
theorem u_128_3 {X : e_X} {d : Nat} {ls st : List Value} {m : e_M} : s_j X d 128 3 ls st m = s_x X d 128 [.iload 4, .iload 3, .if_icmp .gt 37, .iload 2, .iload 4, .iadd, .sipush 40, .if_icmp .ge 37, .lload 0, .iload 2, .iload 4, .iadd, .lushr, .goto_w 1, .land, .goto_w 1, .lcmp, .ifCond .ne 37, .iinc 4 1, .goto 3] ls st m := by
  rw [s_j, s_g_eq, g_l128]; rfl
theorem u_128_37 {X : e_X} {d : Nat} {ls st : List Value} {m : e_M} : s_j X d 128 37 ls st m = s_x X d 128 [.iload 4, .ireturn] ls st m := by
  rw [s_j, s_g_eq, g_l128]; rfl
/-- B.on -/
theorem g_l129 (l : Nat) : g_P 129 l = (g_c129.lookup l).getD [] := rfl
theorem v_129 {X : e_X} {d : Nat} (a0 : Nat) (a1 : Int32) {m : e_M} : s_S X (d + 1) 129 [.ref a0, .int a1] m = s_j X d 129 0 [.ref a0, .int a1] [] m := rfl
theorem u_129_0 {X : e_X} {d : Nat} {ls st : List Value} {m : e_M} : s_j X d 129 0 ls st m = s_x X d 129 [.iload 1, .sipush 0, .sipush 16, .invokeinterface 109 3, .ifCond .eq 12, .sipush (-1), .ireturn] ls st m := by
  rw [s_j, s_g_eq, g_l129]; rfl
theorem u_129_12 {X : e_X} {d : Nat} {ls st : List Value} {m : e_M} : s_j X d 129 12 ls st m = s_x X d 129 [.aload 0, .checkcast 576, .iload 1, .invokeinterface 84 2, .ireturn] ls st m := by
  rw [s_j, s_g_eq, g_l129]; rfl
/-- B.when -/
theorem g_l130 (l : Nat) : g_P 130 l = (g_c130.lookup l).getD [] := rfl
theorem v_130 {X : e_X} {d : Nat} (a0 : Nat) (a1 : Int32) {m : e_M} : s_S X (d + 1) 130 [.ref a0, .int a1] m = s_j X d 130 0 [.ref a0, .int a1] [] m := rfl
theorem u_130_0 {X : e_X} {d : Nat} {ls st : List Value} {m : e_M} : s_j X d 130 0 ls st m = s_x X d 130 [.aload 0, .checkcast 576, .iload 1, .invokeinterface 69 2, .ifCond .ne 13, .sipush (-1), .ireturn] ls st m := by
  rw [s_j, s_g_eq, g_l130]; rfl
theorem u_130_13 {X : e_X} {d : Nat} {ls st : List Value} {m : e_M} : s_j X d 130 13 ls st m = s_x X d 130 [.aload 0, .checkcast 576, .iload 1, .invokeinterface 70 2, .ifCond .eq 29, .sipush (-3), .goto 40] ls st m := by
  rw [s_j, s_g_eq, g_l130]; rfl
theorem u_130_29 {X : e_X} {d : Nat} {ls st : List Value} {m : e_M} : s_j X d 130 29 ls st m = s_x X d 130 [.aload 0, .checkcast 576, .sipush 1, .iload 1, .ishl, .sipush 0, .invokeinterface 88 3, .jsr 40] ls st m := by
  rw [s_j, s_g_eq, g_l130]; rfl
theorem u_130_40 {X : e_X} {d : Nat} {ls st : List Value} {m : e_M} : s_j X d 130 40 ls st m = s_x X d 130 [.ireturn] ls st m := by
  rw [s_j, s_g_eq, g_l130]; rfl
/-- B.widthFor -/
theorem g_l131 (l : Nat) : g_P 131 l = (g_c131.lookup l).getD [] := rfl
theorem v_131 {X : e_X} {d : Nat} (a0 : Nat) (a1 : Int32) {m : e_M} : s_S X (d + 1) 131 [.ref a0, .int a1] m = s_j X d 131 0 [.ref a0, .int a1] [] m := rfl
theorem u_131_0 {X : e_X} {d : Nat} {ls st : List Value} {m : e_M} : s_j X d 131 0 ls st m = s_x X d 131 [.aload 0, .checkcast 576, .iload 1, .invokeinterface 69 2, .ifCond .ne 13, .sipush (-1), .ireturn] ls st m := by
  rw [s_j, s_g_eq, g_l131]; rfl
theorem u_131_13 {X : e_X} {d : Nat} {ls st : List Value} {m : e_M} : s_j X d 131 13 ls st m = s_x X d 131 [.aload 0, .checkcast 576, .aload 0, .checkcast 576, .checkcast 514, .iload 1, .sipush 9, .invokeinterface 89 4, .ireturn] ls st m := by
  rw [s_j, s_g_eq, g_l131]; rfl
/-- B.pieceFor -/
theorem g_l132 (l : Nat) : g_P 132 l = (g_c132.lookup l).getD [] := rfl
theorem v_132 {X : e_X} {d : Nat} (a0 : Nat) (a1 : Int32) {m : e_M} : s_S X (d + 1) 132 [.ref a0, .int a1] m = s_j X d 132 0 [.ref a0, .int a1] [] m := rfl
theorem u_132_0 {X : e_X} {d : Nat} {ls st : List Value} {m : e_M} : s_j X d 132 0 ls st m = s_x X d 132 [.aload 0, .checkcast 576, .iload 1, .invokeinterface 69 2, .ifCond .ne 13, .sipush (-1), .ireturn] ls st m := by
  rw [s_j, s_g_eq, g_l132]; rfl
theorem u_132_13 {X : e_X} {d : Nat} {ls st : List Value} {m : e_M} : s_j X d 132 13 ls st m = s_x X d 132 [.aload 0, .checkcast 576, .aload 0, .checkcast 576, .checkcast 513, .iload 1, .sipush 39, .invokeinterface 89 4, .ireturn] ls st m := by
  rw [s_j, s_g_eq, g_l132]; rfl
/-- B.over -/
theorem g_l133 (l : Nat) : g_P 133 l = (g_c133.lookup l).getD [] := rfl
theorem v_133 {X : e_X} {d : Nat} (a0 : Nat) (a1 : Int32) {m : e_M} : s_S X (d + 1) 133 [.ref a0, .int a1] m = s_j X d 133 0 [.ref a0, .int a1] [] m := rfl
theorem u_133_0 {X : e_X} {d : Nat} {ls st : List Value} {m : e_M} : s_j X d 133 0 ls st m = s_x X d 133 [.iload 1, .sipush 0, .sipush 40, .invokeinterface 109 3, .ifCond .eq 12, .sipush (-1), .ireturn] ls st m := by
  rw [s_j, s_g_eq, g_l133]; rfl
theorem u_133_12 {X : e_X} {d : Nat} {ls st : List Value} {m : e_M} : s_j X d 133 12 ls st m = s_x X d 133 [.aload 0, .checkcast 576, .sipush 0, .iload 1, .invokeinterface 88 3, .ireturn] ls st m := by
  rw [s_j, s_g_eq, g_l133]; rfl
/-- B.gap -/
theorem g_l134 (l : Nat) : g_P 134 l = (g_c134.lookup l).getD [] := rfl
theorem v_134 {X : e_X} {d : Nat} (a0 : Nat) (a1 : Int32) {m : e_M} : s_S X (d + 1) 134 [.ref a0, .int a1] m = s_j X d 134 0 [.ref a0, .int a1] [] m := rfl
theorem u_134_0 {X : e_X} {d : Nat} {ls st : List Value} {m : e_M} : s_j X d 134 0 ls st m = s_x X d 134 [.iload 1, .ifCond .ne 12, .aload 0, .checkcast 576, .invokeinterface 90 1, .ireturn] ls st m := by
  rw [s_j, s_g_eq, g_l134]; rfl
theorem u_134_12 {X : e_X} {d : Nat} {ls st : List Value} {m : e_M} : s_j X d 134 12 ls st m = s_x X d 134 [.iload 1, .sipush 1, .if_icmp .ne 27, .aload 0, .checkcast 576, .invokeinterface 92 1, .goto 28] ls st m := by
  rw [s_j, s_g_eq, g_l134]; rfl
theorem u_134_27 {X : e_X} {d : Nat} {ls st : List Value} {m : e_M} : s_j X d 134 27 ls st m = s_x X d 134 [.sipush (-1), .jsr 28] ls st m := by
  rw [s_j, s_g_eq, g_l134]; rfl
theorem u_134_28 {X : e_X} {d : Nat} {ls st : List Value} {m : e_M} : s_j X d 134 28 ls st m = s_x X d 134 [.ireturn] ls st m := by
  rw [s_j, s_g_eq, g_l134]; rfl
/-- B.branches -/
theorem g_l135 (l : Nat) : g_P 135 l = (g_c135.lookup l).getD [] := rfl
theorem v_135 {X : e_X} {d : Nat} (a0 : Nat) (a1 : Int32) {m : e_M} : s_S X (d + 1) 135 [.ref a0, .int a1] m = s_j X d 135 0 [.ref a0, .int a1] [] m := rfl
theorem u_135_0 {X : e_X} {d : Nat} {ls st : List Value} {m : e_M} : s_j X d 135 0 ls st m = s_x X d 135 [.iload 1, .sipush (-1), .if_icmp .ne 13, .aload 0, .checkcast 576, .invokeinterface 93 1, .ireturn] ls st m := by
  rw [s_j, s_g_eq, g_l135]; rfl
theorem u_135_13 {X : e_X} {d : Nat} {ls st : List Value} {m : e_M} : s_j X d 135 13 ls st m = s_x X d 135 [.aload 0, .checkcast 576, .iload 1, .invokeinterface 69 2, .ifCond .eq 35, .aload 0, .checkcast 576, .iload 1, .invokeinterface 94 2, .goto 36] ls st m := by
  rw [s_j, s_g_eq, g_l135]; rfl
theorem u_135_35 {X : e_X} {d : Nat} {ls st : List Value} {m : e_M} : s_j X d 135 35 ls st m = s_x X d 135 [.sipush (-1), .jsr 36] ls st m := by
  rw [s_j, s_g_eq, g_l135]; rfl
theorem u_135_36 {X : e_X} {d : Nat} {ls st : List Value} {m : e_M} : s_j X d 135 36 ls st m = s_x X d 135 [.ireturn] ls st m := by
  rw [s_j, s_g_eq, g_l135]; rfl
/-- B.leastOf -/
theorem g_l136 (l : Nat) : g_P 136 l = (g_c136.lookup l).getD [] := rfl
theorem v_136 {X : e_X} {d : Nat} (a0 : Int32) {m : e_M} : s_S X (d + 1) 136 [.int a0] m = s_j X d 136 0 [.int a0, .retAddr 0] [] m := rfl
theorem u_136_0 {X : e_X} {d : Nat} {ls st : List Value} {m : e_M} : s_j X d 136 0 ls st m = s_x X d 136 [.sipush 0, .istore 1, .jsr 2] ls st m := by
  rw [s_j, s_g_eq, g_l136]; rfl
theorem u_136_2 {X : e_X} {d : Nat} {ls st : List Value} {m : e_M} : s_j X d 136 2 ls st m = s_x X d 136 [.iload 1, .sipush 6, .if_icmp .ge 25, .iload 0, .iload 1, .ishr, .sipush 1, .iand, .sipush 1, .if_icmp .ne 19, .iload 1, .ireturn] ls st m := by
  rw [s_j, s_g_eq, g_l136]; rfl
theorem u_136_19 {X : e_X} {d : Nat} {ls st : List Value} {m : e_M} : s_j X d 136 19 ls st m = s_x X d 136 [.iinc 1 1, .goto 2] ls st m := by
  rw [s_j, s_g_eq, g_l136]; rfl
theorem u_136_25 {X : e_X} {d : Nat} {ls st : List Value} {m : e_M} : s_j X d 136 25 ls st m = s_x X d 136 [.sipush (-3), .ireturn] ls st m := by
  rw [s_j, s_g_eq, g_l136]; rfl
/-- B.fetch -/
theorem g_l137 (l : Nat) : g_P 137 l = (g_c137.lookup l).getD [] := rfl
theorem v_137 {X : e_X} {d : Nat} (a0 : Nat) (a1 : Int32) (a2 : Int32) {m : e_M} : s_S X (d + 1) 137 [.ref a0, .int a1, .int a2] m = s_j X d 137 0 [.ref a0, .int a1, .int a2, .retAddr 0] [] m := rfl
theorem u_137_0 {X : e_X} {d : Nat} {ls st : List Value} {m : e_M} : s_j X d 137 0 ls st m = s_x X d 137 [.iload 1, .sipush 0, .sipush 40, .invokeinterface 109 3, .ifCond .ne 19, .iload 2, .sipush 0, .sipush 1, .invokeinterface 109 3, .ifCond .eq 21, .jsr 19] ls st m := by
  rw [s_j, s_g_eq, g_l137]; rfl
theorem u_137_19 {X : e_X} {d : Nat} {ls st : List Value} {m : e_M} : s_j X d 137 19 ls st m = s_x X d 137 [.sipush (-1), .ireturn] ls st m := by
  rw [s_j, s_g_eq, g_l137]; rfl
theorem u_137_21 {X : e_X} {d : Nat} {ls st : List Value} {m : e_M} : s_j X d 137 21 ls st m = s_x X d 137 [.aload 0, .checkcast 576, .invokeinterface 91 1, .aload 0, .checkcast 576, .getfield 522, .sipush (-1), .ixor, .iand, .istore 3, .iload 2, .ifCond .ne 53, .aload 0, .checkcast 576, .iload 1, .iload 3, .invokeinterface 97 3, .ireturn] ls st m := by
  rw [s_j, s_g_eq, g_l137]; rfl
theorem u_137_53 {X : e_X} {d : Nat} {ls st : List Value} {m : e_M} : s_j X d 137 53 ls st m = s_x X d 137 [.aload 0, .checkcast 576, .iload 1, .iload 3, .invokeinterface 98 3, .ireturn] ls st m := by
  rw [s_j, s_g_eq, g_l137]; rfl
/-- B.best -/
theorem g_l138 (l : Nat) : g_P 138 l = (g_c138.lookup l).getD [] := rfl
theorem v_138 {X : e_X} {d : Nat} (a0 : Nat) (a1 : Int32) {m : e_M} : s_S X (d + 1) 138 [.ref a0, .int a1] m = s_j X d 138 0 [.ref a0, .int a1] [] m := rfl
theorem u_138_0 {X : e_X} {d : Nat} {ls st : List Value} {m : e_M} : s_j X d 138 0 ls st m = s_x X d 138 [.iload 1, .sipush 0, .sipush 4, .invokeinterface 109 3, .ifCond .eq 11, .sipush (-1), .ireturn] ls st m := by
  rw [s_j, s_g_eq, g_l138]; rfl
theorem u_138_11 {X : e_X} {d : Nat} {ls st : List Value} {m : e_M} : s_j X d 138 11 ls st m = s_x X d 138 [.aload 0, .checkcast 580, .iload 1, .sipush 0, .invokeinterface 18 3, .aload 0, .checkcast 580, .getfield 133, .ireturn] ls st m := by
  rw [s_j, s_g_eq, g_l138]; rfl
/-- B.ith -/
theorem g_l139 (l : Nat) : g_P 139 l = (g_c139.lookup l).getD [] := rfl
theorem v_139 {X : e_X} {d : Nat} (a0 : Nat) (a1 : Int32) (a2 : Int32) {m : e_M} : s_S X (d + 1) 139 [.ref a0, .int a1, .int a2] m = s_j X d 139 0 [.ref a0, .int a1, .int a2] [] m := rfl
theorem u_139_0 {X : e_X} {d : Nat} {ls st : List Value} {m : e_M} : s_j X d 139 0 ls st m = s_x X d 139 [.iload 1, .sipush 0, .sipush 4, .invokeinterface 109 3, .ifCond .ne 18, .iload 2, .sipush 0, .sipush 3, .invokeinterface 109 3, .ifCond .eq 20, .jsr 18] ls st m := by
  rw [s_j, s_g_eq, g_l139]; rfl
theorem u_139_18 {X : e_X} {d : Nat} {ls st : List Value} {m : e_M} : s_j X d 139 18 ls st m = s_x X d 139 [.sipush (-1), .ireturn] ls st m := by
  rw [s_j, s_g_eq, g_l139]; rfl
theorem u_139_20 {X : e_X} {d : Nat} {ls st : List Value} {m : e_M} : s_j X d 139 20 ls st m = s_x X d 139 [.aload 0, .checkcast 580, .iload 1, .sipush 0, .invokeinterface 18 3, .iload 2, .aload 0, .checkcast 580, .getfield 131, .if_icmp .ge 52, .aload 0, .checkcast 580, .checkcast 130, .iload 2, .iaload, .goto 54] ls st m := by
  rw [s_j, s_g_eq, g_l139]; rfl
theorem u_139_52 {X : e_X} {d : Nat} {ls st : List Value} {m : e_M} : s_j X d 139 52 ls st m = s_x X d 139 [.sipush (-3), .jsr 54] ls st m := by
  rw [s_j, s_g_eq, g_l139]; rfl
theorem u_139_54 {X : e_X} {d : Nat} {ls st : List Value} {m : e_M} : s_j X d 139 54 ls st m = s_x X d 139 [.ireturn] ls st m := by
  rw [s_j, s_g_eq, g_l139]; rfl
/-- B.ways -/
theorem g_l140 (l : Nat) : g_P 140 l = (g_c140.lookup l).getD [] := rfl
theorem v_140 {X : e_X} {d : Nat} (a0 : Nat) (a1 : Int32) {m : e_M} : s_S X (d + 1) 140 [.ref a0, .int a1] m = s_j X d 140 0 [.ref a0, .int a1] [] m := rfl
theorem u_140_0 {X : e_X} {d : Nat} {ls st : List Value} {m : e_M} : s_j X d 140 0 ls st m = s_x X d 140 [.iload 1, .sipush 0, .sipush 4, .invokeinterface 109 3, .ifCond .eq 11, .sipush (-1), .ireturn] ls st m := by
  rw [s_j, s_g_eq, g_l140]; rfl
theorem u_140_11 {X : e_X} {d : Nat} {ls st : List Value} {m : e_M} : s_j X d 140 11 ls st m = s_x X d 140 [.aload 0, .checkcast 580, .iload 1, .sipush 0, .invokeinterface 18 3, .aload 0, .checkcast 580, .getfield 134, .ireturn] ls st m := by
  rw [s_j, s_g_eq, g_l140]; rfl
/-- B.supper -/
theorem g_l141 (l : Nat) : g_P 141 l = (g_c141.lookup l).getD [] := rfl
theorem v_141 {X : e_X} {d : Nat} (a0 : Nat) (a1 : Int32) (a2 : Int32) {m : e_M} : s_S X (d + 1) 141 [.ref a0, .int a1, .int a2] m = s_j X d 141 0 [.ref a0, .int a1, .int a2] [] m := rfl
theorem u_141_0 {X : e_X} {d : Nat} {ls st : List Value} {m : e_M} : s_j X d 141 0 ls st m = s_x X d 141 [.iload 1, .sipush 0, .sipush 4, .invokeinterface 109 3, .ifCond .ne 24, .iload 2, .sipush 0, .aload 0, .checkcast 576, .invokeinterface 91 1, .invokeinterface 109 3, .ifCond .eq 26, .jsr 24] ls st m := by
  rw [s_j, s_g_eq, g_l141]; rfl
theorem u_141_24 {X : e_X} {d : Nat} {ls st : List Value} {m : e_M} : s_j X d 141 24 ls st m = s_x X d 141 [.sipush (-1), .ireturn] ls st m := by
  rw [s_j, s_g_eq, g_l141]; rfl
theorem u_141_26 {X : e_X} {d : Nat} {ls st : List Value} {m : e_M} : s_j X d 141 26 ls st m = s_x X d 141 [.aload 0, .checkcast 580, .iload 1, .iload 2, .invokeinterface 18 3, .aload 0, .checkcast 580, .getfield 135, .ireturn] ls st m := by
  rw [s_j, s_g_eq, g_l141]; rfl
/-- B.bars -/
theorem g_l142 (l : Nat) : g_P 142 l = (g_c142.lookup l).getD [] := rfl
theorem v_142 {X : e_X} {d : Nat} (a0 : Nat) (a1 : Int32) (a2 : Int32) {m : e_M} : s_S X (d + 1) 142 [.ref a0, .int a1, .int a2] m = s_j X d 142 0 [.ref a0, .int a1, .int a2] [] m := rfl
theorem u_142_0 {X : e_X} {d : Nat} {ls st : List Value} {m : e_M} : s_j X d 142 0 ls st m = s_x X d 142 [.iload 1, .sipush 0, .sipush 4, .invokeinterface 109 3, .ifCond .ne 24, .iload 2, .sipush 0, .aload 0, .checkcast 576, .invokeinterface 91 1, .invokeinterface 109 3, .ifCond .eq 26, .jsr 24] ls st m := by
  rw [s_j, s_g_eq, g_l142]; rfl
theorem u_142_24 {X : e_X} {d : Nat} {ls st : List Value} {m : e_M} : s_j X d 142 24 ls st m = s_x X d 142 [.sipush (-1), .ireturn] ls st m := by
  rw [s_j, s_g_eq, g_l142]; rfl
theorem u_142_26 {X : e_X} {d : Nat} {ls st : List Value} {m : e_M} : s_j X d 142 26 ls st m = s_x X d 142 [.aload 0, .checkcast 580, .iload 1, .iload 2, .invokeinterface 18 3, .iload 2, .aload 0, .checkcast 580, .getfield 136, .sipush (-1), .ixor, .iand, .invokeinterface 136 1, .ireturn] ls st m := by
  rw [s_j, s_g_eq, g_l142]; rfl
/-- B.game -/
theorem g_l143 (l : Nat) : g_P 143 l = (g_c143.lookup l).getD [] := rfl
theorem v_143 {X : e_X} {d : Nat} (a0 : Nat) (a1 : Int32) {m : e_M} : s_S X (d + 1) 143 [.ref a0, .int a1] m = s_j X d 143 0 [.ref a0, .int a1] [] m := rfl
theorem u_143_0 {X : e_X} {d : Nat} {ls st : List Value} {m : e_M} : s_j X d 143 0 ls st m = s_x X d 143 [.iload 1, .sipush 1, .sipush 4, .invokeinterface 109 3, .ifCond .eq 11, .sipush (-1), .ireturn] ls st m := by
  rw [s_j, s_g_eq, g_l143]; rfl
theorem u_143_11 {X : e_X} {d : Nat} {ls st : List Value} {m : e_M} : s_j X d 143 11 ls st m = s_x X d 143 [.aload 0, .checkcast 580, .aload 0, .checkcast 576, .iload 1, .invokeinterface 86 2, .sipush 1, .invokeinterface 21 3, .ireturn] ls st m := by
  rw [s_j, s_g_eq, g_l143]; rfl
/-- B.play -/
theorem g_l144 (l : Nat) : g_P 144 l = (g_c144.lookup l).getD [] := rfl
theorem v_144 {X : e_X} {d : Nat} (a0 : Nat) (a1 : Int32) {m : e_M} : s_S X (d + 1) 144 [.ref a0, .int a1] m = s_j X d 144 0 [.ref a0, .int a1] [] m := rfl
theorem u_144_0 {X : e_X} {d : Nat} {ls st : List Value} {m : e_M} : s_j X d 144 0 ls st m = s_x X d 144 [.iload 1, .sipush 1, .sipush 4, .invokeinterface 109 3, .ifCond .eq 11, .sipush (-1), .ireturn] ls st m := by
  rw [s_j, s_g_eq, g_l144]; rfl
theorem u_144_11 {X : e_X} {d : Nat} {ls st : List Value} {m : e_M} : s_j X d 144 11 ls st m = s_x X d 144 [.aload 0, .checkcast 576, .invokeinterface 76 1, .ifCond .eq 26, .sipush (-3), .goto 41] ls st m := by
  rw [s_j, s_g_eq, g_l144]; rfl
theorem u_144_26 {X : e_X} {d : Nat} {ls st : List Value} {m : e_M} : s_j X d 144 26 ls st m = s_x X d 144 [.aload 0, .checkcast 580, .aload 0, .checkcast 576, .iload 1, .invokeinterface 86 2, .invokeinterface 23 2, .jsr 41] ls st m := by
  rw [s_j, s_g_eq, g_l144]; rfl
theorem u_144_41 {X : e_X} {d : Nat} {ls st : List Value} {m : e_M} : s_j X d 144 41 ls st m = s_x X d 144 [.ireturn] ls st m := by
  rw [s_j, s_g_eq, g_l144]; rfl
/-- B.report -/
theorem g_l145 (l : Nat) : g_P 145 l = (g_c145.lookup l).getD [] := rfl
theorem v_145 {X : e_X} {d : Nat} (a0 : Nat) (a1 : Int32) (a2 : Int32) (a3 : Int32) (a4 : Int32) {m : e_M} : s_S X (d + 1) 145 [.ref a0, .int a1, .int a2, .int a3, .int a4] m = s_j X d 145 0 [.ref a0, .int a1, .int a2, .int a3, .int a4, .retAddr 0] [] m := rfl
theorem u_145_0 {X : e_X} {d : Nat} {ls st : List Value} {m : e_M} : s_j X d 145 0 ls st m = s_x X d 145 [.iload 1, .sipush 0, .sipush 15, .invokeinterface 109 3, .ifCond .ne 19, .iload 2, .sipush 0, .sipush 1, .invokeinterface 109 3, .ifCond .eq 21, .jsr 19] ls st m := by
  rw [s_j, s_g_eq, g_l145]; rfl
theorem u_145_19 {X : e_X} {d : Nat} {ls st : List Value} {m : e_M} : s_j X d 145 19 ls st m = s_x X d 145 [.sipush (-1), .ireturn] ls st m := by
  rw [s_j, s_g_eq, g_l145]; rfl
theorem u_145_21 {X : e_X} {d : Nat} {ls st : List Value} {m : e_M} : s_j X d 145 21 ls st m = s_x X d 145 [.iload 2, .ifCond .ne 30, .sipush 40, .goto 32] ls st m := by
  rw [s_j, s_g_eq, g_l145]; rfl
theorem u_145_30 {X : e_X} {d : Nat} {ls st : List Value} {m : e_M} : s_j X d 145 30 ls st m = s_x X d 145 [.sipush 9, .jsr 32] ls st m := by
  rw [s_j, s_g_eq, g_l145]; rfl
theorem u_145_32 {X : e_X} {d : Nat} {ls st : List Value} {m : e_M} : s_j X d 145 32 ls st m = s_x X d 145 [.istore 5, .iload 3, .sipush 0, .iload 5, .invokeinterface 109 3, .ifCond .ne 55, .iload 4, .iload 3, .iload 5, .invokeinterface 109 3, .ifCond .eq 57, .jsr 55] ls st m := by
  rw [s_j, s_g_eq, g_l145]; rfl
theorem u_145_55 {X : e_X} {d : Nat} {ls st : List Value} {m : e_M} : s_j X d 145 55 ls st m = s_x X d 145 [.sipush (-1), .ireturn] ls st m := by
  rw [s_j, s_g_eq, g_l145]; rfl
theorem u_145_57 {X : e_X} {d : Nat} {ls st : List Value} {m : e_M} : s_j X d 145 57 ls st m = s_x X d 145 [.aload 0, .checkcast 576, .checkcast 520, .getfield 260, .sipush 6, .if_icmp .lt 75, .sipush (-2), .ireturn] ls st m := by
  rw [s_j, s_g_eq, g_l145]; rfl
theorem u_145_75 {X : e_X} {d : Nat} {ls st : List Value} {m : e_M} : s_j X d 145 75 ls st m = s_x X d 145 [.aload 0, .checkcast 576, .checkcast 520, .iload 1, .iload 2, .iload 3, .iload 4, .invokeinterface 49 5, .ireturn] ls st m := by
  rw [s_j, s_g_eq, g_l145]; rfl
/-- B.forget -/
theorem g_l146 (l : Nat) : g_P 146 l = (g_c146.lookup l).getD [] := rfl
theorem v_146 {X : e_X} {d : Nat} (a0 : Nat) {m : e_M} : s_S X (d + 1) 146 [.ref a0] m = s_j X d 146 0 [.ref a0, .retAddr 0] [] m := rfl
theorem u_146_0 {X : e_X} {d : Nat} {ls st : List Value} {m : e_M} : s_j X d 146 0 ls st m = s_x X d 146 [.aload 0, .checkcast 576, .checkcast 520, .getfield 260, .istore 1, .aload 0, .checkcast 576, .checkcast 520, .sipush 0, .putfield 260, .iload 1, .ireturn] ls st m := by
  rw [s_j, s_g_eq, g_l146]; rfl
/-- B.lost -/
theorem g_l147 (l : Nat) : g_P 147 l = (g_c147.lookup l).getD [] := rfl
theorem v_147 {X : e_X} {d : Nat} (a0 : Nat) (a1 : Int32) {m : e_M} : s_S X (d + 1) 147 [.ref a0, .int a1] m = s_j X d 147 0 [.ref a0, .int a1] [] m := rfl
theorem u_147_0 {X : e_X} {d : Nat} {ls st : List Value} {m : e_M} : s_j X d 147 0 ls st m = s_x X d 147 [.iload 1, .sipush 0, .sipush 3, .invokeinterface 109 3, .ifCond .eq 11, .sipush (-1), .ireturn] ls st m := by
  rw [s_j, s_g_eq, g_l147]; rfl
theorem u_147_11 {X : e_X} {d : Nat} {ls st : List Value} {m : e_M} : s_j X d 147 11 ls st m = s_x X d 147 [.iload 1, .ifCond .ne 25, .aload 0, .checkcast 576, .invokeinterface 99 1, .goto 33] ls st m := by
  rw [s_j, s_g_eq, g_l147]; rfl
theorem u_147_25 {X : e_X} {d : Nat} {ls st : List Value} {m : e_M} : s_j X d 147 25 ls st m = s_x X d 147 [.aload 0, .checkcast 576, .iload 1, .invokeinterface 101 2, .jsr 33] ls st m := by
  rw [s_j, s_g_eq, g_l147]; rfl
theorem u_147_33 {X : e_X} {d : Nat} {ls st : List Value} {m : e_M} : s_j X d 147 33 ls st m = s_x X d 147 [.ireturn] ls st m := by
  rw [s_j, s_g_eq, g_l147]; rfl
/-- B.liar -/
theorem g_l148 (l : Nat) : g_P 148 l = (g_c148.lookup l).getD [] := rfl
theorem v_148 {X : e_X} {d : Nat} (a0 : Nat) {m : e_M} : s_S X (d + 1) 148 [.ref a0] m = s_j X d 148 0 [.ref a0] [] m := rfl
theorem u_148_0 {X : e_X} {d : Nat} {ls st : List Value} {m : e_M} : s_j X d 148 0 ls st m = s_x X d 148 [.aload 0, .checkcast 576, .invokeinterface 102 1, .ireturn] ls st m := by
  rw [s_j, s_g_eq, g_l148]; rfl
/-- B.seed -/
theorem g_l149 (l : Nat) : g_P 149 l = (g_c149.lookup l).getD [] := rfl
theorem v_149 {X : e_X} {d : Nat} (a0 : Nat) (a1 : Int32) {m : e_M} : s_S X (d + 1) 149 [.ref a0, .int a1] m = s_j X d 149 0 [.ref a0, .int a1, .retAddr 0] [] m := rfl
theorem u_149_0 {X : e_X} {d : Nat} {ls st : List Value} {m : e_M} : s_j X d 149 0 ls st m = s_x X d 149 [.aload 0, .checkcast 576, .getfield 528, .istore 2, .aload 0, .checkcast 576, .iload 1, .putfield 528, .iload 2, .ireturn] ls st m := by
  rw [s_j, s_g_eq, g_l149]; rfl
/-- B.lot -/
theorem g_l150 (l : Nat) : g_P 150 l = (g_c150.lookup l).getD [] := rfl
theorem v_150 {X : e_X} {d : Nat} (a0 : Nat) {m : e_M} : s_S X (d + 1) 150 [.ref a0] m = s_j X d 150 0 [.ref a0] [] m := rfl
theorem u_150_0 {X : e_X} {d : Nat} {ls st : List Value} {m : e_M} : s_j X d 150 0 ls st m = s_x X d 150 [.aload 0, .checkcast 576, .invokeinterface 76 1, .ifCond .eq 13, .sipush (-4), .ireturn] ls st m := by
  rw [s_j, s_g_eq, g_l150]; rfl
theorem u_150_13 {X : e_X} {d : Nat} {ls st : List Value} {m : e_M} : s_j X d 150 13 ls st m = s_x X d 150 [.aload 0, .checkcast 576, .aload 0, .checkcast 576, .invokeinterface 103 1, .invokeinterface 78 2, .ireturn] ls st m := by
  rw [s_j, s_g_eq, g_l150]; rfl
/-- B.times -/
theorem g_l151 (l : Nat) : g_P 151 l = (g_c151.lookup l).getD [] := rfl
theorem v_151 {X : e_X} {d : Nat} (a0 : Nat) (a1 : Int32) (a2 : Int32) {m : e_M} : s_S X (d + 1) 151 [.ref a0, .int a1, .int a2] m = s_j X d 151 0 [.ref a0, .int a1, .int a2, .retAddr 0, .retAddr 0, .retAddr 0] [] m := rfl
theorem u_151_0 {X : e_X} {d : Nat} {ls st : List Value} {m : e_M} : s_j X d 151 0 ls st m = s_x X d 151 [.iload 1, .sipush 1, .sipush 40, .invokeinterface 109 3, .ifCond .ne 21, .iload 2, .sipush 0, .sipush 999, .invokeinterface 109 3, .ifCond .eq 23, .jsr 21] ls st m := by
  rw [s_j, s_g_eq, g_l151]; rfl
theorem u_151_21 {X : e_X} {d : Nat} {ls st : List Value} {m : e_M} : s_j X d 151 21 ls st m = s_x X d 151 [.sipush (-1), .ireturn] ls st m := by
  rw [s_j, s_g_eq, g_l151]; rfl
theorem u_151_23 {X : e_X} {d : Nat} {ls st : List Value} {m : e_M} : s_j X d 151 23 ls st m = s_x X d 151 [.aload 0, .checkcast 576, .getfield 528, .istore 3, .sipush 0, .istore 4, .sipush 0, .istore 5, .jsr 37] ls st m := by
  rw [s_j, s_g_eq, g_l151]; rfl
theorem u_151_37 {X : e_X} {d : Nat} {ls st : List Value} {m : e_M} : s_j X d 151 37 ls st m = s_x X d 151 [.iload 5, .iload 1, .if_icmp .ge 63, .aload 0, .checkcast 576, .invokeinterface 104 1, .iload 2, .if_icmp .lt 57, .iinc 4 1, .jsr 57] ls st m := by
  rw [s_j, s_g_eq, g_l151]; rfl
theorem u_151_57 {X : e_X} {d : Nat} {ls st : List Value} {m : e_M} : s_j X d 151 57 ls st m = s_x X d 151 [.iinc 5 1, .goto 37] ls st m := by
  rw [s_j, s_g_eq, g_l151]; rfl
theorem u_151_63 {X : e_X} {d : Nat} {ls st : List Value} {m : e_M} : s_j X d 151 63 ls st m = s_x X d 151 [.aload 0, .checkcast 576, .iload 3, .putfield 528, .iload 4, .ireturn] ls st m := by
  rw [s_j, s_g_eq, g_l151]; rfl
/-- B.prove -/
theorem g_l152 (l : Nat) : g_P 152 l = (g_c152.lookup l).getD [] := rfl
theorem v_152 {X : e_X} {d : Nat} (a0 : Nat) (a1 : Int32) {m : e_M} : s_S X (d + 1) 152 [.ref a0, .int a1] m = s_j X d 152 0 [.ref a0, .int a1] [] m := rfl
theorem u_152_0 {X : e_X} {d : Nat} {ls st : List Value} {m : e_M} : s_j X d 152 0 ls st m = s_x X d 152 [.iload 1, .sipush 0, .sipush 4, .invokeinterface 109 3, .ifCond .eq 11, .sipush (-1), .ireturn] ls st m := by
  rw [s_j, s_g_eq, g_l152]; rfl
theorem u_152_11 {X : e_X} {d : Nat} {ls st : List Value} {m : e_M} : s_j X d 152 11 ls st m = s_x X d 152 [.aload 0, .checkcast 580, .iload 1, .sipush 0, .invokeinterface 18 3, .aload 0, .checkcast 581, .aload 0, .checkcast 580, .checkcast 130, .aload 0, .checkcast 580, .getfield 131, .invokeinterface 54 3, .ireturn] ls st m := by
  rw [s_j, s_g_eq, g_l152]; rfl
/-- B.row -/
theorem g_l153 (l : Nat) : g_P 153 l = (g_c153.lookup l).getD [] := rfl
theorem v_153 {X : e_X} {d : Nat} (a0 : Nat) (a1 : Int32) (a2 : Int32) {m : e_M} : s_S X (d + 1) 153 [.ref a0, .int a1, .int a2] m = s_j X d 153 0 [.ref a0, .int a1, .int a2] [] m := rfl
theorem u_153_0 {X : e_X} {d : Nat} {ls st : List Value} {m : e_M} : s_j X d 153 0 ls st m = s_x X d 153 [.aload 0, .checkcast 581, .iload 1, .iload 2, .invokeinterface 55 3, .ifCond .eq 28, .aload 0, .checkcast 581, .checkcast 321, .sipush 3, .iload 1, .imul, .iload 2, .iadd, .iaload, .goto 30] ls st m := by
  rw [s_j, s_g_eq, g_l153]; rfl
theorem u_153_28 {X : e_X} {d : Nat} {ls st : List Value} {m : e_M} : s_j X d 153 28 ls st m = s_x X d 153 [.sipush (-9), .jsr 30] ls st m := by
  rw [s_j, s_g_eq, g_l153]; rfl
theorem u_153_30 {X : e_X} {d : Nat} {ls st : List Value} {m : e_M} : s_j X d 153 30 ls st m = s_x X d 153 [.ireturn] ls st m := by
  rw [s_j, s_g_eq, g_l153]; rfl
/-- B.alterRow -/
theorem g_l154 (l : Nat) : g_P 154 l = (g_c154.lookup l).getD [] := rfl
theorem v_154 {X : e_X} {d : Nat} (a0 : Nat) (a1 : Int32) (a2 : Int32) (a3 : Int32) {m : e_M} : s_S X (d + 1) 154 [.ref a0, .int a1, .int a2, .int a3] m = s_j X d 154 0 [.ref a0, .int a1, .int a2, .int a3] [] m := rfl
theorem u_154_0 {X : e_X} {d : Nat} {ls st : List Value} {m : e_M} : s_j X d 154 0 ls st m = s_x X d 154 [.aload 0, .checkcast 581, .iload 1, .iload 2, .invokeinterface 55 3, .ifCond .eq 31, .aload 0, .checkcast 581, .checkcast 321, .sipush 3, .iload 1, .imul, .iload 2, .iadd, .iload 3, .invokeinterface 114 3, .goto 33] ls st m := by
  rw [s_j, s_g_eq, g_l154]; rfl
theorem u_154_31 {X : e_X} {d : Nat} {ls st : List Value} {m : e_M} : s_j X d 154 31 ls st m = s_x X d 154 [.sipush (-9), .jsr 33] ls st m := by
  rw [s_j, s_g_eq, g_l154]; rfl
theorem u_154_33 {X : e_X} {d : Nat} {ls st : List Value} {m : e_M} : s_j X d 154 33 ls st m = s_x X d 154 [.ireturn] ls st m := by
  rw [s_j, s_g_eq, g_l154]; rfl
/-- B.judge -/
theorem g_l155 (l : Nat) : g_P 155 l = (g_c155.lookup l).getD [] := rfl
theorem v_155 {X : e_X} {d : Nat} (a0 : Nat) {m : e_M} : s_S X (d + 1) 155 [.ref a0] m = s_j X d 155 0 [.ref a0] [] m := rfl
theorem u_155_0 {X : e_X} {d : Nat} {ls st : List Value} {m : e_M} : s_j X d 155 0 ls st m = s_x X d 155 [.aload 0, .checkcast 581, .invokeinterface 56 1, .ireturn] ls st m := by
  rw [s_j, s_g_eq, g_l155]; rfl
/-- B.sheet -/
theorem g_l156 (l : Nat) : g_P 156 l = (g_c156.lookup l).getD [] := rfl
theorem v_156 {X : e_X} {d : Nat} (a0 : Nat) (a1 : Int32) (a2 : Int32) (a3 : Int32) {m : e_M} : s_S X (d + 1) 156 [.ref a0, .int a1, .int a2, .int a3] m = s_j X d 156 0 [.ref a0, .int a1, .int a2, .int a3] [] m := rfl
theorem u_156_0 {X : e_X} {d : Nat} {ls st : List Value} {m : e_M} : s_j X d 156 0 ls st m = s_x X d 156 [.iload 1, .sipush 0, .sipush 3, .invokeinterface 109 3, .ifCond .ne 18, .iload 2, .sipush (-1), .sipush 4, .invokeinterface 109 3, .ifCond .eq 20, .jsr 18] ls st m := by
  rw [s_j, s_g_eq, g_l156]; rfl
theorem u_156_18 {X : e_X} {d : Nat} {ls st : List Value} {m : e_M} : s_j X d 156 18 ls st m = s_x X d 156 [.sipush (-1), .ireturn] ls st m := by
  rw [s_j, s_g_eq, g_l156]; rfl
theorem u_156_20 {X : e_X} {d : Nat} {ls st : List Value} {m : e_M} : s_j X d 156 20 ls st m = s_x X d 156 [.iload 2, .sipush (-1), .if_icmp .eq 33, .iload 3, .sipush 40, .if_icmp .le 33, .sipush (-1), .ireturn] ls st m := by
  rw [s_j, s_g_eq, g_l156]; rfl
theorem u_156_33 {X : e_X} {d : Nat} {ls st : List Value} {m : e_M} : s_j X d 156 33 ls st m = s_x X d 156 [.iload 2, .sipush (-1), .if_icmp .eq 45, .iload 3, .ifCond .ge 45, .sipush (-14), .ireturn] ls st m := by
  rw [s_j, s_g_eq, g_l156]; rfl
theorem u_156_45 {X : e_X} {d : Nat} {ls st : List Value} {m : e_M} : s_j X d 156 45 ls st m = s_x X d 156 [.aload 0, .checkcast 582, .iload 1, .aaload, .iload 2, .iload 2, .sipush (-1), .if_icmp .ne 61, .sipush 0, .goto 62] ls st m := by
  rw [s_j, s_g_eq, g_l156]; rfl
theorem u_156_61 {X : e_X} {d : Nat} {ls st : List Value} {m : e_M} : s_j X d 156 61 ls st m = s_x X d 156 [.iload 3, .jsr 62] ls st m := by
  rw [s_j, s_g_eq, g_l156]; rfl
theorem u_156_62 {X : e_X} {d : Nat} {ls st : List Value} {m : e_M} : s_j X d 156 62 ls st m = s_x X d 156 [.invokeinterface 59 3, .sipush 1, .ireturn] ls st m := by
  rw [s_j, s_g_eq, g_l156]; rfl
/-- B.write -/
theorem g_l157 (l : Nat) : g_P 157 l = (g_c157.lookup l).getD [] := rfl
theorem v_157 {X : e_X} {d : Nat} (a0 : Nat) (a1 : Int32) (a2 : Int32) (a3 : Int32) {m : e_M} : s_S X (d + 1) 157 [.ref a0, .int a1, .int a2, .int a3] m = s_j X d 157 0 [.ref a0, .int a1, .int a2, .int a3] [] m := rfl
theorem u_157_0 {X : e_X} {d : Nat} {ls st : List Value} {m : e_M} : s_j X d 157 0 ls st m = s_x X d 157 [.iload 1, .sipush 0, .sipush 3, .invokeinterface 109 3, .ifCond .eq 11, .sipush (-1), .ireturn] ls st m := by
  rw [s_j, s_g_eq, g_l157]; rfl
theorem u_157_11 {X : e_X} {d : Nat} {ls st : List Value} {m : e_M} : s_j X d 157 11 ls st m = s_x X d 157 [.aload 0, .checkcast 582, .iload 1, .aaload, .getfield 385, .sipush (-1), .if_icmp .ne 27, .sipush (-11), .ireturn] ls st m := by
  rw [s_j, s_g_eq, g_l157]; rfl
theorem u_157_27 {X : e_X} {d : Nat} {ls st : List Value} {m : e_M} : s_j X d 157 27 ls st m = s_x X d 157 [.aload 0, .checkcast 582, .iload 1, .aaload, .iload 2, .invokeinterface 60 2, .ifCond .ne 43, .sipush (-12), .ireturn] ls st m := by
  rw [s_j, s_g_eq, g_l157]; rfl
theorem u_157_43 {X : e_X} {d : Nat} {ls st : List Value} {m : e_M} : s_j X d 157 43 ls st m = s_x X d 157 [.aload 0, .checkcast 582, .iload 1, .aaload, .iload 2, .iload 3, .invokeinterface 61 3, .sipush 1, .ireturn] ls st m := by
  rw [s_j, s_g_eq, g_l157]; rfl
/-- B.item -/
theorem g_l158 (l : Nat) : g_P 158 l = (g_c158.lookup l).getD [] := rfl
theorem v_158 {X : e_X} {d : Nat} (a0 : Nat) (a1 : Int32) (a2 : Int32) (a3 : Int32) {m : e_M} : s_S X (d + 1) 158 [.ref a0, .int a1, .int a2, .int a3] m = s_j X d 158 0 [.ref a0, .int a1, .int a2, .int a3, .retAddr 0] [] m := rfl
theorem u_158_0 {X : e_X} {d : Nat} {ls st : List Value} {m : e_M} : s_j X d 158 0 ls st m = s_x X d 158 [.iload 1, .sipush 0, .sipush 3, .invokeinterface 109 3, .ifCond .ne 18, .iload 2, .sipush 0, .sipush 4, .invokeinterface 109 3, .ifCond .eq 20, .jsr 18] ls st m := by
  rw [s_j, s_g_eq, g_l158]; rfl
theorem u_158_18 {X : e_X} {d : Nat} {ls st : List Value} {m : e_M} : s_j X d 158 18 ls st m = s_x X d 158 [.sipush (-1), .ireturn] ls st m := by
  rw [s_j, s_g_eq, g_l158]; rfl
theorem u_158_20 {X : e_X} {d : Nat} {ls st : List Value} {m : e_M} : s_j X d 158 20 ls st m = s_x X d 158 [.aload 0, .checkcast 582, .iload 1, .aaload, .iload 2, .invokeinterface 63 2, .istore 4, .iload 4, .ifCond .eq 40, .iload 4, .ireturn] ls st m := by
  rw [s_j, s_g_eq, g_l158]; rfl
theorem u_158_40 {X : e_X} {d : Nat} {ls st : List Value} {m : e_M} : s_j X d 158 40 ls st m = s_x X d 158 [.aload 0, .checkcast 582, .iload 1, .aaload, .iload 3, .invokeinterface 60 2, .ifCond .eq 68, .aload 0, .checkcast 582, .iload 1, .aaload, .checkcast 384, .iload 3, .laload, .l2i, .goto 70] ls st m := by
  rw [s_j, s_g_eq, g_l158]; rfl
theorem u_158_68 {X : e_X} {d : Nat} {ls st : List Value} {m : e_M} : s_j X d 158 68 ls st m = s_x X d 158 [.sipush (-12), .jsr 70] ls st m := by
  rw [s_j, s_g_eq, g_l158]; rfl
theorem u_158_70 {X : e_X} {d : Nat} {ls st : List Value} {m : e_M} : s_j X d 158 70 ls st m = s_x X d 158 [.ireturn] ls st m := by
  rw [s_j, s_g_eq, g_l158]; rfl
/-- B.goAll -/
theorem g_l159 (l : Nat) : g_P 159 l = (g_c159.lookup l).getD [] := rfl
theorem v_159 {X : e_X} {d : Nat} (a0 : Nat) (a1 : Int32) (a2 : Int32) (a3 : Int32) {m : e_M} : s_S X (d + 1) 159 [.ref a0, .int a1, .int a2, .int a3] m = s_j X d 159 0 [.ref a0, .int a1, .int a2, .int a3, .retAddr 0, .retAddr 0, .retAddr 0, .retAddr 0, .retAddr 0] [] m := rfl
theorem u_159_0 {X : e_X} {d : Nat} {ls st : List Value} {m : e_M} : s_j X d 159 0 ls st m = s_x X d 159 [.iload 1, .sipush 0, .sipush 3, .invokeinterface 109 3, .ifCond .ne 19, .iload 3, .sipush 0, .sipush 20, .invokeinterface 109 3, .ifCond .eq 21, .jsr 19] ls st m := by
  rw [s_j, s_g_eq, g_l159]; rfl
theorem u_159_19 {X : e_X} {d : Nat} {ls st : List Value} {m : e_M} : s_j X d 159 19 ls st m = s_x X d 159 [.sipush (-1), .ireturn] ls st m := by
  rw [s_j, s_g_eq, g_l159]; rfl
theorem u_159_21 {X : e_X} {d : Nat} {ls st : List Value} {m : e_M} : s_j X d 159 21 ls st m = s_x X d 159 [.aload 0, .checkcast 582, .iload 1, .aaload, .astore 4, .aload 4, .sipush 0, .invokeinterface 63 2, .istore 5, .iload 5, .ifCond .eq 45, .iload 5, .ireturn] ls st m := by
  rw [s_j, s_g_eq, g_l159]; rfl
theorem u_159_45 {X : e_X} {d : Nat} {ls st : List Value} {m : e_M} : s_j X d 159 45 ls st m = s_x X d 159 [.sipush 0, .istore 6, .sipush 0, .istore 7, .jsr 51] ls st m := by
  rw [s_j, s_g_eq, g_l159]; rfl
theorem u_159_51 {X : e_X} {d : Nat} {ls st : List Value} {m : e_M} : s_j X d 159 51 ls st m = s_x X d 159 [.iload 7, .iload 3, .if_icmp .ge 127, .aload 4, .iload 2, .iload 7, .iadd, .invokeinterface 60 2, .ifCond .ne 72, .sipush (-12), .ireturn] ls st m := by
  rw [s_j, s_g_eq, g_l159]; rfl
theorem u_159_72 {X : e_X} {d : Nat} {ls st : List Value} {m : e_M} : s_j X d 159 72 ls st m = s_x X d 159 [.aload 4, .checkcast 384, .iload 2, .iload 7, .iadd, .laload, .l2i, .istore 8, .aload 0, .checkcast 576, .iload 8, .invokeinterface 105 2, .ifCond .eq 121, .aload 0, .checkcast 576, .invokeinterface 76 1, .ifCond .ne 121, .iload 6, .aload 0, .checkcast 576, .iload 8, .invokeinterface 78 2, .iadd, .istore 6, .jsr 121] ls st m := by
  rw [s_j, s_g_eq, g_l159]; rfl
theorem u_159_121 {X : e_X} {d : Nat} {ls st : List Value} {m : e_M} : s_j X d 159 121 ls st m = s_x X d 159 [.iinc 7 1, .goto 51] ls st m := by
  rw [s_j, s_g_eq, g_l159]; rfl
theorem u_159_127 {X : e_X} {d : Nat} {ls st : List Value} {m : e_M} : s_j X d 159 127 ls st m = s_x X d 159 [.iload 6, .ireturn] ls st m := by
  rw [s_j, s_g_eq, g_l159]; rfl
/-- B.wouldBe -/
theorem g_l160 (l : Nat) : g_P 160 l = (g_c160.lookup l).getD [] := rfl
theorem v_160 {X : e_X} {d : Nat} (a0 : Nat) (a1 : Int32) (a2 : Int32) (a3 : Int32) {m : e_M} : s_S X (d + 1) 160 [.ref a0, .int a1, .int a2, .int a3] m = s_j X d 160 0 [.ref a0, .int a1, .int a2, .int a3, .retAddr 0, .retAddr 0, .retAddr 0] [] m := rfl
theorem u_160_0 {X : e_X} {d : Nat} {ls st : List Value} {m : e_M} : s_j X d 160 0 ls st m = s_x X d 160 [.iload 1, .sipush 0, .sipush 3, .invokeinterface 109 3, .ifCond .ne 19, .iload 3, .sipush 0, .sipush 20, .invokeinterface 109 3, .ifCond .eq 21, .jsr 19] ls st m := by
  rw [s_j, s_g_eq, g_l160]; rfl
theorem u_160_19 {X : e_X} {d : Nat} {ls st : List Value} {m : e_M} : s_j X d 160 19 ls st m = s_x X d 160 [.sipush (-1), .ireturn] ls st m := by
  rw [s_j, s_g_eq, g_l160]; rfl
theorem u_160_21 {X : e_X} {d : Nat} {ls st : List Value} {m : e_M} : s_j X d 160 21 ls st m = s_x X d 160 [.aload 0, .checkcast 582, .iload 1, .aaload, .sipush 0, .invokeinterface 63 2, .istore 4, .iload 4, .ifCond .eq 41, .iload 4, .ireturn] ls st m := by
  rw [s_j, s_g_eq, g_l160]; rfl
theorem u_160_41 {X : e_X} {d : Nat} {ls st : List Value} {m : e_M} : s_j X d 160 41 ls st m = s_x X d 160 [.aload 0, .checkcast 576, .invokeinterface 85 1, .istore 5, .aload 0, .aload 0, .checkcast 582, .iload 1, .aaload, .iload 2, .iload 3, .invokeinterface 161 4, .istore 6, .aload 0, .checkcast 576, .iload 5, .invokeinterface 87 2, .iload 6, .ireturn] ls st m := by
  rw [s_j, s_g_eq, g_l160]; rfl
/-- B.worthOfItems -/
theorem g_l161 (l : Nat) : g_P 161 l = (g_c161.lookup l).getD [] := rfl
theorem v_161 {X : e_X} {d : Nat} (a0 : Nat) (a1 : Nat) (a2 : Int32) (a3 : Int32) {m : e_M} : s_S X (d + 1) 161 [.ref a0, .ref a1, .int a2, .int a3] m = s_j X d 161 0 [.ref a0, .ref a1, .int a2, .int a3, .retAddr 0, .retAddr 0, .retAddr 0] [] m := rfl
theorem u_161_0 {X : e_X} {d : Nat} {ls st : List Value} {m : e_M} : s_j X d 161 0 ls st m = s_x X d 161 [.sipush 0, .istore 4, .sipush 0, .istore 5, .jsr 6] ls st m := by
  rw [s_j, s_g_eq, g_l161]; rfl
theorem u_161_6 {X : e_X} {d : Nat} {ls st : List Value} {m : e_M} : s_j X d 161 6 ls st m = s_x X d 161 [.iload 5, .iload 3, .if_icmp .ge 83, .aload 1, .iload 2, .iload 5, .iadd, .invokeinterface 60 2, .ifCond .ne 26, .sipush (-12), .ireturn] ls st m := by
  rw [s_j, s_g_eq, g_l161]; rfl
theorem u_161_26 {X : e_X} {d : Nat} {ls st : List Value} {m : e_M} : s_j X d 161 26 ls st m = s_x X d 161 [.aload 1, .checkcast 384, .iload 2, .iload 5, .iadd, .laload, .l2i, .istore 6, .aload 0, .checkcast 576, .iload 6, .invokeinterface 105 2, .ifCond .eq 60, .aload 0, .checkcast 576, .invokeinterface 76 1, .ifCond .eq 63, .jsr 60] ls st m := by
  rw [s_j, s_g_eq, g_l161]; rfl
theorem u_161_60 {X : e_X} {d : Nat} {ls st : List Value} {m : e_M} : s_j X d 161 60 ls st m = s_x X d 161 [.sipush (-4), .ireturn] ls st m := by
  rw [s_j, s_g_eq, g_l161]; rfl
theorem u_161_63 {X : e_X} {d : Nat} {ls st : List Value} {m : e_M} : s_j X d 161 63 ls st m = s_x X d 161 [.iload 4, .aload 0, .checkcast 576, .iload 6, .invokeinterface 79 2, .iadd, .istore 4, .iinc 5 1, .goto 6] ls st m := by
  rw [s_j, s_g_eq, g_l161]; rfl
theorem u_161_83 {X : e_X} {d : Nat} {ls st : List Value} {m : e_M} : s_j X d 161 83 ls st m = s_x X d 161 [.iload 4, .ireturn] ls st m := by
  rw [s_j, s_g_eq, g_l161]; rfl
/-- B.shelf -/
theorem g_l162 (l : Nat) : g_P 162 l = (g_c162.lookup l).getD [] := rfl
theorem v_162 {X : e_X} {d : Nat} (a0 : Nat) (a1 : Int32) (a2 : Int32) (a3 : Int32) {m : e_M} : s_S X (d + 1) 162 [.ref a0, .int a1, .int a2, .int a3] m = s_j X d 162 0 [.ref a0, .int a1, .int a2, .int a3] [] m := rfl
theorem u_162_0 {X : e_X} {d : Nat} {ls st : List Value} {m : e_M} : s_j X d 162 0 ls st m = s_x X d 162 [.iload 1, .sipush 0, .sipush 3, .invokeinterface 109 3, .ifCond .ne 18, .iload 2, .sipush 0, .sipush 2, .invokeinterface 109 3, .ifCond .eq 20, .jsr 18] ls st m := by
  rw [s_j, s_g_eq, g_l162]; rfl
theorem u_162_18 {X : e_X} {d : Nat} {ls st : List Value} {m : e_M} : s_j X d 162 18 ls st m = s_x X d 162 [.sipush (-1), .ireturn] ls st m := by
  rw [s_j, s_g_eq, g_l162]; rfl
theorem u_162_20 {X : e_X} {d : Nat} {ls st : List Value} {m : e_M} : s_j X d 162 20 ls st m = s_x X d 162 [.iload 2, .ifCond .ne 37, .aload 0, .checkcast 576, .iload 3, .invokeinterface 69 2, .ifCond .ne 37, .sipush (-1), .ireturn] ls st m := by
  rw [s_j, s_g_eq, g_l162]; rfl
theorem u_162_37 {X : e_X} {d : Nat} {ls st : List Value} {m : e_M} : s_j X d 162 37 ls st m = s_x X d 162 [.iload 2, .sipush 1, .if_icmp .ne 53, .iload 3, .sipush 0, .sipush 3, .invokeinterface 109 3, .ifCond .eq 53, .sipush (-1), .ireturn] ls st m := by
  rw [s_j, s_g_eq, g_l162]; rfl
theorem u_162_53 {X : e_X} {d : Nat} {ls st : List Value} {m : e_M} : s_j X d 162 53 ls st m = s_x X d 162 [.iload 2, .sipush 1, .if_icmp .ne 88, .aload 0, .checkcast 583, .iload 1, .aaload, .aload 0, .checkcast 582, .iload 3, .aaload, .getfield 385, .aload 0, .checkcast 582, .iload 3, .aaload, .getfield 386, .invokeinterface 65 3, .goto 99] ls st m := by
  rw [s_j, s_g_eq, g_l162]; rfl
theorem u_162_88 {X : e_X} {d : Nat} {ls st : List Value} {m : e_M} : s_j X d 162 88 ls st m = s_x X d 162 [.aload 0, .checkcast 583, .iload 1, .aaload, .iload 2, .iload 3, .invokeinterface 66 3, .jsr 99] ls st m := by
  rw [s_j, s_g_eq, g_l162]; rfl
theorem u_162_99 {X : e_X} {d : Nat} {ls st : List Value} {m : e_M} : s_j X d 162 99 ls st m = s_x X d 162 [.sipush 1, .ireturn] ls st m := by
  rw [s_j, s_g_eq, g_l162]; rfl
/-- B.taken -/
theorem g_l163 (l : Nat) : g_P 163 l = (g_c163.lookup l).getD [] := rfl
theorem v_163 {X : e_X} {d : Nat} (a0 : Nat) (a1 : Int32) (a2 : Int32) {m : e_M} : s_S X (d + 1) 163 [.ref a0, .int a1, .int a2] m = s_j X d 163 0 [.ref a0, .int a1, .int a2, .retAddr 0, .retAddr 0, .retAddr 0, .retAddr 0] [] m := rfl
theorem u_163_0 {X : e_X} {d : Nat} {ls st : List Value} {m : e_M} : s_j X d 163 0 ls st m = s_x X d 163 [.iload 2, .sipush 0, .sipush 5, .invokeinterface 109 3, .ifCond .ne 13, .sipush 1, .goto 14] ls st m := by
  rw [s_j, s_g_eq, g_l163]; rfl
theorem u_163_13 {X : e_X} {d : Nat} {ls st : List Value} {m : e_M} : s_j X d 163 13 ls st m = s_x X d 163 [.sipush 0, .jsr 14] ls st m := by
  rw [s_j, s_g_eq, g_l163]; rfl
theorem u_163_14 {X : e_X} {d : Nat} {ls st : List Value} {m : e_M} : s_j X d 163 14 ls st m = s_x X d 163 [.istore 3, .iload 2, .sipush 10, .sipush 14, .invokeinterface 109 3, .ifCond .ne 30, .sipush 1, .goto 31] ls st m := by
  rw [s_j, s_g_eq, g_l163]; rfl
theorem u_163_30 {X : e_X} {d : Nat} {ls st : List Value} {m : e_M} : s_j X d 163 30 ls st m = s_x X d 163 [.sipush 0, .jsr 31] ls st m := by
  rw [s_j, s_g_eq, g_l163]; rfl
theorem u_163_31 {X : e_X} {d : Nat} {ls st : List Value} {m : e_M} : s_j X d 163 31 ls st m = s_x X d 163 [.istore 4, .iload 1, .sipush 0, .sipush 3, .invokeinterface 109 3, .ifCond .ne 51, .iload 3, .ifCond .ne 53, .iload 4, .ifCond .ne 53, .jsr 51] ls st m := by
  rw [s_j, s_g_eq, g_l163]; rfl
theorem u_163_51 {X : e_X} {d : Nat} {ls st : List Value} {m : e_M} : s_j X d 163 51 ls st m = s_x X d 163 [.sipush (-1), .ireturn] ls st m := by
  rw [s_j, s_g_eq, g_l163]; rfl
theorem u_163_53 {X : e_X} {d : Nat} {ls st : List Value} {m : e_M} : s_j X d 163 53 ls st m = s_x X d 163 [.aload 0, .checkcast 583, .iload 1, .aaload, .astore 5, .aload 0, .aload 5, .invokeinterface 164 2, .istore 6, .iload 6, .sipush 2, .if_icmp .ne 78, .sipush (-11), .ireturn] ls st m := by
  rw [s_j, s_g_eq, g_l163]; rfl
theorem u_163_78 {X : e_X} {d : Nat} {ls st : List Value} {m : e_M} : s_j X d 163 78 ls st m = s_x X d 163 [.iload 6, .sipush 1, .if_icmp .ne 112, .iload 4, .ifCond .eq 109, .aload 5, .getfield 450, .iload 2, .sipush 10, .isub, .if_icmp .ne 109, .aload 5, .getfield 451, .goto 111] ls st m := by
  rw [s_j, s_g_eq, g_l163]; rfl
theorem u_163_109 {X : e_X} {d : Nat} {ls st : List Value} {m : e_M} : s_j X d 163 109 ls st m = s_x X d 163 [.sipush (-13), .jsr 111] ls st m := by
  rw [s_j, s_g_eq, g_l163]; rfl
theorem u_163_111 {X : e_X} {d : Nat} {ls st : List Value} {m : e_M} : s_j X d 163 111 ls st m = s_x X d 163 [.ireturn] ls st m := by
  rw [s_j, s_g_eq, g_l163]; rfl
theorem u_163_112 {X : e_X} {d : Nat} {ls st : List Value} {m : e_M} : s_j X d 163 112 ls st m = s_x X d 163 [.iload 3, .ifCond .eq 144, .aload 0, .checkcast 576, .checkcast 512, .aload 5, .getfield 449, .iaload, .iload 2, .invokeinterface 112 2, .ifCond .eq 144, .aload 5, .getfield 449, .goto 146] ls st m := by
  rw [s_j, s_g_eq, g_l163]; rfl
theorem u_163_144 {X : e_X} {d : Nat} {ls st : List Value} {m : e_M} : s_j X d 163 144 ls st m = s_x X d 163 [.sipush (-13), .jsr 146] ls st m := by
  rw [s_j, s_g_eq, g_l163]; rfl
theorem u_163_146 {X : e_X} {d : Nat} {ls st : List Value} {m : e_M} : s_j X d 163 146 ls st m = s_x X d 163 [.ireturn] ls st m := by
  rw [s_j, s_g_eq, g_l163]; rfl
/-- B.heldOn -/
theorem g_l164 (l : Nat) : g_P 164 l = (g_c164.lookup l).getD [] := rfl
theorem v_164 {X : e_X} {d : Nat} (a0 : Nat) (a1 : Nat) {m : e_M} : s_S X (d + 1) 164 [.ref a0, .ref a1] m = s_j X d 164 0 [.ref a0, .ref a1] [] m := rfl
theorem u_164_0 {X : e_X} {d : Nat} {ls st : List Value} {m : e_M} : s_j X d 164 0 ls st m = s_x X d 164 [.aload 1, .getfield 448, .ifCond .ne 23, .aload 0, .checkcast 576, .aload 1, .getfield 449, .invokeinterface 69 2, .ifCond .ne 23, .sipush 2, .ireturn] ls st m := by
  rw [s_j, s_g_eq, g_l164]; rfl
theorem u_164_23 {X : e_X} {d : Nat} {ls st : List Value} {m : e_M} : s_j X d 164 23 ls st m = s_x X d 164 [.aload 1, .getfield 448, .ireturn] ls st m := by
  rw [s_j, s_g_eq, g_l164]; rfl
/-- B.act -/
theorem g_l165 (l : Nat) : g_P 165 l = (g_c165.lookup l).getD [] := rfl
theorem v_165 {X : e_X} {d : Nat} (a0 : Nat) (a1 : Int32) (a2 : Int32) (a3 : Int32) {m : e_M} : s_S X (d + 1) 165 [.ref a0, .int a1, .int a2, .int a3] m = s_j X d 165 0 [.ref a0, .int a1, .int a2, .int a3, .retAddr 0] [] m := rfl
theorem u_165_0 {X : e_X} {d : Nat} {ls st : List Value} {m : e_M} : s_j X d 165 0 ls st m = s_x X d 165 [.aload 0, .checkcast 584, .sipush 0, .putfield 1, .iload 1, .sipush 0, .sipush 3, .invokeinterface 109 3, .ifCond .ne 26, .iload 2, .sipush 0, .sipush 3, .invokeinterface 109 3, .ifCond .eq 28, .jsr 26] ls st m := by
  rw [s_j, s_g_eq, g_l165]; rfl
theorem u_165_26 {X : e_X} {d : Nat} {ls st : List Value} {m : e_M} : s_j X d 165 26 ls st m = s_x X d 165 [.sipush 0, .ireturn] ls st m := by
  rw [s_j, s_g_eq, g_l165]; rfl
theorem u_165_28 {X : e_X} {d : Nat} {ls st : List Value} {m : e_M} : s_j X d 165 28 ls st m = s_x X d 165 [.aload 0, .aload 0, .checkcast 583, .iload 1, .aaload, .invokeinterface 164 2, .ifCond .eq 43, .sipush 0, .ireturn] ls st m := by
  rw [s_j, s_g_eq, g_l165]; rfl
theorem u_165_43 {X : e_X} {d : Nat} {ls st : List Value} {m : e_M} : s_j X d 165 43 ls st m = s_x X d 165 [.aload 0, .checkcast 583, .iload 1, .aaload, .getfield 449, .istore 4, .aload 0, .checkcast 584, .aload 0, .checkcast 576, .checkcast 512, .iload 4, .iaload, .iload 4, .aload 0, .checkcast 576, .checkcast 515, .iload 4, .iaload, .invokeinterface 1 4, .aload 0, .checkcast 584, .iload 2, .iload 3, .invokeinterface 2 3, .ireturn] ls st m := by
  rw [s_j, s_g_eq, g_l165]; rfl
/-- B.trace -/
theorem g_l166 (l : Nat) : g_P 166 l = (g_c166.lookup l).getD [] := rfl
theorem v_166 {X : e_X} {d : Nat} (a0 : Nat) (a1 : Int32) {m : e_M} : s_S X (d + 1) 166 [.ref a0, .int a1] m = s_j X d 166 0 [.ref a0, .int a1] [] m := rfl
theorem u_166_0 {X : e_X} {d : Nat} {ls st : List Value} {m : e_M} : s_j X d 166 0 ls st m = s_x X d 166 [.iload 1, .sipush 0, .aload 0, .checkcast 584, .getfield 1, .sipush 1, .isub, .invokeinterface 109 3, .ifCond .eq 22, .sipush (-3), .goto 31] ls st m := by
  rw [s_j, s_g_eq, g_l166]; rfl
theorem u_166_22 {X : e_X} {d : Nat} {ls st : List Value} {m : e_M} : s_j X d 166 22 ls st m = s_x X d 166 [.aload 0, .checkcast 584, .checkcast 0, .iload 1, .iaload, .jsr 31] ls st m := by
  rw [s_j, s_g_eq, g_l166]; rfl
theorem u_166_31 {X : e_X} {d : Nat} {ls st : List Value} {m : e_M} : s_j X d 166 31 ls st m = s_x X d 166 [.ireturn] ls st m := by
  rw [s_j, s_g_eq, g_l166]; rfl
/-- B.many -/
theorem g_l167 (l : Nat) : g_P 167 l = (g_c167.lookup l).getD [] := rfl
theorem v_167 {X : e_X} {d : Nat} (a0 : Nat) (a1 : Int32) {m : e_M} : s_S X (d + 1) 167 [.ref a0, .int a1] m = s_j X d 167 0 [.ref a0, .int a1] [] m := rfl
theorem u_167_0 {X : e_X} {d : Nat} {ls st : List Value} {m : e_M} : s_j X d 167 0 ls st m = s_x X d 167 [.iload 1, .lookupswitch 109 #[(0, 44), (1, 52), (2, 63), (3, 74), (4, 85), (5, 93), (6, 101)]] ls st m := by
  rw [s_j, s_g_eq, g_l167]; rfl
theorem u_167_44 {X : e_X} {d : Nat} {ls st : List Value} {m : e_M} : s_j X d 167 44 ls st m = s_x X d 167 [.aload 0, .checkcast 576, .getfield 521, .ireturn] ls st m := by
  rw [s_j, s_g_eq, g_l167]; rfl
theorem u_167_52 {X : e_X} {d : Nat} {ls st : List Value} {m : e_M} : s_j X d 167 52 ls st m = s_x X d 167 [.aload 0, .checkcast 576, .checkcast 519, .getfield 69, .ireturn] ls st m := by
  rw [s_j, s_g_eq, g_l167]; rfl
theorem u_167_63 {X : e_X} {d : Nat} {ls st : List Value} {m : e_M} : s_j X d 167 63 ls st m = s_x X d 167 [.aload 0, .checkcast 576, .getfield 522, .invokeinterface 300 1, .ireturn] ls st m := by
  rw [s_j, s_g_eq, g_l167]; rfl
theorem u_167_74 {X : e_X} {d : Nat} {ls st : List Value} {m : e_M} : s_j X d 167 74 ls st m = s_x X d 167 [.aload 0, .checkcast 576, .checkcast 520, .getfield 260, .ireturn] ls st m := by
  rw [s_j, s_g_eq, g_l167]; rfl
theorem u_167_85 {X : e_X} {d : Nat} {ls st : List Value} {m : e_M} : s_j X d 167 85 ls st m = s_x X d 167 [.aload 0, .checkcast 581, .getfield 322, .ireturn] ls st m := by
  rw [s_j, s_g_eq, g_l167]; rfl
theorem u_167_93 {X : e_X} {d : Nat} {ls st : List Value} {m : e_M} : s_j X d 167 93 ls st m = s_x X d 167 [.aload 0, .checkcast 579, .getfield 194, .ireturn] ls st m := by
  rw [s_j, s_g_eq, g_l167]; rfl
theorem u_167_101 {X : e_X} {d : Nat} {ls st : List Value} {m : e_M} : s_j X d 167 101 ls st m = s_x X d 167 [.aload 0, .checkcast 584, .getfield 1, .ireturn] ls st m := by
  rw [s_j, s_g_eq, g_l167]; rfl
theorem u_167_109 {X : e_X} {d : Nat} {ls st : List Value} {m : e_M} : s_j X d 167 109 ls st m = s_x X d 167 [.sipush (-1), .ireturn] ls st m := by
  rw [s_j, s_g_eq, g_l167]; rfl
/-- B.keep -/
theorem g_l168 (l : Nat) : g_P 168 l = (g_c168.lookup l).getD [] := rfl
theorem v_168 {X : e_X} {d : Nat} (a0 : Nat) {m : e_M} : s_S X (d + 1) 168 [.ref a0] m = s_j X d 168 0 [.ref a0] [] m := rfl
theorem u_168_0 {X : e_X} {d : Nat} {ls st : List Value} {m : e_M} : s_j X d 168 0 ls st m = s_x X d 168 [.aload 0, .checkcast 577, .aload 0, .checkcast 576, .invokeinterface 106 2, .aload 0, .sipush 1, .putfield 578, .sipush 1, .ireturn] ls st m := by
  rw [s_j, s_g_eq, g_l168]; rfl
/-- B.again -/
theorem g_l169 (l : Nat) : g_P 169 l = (g_c169.lookup l).getD [] := rfl
theorem v_169 {X : e_X} {d : Nat} (a0 : Nat) {m : e_M} : s_S X (d + 1) 169 [.ref a0] m = s_j X d 169 0 [.ref a0] [] m := rfl
theorem u_169_0 {X : e_X} {d : Nat} {ls st : List Value} {m : e_M} : s_j X d 169 0 ls st m = s_x X d 169 [.aload 0, .getfield 578, .ifCond .ne 10, .sipush (-3), .ireturn] ls st m := by
  rw [s_j, s_g_eq, g_l169]; rfl
theorem u_169_10 {X : e_X} {d : Nat} {ls st : List Value} {m : e_M} : s_j X d 169 10 ls st m = s_x X d 169 [.aload 0, .checkcast 576, .aload 0, .checkcast 577, .invokeinterface 106 2, .aload 0, .checkcast 576, .getfield 521, .ireturn] ls st m := by
  rw [s_j, s_g_eq, g_l169]; rfl
/-- M.feed -/
theorem g_l171 (l : Nat) : g_P 171 l = (g_c171.lookup l).getD [] := rfl
theorem v_171 {X : e_X} {d : Nat} (a0 : Nat) (a1 : Int64) (a2 : Int32) {m : e_M} : s_S X (d + 1) 171 [.ref a0, .long a1, .int a2] m = s_j X d 171 0 [.ref a0, .long a1, .retAddr 0, .int a2, .retAddr 0] [] m := rfl
theorem u_171_0 {X : e_X} {d : Nat} {ls st : List Value} {m : e_M} : s_j X d 171 0 ls st m = s_x X d 171 [.iload 3, .sipush 1, .sipush 8, .invokeinterface 172 3, .ifCond .ne 12, .sipush (-1), .ireturn] ls st m := by
  rw [s_j, s_g_eq, g_l171]; rfl
theorem u_171_12 {X : e_X} {d : Nat} {ls st : List Value} {m : e_M} : s_j X d 171 12 ls st m = s_x X d 171 [.aload 0, .getfield 646, .iload 3, .iadd, .sipush 200, .if_icmp .le 27, .sipush (-2), .ireturn] ls st m := by
  rw [s_j, s_g_eq, g_l171]; rfl
theorem u_171_27 {X : e_X} {d : Nat} {ls st : List Value} {m : e_M} : s_j X d 171 27 ls st m = s_x X d 171 [.sipush 0, .istore 4, .jsr 30] ls st m := by
  rw [s_j, s_g_eq, g_l171]; rfl
theorem u_171_30 {X : e_X} {d : Nat} {ls st : List Value} {m : e_M} : s_j X d 171 30 ls st m = s_x X d 171 [.iload 4, .iload 3, .if_icmp .ge 73, .aload 0, .checkcast 645, .aload 0, .getfield 646, .lload 1, .sipush 8, .iload 4, .imul, .lshr, .goto_w 255, .land, .l2i, .iastore, .aload 0, .dup, .getfield 646, .sipush 1, .iadd, .putfield 646, .iinc 4 1, .goto 30] ls st m := by
  rw [s_j, s_g_eq, g_l171]; rfl
theorem u_171_73 {X : e_X} {d : Nat} {ls st : List Value} {m : e_M} : s_j X d 171 73 ls st m = s_x X d 171 [.aload 0, .getfield 646, .ireturn] ls st m := by
  rw [s_j, s_g_eq, g_l171]; rfl
/-- M.in1 -/
theorem g_l172 (l : Nat) : g_P 172 l = (g_c172.lookup l).getD [] := rfl
theorem v_172 {X : e_X} {d : Nat} (a0 : Int32) (a1 : Int32) (a2 : Int32) {m : e_M} : s_S X (d + 1) 172 [.int a0, .int a1, .int a2] m = s_j X d 172 0 [.int a0, .int a1, .int a2] [] m := rfl
theorem u_172_0 {X : e_X} {d : Nat} {ls st : List Value} {m : e_M} : s_j X d 172 0 ls st m = s_x X d 172 [.iload 0, .iload 1, .if_icmp .lt 14, .iload 0, .iload 2, .if_icmp .gt 14, .sipush 1, .goto 15] ls st m := by
  rw [s_j, s_g_eq, g_l172]; rfl
theorem u_172_14 {X : e_X} {d : Nat} {ls st : List Value} {m : e_M} : s_j X d 172 14 ls st m = s_x X d 172 [.sipush 0, .jsr 15] ls st m := by
  rw [s_j, s_g_eq, g_l172]; rfl
theorem u_172_15 {X : e_X} {d : Nat} {ls st : List Value} {m : e_M} : s_j X d 172 15 ls st m = s_x X d 172 [.ireturn] ls st m := by
  rw [s_j, s_g_eq, g_l172]; rfl
/-- M.rules -/
theorem g_l173 (l : Nat) : g_P 173 l = (g_c173.lookup l).getD [] := rfl
theorem v_173 {X : e_X} {d : Nat} (a0 : Nat) {m : e_M} : s_S X (d + 1) 173 [.ref a0] m = s_j X d 173 0 [.ref a0, .retAddr 0, .retAddr 0, .retAddr 0] [] m := rfl
theorem u_173_0 {X : e_X} {d : Nat} {ls st : List Value} {m : e_M} : s_j X d 173 0 ls st m = s_x X d 173 [.aload 0, .sipush 0, .putfield 648, .aload 0, .sipush 0, .putfield 653, .sipush 0, .istore 1, .aload 0, .invokeinterface 174 1, .sipush 1, .istore 2, .jsr 18] ls st m := by
  rw [s_j, s_g_eq, g_l173]; rfl
theorem u_173_18 {X : e_X} {d : Nat} {ls st : List Value} {m : e_M} : s_j X d 173 18 ls st m = s_x X d 173 [.iload 2, .ifCond .eq 42, .aload 0, .getfield 650, .sipush (-1), .if_icmp .eq 42, .aload 0, .iload 1, .invokeinterface 179 2, .istore 2, .iinc 1 1, .goto 18] ls st m := by
  rw [s_j, s_g_eq, g_l173]; rfl
theorem u_173_42 {X : e_X} {d : Nat} {ls st : List Value} {m : e_M} : s_j X d 173 42 ls st m = s_x X d 173 [.aload 0, .sipush 0, .putfield 646, .iload 2, .ifCond .ne 59, .sipush (-100), .aload 0, .getfield 649, .isub, .ireturn] ls st m := by
  rw [s_j, s_g_eq, g_l173]; rfl
theorem u_173_59 {X : e_X} {d : Nat} {ls st : List Value} {m : e_M} : s_j X d 173 59 ls st m = s_x X d 173 [.aload 0, .checkcast 640, .sipush 7, .iload 1, .iastore, .sipush 0, .istore 3, .jsr 69] ls st m := by
  rw [s_j, s_g_eq, g_l173]; rfl
theorem u_173_69 {X : e_X} {d : Nat} {ls st : List Value} {m : e_M} : s_j X d 173 69 ls st m = s_x X d 173 [.iload 3, .sipush 3, .iload 1, .imul, .if_icmp .ge 97, .aload 0, .checkcast 640, .sipush 98, .iload 3, .iadd, .aload 0, .checkcast 655, .iload 3, .iaload, .iastore, .iinc 3 1, .goto 69] ls st m := by
  rw [s_j, s_g_eq, g_l173]; rfl
theorem u_173_97 {X : e_X} {d : Nat} {ls st : List Value} {m : e_M} : s_j X d 173 97 ls st m = s_x X d 173 [.sipush 0, .istore 3, .jsr 99] ls st m := by
  rw [s_j, s_g_eq, g_l173]; rfl
theorem u_173_99 {X : e_X} {d : Nat} {ls st : List Value} {m : e_M} : s_j X d 173 99 ls st m = s_x X d 173 [.iload 3, .aload 0, .getfield 653, .if_icmp .ge 128, .aload 0, .checkcast 640, .sipush 122, .iload 3, .iadd, .aload 0, .checkcast 654, .iload 3, .iaload, .iastore, .iinc 3 1, .goto 99] ls st m := by
  rw [s_j, s_g_eq, g_l173]; rfl
theorem u_173_128 {X : e_X} {d : Nat} {ls st : List Value} {m : e_M} : s_j X d 173 128 ls st m = s_x X d 173 [.iload 1, .ireturn] ls st m := by
  rw [s_j, s_g_eq, g_l173]; rfl
/-- M.next -/
theorem g_l174 (l : Nat) : g_P 174 l = (g_c174.lookup l).getD [] := rfl
theorem v_174 {X : e_X} {d : Nat} (a0 : Nat) {m : e_M} : s_S X (d + 1) 174 [.ref a0] m = s_j X d 174 0 [.ref a0, .retAddr 0] [] m := rfl
theorem u_174_0 {X : e_X} {d : Nat} {ls st : List Value} {m : e_M} : s_j X d 174 0 ls st m = s_x X d 174 [.aload 0, .aload 0, .getfield 648, .invokeinterface 175 2, .sipush 32, .if_icmp .ne 26, .aload 0, .dup, .getfield 648, .sipush 1, .iadd, .putfield 648, .goto 0] ls st m := by
  rw [s_j, s_g_eq, g_l174]; rfl
theorem u_174_26 {X : e_X} {d : Nat} {ls st : List Value} {m : e_M} : s_j X d 174 26 ls st m = s_x X d 174 [.aload 0, .aload 0, .getfield 648, .putfield 649, .aload 0, .aload 0, .getfield 648, .invokeinterface 175 2, .istore 1, .iload 1, .ifCond .ge 55, .aload 0, .sipush (-1), .putfield 650, .goto 110] ls st m := by
  rw [s_j, s_g_eq, g_l174]; rfl
theorem u_174_55 {X : e_X} {d : Nat} {ls st : List Value} {m : e_M} : s_j X d 174 55 ls st m = s_x X d 174 [.iload 1, .sipush 97, .sipush 122, .invokeinterface 172 3, .ifCond .eq 73, .aload 0, .invokeinterface 176 1, .goto 110] ls st m := by
  rw [s_j, s_g_eq, g_l174]; rfl
theorem u_174_73 {X : e_X} {d : Nat} {ls st : List Value} {m : e_M} : s_j X d 174 73 ls st m = s_x X d 174 [.iload 1, .sipush 48, .sipush 57, .invokeinterface 172 3, .ifCond .eq 91, .aload 0, .invokeinterface 178 1, .goto 110] ls st m := by
  rw [s_j, s_g_eq, g_l174]; rfl
theorem u_174_91 {X : e_X} {d : Nat} {ls st : List Value} {m : e_M} : s_j X d 174 91 ls st m = s_x X d 174 [.aload 0, .sipush 200, .iload 1, .iadd, .putfield 650, .aload 0, .dup, .getfield 648, .sipush 1, .iadd, .putfield 648, .jsr 110] ls st m := by
  rw [s_j, s_g_eq, g_l174]; rfl
theorem u_174_110 {X : e_X} {d : Nat} {ls st : List Value} {m : e_M} : s_j X d 174 110 ls st m = s_x X d 174 [.return_] ls st m := by
  rw [s_j, s_g_eq, g_l174]; rfl
/-- M.byteAt -/
theorem g_l175 (l : Nat) : g_P 175 l = (g_c175.lookup l).getD [] := rfl
theorem v_175 {X : e_X} {d : Nat} (a0 : Nat) (a1 : Int32) {m : e_M} : s_S X (d + 1) 175 [.ref a0, .int a1] m = s_j X d 175 0 [.ref a0, .int a1] [] m := rfl
theorem u_175_0 {X : e_X} {d : Nat} {ls st : List Value} {m : e_M} : s_j X d 175 0 ls st m = s_x X d 175 [.iload 1, .aload 0, .getfield 646, .if_icmp .ge 17, .aload 0, .checkcast 645, .iload 1, .iaload, .goto 18] ls st m := by
  rw [s_j, s_g_eq, g_l175]; rfl
theorem u_175_17 {X : e_X} {d : Nat} {ls st : List Value} {m : e_M} : s_j X d 175 17 ls st m = s_x X d 175 [.sipush (-1), .jsr 18] ls st m := by
  rw [s_j, s_g_eq, g_l175]; rfl
theorem u_175_18 {X : e_X} {d : Nat} {ls st : List Value} {m : e_M} : s_j X d 175 18 ls st m = s_x X d 175 [.ireturn] ls st m := by
  rw [s_j, s_g_eq, g_l175]; rfl
/-- M.readsName -/
theorem g_l176 (l : Nat) : g_P 176 l = (g_c176.lookup l).getD [] := rfl
theorem v_176 {X : e_X} {d : Nat} (a0 : Nat) {m : e_M} : s_S X (d + 1) 176 [.ref a0] m = s_j X d 176 0 [.ref a0, .retAddr 0] [] m := rfl
theorem u_176_0 {X : e_X} {d : Nat} {ls st : List Value} {m : e_M} : s_j X d 176 0 ls st m = s_x X d 176 [.aload 0, .aload 0, .getfield 648, .invokeinterface 175 2, .sipush 97, .sipush 122, .invokeinterface 172 3, .ifCond .eq 31, .aload 0, .dup, .getfield 648, .sipush 1, .iadd, .putfield 648, .goto 0] ls st m := by
  rw [s_j, s_g_eq, g_l176]; rfl
theorem u_176_31 {X : e_X} {d : Nat} {ls st : List Value} {m : e_M} : s_j X d 176 31 ls st m = s_x X d 176 [.aload 0, .sipush 101, .putfield 650, .sipush 0, .istore 1, .jsr 39] ls st m := by
  rw [s_j, s_g_eq, g_l176]; rfl
theorem u_176_39 {X : e_X} {d : Nat} {ls st : List Value} {m : e_M} : s_j X d 176 39 ls st m = s_x X d 176 [.iload 1, .sipush 18, .if_icmp .ge 71, .aload 0, .aload 0, .iload 1, .invokeinterface 177 2, .ifCond .eq 58, .iload 1, .goto 62] ls st m := by
  rw [s_j, s_g_eq, g_l176]; rfl
theorem u_176_58 {X : e_X} {d : Nat} {ls st : List Value} {m : e_M} : s_j X d 176 58 ls st m = s_x X d 176 [.aload 0, .getfield 650, .jsr 62] ls st m := by
  rw [s_j, s_g_eq, g_l176]; rfl
theorem u_176_62 {X : e_X} {d : Nat} {ls st : List Value} {m : e_M} : s_j X d 176 62 ls st m = s_x X d 176 [.putfield 650, .iinc 1 1, .goto 39] ls st m := by
  rw [s_j, s_g_eq, g_l176]; rfl
theorem u_176_71 {X : e_X} {d : Nat} {ls st : List Value} {m : e_M} : s_j X d 176 71 ls st m = s_x X d 176 [.return_] ls st m := by
  rw [s_j, s_g_eq, g_l176]; rfl
/-- M.isNameOf -/
theorem g_l177 (l : Nat) : g_P 177 l = (g_c177.lookup l).getD [] := rfl
theorem v_177 {X : e_X} {d : Nat} (a0 : Nat) (a1 : Int32) {m : e_M} : s_S X (d + 1) 177 [.ref a0, .int a1] m = s_j X d 177 0 [.ref a0, .int a1, .retAddr 0, .retAddr 0] [] m := rfl
theorem u_177_0 {X : e_X} {d : Nat} {ls st : List Value} {m : e_M} : s_j X d 177 0 ls st m = s_x X d 177 [.aload 0, .getfield 648, .aload 0, .getfield 649, .isub, .sipush 8, .if_icmp .gt 18, .sipush 1, .goto 19] ls st m := by
  rw [s_j, s_g_eq, g_l177]; rfl
theorem u_177_18 {X : e_X} {d : Nat} {ls st : List Value} {m : e_M} : s_j X d 177 18 ls st m = s_x X d 177 [.sipush 0, .jsr 19] ls st m := by
  rw [s_j, s_g_eq, g_l177]; rfl
theorem u_177_19 {X : e_X} {d : Nat} {ls st : List Value} {m : e_M} : s_j X d 177 19 ls st m = s_x X d 177 [.istore 2, .sipush 0, .istore 3, .jsr 22] ls st m := by
  rw [s_j, s_g_eq, g_l177]; rfl
theorem u_177_22 {X : e_X} {d : Nat} {ls st : List Value} {m : e_M} : s_j X d 177 22 ls st m = s_x X d 177 [.iload 3, .sipush 8, .if_icmp .ge 86, .iload 2, .ifCond .eq 86, .aload 0, .checkcast 647, .sipush 8, .iload 1, .imul, .iload 3, .iadd, .caload, .aload 0, .getfield 649, .iload 3, .iadd, .aload 0, .getfield 648, .if_icmp .ge 69, .aload 0, .aload 0, .getfield 649, .iload 3, .iadd, .invokeinterface 175 2, .goto 71] ls st m := by
  rw [s_j, s_g_eq, g_l177]; rfl
theorem u_177_69 {X : e_X} {d : Nat} {ls st : List Value} {m : e_M} : s_j X d 177 69 ls st m = s_x X d 177 [.sipush 32, .jsr 71] ls st m := by
  rw [s_j, s_g_eq, g_l177]; rfl
theorem u_177_71 {X : e_X} {d : Nat} {ls st : List Value} {m : e_M} : s_j X d 177 71 ls st m = s_x X d 177 [.if_icmp .ne 78, .sipush 1, .goto 79] ls st m := by
  rw [s_j, s_g_eq, g_l177]; rfl
theorem u_177_78 {X : e_X} {d : Nat} {ls st : List Value} {m : e_M} : s_j X d 177 78 ls st m = s_x X d 177 [.sipush 0, .jsr 79] ls st m := by
  rw [s_j, s_g_eq, g_l177]; rfl
theorem u_177_79 {X : e_X} {d : Nat} {ls st : List Value} {m : e_M} : s_j X d 177 79 ls st m = s_x X d 177 [.istore 2, .iinc 3 1, .goto 22] ls st m := by
  rw [s_j, s_g_eq, g_l177]; rfl
theorem u_177_86 {X : e_X} {d : Nat} {ls st : List Value} {m : e_M} : s_j X d 177 86 ls st m = s_x X d 177 [.iload 2, .ireturn] ls st m := by
  rw [s_j, s_g_eq, g_l177]; rfl
/-- M.readsNumber -/
theorem g_l178 (l : Nat) : g_P 178 l = (g_c178.lookup l).getD [] := rfl
theorem v_178 {X : e_X} {d : Nat} (a0 : Nat) {m : e_M} : s_S X (d + 1) 178 [.ref a0] m = s_j X d 178 0 [.ref a0] [] m := rfl
theorem u_178_0 {X : e_X} {d : Nat} {ls st : List Value} {m : e_M} : s_j X d 178 0 ls st m = s_x X d 178 [.aload 0, .sipush 0, .putfield 651, .jsr 5] ls st m := by
  rw [s_j, s_g_eq, g_l178]; rfl
theorem u_178_5 {X : e_X} {d : Nat} {ls st : List Value} {m : e_M} : s_j X d 178 5 ls st m = s_x X d 178 [.aload 0, .aload 0, .getfield 648, .invokeinterface 175 2, .sipush 48, .sipush 57, .invokeinterface 172 3, .ifCond .eq 79, .aload 0, .aload 0, .getfield 648, .aload 0, .getfield 649, .isub, .sipush 4, .if_icmp .ge 59, .sipush 10, .aload 0, .getfield 651, .imul, .aload 0, .aload 0, .getfield 648, .invokeinterface 175 2, .iadd, .sipush 48, .isub, .goto 63] ls st m := by
  rw [s_j, s_g_eq, g_l178]; rfl
theorem u_178_59 {X : e_X} {d : Nat} {ls st : List Value} {m : e_M} : s_j X d 178 59 ls st m = s_x X d 178 [.aload 0, .getfield 651, .jsr 63] ls st m := by
  rw [s_j, s_g_eq, g_l178]; rfl
theorem u_178_63 {X : e_X} {d : Nat} {ls st : List Value} {m : e_M} : s_j X d 178 63 ls st m = s_x X d 178 [.putfield 651, .aload 0, .dup, .getfield 648, .sipush 1, .iadd, .putfield 648, .goto 5] ls st m := by
  rw [s_j, s_g_eq, g_l178]; rfl
theorem u_178_79 {X : e_X} {d : Nat} {ls st : List Value} {m : e_M} : s_j X d 178 79 ls st m = s_x X d 178 [.aload 0, .aload 0, .getfield 648, .aload 0, .getfield 649, .isub, .sipush 4, .if_icmp .le 98, .sipush 101, .goto 100] ls st m := by
  rw [s_j, s_g_eq, g_l178]; rfl
theorem u_178_98 {X : e_X} {d : Nat} {ls st : List Value} {m : e_M} : s_j X d 178 98 ls st m = s_x X d 178 [.sipush 100, .jsr 100] ls st m := by
  rw [s_j, s_g_eq, g_l178]; rfl
theorem u_178_100 {X : e_X} {d : Nat} {ls st : List Value} {m : e_M} : s_j X d 178 100 ls st m = s_x X d 178 [.putfield 650, .return_] ls st m := by
  rw [s_j, s_g_eq, g_l178]; rfl
/-- M.readsRule -/
theorem g_l179 (l : Nat) : g_P 179 l = (g_c179.lookup l).getD [] := rfl
theorem v_179 {X : e_X} {d : Nat} (a0 : Nat) (a1 : Int32) {m : e_M} : s_S X (d + 1) 179 [.ref a0, .int a1] m = s_j X d 179 0 [.ref a0, .int a1] [] m := rfl
theorem u_179_0 {X : e_X} {d : Nat} {ls st : List Value} {m : e_M} : s_j X d 179 0 ls st m = s_x X d 179 [.iload 1, .sipush 8, .if_icmp .eq 18, .aload 0, .getfield 650, .sipush 0, .sipush 5, .invokeinterface 172 3, .ifCond .ne 20, .jsr 18] ls st m := by
  rw [s_j, s_g_eq, g_l179]; rfl
theorem u_179_18 {X : e_X} {d : Nat} {ls st : List Value} {m : e_M} : s_j X d 179 18 ls st m = s_x X d 179 [.sipush 0, .ireturn] ls st m := by
  rw [s_j, s_g_eq, g_l179]; rfl
theorem u_179_20 {X : e_X} {d : Nat} {ls st : List Value} {m : e_M} : s_j X d 179 20 ls st m = s_x X d 179 [.aload 0, .checkcast 655, .sipush 3, .iload 1, .imul, .aload 0, .getfield 650, .iastore, .aload 0, .invokeinterface 174 1, .aload 0, .sipush 0, .putfield 652, .aload 0, .sipush 9, .invokeinterface 180 2, .ifCond .eq 59, .aload 0, .invokeinterface 181 1, .ifCond .ne 59, .sipush 0, .ireturn] ls st m := by
  rw [s_j, s_g_eq, g_l179]; rfl
theorem u_179_59 {X : e_X} {d : Nat} {ls st : List Value} {m : e_M} : s_j X d 179 59 ls st m = s_x X d 179 [.aload 0, .getfield 650, .sipush 6, .sipush 8, .invokeinterface 172 3, .ifCond .ne 75, .sipush 0, .ireturn] ls st m := by
  rw [s_j, s_g_eq, g_l179]; rfl
theorem u_179_75 {X : e_X} {d : Nat} {ls st : List Value} {m : e_M} : s_j X d 179 75 ls st m = s_x X d 179 [.aload 0, .checkcast 655, .sipush 3, .iload 1, .imul, .sipush 1, .iadd, .aload 0, .getfield 650, .sipush 6, .isub, .iastore, .aload 0, .checkcast 655, .sipush 3, .iload 1, .imul, .sipush 2, .iadd, .aload 0, .getfield 653, .iastore, .aload 0, .invokeinterface 174 1, .aload 0, .sipush 259, .invokeinterface 180 2, .ireturn] ls st m := by
  rw [s_j, s_g_eq, g_l179]; rfl
/-- M.takes -/
theorem g_l180 (l : Nat) : g_P 180 l = (g_c180.lookup l).getD [] := rfl
theorem v_180 {X : e_X} {d : Nat} (a0 : Nat) (a1 : Int32) {m : e_M} : s_S X (d + 1) 180 [.ref a0, .int a1] m = s_j X d 180 0 [.ref a0, .int a1, .retAddr 0] [] m := rfl
theorem u_180_0 {X : e_X} {d : Nat} {ls st : List Value} {m : e_M} : s_j X d 180 0 ls st m = s_x X d 180 [.aload 0, .getfield 650, .iload 1, .if_icmp .ne 12, .sipush 1, .goto 13] ls st m := by
  rw [s_j, s_g_eq, g_l180]; rfl
theorem u_180_12 {X : e_X} {d : Nat} {ls st : List Value} {m : e_M} : s_j X d 180 12 ls st m = s_x X d 180 [.sipush 0, .jsr 13] ls st m := by
  rw [s_j, s_g_eq, g_l180]; rfl
theorem u_180_13 {X : e_X} {d : Nat} {ls st : List Value} {m : e_M} : s_j X d 180 13 ls st m = s_x X d 180 [.istore 2, .iload 2, .ifCond .eq 22, .aload 0, .invokeinterface 174 1, .jsr 22] ls st m := by
  rw [s_j, s_g_eq, g_l180]; rfl
theorem u_180_22 {X : e_X} {d : Nat} {ls st : List Value} {m : e_M} : s_j X d 180 22 ls st m = s_x X d 180 [.iload 2, .ireturn] ls st m := by
  rw [s_j, s_g_eq, g_l180]; rfl
/-- M.readsCondition -/
theorem g_l181 (l : Nat) : g_P 181 l = (g_c181.lookup l).getD [] := rfl
theorem v_181 {X : e_X} {d : Nat} (a0 : Nat) {m : e_M} : s_S X (d + 1) 181 [.ref a0] m = s_j X d 181 0 [.ref a0, .retAddr 0] [] m := rfl
theorem u_181_0 {X : e_X} {d : Nat} {ls st : List Value} {m : e_M} : s_j X d 181 0 ls st m = s_x X d 181 [.aload 0, .invokeinterface 182 1, .istore 1, .jsr 5] ls st m := by
  rw [s_j, s_g_eq, g_l181]; rfl
theorem u_181_5 {X : e_X} {d : Nat} {ls st : List Value} {m : e_M} : s_j X d 181 5 ls st m = s_x X d 181 [.iload 1, .ifCond .eq 37, .aload 0, .sipush 12, .invokeinterface 180 2, .ifCond .eq 37, .aload 0, .invokeinterface 182 1, .istore 1, .iload 1, .ifCond .eq 5, .aload 0, .sipush 10014, .invokeinterface 187 2, .goto 5] ls st m := by
  rw [s_j, s_g_eq, g_l181]; rfl
theorem u_181_37 {X : e_X} {d : Nat} {ls st : List Value} {m : e_M} : s_j X d 181 37 ls st m = s_x X d 181 [.iload 1, .ireturn] ls st m := by
  rw [s_j, s_g_eq, g_l181]; rfl
/-- M.readsAll -/
theorem g_l182 (l : Nat) : g_P 182 l = (g_c182.lookup l).getD [] := rfl
theorem v_182 {X : e_X} {d : Nat} (a0 : Nat) {m : e_M} : s_S X (d + 1) 182 [.ref a0] m = s_j X d 182 0 [.ref a0, .retAddr 0] [] m := rfl
theorem u_182_0 {X : e_X} {d : Nat} {ls st : List Value} {m : e_M} : s_j X d 182 0 ls st m = s_x X d 182 [.aload 0, .invokeinterface 183 1, .istore 1, .jsr 5] ls st m := by
  rw [s_j, s_g_eq, g_l182]; rfl
theorem u_182_5 {X : e_X} {d : Nat} {ls st : List Value} {m : e_M} : s_j X d 182 5 ls st m = s_x X d 182 [.iload 1, .ifCond .eq 37, .aload 0, .sipush 11, .invokeinterface 180 2, .ifCond .eq 37, .aload 0, .invokeinterface 183 1, .istore 1, .iload 1, .ifCond .eq 5, .aload 0, .sipush 10013, .invokeinterface 187 2, .goto 5] ls st m := by
  rw [s_j, s_g_eq, g_l182]; rfl
theorem u_182_37 {X : e_X} {d : Nat} {ls st : List Value} {m : e_M} : s_j X d 182 37 ls st m = s_x X d 182 [.iload 1, .ireturn] ls st m := by
  rw [s_j, s_g_eq, g_l182]; rfl
/-- M.readsOne -/
theorem g_l183 (l : Nat) : g_P 183 l = (g_c183.lookup l).getD [] := rfl
theorem v_183 {X : e_X} {d : Nat} (a0 : Nat) {m : e_M} : s_S X (d + 1) 183 [.ref a0] m = s_j X d 183 0 [.ref a0, .retAddr 0, .retAddr 0, .retAddr 0] [] m := rfl
theorem u_183_0 {X : e_X} {d : Nat} {ls st : List Value} {m : e_M} : s_j X d 183 0 ls st m = s_x X d 183 [.sipush 0, .istore 1, .jsr 2] ls st m := by
  rw [s_j, s_g_eq, g_l183]; rfl
theorem u_183_2 {X : e_X} {d : Nat} {ls st : List Value} {m : e_M} : s_j X d 183 2 ls st m = s_x X d 183 [.aload 0, .sipush 10, .invokeinterface 180 2, .ifCond .eq 17, .iinc 1 1, .goto 2] ls st m := by
  rw [s_j, s_g_eq, g_l183]; rfl
theorem u_183_17 {X : e_X} {d : Nat} {ls st : List Value} {m : e_M} : s_j X d 183 17 ls st m = s_x X d 183 [.aload 0, .getfield 650, .sipush 240, .if_icmp .ne 34, .aload 0, .invokeinterface 184 1, .goto 38] ls st m := by
  rw [s_j, s_g_eq, g_l183]; rfl
theorem u_183_34 {X : e_X} {d : Nat} {ls st : List Value} {m : e_M} : s_j X d 183 34 ls st m = s_x X d 183 [.aload 0, .invokeinterface 185 1, .jsr 38] ls st m := by
  rw [s_j, s_g_eq, g_l183]; rfl
theorem u_183_38 {X : e_X} {d : Nat} {ls st : List Value} {m : e_M} : s_j X d 183 38 ls st m = s_x X d 183 [.istore 2, .sipush 0, .istore 3, .jsr 41] ls st m := by
  rw [s_j, s_g_eq, g_l183]; rfl
theorem u_183_41 {X : e_X} {d : Nat} {ls st : List Value} {m : e_M} : s_j X d 183 41 ls st m = s_x X d 183 [.iload 3, .iload 1, .if_icmp .ge 63, .iload 2, .ifCond .eq 63, .aload 0, .sipush 10015, .invokeinterface 187 2, .iinc 3 1, .goto 41] ls st m := by
  rw [s_j, s_g_eq, g_l183]; rfl
theorem u_183_63 {X : e_X} {d : Nat} {ls st : List Value} {m : e_M} : s_j X d 183 63 ls st m = s_x X d 183 [.iload 2, .ireturn] ls st m := by
  rw [s_j, s_g_eq, g_l183]; rfl
/-- M.readsWithin -/
theorem g_l184 (l : Nat) : g_P 184 l = (g_c184.lookup l).getD [] := rfl
theorem v_184 {X : e_X} {d : Nat} (a0 : Nat) {m : e_M} : s_S X (d + 1) 184 [.ref a0] m = s_j X d 184 0 [.ref a0] [] m := rfl
theorem u_184_0 {X : e_X} {d : Nat} {ls st : List Value} {m : e_M} : s_j X d 184 0 ls st m = s_x X d 184 [.aload 0, .getfield 652, .sipush 3, .if_icmp .ne 10, .sipush 0, .ireturn] ls st m := by
  rw [s_j, s_g_eq, g_l184]; rfl
theorem u_184_10 {X : e_X} {d : Nat} {ls st : List Value} {m : e_M} : s_j X d 184 10 ls st m = s_x X d 184 [.aload 0, .dup, .getfield 652, .sipush 1, .iadd, .putfield 652, .aload 0, .invokeinterface 174 1, .aload 0, .invokeinterface 181 1, .ifCond .eq 41, .aload 0, .sipush 241, .invokeinterface 180 2, .ifCond .ne 43, .jsr 41] ls st m := by
  rw [s_j, s_g_eq, g_l184]; rfl
theorem u_184_41 {X : e_X} {d : Nat} {ls st : List Value} {m : e_M} : s_j X d 184 41 ls st m = s_x X d 184 [.sipush 0, .ireturn] ls st m := by
  rw [s_j, s_g_eq, g_l184]; rfl
theorem u_184_43 {X : e_X} {d : Nat} {ls st : List Value} {m : e_M} : s_j X d 184 43 ls st m = s_x X d 184 [.aload 0, .dup, .getfield 652, .sipush 1, .isub, .putfield 652, .sipush 1, .ireturn] ls st m := by
  rw [s_j, s_g_eq, g_l184]; rfl
/-- M.readsLike -/
theorem g_l185 (l : Nat) : g_P 185 l = (g_c185.lookup l).getD [] := rfl
theorem v_185 {X : e_X} {d : Nat} (a0 : Nat) {m : e_M} : s_S X (d + 1) 185 [.ref a0] m = s_j X d 185 0 [.ref a0, .retAddr 0] [] m := rfl
theorem u_185_0 {X : e_X} {d : Nat} {ls st : List Value} {m : e_M} : s_j X d 185 0 ls st m = s_x X d 185 [.aload 0, .invokeinterface 186 1, .ifCond .ne 9, .sipush 0, .ireturn] ls st m := by
  rw [s_j, s_g_eq, g_l185]; rfl
theorem u_185_9 {X : e_X} {d : Nat} {ls st : List Value} {m : e_M} : s_j X d 185 9 ls st m = s_x X d 185 [.aload 0, .getfield 650, .sipush 260, .if_icmp .ne 25, .sipush 10010, .goto 58] ls st m := by
  rw [s_j, s_g_eq, g_l185]; rfl
theorem u_185_25 {X : e_X} {d : Nat} {ls st : List Value} {m : e_M} : s_j X d 185 25 ls st m = s_x X d 185 [.aload 0, .getfield 650, .sipush 261, .if_icmp .ne 41, .sipush 10011, .goto 58] ls st m := by
  rw [s_j, s_g_eq, g_l185]; rfl
theorem u_185_41 {X : e_X} {d : Nat} {ls st : List Value} {m : e_M} : s_j X d 185 41 ls st m = s_x X d 185 [.aload 0, .getfield 650, .sipush 262, .if_icmp .ne 57, .sipush 10012, .goto 58] ls st m := by
  rw [s_j, s_g_eq, g_l185]; rfl
theorem u_185_57 {X : e_X} {d : Nat} {ls st : List Value} {m : e_M} : s_j X d 185 57 ls st m = s_x X d 185 [.sipush 0, .jsr 58] ls st m := by
  rw [s_j, s_g_eq, g_l185]; rfl
theorem u_185_58 {X : e_X} {d : Nat} {ls st : List Value} {m : e_M} : s_j X d 185 58 ls st m = s_x X d 185 [.istore 1, .iload 1, .ifCond .ne 65, .sipush 0, .ireturn] ls st m := by
  rw [s_j, s_g_eq, g_l185]; rfl
theorem u_185_65 {X : e_X} {d : Nat} {ls st : List Value} {m : e_M} : s_j X d 185 65 ls st m = s_x X d 185 [.aload 0, .invokeinterface 174 1, .aload 0, .invokeinterface 186 1, .ifCond .ne 78, .sipush 0, .ireturn] ls st m := by
  rw [s_j, s_g_eq, g_l185]; rfl
theorem u_185_78 {X : e_X} {d : Nat} {ls st : List Value} {m : e_M} : s_j X d 185 78 ls st m = s_x X d 185 [.aload 0, .iload 1, .invokeinterface 187 2, .sipush 1, .ireturn] ls st m := by
  rw [s_j, s_g_eq, g_l185]; rfl
/-- M.readsValue -/
theorem g_l186 (l : Nat) : g_P 186 l = (g_c186.lookup l).getD [] := rfl
theorem v_186 {X : e_X} {d : Nat} (a0 : Nat) {m : e_M} : s_S X (d + 1) 186 [.ref a0] m = s_j X d 186 0 [.ref a0, .retAddr 0] [] m := rfl
theorem u_186_0 {X : e_X} {d : Nat} {ls st : List Value} {m : e_M} : s_j X d 186 0 ls st m = s_x X d 186 [.aload 0, .getfield 650, .sipush 100, .if_icmp .eq 23, .aload 0, .getfield 650, .sipush 13, .sipush 17, .invokeinterface 172 3, .ifCond .eq 27, .jsr 23] ls st m := by
  rw [s_j, s_g_eq, g_l186]; rfl
theorem u_186_23 {X : e_X} {d : Nat} {ls st : List Value} {m : e_M} : s_j X d 186 23 ls st m = s_x X d 186 [.sipush 1, .goto 28] ls st m := by
  rw [s_j, s_g_eq, g_l186]; rfl
theorem u_186_27 {X : e_X} {d : Nat} {ls st : List Value} {m : e_M} : s_j X d 186 27 ls st m = s_x X d 186 [.sipush 0, .jsr 28] ls st m := by
  rw [s_j, s_g_eq, g_l186]; rfl
theorem u_186_28 {X : e_X} {d : Nat} {ls st : List Value} {m : e_M} : s_j X d 186 28 ls st m = s_x X d 186 [.istore 1, .iload 1, .ifCond .eq 68, .aload 0, .aload 0, .getfield 650, .sipush 100, .if_icmp .ne 50, .aload 0, .getfield 651, .goto 61] ls st m := by
  rw [s_j, s_g_eq, g_l186]; rfl
theorem u_186_50 {X : e_X} {d : Nat} {ls st : List Value} {m : e_M} : s_j X d 186 50 ls st m = s_x X d 186 [.sipush 10000, .aload 0, .getfield 650, .iadd, .sipush 13, .isub, .jsr 61] ls st m := by
  rw [s_j, s_g_eq, g_l186]; rfl
theorem u_186_61 {X : e_X} {d : Nat} {ls st : List Value} {m : e_M} : s_j X d 186 61 ls st m = s_x X d 186 [.invokeinterface 187 2, .aload 0, .invokeinterface 174 1, .jsr 68] ls st m := by
  rw [s_j, s_g_eq, g_l186]; rfl
theorem u_186_68 {X : e_X} {d : Nat} {ls st : List Value} {m : e_M} : s_j X d 186 68 ls st m = s_x X d 186 [.iload 1, .ireturn] ls st m := by
  rw [s_j, s_g_eq, g_l186]; rfl
/-- M.lays -/
theorem g_l187 (l : Nat) : g_P 187 l = (g_c187.lookup l).getD [] := rfl
theorem v_187 {X : e_X} {d : Nat} (a0 : Nat) (a1 : Int32) {m : e_M} : s_S X (d + 1) 187 [.ref a0, .int a1] m = s_j X d 187 0 [.ref a0, .int a1] [] m := rfl
theorem u_187_0 {X : e_X} {d : Nat} {ls st : List Value} {m : e_M} : s_j X d 187 0 ls st m = s_x X d 187 [.aload 0, .checkcast 654, .aload 0, .getfield 653, .iload 1, .iastore, .aload 0, .dup, .getfield 653, .sipush 1, .iadd, .putfield 653, .return_] ls st m := by
  rw [s_j, s_g_eq, g_l187]; rfl
/-- M.plate -/
theorem g_l188 (l : Nat) : g_P 188 l = (g_c188.lookup l).getD [] := rfl
theorem v_188 {X : e_X} {d : Nat} (a0 : Nat) (a1 : Int32) (a2 : Int32) (a3 : Int32) (a4 : Int32) {m : e_M} : s_S X (d + 1) 188 [.ref a0, .int a1, .int a2, .int a3, .int a4] m = s_j X d 188 0 [.ref a0, .int a1, .int a2, .int a3, .int a4, .retAddr 0] [] m := rfl
theorem u_188_0 {X : e_X} {d : Nat} {ls st : List Value} {m : e_M} : s_j X d 188 0 ls st m = s_x X d 188 [.iload 1, .sipush 1, .sipush 5, .invokeinterface 172 3, .ifCond .eq 31, .iload 2, .invokeinterface 189 1, .ifCond .eq 31, .iload 3, .invokeinterface 190 1, .ifCond .eq 31, .iload 4, .invokeinterface 191 1, .ifCond .ne 33, .jsr 31] ls st m := by
  rw [s_j, s_g_eq, g_l188]; rfl
theorem u_188_31 {X : e_X} {d : Nat} {ls st : List Value} {m : e_M} : s_j X d 188 31 ls st m = s_x X d 188 [.sipush (-1), .ireturn] ls st m := by
  rw [s_j, s_g_eq, g_l188]; rfl
theorem u_188_33 {X : e_X} {d : Nat} {ls st : List Value} {m : e_M} : s_j X d 188 33 ls st m = s_x X d 188 [.aload 0, .checkcast 640, .sipush 6, .iaload, .sipush 6, .if_icmp .ne 48, .sipush (-2), .ireturn] ls st m := by
  rw [s_j, s_g_eq, g_l188]; rfl
theorem u_188_48 {X : e_X} {d : Nat} {ls st : List Value} {m : e_M} : s_j X d 188 48 ls st m = s_x X d 188 [.aload 0, .checkcast 640, .sipush 6, .iaload, .istore 5, .aload 0, .iload 5, .sipush 0, .iload 1, .invokeinterface 192 4, .aload 0, .iload 5, .sipush 1, .iload 2, .invokeinterface 192 4, .aload 0, .iload 5, .sipush 2, .iload 3, .invokeinterface 192 4, .aload 0, .iload 5, .sipush 3, .iload 4, .invokeinterface 192 4, .aload 0, .iload 5, .sipush 4, .sipush 0, .invokeinterface 192 4, .aload 0, .checkcast 640, .sipush 6, .dup2, .iaload, .sipush 1, .iadd, .iastore, .iload 5, .ireturn] ls st m := by
  rw [s_j, s_g_eq, g_l188]; rfl
/-- M.isFirst -/
theorem g_l189 (l : Nat) : g_P 189 l = (g_c189.lookup l).getD [] := rfl
theorem v_189 {X : e_X} {d : Nat} (a0 : Int32) {m : e_M} : s_S X (d + 1) 189 [.int a0] m = s_j X d 189 0 [.int a0] [] m := rfl
theorem u_189_0 {X : e_X} {d : Nat} {ls st : List Value} {m : e_M} : s_j X d 189 0 ls st m = s_x X d 189 [.iload 0, .sipush 0, .sipush 39, .invokeinterface 172 3, .ireturn] ls st m := by
  rw [s_j, s_g_eq, g_l189]; rfl
/-- M.isDigit -/
theorem g_l190 (l : Nat) : g_P 190 l = (g_c190.lookup l).getD [] := rfl
theorem v_190 {X : e_X} {d : Nat} (a0 : Int32) {m : e_M} : s_S X (d + 1) 190 [.int a0] m = s_j X d 190 0 [.int a0] [] m := rfl
theorem u_190_0 {X : e_X} {d : Nat} {ls st : List Value} {m : e_M} : s_j X d 190 0 ls st m = s_x X d 190 [.iload 0, .sipush 0, .sipush 9, .invokeinterface 172 3, .ireturn] ls st m := by
  rw [s_j, s_g_eq, g_l190]; rfl
/-- M.isHome -/
theorem g_l191 (l : Nat) : g_P 191 l = (g_c191.lookup l).getD [] := rfl
theorem v_191 {X : e_X} {d : Nat} (a0 : Int32) {m : e_M} : s_S X (d + 1) 191 [.int a0] m = s_j X d 191 0 [.int a0] [] m := rfl
theorem u_191_0 {X : e_X} {d : Nat} {ls st : List Value} {m : e_M} : s_j X d 191 0 ls st m = s_x X d 191 [.iload 0, .sipush 0, .sipush 5, .invokeinterface 172 3, .ireturn] ls st m := by
  rw [s_j, s_g_eq, g_l191]; rfl
/-- M.puts -/
theorem g_l192 (l : Nat) : g_P 192 l = (g_c192.lookup l).getD [] := rfl
theorem v_192 {X : e_X} {d : Nat} (a0 : Nat) (a1 : Int32) (a2 : Int32) (a3 : Int32) {m : e_M} : s_S X (d + 1) 192 [.ref a0, .int a1, .int a2, .int a3] m = s_j X d 192 0 [.ref a0, .int a1, .int a2, .int a3] [] m := rfl
theorem u_192_0 {X : e_X} {d : Nat} {ls st : List Value} {m : e_M} : s_j X d 192 0 ls st m = s_x X d 192 [.aload 0, .checkcast 640, .sipush 38, .sipush 6, .iload 1, .imul, .iadd, .iload 2, .iadd, .iload 3, .iastore, .return_] ls st m := by
  rw [s_j, s_g_eq, g_l192]; rfl
/-- M.plateOf -/
theorem g_l193 (l : Nat) : g_P 193 l = (g_c193.lookup l).getD [] := rfl
theorem v_193 {X : e_X} {d : Nat} (a0 : Nat) (a1 : Int32) (a2 : Int32) {m : e_M} : s_S X (d + 1) 193 [.ref a0, .int a1, .int a2] m = s_j X d 193 0 [.ref a0, .int a1, .int a2] [] m := rfl
theorem u_193_0 {X : e_X} {d : Nat} {ls st : List Value} {m : e_M} : s_j X d 193 0 ls st m = s_x X d 193 [.aload 0, .iload 1, .invokeinterface 194 2, .ifCond .eq 18, .iload 2, .sipush 0, .sipush 8, .invokeinterface 172 3, .ifCond .ne 20, .jsr 18] ls st m := by
  rw [s_j, s_g_eq, g_l193]; rfl
theorem u_193_18 {X : e_X} {d : Nat} {ls st : List Value} {m : e_M} : s_j X d 193 18 ls st m = s_x X d 193 [.sipush (-1), .ireturn] ls st m := by
  rw [s_j, s_g_eq, g_l193]; rfl
theorem u_193_20 {X : e_X} {d : Nat} {ls st : List Value} {m : e_M} : s_j X d 193 20 ls st m = s_x X d 193 [.iload 2, .lookupswitch 84 #[(5, 52), (6, 58), (7, 64), (8, 78)]] ls st m := by
  rw [s_j, s_g_eq, g_l193]; rfl
theorem u_193_52 {X : e_X} {d : Nat} {ls st : List Value} {m : e_M} : s_j X d 193 52 ls st m = s_x X d 193 [.aload 0, .iload 1, .invokeinterface 195 2, .ireturn] ls st m := by
  rw [s_j, s_g_eq, g_l193]; rfl
theorem u_193_58 {X : e_X} {d : Nat} {ls st : List Value} {m : e_M} : s_j X d 193 58 ls st m = s_x X d 193 [.aload 0, .iload 1, .invokeinterface 198 2, .ireturn] ls st m := by
  rw [s_j, s_g_eq, g_l193]; rfl
theorem u_193_64 {X : e_X} {d : Nat} {ls st : List Value} {m : e_M} : s_j X d 193 64 ls st m = s_x X d 193 [.aload 0, .iload 1, .invokeinterface 199 2, .ifCond .eq 76, .sipush 1, .goto 77] ls st m := by
  rw [s_j, s_g_eq, g_l193]; rfl
theorem u_193_76 {X : e_X} {d : Nat} {ls st : List Value} {m : e_M} : s_j X d 193 76 ls st m = s_x X d 193 [.sipush 0, .jsr 77] ls st m := by
  rw [s_j, s_g_eq, g_l193]; rfl
theorem u_193_77 {X : e_X} {d : Nat} {ls st : List Value} {m : e_M} : s_j X d 193 77 ls st m = s_x X d 193 [.ireturn] ls st m := by
  rw [s_j, s_g_eq, g_l193]; rfl
theorem u_193_78 {X : e_X} {d : Nat} {ls st : List Value} {m : e_M} : s_j X d 193 78 ls st m = s_x X d 193 [.aload 0, .iload 1, .invokeinterface 200 2, .ireturn] ls st m := by
  rw [s_j, s_g_eq, g_l193]; rfl
theorem u_193_84 {X : e_X} {d : Nat} {ls st : List Value} {m : e_M} : s_j X d 193 84 ls st m = s_x X d 193 [.aload 0, .iload 1, .iload 2, .invokeinterface 196 3, .ireturn] ls st m := by
  rw [s_j, s_g_eq, g_l193]; rfl
/-- M.isPiece -/
theorem g_l194 (l : Nat) : g_P 194 l = (g_c194.lookup l).getD [] := rfl
theorem v_194 {X : e_X} {d : Nat} (a0 : Nat) (a1 : Int32) {m : e_M} : s_S X (d + 1) 194 [.ref a0, .int a1] m = s_j X d 194 0 [.ref a0, .int a1] [] m := rfl
theorem u_194_0 {X : e_X} {d : Nat} {ls st : List Value} {m : e_M} : s_j X d 194 0 ls st m = s_x X d 194 [.iload 1, .sipush 0, .aload 0, .checkcast 640, .sipush 6, .iaload, .sipush 1, .isub, .invokeinterface 172 3, .ireturn] ls st m := by
  rw [s_j, s_g_eq, g_l194]; rfl
/-- M.spansOf -/
theorem g_l195 (l : Nat) : g_P 195 l = (g_c195.lookup l).getD [] := rfl
theorem v_195 {X : e_X} {d : Nat} (a0 : Nat) (a1 : Int32) {m : e_M} : s_S X (d + 1) 195 [.ref a0, .int a1] m = s_j X d 195 0 [.ref a0, .int a1] [] m := rfl
theorem u_195_0 {X : e_X} {d : Nat} {ls st : List Value} {m : e_M} : s_j X d 195 0 ls st m = s_x X d 195 [.aload 0, .iload 1, .sipush 0, .invokeinterface 196 3, .aload 0, .iload 1, .sipush 2, .invokeinterface 196 3, .aload 0, .checkcast 640, .sipush 0, .iaload, .invokeinterface 197 3, .ireturn] ls st m := by
  rw [s_j, s_g_eq, g_l195]; rfl
/-- M.get -/
theorem g_l196 (l : Nat) : g_P 196 l = (g_c196.lookup l).getD [] := rfl
theorem v_196 {X : e_X} {d : Nat} (a0 : Nat) (a1 : Int32) (a2 : Int32) {m : e_M} : s_S X (d + 1) 196 [.ref a0, .int a1, .int a2] m = s_j X d 196 0 [.ref a0, .int a1, .int a2] [] m := rfl
theorem u_196_0 {X : e_X} {d : Nat} {ls st : List Value} {m : e_M} : s_j X d 196 0 ls st m = s_x X d 196 [.aload 0, .checkcast 640, .sipush 38, .sipush 6, .iload 1, .imul, .iadd, .iload 2, .iadd, .iaload, .ireturn] ls st m := by
  rw [s_j, s_g_eq, g_l196]; rfl
/-- M.spansBy -/
theorem g_l197 (l : Nat) : g_P 197 l = (g_c197.lookup l).getD [] := rfl
theorem v_197 {X : e_X} {d : Nat} (a0 : Int32) (a1 : Int32) (a2 : Int32) {m : e_M} : s_S X (d + 1) 197 [.int a0, .int a1, .int a2] m = s_j X d 197 0 [.int a0, .int a1, .int a2, .retAddr 0, .retAddr 0] [] m := rfl
theorem u_197_0 {X : e_X} {d : Nat} {ls st : List Value} {m : e_M} : s_j X d 197 0 ls st m = s_x X d 197 [.sipush 1, .iload 1, .sipush 2, .idiv, .iadd, .istore 3, .iload 3, .sipush 2, .if_icmp .le 15, .sipush 2, .goto 16] ls st m := by
  rw [s_j, s_g_eq, g_l197]; rfl
theorem u_197_15 {X : e_X} {d : Nat} {ls st : List Value} {m : e_M} : s_j X d 197 15 ls st m = s_x X d 197 [.iload 3, .jsr 16] ls st m := by
  rw [s_j, s_g_eq, g_l197]; rfl
theorem u_197_16 {X : e_X} {d : Nat} {ls st : List Value} {m : e_M} : s_j X d 197 16 ls st m = s_x X d 197 [.istore 4, .iload 0, .lookupswitch 91 #[(1, 52), (2, 56), (3, 60), (4, 75), (5, 78)]] ls st m := by
  rw [s_j, s_g_eq, g_l197]; rfl
theorem u_197_52 {X : e_X} {d : Nat} {ls st : List Value} {m : e_M} : s_j X d 197 52 ls st m = s_x X d 197 [.sipush 2, .iload 3, .imul, .ireturn] ls st m := by
  rw [s_j, s_g_eq, g_l197]; rfl
theorem u_197_56 {X : e_X} {d : Nat} {ls st : List Value} {m : e_M} : s_j X d 197 56 ls st m = s_x X d 197 [.iload 3, .sipush 2, .iadd, .ireturn] ls st m := by
  rw [s_j, s_g_eq, g_l197]; rfl
theorem u_197_60 {X : e_X} {d : Nat} {ls st : List Value} {m : e_M} : s_j X d 197 60 ls st m = s_x X d 197 [.iload 2, .sipush 2, .irem, .sipush 1, .if_icmp .ne 71, .sipush 1, .goto 74] ls st m := by
  rw [s_j, s_g_eq, g_l197]; rfl
theorem u_197_71 {X : e_X} {d : Nat} {ls st : List Value} {m : e_M} : s_j X d 197 71 ls st m = s_x X d 197 [.iload 3, .sipush 2, .iadd, .jsr 74] ls st m := by
  rw [s_j, s_g_eq, g_l197]; rfl
theorem u_197_74 {X : e_X} {d : Nat} {ls st : List Value} {m : e_M} : s_j X d 197 74 ls st m = s_x X d 197 [.ireturn] ls st m := by
  rw [s_j, s_g_eq, g_l197]; rfl
theorem u_197_75 {X : e_X} {d : Nat} {ls st : List Value} {m : e_M} : s_j X d 197 75 ls st m = s_x X d 197 [.iload 4, .ireturn] ls st m := by
  rw [s_j, s_g_eq, g_l197]; rfl
theorem u_197_78 {X : e_X} {d : Nat} {ls st : List Value} {m : e_M} : s_j X d 197 78 ls st m = s_x X d 197 [.iload 2, .sipush 3, .irem, .ifCond .ne 88, .sipush 0, .goto 90] ls st m := by
  rw [s_j, s_g_eq, g_l197]; rfl
theorem u_197_88 {X : e_X} {d : Nat} {ls st : List Value} {m : e_M} : s_j X d 197 88 ls st m = s_x X d 197 [.iload 4, .jsr 90] ls st m := by
  rw [s_j, s_g_eq, g_l197]; rfl
theorem u_197_90 {X : e_X} {d : Nat} {ls st : List Value} {m : e_M} : s_j X d 197 90 ls st m = s_x X d 197 [.ireturn] ls st m := by
  rw [s_j, s_g_eq, g_l197]; rfl
theorem u_197_91 {X : e_X} {d : Nat} {ls st : List Value} {m : e_M} : s_j X d 197 91 ls st m = s_x X d 197 [.iload 3, .ireturn] ls st m := by
  rw [s_j, s_g_eq, g_l197]; rfl
/-- M.grudgeOf -/
theorem g_l198 (l : Nat) : g_P 198 l = (g_c198.lookup l).getD [] := rfl
theorem v_198 {X : e_X} {d : Nat} (a0 : Nat) (a1 : Int32) {m : e_M} : s_S X (d + 1) 198 [.ref a0, .int a1] m = s_j X d 198 0 [.ref a0, .int a1, .retAddr 0] [] m := rfl
theorem u_198_0 {X : e_X} {d : Nat} {ls st : List Value} {m : e_M} : s_j X d 198 0 ls st m = s_x X d 198 [.aload 0, .checkcast 640, .sipush 26, .aload 0, .iload 1, .sipush 3, .invokeinterface 196 3, .iadd, .iaload, .istore 2, .aload 0, .iload 1, .sipush 0, .invokeinterface 196 3, .lookupswitch 91 #[(1, 56), (2, 60), (3, 64), (4, 81), (5, 85)]] ls st m := by
  rw [s_j, s_g_eq, g_l198]; rfl
theorem u_198_56 {X : e_X} {d : Nat} {ls st : List Value} {m : e_M} : s_j X d 198 56 ls st m = s_x X d 198 [.iload 2, .sipush 2, .iadd, .ireturn] ls st m := by
  rw [s_j, s_g_eq, g_l198]; rfl
theorem u_198_60 {X : e_X} {d : Nat} {ls st : List Value} {m : e_M} : s_j X d 198 60 ls st m = s_x X d 198 [.iload 2, .iload 1, .iadd, .ireturn] ls st m := by
  rw [s_j, s_g_eq, g_l198]; rfl
theorem u_198_64 {X : e_X} {d : Nat} {ls st : List Value} {m : e_M} : s_j X d 198 64 ls st m = s_x X d 198 [.iload 2, .iload 1, .iadd, .sipush 3, .if_icmp .ge 75, .sipush 0, .goto 80] ls st m := by
  rw [s_j, s_g_eq, g_l198]; rfl
theorem u_198_75 {X : e_X} {d : Nat} {ls st : List Value} {m : e_M} : s_j X d 198 75 ls st m = s_x X d 198 [.iload 2, .iload 1, .iadd, .sipush 3, .isub, .jsr 80] ls st m := by
  rw [s_j, s_g_eq, g_l198]; rfl
theorem u_198_80 {X : e_X} {d : Nat} {ls st : List Value} {m : e_M} : s_j X d 198 80 ls st m = s_x X d 198 [.ireturn] ls st m := by
  rw [s_j, s_g_eq, g_l198]; rfl
theorem u_198_81 {X : e_X} {d : Nat} {ls st : List Value} {m : e_M} : s_j X d 198 81 ls st m = s_x X d 198 [.iload 2, .sipush 2, .idiv, .ireturn] ls st m := by
  rw [s_j, s_g_eq, g_l198]; rfl
theorem u_198_85 {X : e_X} {d : Nat} {ls st : List Value} {m : e_M} : s_j X d 198 85 ls st m = s_x X d 198 [.iload 2, .sipush 2, .idiv, .sipush 2, .imul, .ireturn] ls st m := by
  rw [s_j, s_g_eq, g_l198]; rfl
theorem u_198_91 {X : e_X} {d : Nat} {ls st : List Value} {m : e_M} : s_j X d 198 91 ls st m = s_x X d 198 [.iload 2, .ireturn] ls st m := by
  rw [s_j, s_g_eq, g_l198]; rfl
/-- M.wouldSit -/
theorem g_l199 (l : Nat) : g_P 199 l = (g_c199.lookup l).getD [] := rfl
theorem v_199 {X : e_X} {d : Nat} (a0 : Nat) (a1 : Int32) {m : e_M} : s_S X (d + 1) 199 [.ref a0, .int a1] m = s_j X d 199 0 [.ref a0, .int a1] [] m := rfl
theorem u_199_0 {X : e_X} {d : Nat} {ls st : List Value} {m : e_M} : s_j X d 199 0 ls st m = s_x X d 199 [.aload 0, .iload 1, .sipush 4, .invokeinterface 196 3, .ifCond .ne 42, .aload 0, .iload 1, .invokeinterface 198 2, .aload 0, .checkcast 640, .sipush 3, .iaload, .aload 0, .checkcast 640, .sipush 32, .aload 0, .iload 1, .sipush 3, .invokeinterface 196 3, .iadd, .iaload, .iadd, .if_icmp .gt 42, .sipush 1, .goto 43] ls st m := by
  rw [s_j, s_g_eq, g_l199]; rfl
theorem u_199_42 {X : e_X} {d : Nat} {ls st : List Value} {m : e_M} : s_j X d 199 42 ls st m = s_x X d 199 [.sipush 0, .jsr 43] ls st m := by
  rw [s_j, s_g_eq, g_l199]; rfl
theorem u_199_43 {X : e_X} {d : Nat} {ls st : List Value} {m : e_M} : s_j X d 199 43 ls st m = s_x X d 199 [.ireturn] ls st m := by
  rw [s_j, s_g_eq, g_l199]; rfl
/-- M.willOf -/
theorem g_l200 (l : Nat) : g_P 200 l = (g_c200.lookup l).getD [] := rfl
theorem v_200 {X : e_X} {d : Nat} (a0 : Nat) (a1 : Int32) {m : e_M} : s_S X (d + 1) 200 [.ref a0, .int a1] m = s_j X d 200 0 [.ref a0, .int a1, .retAddr 0] [] m := rfl
theorem u_200_0 {X : e_X} {d : Nat} {ls st : List Value} {m : e_M} : s_j X d 200 0 ls st m = s_x X d 200 [.sipush 0, .istore 2, .jsr 2] ls st m := by
  rw [s_j, s_g_eq, g_l200]; rfl
theorem u_200_2 {X : e_X} {d : Nat} {ls st : List Value} {m : e_M} : s_j X d 200 2 ls st m = s_x X d 200 [.iload 2, .aload 0, .checkcast 640, .sipush 7, .iaload, .if_icmp .ge 53, .aload 0, .iload 1, .sipush 0, .invokeinterface 196 3, .aload 0, .iload 2, .sipush 0, .invokeinterface 201 3, .invokeinterface 202 2, .ifCond .eq 47, .aload 0, .iload 2, .iload 1, .invokeinterface 204 3, .ifCond .eq 47, .aload 0, .iload 2, .sipush 1, .invokeinterface 201 3, .ireturn] ls st m := by
  rw [s_j, s_g_eq, g_l200]; rfl
theorem u_200_47 {X : e_X} {d : Nat} {ls st : List Value} {m : e_M} : s_j X d 200 47 ls st m = s_x X d 200 [.iinc 2 1, .goto 2] ls st m := by
  rw [s_j, s_g_eq, g_l200]; rfl
theorem u_200_53 {X : e_X} {d : Nat} {ls st : List Value} {m : e_M} : s_j X d 200 53 ls st m = s_x X d 200 [.sipush 0, .ireturn] ls st m := by
  rw [s_j, s_g_eq, g_l200]; rfl
/-- M.ruleOf -/
theorem g_l201 (l : Nat) : g_P 201 l = (g_c201.lookup l).getD [] := rfl
theorem v_201 {X : e_X} {d : Nat} (a0 : Nat) (a1 : Int32) (a2 : Int32) {m : e_M} : s_S X (d + 1) 201 [.ref a0, .int a1, .int a2] m = s_j X d 201 0 [.ref a0, .int a1, .int a2] [] m := rfl
theorem u_201_0 {X : e_X} {d : Nat} {ls st : List Value} {m : e_M} : s_j X d 201 0 ls st m = s_x X d 201 [.aload 0, .checkcast 640, .sipush 98, .sipush 3, .iload 1, .imul, .iadd, .iload 2, .iadd, .iaload, .ireturn] ls st m := by
  rw [s_j, s_g_eq, g_l201]; rfl
/-- M.isUnder -/
theorem g_l202 (l : Nat) : g_P 202 l = (g_c202.lookup l).getD [] := rfl
theorem v_202 {X : e_X} {d : Nat} (a0 : Int32) (a1 : Int32) {m : e_M} : s_S X (d + 1) 202 [.int a0, .int a1] m = s_j X d 202 0 [.int a0, .int a1, .retAddr 0] [] m := rfl
theorem u_202_0 {X : e_X} {d : Nat} {ls st : List Value} {m : e_M} : s_j X d 202 0 ls st m = s_x X d 202 [.iload 0, .istore 2, .jsr 2] ls st m := by
  rw [s_j, s_g_eq, g_l202]; rfl
theorem u_202_2 {X : e_X} {d : Nat} {ls st : List Value} {m : e_M} : s_j X d 202 2 ls st m = s_x X d 202 [.iload 2, .iload 1, .if_icmp .eq 19, .iload 2, .ifCond .eq 19, .iload 2, .invokeinterface 203 1, .istore 2, .goto 2] ls st m := by
  rw [s_j, s_g_eq, g_l202]; rfl
theorem u_202_19 {X : e_X} {d : Nat} {ls st : List Value} {m : e_M} : s_j X d 202 19 ls st m = s_x X d 202 [.iload 2, .iload 1, .if_icmp .ne 28, .sipush 1, .goto 29] ls st m := by
  rw [s_j, s_g_eq, g_l202]; rfl
theorem u_202_28 {X : e_X} {d : Nat} {ls st : List Value} {m : e_M} : s_j X d 202 28 ls st m = s_x X d 202 [.sipush 0, .jsr 29] ls st m := by
  rw [s_j, s_g_eq, g_l202]; rfl
theorem u_202_29 {X : e_X} {d : Nat} {ls st : List Value} {m : e_M} : s_j X d 202 29 ls st m = s_x X d 202 [.ireturn] ls st m := by
  rw [s_j, s_g_eq, g_l202]; rfl
/-- M.above -/
theorem g_l203 (l : Nat) : g_P 203 l = (g_c203.lookup l).getD [] := rfl
theorem v_203 {X : e_X} {d : Nat} (a0 : Int32) {m : e_M} : s_S X (d + 1) 203 [.int a0] m = s_j X d 203 0 [.int a0] [] m := rfl
theorem u_203_0 {X : e_X} {d : Nat} {ls st : List Value} {m : e_M} : s_j X d 203 0 ls st m = s_x X d 203 [.iload 0, .sipush 3, .if_icmp .ne 9, .sipush 2, .goto 19] ls st m := by
  rw [s_j, s_g_eq, g_l203]; rfl
theorem u_203_9 {X : e_X} {d : Nat} {ls st : List Value} {m : e_M} : s_j X d 203 9 ls st m = s_x X d 203 [.iload 0, .sipush 5, .if_icmp .ne 18, .sipush 4, .goto 19] ls st m := by
  rw [s_j, s_g_eq, g_l203]; rfl
theorem u_203_18 {X : e_X} {d : Nat} {ls st : List Value} {m : e_M} : s_j X d 203 18 ls st m = s_x X d 203 [.sipush 0, .jsr 19] ls st m := by
  rw [s_j, s_g_eq, g_l203]; rfl
theorem u_203_19 {X : e_X} {d : Nat} {ls st : List Value} {m : e_M} : s_j X d 203 19 ls st m = s_x X d 203 [.ireturn] ls st m := by
  rw [s_j, s_g_eq, g_l203]; rfl
/-- M.holdsFor -/
theorem g_l204 (l : Nat) : g_P 204 l = (g_c204.lookup l).getD [] := rfl
theorem v_204 {X : e_X} {d : Nat} (a0 : Nat) (a1 : Int32) (a2 : Int32) {m : e_M} : s_S X (d + 1) 204 [.ref a0, .int a1, .int a2] m = s_j X d 204 0 [.ref a0, .int a1, .int a2, .retAddr 0, .retAddr 0, .retAddr 0] [] m := rfl
theorem u_204_0 {X : e_X} {d : Nat} {ls st : List Value} {m : e_M} : s_j X d 204 0 ls st m = s_x X d 204 [.sipush 0, .istore 3, .iload 1, .ifCond .ne 10, .sipush 0, .goto 18] ls st m := by
  rw [s_j, s_g_eq, g_l204]; rfl
theorem u_204_10 {X : e_X} {d : Nat} {ls st : List Value} {m : e_M} : s_j X d 204 10 ls st m = s_x X d 204 [.aload 0, .iload 1, .sipush 1, .isub, .sipush 2, .invokeinterface 201 3, .jsr 18] ls st m := by
  rw [s_j, s_g_eq, g_l204]; rfl
theorem u_204_18 {X : e_X} {d : Nat} {ls st : List Value} {m : e_M} : s_j X d 204 18 ls st m = s_x X d 204 [.istore 4, .jsr 20] ls st m := by
  rw [s_j, s_g_eq, g_l204]; rfl
theorem u_204_20 {X : e_X} {d : Nat} {ls st : List Value} {m : e_M} : s_j X d 204 20 ls st m = s_x X d 204 [.iload 4, .aload 0, .iload 1, .sipush 2, .invokeinterface 201 3, .if_icmp .ge 152, .aload 0, .checkcast 640, .sipush 122, .iload 4, .iadd, .iaload, .istore 5, .iload 5, .sipush 10010, .if_icmp .ge 87, .aload 0, .checkcast 644, .iload 3, .iload 5, .sipush 10000, .if_icmp .ge 69, .iload 5, .goto 80] ls st m := by
  rw [s_j, s_g_eq, g_l204]; rfl
theorem u_204_69 {X : e_X} {d : Nat} {ls st : List Value} {m : e_M} : s_j X d 204 69 ls st m = s_x X d 204 [.aload 0, .iload 5, .sipush 10000, .isub, .iload 2, .invokeinterface 205 3, .jsr 80] ls st m := by
  rw [s_j, s_g_eq, g_l204]; rfl
theorem u_204_80 {X : e_X} {d : Nat} {ls st : List Value} {m : e_M} : s_j X d 204 80 ls st m = s_x X d 204 [.iastore, .iinc 3 1, .goto 146] ls st m := by
  rw [s_j, s_g_eq, g_l204]; rfl
theorem u_204_87 {X : e_X} {d : Nat} {ls st : List Value} {m : e_M} : s_j X d 204 87 ls st m = s_x X d 204 [.iload 5, .sipush 10015, .if_icmp .ne 116, .aload 0, .checkcast 644, .iload 3, .sipush 1, .isub, .sipush 1, .aload 0, .checkcast 644, .iload 3, .sipush 1, .isub, .iaload, .isub, .iastore, .goto 146] ls st m := by
  rw [s_j, s_g_eq, g_l204]; rfl
theorem u_204_116 {X : e_X} {d : Nat} {ls st : List Value} {m : e_M} : s_j X d 204 116 ls st m = s_x X d 204 [.iinc 3 (-1), .aload 0, .checkcast 644, .iload 3, .sipush 1, .isub, .iload 5, .aload 0, .checkcast 644, .iload 3, .sipush 1, .isub, .iaload, .aload 0, .checkcast 644, .iload 3, .iaload, .invokeinterface 206 3, .iastore, .jsr 146] ls st m := by
  rw [s_j, s_g_eq, g_l204]; rfl
theorem u_204_146 {X : e_X} {d : Nat} {ls st : List Value} {m : e_M} : s_j X d 204 146 ls st m = s_x X d 204 [.iinc 4 1, .goto 20] ls st m := by
  rw [s_j, s_g_eq, g_l204]; rfl
theorem u_204_152 {X : e_X} {d : Nat} {ls st : List Value} {m : e_M} : s_j X d 204 152 ls st m = s_x X d 204 [.iload 3, .ifCond .eq 165, .aload 0, .checkcast 644, .sipush 0, .iaload, .ifCond .eq 169, .jsr 165] ls st m := by
  rw [s_j, s_g_eq, g_l204]; rfl
theorem u_204_165 {X : e_X} {d : Nat} {ls st : List Value} {m : e_M} : s_j X d 204 165 ls st m = s_x X d 204 [.sipush 1, .goto 170] ls st m := by
  rw [s_j, s_g_eq, g_l204]; rfl
theorem u_204_169 {X : e_X} {d : Nat} {ls st : List Value} {m : e_M} : s_j X d 204 169 ls st m = s_x X d 204 [.sipush 0, .jsr 170] ls st m := by
  rw [s_j, s_g_eq, g_l204]; rfl
theorem u_204_170 {X : e_X} {d : Nat} {ls st : List Value} {m : e_M} : s_j X d 204 170 ls st m = s_x X d 204 [.ireturn] ls st m := by
  rw [s_j, s_g_eq, g_l204]; rfl
/-- M.knownOf -/
theorem g_l205 (l : Nat) : g_P 205 l = (g_c205.lookup l).getD [] := rfl
theorem v_205 {X : e_X} {d : Nat} (a0 : Nat) (a1 : Int32) (a2 : Int32) {m : e_M} : s_S X (d + 1) 205 [.ref a0, .int a1, .int a2] m = s_j X d 205 0 [.ref a0, .int a1, .int a2] [] m := rfl
theorem u_205_0 {X : e_X} {d : Nat} {ls st : List Value} {m : e_M} : s_j X d 205 0 ls st m = s_x X d 205 [.iload 1, .ifCond .ne 13, .aload 0, .checkcast 640, .sipush 0, .iaload, .goto 55] ls st m := by
  rw [s_j, s_g_eq, g_l205]; rfl
theorem u_205_13 {X : e_X} {d : Nat} {ls st : List Value} {m : e_M} : s_j X d 205 13 ls st m = s_x X d 205 [.iload 1, .sipush 1, .if_icmp .ne 27, .aload 0, .iload 2, .sipush 2, .invokeinterface 196 3, .goto 55] ls st m := by
  rw [s_j, s_g_eq, g_l205]; rfl
theorem u_205_27 {X : e_X} {d : Nat} {ls st : List Value} {m : e_M} : s_j X d 205 27 ls st m = s_x X d 205 [.iload 1, .sipush 2, .if_icmp .ne 40, .aload 0, .iload 2, .invokeinterface 198 2, .goto 55] ls st m := by
  rw [s_j, s_g_eq, g_l205]; rfl
theorem u_205_40 {X : e_X} {d : Nat} {ls st : List Value} {m : e_M} : s_j X d 205 40 ls st m = s_x X d 205 [.iload 1, .sipush 3, .if_icmp .ne 54, .aload 0, .checkcast 640, .sipush 3, .iaload, .goto 55] ls st m := by
  rw [s_j, s_g_eq, g_l205]; rfl
theorem u_205_54 {X : e_X} {d : Nat} {ls st : List Value} {m : e_M} : s_j X d 205 54 ls st m = s_x X d 205 [.iload 2, .jsr 55] ls st m := by
  rw [s_j, s_g_eq, g_l205]; rfl
theorem u_205_55 {X : e_X} {d : Nat} {ls st : List Value} {m : e_M} : s_j X d 205 55 ls st m = s_x X d 205 [.ireturn] ls st m := by
  rw [s_j, s_g_eq, g_l205]; rfl
/-- M.joined -/
theorem g_l206 (l : Nat) : g_P 206 l = (g_c206.lookup l).getD [] := rfl
theorem v_206 {X : e_X} {d : Nat} (a0 : Int32) (a1 : Int32) (a2 : Int32) {m : e_M} : s_S X (d + 1) 206 [.int a0, .int a1, .int a2] m = s_j X d 206 0 [.int a0, .int a1, .int a2] [] m := rfl
theorem u_206_0 {X : e_X} {d : Nat} {ls st : List Value} {m : e_M} : s_j X d 206 0 ls st m = s_x X d 206 [.iload 0, .lookupswitch 79 #[(10010, 32), (10011, 43), (10012, 54), (10013, 65)]] ls st m := by
  rw [s_j, s_g_eq, g_l206]; rfl
theorem u_206_32 {X : e_X} {d : Nat} {ls st : List Value} {m : e_M} : s_j X d 206 32 ls st m = s_x X d 206 [.iload 1, .iload 2, .if_icmp .ge 41, .sipush 1, .goto 42] ls st m := by
  rw [s_j, s_g_eq, g_l206]; rfl
theorem u_206_41 {X : e_X} {d : Nat} {ls st : List Value} {m : e_M} : s_j X d 206 41 ls st m = s_x X d 206 [.sipush 0, .jsr 42] ls st m := by
  rw [s_j, s_g_eq, g_l206]; rfl
theorem u_206_42 {X : e_X} {d : Nat} {ls st : List Value} {m : e_M} : s_j X d 206 42 ls st m = s_x X d 206 [.ireturn] ls st m := by
  rw [s_j, s_g_eq, g_l206]; rfl
theorem u_206_43 {X : e_X} {d : Nat} {ls st : List Value} {m : e_M} : s_j X d 206 43 ls st m = s_x X d 206 [.iload 1, .iload 2, .if_icmp .ne 52, .sipush 1, .goto 53] ls st m := by
  rw [s_j, s_g_eq, g_l206]; rfl
theorem u_206_52 {X : e_X} {d : Nat} {ls st : List Value} {m : e_M} : s_j X d 206 52 ls st m = s_x X d 206 [.sipush 0, .jsr 53] ls st m := by
  rw [s_j, s_g_eq, g_l206]; rfl
theorem u_206_53 {X : e_X} {d : Nat} {ls st : List Value} {m : e_M} : s_j X d 206 53 ls st m = s_x X d 206 [.ireturn] ls st m := by
  rw [s_j, s_g_eq, g_l206]; rfl
theorem u_206_54 {X : e_X} {d : Nat} {ls st : List Value} {m : e_M} : s_j X d 206 54 ls st m = s_x X d 206 [.iload 1, .iload 2, .if_icmp .le 63, .sipush 1, .goto 64] ls st m := by
  rw [s_j, s_g_eq, g_l206]; rfl
theorem u_206_63 {X : e_X} {d : Nat} {ls st : List Value} {m : e_M} : s_j X d 206 63 ls st m = s_x X d 206 [.sipush 0, .jsr 64] ls st m := by
  rw [s_j, s_g_eq, g_l206]; rfl
theorem u_206_64 {X : e_X} {d : Nat} {ls st : List Value} {m : e_M} : s_j X d 206 64 ls st m = s_x X d 206 [.ireturn] ls st m := by
  rw [s_j, s_g_eq, g_l206]; rfl
theorem u_206_65 {X : e_X} {d : Nat} {ls st : List Value} {m : e_M} : s_j X d 206 65 ls st m = s_x X d 206 [.iload 1, .ifCond .eq 77, .iload 2, .ifCond .eq 77, .sipush 1, .goto 78] ls st m := by
  rw [s_j, s_g_eq, g_l206]; rfl
theorem u_206_77 {X : e_X} {d : Nat} {ls st : List Value} {m : e_M} : s_j X d 206 77 ls st m = s_x X d 206 [.sipush 0, .jsr 78] ls st m := by
  rw [s_j, s_g_eq, g_l206]; rfl
theorem u_206_78 {X : e_X} {d : Nat} {ls st : List Value} {m : e_M} : s_j X d 206 78 ls st m = s_x X d 206 [.ireturn] ls st m := by
  rw [s_j, s_g_eq, g_l206]; rfl
theorem u_206_79 {X : e_X} {d : Nat} {ls st : List Value} {m : e_M} : s_j X d 206 79 ls st m = s_x X d 206 [.iload 1, .ifCond .ne 87, .iload 2, .ifCond .eq 91, .jsr 87] ls st m := by
  rw [s_j, s_g_eq, g_l206]; rfl
theorem u_206_87 {X : e_X} {d : Nat} {ls st : List Value} {m : e_M} : s_j X d 206 87 ls st m = s_x X d 206 [.sipush 1, .goto 92] ls st m := by
  rw [s_j, s_g_eq, g_l206]; rfl
theorem u_206_91 {X : e_X} {d : Nat} {ls st : List Value} {m : e_M} : s_j X d 206 91 ls st m = s_x X d 206 [.sipush 0, .jsr 92] ls st m := by
  rw [s_j, s_g_eq, g_l206]; rfl
theorem u_206_92 {X : e_X} {d : Nat} {ls st : List Value} {m : e_M} : s_j X d 206 92 ls st m = s_x X d 206 [.ireturn] ls st m := by
  rw [s_j, s_g_eq, g_l206]; rfl
/-- M.change -/
theorem g_l207 (l : Nat) : g_P 207 l = (g_c207.lookup l).getD [] := rfl
theorem v_207 {X : e_X} {d : Nat} (a0 : Nat) (a1 : Int32) (a2 : Int32) (a3 : Int32) {m : e_M} : s_S X (d + 1) 207 [.ref a0, .int a1, .int a2, .int a3] m = s_j X d 207 0 [.ref a0, .int a1, .int a2, .int a3, .retAddr 0] [] m := rfl
theorem u_207_0 {X : e_X} {d : Nat} {ls st : List Value} {m : e_M} : s_j X d 207 0 ls st m = s_x X d 207 [.iload 2, .sipush 1, .if_icmp .ne 10, .sipush 39, .goto 30] ls st m := by
  rw [s_j, s_g_eq, g_l207]; rfl
theorem u_207_10 {X : e_X} {d : Nat} {ls st : List Value} {m : e_M} : s_j X d 207 10 ls st m = s_x X d 207 [.iload 2, .sipush 3, .if_icmp .ne 19, .sipush 5, .goto 30] ls st m := by
  rw [s_j, s_g_eq, g_l207]; rfl
theorem u_207_19 {X : e_X} {d : Nat} {ls st : List Value} {m : e_M} : s_j X d 207 19 ls st m = s_x X d 207 [.iload 2, .sipush 4, .if_icmp .ne 28, .sipush 1, .goto 30] ls st m := by
  rw [s_j, s_g_eq, g_l207]; rfl
theorem u_207_28 {X : e_X} {d : Nat} {ls st : List Value} {m : e_M} : s_j X d 207 28 ls st m = s_x X d 207 [.sipush 9, .jsr 30] ls st m := by
  rw [s_j, s_g_eq, g_l207]; rfl
theorem u_207_30 {X : e_X} {d : Nat} {ls st : List Value} {m : e_M} : s_j X d 207 30 ls st m = s_x X d 207 [.istore 4, .aload 0, .iload 1, .invokeinterface 194 2, .ifCond .eq 76, .iload 2, .sipush 1, .sipush 4, .invokeinterface 172 3, .ifCond .eq 76, .iload 3, .sipush 0, .iload 4, .invokeinterface 172 3, .ifCond .eq 76, .aload 0, .sipush 38, .sipush 6, .iload 1, .imul, .iadd, .iload 2, .iadd, .iload 3, .invokeinterface 208 3, .goto 77] ls st m := by
  rw [s_j, s_g_eq, g_l207]; rfl
theorem u_207_76 {X : e_X} {d : Nat} {ls st : List Value} {m : e_M} : s_j X d 207 76 ls st m = s_x X d 207 [.sipush (-1), .jsr 77] ls st m := by
  rw [s_j, s_g_eq, g_l207]; rfl
theorem u_207_77 {X : e_X} {d : Nat} {ls st : List Value} {m : e_M} : s_j X d 207 77 ls st m = s_x X d 207 [.ireturn] ls st m := by
  rw [s_j, s_g_eq, g_l207]; rfl
/-- M.becomes -/
theorem g_l208 (l : Nat) : g_P 208 l = (g_c208.lookup l).getD [] := rfl
theorem v_208 {X : e_X} {d : Nat} (a0 : Nat) (a1 : Int32) (a2 : Int32) {m : e_M} : s_S X (d + 1) 208 [.ref a0, .int a1, .int a2] m = s_j X d 208 0 [.ref a0, .int a1, .int a2, .retAddr 0] [] m := rfl
theorem u_208_0 {X : e_X} {d : Nat} {ls st : List Value} {m : e_M} : s_j X d 208 0 ls st m = s_x X d 208 [.aload 0, .checkcast 640, .iload 1, .iaload, .istore 3, .aload 0, .checkcast 640, .iload 1, .iload 2, .iastore, .iload 3, .ireturn] ls st m := by
  rw [s_j, s_g_eq, g_l208]; rfl
/-- M.remake -/
theorem g_l209 (l : Nat) : g_P 209 l = (g_c209.lookup l).getD [] := rfl
theorem v_209 {X : e_X} {d : Nat} (a0 : Nat) (a1 : Int32) (a2 : Int32) {m : e_M} : s_S X (d + 1) 209 [.ref a0, .int a1, .int a2] m = s_j X d 209 0 [.ref a0, .int a1, .int a2] [] m := rfl
theorem u_209_0 {X : e_X} {d : Nat} {ls st : List Value} {m : e_M} : s_j X d 209 0 ls st m = s_x X d 209 [.aload 0, .iload 1, .invokeinterface 194 2, .ifCond .eq 32, .iload 2, .sipush 1, .sipush 5, .invokeinterface 172 3, .ifCond .eq 32, .aload 0, .sipush 38, .sipush 6, .iload 1, .imul, .iadd, .iload 2, .invokeinterface 208 3, .goto 33] ls st m := by
  rw [s_j, s_g_eq, g_l209]; rfl
theorem u_209_32 {X : e_X} {d : Nat} {ls st : List Value} {m : e_M} : s_j X d 209 32 ls st m = s_x X d 209 [.sipush (-1), .jsr 33] ls st m := by
  rw [s_j, s_g_eq, g_l209]; rfl
theorem u_209_33 {X : e_X} {d : Nat} {ls st : List Value} {m : e_M} : s_j X d 209 33 ls st m = s_x X d 209 [.ireturn] ls st m := by
  rw [s_j, s_g_eq, g_l209]; rfl
/-- M.news -/
theorem g_l210 (l : Nat) : g_P 210 l = (g_c210.lookup l).getD [] := rfl
theorem v_210 {X : e_X} {d : Nat} (a0 : Nat) (a1 : Int32) (a2 : Int32) {m : e_M} : s_S X (d + 1) 210 [.ref a0, .int a1, .int a2] m = s_j X d 210 0 [.ref a0, .int a1, .int a2] [] m := rfl
theorem u_210_0 {X : e_X} {d : Nat} {ls st : List Value} {m : e_M} : s_j X d 210 0 ls st m = s_x X d 210 [.iload 1, .sipush 0, .sipush 15, .invokeinterface 172 3, .ifCond .eq 32, .iload 2, .sipush 0, .sipush 15, .invokeinterface 172 3, .ifCond .eq 32, .aload 0, .sipush 10, .iload 1, .iadd, .iload 2, .invokeinterface 208 3, .goto 33] ls st m := by
  rw [s_j, s_g_eq, g_l210]; rfl
theorem u_210_32 {X : e_X} {d : Nat} {ls st : List Value} {m : e_M} : s_j X d 210 32 ls st m = s_x X d 210 [.sipush (-1), .jsr 33] ls st m := by
  rw [s_j, s_g_eq, g_l210]; rfl
theorem u_210_33 {X : e_X} {d : Nat} {ls st : List Value} {m : e_M} : s_j X d 210 33 ls st m = s_x X d 210 [.ireturn] ls st m := by
  rw [s_j, s_g_eq, g_l210]; rfl
/-- M.home -/
theorem g_l211 (l : Nat) : g_P 211 l = (g_c211.lookup l).getD [] := rfl
theorem v_211 {X : e_X} {d : Nat} (a0 : Nat) (a1 : Int32) (a2 : Int32) (a3 : Int32) {m : e_M} : s_S X (d + 1) 211 [.ref a0, .int a1, .int a2, .int a3] m = s_j X d 211 0 [.ref a0, .int a1, .int a2, .int a3] [] m := rfl
theorem u_211_0 {X : e_X} {d : Nat} {ls st : List Value} {m : e_M} : s_j X d 211 0 ls st m = s_x X d 211 [.iload 1, .invokeinterface 191 1, .ifCond .eq 44, .iload 2, .sipush 0, .sipush 1, .invokeinterface 172 3, .ifCond .eq 44, .iload 3, .invokeinterface 190 1, .ifCond .eq 44, .aload 0, .iload 2, .ifCond .ne 33, .sipush 26, .goto 35] ls st m := by
  rw [s_j, s_g_eq, g_l211]; rfl
theorem u_211_33 {X : e_X} {d : Nat} {ls st : List Value} {m : e_M} : s_j X d 211 33 ls st m = s_x X d 211 [.sipush 32, .jsr 35] ls st m := by
  rw [s_j, s_g_eq, g_l211]; rfl
theorem u_211_35 {X : e_X} {d : Nat} {ls st : List Value} {m : e_M} : s_j X d 211 35 ls st m = s_x X d 211 [.iload 1, .iadd, .iload 3, .invokeinterface 208 3, .goto 45] ls st m := by
  rw [s_j, s_g_eq, g_l211]; rfl
theorem u_211_44 {X : e_X} {d : Nat} {ls st : List Value} {m : e_M} : s_j X d 211 44 ls st m = s_x X d 211 [.sipush (-1), .jsr 45] ls st m := by
  rw [s_j, s_g_eq, g_l211]; rfl
theorem u_211_45 {X : e_X} {d : Nat} {ls st : List Value} {m : e_M} : s_j X d 211 45 ls st m = s_x X d 211 [.ireturn] ls st m := by
  rw [s_j, s_g_eq, g_l211]; rfl
/-- M.homeOf -/
theorem g_l212 (l : Nat) : g_P 212 l = (g_c212.lookup l).getD [] := rfl
theorem v_212 {X : e_X} {d : Nat} (a0 : Nat) (a1 : Int32) (a2 : Int32) {m : e_M} : s_S X (d + 1) 212 [.ref a0, .int a1, .int a2] m = s_j X d 212 0 [.ref a0, .int a1, .int a2] [] m := rfl
theorem u_212_0 {X : e_X} {d : Nat} {ls st : List Value} {m : e_M} : s_j X d 212 0 ls st m = s_x X d 212 [.iload 1, .invokeinterface 191 1, .ifCond .eq 37, .iload 2, .sipush 0, .sipush 1, .invokeinterface 172 3, .ifCond .eq 37, .aload 0, .checkcast 640, .iload 2, .ifCond .ne 29, .sipush 26, .goto 31] ls st m := by
  rw [s_j, s_g_eq, g_l212]; rfl
theorem u_212_29 {X : e_X} {d : Nat} {ls st : List Value} {m : e_M} : s_j X d 212 29 ls st m = s_x X d 212 [.sipush 32, .jsr 31] ls st m := by
  rw [s_j, s_g_eq, g_l212]; rfl
theorem u_212_31 {X : e_X} {d : Nat} {ls st : List Value} {m : e_M} : s_j X d 212 31 ls st m = s_x X d 212 [.iload 1, .iadd, .iaload, .goto 38] ls st m := by
  rw [s_j, s_g_eq, g_l212]; rfl
theorem u_212_37 {X : e_X} {d : Nat} {ls st : List Value} {m : e_M} : s_j X d 212 37 ls st m = s_x X d 212 [.sipush (-1), .jsr 38] ls st m := by
  rw [s_j, s_g_eq, g_l212]; rfl
theorem u_212_38 {X : e_X} {d : Nat} {ls st : List Value} {m : e_M} : s_j X d 212 38 ls st m = s_x X d 212 [.ireturn] ls st m := by
  rw [s_j, s_g_eq, g_l212]; rfl
/-- M.family -/
theorem g_l213 (l : Nat) : g_P 213 l = (g_c213.lookup l).getD [] := rfl
theorem v_213 {X : e_X} {d : Nat} (a0 : Nat) (a1 : Int32) (a2 : Int32) {m : e_M} : s_S X (d + 1) 213 [.ref a0, .int a1, .int a2] m = s_j X d 213 0 [.ref a0, .int a1, .int a2] [] m := rfl
theorem u_213_0 {X : e_X} {d : Nat} {ls st : List Value} {m : e_M} : s_j X d 213 0 ls st m = s_x X d 213 [.iload 1, .sipush 0, .sipush 1, .invokeinterface 172 3, .ifCond .eq 39, .iload 2, .sipush 0, .iload 1, .ifCond .ne 20, .sipush 9, .goto 22] ls st m := by
  rw [s_j, s_g_eq, g_l213]; rfl
theorem u_213_20 {X : e_X} {d : Nat} {ls st : List Value} {m : e_M} : s_j X d 213 20 ls st m = s_x X d 213 [.sipush 40, .jsr 22] ls st m := by
  rw [s_j, s_g_eq, g_l213]; rfl
theorem u_213_22 {X : e_X} {d : Nat} {ls st : List Value} {m : e_M} : s_j X d 213 22 ls st m = s_x X d 213 [.invokeinterface 172 3, .ifCond .eq 39, .aload 0, .sipush 3, .iload 1, .iadd, .iload 2, .invokeinterface 208 3, .goto 40] ls st m := by
  rw [s_j, s_g_eq, g_l213]; rfl
theorem u_213_39 {X : e_X} {d : Nat} {ls st : List Value} {m : e_M} : s_j X d 213 39 ls st m = s_x X d 213 [.sipush (-1), .jsr 40] ls st m := by
  rw [s_j, s_g_eq, g_l213]; rfl
theorem u_213_40 {X : e_X} {d : Nat} {ls st : List Value} {m : e_M} : s_j X d 213 40 ls st m = s_x X d 213 [.ireturn] ls st m := by
  rw [s_j, s_g_eq, g_l213]; rfl
/-- M.ends -/
theorem g_l214 (l : Nat) : g_P 214 l = (g_c214.lookup l).getD [] := rfl
theorem v_214 {X : e_X} {d : Nat} (a0 : Nat) (a1 : Int32) {m : e_M} : s_S X (d + 1) 214 [.ref a0, .int a1] m = s_j X d 214 0 [.ref a0, .int a1] [] m := rfl
theorem u_214_0 {X : e_X} {d : Nat} {ls st : List Value} {m : e_M} : s_j X d 214 0 ls st m = s_x X d 214 [.iload 1, .sipush 1, .sipush 16, .invokeinterface 172 3, .ifCond .ne 14, .sipush (-1), .goto 35] ls st m := by
  rw [s_j, s_g_eq, g_l214]; rfl
theorem u_214_14 {X : e_X} {d : Nat} {ls st : List Value} {m : e_M} : s_j X d 214 14 ls st m = s_x X d 214 [.iload 1, .aload 0, .checkcast 640, .sipush 0, .iaload, .if_icmp .ge 29, .sipush (-4), .goto 35] ls st m := by
  rw [s_j, s_g_eq, g_l214]; rfl
theorem u_214_29 {X : e_X} {d : Nat} {ls st : List Value} {m : e_M} : s_j X d 214 29 ls st m = s_x X d 214 [.aload 0, .sipush 1, .iload 1, .invokeinterface 208 3, .jsr 35] ls st m := by
  rw [s_j, s_g_eq, g_l214]; rfl
theorem u_214_35 {X : e_X} {d : Nat} {ls st : List Value} {m : e_M} : s_j X d 214 35 ls st m = s_x X d 214 [.ireturn] ls st m := by
  rw [s_j, s_g_eq, g_l214]; rfl
/-- M.anew -/
theorem g_l215 (l : Nat) : g_P 215 l = (g_c215.lookup l).getD [] := rfl
theorem v_215 {X : e_X} {d : Nat} (a0 : Nat) {m : e_M} : s_S X (d + 1) 215 [.ref a0] m = s_j X d 215 0 [.ref a0, .retAddr 0] [] m := rfl
theorem u_215_0 {X : e_X} {d : Nat} {ls st : List Value} {m : e_M} : s_j X d 215 0 ls st m = s_x X d 215 [.aload 0, .checkcast 640, .sipush 2, .sipush 0, .iastore, .aload 0, .checkcast 640, .sipush 3, .sipush 5, .iastore, .aload 0, .checkcast 640, .sipush 4, .sipush 0, .iastore, .sipush 0, .istore 1, .jsr 23] ls st m := by
  rw [s_j, s_g_eq, g_l215]; rfl
theorem u_215_23 {X : e_X} {d : Nat} {ls st : List Value} {m : e_M} : s_j X d 215 23 ls st m = s_x X d 215 [.iload 1, .aload 0, .checkcast 640, .sipush 6, .iaload, .if_icmp .ge 47, .aload 0, .iload 1, .sipush 4, .sipush 0, .invokeinterface 192 4, .iinc 1 1, .goto 23] ls st m := by
  rw [s_j, s_g_eq, g_l215]; rfl
theorem u_215_47 {X : e_X} {d : Nat} {ls st : List Value} {m : e_M} : s_j X d 215 47 ls st m = s_x X d 215 [.aload 0, .sipush 0, .sipush 0, .invokeinterface 208 3, .ireturn] ls st m := by
  rw [s_j, s_g_eq, g_l215]; rfl
/-- M.state -/
theorem g_l216 (l : Nat) : g_P 216 l = (g_c216.lookup l).getD [] := rfl
theorem v_216 {X : e_X} {d : Nat} (a0 : Nat) (a1 : Int32) {m : e_M} : s_S X (d + 1) 216 [.ref a0, .int a1] m = s_j X d 216 0 [.ref a0, .int a1] [] m := rfl
theorem u_216_0 {X : e_X} {d : Nat} {ls st : List Value} {m : e_M} : s_j X d 216 0 ls st m = s_x X d 216 [.iload 1, .lookupswitch 132 #[(0, 48), (1, 55), (2, 62), (3, 69), (4, 82), (5, 88), (6, 118), (7, 125)]] ls st m := by
  rw [s_j, s_g_eq, g_l216]; rfl
theorem u_216_48 {X : e_X} {d : Nat} {ls st : List Value} {m : e_M} : s_j X d 216 48 ls st m = s_x X d 216 [.aload 0, .checkcast 640, .sipush 0, .iaload, .ireturn] ls st m := by
  rw [s_j, s_g_eq, g_l216]; rfl
theorem u_216_55 {X : e_X} {d : Nat} {ls st : List Value} {m : e_M} : s_j X d 216 55 ls st m = s_x X d 216 [.aload 0, .checkcast 640, .sipush 1, .iaload, .ireturn] ls st m := by
  rw [s_j, s_g_eq, g_l216]; rfl
theorem u_216_62 {X : e_X} {d : Nat} {ls st : List Value} {m : e_M} : s_j X d 216 62 ls st m = s_x X d 216 [.aload 0, .checkcast 640, .sipush 2, .iaload, .ireturn] ls st m := by
  rw [s_j, s_g_eq, g_l216]; rfl
theorem u_216_69 {X : e_X} {d : Nat} {ls st : List Value} {m : e_M} : s_j X d 216 69 ls st m = s_x X d 216 [.aload 0, .invokeinterface 217 1, .ifCond .eq 80, .sipush 1, .goto 81] ls st m := by
  rw [s_j, s_g_eq, g_l216]; rfl
theorem u_216_80 {X : e_X} {d : Nat} {ls st : List Value} {m : e_M} : s_j X d 216 80 ls st m = s_x X d 216 [.sipush 0, .jsr 81] ls st m := by
  rw [s_j, s_g_eq, g_l216]; rfl
theorem u_216_81 {X : e_X} {d : Nat} {ls st : List Value} {m : e_M} : s_j X d 216 81 ls st m = s_x X d 216 [.ireturn] ls st m := by
  rw [s_j, s_g_eq, g_l216]; rfl
theorem u_216_82 {X : e_X} {d : Nat} {ls st : List Value} {m : e_M} : s_j X d 216 82 ls st m = s_x X d 216 [.aload 0, .sipush 4, .invokeinterface 218 2, .ireturn] ls st m := by
  rw [s_j, s_g_eq, g_l216]; rfl
theorem u_216_88 {X : e_X} {d : Nat} {ls st : List Value} {m : e_M} : s_j X d 216 88 ls st m = s_x X d 216 [.aload 0, .checkcast 640, .sipush 0, .iaload, .sipush 16, .if_icmp .ge 116, .aload 0, .checkcast 640, .sipush 10, .aload 0, .checkcast 640, .sipush 0, .iaload, .iadd, .iaload, .goto 117] ls st m := by
  rw [s_j, s_g_eq, g_l216]; rfl
theorem u_216_116 {X : e_X} {d : Nat} {ls st : List Value} {m : e_M} : s_j X d 216 116 ls st m = s_x X d 216 [.sipush 0, .jsr 117] ls st m := by
  rw [s_j, s_g_eq, g_l216]; rfl
theorem u_216_117 {X : e_X} {d : Nat} {ls st : List Value} {m : e_M} : s_j X d 216 117 ls st m = s_x X d 216 [.ireturn] ls st m := by
  rw [s_j, s_g_eq, g_l216]; rfl
theorem u_216_118 {X : e_X} {d : Nat} {ls st : List Value} {m : e_M} : s_j X d 216 118 ls st m = s_x X d 216 [.aload 0, .checkcast 640, .sipush 3, .iaload, .ireturn] ls st m := by
  rw [s_j, s_g_eq, g_l216]; rfl
theorem u_216_125 {X : e_X} {d : Nat} {ls st : List Value} {m : e_M} : s_j X d 216 125 ls st m = s_x X d 216 [.aload 0, .checkcast 640, .sipush 4, .iaload, .ireturn] ls st m := by
  rw [s_j, s_g_eq, g_l216]; rfl
theorem u_216_132 {X : e_X} {d : Nat} {ls st : List Value} {m : e_M} : s_j X d 216 132 ls st m = s_x X d 216 [.sipush (-1), .ireturn] ls st m := by
  rw [s_j, s_g_eq, g_l216]; rfl
/-- M.isOver -/
theorem g_l217 (l : Nat) : g_P 217 l = (g_c217.lookup l).getD [] := rfl
theorem v_217 {X : e_X} {d : Nat} (a0 : Nat) {m : e_M} : s_S X (d + 1) 217 [.ref a0] m = s_j X d 217 0 [.ref a0] [] m := rfl
theorem u_217_0 {X : e_X} {d : Nat} {ls st : List Value} {m : e_M} : s_j X d 217 0 ls st m = s_x X d 217 [.aload 0, .checkcast 640, .sipush 0, .iaload, .aload 0, .checkcast 640, .sipush 1, .iaload, .if_icmp .lt 19, .sipush 1, .goto 20] ls st m := by
  rw [s_j, s_g_eq, g_l217]; rfl
theorem u_217_19 {X : e_X} {d : Nat} {ls st : List Value} {m : e_M} : s_j X d 217 19 ls st m = s_x X d 217 [.sipush 0, .jsr 20] ls st m := by
  rw [s_j, s_g_eq, g_l217]; rfl
theorem u_217_20 {X : e_X} {d : Nat} {ls st : List Value} {m : e_M} : s_j X d 217 20 ls st m = s_x X d 217 [.ireturn] ls st m := by
  rw [s_j, s_g_eq, g_l217]; rfl
/-- M.those -/
theorem g_l218 (l : Nat) : g_P 218 l = (g_c218.lookup l).getD [] := rfl
theorem v_218 {X : e_X} {d : Nat} (a0 : Nat) (a1 : Int32) {m : e_M} : s_S X (d + 1) 218 [.ref a0, .int a1] m = s_j X d 218 0 [.ref a0, .int a1, .retAddr 0, .retAddr 0] [] m := rfl
theorem u_218_0 {X : e_X} {d : Nat} {ls st : List Value} {m : e_M} : s_j X d 218 0 ls st m = s_x X d 218 [.sipush 0, .istore 2, .sipush 0, .istore 3, .jsr 4] ls st m := by
  rw [s_j, s_g_eq, g_l218]; rfl
theorem u_218_4 {X : e_X} {d : Nat} {ls st : List Value} {m : e_M} : s_j X d 218 4 ls st m = s_x X d 218 [.iload 3, .aload 0, .checkcast 640, .sipush 6, .iaload, .if_icmp .ge 40, .iload 2, .aload 0, .iload 3, .iload 1, .invokeinterface 196 3, .ifCond .le 31, .sipush 1, .iload 3, .ishl, .goto 32] ls st m := by
  rw [s_j, s_g_eq, g_l218]; rfl
theorem u_218_31 {X : e_X} {d : Nat} {ls st : List Value} {m : e_M} : s_j X d 218 31 ls st m = s_x X d 218 [.sipush 0, .jsr 32] ls st m := by
  rw [s_j, s_g_eq, g_l218]; rfl
theorem u_218_32 {X : e_X} {d : Nat} {ls st : List Value} {m : e_M} : s_j X d 218 32 ls st m = s_x X d 218 [.ior, .istore 2, .iinc 3 1, .goto 4] ls st m := by
  rw [s_j, s_g_eq, g_l218]; rfl
theorem u_218_40 {X : e_X} {d : Nat} {ls st : List Value} {m : e_M} : s_j X d 218 40 ls st m = s_x X d 218 [.iload 2, .ireturn] ls st m := by
  rw [s_j, s_g_eq, g_l218]; rfl
/-- M.year -/
theorem g_l219 (l : Nat) : g_P 219 l = (g_c219.lookup l).getD [] := rfl
theorem v_219 {X : e_X} {d : Nat} (a0 : Nat) {m : e_M} : s_S X (d + 1) 219 [.ref a0] m = s_j X d 219 0 [.ref a0] [] m := rfl
theorem u_219_0 {X : e_X} {d : Nat} {ls st : List Value} {m : e_M} : s_j X d 219 0 ls st m = s_x X d 219 [.aload 0, .invokeinterface 217 1, .ifCond .eq 12, .sipush (-4), .goto 17] ls st m := by
  rw [s_j, s_g_eq, g_l219]; rfl
theorem u_219_12 {X : e_X} {d : Nat} {ls st : List Value} {m : e_M} : s_j X d 219 12 ls st m = s_x X d 219 [.aload 0, .sipush (-1), .invokeinterface 220 2, .jsr 17] ls st m := by
  rw [s_j, s_g_eq, g_l219]; rfl
theorem u_219_17 {X : e_X} {d : Nat} {ls st : List Value} {m : e_M} : s_j X d 219 17 ls st m = s_x X d 219 [.ireturn] ls st m := by
  rw [s_j, s_g_eq, g_l219]; rfl
/-- M.goesBy -/
theorem g_l220 (l : Nat) : g_P 220 l = (g_c220.lookup l).getD [] := rfl
theorem v_220 {X : e_X} {d : Nat} (a0 : Nat) (a1 : Int32) {m : e_M} : s_S X (d + 1) 220 [.ref a0, .int a1] m = s_j X d 220 0 [.ref a0, .int a1, .retAddr 0, .retAddr 0] [] m := rfl
theorem u_220_0 {X : e_X} {d : Nat} {ls st : List Value} {m : e_M} : s_j X d 220 0 ls st m = s_x X d 220 [.aload 0, .checkcast 640, .sipush 3, .aload 0, .checkcast 640, .sipush 0, .iaload, .sipush 16, .if_icmp .ge 42, .aload 0, .checkcast 640, .sipush 3, .iaload, .aload 0, .checkcast 640, .sipush 10, .aload 0, .checkcast 640, .sipush 0, .iaload, .iadd, .iaload, .invokeinterface 221 2, .goto 48] ls st m := by
  rw [s_j, s_g_eq, g_l220]; rfl
theorem u_220_42 {X : e_X} {d : Nat} {ls st : List Value} {m : e_M} : s_j X d 220 42 ls st m = s_x X d 220 [.aload 0, .checkcast 640, .sipush 3, .iaload, .jsr 48] ls st m := by
  rw [s_j, s_g_eq, g_l220]; rfl
theorem u_220_48 {X : e_X} {d : Nat} {ls st : List Value} {m : e_M} : s_j X d 220 48 ls st m = s_x X d 220 [.iastore, .iload 1, .ifCond .ge 60, .aload 0, .invokeinterface 223 1, .goto 63] ls st m := by
  rw [s_j, s_g_eq, g_l220]; rfl
theorem u_220_60 {X : e_X} {d : Nat} {ls st : List Value} {m : e_M} : s_j X d 220 60 ls st m = s_x X d 220 [.iload 1, .sipush 1, .isub, .jsr 63] ls st m := by
  rw [s_j, s_g_eq, g_l220]; rfl
theorem u_220_63 {X : e_X} {d : Nat} {ls st : List Value} {m : e_M} : s_j X d 220 63 ls st m = s_x X d 220 [.istore 2, .iload 2, .ifCond .lt 76, .aload 0, .iload 2, .invokeinterface 224 2, .goto 77] ls st m := by
  rw [s_j, s_g_eq, g_l220]; rfl
theorem u_220_76 {X : e_X} {d : Nat} {ls st : List Value} {m : e_M} : s_j X d 220 76 ls st m = s_x X d 220 [.sipush 0, .jsr 77] ls st m := by
  rw [s_j, s_g_eq, g_l220]; rfl
theorem u_220_77 {X : e_X} {d : Nat} {ls st : List Value} {m : e_M} : s_j X d 220 77 ls st m = s_x X d 220 [.istore 3, .iload 3, .aload 0, .invokeinterface 226 1, .iadd, .istore 3, .aload 0, .checkcast 640, .sipush 0, .dup2, .iaload, .sipush 1, .iadd, .iastore, .aload 0, .checkcast 640, .sipush 2, .dup2, .iaload, .iload 3, .iadd, .iastore, .iload 3, .ireturn] ls st m := by
  rw [s_j, s_g_eq, g_l220]; rfl
/-- M.moodBy -/
theorem g_l221 (l : Nat) : g_P 221 l = (g_c221.lookup l).getD [] := rfl
theorem v_221 {X : e_X} {d : Nat} (a0 : Int32) (a1 : Int32) {m : e_M} : s_S X (d + 1) 221 [.int a0, .int a1] m = s_j X d 221 0 [.int a0, .int a1, .retAddr 0, .retAddr 0, .retAddr 0] [] m := rfl
theorem u_221_0 {X : e_X} {d : Nat} {ls st : List Value} {m : e_M} : s_j X d 221 0 ls st m = s_x X d 221 [.iload 1, .sipush 4, .idiv, .istore 2, .iload 0, .sipush 5, .if_icmp .ge 15, .sipush 5, .iload 0, .isub, .goto 18] ls st m := by
  rw [s_j, s_g_eq, g_l221]; rfl
theorem u_221_15 {X : e_X} {d : Nat} {ls st : List Value} {m : e_M} : s_j X d 221 15 ls st m = s_x X d 221 [.iload 0, .sipush 5, .isub, .jsr 18] ls st m := by
  rw [s_j, s_g_eq, g_l221]; rfl
theorem u_221_18 {X : e_X} {d : Nat} {ls st : List Value} {m : e_M} : s_j X d 221 18 ls st m = s_x X d 221 [.istore 3, .iload 3, .iload 2, .if_icmp .ge 28, .iload 3, .goto 29] ls st m := by
  rw [s_j, s_g_eq, g_l221]; rfl
theorem u_221_28 {X : e_X} {d : Nat} {ls st : List Value} {m : e_M} : s_j X d 221 28 ls st m = s_x X d 221 [.iload 2, .jsr 29] ls st m := by
  rw [s_j, s_g_eq, g_l221]; rfl
theorem u_221_29 {X : e_X} {d : Nat} {ls st : List Value} {m : e_M} : s_j X d 221 29 ls st m = s_x X d 221 [.istore 4, .iload 1, .sipush 4, .irem, .lookupswitch 95 #[(0, 60), (1, 69), (2, 78)]] ls st m := by
  rw [s_j, s_g_eq, g_l221]; rfl
theorem u_221_60 {X : e_X} {d : Nat} {ls st : List Value} {m : e_M} : s_j X d 221 60 ls st m = s_x X d 221 [.iload 0, .iload 2, .iadd, .sipush 9, .invokeinterface 222 2, .ireturn] ls st m := by
  rw [s_j, s_g_eq, g_l221]; rfl
theorem u_221_69 {X : e_X} {d : Nat} {ls st : List Value} {m : e_M} : s_j X d 221 69 ls st m = s_x X d 221 [.iload 0, .iload 2, .isub, .sipush 9, .invokeinterface 222 2, .ireturn] ls st m := by
  rw [s_j, s_g_eq, g_l221]; rfl
theorem u_221_78 {X : e_X} {d : Nat} {ls st : List Value} {m : e_M} : s_j X d 221 78 ls st m = s_x X d 221 [.iload 0, .sipush 5, .if_icmp .ge 90, .iload 0, .iload 4, .iadd, .goto 94] ls st m := by
  rw [s_j, s_g_eq, g_l221]; rfl
theorem u_221_90 {X : e_X} {d : Nat} {ls st : List Value} {m : e_M} : s_j X d 221 90 ls st m = s_x X d 221 [.iload 0, .iload 4, .isub, .jsr 94] ls st m := by
  rw [s_j, s_g_eq, g_l221]; rfl
theorem u_221_94 {X : e_X} {d : Nat} {ls st : List Value} {m : e_M} : s_j X d 221 94 ls st m = s_x X d 221 [.ireturn] ls st m := by
  rw [s_j, s_g_eq, g_l221]; rfl
theorem u_221_95 {X : e_X} {d : Nat} {ls st : List Value} {m : e_M} : s_j X d 221 95 ls st m = s_x X d 221 [.iload 0, .ireturn] ls st m := by
  rw [s_j, s_g_eq, g_l221]; rfl
/-- M.held -/
theorem g_l222 (l : Nat) : g_P 222 l = (g_c222.lookup l).getD [] := rfl
theorem v_222 {X : e_X} {d : Nat} (a0 : Int32) (a1 : Int32) {m : e_M} : s_S X (d + 1) 222 [.int a0, .int a1] m = s_j X d 222 0 [.int a0, .int a1] [] m := rfl
theorem u_222_0 {X : e_X} {d : Nat} {ls st : List Value} {m : e_M} : s_j X d 222 0 ls st m = s_x X d 222 [.iload 0, .ifCond .ge 8, .sipush 0, .goto 18] ls st m := by
  rw [s_j, s_g_eq, g_l222]; rfl
theorem u_222_8 {X : e_X} {d : Nat} {ls st : List Value} {m : e_M} : s_j X d 222 8 ls st m = s_x X d 222 [.iload 0, .iload 1, .if_icmp .le 17, .iload 1, .goto 18] ls st m := by
  rw [s_j, s_g_eq, g_l222]; rfl
theorem u_222_17 {X : e_X} {d : Nat} {ls st : List Value} {m : e_M} : s_j X d 222 17 ls st m = s_x X d 222 [.iload 0, .jsr 18] ls st m := by
  rw [s_j, s_g_eq, g_l222]; rfl
theorem u_222_18 {X : e_X} {d : Nat} {ls st : List Value} {m : e_M} : s_j X d 222 18 ls st m = s_x X d 222 [.ireturn] ls st m := by
  rw [s_j, s_g_eq, g_l222]; rfl
/-- M.restOne -/
theorem g_l223 (l : Nat) : g_P 223 l = (g_c223.lookup l).getD [] := rfl
theorem v_223 {X : e_X} {d : Nat} (a0 : Nat) {m : e_M} : s_S X (d + 1) 223 [.ref a0] m = s_j X d 223 0 [.ref a0, .retAddr 0] [] m := rfl
theorem u_223_0 {X : e_X} {d : Nat} {ls st : List Value} {m : e_M} : s_j X d 223 0 ls st m = s_x X d 223 [.sipush 0, .istore 1, .jsr 2] ls st m := by
  rw [s_j, s_g_eq, g_l223]; rfl
theorem u_223_2 {X : e_X} {d : Nat} {ls st : List Value} {m : e_M} : s_j X d 223 2 ls st m = s_x X d 223 [.iload 1, .aload 0, .checkcast 640, .sipush 6, .iaload, .if_icmp .ge 29, .aload 0, .iload 1, .invokeinterface 199 2, .ifCond .eq 23, .iload 1, .ireturn] ls st m := by
  rw [s_j, s_g_eq, g_l223]; rfl
theorem u_223_23 {X : e_X} {d : Nat} {ls st : List Value} {m : e_M} : s_j X d 223 23 ls st m = s_x X d 223 [.iinc 1 1, .goto 2] ls st m := by
  rw [s_j, s_g_eq, g_l223]; rfl
theorem u_223_29 {X : e_X} {d : Nat} {ls st : List Value} {m : e_M} : s_j X d 223 29 ls st m = s_x X d 223 [.sipush (-1), .ireturn] ls st m := by
  rw [s_j, s_g_eq, g_l223]; rfl
/-- M.meets -/
theorem g_l224 (l : Nat) : g_P 224 l = (g_c224.lookup l).getD [] := rfl
theorem v_224 {X : e_X} {d : Nat} (a0 : Nat) (a1 : Int32) {m : e_M} : s_S X (d + 1) 224 [.ref a0, .int a1] m = s_j X d 224 0 [.ref a0, .int a1, .retAddr 0] [] m := rfl
theorem u_224_0 {X : e_X} {d : Nat} {ls st : List Value} {m : e_M} : s_j X d 224 0 ls st m = s_x X d 224 [.aload 0, .iload 1, .invokeinterface 200 2, .istore 2, .iload 2, .ifCond .ne 16, .aload 0, .iload 1, .invokeinterface 225 2, .ireturn] ls st m := by
  rw [s_j, s_g_eq, g_l224]; rfl
theorem u_224_16 {X : e_X} {d : Nat} {ls st : List Value} {m : e_M} : s_j X d 224 16 ls st m = s_x X d 224 [.iload 2, .sipush 2, .if_icmp .ne 57, .aload 0, .iload 1, .sipush 4, .invokeinterface 196 3, .sipush 1, .if_icmp .ne 57, .aload 0, .iload 1, .sipush 4, .sipush 0, .invokeinterface 192 4, .aload 0, .checkcast 640, .sipush 3, .aload 0, .checkcast 640, .sipush 3, .iaload, .sipush 1, .iadd, .sipush 9, .invokeinterface 222 2, .iastore, .jsr 57] ls st m := by
  rw [s_j, s_g_eq, g_l224]; rfl
theorem u_224_57 {X : e_X} {d : Nat} {ls st : List Value} {m : e_M} : s_j X d 224 57 ls st m = s_x X d 224 [.sipush 0, .ireturn] ls st m := by
  rw [s_j, s_g_eq, g_l224]; rfl
/-- M.sits -/
theorem g_l225 (l : Nat) : g_P 225 l = (g_c225.lookup l).getD [] := rfl
theorem v_225 {X : e_X} {d : Nat} (a0 : Nat) (a1 : Int32) {m : e_M} : s_S X (d + 1) 225 [.ref a0, .int a1] m = s_j X d 225 0 [.ref a0, .int a1, .retAddr 0] [] m := rfl
theorem u_225_0 {X : e_X} {d : Nat} {ls st : List Value} {m : e_M} : s_j X d 225 0 ls st m = s_x X d 225 [.aload 0, .iload 1, .sipush 4, .invokeinterface 196 3, .sipush 1, .if_icmp .ne 12, .sipush 0, .ireturn] ls st m := by
  rw [s_j, s_g_eq, g_l225]; rfl
theorem u_225_12 {X : e_X} {d : Nat} {ls st : List Value} {m : e_M} : s_j X d 225 12 ls st m = s_x X d 225 [.aload 0, .iload 1, .invokeinterface 199 2, .istore 2, .aload 0, .checkcast 640, .sipush 3, .aload 0, .checkcast 640, .sipush 3, .iaload, .iload 2, .ifCond .eq 43, .aload 0, .iload 1, .invokeinterface 198 2, .sipush 3, .idiv, .goto 44] ls st m := by
  rw [s_j, s_g_eq, g_l225]; rfl
theorem u_225_43 {X : e_X} {d : Nat} {ls st : List Value} {m : e_M} : s_j X d 225 43 ls st m = s_x X d 225 [.sipush 1, .jsr 44] ls st m := by
  rw [s_j, s_g_eq, g_l225]; rfl
theorem u_225_44 {X : e_X} {d : Nat} {ls st : List Value} {m : e_M} : s_j X d 225 44 ls st m = s_x X d 225 [.isub, .sipush 9, .invokeinterface 222 2, .iastore, .aload 0, .iload 1, .sipush 4, .iload 2, .ifCond .eq 62, .sipush 1, .goto 63] ls st m := by
  rw [s_j, s_g_eq, g_l225]; rfl
theorem u_225_62 {X : e_X} {d : Nat} {ls st : List Value} {m : e_M} : s_j X d 225 62 ls st m = s_x X d 225 [.sipush 0, .jsr 63] ls st m := by
  rw [s_j, s_g_eq, g_l225]; rfl
theorem u_225_63 {X : e_X} {d : Nat} {ls st : List Value} {m : e_M} : s_j X d 225 63 ls st m = s_x X d 225 [.invokeinterface 192 4, .iload 2, .ifCond .eq 74, .sipush 1, .goto 75] ls st m := by
  rw [s_j, s_g_eq, g_l225]; rfl
theorem u_225_74 {X : e_X} {d : Nat} {ls st : List Value} {m : e_M} : s_j X d 225 74 ls st m = s_x X d 225 [.sipush 0, .jsr 75] ls st m := by
  rw [s_j, s_g_eq, g_l225]; rfl
theorem u_225_75 {X : e_X} {d : Nat} {ls st : List Value} {m : e_M} : s_j X d 225 75 ls st m = s_x X d 225 [.ireturn] ls st m := by
  rw [s_j, s_g_eq, g_l225]; rfl
/-- M.walksOn -/
theorem g_l226 (l : Nat) : g_P 226 l = (g_c226.lookup l).getD [] := rfl
theorem v_226 {X : e_X} {d : Nat} (a0 : Nat) {m : e_M} : s_S X (d + 1) 226 [.ref a0] m = s_j X d 226 0 [.ref a0, .retAddr 0, .retAddr 0] [] m := rfl
theorem u_226_0 {X : e_X} {d : Nat} {ls st : List Value} {m : e_M} : s_j X d 226 0 ls st m = s_x X d 226 [.aload 0, .checkcast 640, .sipush 3, .iaload, .sipush 1, .iadd, .istore 1, .sipush 0, .istore 2, .jsr 11] ls st m := by
  rw [s_j, s_g_eq, g_l226]; rfl
theorem u_226_11 {X : e_X} {d : Nat} {ls st : List Value} {m : e_M} : s_j X d 226 11 ls st m = s_x X d 226 [.iload 2, .iload 1, .if_icmp .ge 56, .aload 0, .checkcast 640, .sipush 4, .iaload, .sipush 40, .if_icmp .ge 56, .aload 0, .aload 0, .checkcast 640, .sipush 4, .iaload, .invokeinterface 227 2, .ifCond .eq 56, .aload 0, .checkcast 640, .sipush 4, .dup2, .iaload, .sipush 1, .iadd, .iastore, .iinc 2 1, .goto 11] ls st m := by
  rw [s_j, s_g_eq, g_l226]; rfl
theorem u_226_56 {X : e_X} {d : Nat} {ls st : List Value} {m : e_M} : s_j X d 226 56 ls st m = s_x X d 226 [.sipush 2, .iload 2, .imul, .ireturn] ls st m := by
  rw [s_j, s_g_eq, g_l226]; rfl
/-- M.isThere -/
theorem g_l227 (l : Nat) : g_P 227 l = (g_c227.lookup l).getD [] := rfl
theorem v_227 {X : e_X} {d : Nat} (a0 : Nat) (a1 : Int32) {m : e_M} : s_S X (d + 1) 227 [.ref a0, .int a1] m = s_j X d 227 0 [.ref a0, .int a1, .retAddr 0, .retAddr 0] [] m := rfl
theorem u_227_0 {X : e_X} {d : Nat} {ls st : List Value} {m : e_M} : s_j X d 227 0 ls st m = s_x X d 227 [.sipush 0, .istore 2, .sipush 0, .istore 3, .jsr 4] ls st m := by
  rw [s_j, s_g_eq, g_l227]; rfl
theorem u_227_4 {X : e_X} {d : Nat} {ls st : List Value} {m : e_M} : s_j X d 227 4 ls st m = s_x X d 227 [.iload 3, .aload 0, .checkcast 640, .sipush 6, .iaload, .if_icmp .ge 50, .iload 2, .ifCond .ne 38, .aload 0, .iload 3, .sipush 4, .invokeinterface 196 3, .sipush 1, .if_icmp .ne 42, .aload 0, .iload 3, .iload 1, .invokeinterface 228 3, .ifCond .eq 42, .jsr 38] ls st m := by
  rw [s_j, s_g_eq, g_l227]; rfl
theorem u_227_38 {X : e_X} {d : Nat} {ls st : List Value} {m : e_M} : s_j X d 227 38 ls st m = s_x X d 227 [.sipush 1, .goto 43] ls st m := by
  rw [s_j, s_g_eq, g_l227]; rfl
theorem u_227_42 {X : e_X} {d : Nat} {ls st : List Value} {m : e_M} : s_j X d 227 42 ls st m = s_x X d 227 [.sipush 0, .jsr 43] ls st m := by
  rw [s_j, s_g_eq, g_l227]; rfl
theorem u_227_43 {X : e_X} {d : Nat} {ls st : List Value} {m : e_M} : s_j X d 227 43 ls st m = s_x X d 227 [.istore 2, .iinc 3 1, .goto 4] ls st m := by
  rw [s_j, s_g_eq, g_l227]; rfl
theorem u_227_50 {X : e_X} {d : Nat} {ls st : List Value} {m : e_M} : s_j X d 227 50 ls st m = s_x X d 227 [.iload 2, .ireturn] ls st m := by
  rw [s_j, s_g_eq, g_l227]; rfl
/-- M.isSpanned -/
theorem g_l228 (l : Nat) : g_P 228 l = (g_c228.lookup l).getD [] := rfl
theorem v_228 {X : e_X} {d : Nat} (a0 : Nat) (a1 : Int32) (a2 : Int32) {m : e_M} : s_S X (d + 1) 228 [.ref a0, .int a1, .int a2] m = s_j X d 228 0 [.ref a0, .int a1, .int a2] [] m := rfl
theorem u_228_0 {X : e_X} {d : Nat} {ls st : List Value} {m : e_M} : s_j X d 228 0 ls st m = s_x X d 228 [.iload 2, .aload 0, .iload 1, .sipush 1, .invokeinterface 196 3, .aload 0, .iload 1, .sipush 1, .invokeinterface 196 3, .aload 0, .iload 1, .invokeinterface 195 2, .iadd, .sipush 1, .isub, .invokeinterface 172 3, .ireturn] ls st m := by
  rw [s_j, s_g_eq, g_l228]; rfl
/-- M.on -/
theorem g_l229 (l : Nat) : g_P 229 l = (g_c229.lookup l).getD [] := rfl
theorem v_229 {X : e_X} {d : Nat} (a0 : Nat) (a1 : Int32) {m : e_M} : s_S X (d + 1) 229 [.ref a0, .int a1] m = s_j X d 229 0 [.ref a0, .int a1, .retAddr 0] [] m := rfl
theorem u_229_0 {X : e_X} {d : Nat} {ls st : List Value} {m : e_M} : s_j X d 229 0 ls st m = s_x X d 229 [.iload 1, .sipush 0, .sipush 16, .invokeinterface 172 3, .ifCond .ne 12, .sipush (-1), .ireturn] ls st m := by
  rw [s_j, s_g_eq, g_l229]; rfl
theorem u_229_12 {X : e_X} {d : Nat} {ls st : List Value} {m : e_M} : s_j X d 229 12 ls st m = s_x X d 229 [.aload 0, .invokeinterface 230 1, .aload 0, .iload 1, .invokeinterface 231 2, .istore 2, .aload 0, .invokeinterface 232 1, .iload 2, .ireturn] ls st m := by
  rw [s_j, s_g_eq, g_l229]; rfl
/-- M.layDown -/
theorem g_l230 (l : Nat) : g_P 230 l = (g_c230.lookup l).getD [] := rfl
theorem v_230 {X : e_X} {d : Nat} (a0 : Nat) {m : e_M} : s_S X (d + 1) 230 [.ref a0] m = s_j X d 230 0 [.ref a0, .retAddr 0] [] m := rfl
theorem u_230_0 {X : e_X} {d : Nat} {ls st : List Value} {m : e_M} : s_j X d 230 0 ls st m = s_x X d 230 [.sipush 0, .istore 1, .jsr 2] ls st m := by
  rw [s_j, s_g_eq, g_l230]; rfl
theorem u_230_2 {X : e_X} {d : Nat} {ls st : List Value} {m : e_M} : s_j X d 230 2 ls st m = s_x X d 230 [.iload 1, .sipush 74, .if_icmp .ge 26, .aload 0, .checkcast 642, .iload 1, .aload 0, .checkcast 640, .iload 1, .iaload, .iastore, .iinc 1 1, .goto 2] ls st m := by
  rw [s_j, s_g_eq, g_l230]; rfl
theorem u_230_26 {X : e_X} {d : Nat} {ls st : List Value} {m : e_M} : s_j X d 230 26 ls st m = s_x X d 230 [.return_] ls st m := by
  rw [s_j, s_g_eq, g_l230]; rfl
/-- M.restOf -/
theorem g_l231 (l : Nat) : g_P 231 l = (g_c231.lookup l).getD [] := rfl
theorem v_231 {X : e_X} {d : Nat} (a0 : Nat) (a1 : Int32) {m : e_M} : s_S X (d + 1) 231 [.ref a0, .int a1] m = s_j X d 231 0 [.ref a0, .int a1, .retAddr 0, .retAddr 0] [] m := rfl
theorem u_231_0 {X : e_X} {d : Nat} {ls st : List Value} {m : e_M} : s_j X d 231 0 ls st m = s_x X d 231 [.sipush 0, .istore 2, .sipush 0, .istore 3, .jsr 4] ls st m := by
  rw [s_j, s_g_eq, g_l231]; rfl
theorem u_231_4 {X : e_X} {d : Nat} {ls st : List Value} {m : e_M} : s_j X d 231 4 ls st m = s_x X d 231 [.iload 3, .iload 1, .if_icmp .ge 30, .aload 0, .invokeinterface 217 1, .ifCond .ne 30, .iload 2, .aload 0, .sipush (-1), .invokeinterface 220 2, .iadd, .istore 2, .iinc 3 1, .goto 4] ls st m := by
  rw [s_j, s_g_eq, g_l231]; rfl
theorem u_231_30 {X : e_X} {d : Nat} {ls st : List Value} {m : e_M} : s_j X d 231 30 ls st m = s_x X d 231 [.iload 2, .ireturn] ls st m := by
  rw [s_j, s_g_eq, g_l231]; rfl
/-- M.layBack -/
theorem g_l232 (l : Nat) : g_P 232 l = (g_c232.lookup l).getD [] := rfl
theorem v_232 {X : e_X} {d : Nat} (a0 : Nat) {m : e_M} : s_S X (d + 1) 232 [.ref a0] m = s_j X d 232 0 [.ref a0, .retAddr 0] [] m := rfl
theorem u_232_0 {X : e_X} {d : Nat} {ls st : List Value} {m : e_M} : s_j X d 232 0 ls st m = s_x X d 232 [.sipush 0, .istore 1, .jsr 2] ls st m := by
  rw [s_j, s_g_eq, g_l232]; rfl
theorem u_232_2 {X : e_X} {d : Nat} {ls st : List Value} {m : e_M} : s_j X d 232 2 ls st m = s_x X d 232 [.iload 1, .sipush 74, .if_icmp .ge 26, .aload 0, .checkcast 640, .iload 1, .aload 0, .checkcast 642, .iload 1, .iaload, .iastore, .iinc 1 1, .goto 2] ls st m := by
  rw [s_j, s_g_eq, g_l232]; rfl
theorem u_232_26 {X : e_X} {d : Nat} {ls st : List Value} {m : e_M} : s_j X d 232 26 ls st m = s_x X d 232 [.return_] ls st m := by
  rw [s_j, s_g_eq, g_l232]; rfl
/-- M.when -/
theorem g_l233 (l : Nat) : g_P 233 l = (g_c233.lookup l).getD [] := rfl
theorem v_233 {X : e_X} {d : Nat} (a0 : Nat) (a1 : Int32) {m : e_M} : s_S X (d + 1) 233 [.ref a0, .int a1] m = s_j X d 233 0 [.ref a0, .int a1, .retAddr 0, .retAddr 0, .retAddr 0] [] m := rfl
theorem u_233_0 {X : e_X} {d : Nat} {ls st : List Value} {m : e_M} : s_j X d 233 0 ls st m = s_x X d 233 [.aload 0, .iload 1, .invokeinterface 194 2, .ifCond .ne 10, .sipush (-1), .ireturn] ls st m := by
  rw [s_j, s_g_eq, g_l233]; rfl
theorem u_233_10 {X : e_X} {d : Nat} {ls st : List Value} {m : e_M} : s_j X d 233 10 ls st m = s_x X d 233 [.aload 0, .invokeinterface 230 1, .sipush (-3), .istore 2, .aload 0, .iload 1, .sipush 4, .invokeinterface 196 3, .ifCond .ne 30, .sipush 1, .goto 31] ls st m := by
  rw [s_j, s_g_eq, g_l233]; rfl
theorem u_233_30 {X : e_X} {d : Nat} {ls st : List Value} {m : e_M} : s_j X d 233 30 ls st m = s_x X d 233 [.sipush 0, .jsr 31] ls st m := by
  rw [s_j, s_g_eq, g_l233]; rfl
theorem u_233_31 {X : e_X} {d : Nat} {ls st : List Value} {m : e_M} : s_j X d 233 31 ls st m = s_x X d 233 [.istore 3, .jsr 32] ls st m := by
  rw [s_j, s_g_eq, g_l233]; rfl
theorem u_233_32 {X : e_X} {d : Nat} {ls st : List Value} {m : e_M} : s_j X d 233 32 ls st m = s_x X d 233 [.iload 3, .ifCond .eq 91, .aload 0, .invokeinterface 217 1, .ifCond .ne 91, .aload 0, .sipush (-1), .invokeinterface 220 2, .istore 4, .aload 0, .iload 1, .sipush 4, .invokeinterface 196 3, .ifCond .ne 63, .sipush 1, .goto 64] ls st m := by
  rw [s_j, s_g_eq, g_l233]; rfl
theorem u_233_63 {X : e_X} {d : Nat} {ls st : List Value} {m : e_M} : s_j X d 233 63 ls st m = s_x X d 233 [.sipush 0, .jsr 64] ls st m := by
  rw [s_j, s_g_eq, g_l233]; rfl
theorem u_233_64 {X : e_X} {d : Nat} {ls st : List Value} {m : e_M} : s_j X d 233 64 ls st m = s_x X d 233 [.istore 3, .iload 3, .ifCond .ne 74, .iload 4, .ifCond .ge 79, .jsr 74] ls st m := by
  rw [s_j, s_g_eq, g_l233]; rfl
theorem u_233_74 {X : e_X} {d : Nat} {ls st : List Value} {m : e_M} : s_j X d 233 74 ls st m = s_x X d 233 [.sipush (-3), .goto 87] ls st m := by
  rw [s_j, s_g_eq, g_l233]; rfl
theorem u_233_79 {X : e_X} {d : Nat} {ls st : List Value} {m : e_M} : s_j X d 233 79 ls st m = s_x X d 233 [.aload 0, .checkcast 640, .sipush 0, .iaload, .sipush 1, .isub, .jsr 87] ls st m := by
  rw [s_j, s_g_eq, g_l233]; rfl
theorem u_233_87 {X : e_X} {d : Nat} {ls st : List Value} {m : e_M} : s_j X d 233 87 ls st m = s_x X d 233 [.istore 2, .goto 32] ls st m := by
  rw [s_j, s_g_eq, g_l233]; rfl
theorem u_233_91 {X : e_X} {d : Nat} {ls st : List Value} {m : e_M} : s_j X d 233 91 ls st m = s_x X d 233 [.aload 0, .invokeinterface 232 1, .iload 2, .ireturn] ls st m := by
  rw [s_j, s_g_eq, g_l233]; rfl
/-- M.widthFor -/
theorem g_l234 (l : Nat) : g_P 234 l = (g_c234.lookup l).getD [] := rfl
theorem v_234 {X : e_X} {d : Nat} (a0 : Nat) (a1 : Int32) {m : e_M} : s_S X (d + 1) 234 [.ref a0, .int a1] m = s_j X d 234 0 [.ref a0, .int a1] [] m := rfl
theorem u_234_0 {X : e_X} {d : Nat} {ls st : List Value} {m : e_M} : s_j X d 234 0 ls st m = s_x X d 234 [.aload 0, .iload 1, .sipush 2, .sipush 9, .invokeinterface 235 4, .ireturn] ls st m := by
  rw [s_j, s_g_eq, g_l234]; rfl
/-- M.bestFor -/
theorem g_l235 (l : Nat) : g_P 235 l = (g_c235.lookup l).getD [] := rfl
theorem v_235 {X : e_X} {d : Nat} (a0 : Nat) (a1 : Int32) (a2 : Int32) (a3 : Int32) {m : e_M} : s_S X (d + 1) 235 [.ref a0, .int a1, .int a2, .int a3] m = s_j X d 235 0 [.ref a0, .int a1, .int a2, .int a3, .retAddr 0, .retAddr 0, .retAddr 0, .retAddr 0] [] m := rfl
theorem u_235_0 {X : e_X} {d : Nat} {ls st : List Value} {m : e_M} : s_j X d 235 0 ls st m = s_x X d 235 [.aload 0, .iload 1, .invokeinterface 194 2, .ifCond .ne 10, .sipush (-1), .ireturn] ls st m := by
  rw [s_j, s_g_eq, g_l235]; rfl
theorem u_235_10 {X : e_X} {d : Nat} {ls st : List Value} {m : e_M} : s_j X d 235 10 ls st m = s_x X d 235 [.sipush 0, .istore 4, .sipush (-1), .istore 5, .aload 0, .invokeinterface 230 1, .sipush 0, .istore 6, .jsr 23] ls st m := by
  rw [s_j, s_g_eq, g_l235]; rfl
theorem u_235_23 {X : e_X} {d : Nat} {ls st : List Value} {m : e_M} : s_j X d 235 23 ls st m = s_x X d 235 [.iload 6, .iload 3, .if_icmp .gt 87, .aload 0, .iload 1, .iload 2, .iload 6, .invokeinterface 192 4, .aload 0, .sipush 16, .invokeinterface 231 2, .istore 7, .iload 7, .iload 5, .if_icmp .le 57, .iload 6, .goto 59] ls st m := by
  rw [s_j, s_g_eq, g_l235]; rfl
theorem u_235_57 {X : e_X} {d : Nat} {ls st : List Value} {m : e_M} : s_j X d 235 57 ls st m = s_x X d 235 [.iload 4, .jsr 59] ls st m := by
  rw [s_j, s_g_eq, g_l235]; rfl
theorem u_235_59 {X : e_X} {d : Nat} {ls st : List Value} {m : e_M} : s_j X d 235 59 ls st m = s_x X d 235 [.istore 4, .iload 7, .iload 5, .if_icmp .le 73, .iload 7, .goto 75] ls st m := by
  rw [s_j, s_g_eq, g_l235]; rfl
theorem u_235_73 {X : e_X} {d : Nat} {ls st : List Value} {m : e_M} : s_j X d 235 73 ls st m = s_x X d 235 [.iload 5, .jsr 75] ls st m := by
  rw [s_j, s_g_eq, g_l235]; rfl
theorem u_235_75 {X : e_X} {d : Nat} {ls st : List Value} {m : e_M} : s_j X d 235 75 ls st m = s_x X d 235 [.istore 5, .aload 0, .invokeinterface 232 1, .iinc 6 1, .goto 23] ls st m := by
  rw [s_j, s_g_eq, g_l235]; rfl
theorem u_235_87 {X : e_X} {d : Nat} {ls st : List Value} {m : e_M} : s_j X d 235 87 ls st m = s_x X d 235 [.iload 4, .ireturn] ls st m := by
  rw [s_j, s_g_eq, g_l235]; rfl
/-- M.pieceFor -/
theorem g_l236 (l : Nat) : g_P 236 l = (g_c236.lookup l).getD [] := rfl
theorem v_236 {X : e_X} {d : Nat} (a0 : Nat) (a1 : Int32) {m : e_M} : s_S X (d + 1) 236 [.ref a0, .int a1] m = s_j X d 236 0 [.ref a0, .int a1] [] m := rfl
theorem u_236_0 {X : e_X} {d : Nat} {ls st : List Value} {m : e_M} : s_j X d 236 0 ls st m = s_x X d 236 [.aload 0, .iload 1, .sipush 1, .sipush 39, .invokeinterface 235 4, .ireturn] ls st m := by
  rw [s_j, s_g_eq, g_l236]; rfl
/-- M.over -/
theorem g_l237 (l : Nat) : g_P 237 l = (g_c237.lookup l).getD [] := rfl
theorem v_237 {X : e_X} {d : Nat} (a0 : Nat) (a1 : Int32) {m : e_M} : s_S X (d + 1) 237 [.ref a0, .int a1] m = s_j X d 237 0 [.ref a0, .int a1, .retAddr 0, .retAddr 0] [] m := rfl
theorem u_237_0 {X : e_X} {d : Nat} {ls st : List Value} {m : e_M} : s_j X d 237 0 ls st m = s_x X d 237 [.iload 1, .sipush 0, .sipush 40, .invokeinterface 172 3, .ifCond .ne 12, .sipush (-1), .ireturn] ls st m := by
  rw [s_j, s_g_eq, g_l237]; rfl
theorem u_237_12 {X : e_X} {d : Nat} {ls st : List Value} {m : e_M} : s_j X d 237 12 ls st m = s_x X d 237 [.aload 0, .invokeinterface 230 1, .sipush (-3), .istore 2, .jsr 19] ls st m := by
  rw [s_j, s_g_eq, g_l237]; rfl
theorem u_237_19 {X : e_X} {d : Nat} {ls st : List Value} {m : e_M} : s_j X d 237 19 ls st m = s_x X d 237 [.iload 2, .sipush (-3), .if_icmp .ne 69, .aload 0, .invokeinterface 217 1, .ifCond .ne 69, .aload 0, .sipush (-1), .invokeinterface 220 2, .istore 3, .aload 0, .checkcast 640, .sipush 4, .iaload, .iload 1, .if_icmp .lt 63, .iload 3, .ifCond .lt 63, .aload 0, .checkcast 640, .sipush 0, .iaload, .sipush 1, .isub, .goto 65] ls st m := by
  rw [s_j, s_g_eq, g_l237]; rfl
theorem u_237_63 {X : e_X} {d : Nat} {ls st : List Value} {m : e_M} : s_j X d 237 63 ls st m = s_x X d 237 [.sipush (-3), .jsr 65] ls st m := by
  rw [s_j, s_g_eq, g_l237]; rfl
theorem u_237_65 {X : e_X} {d : Nat} {ls st : List Value} {m : e_M} : s_j X d 237 65 ls st m = s_x X d 237 [.istore 2, .goto 19] ls st m := by
  rw [s_j, s_g_eq, g_l237]; rfl
theorem u_237_69 {X : e_X} {d : Nat} {ls st : List Value} {m : e_M} : s_j X d 237 69 ls st m = s_x X d 237 [.aload 0, .invokeinterface 232 1, .iload 2, .ireturn] ls st m := by
  rw [s_j, s_g_eq, g_l237]; rfl
/-- M.gap -/
theorem g_l238 (l : Nat) : g_P 238 l = (g_c238.lookup l).getD [] := rfl
theorem v_238 {X : e_X} {d : Nat} (a0 : Nat) (a1 : Int32) {m : e_M} : s_S X (d + 1) 238 [.ref a0, .int a1] m = s_j X d 238 0 [.ref a0, .int a1, .retAddr 0, .retAddr 0, .retAddr 0, .retAddr 0, .retAddr 0] [] m := rfl
theorem u_238_0 {X : e_X} {d : Nat} {ls st : List Value} {m : e_M} : s_j X d 238 0 ls st m = s_x X d 238 [.iload 1, .sipush 0, .sipush 1, .invokeinterface 172 3, .ifCond .ne 11, .sipush (-1), .ireturn] ls st m := by
  rw [s_j, s_g_eq, g_l238]; rfl
theorem u_238_11 {X : e_X} {d : Nat} {ls st : List Value} {m : e_M} : s_j X d 238 11 ls st m = s_x X d 238 [.sipush 0, .istore 2, .sipush (-3), .istore 3, .sipush 39, .istore 4, .jsr 20] ls st m := by
  rw [s_j, s_g_eq, g_l238]; rfl
theorem u_238_20 {X : e_X} {d : Nat} {ls st : List Value} {m : e_M} : s_j X d 238 20 ls st m = s_x X d 238 [.iload 4, .ifCond .lt 118, .sipush 0, .istore 5, .sipush 0, .istore 6, .jsr 31] ls st m := by
  rw [s_j, s_g_eq, g_l238]; rfl
theorem u_238_31 {X : e_X} {d : Nat} {ls st : List Value} {m : e_M} : s_j X d 238 31 ls st m = s_x X d 238 [.iload 6, .aload 0, .checkcast 640, .sipush 6, .iaload, .if_icmp .ge 72, .iload 5, .ifCond .ne 59, .aload 0, .iload 6, .iload 4, .invokeinterface 228 3, .ifCond .eq 63, .jsr 59] ls st m := by
  rw [s_j, s_g_eq, g_l238]; rfl
theorem u_238_59 {X : e_X} {d : Nat} {ls st : List Value} {m : e_M} : s_j X d 238 59 ls st m = s_x X d 238 [.sipush 1, .goto 64] ls st m := by
  rw [s_j, s_g_eq, g_l238]; rfl
theorem u_238_63 {X : e_X} {d : Nat} {ls st : List Value} {m : e_M} : s_j X d 238 63 ls st m = s_x X d 238 [.sipush 0, .jsr 64] ls st m := by
  rw [s_j, s_g_eq, g_l238]; rfl
theorem u_238_64 {X : e_X} {d : Nat} {ls st : List Value} {m : e_M} : s_j X d 238 64 ls st m = s_x X d 238 [.istore 5, .iinc 6 1, .goto 31] ls st m := by
  rw [s_j, s_g_eq, g_l238]; rfl
theorem u_238_72 {X : e_X} {d : Nat} {ls st : List Value} {m : e_M} : s_j X d 238 72 ls st m = s_x X d 238 [.iload 2, .aload 0, .iload 4, .invokeinterface 227 2, .ifCond .eq 86, .sipush 0, .goto 87] ls st m := by
  rw [s_j, s_g_eq, g_l238]; rfl
theorem u_238_86 {X : e_X} {d : Nat} {ls st : List Value} {m : e_M} : s_j X d 238 86 ls st m = s_x X d 238 [.sipush 1, .jsr 87] ls st m := by
  rw [s_j, s_g_eq, g_l238]; rfl
theorem u_238_87 {X : e_X} {d : Nat} {ls st : List Value} {m : e_M} : s_j X d 238 87 ls st m = s_x X d 238 [.iadd, .istore 2, .iload 4, .aload 0, .checkcast 640, .sipush 4, .iaload, .if_icmp .lt 110, .iload 5, .ifCond .ne 110, .iload 4, .goto 111] ls st m := by
  rw [s_j, s_g_eq, g_l238]; rfl
theorem u_238_110 {X : e_X} {d : Nat} {ls st : List Value} {m : e_M} : s_j X d 238 110 ls st m = s_x X d 238 [.iload 3, .jsr 111] ls st m := by
  rw [s_j, s_g_eq, g_l238]; rfl
theorem u_238_111 {X : e_X} {d : Nat} {ls st : List Value} {m : e_M} : s_j X d 238 111 ls st m = s_x X d 238 [.istore 3, .iinc 4 (-1), .goto 20] ls st m := by
  rw [s_j, s_g_eq, g_l238]; rfl
theorem u_238_118 {X : e_X} {d : Nat} {ls st : List Value} {m : e_M} : s_j X d 238 118 ls st m = s_x X d 238 [.iload 1, .ifCond .ne 126, .iload 3, .goto 127] ls st m := by
  rw [s_j, s_g_eq, g_l238]; rfl
theorem u_238_126 {X : e_X} {d : Nat} {ls st : List Value} {m : e_M} : s_j X d 238 126 ls st m = s_x X d 238 [.iload 2, .jsr 127] ls st m := by
  rw [s_j, s_g_eq, g_l238]; rfl
theorem u_238_127 {X : e_X} {d : Nat} {ls st : List Value} {m : e_M} : s_j X d 238 127 ls st m = s_x X d 238 [.ireturn] ls st m := by
  rw [s_j, s_g_eq, g_l238]; rfl
/-- M.branches -/
theorem g_l239 (l : Nat) : g_P 239 l = (g_c239.lookup l).getD [] := rfl
theorem v_239 {X : e_X} {d : Nat} (a0 : Nat) (a1 : Int32) {m : e_M} : s_S X (d + 1) 239 [.ref a0, .int a1] m = s_j X d 239 0 [.ref a0, .int a1, .retAddr 0, .retAddr 0, .retAddr 0] [] m := rfl
theorem u_239_0 {X : e_X} {d : Nat} {ls st : List Value} {m : e_M} : s_j X d 239 0 ls st m = s_x X d 239 [.iload 1, .sipush (-1), .if_icmp .eq 15, .aload 0, .iload 1, .invokeinterface 194 2, .ifCond .ne 15, .sipush (-1), .ireturn] ls st m := by
  rw [s_j, s_g_eq, g_l239]; rfl
theorem u_239_15 {X : e_X} {d : Nat} {ls st : List Value} {m : e_M} : s_j X d 239 15 ls st m = s_x X d 239 [.iload 1, .ifCond .lt 25, .aload 0, .iload 1, .invokeinterface 240 2, .ireturn] ls st m := by
  rw [s_j, s_g_eq, g_l239]; rfl
theorem u_239_25 {X : e_X} {d : Nat} {ls st : List Value} {m : e_M} : s_j X d 239 25 ls st m = s_x X d 239 [.sipush 0, .istore 2, .sipush 0, .istore 3, .jsr 29] ls st m := by
  rw [s_j, s_g_eq, g_l239]; rfl
theorem u_239_29 {X : e_X} {d : Nat} {ls st : List Value} {m : e_M} : s_j X d 239 29 ls st m = s_x X d 239 [.iload 3, .aload 0, .checkcast 640, .sipush 6, .iaload, .if_icmp .ge 75, .aload 0, .iload 3, .invokeinterface 240 2, .istore 4, .iload 2, .iload 4, .ifCond .eq 66, .iload 4, .sipush 1, .iload 3, .ishl, .irem, .ifCond .ne 66, .sipush 1, .goto 67] ls st m := by
  rw [s_j, s_g_eq, g_l239]; rfl
theorem u_239_66 {X : e_X} {d : Nat} {ls st : List Value} {m : e_M} : s_j X d 239 66 ls st m = s_x X d 239 [.sipush 0, .jsr 67] ls st m := by
  rw [s_j, s_g_eq, g_l239]; rfl
theorem u_239_67 {X : e_X} {d : Nat} {ls st : List Value} {m : e_M} : s_j X d 239 67 ls st m = s_x X d 239 [.iadd, .istore 2, .iinc 3 1, .goto 29] ls st m := by
  rw [s_j, s_g_eq, g_l239]; rfl
theorem u_239_75 {X : e_X} {d : Nat} {ls st : List Value} {m : e_M} : s_j X d 239 75 ls st m = s_x X d 239 [.iload 2, .ireturn] ls st m := by
  rw [s_j, s_g_eq, g_l239]; rfl
/-- M.branchOf -/
theorem g_l240 (l : Nat) : g_P 240 l = (g_c240.lookup l).getD [] := rfl
theorem v_240 {X : e_X} {d : Nat} (a0 : Nat) (a1 : Int32) {m : e_M} : s_S X (d + 1) 240 [.ref a0, .int a1] m = s_j X d 240 0 [.ref a0, .int a1, .retAddr 0, .retAddr 0, .retAddr 0, .retAddr 0] [] m := rfl
theorem u_240_0 {X : e_X} {d : Nat} {ls st : List Value} {m : e_M} : s_j X d 240 0 ls st m = s_x X d 240 [.sipush 1, .iload 1, .ishl, .istore 2, .sipush 0, .istore 3, .jsr 6] ls st m := by
  rw [s_j, s_g_eq, g_l240]; rfl
theorem u_240_6 {X : e_X} {d : Nat} {ls st : List Value} {m : e_M} : s_j X d 240 6 ls st m = s_x X d 240 [.iload 3, .aload 0, .checkcast 640, .sipush 6, .iaload, .if_icmp .ge 97, .sipush 0, .istore 4, .jsr 20] ls st m := by
  rw [s_j, s_g_eq, g_l240]; rfl
theorem u_240_20 {X : e_X} {d : Nat} {ls st : List Value} {m : e_M} : s_j X d 240 20 ls st m = s_x X d 240 [.iload 4, .aload 0, .checkcast 640, .sipush 6, .iaload, .if_icmp .ge 91, .sipush 0, .istore 5, .jsr 35] ls st m := by
  rw [s_j, s_g_eq, g_l240]; rfl
theorem u_240_35 {X : e_X} {d : Nat} {ls st : List Value} {m : e_M} : s_j X d 240 35 ls st m = s_x X d 240 [.iload 5, .aload 0, .checkcast 640, .sipush 6, .iaload, .if_icmp .ge 85, .iload 2, .iload 2, .iload 4, .ishr, .sipush 1, .iand, .sipush 1, .if_icmp .ne 76, .aload 0, .iload 4, .iload 5, .invokeinterface 241 3, .ifCond .eq 76, .sipush 1, .iload 5, .ishl, .goto 77] ls st m := by
  rw [s_j, s_g_eq, g_l240]; rfl
theorem u_240_76 {X : e_X} {d : Nat} {ls st : List Value} {m : e_M} : s_j X d 240 76 ls st m = s_x X d 240 [.sipush 0, .jsr 77] ls st m := by
  rw [s_j, s_g_eq, g_l240]; rfl
theorem u_240_77 {X : e_X} {d : Nat} {ls st : List Value} {m : e_M} : s_j X d 240 77 ls st m = s_x X d 240 [.ior, .istore 2, .iinc 5 1, .goto 35] ls st m := by
  rw [s_j, s_g_eq, g_l240]; rfl
theorem u_240_85 {X : e_X} {d : Nat} {ls st : List Value} {m : e_M} : s_j X d 240 85 ls st m = s_x X d 240 [.iinc 4 1, .goto 20] ls st m := by
  rw [s_j, s_g_eq, g_l240]; rfl
theorem u_240_91 {X : e_X} {d : Nat} {ls st : List Value} {m : e_M} : s_j X d 240 91 ls st m = s_x X d 240 [.iinc 3 1, .goto 6] ls st m := by
  rw [s_j, s_g_eq, g_l240]; rfl
theorem u_240_97 {X : e_X} {d : Nat} {ls st : List Value} {m : e_M} : s_j X d 240 97 ls st m = s_x X d 240 [.aload 0, .iload 1, .sipush 4, .invokeinterface 196 3, .sipush 1, .if_icmp .ne 111, .sipush 0, .goto 112] ls st m := by
  rw [s_j, s_g_eq, g_l240]; rfl
theorem u_240_111 {X : e_X} {d : Nat} {ls st : List Value} {m : e_M} : s_j X d 240 111 ls st m = s_x X d 240 [.iload 2, .jsr 112] ls st m := by
  rw [s_j, s_g_eq, g_l240]; rfl
theorem u_240_112 {X : e_X} {d : Nat} {ls st : List Value} {m : e_M} : s_j X d 240 112 ls st m = s_x X d 240 [.ireturn] ls st m := by
  rw [s_j, s_g_eq, g_l240]; rfl
/-- M.areClose -/
theorem g_l241 (l : Nat) : g_P 241 l = (g_c241.lookup l).getD [] := rfl
theorem v_241 {X : e_X} {d : Nat} (a0 : Nat) (a1 : Int32) (a2 : Int32) {m : e_M} : s_S X (d + 1) 241 [.ref a0, .int a1, .int a2] m = s_j X d 241 0 [.ref a0, .int a1, .int a2, .retAddr 0] [] m := rfl
theorem u_241_0 {X : e_X} {d : Nat} {ls st : List Value} {m : e_M} : s_j X d 241 0 ls st m = s_x X d 241 [.aload 0, .iload 1, .sipush 1, .invokeinterface 196 3, .aload 0, .iload 2, .sipush 1, .invokeinterface 196 3, .isub, .istore 3, .aload 0, .iload 1, .sipush 4, .invokeinterface 196 3, .ifCond .ne 61, .aload 0, .iload 2, .sipush 4, .invokeinterface 196 3, .ifCond .ne 61, .aload 0, .iload 1, .sipush 3, .invokeinterface 196 3, .aload 0, .iload 2, .sipush 3, .invokeinterface 196 3, .if_icmp .eq 57, .iload 3, .sipush (-2), .sipush 2, .invokeinterface 172 3, .ifCond .eq 61, .jsr 57] ls st m := by
  rw [s_j, s_g_eq, g_l241]; rfl
theorem u_241_57 {X : e_X} {d : Nat} {ls st : List Value} {m : e_M} : s_j X d 241 57 ls st m = s_x X d 241 [.sipush 1, .goto 62] ls st m := by
  rw [s_j, s_g_eq, g_l241]; rfl
theorem u_241_61 {X : e_X} {d : Nat} {ls st : List Value} {m : e_M} : s_j X d 241 61 ls st m = s_x X d 241 [.sipush 0, .jsr 62] ls st m := by
  rw [s_j, s_g_eq, g_l241]; rfl
theorem u_241_62 {X : e_X} {d : Nat} {ls st : List Value} {m : e_M} : s_j X d 241 62 ls st m = s_x X d 241 [.ireturn] ls st m := by
  rw [s_j, s_g_eq, g_l241]; rfl
/-- M.fetch -/
theorem g_l242 (l : Nat) : g_P 242 l = (g_c242.lookup l).getD [] := rfl
theorem v_242 {X : e_X} {d : Nat} (a0 : Nat) (a1 : Int32) (a2 : Int32) {m : e_M} : s_S X (d + 1) 242 [.ref a0, .int a1, .int a2] m = s_j X d 242 0 [.ref a0, .int a1, .int a2, .retAddr 0] [] m := rfl
theorem u_242_0 {X : e_X} {d : Nat} {ls st : List Value} {m : e_M} : s_j X d 242 0 ls st m = s_x X d 242 [.iload 1, .sipush 0, .sipush 40, .invokeinterface 172 3, .ifCond .eq 19, .iload 2, .sipush 0, .sipush 1, .invokeinterface 172 3, .ifCond .ne 21, .jsr 19] ls st m := by
  rw [s_j, s_g_eq, g_l242]; rfl
theorem u_242_19 {X : e_X} {d : Nat} {ls st : List Value} {m : e_M} : s_j X d 242 19 ls st m = s_x X d 242 [.sipush (-1), .ireturn] ls st m := by
  rw [s_j, s_g_eq, g_l242]; rfl
theorem u_242_21 {X : e_X} {d : Nat} {ls st : List Value} {m : e_M} : s_j X d 242 21 ls st m = s_x X d 242 [.sipush 1, .aload 0, .checkcast 640, .sipush 6, .iaload, .ishl, .sipush 1, .isub, .aload 0, .sipush 4, .invokeinterface 218 2, .sipush (-1), .ixor, .iand, .istore 3, .aload 0, .sipush (-1), .putfield 656, .aload 0, .iload 3, .iload 1, .sipush 0, .sipush (-1), .invokeinterface 243 5, .iload 2, .ifCond .ne 65, .aload 0, .getfield 656, .goto 78] ls st m := by
  rw [s_j, s_g_eq, g_l242]; rfl
theorem u_242_65 {X : e_X} {d : Nat} {ls st : List Value} {m : e_M} : s_j X d 242 65 ls st m = s_x X d 242 [.iload 3, .ifCond .ne 74, .sipush (-3), .goto 78] ls st m := by
  rw [s_j, s_g_eq, g_l242]; rfl
theorem u_242_74 {X : e_X} {d : Nat} {ls st : List Value} {m : e_M} : s_j X d 242 74 ls st m = s_x X d 242 [.aload 0, .getfield 657, .jsr 78] ls st m := by
  rw [s_j, s_g_eq, g_l242]; rfl
theorem u_242_78 {X : e_X} {d : Nat} {ls st : List Value} {m : e_M} : s_j X d 242 78 ls st m = s_x X d 242 [.ireturn] ls st m := by
  rw [s_j, s_g_eq, g_l242]; rfl
/-- M.goesRound -/
theorem g_l243 (l : Nat) : g_P 243 l = (g_c243.lookup l).getD [] := rfl
theorem v_243 {X : e_X} {d : Nat} (a0 : Nat) (a1 : Int32) (a2 : Int32) (a3 : Int32) (a4 : Int32) {m : e_M} : s_S X (d + 1) 243 [.ref a0, .int a1, .int a2, .int a3, .int a4] m = s_j X d 243 0 [.ref a0, .int a1, .int a2, .int a3, .int a4, .retAddr 0, .retAddr 0] [] m := rfl
theorem u_243_0 {X : e_X} {d : Nat} {ls st : List Value} {m : e_M} : s_j X d 243 0 ls st m = s_x X d 243 [.iload 1, .ifCond .ne 31, .aload 0, .getfield 656, .ifCond .lt 19, .iload 3, .aload 0, .getfield 656, .if_icmp .ge 30, .jsr 19] ls st m := by
  rw [s_j, s_g_eq, g_l243]; rfl
theorem u_243_19 {X : e_X} {d : Nat} {ls st : List Value} {m : e_M} : s_j X d 243 19 ls st m = s_x X d 243 [.aload 0, .iload 3, .putfield 656, .aload 0, .iload 4, .putfield 657, .jsr 30] ls st m := by
  rw [s_j, s_g_eq, g_l243]; rfl
theorem u_243_30 {X : e_X} {d : Nat} {ls st : List Value} {m : e_M} : s_j X d 243 30 ls st m = s_x X d 243 [.return_] ls st m := by
  rw [s_j, s_g_eq, g_l243]; rfl
theorem u_243_31 {X : e_X} {d : Nat} {ls st : List Value} {m : e_M} : s_j X d 243 31 ls st m = s_x X d 243 [.sipush 0, .istore 5, .jsr 34] ls st m := by
  rw [s_j, s_g_eq, g_l243]; rfl
theorem u_243_34 {X : e_X} {d : Nat} {ls st : List Value} {m : e_M} : s_j X d 243 34 ls st m = s_x X d 243 [.iload 5, .aload 0, .checkcast 640, .sipush 6, .iaload, .if_icmp .ge 131, .iload 1, .iload 5, .ishr, .sipush 1, .iand, .sipush 1, .if_icmp .ne 125, .aload 0, .iload 5, .sipush 1, .invokeinterface 196 3, .iload 2, .if_icmp .ge 79, .iload 2, .aload 0, .iload 5, .sipush 1, .invokeinterface 196 3, .isub, .goto 88] ls st m := by
  rw [s_j, s_g_eq, g_l243]; rfl
theorem u_243_79 {X : e_X} {d : Nat} {ls st : List Value} {m : e_M} : s_j X d 243 79 ls st m = s_x X d 243 [.aload 0, .iload 5, .sipush 1, .invokeinterface 196 3, .iload 2, .isub, .jsr 88] ls st m := by
  rw [s_j, s_g_eq, g_l243]; rfl
theorem u_243_88 {X : e_X} {d : Nat} {ls st : List Value} {m : e_M} : s_j X d 243 88 ls st m = s_x X d 243 [.istore 6, .aload 0, .iload 1, .sipush 1, .iload 5, .ishl, .sipush (-1), .ixor, .iand, .aload 0, .iload 5, .sipush 1, .invokeinterface 196 3, .iload 3, .iload 6, .iadd, .iload 4, .ifCond .ge 120, .iload 5, .goto 122] ls st m := by
  rw [s_j, s_g_eq, g_l243]; rfl
theorem u_243_120 {X : e_X} {d : Nat} {ls st : List Value} {m : e_M} : s_j X d 243 120 ls st m = s_x X d 243 [.iload 4, .jsr 122] ls st m := by
  rw [s_j, s_g_eq, g_l243]; rfl
theorem u_243_122 {X : e_X} {d : Nat} {ls st : List Value} {m : e_M} : s_j X d 243 122 ls st m = s_x X d 243 [.invokeinterface 243 5, .jsr 125] ls st m := by
  rw [s_j, s_g_eq, g_l243]; rfl
theorem u_243_125 {X : e_X} {d : Nat} {ls st : List Value} {m : e_M} : s_j X d 243 125 ls st m = s_x X d 243 [.iinc 5 1, .goto 34] ls st m := by
  rw [s_j, s_g_eq, g_l243]; rfl
theorem u_243_131 {X : e_X} {d : Nat} {ls st : List Value} {m : e_M} : s_j X d 243 131 ls st m = s_x X d 243 [.return_] ls st m := by
  rw [s_j, s_g_eq, g_l243]; rfl
/-- M.best -/
theorem g_l244 (l : Nat) : g_P 244 l = (g_c244.lookup l).getD [] := rfl
theorem v_244 {X : e_X} {d : Nat} (a0 : Nat) (a1 : Int32) {m : e_M} : s_S X (d + 1) 244 [.ref a0, .int a1] m = s_j X d 244 0 [.ref a0, .int a1] [] m := rfl
theorem u_244_0 {X : e_X} {d : Nat} {ls st : List Value} {m : e_M} : s_j X d 244 0 ls st m = s_x X d 244 [.iload 1, .invokeinterface 245 1, .ifCond .ne 9, .sipush (-1), .ireturn] ls st m := by
  rw [s_j, s_g_eq, g_l244]; rfl
theorem u_244_9 {X : e_X} {d : Nat} {ls st : List Value} {m : e_M} : s_j X d 244 9 ls st m = s_x X d 244 [.aload 0, .iload 1, .sipush 0, .invokeinterface 246 3, .aload 0, .getfield 661, .ireturn] ls st m := by
  rw [s_j, s_g_eq, g_l244]; rfl
/-- M.isPlan -/
theorem g_l245 (l : Nat) : g_P 245 l = (g_c245.lookup l).getD [] := rfl
theorem v_245 {X : e_X} {d : Nat} (a0 : Int32) {m : e_M} : s_S X (d + 1) 245 [.int a0] m = s_j X d 245 0 [.int a0] [] m := rfl
theorem u_245_0 {X : e_X} {d : Nat} {ls st : List Value} {m : e_M} : s_j X d 245 0 ls st m = s_x X d 245 [.iload 0, .sipush 0, .sipush 4, .invokeinterface 172 3, .ireturn] ls st m := by
  rw [s_j, s_g_eq, g_l245]; rfl
/-- M.triesAll -/
theorem g_l246 (l : Nat) : g_P 246 l = (g_c246.lookup l).getD [] := rfl
theorem v_246 {X : e_X} {d : Nat} (a0 : Nat) (a1 : Int32) (a2 : Int32) {m : e_M} : s_S X (d + 1) 246 [.ref a0, .int a1, .int a2] m = s_j X d 246 0 [.ref a0, .int a1, .int a2] [] m := rfl
theorem u_246_0 {X : e_X} {d : Nat} {ls st : List Value} {m : e_M} : s_j X d 246 0 ls st m = s_x X d 246 [.aload 0, .sipush (-1), .putfield 661, .aload 0, .sipush 0, .putfield 662, .aload 0, .sipush 5, .putfield 663, .aload 0, .sipush 0, .putfield 664, .aload 0, .sipush 0, .aload 0, .iload 1, .invokeinterface 247 2, .sipush 0, .sipush 0, .iload 2, .invokeinterface 248 6, .return_] ls st m := by
  rw [s_j, s_g_eq, g_l246]; rfl
/-- M.daysOf -/
theorem g_l247 (l : Nat) : g_P 247 l = (g_c247.lookup l).getD [] := rfl
theorem v_247 {X : e_X} {d : Nat} (a0 : Nat) (a1 : Int32) {m : e_M} : s_S X (d + 1) 247 [.ref a0, .int a1] m = s_j X d 247 0 [.ref a0, .int a1, .retAddr 0] [] m := rfl
theorem u_247_0 {X : e_X} {d : Nat} {ls st : List Value} {m : e_M} : s_j X d 247 0 ls st m = s_x X d 247 [.aload 0, .invokeinterface 217 1, .ifCond .eq 11, .sipush 0, .goto 24] ls st m := by
  rw [s_j, s_g_eq, g_l247]; rfl
theorem u_247_11 {X : e_X} {d : Nat} {ls st : List Value} {m : e_M} : s_j X d 247 11 ls st m = s_x X d 247 [.aload 0, .checkcast 640, .sipush 1, .iaload, .aload 0, .checkcast 640, .sipush 0, .iaload, .isub, .jsr 24] ls st m := by
  rw [s_j, s_g_eq, g_l247]; rfl
theorem u_247_24 {X : e_X} {d : Nat} {ls st : List Value} {m : e_M} : s_j X d 247 24 ls st m = s_x X d 247 [.istore 2, .iload 1, .iload 2, .if_icmp .ge 34, .iload 1, .goto 35] ls st m := by
  rw [s_j, s_g_eq, g_l247]; rfl
theorem u_247_34 {X : e_X} {d : Nat} {ls st : List Value} {m : e_M} : s_j X d 247 34 ls st m = s_x X d 247 [.iload 2, .jsr 35] ls st m := by
  rw [s_j, s_g_eq, g_l247]; rfl
theorem u_247_35 {X : e_X} {d : Nat} {ls st : List Value} {m : e_M} : s_j X d 247 35 ls st m = s_x X d 247 [.ireturn] ls st m := by
  rw [s_j, s_g_eq, g_l247]; rfl
/-- M.goesPlans -/
theorem g_l248 (l : Nat) : g_P 248 l = (g_c248.lookup l).getD [] := rfl
theorem v_248 {X : e_X} {d : Nat} (a0 : Nat) (a1 : Int32) (a2 : Int32) (a3 : Int32) (a4 : Int32) (a5 : Int32) {m : e_M} : s_S X (d + 1) 248 [.ref a0, .int a1, .int a2, .int a3, .int a4, .int a5] m = s_j X d 248 0 [.ref a0, .int a1, .int a2, .int a3, .int a4, .int a5, .retAddr 0, .retAddr 0] [] m := rfl
theorem u_248_0 {X : e_X} {d : Nat} {ls st : List Value} {m : e_M} : s_j X d 248 0 ls st m = s_x X d 248 [.iload 1, .iload 2, .if_icmp .ne 16, .aload 0, .iload 2, .iload 3, .iload 4, .iload 5, .invokeinterface 249 5, .return_] ls st m := by
  rw [s_j, s_g_eq, g_l248]; rfl
theorem u_248_16 {X : e_X} {d : Nat} {ls st : List Value} {m : e_M} : s_j X d 248 16 ls st m = s_x X d 248 [.aload 0, .iload 1, .invokeinterface 250 2, .sipush 0, .istore 6, .jsr 24] ls st m := by
  rw [s_j, s_g_eq, g_l248]; rfl
theorem u_248_24 {X : e_X} {d : Nat} {ls st : List Value} {m : e_M} : s_j X d 248 24 ls st m = s_x X d 248 [.iload 6, .aload 0, .checkcast 640, .sipush 6, .iaload, .if_icmp .gt 91, .aload 0, .checkcast 659, .iload 1, .iload 6, .iastore, .aload 0, .iload 6, .invokeinterface 220 2, .istore 7, .aload 0, .iload 1, .sipush 1, .iadd, .iload 2, .iload 3, .iload 7, .iadd, .iload 6, .ifCond .le 73, .iload 4, .sipush 1, .iadd, .goto 75] ls st m := by
  rw [s_j, s_g_eq, g_l248]; rfl
theorem u_248_73 {X : e_X} {d : Nat} {ls st : List Value} {m : e_M} : s_j X d 248 73 ls st m = s_x X d 248 [.iload 4, .jsr 75] ls st m := by
  rw [s_j, s_g_eq, g_l248]; rfl
theorem u_248_75 {X : e_X} {d : Nat} {ls st : List Value} {m : e_M} : s_j X d 248 75 ls st m = s_x X d 248 [.iload 5, .invokeinterface 248 6, .aload 0, .iload 1, .invokeinterface 251 2, .iinc 6 1, .goto 24] ls st m := by
  rw [s_j, s_g_eq, g_l248]; rfl
theorem u_248_91 {X : e_X} {d : Nat} {ls st : List Value} {m : e_M} : s_j X d 248 91 ls st m = s_x X d 248 [.return_] ls st m := by
  rw [s_j, s_g_eq, g_l248]; rfl
/-- M.endsPlan -/
theorem g_l249 (l : Nat) : g_P 249 l = (g_c249.lookup l).getD [] := rfl
theorem v_249 {X : e_X} {d : Nat} (a0 : Nat) (a1 : Int32) (a2 : Int32) (a3 : Int32) (a4 : Int32) {m : e_M} : s_S X (d + 1) 249 [.ref a0, .int a1, .int a2, .int a3, .int a4] m = s_j X d 249 0 [.ref a0, .int a1, .int a2, .int a3, .int a4, .retAddr 0] [] m := rfl
theorem u_249_0 {X : e_X} {d : Nat} {ls st : List Value} {m : e_M} : s_j X d 249 0 ls st m = s_x X d 249 [.iload 2, .aload 0, .getfield 661, .if_icmp .le 47, .aload 0, .sipush 0, .putfield 662, .aload 0, .iload 2, .putfield 661, .sipush 0, .istore 5, .jsr 21] ls st m := by
  rw [s_j, s_g_eq, g_l249]; rfl
theorem u_249_21 {X : e_X} {d : Nat} {ls st : List Value} {m : e_M} : s_j X d 249 21 ls st m = s_x X d 249 [.iload 5, .iload 1, .if_icmp .ge 47, .aload 0, .checkcast 660, .iload 5, .aload 0, .checkcast 659, .iload 5, .iaload, .iastore, .iinc 5 1, .goto 21] ls st m := by
  rw [s_j, s_g_eq, g_l249]; rfl
theorem u_249_47 {X : e_X} {d : Nat} {ls st : List Value} {m : e_M} : s_j X d 249 47 ls st m = s_x X d 249 [.aload 0, .dup, .getfield 662, .iload 2, .aload 0, .getfield 661, .if_icmp .ne 64, .sipush 1, .goto 65] ls st m := by
  rw [s_j, s_g_eq, g_l249]; rfl
theorem u_249_64 {X : e_X} {d : Nat} {ls st : List Value} {m : e_M} : s_j X d 249 64 ls st m = s_x X d 249 [.sipush 0, .jsr 65] ls st m := by
  rw [s_j, s_g_eq, g_l249]; rfl
theorem u_249_65 {X : e_X} {d : Nat} {ls st : List Value} {m : e_M} : s_j X d 249 65 ls st m = s_x X d 249 [.iadd, .putfield 662, .aload 0, .sipush 4, .invokeinterface 218 2, .istore 5, .aload 0, .iload 4, .iload 5, .sipush (-1), .ixor, .iand, .ifCond .ne 99, .iload 3, .aload 0, .getfield 663, .if_icmp .ge 99, .iload 3, .goto 103] ls st m := by
  rw [s_j, s_g_eq, g_l249]; rfl
theorem u_249_99 {X : e_X} {d : Nat} {ls st : List Value} {m : e_M} : s_j X d 249 99 ls st m = s_x X d 249 [.aload 0, .getfield 663, .jsr 103] ls st m := by
  rw [s_j, s_g_eq, g_l249]; rfl
theorem u_249_103 {X : e_X} {d : Nat} {ls st : List Value} {m : e_M} : s_j X d 249 103 ls st m = s_x X d 249 [.putfield 663, .aload 0, .dup, .getfield 664, .iload 5, .ior, .putfield 664, .return_] ls st m := by
  rw [s_j, s_g_eq, g_l249]; rfl
/-- M.saves -/
theorem g_l250 (l : Nat) : g_P 250 l = (g_c250.lookup l).getD [] := rfl
theorem v_250 {X : e_X} {d : Nat} (a0 : Nat) (a1 : Int32) {m : e_M} : s_S X (d + 1) 250 [.ref a0, .int a1] m = s_j X d 250 0 [.ref a0, .int a1, .retAddr 0] [] m := rfl
theorem u_250_0 {X : e_X} {d : Nat} {ls st : List Value} {m : e_M} : s_j X d 250 0 ls st m = s_x X d 250 [.sipush 0, .istore 2, .jsr 2] ls st m := by
  rw [s_j, s_g_eq, g_l250]; rfl
theorem u_250_2 {X : e_X} {d : Nat} {ls st : List Value} {m : e_M} : s_j X d 250 2 ls st m = s_x X d 250 [.iload 2, .sipush 74, .if_icmp .ge 31, .aload 0, .checkcast 658, .sipush 74, .iload 1, .imul, .iload 2, .iadd, .aload 0, .checkcast 640, .iload 2, .iaload, .iastore, .iinc 2 1, .goto 2] ls st m := by
  rw [s_j, s_g_eq, g_l250]; rfl
theorem u_250_31 {X : e_X} {d : Nat} {ls st : List Value} {m : e_M} : s_j X d 250 31 ls st m = s_x X d 250 [.return_] ls st m := by
  rw [s_j, s_g_eq, g_l250]; rfl
/-- M.restores -/
theorem g_l251 (l : Nat) : g_P 251 l = (g_c251.lookup l).getD [] := rfl
theorem v_251 {X : e_X} {d : Nat} (a0 : Nat) (a1 : Int32) {m : e_M} : s_S X (d + 1) 251 [.ref a0, .int a1] m = s_j X d 251 0 [.ref a0, .int a1, .retAddr 0] [] m := rfl
theorem u_251_0 {X : e_X} {d : Nat} {ls st : List Value} {m : e_M} : s_j X d 251 0 ls st m = s_x X d 251 [.sipush 0, .istore 2, .jsr 2] ls st m := by
  rw [s_j, s_g_eq, g_l251]; rfl
theorem u_251_2 {X : e_X} {d : Nat} {ls st : List Value} {m : e_M} : s_j X d 251 2 ls st m = s_x X d 251 [.iload 2, .sipush 74, .if_icmp .ge 31, .aload 0, .checkcast 640, .iload 2, .aload 0, .checkcast 658, .sipush 74, .iload 1, .imul, .iload 2, .iadd, .iaload, .iastore, .iinc 2 1, .goto 2] ls st m := by
  rw [s_j, s_g_eq, g_l251]; rfl
theorem u_251_31 {X : e_X} {d : Nat} {ls st : List Value} {m : e_M} : s_j X d 251 31 ls st m = s_x X d 251 [.return_] ls st m := by
  rw [s_j, s_g_eq, g_l251]; rfl
/-- M.ith -/
theorem g_l252 (l : Nat) : g_P 252 l = (g_c252.lookup l).getD [] := rfl
theorem v_252 {X : e_X} {d : Nat} (a0 : Nat) (a1 : Int32) (a2 : Int32) {m : e_M} : s_S X (d + 1) 252 [.ref a0, .int a1, .int a2] m = s_j X d 252 0 [.ref a0, .int a1, .int a2] [] m := rfl
theorem u_252_0 {X : e_X} {d : Nat} {ls st : List Value} {m : e_M} : s_j X d 252 0 ls st m = s_x X d 252 [.iload 1, .invokeinterface 245 1, .ifCond .eq 16, .iload 2, .sipush 0, .sipush 3, .invokeinterface 172 3, .ifCond .ne 18, .jsr 16] ls st m := by
  rw [s_j, s_g_eq, g_l252]; rfl
theorem u_252_16 {X : e_X} {d : Nat} {ls st : List Value} {m : e_M} : s_j X d 252 16 ls st m = s_x X d 252 [.sipush (-1), .ireturn] ls st m := by
  rw [s_j, s_g_eq, g_l252]; rfl
theorem u_252_18 {X : e_X} {d : Nat} {ls st : List Value} {m : e_M} : s_j X d 252 18 ls st m = s_x X d 252 [.aload 0, .iload 1, .sipush 0, .invokeinterface 246 3, .iload 2, .aload 0, .iload 1, .invokeinterface 247 2, .if_icmp .ge 42, .aload 0, .checkcast 660, .iload 2, .iaload, .goto 44] ls st m := by
  rw [s_j, s_g_eq, g_l252]; rfl
theorem u_252_42 {X : e_X} {d : Nat} {ls st : List Value} {m : e_M} : s_j X d 252 42 ls st m = s_x X d 252 [.sipush (-3), .jsr 44] ls st m := by
  rw [s_j, s_g_eq, g_l252]; rfl
theorem u_252_44 {X : e_X} {d : Nat} {ls st : List Value} {m : e_M} : s_j X d 252 44 ls st m = s_x X d 252 [.ireturn] ls st m := by
  rw [s_j, s_g_eq, g_l252]; rfl
/-- M.ways -/
theorem g_l253 (l : Nat) : g_P 253 l = (g_c253.lookup l).getD [] := rfl
theorem v_253 {X : e_X} {d : Nat} (a0 : Nat) (a1 : Int32) {m : e_M} : s_S X (d + 1) 253 [.ref a0, .int a1] m = s_j X d 253 0 [.ref a0, .int a1] [] m := rfl
theorem u_253_0 {X : e_X} {d : Nat} {ls st : List Value} {m : e_M} : s_j X d 253 0 ls st m = s_x X d 253 [.iload 1, .invokeinterface 245 1, .ifCond .ne 9, .sipush (-1), .ireturn] ls st m := by
  rw [s_j, s_g_eq, g_l253]; rfl
theorem u_253_9 {X : e_X} {d : Nat} {ls st : List Value} {m : e_M} : s_j X d 253 9 ls st m = s_x X d 253 [.aload 0, .iload 1, .sipush 0, .invokeinterface 246 3, .aload 0, .getfield 662, .ireturn] ls st m := by
  rw [s_j, s_g_eq, g_l253]; rfl
/-- M.supper -/
theorem g_l254 (l : Nat) : g_P 254 l = (g_c254.lookup l).getD [] := rfl
theorem v_254 {X : e_X} {d : Nat} (a0 : Nat) (a1 : Int32) (a2 : Int32) {m : e_M} : s_S X (d + 1) 254 [.ref a0, .int a1, .int a2] m = s_j X d 254 0 [.ref a0, .int a1, .int a2] [] m := rfl
theorem u_254_0 {X : e_X} {d : Nat} {ls st : List Value} {m : e_M} : s_j X d 254 0 ls st m = s_x X d 254 [.iload 1, .invokeinterface 245 1, .ifCond .eq 15, .aload 0, .iload 2, .invokeinterface 255 2, .ifCond .ne 17, .jsr 15] ls st m := by
  rw [s_j, s_g_eq, g_l254]; rfl
theorem u_254_15 {X : e_X} {d : Nat} {ls st : List Value} {m : e_M} : s_j X d 254 15 ls st m = s_x X d 254 [.sipush (-1), .ireturn] ls st m := by
  rw [s_j, s_g_eq, g_l254]; rfl
theorem u_254_17 {X : e_X} {d : Nat} {ls st : List Value} {m : e_M} : s_j X d 254 17 ls st m = s_x X d 254 [.aload 0, .iload 1, .iload 2, .invokeinterface 246 3, .aload 0, .getfield 663, .sipush 4, .if_icmp .le 36, .sipush (-3), .goto 40] ls st m := by
  rw [s_j, s_g_eq, g_l254]; rfl
theorem u_254_36 {X : e_X} {d : Nat} {ls st : List Value} {m : e_M} : s_j X d 254 36 ls st m = s_x X d 254 [.aload 0, .getfield 663, .jsr 40] ls st m := by
  rw [s_j, s_g_eq, g_l254]; rfl
theorem u_254_40 {X : e_X} {d : Nat} {ls st : List Value} {m : e_M} : s_j X d 254 40 ls st m = s_x X d 254 [.ireturn] ls st m := by
  rw [s_j, s_g_eq, g_l254]; rfl
/-- M.isSet -/
theorem g_l255 (l : Nat) : g_P 255 l = (g_c255.lookup l).getD [] := rfl
theorem v_255 {X : e_X} {d : Nat} (a0 : Nat) (a1 : Int32) {m : e_M} : s_S X (d + 1) 255 [.ref a0, .int a1] m = s_j X d 255 0 [.ref a0, .int a1] [] m := rfl
theorem u_255_0 {X : e_X} {d : Nat} {ls st : List Value} {m : e_M} : s_j X d 255 0 ls st m = s_x X d 255 [.iload 1, .sipush 0, .sipush 1, .aload 0, .checkcast 640, .sipush 6, .iaload, .ishl, .sipush 1, .isub, .invokeinterface 172 3, .ireturn] ls st m := by
  rw [s_j, s_g_eq, g_l255]; rfl
/-- M.bars -/
theorem g_l256 (l : Nat) : g_P 256 l = (g_c256.lookup l).getD [] := rfl
theorem v_256 {X : e_X} {d : Nat} (a0 : Nat) (a1 : Int32) (a2 : Int32) {m : e_M} : s_S X (d + 1) 256 [.ref a0, .int a1, .int a2] m = s_j X d 256 0 [.ref a0, .int a1, .int a2, .retAddr 0, .retAddr 0] [] m := rfl
theorem u_256_0 {X : e_X} {d : Nat} {ls st : List Value} {m : e_M} : s_j X d 256 0 ls st m = s_x X d 256 [.iload 1, .invokeinterface 245 1, .ifCond .eq 15, .aload 0, .iload 2, .invokeinterface 255 2, .ifCond .ne 17, .jsr 15] ls st m := by
  rw [s_j, s_g_eq, g_l256]; rfl
theorem u_256_15 {X : e_X} {d : Nat} {ls st : List Value} {m : e_M} : s_j X d 256 15 ls st m = s_x X d 256 [.sipush (-1), .ireturn] ls st m := by
  rw [s_j, s_g_eq, g_l256]; rfl
theorem u_256_17 {X : e_X} {d : Nat} {ls st : List Value} {m : e_M} : s_j X d 256 17 ls st m = s_x X d 256 [.aload 0, .iload 1, .iload 2, .invokeinterface 246 3, .iload 2, .aload 0, .getfield 664, .sipush (-1), .ixor, .iand, .istore 3, .sipush 0, .istore 4, .jsr 35] ls st m := by
  rw [s_j, s_g_eq, g_l256]; rfl
theorem u_256_35 {X : e_X} {d : Nat} {ls st : List Value} {m : e_M} : s_j X d 256 35 ls st m = s_x X d 256 [.iload 4, .aload 0, .checkcast 640, .sipush 6, .iaload, .if_icmp .ge 62, .iload 3, .iload 4, .ishr, .sipush 1, .iand, .ifCond .ne 62, .iinc 4 1, .goto 35] ls st m := by
  rw [s_j, s_g_eq, g_l256]; rfl
theorem u_256_62 {X : e_X} {d : Nat} {ls st : List Value} {m : e_M} : s_j X d 256 62 ls st m = s_x X d 256 [.iload 4, .aload 0, .checkcast 640, .sipush 6, .iaload, .if_icmp .ge 79, .iload 4, .goto 81] ls st m := by
  rw [s_j, s_g_eq, g_l256]; rfl
theorem u_256_79 {X : e_X} {d : Nat} {ls st : List Value} {m : e_M} : s_j X d 256 79 ls st m = s_x X d 256 [.sipush (-3), .jsr 81] ls st m := by
  rw [s_j, s_g_eq, g_l256]; rfl
theorem u_256_81 {X : e_X} {d : Nat} {ls st : List Value} {m : e_M} : s_j X d 256 81 ls st m = s_x X d 256 [.ireturn] ls st m := by
  rw [s_j, s_g_eq, g_l256]; rfl
/-- M.game -/
theorem g_l257 (l : Nat) : g_P 257 l = (g_c257.lookup l).getD [] := rfl
theorem v_257 {X : e_X} {d : Nat} (a0 : Nat) (a1 : Int32) {m : e_M} : s_S X (d + 1) 257 [.ref a0, .int a1] m = s_j X d 257 0 [.ref a0, .int a1] [] m := rfl
theorem u_257_0 {X : e_X} {d : Nat} {ls st : List Value} {m : e_M} : s_j X d 257 0 ls st m = s_x X d 257 [.iload 1, .sipush 1, .sipush 4, .invokeinterface 172 3, .ifCond .eq 22, .aload 0, .sipush 0, .aload 0, .iload 1, .invokeinterface 247 2, .invokeinterface 258 3, .goto 23] ls st m := by
  rw [s_j, s_g_eq, g_l257]; rfl
theorem u_257_22 {X : e_X} {d : Nat} {ls st : List Value} {m : e_M} : s_j X d 257 22 ls st m = s_x X d 257 [.sipush (-1), .jsr 23] ls st m := by
  rw [s_j, s_g_eq, g_l257]; rfl
theorem u_257_23 {X : e_X} {d : Nat} {ls st : List Value} {m : e_M} : s_j X d 257 23 ls st m = s_x X d 257 [.ireturn] ls st m := by
  rw [s_j, s_g_eq, g_l257]; rfl
/-- M.playedFrom -/
theorem g_l258 (l : Nat) : g_P 258 l = (g_c258.lookup l).getD [] := rfl
theorem v_258 {X : e_X} {d : Nat} (a0 : Nat) (a1 : Int32) (a2 : Int32) {m : e_M} : s_S X (d + 1) 258 [.ref a0, .int a1, .int a2] m = s_j X d 258 0 [.ref a0, .int a1, .int a2, .retAddr 0, .retAddr 0, .retAddr 0, .retAddr 0, .retAddr 0, .retAddr 0] [] m := rfl
theorem u_258_0 {X : e_X} {d : Nat} {ls st : List Value} {m : e_M} : s_j X d 258 0 ls st m = s_x X d 258 [.iload 1, .iload 2, .if_icmp .ne 7, .sipush 0, .ireturn] ls st m := by
  rw [s_j, s_g_eq, g_l258]; rfl
theorem u_258_7 {X : e_X} {d : Nat} {ls st : List Value} {m : e_M} : s_j X d 258 7 ls st m = s_x X d 258 [.aload 0, .iload 1, .invokeinterface 250 2, .sipush 0, .istore 3, .sipush (-1), .istore 4, .sipush 0, .istore 5, .jsr 20] ls st m := by
  rw [s_j, s_g_eq, g_l258]; rfl
theorem u_258_20 {X : e_X} {d : Nat} {ls st : List Value} {m : e_M} : s_j X d 258 20 ls st m = s_x X d 258 [.iload 5, .aload 0, .checkcast 640, .sipush 6, .iaload, .if_icmp .gt 123, .aload 0, .iload 5, .invokeinterface 220 2, .istore 6, .iload 6, .aload 0, .iload 1, .sipush 1, .iadd, .iload 2, .invokeinterface 258 3, .iadd, .istore 7, .aload 0, .iload 1, .invokeinterface 251 2, .iload 4, .ifCond .lt 84, .iload 1, .sipush 2, .irem, .ifCond .ne 78, .iload 7, .iload 3, .if_icmp .le 88, .goto 84] ls st m := by
  rw [s_j, s_g_eq, g_l258]; rfl
theorem u_258_78 {X : e_X} {d : Nat} {ls st : List Value} {m : e_M} : s_j X d 258 78 ls st m = s_x X d 258 [.iload 7, .iload 3, .if_icmp .ge 88, .jsr 84] ls st m := by
  rw [s_j, s_g_eq, g_l258]; rfl
theorem u_258_84 {X : e_X} {d : Nat} {ls st : List Value} {m : e_M} : s_j X d 258 84 ls st m = s_x X d 258 [.sipush 1, .goto 89] ls st m := by
  rw [s_j, s_g_eq, g_l258]; rfl
theorem u_258_88 {X : e_X} {d : Nat} {ls st : List Value} {m : e_M} : s_j X d 258 88 ls st m = s_x X d 258 [.sipush 0, .jsr 89] ls st m := by
  rw [s_j, s_g_eq, g_l258]; rfl
theorem u_258_89 {X : e_X} {d : Nat} {ls st : List Value} {m : e_M} : s_j X d 258 89 ls st m = s_x X d 258 [.istore 8, .iload 8, .ifCond .eq 101, .iload 5, .goto 103] ls st m := by
  rw [s_j, s_g_eq, g_l258]; rfl
theorem u_258_101 {X : e_X} {d : Nat} {ls st : List Value} {m : e_M} : s_j X d 258 101 ls st m = s_x X d 258 [.iload 4, .jsr 103] ls st m := by
  rw [s_j, s_g_eq, g_l258]; rfl
theorem u_258_103 {X : e_X} {d : Nat} {ls st : List Value} {m : e_M} : s_j X d 258 103 ls st m = s_x X d 258 [.istore 4, .iload 8, .ifCond .eq 115, .iload 7, .goto 116] ls st m := by
  rw [s_j, s_g_eq, g_l258]; rfl
theorem u_258_115 {X : e_X} {d : Nat} {ls st : List Value} {m : e_M} : s_j X d 258 115 ls st m = s_x X d 258 [.iload 3, .jsr 116] ls st m := by
  rw [s_j, s_g_eq, g_l258]; rfl
theorem u_258_116 {X : e_X} {d : Nat} {ls st : List Value} {m : e_M} : s_j X d 258 116 ls st m = s_x X d 258 [.istore 3, .iinc 5 1, .goto 20] ls st m := by
  rw [s_j, s_g_eq, g_l258]; rfl
theorem u_258_123 {X : e_X} {d : Nat} {ls st : List Value} {m : e_M} : s_j X d 258 123 ls st m = s_x X d 258 [.aload 0, .checkcast 659, .iload 1, .iload 4, .iastore, .iload 3, .ireturn] ls st m := by
  rw [s_j, s_g_eq, g_l258]; rfl
/-- M.play -/
theorem g_l259 (l : Nat) : g_P 259 l = (g_c259.lookup l).getD [] := rfl
theorem v_259 {X : e_X} {d : Nat} (a0 : Nat) (a1 : Int32) {m : e_M} : s_S X (d + 1) 259 [.ref a0, .int a1] m = s_j X d 259 0 [.ref a0, .int a1, .retAddr 0] [] m := rfl
theorem u_259_0 {X : e_X} {d : Nat} {ls st : List Value} {m : e_M} : s_j X d 259 0 ls st m = s_x X d 259 [.iload 1, .sipush 1, .sipush 4, .invokeinterface 172 3, .ifCond .ne 11, .sipush (-1), .ireturn] ls st m := by
  rw [s_j, s_g_eq, g_l259]; rfl
theorem u_259_11 {X : e_X} {d : Nat} {ls st : List Value} {m : e_M} : s_j X d 259 11 ls st m = s_x X d 259 [.aload 0, .invokeinterface 217 1, .ifCond .eq 21, .sipush (-3), .ireturn] ls st m := by
  rw [s_j, s_g_eq, g_l259]; rfl
theorem u_259_21 {X : e_X} {d : Nat} {ls st : List Value} {m : e_M} : s_j X d 259 21 ls st m = s_x X d 259 [.aload 0, .sipush 0, .aload 0, .iload 1, .invokeinterface 247 2, .invokeinterface 258 3, .istore 2, .iload 2, .ifCond .ge 41, .sipush (-3), .goto 47] ls st m := by
  rw [s_j, s_g_eq, g_l259]; rfl
theorem u_259_41 {X : e_X} {d : Nat} {ls st : List Value} {m : e_M} : s_j X d 259 41 ls st m = s_x X d 259 [.aload 0, .checkcast 659, .sipush 0, .iaload, .jsr 47] ls st m := by
  rw [s_j, s_g_eq, g_l259]; rfl
theorem u_259_47 {X : e_X} {d : Nat} {ls st : List Value} {m : e_M} : s_j X d 259 47 ls st m = s_x X d 259 [.ireturn] ls st m := by
  rw [s_j, s_g_eq, g_l259]; rfl
/-- M.report -/
theorem g_l260 (l : Nat) : g_P 260 l = (g_c260.lookup l).getD [] := rfl
theorem v_260 {X : e_X} {d : Nat} (a0 : Nat) (a1 : Int32) (a2 : Int32) (a3 : Int32) (a4 : Int32) {m : e_M} : s_S X (d + 1) 260 [.ref a0, .int a1, .int a2, .int a3, .int a4] m = s_j X d 260 0 [.ref a0, .int a1, .int a2, .int a3, .int a4, .retAddr 0, .retAddr 0] [] m := rfl
theorem u_260_0 {X : e_X} {d : Nat} {ls st : List Value} {m : e_M} : s_j X d 260 0 ls st m = s_x X d 260 [.iload 2, .ifCond .ne 9, .sipush 40, .goto 11] ls st m := by
  rw [s_j, s_g_eq, g_l260]; rfl
theorem u_260_9 {X : e_X} {d : Nat} {ls st : List Value} {m : e_M} : s_j X d 260 9 ls st m = s_x X d 260 [.sipush 9, .jsr 11] ls st m := by
  rw [s_j, s_g_eq, g_l260]; rfl
theorem u_260_11 {X : e_X} {d : Nat} {ls st : List Value} {m : e_M} : s_j X d 260 11 ls st m = s_x X d 260 [.istore 5, .iload 1, .sipush 0, .sipush 15, .invokeinterface 172 3, .ifCond .eq 53, .iload 2, .sipush 0, .sipush 1, .invokeinterface 172 3, .ifCond .eq 53, .iload 3, .sipush 0, .iload 5, .invokeinterface 172 3, .ifCond .eq 53, .iload 4, .iload 3, .iload 5, .invokeinterface 172 3, .ifCond .ne 55, .jsr 53] ls st m := by
  rw [s_j, s_g_eq, g_l260]; rfl
theorem u_260_53 {X : e_X} {d : Nat} {ls st : List Value} {m : e_M} : s_j X d 260 53 ls st m = s_x X d 260 [.sipush (-1), .ireturn] ls st m := by
  rw [s_j, s_g_eq, g_l260]; rfl
theorem u_260_55 {X : e_X} {d : Nat} {ls st : List Value} {m : e_M} : s_j X d 260 55 ls st m = s_x X d 260 [.aload 0, .checkcast 640, .sipush 8, .iaload, .sipush 6, .if_icmp .ne 70, .sipush (-2), .ireturn] ls st m := by
  rw [s_j, s_g_eq, g_l260]; rfl
theorem u_260_70 {X : e_X} {d : Nat} {ls st : List Value} {m : e_M} : s_j X d 260 70 ls st m = s_x X d 260 [.sipush 74, .sipush 4, .aload 0, .checkcast 640, .sipush 8, .iaload, .imul, .iadd, .istore 6, .aload 0, .checkcast 640, .iload 6, .iload 1, .iastore, .aload 0, .checkcast 640, .iload 6, .sipush 1, .iadd, .iload 2, .iastore, .aload 0, .checkcast 640, .iload 6, .sipush 2, .iadd, .iload 3, .iastore, .aload 0, .checkcast 640, .iload 6, .sipush 3, .iadd, .iload 4, .iastore, .aload 0, .checkcast 640, .sipush 8, .dup2, .iaload, .sipush 1, .iadd, .iastore, .aload 0, .checkcast 640, .sipush 8, .iaload, .sipush 1, .isub, .ireturn] ls st m := by
  rw [s_j, s_g_eq, g_l260]; rfl
/-- M.forget -/
theorem g_l261 (l : Nat) : g_P 261 l = (g_c261.lookup l).getD [] := rfl
theorem v_261 {X : e_X} {d : Nat} (a0 : Nat) {m : e_M} : s_S X (d + 1) 261 [.ref a0] m = s_j X d 261 0 [.ref a0] [] m := rfl
theorem u_261_0 {X : e_X} {d : Nat} {ls st : List Value} {m : e_M} : s_j X d 261 0 ls st m = s_x X d 261 [.aload 0, .sipush 8, .sipush 0, .invokeinterface 208 3, .ireturn] ls st m := by
  rw [s_j, s_g_eq, g_l261]; rfl
/-- M.lost -/
theorem g_l262 (l : Nat) : g_P 262 l = (g_c262.lookup l).getD [] := rfl
theorem v_262 {X : e_X} {d : Nat} (a0 : Nat) (a1 : Int32) {m : e_M} : s_S X (d + 1) 262 [.ref a0, .int a1] m = s_j X d 262 0 [.ref a0, .int a1, .retAddr 0] [] m := rfl
theorem u_262_0 {X : e_X} {d : Nat} {ls st : List Value} {m : e_M} : s_j X d 262 0 ls st m = s_x X d 262 [.iload 1, .sipush 0, .sipush 3, .invokeinterface 172 3, .ifCond .ne 11, .sipush (-1), .ireturn] ls st m := by
  rw [s_j, s_g_eq, g_l262]; rfl
theorem u_262_11 {X : e_X} {d : Nat} {ls st : List Value} {m : e_M} : s_j X d 262 11 ls st m = s_x X d 262 [.aload 0, .sipush (-1), .invokeinterface 263 2, .istore 2, .iload 1, .ifCond .le 28, .iload 2, .ifCond .ne 28, .sipush (-3), .ireturn] ls st m := by
  rw [s_j, s_g_eq, g_l262]; rfl
theorem u_262_28 {X : e_X} {d : Nat} {ls st : List Value} {m : e_M} : s_j X d 262 28 ls st m = s_x X d 262 [.iload 1, .ifCond .ne 36, .iload 2, .goto 78] ls st m := by
  rw [s_j, s_g_eq, g_l262]; rfl
theorem u_262_36 {X : e_X} {d : Nat} {ls st : List Value} {m : e_M} : s_j X d 262 36 ls st m = s_x X d 262 [.iload 1, .sipush 1, .if_icmp .ne 53, .sipush 1, .aload 0, .getfield 667, .sipush 100, .idiv, .iadd, .goto 78] ls st m := by
  rw [s_j, s_g_eq, g_l262]; rfl
theorem u_262_53 {X : e_X} {d : Nat} {ls st : List Value} {m : e_M} : s_j X d 262 53 ls st m = s_x X d 262 [.iload 1, .sipush 2, .if_icmp .ne 71, .aload 0, .getfield 667, .sipush 10, .idiv, .sipush 10, .irem, .goto 78] ls st m := by
  rw [s_j, s_g_eq, g_l262]; rfl
theorem u_262_71 {X : e_X} {d : Nat} {ls st : List Value} {m : e_M} : s_j X d 262 71 ls st m = s_x X d 262 [.aload 0, .getfield 667, .sipush 10, .irem, .jsr 78] ls st m := by
  rw [s_j, s_g_eq, g_l262]; rfl
theorem u_262_78 {X : e_X} {d : Nat} {ls st : List Value} {m : e_M} : s_j X d 262 78 ls st m = s_x X d 262 [.ireturn] ls st m := by
  rw [s_j, s_g_eq, g_l262]; rfl
/-- M.fitting -/
theorem g_l263 (l : Nat) : g_P 263 l = (g_c263.lookup l).getD [] := rfl
theorem v_263 {X : e_X} {d : Nat} (a0 : Nat) (a1 : Int32) {m : e_M} : s_S X (d + 1) 263 [.ref a0, .int a1] m = s_j X d 263 0 [.ref a0, .int a1, .retAddr 0, .retAddr 0, .retAddr 0, .retAddr 0] [] m := rfl
theorem u_263_0 {X : e_X} {d : Nat} {ls st : List Value} {m : e_M} : s_j X d 263 0 ls st m = s_x X d 263 [.sipush 0, .istore 2, .aload 0, .sipush (-1), .putfield 667, .sipush 0, .istore 3, .jsr 9] ls st m := by
  rw [s_j, s_g_eq, g_l263]; rfl
theorem u_263_9 {X : e_X} {d : Nat} {ls st : List Value} {m : e_M} : s_j X d 263 9 ls st m = s_x X d 263 [.iload 3, .sipush 500, .if_icmp .ge 131, .aload 0, .sipush 1, .iload 3, .sipush 100, .idiv, .iadd, .iload 3, .sipush 10, .idiv, .sipush 10, .irem, .iload 3, .sipush 10, .irem, .invokeinterface 264 4, .sipush 1, .istore 4, .sipush 0, .istore 5, .jsr 43] ls st m := by
  rw [s_j, s_g_eq, g_l263]; rfl
theorem u_263_43 {X : e_X} {d : Nat} {ls st : List Value} {m : e_M} : s_j X d 263 43 ls st m = s_x X d 263 [.iload 5, .aload 0, .checkcast 640, .sipush 8, .iaload, .if_icmp .ge 88, .iload 4, .ifCond .eq 88, .iload 5, .iload 1, .if_icmp .eq 75, .aload 0, .iload 5, .invokeinterface 265 2, .ifCond .eq 79, .jsr 75] ls st m := by
  rw [s_j, s_g_eq, g_l263]; rfl
theorem u_263_75 {X : e_X} {d : Nat} {ls st : List Value} {m : e_M} : s_j X d 263 75 ls st m = s_x X d 263 [.sipush 1, .goto 80] ls st m := by
  rw [s_j, s_g_eq, g_l263]; rfl
theorem u_263_79 {X : e_X} {d : Nat} {ls st : List Value} {m : e_M} : s_j X d 263 79 ls st m = s_x X d 263 [.sipush 0, .jsr 80] ls st m := by
  rw [s_j, s_g_eq, g_l263]; rfl
theorem u_263_80 {X : e_X} {d : Nat} {ls st : List Value} {m : e_M} : s_j X d 263 80 ls st m = s_x X d 263 [.istore 4, .iinc 5 1, .goto 43] ls st m := by
  rw [s_j, s_g_eq, g_l263]; rfl
theorem u_263_88 {X : e_X} {d : Nat} {ls st : List Value} {m : e_M} : s_j X d 263 88 ls st m = s_x X d 263 [.iload 2, .iload 4, .ifCond .eq 98, .sipush 1, .goto 99] ls st m := by
  rw [s_j, s_g_eq, g_l263]; rfl
theorem u_263_98 {X : e_X} {d : Nat} {ls st : List Value} {m : e_M} : s_j X d 263 98 ls st m = s_x X d 263 [.sipush 0, .jsr 99] ls st m := by
  rw [s_j, s_g_eq, g_l263]; rfl
theorem u_263_99 {X : e_X} {d : Nat} {ls st : List Value} {m : e_M} : s_j X d 263 99 ls st m = s_x X d 263 [.iadd, .istore 2, .aload 0, .iload 4, .ifCond .eq 118, .aload 0, .getfield 667, .ifCond .ge 118, .iload 3, .goto 122] ls st m := by
  rw [s_j, s_g_eq, g_l263]; rfl
theorem u_263_118 {X : e_X} {d : Nat} {ls st : List Value} {m : e_M} : s_j X d 263 118 ls st m = s_x X d 263 [.aload 0, .getfield 667, .jsr 122] ls st m := by
  rw [s_j, s_g_eq, g_l263]; rfl
theorem u_263_122 {X : e_X} {d : Nat} {ls st : List Value} {m : e_M} : s_j X d 263 122 ls st m = s_x X d 263 [.putfield 667, .iinc 3 1, .goto 9] ls st m := by
  rw [s_j, s_g_eq, g_l263]; rfl
theorem u_263_131 {X : e_X} {d : Nat} {ls st : List Value} {m : e_M} : s_j X d 263 131 ls st m = s_x X d 263 [.iload 2, .ireturn] ls st m := by
  rw [s_j, s_g_eq, g_l263]; rfl
/-- M.tellsStranger -/
theorem g_l264 (l : Nat) : g_P 264 l = (g_c264.lookup l).getD [] := rfl
theorem v_264 {X : e_X} {d : Nat} (a0 : Nat) (a1 : Int32) (a2 : Int32) (a3 : Int32) {m : e_M} : s_S X (d + 1) 264 [.ref a0, .int a1, .int a2, .int a3] m = s_j X d 264 0 [.ref a0, .int a1, .int a2, .int a3, .retAddr 0, .retAddr 0, .retAddr 0, .retAddr 0, .retAddr 0] [] m := rfl
theorem u_264_0 {X : e_X} {d : Nat} {ls st : List Value} {m : e_M} : s_j X d 264 0 ls st m = s_x X d 264 [.iload 3, .istore 4, .sipush 0, .istore 5, .sipush 0, .istore 6, .jsr 9] ls st m := by
  rw [s_j, s_g_eq, g_l264]; rfl
theorem u_264_9 {X : e_X} {d : Nat} {ls st : List Value} {m : e_M} : s_j X d 264 9 ls st m = s_x X d 264 [.iload 6, .sipush 16, .if_icmp .ge 105, .aload 0, .checkcast 665, .iload 6, .iload 5, .iastore, .aload 0, .checkcast 666, .iload 6, .iload 4, .iastore, .iload 4, .aload 0, .checkcast 640, .sipush 10, .iload 6, .iadd, .iaload, .invokeinterface 221 2, .istore 4, .iload 1, .iload 2, .iload 6, .invokeinterface 197 3, .istore 7, .iload 7, .iload 5, .isub, .istore 8, .iload 5, .iload 8, .ifCond .gt 78, .sipush 0, .goto 96] ls st m := by
  rw [s_j, s_g_eq, g_l264]; rfl
theorem u_264_78 {X : e_X} {d : Nat} {ls st : List Value} {m : e_M} : s_j X d 264 78 ls st m = s_x X d 264 [.iload 8, .iload 4, .sipush 1, .iadd, .if_icmp .le 94, .iload 4, .sipush 1, .iadd, .goto 96] ls st m := by
  rw [s_j, s_g_eq, g_l264]; rfl
theorem u_264_94 {X : e_X} {d : Nat} {ls st : List Value} {m : e_M} : s_j X d 264 94 ls st m = s_x X d 264 [.iload 8, .jsr 96] ls st m := by
  rw [s_j, s_g_eq, g_l264]; rfl
theorem u_264_96 {X : e_X} {d : Nat} {ls st : List Value} {m : e_M} : s_j X d 264 96 ls st m = s_x X d 264 [.iadd, .istore 5, .iinc 6 1, .goto 9] ls st m := by
  rw [s_j, s_g_eq, g_l264]; rfl
theorem u_264_105 {X : e_X} {d : Nat} {ls st : List Value} {m : e_M} : s_j X d 264 105 ls st m = s_x X d 264 [.return_] ls st m := by
  rw [s_j, s_g_eq, g_l264]; rfl
/-- M.isSo -/
theorem g_l265 (l : Nat) : g_P 265 l = (g_c265.lookup l).getD [] := rfl
theorem v_265 {X : e_X} {d : Nat} (a0 : Nat) (a1 : Int32) {m : e_M} : s_S X (d + 1) 265 [.ref a0, .int a1] m = s_j X d 265 0 [.ref a0, .int a1, .retAddr 0, .retAddr 0] [] m := rfl
theorem u_265_0 {X : e_X} {d : Nat} {ls st : List Value} {m : e_M} : s_j X d 265 0 ls st m = s_x X d 265 [.sipush 74, .sipush 4, .iload 1, .imul, .iadd, .istore 2, .aload 0, .checkcast 640, .iload 2, .sipush 1, .iadd, .iaload, .ifCond .ne 32, .aload 0, .checkcast 665, .aload 0, .checkcast 640, .iload 2, .iaload, .iaload, .goto 43] ls st m := by
  rw [s_j, s_g_eq, g_l265]; rfl
theorem u_265_32 {X : e_X} {d : Nat} {ls st : List Value} {m : e_M} : s_j X d 265 32 ls st m = s_x X d 265 [.aload 0, .checkcast 666, .aload 0, .checkcast 640, .iload 2, .iaload, .iaload, .jsr 43] ls st m := by
  rw [s_j, s_g_eq, g_l265]; rfl
theorem u_265_43 {X : e_X} {d : Nat} {ls st : List Value} {m : e_M} : s_j X d 265 43 ls st m = s_x X d 265 [.istore 3, .iload 3, .aload 0, .checkcast 640, .iload 2, .sipush 2, .iadd, .iaload, .aload 0, .checkcast 640, .iload 2, .sipush 3, .iadd, .iaload, .invokeinterface 172 3, .ireturn] ls st m := by
  rw [s_j, s_g_eq, g_l265]; rfl
/-- M.liar -/
theorem g_l266 (l : Nat) : g_P 266 l = (g_c266.lookup l).getD [] := rfl
theorem v_266 {X : e_X} {d : Nat} (a0 : Nat) {m : e_M} : s_S X (d + 1) 266 [.ref a0] m = s_j X d 266 0 [.ref a0, .retAddr 0] [] m := rfl
theorem u_266_0 {X : e_X} {d : Nat} {ls st : List Value} {m : e_M} : s_j X d 266 0 ls st m = s_x X d 266 [.aload 0, .sipush (-1), .invokeinterface 263 2, .ifCond .le 11, .sipush (-3), .ireturn] ls st m := by
  rw [s_j, s_g_eq, g_l266]; rfl
theorem u_266_11 {X : e_X} {d : Nat} {ls st : List Value} {m : e_M} : s_j X d 266 11 ls st m = s_x X d 266 [.sipush 0, .istore 1, .jsr 13] ls st m := by
  rw [s_j, s_g_eq, g_l266]; rfl
theorem u_266_13 {X : e_X} {d : Nat} {ls st : List Value} {m : e_M} : s_j X d 266 13 ls st m = s_x X d 266 [.iload 1, .aload 0, .checkcast 640, .sipush 8, .iaload, .if_icmp .ge 40, .aload 0, .iload 1, .invokeinterface 263 2, .ifCond .le 34, .iload 1, .ireturn] ls st m := by
  rw [s_j, s_g_eq, g_l266]; rfl
theorem u_266_34 {X : e_X} {d : Nat} {ls st : List Value} {m : e_M} : s_j X d 266 34 ls st m = s_x X d 266 [.iinc 1 1, .goto 13] ls st m := by
  rw [s_j, s_g_eq, g_l266]; rfl
theorem u_266_40 {X : e_X} {d : Nat} {ls st : List Value} {m : e_M} : s_j X d 266 40 ls st m = s_x X d 266 [.sipush (-3), .ireturn] ls st m := by
  rw [s_j, s_g_eq, g_l266]; rfl
/-- M.seed -/
theorem g_l267 (l : Nat) : g_P 267 l = (g_c267.lookup l).getD [] := rfl
theorem v_267 {X : e_X} {d : Nat} (a0 : Nat) (a1 : Int32) {m : e_M} : s_S X (d + 1) 267 [.ref a0, .int a1] m = s_j X d 267 0 [.ref a0, .int a1] [] m := rfl
theorem u_267_0 {X : e_X} {d : Nat} {ls st : List Value} {m : e_M} : s_j X d 267 0 ls st m = s_x X d 267 [.aload 0, .sipush 5, .iload 1, .invokeinterface 208 3, .ireturn] ls st m := by
  rw [s_j, s_g_eq, g_l267]; rfl
/-- M.lot -/
theorem g_l268 (l : Nat) : g_P 268 l = (g_c268.lookup l).getD [] := rfl
theorem v_268 {X : e_X} {d : Nat} (a0 : Nat) {m : e_M} : s_S X (d + 1) 268 [.ref a0] m = s_j X d 268 0 [.ref a0] [] m := rfl
theorem u_268_0 {X : e_X} {d : Nat} {ls st : List Value} {m : e_M} : s_j X d 268 0 ls st m = s_x X d 268 [.aload 0, .invokeinterface 217 1, .ifCond .eq 12, .sipush (-4), .goto 16] ls st m := by
  rw [s_j, s_g_eq, g_l268]; rfl
theorem u_268_12 {X : e_X} {d : Nat} {ls st : List Value} {m : e_M} : s_j X d 268 12 ls st m = s_x X d 268 [.aload 0, .invokeinterface 269 1, .jsr 16] ls st m := by
  rw [s_j, s_g_eq, g_l268]; rfl
theorem u_268_16 {X : e_X} {d : Nat} {ls st : List Value} {m : e_M} : s_j X d 268 16 ls st m = s_x X d 268 [.ireturn] ls st m := by
  rw [s_j, s_g_eq, g_l268]; rfl
/-- M.byLot -/
theorem g_l269 (l : Nat) : g_P 269 l = (g_c269.lookup l).getD [] := rfl
theorem v_269 {X : e_X} {d : Nat} (a0 : Nat) {m : e_M} : s_S X (d + 1) 269 [.ref a0] m = s_j X d 269 0 [.ref a0] [] m := rfl
theorem u_269_0 {X : e_X} {d : Nat} {ls st : List Value} {m : e_M} : s_j X d 269 0 ls st m = s_x X d 269 [.aload 0, .checkcast 640, .sipush 5, .aload 0, .checkcast 640, .sipush 5, .iaload, .sipush 1103515245, .imul, .sipush 12345, .iadd, .iastore, .aload 0, .aload 0, .checkcast 640, .sipush 5, .iaload, .sipush 16, .iushr, .aload 0, .checkcast 640, .sipush 6, .iaload, .sipush 1, .iadd, .irem, .invokeinterface 220 2, .ireturn] ls st m := by
  rw [s_j, s_g_eq, g_l269]; rfl
/-- M.times -/
theorem g_l270 (l : Nat) : g_P 270 l = (g_c270.lookup l).getD [] := rfl
theorem v_270 {X : e_X} {d : Nat} (a0 : Nat) (a1 : Int32) (a2 : Int32) {m : e_M} : s_S X (d + 1) 270 [.ref a0, .int a1, .int a2] m = s_j X d 270 0 [.ref a0, .int a1, .int a2, .retAddr 0, .retAddr 0, .retAddr 0, .retAddr 0] [] m := rfl
theorem u_270_0 {X : e_X} {d : Nat} {ls st : List Value} {m : e_M} : s_j X d 270 0 ls st m = s_x X d 270 [.iload 1, .sipush 1, .sipush 40, .invokeinterface 172 3, .ifCond .eq 21, .iload 2, .sipush 0, .sipush 999, .invokeinterface 172 3, .ifCond .ne 23, .jsr 21] ls st m := by
  rw [s_j, s_g_eq, g_l270]; rfl
theorem u_270_21 {X : e_X} {d : Nat} {ls st : List Value} {m : e_M} : s_j X d 270 21 ls st m = s_x X d 270 [.sipush (-1), .ireturn] ls st m := by
  rw [s_j, s_g_eq, g_l270]; rfl
theorem u_270_23 {X : e_X} {d : Nat} {ls st : List Value} {m : e_M} : s_j X d 270 23 ls st m = s_x X d 270 [.aload 0, .invokeinterface 230 1, .sipush 0, .istore 3, .sipush 0, .istore 4, .jsr 32] ls st m := by
  rw [s_j, s_g_eq, g_l270]; rfl
theorem u_270_32 {X : e_X} {d : Nat} {ls st : List Value} {m : e_M} : s_j X d 270 32 ls st m = s_x X d 270 [.iload 4, .iload 1, .if_icmp .ge 100, .sipush 0, .istore 5, .jsr 41] ls st m := by
  rw [s_j, s_g_eq, g_l270]; rfl
theorem u_270_41 {X : e_X} {d : Nat} {ls st : List Value} {m : e_M} : s_j X d 270 41 ls st m = s_x X d 270 [.aload 0, .invokeinterface 217 1, .ifCond .ne 60, .iload 5, .aload 0, .invokeinterface 269 1, .iadd, .istore 5, .goto 41] ls st m := by
  rw [s_j, s_g_eq, g_l270]; rfl
theorem u_270_60 {X : e_X} {d : Nat} {ls st : List Value} {m : e_M} : s_j X d 270 60 ls st m = s_x X d 270 [.iload 3, .iload 5, .iload 2, .if_icmp .lt 71, .sipush 1, .goto 72] ls st m := by
  rw [s_j, s_g_eq, g_l270]; rfl
theorem u_270_71 {X : e_X} {d : Nat} {ls st : List Value} {m : e_M} : s_j X d 270 71 ls st m = s_x X d 270 [.sipush 0, .jsr 72] ls st m := by
  rw [s_j, s_g_eq, g_l270]; rfl
theorem u_270_72 {X : e_X} {d : Nat} {ls st : List Value} {m : e_M} : s_j X d 270 72 ls st m = s_x X d 270 [.iadd, .istore 3, .aload 0, .checkcast 640, .sipush 5, .iaload, .istore 6, .aload 0, .invokeinterface 232 1, .aload 0, .checkcast 640, .sipush 5, .iload 6, .iastore, .iinc 4 1, .goto 32] ls st m := by
  rw [s_j, s_g_eq, g_l270]; rfl
theorem u_270_100 {X : e_X} {d : Nat} {ls st : List Value} {m : e_M} : s_j X d 270 100 ls st m = s_x X d 270 [.aload 0, .invokeinterface 232 1, .iload 3, .ireturn] ls st m := by
  rw [s_j, s_g_eq, g_l270]; rfl
/-- M.prove -/
theorem g_l271 (l : Nat) : g_P 271 l = (g_c271.lookup l).getD [] := rfl
theorem v_271 {X : e_X} {d : Nat} (a0 : Nat) (a1 : Int32) {m : e_M} : s_S X (d + 1) 271 [.ref a0, .int a1] m = s_j X d 271 0 [.ref a0, .int a1, .retAddr 0] [] m := rfl
theorem u_271_0 {X : e_X} {d : Nat} {ls st : List Value} {m : e_M} : s_j X d 271 0 ls st m = s_x X d 271 [.iload 1, .invokeinterface 245 1, .ifCond .ne 9, .sipush (-1), .ireturn] ls st m := by
  rw [s_j, s_g_eq, g_l271]; rfl
theorem u_271_9 {X : e_X} {d : Nat} {ls st : List Value} {m : e_M} : s_j X d 271 9 ls st m = s_x X d 271 [.aload 0, .iload 1, .sipush 0, .invokeinterface 246 3, .aload 0, .aload 0, .iload 1, .invokeinterface 247 2, .putfield 669, .aload 0, .invokeinterface 230 1, .sipush 0, .istore 2, .jsr 30] ls st m := by
  rw [s_j, s_g_eq, g_l271]; rfl
theorem u_271_30 {X : e_X} {d : Nat} {ls st : List Value} {m : e_M} : s_j X d 271 30 ls st m = s_x X d 271 [.iload 2, .aload 0, .getfield 669, .if_icmp .ge 93, .aload 0, .checkcast 668, .sipush 3, .iload 2, .imul, .aload 0, .checkcast 660, .iload 2, .iaload, .iastore, .aload 0, .checkcast 668, .sipush 3, .iload 2, .imul, .sipush 1, .iadd, .aload 0, .aload 0, .checkcast 660, .iload 2, .iaload, .invokeinterface 220 2, .iastore, .aload 0, .checkcast 668, .sipush 3, .iload 2, .imul, .sipush 2, .iadd, .aload 0, .sipush 4, .invokeinterface 218 2, .iastore, .iinc 2 1, .goto 30] ls st m := by
  rw [s_j, s_g_eq, g_l271]; rfl
theorem u_271_93 {X : e_X} {d : Nat} {ls st : List Value} {m : e_M} : s_j X d 271 93 ls st m = s_x X d 271 [.aload 0, .invokeinterface 232 1, .aload 0, .getfield 669, .ireturn] ls st m := by
  rw [s_j, s_g_eq, g_l271]; rfl
/-- M.row -/
theorem g_l272 (l : Nat) : g_P 272 l = (g_c272.lookup l).getD [] := rfl
theorem v_272 {X : e_X} {d : Nat} (a0 : Nat) (a1 : Int32) (a2 : Int32) {m : e_M} : s_S X (d + 1) 272 [.ref a0, .int a1, .int a2] m = s_j X d 272 0 [.ref a0, .int a1, .int a2] [] m := rfl
theorem u_272_0 {X : e_X} {d : Nat} {ls st : List Value} {m : e_M} : s_j X d 272 0 ls st m = s_x X d 272 [.aload 0, .iload 1, .iload 2, .invokeinterface 273 3, .ifCond .eq 22, .aload 0, .checkcast 668, .sipush 3, .iload 1, .imul, .iload 2, .iadd, .iaload, .goto 24] ls st m := by
  rw [s_j, s_g_eq, g_l272]; rfl
theorem u_272_22 {X : e_X} {d : Nat} {ls st : List Value} {m : e_M} : s_j X d 272 22 ls st m = s_x X d 272 [.sipush (-9), .jsr 24] ls st m := by
  rw [s_j, s_g_eq, g_l272]; rfl
theorem u_272_24 {X : e_X} {d : Nat} {ls st : List Value} {m : e_M} : s_j X d 272 24 ls st m = s_x X d 272 [.ireturn] ls st m := by
  rw [s_j, s_g_eq, g_l272]; rfl
/-- M.isRow -/
theorem g_l273 (l : Nat) : g_P 273 l = (g_c273.lookup l).getD [] := rfl
theorem v_273 {X : e_X} {d : Nat} (a0 : Nat) (a1 : Int32) (a2 : Int32) {m : e_M} : s_S X (d + 1) 273 [.ref a0, .int a1, .int a2] m = s_j X d 273 0 [.ref a0, .int a1, .int a2] [] m := rfl
theorem u_273_0 {X : e_X} {d : Nat} {ls st : List Value} {m : e_M} : s_j X d 273 0 ls st m = s_x X d 273 [.iload 1, .sipush 0, .aload 0, .getfield 669, .sipush 1, .isub, .invokeinterface 172 3, .ifCond .eq 27, .iload 2, .sipush 0, .sipush 2, .invokeinterface 172 3, .ifCond .eq 27, .sipush 1, .goto 28] ls st m := by
  rw [s_j, s_g_eq, g_l273]; rfl
theorem u_273_27 {X : e_X} {d : Nat} {ls st : List Value} {m : e_M} : s_j X d 273 27 ls st m = s_x X d 273 [.sipush 0, .jsr 28] ls st m := by
  rw [s_j, s_g_eq, g_l273]; rfl
theorem u_273_28 {X : e_X} {d : Nat} {ls st : List Value} {m : e_M} : s_j X d 273 28 ls st m = s_x X d 273 [.ireturn] ls st m := by
  rw [s_j, s_g_eq, g_l273]; rfl
/-- M.alterRow -/
theorem g_l274 (l : Nat) : g_P 274 l = (g_c274.lookup l).getD [] := rfl
theorem v_274 {X : e_X} {d : Nat} (a0 : Nat) (a1 : Int32) (a2 : Int32) (a3 : Int32) {m : e_M} : s_S X (d + 1) 274 [.ref a0, .int a1, .int a2, .int a3] m = s_j X d 274 0 [.ref a0, .int a1, .int a2, .int a3, .retAddr 0] [] m := rfl
theorem u_274_0 {X : e_X} {d : Nat} {ls st : List Value} {m : e_M} : s_j X d 274 0 ls st m = s_x X d 274 [.aload 0, .iload 1, .iload 2, .invokeinterface 273 3, .ifCond .ne 12, .sipush (-9), .ireturn] ls st m := by
  rw [s_j, s_g_eq, g_l274]; rfl
theorem u_274_12 {X : e_X} {d : Nat} {ls st : List Value} {m : e_M} : s_j X d 274 12 ls st m = s_x X d 274 [.aload 0, .checkcast 668, .sipush 3, .iload 1, .imul, .iload 2, .iadd, .iaload, .istore 4, .aload 0, .checkcast 668, .sipush 3, .iload 1, .imul, .iload 2, .iadd, .iload 3, .iastore, .iload 4, .ireturn] ls st m := by
  rw [s_j, s_g_eq, g_l274]; rfl
/-- M.judge -/
theorem g_l275 (l : Nat) : g_P 275 l = (g_c275.lookup l).getD [] := rfl
theorem v_275 {X : e_X} {d : Nat} (a0 : Nat) {m : e_M} : s_S X (d + 1) 275 [.ref a0] m = s_j X d 275 0 [.ref a0, .retAddr 0, .retAddr 0, .retAddr 0, .retAddr 0, .retAddr 0] [] m := rfl
theorem u_275_0 {X : e_X} {d : Nat} {ls st : List Value} {m : e_M} : s_j X d 275 0 ls st m = s_x X d 275 [.aload 0, .invokeinterface 230 1, .sipush 0, .istore 1, .sipush 0, .istore 2, .jsr 8] ls st m := by
  rw [s_j, s_g_eq, g_l275]; rfl
theorem u_275_8 {X : e_X} {d : Nat} {ls st : List Value} {m : e_M} : s_j X d 275 8 ls st m = s_x X d 275 [.iload 2, .aload 0, .getfield 669, .if_icmp .ge 133, .iload 1, .ifCond .ne 133, .aload 0, .aload 0, .checkcast 668, .sipush 3, .iload 2, .imul, .iaload, .invokeinterface 276 2, .ifCond .eq 46, .aload 0, .invokeinterface 217 1, .ifCond .ne 46, .sipush 1, .goto 47] ls st m := by
  rw [s_j, s_g_eq, g_l275]; rfl
theorem u_275_46 {X : e_X} {d : Nat} {ls st : List Value} {m : e_M} : s_j X d 275 46 ls st m = s_x X d 275 [.sipush 0, .jsr 47] ls st m := by
  rw [s_j, s_g_eq, g_l275]; rfl
theorem u_275_47 {X : e_X} {d : Nat} {ls st : List Value} {m : e_M} : s_j X d 275 47 ls st m = s_x X d 275 [.istore 3, .iload 3, .ifCond .eq 67, .aload 0, .aload 0, .checkcast 668, .sipush 3, .iload 2, .imul, .iaload, .invokeinterface 220 2, .goto 68] ls st m := by
  rw [s_j, s_g_eq, g_l275]; rfl
theorem u_275_67 {X : e_X} {d : Nat} {ls st : List Value} {m : e_M} : s_j X d 275 67 ls st m = s_x X d 275 [.sipush 0, .jsr 68] ls st m := by
  rw [s_j, s_g_eq, g_l275]; rfl
theorem u_275_68 {X : e_X} {d : Nat} {ls st : List Value} {m : e_M} : s_j X d 275 68 ls st m = s_x X d 275 [.istore 4, .iload 3, .ifCond .eq 111, .iload 4, .aload 0, .checkcast 668, .sipush 3, .iload 2, .imul, .sipush 1, .iadd, .iaload, .if_icmp .ne 111, .aload 0, .sipush 4, .invokeinterface 218 2, .aload 0, .checkcast 668, .sipush 3, .iload 2, .imul, .sipush 2, .iadd, .iaload, .if_icmp .ne 111, .sipush 1, .goto 112] ls st m := by
  rw [s_j, s_g_eq, g_l275]; rfl
theorem u_275_111 {X : e_X} {d : Nat} {ls st : List Value} {m : e_M} : s_j X d 275 111 ls st m = s_x X d 275 [.sipush 0, .jsr 112] ls st m := by
  rw [s_j, s_g_eq, g_l275]; rfl
theorem u_275_112 {X : e_X} {d : Nat} {ls st : List Value} {m : e_M} : s_j X d 275 112 ls st m = s_x X d 275 [.istore 5, .iload 5, .ifCond .eq 123, .sipush 0, .goto 126] ls st m := by
  rw [s_j, s_g_eq, g_l275]; rfl
theorem u_275_123 {X : e_X} {d : Nat} {ls st : List Value} {m : e_M} : s_j X d 275 123 ls st m = s_x X d 275 [.sipush 1, .iload 2, .iadd, .jsr 126] ls st m := by
  rw [s_j, s_g_eq, g_l275]; rfl
theorem u_275_126 {X : e_X} {d : Nat} {ls st : List Value} {m : e_M} : s_j X d 275 126 ls st m = s_x X d 275 [.istore 1, .iinc 2 1, .goto 8] ls st m := by
  rw [s_j, s_g_eq, g_l275]; rfl
theorem u_275_133 {X : e_X} {d : Nat} {ls st : List Value} {m : e_M} : s_j X d 275 133 ls st m = s_x X d 275 [.aload 0, .invokeinterface 232 1, .iload 1, .ireturn] ls st m := by
  rw [s_j, s_g_eq, g_l275]; rfl
/-- M.isAct -/
theorem g_l276 (l : Nat) : g_P 276 l = (g_c276.lookup l).getD [] := rfl
theorem v_276 {X : e_X} {d : Nat} (a0 : Nat) (a1 : Int32) {m : e_M} : s_S X (d + 1) 276 [.ref a0, .int a1] m = s_j X d 276 0 [.ref a0, .int a1] [] m := rfl
theorem u_276_0 {X : e_X} {d : Nat} {ls st : List Value} {m : e_M} : s_j X d 276 0 ls st m = s_x X d 276 [.iload 1, .sipush 0, .aload 0, .checkcast 640, .sipush 6, .iaload, .invokeinterface 172 3, .ireturn] ls st m := by
  rw [s_j, s_g_eq, g_l276]; rfl
/-- M.sheet -/
theorem g_l277 (l : Nat) : g_P 277 l = (g_c277.lookup l).getD [] := rfl
theorem v_277 {X : e_X} {d : Nat} (a0 : Nat) (a1 : Int32) (a2 : Int32) (a3 : Int32) {m : e_M} : s_S X (d + 1) 277 [.ref a0, .int a1, .int a2, .int a3] m = s_j X d 277 0 [.ref a0, .int a1, .int a2, .int a3, .retAddr 0] [] m := rfl
theorem u_277_0 {X : e_X} {d : Nat} {ls st : List Value} {m : e_M} : s_j X d 277 0 ls st m = s_x X d 277 [.iload 1, .invokeinterface 278 1, .ifCond .eq 26, .iload 2, .sipush (-1), .sipush 4, .invokeinterface 172 3, .ifCond .eq 26, .iload 2, .ifCond .lt 28, .iload 3, .sipush 40, .if_icmp .le 28, .jsr 26] ls st m := by
  rw [s_j, s_g_eq, g_l277]; rfl
theorem u_277_26 {X : e_X} {d : Nat} {ls st : List Value} {m : e_M} : s_j X d 277 26 ls st m = s_x X d 277 [.sipush (-1), .ireturn] ls st m := by
  rw [s_j, s_g_eq, g_l277]; rfl
theorem u_277_28 {X : e_X} {d : Nat} {ls st : List Value} {m : e_M} : s_j X d 277 28 ls st m = s_x X d 277 [.iload 2, .ifCond .lt 39, .iload 3, .ifCond .ge 39, .sipush (-14), .ireturn] ls st m := by
  rw [s_j, s_g_eq, g_l277]; rfl
theorem u_277_39 {X : e_X} {d : Nat} {ls st : List Value} {m : e_M} : s_j X d 277 39 ls st m = s_x X d 277 [.aload 0, .checkcast 670, .iload 1, .iload 2, .iastore, .aload 0, .checkcast 671, .iload 1, .iload 2, .ifCond .ge 59, .sipush 0, .goto 60] ls st m := by
  rw [s_j, s_g_eq, g_l277]; rfl
theorem u_277_59 {X : e_X} {d : Nat} {ls st : List Value} {m : e_M} : s_j X d 277 59 ls st m = s_x X d 277 [.iload 3, .jsr 60] ls st m := by
  rw [s_j, s_g_eq, g_l277]; rfl
theorem u_277_60 {X : e_X} {d : Nat} {ls st : List Value} {m : e_M} : s_j X d 277 60 ls st m = s_x X d 277 [.iastore, .sipush 0, .istore 4, .jsr 64] ls st m := by
  rw [s_j, s_g_eq, g_l277]; rfl
theorem u_277_64 {X : e_X} {d : Nat} {ls st : List Value} {m : e_M} : s_j X d 277 64 ls st m = s_x X d 277 [.iload 4, .sipush 40, .if_icmp .ge 90, .aload 0, .checkcast 672, .sipush 40, .iload 1, .imul, .iload 4, .iadd, .sipush 0, .iastore, .iinc 4 1, .goto 64] ls st m := by
  rw [s_j, s_g_eq, g_l277]; rfl
theorem u_277_90 {X : e_X} {d : Nat} {ls st : List Value} {m : e_M} : s_j X d 277 90 ls st m = s_x X d 277 [.sipush 1, .ireturn] ls st m := by
  rw [s_j, s_g_eq, g_l277]; rfl
/-- M.isSheet -/
theorem g_l278 (l : Nat) : g_P 278 l = (g_c278.lookup l).getD [] := rfl
theorem v_278 {X : e_X} {d : Nat} (a0 : Int32) {m : e_M} : s_S X (d + 1) 278 [.int a0] m = s_j X d 278 0 [.int a0] [] m := rfl
theorem u_278_0 {X : e_X} {d : Nat} {ls st : List Value} {m : e_M} : s_j X d 278 0 ls st m = s_x X d 278 [.iload 0, .sipush 0, .sipush 3, .invokeinterface 172 3, .ireturn] ls st m := by
  rw [s_j, s_g_eq, g_l278]; rfl
/-- M.write -/
theorem g_l279 (l : Nat) : g_P 279 l = (g_c279.lookup l).getD [] := rfl
theorem v_279 {X : e_X} {d : Nat} (a0 : Nat) (a1 : Int32) (a2 : Int32) (a3 : Int32) {m : e_M} : s_S X (d + 1) 279 [.ref a0, .int a1, .int a2, .int a3] m = s_j X d 279 0 [.ref a0, .int a1, .int a2, .int a3] [] m := rfl
theorem u_279_0 {X : e_X} {d : Nat} {ls st : List Value} {m : e_M} : s_j X d 279 0 ls st m = s_x X d 279 [.iload 1, .invokeinterface 278 1, .ifCond .ne 9, .sipush (-1), .ireturn] ls st m := by
  rw [s_j, s_g_eq, g_l279]; rfl
theorem u_279_9 {X : e_X} {d : Nat} {ls st : List Value} {m : e_M} : s_j X d 279 9 ls st m = s_x X d 279 [.aload 0, .checkcast 670, .iload 1, .iaload, .ifCond .ge 21, .sipush (-11), .ireturn] ls st m := by
  rw [s_j, s_g_eq, g_l279]; rfl
theorem u_279_21 {X : e_X} {d : Nat} {ls st : List Value} {m : e_M} : s_j X d 279 21 ls st m = s_x X d 279 [.iload 2, .sipush 0, .aload 0, .checkcast 671, .iload 1, .iaload, .sipush 1, .isub, .invokeinterface 172 3, .ifCond .ne 40, .sipush (-12), .ireturn] ls st m := by
  rw [s_j, s_g_eq, g_l279]; rfl
theorem u_279_40 {X : e_X} {d : Nat} {ls st : List Value} {m : e_M} : s_j X d 279 40 ls st m = s_x X d 279 [.aload 0, .checkcast 672, .sipush 40, .iload 1, .imul, .iload 2, .iadd, .iload 3, .aload 0, .checkcast 670, .iload 1, .iaload, .invokeinterface 280 2, .iastore, .sipush 1, .ireturn] ls st m := by
  rw [s_j, s_g_eq, g_l279]; rfl
/-- M.narrowed -/
theorem g_l280 (l : Nat) : g_P 280 l = (g_c280.lookup l).getD [] := rfl
theorem v_280 {X : e_X} {d : Nat} (a0 : Int32) (a1 : Int32) {m : e_M} : s_S X (d + 1) 280 [.int a0, .int a1] m = s_j X d 280 0 [.int a0, .int a1] [] m := rfl
theorem u_280_0 {X : e_X} {d : Nat} {ls st : List Value} {m : e_M} : s_j X d 280 0 ls st m = s_x X d 280 [.iload 1, .ifCond .ne 9, .iload 0, .i2b, .goto 37] ls st m := by
  rw [s_j, s_g_eq, g_l280]; rfl
theorem u_280_9 {X : e_X} {d : Nat} {ls st : List Value} {m : e_M} : s_j X d 280 9 ls st m = s_x X d 280 [.iload 1, .sipush 1, .if_icmp .ne 19, .iload 0, .i2s, .goto 37] ls st m := by
  rw [s_j, s_g_eq, g_l280]; rfl
theorem u_280_19 {X : e_X} {d : Nat} {ls st : List Value} {m : e_M} : s_j X d 280 19 ls st m = s_x X d 280 [.iload 1, .sipush 4, .if_icmp .ne 36, .iload 0, .ifCond .eq 32, .sipush 1, .goto 37] ls st m := by
  rw [s_j, s_g_eq, g_l280]; rfl
theorem u_280_32 {X : e_X} {d : Nat} {ls st : List Value} {m : e_M} : s_j X d 280 32 ls st m = s_x X d 280 [.sipush 0, .goto 37] ls st m := by
  rw [s_j, s_g_eq, g_l280]; rfl
theorem u_280_36 {X : e_X} {d : Nat} {ls st : List Value} {m : e_M} : s_j X d 280 36 ls st m = s_x X d 280 [.iload 0, .jsr 37] ls st m := by
  rw [s_j, s_g_eq, g_l280]; rfl
theorem u_280_37 {X : e_X} {d : Nat} {ls st : List Value} {m : e_M} : s_j X d 280 37 ls st m = s_x X d 280 [.ireturn] ls st m := by
  rw [s_j, s_g_eq, g_l280]; rfl
/-- M.item -/
theorem g_l281 (l : Nat) : g_P 281 l = (g_c281.lookup l).getD [] := rfl
theorem v_281 {X : e_X} {d : Nat} (a0 : Nat) (a1 : Int32) (a2 : Int32) (a3 : Int32) {m : e_M} : s_S X (d + 1) 281 [.ref a0, .int a1, .int a2, .int a3] m = s_j X d 281 0 [.ref a0, .int a1, .int a2, .int a3, .retAddr 0] [] m := rfl
theorem u_281_0 {X : e_X} {d : Nat} {ls st : List Value} {m : e_M} : s_j X d 281 0 ls st m = s_x X d 281 [.iload 1, .invokeinterface 278 1, .ifCond .eq 16, .iload 2, .sipush 0, .sipush 4, .invokeinterface 172 3, .ifCond .ne 18, .jsr 16] ls st m := by
  rw [s_j, s_g_eq, g_l281]; rfl
theorem u_281_16 {X : e_X} {d : Nat} {ls st : List Value} {m : e_M} : s_j X d 281 16 ls st m = s_x X d 281 [.sipush (-1), .ireturn] ls st m := by
  rw [s_j, s_g_eq, g_l281]; rfl
theorem u_281_18 {X : e_X} {d : Nat} {ls st : List Value} {m : e_M} : s_j X d 281 18 ls st m = s_x X d 281 [.aload 0, .iload 1, .iload 2, .invokeinterface 282 3, .istore 4, .iload 4, .ifCond .eq 36, .iload 4, .goto 68] ls st m := by
  rw [s_j, s_g_eq, g_l281]; rfl
theorem u_281_36 {X : e_X} {d : Nat} {ls st : List Value} {m : e_M} : s_j X d 281 36 ls st m = s_x X d 281 [.iload 3, .sipush 0, .aload 0, .checkcast 671, .iload 1, .iaload, .sipush 1, .isub, .invokeinterface 172 3, .ifCond .eq 66, .aload 0, .checkcast 672, .sipush 40, .iload 1, .imul, .iload 3, .iadd, .iaload, .goto 68] ls st m := by
  rw [s_j, s_g_eq, g_l281]; rfl
theorem u_281_66 {X : e_X} {d : Nat} {ls st : List Value} {m : e_M} : s_j X d 281 66 ls st m = s_x X d 281 [.sipush (-12), .jsr 68] ls st m := by
  rw [s_j, s_g_eq, g_l281]; rfl
theorem u_281_68 {X : e_X} {d : Nat} {ls st : List Value} {m : e_M} : s_j X d 281 68 ls st m = s_x X d 281 [.ireturn] ls st m := by
  rw [s_j, s_g_eq, g_l281]; rfl
/-- M.lacks -/
theorem g_l282 (l : Nat) : g_P 282 l = (g_c282.lookup l).getD [] := rfl
theorem v_282 {X : e_X} {d : Nat} (a0 : Nat) (a1 : Int32) (a2 : Int32) {m : e_M} : s_S X (d + 1) 282 [.ref a0, .int a1, .int a2] m = s_j X d 282 0 [.ref a0, .int a1, .int a2] [] m := rfl
theorem u_282_0 {X : e_X} {d : Nat} {ls st : List Value} {m : e_M} : s_j X d 282 0 ls st m = s_x X d 282 [.aload 0, .checkcast 670, .iload 1, .iaload, .ifCond .ge 14, .sipush (-11), .goto 30] ls st m := by
  rw [s_j, s_g_eq, g_l282]; rfl
theorem u_282_14 {X : e_X} {d : Nat} {ls st : List Value} {m : e_M} : s_j X d 282 14 ls st m = s_x X d 282 [.aload 0, .checkcast 670, .iload 1, .iaload, .iload 2, .if_icmp .eq 29, .sipush (-13), .goto 30] ls st m := by
  rw [s_j, s_g_eq, g_l282]; rfl
theorem u_282_29 {X : e_X} {d : Nat} {ls st : List Value} {m : e_M} : s_j X d 282 29 ls st m = s_x X d 282 [.sipush 0, .jsr 30] ls st m := by
  rw [s_j, s_g_eq, g_l282]; rfl
theorem u_282_30 {X : e_X} {d : Nat} {ls st : List Value} {m : e_M} : s_j X d 282 30 ls st m = s_x X d 282 [.ireturn] ls st m := by
  rw [s_j, s_g_eq, g_l282]; rfl
/-- M.goAll -/
theorem g_l283 (l : Nat) : g_P 283 l = (g_c283.lookup l).getD [] := rfl
theorem v_283 {X : e_X} {d : Nat} (a0 : Nat) (a1 : Int32) (a2 : Int32) (a3 : Int32) {m : e_M} : s_S X (d + 1) 283 [.ref a0, .int a1, .int a2, .int a3] m = s_j X d 283 0 [.ref a0, .int a1, .int a2, .int a3, .retAddr 0, .retAddr 0, .retAddr 0, .retAddr 0] [] m := rfl
theorem u_283_0 {X : e_X} {d : Nat} {ls st : List Value} {m : e_M} : s_j X d 283 0 ls st m = s_x X d 283 [.iload 1, .invokeinterface 278 1, .ifCond .eq 17, .iload 3, .sipush 0, .sipush 20, .invokeinterface 172 3, .ifCond .ne 19, .jsr 17] ls st m := by
  rw [s_j, s_g_eq, g_l283]; rfl
theorem u_283_17 {X : e_X} {d : Nat} {ls st : List Value} {m : e_M} : s_j X d 283 17 ls st m = s_x X d 283 [.sipush (-1), .ireturn] ls st m := by
  rw [s_j, s_g_eq, g_l283]; rfl
theorem u_283_19 {X : e_X} {d : Nat} {ls st : List Value} {m : e_M} : s_j X d 283 19 ls st m = s_x X d 283 [.aload 0, .iload 1, .sipush 0, .invokeinterface 282 3, .istore 4, .iload 4, .ifCond .eq 35, .iload 4, .ireturn] ls st m := by
  rw [s_j, s_g_eq, g_l283]; rfl
theorem u_283_35 {X : e_X} {d : Nat} {ls st : List Value} {m : e_M} : s_j X d 283 35 ls st m = s_x X d 283 [.sipush 0, .istore 5, .sipush 0, .istore 6, .jsr 41] ls st m := by
  rw [s_j, s_g_eq, g_l283]; rfl
theorem u_283_41 {X : e_X} {d : Nat} {ls st : List Value} {m : e_M} : s_j X d 283 41 ls st m = s_x X d 283 [.iload 6, .iload 3, .if_icmp .ge 114, .aload 0, .iload 1, .iload 2, .iload 6, .invokeinterface 284 4, .ifCond .ne 61, .sipush (-12), .ireturn] ls st m := by
  rw [s_j, s_g_eq, g_l283]; rfl
theorem u_283_61 {X : e_X} {d : Nat} {ls st : List Value} {m : e_M} : s_j X d 283 61 ls st m = s_x X d 283 [.aload 0, .checkcast 672, .sipush 40, .iload 1, .imul, .iload 2, .iadd, .iload 6, .iadd, .iaload, .istore 7, .iload 5, .aload 0, .iload 7, .invokeinterface 276 2, .ifCond .eq 104, .aload 0, .invokeinterface 217 1, .ifCond .ne 104, .aload 0, .iload 7, .invokeinterface 220 2, .goto 105] ls st m := by
  rw [s_j, s_g_eq, g_l283]; rfl
theorem u_283_104 {X : e_X} {d : Nat} {ls st : List Value} {m : e_M} : s_j X d 283 104 ls st m = s_x X d 283 [.sipush 0, .jsr 105] ls st m := by
  rw [s_j, s_g_eq, g_l283]; rfl
theorem u_283_105 {X : e_X} {d : Nat} {ls st : List Value} {m : e_M} : s_j X d 283 105 ls st m = s_x X d 283 [.iadd, .istore 5, .iinc 6 1, .goto 41] ls st m := by
  rw [s_j, s_g_eq, g_l283]; rfl
theorem u_283_114 {X : e_X} {d : Nat} {ls st : List Value} {m : e_M} : s_j X d 283 114 ls st m = s_x X d 283 [.iload 5, .ireturn] ls st m := by
  rw [s_j, s_g_eq, g_l283]; rfl
/-- M.isItem -/
theorem g_l284 (l : Nat) : g_P 284 l = (g_c284.lookup l).getD [] := rfl
theorem v_284 {X : e_X} {d : Nat} (a0 : Nat) (a1 : Int32) (a2 : Int32) (a3 : Int32) {m : e_M} : s_S X (d + 1) 284 [.ref a0, .int a1, .int a2, .int a3] m = s_j X d 284 0 [.ref a0, .int a1, .int a2, .int a3] [] m := rfl
theorem u_284_0 {X : e_X} {d : Nat} {ls st : List Value} {m : e_M} : s_j X d 284 0 ls st m = s_x X d 284 [.iload 2, .ifCond .lt 20, .iload 2, .aload 0, .checkcast 671, .iload 1, .iaload, .iload 3, .isub, .if_icmp .ge 20, .sipush 1, .goto 21] ls st m := by
  rw [s_j, s_g_eq, g_l284]; rfl
theorem u_284_20 {X : e_X} {d : Nat} {ls st : List Value} {m : e_M} : s_j X d 284 20 ls st m = s_x X d 284 [.sipush 0, .jsr 21] ls st m := by
  rw [s_j, s_g_eq, g_l284]; rfl
theorem u_284_21 {X : e_X} {d : Nat} {ls st : List Value} {m : e_M} : s_j X d 284 21 ls st m = s_x X d 284 [.ireturn] ls st m := by
  rw [s_j, s_g_eq, g_l284]; rfl
/-- M.wouldBe -/
theorem g_l285 (l : Nat) : g_P 285 l = (g_c285.lookup l).getD [] := rfl
theorem v_285 {X : e_X} {d : Nat} (a0 : Nat) (a1 : Int32) (a2 : Int32) (a3 : Int32) {m : e_M} : s_S X (d + 1) 285 [.ref a0, .int a1, .int a2, .int a3] m = s_j X d 285 0 [.ref a0, .int a1, .int a2, .int a3, .retAddr 0, .retAddr 0, .retAddr 0, .retAddr 0] [] m := rfl
theorem u_285_0 {X : e_X} {d : Nat} {ls st : List Value} {m : e_M} : s_j X d 285 0 ls st m = s_x X d 285 [.iload 1, .invokeinterface 278 1, .ifCond .eq 17, .iload 3, .sipush 0, .sipush 20, .invokeinterface 172 3, .ifCond .ne 19, .jsr 17] ls st m := by
  rw [s_j, s_g_eq, g_l285]; rfl
theorem u_285_17 {X : e_X} {d : Nat} {ls st : List Value} {m : e_M} : s_j X d 285 17 ls st m = s_x X d 285 [.sipush (-1), .ireturn] ls st m := by
  rw [s_j, s_g_eq, g_l285]; rfl
theorem u_285_19 {X : e_X} {d : Nat} {ls st : List Value} {m : e_M} : s_j X d 285 19 ls st m = s_x X d 285 [.aload 0, .iload 1, .sipush 0, .invokeinterface 282 3, .istore 4, .sipush 0, .istore 5, .aload 0, .invokeinterface 230 1, .sipush 0, .istore 6, .jsr 37] ls st m := by
  rw [s_j, s_g_eq, g_l285]; rfl
theorem u_285_37 {X : e_X} {d : Nat} {ls st : List Value} {m : e_M} : s_j X d 285 37 ls st m = s_x X d 285 [.iload 6, .iload 3, .if_icmp .ge 145, .iload 4, .ifCond .ne 145, .aload 0, .iload 1, .iload 2, .iload 6, .invokeinterface 284 4, .ifCond .eq 76, .aload 0, .checkcast 672, .sipush 40, .iload 1, .imul, .iload 2, .iadd, .iload 6, .iadd, .iaload, .goto 77] ls st m := by
  rw [s_j, s_g_eq, g_l285]; rfl
theorem u_285_76 {X : e_X} {d : Nat} {ls st : List Value} {m : e_M} : s_j X d 285 76 ls st m = s_x X d 285 [.sipush (-1), .jsr 77] ls st m := by
  rw [s_j, s_g_eq, g_l285]; rfl
theorem u_285_77 {X : e_X} {d : Nat} {ls st : List Value} {m : e_M} : s_j X d 285 77 ls st m = s_x X d 285 [.istore 7, .aload 0, .iload 1, .iload 2, .iload 6, .invokeinterface 284 4, .ifCond .ne 95, .sipush (-12), .goto 117] ls st m := by
  rw [s_j, s_g_eq, g_l285]; rfl
theorem u_285_95 {X : e_X} {d : Nat} {ls st : List Value} {m : e_M} : s_j X d 285 95 ls st m = s_x X d 285 [.aload 0, .iload 7, .invokeinterface 276 2, .ifCond .eq 111, .aload 0, .invokeinterface 217 1, .ifCond .eq 116, .jsr 111] ls st m := by
  rw [s_j, s_g_eq, g_l285]; rfl
theorem u_285_111 {X : e_X} {d : Nat} {ls st : List Value} {m : e_M} : s_j X d 285 111 ls st m = s_x X d 285 [.sipush (-4), .goto 117] ls st m := by
  rw [s_j, s_g_eq, g_l285]; rfl
theorem u_285_116 {X : e_X} {d : Nat} {ls st : List Value} {m : e_M} : s_j X d 285 116 ls st m = s_x X d 285 [.sipush 0, .jsr 117] ls st m := by
  rw [s_j, s_g_eq, g_l285]; rfl
theorem u_285_117 {X : e_X} {d : Nat} {ls st : List Value} {m : e_M} : s_j X d 285 117 ls st m = s_x X d 285 [.istore 4, .iload 5, .iload 4, .ifCond .ne 135, .aload 0, .iload 7, .invokeinterface 220 2, .goto 136] ls st m := by
  rw [s_j, s_g_eq, g_l285]; rfl
theorem u_285_135 {X : e_X} {d : Nat} {ls st : List Value} {m : e_M} : s_j X d 285 135 ls st m = s_x X d 285 [.sipush 0, .jsr 136] ls st m := by
  rw [s_j, s_g_eq, g_l285]; rfl
theorem u_285_136 {X : e_X} {d : Nat} {ls st : List Value} {m : e_M} : s_j X d 285 136 ls st m = s_x X d 285 [.iadd, .istore 5, .iinc 6 1, .goto 37] ls st m := by
  rw [s_j, s_g_eq, g_l285]; rfl
theorem u_285_145 {X : e_X} {d : Nat} {ls st : List Value} {m : e_M} : s_j X d 285 145 ls st m = s_x X d 285 [.aload 0, .invokeinterface 232 1, .iload 4, .ifCond .eq 159, .iload 4, .goto 161] ls st m := by
  rw [s_j, s_g_eq, g_l285]; rfl
theorem u_285_159 {X : e_X} {d : Nat} {ls st : List Value} {m : e_M} : s_j X d 285 159 ls st m = s_x X d 285 [.iload 5, .jsr 161] ls st m := by
  rw [s_j, s_g_eq, g_l285]; rfl
theorem u_285_161 {X : e_X} {d : Nat} {ls st : List Value} {m : e_M} : s_j X d 285 161 ls st m = s_x X d 285 [.ireturn] ls st m := by
  rw [s_j, s_g_eq, g_l285]; rfl
/-- M.shelf -/
theorem g_l286 (l : Nat) : g_P 286 l = (g_c286.lookup l).getD [] := rfl
theorem v_286 {X : e_X} {d : Nat} (a0 : Nat) (a1 : Int32) (a2 : Int32) (a3 : Int32) {m : e_M} : s_S X (d + 1) 286 [.ref a0, .int a1, .int a2, .int a3] m = s_j X d 286 0 [.ref a0, .int a1, .int a2, .int a3] [] m := rfl
theorem u_286_0 {X : e_X} {d : Nat} {ls st : List Value} {m : e_M} : s_j X d 286 0 ls st m = s_x X d 286 [.iload 1, .invokeinterface 278 1, .ifCond .eq 40, .iload 2, .sipush 0, .sipush 2, .invokeinterface 172 3, .ifCond .eq 40, .iload 2, .ifCond .ne 28, .aload 0, .iload 3, .invokeinterface 194 2, .ifCond .eq 40, .jsr 28] ls st m := by
  rw [s_j, s_g_eq, g_l286]; rfl
theorem u_286_28 {X : e_X} {d : Nat} {ls st : List Value} {m : e_M} : s_j X d 286 28 ls st m = s_x X d 286 [.iload 2, .sipush 1, .if_icmp .ne 42, .iload 3, .invokeinterface 278 1, .ifCond .ne 42, .jsr 40] ls st m := by
  rw [s_j, s_g_eq, g_l286]; rfl
theorem u_286_40 {X : e_X} {d : Nat} {ls st : List Value} {m : e_M} : s_j X d 286 40 ls st m = s_x X d 286 [.sipush (-1), .ireturn] ls st m := by
  rw [s_j, s_g_eq, g_l286]; rfl
theorem u_286_42 {X : e_X} {d : Nat} {ls st : List Value} {m : e_M} : s_j X d 286 42 ls st m = s_x X d 286 [.aload 0, .checkcast 673, .iload 1, .iload 2, .ifCond .ne 55, .sipush 0, .goto 82] ls st m := by
  rw [s_j, s_g_eq, g_l286]; rfl
theorem u_286_55 {X : e_X} {d : Nat} {ls st : List Value} {m : e_M} : s_j X d 286 55 ls st m = s_x X d 286 [.iload 2, .sipush 1, .if_icmp .ne 81, .aload 0, .checkcast 670, .iload 3, .iaload, .ifCond .lt 81, .sipush 10, .aload 0, .checkcast 670, .iload 3, .iaload, .iadd, .goto 82] ls st m := by
  rw [s_j, s_g_eq, g_l286]; rfl
theorem u_286_81 {X : e_X} {d : Nat} {ls st : List Value} {m : e_M} : s_j X d 286 81 ls st m = s_x X d 286 [.sipush (-1), .jsr 82] ls st m := by
  rw [s_j, s_g_eq, g_l286]; rfl
theorem u_286_82 {X : e_X} {d : Nat} {ls st : List Value} {m : e_M} : s_j X d 286 82 ls st m = s_x X d 286 [.iastore, .aload 0, .checkcast 674, .iload 1, .iload 2, .ifCond .ne 96, .iload 3, .goto 111] ls st m := by
  rw [s_j, s_g_eq, g_l286]; rfl
theorem u_286_96 {X : e_X} {d : Nat} {ls st : List Value} {m : e_M} : s_j X d 286 96 ls st m = s_x X d 286 [.iload 2, .sipush 1, .if_icmp .ne 110, .aload 0, .checkcast 671, .iload 3, .iaload, .goto 111] ls st m := by
  rw [s_j, s_g_eq, g_l286]; rfl
theorem u_286_110 {X : e_X} {d : Nat} {ls st : List Value} {m : e_M} : s_j X d 286 110 ls st m = s_x X d 286 [.sipush 0, .jsr 111] ls st m := by
  rw [s_j, s_g_eq, g_l286]; rfl
theorem u_286_111 {X : e_X} {d : Nat} {ls st : List Value} {m : e_M} : s_j X d 286 111 ls st m = s_x X d 286 [.iastore, .sipush 1, .ireturn] ls st m := by
  rw [s_j, s_g_eq, g_l286]; rfl
/-- M.taken -/
theorem g_l287 (l : Nat) : g_P 287 l = (g_c287.lookup l).getD [] := rfl
theorem v_287 {X : e_X} {d : Nat} (a0 : Nat) (a1 : Int32) (a2 : Int32) {m : e_M} : s_S X (d + 1) 287 [.ref a0, .int a1, .int a2] m = s_j X d 287 0 [.ref a0, .int a1, .int a2, .retAddr 0, .retAddr 0] [] m := rfl
theorem u_287_0 {X : e_X} {d : Nat} {ls st : List Value} {m : e_M} : s_j X d 287 0 ls st m = s_x X d 287 [.iload 1, .invokeinterface 278 1, .ifCond .eq 27, .iload 2, .sipush 0, .sipush 5, .invokeinterface 172 3, .ifCond .ne 29, .iload 2, .sipush 10, .sipush 14, .invokeinterface 172 3, .ifCond .ne 29, .jsr 27] ls st m := by
  rw [s_j, s_g_eq, g_l287]; rfl
theorem u_287_27 {X : e_X} {d : Nat} {ls st : List Value} {m : e_M} : s_j X d 287 27 ls st m = s_x X d 287 [.sipush (-1), .ireturn] ls st m := by
  rw [s_j, s_g_eq, g_l287]; rfl
theorem u_287_29 {X : e_X} {d : Nat} {ls st : List Value} {m : e_M} : s_j X d 287 29 ls st m = s_x X d 287 [.aload 0, .iload 1, .invokeinterface 288 2, .istore 3, .iload 3, .ifCond .ge 42, .sipush (-11), .ireturn] ls st m := by
  rw [s_j, s_g_eq, g_l287]; rfl
theorem u_287_42 {X : e_X} {d : Nat} {ls st : List Value} {m : e_M} : s_j X d 287 42 ls st m = s_x X d 287 [.iload 3, .ifCond .ne 78, .iload 2, .sipush 10, .if_icmp .ge 74, .aload 0, .aload 0, .checkcast 674, .iload 1, .iaload, .sipush 0, .invokeinterface 196 3, .iload 2, .invokeinterface 202 2, .ifCond .eq 74, .sipush 1, .goto 88] ls st m := by
  rw [s_j, s_g_eq, g_l287]; rfl
theorem u_287_74 {X : e_X} {d : Nat} {ls st : List Value} {m : e_M} : s_j X d 287 74 ls st m = s_x X d 287 [.sipush 0, .goto 88] ls st m := by
  rw [s_j, s_g_eq, g_l287]; rfl
theorem u_287_78 {X : e_X} {d : Nat} {ls st : List Value} {m : e_M} : s_j X d 287 78 ls st m = s_x X d 287 [.iload 3, .iload 2, .if_icmp .ne 87, .sipush 1, .goto 88] ls st m := by
  rw [s_j, s_g_eq, g_l287]; rfl
theorem u_287_87 {X : e_X} {d : Nat} {ls st : List Value} {m : e_M} : s_j X d 287 87 ls st m = s_x X d 287 [.sipush 0, .jsr 88] ls st m := by
  rw [s_j, s_g_eq, g_l287]; rfl
theorem u_287_88 {X : e_X} {d : Nat} {ls st : List Value} {m : e_M} : s_j X d 287 88 ls st m = s_x X d 287 [.istore 4, .iload 4, .ifCond .eq 104, .aload 0, .checkcast 674, .iload 1, .iaload, .goto 106] ls st m := by
  rw [s_j, s_g_eq, g_l287]; rfl
theorem u_287_104 {X : e_X} {d : Nat} {ls st : List Value} {m : e_M} : s_j X d 287 104 ls st m = s_x X d 287 [.sipush (-13), .jsr 106] ls st m := by
  rw [s_j, s_g_eq, g_l287]; rfl
theorem u_287_106 {X : e_X} {d : Nat} {ls st : List Value} {m : e_M} : s_j X d 287 106 ls st m = s_x X d 287 [.ireturn] ls st m := by
  rw [s_j, s_g_eq, g_l287]; rfl
/-- M.heldOn -/
theorem g_l288 (l : Nat) : g_P 288 l = (g_c288.lookup l).getD [] := rfl
theorem v_288 {X : e_X} {d : Nat} (a0 : Nat) (a1 : Int32) {m : e_M} : s_S X (d + 1) 288 [.ref a0, .int a1] m = s_j X d 288 0 [.ref a0, .int a1] [] m := rfl
theorem u_288_0 {X : e_X} {d : Nat} {ls st : List Value} {m : e_M} : s_j X d 288 0 ls st m = s_x X d 288 [.aload 0, .checkcast 673, .iload 1, .iaload, .ifCond .ne 26, .aload 0, .aload 0, .checkcast 674, .iload 1, .iaload, .invokeinterface 194 2, .ifCond .ne 26, .sipush (-1), .goto 32] ls st m := by
  rw [s_j, s_g_eq, g_l288]; rfl
theorem u_288_26 {X : e_X} {d : Nat} {ls st : List Value} {m : e_M} : s_j X d 288 26 ls st m = s_x X d 288 [.aload 0, .checkcast 673, .iload 1, .iaload, .jsr 32] ls st m := by
  rw [s_j, s_g_eq, g_l288]; rfl
theorem u_288_32 {X : e_X} {d : Nat} {ls st : List Value} {m : e_M} : s_j X d 288 32 ls st m = s_x X d 288 [.ireturn] ls st m := by
  rw [s_j, s_g_eq, g_l288]; rfl
/-- M.act -/
theorem g_l289 (l : Nat) : g_P 289 l = (g_c289.lookup l).getD [] := rfl
theorem v_289 {X : e_X} {d : Nat} (a0 : Nat) (a1 : Int32) (a2 : Int32) (a3 : Int32) {m : e_M} : s_S X (d + 1) 289 [.ref a0, .int a1, .int a2, .int a3] m = s_j X d 289 0 [.ref a0, .int a1, .int a2, .int a3, .retAddr 0, .retAddr 0] [] m := rfl
theorem u_289_0 {X : e_X} {d : Nat} {ls st : List Value} {m : e_M} : s_j X d 289 0 ls st m = s_x X d 289 [.aload 0, .sipush 0, .putfield 676, .iload 1, .invokeinterface 278 1, .ifCond .eq 29, .iload 2, .sipush 0, .sipush 3, .invokeinterface 172 3, .ifCond .eq 29, .aload 0, .iload 1, .invokeinterface 288 2, .ifCond .eq 31, .jsr 29] ls st m := by
  rw [s_j, s_g_eq, g_l289]; rfl
theorem u_289_29 {X : e_X} {d : Nat} {ls st : List Value} {m : e_M} : s_j X d 289 29 ls st m = s_x X d 289 [.sipush 0, .ireturn] ls st m := by
  rw [s_j, s_g_eq, g_l289]; rfl
theorem u_289_31 {X : e_X} {d : Nat} {ls st : List Value} {m : e_M} : s_j X d 289 31 ls st m = s_x X d 289 [.aload 0, .aload 0, .checkcast 674, .iload 1, .iaload, .putfield 677, .aload 0, .sipush 0, .putfield 678, .aload 0, .aload 0, .getfield 677, .sipush 0, .invokeinterface 196 3, .istore 4, .iload 2, .ifCond .ne 71, .aload 0, .iload 4, .iload 3, .invokeinterface 290 3, .goto 108] ls st m := by
  rw [s_j, s_g_eq, g_l289]; rfl
theorem u_289_71 {X : e_X} {d : Nat} {ls st : List Value} {m : e_M} : s_j X d 289 71 ls st m = s_x X d 289 [.iload 2, .sipush 1, .if_icmp .ne 86, .aload 0, .iload 4, .iload 3, .invokeinterface 292 3, .goto 108] ls st m := by
  rw [s_j, s_g_eq, g_l289]; rfl
theorem u_289_86 {X : e_X} {d : Nat} {ls st : List Value} {m : e_M} : s_j X d 289 86 ls st m = s_x X d 289 [.iload 2, .sipush 2, .if_icmp .ne 101, .aload 0, .iload 4, .iload 3, .invokeinterface 293 3, .goto 108] ls st m := by
  rw [s_j, s_g_eq, g_l289]; rfl
theorem u_289_101 {X : e_X} {d : Nat} {ls st : List Value} {m : e_M} : s_j X d 289 101 ls st m = s_x X d 289 [.aload 0, .iload 4, .iload 3, .invokeinterface 294 3, .jsr 108] ls st m := by
  rw [s_j, s_g_eq, g_l289]; rfl
theorem u_289_108 {X : e_X} {d : Nat} {ls st : List Value} {m : e_M} : s_j X d 289 108 ls st m = s_x X d 289 [.istore 5, .aload 0, .getfield 678, .ifCond .eq 122, .sipush (-15), .goto 124] ls st m := by
  rw [s_j, s_g_eq, g_l289]; rfl
theorem u_289_122 {X : e_X} {d : Nat} {ls st : List Value} {m : e_M} : s_j X d 289 122 ls st m = s_x X d 289 [.iload 5, .jsr 124] ls st m := by
  rw [s_j, s_g_eq, g_l289]; rfl
theorem u_289_124 {X : e_X} {d : Nat} {ls st : List Value} {m : e_M} : s_j X d 289 124 ls st m = s_x X d 289 [.ireturn] ls st m := by
  rw [s_j, s_g_eq, g_l289]; rfl
/-- M.laysAs -/
theorem g_l290 (l : Nat) : g_P 290 l = (g_c290.lookup l).getD [] := rfl
theorem v_290 {X : e_X} {d : Nat} (a0 : Nat) (a1 : Int32) (a2 : Int32) {m : e_M} : s_S X (d + 1) 290 [.ref a0, .int a1, .int a2] m = s_j X d 290 0 [.ref a0, .int a1, .int a2] [] m := rfl
theorem u_290_0 {X : e_X} {d : Nat} {ls st : List Value} {m : e_M} : s_j X d 290 0 ls st m = s_x X d 290 [.iload 1, .sipush 1, .if_icmp .ne 20, .aload 0, .sipush 20, .invokeinterface 291 2, .aload 0, .sipush 0, .iload 2, .invokeinterface 290 3, .sipush 3, .imul, .ireturn] ls st m := by
  rw [s_j, s_g_eq, g_l290]; rfl
theorem u_290_20 {X : e_X} {d : Nat} {ls st : List Value} {m : e_M} : s_j X d 290 20 ls st m = s_x X d 290 [.iload 1, .sipush 3, .if_icmp .ne 40, .aload 0, .sipush 50, .invokeinterface 291 2, .aload 0, .sipush 2, .iload 2, .invokeinterface 290 3, .sipush 4, .ixor, .ireturn] ls st m := by
  rw [s_j, s_g_eq, g_l290]; rfl
theorem u_290_40 {X : e_X} {d : Nat} {ls st : List Value} {m : e_M} : s_j X d 290 40 ls st m = s_x X d 290 [.aload 0, .sipush 10, .invokeinterface 291 2, .iload 2, .sipush 2, .imul, .aload 0, .getfield 677, .iadd, .ireturn] ls st m := by
  rw [s_j, s_g_eq, g_l290]; rfl
/-- M.starts -/
theorem g_l291 (l : Nat) : g_P 291 l = (g_c291.lookup l).getD [] := rfl
theorem v_291 {X : e_X} {d : Nat} (a0 : Nat) (a1 : Int32) {m : e_M} : s_S X (d + 1) 291 [.ref a0, .int a1] m = s_j X d 291 0 [.ref a0, .int a1] [] m := rfl
theorem u_291_0 {X : e_X} {d : Nat} {ls st : List Value} {m : e_M} : s_j X d 291 0 ls st m = s_x X d 291 [.aload 0, .getfield 676, .sipush 30, .if_icmp .ge 29, .aload 0, .checkcast 675, .aload 0, .getfield 676, .iload 1, .iastore, .aload 0, .dup, .getfield 676, .sipush 1, .iadd, .putfield 676, .jsr 29] ls st m := by
  rw [s_j, s_g_eq, g_l291]; rfl
theorem u_291_29 {X : e_X} {d : Nat} {ls st : List Value} {m : e_M} : s_j X d 291 29 ls st m = s_x X d 291 [.return_] ls st m := by
  rw [s_j, s_g_eq, g_l291]; rfl
/-- M.tiltsAs -/
theorem g_l292 (l : Nat) : g_P 292 l = (g_c292.lookup l).getD [] := rfl
theorem v_292 {X : e_X} {d : Nat} (a0 : Nat) (a1 : Int32) (a2 : Int32) {m : e_M} : s_S X (d + 1) 292 [.ref a0, .int a1, .int a2] m = s_j X d 292 0 [.ref a0, .int a1, .int a2] [] m := rfl
theorem u_292_0 {X : e_X} {d : Nat} {ls st : List Value} {m : e_M} : s_j X d 292 0 ls st m = s_x X d 292 [.iload 1, .sipush 2, .if_icmp .eq 10, .iload 1, .sipush 3, .if_icmp .ne 25, .jsr 10] ls st m := by
  rw [s_j, s_g_eq, g_l292]; rfl
theorem u_292_10 {X : e_X} {d : Nat} {ls st : List Value} {m : e_M} : s_j X d 292 10 ls st m = s_x X d 292 [.aload 0, .sipush 30, .invokeinterface 291 2, .aload 0, .sipush 0, .iload 2, .sipush 1, .iadd, .invokeinterface 292 3, .ireturn] ls st m := by
  rw [s_j, s_g_eq, g_l292]; rfl
theorem u_292_25 {X : e_X} {d : Nat} {ls st : List Value} {m : e_M} : s_j X d 292 25 ls st m = s_x X d 292 [.iload 1, .sipush 5, .if_icmp .ne 46, .aload 0, .sipush 60, .invokeinterface 291 2, .aload 0, .sipush 4, .iload 2, .invokeinterface 292 3, .sipush 60, .isub, .ireturn] ls st m := by
  rw [s_j, s_g_eq, g_l292]; rfl
theorem u_292_46 {X : e_X} {d : Nat} {ls st : List Value} {m : e_M} : s_j X d 292 46 ls st m = s_x X d 292 [.aload 0, .sipush 11, .invokeinterface 291 2, .aload 0, .aload 0, .aload 0, .getfield 677, .sipush 0, .invokeinterface 196 3, .iload 2, .invokeinterface 290 3, .aload 0, .aload 0, .getfield 677, .sipush 3, .invokeinterface 196 3, .isub, .ireturn] ls st m := by
  rw [s_j, s_g_eq, g_l292]; rfl
/-- M.breaksAs -/
theorem g_l293 (l : Nat) : g_P 293 l = (g_c293.lookup l).getD [] := rfl
theorem v_293 {X : e_X} {d : Nat} (a0 : Nat) (a1 : Int32) (a2 : Int32) {m : e_M} : s_S X (d + 1) 293 [.ref a0, .int a1, .int a2] m = s_j X d 293 0 [.ref a0, .int a1, .int a2, .retAddr 0] [] m := rfl
theorem u_293_0 {X : e_X} {d : Nat} {ls st : List Value} {m : e_M} : s_j X d 293 0 ls st m = s_x X d 293 [.iload 1, .sipush 5, .if_icmp .ne 46, .aload 0, .sipush 61, .invokeinterface 291 2, .aload 0, .sipush 4, .iload 2, .invokeinterface 293 3, .istore 3, .aload 0, .getfield 678, .ifCond .eq 29, .sipush 0, .goto 45] ls st m := by
  rw [s_j, s_g_eq, g_l293]; rfl
theorem u_293_29 {X : e_X} {d : Nat} {ls st : List Value} {m : e_M} : s_j X d 293 29 ls st m = s_x X d 293 [.iload 3, .aload 0, .sipush 5, .aload 0, .aload 0, .getfield 677, .sipush 3, .invokeinterface 196 3, .invokeinterface 290 3, .ixor, .jsr 45] ls st m := by
  rw [s_j, s_g_eq, g_l293]; rfl
theorem u_293_45 {X : e_X} {d : Nat} {ls st : List Value} {m : e_M} : s_j X d 293 45 ls st m = s_x X d 293 [.ireturn] ls st m := by
  rw [s_j, s_g_eq, g_l293]; rfl
theorem u_293_46 {X : e_X} {d : Nat} {ls st : List Value} {m : e_M} : s_j X d 293 46 ls st m = s_x X d 293 [.iload 1, .sipush 4, .if_icmp .ne 65, .aload 0, .sipush 40, .invokeinterface 291 2, .aload 0, .sipush 0, .iload 2, .invokeinterface 293 3, .ineg, .ireturn] ls st m := by
  rw [s_j, s_g_eq, g_l293]; rfl
theorem u_293_65 {X : e_X} {d : Nat} {ls st : List Value} {m : e_M} : s_j X d 293 65 ls st m = s_x X d 293 [.aload 0, .sipush 12, .invokeinterface 291 2, .aload 0, .getfield 677, .aload 0, .aload 0, .getfield 677, .sipush 3, .invokeinterface 196 3, .iadd, .sipush 3, .isub, .istore 3, .aload 0, .aload 0, .getfield 678, .ifCond .ne 100, .iload 3, .ifCond .ne 104, .jsr 100] ls st m := by
  rw [s_j, s_g_eq, g_l293]; rfl
theorem u_293_100 {X : e_X} {d : Nat} {ls st : List Value} {m : e_M} : s_j X d 293 100 ls st m = s_x X d 293 [.sipush 1, .goto 105] ls st m := by
  rw [s_j, s_g_eq, g_l293]; rfl
theorem u_293_104 {X : e_X} {d : Nat} {ls st : List Value} {m : e_M} : s_j X d 293 104 ls st m = s_x X d 293 [.sipush 0, .jsr 105] ls st m := by
  rw [s_j, s_g_eq, g_l293]; rfl
theorem u_293_105 {X : e_X} {d : Nat} {ls st : List Value} {m : e_M} : s_j X d 293 105 ls st m = s_x X d 293 [.putfield 678, .aload 0, .getfield 678, .ifCond .eq 119, .sipush 0, .goto 122] ls st m := by
  rw [s_j, s_g_eq, g_l293]; rfl
theorem u_293_119 {X : e_X} {d : Nat} {ls st : List Value} {m : e_M} : s_j X d 293 119 ls st m = s_x X d 293 [.iload 2, .iload 3, .irem, .jsr 122] ls st m := by
  rw [s_j, s_g_eq, g_l293]; rfl
theorem u_293_122 {X : e_X} {d : Nat} {ls st : List Value} {m : e_M} : s_j X d 293 122 ls st m = s_x X d 293 [.ireturn] ls st m := by
  rw [s_j, s_g_eq, g_l293]; rfl
/-- M.shinesAs -/
theorem g_l294 (l : Nat) : g_P 294 l = (g_c294.lookup l).getD [] := rfl
theorem v_294 {X : e_X} {d : Nat} (a0 : Nat) (a1 : Int32) (a2 : Int32) {m : e_M} : s_S X (d + 1) 294 [.ref a0, .int a1, .int a2] m = s_j X d 294 0 [.ref a0, .int a1, .int a2, .retAddr 0] [] m := rfl
theorem u_294_0 {X : e_X} {d : Nat} {ls st : List Value} {m : e_M} : s_j X d 294 0 ls st m = s_x X d 294 [.iload 1, .sipush 3, .if_icmp .ne 41, .aload 0, .sipush 51, .invokeinterface 291 2, .aload 0, .sipush 2, .iload 2, .invokeinterface 294 3, .istore 3, .aload 0, .getfield 678, .ifCond .eq 29, .sipush 0, .goto 40] ls st m := by
  rw [s_j, s_g_eq, g_l294]; rfl
theorem u_294_29 {X : e_X} {d : Nat} {ls st : List Value} {m : e_M} : s_j X d 294 29 ls st m = s_x X d 294 [.iload 3, .aload 0, .sipush 3, .aload 0, .getfield 677, .invokeinterface 292 3, .iadd, .jsr 40] ls st m := by
  rw [s_j, s_g_eq, g_l294]; rfl
theorem u_294_40 {X : e_X} {d : Nat} {ls st : List Value} {m : e_M} : s_j X d 294 40 ls st m = s_x X d 294 [.ireturn] ls st m := by
  rw [s_j, s_g_eq, g_l294]; rfl
theorem u_294_41 {X : e_X} {d : Nat} {ls st : List Value} {m : e_M} : s_j X d 294 41 ls st m = s_x X d 294 [.aload 0, .sipush 13, .invokeinterface 291 2, .aload 0, .aload 0, .aload 0, .getfield 677, .sipush 0, .invokeinterface 196 3, .iload 2, .invokeinterface 292 3, .istore 3, .iload 3, .aload 0, .aload 0, .aload 0, .getfield 677, .sipush 0, .invokeinterface 196 3, .iload 2, .invokeinterface 293 3, .ixor, .ireturn] ls st m := by
  rw [s_j, s_g_eq, g_l294]; rfl
/-- M.trace -/
theorem g_l295 (l : Nat) : g_P 295 l = (g_c295.lookup l).getD [] := rfl
theorem v_295 {X : e_X} {d : Nat} (a0 : Nat) (a1 : Int32) {m : e_M} : s_S X (d + 1) 295 [.ref a0, .int a1] m = s_j X d 295 0 [.ref a0, .int a1] [] m := rfl
theorem u_295_0 {X : e_X} {d : Nat} {ls st : List Value} {m : e_M} : s_j X d 295 0 ls st m = s_x X d 295 [.iload 1, .sipush 0, .aload 0, .getfield 676, .sipush 1, .isub, .invokeinterface 172 3, .ifCond .eq 23, .aload 0, .checkcast 675, .iload 1, .iaload, .goto 25] ls st m := by
  rw [s_j, s_g_eq, g_l295]; rfl
theorem u_295_23 {X : e_X} {d : Nat} {ls st : List Value} {m : e_M} : s_j X d 295 23 ls st m = s_x X d 295 [.sipush (-3), .jsr 25] ls st m := by
  rw [s_j, s_g_eq, g_l295]; rfl
theorem u_295_25 {X : e_X} {d : Nat} {ls st : List Value} {m : e_M} : s_j X d 295 25 ls st m = s_x X d 295 [.ireturn] ls st m := by
  rw [s_j, s_g_eq, g_l295]; rfl
/-- M.many -/
theorem g_l296 (l : Nat) : g_P 296 l = (g_c296.lookup l).getD [] := rfl
theorem v_296 {X : e_X} {d : Nat} (a0 : Nat) (a1 : Int32) {m : e_M} : s_S X (d + 1) 296 [.ref a0, .int a1] m = s_j X d 296 0 [.ref a0, .int a1] [] m := rfl
theorem u_296_0 {X : e_X} {d : Nat} {ls st : List Value} {m : e_M} : s_j X d 296 0 ls st m = s_x X d 296 [.iload 1, .lookupswitch 92 #[(0, 44), (1, 52), (2, 60), (3, 69), (4, 77), (5, 82), (6, 87)]] ls st m := by
  rw [s_j, s_g_eq, g_l296]; rfl
theorem u_296_44 {X : e_X} {d : Nat} {ls st : List Value} {m : e_M} : s_j X d 296 44 ls st m = s_x X d 296 [.aload 0, .checkcast 640, .sipush 6, .iaload, .ireturn] ls st m := by
  rw [s_j, s_g_eq, g_l296]; rfl
theorem u_296_52 {X : e_X} {d : Nat} {ls st : List Value} {m : e_M} : s_j X d 296 52 ls st m = s_x X d 296 [.aload 0, .checkcast 640, .sipush 7, .iaload, .ireturn] ls st m := by
  rw [s_j, s_g_eq, g_l296]; rfl
theorem u_296_60 {X : e_X} {d : Nat} {ls st : List Value} {m : e_M} : s_j X d 296 60 ls st m = s_x X d 296 [.aload 0, .sipush 4, .invokeinterface 218 2, .invokeinterface 297 1, .ireturn] ls st m := by
  rw [s_j, s_g_eq, g_l296]; rfl
theorem u_296_69 {X : e_X} {d : Nat} {ls st : List Value} {m : e_M} : s_j X d 296 69 ls st m = s_x X d 296 [.aload 0, .checkcast 640, .sipush 8, .iaload, .ireturn] ls st m := by
  rw [s_j, s_g_eq, g_l296]; rfl
theorem u_296_77 {X : e_X} {d : Nat} {ls st : List Value} {m : e_M} : s_j X d 296 77 ls st m = s_x X d 296 [.aload 0, .getfield 669, .ireturn] ls st m := by
  rw [s_j, s_g_eq, g_l296]; rfl
theorem u_296_82 {X : e_X} {d : Nat} {ls st : List Value} {m : e_M} : s_j X d 296 82 ls st m = s_x X d 296 [.aload 0, .getfield 646, .ireturn] ls st m := by
  rw [s_j, s_g_eq, g_l296]; rfl
theorem u_296_87 {X : e_X} {d : Nat} {ls st : List Value} {m : e_M} : s_j X d 296 87 ls st m = s_x X d 296 [.aload 0, .getfield 676, .ireturn] ls st m := by
  rw [s_j, s_g_eq, g_l296]; rfl
theorem u_296_92 {X : e_X} {d : Nat} {ls st : List Value} {m : e_M} : s_j X d 296 92 ls st m = s_x X d 296 [.sipush (-1), .ireturn] ls st m := by
  rw [s_j, s_g_eq, g_l296]; rfl
/-- M.ones -/
theorem g_l297 (l : Nat) : g_P 297 l = (g_c297.lookup l).getD [] := rfl
theorem v_297 {X : e_X} {d : Nat} (a0 : Int32) {m : e_M} : s_S X (d + 1) 297 [.int a0] m = s_j X d 297 0 [.int a0, .retAddr 0, .retAddr 0] [] m := rfl
theorem u_297_0 {X : e_X} {d : Nat} {ls st : List Value} {m : e_M} : s_j X d 297 0 ls st m = s_x X d 297 [.sipush 0, .istore 1, .iload 0, .istore 2, .jsr 4] ls st m := by
  rw [s_j, s_g_eq, g_l297]; rfl
theorem u_297_4 {X : e_X} {d : Nat} {ls st : List Value} {m : e_M} : s_j X d 297 4 ls st m = s_x X d 297 [.iload 2, .ifCond .eq 20, .iinc 1 1, .iload 2, .iload 2, .sipush 1, .isub, .iand, .istore 2, .goto 4] ls st m := by
  rw [s_j, s_g_eq, g_l297]; rfl
theorem u_297_20 {X : e_X} {d : Nat} {ls st : List Value} {m : e_M} : s_j X d 297 20 ls st m = s_x X d 297 [.iload 1, .ireturn] ls st m := by
  rw [s_j, s_g_eq, g_l297]; rfl
/-- M.keep -/
theorem g_l298 (l : Nat) : g_P 298 l = (g_c298.lookup l).getD [] := rfl
theorem v_298 {X : e_X} {d : Nat} (a0 : Nat) {m : e_M} : s_S X (d + 1) 298 [.ref a0] m = s_j X d 298 0 [.ref a0, .retAddr 0] [] m := rfl
theorem u_298_0 {X : e_X} {d : Nat} {ls st : List Value} {m : e_M} : s_j X d 298 0 ls st m = s_x X d 298 [.sipush 0, .istore 1, .jsr 2] ls st m := by
  rw [s_j, s_g_eq, g_l298]; rfl
theorem u_298_2 {X : e_X} {d : Nat} {ls st : List Value} {m : e_M} : s_j X d 298 2 ls st m = s_x X d 298 [.iload 1, .sipush 322, .if_icmp .ge 27, .aload 0, .checkcast 641, .iload 1, .aload 0, .checkcast 640, .iload 1, .iaload, .iastore, .iinc 1 1, .goto 2] ls st m := by
  rw [s_j, s_g_eq, g_l298]; rfl
theorem u_298_27 {X : e_X} {d : Nat} {ls st : List Value} {m : e_M} : s_j X d 298 27 ls st m = s_x X d 298 [.aload 0, .sipush 1, .putfield 643, .sipush 1, .ireturn] ls st m := by
  rw [s_j, s_g_eq, g_l298]; rfl
/-- M.again -/
theorem g_l299 (l : Nat) : g_P 299 l = (g_c299.lookup l).getD [] := rfl
theorem v_299 {X : e_X} {d : Nat} (a0 : Nat) {m : e_M} : s_S X (d + 1) 299 [.ref a0] m = s_j X d 299 0 [.ref a0, .retAddr 0] [] m := rfl
theorem u_299_0 {X : e_X} {d : Nat} {ls st : List Value} {m : e_M} : s_j X d 299 0 ls st m = s_x X d 299 [.aload 0, .getfield 643, .ifCond .ne 10, .sipush (-3), .ireturn] ls st m := by
  rw [s_j, s_g_eq, g_l299]; rfl
theorem u_299_10 {X : e_X} {d : Nat} {ls st : List Value} {m : e_M} : s_j X d 299 10 ls st m = s_x X d 299 [.sipush 0, .istore 1, .jsr 12] ls st m := by
  rw [s_j, s_g_eq, g_l299]; rfl
theorem u_299_12 {X : e_X} {d : Nat} {ls st : List Value} {m : e_M} : s_j X d 299 12 ls st m = s_x X d 299 [.iload 1, .sipush 322, .if_icmp .ge 37, .aload 0, .checkcast 640, .iload 1, .aload 0, .checkcast 641, .iload 1, .iaload, .iastore, .iinc 1 1, .goto 12] ls st m := by
  rw [s_j, s_g_eq, g_l299]; rfl
theorem u_299_37 {X : e_X} {d : Nat} {ls st : List Value} {m : e_M} : s_j X d 299 37 ls st m = s_x X d 299 [.aload 0, .checkcast 640, .sipush 6, .iaload, .ireturn] ls st m := by
  rw [s_j, s_g_eq, g_l299]; rfl
/-- J.bitCount -/
theorem g_l300 (l : Nat) : g_P 300 l = (g_c300.lookup l).getD [] := rfl
theorem v_300 {X : e_X} {d : Nat} (a0 : Int32) {m : e_M} : s_S X (d + 1) 300 [.int a0] m = s_j X d 300 0 [.int a0] [] m := rfl
theorem u_300_0 {X : e_X} {d : Nat} {ls st : List Value} {m : e_M} : s_j X d 300 0 ls st m = s_x X d 300 [.iload 0, .iload 0, .sipush 1, .iushr, .sipush 1431655765, .iand, .isub, .istore 0, .iload 0, .sipush 858993459, .iand, .iload 0, .sipush 2, .iushr, .sipush 858993459, .iand, .iadd, .istore 0, .iload 0, .iload 0, .sipush 4, .iushr, .iadd, .sipush 252645135, .iand, .istore 0, .iload 0, .iload 0, .sipush 8, .iushr, .iadd, .istore 0, .iload 0, .iload 0, .sipush 16, .iushr, .iadd, .istore 0, .iload 0, .sipush 63, .iand, .ireturn] ls st m := by
  rw [s_j, s_g_eq, g_l300]; rfl
/-- J.length -/
theorem g_l301 (l : Nat) : g_P 301 l = (g_c301.lookup l).getD [] := rfl
theorem v_301 {X : e_X} {d : Nat} (a0 : Nat) {m : e_M} : s_S X (d + 1) 301 [.ref a0] m = s_j X d 301 0 [.ref a0] [] m := rfl
theorem u_301_0 {X : e_X} {d : Nat} {ls st : List Value} {m : e_M} : s_j X d 301 0 ls st m = s_x X d 301 [.aload 0, .fload 0, .fmul, .aload 0, .invokeinterface 302 1, .ishr, .ireturn] ls st m := by
  rw [s_j, s_g_eq, g_l301]; rfl
/-- J.coder -/
theorem g_l302 (l : Nat) : g_P 302 l = (g_c302.lookup l).getD [] := rfl
theorem v_302 {X : e_X} {d : Nat} (a0 : Nat) {m : e_M} : s_S X (d + 1) 302 [.ref a0] m = s_j X d 302 0 [.ref a0] [] m := rfl
theorem u_302_0 {X : e_X} {d : Nat} {ls st : List Value} {m : e_M} : s_j X d 302 0 ls st m = s_x X d 302 [.getstatic 1, .ifCond .eq 13, .aload 0, .fload 1, .goto 14] ls st m := by
  rw [s_j, s_g_eq, g_l302]; rfl
theorem u_302_13 {X : e_X} {d : Nat} {ls st : List Value} {m : e_M} : s_j X d 302 13 ls st m = s_x X d 302 [.sipush 1, .jsr 14] ls st m := by
  rw [s_j, s_g_eq, g_l302]; rfl
theorem u_302_14 {X : e_X} {d : Nat} {ls st : List Value} {m : e_M} : s_j X d 302 14 ls st m = s_x X d 302 [.ireturn] ls st m := by
  rw [s_j, s_g_eq, g_l302]; rfl
/-- J.charAt -/
theorem g_l303 (l : Nat) : g_P 303 l = (g_c303.lookup l).getD [] := rfl
theorem v_303 {X : e_X} {d : Nat} (a0 : Nat) (a1 : Int32) {m : e_M} : s_S X (d + 1) 303 [.ref a0, .int a1] m = s_j X d 303 0 [.ref a0, .int a1] [] m := rfl
theorem u_303_0 {X : e_X} {d : Nat} {ls st : List Value} {m : e_M} : s_j X d 303 0 ls st m = s_x X d 303 [.aload 0, .invokeinterface 304 1, .ifCond .eq 16, .aload 0, .fload 0, .iload 1, .invokeinterface 306 2, .ireturn] ls st m := by
  rw [s_j, s_g_eq, g_l303]; rfl
theorem u_303_16 {X : e_X} {d : Nat} {ls st : List Value} {m : e_M} : s_j X d 303 16 ls st m = s_x X d 303 [.aload 0, .fload 0, .iload 1] ls st m := by
  rw [s_j, s_g_eq, g_l303]; rfl
/-- J.isLatin1 -/
theorem g_l304 (l : Nat) : g_P 304 l = (g_c304.lookup l).getD [] := rfl
theorem v_304 {X : e_X} {d : Nat} (a0 : Nat) {m : e_M} : s_S X (d + 1) 304 [.ref a0] m = s_j X d 304 0 [.ref a0] [] m := rfl
theorem u_304_0 {X : e_X} {d : Nat} {ls st : List Value} {m : e_M} : s_j X d 304 0 ls st m = s_x X d 304 [.getstatic 1, .ifCond .eq 17, .aload 0, .fload 1, .ifCond .ne 17, .sipush 1, .goto 18] ls st m := by
  rw [s_j, s_g_eq, g_l304]; rfl
theorem u_304_17 {X : e_X} {d : Nat} {ls st : List Value} {m : e_M} : s_j X d 304 17 ls st m = s_x X d 304 [.sipush 0, .jsr 18] ls st m := by
  rw [s_j, s_g_eq, g_l304]; rfl
theorem u_304_18 {X : e_X} {d : Nat} {ls st : List Value} {m : e_M} : s_j X d 304 18 ls st m = s_x X d 304 [.ireturn] ls st m := by
  rw [s_j, s_g_eq, g_l304]; rfl
/-- J.checkIndex -/
theorem g_l305 (l : Nat) : g_P 305 l = (g_c305.lookup l).getD [] := rfl
theorem v_305 {X : e_X} {d : Nat} (a0 : Int32) (a1 : Int32) {m : e_M} : s_S X (d + 1) 305 [.int a0, .int a1] m = s_j X d 305 0 [.int a0, .int a1] [] m := rfl
theorem u_305_0 {X : e_X} {d : Nat} {ls st : List Value} {m : e_M} : s_j X d 305 0 ls st m = s_x X d 305 [.iload 0, .iload 1, .getstatic 2, .invokeinterface 307 3, .pop, .return_] ls st m := by
  rw [s_j, s_g_eq, g_l305]; rfl
/-- J.charAt_306 -/
theorem g_l306 (l : Nat) : g_P 306 l = (g_c306.lookup l).getD [] := rfl
theorem v_306 {X : e_X} {d : Nat} (a0 : Nat) (a1 : Int32) {m : e_M} : s_S X (d + 1) 306 [.ref a0, .int a1] m = s_j X d 306 0 [.ref a0, .int a1] [] m := rfl
theorem u_306_0 {X : e_X} {d : Nat} {ls st : List Value} {m : e_M} : s_j X d 306 0 ls st m = s_x X d 306 [.iload 1, .aload 0, .fmul, .invokeinterface 305 2, .aload 0, .iload 1, .baload, .sipush 255, .iand, .i2c, .ireturn] ls st m := by
  rw [s_j, s_g_eq, g_l306]; rfl
/-- J.checkIndex_307 -/
theorem g_l307 (l : Nat) : g_P 307 l = (g_c307.lookup l).getD [] := rfl
theorem v_307 {X : e_X} {d : Nat} (a0 : Int32) (a1 : Int32) (a2 : Nat) {m : e_M} : s_S X (d + 1) 307 [.int a0, .int a1, .ref a2] m = s_j X d 307 0 [.int a0, .int a1, .ref a2] [] m := rfl
theorem u_307_0 {X : e_X} {d : Nat} {ls st : List Value} {m : e_M} : s_j X d 307 0 ls st m = s_x X d 307 [.iload 0, .ifCond .lt 9, .iload 0, .iload 1, .if_icmp .lt 16, .jsr 9] ls st m := by
  rw [s_j, s_g_eq, g_l307]; rfl
theorem u_307_9 {X : e_X} {d : Nat} {ls st : List Value} {m : e_M} : s_j X d 307 9 ls st m = s_x X d 307 [.aload 2, .iload 0, .iload 1] ls st m := by
  rw [s_j, s_g_eq, g_l307]; rfl
theorem u_307_16 {X : e_X} {d : Nat} {ls st : List Value} {m : e_M} : s_j X d 307 16 ls st m = s_x X d 307 [.iload 0, .ireturn] ls st m := by
  rw [s_j, s_g_eq, g_l307]; rfl
/-- LAW.law -/
theorem g_l308 (l : Nat) : g_P 308 l = (g_c308.lookup l).getD [] := rfl
theorem v_308 {X : e_X} {d : Nat} (a0 : Nat) {m : e_M} : s_S X (d + 1) 308 [.ref a0] m = s_j X d 308 0 [.ref a0, .retAddr 0, .retAddr 0, .retAddr 0] [] m := rfl
theorem u_308_0 {X : e_X} {d : Nat} {ls st : List Value} {m : e_M} : s_j X d 308 0 ls st m = s_x X d 308 [.new 9, .dup, .invokeinterface 107 1, .astore 1, .new 10, .dup, .invokeinterface 170 1, .astore 2, .sipush 0, .istore 3, .jsr 18] ls st m := by
  rw [s_j, s_g_eq, g_l308]; rfl
theorem u_308_18 {X : e_X} {d : Nat} {ls st : List Value} {m : e_M} : s_j X d 308 18 ls st m = s_x X d 308 [.iload 3, .aload 0, .fadd, .sipush 5, .isub, .if_icmp .gt 1788, .aload 0, .iload 3, .faload, .sipush 63, .iand, .lookupswitch 1782 #[(0, 256), (1, 309), (2, 342), (3, 385), (4, 418), (5, 451), (6, 494), (7, 527), (8, 560), (9, 583), (10, 596), (11, 619), (12, 682), (13, 695), (14, 708), (15, 731), (16, 754), (17, 777), (18, 800), (19, 823), (20, 846), (21, 869), (22, 902), (23, 925), (24, 958), (25, 981), (26, 1014), (27, 1047), (28, 1070), (29, 1093), (30, 1146), (31, 1159), (32, 1182), (33, 1195), (34, 1218), (35, 1231), (36, 1264), (37, 1287), (38, 1320), (39, 1363), (40, 1376), (41, 1419), (42, 1462), (43, 1505), (44, 1548), (45, 1591), (46, 1634), (47, 1667), (48, 1710), (49, 1733), (50, 1756), (51, 1769)]] ls st m := by
  rw [s_j, s_g_eq, g_l308]; rfl
theorem u_308_256 {X : e_X} {d : Nat} {ls st : List Value} {m : e_M} : s_j X d 308 256 ls st m = s_x X d 308 [.aload 1, .aload 0, .iload 3, .sipush 1, .iadd, .faload, .aload 0, .iload 3, .sipush 2, .iadd, .faload, .aload 0, .iload 3, .sipush 3, .iadd, .faload, .aload 0, .iload 3, .sipush 4, .iadd, .faload, .invokeinterface 108 5, .aload 2, .aload 0, .iload 3, .sipush 1, .iadd, .faload, .aload 0, .iload 3, .sipush 2, .iadd, .faload, .aload 0, .iload 3, .sipush 3, .iadd, .faload, .aload 0, .iload 3, .sipush 4, .iadd, .faload, .invokeinterface 188 5, .if_icmp .eq 1782, .sipush 0, .ireturn] ls st m := by
  rw [s_j, s_g_eq, g_l308]; rfl
theorem u_308_309 {X : e_X} {d : Nat} {ls st : List Value} {m : e_M} : s_j X d 308 309 ls st m = s_x X d 308 [.aload 1, .aload 0, .iload 3, .sipush 1, .iadd, .faload, .aload 0, .iload 3, .sipush 2, .iadd, .faload, .invokeinterface 110 3, .aload 2, .aload 0, .iload 3, .sipush 1, .iadd, .faload, .aload 0, .iload 3, .sipush 2, .iadd, .faload, .invokeinterface 193 3, .if_icmp .eq 1782, .sipush 0, .ireturn] ls st m := by
  rw [s_j, s_g_eq, g_l308]; rfl
theorem u_308_342 {X : e_X} {d : Nat} {ls st : List Value} {m : e_M} : s_j X d 308 342 ls st m = s_x X d 308 [.aload 1, .aload 0, .iload 3, .sipush 1, .iadd, .faload, .aload 0, .iload 3, .sipush 2, .iadd, .faload, .aload 0, .iload 3, .sipush 3, .iadd, .faload, .invokeinterface 113 4, .aload 2, .aload 0, .iload 3, .sipush 1, .iadd, .faload, .aload 0, .iload 3, .sipush 2, .iadd, .faload, .aload 0, .iload 3, .sipush 3, .iadd, .faload, .invokeinterface 207 4, .if_icmp .eq 1782, .sipush 0, .ireturn] ls st m := by
  rw [s_j, s_g_eq, g_l308]; rfl
theorem u_308_385 {X : e_X} {d : Nat} {ls st : List Value} {m : e_M} : s_j X d 308 385 ls st m = s_x X d 308 [.aload 1, .aload 0, .iload 3, .sipush 1, .iadd, .faload, .aload 0, .iload 3, .sipush 2, .iadd, .faload, .invokeinterface 115 3, .aload 2, .aload 0, .iload 3, .sipush 1, .iadd, .faload, .aload 0, .iload 3, .sipush 2, .iadd, .faload, .invokeinterface 209 3, .if_icmp .eq 1782, .sipush 0, .ireturn] ls st m := by
  rw [s_j, s_g_eq, g_l308]; rfl
theorem u_308_418 {X : e_X} {d : Nat} {ls st : List Value} {m : e_M} : s_j X d 308 418 ls st m = s_x X d 308 [.aload 1, .aload 0, .iload 3, .sipush 1, .iadd, .faload, .aload 0, .iload 3, .sipush 2, .iadd, .faload, .invokeinterface 116 3, .aload 2, .aload 0, .iload 3, .sipush 1, .iadd, .faload, .aload 0, .iload 3, .sipush 2, .iadd, .faload, .invokeinterface 210 3, .if_icmp .eq 1782, .sipush 0, .ireturn] ls st m := by
  rw [s_j, s_g_eq, g_l308]; rfl
theorem u_308_451 {X : e_X} {d : Nat} {ls st : List Value} {m : e_M} : s_j X d 308 451 ls st m = s_x X d 308 [.aload 1, .aload 0, .iload 3, .sipush 1, .iadd, .faload, .aload 0, .iload 3, .sipush 2, .iadd, .faload, .aload 0, .iload 3, .sipush 3, .iadd, .faload, .invokeinterface 117 4, .aload 2, .aload 0, .iload 3, .sipush 1, .iadd, .faload, .aload 0, .iload 3, .sipush 2, .iadd, .faload, .aload 0, .iload 3, .sipush 3, .iadd, .faload, .invokeinterface 211 4, .if_icmp .eq 1782, .sipush 0, .ireturn] ls st m := by
  rw [s_j, s_g_eq, g_l308]; rfl
theorem u_308_494 {X : e_X} {d : Nat} {ls st : List Value} {m : e_M} : s_j X d 308 494 ls st m = s_x X d 308 [.aload 1, .aload 0, .iload 3, .sipush 1, .iadd, .faload, .aload 0, .iload 3, .sipush 2, .iadd, .faload, .invokeinterface 118 3, .aload 2, .aload 0, .iload 3, .sipush 1, .iadd, .faload, .aload 0, .iload 3, .sipush 2, .iadd, .faload, .invokeinterface 212 3, .if_icmp .eq 1782, .sipush 0, .ireturn] ls st m := by
  rw [s_j, s_g_eq, g_l308]; rfl
theorem u_308_527 {X : e_X} {d : Nat} {ls st : List Value} {m : e_M} : s_j X d 308 527 ls st m = s_x X d 308 [.aload 1, .aload 0, .iload 3, .sipush 1, .iadd, .faload, .aload 0, .iload 3, .sipush 2, .iadd, .faload, .invokeinterface 119 3, .aload 2, .aload 0, .iload 3, .sipush 1, .iadd, .faload, .aload 0, .iload 3, .sipush 2, .iadd, .faload, .invokeinterface 213 3, .if_icmp .eq 1782, .sipush 0, .ireturn] ls st m := by
  rw [s_j, s_g_eq, g_l308]; rfl
theorem u_308_560 {X : e_X} {d : Nat} {ls st : List Value} {m : e_M} : s_j X d 308 560 ls st m = s_x X d 308 [.aload 1, .aload 0, .iload 3, .sipush 1, .iadd, .faload, .invokeinterface 120 2, .aload 2, .aload 0, .iload 3, .sipush 1, .iadd, .faload, .invokeinterface 214 2, .if_icmp .eq 1782, .sipush 0, .ireturn] ls st m := by
  rw [s_j, s_g_eq, g_l308]; rfl
theorem u_308_583 {X : e_X} {d : Nat} {ls st : List Value} {m : e_M} : s_j X d 308 583 ls st m = s_x X d 308 [.aload 1, .invokeinterface 121 1, .aload 2, .invokeinterface 215 1, .if_icmp .eq 1782, .sipush 0, .ireturn] ls st m := by
  rw [s_j, s_g_eq, g_l308]; rfl
theorem u_308_596 {X : e_X} {d : Nat} {ls st : List Value} {m : e_M} : s_j X d 308 596 ls st m = s_x X d 308 [.aload 1, .aload 0, .iload 3, .sipush 1, .iadd, .faload, .invokeinterface 122 2, .aload 2, .aload 0, .iload 3, .sipush 1, .iadd, .faload, .invokeinterface 216 2, .if_icmp .eq 1782, .sipush 0, .ireturn] ls st m := by
  rw [s_j, s_g_eq, g_l308]; rfl
theorem u_308_619 {X : e_X} {d : Nat} {ls st : List Value} {m : e_M} : s_j X d 308 619 ls st m = s_x X d 308 [.aload 1, .aload 0, .iload 3, .sipush 1, .iadd, .faload, .i2l, .sipush 32, .lshl, .aload 0, .iload 3, .sipush 2, .iadd, .faload, .i2l, .goto_w 4294967295, .land, .lor, .aload 0, .iload 3, .sipush 3, .iadd, .faload, .invokeinterface 123 3, .aload 2, .aload 0, .iload 3, .sipush 1, .iadd, .faload, .i2l, .sipush 32, .lshl, .aload 0, .iload 3, .sipush 2, .iadd, .faload, .i2l, .goto_w 4294967295, .land, .lor, .aload 0, .iload 3, .sipush 3, .iadd, .faload, .invokeinterface 171 3, .if_icmp .eq 1782, .sipush 0, .ireturn] ls st m := by
  rw [s_j, s_g_eq, g_l308]; rfl
theorem u_308_682 {X : e_X} {d : Nat} {ls st : List Value} {m : e_M} : s_j X d 308 682 ls st m = s_x X d 308 [.aload 1, .invokeinterface 124 1, .aload 2, .invokeinterface 173 1, .if_icmp .eq 1782, .sipush 0, .ireturn] ls st m := by
  rw [s_j, s_g_eq, g_l308]; rfl
theorem u_308_695 {X : e_X} {d : Nat} {ls st : List Value} {m : e_M} : s_j X d 308 695 ls st m = s_x X d 308 [.aload 1, .invokeinterface 125 1, .aload 2, .invokeinterface 219 1, .if_icmp .eq 1782, .sipush 0, .ireturn] ls st m := by
  rw [s_j, s_g_eq, g_l308]; rfl
theorem u_308_708 {X : e_X} {d : Nat} {ls st : List Value} {m : e_M} : s_j X d 308 708 ls st m = s_x X d 308 [.aload 1, .aload 0, .iload 3, .sipush 1, .iadd, .faload, .invokeinterface 129 2, .aload 2, .aload 0, .iload 3, .sipush 1, .iadd, .faload, .invokeinterface 229 2, .if_icmp .eq 1782, .sipush 0, .ireturn] ls st m := by
  rw [s_j, s_g_eq, g_l308]; rfl
theorem u_308_731 {X : e_X} {d : Nat} {ls st : List Value} {m : e_M} : s_j X d 308 731 ls st m = s_x X d 308 [.aload 1, .aload 0, .iload 3, .sipush 1, .iadd, .faload, .invokeinterface 130 2, .aload 2, .aload 0, .iload 3, .sipush 1, .iadd, .faload, .invokeinterface 233 2, .if_icmp .eq 1782, .sipush 0, .ireturn] ls st m := by
  rw [s_j, s_g_eq, g_l308]; rfl
theorem u_308_754 {X : e_X} {d : Nat} {ls st : List Value} {m : e_M} : s_j X d 308 754 ls st m = s_x X d 308 [.aload 1, .aload 0, .iload 3, .sipush 1, .iadd, .faload, .invokeinterface 131 2, .aload 2, .aload 0, .iload 3, .sipush 1, .iadd, .faload, .invokeinterface 234 2, .if_icmp .eq 1782, .sipush 0, .ireturn] ls st m := by
  rw [s_j, s_g_eq, g_l308]; rfl
theorem u_308_777 {X : e_X} {d : Nat} {ls st : List Value} {m : e_M} : s_j X d 308 777 ls st m = s_x X d 308 [.aload 1, .aload 0, .iload 3, .sipush 1, .iadd, .faload, .invokeinterface 132 2, .aload 2, .aload 0, .iload 3, .sipush 1, .iadd, .faload, .invokeinterface 236 2, .if_icmp .eq 1782, .sipush 0, .ireturn] ls st m := by
  rw [s_j, s_g_eq, g_l308]; rfl
theorem u_308_800 {X : e_X} {d : Nat} {ls st : List Value} {m : e_M} : s_j X d 308 800 ls st m = s_x X d 308 [.aload 1, .aload 0, .iload 3, .sipush 1, .iadd, .faload, .invokeinterface 133 2, .aload 2, .aload 0, .iload 3, .sipush 1, .iadd, .faload, .invokeinterface 237 2, .if_icmp .eq 1782, .sipush 0, .ireturn] ls st m := by
  rw [s_j, s_g_eq, g_l308]; rfl
theorem u_308_823 {X : e_X} {d : Nat} {ls st : List Value} {m : e_M} : s_j X d 308 823 ls st m = s_x X d 308 [.aload 1, .aload 0, .iload 3, .sipush 1, .iadd, .faload, .invokeinterface 134 2, .aload 2, .aload 0, .iload 3, .sipush 1, .iadd, .faload, .invokeinterface 238 2, .if_icmp .eq 1782, .sipush 0, .ireturn] ls st m := by
  rw [s_j, s_g_eq, g_l308]; rfl
theorem u_308_846 {X : e_X} {d : Nat} {ls st : List Value} {m : e_M} : s_j X d 308 846 ls st m = s_x X d 308 [.aload 1, .aload 0, .iload 3, .sipush 1, .iadd, .faload, .invokeinterface 135 2, .aload 2, .aload 0, .iload 3, .sipush 1, .iadd, .faload, .invokeinterface 239 2, .if_icmp .eq 1782, .sipush 0, .ireturn] ls st m := by
  rw [s_j, s_g_eq, g_l308]; rfl
theorem u_308_869 {X : e_X} {d : Nat} {ls st : List Value} {m : e_M} : s_j X d 308 869 ls st m = s_x X d 308 [.aload 1, .aload 0, .iload 3, .sipush 1, .iadd, .faload, .aload 0, .iload 3, .sipush 2, .iadd, .faload, .invokeinterface 137 3, .aload 2, .aload 0, .iload 3, .sipush 1, .iadd, .faload, .aload 0, .iload 3, .sipush 2, .iadd, .faload, .invokeinterface 242 3, .if_icmp .eq 1782, .sipush 0, .ireturn] ls st m := by
  rw [s_j, s_g_eq, g_l308]; rfl
theorem u_308_902 {X : e_X} {d : Nat} {ls st : List Value} {m : e_M} : s_j X d 308 902 ls st m = s_x X d 308 [.aload 1, .aload 0, .iload 3, .sipush 1, .iadd, .faload, .invokeinterface 138 2, .aload 2, .aload 0, .iload 3, .sipush 1, .iadd, .faload, .invokeinterface 244 2, .if_icmp .eq 1782, .sipush 0, .ireturn] ls st m := by
  rw [s_j, s_g_eq, g_l308]; rfl
theorem u_308_925 {X : e_X} {d : Nat} {ls st : List Value} {m : e_M} : s_j X d 308 925 ls st m = s_x X d 308 [.aload 1, .aload 0, .iload 3, .sipush 1, .iadd, .faload, .aload 0, .iload 3, .sipush 2, .iadd, .faload, .invokeinterface 139 3, .aload 2, .aload 0, .iload 3, .sipush 1, .iadd, .faload, .aload 0, .iload 3, .sipush 2, .iadd, .faload, .invokeinterface 252 3, .if_icmp .eq 1782, .sipush 0, .ireturn] ls st m := by
  rw [s_j, s_g_eq, g_l308]; rfl
theorem u_308_958 {X : e_X} {d : Nat} {ls st : List Value} {m : e_M} : s_j X d 308 958 ls st m = s_x X d 308 [.aload 1, .aload 0, .iload 3, .sipush 1, .iadd, .faload, .invokeinterface 140 2, .aload 2, .aload 0, .iload 3, .sipush 1, .iadd, .faload, .invokeinterface 253 2, .if_icmp .eq 1782, .sipush 0, .ireturn] ls st m := by
  rw [s_j, s_g_eq, g_l308]; rfl
theorem u_308_981 {X : e_X} {d : Nat} {ls st : List Value} {m : e_M} : s_j X d 308 981 ls st m = s_x X d 308 [.aload 1, .aload 0, .iload 3, .sipush 1, .iadd, .faload, .aload 0, .iload 3, .sipush 2, .iadd, .faload, .invokeinterface 141 3, .aload 2, .aload 0, .iload 3, .sipush 1, .iadd, .faload, .aload 0, .iload 3, .sipush 2, .iadd, .faload, .invokeinterface 254 3, .if_icmp .eq 1782, .sipush 0, .ireturn] ls st m := by
  rw [s_j, s_g_eq, g_l308]; rfl
theorem u_308_1014 {X : e_X} {d : Nat} {ls st : List Value} {m : e_M} : s_j X d 308 1014 ls st m = s_x X d 308 [.aload 1, .aload 0, .iload 3, .sipush 1, .iadd, .faload, .aload 0, .iload 3, .sipush 2, .iadd, .faload, .invokeinterface 142 3, .aload 2, .aload 0, .iload 3, .sipush 1, .iadd, .faload, .aload 0, .iload 3, .sipush 2, .iadd, .faload, .invokeinterface 256 3, .if_icmp .eq 1782, .sipush 0, .ireturn] ls st m := by
  rw [s_j, s_g_eq, g_l308]; rfl
theorem u_308_1047 {X : e_X} {d : Nat} {ls st : List Value} {m : e_M} : s_j X d 308 1047 ls st m = s_x X d 308 [.aload 1, .aload 0, .iload 3, .sipush 1, .iadd, .faload, .invokeinterface 143 2, .aload 2, .aload 0, .iload 3, .sipush 1, .iadd, .faload, .invokeinterface 257 2, .if_icmp .eq 1782, .sipush 0, .ireturn] ls st m := by
  rw [s_j, s_g_eq, g_l308]; rfl
theorem u_308_1070 {X : e_X} {d : Nat} {ls st : List Value} {m : e_M} : s_j X d 308 1070 ls st m = s_x X d 308 [.aload 1, .aload 0, .iload 3, .sipush 1, .iadd, .faload, .invokeinterface 144 2, .aload 2, .aload 0, .iload 3, .sipush 1, .iadd, .faload, .invokeinterface 259 2, .if_icmp .eq 1782, .sipush 0, .ireturn] ls st m := by
  rw [s_j, s_g_eq, g_l308]; rfl
theorem u_308_1093 {X : e_X} {d : Nat} {ls st : List Value} {m : e_M} : s_j X d 308 1093 ls st m = s_x X d 308 [.aload 1, .aload 0, .iload 3, .sipush 1, .iadd, .faload, .aload 0, .iload 3, .sipush 2, .iadd, .faload, .aload 0, .iload 3, .sipush 3, .iadd, .faload, .aload 0, .iload 3, .sipush 4, .iadd, .faload, .invokeinterface 145 5, .aload 2, .aload 0, .iload 3, .sipush 1, .iadd, .faload, .aload 0, .iload 3, .sipush 2, .iadd, .faload, .aload 0, .iload 3, .sipush 3, .iadd, .faload, .aload 0, .iload 3, .sipush 4, .iadd, .faload, .invokeinterface 260 5, .if_icmp .eq 1782, .sipush 0, .ireturn] ls st m := by
  rw [s_j, s_g_eq, g_l308]; rfl
theorem u_308_1146 {X : e_X} {d : Nat} {ls st : List Value} {m : e_M} : s_j X d 308 1146 ls st m = s_x X d 308 [.aload 1, .invokeinterface 146 1, .aload 2, .invokeinterface 261 1, .if_icmp .eq 1782, .sipush 0, .ireturn] ls st m := by
  rw [s_j, s_g_eq, g_l308]; rfl
theorem u_308_1159 {X : e_X} {d : Nat} {ls st : List Value} {m : e_M} : s_j X d 308 1159 ls st m = s_x X d 308 [.aload 1, .aload 0, .iload 3, .sipush 1, .iadd, .faload, .invokeinterface 147 2, .aload 2, .aload 0, .iload 3, .sipush 1, .iadd, .faload, .invokeinterface 262 2, .if_icmp .eq 1782, .sipush 0, .ireturn] ls st m := by
  rw [s_j, s_g_eq, g_l308]; rfl
theorem u_308_1182 {X : e_X} {d : Nat} {ls st : List Value} {m : e_M} : s_j X d 308 1182 ls st m = s_x X d 308 [.aload 1, .invokeinterface 148 1, .aload 2, .invokeinterface 266 1, .if_icmp .eq 1782, .sipush 0, .ireturn] ls st m := by
  rw [s_j, s_g_eq, g_l308]; rfl
theorem u_308_1195 {X : e_X} {d : Nat} {ls st : List Value} {m : e_M} : s_j X d 308 1195 ls st m = s_x X d 308 [.aload 1, .aload 0, .iload 3, .sipush 1, .iadd, .faload, .invokeinterface 149 2, .aload 2, .aload 0, .iload 3, .sipush 1, .iadd, .faload, .invokeinterface 267 2, .if_icmp .eq 1782, .sipush 0, .ireturn] ls st m := by
  rw [s_j, s_g_eq, g_l308]; rfl
theorem u_308_1218 {X : e_X} {d : Nat} {ls st : List Value} {m : e_M} : s_j X d 308 1218 ls st m = s_x X d 308 [.aload 1, .invokeinterface 150 1, .aload 2, .invokeinterface 268 1, .if_icmp .eq 1782, .sipush 0, .ireturn] ls st m := by
  rw [s_j, s_g_eq, g_l308]; rfl
theorem u_308_1231 {X : e_X} {d : Nat} {ls st : List Value} {m : e_M} : s_j X d 308 1231 ls st m = s_x X d 308 [.aload 1, .aload 0, .iload 3, .sipush 1, .iadd, .faload, .aload 0, .iload 3, .sipush 2, .iadd, .faload, .invokeinterface 151 3, .aload 2, .aload 0, .iload 3, .sipush 1, .iadd, .faload, .aload 0, .iload 3, .sipush 2, .iadd, .faload, .invokeinterface 270 3, .if_icmp .eq 1782, .sipush 0, .ireturn] ls st m := by
  rw [s_j, s_g_eq, g_l308]; rfl
theorem u_308_1264 {X : e_X} {d : Nat} {ls st : List Value} {m : e_M} : s_j X d 308 1264 ls st m = s_x X d 308 [.aload 1, .aload 0, .iload 3, .sipush 1, .iadd, .faload, .invokeinterface 152 2, .aload 2, .aload 0, .iload 3, .sipush 1, .iadd, .faload, .invokeinterface 271 2, .if_icmp .eq 1782, .sipush 0, .ireturn] ls st m := by
  rw [s_j, s_g_eq, g_l308]; rfl
theorem u_308_1287 {X : e_X} {d : Nat} {ls st : List Value} {m : e_M} : s_j X d 308 1287 ls st m = s_x X d 308 [.aload 1, .aload 0, .iload 3, .sipush 1, .iadd, .faload, .aload 0, .iload 3, .sipush 2, .iadd, .faload, .invokeinterface 153 3, .aload 2, .aload 0, .iload 3, .sipush 1, .iadd, .faload, .aload 0, .iload 3, .sipush 2, .iadd, .faload, .invokeinterface 272 3, .if_icmp .eq 1782, .sipush 0, .ireturn] ls st m := by
  rw [s_j, s_g_eq, g_l308]; rfl
theorem u_308_1320 {X : e_X} {d : Nat} {ls st : List Value} {m : e_M} : s_j X d 308 1320 ls st m = s_x X d 308 [.aload 1, .aload 0, .iload 3, .sipush 1, .iadd, .faload, .aload 0, .iload 3, .sipush 2, .iadd, .faload, .aload 0, .iload 3, .sipush 3, .iadd, .faload, .invokeinterface 154 4, .aload 2, .aload 0, .iload 3, .sipush 1, .iadd, .faload, .aload 0, .iload 3, .sipush 2, .iadd, .faload, .aload 0, .iload 3, .sipush 3, .iadd, .faload, .invokeinterface 274 4, .if_icmp .eq 1782, .sipush 0, .ireturn] ls st m := by
  rw [s_j, s_g_eq, g_l308]; rfl
theorem u_308_1363 {X : e_X} {d : Nat} {ls st : List Value} {m : e_M} : s_j X d 308 1363 ls st m = s_x X d 308 [.aload 1, .invokeinterface 155 1, .aload 2, .invokeinterface 275 1, .if_icmp .eq 1782, .sipush 0, .ireturn] ls st m := by
  rw [s_j, s_g_eq, g_l308]; rfl
theorem u_308_1376 {X : e_X} {d : Nat} {ls st : List Value} {m : e_M} : s_j X d 308 1376 ls st m = s_x X d 308 [.aload 1, .aload 0, .iload 3, .sipush 1, .iadd, .faload, .aload 0, .iload 3, .sipush 2, .iadd, .faload, .aload 0, .iload 3, .sipush 3, .iadd, .faload, .invokeinterface 156 4, .aload 2, .aload 0, .iload 3, .sipush 1, .iadd, .faload, .aload 0, .iload 3, .sipush 2, .iadd, .faload, .aload 0, .iload 3, .sipush 3, .iadd, .faload, .invokeinterface 277 4, .if_icmp .eq 1782, .sipush 0, .ireturn] ls st m := by
  rw [s_j, s_g_eq, g_l308]; rfl
theorem u_308_1419 {X : e_X} {d : Nat} {ls st : List Value} {m : e_M} : s_j X d 308 1419 ls st m = s_x X d 308 [.aload 1, .aload 0, .iload 3, .sipush 1, .iadd, .faload, .aload 0, .iload 3, .sipush 2, .iadd, .faload, .aload 0, .iload 3, .sipush 3, .iadd, .faload, .invokeinterface 157 4, .aload 2, .aload 0, .iload 3, .sipush 1, .iadd, .faload, .aload 0, .iload 3, .sipush 2, .iadd, .faload, .aload 0, .iload 3, .sipush 3, .iadd, .faload, .invokeinterface 279 4, .if_icmp .eq 1782, .sipush 0, .ireturn] ls st m := by
  rw [s_j, s_g_eq, g_l308]; rfl
theorem u_308_1462 {X : e_X} {d : Nat} {ls st : List Value} {m : e_M} : s_j X d 308 1462 ls st m = s_x X d 308 [.aload 1, .aload 0, .iload 3, .sipush 1, .iadd, .faload, .aload 0, .iload 3, .sipush 2, .iadd, .faload, .aload 0, .iload 3, .sipush 3, .iadd, .faload, .invokeinterface 158 4, .aload 2, .aload 0, .iload 3, .sipush 1, .iadd, .faload, .aload 0, .iload 3, .sipush 2, .iadd, .faload, .aload 0, .iload 3, .sipush 3, .iadd, .faload, .invokeinterface 281 4, .if_icmp .eq 1782, .sipush 0, .ireturn] ls st m := by
  rw [s_j, s_g_eq, g_l308]; rfl
theorem u_308_1505 {X : e_X} {d : Nat} {ls st : List Value} {m : e_M} : s_j X d 308 1505 ls st m = s_x X d 308 [.aload 1, .aload 0, .iload 3, .sipush 1, .iadd, .faload, .aload 0, .iload 3, .sipush 2, .iadd, .faload, .aload 0, .iload 3, .sipush 3, .iadd, .faload, .invokeinterface 159 4, .aload 2, .aload 0, .iload 3, .sipush 1, .iadd, .faload, .aload 0, .iload 3, .sipush 2, .iadd, .faload, .aload 0, .iload 3, .sipush 3, .iadd, .faload, .invokeinterface 283 4, .if_icmp .eq 1782, .sipush 0, .ireturn] ls st m := by
  rw [s_j, s_g_eq, g_l308]; rfl
theorem u_308_1548 {X : e_X} {d : Nat} {ls st : List Value} {m : e_M} : s_j X d 308 1548 ls st m = s_x X d 308 [.aload 1, .aload 0, .iload 3, .sipush 1, .iadd, .faload, .aload 0, .iload 3, .sipush 2, .iadd, .faload, .aload 0, .iload 3, .sipush 3, .iadd, .faload, .invokeinterface 160 4, .aload 2, .aload 0, .iload 3, .sipush 1, .iadd, .faload, .aload 0, .iload 3, .sipush 2, .iadd, .faload, .aload 0, .iload 3, .sipush 3, .iadd, .faload, .invokeinterface 285 4, .if_icmp .eq 1782, .sipush 0, .ireturn] ls st m := by
  rw [s_j, s_g_eq, g_l308]; rfl
theorem u_308_1591 {X : e_X} {d : Nat} {ls st : List Value} {m : e_M} : s_j X d 308 1591 ls st m = s_x X d 308 [.aload 1, .aload 0, .iload 3, .sipush 1, .iadd, .faload, .aload 0, .iload 3, .sipush 2, .iadd, .faload, .aload 0, .iload 3, .sipush 3, .iadd, .faload, .invokeinterface 162 4, .aload 2, .aload 0, .iload 3, .sipush 1, .iadd, .faload, .aload 0, .iload 3, .sipush 2, .iadd, .faload, .aload 0, .iload 3, .sipush 3, .iadd, .faload, .invokeinterface 286 4, .if_icmp .eq 1782, .sipush 0, .ireturn] ls st m := by
  rw [s_j, s_g_eq, g_l308]; rfl
theorem u_308_1634 {X : e_X} {d : Nat} {ls st : List Value} {m : e_M} : s_j X d 308 1634 ls st m = s_x X d 308 [.aload 1, .aload 0, .iload 3, .sipush 1, .iadd, .faload, .aload 0, .iload 3, .sipush 2, .iadd, .faload, .invokeinterface 163 3, .aload 2, .aload 0, .iload 3, .sipush 1, .iadd, .faload, .aload 0, .iload 3, .sipush 2, .iadd, .faload, .invokeinterface 287 3, .if_icmp .eq 1782, .sipush 0, .ireturn] ls st m := by
  rw [s_j, s_g_eq, g_l308]; rfl
theorem u_308_1667 {X : e_X} {d : Nat} {ls st : List Value} {m : e_M} : s_j X d 308 1667 ls st m = s_x X d 308 [.aload 1, .aload 0, .iload 3, .sipush 1, .iadd, .faload, .aload 0, .iload 3, .sipush 2, .iadd, .faload, .aload 0, .iload 3, .sipush 3, .iadd, .faload, .invokeinterface 165 4, .aload 2, .aload 0, .iload 3, .sipush 1, .iadd, .faload, .aload 0, .iload 3, .sipush 2, .iadd, .faload, .aload 0, .iload 3, .sipush 3, .iadd, .faload, .invokeinterface 289 4, .if_icmp .eq 1782, .sipush 0, .ireturn] ls st m := by
  rw [s_j, s_g_eq, g_l308]; rfl
theorem u_308_1710 {X : e_X} {d : Nat} {ls st : List Value} {m : e_M} : s_j X d 308 1710 ls st m = s_x X d 308 [.aload 1, .aload 0, .iload 3, .sipush 1, .iadd, .faload, .invokeinterface 166 2, .aload 2, .aload 0, .iload 3, .sipush 1, .iadd, .faload, .invokeinterface 295 2, .if_icmp .eq 1782, .sipush 0, .ireturn] ls st m := by
  rw [s_j, s_g_eq, g_l308]; rfl
theorem u_308_1733 {X : e_X} {d : Nat} {ls st : List Value} {m : e_M} : s_j X d 308 1733 ls st m = s_x X d 308 [.aload 1, .aload 0, .iload 3, .sipush 1, .iadd, .faload, .invokeinterface 167 2, .aload 2, .aload 0, .iload 3, .sipush 1, .iadd, .faload, .invokeinterface 296 2, .if_icmp .eq 1782, .sipush 0, .ireturn] ls st m := by
  rw [s_j, s_g_eq, g_l308]; rfl
theorem u_308_1756 {X : e_X} {d : Nat} {ls st : List Value} {m : e_M} : s_j X d 308 1756 ls st m = s_x X d 308 [.aload 1, .invokeinterface 168 1, .aload 2, .invokeinterface 298 1, .if_icmp .eq 1782, .sipush 0, .ireturn] ls st m := by
  rw [s_j, s_g_eq, g_l308]; rfl
theorem u_308_1769 {X : e_X} {d : Nat} {ls st : List Value} {m : e_M} : s_j X d 308 1769 ls st m = s_x X d 308 [.aload 1, .invokeinterface 169 1, .aload 2, .invokeinterface 299 1, .if_icmp .eq 1782, .sipush 0, .ireturn] ls st m := by
  rw [s_j, s_g_eq, g_l308]; rfl
theorem u_308_1782 {X : e_X} {d : Nat} {ls st : List Value} {m : e_M} : s_j X d 308 1782 ls st m = s_x X d 308 [.iinc 3 5, .goto 18] ls st m := by
  rw [s_j, s_g_eq, g_l308]; rfl
theorem u_308_1788 {X : e_X} {d : Nat} {ls st : List Value} {m : e_M} : s_j X d 308 1788 ls st m = s_x X d 308 [.sipush 1, .ireturn] ls st m := by
  rw [s_j, s_g_eq, g_l308]; rfl
