/-- B.plate -/
theorem g_l108 (l : Nat) : g_P 108 l = (g_c108.lookup l).getD [] := rfl
theorem v_108_0 {X : e_X} {d : Nat} {a1 : Int32} {a2 : Int32} {a3 : Int32} {a4 : Int32} {I J : Nat → Int → Int} : s_S X (d + 1) 108 [.ref 0, .int a1, .int a2, .int a3, .int a4] (mm I J) = s_j X d 108 0 [.ref 0, .int a1, .int a2, .int a3, .int a4] [] (mm I J) := s_S_in rfl rfl
theorem u_108_0 {X : e_X} {d : Nat} {ls st : List Value} {m : e_M} : s_j X d 108 0 ls st m = s_x X d 108 [.iload 1, .sipush 1, .sipush 5, .invokeinterface 109 3, .ifCond .ne 19, .iload 2, .sipush 0, .sipush 39, .invokeinterface 109 3, .ifCond .eq 21, .jsr 19] ls st m := by
  rw [s_j, s_g_eq, g_l108]; rfl
theorem u_108_19 {X : e_X} {d : Nat} {ls st : List Value} {m : e_M} : s_j X d 108 19 ls st m = s_x X d 108 [.sipush (-1), .ireturn] ls st m := by
  rw [s_j, s_g_eq, g_l108]; rfl
theorem u_108_21 {X : e_X} {d : Nat} {ls st : List Value} {m : e_M} : s_j X d 108 21 ls st m = s_x X d 108 [.iload 3, .sipush 0, .sipush 9, .invokeinterface 109 3, .ifCond .ne 41, .iload 4, .sipush 0, .sipush 5, .invokeinterface 109 3, .ifCond .eq 43, .jsr 41] ls st m := by
  rw [s_j, s_g_eq, g_l108]; rfl
theorem u_108_41 {X : e_X} {d : Nat} {ls st : List Value} {m : e_M} : s_j X d 108 41 ls st m = s_x X d 108 [.sipush (-1), .ireturn] ls st m := by
  rw [s_j, s_g_eq, g_l108]; rfl
theorem u_108_43 {X : e_X} {d : Nat} {ls st : List Value} {m : e_M} : s_j X d 108 43 ls st m = s_x X d 108 [.aload 0, .checkcast 576, .getfield 521, .sipush 6, .if_icmp .lt 58, .sipush (-2), .ireturn] ls st m := by
  rw [s_j, s_g_eq, g_l108]; rfl
theorem u_108_58 {X : e_X} {d : Nat} {ls st : List Value} {m : e_M} : s_j X d 108 58 ls st m = s_x X d 108 [.aload 0, .checkcast 576, .iload 1, .iload 2, .iload 3, .iload 4, .invokeinterface 68 5, .ireturn] ls st m := by
  rw [s_j, s_g_eq, g_l108]; rfl
/-- B.isOutside -/
theorem g_l109 (l : Nat) : g_P 109 l = (g_c109.lookup l).getD [] := rfl
theorem v_109 {X : e_X} {d : Nat} {a0 : Int32} {a1 : Int32} {a2 : Int32} {I J : Nat → Int → Int} : s_S X (d + 1) 109 [.int a0, .int a1, .int a2] (mm I J) = s_j X d 109 0 [.int a0, .int a1, .int a2] [] (mm I J) := s_S_in rfl rfl
theorem u_109_0 {X : e_X} {d : Nat} {ls st : List Value} {m : e_M} : s_j X d 109 0 ls st m = s_x X d 109 [.iload 0, .iload 1, .if_icmp .lt 10, .iload 0, .iload 2, .if_icmp .le 14, .jsr 10] ls st m := by
  rw [s_j, s_g_eq, g_l109]; rfl
theorem u_109_10 {X : e_X} {d : Nat} {ls st : List Value} {m : e_M} : s_j X d 109 10 ls st m = s_x X d 109 [.sipush 1, .goto 15] ls st m := by
  rw [s_j, s_g_eq, g_l109]; rfl
theorem u_109_14 {X : e_X} {d : Nat} {ls st : List Value} {m : e_M} : s_j X d 109 14 ls st m = s_x X d 109 [.sipush 0, .jsr 15] ls st m := by
  rw [s_j, s_g_eq, g_l109]; rfl
theorem u_109_15 {X : e_X} {d : Nat} {ls st : List Value} {m : e_M} : s_j X d 109 15 ls st m = s_x X d 109 [.areturn] ls st m := by
  rw [s_j, s_g_eq, g_l109]; rfl
/-- B.plateOf -/
theorem g_l110 (l : Nat) : g_P 110 l = (g_c110.lookup l).getD [] := rfl
theorem v_110_0 {X : e_X} {d : Nat} {a1 : Int32} {a2 : Int32} {I J : Nat → Int → Int} : s_S X (d + 1) 110 [.ref 0, .int a1, .int a2] (mm I J) = s_j X d 110 0 [.ref 0, .int a1, .int a2] [] (mm I J) := s_S_in rfl rfl
theorem u_110_0 {X : e_X} {d : Nat} {ls st : List Value} {m : e_M} : s_j X d 110 0 ls st m = s_x X d 110 [.aload 0, .checkcast 576, .iload 1, .invokeinterface 69 2, .ifCond .ne 13, .sipush (-1), .ireturn] ls st m := by
  rw [s_j, s_g_eq, g_l110]; rfl
theorem u_110_13 {X : e_X} {d : Nat} {ls st : List Value} {m : e_M} : s_j X d 110 13 ls st m = s_x X d 110 [.iload 2, .lookupswitch 185 #[(0, 64), (1, 74), (2, 84), (3, 94), (4, 104), (5, 121), (6, 150), (7, 159), (8, 176)]] ls st m := by
  rw [s_j, s_g_eq, g_l110]; rfl
theorem u_110_64 {X : e_X} {d : Nat} {ls st : List Value} {m : e_M} : s_j X d 110 64 ls st m = s_x X d 110 [.aload 0, .checkcast 576, .checkcast 512, .iload 1, .iaload, .ireturn] ls st m := by
  rw [s_j, s_g_eq, g_l110]; rfl
theorem u_110_74 {X : e_X} {d : Nat} {ls st : List Value} {m : e_M} : s_j X d 110 74 ls st m = s_x X d 110 [.aload 0, .checkcast 576, .checkcast 513, .iload 1, .iaload, .ireturn] ls st m := by
  rw [s_j, s_g_eq, g_l110]; rfl
theorem u_110_84 {X : e_X} {d : Nat} {ls st : List Value} {m : e_M} : s_j X d 110 84 ls st m = s_x X d 110 [.aload 0, .checkcast 576, .checkcast 514, .iload 1, .iaload, .ireturn] ls st m := by
  rw [s_j, s_g_eq, g_l110]; rfl
theorem u_110_94 {X : e_X} {d : Nat} {ls st : List Value} {m : e_M} : s_j X d 110 94 ls st m = s_x X d 110 [.aload 0, .checkcast 576, .checkcast 515, .iload 1, .iaload, .ireturn] ls st m := by
  rw [s_j, s_g_eq, g_l110]; rfl
theorem u_110_104 {X : e_X} {d : Nat} {ls st : List Value} {m : e_M} : s_j X d 110 104 ls st m = s_x X d 110 [.aload 0, .checkcast 576, .iload 1, .invokeinterface 70 2, .ifCond .eq 119, .sipush 1, .goto 120] ls st m := by
  rw [s_j, s_g_eq, g_l110]; rfl
theorem u_110_119 {X : e_X} {d : Nat} {ls st : List Value} {m : e_M} : s_j X d 110 119 ls st m = s_x X d 110 [.sipush 0, .jsr 120] ls st m := by
  rw [s_j, s_g_eq, g_l110]; rfl
theorem u_110_120 {X : e_X} {d : Nat} {ls st : List Value} {m : e_M} : s_j X d 110 120 ls st m = s_x X d 110 [.ireturn] ls st m := by
  rw [s_j, s_g_eq, g_l110]; rfl
theorem u_110_121 {X : e_X} {d : Nat} {ls st : List Value} {m : e_M} : s_j X d 110 121 ls st m = s_x X d 110 [.aload 0, .checkcast 576, .checkcast 512, .iload 1, .iaload, .aload 0, .checkcast 576, .checkcast 514, .iload 1, .iaload, .aload 0, .checkcast 576, .getfield 523, .invokeinterface 111 3, .ireturn] ls st m := by
  rw [s_j, s_g_eq, g_l110]; rfl
theorem u_110_150 {X : e_X} {d : Nat} {ls st : List Value} {m : e_M} : s_j X d 110 150 ls st m = s_x X d 110 [.aload 0, .checkcast 576, .iload 1, .invokeinterface 71 2, .ireturn] ls st m := by
  rw [s_j, s_g_eq, g_l110]; rfl
theorem u_110_159 {X : e_X} {d : Nat} {ls st : List Value} {m : e_M} : s_j X d 110 159 ls st m = s_x X d 110 [.aload 0, .checkcast 576, .iload 1, .invokeinterface 72 2, .ifCond .eq 174, .sipush 1, .goto 175] ls st m := by
  rw [s_j, s_g_eq, g_l110]; rfl
theorem u_110_174 {X : e_X} {d : Nat} {ls st : List Value} {m : e_M} : s_j X d 110 174 ls st m = s_x X d 110 [.sipush 0, .jsr 175] ls st m := by
  rw [s_j, s_g_eq, g_l110]; rfl
theorem u_110_175 {X : e_X} {d : Nat} {ls st : List Value} {m : e_M} : s_j X d 110 175 ls st m = s_x X d 110 [.ireturn] ls st m := by
  rw [s_j, s_g_eq, g_l110]; rfl
theorem u_110_176 {X : e_X} {d : Nat} {ls st : List Value} {m : e_M} : s_j X d 110 176 ls st m = s_x X d 110 [.aload 0, .checkcast 576, .iload 1, .invokeinterface 73 2, .ireturn] ls st m := by
  rw [s_j, s_g_eq, g_l110]; rfl
theorem u_110_185 {X : e_X} {d : Nat} {ls st : List Value} {m : e_M} : s_j X d 110 185 ls st m = s_x X d 110 [.sipush (-1), .ireturn] ls st m := by
  rw [s_j, s_g_eq, g_l110]; rfl
/-- B.spanOf -/
theorem g_l111 (l : Nat) : g_P 111 l = (g_c111.lookup l).getD [] := rfl
theorem v_111 {X : e_X} {d : Nat} {a0 : Int32} {a1 : Int32} {a2 : Int32} {I J : Nat → Int → Int} : s_S X (d + 1) 111 [.int a0, .int a1, .int a2] (mm I J) = s_j X d 111 0 [.int a0, .int a1, .int a2, .retAddr 0] [] (mm I J) := s_S_in rfl rfl
theorem u_111_0 {X : e_X} {d : Nat} {ls st : List Value} {m : e_M} : s_j X d 111 0 ls st m = s_x X d 111 [.sipush 1, .iload 1, .sipush 2, .idiv, .iadd, .istore 3, .iload 0, .lookupswitch 85 #[(1, 40), (2, 44), (3, 48), (4, 63), (5, 69)]] ls st m := by
  rw [s_j, s_g_eq, g_l111]; rfl
theorem u_111_40 {X : e_X} {d : Nat} {ls st : List Value} {m : e_M} : s_j X d 111 40 ls st m = s_x X d 111 [.sipush 2, .iload 3, .imul, .ireturn] ls st m := by
  rw [s_j, s_g_eq, g_l111]; rfl
theorem u_111_44 {X : e_X} {d : Nat} {ls st : List Value} {m : e_M} : s_j X d 111 44 ls st m = s_x X d 111 [.iload 3, .sipush 2, .iadd, .ireturn] ls st m := by
  rw [s_j, s_g_eq, g_l111]; rfl
theorem u_111_48 {X : e_X} {d : Nat} {ls st : List Value} {m : e_M} : s_j X d 111 48 ls st m = s_x X d 111 [.iload 2, .sipush 2, .irem, .sipush 1, .if_icmp .ne 59, .sipush 1, .goto 62] ls st m := by
  rw [s_j, s_g_eq, g_l111]; rfl
theorem u_111_59 {X : e_X} {d : Nat} {ls st : List Value} {m : e_M} : s_j X d 111 59 ls st m = s_x X d 111 [.iload 3, .sipush 2, .iadd, .jsr 62] ls st m := by
  rw [s_j, s_g_eq, g_l111]; rfl
theorem u_111_62 {X : e_X} {d : Nat} {ls st : List Value} {m : e_M} : s_j X d 111 62 ls st m = s_x X d 111 [.ireturn] ls st m := by
  rw [s_j, s_g_eq, g_l111]; rfl
theorem u_111_63 {X : e_X} {d : Nat} {ls st : List Value} {m : e_M} : s_j X d 111 63 ls st m = s_x X d 111 [.iload 3, .sipush 2, .dsub, .ireturn] ls st m := by
  rw [s_j, s_g_eq, g_l111]; rfl
theorem u_111_69 {X : e_X} {d : Nat} {ls st : List Value} {m : e_M} : s_j X d 111 69 ls st m = s_x X d 111 [.iload 2, .sipush 3, .irem, .ifCond .ne 79, .sipush 0, .goto 84] ls st m := by
  rw [s_j, s_g_eq, g_l111]; rfl
theorem u_111_79 {X : e_X} {d : Nat} {ls st : List Value} {m : e_M} : s_j X d 111 79 ls st m = s_x X d 111 [.iload 3, .sipush 2, .dsub, .jsr 84] ls st m := by
  rw [s_j, s_g_eq, g_l111]; rfl
theorem u_111_84 {X : e_X} {d : Nat} {ls st : List Value} {m : e_M} : s_j X d 111 84 ls st m = s_x X d 111 [.ireturn] ls st m := by
  rw [s_j, s_g_eq, g_l111]; rfl
theorem u_111_85 {X : e_X} {d : Nat} {ls st : List Value} {m : e_M} : s_j X d 111 85 ls st m = s_x X d 111 [.iload 3, .ireturn] ls st m := by
  rw [s_j, s_g_eq, g_l111]; rfl
/-- B.isUnder -/
theorem g_l112 (l : Nat) : g_P 112 l = (g_c112.lookup l).getD [] := rfl
theorem v_112 {X : e_X} {d : Nat} {a0 : Int32} {a1 : Int32} {I J : Nat → Int → Int} : s_S X (d + 1) 112 [.int a0, .int a1] (mm I J) = s_j X d 112 0 [.int a0, .int a1, .retAddr 0, .retAddr 0] [] (mm I J) := s_S_in rfl rfl
theorem u_112_0 {X : e_X} {d : Nat} {ls st : List Value} {m : e_M} : s_j X d 112 0 ls st m = s_x X d 112 [.iload 0, .istore 2, .sipush 0, .istore 3, .jsr 4] ls st m := by
  rw [s_j, s_g_eq, g_l112]; rfl
theorem u_112_4 {X : e_X} {d : Nat} {ls st : List Value} {m : e_M} : s_j X d 112 4 ls st m = s_x X d 112 [.iload 3, .getstatic 0, .fsub, .if_icmp .ge 43, .iload 2, .ifCond .lt 43, .iload 2, .getstatic 0, .fsub, .if_icmp .ge 43, .iload 2, .iload 1, .if_icmp .ne 31, .sipush 1, .areturn] ls st m := by
  rw [s_j, s_g_eq, g_l112]; rfl
theorem u_112_31 {X : e_X} {d : Nat} {ls st : List Value} {m : e_M} : s_j X d 112 31 ls st m = s_x X d 112 [.getstatic 0, .iload 2, .daload, .istore 2, .iinc 3 1, .goto 4] ls st m := by
  rw [s_j, s_g_eq, g_l112]; rfl
theorem u_112_43 {X : e_X} {d : Nat} {ls st : List Value} {m : e_M} : s_j X d 112 43 ls st m = s_x X d 112 [.sipush 0, .areturn] ls st m := by
  rw [s_j, s_g_eq, g_l112]; rfl
/-- B.change -/
theorem g_l113 (l : Nat) : g_P 113 l = (g_c113.lookup l).getD [] := rfl
theorem v_113_0 {X : e_X} {d : Nat} {a1 : Int32} {a2 : Int32} {a3 : Int32} {I J : Nat → Int → Int} : s_S X (d + 1) 113 [.ref 0, .int a1, .int a2, .int a3] (mm I J) = s_j X d 113 0 [.ref 0, .int a1, .int a2, .int a3] [] (mm I J) := s_S_in rfl rfl
theorem u_113_0 {X : e_X} {d : Nat} {ls st : List Value} {m : e_M} : s_j X d 113 0 ls st m = s_x X d 113 [.aload 0, .checkcast 576, .iload 1, .invokeinterface 69 2, .ifCond .ne 13, .sipush (-1), .ireturn] ls st m := by
  rw [s_j, s_g_eq, g_l113]; rfl
theorem u_113_13 {X : e_X} {d : Nat} {ls st : List Value} {m : e_M} : s_j X d 113 13 ls st m = s_x X d 113 [.iload 2, .lookupswitch 156 #[(1, 44), (2, 71), (3, 98), (4, 124)]] ls st m := by
  rw [s_j, s_g_eq, g_l113]; rfl
theorem u_113_44 {X : e_X} {d : Nat} {ls st : List Value} {m : e_M} : s_j X d 113 44 ls st m = s_x X d 113 [.iload 3, .sipush 0, .sipush 39, .invokeinterface 109 3, .ifCond .eq 58, .sipush (-1), .goto 70] ls st m := by
  rw [s_j, s_g_eq, g_l113]; rfl
theorem u_113_58 {X : e_X} {d : Nat} {ls st : List Value} {m : e_M} : s_j X d 113 58 ls st m = s_x X d 113 [.aload 0, .checkcast 576, .checkcast 513, .iload 1, .iload 3, .invokeinterface 114 3, .jsr 70] ls st m := by
  rw [s_j, s_g_eq, g_l113]; rfl
theorem u_113_70 {X : e_X} {d : Nat} {ls st : List Value} {m : e_M} : s_j X d 113 70 ls st m = s_x X d 113 [.ireturn] ls st m := by
  rw [s_j, s_g_eq, g_l113]; rfl
theorem u_113_71 {X : e_X} {d : Nat} {ls st : List Value} {m : e_M} : s_j X d 113 71 ls st m = s_x X d 113 [.iload 3, .sipush 0, .sipush 9, .invokeinterface 109 3, .ifCond .eq 85, .sipush (-1), .goto 97] ls st m := by
  rw [s_j, s_g_eq, g_l113]; rfl
theorem u_113_85 {X : e_X} {d : Nat} {ls st : List Value} {m : e_M} : s_j X d 113 85 ls st m = s_x X d 113 [.aload 0, .checkcast 576, .checkcast 514, .iload 1, .iload 3, .invokeinterface 114 3, .jsr 97] ls st m := by
  rw [s_j, s_g_eq, g_l113]; rfl
theorem u_113_97 {X : e_X} {d : Nat} {ls st : List Value} {m : e_M} : s_j X d 113 97 ls st m = s_x X d 113 [.ireturn] ls st m := by
  rw [s_j, s_g_eq, g_l113]; rfl
theorem u_113_98 {X : e_X} {d : Nat} {ls st : List Value} {m : e_M} : s_j X d 113 98 ls st m = s_x X d 113 [.iload 3, .sipush 0, .sipush 5, .invokeinterface 109 3, .ifCond .eq 111, .sipush (-1), .goto 123] ls st m := by
  rw [s_j, s_g_eq, g_l113]; rfl
theorem u_113_111 {X : e_X} {d : Nat} {ls st : List Value} {m : e_M} : s_j X d 113 111 ls st m = s_x X d 113 [.aload 0, .checkcast 576, .checkcast 515, .iload 1, .iload 3, .invokeinterface 114 3, .jsr 123] ls st m := by
  rw [s_j, s_g_eq, g_l113]; rfl
theorem u_113_123 {X : e_X} {d : Nat} {ls st : List Value} {m : e_M} : s_j X d 113 123 ls st m = s_x X d 113 [.ireturn] ls st m := by
  rw [s_j, s_g_eq, g_l113]; rfl
theorem u_113_124 {X : e_X} {d : Nat} {ls st : List Value} {m : e_M} : s_j X d 113 124 ls st m = s_x X d 113 [.iload 3, .sipush 0, .sipush 1, .invokeinterface 109 3, .ifCond .eq 137, .sipush (-1), .goto 155] ls st m := by
  rw [s_j, s_g_eq, g_l113]; rfl
theorem u_113_137 {X : e_X} {d : Nat} {ls st : List Value} {m : e_M} : s_j X d 113 137 ls st m = s_x X d 113 [.aload 0, .checkcast 576, .iload 1, .iload 3, .sipush 1, .if_icmp .ne 151, .sipush 1, .goto 152] ls st m := by
  rw [s_j, s_g_eq, g_l113]; rfl
theorem u_113_151 {X : e_X} {d : Nat} {ls st : List Value} {m : e_M} : s_j X d 113 151 ls st m = s_x X d 113 [.sipush 0, .jsr 152] ls st m := by
  rw [s_j, s_g_eq, g_l113]; rfl
theorem u_113_152 {X : e_X} {d : Nat} {ls st : List Value} {m : e_M} : s_j X d 113 152 ls st m = s_x X d 113 [.invokeinterface 74 3, .jsr 155] ls st m := by
  rw [s_j, s_g_eq, g_l113]; rfl
theorem u_113_155 {X : e_X} {d : Nat} {ls st : List Value} {m : e_M} : s_j X d 113 155 ls st m = s_x X d 113 [.ireturn] ls st m := by
  rw [s_j, s_g_eq, g_l113]; rfl
theorem u_113_156 {X : e_X} {d : Nat} {ls st : List Value} {m : e_M} : s_j X d 113 156 ls st m = s_x X d 113 [.sipush (-1), .ireturn] ls st m := by
  rw [s_j, s_g_eq, g_l113]; rfl
/-- B.put -/
theorem g_l114 (l : Nat) : g_P 114 l = (g_c114.lookup l).getD [] := rfl
theorem v_114 {X : e_X} {d : Nat} {a0 : Nat} {a1 : Int32} {a2 : Int32} {I J : Nat → Int → Int} : s_S X (d + 1) 114 [.ref a0, .int a1, .int a2] (mm I J) = s_j X d 114 0 [.ref a0, .int a1, .int a2, .retAddr 0] [] (mm I J) := s_S_in rfl rfl
theorem u_114_0 {X : e_X} {d : Nat} {ls st : List Value} {m : e_M} : s_j X d 114 0 ls st m = s_x X d 114 [.iload 1, .sipush 0, .aload 0, .arraylength, .sipush 1, .isub, .invokeinterface 109 3, .ifCond .eq 14, .sipush (-1), .ireturn] ls st m := by
  rw [s_j, s_g_eq, g_l114]; rfl
theorem u_114_14 {X : e_X} {d : Nat} {ls st : List Value} {m : e_M} : s_j X d 114 14 ls st m = s_x X d 114 [.aload 0, .iload 1, .iaload, .istore 3, .aload 0, .iload 1, .iload 2, .iastore, .iload 3, .ireturn] ls st m := by
  rw [s_j, s_g_eq, g_l114]; rfl
/-- B.remake -/
theorem g_l115 (l : Nat) : g_P 115 l = (g_c115.lookup l).getD [] := rfl
theorem v_115_0 {X : e_X} {d : Nat} {a1 : Int32} {a2 : Int32} {I J : Nat → Int → Int} : s_S X (d + 1) 115 [.ref 0, .int a1, .int a2] (mm I J) = s_j X d 115 0 [.ref 0, .int a1, .int a2] [] (mm I J) := s_S_in rfl rfl
theorem u_115_0 {X : e_X} {d : Nat} {ls st : List Value} {m : e_M} : s_j X d 115 0 ls st m = s_x X d 115 [.aload 0, .checkcast 576, .iload 1, .invokeinterface 69 2, .ifCond .eq 20, .iload 2, .sipush 1, .sipush 5, .invokeinterface 109 3, .ifCond .eq 22, .jsr 20] ls st m := by
  rw [s_j, s_g_eq, g_l115]; rfl
theorem u_115_20 {X : e_X} {d : Nat} {ls st : List Value} {m : e_M} : s_j X d 115 20 ls st m = s_x X d 115 [.sipush (-1), .ireturn] ls st m := by
  rw [s_j, s_g_eq, g_l115]; rfl
theorem u_115_22 {X : e_X} {d : Nat} {ls st : List Value} {m : e_M} : s_j X d 115 22 ls st m = s_x X d 115 [.aload 0, .checkcast 576, .checkcast 512, .iload 1, .iload 2, .invokeinterface 114 3, .ireturn] ls st m := by
  rw [s_j, s_g_eq, g_l115]; rfl
/-- B.news -/
theorem g_l116 (l : Nat) : g_P 116 l = (g_c116.lookup l).getD [] := rfl
theorem v_116_0 {X : e_X} {d : Nat} {a1 : Int32} {a2 : Int32} {I J : Nat → Int → Int} : s_S X (d + 1) 116 [.ref 0, .int a1, .int a2] (mm I J) = s_j X d 116 0 [.ref 0, .int a1, .int a2] [] (mm I J) := s_S_in rfl rfl
theorem u_116_0 {X : e_X} {d : Nat} {ls st : List Value} {m : e_M} : s_j X d 116 0 ls st m = s_x X d 116 [.iload 1, .sipush 0, .sipush 15, .invokeinterface 109 3, .ifCond .ne 20, .iload 2, .sipush 0, .sipush 15, .invokeinterface 109 3, .ifCond .eq 22, .jsr 20] ls st m := by
  rw [s_j, s_g_eq, g_l116]; rfl
theorem u_116_20 {X : e_X} {d : Nat} {ls st : List Value} {m : e_M} : s_j X d 116 20 ls st m = s_x X d 116 [.sipush (-1), .ireturn] ls st m := by
  rw [s_j, s_g_eq, g_l116]; rfl
theorem u_116_22 {X : e_X} {d : Nat} {ls st : List Value} {m : e_M} : s_j X d 116 22 ls st m = s_x X d 116 [.aload 0, .checkcast 576, .checkcast 518, .iload 1, .iload 2, .invokeinterface 114 3, .ireturn] ls st m := by
  rw [s_j, s_g_eq, g_l116]; rfl
/-- B.home -/
theorem g_l117 (l : Nat) : g_P 117 l = (g_c117.lookup l).getD [] := rfl
theorem v_117_0 {X : e_X} {d : Nat} {a1 : Int32} {a2 : Int32} {a3 : Int32} {I J : Nat → Int → Int} : s_S X (d + 1) 117 [.ref 0, .int a1, .int a2, .int a3] (mm I J) = s_j X d 117 0 [.ref 0, .int a1, .int a2, .int a3] [] (mm I J) := s_S_in rfl rfl
theorem u_117_0 {X : e_X} {d : Nat} {ls st : List Value} {m : e_M} : s_j X d 117 0 ls st m = s_x X d 117 [.iload 1, .sipush 0, .sipush 5, .invokeinterface 109 3, .ifCond .ne 28, .iload 2, .sipush 0, .sipush 1, .invokeinterface 109 3, .ifCond .ne 28, .iload 3, .sipush 0, .sipush 9, .invokeinterface 109 3, .ifCond .eq 30, .jsr 28] ls st m := by
  rw [s_j, s_g_eq, g_l117]; rfl
theorem u_117_28 {X : e_X} {d : Nat} {ls st : List Value} {m : e_M} : s_j X d 117 28 ls st m = s_x X d 117 [.sipush (-1), .ireturn] ls st m := by
  rw [s_j, s_g_eq, g_l117]; rfl
theorem u_117_30 {X : e_X} {d : Nat} {ls st : List Value} {m : e_M} : s_j X d 117 30 ls st m = s_x X d 117 [.iload 2, .ifCond .ne 44, .aload 0, .checkcast 576, .checkcast 516, .goto 51] ls st m := by
  rw [s_j, s_g_eq, g_l117]; rfl
theorem u_117_44 {X : e_X} {d : Nat} {ls st : List Value} {m : e_M} : s_j X d 117 44 ls st m = s_x X d 117 [.aload 0, .checkcast 576, .checkcast 517, .jsr 51] ls st m := by
  rw [s_j, s_g_eq, g_l117]; rfl
theorem u_117_51 {X : e_X} {d : Nat} {ls st : List Value} {m : e_M} : s_j X d 117 51 ls st m = s_x X d 117 [.iload 1, .iload 3, .invokeinterface 114 3, .ireturn] ls st m := by
  rw [s_j, s_g_eq, g_l117]; rfl
/-- B.homeOf -/
theorem g_l118 (l : Nat) : g_P 118 l = (g_c118.lookup l).getD [] := rfl
theorem v_118_0 {X : e_X} {d : Nat} {a1 : Int32} {a2 : Int32} {I J : Nat → Int → Int} : s_S X (d + 1) 118 [.ref 0, .int a1, .int a2] (mm I J) = s_j X d 118 0 [.ref 0, .int a1, .int a2] [] (mm I J) := s_S_in rfl rfl
theorem u_118_0 {X : e_X} {d : Nat} {ls st : List Value} {m : e_M} : s_j X d 118 0 ls st m = s_x X d 118 [.iload 1, .sipush 0, .sipush 5, .invokeinterface 109 3, .ifCond .ne 18, .iload 2, .sipush 0, .sipush 1, .invokeinterface 109 3, .ifCond .eq 20, .jsr 18] ls st m := by
  rw [s_j, s_g_eq, g_l118]; rfl
theorem u_118_18 {X : e_X} {d : Nat} {ls st : List Value} {m : e_M} : s_j X d 118 18 ls st m = s_x X d 118 [.sipush (-1), .ireturn] ls st m := by
  rw [s_j, s_g_eq, g_l118]; rfl
theorem u_118_20 {X : e_X} {d : Nat} {ls st : List Value} {m : e_M} : s_j X d 118 20 ls st m = s_x X d 118 [.iload 2, .ifCond .ne 36, .aload 0, .checkcast 576, .checkcast 516, .iload 1, .iaload, .goto 45] ls st m := by
  rw [s_j, s_g_eq, g_l118]; rfl
theorem u_118_36 {X : e_X} {d : Nat} {ls st : List Value} {m : e_M} : s_j X d 118 36 ls st m = s_x X d 118 [.aload 0, .checkcast 576, .checkcast 517, .iload 1, .iaload, .jsr 45] ls st m := by
  rw [s_j, s_g_eq, g_l118]; rfl
theorem u_118_45 {X : e_X} {d : Nat} {ls st : List Value} {m : e_M} : s_j X d 118 45 ls st m = s_x X d 118 [.ireturn] ls st m := by
  rw [s_j, s_g_eq, g_l118]; rfl
/-- B.family -/
theorem g_l119 (l : Nat) : g_P 119 l = (g_c119.lookup l).getD [] := rfl
theorem v_119_0 {X : e_X} {d : Nat} {a1 : Int32} {a2 : Int32} {I J : Nat → Int → Int} : s_S X (d + 1) 119 [.ref 0, .int a1, .int a2] (mm I J) = s_j X d 119 0 [.ref 0, .int a1, .int a2, .retAddr 0] [] (mm I J) := s_S_in rfl rfl
theorem u_119_0 {X : e_X} {d : Nat} {ls st : List Value} {m : e_M} : s_j X d 119 0 ls st m = s_x X d 119 [.iload 1, .sipush 0, .sipush 1, .invokeinterface 109 3, .ifCond .ne 28, .iload 2, .sipush 0, .iload 1, .ifCond .ne 20, .sipush 9, .goto 22] ls st m := by
  rw [s_j, s_g_eq, g_l119]; rfl
theorem u_119_20 {X : e_X} {d : Nat} {ls st : List Value} {m : e_M} : s_j X d 119 20 ls st m = s_x X d 119 [.sipush 40, .jsr 22] ls st m := by
  rw [s_j, s_g_eq, g_l119]; rfl
theorem u_119_22 {X : e_X} {d : Nat} {ls st : List Value} {m : e_M} : s_j X d 119 22 ls st m = s_x X d 119 [.invokeinterface 109 3, .ifCond .eq 30, .jsr 28] ls st m := by
  rw [s_j, s_g_eq, g_l119]; rfl
theorem u_119_28 {X : e_X} {d : Nat} {ls st : List Value} {m : e_M} : s_j X d 119 28 ls st m = s_x X d 119 [.sipush (-1), .ireturn] ls st m := by
  rw [s_j, s_g_eq, g_l119]; rfl
theorem u_119_30 {X : e_X} {d : Nat} {ls st : List Value} {m : e_M} : s_j X d 119 30 ls st m = s_x X d 119 [.iload 1, .ifCond .ne 44, .aload 0, .checkcast 576, .getfield 526, .goto 51] ls st m := by
  rw [s_j, s_g_eq, g_l119]; rfl
theorem u_119_44 {X : e_X} {d : Nat} {ls st : List Value} {m : e_M} : s_j X d 119 44 ls st m = s_x X d 119 [.aload 0, .checkcast 576, .getfield 527, .jsr 51] ls st m := by
  rw [s_j, s_g_eq, g_l119]; rfl
theorem u_119_51 {X : e_X} {d : Nat} {ls st : List Value} {m : e_M} : s_j X d 119 51 ls st m = s_x X d 119 [.istore 3, .iload 1, .ifCond .ne 67, .aload 0, .checkcast 576, .iload 2, .putfield 526, .goto 75] ls st m := by
  rw [s_j, s_g_eq, g_l119]; rfl
theorem u_119_67 {X : e_X} {d : Nat} {ls st : List Value} {m : e_M} : s_j X d 119 67 ls st m = s_x X d 119 [.aload 0, .checkcast 576, .iload 2, .putfield 527, .jsr 75] ls st m := by
  rw [s_j, s_g_eq, g_l119]; rfl
theorem u_119_75 {X : e_X} {d : Nat} {ls st : List Value} {m : e_M} : s_j X d 119 75 ls st m = s_x X d 119 [.iload 3, .ireturn] ls st m := by
  rw [s_j, s_g_eq, g_l119]; rfl
/-- B.ends -/
theorem g_l120 (l : Nat) : g_P 120 l = (g_c120.lookup l).getD [] := rfl
theorem v_120_0 {X : e_X} {d : Nat} {a1 : Int32} {I J : Nat → Int → Int} : s_S X (d + 1) 120 [.ref 0, .int a1] (mm I J) = s_j X d 120 0 [.ref 0, .int a1, .retAddr 0] [] (mm I J) := s_S_in rfl rfl
theorem u_120_0 {X : e_X} {d : Nat} {ls st : List Value} {m : e_M} : s_j X d 120 0 ls st m = s_x X d 120 [.iload 1, .sipush 1, .sipush 16, .invokeinterface 109 3, .ifCond .eq 12, .sipush (-1), .ireturn] ls st m := by
  rw [s_j, s_g_eq, g_l120]; rfl
theorem u_120_12 {X : e_X} {d : Nat} {ls st : List Value} {m : e_M} : s_j X d 120 12 ls st m = s_x X d 120 [.iload 1, .aload 0, .checkcast 576, .getfield 523, .if_icmp .ge 26, .sipush (-4), .ireturn] ls st m := by
  rw [s_j, s_g_eq, g_l120]; rfl
theorem u_120_26 {X : e_X} {d : Nat} {ls st : List Value} {m : e_M} : s_j X d 120 26 ls st m = s_x X d 120 [.aload 0, .checkcast 576, .getfield 524, .istore 2, .aload 0, .checkcast 576, .iload 1, .putfield 524, .iload 2, .ireturn] ls st m := by
  rw [s_j, s_g_eq, g_l120]; rfl
/-- B.anew -/
theorem g_l121 (l : Nat) : g_P 121 l = (g_c121.lookup l).getD [] := rfl
theorem v_121_0 {X : e_X} {d : Nat}  {I J : Nat → Int → Int} : s_S X (d + 1) 121 [.ref 0] (mm I J) = s_j X d 121 0 [.ref 0, .retAddr 0] [] (mm I J) := s_S_in rfl rfl
theorem u_121_0 {X : e_X} {d : Nat} {ls st : List Value} {m : e_M} : s_j X d 121 0 ls st m = s_x X d 121 [.aload 0, .checkcast 576, .getfield 523, .istore 1, .aload 0, .checkcast 576, .invokeinterface 75 1, .iload 1, .ireturn] ls st m := by
  rw [s_j, s_g_eq, g_l121]; rfl
/-- B.state -/
theorem g_l122 (l : Nat) : g_P 122 l = (g_c122.lookup l).getD [] := rfl
theorem v_122_0 {X : e_X} {d : Nat} {a1 : Int32} {I J : Nat → Int → Int} : s_S X (d + 1) 122 [.ref 0, .int a1] (mm I J) = s_j X d 122 0 [.ref 0, .int a1] [] (mm I J) := s_S_in rfl rfl
theorem u_122_0 {X : e_X} {d : Nat} {ls st : List Value} {m : e_M} : s_j X d 122 0 ls st m = s_x X d 122 [.iload 1, .lookupswitch 127 #[(0, 48), (1, 56), (2, 64), (3, 72), (4, 88), (5, 96), (6, 111), (7, 119)]] ls st m := by
  rw [s_j, s_g_eq, g_l122]; rfl
theorem u_122_48 {X : e_X} {d : Nat} {ls st : List Value} {m : e_M} : s_j X d 122 48 ls st m = s_x X d 122 [.aload 0, .checkcast 576, .getfield 523, .ireturn] ls st m := by
  rw [s_j, s_g_eq, g_l122]; rfl
theorem u_122_56 {X : e_X} {d : Nat} {ls st : List Value} {m : e_M} : s_j X d 122 56 ls st m = s_x X d 122 [.aload 0, .checkcast 576, .getfield 524, .ireturn] ls st m := by
  rw [s_j, s_g_eq, g_l122]; rfl
theorem u_122_64 {X : e_X} {d : Nat} {ls st : List Value} {m : e_M} : s_j X d 122 64 ls st m = s_x X d 122 [.aload 0, .checkcast 576, .getfield 525, .ireturn] ls st m := by
  rw [s_j, s_g_eq, g_l122]; rfl
theorem u_122_72 {X : e_X} {d : Nat} {ls st : List Value} {m : e_M} : s_j X d 122 72 ls st m = s_x X d 122 [.aload 0, .checkcast 576, .invokeinterface 76 1, .ifCond .eq 86, .sipush 1, .goto 87] ls st m := by
  rw [s_j, s_g_eq, g_l122]; rfl
theorem u_122_86 {X : e_X} {d : Nat} {ls st : List Value} {m : e_M} : s_j X d 122 86 ls st m = s_x X d 122 [.sipush 0, .jsr 87] ls st m := by
  rw [s_j, s_g_eq, g_l122]; rfl
theorem u_122_87 {X : e_X} {d : Nat} {ls st : List Value} {m : e_M} : s_j X d 122 87 ls st m = s_x X d 122 [.ireturn] ls st m := by
  rw [s_j, s_g_eq, g_l122]; rfl
theorem u_122_88 {X : e_X} {d : Nat} {ls st : List Value} {m : e_M} : s_j X d 122 88 ls st m = s_x X d 122 [.aload 0, .checkcast 576, .getfield 522, .ireturn] ls st m := by
  rw [s_j, s_g_eq, g_l122]; rfl
theorem u_122_96 {X : e_X} {d : Nat} {ls st : List Value} {m : e_M} : s_j X d 122 96 ls st m = s_x X d 122 [.aload 0, .checkcast 576, .aload 0, .checkcast 576, .getfield 523, .invokeinterface 77 2, .ireturn] ls st m := by
  rw [s_j, s_g_eq, g_l122]; rfl
theorem u_122_111 {X : e_X} {d : Nat} {ls st : List Value} {m : e_M} : s_j X d 122 111 ls st m = s_x X d 122 [.aload 0, .checkcast 576, .getfield 526, .ireturn] ls st m := by
  rw [s_j, s_g_eq, g_l122]; rfl
theorem u_122_119 {X : e_X} {d : Nat} {ls st : List Value} {m : e_M} : s_j X d 122 119 ls st m = s_x X d 122 [.aload 0, .checkcast 576, .getfield 527, .ireturn] ls st m := by
  rw [s_j, s_g_eq, g_l122]; rfl
theorem u_122_127 {X : e_X} {d : Nat} {ls st : List Value} {m : e_M} : s_j X d 122 127 ls st m = s_x X d 122 [.sipush (-1), .ireturn] ls st m := by
  rw [s_j, s_g_eq, g_l122]; rfl
/-- B.feed -/
theorem g_l123 (l : Nat) : g_P 123 l = (g_c123.lookup l).getD [] := rfl
theorem v_123_0 {X : e_X} {d : Nat} {a1 : Int64} {a2 : Int32} {I J : Nat → Int → Int} : s_S X (d + 1) 123 [.ref 0, .long a1, .int a2] (mm I J) = s_j X d 123 0 [.ref 0, .long a1, .retAddr 0, .int a2] [] (mm I J) := s_S_in rfl rfl
theorem u_123_0 {X : e_X} {d : Nat} {ls st : List Value} {m : e_M} : s_j X d 123 0 ls st m = s_x X d 123 [.iload 3, .sipush 1, .sipush 8, .invokeinterface 109 3, .ifCond .eq 12, .sipush (-1), .ireturn] ls st m := by
  rw [s_j, s_g_eq, g_l123]; rfl
theorem u_123_12 {X : e_X} {d : Nat} {ls st : List Value} {m : e_M} : s_j X d 123 12 ls st m = s_x X d 123 [.aload 0, .checkcast 579, .getfield 194, .iload 3, .iadd, .sipush 200, .if_icmp .le 30, .sipush (-2), .ireturn] ls st m := by
  rw [s_j, s_g_eq, g_l123]; rfl
theorem u_123_30 {X : e_X} {d : Nat} {ls st : List Value} {m : e_M} : s_j X d 123 30 ls st m = s_x X d 123 [.aload 0, .checkcast 579, .lload 1, .iload 3, .invokeinterface 25 3, .ireturn] ls st m := by
  rw [s_j, s_g_eq, g_l123]; rfl
/-- B.rules -/
theorem g_l124 (l : Nat) : g_P 124 l = (g_c124.lookup l).getD [] := rfl
theorem v_124_0 {X : e_X} {d : Nat}  {I J : Nat → Int → Int} : s_S X (d + 1) 124 [.ref 0] (mm I J) = s_j X d 124 0 [.ref 0, .retAddr 0] [] (mm I J) := s_S_in rfl rfl
theorem u_124_0 {X : e_X} {d : Nat} {ls st : List Value} {m : e_M} : s_j X d 124 0 ls st m = s_x X d 124 [.aload 0, .checkcast 579, .invokeinterface 26 1, .istore 1, .iload 1, .sipush (-1), .if_icmp .eq 18, .sipush (-100), .iload 1, .isub, .ireturn] ls st m := by
  rw [s_j, s_g_eq, g_l124]; rfl
theorem u_124_18 {X : e_X} {d : Nat} {ls st : List Value} {m : e_M} : s_j X d 124 18 ls st m = s_x X d 124 [.aload 0, .checkcast 576, .checkcast 519, .aload 0, .checkcast 579, .checkcast 192, .invokeinterface 16 2, .aload 0, .checkcast 576, .checkcast 519, .getfield 69, .ireturn] ls st m := by
  rw [s_j, s_g_eq, g_l124]; rfl
/-- B.year -/
theorem g_l125 (l : Nat) : g_P 125 l = (g_c125.lookup l).getD [] := rfl
theorem v_125_0 {X : e_X} {d : Nat}  {I J : Nat → Int → Int} : s_S X (d + 1) 125 [.ref 0] (mm I J) = s_j X d 125 0 [.ref 0] [] (mm I J) := s_S_in rfl rfl
theorem u_125_0 {X : e_X} {d : Nat} {ls st : List Value} {m : e_M} : s_j X d 125 0 ls st m = s_x X d 125 [.aload 0, .checkcast 576, .invokeinterface 76 1, .ifCond .eq 13, .sipush (-4), .ireturn] ls st m := by
  rw [s_j, s_g_eq, g_l125]; rfl
theorem u_125_13 {X : e_X} {d : Nat} {ls st : List Value} {m : e_M} : s_j X d 125 13 ls st m = s_x X d 125 [.aload 0, .checkcast 576, .sipush (-1), .invokeinterface 78 2, .ireturn] ls st m := by
  rw [s_j, s_g_eq, g_l125]; rfl
/-- B.moodBehind -/
theorem g_l126 (l : Nat) : g_P 126 l = (g_c126.lookup l).getD [] := rfl
theorem v_126 {X : e_X} {d : Nat} {a0 : Int32} {a1 : Int32} {I J : Nat → Int → Int} : s_S X (d + 1) 126 [.int a0, .int a1] (mm I J) = s_j X d 126 0 [.int a0, .int a1, .retAddr 0] [] (mm I J) := s_S_in rfl rfl
theorem u_126_0 {X : e_X} {d : Nat} {ls st : List Value} {m : e_M} : s_j X d 126 0 ls st m = s_x X d 126 [.iload 0, .sipush 4, .idiv, .istore 2, .iload 0, .sipush 4, .irem, .lookupswitch 72 #[(0, 32), (1, 41), (2, 49)]] ls st m := by
  rw [s_j, s_g_eq, g_l126]; rfl
theorem u_126_32 {X : e_X} {d : Nat} {ls st : List Value} {m : e_M} : s_j X d 126 32 ls st m = s_x X d 126 [.sipush 9, .iload 1, .iload 2, .iadd, .dsub, .ireturn] ls st m := by
  rw [s_j, s_g_eq, g_l126]; rfl
theorem u_126_41 {X : e_X} {d : Nat} {ls st : List Value} {m : e_M} : s_j X d 126 41 ls st m = s_x X d 126 [.sipush 0, .iload 1, .iload 2, .isub, .dadd, .ireturn] ls st m := by
  rw [s_j, s_g_eq, g_l126]; rfl
theorem u_126_49 {X : e_X} {d : Nat} {ls st : List Value} {m : e_M} : s_j X d 126 49 ls st m = s_x X d 126 [.iload 1, .sipush 5, .if_icmp .ge 64, .sipush 5, .iload 1, .iload 2, .iadd, .dsub, .goto 71] ls st m := by
  rw [s_j, s_g_eq, g_l126]; rfl
theorem u_126_64 {X : e_X} {d : Nat} {ls st : List Value} {m : e_M} : s_j X d 126 64 ls st m = s_x X d 126 [.sipush 5, .iload 1, .iload 2, .isub, .dadd, .jsr 71] ls st m := by
  rw [s_j, s_g_eq, g_l126]; rfl
theorem u_126_71 {X : e_X} {d : Nat} {ls st : List Value} {m : e_M} : s_j X d 126 71 ls st m = s_x X d 126 [.ireturn] ls st m := by
  rw [s_j, s_g_eq, g_l126]; rfl
theorem u_126_72 {X : e_X} {d : Nat} {ls st : List Value} {m : e_M} : s_j X d 126 72 ls st m = s_x X d 126 [.iload 1, .ireturn] ls st m := by
  rw [s_j, s_g_eq, g_l126]; rfl
/-- B.placesOf -/
theorem g_l127 (l : Nat) : g_P 127 l = (g_c127.lookup l).getD [] := rfl
theorem v_127 {X : e_X} {d : Nat} {a0 : Int32} {a1 : Int32} {I J : Nat → Int → Int} : s_S X (d + 1) 127 [.int a0, .int a1] (mm I J) = s_j X d 127 0 [.int a0, .int a1] [] (mm I J) := s_S_in rfl rfl
theorem u_127_0 {X : e_X} {d : Nat} {ls st : List Value} {m : e_M} : s_j X d 127 0 ls st m = s_x X d 127 [.goto_w 1, .iload 1, .lshl, .goto_w 1, .lsub, .iload 0, .lshl, .lreturn] ls st m := by
  rw [s_j, s_g_eq, g_l127]; rfl
/-- B.stepsOn -/
theorem g_l128 (l : Nat) : g_P 128 l = (g_c128.lookup l).getD [] := rfl
theorem v_128 {X : e_X} {d : Nat} {a0 : Int64} {a1 : Int32} {a2 : Int32} {I J : Nat → Int → Int} : s_S X (d + 1) 128 [.long a0, .int a1, .int a2] (mm I J) = s_j X d 128 0 [.long a0, .retAddr 0, .int a1, .int a2, .retAddr 0] [] (mm I J) := s_S_in rfl rfl
theorem u_128_0 {X : e_X} {d : Nat} {ls st : List Value} {m : e_M} : s_j X d 128 0 ls st m = s_x X d 128 [.sipush 0, .istore 4, .jsr 3] ls st m := by
  rw [s_j, s_g_eq, g_l128]; rfl
theorem u_128_3 {X : e_X} {d : Nat} {ls st : List Value} {m : e_M} : s_j X d 128 3 ls st m = s_x X d 128 [.iload 4, .iload 3, .if_icmp .gt 37, .iload 2, .iload 4, .iadd, .sipush 40, .if_icmp .ge 37, .lload 0, .iload 2, .iload 4, .iadd, .lushr, .goto_w 1, .land, .goto_w 1, .lcmp, .ifCond .ne 37, .iinc 4 1, .goto 3] ls st m := by
  rw [s_j, s_g_eq, g_l128]; rfl
theorem u_128_37 {X : e_X} {d : Nat} {ls st : List Value} {m : e_M} : s_j X d 128 37 ls st m = s_x X d 128 [.iload 4, .ireturn] ls st m := by
  rw [s_j, s_g_eq, g_l128]; rfl
/-- B.on -/
theorem g_l129 (l : Nat) : g_P 129 l = (g_c129.lookup l).getD [] := rfl
theorem v_129_0 {X : e_X} {d : Nat} {a1 : Int32} {I J : Nat → Int → Int} : s_S X (d + 1) 129 [.ref 0, .int a1] (mm I J) = s_j X d 129 0 [.ref 0, .int a1] [] (mm I J) := s_S_in rfl rfl
theorem u_129_0 {X : e_X} {d : Nat} {ls st : List Value} {m : e_M} : s_j X d 129 0 ls st m = s_x X d 129 [.iload 1, .sipush 0, .sipush 16, .invokeinterface 109 3, .ifCond .eq 12, .sipush (-1), .ireturn] ls st m := by
  rw [s_j, s_g_eq, g_l129]; rfl
theorem u_129_12 {X : e_X} {d : Nat} {ls st : List Value} {m : e_M} : s_j X d 129 12 ls st m = s_x X d 129 [.aload 0, .checkcast 576, .iload 1, .invokeinterface 84 2, .ireturn] ls st m := by
  rw [s_j, s_g_eq, g_l129]; rfl
/-- B.when -/
theorem g_l130 (l : Nat) : g_P 130 l = (g_c130.lookup l).getD [] := rfl
theorem v_130_0 {X : e_X} {d : Nat} {a1 : Int32} {I J : Nat → Int → Int} : s_S X (d + 1) 130 [.ref 0, .int a1] (mm I J) = s_j X d 130 0 [.ref 0, .int a1] [] (mm I J) := s_S_in rfl rfl
theorem u_130_0 {X : e_X} {d : Nat} {ls st : List Value} {m : e_M} : s_j X d 130 0 ls st m = s_x X d 130 [.aload 0, .checkcast 576, .iload 1, .invokeinterface 69 2, .ifCond .ne 13, .sipush (-1), .ireturn] ls st m := by
  rw [s_j, s_g_eq, g_l130]; rfl
theorem u_130_13 {X : e_X} {d : Nat} {ls st : List Value} {m : e_M} : s_j X d 130 13 ls st m = s_x X d 130 [.aload 0, .checkcast 576, .iload 1, .invokeinterface 70 2, .ifCond .eq 29, .sipush (-3), .goto 40] ls st m := by
  rw [s_j, s_g_eq, g_l130]; rfl
theorem u_130_29 {X : e_X} {d : Nat} {ls st : List Value} {m : e_M} : s_j X d 130 29 ls st m = s_x X d 130 [.aload 0, .checkcast 576, .sipush 1, .iload 1, .ishl, .sipush 0, .invokeinterface 88 3, .jsr 40] ls st m := by
  rw [s_j, s_g_eq, g_l130]; rfl
theorem u_130_40 {X : e_X} {d : Nat} {ls st : List Value} {m : e_M} : s_j X d 130 40 ls st m = s_x X d 130 [.ireturn] ls st m := by
  rw [s_j, s_g_eq, g_l130]; rfl
/-- B.widthFor -/
theorem g_l131 (l : Nat) : g_P 131 l = (g_c131.lookup l).getD [] := rfl
theorem v_131_0 {X : e_X} {d : Nat} {a1 : Int32} {I J : Nat → Int → Int} : s_S X (d + 1) 131 [.ref 0, .int a1] (mm I J) = s_j X d 131 0 [.ref 0, .int a1] [] (mm I J) := s_S_in rfl rfl
theorem u_131_0 {X : e_X} {d : Nat} {ls st : List Value} {m : e_M} : s_j X d 131 0 ls st m = s_x X d 131 [.aload 0, .checkcast 576, .iload 1, .invokeinterface 69 2, .ifCond .ne 13, .sipush (-1), .ireturn] ls st m := by
  rw [s_j, s_g_eq, g_l131]; rfl
theorem u_131_13 {X : e_X} {d : Nat} {ls st : List Value} {m : e_M} : s_j X d 131 13 ls st m = s_x X d 131 [.aload 0, .checkcast 576, .aload 0, .checkcast 576, .checkcast 514, .iload 1, .sipush 9, .invokeinterface 89 4, .ireturn] ls st m := by
  rw [s_j, s_g_eq, g_l131]; rfl
/-- B.pieceFor -/
theorem g_l132 (l : Nat) : g_P 132 l = (g_c132.lookup l).getD [] := rfl
theorem v_132_0 {X : e_X} {d : Nat} {a1 : Int32} {I J : Nat → Int → Int} : s_S X (d + 1) 132 [.ref 0, .int a1] (mm I J) = s_j X d 132 0 [.ref 0, .int a1] [] (mm I J) := s_S_in rfl rfl
theorem u_132_0 {X : e_X} {d : Nat} {ls st : List Value} {m : e_M} : s_j X d 132 0 ls st m = s_x X d 132 [.aload 0, .checkcast 576, .iload 1, .invokeinterface 69 2, .ifCond .ne 13, .sipush (-1), .ireturn] ls st m := by
  rw [s_j, s_g_eq, g_l132]; rfl
theorem u_132_13 {X : e_X} {d : Nat} {ls st : List Value} {m : e_M} : s_j X d 132 13 ls st m = s_x X d 132 [.aload 0, .checkcast 576, .aload 0, .checkcast 576, .checkcast 513, .iload 1, .sipush 39, .invokeinterface 89 4, .ireturn] ls st m := by
  rw [s_j, s_g_eq, g_l132]; rfl
/-- B.over -/
theorem g_l133 (l : Nat) : g_P 133 l = (g_c133.lookup l).getD [] := rfl
theorem v_133_0 {X : e_X} {d : Nat} {a1 : Int32} {I J : Nat → Int → Int} : s_S X (d + 1) 133 [.ref 0, .int a1] (mm I J) = s_j X d 133 0 [.ref 0, .int a1] [] (mm I J) := s_S_in rfl rfl
theorem u_133_0 {X : e_X} {d : Nat} {ls st : List Value} {m : e_M} : s_j X d 133 0 ls st m = s_x X d 133 [.iload 1, .sipush 0, .sipush 40, .invokeinterface 109 3, .ifCond .eq 12, .sipush (-1), .ireturn] ls st m := by
  rw [s_j, s_g_eq, g_l133]; rfl
theorem u_133_12 {X : e_X} {d : Nat} {ls st : List Value} {m : e_M} : s_j X d 133 12 ls st m = s_x X d 133 [.aload 0, .checkcast 576, .sipush 0, .iload 1, .invokeinterface 88 3, .ireturn] ls st m := by
  rw [s_j, s_g_eq, g_l133]; rfl
/-- B.gap -/
theorem g_l134 (l : Nat) : g_P 134 l = (g_c134.lookup l).getD [] := rfl
theorem v_134_0 {X : e_X} {d : Nat} {a1 : Int32} {I J : Nat → Int → Int} : s_S X (d + 1) 134 [.ref 0, .int a1] (mm I J) = s_j X d 134 0 [.ref 0, .int a1] [] (mm I J) := s_S_in rfl rfl
theorem u_134_0 {X : e_X} {d : Nat} {ls st : List Value} {m : e_M} : s_j X d 134 0 ls st m = s_x X d 134 [.iload 1, .ifCond .ne 12, .aload 0, .checkcast 576, .invokeinterface 90 1, .ireturn] ls st m := by
  rw [s_j, s_g_eq, g_l134]; rfl
theorem u_134_12 {X : e_X} {d : Nat} {ls st : List Value} {m : e_M} : s_j X d 134 12 ls st m = s_x X d 134 [.iload 1, .sipush 1, .if_icmp .ne 27, .aload 0, .checkcast 576, .invokeinterface 92 1, .goto 28] ls st m := by
  rw [s_j, s_g_eq, g_l134]; rfl
theorem u_134_27 {X : e_X} {d : Nat} {ls st : List Value} {m : e_M} : s_j X d 134 27 ls st m = s_x X d 134 [.sipush (-1), .jsr 28] ls st m := by
  rw [s_j, s_g_eq, g_l134]; rfl
theorem u_134_28 {X : e_X} {d : Nat} {ls st : List Value} {m : e_M} : s_j X d 134 28 ls st m = s_x X d 134 [.ireturn] ls st m := by
  rw [s_j, s_g_eq, g_l134]; rfl
/-- B.branches -/
theorem g_l135 (l : Nat) : g_P 135 l = (g_c135.lookup l).getD [] := rfl
theorem v_135_0 {X : e_X} {d : Nat} {a1 : Int32} {I J : Nat → Int → Int} : s_S X (d + 1) 135 [.ref 0, .int a1] (mm I J) = s_j X d 135 0 [.ref 0, .int a1] [] (mm I J) := s_S_in rfl rfl
theorem u_135_0 {X : e_X} {d : Nat} {ls st : List Value} {m : e_M} : s_j X d 135 0 ls st m = s_x X d 135 [.iload 1, .sipush (-1), .if_icmp .ne 13, .aload 0, .checkcast 576, .invokeinterface 93 1, .ireturn] ls st m := by
  rw [s_j, s_g_eq, g_l135]; rfl
theorem u_135_13 {X : e_X} {d : Nat} {ls st : List Value} {m : e_M} : s_j X d 135 13 ls st m = s_x X d 135 [.aload 0, .checkcast 576, .iload 1, .invokeinterface 69 2, .ifCond .eq 35, .aload 0, .checkcast 576, .iload 1, .invokeinterface 94 2, .goto 36] ls st m := by
  rw [s_j, s_g_eq, g_l135]; rfl
theorem u_135_35 {X : e_X} {d : Nat} {ls st : List Value} {m : e_M} : s_j X d 135 35 ls st m = s_x X d 135 [.sipush (-1), .jsr 36] ls st m := by
  rw [s_j, s_g_eq, g_l135]; rfl
theorem u_135_36 {X : e_X} {d : Nat} {ls st : List Value} {m : e_M} : s_j X d 135 36 ls st m = s_x X d 135 [.ireturn] ls st m := by
  rw [s_j, s_g_eq, g_l135]; rfl
/-- B.leastOf -/
theorem g_l136 (l : Nat) : g_P 136 l = (g_c136.lookup l).getD [] := rfl
theorem v_136 {X : e_X} {d : Nat} {a0 : Int32} {I J : Nat → Int → Int} : s_S X (d + 1) 136 [.int a0] (mm I J) = s_j X d 136 0 [.int a0, .retAddr 0] [] (mm I J) := s_S_in rfl rfl
theorem u_136_0 {X : e_X} {d : Nat} {ls st : List Value} {m : e_M} : s_j X d 136 0 ls st m = s_x X d 136 [.sipush 0, .istore 1, .jsr 2] ls st m := by
  rw [s_j, s_g_eq, g_l136]; rfl
theorem u_136_2 {X : e_X} {d : Nat} {ls st : List Value} {m : e_M} : s_j X d 136 2 ls st m = s_x X d 136 [.iload 1, .sipush 6, .if_icmp .ge 25, .iload 0, .iload 1, .ishr, .sipush 1, .iand, .sipush 1, .if_icmp .ne 19, .iload 1, .ireturn] ls st m := by
  rw [s_j, s_g_eq, g_l136]; rfl
theorem u_136_19 {X : e_X} {d : Nat} {ls st : List Value} {m : e_M} : s_j X d 136 19 ls st m = s_x X d 136 [.iinc 1 1, .goto 2] ls st m := by
  rw [s_j, s_g_eq, g_l136]; rfl
theorem u_136_25 {X : e_X} {d : Nat} {ls st : List Value} {m : e_M} : s_j X d 136 25 ls st m = s_x X d 136 [.sipush (-3), .ireturn] ls st m := by
  rw [s_j, s_g_eq, g_l136]; rfl
/-- B.fetch -/
theorem g_l137 (l : Nat) : g_P 137 l = (g_c137.lookup l).getD [] := rfl
theorem v_137_0 {X : e_X} {d : Nat} {a1 : Int32} {a2 : Int32} {I J : Nat → Int → Int} : s_S X (d + 1) 137 [.ref 0, .int a1, .int a2] (mm I J) = s_j X d 137 0 [.ref 0, .int a1, .int a2, .retAddr 0] [] (mm I J) := s_S_in rfl rfl
theorem u_137_0 {X : e_X} {d : Nat} {ls st : List Value} {m : e_M} : s_j X d 137 0 ls st m = s_x X d 137 [.iload 1, .sipush 0, .sipush 40, .invokeinterface 109 3, .ifCond .ne 19, .iload 2, .sipush 0, .sipush 1, .invokeinterface 109 3, .ifCond .eq 21, .jsr 19] ls st m := by
  rw [s_j, s_g_eq, g_l137]; rfl
theorem u_137_19 {X : e_X} {d : Nat} {ls st : List Value} {m : e_M} : s_j X d 137 19 ls st m = s_x X d 137 [.sipush (-1), .ireturn] ls st m := by
  rw [s_j, s_g_eq, g_l137]; rfl
theorem u_137_21 {X : e_X} {d : Nat} {ls st : List Value} {m : e_M} : s_j X d 137 21 ls st m = s_x X d 137 [.aload 0, .checkcast 576, .invokeinterface 91 1, .aload 0, .checkcast 576, .getfield 522, .sipush (-1), .ixor, .iand, .istore 3, .iload 2, .ifCond .ne 53, .aload 0, .checkcast 576, .iload 1, .iload 3, .invokeinterface 97 3, .ireturn] ls st m := by
  rw [s_j, s_g_eq, g_l137]; rfl
theorem u_137_53 {X : e_X} {d : Nat} {ls st : List Value} {m : e_M} : s_j X d 137 53 ls st m = s_x X d 137 [.aload 0, .checkcast 576, .iload 1, .iload 3, .invokeinterface 98 3, .ireturn] ls st m := by
  rw [s_j, s_g_eq, g_l137]; rfl
/-- B.best -/
theorem g_l138 (l : Nat) : g_P 138 l = (g_c138.lookup l).getD [] := rfl
theorem v_138_0 {X : e_X} {d : Nat} {a1 : Int32} {I J : Nat → Int → Int} : s_S X (d + 1) 138 [.ref 0, .int a1] (mm I J) = s_j X d 138 0 [.ref 0, .int a1] [] (mm I J) := s_S_in rfl rfl
theorem u_138_0 {X : e_X} {d : Nat} {ls st : List Value} {m : e_M} : s_j X d 138 0 ls st m = s_x X d 138 [.iload 1, .sipush 0, .sipush 4, .invokeinterface 109 3, .ifCond .eq 11, .sipush (-1), .ireturn] ls st m := by
  rw [s_j, s_g_eq, g_l138]; rfl
theorem u_138_11 {X : e_X} {d : Nat} {ls st : List Value} {m : e_M} : s_j X d 138 11 ls st m = s_x X d 138 [.aload 0, .checkcast 580, .iload 1, .sipush 0, .invokeinterface 18 3, .aload 0, .checkcast 580, .getfield 133, .ireturn] ls st m := by
  rw [s_j, s_g_eq, g_l138]; rfl
/-- B.ith -/
theorem g_l139 (l : Nat) : g_P 139 l = (g_c139.lookup l).getD [] := rfl
theorem v_139_0 {X : e_X} {d : Nat} {a1 : Int32} {a2 : Int32} {I J : Nat → Int → Int} : s_S X (d + 1) 139 [.ref 0, .int a1, .int a2] (mm I J) = s_j X d 139 0 [.ref 0, .int a1, .int a2] [] (mm I J) := s_S_in rfl rfl
theorem u_139_0 {X : e_X} {d : Nat} {ls st : List Value} {m : e_M} : s_j X d 139 0 ls st m = s_x X d 139 [.iload 1, .sipush 0, .sipush 4, .invokeinterface 109 3, .ifCond .ne 18, .iload 2, .sipush 0, .sipush 3, .invokeinterface 109 3, .ifCond .eq 20, .jsr 18] ls st m := by
  rw [s_j, s_g_eq, g_l139]; rfl
theorem u_139_18 {X : e_X} {d : Nat} {ls st : List Value} {m : e_M} : s_j X d 139 18 ls st m = s_x X d 139 [.sipush (-1), .ireturn] ls st m := by
  rw [s_j, s_g_eq, g_l139]; rfl
theorem u_139_20 {X : e_X} {d : Nat} {ls st : List Value} {m : e_M} : s_j X d 139 20 ls st m = s_x X d 139 [.aload 0, .checkcast 580, .iload 1, .sipush 0, .invokeinterface 18 3, .iload 2, .aload 0, .checkcast 580, .getfield 131, .if_icmp .ge 52, .aload 0, .checkcast 580, .checkcast 130, .iload 2, .iaload, .goto 54] ls st m := by
  rw [s_j, s_g_eq, g_l139]; rfl
theorem u_139_52 {X : e_X} {d : Nat} {ls st : List Value} {m : e_M} : s_j X d 139 52 ls st m = s_x X d 139 [.sipush (-3), .jsr 54] ls st m := by
  rw [s_j, s_g_eq, g_l139]; rfl
theorem u_139_54 {X : e_X} {d : Nat} {ls st : List Value} {m : e_M} : s_j X d 139 54 ls st m = s_x X d 139 [.ireturn] ls st m := by
  rw [s_j, s_g_eq, g_l139]; rfl
/-- B.ways -/
theorem g_l140 (l : Nat) : g_P 140 l = (g_c140.lookup l).getD [] := rfl
theorem v_140_0 {X : e_X} {d : Nat} {a1 : Int32} {I J : Nat → Int → Int} : s_S X (d + 1) 140 [.ref 0, .int a1] (mm I J) = s_j X d 140 0 [.ref 0, .int a1] [] (mm I J) := s_S_in rfl rfl
theorem u_140_0 {X : e_X} {d : Nat} {ls st : List Value} {m : e_M} : s_j X d 140 0 ls st m = s_x X d 140 [.iload 1, .sipush 0, .sipush 4, .invokeinterface 109 3, .ifCond .eq 11, .sipush (-1), .ireturn] ls st m := by
  rw [s_j, s_g_eq, g_l140]; rfl
theorem u_140_11 {X : e_X} {d : Nat} {ls st : List Value} {m : e_M} : s_j X d 140 11 ls st m = s_x X d 140 [.aload 0, .checkcast 580, .iload 1, .sipush 0, .invokeinterface 18 3, .aload 0, .checkcast 580, .getfield 134, .ireturn] ls st m := by
  rw [s_j, s_g_eq, g_l140]; rfl
/-- B.supper -/
theorem g_l141 (l : Nat) : g_P 141 l = (g_c141.lookup l).getD [] := rfl
theorem v_141_0 {X : e_X} {d : Nat} {a1 : Int32} {a2 : Int32} {I J : Nat → Int → Int} : s_S X (d + 1) 141 [.ref 0, .int a1, .int a2] (mm I J) = s_j X d 141 0 [.ref 0, .int a1, .int a2] [] (mm I J) := s_S_in rfl rfl
theorem u_141_0 {X : e_X} {d : Nat} {ls st : List Value} {m : e_M} : s_j X d 141 0 ls st m = s_x X d 141 [.iload 1, .sipush 0, .sipush 4, .invokeinterface 109 3, .ifCond .ne 24, .iload 2, .sipush 0, .aload 0, .checkcast 576, .invokeinterface 91 1, .invokeinterface 109 3, .ifCond .eq 26, .jsr 24] ls st m := by
  rw [s_j, s_g_eq, g_l141]; rfl
theorem u_141_24 {X : e_X} {d : Nat} {ls st : List Value} {m : e_M} : s_j X d 141 24 ls st m = s_x X d 141 [.sipush (-1), .ireturn] ls st m := by
  rw [s_j, s_g_eq, g_l141]; rfl
theorem u_141_26 {X : e_X} {d : Nat} {ls st : List Value} {m : e_M} : s_j X d 141 26 ls st m = s_x X d 141 [.aload 0, .checkcast 580, .iload 1, .iload 2, .invokeinterface 18 3, .aload 0, .checkcast 580, .getfield 135, .ireturn] ls st m := by
  rw [s_j, s_g_eq, g_l141]; rfl
/-- B.bars -/
theorem g_l142 (l : Nat) : g_P 142 l = (g_c142.lookup l).getD [] := rfl
theorem v_142_0 {X : e_X} {d : Nat} {a1 : Int32} {a2 : Int32} {I J : Nat → Int → Int} : s_S X (d + 1) 142 [.ref 0, .int a1, .int a2] (mm I J) = s_j X d 142 0 [.ref 0, .int a1, .int a2] [] (mm I J) := s_S_in rfl rfl
theorem u_142_0 {X : e_X} {d : Nat} {ls st : List Value} {m : e_M} : s_j X d 142 0 ls st m = s_x X d 142 [.iload 1, .sipush 0, .sipush 4, .invokeinterface 109 3, .ifCond .ne 24, .iload 2, .sipush 0, .aload 0, .checkcast 576, .invokeinterface 91 1, .invokeinterface 109 3, .ifCond .eq 26, .jsr 24] ls st m := by
  rw [s_j, s_g_eq, g_l142]; rfl
theorem u_142_24 {X : e_X} {d : Nat} {ls st : List Value} {m : e_M} : s_j X d 142 24 ls st m = s_x X d 142 [.sipush (-1), .ireturn] ls st m := by
  rw [s_j, s_g_eq, g_l142]; rfl
theorem u_142_26 {X : e_X} {d : Nat} {ls st : List Value} {m : e_M} : s_j X d 142 26 ls st m = s_x X d 142 [.aload 0, .checkcast 580, .iload 1, .iload 2, .invokeinterface 18 3, .iload 2, .aload 0, .checkcast 580, .getfield 136, .sipush (-1), .ixor, .iand, .invokeinterface 136 1, .ireturn] ls st m := by
  rw [s_j, s_g_eq, g_l142]; rfl
/-- B.game -/
theorem g_l143 (l : Nat) : g_P 143 l = (g_c143.lookup l).getD [] := rfl
theorem v_143_0 {X : e_X} {d : Nat} {a1 : Int32} {I J : Nat → Int → Int} : s_S X (d + 1) 143 [.ref 0, .int a1] (mm I J) = s_j X d 143 0 [.ref 0, .int a1] [] (mm I J) := s_S_in rfl rfl
theorem u_143_0 {X : e_X} {d : Nat} {ls st : List Value} {m : e_M} : s_j X d 143 0 ls st m = s_x X d 143 [.iload 1, .sipush 1, .sipush 4, .invokeinterface 109 3, .ifCond .eq 11, .sipush (-1), .ireturn] ls st m := by
  rw [s_j, s_g_eq, g_l143]; rfl
theorem u_143_11 {X : e_X} {d : Nat} {ls st : List Value} {m : e_M} : s_j X d 143 11 ls st m = s_x X d 143 [.aload 0, .checkcast 580, .aload 0, .checkcast 576, .iload 1, .invokeinterface 86 2, .sipush 1, .invokeinterface 21 3, .ireturn] ls st m := by
  rw [s_j, s_g_eq, g_l143]; rfl
/-- B.play -/
theorem g_l144 (l : Nat) : g_P 144 l = (g_c144.lookup l).getD [] := rfl
theorem v_144_0 {X : e_X} {d : Nat} {a1 : Int32} {I J : Nat → Int → Int} : s_S X (d + 1) 144 [.ref 0, .int a1] (mm I J) = s_j X d 144 0 [.ref 0, .int a1] [] (mm I J) := s_S_in rfl rfl
theorem u_144_0 {X : e_X} {d : Nat} {ls st : List Value} {m : e_M} : s_j X d 144 0 ls st m = s_x X d 144 [.iload 1, .sipush 1, .sipush 4, .invokeinterface 109 3, .ifCond .eq 11, .sipush (-1), .ireturn] ls st m := by
  rw [s_j, s_g_eq, g_l144]; rfl
theorem u_144_11 {X : e_X} {d : Nat} {ls st : List Value} {m : e_M} : s_j X d 144 11 ls st m = s_x X d 144 [.aload 0, .checkcast 576, .invokeinterface 76 1, .ifCond .eq 26, .sipush (-3), .goto 41] ls st m := by
  rw [s_j, s_g_eq, g_l144]; rfl
theorem u_144_26 {X : e_X} {d : Nat} {ls st : List Value} {m : e_M} : s_j X d 144 26 ls st m = s_x X d 144 [.aload 0, .checkcast 580, .aload 0, .checkcast 576, .iload 1, .invokeinterface 86 2, .invokeinterface 23 2, .jsr 41] ls st m := by
  rw [s_j, s_g_eq, g_l144]; rfl
theorem u_144_41 {X : e_X} {d : Nat} {ls st : List Value} {m : e_M} : s_j X d 144 41 ls st m = s_x X d 144 [.ireturn] ls st m := by
  rw [s_j, s_g_eq, g_l144]; rfl
/-- B.report -/
theorem g_l145 (l : Nat) : g_P 145 l = (g_c145.lookup l).getD [] := rfl
theorem v_145_0 {X : e_X} {d : Nat} {a1 : Int32} {a2 : Int32} {a3 : Int32} {a4 : Int32} {I J : Nat → Int → Int} : s_S X (d + 1) 145 [.ref 0, .int a1, .int a2, .int a3, .int a4] (mm I J) = s_j X d 145 0 [.ref 0, .int a1, .int a2, .int a3, .int a4, .retAddr 0] [] (mm I J) := s_S_in rfl rfl
theorem u_145_0 {X : e_X} {d : Nat} {ls st : List Value} {m : e_M} : s_j X d 145 0 ls st m = s_x X d 145 [.iload 1, .sipush 0, .sipush 15, .invokeinterface 109 3, .ifCond .ne 19, .iload 2, .sipush 0, .sipush 1, .invokeinterface 109 3, .ifCond .eq 21, .jsr 19] ls st m := by
  rw [s_j, s_g_eq, g_l145]; rfl
theorem u_145_19 {X : e_X} {d : Nat} {ls st : List Value} {m : e_M} : s_j X d 145 19 ls st m = s_x X d 145 [.sipush (-1), .ireturn] ls st m := by
  rw [s_j, s_g_eq, g_l145]; rfl
theorem u_145_21 {X : e_X} {d : Nat} {ls st : List Value} {m : e_M} : s_j X d 145 21 ls st m = s_x X d 145 [.iload 2, .ifCond .ne 30, .sipush 40, .goto 32] ls st m := by
  rw [s_j, s_g_eq, g_l145]; rfl
theorem u_145_30 {X : e_X} {d : Nat} {ls st : List Value} {m : e_M} : s_j X d 145 30 ls st m = s_x X d 145 [.sipush 9, .jsr 32] ls st m := by
  rw [s_j, s_g_eq, g_l145]; rfl
theorem u_145_32 {X : e_X} {d : Nat} {ls st : List Value} {m : e_M} : s_j X d 145 32 ls st m = s_x X d 145 [.istore 5, .iload 3, .sipush 0, .iload 5, .invokeinterface 109 3, .ifCond .ne 55, .iload 4, .iload 3, .iload 5, .invokeinterface 109 3, .ifCond .eq 57, .jsr 55] ls st m := by
  rw [s_j, s_g_eq, g_l145]; rfl
theorem u_145_55 {X : e_X} {d : Nat} {ls st : List Value} {m : e_M} : s_j X d 145 55 ls st m = s_x X d 145 [.sipush (-1), .ireturn] ls st m := by
  rw [s_j, s_g_eq, g_l145]; rfl
theorem u_145_57 {X : e_X} {d : Nat} {ls st : List Value} {m : e_M} : s_j X d 145 57 ls st m = s_x X d 145 [.aload 0, .checkcast 576, .checkcast 520, .getfield 260, .sipush 6, .if_icmp .lt 75, .sipush (-2), .ireturn] ls st m := by
  rw [s_j, s_g_eq, g_l145]; rfl
theorem u_145_75 {X : e_X} {d : Nat} {ls st : List Value} {m : e_M} : s_j X d 145 75 ls st m = s_x X d 145 [.aload 0, .checkcast 576, .checkcast 520, .iload 1, .iload 2, .iload 3, .iload 4, .invokeinterface 49 5, .ireturn] ls st m := by
  rw [s_j, s_g_eq, g_l145]; rfl
/-- B.forget -/
theorem g_l146 (l : Nat) : g_P 146 l = (g_c146.lookup l).getD [] := rfl
theorem v_146_0 {X : e_X} {d : Nat}  {I J : Nat → Int → Int} : s_S X (d + 1) 146 [.ref 0] (mm I J) = s_j X d 146 0 [.ref 0, .retAddr 0] [] (mm I J) := s_S_in rfl rfl
theorem u_146_0 {X : e_X} {d : Nat} {ls st : List Value} {m : e_M} : s_j X d 146 0 ls st m = s_x X d 146 [.aload 0, .checkcast 576, .checkcast 520, .getfield 260, .istore 1, .aload 0, .checkcast 576, .checkcast 520, .sipush 0, .putfield 260, .iload 1, .ireturn] ls st m := by
  rw [s_j, s_g_eq, g_l146]; rfl
/-- B.lost -/
theorem g_l147 (l : Nat) : g_P 147 l = (g_c147.lookup l).getD [] := rfl
theorem v_147_0 {X : e_X} {d : Nat} {a1 : Int32} {I J : Nat → Int → Int} : s_S X (d + 1) 147 [.ref 0, .int a1] (mm I J) = s_j X d 147 0 [.ref 0, .int a1] [] (mm I J) := s_S_in rfl rfl
theorem u_147_0 {X : e_X} {d : Nat} {ls st : List Value} {m : e_M} : s_j X d 147 0 ls st m = s_x X d 147 [.iload 1, .sipush 0, .sipush 3, .invokeinterface 109 3, .ifCond .eq 11, .sipush (-1), .ireturn] ls st m := by
  rw [s_j, s_g_eq, g_l147]; rfl
theorem u_147_11 {X : e_X} {d : Nat} {ls st : List Value} {m : e_M} : s_j X d 147 11 ls st m = s_x X d 147 [.iload 1, .ifCond .ne 25, .aload 0, .checkcast 576, .invokeinterface 99 1, .goto 33] ls st m := by
  rw [s_j, s_g_eq, g_l147]; rfl
theorem u_147_25 {X : e_X} {d : Nat} {ls st : List Value} {m : e_M} : s_j X d 147 25 ls st m = s_x X d 147 [.aload 0, .checkcast 576, .iload 1, .invokeinterface 101 2, .jsr 33] ls st m := by
  rw [s_j, s_g_eq, g_l147]; rfl
theorem u_147_33 {X : e_X} {d : Nat} {ls st : List Value} {m : e_M} : s_j X d 147 33 ls st m = s_x X d 147 [.ireturn] ls st m := by
  rw [s_j, s_g_eq, g_l147]; rfl
/-- B.liar -/
theorem g_l148 (l : Nat) : g_P 148 l = (g_c148.lookup l).getD [] := rfl
theorem v_148_0 {X : e_X} {d : Nat}  {I J : Nat → Int → Int} : s_S X (d + 1) 148 [.ref 0] (mm I J) = s_j X d 148 0 [.ref 0] [] (mm I J) := s_S_in rfl rfl
theorem u_148_0 {X : e_X} {d : Nat} {ls st : List Value} {m : e_M} : s_j X d 148 0 ls st m = s_x X d 148 [.aload 0, .checkcast 576, .invokeinterface 102 1, .ireturn] ls st m := by
  rw [s_j, s_g_eq, g_l148]; rfl
/-- B.seed -/
theorem g_l149 (l : Nat) : g_P 149 l = (g_c149.lookup l).getD [] := rfl
theorem v_149_0 {X : e_X} {d : Nat} {a1 : Int32} {I J : Nat → Int → Int} : s_S X (d + 1) 149 [.ref 0, .int a1] (mm I J) = s_j X d 149 0 [.ref 0, .int a1, .retAddr 0] [] (mm I J) := s_S_in rfl rfl
theorem u_149_0 {X : e_X} {d : Nat} {ls st : List Value} {m : e_M} : s_j X d 149 0 ls st m = s_x X d 149 [.aload 0, .checkcast 576, .getfield 528, .istore 2, .aload 0, .checkcast 576, .iload 1, .putfield 528, .iload 2, .ireturn] ls st m := by
  rw [s_j, s_g_eq, g_l149]; rfl
/-- B.lot -/
theorem g_l150 (l : Nat) : g_P 150 l = (g_c150.lookup l).getD [] := rfl
theorem v_150_0 {X : e_X} {d : Nat}  {I J : Nat → Int → Int} : s_S X (d + 1) 150 [.ref 0] (mm I J) = s_j X d 150 0 [.ref 0] [] (mm I J) := s_S_in rfl rfl
theorem u_150_0 {X : e_X} {d : Nat} {ls st : List Value} {m : e_M} : s_j X d 150 0 ls st m = s_x X d 150 [.aload 0, .checkcast 576, .invokeinterface 76 1, .ifCond .eq 13, .sipush (-4), .ireturn] ls st m := by
  rw [s_j, s_g_eq, g_l150]; rfl
theorem u_150_13 {X : e_X} {d : Nat} {ls st : List Value} {m : e_M} : s_j X d 150 13 ls st m = s_x X d 150 [.aload 0, .checkcast 576, .aload 0, .checkcast 576, .invokeinterface 103 1, .invokeinterface 78 2, .ireturn] ls st m := by
  rw [s_j, s_g_eq, g_l150]; rfl
/-- B.times -/
theorem g_l151 (l : Nat) : g_P 151 l = (g_c151.lookup l).getD [] := rfl
theorem v_151_0 {X : e_X} {d : Nat} {a1 : Int32} {a2 : Int32} {I J : Nat → Int → Int} : s_S X (d + 1) 151 [.ref 0, .int a1, .int a2] (mm I J) = s_j X d 151 0 [.ref 0, .int a1, .int a2, .retAddr 0, .retAddr 0, .retAddr 0] [] (mm I J) := s_S_in rfl rfl
theorem u_151_0 {X : e_X} {d : Nat} {ls st : List Value} {m : e_M} : s_j X d 151 0 ls st m = s_x X d 151 [.iload 1, .sipush 1, .sipush 40, .invokeinterface 109 3, .ifCond .ne 21, .iload 2, .sipush 0, .sipush 999, .invokeinterface 109 3, .ifCond .eq 23, .jsr 21] ls st m := by
  rw [s_j, s_g_eq, g_l151]; rfl
theorem u_151_21 {X : e_X} {d : Nat} {ls st : List Value} {m : e_M} : s_j X d 151 21 ls st m = s_x X d 151 [.sipush (-1), .ireturn] ls st m := by
  rw [s_j, s_g_eq, g_l151]; rfl
theorem u_151_23 {X : e_X} {d : Nat} {ls st : List Value} {m : e_M} : s_j X d 151 23 ls st m = s_x X d 151 [.aload 0, .checkcast 576, .getfield 528, .istore 3, .sipush 0, .istore 4, .sipush 0, .istore 5, .jsr 37] ls st m := by
  rw [s_j, s_g_eq, g_l151]; rfl
theorem u_151_37 {X : e_X} {d : Nat} {ls st : List Value} {m : e_M} : s_j X d 151 37 ls st m = s_x X d 151 [.iload 5, .iload 1, .if_icmp .ge 63, .aload 0, .checkcast 576, .invokeinterface 104 1, .iload 2, .if_icmp .lt 57, .iinc 4 1, .jsr 57] ls st m := by
  rw [s_j, s_g_eq, g_l151]; rfl
theorem u_151_57 {X : e_X} {d : Nat} {ls st : List Value} {m : e_M} : s_j X d 151 57 ls st m = s_x X d 151 [.iinc 5 1, .goto 37] ls st m := by
  rw [s_j, s_g_eq, g_l151]; rfl
theorem u_151_63 {X : e_X} {d : Nat} {ls st : List Value} {m : e_M} : s_j X d 151 63 ls st m = s_x X d 151 [.aload 0, .checkcast 576, .iload 3, .putfield 528, .iload 4, .ireturn] ls st m := by
  rw [s_j, s_g_eq, g_l151]; rfl
/-- B.prove -/
theorem g_l152 (l : Nat) : g_P 152 l = (g_c152.lookup l).getD [] := rfl
theorem v_152_0 {X : e_X} {d : Nat} {a1 : Int32} {I J : Nat → Int → Int} : s_S X (d + 1) 152 [.ref 0, .int a1] (mm I J) = s_j X d 152 0 [.ref 0, .int a1] [] (mm I J) := s_S_in rfl rfl
theorem u_152_0 {X : e_X} {d : Nat} {ls st : List Value} {m : e_M} : s_j X d 152 0 ls st m = s_x X d 152 [.iload 1, .sipush 0, .sipush 4, .invokeinterface 109 3, .ifCond .eq 11, .sipush (-1), .ireturn] ls st m := by
  rw [s_j, s_g_eq, g_l152]; rfl
theorem u_152_11 {X : e_X} {d : Nat} {ls st : List Value} {m : e_M} : s_j X d 152 11 ls st m = s_x X d 152 [.aload 0, .checkcast 580, .iload 1, .sipush 0, .invokeinterface 18 3, .aload 0, .checkcast 581, .aload 0, .checkcast 580, .checkcast 130, .aload 0, .checkcast 580, .getfield 131, .invokeinterface 54 3, .ireturn] ls st m := by
  rw [s_j, s_g_eq, g_l152]; rfl
/-- B.row -/
theorem g_l153 (l : Nat) : g_P 153 l = (g_c153.lookup l).getD [] := rfl
theorem v_153_0 {X : e_X} {d : Nat} {a1 : Int32} {a2 : Int32} {I J : Nat → Int → Int} : s_S X (d + 1) 153 [.ref 0, .int a1, .int a2] (mm I J) = s_j X d 153 0 [.ref 0, .int a1, .int a2] [] (mm I J) := s_S_in rfl rfl
theorem u_153_0 {X : e_X} {d : Nat} {ls st : List Value} {m : e_M} : s_j X d 153 0 ls st m = s_x X d 153 [.aload 0, .checkcast 581, .iload 1, .iload 2, .invokeinterface 55 3, .ifCond .eq 28, .aload 0, .checkcast 581, .checkcast 321, .sipush 3, .iload 1, .imul, .iload 2, .iadd, .iaload, .goto 30] ls st m := by
  rw [s_j, s_g_eq, g_l153]; rfl
theorem u_153_28 {X : e_X} {d : Nat} {ls st : List Value} {m : e_M} : s_j X d 153 28 ls st m = s_x X d 153 [.sipush (-9), .jsr 30] ls st m := by
  rw [s_j, s_g_eq, g_l153]; rfl
theorem u_153_30 {X : e_X} {d : Nat} {ls st : List Value} {m : e_M} : s_j X d 153 30 ls st m = s_x X d 153 [.ireturn] ls st m := by
  rw [s_j, s_g_eq, g_l153]; rfl
/-- B.alterRow -/
theorem g_l154 (l : Nat) : g_P 154 l = (g_c154.lookup l).getD [] := rfl
theorem v_154_0 {X : e_X} {d : Nat} {a1 : Int32} {a2 : Int32} {a3 : Int32} {I J : Nat → Int → Int} : s_S X (d + 1) 154 [.ref 0, .int a1, .int a2, .int a3] (mm I J) = s_j X d 154 0 [.ref 0, .int a1, .int a2, .int a3] [] (mm I J) := s_S_in rfl rfl
theorem u_154_0 {X : e_X} {d : Nat} {ls st : List Value} {m : e_M} : s_j X d 154 0 ls st m = s_x X d 154 [.aload 0, .checkcast 581, .iload 1, .iload 2, .invokeinterface 55 3, .ifCond .eq 31, .aload 0, .checkcast 581, .checkcast 321, .sipush 3, .iload 1, .imul, .iload 2, .iadd, .iload 3, .invokeinterface 114 3, .goto 33] ls st m := by
  rw [s_j, s_g_eq, g_l154]; rfl
theorem u_154_31 {X : e_X} {d : Nat} {ls st : List Value} {m : e_M} : s_j X d 154 31 ls st m = s_x X d 154 [.sipush (-9), .jsr 33] ls st m := by
  rw [s_j, s_g_eq, g_l154]; rfl
theorem u_154_33 {X : e_X} {d : Nat} {ls st : List Value} {m : e_M} : s_j X d 154 33 ls st m = s_x X d 154 [.ireturn] ls st m := by
  rw [s_j, s_g_eq, g_l154]; rfl
/-- B.judge -/
theorem g_l155 (l : Nat) : g_P 155 l = (g_c155.lookup l).getD [] := rfl
theorem v_155_0 {X : e_X} {d : Nat}  {I J : Nat → Int → Int} : s_S X (d + 1) 155 [.ref 0] (mm I J) = s_j X d 155 0 [.ref 0] [] (mm I J) := s_S_in rfl rfl
theorem u_155_0 {X : e_X} {d : Nat} {ls st : List Value} {m : e_M} : s_j X d 155 0 ls st m = s_x X d 155 [.aload 0, .checkcast 581, .invokeinterface 56 1, .ireturn] ls st m := by
  rw [s_j, s_g_eq, g_l155]; rfl
/-- B.sheet -/
theorem g_l156 (l : Nat) : g_P 156 l = (g_c156.lookup l).getD [] := rfl
theorem v_156_0 {X : e_X} {d : Nat} {a1 : Int32} {a2 : Int32} {a3 : Int32} {I J : Nat → Int → Int} : s_S X (d + 1) 156 [.ref 0, .int a1, .int a2, .int a3] (mm I J) = s_j X d 156 0 [.ref 0, .int a1, .int a2, .int a3] [] (mm I J) := s_S_in rfl rfl
theorem u_156_0 {X : e_X} {d : Nat} {ls st : List Value} {m : e_M} : s_j X d 156 0 ls st m = s_x X d 156 [.iload 1, .sipush 0, .sipush 3, .invokeinterface 109 3, .ifCond .ne 18, .iload 2, .sipush (-1), .sipush 4, .invokeinterface 109 3, .ifCond .eq 20, .jsr 18] ls st m := by
  rw [s_j, s_g_eq, g_l156]; rfl
theorem u_156_18 {X : e_X} {d : Nat} {ls st : List Value} {m : e_M} : s_j X d 156 18 ls st m = s_x X d 156 [.sipush (-1), .ireturn] ls st m := by
  rw [s_j, s_g_eq, g_l156]; rfl
theorem u_156_20 {X : e_X} {d : Nat} {ls st : List Value} {m : e_M} : s_j X d 156 20 ls st m = s_x X d 156 [.iload 2, .sipush (-1), .if_icmp .eq 33, .iload 3, .sipush 40, .if_icmp .le 33, .sipush (-1), .ireturn] ls st m := by
  rw [s_j, s_g_eq, g_l156]; rfl
theorem u_156_33 {X : e_X} {d : Nat} {ls st : List Value} {m : e_M} : s_j X d 156 33 ls st m = s_x X d 156 [.iload 2, .sipush (-1), .if_icmp .eq 45, .iload 3, .ifCond .ge 45, .sipush (-14), .ireturn] ls st m := by
  rw [s_j, s_g_eq, g_l156]; rfl
theorem u_156_45 {X : e_X} {d : Nat} {ls st : List Value} {m : e_M} : s_j X d 156 45 ls st m = s_x X d 156 [.aload 0, .checkcast 582, .iload 1, .aaload, .iload 2, .iload 2, .sipush (-1), .if_icmp .ne 61, .sipush 0, .goto 62] ls st m := by
  rw [s_j, s_g_eq, g_l156]; rfl
theorem u_156_61 {X : e_X} {d : Nat} {ls st : List Value} {m : e_M} : s_j X d 156 61 ls st m = s_x X d 156 [.iload 3, .jsr 62] ls st m := by
  rw [s_j, s_g_eq, g_l156]; rfl
theorem u_156_62 {X : e_X} {d : Nat} {ls st : List Value} {m : e_M} : s_j X d 156 62 ls st m = s_x X d 156 [.invokeinterface 59 3, .sipush 1, .ireturn] ls st m := by
  rw [s_j, s_g_eq, g_l156]; rfl
/-- B.write -/
theorem g_l157 (l : Nat) : g_P 157 l = (g_c157.lookup l).getD [] := rfl
theorem v_157_0 {X : e_X} {d : Nat} {a1 : Int32} {a2 : Int32} {a3 : Int32} {I J : Nat → Int → Int} : s_S X (d + 1) 157 [.ref 0, .int a1, .int a2, .int a3] (mm I J) = s_j X d 157 0 [.ref 0, .int a1, .int a2, .int a3] [] (mm I J) := s_S_in rfl rfl
theorem u_157_0 {X : e_X} {d : Nat} {ls st : List Value} {m : e_M} : s_j X d 157 0 ls st m = s_x X d 157 [.iload 1, .sipush 0, .sipush 3, .invokeinterface 109 3, .ifCond .eq 11, .sipush (-1), .ireturn] ls st m := by
  rw [s_j, s_g_eq, g_l157]; rfl
theorem u_157_11 {X : e_X} {d : Nat} {ls st : List Value} {m : e_M} : s_j X d 157 11 ls st m = s_x X d 157 [.aload 0, .checkcast 582, .iload 1, .aaload, .getfield 385, .sipush (-1), .if_icmp .ne 27, .sipush (-11), .ireturn] ls st m := by
  rw [s_j, s_g_eq, g_l157]; rfl
theorem u_157_27 {X : e_X} {d : Nat} {ls st : List Value} {m : e_M} : s_j X d 157 27 ls st m = s_x X d 157 [.aload 0, .checkcast 582, .iload 1, .aaload, .iload 2, .invokeinterface 60 2, .ifCond .ne 43, .sipush (-12), .ireturn] ls st m := by
  rw [s_j, s_g_eq, g_l157]; rfl
theorem u_157_43 {X : e_X} {d : Nat} {ls st : List Value} {m : e_M} : s_j X d 157 43 ls st m = s_x X d 157 [.aload 0, .checkcast 582, .iload 1, .aaload, .iload 2, .iload 3, .invokeinterface 61 3, .sipush 1, .ireturn] ls st m := by
  rw [s_j, s_g_eq, g_l157]; rfl
/-- B.item -/
theorem g_l158 (l : Nat) : g_P 158 l = (g_c158.lookup l).getD [] := rfl
theorem v_158_0 {X : e_X} {d : Nat} {a1 : Int32} {a2 : Int32} {a3 : Int32} {I J : Nat → Int → Int} : s_S X (d + 1) 158 [.ref 0, .int a1, .int a2, .int a3] (mm I J) = s_j X d 158 0 [.ref 0, .int a1, .int a2, .int a3, .retAddr 0] [] (mm I J) := s_S_in rfl rfl
theorem u_158_0 {X : e_X} {d : Nat} {ls st : List Value} {m : e_M} : s_j X d 158 0 ls st m = s_x X d 158 [.iload 1, .sipush 0, .sipush 3, .invokeinterface 109 3, .ifCond .ne 18, .iload 2, .sipush 0, .sipush 4, .invokeinterface 109 3, .ifCond .eq 20, .jsr 18] ls st m := by
  rw [s_j, s_g_eq, g_l158]; rfl
theorem u_158_18 {X : e_X} {d : Nat} {ls st : List Value} {m : e_M} : s_j X d 158 18 ls st m = s_x X d 158 [.sipush (-1), .ireturn] ls st m := by
  rw [s_j, s_g_eq, g_l158]; rfl
theorem u_158_20 {X : e_X} {d : Nat} {ls st : List Value} {m : e_M} : s_j X d 158 20 ls st m = s_x X d 158 [.aload 0, .checkcast 582, .iload 1, .aaload, .iload 2, .invokeinterface 63 2, .istore 4, .iload 4, .ifCond .eq 40, .iload 4, .ireturn] ls st m := by
  rw [s_j, s_g_eq, g_l158]; rfl
theorem u_158_40 {X : e_X} {d : Nat} {ls st : List Value} {m : e_M} : s_j X d 158 40 ls st m = s_x X d 158 [.aload 0, .checkcast 582, .iload 1, .aaload, .iload 3, .invokeinterface 60 2, .ifCond .eq 68, .aload 0, .checkcast 582, .iload 1, .aaload, .checkcast 384, .iload 3, .laload, .l2i, .goto 70] ls st m := by
  rw [s_j, s_g_eq, g_l158]; rfl
theorem u_158_68 {X : e_X} {d : Nat} {ls st : List Value} {m : e_M} : s_j X d 158 68 ls st m = s_x X d 158 [.sipush (-12), .jsr 70] ls st m := by
  rw [s_j, s_g_eq, g_l158]; rfl
theorem u_158_70 {X : e_X} {d : Nat} {ls st : List Value} {m : e_M} : s_j X d 158 70 ls st m = s_x X d 158 [.ireturn] ls st m := by
  rw [s_j, s_g_eq, g_l158]; rfl
/-- B.goAll -/
theorem g_l159 (l : Nat) : g_P 159 l = (g_c159.lookup l).getD [] := rfl
theorem v_159_0 {X : e_X} {d : Nat} {a1 : Int32} {a2 : Int32} {a3 : Int32} {I J : Nat → Int → Int} : s_S X (d + 1) 159 [.ref 0, .int a1, .int a2, .int a3] (mm I J) = s_j X d 159 0 [.ref 0, .int a1, .int a2, .int a3, .retAddr 0, .retAddr 0, .retAddr 0, .retAddr 0, .retAddr 0] [] (mm I J) := s_S_in rfl rfl
theorem u_159_0 {X : e_X} {d : Nat} {ls st : List Value} {m : e_M} : s_j X d 159 0 ls st m = s_x X d 159 [.iload 1, .sipush 0, .sipush 3, .invokeinterface 109 3, .ifCond .ne 19, .iload 3, .sipush 0, .sipush 20, .invokeinterface 109 3, .ifCond .eq 21, .jsr 19] ls st m := by
  rw [s_j, s_g_eq, g_l159]; rfl
theorem u_159_19 {X : e_X} {d : Nat} {ls st : List Value} {m : e_M} : s_j X d 159 19 ls st m = s_x X d 159 [.sipush (-1), .ireturn] ls st m := by
  rw [s_j, s_g_eq, g_l159]; rfl
theorem u_159_21 {X : e_X} {d : Nat} {ls st : List Value} {m : e_M} : s_j X d 159 21 ls st m = s_x X d 159 [.aload 0, .checkcast 582, .iload 1, .aaload, .astore 4, .aload 4, .sipush 0, .invokeinterface 63 2, .istore 5, .iload 5, .ifCond .eq 45, .iload 5, .ireturn] ls st m := by
  rw [s_j, s_g_eq, g_l159]; rfl
theorem u_159_45 {X : e_X} {d : Nat} {ls st : List Value} {m : e_M} : s_j X d 159 45 ls st m = s_x X d 159 [.sipush 0, .istore 6, .sipush 0, .istore 7, .jsr 51] ls st m := by
  rw [s_j, s_g_eq, g_l159]; rfl
theorem u_159_51 {X : e_X} {d : Nat} {ls st : List Value} {m : e_M} : s_j X d 159 51 ls st m = s_x X d 159 [.iload 7, .iload 3, .if_icmp .ge 127, .aload 4, .iload 2, .iload 7, .iadd, .invokeinterface 60 2, .ifCond .ne 72, .sipush (-12), .ireturn] ls st m := by
  rw [s_j, s_g_eq, g_l159]; rfl
theorem u_159_72 {X : e_X} {d : Nat} {ls st : List Value} {m : e_M} : s_j X d 159 72 ls st m = s_x X d 159 [.aload 4, .checkcast 384, .iload 2, .iload 7, .iadd, .laload, .l2i, .istore 8, .aload 0, .checkcast 576, .iload 8, .invokeinterface 105 2, .ifCond .eq 121, .aload 0, .checkcast 576, .invokeinterface 76 1, .ifCond .ne 121, .iload 6, .aload 0, .checkcast 576, .iload 8, .invokeinterface 78 2, .iadd, .istore 6, .jsr 121] ls st m := by
  rw [s_j, s_g_eq, g_l159]; rfl
theorem u_159_121 {X : e_X} {d : Nat} {ls st : List Value} {m : e_M} : s_j X d 159 121 ls st m = s_x X d 159 [.iinc 7 1, .goto 51] ls st m := by
  rw [s_j, s_g_eq, g_l159]; rfl
theorem u_159_127 {X : e_X} {d : Nat} {ls st : List Value} {m : e_M} : s_j X d 159 127 ls st m = s_x X d 159 [.iload 6, .ireturn] ls st m := by
  rw [s_j, s_g_eq, g_l159]; rfl
/-- B.wouldBe -/
theorem g_l160 (l : Nat) : g_P 160 l = (g_c160.lookup l).getD [] := rfl
theorem v_160_0 {X : e_X} {d : Nat} {a1 : Int32} {a2 : Int32} {a3 : Int32} {I J : Nat → Int → Int} : s_S X (d + 1) 160 [.ref 0, .int a1, .int a2, .int a3] (mm I J) = s_j X d 160 0 [.ref 0, .int a1, .int a2, .int a3, .retAddr 0, .retAddr 0, .retAddr 0] [] (mm I J) := s_S_in rfl rfl
theorem u_160_0 {X : e_X} {d : Nat} {ls st : List Value} {m : e_M} : s_j X d 160 0 ls st m = s_x X d 160 [.iload 1, .sipush 0, .sipush 3, .invokeinterface 109 3, .ifCond .ne 19, .iload 3, .sipush 0, .sipush 20, .invokeinterface 109 3, .ifCond .eq 21, .jsr 19] ls st m := by
  rw [s_j, s_g_eq, g_l160]; rfl
theorem u_160_19 {X : e_X} {d : Nat} {ls st : List Value} {m : e_M} : s_j X d 160 19 ls st m = s_x X d 160 [.sipush (-1), .ireturn] ls st m := by
  rw [s_j, s_g_eq, g_l160]; rfl
theorem u_160_21 {X : e_X} {d : Nat} {ls st : List Value} {m : e_M} : s_j X d 160 21 ls st m = s_x X d 160 [.aload 0, .checkcast 582, .iload 1, .aaload, .sipush 0, .invokeinterface 63 2, .istore 4, .iload 4, .ifCond .eq 41, .iload 4, .ireturn] ls st m := by
  rw [s_j, s_g_eq, g_l160]; rfl
theorem u_160_41 {X : e_X} {d : Nat} {ls st : List Value} {m : e_M} : s_j X d 160 41 ls st m = s_x X d 160 [.aload 0, .checkcast 576, .invokeinterface 85 1, .istore 5, .aload 0, .aload 0, .checkcast 582, .iload 1, .aaload, .iload 2, .iload 3, .invokeinterface 161 4, .istore 6, .aload 0, .checkcast 576, .iload 5, .invokeinterface 87 2, .iload 6, .ireturn] ls st m := by
  rw [s_j, s_g_eq, g_l160]; rfl
/-- B.worthOfItems -/
theorem g_l161 (l : Nat) : g_P 161 l = (g_c161.lookup l).getD [] := rfl
theorem v_161_0 {X : e_X} {d : Nat} {a1 : Nat} {a2 : Int32} {a3 : Int32} {I J : Nat → Int → Int} : s_S X (d + 1) 161 [.ref 0, .ref a1, .int a2, .int a3] (mm I J) = s_j X d 161 0 [.ref 0, .ref a1, .int a2, .int a3, .retAddr 0, .retAddr 0, .retAddr 0] [] (mm I J) := s_S_in rfl rfl
theorem u_161_0 {X : e_X} {d : Nat} {ls st : List Value} {m : e_M} : s_j X d 161 0 ls st m = s_x X d 161 [.sipush 0, .istore 4, .sipush 0, .istore 5, .jsr 6] ls st m := by
  rw [s_j, s_g_eq, g_l161]; rfl
theorem u_161_6 {X : e_X} {d : Nat} {ls st : List Value} {m : e_M} : s_j X d 161 6 ls st m = s_x X d 161 [.iload 5, .iload 3, .if_icmp .ge 83, .aload 1, .iload 2, .iload 5, .iadd, .invokeinterface 60 2, .ifCond .ne 26, .sipush (-12), .ireturn] ls st m := by
  rw [s_j, s_g_eq, g_l161]; rfl
theorem u_161_26 {X : e_X} {d : Nat} {ls st : List Value} {m : e_M} : s_j X d 161 26 ls st m = s_x X d 161 [.aload 1, .checkcast 384, .iload 2, .iload 5, .iadd, .laload, .l2i, .istore 6, .aload 0, .checkcast 576, .iload 6, .invokeinterface 105 2, .ifCond .eq 60, .aload 0, .checkcast 576, .invokeinterface 76 1, .ifCond .eq 63, .jsr 60] ls st m := by
  rw [s_j, s_g_eq, g_l161]; rfl
theorem u_161_60 {X : e_X} {d : Nat} {ls st : List Value} {m : e_M} : s_j X d 161 60 ls st m = s_x X d 161 [.sipush (-4), .ireturn] ls st m := by
  rw [s_j, s_g_eq, g_l161]; rfl
theorem u_161_63 {X : e_X} {d : Nat} {ls st : List Value} {m : e_M} : s_j X d 161 63 ls st m = s_x X d 161 [.iload 4, .aload 0, .checkcast 576, .iload 6, .invokeinterface 79 2, .iadd, .istore 4, .iinc 5 1, .goto 6] ls st m := by
  rw [s_j, s_g_eq, g_l161]; rfl
theorem u_161_83 {X : e_X} {d : Nat} {ls st : List Value} {m : e_M} : s_j X d 161 83 ls st m = s_x X d 161 [.iload 4, .ireturn] ls st m := by
  rw [s_j, s_g_eq, g_l161]; rfl
/-- B.shelf -/
theorem g_l162 (l : Nat) : g_P 162 l = (g_c162.lookup l).getD [] := rfl
theorem v_162_0 {X : e_X} {d : Nat} {a1 : Int32} {a2 : Int32} {a3 : Int32} {I J : Nat → Int → Int} : s_S X (d + 1) 162 [.ref 0, .int a1, .int a2, .int a3] (mm I J) = s_j X d 162 0 [.ref 0, .int a1, .int a2, .int a3] [] (mm I J) := s_S_in rfl rfl
theorem u_162_0 {X : e_X} {d : Nat} {ls st : List Value} {m : e_M} : s_j X d 162 0 ls st m = s_x X d 162 [.iload 1, .sipush 0, .sipush 3, .invokeinterface 109 3, .ifCond .ne 18, .iload 2, .sipush 0, .sipush 2, .invokeinterface 109 3, .ifCond .eq 20, .jsr 18] ls st m := by
  rw [s_j, s_g_eq, g_l162]; rfl
theorem u_162_18 {X : e_X} {d : Nat} {ls st : List Value} {m : e_M} : s_j X d 162 18 ls st m = s_x X d 162 [.sipush (-1), .ireturn] ls st m := by
  rw [s_j, s_g_eq, g_l162]; rfl
theorem u_162_20 {X : e_X} {d : Nat} {ls st : List Value} {m : e_M} : s_j X d 162 20 ls st m = s_x X d 162 [.iload 2, .ifCond .ne 37, .aload 0, .checkcast 576, .iload 3, .invokeinterface 69 2, .ifCond .ne 37, .sipush (-1), .ireturn] ls st m := by
  rw [s_j, s_g_eq, g_l162]; rfl
theorem u_162_37 {X : e_X} {d : Nat} {ls st : List Value} {m : e_M} : s_j X d 162 37 ls st m = s_x X d 162 [.iload 2, .sipush 1, .if_icmp .ne 53, .iload 3, .sipush 0, .sipush 3, .invokeinterface 109 3, .ifCond .eq 53, .sipush (-1), .ireturn] ls st m := by
  rw [s_j, s_g_eq, g_l162]; rfl
theorem u_162_53 {X : e_X} {d : Nat} {ls st : List Value} {m : e_M} : s_j X d 162 53 ls st m = s_x X d 162 [.iload 2, .sipush 1, .if_icmp .ne 88, .aload 0, .checkcast 583, .iload 1, .aaload, .aload 0, .checkcast 582, .iload 3, .aaload, .getfield 385, .aload 0, .checkcast 582, .iload 3, .aaload, .getfield 386, .invokeinterface 65 3, .goto 99] ls st m := by
  rw [s_j, s_g_eq, g_l162]; rfl
theorem u_162_88 {X : e_X} {d : Nat} {ls st : List Value} {m : e_M} : s_j X d 162 88 ls st m = s_x X d 162 [.aload 0, .checkcast 583, .iload 1, .aaload, .iload 2, .iload 3, .invokeinterface 66 3, .jsr 99] ls st m := by
  rw [s_j, s_g_eq, g_l162]; rfl
theorem u_162_99 {X : e_X} {d : Nat} {ls st : List Value} {m : e_M} : s_j X d 162 99 ls st m = s_x X d 162 [.sipush 1, .ireturn] ls st m := by
  rw [s_j, s_g_eq, g_l162]; rfl
/-- B.taken -/
theorem g_l163 (l : Nat) : g_P 163 l = (g_c163.lookup l).getD [] := rfl
theorem v_163_0 {X : e_X} {d : Nat} {a1 : Int32} {a2 : Int32} {I J : Nat → Int → Int} : s_S X (d + 1) 163 [.ref 0, .int a1, .int a2] (mm I J) = s_j X d 163 0 [.ref 0, .int a1, .int a2, .retAddr 0, .retAddr 0, .retAddr 0, .retAddr 0] [] (mm I J) := s_S_in rfl rfl
theorem u_163_0 {X : e_X} {d : Nat} {ls st : List Value} {m : e_M} : s_j X d 163 0 ls st m = s_x X d 163 [.iload 2, .sipush 0, .sipush 5, .invokeinterface 109 3, .ifCond .ne 13, .sipush 1, .goto 14] ls st m := by
  rw [s_j, s_g_eq, g_l163]; rfl
theorem u_163_13 {X : e_X} {d : Nat} {ls st : List Value} {m : e_M} : s_j X d 163 13 ls st m = s_x X d 163 [.sipush 0, .jsr 14] ls st m := by
  rw [s_j, s_g_eq, g_l163]; rfl
theorem u_163_14 {X : e_X} {d : Nat} {ls st : List Value} {m : e_M} : s_j X d 163 14 ls st m = s_x X d 163 [.istore 3, .iload 2, .sipush 10, .sipush 14, .invokeinterface 109 3, .ifCond .ne 30, .sipush 1, .goto 31] ls st m := by
  rw [s_j, s_g_eq, g_l163]; rfl
theorem u_163_30 {X : e_X} {d : Nat} {ls st : List Value} {m : e_M} : s_j X d 163 30 ls st m = s_x X d 163 [.sipush 0, .jsr 31] ls st m := by
  rw [s_j, s_g_eq, g_l163]; rfl
theorem u_163_31 {X : e_X} {d : Nat} {ls st : List Value} {m : e_M} : s_j X d 163 31 ls st m = s_x X d 163 [.istore 4, .iload 1, .sipush 0, .sipush 3, .invokeinterface 109 3, .ifCond .ne 51, .iload 3, .ifCond .ne 53, .iload 4, .ifCond .ne 53, .jsr 51] ls st m := by
  rw [s_j, s_g_eq, g_l163]; rfl
theorem u_163_51 {X : e_X} {d : Nat} {ls st : List Value} {m : e_M} : s_j X d 163 51 ls st m = s_x X d 163 [.sipush (-1), .ireturn] ls st m := by
  rw [s_j, s_g_eq, g_l163]; rfl
theorem u_163_53 {X : e_X} {d : Nat} {ls st : List Value} {m : e_M} : s_j X d 163 53 ls st m = s_x X d 163 [.aload 0, .checkcast 583, .iload 1, .aaload, .astore 5, .aload 0, .aload 5, .invokeinterface 164 2, .istore 6, .iload 6, .sipush 2, .if_icmp .ne 78, .sipush (-11), .ireturn] ls st m := by
  rw [s_j, s_g_eq, g_l163]; rfl
theorem u_163_78 {X : e_X} {d : Nat} {ls st : List Value} {m : e_M} : s_j X d 163 78 ls st m = s_x X d 163 [.iload 6, .sipush 1, .if_icmp .ne 112, .iload 4, .ifCond .eq 109, .aload 5, .getfield 450, .iload 2, .sipush 10, .isub, .if_icmp .ne 109, .aload 5, .getfield 451, .goto 111] ls st m := by
  rw [s_j, s_g_eq, g_l163]; rfl
theorem u_163_109 {X : e_X} {d : Nat} {ls st : List Value} {m : e_M} : s_j X d 163 109 ls st m = s_x X d 163 [.sipush (-13), .jsr 111] ls st m := by
  rw [s_j, s_g_eq, g_l163]; rfl
theorem u_163_111 {X : e_X} {d : Nat} {ls st : List Value} {m : e_M} : s_j X d 163 111 ls st m = s_x X d 163 [.ireturn] ls st m := by
  rw [s_j, s_g_eq, g_l163]; rfl
theorem u_163_112 {X : e_X} {d : Nat} {ls st : List Value} {m : e_M} : s_j X d 163 112 ls st m = s_x X d 163 [.iload 3, .ifCond .eq 144, .aload 0, .checkcast 576, .checkcast 512, .aload 5, .getfield 449, .iaload, .iload 2, .invokeinterface 112 2, .ifCond .eq 144, .aload 5, .getfield 449, .goto 146] ls st m := by
  rw [s_j, s_g_eq, g_l163]; rfl
theorem u_163_144 {X : e_X} {d : Nat} {ls st : List Value} {m : e_M} : s_j X d 163 144 ls st m = s_x X d 163 [.sipush (-13), .jsr 146] ls st m := by
  rw [s_j, s_g_eq, g_l163]; rfl
theorem u_163_146 {X : e_X} {d : Nat} {ls st : List Value} {m : e_M} : s_j X d 163 146 ls st m = s_x X d 163 [.ireturn] ls st m := by
  rw [s_j, s_g_eq, g_l163]; rfl
/-- B.heldOn -/
theorem g_l164 (l : Nat) : g_P 164 l = (g_c164.lookup l).getD [] := rfl
theorem v_164_0 {X : e_X} {d : Nat} {a1 : Nat} {I J : Nat → Int → Int} : s_S X (d + 1) 164 [.ref 0, .ref a1] (mm I J) = s_j X d 164 0 [.ref 0, .ref a1] [] (mm I J) := s_S_in rfl rfl
theorem u_164_0 {X : e_X} {d : Nat} {ls st : List Value} {m : e_M} : s_j X d 164 0 ls st m = s_x X d 164 [.aload 1, .getfield 448, .ifCond .ne 23, .aload 0, .checkcast 576, .aload 1, .getfield 449, .invokeinterface 69 2, .ifCond .ne 23, .sipush 2, .ireturn] ls st m := by
  rw [s_j, s_g_eq, g_l164]; rfl
theorem u_164_23 {X : e_X} {d : Nat} {ls st : List Value} {m : e_M} : s_j X d 164 23 ls st m = s_x X d 164 [.aload 1, .getfield 448, .ireturn] ls st m := by
  rw [s_j, s_g_eq, g_l164]; rfl
/-- B.act -/
theorem g_l165 (l : Nat) : g_P 165 l = (g_c165.lookup l).getD [] := rfl
theorem v_165_0 {X : e_X} {d : Nat} {a1 : Int32} {a2 : Int32} {a3 : Int32} {I J : Nat → Int → Int} : s_S X (d + 1) 165 [.ref 0, .int a1, .int a2, .int a3] (mm I J) = s_j X d 165 0 [.ref 0, .int a1, .int a2, .int a3, .retAddr 0] [] (mm I J) := s_S_in rfl rfl
theorem u_165_0 {X : e_X} {d : Nat} {ls st : List Value} {m : e_M} : s_j X d 165 0 ls st m = s_x X d 165 [.aload 0, .checkcast 584, .sipush 0, .putfield 1, .iload 1, .sipush 0, .sipush 3, .invokeinterface 109 3, .ifCond .ne 26, .iload 2, .sipush 0, .sipush 3, .invokeinterface 109 3, .ifCond .eq 28, .jsr 26] ls st m := by
  rw [s_j, s_g_eq, g_l165]; rfl
theorem u_165_26 {X : e_X} {d : Nat} {ls st : List Value} {m : e_M} : s_j X d 165 26 ls st m = s_x X d 165 [.sipush 0, .ireturn] ls st m := by
  rw [s_j, s_g_eq, g_l165]; rfl
theorem u_165_28 {X : e_X} {d : Nat} {ls st : List Value} {m : e_M} : s_j X d 165 28 ls st m = s_x X d 165 [.aload 0, .aload 0, .checkcast 583, .iload 1, .aaload, .invokeinterface 164 2, .ifCond .eq 43, .sipush 0, .ireturn] ls st m := by
  rw [s_j, s_g_eq, g_l165]; rfl
theorem u_165_43 {X : e_X} {d : Nat} {ls st : List Value} {m : e_M} : s_j X d 165 43 ls st m = s_x X d 165 [.aload 0, .checkcast 583, .iload 1, .aaload, .getfield 449, .istore 4, .aload 0, .checkcast 584, .aload 0, .checkcast 576, .checkcast 512, .iload 4, .iaload, .iload 4, .aload 0, .checkcast 576, .checkcast 515, .iload 4, .iaload, .invokeinterface 1 4, .aload 0, .checkcast 584, .iload 2, .iload 3, .invokeinterface 2 3, .ireturn] ls st m := by
  rw [s_j, s_g_eq, g_l165]; rfl
/-- B.trace -/
theorem g_l166 (l : Nat) : g_P 166 l = (g_c166.lookup l).getD [] := rfl
theorem v_166_0 {X : e_X} {d : Nat} {a1 : Int32} {I J : Nat → Int → Int} : s_S X (d + 1) 166 [.ref 0, .int a1] (mm I J) = s_j X d 166 0 [.ref 0, .int a1] [] (mm I J) := s_S_in rfl rfl
theorem u_166_0 {X : e_X} {d : Nat} {ls st : List Value} {m : e_M} : s_j X d 166 0 ls st m = s_x X d 166 [.iload 1, .sipush 0, .aload 0, .checkcast 584, .getfield 1, .sipush 1, .isub, .invokeinterface 109 3, .ifCond .eq 22, .sipush (-3), .goto 31] ls st m := by
  rw [s_j, s_g_eq, g_l166]; rfl
theorem u_166_22 {X : e_X} {d : Nat} {ls st : List Value} {m : e_M} : s_j X d 166 22 ls st m = s_x X d 166 [.aload 0, .checkcast 584, .checkcast 0, .iload 1, .iaload, .jsr 31] ls st m := by
  rw [s_j, s_g_eq, g_l166]; rfl
theorem u_166_31 {X : e_X} {d : Nat} {ls st : List Value} {m : e_M} : s_j X d 166 31 ls st m = s_x X d 166 [.ireturn] ls st m := by
  rw [s_j, s_g_eq, g_l166]; rfl
/-- B.many -/
theorem g_l167 (l : Nat) : g_P 167 l = (g_c167.lookup l).getD [] := rfl
theorem v_167_0 {X : e_X} {d : Nat} {a1 : Int32} {I J : Nat → Int → Int} : s_S X (d + 1) 167 [.ref 0, .int a1] (mm I J) = s_j X d 167 0 [.ref 0, .int a1] [] (mm I J) := s_S_in rfl rfl
theorem u_167_0 {X : e_X} {d : Nat} {ls st : List Value} {m : e_M} : s_j X d 167 0 ls st m = s_x X d 167 [.iload 1, .lookupswitch 109 #[(0, 44), (1, 52), (2, 63), (3, 74), (4, 85), (5, 93), (6, 101)]] ls st m := by
  rw [s_j, s_g_eq, g_l167]; rfl
theorem u_167_44 {X : e_X} {d : Nat} {ls st : List Value} {m : e_M} : s_j X d 167 44 ls st m = s_x X d 167 [.aload 0, .checkcast 576, .getfield 521, .ireturn] ls st m := by
  rw [s_j, s_g_eq, g_l167]; rfl
theorem u_167_52 {X : e_X} {d : Nat} {ls st : List Value} {m : e_M} : s_j X d 167 52 ls st m = s_x X d 167 [.aload 0, .checkcast 576, .checkcast 519, .getfield 69, .ireturn] ls st m := by
  rw [s_j, s_g_eq, g_l167]; rfl
theorem u_167_63 {X : e_X} {d : Nat} {ls st : List Value} {m : e_M} : s_j X d 167 63 ls st m = s_x X d 167 [.aload 0, .checkcast 576, .getfield 522, .invokeinterface 300 1, .ireturn] ls st m := by
  rw [s_j, s_g_eq, g_l167]; rfl
theorem u_167_74 {X : e_X} {d : Nat} {ls st : List Value} {m : e_M} : s_j X d 167 74 ls st m = s_x X d 167 [.aload 0, .checkcast 576, .checkcast 520, .getfield 260, .ireturn] ls st m := by
  rw [s_j, s_g_eq, g_l167]; rfl
theorem u_167_85 {X : e_X} {d : Nat} {ls st : List Value} {m : e_M} : s_j X d 167 85 ls st m = s_x X d 167 [.aload 0, .checkcast 581, .getfield 322, .ireturn] ls st m := by
  rw [s_j, s_g_eq, g_l167]; rfl
theorem u_167_93 {X : e_X} {d : Nat} {ls st : List Value} {m : e_M} : s_j X d 167 93 ls st m = s_x X d 167 [.aload 0, .checkcast 579, .getfield 194, .ireturn] ls st m := by
  rw [s_j, s_g_eq, g_l167]; rfl
theorem u_167_101 {X : e_X} {d : Nat} {ls st : List Value} {m : e_M} : s_j X d 167 101 ls st m = s_x X d 167 [.aload 0, .checkcast 584, .getfield 1, .ireturn] ls st m := by
  rw [s_j, s_g_eq, g_l167]; rfl
theorem u_167_109 {X : e_X} {d : Nat} {ls st : List Value} {m : e_M} : s_j X d 167 109 ls st m = s_x X d 167 [.sipush (-1), .ireturn] ls st m := by
  rw [s_j, s_g_eq, g_l167]; rfl
/-- B.keep -/
theorem g_l168 (l : Nat) : g_P 168 l = (g_c168.lookup l).getD [] := rfl
theorem v_168_0 {X : e_X} {d : Nat}  {I J : Nat → Int → Int} : s_S X (d + 1) 168 [.ref 0] (mm I J) = s_j X d 168 0 [.ref 0] [] (mm I J) := s_S_in rfl rfl
theorem u_168_0 {X : e_X} {d : Nat} {ls st : List Value} {m : e_M} : s_j X d 168 0 ls st m = s_x X d 168 [.aload 0, .checkcast 577, .aload 0, .checkcast 576, .invokeinterface 106 2, .aload 0, .sipush 1, .putfield 578, .sipush 1, .ireturn] ls st m := by
  rw [s_j, s_g_eq, g_l168]; rfl
/-- B.again -/
theorem g_l169 (l : Nat) : g_P 169 l = (g_c169.lookup l).getD [] := rfl
theorem v_169_0 {X : e_X} {d : Nat}  {I J : Nat → Int → Int} : s_S X (d + 1) 169 [.ref 0] (mm I J) = s_j X d 169 0 [.ref 0] [] (mm I J) := s_S_in rfl rfl
theorem u_169_0 {X : e_X} {d : Nat} {ls st : List Value} {m : e_M} : s_j X d 169 0 ls st m = s_x X d 169 [.aload 0, .getfield 578, .ifCond .ne 10, .sipush (-3), .ireturn] ls st m := by
  rw [s_j, s_g_eq, g_l169]; rfl
theorem u_169_10 {X : e_X} {d : Nat} {ls st : List Value} {m : e_M} : s_j X d 169 10 ls st m = s_x X d 169 [.aload 0, .checkcast 576, .aload 0, .checkcast 577, .invokeinterface 106 2, .aload 0, .checkcast 576, .getfield 521, .ireturn] ls st m := by
  rw [s_j, s_g_eq, g_l169]; rfl
