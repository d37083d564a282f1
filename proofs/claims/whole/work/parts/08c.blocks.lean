/-- M.feed -/
theorem g_l171 (l : Nat) : g_P 171 l = (g_c171.lookup l).getD [] := rfl
theorem v_171_69 {X : e_X} {d : Nat} {a1 : Int64} {a2 : Int32} {I J : Nat → Int → Int} : s_S X (d + 1) 171 [.ref 69, .long a1, .int a2] (mm I J) = s_j X d 171 0 [.ref 69, .long a1, .retAddr 0, .int a2, .retAddr 0] [] (mm I J) := s_S_in rfl rfl
theorem u_171_0 {X : e_X} {d : Nat} {ls st : List Value} {m : e_M} : s_j X d 171 0 ls st m = s_x X d 171 [.iload 3, .sipush 1, .sipush 8, .invokeinterface 172 3, .ifCond .ne 12, .sipush (-1), .ireturn] ls st m := by
  rw [s_j, s_g_eq, g_l171]; rfl
theorem u_171_12 {X : e_X} {d : Nat} {ls st : List Value} {m : e_M} : s_j X d 171 12 ls st m = s_x X d 171 [.aload 0, .getfield 646, .iload 3, .iadd, .sipush 200, .if_icmp .le 27, .sipush (-2), .ireturn] ls st m := by
  rw [s_j, s_g_eq, g_l171]; rfl
theorem u_171_27 {X : e_X} {d : Nat} {ls st : List Value} {m : e_M} : s_j X d 171 27 ls st m = s_x X d 171 [.sipush 0, .istore 4, .jsr 30] ls st m := by
  rw [s_j, s_g_eq, g_l171]; rfl
theorem u_171_30 {X : e_X} {d : Nat} {ls st : List Value} {m : e_M} : s_j X d 171 30 ls st m = s_x X d 171 [.iload 4, .iload 3, .if_icmp .ge 73, .aload 0, .checkcast 645, .aload 0, .getfield 646, .lload 1, .sipush 8, .iload 4, .imul, .lshr, .goto_w 255, .land, .l2i, .iastore, .aload 0, .dup, .getfield 646, .sipush 1, .iadd, .putfield 646, .iinc 4 1, .goto 30] ls st m := by
  rw [s_j, s_g_eq, g_l171]; rfl
theorem u_171_73 {X : e_X} {d : Nat} {ls st : List Value} {m : e_M} : s_j X d 171 73 ls st m = s_x X d 171 [.aload 0, .getfield 646, .ireturn] ls st m := by
  rw [s_j, s_g_eq, g_l171]; rfl
/-- M.in1 -/
theorem g_l172 (l : Nat) : g_P 172 l = (g_c172.lookup l).getD [] := rfl
theorem v_172 {X : e_X} {d : Nat} {a0 : Int32} {a1 : Int32} {a2 : Int32} {I J : Nat → Int → Int} : s_S X (d + 1) 172 [.int a0, .int a1, .int a2] (mm I J) = s_j X d 172 0 [.int a0, .int a1, .int a2] [] (mm I J) := s_S_in rfl rfl
theorem u_172_0 {X : e_X} {d : Nat} {ls st : List Value} {m : e_M} : s_j X d 172 0 ls st m = s_x X d 172 [.iload 0, .iload 1, .if_icmp .lt 14, .iload 0, .iload 2, .if_icmp .gt 14, .sipush 1, .goto 15] ls st m := by
  rw [s_j, s_g_eq, g_l172]; rfl
theorem u_172_14 {X : e_X} {d : Nat} {ls st : List Value} {m : e_M} : s_j X d 172 14 ls st m = s_x X d 172 [.sipush 0, .jsr 15] ls st m := by
  rw [s_j, s_g_eq, g_l172]; rfl
theorem u_172_15 {X : e_X} {d : Nat} {ls st : List Value} {m : e_M} : s_j X d 172 15 ls st m = s_x X d 172 [.areturn] ls st m := by
  rw [s_j, s_g_eq, g_l172]; rfl
/-- M.rules -/
theorem g_l173 (l : Nat) : g_P 173 l = (g_c173.lookup l).getD [] := rfl
theorem v_173_69 {X : e_X} {d : Nat}  {I J : Nat → Int → Int} : s_S X (d + 1) 173 [.ref 69] (mm I J) = s_j X d 173 0 [.ref 69, .retAddr 0, .retAddr 0, .retAddr 0] [] (mm I J) := s_S_in rfl rfl
theorem u_173_0 {X : e_X} {d : Nat} {ls st : List Value} {m : e_M} : s_j X d 173 0 ls st m = s_x X d 173 [.aload 0, .sipush 0, .putfield 648, .aload 0, .sipush 0, .putfield 653, .sipush 0, .istore 1, .aload 0, .invokeinterface 174 1, .sipush 1, .istore 2, .jsr 18] ls st m := by
  rw [s_j, s_g_eq, g_l173]; rfl
theorem u_173_18 {X : e_X} {d : Nat} {ls st : List Value} {m : e_M} : s_j X d 173 18 ls st m = s_x X d 173 [.iload 2, .ifCond .eq 42, .aload 0, .getfield 650, .sipush (-1), .if_icmp .eq 42, .aload 0, .iload 1, .invokeinterface 179 2, .istore 2, .iinc 1 1, .goto 18] ls st m := by
  rw [s_j, s_g_eq, g_l173]; rfl
theorem u_173_42 {X : e_X} {d : Nat} {ls st : List Value} {m : e_M} : s_j X d 173 42 ls st m = s_x X d 173 [.aload 0, .sipush 0, .putfield 646, .iload 2, .ifCond .ne 59, .sipush (-100), .aload 0, .getfield 649, .isub, .ireturn] ls st m := by
  rw [s_j, s_g_eq, g_l173]; rfl
theorem u_173_59 {X : e_X} {d : Nat} {ls st : List Value} {m : e_M} : s_j X d 173 59 ls st m = s_x X d 173 [.aload 0, .checkcast 640, .sipush 7, .iload 1, .iastore, .sipush 0, .istore 3, .jsr 69] ls st m := by
  rw [s_j, s_g_eq, g_l173]; rfl
theorem u_173_69 {X : e_X} {d : Nat} {ls st : List Value} {m : e_M} : s_j X d 173 69 ls st m = s_x X d 173 [.iload 3, .sipush 3, .iload 1, .imul, .if_icmp .ge 97, .aload 0, .checkcast 640, .sipush 98, .iload 3, .iadd, .aload 0, .checkcast 655, .iload 3, .iaload, .iastore, .iinc 3 1, .goto 69] ls st m := by
  rw [s_j, s_g_eq, g_l173]; rfl
theorem u_173_97 {X : e_X} {d : Nat} {ls st : List Value} {m : e_M} : s_j X d 173 97 ls st m = s_x X d 173 [.sipush 0, .istore 3, .jsr 99] ls st m := by
  rw [s_j, s_g_eq, g_l173]; rfl
theorem u_173_99 {X : e_X} {d : Nat} {ls st : List Value} {m : e_M} : s_j X d 173 99 ls st m = s_x X d 173 [.iload 3, .aload 0, .getfield 653, .if_icmp .ge 128, .aload 0, .checkcast 640, .sipush 122, .iload 3, .iadd, .aload 0, .checkcast 654, .iload 3, .iaload, .iastore, .iinc 3 1, .goto 99] ls st m := by
  rw [s_j, s_g_eq, g_l173]; rfl
theorem u_173_128 {X : e_X} {d : Nat} {ls st : List Value} {m : e_M} : s_j X d 173 128 ls st m = s_x X d 173 [.iload 1, .ireturn] ls st m := by
  rw [s_j, s_g_eq, g_l173]; rfl
/-- M.next -/
theorem g_l174 (l : Nat) : g_P 174 l = (g_c174.lookup l).getD [] := rfl
theorem v_174_69 {X : e_X} {d : Nat}  {I J : Nat → Int → Int} : s_S X (d + 1) 174 [.ref 69] (mm I J) = s_j X d 174 0 [.ref 69, .retAddr 0] [] (mm I J) := s_S_in rfl rfl
theorem u_174_0 {X : e_X} {d : Nat} {ls st : List Value} {m : e_M} : s_j X d 174 0 ls st m = s_x X d 174 [.aload 0, .aload 0, .getfield 648, .invokeinterface 175 2, .sipush 32, .if_icmp .ne 26, .aload 0, .dup, .getfield 648, .sipush 1, .iadd, .putfield 648, .goto 0] ls st m := by
  rw [s_j, s_g_eq, g_l174]; rfl
theorem u_174_26 {X : e_X} {d : Nat} {ls st : List Value} {m : e_M} : s_j X d 174 26 ls st m = s_x X d 174 [.aload 0, .aload 0, .getfield 648, .putfield 649, .aload 0, .aload 0, .getfield 648, .invokeinterface 175 2, .istore 1, .iload 1, .ifCond .ge 55, .aload 0, .sipush (-1), .putfield 650, .goto 110] ls st m := by
  rw [s_j, s_g_eq, g_l174]; rfl
theorem u_174_55 {X : e_X} {d : Nat} {ls st : List Value} {m : e_M} : s_j X d 174 55 ls st m = s_x X d 174 [.iload 1, .sipush 97, .sipush 122, .invokeinterface 172 3, .ifCond .eq 73, .aload 0, .invokeinterface 176 1, .goto 110] ls st m := by
  rw [s_j, s_g_eq, g_l174]; rfl
theorem u_174_73 {X : e_X} {d : Nat} {ls st : List Value} {m : e_M} : s_j X d 174 73 ls st m = s_x X d 174 [.iload 1, .sipush 48, .sipush 57, .invokeinterface 172 3, .ifCond .eq 91, .aload 0, .invokeinterface 178 1, .goto 110] ls st m := by
  rw [s_j, s_g_eq, g_l174]; rfl
theorem u_174_91 {X : e_X} {d : Nat} {ls st : List Value} {m : e_M} : s_j X d 174 91 ls st m = s_x X d 174 [.aload 0, .sipush 200, .iload 1, .iadd, .putfield 650, .aload 0, .dup, .getfield 648, .sipush 1, .iadd, .putfield 648, .jsr 110] ls st m := by
  rw [s_j, s_g_eq, g_l174]; rfl
theorem u_174_110 {X : e_X} {d : Nat} {ls st : List Value} {m : e_M} : s_j X d 174 110 ls st m = s_x X d 174 [.return_] ls st m := by
  rw [s_j, s_g_eq, g_l174]; rfl
/-- M.byteAt -/
theorem g_l175 (l : Nat) : g_P 175 l = (g_c175.lookup l).getD [] := rfl
theorem v_175_69 {X : e_X} {d : Nat} {a1 : Int32} {I J : Nat → Int → Int} : s_S X (d + 1) 175 [.ref 69, .int a1] (mm I J) = s_j X d 175 0 [.ref 69, .int a1] [] (mm I J) := s_S_in rfl rfl
theorem u_175_0 {X : e_X} {d : Nat} {ls st : List Value} {m : e_M} : s_j X d 175 0 ls st m = s_x X d 175 [.iload 1, .aload 0, .getfield 646, .if_icmp .ge 17, .aload 0, .checkcast 645, .iload 1, .iaload, .goto 18] ls st m := by
  rw [s_j, s_g_eq, g_l175]; rfl
theorem u_175_17 {X : e_X} {d : Nat} {ls st : List Value} {m : e_M} : s_j X d 175 17 ls st m = s_x X d 175 [.sipush (-1), .jsr 18] ls st m := by
  rw [s_j, s_g_eq, g_l175]; rfl
theorem u_175_18 {X : e_X} {d : Nat} {ls st : List Value} {m : e_M} : s_j X d 175 18 ls st m = s_x X d 175 [.ireturn] ls st m := by
  rw [s_j, s_g_eq, g_l175]; rfl
/-- M.readsName -/
theorem g_l176 (l : Nat) : g_P 176 l = (g_c176.lookup l).getD [] := rfl
theorem v_176_69 {X : e_X} {d : Nat}  {I J : Nat → Int → Int} : s_S X (d + 1) 176 [.ref 69] (mm I J) = s_j X d 176 0 [.ref 69, .retAddr 0] [] (mm I J) := s_S_in rfl rfl
theorem u_176_0 {X : e_X} {d : Nat} {ls st : List Value} {m : e_M} : s_j X d 176 0 ls st m = s_x X d 176 [.aload 0, .aload 0, .getfield 648, .invokeinterface 175 2, .sipush 97, .sipush 122, .invokeinterface 172 3, .ifCond .eq 31, .aload 0, .dup, .getfield 648, .sipush 1, .iadd, .putfield 648, .goto 0] ls st m := by
  rw [s_j, s_g_eq, g_l176]; rfl
theorem u_176_31 {X : e_X} {d : Nat} {ls st : List Value} {m : e_M} : s_j X d 176 31 ls st m = s_x X d 176 [.aload 0, .sipush 101, .putfield 650, .sipush 0, .istore 1, .jsr 39] ls st m := by
  rw [s_j, s_g_eq, g_l176]; rfl
theorem u_176_39 {X : e_X} {d : Nat} {ls st : List Value} {m : e_M} : s_j X d 176 39 ls st m = s_x X d 176 [.iload 1, .sipush 18, .if_icmp .ge 71, .aload 0, .aload 0, .iload 1, .invokeinterface 177 2, .ifCond .eq 58, .iload 1, .goto 62] ls st m := by
  rw [s_j, s_g_eq, g_l176]; rfl
theorem u_176_58 {X : e_X} {d : Nat} {ls st : List Value} {m : e_M} : s_j X d 176 58 ls st m = s_x X d 176 [.aload 0, .getfield 650, .jsr 62] ls st m := by
  rw [s_j, s_g_eq, g_l176]; rfl
theorem u_176_62 {X : e_X} {d : Nat} {ls st : List Value} {m : e_M} : s_j X d 176 62 ls st m = s_x X d 176 [.putfield 650, .iinc 1 1, .goto 39] ls st m := by
  rw [s_j, s_g_eq, g_l176]; rfl
theorem u_176_71 {X : e_X} {d : Nat} {ls st : List Value} {m : e_M} : s_j X d 176 71 ls st m = s_x X d 176 [.return_] ls st m := by
  rw [s_j, s_g_eq, g_l176]; rfl
/-- M.isNameOf -/
theorem g_l177 (l : Nat) : g_P 177 l = (g_c177.lookup l).getD [] := rfl
theorem v_177_69 {X : e_X} {d : Nat} {a1 : Int32} {I J : Nat → Int → Int} : s_S X (d + 1) 177 [.ref 69, .int a1] (mm I J) = s_j X d 177 0 [.ref 69, .int a1, .retAddr 0, .retAddr 0] [] (mm I J) := s_S_in rfl rfl
theorem u_177_0 {X : e_X} {d : Nat} {ls st : List Value} {m : e_M} : s_j X d 177 0 ls st m = s_x X d 177 [.aload 0, .getfield 648, .aload 0, .getfield 649, .isub, .sipush 8, .if_icmp .gt 18, .sipush 1, .goto 19] ls st m := by
  rw [s_j, s_g_eq, g_l177]; rfl
theorem u_177_18 {X : e_X} {d : Nat} {ls st : List Value} {m : e_M} : s_j X d 177 18 ls st m = s_x X d 177 [.sipush 0, .jsr 19] ls st m := by
  rw [s_j, s_g_eq, g_l177]; rfl
theorem u_177_19 {X : e_X} {d : Nat} {ls st : List Value} {m : e_M} : s_j X d 177 19 ls st m = s_x X d 177 [.istore 2, .sipush 0, .istore 3, .jsr 22] ls st m := by
  rw [s_j, s_g_eq, g_l177]; rfl
theorem u_177_22 {X : e_X} {d : Nat} {ls st : List Value} {m : e_M} : s_j X d 177 22 ls st m = s_x X d 177 [.iload 3, .sipush 8, .if_icmp .ge 86, .iload 2, .ifCond .eq 86, .aload 0, .checkcast 647, .sipush 8, .iload 1, .imul, .iload 3, .iadd, .caload, .aload 0, .getfield 649, .iload 3, .iadd, .aload 0, .getfield 648, .if_icmp .ge 69, .aload 0, .aload 0, .getfield 649, .iload 3, .iadd, .invokeinterface 175 2, .goto 71] ls st m := by
  rw [s_j, s_g_eq, g_l177]; rfl
theorem u_177_69 {X : e_X} {d : Nat} {ls st : List Value} {m : e_M} : s_j X d 177 69 ls st m = s_x X d 177 [.sipush 32, .jsr 71] ls st m := by
  rw [s_j, s_g_eq, g_l177]; rfl
theorem u_177_71 {X : e_X} {d : Nat} {ls st : List Value} {m : e_M} : s_j X d 177 71 ls st m = s_x X d 177 [.if_icmp .ne 78, .sipush 1, .goto 79] ls st m := by
  rw [s_j, s_g_eq, g_l177]; rfl
theorem u_177_78 {X : e_X} {d : Nat} {ls st : List Value} {m : e_M} : s_j X d 177 78 ls st m = s_x X d 177 [.sipush 0, .jsr 79] ls st m := by
  rw [s_j, s_g_eq, g_l177]; rfl
theorem u_177_79 {X : e_X} {d : Nat} {ls st : List Value} {m : e_M} : s_j X d 177 79 ls st m = s_x X d 177 [.istore 2, .iinc 3 1, .goto 22] ls st m := by
  rw [s_j, s_g_eq, g_l177]; rfl
theorem u_177_86 {X : e_X} {d : Nat} {ls st : List Value} {m : e_M} : s_j X d 177 86 ls st m = s_x X d 177 [.iload 2, .areturn] ls st m := by
  rw [s_j, s_g_eq, g_l177]; rfl
/-- M.readsNumber -/
theorem g_l178 (l : Nat) : g_P 178 l = (g_c178.lookup l).getD [] := rfl
theorem v_178_69 {X : e_X} {d : Nat}  {I J : Nat → Int → Int} : s_S X (d + 1) 178 [.ref 69] (mm I J) = s_j X d 178 0 [.ref 69] [] (mm I J) := s_S_in rfl rfl
theorem u_178_0 {X : e_X} {d : Nat} {ls st : List Value} {m : e_M} : s_j X d 178 0 ls st m = s_x X d 178 [.aload 0, .sipush 0, .putfield 651, .jsr 5] ls st m := by
  rw [s_j, s_g_eq, g_l178]; rfl
theorem u_178_5 {X : e_X} {d : Nat} {ls st : List Value} {m : e_M} : s_j X d 178 5 ls st m = s_x X d 178 [.aload 0, .aload 0, .getfield 648, .invokeinterface 175 2, .sipush 48, .sipush 57, .invokeinterface 172 3, .ifCond .eq 79, .aload 0, .aload 0, .getfield 648, .aload 0, .getfield 649, .isub, .sipush 4, .if_icmp .ge 59, .sipush 10, .aload 0, .getfield 651, .imul, .aload 0, .aload 0, .getfield 648, .invokeinterface 175 2, .iadd, .sipush 48, .isub, .goto 63] ls st m := by
  rw [s_j, s_g_eq, g_l178]; rfl
theorem u_178_59 {X : e_X} {d : Nat} {ls st : List Value} {m : e_M} : s_j X d 178 59 ls st m = s_x X d 178 [.aload 0, .getfield 651, .jsr 63] ls st m := by
  rw [s_j, s_g_eq, g_l178]; rfl
theorem u_178_63 {X : e_X} {d : Nat} {ls st : List Value} {m : e_M} : s_j X d 178 63 ls st m = s_x X d 178 [.putfield 651, .aload 0, .dup, .getfield 648, .sipush 1, .iadd, .putfield 648, .goto 5] ls st m := by
  rw [s_j, s_g_eq, g_l178]; rfl
theorem u_178_79 {X : e_X} {d : Nat} {ls st : List Value} {m : e_M} : s_j X d 178 79 ls st m = s_x X d 178 [.aload 0, .aload 0, .getfield 648, .aload 0, .getfield 649, .isub, .sipush 4, .if_icmp .le 98, .sipush 101, .goto 100] ls st m := by
  rw [s_j, s_g_eq, g_l178]; rfl
theorem u_178_98 {X : e_X} {d : Nat} {ls st : List Value} {m : e_M} : s_j X d 178 98 ls st m = s_x X d 178 [.sipush 100, .jsr 100] ls st m := by
  rw [s_j, s_g_eq, g_l178]; rfl
theorem u_178_100 {X : e_X} {d : Nat} {ls st : List Value} {m : e_M} : s_j X d 178 100 ls st m = s_x X d 178 [.putfield 650, .return_] ls st m := by
  rw [s_j, s_g_eq, g_l178]; rfl
/-- M.readsRule -/
theorem g_l179 (l : Nat) : g_P 179 l = (g_c179.lookup l).getD [] := rfl
theorem v_179_69 {X : e_X} {d : Nat} {a1 : Int32} {I J : Nat → Int → Int} : s_S X (d + 1) 179 [.ref 69, .int a1] (mm I J) = s_j X d 179 0 [.ref 69, .int a1] [] (mm I J) := s_S_in rfl rfl
theorem u_179_0 {X : e_X} {d : Nat} {ls st : List Value} {m : e_M} : s_j X d 179 0 ls st m = s_x X d 179 [.iload 1, .sipush 8, .if_icmp .eq 18, .aload 0, .getfield 650, .sipush 0, .sipush 5, .invokeinterface 172 3, .ifCond .ne 20, .jsr 18] ls st m := by
  rw [s_j, s_g_eq, g_l179]; rfl
theorem u_179_18 {X : e_X} {d : Nat} {ls st : List Value} {m : e_M} : s_j X d 179 18 ls st m = s_x X d 179 [.sipush 0, .areturn] ls st m := by
  rw [s_j, s_g_eq, g_l179]; rfl
theorem u_179_20 {X : e_X} {d : Nat} {ls st : List Value} {m : e_M} : s_j X d 179 20 ls st m = s_x X d 179 [.aload 0, .checkcast 655, .sipush 3, .iload 1, .imul, .aload 0, .getfield 650, .iastore, .aload 0, .invokeinterface 174 1, .aload 0, .sipush 0, .putfield 652, .aload 0, .sipush 9, .invokeinterface 180 2, .ifCond .eq 59, .aload 0, .invokeinterface 181 1, .ifCond .ne 59, .sipush 0, .areturn] ls st m := by
  rw [s_j, s_g_eq, g_l179]; rfl
theorem u_179_59 {X : e_X} {d : Nat} {ls st : List Value} {m : e_M} : s_j X d 179 59 ls st m = s_x X d 179 [.aload 0, .getfield 650, .sipush 6, .sipush 8, .invokeinterface 172 3, .ifCond .ne 75, .sipush 0, .areturn] ls st m := by
  rw [s_j, s_g_eq, g_l179]; rfl
theorem u_179_75 {X : e_X} {d : Nat} {ls st : List Value} {m : e_M} : s_j X d 179 75 ls st m = s_x X d 179 [.aload 0, .checkcast 655, .sipush 3, .iload 1, .imul, .sipush 1, .iadd, .aload 0, .getfield 650, .sipush 6, .isub, .iastore, .aload 0, .checkcast 655, .sipush 3, .iload 1, .imul, .sipush 2, .iadd, .aload 0, .getfield 653, .iastore, .aload 0, .invokeinterface 174 1, .aload 0, .sipush 259, .invokeinterface 180 2, .areturn] ls st m := by
  rw [s_j, s_g_eq, g_l179]; rfl
/-- M.takes -/
theorem g_l180 (l : Nat) : g_P 180 l = (g_c180.lookup l).getD [] := rfl
theorem v_180_69 {X : e_X} {d : Nat} {a1 : Int32} {I J : Nat → Int → Int} : s_S X (d + 1) 180 [.ref 69, .int a1] (mm I J) = s_j X d 180 0 [.ref 69, .int a1, .retAddr 0] [] (mm I J) := s_S_in rfl rfl
theorem u_180_0 {X : e_X} {d : Nat} {ls st : List Value} {m : e_M} : s_j X d 180 0 ls st m = s_x X d 180 [.aload 0, .getfield 650, .iload 1, .if_icmp .ne 12, .sipush 1, .goto 13] ls st m := by
  rw [s_j, s_g_eq, g_l180]; rfl
theorem u_180_12 {X : e_X} {d : Nat} {ls st : List Value} {m : e_M} : s_j X d 180 12 ls st m = s_x X d 180 [.sipush 0, .jsr 13] ls st m := by
  rw [s_j, s_g_eq, g_l180]; rfl
theorem u_180_13 {X : e_X} {d : Nat} {ls st : List Value} {m : e_M} : s_j X d 180 13 ls st m = s_x X d 180 [.istore 2, .iload 2, .ifCond .eq 22, .aload 0, .invokeinterface 174 1, .jsr 22] ls st m := by
  rw [s_j, s_g_eq, g_l180]; rfl
theorem u_180_22 {X : e_X} {d : Nat} {ls st : List Value} {m : e_M} : s_j X d 180 22 ls st m = s_x X d 180 [.iload 2, .areturn] ls st m := by
  rw [s_j, s_g_eq, g_l180]; rfl
/-- M.readsCondition -/
theorem g_l181 (l : Nat) : g_P 181 l = (g_c181.lookup l).getD [] := rfl
theorem v_181_69 {X : e_X} {d : Nat}  {I J : Nat → Int → Int} : s_S X (d + 1) 181 [.ref 69] (mm I J) = s_j X d 181 0 [.ref 69, .retAddr 0] [] (mm I J) := s_S_in rfl rfl
theorem u_181_0 {X : e_X} {d : Nat} {ls st : List Value} {m : e_M} : s_j X d 181 0 ls st m = s_x X d 181 [.aload 0, .invokeinterface 182 1, .istore 1, .jsr 5] ls st m := by
  rw [s_j, s_g_eq, g_l181]; rfl
theorem u_181_5 {X : e_X} {d : Nat} {ls st : List Value} {m : e_M} : s_j X d 181 5 ls st m = s_x X d 181 [.iload 1, .ifCond .eq 37, .aload 0, .sipush 12, .invokeinterface 180 2, .ifCond .eq 37, .aload 0, .invokeinterface 182 1, .istore 1, .iload 1, .ifCond .eq 5, .aload 0, .sipush 10014, .invokeinterface 187 2, .goto 5] ls st m := by
  rw [s_j, s_g_eq, g_l181]; rfl
theorem u_181_37 {X : e_X} {d : Nat} {ls st : List Value} {m : e_M} : s_j X d 181 37 ls st m = s_x X d 181 [.iload 1, .areturn] ls st m := by
  rw [s_j, s_g_eq, g_l181]; rfl
/-- M.readsAll -/
theorem g_l182 (l : Nat) : g_P 182 l = (g_c182.lookup l).getD [] := rfl
theorem v_182_69 {X : e_X} {d : Nat}  {I J : Nat → Int → Int} : s_S X (d + 1) 182 [.ref 69] (mm I J) = s_j X d 182 0 [.ref 69, .retAddr 0] [] (mm I J) := s_S_in rfl rfl
theorem u_182_0 {X : e_X} {d : Nat} {ls st : List Value} {m : e_M} : s_j X d 182 0 ls st m = s_x X d 182 [.aload 0, .invokeinterface 183 1, .istore 1, .jsr 5] ls st m := by
  rw [s_j, s_g_eq, g_l182]; rfl
theorem u_182_5 {X : e_X} {d : Nat} {ls st : List Value} {m : e_M} : s_j X d 182 5 ls st m = s_x X d 182 [.iload 1, .ifCond .eq 37, .aload 0, .sipush 11, .invokeinterface 180 2, .ifCond .eq 37, .aload 0, .invokeinterface 183 1, .istore 1, .iload 1, .ifCond .eq 5, .aload 0, .sipush 10013, .invokeinterface 187 2, .goto 5] ls st m := by
  rw [s_j, s_g_eq, g_l182]; rfl
theorem u_182_37 {X : e_X} {d : Nat} {ls st : List Value} {m : e_M} : s_j X d 182 37 ls st m = s_x X d 182 [.iload 1, .areturn] ls st m := by
  rw [s_j, s_g_eq, g_l182]; rfl
/-- M.readsOne -/
theorem g_l183 (l : Nat) : g_P 183 l = (g_c183.lookup l).getD [] := rfl
theorem v_183_69 {X : e_X} {d : Nat}  {I J : Nat → Int → Int} : s_S X (d + 1) 183 [.ref 69] (mm I J) = s_j X d 183 0 [.ref 69, .retAddr 0, .retAddr 0, .retAddr 0] [] (mm I J) := s_S_in rfl rfl
theorem u_183_0 {X : e_X} {d : Nat} {ls st : List Value} {m : e_M} : s_j X d 183 0 ls st m = s_x X d 183 [.sipush 0, .istore 1, .jsr 2] ls st m := by
  rw [s_j, s_g_eq, g_l183]; rfl
theorem u_183_2 {X : e_X} {d : Nat} {ls st : List Value} {m : e_M} : s_j X d 183 2 ls st m = s_x X d 183 [.aload 0, .sipush 10, .invokeinterface 180 2, .ifCond .eq 17, .iinc 1 1, .goto 2] ls st m := by
  rw [s_j, s_g_eq, g_l183]; rfl
theorem u_183_17 {X : e_X} {d : Nat} {ls st : List Value} {m : e_M} : s_j X d 183 17 ls st m = s_x X d 183 [.aload 0, .getfield 650, .sipush 240, .if_icmp .ne 34, .aload 0, .invokeinterface 184 1, .goto 38] ls st m := by
  rw [s_j, s_g_eq, g_l183]; rfl
theorem u_183_34 {X : e_X} {d : Nat} {ls st : List Value} {m : e_M} : s_j X d 183 34 ls st m = s_x X d 183 [.aload 0, .invokeinterface 185 1, .jsr 38] ls st m := by
  rw [s_j, s_g_eq, g_l183]; rfl
theorem u_183_38 {X : e_X} {d : Nat} {ls st : List Value} {m : e_M} : s_j X d 183 38 ls st m = s_x X d 183 [.istore 2, .sipush 0, .istore 3, .jsr 41] ls st m := by
  rw [s_j, s_g_eq, g_l183]; rfl
theorem u_183_41 {X : e_X} {d : Nat} {ls st : List Value} {m : e_M} : s_j X d 183 41 ls st m = s_x X d 183 [.iload 3, .iload 1, .if_icmp .ge 63, .iload 2, .ifCond .eq 63, .aload 0, .sipush 10015, .invokeinterface 187 2, .iinc 3 1, .goto 41] ls st m := by
  rw [s_j, s_g_eq, g_l183]; rfl
theorem u_183_63 {X : e_X} {d : Nat} {ls st : List Value} {m : e_M} : s_j X d 183 63 ls st m = s_x X d 183 [.iload 2, .areturn] ls st m := by
  rw [s_j, s_g_eq, g_l183]; rfl
/-- M.readsWithin -/
theorem g_l184 (l : Nat) : g_P 184 l = (g_c184.lookup l).getD [] := rfl
theorem v_184_69 {X : e_X} {d : Nat}  {I J : Nat → Int → Int} : s_S X (d + 1) 184 [.ref 69] (mm I J) = s_j X d 184 0 [.ref 69] [] (mm I J) := s_S_in rfl rfl
theorem u_184_0 {X : e_X} {d : Nat} {ls st : List Value} {m : e_M} : s_j X d 184 0 ls st m = s_x X d 184 [.aload 0, .getfield 652, .sipush 3, .if_icmp .ne 10, .sipush 0, .areturn] ls st m := by
  rw [s_j, s_g_eq, g_l184]; rfl
theorem u_184_10 {X : e_X} {d : Nat} {ls st : List Value} {m : e_M} : s_j X d 184 10 ls st m = s_x X d 184 [.aload 0, .dup, .getfield 652, .sipush 1, .iadd, .putfield 652, .aload 0, .invokeinterface 174 1, .aload 0, .invokeinterface 181 1, .ifCond .eq 41, .aload 0, .sipush 241, .invokeinterface 180 2, .ifCond .ne 43, .jsr 41] ls st m := by
  rw [s_j, s_g_eq, g_l184]; rfl
theorem u_184_41 {X : e_X} {d : Nat} {ls st : List Value} {m : e_M} : s_j X d 184 41 ls st m = s_x X d 184 [.sipush 0, .areturn] ls st m := by
  rw [s_j, s_g_eq, g_l184]; rfl
theorem u_184_43 {X : e_X} {d : Nat} {ls st : List Value} {m : e_M} : s_j X d 184 43 ls st m = s_x X d 184 [.aload 0, .dup, .getfield 652, .sipush 1, .isub, .putfield 652, .sipush 1, .areturn] ls st m := by
  rw [s_j, s_g_eq, g_l184]; rfl
/-- M.readsLike -/
theorem g_l185 (l : Nat) : g_P 185 l = (g_c185.lookup l).getD [] := rfl
theorem v_185_69 {X : e_X} {d : Nat}  {I J : Nat → Int → Int} : s_S X (d + 1) 185 [.ref 69] (mm I J) = s_j X d 185 0 [.ref 69, .retAddr 0] [] (mm I J) := s_S_in rfl rfl
theorem u_185_0 {X : e_X} {d : Nat} {ls st : List Value} {m : e_M} : s_j X d 185 0 ls st m = s_x X d 185 [.aload 0, .invokeinterface 186 1, .ifCond .ne 9, .sipush 0, .areturn] ls st m := by
  rw [s_j, s_g_eq, g_l185]; rfl
theorem u_185_9 {X : e_X} {d : Nat} {ls st : List Value} {m : e_M} : s_j X d 185 9 ls st m = s_x X d 185 [.aload 0, .getfield 650, .sipush 260, .if_icmp .ne 25, .sipush 10010, .goto 58] ls st m := by
  rw [s_j, s_g_eq, g_l185]; rfl
theorem u_185_25 {X : e_X} {d : Nat} {ls st : List Value} {m : e_M} : s_j X d 185 25 ls st m = s_x X d 185 [.aload 0, .getfield 650, .sipush 261, .if_icmp .ne 41, .sipush 10011, .goto 58] ls st m := by
  rw [s_j, s_g_eq, g_l185]; rfl
theorem u_185_41 {X : e_X} {d : Nat} {ls st : List Value} {m : e_M} : s_j X d 185 41 ls st m = s_x X d 185 [.aload 0, .getfield 650, .sipush 262, .if_icmp .ne 57, .sipush 10012, .goto 58] ls st m := by
  rw [s_j, s_g_eq, g_l185]; rfl
theorem u_185_57 {X : e_X} {d : Nat} {ls st : List Value} {m : e_M} : s_j X d 185 57 ls st m = s_x X d 185 [.sipush 0, .jsr 58] ls st m := by
  rw [s_j, s_g_eq, g_l185]; rfl
theorem u_185_58 {X : e_X} {d : Nat} {ls st : List Value} {m : e_M} : s_j X d 185 58 ls st m = s_x X d 185 [.istore 1, .iload 1, .ifCond .ne 65, .sipush 0, .areturn] ls st m := by
  rw [s_j, s_g_eq, g_l185]; rfl
theorem u_185_65 {X : e_X} {d : Nat} {ls st : List Value} {m : e_M} : s_j X d 185 65 ls st m = s_x X d 185 [.aload 0, .invokeinterface 174 1, .aload 0, .invokeinterface 186 1, .ifCond .ne 78, .sipush 0, .areturn] ls st m := by
  rw [s_j, s_g_eq, g_l185]; rfl
theorem u_185_78 {X : e_X} {d : Nat} {ls st : List Value} {m : e_M} : s_j X d 185 78 ls st m = s_x X d 185 [.aload 0, .iload 1, .invokeinterface 187 2, .sipush 1, .areturn] ls st m := by
  rw [s_j, s_g_eq, g_l185]; rfl
/-- M.readsValue -/
theorem g_l186 (l : Nat) : g_P 186 l = (g_c186.lookup l).getD [] := rfl
theorem v_186_69 {X : e_X} {d : Nat}  {I J : Nat → Int → Int} : s_S X (d + 1) 186 [.ref 69] (mm I J) = s_j X d 186 0 [.ref 69, .retAddr 0] [] (mm I J) := s_S_in rfl rfl
theorem u_186_0 {X : e_X} {d : Nat} {ls st : List Value} {m : e_M} : s_j X d 186 0 ls st m = s_x X d 186 [.aload 0, .getfield 650, .sipush 100, .if_icmp .eq 23, .aload 0, .getfield 650, .sipush 13, .sipush 17, .invokeinterface 172 3, .ifCond .eq 27, .jsr 23] ls st m := by
  rw [s_j, s_g_eq, g_l186]; rfl
theorem u_186_23 {X : e_X} {d : Nat} {ls st : List Value} {m : e_M} : s_j X d 186 23 ls st m = s_x X d 186 [.sipush 1, .goto 28] ls st m := by
  rw [s_j, s_g_eq, g_l186]; rfl
theorem u_186_27 {X : e_X} {d : Nat} {ls st : List Value} {m : e_M} : s_j X d 186 27 ls st m = s_x X d 186 [.sipush 0, .jsr 28] ls st m := by
  rw [s_j, s_g_eq, g_l186]; rfl
theorem u_186_28 {X : e_X} {d : Nat} {ls st : List Value} {m : e_M} : s_j X d 186 28 ls st m = s_x X d 186 [.istore 1, .iload 1, .ifCond .eq 68, .aload 0, .aload 0, .getfield 650, .sipush 100, .if_icmp .ne 50, .aload 0, .getfield 651, .goto 61] ls st m := by
  rw [s_j, s_g_eq, g_l186]; rfl
theorem u_186_50 {X : e_X} {d : Nat} {ls st : List Value} {m : e_M} : s_j X d 186 50 ls st m = s_x X d 186 [.sipush 10000, .aload 0, .getfield 650, .iadd, .sipush 13, .isub, .jsr 61] ls st m := by
  rw [s_j, s_g_eq, g_l186]; rfl
theorem u_186_61 {X : e_X} {d : Nat} {ls st : List Value} {m : e_M} : s_j X d 186 61 ls st m = s_x X d 186 [.invokeinterface 187 2, .aload 0, .invokeinterface 174 1, .jsr 68] ls st m := by
  rw [s_j, s_g_eq, g_l186]; rfl
theorem u_186_68 {X : e_X} {d : Nat} {ls st : List Value} {m : e_M} : s_j X d 186 68 ls st m = s_x X d 186 [.iload 1, .areturn] ls st m := by
  rw [s_j, s_g_eq, g_l186]; rfl
/-- M.lays -/
theorem g_l187 (l : Nat) : g_P 187 l = (g_c187.lookup l).getD [] := rfl
theorem v_187_69 {X : e_X} {d : Nat} {a1 : Int32} {I J : Nat → Int → Int} : s_S X (d + 1) 187 [.ref 69, .int a1] (mm I J) = s_j X d 187 0 [.ref 69, .int a1] [] (mm I J) := s_S_in rfl rfl
theorem u_187_0 {X : e_X} {d : Nat} {ls st : List Value} {m : e_M} : s_j X d 187 0 ls st m = s_x X d 187 [.aload 0, .checkcast 654, .aload 0, .getfield 653, .iload 1, .iastore, .aload 0, .dup, .getfield 653, .sipush 1, .iadd, .putfield 653, .return_] ls st m := by
  rw [s_j, s_g_eq, g_l187]; rfl
/-- M.plate -/
theorem g_l188 (l : Nat) : g_P 188 l = (g_c188.lookup l).getD [] := rfl
theorem v_188_69 {X : e_X} {d : Nat} {a1 : Int32} {a2 : Int32} {a3 : Int32} {a4 : Int32} {I J : Nat → Int → Int} : s_S X (d + 1) 188 [.ref 69, .int a1, .int a2, .int a3, .int a4] (mm I J) = s_j X d 188 0 [.ref 69, .int a1, .int a2, .int a3, .int a4, .retAddr 0] [] (mm I J) := s_S_in rfl rfl
theorem u_188_0 {X : e_X} {d : Nat} {ls st : List Value} {m : e_M} : s_j X d 188 0 ls st m = s_x X d 188 [.iload 1, .sipush 1, .sipush 5, .invokeinterface 172 3, .ifCond .eq 31, .iload 2, .invokeinterface 189 1, .ifCond .eq 31, .iload 3, .invokeinterface 190 1, .ifCond .eq 31, .iload 4, .invokeinterface 191 1, .ifCond .ne 33, .jsr 31] ls st m := by
  rw [s_j, s_g_eq, g_l188]; rfl
theorem u_188_31 {X : e_X} {d : Nat} {ls st : List Value} {m : e_M} : s_j X d 188 31 ls st m = s_x X d 188 [.sipush (-1), .ireturn] ls st m := by
  rw [s_j, s_g_eq, g_l188]; rfl
theorem u_188_33 {X : e_X} {d : Nat} {ls st : List Value} {m : e_M} : s_j X d 188 33 ls st m = s_x X d 188 [.aload 0, .checkcast 640, .sipush 6, .iaload, .sipush 6, .if_icmp .ne 48, .sipush (-2), .ireturn] ls st m := by
  rw [s_j, s_g_eq, g_l188]; rfl
theorem u_188_48 {X : e_X} {d : Nat} {ls st : List Value} {m : e_M} : s_j X d 188 48 ls st m = s_x X d 188 [.aload 0, .checkcast 640, .sipush 6, .iaload, .istore 5, .aload 0, .iload 5, .sipush 0, .iload 1, .invokeinterface 192 4, .aload 0, .iload 5, .sipush 1, .iload 2, .invokeinterface 192 4, .aload 0, .iload 5, .sipush 2, .iload 3, .invokeinterface 192 4, .aload 0, .iload 5, .sipush 3, .iload 4, .invokeinterface 192 4, .aload 0, .iload 5, .sipush 4, .sipush 0, .invokeinterface 192 4, .aload 0, .checkcast 640, .sipush 6, .dup2, .iaload, .sipush 1, .iadd, .iastore, .iload 5, .ireturn] ls st m := by
  rw [s_j, s_g_eq, g_l188]; rfl
/-- M.isFirst -/
theorem g_l189 (l : Nat) : g_P 189 l = (g_c189.lookup l).getD [] := rfl
theorem v_189 {X : e_X} {d : Nat} {a0 : Int32} {I J : Nat → Int → Int} : s_S X (d + 1) 189 [.int a0] (mm I J) = s_j X d 189 0 [.int a0] [] (mm I J) := s_S_in rfl rfl
theorem u_189_0 {X : e_X} {d : Nat} {ls st : List Value} {m : e_M} : s_j X d 189 0 ls st m = s_x X d 189 [.iload 0, .sipush 0, .sipush 39, .invokeinterface 172 3, .areturn] ls st m := by
  rw [s_j, s_g_eq, g_l189]; rfl
/-- M.isDigit -/
theorem g_l190 (l : Nat) : g_P 190 l = (g_c190.lookup l).getD [] := rfl
theorem v_190 {X : e_X} {d : Nat} {a0 : Int32} {I J : Nat → Int → Int} : s_S X (d + 1) 190 [.int a0] (mm I J) = s_j X d 190 0 [.int a0] [] (mm I J) := s_S_in rfl rfl
theorem u_190_0 {X : e_X} {d : Nat} {ls st : List Value} {m : e_M} : s_j X d 190 0 ls st m = s_x X d 190 [.iload 0, .sipush 0, .sipush 9, .invokeinterface 172 3, .areturn] ls st m := by
  rw [s_j, s_g_eq, g_l190]; rfl
/-- M.isHome -/
theorem g_l191 (l : Nat) : g_P 191 l = (g_c191.lookup l).getD [] := rfl
theorem v_191 {X : e_X} {d : Nat} {a0 : Int32} {I J : Nat → Int → Int} : s_S X (d + 1) 191 [.int a0] (mm I J) = s_j X d 191 0 [.int a0] [] (mm I J) := s_S_in rfl rfl
theorem u_191_0 {X : e_X} {d : Nat} {ls st : List Value} {m : e_M} : s_j X d 191 0 ls st m = s_x X d 191 [.iload 0, .sipush 0, .sipush 5, .invokeinterface 172 3, .areturn] ls st m := by
  rw [s_j, s_g_eq, g_l191]; rfl
/-- M.puts -/
theorem g_l192 (l : Nat) : g_P 192 l = (g_c192.lookup l).getD [] := rfl
theorem v_192_69 {X : e_X} {d : Nat} {a1 : Int32} {a2 : Int32} {a3 : Int32} {I J : Nat → Int → Int} : s_S X (d + 1) 192 [.ref 69, .int a1, .int a2, .int a3] (mm I J) = s_j X d 192 0 [.ref 69, .int a1, .int a2, .int a3] [] (mm I J) := s_S_in rfl rfl
theorem u_192_0 {X : e_X} {d : Nat} {ls st : List Value} {m : e_M} : s_j X d 192 0 ls st m = s_x X d 192 [.aload 0, .checkcast 640, .sipush 38, .sipush 6, .iload 1, .imul, .iadd, .iload 2, .iadd, .iload 3, .iastore, .return_] ls st m := by
  rw [s_j, s_g_eq, g_l192]; rfl
/-- M.plateOf -/
theorem g_l193 (l : Nat) : g_P 193 l = (g_c193.lookup l).getD [] := rfl
theorem v_193_69 {X : e_X} {d : Nat} {a1 : Int32} {a2 : Int32} {I J : Nat → Int → Int} : s_S X (d + 1) 193 [.ref 69, .int a1, .int a2] (mm I J) = s_j X d 193 0 [.ref 69, .int a1, .int a2] [] (mm I J) := s_S_in rfl rfl
theorem u_193_0 {X : e_X} {d : Nat} {ls st : List Value} {m : e_M} : s_j X d 193 0 ls st m = s_x X d 193 [.aload 0, .iload 1, .invokeinterface 194 2, .ifCond .eq 18, .iload 2, .sipush 0, .sipush 8, .invokeinterface 172 3, .ifCond .ne 20, .jsr 18] ls st m := by
  rw [s_j, s_g_eq, g_l193]; rfl
theorem u_193_18 {X : e_X} {d : Nat} {ls st : List Value} {m : e_M} : s_j X d 193 18 ls st m = s_x X d 193 [.sipush (-1), .ireturn] ls st m := by
  rw [s_j, s_g_eq, g_l193]; rfl
theorem u_193_20 {X : e_X} {d : Nat} {ls st : List Value} {m : e_M} : s_j X d 193 20 ls st m = s_x X d 193 [.iload 2, .lookupswitch 84 #[(5, 52), (6, 58), (7, 64), (8, 78)]] ls st m := by
  rw [s_j, s_g_eq, g_l193]; rfl
theorem u_193_52 {X : e_X} {d : Nat} {ls st : List Value} {m : e_M} : s_j X d 193 52 ls st m = s_x X d 193 [.aload 0, .iload 1, .invokeinterface 195 2, .ireturn] ls st m := by
  rw [s_j, s_g_eq, g_l193]; rfl
theorem u_193_58 {X : e_X} {d : Nat} {ls st : List Value} {m : e_M} : s_j X d 193 58 ls st m = s_x X d 193 [.aload 0, .iload 1, .invokeinterface 198 2, .ireturn] ls st m := by
  rw [s_j, s_g_eq, g_l193]; rfl
theorem u_193_64 {X : e_X} {d : Nat} {ls st : List Value} {m : e_M} : s_j X d 193 64 ls st m = s_x X d 193 [.aload 0, .iload 1, .invokeinterface 199 2, .ifCond .eq 76, .sipush 1, .goto 77] ls st m := by
  rw [s_j, s_g_eq, g_l193]; rfl
theorem u_193_76 {X : e_X} {d : Nat} {ls st : List Value} {m : e_M} : s_j X d 193 76 ls st m = s_x X d 193 [.sipush 0, .jsr 77] ls st m := by
  rw [s_j, s_g_eq, g_l193]; rfl
theorem u_193_77 {X : e_X} {d : Nat} {ls st : List Value} {m : e_M} : s_j X d 193 77 ls st m = s_x X d 193 [.ireturn] ls st m := by
  rw [s_j, s_g_eq, g_l193]; rfl
theorem u_193_78 {X : e_X} {d : Nat} {ls st : List Value} {m : e_M} : s_j X d 193 78 ls st m = s_x X d 193 [.aload 0, .iload 1, .invokeinterface 200 2, .ireturn] ls st m := by
  rw [s_j, s_g_eq, g_l193]; rfl
theorem u_193_84 {X : e_X} {d : Nat} {ls st : List Value} {m : e_M} : s_j X d 193 84 ls st m = s_x X d 193 [.aload 0, .iload 1, .iload 2, .invokeinterface 196 3, .ireturn] ls st m := by
  rw [s_j, s_g_eq, g_l193]; rfl
/-- M.isPiece -/
theorem g_l194 (l : Nat) : g_P 194 l = (g_c194.lookup l).getD [] := rfl
theorem v_194_69 {X : e_X} {d : Nat} {a1 : Int32} {I J : Nat → Int → Int} : s_S X (d + 1) 194 [.ref 69, .int a1] (mm I J) = s_j X d 194 0 [.ref 69, .int a1] [] (mm I J) := s_S_in rfl rfl
theorem u_194_0 {X : e_X} {d : Nat} {ls st : List Value} {m : e_M} : s_j X d 194 0 ls st m = s_x X d 194 [.iload 1, .sipush 0, .aload 0, .checkcast 640, .sipush 6, .iaload, .sipush 1, .isub, .invokeinterface 172 3, .areturn] ls st m := by
  rw [s_j, s_g_eq, g_l194]; rfl
/-- M.spansOf -/
theorem g_l195 (l : Nat) : g_P 195 l = (g_c195.lookup l).getD [] := rfl
theorem v_195_69 {X : e_X} {d : Nat} {a1 : Int32} {I J : Nat → Int → Int} : s_S X (d + 1) 195 [.ref 69, .int a1] (mm I J) = s_j X d 195 0 [.ref 69, .int a1] [] (mm I J) := s_S_in rfl rfl
theorem u_195_0 {X : e_X} {d : Nat} {ls st : List Value} {m : e_M} : s_j X d 195 0 ls st m = s_x X d 195 [.aload 0, .iload 1, .sipush 0, .invokeinterface 196 3, .aload 0, .iload 1, .sipush 2, .invokeinterface 196 3, .aload 0, .checkcast 640, .sipush 0, .iaload, .invokeinterface 197 3, .ireturn] ls st m := by
  rw [s_j, s_g_eq, g_l195]; rfl
/-- M.get -/
theorem g_l196 (l : Nat) : g_P 196 l = (g_c196.lookup l).getD [] := rfl
theorem v_196_69 {X : e_X} {d : Nat} {a1 : Int32} {a2 : Int32} {I J : Nat → Int → Int} : s_S X (d + 1) 196 [.ref 69, .int a1, .int a2] (mm I J) = s_j X d 196 0 [.ref 69, .int a1, .int a2] [] (mm I J) := s_S_in rfl rfl
theorem u_196_0 {X : e_X} {d : Nat} {ls st : List Value} {m : e_M} : s_j X d 196 0 ls st m = s_x X d 196 [.aload 0, .checkcast 640, .sipush 38, .sipush 6, .iload 1, .imul, .iadd, .iload 2, .iadd, .iaload, .ireturn] ls st m := by
  rw [s_j, s_g_eq, g_l196]; rfl
/-- M.spansBy -/
theorem g_l197 (l : Nat) : g_P 197 l = (g_c197.lookup l).getD [] := rfl
theorem v_197 {X : e_X} {d : Nat} {a0 : Int32} {a1 : Int32} {a2 : Int32} {I J : Nat → Int → Int} : s_S X (d + 1) 197 [.int a0, .int a1, .int a2] (mm I J) = s_j X d 197 0 [.int a0, .int a1, .int a2, .retAddr 0, .retAddr 0] [] (mm I J) := s_S_in rfl rfl
theorem u_197_0 {X : e_X} {d : Nat} {ls st : List Value} {m : e_M} : s_j X d 197 0 ls st m = s_x X d 197 [.sipush 1, .iload 1, .sipush 2, .idiv, .iadd, .istore 3, .iload 3, .sipush 2, .if_icmp .le 15, .sipush 2, .goto 16] ls st m := by
  rw [s_j, s_g_eq, g_l197]; rfl
theorem u_197_15 {X : e_X} {d : Nat} {ls st : List Value} {m : e_M} : s_j X d 197 15 ls st m = s_x X d 197 [.iload 3, .jsr 16] ls st m := by
  rw [s_j, s_g_eq, g_l197]; rfl
theorem u_197_16 {X : e_X} {d : Nat} {ls st : List Value} {m : e_M} : s_j X d 197 16 ls st m = s_x X d 197 [.istore 4, .iload 0, .lookupswitch 91 #[(1, 52), (2, 56), (3, 60), (4, 75), (5, 78)]] ls st m := by
  rw [s_j, s_g_eq, g_l197]; rfl
theorem u_197_52 {X : e_X} {d : Nat} {ls st : List Value} {m : e_M} : s_j X d 197 52 ls st m = s_x X d 197 [.sipush 2, .iload 3, .imul, .ireturn] ls st m := by
  rw [s_j, s_g_eq, g_l197]; rfl
theorem u_197_56 {X : e_X} {d : Nat} {ls st : List Value} {m : e_M} : s_j X d 197 56 ls st m = s_x X d 197 [.iload 3, .sipush 2, .iadd, .ireturn] ls st m := by
  rw [s_j, s_g_eq, g_l197]; rfl
theorem u_197_60 {X : e_X} {d : Nat} {ls st : List Value} {m : e_M} : s_j X d 197 60 ls st m = s_x X d 197 [.iload 2, .sipush 2, .irem, .sipush 1, .if_icmp .ne 71, .sipush 1, .goto 74] ls st m := by
  rw [s_j, s_g_eq, g_l197]; rfl
theorem u_197_71 {X : e_X} {d : Nat} {ls st : List Value} {m : e_M} : s_j X d 197 71 ls st m = s_x X d 197 [.iload 3, .sipush 2, .iadd, .jsr 74] ls st m := by
  rw [s_j, s_g_eq, g_l197]; rfl
theorem u_197_74 {X : e_X} {d : Nat} {ls st : List Value} {m : e_M} : s_j X d 197 74 ls st m = s_x X d 197 [.ireturn] ls st m := by
  rw [s_j, s_g_eq, g_l197]; rfl
theorem u_197_75 {X : e_X} {d : Nat} {ls st : List Value} {m : e_M} : s_j X d 197 75 ls st m = s_x X d 197 [.iload 4, .ireturn] ls st m := by
  rw [s_j, s_g_eq, g_l197]; rfl
theorem u_197_78 {X : e_X} {d : Nat} {ls st : List Value} {m : e_M} : s_j X d 197 78 ls st m = s_x X d 197 [.iload 2, .sipush 3, .irem, .ifCond .ne 88, .sipush 0, .goto 90] ls st m := by
  rw [s_j, s_g_eq, g_l197]; rfl
theorem u_197_88 {X : e_X} {d : Nat} {ls st : List Value} {m : e_M} : s_j X d 197 88 ls st m = s_x X d 197 [.iload 4, .jsr 90] ls st m := by
  rw [s_j, s_g_eq, g_l197]; rfl
theorem u_197_90 {X : e_X} {d : Nat} {ls st : List Value} {m : e_M} : s_j X d 197 90 ls st m = s_x X d 197 [.ireturn] ls st m := by
  rw [s_j, s_g_eq, g_l197]; rfl
theorem u_197_91 {X : e_X} {d : Nat} {ls st : List Value} {m : e_M} : s_j X d 197 91 ls st m = s_x X d 197 [.iload 3, .ireturn] ls st m := by
  rw [s_j, s_g_eq, g_l197]; rfl
/-- M.grudgeOf -/
theorem g_l198 (l : Nat) : g_P 198 l = (g_c198.lookup l).getD [] := rfl
theorem v_198_69 {X : e_X} {d : Nat} {a1 : Int32} {I J : Nat → Int → Int} : s_S X (d + 1) 198 [.ref 69, .int a1] (mm I J) = s_j X d 198 0 [.ref 69, .int a1, .retAddr 0] [] (mm I J) := s_S_in rfl rfl
theorem u_198_0 {X : e_X} {d : Nat} {ls st : List Value} {m : e_M} : s_j X d 198 0 ls st m = s_x X d 198 [.aload 0, .checkcast 640, .sipush 26, .aload 0, .iload 1, .sipush 3, .invokeinterface 196 3, .iadd, .iaload, .istore 2, .aload 0, .iload 1, .sipush 0, .invokeinterface 196 3, .lookupswitch 91 #[(1, 56), (2, 60), (3, 64), (4, 81), (5, 85)]] ls st m := by
  rw [s_j, s_g_eq, g_l198]; rfl
theorem u_198_56 {X : e_X} {d : Nat} {ls st : List Value} {m : e_M} : s_j X d 198 56 ls st m = s_x X d 198 [.iload 2, .sipush 2, .iadd, .ireturn] ls st m := by
  rw [s_j, s_g_eq, g_l198]; rfl
theorem u_198_60 {X : e_X} {d : Nat} {ls st : List Value} {m : e_M} : s_j X d 198 60 ls st m = s_x X d 198 [.iload 2, .iload 1, .iadd, .ireturn] ls st m := by
  rw [s_j, s_g_eq, g_l198]; rfl
theorem u_198_64 {X : e_X} {d : Nat} {ls st : List Value} {m : e_M} : s_j X d 198 64 ls st m = s_x X d 198 [.iload 2, .iload 1, .iadd, .sipush 3, .if_icmp .ge 75, .sipush 0, .goto 80] ls st m := by
  rw [s_j, s_g_eq, g_l198]; rfl
theorem u_198_75 {X : e_X} {d : Nat} {ls st : List Value} {m : e_M} : s_j X d 198 75 ls st m = s_x X d 198 [.iload 2, .iload 1, .iadd, .sipush 3, .isub, .jsr 80] ls st m := by
  rw [s_j, s_g_eq, g_l198]; rfl
theorem u_198_80 {X : e_X} {d : Nat} {ls st : List Value} {m : e_M} : s_j X d 198 80 ls st m = s_x X d 198 [.ireturn] ls st m := by
  rw [s_j, s_g_eq, g_l198]; rfl
theorem u_198_81 {X : e_X} {d : Nat} {ls st : List Value} {m : e_M} : s_j X d 198 81 ls st m = s_x X d 198 [.iload 2, .sipush 2, .idiv, .ireturn] ls st m := by
  rw [s_j, s_g_eq, g_l198]; rfl
theorem u_198_85 {X : e_X} {d : Nat} {ls st : List Value} {m : e_M} : s_j X d 198 85 ls st m = s_x X d 198 [.iload 2, .sipush 2, .idiv, .sipush 2, .imul, .ireturn] ls st m := by
  rw [s_j, s_g_eq, g_l198]; rfl
theorem u_198_91 {X : e_X} {d : Nat} {ls st : List Value} {m : e_M} : s_j X d 198 91 ls st m = s_x X d 198 [.iload 2, .ireturn] ls st m := by
  rw [s_j, s_g_eq, g_l198]; rfl
/-- M.wouldSit -/
theorem g_l199 (l : Nat) : g_P 199 l = (g_c199.lookup l).getD [] := rfl
theorem v_199_69 {X : e_X} {d : Nat} {a1 : Int32} {I J : Nat → Int → Int} : s_S X (d + 1) 199 [.ref 69, .int a1] (mm I J) = s_j X d 199 0 [.ref 69, .int a1] [] (mm I J) := s_S_in rfl rfl
theorem u_199_0 {X : e_X} {d : Nat} {ls st : List Value} {m : e_M} : s_j X d 199 0 ls st m = s_x X d 199 [.aload 0, .iload 1, .sipush 4, .invokeinterface 196 3, .ifCond .ne 42, .aload 0, .iload 1, .invokeinterface 198 2, .aload 0, .checkcast 640, .sipush 3, .iaload, .aload 0, .checkcast 640, .sipush 32, .aload 0, .iload 1, .sipush 3, .invokeinterface 196 3, .iadd, .iaload, .iadd, .if_icmp .gt 42, .sipush 1, .goto 43] ls st m := by
  rw [s_j, s_g_eq, g_l199]; rfl
theorem u_199_42 {X : e_X} {d : Nat} {ls st : List Value} {m : e_M} : s_j X d 199 42 ls st m = s_x X d 199 [.sipush 0, .jsr 43] ls st m := by
  rw [s_j, s_g_eq, g_l199]; rfl
theorem u_199_43 {X : e_X} {d : Nat} {ls st : List Value} {m : e_M} : s_j X d 199 43 ls st m = s_x X d 199 [.areturn] ls st m := by
  rw [s_j, s_g_eq, g_l199]; rfl
/-- M.willOf -/
theorem g_l200 (l : Nat) : g_P 200 l = (g_c200.lookup l).getD [] := rfl
theorem v_200_69 {X : e_X} {d : Nat} {a1 : Int32} {I J : Nat → Int → Int} : s_S X (d + 1) 200 [.ref 69, .int a1] (mm I J) = s_j X d 200 0 [.ref 69, .int a1, .retAddr 0] [] (mm I J) := s_S_in rfl rfl
theorem u_200_0 {X : e_X} {d : Nat} {ls st : List Value} {m : e_M} : s_j X d 200 0 ls st m = s_x X d 200 [.sipush 0, .istore 2, .jsr 2] ls st m := by
  rw [s_j, s_g_eq, g_l200]; rfl
theorem u_200_2 {X : e_X} {d : Nat} {ls st : List Value} {m : e_M} : s_j X d 200 2 ls st m = s_x X d 200 [.iload 2, .aload 0, .checkcast 640, .sipush 7, .iaload, .if_icmp .ge 53, .aload 0, .iload 1, .sipush 0, .invokeinterface 196 3, .aload 0, .iload 2, .sipush 0, .invokeinterface 201 3, .invokeinterface 202 2, .ifCond .eq 47, .aload 0, .iload 2, .iload 1, .invokeinterface 204 3, .ifCond .eq 47, .aload 0, .iload 2, .sipush 1, .invokeinterface 201 3, .ireturn] ls st m := by
  rw [s_j, s_g_eq, g_l200]; rfl
theorem u_200_47 {X : e_X} {d : Nat} {ls st : List Value} {m : e_M} : s_j X d 200 47 ls st m = s_x X d 200 [.iinc 2 1, .goto 2] ls st m := by
  rw [s_j, s_g_eq, g_l200]; rfl
theorem u_200_53 {X : e_X} {d : Nat} {ls st : List Value} {m : e_M} : s_j X d 200 53 ls st m = s_x X d 200 [.sipush 0, .ireturn] ls st m := by
  rw [s_j, s_g_eq, g_l200]; rfl
/-- M.ruleOf -/
theorem g_l201 (l : Nat) : g_P 201 l = (g_c201.lookup l).getD [] := rfl
theorem v_201_69 {X : e_X} {d : Nat} {a1 : Int32} {a2 : Int32} {I J : Nat → Int → Int} : s_S X (d + 1) 201 [.ref 69, .int a1, .int a2] (mm I J) = s_j X d 201 0 [.ref 69, .int a1, .int a2] [] (mm I J) := s_S_in rfl rfl
theorem u_201_0 {X : e_X} {d : Nat} {ls st : List Value} {m : e_M} : s_j X d 201 0 ls st m = s_x X d 201 [.aload 0, .checkcast 640, .sipush 98, .sipush 3, .iload 1, .imul, .iadd, .iload 2, .iadd, .iaload, .ireturn] ls st m := by
  rw [s_j, s_g_eq, g_l201]; rfl
/-- M.isUnder -/
theorem g_l202 (l : Nat) : g_P 202 l = (g_c202.lookup l).getD [] := rfl
theorem v_202 {X : e_X} {d : Nat} {a0 : Int32} {a1 : Int32} {I J : Nat → Int → Int} : s_S X (d + 1) 202 [.int a0, .int a1] (mm I J) = s_j X d 202 0 [.int a0, .int a1, .retAddr 0] [] (mm I J) := s_S_in rfl rfl
theorem u_202_0 {X : e_X} {d : Nat} {ls st : List Value} {m : e_M} : s_j X d 202 0 ls st m = s_x X d 202 [.iload 0, .istore 2, .jsr 2] ls st m := by
  rw [s_j, s_g_eq, g_l202]; rfl
theorem u_202_2 {X : e_X} {d : Nat} {ls st : List Value} {m : e_M} : s_j X d 202 2 ls st m = s_x X d 202 [.iload 2, .iload 1, .if_icmp .eq 19, .iload 2, .ifCond .eq 19, .iload 2, .invokeinterface 203 1, .istore 2, .goto 2] ls st m := by
  rw [s_j, s_g_eq, g_l202]; rfl
theorem u_202_19 {X : e_X} {d : Nat} {ls st : List Value} {m : e_M} : s_j X d 202 19 ls st m = s_x X d 202 [.iload 2, .iload 1, .if_icmp .ne 28, .sipush 1, .goto 29] ls st m := by
  rw [s_j, s_g_eq, g_l202]; rfl
theorem u_202_28 {X : e_X} {d : Nat} {ls st : List Value} {m : e_M} : s_j X d 202 28 ls st m = s_x X d 202 [.sipush 0, .jsr 29] ls st m := by
  rw [s_j, s_g_eq, g_l202]; rfl
theorem u_202_29 {X : e_X} {d : Nat} {ls st : List Value} {m : e_M} : s_j X d 202 29 ls st m = s_x X d 202 [.areturn] ls st m := by
  rw [s_j, s_g_eq, g_l202]; rfl
/-- M.above -/
theorem g_l203 (l : Nat) : g_P 203 l = (g_c203.lookup l).getD [] := rfl
theorem v_203 {X : e_X} {d : Nat} {a0 : Int32} {I J : Nat → Int → Int} : s_S X (d + 1) 203 [.int a0] (mm I J) = s_j X d 203 0 [.int a0] [] (mm I J) := s_S_in rfl rfl
theorem u_203_0 {X : e_X} {d : Nat} {ls st : List Value} {m : e_M} : s_j X d 203 0 ls st m = s_x X d 203 [.iload 0, .sipush 3, .if_icmp .ne 9, .sipush 2, .goto 19] ls st m := by
  rw [s_j, s_g_eq, g_l203]; rfl
theorem u_203_9 {X : e_X} {d : Nat} {ls st : List Value} {m : e_M} : s_j X d 203 9 ls st m = s_x X d 203 [.iload 0, .sipush 5, .if_icmp .ne 18, .sipush 4, .goto 19] ls st m := by
  rw [s_j, s_g_eq, g_l203]; rfl
theorem u_203_18 {X : e_X} {d : Nat} {ls st : List Value} {m : e_M} : s_j X d 203 18 ls st m = s_x X d 203 [.sipush 0, .jsr 19] ls st m := by
  rw [s_j, s_g_eq, g_l203]; rfl
theorem u_203_19 {X : e_X} {d : Nat} {ls st : List Value} {m : e_M} : s_j X d 203 19 ls st m = s_x X d 203 [.ireturn] ls st m := by
  rw [s_j, s_g_eq, g_l203]; rfl
/-- M.holdsFor -/
theorem g_l204 (l : Nat) : g_P 204 l = (g_c204.lookup l).getD [] := rfl
theorem v_204_69 {X : e_X} {d : Nat} {a1 : Int32} {a2 : Int32} {I J : Nat → Int → Int} : s_S X (d + 1) 204 [.ref 69, .int a1, .int a2] (mm I J) = s_j X d 204 0 [.ref 69, .int a1, .int a2, .retAddr 0, .retAddr 0, .retAddr 0] [] (mm I J) := s_S_in rfl rfl
theorem u_204_0 {X : e_X} {d : Nat} {ls st : List Value} {m : e_M} : s_j X d 204 0 ls st m = s_x X d 204 [.sipush 0, .istore 3, .iload 1, .ifCond .ne 10, .sipush 0, .goto 18] ls st m := by
  rw [s_j, s_g_eq, g_l204]; rfl
theorem u_204_10 {X : e_X} {d : Nat} {ls st : List Value} {m : e_M} : s_j X d 204 10 ls st m = s_x X d 204 [.aload 0, .iload 1, .sipush 1, .isub, .sipush 2, .invokeinterface 201 3, .jsr 18] ls st m := by
  rw [s_j, s_g_eq, g_l204]; rfl
theorem u_204_18 {X : e_X} {d : Nat} {ls st : List Value} {m : e_M} : s_j X d 204 18 ls st m = s_x X d 204 [.istore 4, .jsr 20] ls st m := by
  rw [s_j, s_g_eq, g_l204]; rfl
theorem u_204_20 {X : e_X} {d : Nat} {ls st : List Value} {m : e_M} : s_j X d 204 20 ls st m = s_x X d 204 [.iload 4, .aload 0, .iload 1, .sipush 2, .invokeinterface 201 3, .if_icmp .ge 152, .aload 0, .checkcast 640, .sipush 122, .iload 4, .iadd, .iaload, .istore 5, .iload 5, .sipush 10010, .if_icmp .ge 87, .aload 0, .checkcast 644, .iload 3, .iload 5, .sipush 10000, .if_icmp .ge 69, .iload 5, .goto 80] ls st m := by
  rw [s_j, s_g_eq, g_l204]; rfl
theorem u_204_69 {X : e_X} {d : Nat} {ls st : List Value} {m : e_M} : s_j X d 204 69 ls st m = s_x X d 204 [.aload 0, .iload 5, .sipush 10000, .isub, .iload 2, .invokeinterface 205 3, .jsr 80] ls st m := by
  rw [s_j, s_g_eq, g_l204]; rfl
theorem u_204_80 {X : e_X} {d : Nat} {ls st : List Value} {m : e_M} : s_j X d 204 80 ls st m = s_x X d 204 [.iastore, .iinc 3 1, .goto 146] ls st m := by
  rw [s_j, s_g_eq, g_l204]; rfl
theorem u_204_87 {X : e_X} {d : Nat} {ls st : List Value} {m : e_M} : s_j X d 204 87 ls st m = s_x X d 204 [.iload 5, .sipush 10015, .if_icmp .ne 116, .aload 0, .checkcast 644, .iload 3, .sipush 1, .isub, .sipush 1, .aload 0, .checkcast 644, .iload 3, .sipush 1, .isub, .iaload, .isub, .iastore, .goto 146] ls st m := by
  rw [s_j, s_g_eq, g_l204]; rfl
theorem u_204_116 {X : e_X} {d : Nat} {ls st : List Value} {m : e_M} : s_j X d 204 116 ls st m = s_x X d 204 [.iinc 3 (-1), .aload 0, .checkcast 644, .iload 3, .sipush 1, .isub, .iload 5, .aload 0, .checkcast 644, .iload 3, .sipush 1, .isub, .iaload, .aload 0, .checkcast 644, .iload 3, .iaload, .invokeinterface 206 3, .iastore, .jsr 146] ls st m := by
  rw [s_j, s_g_eq, g_l204]; rfl
theorem u_204_146 {X : e_X} {d : Nat} {ls st : List Value} {m : e_M} : s_j X d 204 146 ls st m = s_x X d 204 [.iinc 4 1, .goto 20] ls st m := by
  rw [s_j, s_g_eq, g_l204]; rfl
theorem u_204_152 {X : e_X} {d : Nat} {ls st : List Value} {m : e_M} : s_j X d 204 152 ls st m = s_x X d 204 [.iload 3, .ifCond .eq 165, .aload 0, .checkcast 644, .sipush 0, .iaload, .ifCond .eq 169, .jsr 165] ls st m := by
  rw [s_j, s_g_eq, g_l204]; rfl
theorem u_204_165 {X : e_X} {d : Nat} {ls st : List Value} {m : e_M} : s_j X d 204 165 ls st m = s_x X d 204 [.sipush 1, .goto 170] ls st m := by
  rw [s_j, s_g_eq, g_l204]; rfl
theorem u_204_169 {X : e_X} {d : Nat} {ls st : List Value} {m : e_M} : s_j X d 204 169 ls st m = s_x X d 204 [.sipush 0, .jsr 170] ls st m := by
  rw [s_j, s_g_eq, g_l204]; rfl
theorem u_204_170 {X : e_X} {d : Nat} {ls st : List Value} {m : e_M} : s_j X d 204 170 ls st m = s_x X d 204 [.areturn] ls st m := by
  rw [s_j, s_g_eq, g_l204]; rfl
/-- M.knownOf -/
theorem g_l205 (l : Nat) : g_P 205 l = (g_c205.lookup l).getD [] := rfl
theorem v_205_69 {X : e_X} {d : Nat} {a1 : Int32} {a2 : Int32} {I J : Nat → Int → Int} : s_S X (d + 1) 205 [.ref 69, .int a1, .int a2] (mm I J) = s_j X d 205 0 [.ref 69, .int a1, .int a2] [] (mm I J) := s_S_in rfl rfl
theorem u_205_0 {X : e_X} {d : Nat} {ls st : List Value} {m : e_M} : s_j X d 205 0 ls st m = s_x X d 205 [.iload 1, .ifCond .ne 13, .aload 0, .checkcast 640, .sipush 0, .iaload, .goto 55] ls st m := by
  rw [s_j, s_g_eq, g_l205]; rfl
theorem u_205_13 {X : e_X} {d : Nat} {ls st : List Value} {m : e_M} : s_j X d 205 13 ls st m = s_x X d 205 [.iload 1, .sipush 1, .if_icmp .ne 27, .aload 0, .iload 2, .sipush 2, .invokeinterface 196 3, .goto 55] ls st m := by
  rw [s_j, s_g_eq, g_l205]; rfl
theorem u_205_27 {X : e_X} {d : Nat} {ls st : List Value} {m : e_M} : s_j X d 205 27 ls st m = s_x X d 205 [.iload 1, .sipush 2, .if_icmp .ne 40, .aload 0, .iload 2, .invokeinterface 198 2, .goto 55] ls st m := by
  rw [s_j, s_g_eq, g_l205]; rfl
theorem u_205_40 {X : e_X} {d : Nat} {ls st : List Value} {m : e_M} : s_j X d 205 40 ls st m = s_x X d 205 [.iload 1, .sipush 3, .if_icmp .ne 54, .aload 0, .checkcast 640, .sipush 3, .iaload, .goto 55] ls st m := by
  rw [s_j, s_g_eq, g_l205]; rfl
theorem u_205_54 {X : e_X} {d : Nat} {ls st : List Value} {m : e_M} : s_j X d 205 54 ls st m = s_x X d 205 [.iload 2, .jsr 55] ls st m := by
  rw [s_j, s_g_eq, g_l205]; rfl
theorem u_205_55 {X : e_X} {d : Nat} {ls st : List Value} {m : e_M} : s_j X d 205 55 ls st m = s_x X d 205 [.ireturn] ls st m := by
  rw [s_j, s_g_eq, g_l205]; rfl
/-- M.joined -/
theorem g_l206 (l : Nat) : g_P 206 l = (g_c206.lookup l).getD [] := rfl
theorem v_206 {X : e_X} {d : Nat} {a0 : Int32} {a1 : Int32} {a2 : Int32} {I J : Nat → Int → Int} : s_S X (d + 1) 206 [.int a0, .int a1, .int a2] (mm I J) = s_j X d 206 0 [.int a0, .int a1, .int a2] [] (mm I J) := s_S_in rfl rfl
theorem u_206_0 {X : e_X} {d : Nat} {ls st : List Value} {m : e_M} : s_j X d 206 0 ls st m = s_x X d 206 [.iload 0, .lookupswitch 79 #[(10010, 32), (10011, 43), (10012, 54), (10013, 65)]] ls st m := by
  rw [s_j, s_g_eq, g_l206]; rfl
theorem u_206_32 {X : e_X} {d : Nat} {ls st : List Value} {m : e_M} : s_j X d 206 32 ls st m = s_x X d 206 [.iload 1, .iload 2, .if_icmp .ge 41, .sipush 1, .goto 42] ls st m := by
  rw [s_j, s_g_eq, g_l206]; rfl
theorem u_206_41 {X : e_X} {d : Nat} {ls st : List Value} {m : e_M} : s_j X d 206 41 ls st m = s_x X d 206 [.sipush 0, .jsr 42] ls st m := by
  rw [s_j, s_g_eq, g_l206]; rfl
theorem u_206_42 {X : e_X} {d : Nat} {ls st : List Value} {m : e_M} : s_j X d 206 42 ls st m = s_x X d 206 [.ireturn] ls st m := by
  rw [s_j, s_g_eq, g_l206]; rfl
theorem u_206_43 {X : e_X} {d : Nat} {ls st : List Value} {m : e_M} : s_j X d 206 43 ls st m = s_x X d 206 [.iload 1, .iload 2, .if_icmp .ne 52, .sipush 1, .goto 53] ls st m := by
  rw [s_j, s_g_eq, g_l206]; rfl
theorem u_206_52 {X : e_X} {d : Nat} {ls st : List Value} {m : e_M} : s_j X d 206 52 ls st m = s_x X d 206 [.sipush 0, .jsr 53] ls st m := by
  rw [s_j, s_g_eq, g_l206]; rfl
theorem u_206_53 {X : e_X} {d : Nat} {ls st : List Value} {m : e_M} : s_j X d 206 53 ls st m = s_x X d 206 [.ireturn] ls st m := by
  rw [s_j, s_g_eq, g_l206]; rfl
theorem u_206_54 {X : e_X} {d : Nat} {ls st : List Value} {m : e_M} : s_j X d 206 54 ls st m = s_x X d 206 [.iload 1, .iload 2, .if_icmp .le 63, .sipush 1, .goto 64] ls st m := by
  rw [s_j, s_g_eq, g_l206]; rfl
theorem u_206_63 {X : e_X} {d : Nat} {ls st : List Value} {m : e_M} : s_j X d 206 63 ls st m = s_x X d 206 [.sipush 0, .jsr 64] ls st m := by
  rw [s_j, s_g_eq, g_l206]; rfl
theorem u_206_64 {X : e_X} {d : Nat} {ls st : List Value} {m : e_M} : s_j X d 206 64 ls st m = s_x X d 206 [.ireturn] ls st m := by
  rw [s_j, s_g_eq, g_l206]; rfl
theorem u_206_65 {X : e_X} {d : Nat} {ls st : List Value} {m : e_M} : s_j X d 206 65 ls st m = s_x X d 206 [.iload 1, .ifCond .eq 77, .iload 2, .ifCond .eq 77, .sipush 1, .goto 78] ls st m := by
  rw [s_j, s_g_eq, g_l206]; rfl
theorem u_206_77 {X : e_X} {d : Nat} {ls st : List Value} {m : e_M} : s_j X d 206 77 ls st m = s_x X d 206 [.sipush 0, .jsr 78] ls st m := by
  rw [s_j, s_g_eq, g_l206]; rfl
theorem u_206_78 {X : e_X} {d : Nat} {ls st : List Value} {m : e_M} : s_j X d 206 78 ls st m = s_x X d 206 [.ireturn] ls st m := by
  rw [s_j, s_g_eq, g_l206]; rfl
theorem u_206_79 {X : e_X} {d : Nat} {ls st : List Value} {m : e_M} : s_j X d 206 79 ls st m = s_x X d 206 [.iload 1, .ifCond .ne 87, .iload 2, .ifCond .eq 91, .jsr 87] ls st m := by
  rw [s_j, s_g_eq, g_l206]; rfl
theorem u_206_87 {X : e_X} {d : Nat} {ls st : List Value} {m : e_M} : s_j X d 206 87 ls st m = s_x X d 206 [.sipush 1, .goto 92] ls st m := by
  rw [s_j, s_g_eq, g_l206]; rfl
theorem u_206_91 {X : e_X} {d : Nat} {ls st : List Value} {m : e_M} : s_j X d 206 91 ls st m = s_x X d 206 [.sipush 0, .jsr 92] ls st m := by
  rw [s_j, s_g_eq, g_l206]; rfl
theorem u_206_92 {X : e_X} {d : Nat} {ls st : List Value} {m : e_M} : s_j X d 206 92 ls st m = s_x X d 206 [.ireturn] ls st m := by
  rw [s_j, s_g_eq, g_l206]; rfl
/-- M.change -/
theorem g_l207 (l : Nat) : g_P 207 l = (g_c207.lookup l).getD [] := rfl
theorem v_207_69 {X : e_X} {d : Nat} {a1 : Int32} {a2 : Int32} {a3 : Int32} {I J : Nat → Int → Int} : s_S X (d + 1) 207 [.ref 69, .int a1, .int a2, .int a3] (mm I J) = s_j X d 207 0 [.ref 69, .int a1, .int a2, .int a3, .retAddr 0] [] (mm I J) := s_S_in rfl rfl
theorem u_207_0 {X : e_X} {d : Nat} {ls st : List Value} {m : e_M} : s_j X d 207 0 ls st m = s_x X d 207 [.iload 2, .sipush 1, .if_icmp .ne 10, .sipush 39, .goto 30] ls st m := by
  rw [s_j, s_g_eq, g_l207]; rfl
theorem u_207_10 {X : e_X} {d : Nat} {ls st : List Value} {m : e_M} : s_j X d 207 10 ls st m = s_x X d 207 [.iload 2, .sipush 3, .if_icmp .ne 19, .sipush 5, .goto 30] ls st m := by
  rw [s_j, s_g_eq, g_l207]; rfl
theorem u_207_19 {X : e_X} {d : Nat} {ls st : List Value} {m : e_M} : s_j X d 207 19 ls st m = s_x X d 207 [.iload 2, .sipush 4, .if_icmp .ne 28, .sipush 1, .goto 30] ls st m := by
  rw [s_j, s_g_eq, g_l207]; rfl
theorem u_207_28 {X : e_X} {d : Nat} {ls st : List Value} {m : e_M} : s_j X d 207 28 ls st m = s_x X d 207 [.sipush 9, .jsr 30] ls st m := by
  rw [s_j, s_g_eq, g_l207]; rfl
theorem u_207_30 {X : e_X} {d : Nat} {ls st : List Value} {m : e_M} : s_j X d 207 30 ls st m = s_x X d 207 [.istore 4, .aload 0, .iload 1, .invokeinterface 194 2, .ifCond .eq 76, .iload 2, .sipush 1, .sipush 4, .invokeinterface 172 3, .ifCond .eq 76, .iload 3, .sipush 0, .iload 4, .invokeinterface 172 3, .ifCond .eq 76, .aload 0, .sipush 38, .sipush 6, .iload 1, .imul, .iadd, .iload 2, .iadd, .iload 3, .invokeinterface 208 3, .goto 77] ls st m := by
  rw [s_j, s_g_eq, g_l207]; rfl
theorem u_207_76 {X : e_X} {d : Nat} {ls st : List Value} {m : e_M} : s_j X d 207 76 ls st m = s_x X d 207 [.sipush (-1), .jsr 77] ls st m := by
  rw [s_j, s_g_eq, g_l207]; rfl
theorem u_207_77 {X : e_X} {d : Nat} {ls st : List Value} {m : e_M} : s_j X d 207 77 ls st m = s_x X d 207 [.ireturn] ls st m := by
  rw [s_j, s_g_eq, g_l207]; rfl
/-- M.becomes -/
theorem g_l208 (l : Nat) : g_P 208 l = (g_c208.lookup l).getD [] := rfl
theorem v_208_69 {X : e_X} {d : Nat} {a1 : Int32} {a2 : Int32} {I J : Nat → Int → Int} : s_S X (d + 1) 208 [.ref 69, .int a1, .int a2] (mm I J) = s_j X d 208 0 [.ref 69, .int a1, .int a2, .retAddr 0] [] (mm I J) := s_S_in rfl rfl
theorem u_208_0 {X : e_X} {d : Nat} {ls st : List Value} {m : e_M} : s_j X d 208 0 ls st m = s_x X d 208 [.aload 0, .checkcast 640, .iload 1, .iaload, .istore 3, .aload 0, .checkcast 640, .iload 1, .iload 2, .iastore, .iload 3, .ireturn] ls st m := by
  rw [s_j, s_g_eq, g_l208]; rfl
/-- M.remake -/
theorem g_l209 (l : Nat) : g_P 209 l = (g_c209.lookup l).getD [] := rfl
theorem v_209_69 {X : e_X} {d : Nat} {a1 : Int32} {a2 : Int32} {I J : Nat → Int → Int} : s_S X (d + 1) 209 [.ref 69, .int a1, .int a2] (mm I J) = s_j X d 209 0 [.ref 69, .int a1, .int a2] [] (mm I J) := s_S_in rfl rfl
theorem u_209_0 {X : e_X} {d : Nat} {ls st : List Value} {m : e_M} : s_j X d 209 0 ls st m = s_x X d 209 [.aload 0, .iload 1, .invokeinterface 194 2, .ifCond .eq 32, .iload 2, .sipush 1, .sipush 5, .invokeinterface 172 3, .ifCond .eq 32, .aload 0, .sipush 38, .sipush 6, .iload 1, .imul, .iadd, .iload 2, .invokeinterface 208 3, .goto 33] ls st m := by
  rw [s_j, s_g_eq, g_l209]; rfl
theorem u_209_32 {X : e_X} {d : Nat} {ls st : List Value} {m : e_M} : s_j X d 209 32 ls st m = s_x X d 209 [.sipush (-1), .jsr 33] ls st m := by
  rw [s_j, s_g_eq, g_l209]; rfl
theorem u_209_33 {X : e_X} {d : Nat} {ls st : List Value} {m : e_M} : s_j X d 209 33 ls st m = s_x X d 209 [.ireturn] ls st m := by
  rw [s_j, s_g_eq, g_l209]; rfl
/-- M.news -/
theorem g_l210 (l : Nat) : g_P 210 l = (g_c210.lookup l).getD [] := rfl
theorem v_210_69 {X : e_X} {d : Nat} {a1 : Int32} {a2 : Int32} {I J : Nat → Int → Int} : s_S X (d + 1) 210 [.ref 69, .int a1, .int a2] (mm I J) = s_j X d 210 0 [.ref 69, .int a1, .int a2] [] (mm I J) := s_S_in rfl rfl
theorem u_210_0 {X : e_X} {d : Nat} {ls st : List Value} {m : e_M} : s_j X d 210 0 ls st m = s_x X d 210 [.iload 1, .sipush 0, .sipush 15, .invokeinterface 172 3, .ifCond .eq 32, .iload 2, .sipush 0, .sipush 15, .invokeinterface 172 3, .ifCond .eq 32, .aload 0, .sipush 10, .iload 1, .iadd, .iload 2, .invokeinterface 208 3, .goto 33] ls st m := by
  rw [s_j, s_g_eq, g_l210]; rfl
theorem u_210_32 {X : e_X} {d : Nat} {ls st : List Value} {m : e_M} : s_j X d 210 32 ls st m = s_x X d 210 [.sipush (-1), .jsr 33] ls st m := by
  rw [s_j, s_g_eq, g_l210]; rfl
theorem u_210_33 {X : e_X} {d : Nat} {ls st : List Value} {m : e_M} : s_j X d 210 33 ls st m = s_x X d 210 [.ireturn] ls st m := by
  rw [s_j, s_g_eq, g_l210]; rfl
/-- M.home -/
theorem g_l211 (l : Nat) : g_P 211 l = (g_c211.lookup l).getD [] := rfl
theorem v_211_69 {X : e_X} {d : Nat} {a1 : Int32} {a2 : Int32} {a3 : Int32} {I J : Nat → Int → Int} : s_S X (d + 1) 211 [.ref 69, .int a1, .int a2, .int a3] (mm I J) = s_j X d 211 0 [.ref 69, .int a1, .int a2, .int a3] [] (mm I J) := s_S_in rfl rfl
theorem u_211_0 {X : e_X} {d : Nat} {ls st : List Value} {m : e_M} : s_j X d 211 0 ls st m = s_x X d 211 [.iload 1, .invokeinterface 191 1, .ifCond .eq 44, .iload 2, .sipush 0, .sipush 1, .invokeinterface 172 3, .ifCond .eq 44, .iload 3, .invokeinterface 190 1, .ifCond .eq 44, .aload 0, .iload 2, .ifCond .ne 33, .sipush 26, .goto 35] ls st m := by
  rw [s_j, s_g_eq, g_l211]; rfl
theorem u_211_33 {X : e_X} {d : Nat} {ls st : List Value} {m : e_M} : s_j X d 211 33 ls st m = s_x X d 211 [.sipush 32, .jsr 35] ls st m := by
  rw [s_j, s_g_eq, g_l211]; rfl
theorem u_211_35 {X : e_X} {d : Nat} {ls st : List Value} {m : e_M} : s_j X d 211 35 ls st m = s_x X d 211 [.iload 1, .iadd, .iload 3, .invokeinterface 208 3, .goto 45] ls st m := by
  rw [s_j, s_g_eq, g_l211]; rfl
theorem u_211_44 {X : e_X} {d : Nat} {ls st : List Value} {m : e_M} : s_j X d 211 44 ls st m = s_x X d 211 [.sipush (-1), .jsr 45] ls st m := by
  rw [s_j, s_g_eq, g_l211]; rfl
theorem u_211_45 {X : e_X} {d : Nat} {ls st : List Value} {m : e_M} : s_j X d 211 45 ls st m = s_x X d 211 [.ireturn] ls st m := by
  rw [s_j, s_g_eq, g_l211]; rfl
/-- M.homeOf -/
theorem g_l212 (l : Nat) : g_P 212 l = (g_c212.lookup l).getD [] := rfl
theorem v_212_69 {X : e_X} {d : Nat} {a1 : Int32} {a2 : Int32} {I J : Nat → Int → Int} : s_S X (d + 1) 212 [.ref 69, .int a1, .int a2] (mm I J) = s_j X d 212 0 [.ref 69, .int a1, .int a2] [] (mm I J) := s_S_in rfl rfl
theorem u_212_0 {X : e_X} {d : Nat} {ls st : List Value} {m : e_M} : s_j X d 212 0 ls st m = s_x X d 212 [.iload 1, .invokeinterface 191 1, .ifCond .eq 37, .iload 2, .sipush 0, .sipush 1, .invokeinterface 172 3, .ifCond .eq 37, .aload 0, .checkcast 640, .iload 2, .ifCond .ne 29, .sipush 26, .goto 31] ls st m := by
  rw [s_j, s_g_eq, g_l212]; rfl
theorem u_212_29 {X : e_X} {d : Nat} {ls st : List Value} {m : e_M} : s_j X d 212 29 ls st m = s_x X d 212 [.sipush 32, .jsr 31] ls st m := by
  rw [s_j, s_g_eq, g_l212]; rfl
theorem u_212_31 {X : e_X} {d : Nat} {ls st : List Value} {m : e_M} : s_j X d 212 31 ls st m = s_x X d 212 [.iload 1, .iadd, .iaload, .goto 38] ls st m := by
  rw [s_j, s_g_eq, g_l212]; rfl
theorem u_212_37 {X : e_X} {d : Nat} {ls st : List Value} {m : e_M} : s_j X d 212 37 ls st m = s_x X d 212 [.sipush (-1), .jsr 38] ls st m := by
  rw [s_j, s_g_eq, g_l212]; rfl
theorem u_212_38 {X : e_X} {d : Nat} {ls st : List Value} {m : e_M} : s_j X d 212 38 ls st m = s_x X d 212 [.ireturn] ls st m := by
  rw [s_j, s_g_eq, g_l212]; rfl
/-- M.family -/
theorem g_l213 (l : Nat) : g_P 213 l = (g_c213.lookup l).getD [] := rfl
theorem v_213_69 {X : e_X} {d : Nat} {a1 : Int32} {a2 : Int32} {I J : Nat → Int → Int} : s_S X (d + 1) 213 [.ref 69, .int a1, .int a2] (mm I J) = s_j X d 213 0 [.ref 69, .int a1, .int a2] [] (mm I J) := s_S_in rfl rfl
theorem u_213_0 {X : e_X} {d : Nat} {ls st : List Value} {m : e_M} : s_j X d 213 0 ls st m = s_x X d 213 [.iload 1, .sipush 0, .sipush 1, .invokeinterface 172 3, .ifCond .eq 39, .iload 2, .sipush 0, .iload 1, .ifCond .ne 20, .sipush 9, .goto 22] ls st m := by
  rw [s_j, s_g_eq, g_l213]; rfl
theorem u_213_20 {X : e_X} {d : Nat} {ls st : List Value} {m : e_M} : s_j X d 213 20 ls st m = s_x X d 213 [.sipush 40, .jsr 22] ls st m := by
  rw [s_j, s_g_eq, g_l213]; rfl
theorem u_213_22 {X : e_X} {d : Nat} {ls st : List Value} {m : e_M} : s_j X d 213 22 ls st m = s_x X d 213 [.invokeinterface 172 3, .ifCond .eq 39, .aload 0, .sipush 3, .iload 1, .iadd, .iload 2, .invokeinterface 208 3, .goto 40] ls st m := by
  rw [s_j, s_g_eq, g_l213]; rfl
theorem u_213_39 {X : e_X} {d : Nat} {ls st : List Value} {m : e_M} : s_j X d 213 39 ls st m = s_x X d 213 [.sipush (-1), .jsr 40] ls st m := by
  rw [s_j, s_g_eq, g_l213]; rfl
theorem u_213_40 {X : e_X} {d : Nat} {ls st : List Value} {m : e_M} : s_j X d 213 40 ls st m = s_x X d 213 [.ireturn] ls st m := by
  rw [s_j, s_g_eq, g_l213]; rfl
/-- M.ends -/
theorem g_l214 (l : Nat) : g_P 214 l = (g_c214.lookup l).getD [] := rfl
theorem v_214_69 {X : e_X} {d : Nat} {a1 : Int32} {I J : Nat → Int → Int} : s_S X (d + 1) 214 [.ref 69, .int a1] (mm I J) = s_j X d 214 0 [.ref 69, .int a1] [] (mm I J) := s_S_in rfl rfl
theorem u_214_0 {X : e_X} {d : Nat} {ls st : List Value} {m : e_M} : s_j X d 214 0 ls st m = s_x X d 214 [.iload 1, .sipush 1, .sipush 16, .invokeinterface 172 3, .ifCond .ne 14, .sipush (-1), .goto 35] ls st m := by
  rw [s_j, s_g_eq, g_l214]; rfl
theorem u_214_14 {X : e_X} {d : Nat} {ls st : List Value} {m : e_M} : s_j X d 214 14 ls st m = s_x X d 214 [.iload 1, .aload 0, .checkcast 640, .sipush 0, .iaload, .if_icmp .ge 29, .sipush (-4), .goto 35] ls st m := by
  rw [s_j, s_g_eq, g_l214]; rfl
theorem u_214_29 {X : e_X} {d : Nat} {ls st : List Value} {m : e_M} : s_j X d 214 29 ls st m = s_x X d 214 [.aload 0, .sipush 1, .iload 1, .invokeinterface 208 3, .jsr 35] ls st m := by
  rw [s_j, s_g_eq, g_l214]; rfl
theorem u_214_35 {X : e_X} {d : Nat} {ls st : List Value} {m : e_M} : s_j X d 214 35 ls st m = s_x X d 214 [.ireturn] ls st m := by
  rw [s_j, s_g_eq, g_l214]; rfl
/-- M.anew -/
theorem g_l215 (l : Nat) : g_P 215 l = (g_c215.lookup l).getD [] := rfl
theorem v_215_69 {X : e_X} {d : Nat}  {I J : Nat → Int → Int} : s_S X (d + 1) 215 [.ref 69] (mm I J) = s_j X d 215 0 [.ref 69, .retAddr 0] [] (mm I J) := s_S_in rfl rfl
theorem u_215_0 {X : e_X} {d : Nat} {ls st : List Value} {m : e_M} : s_j X d 215 0 ls st m = s_x X d 215 [.aload 0, .checkcast 640, .sipush 2, .sipush 0, .iastore, .aload 0, .checkcast 640, .sipush 3, .sipush 5, .iastore, .aload 0, .checkcast 640, .sipush 4, .sipush 0, .iastore, .sipush 0, .istore 1, .jsr 23] ls st m := by
  rw [s_j, s_g_eq, g_l215]; rfl
theorem u_215_23 {X : e_X} {d : Nat} {ls st : List Value} {m : e_M} : s_j X d 215 23 ls st m = s_x X d 215 [.iload 1, .aload 0, .checkcast 640, .sipush 6, .iaload, .if_icmp .ge 47, .aload 0, .iload 1, .sipush 4, .sipush 0, .invokeinterface 192 4, .iinc 1 1, .goto 23] ls st m := by
  rw [s_j, s_g_eq, g_l215]; rfl
theorem u_215_47 {X : e_X} {d : Nat} {ls st : List Value} {m : e_M} : s_j X d 215 47 ls st m = s_x X d 215 [.aload 0, .sipush 0, .sipush 0, .invokeinterface 208 3, .ireturn] ls st m := by
  rw [s_j, s_g_eq, g_l215]; rfl
/-- M.state -/
theorem g_l216 (l : Nat) : g_P 216 l = (g_c216.lookup l).getD [] := rfl
theorem v_216_69 {X : e_X} {d : Nat} {a1 : Int32} {I J : Nat → Int → Int} : s_S X (d + 1) 216 [.ref 69, .int a1] (mm I J) = s_j X d 216 0 [.ref 69, .int a1] [] (mm I J) := s_S_in rfl rfl
theorem u_216_0 {X : e_X} {d : Nat} {ls st : List Value} {m : e_M} : s_j X d 216 0 ls st m = s_x X d 216 [.iload 1, .lookupswitch 132 #[(0, 48), (1, 55), (2, 62), (3, 69), (4, 82), (5, 88), (6, 118), (7, 125)]] ls st m := by
  rw [s_j, s_g_eq, g_l216]; rfl
theorem u_216_48 {X : e_X} {d : Nat} {ls st : List Value} {m : e_M} : s_j X d 216 48 ls st m = s_x X d 216 [.aload 0, .checkcast 640, .sipush 0, .iaload, .ireturn] ls st m := by
  rw [s_j, s_g_eq, g_l216]; rfl
theorem u_216_55 {X : e_X} {d : Nat} {ls st : List Value} {m : e_M} : s_j X d 216 55 ls st m = s_x X d 216 [.aload 0, .checkcast 640, .sipush 1, .iaload, .ireturn] ls st m := by
  rw [s_j, s_g_eq, g_l216]; rfl
theorem u_216_62 {X : e_X} {d : Nat} {ls st : List Value} {m : e_M} : s_j X d 216 62 ls st m = s_x X d 216 [.aload 0, .checkcast 640, .sipush 2, .iaload, .ireturn] ls st m := by
  rw [s_j, s_g_eq, g_l216]; rfl
theorem u_216_69 {X : e_X} {d : Nat} {ls st : List Value} {m : e_M} : s_j X d 216 69 ls st m = s_x X d 216 [.aload 0, .invokeinterface 217 1, .ifCond .eq 80, .sipush 1, .goto 81] ls st m := by
  rw [s_j, s_g_eq, g_l216]; rfl
theorem u_216_80 {X : e_X} {d : Nat} {ls st : List Value} {m : e_M} : s_j X d 216 80 ls st m = s_x X d 216 [.sipush 0, .jsr 81] ls st m := by
  rw [s_j, s_g_eq, g_l216]; rfl
theorem u_216_81 {X : e_X} {d : Nat} {ls st : List Value} {m : e_M} : s_j X d 216 81 ls st m = s_x X d 216 [.ireturn] ls st m := by
  rw [s_j, s_g_eq, g_l216]; rfl
theorem u_216_82 {X : e_X} {d : Nat} {ls st : List Value} {m : e_M} : s_j X d 216 82 ls st m = s_x X d 216 [.aload 0, .sipush 4, .invokeinterface 218 2, .ireturn] ls st m := by
  rw [s_j, s_g_eq, g_l216]; rfl
theorem u_216_88 {X : e_X} {d : Nat} {ls st : List Value} {m : e_M} : s_j X d 216 88 ls st m = s_x X d 216 [.aload 0, .checkcast 640, .sipush 0, .iaload, .sipush 16, .if_icmp .ge 116, .aload 0, .checkcast 640, .sipush 10, .aload 0, .checkcast 640, .sipush 0, .iaload, .iadd, .iaload, .goto 117] ls st m := by
  rw [s_j, s_g_eq, g_l216]; rfl
theorem u_216_116 {X : e_X} {d : Nat} {ls st : List Value} {m : e_M} : s_j X d 216 116 ls st m = s_x X d 216 [.sipush 0, .jsr 117] ls st m := by
  rw [s_j, s_g_eq, g_l216]; rfl
theorem u_216_117 {X : e_X} {d : Nat} {ls st : List Value} {m : e_M} : s_j X d 216 117 ls st m = s_x X d 216 [.ireturn] ls st m := by
  rw [s_j, s_g_eq, g_l216]; rfl
theorem u_216_118 {X : e_X} {d : Nat} {ls st : List Value} {m : e_M} : s_j X d 216 118 ls st m = s_x X d 216 [.aload 0, .checkcast 640, .sipush 3, .iaload, .ireturn] ls st m := by
  rw [s_j, s_g_eq, g_l216]; rfl
theorem u_216_125 {X : e_X} {d : Nat} {ls st : List Value} {m : e_M} : s_j X d 216 125 ls st m = s_x X d 216 [.aload 0, .checkcast 640, .sipush 4, .iaload, .ireturn] ls st m := by
  rw [s_j, s_g_eq, g_l216]; rfl
theorem u_216_132 {X : e_X} {d : Nat} {ls st : List Value} {m : e_M} : s_j X d 216 132 ls st m = s_x X d 216 [.sipush (-1), .ireturn] ls st m := by
  rw [s_j, s_g_eq, g_l216]; rfl
/-- M.isOver -/
theorem g_l217 (l : Nat) : g_P 217 l = (g_c217.lookup l).getD [] := rfl
theorem v_217_69 {X : e_X} {d : Nat}  {I J : Nat → Int → Int} : s_S X (d + 1) 217 [.ref 69] (mm I J) = s_j X d 217 0 [.ref 69] [] (mm I J) := s_S_in rfl rfl
theorem u_217_0 {X : e_X} {d : Nat} {ls st : List Value} {m : e_M} : s_j X d 217 0 ls st m = s_x X d 217 [.aload 0, .checkcast 640, .sipush 0, .iaload, .aload 0, .checkcast 640, .sipush 1, .iaload, .if_icmp .lt 19, .sipush 1, .goto 20] ls st m := by
  rw [s_j, s_g_eq, g_l217]; rfl
theorem u_217_19 {X : e_X} {d : Nat} {ls st : List Value} {m : e_M} : s_j X d 217 19 ls st m = s_x X d 217 [.sipush 0, .jsr 20] ls st m := by
  rw [s_j, s_g_eq, g_l217]; rfl
theorem u_217_20 {X : e_X} {d : Nat} {ls st : List Value} {m : e_M} : s_j X d 217 20 ls st m = s_x X d 217 [.areturn] ls st m := by
  rw [s_j, s_g_eq, g_l217]; rfl
/-- M.those -/
theorem g_l218 (l : Nat) : g_P 218 l = (g_c218.lookup l).getD [] := rfl
theorem v_218_69 {X : e_X} {d : Nat} {a1 : Int32} {I J : Nat → Int → Int} : s_S X (d + 1) 218 [.ref 69, .int a1] (mm I J) = s_j X d 218 0 [.ref 69, .int a1, .retAddr 0, .retAddr 0] [] (mm I J) := s_S_in rfl rfl
theorem u_218_0 {X : e_X} {d : Nat} {ls st : List Value} {m : e_M} : s_j X d 218 0 ls st m = s_x X d 218 [.sipush 0, .istore 2, .sipush 0, .istore 3, .jsr 4] ls st m := by
  rw [s_j, s_g_eq, g_l218]; rfl
theorem u_218_4 {X : e_X} {d : Nat} {ls st : List Value} {m : e_M} : s_j X d 218 4 ls st m = s_x X d 218 [.iload 3, .aload 0, .checkcast 640, .sipush 6, .iaload, .if_icmp .ge 40, .iload 2, .aload 0, .iload 3, .iload 1, .invokeinterface 196 3, .ifCond .le 31, .sipush 1, .iload 3, .ishl, .goto 32] ls st m := by
  rw [s_j, s_g_eq, g_l218]; rfl
theorem u_218_31 {X : e_X} {d : Nat} {ls st : List Value} {m : e_M} : s_j X d 218 31 ls st m = s_x X d 218 [.sipush 0, .jsr 32] ls st m := by
  rw [s_j, s_g_eq, g_l218]; rfl
theorem u_218_32 {X : e_X} {d : Nat} {ls st : List Value} {m : e_M} : s_j X d 218 32 ls st m = s_x X d 218 [.ior, .istore 2, .iinc 3 1, .goto 4] ls st m := by
  rw [s_j, s_g_eq, g_l218]; rfl
theorem u_218_40 {X : e_X} {d : Nat} {ls st : List Value} {m : e_M} : s_j X d 218 40 ls st m = s_x X d 218 [.iload 2, .ireturn] ls st m := by
  rw [s_j, s_g_eq, g_l218]; rfl
/-- M.year -/
theorem g_l219 (l : Nat) : g_P 219 l = (g_c219.lookup l).getD [] := rfl
theorem v_219_69 {X : e_X} {d : Nat}  {I J : Nat → Int → Int} : s_S X (d + 1) 219 [.ref 69] (mm I J) = s_j X d 219 0 [.ref 69] [] (mm I J) := s_S_in rfl rfl
theorem u_219_0 {X : e_X} {d : Nat} {ls st : List Value} {m : e_M} : s_j X d 219 0 ls st m = s_x X d 219 [.aload 0, .invokeinterface 217 1, .ifCond .eq 12, .sipush (-4), .goto 17] ls st m := by
  rw [s_j, s_g_eq, g_l219]; rfl
theorem u_219_12 {X : e_X} {d : Nat} {ls st : List Value} {m : e_M} : s_j X d 219 12 ls st m = s_x X d 219 [.aload 0, .sipush (-1), .invokeinterface 220 2, .jsr 17] ls st m := by
  rw [s_j, s_g_eq, g_l219]; rfl
theorem u_219_17 {X : e_X} {d : Nat} {ls st : List Value} {m : e_M} : s_j X d 219 17 ls st m = s_x X d 219 [.ireturn] ls st m := by
  rw [s_j, s_g_eq, g_l219]; rfl
/-- M.goesBy -/
theorem g_l220 (l : Nat) : g_P 220 l = (g_c220.lookup l).getD [] := rfl
theorem v_220_69 {X : e_X} {d : Nat} {a1 : Int32} {I J : Nat → Int → Int} : s_S X (d + 1) 220 [.ref 69, .int a1] (mm I J) = s_j X d 220 0 [.ref 69, .int a1, .retAddr 0, .retAddr 0] [] (mm I J) := s_S_in rfl rfl
theorem u_220_0 {X : e_X} {d : Nat} {ls st : List Value} {m : e_M} : s_j X d 220 0 ls st m = s_x X d 220 [.aload 0, .checkcast 640, .sipush 3, .aload 0, .checkcast 640, .sipush 0, .iaload, .sipush 16, .if_icmp .ge 42, .aload 0, .checkcast 640, .sipush 3, .iaload, .aload 0, .checkcast 640, .sipush 10, .aload 0, .checkcast 640, .sipush 0, .iaload, .iadd, .iaload, .invokeinterface 221 2, .goto 48] ls st m := by
  rw [s_j, s_g_eq, g_l220]; rfl
theorem u_220_42 {X : e_X} {d : Nat} {ls st : List Value} {m : e_M} : s_j X d 220 42 ls st m = s_x X d 220 [.aload 0, .checkcast 640, .sipush 3, .iaload, .jsr 48] ls st m := by
  rw [s_j, s_g_eq, g_l220]; rfl
theorem u_220_48 {X : e_X} {d : Nat} {ls st : List Value} {m : e_M} : s_j X d 220 48 ls st m = s_x X d 220 [.iastore, .iload 1, .ifCond .ge 60, .aload 0, .invokeinterface 223 1, .goto 63] ls st m := by
  rw [s_j, s_g_eq, g_l220]; rfl
theorem u_220_60 {X : e_X} {d : Nat} {ls st : List Value} {m : e_M} : s_j X d 220 60 ls st m = s_x X d 220 [.iload 1, .sipush 1, .isub, .jsr 63] ls st m := by
  rw [s_j, s_g_eq, g_l220]; rfl
theorem u_220_63 {X : e_X} {d : Nat} {ls st : List Value} {m : e_M} : s_j X d 220 63 ls st m = s_x X d 220 [.istore 2, .iload 2, .ifCond .lt 76, .aload 0, .iload 2, .invokeinterface 224 2, .goto 77] ls st m := by
  rw [s_j, s_g_eq, g_l220]; rfl
theorem u_220_76 {X : e_X} {d : Nat} {ls st : List Value} {m : e_M} : s_j X d 220 76 ls st m = s_x X d 220 [.sipush 0, .jsr 77] ls st m := by
  rw [s_j, s_g_eq, g_l220]; rfl
theorem u_220_77 {X : e_X} {d : Nat} {ls st : List Value} {m : e_M} : s_j X d 220 77 ls st m = s_x X d 220 [.istore 3, .iload 3, .aload 0, .invokeinterface 226 1, .iadd, .istore 3, .aload 0, .checkcast 640, .sipush 0, .dup2, .iaload, .sipush 1, .iadd, .iastore, .aload 0, .checkcast 640, .sipush 2, .dup2, .iaload, .iload 3, .iadd, .iastore, .iload 3, .ireturn] ls st m := by
  rw [s_j, s_g_eq, g_l220]; rfl
/-- M.moodBy -/
theorem g_l221 (l : Nat) : g_P 221 l = (g_c221.lookup l).getD [] := rfl
theorem v_221 {X : e_X} {d : Nat} {a0 : Int32} {a1 : Int32} {I J : Nat → Int → Int} : s_S X (d + 1) 221 [.int a0, .int a1] (mm I J) = s_j X d 221 0 [.int a0, .int a1, .retAddr 0, .retAddr 0, .retAddr 0] [] (mm I J) := s_S_in rfl rfl
theorem u_221_0 {X : e_X} {d : Nat} {ls st : List Value} {m : e_M} : s_j X d 221 0 ls st m = s_x X d 221 [.iload 1, .sipush 4, .idiv, .istore 2, .iload 0, .sipush 5, .if_icmp .ge 15, .sipush 5, .iload 0, .isub, .goto 18] ls st m := by
  rw [s_j, s_g_eq, g_l221]; rfl
theorem u_221_15 {X : e_X} {d : Nat} {ls st : List Value} {m : e_M} : s_j X d 221 15 ls st m = s_x X d 221 [.iload 0, .sipush 5, .isub, .jsr 18] ls st m := by
  rw [s_j, s_g_eq, g_l221]; rfl
theorem u_221_18 {X : e_X} {d : Nat} {ls st : List Value} {m : e_M} : s_j X d 221 18 ls st m = s_x X d 221 [.istore 3, .iload 3, .iload 2, .if_icmp .ge 28, .iload 3, .goto 29] ls st m := by
  rw [s_j, s_g_eq, g_l221]; rfl
theorem u_221_28 {X : e_X} {d : Nat} {ls st : List Value} {m : e_M} : s_j X d 221 28 ls st m = s_x X d 221 [.iload 2, .jsr 29] ls st m := by
  rw [s_j, s_g_eq, g_l221]; rfl
theorem u_221_29 {X : e_X} {d : Nat} {ls st : List Value} {m : e_M} : s_j X d 221 29 ls st m = s_x X d 221 [.istore 4, .iload 1, .sipush 4, .irem, .lookupswitch 95 #[(0, 60), (1, 69), (2, 78)]] ls st m := by
  rw [s_j, s_g_eq, g_l221]; rfl
theorem u_221_60 {X : e_X} {d : Nat} {ls st : List Value} {m : e_M} : s_j X d 221 60 ls st m = s_x X d 221 [.iload 0, .iload 2, .iadd, .sipush 9, .invokeinterface 222 2, .ireturn] ls st m := by
  rw [s_j, s_g_eq, g_l221]; rfl
theorem u_221_69 {X : e_X} {d : Nat} {ls st : List Value} {m : e_M} : s_j X d 221 69 ls st m = s_x X d 221 [.iload 0, .iload 2, .isub, .sipush 9, .invokeinterface 222 2, .ireturn] ls st m := by
  rw [s_j, s_g_eq, g_l221]; rfl
theorem u_221_78 {X : e_X} {d : Nat} {ls st : List Value} {m : e_M} : s_j X d 221 78 ls st m = s_x X d 221 [.iload 0, .sipush 5, .if_icmp .ge 90, .iload 0, .iload 4, .iadd, .goto 94] ls st m := by
  rw [s_j, s_g_eq, g_l221]; rfl
theorem u_221_90 {X : e_X} {d : Nat} {ls st : List Value} {m : e_M} : s_j X d 221 90 ls st m = s_x X d 221 [.iload 0, .iload 4, .isub, .jsr 94] ls st m := by
  rw [s_j, s_g_eq, g_l221]; rfl
theorem u_221_94 {X : e_X} {d : Nat} {ls st : List Value} {m : e_M} : s_j X d 221 94 ls st m = s_x X d 221 [.ireturn] ls st m := by
  rw [s_j, s_g_eq, g_l221]; rfl
theorem u_221_95 {X : e_X} {d : Nat} {ls st : List Value} {m : e_M} : s_j X d 221 95 ls st m = s_x X d 221 [.iload 0, .ireturn] ls st m := by
  rw [s_j, s_g_eq, g_l221]; rfl
/-- M.held -/
theorem g_l222 (l : Nat) : g_P 222 l = (g_c222.lookup l).getD [] := rfl
theorem v_222 {X : e_X} {d : Nat} {a0 : Int32} {a1 : Int32} {I J : Nat → Int → Int} : s_S X (d + 1) 222 [.int a0, .int a1] (mm I J) = s_j X d 222 0 [.int a0, .int a1] [] (mm I J) := s_S_in rfl rfl
theorem u_222_0 {X : e_X} {d : Nat} {ls st : List Value} {m : e_M} : s_j X d 222 0 ls st m = s_x X d 222 [.iload 0, .ifCond .ge 8, .sipush 0, .goto 18] ls st m := by
  rw [s_j, s_g_eq, g_l222]; rfl
theorem u_222_8 {X : e_X} {d : Nat} {ls st : List Value} {m : e_M} : s_j X d 222 8 ls st m = s_x X d 222 [.iload 0, .iload 1, .if_icmp .le 17, .iload 1, .goto 18] ls st m := by
  rw [s_j, s_g_eq, g_l222]; rfl
theorem u_222_17 {X : e_X} {d : Nat} {ls st : List Value} {m : e_M} : s_j X d 222 17 ls st m = s_x X d 222 [.iload 0, .jsr 18] ls st m := by
  rw [s_j, s_g_eq, g_l222]; rfl
theorem u_222_18 {X : e_X} {d : Nat} {ls st : List Value} {m : e_M} : s_j X d 222 18 ls st m = s_x X d 222 [.ireturn] ls st m := by
  rw [s_j, s_g_eq, g_l222]; rfl
/-- M.restOne -/
theorem g_l223 (l : Nat) : g_P 223 l = (g_c223.lookup l).getD [] := rfl
theorem v_223_69 {X : e_X} {d : Nat}  {I J : Nat → Int → Int} : s_S X (d + 1) 223 [.ref 69] (mm I J) = s_j X d 223 0 [.ref 69, .retAddr 0] [] (mm I J) := s_S_in rfl rfl
theorem u_223_0 {X : e_X} {d : Nat} {ls st : List Value} {m : e_M} : s_j X d 223 0 ls st m = s_x X d 223 [.sipush 0, .istore 1, .jsr 2] ls st m := by
  rw [s_j, s_g_eq, g_l223]; rfl
theorem u_223_2 {X : e_X} {d : Nat} {ls st : List Value} {m : e_M} : s_j X d 223 2 ls st m = s_x X d 223 [.iload 1, .aload 0, .checkcast 640, .sipush 6, .iaload, .if_icmp .ge 29, .aload 0, .iload 1, .invokeinterface 199 2, .ifCond .eq 23, .iload 1, .ireturn] ls st m := by
  rw [s_j, s_g_eq, g_l223]; rfl
theorem u_223_23 {X : e_X} {d : Nat} {ls st : List Value} {m : e_M} : s_j X d 223 23 ls st m = s_x X d 223 [.iinc 1 1, .goto 2] ls st m := by
  rw [s_j, s_g_eq, g_l223]; rfl
theorem u_223_29 {X : e_X} {d : Nat} {ls st : List Value} {m : e_M} : s_j X d 223 29 ls st m = s_x X d 223 [.sipush (-1), .ireturn] ls st m := by
  rw [s_j, s_g_eq, g_l223]; rfl
/-- M.meets -/
theorem g_l224 (l : Nat) : g_P 224 l = (g_c224.lookup l).getD [] := rfl
theorem v_224_69 {X : e_X} {d : Nat} {a1 : Int32} {I J : Nat → Int → Int} : s_S X (d + 1) 224 [.ref 69, .int a1] (mm I J) = s_j X d 224 0 [.ref 69, .int a1, .retAddr 0] [] (mm I J) := s_S_in rfl rfl
theorem u_224_0 {X : e_X} {d : Nat} {ls st : List Value} {m : e_M} : s_j X d 224 0 ls st m = s_x X d 224 [.aload 0, .iload 1, .invokeinterface 200 2, .istore 2, .iload 2, .ifCond .ne 16, .aload 0, .iload 1, .invokeinterface 225 2, .ireturn] ls st m := by
  rw [s_j, s_g_eq, g_l224]; rfl
theorem u_224_16 {X : e_X} {d : Nat} {ls st : List Value} {m : e_M} : s_j X d 224 16 ls st m = s_x X d 224 [.iload 2, .sipush 2, .if_icmp .ne 57, .aload 0, .iload 1, .sipush 4, .invokeinterface 196 3, .sipush 1, .if_icmp .ne 57, .aload 0, .iload 1, .sipush 4, .sipush 0, .invokeinterface 192 4, .aload 0, .checkcast 640, .sipush 3, .aload 0, .checkcast 640, .sipush 3, .iaload, .sipush 1, .iadd, .sipush 9, .invokeinterface 222 2, .iastore, .jsr 57] ls st m := by
  rw [s_j, s_g_eq, g_l224]; rfl
theorem u_224_57 {X : e_X} {d : Nat} {ls st : List Value} {m : e_M} : s_j X d 224 57 ls st m = s_x X d 224 [.sipush 0, .ireturn] ls st m := by
  rw [s_j, s_g_eq, g_l224]; rfl
/-- M.sits -/
theorem g_l225 (l : Nat) : g_P 225 l = (g_c225.lookup l).getD [] := rfl
theorem v_225_69 {X : e_X} {d : Nat} {a1 : Int32} {I J : Nat → Int → Int} : s_S X (d + 1) 225 [.ref 69, .int a1] (mm I J) = s_j X d 225 0 [.ref 69, .int a1, .retAddr 0] [] (mm I J) := s_S_in rfl rfl
theorem u_225_0 {X : e_X} {d : Nat} {ls st : List Value} {m : e_M} : s_j X d 225 0 ls st m = s_x X d 225 [.aload 0, .iload 1, .sipush 4, .invokeinterface 196 3, .sipush 1, .if_icmp .ne 12, .sipush 0, .ireturn] ls st m := by
  rw [s_j, s_g_eq, g_l225]; rfl
theorem u_225_12 {X : e_X} {d : Nat} {ls st : List Value} {m : e_M} : s_j X d 225 12 ls st m = s_x X d 225 [.aload 0, .iload 1, .invokeinterface 199 2, .istore 2, .aload 0, .checkcast 640, .sipush 3, .aload 0, .checkcast 640, .sipush 3, .iaload, .iload 2, .ifCond .eq 43, .aload 0, .iload 1, .invokeinterface 198 2, .sipush 3, .idiv, .goto 44] ls st m := by
  rw [s_j, s_g_eq, g_l225]; rfl
theorem u_225_43 {X : e_X} {d : Nat} {ls st : List Value} {m : e_M} : s_j X d 225 43 ls st m = s_x X d 225 [.sipush 1, .jsr 44] ls st m := by
  rw [s_j, s_g_eq, g_l225]; rfl
theorem u_225_44 {X : e_X} {d : Nat} {ls st : List Value} {m : e_M} : s_j X d 225 44 ls st m = s_x X d 225 [.isub, .sipush 9, .invokeinterface 222 2, .iastore, .aload 0, .iload 1, .sipush 4, .iload 2, .ifCond .eq 62, .sipush 1, .goto 63] ls st m := by
  rw [s_j, s_g_eq, g_l225]; rfl
theorem u_225_62 {X : e_X} {d : Nat} {ls st : List Value} {m : e_M} : s_j X d 225 62 ls st m = s_x X d 225 [.sipush 0, .jsr 63] ls st m := by
  rw [s_j, s_g_eq, g_l225]; rfl
theorem u_225_63 {X : e_X} {d : Nat} {ls st : List Value} {m : e_M} : s_j X d 225 63 ls st m = s_x X d 225 [.invokeinterface 192 4, .iload 2, .ifCond .eq 74, .sipush 1, .goto 75] ls st m := by
  rw [s_j, s_g_eq, g_l225]; rfl
theorem u_225_74 {X : e_X} {d : Nat} {ls st : List Value} {m : e_M} : s_j X d 225 74 ls st m = s_x X d 225 [.sipush 0, .jsr 75] ls st m := by
  rw [s_j, s_g_eq, g_l225]; rfl
theorem u_225_75 {X : e_X} {d : Nat} {ls st : List Value} {m : e_M} : s_j X d 225 75 ls st m = s_x X d 225 [.ireturn] ls st m := by
  rw [s_j, s_g_eq, g_l225]; rfl
/-- M.walksOn -/
theorem g_l226 (l : Nat) : g_P 226 l = (g_c226.lookup l).getD [] := rfl
theorem v_226_69 {X : e_X} {d : Nat}  {I J : Nat → Int → Int} : s_S X (d + 1) 226 [.ref 69] (mm I J) = s_j X d 226 0 [.ref 69, .retAddr 0, .retAddr 0] [] (mm I J) := s_S_in rfl rfl
theorem u_226_0 {X : e_X} {d : Nat} {ls st : List Value} {m : e_M} : s_j X d 226 0 ls st m = s_x X d 226 [.aload 0, .checkcast 640, .sipush 3, .iaload, .sipush 1, .iadd, .istore 1, .sipush 0, .istore 2, .jsr 11] ls st m := by
  rw [s_j, s_g_eq, g_l226]; rfl
theorem u_226_11 {X : e_X} {d : Nat} {ls st : List Value} {m : e_M} : s_j X d 226 11 ls st m = s_x X d 226 [.iload 2, .iload 1, .if_icmp .ge 56, .aload 0, .checkcast 640, .sipush 4, .iaload, .sipush 40, .if_icmp .ge 56, .aload 0, .aload 0, .checkcast 640, .sipush 4, .iaload, .invokeinterface 227 2, .ifCond .eq 56, .aload 0, .checkcast 640, .sipush 4, .dup2, .iaload, .sipush 1, .iadd, .iastore, .iinc 2 1, .goto 11] ls st m := by
  rw [s_j, s_g_eq, g_l226]; rfl
theorem u_226_56 {X : e_X} {d : Nat} {ls st : List Value} {m : e_M} : s_j X d 226 56 ls st m = s_x X d 226 [.sipush 2, .iload 2, .imul, .ireturn] ls st m := by
  rw [s_j, s_g_eq, g_l226]; rfl
/-- M.isThere -/
theorem g_l227 (l : Nat) : g_P 227 l = (g_c227.lookup l).getD [] := rfl
theorem v_227_69 {X : e_X} {d : Nat} {a1 : Int32} {I J : Nat → Int → Int} : s_S X (d + 1) 227 [.ref 69, .int a1] (mm I J) = s_j X d 227 0 [.ref 69, .int a1, .retAddr 0, .retAddr 0] [] (mm I J) := s_S_in rfl rfl
theorem u_227_0 {X : e_X} {d : Nat} {ls st : List Value} {m : e_M} : s_j X d 227 0 ls st m = s_x X d 227 [.sipush 0, .istore 2, .sipush 0, .istore 3, .jsr 4] ls st m := by
  rw [s_j, s_g_eq, g_l227]; rfl
theorem u_227_4 {X : e_X} {d : Nat} {ls st : List Value} {m : e_M} : s_j X d 227 4 ls st m = s_x X d 227 [.iload 3, .aload 0, .checkcast 640, .sipush 6, .iaload, .if_icmp .ge 50, .iload 2, .ifCond .ne 38, .aload 0, .iload 3, .sipush 4, .invokeinterface 196 3, .sipush 1, .if_icmp .ne 42, .aload 0, .iload 3, .iload 1, .invokeinterface 228 3, .ifCond .eq 42, .jsr 38] ls st m := by
  rw [s_j, s_g_eq, g_l227]; rfl
theorem u_227_38 {X : e_X} {d : Nat} {ls st : List Value} {m : e_M} : s_j X d 227 38 ls st m = s_x X d 227 [.sipush 1, .goto 43] ls st m := by
  rw [s_j, s_g_eq, g_l227]; rfl
theorem u_227_42 {X : e_X} {d : Nat} {ls st : List Value} {m : e_M} : s_j X d 227 42 ls st m = s_x X d 227 [.sipush 0, .jsr 43] ls st m := by
  rw [s_j, s_g_eq, g_l227]; rfl
theorem u_227_43 {X : e_X} {d : Nat} {ls st : List Value} {m : e_M} : s_j X d 227 43 ls st m = s_x X d 227 [.istore 2, .iinc 3 1, .goto 4] ls st m := by
  rw [s_j, s_g_eq, g_l227]; rfl
theorem u_227_50 {X : e_X} {d : Nat} {ls st : List Value} {m : e_M} : s_j X d 227 50 ls st m = s_x X d 227 [.iload 2, .areturn] ls st m := by
  rw [s_j, s_g_eq, g_l227]; rfl
/-- M.isSpanned -/
theorem g_l228 (l : Nat) : g_P 228 l = (g_c228.lookup l).getD [] := rfl
theorem v_228_69 {X : e_X} {d : Nat} {a1 : Int32} {a2 : Int32} {I J : Nat → Int → Int} : s_S X (d + 1) 228 [.ref 69, .int a1, .int a2] (mm I J) = s_j X d 228 0 [.ref 69, .int a1, .int a2] [] (mm I J) := s_S_in rfl rfl
theorem u_228_0 {X : e_X} {d : Nat} {ls st : List Value} {m : e_M} : s_j X d 228 0 ls st m = s_x X d 228 [.iload 2, .aload 0, .iload 1, .sipush 1, .invokeinterface 196 3, .aload 0, .iload 1, .sipush 1, .invokeinterface 196 3, .aload 0, .iload 1, .invokeinterface 195 2, .iadd, .sipush 1, .isub, .invokeinterface 172 3, .areturn] ls st m := by
  rw [s_j, s_g_eq, g_l228]; rfl
/-- M.on -/
theorem g_l229 (l : Nat) : g_P 229 l = (g_c229.lookup l).getD [] := rfl
theorem v_229_69 {X : e_X} {d : Nat} {a1 : Int32} {I J : Nat → Int → Int} : s_S X (d + 1) 229 [.ref 69, .int a1] (mm I J) = s_j X d 229 0 [.ref 69, .int a1, .retAddr 0] [] (mm I J) := s_S_in rfl rfl
theorem u_229_0 {X : e_X} {d : Nat} {ls st : List Value} {m : e_M} : s_j X d 229 0 ls st m = s_x X d 229 [.iload 1, .sipush 0, .sipush 16, .invokeinterface 172 3, .ifCond .ne 12, .sipush (-1), .ireturn] ls st m := by
  rw [s_j, s_g_eq, g_l229]; rfl
theorem u_229_12 {X : e_X} {d : Nat} {ls st : List Value} {m : e_M} : s_j X d 229 12 ls st m = s_x X d 229 [.aload 0, .invokeinterface 230 1, .aload 0, .iload 1, .invokeinterface 231 2, .istore 2, .aload 0, .invokeinterface 232 1, .iload 2, .ireturn] ls st m := by
  rw [s_j, s_g_eq, g_l229]; rfl
/-- M.layDown -/
theorem g_l230 (l : Nat) : g_P 230 l = (g_c230.lookup l).getD [] := rfl
theorem v_230_69 {X : e_X} {d : Nat}  {I J : Nat → Int → Int} : s_S X (d + 1) 230 [.ref 69] (mm I J) = s_j X d 230 0 [.ref 69, .retAddr 0] [] (mm I J) := s_S_in rfl rfl
theorem u_230_0 {X : e_X} {d : Nat} {ls st : List Value} {m : e_M} : s_j X d 230 0 ls st m = s_x X d 230 [.sipush 0, .istore 1, .jsr 2] ls st m := by
  rw [s_j, s_g_eq, g_l230]; rfl
theorem u_230_2 {X : e_X} {d : Nat} {ls st : List Value} {m : e_M} : s_j X d 230 2 ls st m = s_x X d 230 [.iload 1, .sipush 74, .if_icmp .ge 26, .aload 0, .checkcast 642, .iload 1, .aload 0, .checkcast 640, .iload 1, .iaload, .iastore, .iinc 1 1, .goto 2] ls st m := by
  rw [s_j, s_g_eq, g_l230]; rfl
theorem u_230_26 {X : e_X} {d : Nat} {ls st : List Value} {m : e_M} : s_j X d 230 26 ls st m = s_x X d 230 [.return_] ls st m := by
  rw [s_j, s_g_eq, g_l230]; rfl
/-- M.restOf -/
theorem g_l231 (l : Nat) : g_P 231 l = (g_c231.lookup l).getD [] := rfl
theorem v_231_69 {X : e_X} {d : Nat} {a1 : Int32} {I J : Nat → Int → Int} : s_S X (d + 1) 231 [.ref 69, .int a1] (mm I J) = s_j X d 231 0 [.ref 69, .int a1, .retAddr 0, .retAddr 0] [] (mm I J) := s_S_in rfl rfl
theorem u_231_0 {X : e_X} {d : Nat} {ls st : List Value} {m : e_M} : s_j X d 231 0 ls st m = s_x X d 231 [.sipush 0, .istore 2, .sipush 0, .istore 3, .jsr 4] ls st m := by
  rw [s_j, s_g_eq, g_l231]; rfl
theorem u_231_4 {X : e_X} {d : Nat} {ls st : List Value} {m : e_M} : s_j X d 231 4 ls st m = s_x X d 231 [.iload 3, .iload 1, .if_icmp .ge 30, .aload 0, .invokeinterface 217 1, .ifCond .ne 30, .iload 2, .aload 0, .sipush (-1), .invokeinterface 220 2, .iadd, .istore 2, .iinc 3 1, .goto 4] ls st m := by
  rw [s_j, s_g_eq, g_l231]; rfl
theorem u_231_30 {X : e_X} {d : Nat} {ls st : List Value} {m : e_M} : s_j X d 231 30 ls st m = s_x X d 231 [.iload 2, .ireturn] ls st m := by
  rw [s_j, s_g_eq, g_l231]; rfl
/-- M.layBack -/
theorem g_l232 (l : Nat) : g_P 232 l = (g_c232.lookup l).getD [] := rfl
theorem v_232_69 {X : e_X} {d : Nat}  {I J : Nat → Int → Int} : s_S X (d + 1) 232 [.ref 69] (mm I J) = s_j X d 232 0 [.ref 69, .retAddr 0] [] (mm I J) := s_S_in rfl rfl
theorem u_232_0 {X : e_X} {d : Nat} {ls st : List Value} {m : e_M} : s_j X d 232 0 ls st m = s_x X d 232 [.sipush 0, .istore 1, .jsr 2] ls st m := by
  rw [s_j, s_g_eq, g_l232]; rfl
theorem u_232_2 {X : e_X} {d : Nat} {ls st : List Value} {m : e_M} : s_j X d 232 2 ls st m = s_x X d 232 [.iload 1, .sipush 74, .if_icmp .ge 26, .aload 0, .checkcast 640, .iload 1, .aload 0, .checkcast 642, .iload 1, .iaload, .iastore, .iinc 1 1, .goto 2] ls st m := by
  rw [s_j, s_g_eq, g_l232]; rfl
theorem u_232_26 {X : e_X} {d : Nat} {ls st : List Value} {m : e_M} : s_j X d 232 26 ls st m = s_x X d 232 [.return_] ls st m := by
  rw [s_j, s_g_eq, g_l232]; rfl
/-- M.when -/
theorem g_l233 (l : Nat) : g_P 233 l = (g_c233.lookup l).getD [] := rfl
theorem v_233_69 {X : e_X} {d : Nat} {a1 : Int32} {I J : Nat → Int → Int} : s_S X (d + 1) 233 [.ref 69, .int a1] (mm I J) = s_j X d 233 0 [.ref 69, .int a1, .retAddr 0, .retAddr 0, .retAddr 0] [] (mm I J) := s_S_in rfl rfl
theorem u_233_0 {X : e_X} {d : Nat} {ls st : List Value} {m : e_M} : s_j X d 233 0 ls st m = s_x X d 233 [.aload 0, .iload 1, .invokeinterface 194 2, .ifCond .ne 10, .sipush (-1), .ireturn] ls st m := by
  rw [s_j, s_g_eq, g_l233]; rfl
theorem u_233_10 {X : e_X} {d : Nat} {ls st : List Value} {m : e_M} : s_j X d 233 10 ls st m = s_x X d 233 [.aload 0, .invokeinterface 230 1, .sipush (-3), .istore 2, .aload 0, .iload 1, .sipush 4, .invokeinterface 196 3, .ifCond .ne 30, .sipush 1, .goto 31] ls st m := by
  rw [s_j, s_g_eq, g_l233]; rfl
theorem u_233_30 {X : e_X} {d : Nat} {ls st : List Value} {m : e_M} : s_j X d 233 30 ls st m = s_x X d 233 [.sipush 0, .jsr 31] ls st m := by
  rw [s_j, s_g_eq, g_l233]; rfl
theorem u_233_31 {X : e_X} {d : Nat} {ls st : List Value} {m : e_M} : s_j X d 233 31 ls st m = s_x X d 233 [.istore 3, .jsr 32] ls st m := by
  rw [s_j, s_g_eq, g_l233]; rfl
theorem u_233_32 {X : e_X} {d : Nat} {ls st : List Value} {m : e_M} : s_j X d 233 32 ls st m = s_x X d 233 [.iload 3, .ifCond .eq 91, .aload 0, .invokeinterface 217 1, .ifCond .ne 91, .aload 0, .sipush (-1), .invokeinterface 220 2, .istore 4, .aload 0, .iload 1, .sipush 4, .invokeinterface 196 3, .ifCond .ne 63, .sipush 1, .goto 64] ls st m := by
  rw [s_j, s_g_eq, g_l233]; rfl
theorem u_233_63 {X : e_X} {d : Nat} {ls st : List Value} {m : e_M} : s_j X d 233 63 ls st m = s_x X d 233 [.sipush 0, .jsr 64] ls st m := by
  rw [s_j, s_g_eq, g_l233]; rfl
theorem u_233_64 {X : e_X} {d : Nat} {ls st : List Value} {m : e_M} : s_j X d 233 64 ls st m = s_x X d 233 [.istore 3, .iload 3, .ifCond .ne 74, .iload 4, .ifCond .ge 79, .jsr 74] ls st m := by
  rw [s_j, s_g_eq, g_l233]; rfl
theorem u_233_74 {X : e_X} {d : Nat} {ls st : List Value} {m : e_M} : s_j X d 233 74 ls st m = s_x X d 233 [.sipush (-3), .goto 87] ls st m := by
  rw [s_j, s_g_eq, g_l233]; rfl
theorem u_233_79 {X : e_X} {d : Nat} {ls st : List Value} {m : e_M} : s_j X d 233 79 ls st m = s_x X d 233 [.aload 0, .checkcast 640, .sipush 0, .iaload, .sipush 1, .isub, .jsr 87] ls st m := by
  rw [s_j, s_g_eq, g_l233]; rfl
theorem u_233_87 {X : e_X} {d : Nat} {ls st : List Value} {m : e_M} : s_j X d 233 87 ls st m = s_x X d 233 [.istore 2, .goto 32] ls st m := by
  rw [s_j, s_g_eq, g_l233]; rfl
theorem u_233_91 {X : e_X} {d : Nat} {ls st : List Value} {m : e_M} : s_j X d 233 91 ls st m = s_x X d 233 [.aload 0, .invokeinterface 232 1, .iload 2, .ireturn] ls st m := by
  rw [s_j, s_g_eq, g_l233]; rfl
/-- M.widthFor -/
theorem g_l234 (l : Nat) : g_P 234 l = (g_c234.lookup l).getD [] := rfl
theorem v_234_69 {X : e_X} {d : Nat} {a1 : Int32} {I J : Nat → Int → Int} : s_S X (d + 1) 234 [.ref 69, .int a1] (mm I J) = s_j X d 234 0 [.ref 69, .int a1] [] (mm I J) := s_S_in rfl rfl
theorem u_234_0 {X : e_X} {d : Nat} {ls st : List Value} {m : e_M} : s_j X d 234 0 ls st m = s_x X d 234 [.aload 0, .iload 1, .sipush 2, .sipush 9, .invokeinterface 235 4, .ireturn] ls st m := by
  rw [s_j, s_g_eq, g_l234]; rfl
/-- M.bestFor -/
theorem g_l235 (l : Nat) : g_P 235 l = (g_c235.lookup l).getD [] := rfl
theorem v_235_69 {X : e_X} {d : Nat} {a1 : Int32} {a2 : Int32} {a3 : Int32} {I J : Nat → Int → Int} : s_S X (d + 1) 235 [.ref 69, .int a1, .int a2, .int a3] (mm I J) = s_j X d 235 0 [.ref 69, .int a1, .int a2, .int a3, .retAddr 0, .retAddr 0, .retAddr 0, .retAddr 0] [] (mm I J) := s_S_in rfl rfl
theorem u_235_0 {X : e_X} {d : Nat} {ls st : List Value} {m : e_M} : s_j X d 235 0 ls st m = s_x X d 235 [.aload 0, .iload 1, .invokeinterface 194 2, .ifCond .ne 10, .sipush (-1), .ireturn] ls st m := by
  rw [s_j, s_g_eq, g_l235]; rfl
theorem u_235_10 {X : e_X} {d : Nat} {ls st : List Value} {m : e_M} : s_j X d 235 10 ls st m = s_x X d 235 [.sipush 0, .istore 4, .sipush (-1), .istore 5, .aload 0, .invokeinterface 230 1, .sipush 0, .istore 6, .jsr 23] ls st m := by
  rw [s_j, s_g_eq, g_l235]; rfl
theorem u_235_23 {X : e_X} {d : Nat} {ls st : List Value} {m : e_M} : s_j X d 235 23 ls st m = s_x X d 235 [.iload 6, .iload 3, .if_icmp .gt 87, .aload 0, .iload 1, .iload 2, .iload 6, .invokeinterface 192 4, .aload 0, .sipush 16, .invokeinterface 231 2, .istore 7, .iload 7, .iload 5, .if_icmp .le 57, .iload 6, .goto 59] ls st m := by
  rw [s_j, s_g_eq, g_l235]; rfl
theorem u_235_57 {X : e_X} {d : Nat} {ls st : List Value} {m : e_M} : s_j X d 235 57 ls st m = s_x X d 235 [.iload 4, .jsr 59] ls st m := by
  rw [s_j, s_g_eq, g_l235]; rfl
theorem u_235_59 {X : e_X} {d : Nat} {ls st : List Value} {m : e_M} : s_j X d 235 59 ls st m = s_x X d 235 [.istore 4, .iload 7, .iload 5, .if_icmp .le 73, .iload 7, .goto 75] ls st m := by
  rw [s_j, s_g_eq, g_l235]; rfl
theorem u_235_73 {X : e_X} {d : Nat} {ls st : List Value} {m : e_M} : s_j X d 235 73 ls st m = s_x X d 235 [.iload 5, .jsr 75] ls st m := by
  rw [s_j, s_g_eq, g_l235]; rfl
theorem u_235_75 {X : e_X} {d : Nat} {ls st : List Value} {m : e_M} : s_j X d 235 75 ls st m = s_x X d 235 [.istore 5, .aload 0, .invokeinterface 232 1, .iinc 6 1, .goto 23] ls st m := by
  rw [s_j, s_g_eq, g_l235]; rfl
theorem u_235_87 {X : e_X} {d : Nat} {ls st : List Value} {m : e_M} : s_j X d 235 87 ls st m = s_x X d 235 [.iload 4, .ireturn] ls st m := by
  rw [s_j, s_g_eq, g_l235]; rfl
/-- M.pieceFor -/
theorem g_l236 (l : Nat) : g_P 236 l = (g_c236.lookup l).getD [] := rfl
theorem v_236_69 {X : e_X} {d : Nat} {a1 : Int32} {I J : Nat → Int → Int} : s_S X (d + 1) 236 [.ref 69, .int a1] (mm I J) = s_j X d 236 0 [.ref 69, .int a1] [] (mm I J) := s_S_in rfl rfl
theorem u_236_0 {X : e_X} {d : Nat} {ls st : List Value} {m : e_M} : s_j X d 236 0 ls st m = s_x X d 236 [.aload 0, .iload 1, .sipush 1, .sipush 39, .invokeinterface 235 4, .ireturn] ls st m := by
  rw [s_j, s_g_eq, g_l236]; rfl
/-- M.over -/
theorem g_l237 (l : Nat) : g_P 237 l = (g_c237.lookup l).getD [] := rfl
theorem v_237_69 {X : e_X} {d : Nat} {a1 : Int32} {I J : Nat → Int → Int} : s_S X (d + 1) 237 [.ref 69, .int a1] (mm I J) = s_j X d 237 0 [.ref 69, .int a1, .retAddr 0, .retAddr 0] [] (mm I J) := s_S_in rfl rfl
theorem u_237_0 {X : e_X} {d : Nat} {ls st : List Value} {m : e_M} : s_j X d 237 0 ls st m = s_x X d 237 [.iload 1, .sipush 0, .sipush 40, .invokeinterface 172 3, .ifCond .ne 12, .sipush (-1), .ireturn] ls st m := by
  rw [s_j, s_g_eq, g_l237]; rfl
theorem u_237_12 {X : e_X} {d : Nat} {ls st : List Value} {m : e_M} : s_j X d 237 12 ls st m = s_x X d 237 [.aload 0, .invokeinterface 230 1, .sipush (-3), .istore 2, .jsr 19] ls st m := by
  rw [s_j, s_g_eq, g_l237]; rfl
theorem u_237_19 {X : e_X} {d : Nat} {ls st : List Value} {m : e_M} : s_j X d 237 19 ls st m = s_x X d 237 [.iload 2, .sipush (-3), .if_icmp .ne 69, .aload 0, .invokeinterface 217 1, .ifCond .ne 69, .aload 0, .sipush (-1), .invokeinterface 220 2, .istore 3, .aload 0, .checkcast 640, .sipush 4, .iaload, .iload 1, .if_icmp .lt 63, .iload 3, .ifCond .lt 63, .aload 0, .checkcast 640, .sipush 0, .iaload, .sipush 1, .isub, .goto 65] ls st m := by
  rw [s_j, s_g_eq, g_l237]; rfl
theorem u_237_63 {X : e_X} {d : Nat} {ls st : List Value} {m : e_M} : s_j X d 237 63 ls st m = s_x X d 237 [.sipush (-3), .jsr 65] ls st m := by
  rw [s_j, s_g_eq, g_l237]; rfl
theorem u_237_65 {X : e_X} {d : Nat} {ls st : List Value} {m : e_M} : s_j X d 237 65 ls st m = s_x X d 237 [.istore 2, .goto 19] ls st m := by
  rw [s_j, s_g_eq, g_l237]; rfl
theorem u_237_69 {X : e_X} {d : Nat} {ls st : List Value} {m : e_M} : s_j X d 237 69 ls st m = s_x X d 237 [.aload 0, .invokeinterface 232 1, .iload 2, .ireturn] ls st m := by
  rw [s_j, s_g_eq, g_l237]; rfl
/-- M.gap -/
theorem g_l238 (l : Nat) : g_P 238 l = (g_c238.lookup l).getD [] := rfl
theorem v_238_69 {X : e_X} {d : Nat} {a1 : Int32} {I J : Nat → Int → Int} : s_S X (d + 1) 238 [.ref 69, .int a1] (mm I J) = s_j X d 238 0 [.ref 69, .int a1, .retAddr 0, .retAddr 0, .retAddr 0, .retAddr 0, .retAddr 0] [] (mm I J) := s_S_in rfl rfl
theorem u_238_0 {X : e_X} {d : Nat} {ls st : List Value} {m : e_M} : s_j X d 238 0 ls st m = s_x X d 238 [.iload 1, .sipush 0, .sipush 1, .invokeinterface 172 3, .ifCond .ne 11, .sipush (-1), .ireturn] ls st m := by
  rw [s_j, s_g_eq, g_l238]; rfl
theorem u_238_11 {X : e_X} {d : Nat} {ls st : List Value} {m : e_M} : s_j X d 238 11 ls st m = s_x X d 238 [.sipush 0, .istore 2, .sipush (-3), .istore 3, .sipush 39, .istore 4, .jsr 20] ls st m := by
  rw [s_j, s_g_eq, g_l238]; rfl
theorem u_238_20 {X : e_X} {d : Nat} {ls st : List Value} {m : e_M} : s_j X d 238 20 ls st m = s_x X d 238 [.iload 4, .ifCond .lt 118, .sipush 0, .istore 5, .sipush 0, .istore 6, .jsr 31] ls st m := by
  rw [s_j, s_g_eq, g_l238]; rfl
theorem u_238_31 {X : e_X} {d : Nat} {ls st : List Value} {m : e_M} : s_j X d 238 31 ls st m = s_x X d 238 [.iload 6, .aload 0, .checkcast 640, .sipush 6, .iaload, .if_icmp .ge 72, .iload 5, .ifCond .ne 59, .aload 0, .iload 6, .iload 4, .invokeinterface 228 3, .ifCond .eq 63, .jsr 59] ls st m := by
  rw [s_j, s_g_eq, g_l238]; rfl
theorem u_238_59 {X : e_X} {d : Nat} {ls st : List Value} {m : e_M} : s_j X d 238 59 ls st m = s_x X d 238 [.sipush 1, .goto 64] ls st m := by
  rw [s_j, s_g_eq, g_l238]; rfl
theorem u_238_63 {X : e_X} {d : Nat} {ls st : List Value} {m : e_M} : s_j X d 238 63 ls st m = s_x X d 238 [.sipush 0, .jsr 64] ls st m := by
  rw [s_j, s_g_eq, g_l238]; rfl
theorem u_238_64 {X : e_X} {d : Nat} {ls st : List Value} {m : e_M} : s_j X d 238 64 ls st m = s_x X d 238 [.istore 5, .iinc 6 1, .goto 31] ls st m := by
  rw [s_j, s_g_eq, g_l238]; rfl
theorem u_238_72 {X : e_X} {d : Nat} {ls st : List Value} {m : e_M} : s_j X d 238 72 ls st m = s_x X d 238 [.iload 2, .aload 0, .iload 4, .invokeinterface 227 2, .ifCond .eq 86, .sipush 0, .goto 87] ls st m := by
  rw [s_j, s_g_eq, g_l238]; rfl
theorem u_238_86 {X : e_X} {d : Nat} {ls st : List Value} {m : e_M} : s_j X d 238 86 ls st m = s_x X d 238 [.sipush 1, .jsr 87] ls st m := by
  rw [s_j, s_g_eq, g_l238]; rfl
theorem u_238_87 {X : e_X} {d : Nat} {ls st : List Value} {m : e_M} : s_j X d 238 87 ls st m = s_x X d 238 [.iadd, .istore 2, .iload 4, .aload 0, .checkcast 640, .sipush 4, .iaload, .if_icmp .lt 110, .iload 5, .ifCond .ne 110, .iload 4, .goto 111] ls st m := by
  rw [s_j, s_g_eq, g_l238]; rfl
theorem u_238_110 {X : e_X} {d : Nat} {ls st : List Value} {m : e_M} : s_j X d 238 110 ls st m = s_x X d 238 [.iload 3, .jsr 111] ls st m := by
  rw [s_j, s_g_eq, g_l238]; rfl
theorem u_238_111 {X : e_X} {d : Nat} {ls st : List Value} {m : e_M} : s_j X d 238 111 ls st m = s_x X d 238 [.istore 3, .iinc 4 (-1), .goto 20] ls st m := by
  rw [s_j, s_g_eq, g_l238]; rfl
theorem u_238_118 {X : e_X} {d : Nat} {ls st : List Value} {m : e_M} : s_j X d 238 118 ls st m = s_x X d 238 [.iload 1, .ifCond .ne 126, .iload 3, .goto 127] ls st m := by
  rw [s_j, s_g_eq, g_l238]; rfl
theorem u_238_126 {X : e_X} {d : Nat} {ls st : List Value} {m : e_M} : s_j X d 238 126 ls st m = s_x X d 238 [.iload 2, .jsr 127] ls st m := by
  rw [s_j, s_g_eq, g_l238]; rfl
theorem u_238_127 {X : e_X} {d : Nat} {ls st : List Value} {m : e_M} : s_j X d 238 127 ls st m = s_x X d 238 [.ireturn] ls st m := by
  rw [s_j, s_g_eq, g_l238]; rfl
/-- M.branches -/
theorem g_l239 (l : Nat) : g_P 239 l = (g_c239.lookup l).getD [] := rfl
theorem v_239_69 {X : e_X} {d : Nat} {a1 : Int32} {I J : Nat → Int → Int} : s_S X (d + 1) 239 [.ref 69, .int a1] (mm I J) = s_j X d 239 0 [.ref 69, .int a1, .retAddr 0, .retAddr 0, .retAddr 0] [] (mm I J) := s_S_in rfl rfl
theorem u_239_0 {X : e_X} {d : Nat} {ls st : List Value} {m : e_M} : s_j X d 239 0 ls st m = s_x X d 239 [.iload 1, .sipush (-1), .if_icmp .eq 15, .aload 0, .iload 1, .invokeinterface 194 2, .ifCond .ne 15, .sipush (-1), .ireturn] ls st m := by
  rw [s_j, s_g_eq, g_l239]; rfl
theorem u_239_15 {X : e_X} {d : Nat} {ls st : List Value} {m : e_M} : s_j X d 239 15 ls st m = s_x X d 239 [.iload 1, .ifCond .lt 25, .aload 0, .iload 1, .invokeinterface 240 2, .ireturn] ls st m := by
  rw [s_j, s_g_eq, g_l239]; rfl
theorem u_239_25 {X : e_X} {d : Nat} {ls st : List Value} {m : e_M} : s_j X d 239 25 ls st m = s_x X d 239 [.sipush 0, .istore 2, .sipush 0, .istore 3, .jsr 29] ls st m := by
  rw [s_j, s_g_eq, g_l239]; rfl
theorem u_239_29 {X : e_X} {d : Nat} {ls st : List Value} {m : e_M} : s_j X d 239 29 ls st m = s_x X d 239 [.iload 3, .aload 0, .checkcast 640, .sipush 6, .iaload, .if_icmp .ge 75, .aload 0, .iload 3, .invokeinterface 240 2, .istore 4, .iload 2, .iload 4, .ifCond .eq 66, .iload 4, .sipush 1, .iload 3, .ishl, .irem, .ifCond .ne 66, .sipush 1, .goto 67] ls st m := by
  rw [s_j, s_g_eq, g_l239]; rfl
theorem u_239_66 {X : e_X} {d : Nat} {ls st : List Value} {m : e_M} : s_j X d 239 66 ls st m = s_x X d 239 [.sipush 0, .jsr 67] ls st m := by
  rw [s_j, s_g_eq, g_l239]; rfl
theorem u_239_67 {X : e_X} {d : Nat} {ls st : List Value} {m : e_M} : s_j X d 239 67 ls st m = s_x X d 239 [.iadd, .istore 2, .iinc 3 1, .goto 29] ls st m := by
  rw [s_j, s_g_eq, g_l239]; rfl
theorem u_239_75 {X : e_X} {d : Nat} {ls st : List Value} {m : e_M} : s_j X d 239 75 ls st m = s_x X d 239 [.iload 2, .ireturn] ls st m := by
  rw [s_j, s_g_eq, g_l239]; rfl
/-- M.branchOf -/
theorem g_l240 (l : Nat) : g_P 240 l = (g_c240.lookup l).getD [] := rfl
theorem v_240_69 {X : e_X} {d : Nat} {a1 : Int32} {I J : Nat → Int → Int} : s_S X (d + 1) 240 [.ref 69, .int a1] (mm I J) = s_j X d 240 0 [.ref 69, .int a1, .retAddr 0, .retAddr 0, .retAddr 0, .retAddr 0] [] (mm I J) := s_S_in rfl rfl
theorem u_240_0 {X : e_X} {d : Nat} {ls st : List Value} {m : e_M} : s_j X d 240 0 ls st m = s_x X d 240 [.sipush 1, .iload 1, .ishl, .istore 2, .sipush 0, .istore 3, .jsr 6] ls st m := by
  rw [s_j, s_g_eq, g_l240]; rfl
theorem u_240_6 {X : e_X} {d : Nat} {ls st : List Value} {m : e_M} : s_j X d 240 6 ls st m = s_x X d 240 [.iload 3, .aload 0, .checkcast 640, .sipush 6, .iaload, .if_icmp .ge 97, .sipush 0, .istore 4, .jsr 20] ls st m := by
  rw [s_j, s_g_eq, g_l240]; rfl
theorem u_240_20 {X : e_X} {d : Nat} {ls st : List Value} {m : e_M} : s_j X d 240 20 ls st m = s_x X d 240 [.iload 4, .aload 0, .checkcast 640, .sipush 6, .iaload, .if_icmp .ge 91, .sipush 0, .istore 5, .jsr 35] ls st m := by
  rw [s_j, s_g_eq, g_l240]; rfl
theorem u_240_35 {X : e_X} {d : Nat} {ls st : List Value} {m : e_M} : s_j X d 240 35 ls st m = s_x X d 240 [.iload 5, .aload 0, .checkcast 640, .sipush 6, .iaload, .if_icmp .ge 85, .iload 2, .iload 2, .iload 4, .ishr, .sipush 1, .iand, .sipush 1, .if_icmp .ne 76, .aload 0, .iload 4, .iload 5, .invokeinterface 241 3, .ifCond .eq 76, .sipush 1, .iload 5, .ishl, .goto 77] ls st m := by
  rw [s_j, s_g_eq, g_l240]; rfl
theorem u_240_76 {X : e_X} {d : Nat} {ls st : List Value} {m : e_M} : s_j X d 240 76 ls st m = s_x X d 240 [.sipush 0, .jsr 77] ls st m := by
  rw [s_j, s_g_eq, g_l240]; rfl
theorem u_240_77 {X : e_X} {d : Nat} {ls st : List Value} {m : e_M} : s_j X d 240 77 ls st m = s_x X d 240 [.ior, .istore 2, .iinc 5 1, .goto 35] ls st m := by
  rw [s_j, s_g_eq, g_l240]; rfl
theorem u_240_85 {X : e_X} {d : Nat} {ls st : List Value} {m : e_M} : s_j X d 240 85 ls st m = s_x X d 240 [.iinc 4 1, .goto 20] ls st m := by
  rw [s_j, s_g_eq, g_l240]; rfl
theorem u_240_91 {X : e_X} {d : Nat} {ls st : List Value} {m : e_M} : s_j X d 240 91 ls st m = s_x X d 240 [.iinc 3 1, .goto 6] ls st m := by
  rw [s_j, s_g_eq, g_l240]; rfl
theorem u_240_97 {X : e_X} {d : Nat} {ls st : List Value} {m : e_M} : s_j X d 240 97 ls st m = s_x X d 240 [.aload 0, .iload 1, .sipush 4, .invokeinterface 196 3, .sipush 1, .if_icmp .ne 111, .sipush 0, .goto 112] ls st m := by
  rw [s_j, s_g_eq, g_l240]; rfl
theorem u_240_111 {X : e_X} {d : Nat} {ls st : List Value} {m : e_M} : s_j X d 240 111 ls st m = s_x X d 240 [.iload 2, .jsr 112] ls st m := by
  rw [s_j, s_g_eq, g_l240]; rfl
theorem u_240_112 {X : e_X} {d : Nat} {ls st : List Value} {m : e_M} : s_j X d 240 112 ls st m = s_x X d 240 [.ireturn] ls st m := by
  rw [s_j, s_g_eq, g_l240]; rfl
/-- M.areClose -/
theorem g_l241 (l : Nat) : g_P 241 l = (g_c241.lookup l).getD [] := rfl
theorem v_241_69 {X : e_X} {d : Nat} {a1 : Int32} {a2 : Int32} {I J : Nat → Int → Int} : s_S X (d + 1) 241 [.ref 69, .int a1, .int a2] (mm I J) = s_j X d 241 0 [.ref 69, .int a1, .int a2, .retAddr 0] [] (mm I J) := s_S_in rfl rfl
theorem u_241_0 {X : e_X} {d : Nat} {ls st : List Value} {m : e_M} : s_j X d 241 0 ls st m = s_x X d 241 [.aload 0, .iload 1, .sipush 1, .invokeinterface 196 3, .aload 0, .iload 2, .sipush 1, .invokeinterface 196 3, .isub, .istore 3, .aload 0, .iload 1, .sipush 4, .invokeinterface 196 3, .ifCond .ne 61, .aload 0, .iload 2, .sipush 4, .invokeinterface 196 3, .ifCond .ne 61, .aload 0, .iload 1, .sipush 3, .invokeinterface 196 3, .aload 0, .iload 2, .sipush 3, .invokeinterface 196 3, .if_icmp .eq 57, .iload 3, .sipush (-2), .sipush 2, .invokeinterface 172 3, .ifCond .eq 61, .jsr 57] ls st m := by
  rw [s_j, s_g_eq, g_l241]; rfl
theorem u_241_57 {X : e_X} {d : Nat} {ls st : List Value} {m : e_M} : s_j X d 241 57 ls st m = s_x X d 241 [.sipush 1, .goto 62] ls st m := by
  rw [s_j, s_g_eq, g_l241]; rfl
theorem u_241_61 {X : e_X} {d : Nat} {ls st : List Value} {m : e_M} : s_j X d 241 61 ls st m = s_x X d 241 [.sipush 0, .jsr 62] ls st m := by
  rw [s_j, s_g_eq, g_l241]; rfl
theorem u_241_62 {X : e_X} {d : Nat} {ls st : List Value} {m : e_M} : s_j X d 241 62 ls st m = s_x X d 241 [.areturn] ls st m := by
  rw [s_j, s_g_eq, g_l241]; rfl
/-- M.fetch -/
theorem g_l242 (l : Nat) : g_P 242 l = (g_c242.lookup l).getD [] := rfl
theorem v_242_69 {X : e_X} {d : Nat} {a1 : Int32} {a2 : Int32} {I J : Nat → Int → Int} : s_S X (d + 1) 242 [.ref 69, .int a1, .int a2] (mm I J) = s_j X d 242 0 [.ref 69, .int a1, .int a2, .retAddr 0] [] (mm I J) := s_S_in rfl rfl
theorem u_242_0 {X : e_X} {d : Nat} {ls st : List Value} {m : e_M} : s_j X d 242 0 ls st m = s_x X d 242 [.iload 1, .sipush 0, .sipush 40, .invokeinterface 172 3, .ifCond .eq 19, .iload 2, .sipush 0, .sipush 1, .invokeinterface 172 3, .ifCond .ne 21, .jsr 19] ls st m := by
  rw [s_j, s_g_eq, g_l242]; rfl
theorem u_242_19 {X : e_X} {d : Nat} {ls st : List Value} {m : e_M} : s_j X d 242 19 ls st m = s_x X d 242 [.sipush (-1), .ireturn] ls st m := by
  rw [s_j, s_g_eq, g_l242]; rfl
theorem u_242_21 {X : e_X} {d : Nat} {ls st : List Value} {m : e_M} : s_j X d 242 21 ls st m = s_x X d 242 [.sipush 1, .aload 0, .checkcast 640, .sipush 6, .iaload, .ishl, .sipush 1, .isub, .aload 0, .sipush 4, .invokeinterface 218 2, .sipush (-1), .ixor, .iand, .istore 3, .aload 0, .sipush (-1), .putfield 656, .aload 0, .iload 3, .iload 1, .sipush 0, .sipush (-1), .invokeinterface 243 5, .iload 2, .ifCond .ne 65, .aload 0, .getfield 656, .goto 78] ls st m := by
  rw [s_j, s_g_eq, g_l242]; rfl
theorem u_242_65 {X : e_X} {d : Nat} {ls st : List Value} {m : e_M} : s_j X d 242 65 ls st m = s_x X d 242 [.iload 3, .ifCond .ne 74, .sipush (-3), .goto 78] ls st m := by
  rw [s_j, s_g_eq, g_l242]; rfl
theorem u_242_74 {X : e_X} {d : Nat} {ls st : List Value} {m : e_M} : s_j X d 242 74 ls st m = s_x X d 242 [.aload 0, .getfield 657, .jsr 78] ls st m := by
  rw [s_j, s_g_eq, g_l242]; rfl
theorem u_242_78 {X : e_X} {d : Nat} {ls st : List Value} {m : e_M} : s_j X d 242 78 ls st m = s_x X d 242 [.ireturn] ls st m := by
  rw [s_j, s_g_eq, g_l242]; rfl
/-- M.goesRound -/
theorem g_l243 (l : Nat) : g_P 243 l = (g_c243.lookup l).getD [] := rfl
theorem v_243_69 {X : e_X} {d : Nat} {a1 : Int32} {a2 : Int32} {a3 : Int32} {a4 : Int32} {I J : Nat → Int → Int} : s_S X (d + 1) 243 [.ref 69, .int a1, .int a2, .int a3, .int a4] (mm I J) = s_j X d 243 0 [.ref 69, .int a1, .int a2, .int a3, .int a4, .retAddr 0, .retAddr 0] [] (mm I J) := s_S_in rfl rfl
theorem u_243_0 {X : e_X} {d : Nat} {ls st : List Value} {m : e_M} : s_j X d 243 0 ls st m = s_x X d 243 [.iload 1, .ifCond .ne 31, .aload 0, .getfield 656, .ifCond .lt 19, .iload 3, .aload 0, .getfield 656, .if_icmp .ge 30, .jsr 19] ls st m := by
  rw [s_j, s_g_eq, g_l243]; rfl
theorem u_243_19 {X : e_X} {d : Nat} {ls st : List Value} {m : e_M} : s_j X d 243 19 ls st m = s_x X d 243 [.aload 0, .iload 3, .putfield 656, .aload 0, .iload 4, .putfield 657, .jsr 30] ls st m := by
  rw [s_j, s_g_eq, g_l243]; rfl
theorem u_243_30 {X : e_X} {d : Nat} {ls st : List Value} {m : e_M} : s_j X d 243 30 ls st m = s_x X d 243 [.return_] ls st m := by
  rw [s_j, s_g_eq, g_l243]; rfl
theorem u_243_31 {X : e_X} {d : Nat} {ls st : List Value} {m : e_M} : s_j X d 243 31 ls st m = s_x X d 243 [.sipush 0, .istore 5, .jsr 34] ls st m := by
  rw [s_j, s_g_eq, g_l243]; rfl
theorem u_243_34 {X : e_X} {d : Nat} {ls st : List Value} {m : e_M} : s_j X d 243 34 ls st m = s_x X d 243 [.iload 5, .aload 0, .checkcast 640, .sipush 6, .iaload, .if_icmp .ge 131, .iload 1, .iload 5, .ishr, .sipush 1, .iand, .sipush 1, .if_icmp .ne 125, .aload 0, .iload 5, .sipush 1, .invokeinterface 196 3, .iload 2, .if_icmp .ge 79, .iload 2, .aload 0, .iload 5, .sipush 1, .invokeinterface 196 3, .isub, .goto 88] ls st m := by
  rw [s_j, s_g_eq, g_l243]; rfl
theorem u_243_79 {X : e_X} {d : Nat} {ls st : List Value} {m : e_M} : s_j X d 243 79 ls st m = s_x X d 243 [.aload 0, .iload 5, .sipush 1, .invokeinterface 196 3, .iload 2, .isub, .jsr 88] ls st m := by
  rw [s_j, s_g_eq, g_l243]; rfl
theorem u_243_88 {X : e_X} {d : Nat} {ls st : List Value} {m : e_M} : s_j X d 243 88 ls st m = s_x X d 243 [.istore 6, .aload 0, .iload 1, .sipush 1, .iload 5, .ishl, .sipush (-1), .ixor, .iand, .aload 0, .iload 5, .sipush 1, .invokeinterface 196 3, .iload 3, .iload 6, .iadd, .iload 4, .ifCond .ge 120, .iload 5, .goto 122] ls st m := by
  rw [s_j, s_g_eq, g_l243]; rfl
theorem u_243_120 {X : e_X} {d : Nat} {ls st : List Value} {m : e_M} : s_j X d 243 120 ls st m = s_x X d 243 [.iload 4, .jsr 122] ls st m := by
  rw [s_j, s_g_eq, g_l243]; rfl
theorem u_243_122 {X : e_X} {d : Nat} {ls st : List Value} {m : e_M} : s_j X d 243 122 ls st m = s_x X d 243 [.invokeinterface 243 5, .jsr 125] ls st m := by
  rw [s_j, s_g_eq, g_l243]; rfl
theorem u_243_125 {X : e_X} {d : Nat} {ls st : List Value} {m : e_M} : s_j X d 243 125 ls st m = s_x X d 243 [.iinc 5 1, .goto 34] ls st m := by
  rw [s_j, s_g_eq, g_l243]; rfl
theorem u_243_131 {X : e_X} {d : Nat} {ls st : List Value} {m : e_M} : s_j X d 243 131 ls st m = s_x X d 243 [.return_] ls st m := by
  rw [s_j, s_g_eq, g_l243]; rfl
/-- M.best -/
theorem g_l244 (l : Nat) : g_P 244 l = (g_c244.lookup l).getD [] := rfl
theorem v_244_69 {X : e_X} {d : Nat} {a1 : Int32} {I J : Nat → Int → Int} : s_S X (d + 1) 244 [.ref 69, .int a1] (mm I J) = s_j X d 244 0 [.ref 69, .int a1] [] (mm I J) := s_S_in rfl rfl
theorem u_244_0 {X : e_X} {d : Nat} {ls st : List Value} {m : e_M} : s_j X d 244 0 ls st m = s_x X d 244 [.iload 1, .invokeinterface 245 1, .ifCond .ne 9, .sipush (-1), .ireturn] ls st m := by
  rw [s_j, s_g_eq, g_l244]; rfl
theorem u_244_9 {X : e_X} {d : Nat} {ls st : List Value} {m : e_M} : s_j X d 244 9 ls st m = s_x X d 244 [.aload 0, .iload 1, .sipush 0, .invokeinterface 246 3, .aload 0, .getfield 661, .ireturn] ls st m := by
  rw [s_j, s_g_eq, g_l244]; rfl
/-- M.isPlan -/
theorem g_l245 (l : Nat) : g_P 245 l = (g_c245.lookup l).getD [] := rfl
theorem v_245 {X : e_X} {d : Nat} {a0 : Int32} {I J : Nat → Int → Int} : s_S X (d + 1) 245 [.int a0] (mm I J) = s_j X d 245 0 [.int a0] [] (mm I J) := s_S_in rfl rfl
theorem u_245_0 {X : e_X} {d : Nat} {ls st : List Value} {m : e_M} : s_j X d 245 0 ls st m = s_x X d 245 [.iload 0, .sipush 0, .sipush 4, .invokeinterface 172 3, .areturn] ls st m := by
  rw [s_j, s_g_eq, g_l245]; rfl
/-- M.triesAll -/
theorem g_l246 (l : Nat) : g_P 246 l = (g_c246.lookup l).getD [] := rfl
theorem v_246_69 {X : e_X} {d : Nat} {a1 : Int32} {a2 : Int32} {I J : Nat → Int → Int} : s_S X (d + 1) 246 [.ref 69, .int a1, .int a2] (mm I J) = s_j X d 246 0 [.ref 69, .int a1, .int a2] [] (mm I J) := s_S_in rfl rfl
theorem u_246_0 {X : e_X} {d : Nat} {ls st : List Value} {m : e_M} : s_j X d 246 0 ls st m = s_x X d 246 [.aload 0, .sipush (-1), .putfield 661, .aload 0, .sipush 0, .putfield 662, .aload 0, .sipush 5, .putfield 663, .aload 0, .sipush 0, .putfield 664, .aload 0, .sipush 0, .aload 0, .iload 1, .invokeinterface 247 2, .sipush 0, .sipush 0, .iload 2, .invokeinterface 248 6, .return_] ls st m := by
  rw [s_j, s_g_eq, g_l246]; rfl
/-- M.daysOf -/
theorem g_l247 (l : Nat) : g_P 247 l = (g_c247.lookup l).getD [] := rfl
theorem v_247_69 {X : e_X} {d : Nat} {a1 : Int32} {I J : Nat → Int → Int} : s_S X (d + 1) 247 [.ref 69, .int a1] (mm I J) = s_j X d 247 0 [.ref 69, .int a1, .retAddr 0] [] (mm I J) := s_S_in rfl rfl
theorem u_247_0 {X : e_X} {d : Nat} {ls st : List Value} {m : e_M} : s_j X d 247 0 ls st m = s_x X d 247 [.aload 0, .invokeinterface 217 1, .ifCond .eq 11, .sipush 0, .goto 24] ls st m := by
  rw [s_j, s_g_eq, g_l247]; rfl
theorem u_247_11 {X : e_X} {d : Nat} {ls st : List Value} {m : e_M} : s_j X d 247 11 ls st m = s_x X d 247 [.aload 0, .checkcast 640, .sipush 1, .iaload, .aload 0, .checkcast 640, .sipush 0, .iaload, .isub, .jsr 24] ls st m := by
  rw [s_j, s_g_eq, g_l247]; rfl
theorem u_247_24 {X : e_X} {d : Nat} {ls st : List Value} {m : e_M} : s_j X d 247 24 ls st m = s_x X d 247 [.istore 2, .iload 1, .iload 2, .if_icmp .ge 34, .iload 1, .goto 35] ls st m := by
  rw [s_j, s_g_eq, g_l247]; rfl
theorem u_247_34 {X : e_X} {d : Nat} {ls st : List Value} {m : e_M} : s_j X d 247 34 ls st m = s_x X d 247 [.iload 2, .jsr 35] ls st m := by
  rw [s_j, s_g_eq, g_l247]; rfl
theorem u_247_35 {X : e_X} {d : Nat} {ls st : List Value} {m : e_M} : s_j X d 247 35 ls st m = s_x X d 247 [.ireturn] ls st m := by
  rw [s_j, s_g_eq, g_l247]; rfl
/-- M.goesPlans -/
theorem g_l248 (l : Nat) : g_P 248 l = (g_c248.lookup l).getD [] := rfl
theorem v_248_69 {X : e_X} {d : Nat} {a1 : Int32} {a2 : Int32} {a3 : Int32} {a4 : Int32} {a5 : Int32} {I J : Nat → Int → Int} : s_S X (d + 1) 248 [.ref 69, .int a1, .int a2, .int a3, .int a4, .int a5] (mm I J) = s_j X d 248 0 [.ref 69, .int a1, .int a2, .int a3, .int a4, .int a5, .retAddr 0, .retAddr 0] [] (mm I J) := s_S_in rfl rfl
theorem u_248_0 {X : e_X} {d : Nat} {ls st : List Value} {m : e_M} : s_j X d 248 0 ls st m = s_x X d 248 [.iload 1, .iload 2, .if_icmp .ne 16, .aload 0, .iload 2, .iload 3, .iload 4, .iload 5, .invokeinterface 249 5, .return_] ls st m := by
  rw [s_j, s_g_eq, g_l248]; rfl
theorem u_248_16 {X : e_X} {d : Nat} {ls st : List Value} {m : e_M} : s_j X d 248 16 ls st m = s_x X d 248 [.aload 0, .iload 1, .invokeinterface 250 2, .sipush 0, .istore 6, .jsr 24] ls st m := by
  rw [s_j, s_g_eq, g_l248]; rfl
theorem u_248_24 {X : e_X} {d : Nat} {ls st : List Value} {m : e_M} : s_j X d 248 24 ls st m = s_x X d 248 [.iload 6, .aload 0, .checkcast 640, .sipush 6, .iaload, .if_icmp .gt 91, .aload 0, .checkcast 659, .iload 1, .iload 6, .iastore, .aload 0, .iload 6, .invokeinterface 220 2, .istore 7, .aload 0, .iload 1, .sipush 1, .iadd, .iload 2, .iload 3, .iload 7, .iadd, .iload 6, .ifCond .le 73, .iload 4, .sipush 1, .iadd, .goto 75] ls st m := by
  rw [s_j, s_g_eq, g_l248]; rfl
theorem u_248_73 {X : e_X} {d : Nat} {ls st : List Value} {m : e_M} : s_j X d 248 73 ls st m = s_x X d 248 [.iload 4, .jsr 75] ls st m := by
  rw [s_j, s_g_eq, g_l248]; rfl
theorem u_248_75 {X : e_X} {d : Nat} {ls st : List Value} {m : e_M} : s_j X d 248 75 ls st m = s_x X d 248 [.iload 5, .invokeinterface 248 6, .aload 0, .iload 1, .invokeinterface 251 2, .iinc 6 1, .goto 24] ls st m := by
  rw [s_j, s_g_eq, g_l248]; rfl
theorem u_248_91 {X : e_X} {d : Nat} {ls st : List Value} {m : e_M} : s_j X d 248 91 ls st m = s_x X d 248 [.return_] ls st m := by
  rw [s_j, s_g_eq, g_l248]; rfl
/-- M.endsPlan -/
theorem g_l249 (l : Nat) : g_P 249 l = (g_c249.lookup l).getD [] := rfl
theorem v_249_69 {X : e_X} {d : Nat} {a1 : Int32} {a2 : Int32} {a3 : Int32} {a4 : Int32} {I J : Nat → Int → Int} : s_S X (d + 1) 249 [.ref 69, .int a1, .int a2, .int a3, .int a4] (mm I J) = s_j X d 249 0 [.ref 69, .int a1, .int a2, .int a3, .int a4, .retAddr 0] [] (mm I J) := s_S_in rfl rfl
theorem u_249_0 {X : e_X} {d : Nat} {ls st : List Value} {m : e_M} : s_j X d 249 0 ls st m = s_x X d 249 [.iload 2, .aload 0, .getfield 661, .if_icmp .le 47, .aload 0, .sipush 0, .putfield 662, .aload 0, .iload 2, .putfield 661, .sipush 0, .istore 5, .jsr 21] ls st m := by
  rw [s_j, s_g_eq, g_l249]; rfl
theorem u_249_21 {X : e_X} {d : Nat} {ls st : List Value} {m : e_M} : s_j X d 249 21 ls st m = s_x X d 249 [.iload 5, .iload 1, .if_icmp .ge 47, .aload 0, .checkcast 660, .iload 5, .aload 0, .checkcast 659, .iload 5, .iaload, .iastore, .iinc 5 1, .goto 21] ls st m := by
  rw [s_j, s_g_eq, g_l249]; rfl
theorem u_249_47 {X : e_X} {d : Nat} {ls st : List Value} {m : e_M} : s_j X d 249 47 ls st m = s_x X d 249 [.aload 0, .dup, .getfield 662, .iload 2, .aload 0, .getfield 661, .if_icmp .ne 64, .sipush 1, .goto 65] ls st m := by
  rw [s_j, s_g_eq, g_l249]; rfl
theorem u_249_64 {X : e_X} {d : Nat} {ls st : List Value} {m : e_M} : s_j X d 249 64 ls st m = s_x X d 249 [.sipush 0, .jsr 65] ls st m := by
  rw [s_j, s_g_eq, g_l249]; rfl
theorem u_249_65 {X : e_X} {d : Nat} {ls st : List Value} {m : e_M} : s_j X d 249 65 ls st m = s_x X d 249 [.iadd, .putfield 662, .aload 0, .sipush 4, .invokeinterface 218 2, .istore 5, .aload 0, .iload 4, .iload 5, .sipush (-1), .ixor, .iand, .ifCond .ne 99, .iload 3, .aload 0, .getfield 663, .if_icmp .ge 99, .iload 3, .goto 103] ls st m := by
  rw [s_j, s_g_eq, g_l249]; rfl
theorem u_249_99 {X : e_X} {d : Nat} {ls st : List Value} {m : e_M} : s_j X d 249 99 ls st m = s_x X d 249 [.aload 0, .getfield 663, .jsr 103] ls st m := by
  rw [s_j, s_g_eq, g_l249]; rfl
theorem u_249_103 {X : e_X} {d : Nat} {ls st : List Value} {m : e_M} : s_j X d 249 103 ls st m = s_x X d 249 [.putfield 663, .aload 0, .dup, .getfield 664, .iload 5, .ior, .putfield 664, .return_] ls st m := by
  rw [s_j, s_g_eq, g_l249]; rfl
/-- M.saves -/
theorem g_l250 (l : Nat) : g_P 250 l = (g_c250.lookup l).getD [] := rfl
theorem v_250_69 {X : e_X} {d : Nat} {a1 : Int32} {I J : Nat → Int → Int} : s_S X (d + 1) 250 [.ref 69, .int a1] (mm I J) = s_j X d 250 0 [.ref 69, .int a1, .retAddr 0] [] (mm I J) := s_S_in rfl rfl
theorem u_250_0 {X : e_X} {d : Nat} {ls st : List Value} {m : e_M} : s_j X d 250 0 ls st m = s_x X d 250 [.sipush 0, .istore 2, .jsr 2] ls st m := by
  rw [s_j, s_g_eq, g_l250]; rfl
theorem u_250_2 {X : e_X} {d : Nat} {ls st : List Value} {m : e_M} : s_j X d 250 2 ls st m = s_x X d 250 [.iload 2, .sipush 74, .if_icmp .ge 31, .aload 0, .checkcast 658, .sipush 74, .iload 1, .imul, .iload 2, .iadd, .aload 0, .checkcast 640, .iload 2, .iaload, .iastore, .iinc 2 1, .goto 2] ls st m := by
  rw [s_j, s_g_eq, g_l250]; rfl
theorem u_250_31 {X : e_X} {d : Nat} {ls st : List Value} {m : e_M} : s_j X d 250 31 ls st m = s_x X d 250 [.return_] ls st m := by
  rw [s_j, s_g_eq, g_l250]; rfl
/-- M.restores -/
theorem g_l251 (l : Nat) : g_P 251 l = (g_c251.lookup l).getD [] := rfl
theorem v_251_69 {X : e_X} {d : Nat} {a1 : Int32} {I J : Nat → Int → Int} : s_S X (d + 1) 251 [.ref 69, .int a1] (mm I J) = s_j X d 251 0 [.ref 69, .int a1, .retAddr 0] [] (mm I J) := s_S_in rfl rfl
theorem u_251_0 {X : e_X} {d : Nat} {ls st : List Value} {m : e_M} : s_j X d 251 0 ls st m = s_x X d 251 [.sipush 0, .istore 2, .jsr 2] ls st m := by
  rw [s_j, s_g_eq, g_l251]; rfl
theorem u_251_2 {X : e_X} {d : Nat} {ls st : List Value} {m : e_M} : s_j X d 251 2 ls st m = s_x X d 251 [.iload 2, .sipush 74, .if_icmp .ge 31, .aload 0, .checkcast 640, .iload 2, .aload 0, .checkcast 658, .sipush 74, .iload 1, .imul, .iload 2, .iadd, .iaload, .iastore, .iinc 2 1, .goto 2] ls st m := by
  rw [s_j, s_g_eq, g_l251]; rfl
theorem u_251_31 {X : e_X} {d : Nat} {ls st : List Value} {m : e_M} : s_j X d 251 31 ls st m = s_x X d 251 [.return_] ls st m := by
  rw [s_j, s_g_eq, g_l251]; rfl
/-- M.ith -/
theorem g_l252 (l : Nat) : g_P 252 l = (g_c252.lookup l).getD [] := rfl
theorem v_252_69 {X : e_X} {d : Nat} {a1 : Int32} {a2 : Int32} {I J : Nat → Int → Int} : s_S X (d + 1) 252 [.ref 69, .int a1, .int a2] (mm I J) = s_j X d 252 0 [.ref 69, .int a1, .int a2] [] (mm I J) := s_S_in rfl rfl
theorem u_252_0 {X : e_X} {d : Nat} {ls st : List Value} {m : e_M} : s_j X d 252 0 ls st m = s_x X d 252 [.iload 1, .invokeinterface 245 1, .ifCond .eq 16, .iload 2, .sipush 0, .sipush 3, .invokeinterface 172 3, .ifCond .ne 18, .jsr 16] ls st m := by
  rw [s_j, s_g_eq, g_l252]; rfl
theorem u_252_16 {X : e_X} {d : Nat} {ls st : List Value} {m : e_M} : s_j X d 252 16 ls st m = s_x X d 252 [.sipush (-1), .ireturn] ls st m := by
  rw [s_j, s_g_eq, g_l252]; rfl
theorem u_252_18 {X : e_X} {d : Nat} {ls st : List Value} {m : e_M} : s_j X d 252 18 ls st m = s_x X d 252 [.aload 0, .iload 1, .sipush 0, .invokeinterface 246 3, .iload 2, .aload 0, .iload 1, .invokeinterface 247 2, .if_icmp .ge 42, .aload 0, .checkcast 660, .iload 2, .iaload, .goto 44] ls st m := by
  rw [s_j, s_g_eq, g_l252]; rfl
theorem u_252_42 {X : e_X} {d : Nat} {ls st : List Value} {m : e_M} : s_j X d 252 42 ls st m = s_x X d 252 [.sipush (-3), .jsr 44] ls st m := by
  rw [s_j, s_g_eq, g_l252]; rfl
theorem u_252_44 {X : e_X} {d : Nat} {ls st : List Value} {m : e_M} : s_j X d 252 44 ls st m = s_x X d 252 [.ireturn] ls st m := by
  rw [s_j, s_g_eq, g_l252]; rfl
/-- M.ways -/
theorem g_l253 (l : Nat) : g_P 253 l = (g_c253.lookup l).getD [] := rfl
theorem v_253_69 {X : e_X} {d : Nat} {a1 : Int32} {I J : Nat → Int → Int} : s_S X (d + 1) 253 [.ref 69, .int a1] (mm I J) = s_j X d 253 0 [.ref 69, .int a1] [] (mm I J) := s_S_in rfl rfl
theorem u_253_0 {X : e_X} {d : Nat} {ls st : List Value} {m : e_M} : s_j X d 253 0 ls st m = s_x X d 253 [.iload 1, .invokeinterface 245 1, .ifCond .ne 9, .sipush (-1), .ireturn] ls st m := by
  rw [s_j, s_g_eq, g_l253]; rfl
theorem u_253_9 {X : e_X} {d : Nat} {ls st : List Value} {m : e_M} : s_j X d 253 9 ls st m = s_x X d 253 [.aload 0, .iload 1, .sipush 0, .invokeinterface 246 3, .aload 0, .getfield 662, .ireturn] ls st m := by
  rw [s_j, s_g_eq, g_l253]; rfl
/-- M.supper -/
theorem g_l254 (l : Nat) : g_P 254 l = (g_c254.lookup l).getD [] := rfl
theorem v_254_69 {X : e_X} {d : Nat} {a1 : Int32} {a2 : Int32} {I J : Nat → Int → Int} : s_S X (d + 1) 254 [.ref 69, .int a1, .int a2] (mm I J) = s_j X d 254 0 [.ref 69, .int a1, .int a2] [] (mm I J) := s_S_in rfl rfl
theorem u_254_0 {X : e_X} {d : Nat} {ls st : List Value} {m : e_M} : s_j X d 254 0 ls st m = s_x X d 254 [.iload 1, .invokeinterface 245 1, .ifCond .eq 15, .aload 0, .iload 2, .invokeinterface 255 2, .ifCond .ne 17, .jsr 15] ls st m := by
  rw [s_j, s_g_eq, g_l254]; rfl
theorem u_254_15 {X : e_X} {d : Nat} {ls st : List Value} {m : e_M} : s_j X d 254 15 ls st m = s_x X d 254 [.sipush (-1), .ireturn] ls st m := by
  rw [s_j, s_g_eq, g_l254]; rfl
theorem u_254_17 {X : e_X} {d : Nat} {ls st : List Value} {m : e_M} : s_j X d 254 17 ls st m = s_x X d 254 [.aload 0, .iload 1, .iload 2, .invokeinterface 246 3, .aload 0, .getfield 663, .sipush 4, .if_icmp .le 36, .sipush (-3), .goto 40] ls st m := by
  rw [s_j, s_g_eq, g_l254]; rfl
theorem u_254_36 {X : e_X} {d : Nat} {ls st : List Value} {m : e_M} : s_j X d 254 36 ls st m = s_x X d 254 [.aload 0, .getfield 663, .jsr 40] ls st m := by
  rw [s_j, s_g_eq, g_l254]; rfl
theorem u_254_40 {X : e_X} {d : Nat} {ls st : List Value} {m : e_M} : s_j X d 254 40 ls st m = s_x X d 254 [.ireturn] ls st m := by
  rw [s_j, s_g_eq, g_l254]; rfl
/-- M.isSet -/
theorem g_l255 (l : Nat) : g_P 255 l = (g_c255.lookup l).getD [] := rfl
theorem v_255_69 {X : e_X} {d : Nat} {a1 : Int32} {I J : Nat → Int → Int} : s_S X (d + 1) 255 [.ref 69, .int a1] (mm I J) = s_j X d 255 0 [.ref 69, .int a1] [] (mm I J) := s_S_in rfl rfl
theorem u_255_0 {X : e_X} {d : Nat} {ls st : List Value} {m : e_M} : s_j X d 255 0 ls st m = s_x X d 255 [.iload 1, .sipush 0, .sipush 1, .aload 0, .checkcast 640, .sipush 6, .iaload, .ishl, .sipush 1, .isub, .invokeinterface 172 3, .areturn] ls st m := by
  rw [s_j, s_g_eq, g_l255]; rfl
/-- M.bars -/
theorem g_l256 (l : Nat) : g_P 256 l = (g_c256.lookup l).getD [] := rfl
theorem v_256_69 {X : e_X} {d : Nat} {a1 : Int32} {a2 : Int32} {I J : Nat → Int → Int} : s_S X (d + 1) 256 [.ref 69, .int a1, .int a2] (mm I J) = s_j X d 256 0 [.ref 69, .int a1, .int a2, .retAddr 0, .retAddr 0] [] (mm I J) := s_S_in rfl rfl
theorem u_256_0 {X : e_X} {d : Nat} {ls st : List Value} {m : e_M} : s_j X d 256 0 ls st m = s_x X d 256 [.iload 1, .invokeinterface 245 1, .ifCond .eq 15, .aload 0, .iload 2, .invokeinterface 255 2, .ifCond .ne 17, .jsr 15] ls st m := by
  rw [s_j, s_g_eq, g_l256]; rfl
theorem u_256_15 {X : e_X} {d : Nat} {ls st : List Value} {m : e_M} : s_j X d 256 15 ls st m = s_x X d 256 [.sipush (-1), .ireturn] ls st m := by
  rw [s_j, s_g_eq, g_l256]; rfl
theorem u_256_17 {X : e_X} {d : Nat} {ls st : List Value} {m : e_M} : s_j X d 256 17 ls st m = s_x X d 256 [.aload 0, .iload 1, .iload 2, .invokeinterface 246 3, .iload 2, .aload 0, .getfield 664, .sipush (-1), .ixor, .iand, .istore 3, .sipush 0, .istore 4, .jsr 35] ls st m := by
  rw [s_j, s_g_eq, g_l256]; rfl
theorem u_256_35 {X : e_X} {d : Nat} {ls st : List Value} {m : e_M} : s_j X d 256 35 ls st m = s_x X d 256 [.iload 4, .aload 0, .checkcast 640, .sipush 6, .iaload, .if_icmp .ge 62, .iload 3, .iload 4, .ishr, .sipush 1, .iand, .ifCond .ne 62, .iinc 4 1, .goto 35] ls st m := by
  rw [s_j, s_g_eq, g_l256]; rfl
theorem u_256_62 {X : e_X} {d : Nat} {ls st : List Value} {m : e_M} : s_j X d 256 62 ls st m = s_x X d 256 [.iload 4, .aload 0, .checkcast 640, .sipush 6, .iaload, .if_icmp .ge 79, .iload 4, .goto 81] ls st m := by
  rw [s_j, s_g_eq, g_l256]; rfl
theorem u_256_79 {X : e_X} {d : Nat} {ls st : List Value} {m : e_M} : s_j X d 256 79 ls st m = s_x X d 256 [.sipush (-3), .jsr 81] ls st m := by
  rw [s_j, s_g_eq, g_l256]; rfl
theorem u_256_81 {X : e_X} {d : Nat} {ls st : List Value} {m : e_M} : s_j X d 256 81 ls st m = s_x X d 256 [.ireturn] ls st m := by
  rw [s_j, s_g_eq, g_l256]; rfl
/-- M.game -/
theorem g_l257 (l : Nat) : g_P 257 l = (g_c257.lookup l).getD [] := rfl
theorem v_257_69 {X : e_X} {d : Nat} {a1 : Int32} {I J : Nat → Int → Int} : s_S X (d + 1) 257 [.ref 69, .int a1] (mm I J) = s_j X d 257 0 [.ref 69, .int a1] [] (mm I J) := s_S_in rfl rfl
theorem u_257_0 {X : e_X} {d : Nat} {ls st : List Value} {m : e_M} : s_j X d 257 0 ls st m = s_x X d 257 [.iload 1, .sipush 1, .sipush 4, .invokeinterface 172 3, .ifCond .eq 22, .aload 0, .sipush 0, .aload 0, .iload 1, .invokeinterface 247 2, .invokeinterface 258 3, .goto 23] ls st m := by
  rw [s_j, s_g_eq, g_l257]; rfl
theorem u_257_22 {X : e_X} {d : Nat} {ls st : List Value} {m : e_M} : s_j X d 257 22 ls st m = s_x X d 257 [.sipush (-1), .jsr 23] ls st m := by
  rw [s_j, s_g_eq, g_l257]; rfl
theorem u_257_23 {X : e_X} {d : Nat} {ls st : List Value} {m : e_M} : s_j X d 257 23 ls st m = s_x X d 257 [.ireturn] ls st m := by
  rw [s_j, s_g_eq, g_l257]; rfl
/-- M.playedFrom -/
theorem g_l258 (l : Nat) : g_P 258 l = (g_c258.lookup l).getD [] := rfl
theorem v_258_69 {X : e_X} {d : Nat} {a1 : Int32} {a2 : Int32} {I J : Nat → Int → Int} : s_S X (d + 1) 258 [.ref 69, .int a1, .int a2] (mm I J) = s_j X d 258 0 [.ref 69, .int a1, .int a2, .retAddr 0, .retAddr 0, .retAddr 0, .retAddr 0, .retAddr 0, .retAddr 0] [] (mm I J) := s_S_in rfl rfl
theorem u_258_0 {X : e_X} {d : Nat} {ls st : List Value} {m : e_M} : s_j X d 258 0 ls st m = s_x X d 258 [.iload 1, .iload 2, .if_icmp .ne 7, .sipush 0, .ireturn] ls st m := by
  rw [s_j, s_g_eq, g_l258]; rfl
theorem u_258_7 {X : e_X} {d : Nat} {ls st : List Value} {m : e_M} : s_j X d 258 7 ls st m = s_x X d 258 [.aload 0, .iload 1, .invokeinterface 250 2, .sipush 0, .istore 3, .sipush (-1), .istore 4, .sipush 0, .istore 5, .jsr 20] ls st m := by
  rw [s_j, s_g_eq, g_l258]; rfl
theorem u_258_20 {X : e_X} {d : Nat} {ls st : List Value} {m : e_M} : s_j X d 258 20 ls st m = s_x X d 258 [.iload 5, .aload 0, .checkcast 640, .sipush 6, .iaload, .if_icmp .gt 123, .aload 0, .iload 5, .invokeinterface 220 2, .istore 6, .iload 6, .aload 0, .iload 1, .sipush 1, .iadd, .iload 2, .invokeinterface 258 3, .iadd, .istore 7, .aload 0, .iload 1, .invokeinterface 251 2, .iload 4, .ifCond .lt 84, .iload 1, .sipush 2, .irem, .ifCond .ne 78, .iload 7, .iload 3, .if_icmp .le 88, .goto 84] ls st m := by
  rw [s_j, s_g_eq, g_l258]; rfl
theorem u_258_78 {X : e_X} {d : Nat} {ls st : List Value} {m : e_M} : s_j X d 258 78 ls st m = s_x X d 258 [.iload 7, .iload 3, .if_icmp .ge 88, .jsr 84] ls st m := by
  rw [s_j, s_g_eq, g_l258]; rfl
theorem u_258_84 {X : e_X} {d : Nat} {ls st : List Value} {m : e_M} : s_j X d 258 84 ls st m = s_x X d 258 [.sipush 1, .goto 89] ls st m := by
  rw [s_j, s_g_eq, g_l258]; rfl
theorem u_258_88 {X : e_X} {d : Nat} {ls st : List Value} {m : e_M} : s_j X d 258 88 ls st m = s_x X d 258 [.sipush 0, .jsr 89] ls st m := by
  rw [s_j, s_g_eq, g_l258]; rfl
theorem u_258_89 {X : e_X} {d : Nat} {ls st : List Value} {m : e_M} : s_j X d 258 89 ls st m = s_x X d 258 [.istore 8, .iload 8, .ifCond .eq 101, .iload 5, .goto 103] ls st m := by
  rw [s_j, s_g_eq, g_l258]; rfl
theorem u_258_101 {X : e_X} {d : Nat} {ls st : List Value} {m : e_M} : s_j X d 258 101 ls st m = s_x X d 258 [.iload 4, .jsr 103] ls st m := by
  rw [s_j, s_g_eq, g_l258]; rfl
theorem u_258_103 {X : e_X} {d : Nat} {ls st : List Value} {m : e_M} : s_j X d 258 103 ls st m = s_x X d 258 [.istore 4, .iload 8, .ifCond .eq 115, .iload 7, .goto 116] ls st m := by
  rw [s_j, s_g_eq, g_l258]; rfl
theorem u_258_115 {X : e_X} {d : Nat} {ls st : List Value} {m : e_M} : s_j X d 258 115 ls st m = s_x X d 258 [.iload 3, .jsr 116] ls st m := by
  rw [s_j, s_g_eq, g_l258]; rfl
theorem u_258_116 {X : e_X} {d : Nat} {ls st : List Value} {m : e_M} : s_j X d 258 116 ls st m = s_x X d 258 [.istore 3, .iinc 5 1, .goto 20] ls st m := by
  rw [s_j, s_g_eq, g_l258]; rfl
theorem u_258_123 {X : e_X} {d : Nat} {ls st : List Value} {m : e_M} : s_j X d 258 123 ls st m = s_x X d 258 [.aload 0, .checkcast 659, .iload 1, .iload 4, .iastore, .iload 3, .ireturn] ls st m := by
  rw [s_j, s_g_eq, g_l258]; rfl
/-- M.play -/
theorem g_l259 (l : Nat) : g_P 259 l = (g_c259.lookup l).getD [] := rfl
theorem v_259_69 {X : e_X} {d : Nat} {a1 : Int32} {I J : Nat → Int → Int} : s_S X (d + 1) 259 [.ref 69, .int a1] (mm I J) = s_j X d 259 0 [.ref 69, .int a1, .retAddr 0] [] (mm I J) := s_S_in rfl rfl
theorem u_259_0 {X : e_X} {d : Nat} {ls st : List Value} {m : e_M} : s_j X d 259 0 ls st m = s_x X d 259 [.iload 1, .sipush 1, .sipush 4, .invokeinterface 172 3, .ifCond .ne 11, .sipush (-1), .ireturn] ls st m := by
  rw [s_j, s_g_eq, g_l259]; rfl
theorem u_259_11 {X : e_X} {d : Nat} {ls st : List Value} {m : e_M} : s_j X d 259 11 ls st m = s_x X d 259 [.aload 0, .invokeinterface 217 1, .ifCond .eq 21, .sipush (-3), .ireturn] ls st m := by
  rw [s_j, s_g_eq, g_l259]; rfl
theorem u_259_21 {X : e_X} {d : Nat} {ls st : List Value} {m : e_M} : s_j X d 259 21 ls st m = s_x X d 259 [.aload 0, .sipush 0, .aload 0, .iload 1, .invokeinterface 247 2, .invokeinterface 258 3, .istore 2, .iload 2, .ifCond .ge 41, .sipush (-3), .goto 47] ls st m := by
  rw [s_j, s_g_eq, g_l259]; rfl
theorem u_259_41 {X : e_X} {d : Nat} {ls st : List Value} {m : e_M} : s_j X d 259 41 ls st m = s_x X d 259 [.aload 0, .checkcast 659, .sipush 0, .iaload, .jsr 47] ls st m := by
  rw [s_j, s_g_eq, g_l259]; rfl
theorem u_259_47 {X : e_X} {d : Nat} {ls st : List Value} {m : e_M} : s_j X d 259 47 ls st m = s_x X d 259 [.ireturn] ls st m := by
  rw [s_j, s_g_eq, g_l259]; rfl
/-- M.report -/
theorem g_l260 (l : Nat) : g_P 260 l = (g_c260.lookup l).getD [] := rfl
theorem v_260_69 {X : e_X} {d : Nat} {a1 : Int32} {a2 : Int32} {a3 : Int32} {a4 : Int32} {I J : Nat → Int → Int} : s_S X (d + 1) 260 [.ref 69, .int a1, .int a2, .int a3, .int a4] (mm I J) = s_j X d 260 0 [.ref 69, .int a1, .int a2, .int a3, .int a4, .retAddr 0, .retAddr 0] [] (mm I J) := s_S_in rfl rfl
theorem u_260_0 {X : e_X} {d : Nat} {ls st : List Value} {m : e_M} : s_j X d 260 0 ls st m = s_x X d 260 [.iload 2, .ifCond .ne 9, .sipush 40, .goto 11] ls st m := by
  rw [s_j, s_g_eq, g_l260]; rfl
theorem u_260_9 {X : e_X} {d : Nat} {ls st : List Value} {m : e_M} : s_j X d 260 9 ls st m = s_x X d 260 [.sipush 9, .jsr 11] ls st m := by
  rw [s_j, s_g_eq, g_l260]; rfl
theorem u_260_11 {X : e_X} {d : Nat} {ls st : List Value} {m : e_M} : s_j X d 260 11 ls st m = s_x X d 260 [.istore 5, .iload 1, .sipush 0, .sipush 15, .invokeinterface 172 3, .ifCond .eq 53, .iload 2, .sipush 0, .sipush 1, .invokeinterface 172 3, .ifCond .eq 53, .iload 3, .sipush 0, .iload 5, .invokeinterface 172 3, .ifCond .eq 53, .iload 4, .iload 3, .iload 5, .invokeinterface 172 3, .ifCond .ne 55, .jsr 53] ls st m := by
  rw [s_j, s_g_eq, g_l260]; rfl
theorem u_260_53 {X : e_X} {d : Nat} {ls st : List Value} {m : e_M} : s_j X d 260 53 ls st m = s_x X d 260 [.sipush (-1), .ireturn] ls st m := by
  rw [s_j, s_g_eq, g_l260]; rfl
theorem u_260_55 {X : e_X} {d : Nat} {ls st : List Value} {m : e_M} : s_j X d 260 55 ls st m = s_x X d 260 [.aload 0, .checkcast 640, .sipush 8, .iaload, .sipush 6, .if_icmp .ne 70, .sipush (-2), .ireturn] ls st m := by
  rw [s_j, s_g_eq, g_l260]; rfl
theorem u_260_70 {X : e_X} {d : Nat} {ls st : List Value} {m : e_M} : s_j X d 260 70 ls st m = s_x X d 260 [.sipush 74, .sipush 4, .aload 0, .checkcast 640, .sipush 8, .iaload, .imul, .iadd, .istore 6, .aload 0, .checkcast 640, .iload 6, .iload 1, .iastore, .aload 0, .checkcast 640, .iload 6, .sipush 1, .iadd, .iload 2, .iastore, .aload 0, .checkcast 640, .iload 6, .sipush 2, .iadd, .iload 3, .iastore, .aload 0, .checkcast 640, .iload 6, .sipush 3, .iadd, .iload 4, .iastore, .aload 0, .checkcast 640, .sipush 8, .dup2, .iaload, .sipush 1, .iadd, .iastore, .aload 0, .checkcast 640, .sipush 8, .iaload, .sipush 1, .isub, .ireturn] ls st m := by
  rw [s_j, s_g_eq, g_l260]; rfl
/-- M.forget -/
theorem g_l261 (l : Nat) : g_P 261 l = (g_c261.lookup l).getD [] := rfl
theorem v_261_69 {X : e_X} {d : Nat}  {I J : Nat → Int → Int} : s_S X (d + 1) 261 [.ref 69] (mm I J) = s_j X d 261 0 [.ref 69] [] (mm I J) := s_S_in rfl rfl
theorem u_261_0 {X : e_X} {d : Nat} {ls st : List Value} {m : e_M} : s_j X d 261 0 ls st m = s_x X d 261 [.aload 0, .sipush 8, .sipush 0, .invokeinterface 208 3, .ireturn] ls st m := by
  rw [s_j, s_g_eq, g_l261]; rfl
/-- M.lost -/
theorem g_l262 (l : Nat) : g_P 262 l = (g_c262.lookup l).getD [] := rfl
theorem v_262_69 {X : e_X} {d : Nat} {a1 : Int32} {I J : Nat → Int → Int} : s_S X (d + 1) 262 [.ref 69, .int a1] (mm I J) = s_j X d 262 0 [.ref 69, .int a1, .retAddr 0] [] (mm I J) := s_S_in rfl rfl
theorem u_262_0 {X : e_X} {d : Nat} {ls st : List Value} {m : e_M} : s_j X d 262 0 ls st m = s_x X d 262 [.iload 1, .sipush 0, .sipush 3, .invokeinterface 172 3, .ifCond .ne 11, .sipush (-1), .ireturn] ls st m := by
  rw [s_j, s_g_eq, g_l262]; rfl
theorem u_262_11 {X : e_X} {d : Nat} {ls st : List Value} {m : e_M} : s_j X d 262 11 ls st m = s_x X d 262 [.aload 0, .sipush (-1), .invokeinterface 263 2, .istore 2, .iload 1, .ifCond .le 28, .iload 2, .ifCond .ne 28, .sipush (-3), .ireturn] ls st m := by
  rw [s_j, s_g_eq, g_l262]; rfl
theorem u_262_28 {X : e_X} {d : Nat} {ls st : List Value} {m : e_M} : s_j X d 262 28 ls st m = s_x X d 262 [.iload 1, .ifCond .ne 36, .iload 2, .goto 78] ls st m := by
  rw [s_j, s_g_eq, g_l262]; rfl
theorem u_262_36 {X : e_X} {d : Nat} {ls st : List Value} {m : e_M} : s_j X d 262 36 ls st m = s_x X d 262 [.iload 1, .sipush 1, .if_icmp .ne 53, .sipush 1, .aload 0, .getfield 667, .sipush 100, .idiv, .iadd, .goto 78] ls st m := by
  rw [s_j, s_g_eq, g_l262]; rfl
theorem u_262_53 {X : e_X} {d : Nat} {ls st : List Value} {m : e_M} : s_j X d 262 53 ls st m = s_x X d 262 [.iload 1, .sipush 2, .if_icmp .ne 71, .aload 0, .getfield 667, .sipush 10, .idiv, .sipush 10, .irem, .goto 78] ls st m := by
  rw [s_j, s_g_eq, g_l262]; rfl
theorem u_262_71 {X : e_X} {d : Nat} {ls st : List Value} {m : e_M} : s_j X d 262 71 ls st m = s_x X d 262 [.aload 0, .getfield 667, .sipush 10, .irem, .jsr 78] ls st m := by
  rw [s_j, s_g_eq, g_l262]; rfl
theorem u_262_78 {X : e_X} {d : Nat} {ls st : List Value} {m : e_M} : s_j X d 262 78 ls st m = s_x X d 262 [.ireturn] ls st m := by
  rw [s_j, s_g_eq, g_l262]; rfl
/-- M.fitting -/
theorem g_l263 (l : Nat) : g_P 263 l = (g_c263.lookup l).getD [] := rfl
theorem v_263_69 {X : e_X} {d : Nat} {a1 : Int32} {I J : Nat → Int → Int} : s_S X (d + 1) 263 [.ref 69, .int a1] (mm I J) = s_j X d 263 0 [.ref 69, .int a1, .retAddr 0, .retAddr 0, .retAddr 0, .retAddr 0] [] (mm I J) := s_S_in rfl rfl
theorem u_263_0 {X : e_X} {d : Nat} {ls st : List Value} {m : e_M} : s_j X d 263 0 ls st m = s_x X d 263 [.sipush 0, .istore 2, .aload 0, .sipush (-1), .putfield 667, .sipush 0, .istore 3, .jsr 9] ls st m := by
  rw [s_j, s_g_eq, g_l263]; rfl
theorem u_263_9 {X : e_X} {d : Nat} {ls st : List Value} {m : e_M} : s_j X d 263 9 ls st m = s_x X d 263 [.iload 3, .sipush 500, .if_icmp .ge 131, .aload 0, .sipush 1, .iload 3, .sipush 100, .idiv, .iadd, .iload 3, .sipush 10, .idiv, .sipush 10, .irem, .iload 3, .sipush 10, .irem, .invokeinterface 264 4, .sipush 1, .istore 4, .sipush 0, .istore 5, .jsr 43] ls st m := by
  rw [s_j, s_g_eq, g_l263]; rfl
theorem u_263_43 {X : e_X} {d : Nat} {ls st : List Value} {m : e_M} : s_j X d 263 43 ls st m = s_x X d 263 [.iload 5, .aload 0, .checkcast 640, .sipush 8, .iaload, .if_icmp .ge 88, .iload 4, .ifCond .eq 88, .iload 5, .iload 1, .if_icmp .eq 75, .aload 0, .iload 5, .invokeinterface 265 2, .ifCond .eq 79, .jsr 75] ls st m := by
  rw [s_j, s_g_eq, g_l263]; rfl
theorem u_263_75 {X : e_X} {d : Nat} {ls st : List Value} {m : e_M} : s_j X d 263 75 ls st m = s_x X d 263 [.sipush 1, .goto 80] ls st m := by
  rw [s_j, s_g_eq, g_l263]; rfl
theorem u_263_79 {X : e_X} {d : Nat} {ls st : List Value} {m : e_M} : s_j X d 263 79 ls st m = s_x X d 263 [.sipush 0, .jsr 80] ls st m := by
  rw [s_j, s_g_eq, g_l263]; rfl
theorem u_263_80 {X : e_X} {d : Nat} {ls st : List Value} {m : e_M} : s_j X d 263 80 ls st m = s_x X d 263 [.istore 4, .iinc 5 1, .goto 43] ls st m := by
  rw [s_j, s_g_eq, g_l263]; rfl
theorem u_263_88 {X : e_X} {d : Nat} {ls st : List Value} {m : e_M} : s_j X d 263 88 ls st m = s_x X d 263 [.iload 2, .iload 4, .ifCond .eq 98, .sipush 1, .goto 99] ls st m := by
  rw [s_j, s_g_eq, g_l263]; rfl
theorem u_263_98 {X : e_X} {d : Nat} {ls st : List Value} {m : e_M} : s_j X d 263 98 ls st m = s_x X d 263 [.sipush 0, .jsr 99] ls st m := by
  rw [s_j, s_g_eq, g_l263]; rfl
theorem u_263_99 {X : e_X} {d : Nat} {ls st : List Value} {m : e_M} : s_j X d 263 99 ls st m = s_x X d 263 [.iadd, .istore 2, .aload 0, .iload 4, .ifCond .eq 118, .aload 0, .getfield 667, .ifCond .ge 118, .iload 3, .goto 122] ls st m := by
  rw [s_j, s_g_eq, g_l263]; rfl
theorem u_263_118 {X : e_X} {d : Nat} {ls st : List Value} {m : e_M} : s_j X d 263 118 ls st m = s_x X d 263 [.aload 0, .getfield 667, .jsr 122] ls st m := by
  rw [s_j, s_g_eq, g_l263]; rfl
theorem u_263_122 {X : e_X} {d : Nat} {ls st : List Value} {m : e_M} : s_j X d 263 122 ls st m = s_x X d 263 [.putfield 667, .iinc 3 1, .goto 9] ls st m := by
  rw [s_j, s_g_eq, g_l263]; rfl
theorem u_263_131 {X : e_X} {d : Nat} {ls st : List Value} {m : e_M} : s_j X d 263 131 ls st m = s_x X d 263 [.iload 2, .ireturn] ls st m := by
  rw [s_j, s_g_eq, g_l263]; rfl
/-- M.tellsStranger -/
theorem g_l264 (l : Nat) : g_P 264 l = (g_c264.lookup l).getD [] := rfl
theorem v_264_69 {X : e_X} {d : Nat} {a1 : Int32} {a2 : Int32} {a3 : Int32} {I J : Nat → Int → Int} : s_S X (d + 1) 264 [.ref 69, .int a1, .int a2, .int a3] (mm I J) = s_j X d 264 0 [.ref 69, .int a1, .int a2, .int a3, .retAddr 0, .retAddr 0, .retAddr 0, .retAddr 0, .retAddr 0] [] (mm I J) := s_S_in rfl rfl
theorem u_264_0 {X : e_X} {d : Nat} {ls st : List Value} {m : e_M} : s_j X d 264 0 ls st m = s_x X d 264 [.iload 3, .istore 4, .sipush 0, .istore 5, .sipush 0, .istore 6, .jsr 9] ls st m := by
  rw [s_j, s_g_eq, g_l264]; rfl
theorem u_264_9 {X : e_X} {d : Nat} {ls st : List Value} {m : e_M} : s_j X d 264 9 ls st m = s_x X d 264 [.iload 6, .sipush 16, .if_icmp .ge 105, .aload 0, .checkcast 665, .iload 6, .iload 5, .iastore, .aload 0, .checkcast 666, .iload 6, .iload 4, .iastore, .iload 4, .aload 0, .checkcast 640, .sipush 10, .iload 6, .iadd, .iaload, .invokeinterface 221 2, .istore 4, .iload 1, .iload 2, .iload 6, .invokeinterface 197 3, .istore 7, .iload 7, .iload 5, .isub, .istore 8, .iload 5, .iload 8, .ifCond .gt 78, .sipush 0, .goto 96] ls st m := by
  rw [s_j, s_g_eq, g_l264]; rfl
theorem u_264_78 {X : e_X} {d : Nat} {ls st : List Value} {m : e_M} : s_j X d 264 78 ls st m = s_x X d 264 [.iload 8, .iload 4, .sipush 1, .iadd, .if_icmp .le 94, .iload 4, .sipush 1, .iadd, .goto 96] ls st m := by
  rw [s_j, s_g_eq, g_l264]; rfl
theorem u_264_94 {X : e_X} {d : Nat} {ls st : List Value} {m : e_M} : s_j X d 264 94 ls st m = s_x X d 264 [.iload 8, .jsr 96] ls st m := by
  rw [s_j, s_g_eq, g_l264]; rfl
theorem u_264_96 {X : e_X} {d : Nat} {ls st : List Value} {m : e_M} : s_j X d 264 96 ls st m = s_x X d 264 [.iadd, .istore 5, .iinc 6 1, .goto 9] ls st m := by
  rw [s_j, s_g_eq, g_l264]; rfl
theorem u_264_105 {X : e_X} {d : Nat} {ls st : List Value} {m : e_M} : s_j X d 264 105 ls st m = s_x X d 264 [.return_] ls st m := by
  rw [s_j, s_g_eq, g_l264]; rfl
/-- M.isSo -/
theorem g_l265 (l : Nat) : g_P 265 l = (g_c265.lookup l).getD [] := rfl
theorem v_265_69 {X : e_X} {d : Nat} {a1 : Int32} {I J : Nat → Int → Int} : s_S X (d + 1) 265 [.ref 69, .int a1] (mm I J) = s_j X d 265 0 [.ref 69, .int a1, .retAddr 0, .retAddr 0] [] (mm I J) := s_S_in rfl rfl
theorem u_265_0 {X : e_X} {d : Nat} {ls st : List Value} {m : e_M} : s_j X d 265 0 ls st m = s_x X d 265 [.sipush 74, .sipush 4, .iload 1, .imul, .iadd, .istore 2, .aload 0, .checkcast 640, .iload 2, .sipush 1, .iadd, .iaload, .ifCond .ne 32, .aload 0, .checkcast 665, .aload 0, .checkcast 640, .iload 2, .iaload, .iaload, .goto 43] ls st m := by
  rw [s_j, s_g_eq, g_l265]; rfl
theorem u_265_32 {X : e_X} {d : Nat} {ls st : List Value} {m : e_M} : s_j X d 265 32 ls st m = s_x X d 265 [.aload 0, .checkcast 666, .aload 0, .checkcast 640, .iload 2, .iaload, .iaload, .jsr 43] ls st m := by
  rw [s_j, s_g_eq, g_l265]; rfl
theorem u_265_43 {X : e_X} {d : Nat} {ls st : List Value} {m : e_M} : s_j X d 265 43 ls st m = s_x X d 265 [.istore 3, .iload 3, .aload 0, .checkcast 640, .iload 2, .sipush 2, .iadd, .iaload, .aload 0, .checkcast 640, .iload 2, .sipush 3, .iadd, .iaload, .invokeinterface 172 3, .areturn] ls st m := by
  rw [s_j, s_g_eq, g_l265]; rfl
/-- M.liar -/
theorem g_l266 (l : Nat) : g_P 266 l = (g_c266.lookup l).getD [] := rfl
theorem v_266_69 {X : e_X} {d : Nat}  {I J : Nat → Int → Int} : s_S X (d + 1) 266 [.ref 69] (mm I J) = s_j X d 266 0 [.ref 69, .retAddr 0] [] (mm I J) := s_S_in rfl rfl
theorem u_266_0 {X : e_X} {d : Nat} {ls st : List Value} {m : e_M} : s_j X d 266 0 ls st m = s_x X d 266 [.aload 0, .sipush (-1), .invokeinterface 263 2, .ifCond .le 11, .sipush (-3), .ireturn] ls st m := by
  rw [s_j, s_g_eq, g_l266]; rfl
theorem u_266_11 {X : e_X} {d : Nat} {ls st : List Value} {m : e_M} : s_j X d 266 11 ls st m = s_x X d 266 [.sipush 0, .istore 1, .jsr 13] ls st m := by
  rw [s_j, s_g_eq, g_l266]; rfl
theorem u_266_13 {X : e_X} {d : Nat} {ls st : List Value} {m : e_M} : s_j X d 266 13 ls st m = s_x X d 266 [.iload 1, .aload 0, .checkcast 640, .sipush 8, .iaload, .if_icmp .ge 40, .aload 0, .iload 1, .invokeinterface 263 2, .ifCond .le 34, .iload 1, .ireturn] ls st m := by
  rw [s_j, s_g_eq, g_l266]; rfl
theorem u_266_34 {X : e_X} {d : Nat} {ls st : List Value} {m : e_M} : s_j X d 266 34 ls st m = s_x X d 266 [.iinc 1 1, .goto 13] ls st m := by
  rw [s_j, s_g_eq, g_l266]; rfl
theorem u_266_40 {X : e_X} {d : Nat} {ls st : List Value} {m : e_M} : s_j X d 266 40 ls st m = s_x X d 266 [.sipush (-3), .ireturn] ls st m := by
  rw [s_j, s_g_eq, g_l266]; rfl
/-- M.seed -/
theorem g_l267 (l : Nat) : g_P 267 l = (g_c267.lookup l).getD [] := rfl
theorem v_267_69 {X : e_X} {d : Nat} {a1 : Int32} {I J : Nat → Int → Int} : s_S X (d + 1) 267 [.ref 69, .int a1] (mm I J) = s_j X d 267 0 [.ref 69, .int a1] [] (mm I J) := s_S_in rfl rfl
theorem u_267_0 {X : e_X} {d : Nat} {ls st : List Value} {m : e_M} : s_j X d 267 0 ls st m = s_x X d 267 [.aload 0, .sipush 5, .iload 1, .invokeinterface 208 3, .ireturn] ls st m := by
  rw [s_j, s_g_eq, g_l267]; rfl
/-- M.lot -/
theorem g_l268 (l : Nat) : g_P 268 l = (g_c268.lookup l).getD [] := rfl
theorem v_268_69 {X : e_X} {d : Nat}  {I J : Nat → Int → Int} : s_S X (d + 1) 268 [.ref 69] (mm I J) = s_j X d 268 0 [.ref 69] [] (mm I J) := s_S_in rfl rfl
theorem u_268_0 {X : e_X} {d : Nat} {ls st : List Value} {m : e_M} : s_j X d 268 0 ls st m = s_x X d 268 [.aload 0, .invokeinterface 217 1, .ifCond .eq 12, .sipush (-4), .goto 16] ls st m := by
  rw [s_j, s_g_eq, g_l268]; rfl
theorem u_268_12 {X : e_X} {d : Nat} {ls st : List Value} {m : e_M} : s_j X d 268 12 ls st m = s_x X d 268 [.aload 0, .invokeinterface 269 1, .jsr 16] ls st m := by
  rw [s_j, s_g_eq, g_l268]; rfl
theorem u_268_16 {X : e_X} {d : Nat} {ls st : List Value} {m : e_M} : s_j X d 268 16 ls st m = s_x X d 268 [.ireturn] ls st m := by
  rw [s_j, s_g_eq, g_l268]; rfl
/-- M.byLot -/
theorem g_l269 (l : Nat) : g_P 269 l = (g_c269.lookup l).getD [] := rfl
theorem v_269_69 {X : e_X} {d : Nat}  {I J : Nat → Int → Int} : s_S X (d + 1) 269 [.ref 69] (mm I J) = s_j X d 269 0 [.ref 69] [] (mm I J) := s_S_in rfl rfl
theorem u_269_0 {X : e_X} {d : Nat} {ls st : List Value} {m : e_M} : s_j X d 269 0 ls st m = s_x X d 269 [.aload 0, .checkcast 640, .sipush 5, .aload 0, .checkcast 640, .sipush 5, .iaload, .sipush 1103515245, .imul, .sipush 12345, .iadd, .iastore, .aload 0, .aload 0, .checkcast 640, .sipush 5, .iaload, .sipush 16, .iushr, .aload 0, .checkcast 640, .sipush 6, .iaload, .sipush 1, .iadd, .irem, .invokeinterface 220 2, .ireturn] ls st m := by
  rw [s_j, s_g_eq, g_l269]; rfl
/-- M.times -/
theorem g_l270 (l : Nat) : g_P 270 l = (g_c270.lookup l).getD [] := rfl
theorem v_270_69 {X : e_X} {d : Nat} {a1 : Int32} {a2 : Int32} {I J : Nat → Int → Int} : s_S X (d + 1) 270 [.ref 69, .int a1, .int a2] (mm I J) = s_j X d 270 0 [.ref 69, .int a1, .int a2, .retAddr 0, .retAddr 0, .retAddr 0, .retAddr 0] [] (mm I J) := s_S_in rfl rfl
theorem u_270_0 {X : e_X} {d : Nat} {ls st : List Value} {m : e_M} : s_j X d 270 0 ls st m = s_x X d 270 [.iload 1, .sipush 1, .sipush 40, .invokeinterface 172 3, .ifCond .eq 21, .iload 2, .sipush 0, .sipush 999, .invokeinterface 172 3, .ifCond .ne 23, .jsr 21] ls st m := by
  rw [s_j, s_g_eq, g_l270]; rfl
theorem u_270_21 {X : e_X} {d : Nat} {ls st : List Value} {m : e_M} : s_j X d 270 21 ls st m = s_x X d 270 [.sipush (-1), .ireturn] ls st m := by
  rw [s_j, s_g_eq, g_l270]; rfl
theorem u_270_23 {X : e_X} {d : Nat} {ls st : List Value} {m : e_M} : s_j X d 270 23 ls st m = s_x X d 270 [.aload 0, .invokeinterface 230 1, .sipush 0, .istore 3, .sipush 0, .istore 4, .jsr 32] ls st m := by
  rw [s_j, s_g_eq, g_l270]; rfl
theorem u_270_32 {X : e_X} {d : Nat} {ls st : List Value} {m : e_M} : s_j X d 270 32 ls st m = s_x X d 270 [.iload 4, .iload 1, .if_icmp .ge 100, .sipush 0, .istore 5, .jsr 41] ls st m := by
  rw [s_j, s_g_eq, g_l270]; rfl
theorem u_270_41 {X : e_X} {d : Nat} {ls st : List Value} {m : e_M} : s_j X d 270 41 ls st m = s_x X d 270 [.aload 0, .invokeinterface 217 1, .ifCond .ne 60, .iload 5, .aload 0, .invokeinterface 269 1, .iadd, .istore 5, .goto 41] ls st m := by
  rw [s_j, s_g_eq, g_l270]; rfl
theorem u_270_60 {X : e_X} {d : Nat} {ls st : List Value} {m : e_M} : s_j X d 270 60 ls st m = s_x X d 270 [.iload 3, .iload 5, .iload 2, .if_icmp .lt 71, .sipush 1, .goto 72] ls st m := by
  rw [s_j, s_g_eq, g_l270]; rfl
theorem u_270_71 {X : e_X} {d : Nat} {ls st : List Value} {m : e_M} : s_j X d 270 71 ls st m = s_x X d 270 [.sipush 0, .jsr 72] ls st m := by
  rw [s_j, s_g_eq, g_l270]; rfl
theorem u_270_72 {X : e_X} {d : Nat} {ls st : List Value} {m : e_M} : s_j X d 270 72 ls st m = s_x X d 270 [.iadd, .istore 3, .aload 0, .checkcast 640, .sipush 5, .iaload, .istore 6, .aload 0, .invokeinterface 232 1, .aload 0, .checkcast 640, .sipush 5, .iload 6, .iastore, .iinc 4 1, .goto 32] ls st m := by
  rw [s_j, s_g_eq, g_l270]; rfl
theorem u_270_100 {X : e_X} {d : Nat} {ls st : List Value} {m : e_M} : s_j X d 270 100 ls st m = s_x X d 270 [.aload 0, .invokeinterface 232 1, .iload 3, .ireturn] ls st m := by
  rw [s_j, s_g_eq, g_l270]; rfl
/-- M.prove -/
theorem g_l271 (l : Nat) : g_P 271 l = (g_c271.lookup l).getD [] := rfl
theorem v_271_69 {X : e_X} {d : Nat} {a1 : Int32} {I J : Nat → Int → Int} : s_S X (d + 1) 271 [.ref 69, .int a1] (mm I J) = s_j X d 271 0 [.ref 69, .int a1, .retAddr 0] [] (mm I J) := s_S_in rfl rfl
theorem u_271_0 {X : e_X} {d : Nat} {ls st : List Value} {m : e_M} : s_j X d 271 0 ls st m = s_x X d 271 [.iload 1, .invokeinterface 245 1, .ifCond .ne 9, .sipush (-1), .ireturn] ls st m := by
  rw [s_j, s_g_eq, g_l271]; rfl
theorem u_271_9 {X : e_X} {d : Nat} {ls st : List Value} {m : e_M} : s_j X d 271 9 ls st m = s_x X d 271 [.aload 0, .iload 1, .sipush 0, .invokeinterface 246 3, .aload 0, .aload 0, .iload 1, .invokeinterface 247 2, .putfield 669, .aload 0, .invokeinterface 230 1, .sipush 0, .istore 2, .jsr 30] ls st m := by
  rw [s_j, s_g_eq, g_l271]; rfl
theorem u_271_30 {X : e_X} {d : Nat} {ls st : List Value} {m : e_M} : s_j X d 271 30 ls st m = s_x X d 271 [.iload 2, .aload 0, .getfield 669, .if_icmp .ge 93, .aload 0, .checkcast 668, .sipush 3, .iload 2, .imul, .aload 0, .checkcast 660, .iload 2, .iaload, .iastore, .aload 0, .checkcast 668, .sipush 3, .iload 2, .imul, .sipush 1, .iadd, .aload 0, .aload 0, .checkcast 660, .iload 2, .iaload, .invokeinterface 220 2, .iastore, .aload 0, .checkcast 668, .sipush 3, .iload 2, .imul, .sipush 2, .iadd, .aload 0, .sipush 4, .invokeinterface 218 2, .iastore, .iinc 2 1, .goto 30] ls st m := by
  rw [s_j, s_g_eq, g_l271]; rfl
theorem u_271_93 {X : e_X} {d : Nat} {ls st : List Value} {m : e_M} : s_j X d 271 93 ls st m = s_x X d 271 [.aload 0, .invokeinterface 232 1, .aload 0, .getfield 669, .ireturn] ls st m := by
  rw [s_j, s_g_eq, g_l271]; rfl
/-- M.row -/
theorem g_l272 (l : Nat) : g_P 272 l = (g_c272.lookup l).getD [] := rfl
theorem v_272_69 {X : e_X} {d : Nat} {a1 : Int32} {a2 : Int32} {I J : Nat → Int → Int} : s_S X (d + 1) 272 [.ref 69, .int a1, .int a2] (mm I J) = s_j X d 272 0 [.ref 69, .int a1, .int a2] [] (mm I J) := s_S_in rfl rfl
theorem u_272_0 {X : e_X} {d : Nat} {ls st : List Value} {m : e_M} : s_j X d 272 0 ls st m = s_x X d 272 [.aload 0, .iload 1, .iload 2, .invokeinterface 273 3, .ifCond .eq 22, .aload 0, .checkcast 668, .sipush 3, .iload 1, .imul, .iload 2, .iadd, .iaload, .goto 24] ls st m := by
  rw [s_j, s_g_eq, g_l272]; rfl
theorem u_272_22 {X : e_X} {d : Nat} {ls st : List Value} {m : e_M} : s_j X d 272 22 ls st m = s_x X d 272 [.sipush (-9), .jsr 24] ls st m := by
  rw [s_j, s_g_eq, g_l272]; rfl
theorem u_272_24 {X : e_X} {d : Nat} {ls st : List Value} {m : e_M} : s_j X d 272 24 ls st m = s_x X d 272 [.ireturn] ls st m := by
  rw [s_j, s_g_eq, g_l272]; rfl
/-- M.isRow -/
theorem g_l273 (l : Nat) : g_P 273 l = (g_c273.lookup l).getD [] := rfl
theorem v_273_69 {X : e_X} {d : Nat} {a1 : Int32} {a2 : Int32} {I J : Nat → Int → Int} : s_S X (d + 1) 273 [.ref 69, .int a1, .int a2] (mm I J) = s_j X d 273 0 [.ref 69, .int a1, .int a2] [] (mm I J) := s_S_in rfl rfl
theorem u_273_0 {X : e_X} {d : Nat} {ls st : List Value} {m : e_M} : s_j X d 273 0 ls st m = s_x X d 273 [.iload 1, .sipush 0, .aload 0, .getfield 669, .sipush 1, .isub, .invokeinterface 172 3, .ifCond .eq 27, .iload 2, .sipush 0, .sipush 2, .invokeinterface 172 3, .ifCond .eq 27, .sipush 1, .goto 28] ls st m := by
  rw [s_j, s_g_eq, g_l273]; rfl
theorem u_273_27 {X : e_X} {d : Nat} {ls st : List Value} {m : e_M} : s_j X d 273 27 ls st m = s_x X d 273 [.sipush 0, .jsr 28] ls st m := by
  rw [s_j, s_g_eq, g_l273]; rfl
theorem u_273_28 {X : e_X} {d : Nat} {ls st : List Value} {m : e_M} : s_j X d 273 28 ls st m = s_x X d 273 [.areturn] ls st m := by
  rw [s_j, s_g_eq, g_l273]; rfl
/-- M.alterRow -/
theorem g_l274 (l : Nat) : g_P 274 l = (g_c274.lookup l).getD [] := rfl
theorem v_274_69 {X : e_X} {d : Nat} {a1 : Int32} {a2 : Int32} {a3 : Int32} {I J : Nat → Int → Int} : s_S X (d + 1) 274 [.ref 69, .int a1, .int a2, .int a3] (mm I J) = s_j X d 274 0 [.ref 69, .int a1, .int a2, .int a3, .retAddr 0] [] (mm I J) := s_S_in rfl rfl
theorem u_274_0 {X : e_X} {d : Nat} {ls st : List Value} {m : e_M} : s_j X d 274 0 ls st m = s_x X d 274 [.aload 0, .iload 1, .iload 2, .invokeinterface 273 3, .ifCond .ne 12, .sipush (-9), .ireturn] ls st m := by
  rw [s_j, s_g_eq, g_l274]; rfl
theorem u_274_12 {X : e_X} {d : Nat} {ls st : List Value} {m : e_M} : s_j X d 274 12 ls st m = s_x X d 274 [.aload 0, .checkcast 668, .sipush 3, .iload 1, .imul, .iload 2, .iadd, .iaload, .istore 4, .aload 0, .checkcast 668, .sipush 3, .iload 1, .imul, .iload 2, .iadd, .iload 3, .iastore, .iload 4, .ireturn] ls st m := by
  rw [s_j, s_g_eq, g_l274]; rfl
/-- M.judge -/
theorem g_l275 (l : Nat) : g_P 275 l = (g_c275.lookup l).getD [] := rfl
theorem v_275_69 {X : e_X} {d : Nat}  {I J : Nat → Int → Int} : s_S X (d + 1) 275 [.ref 69] (mm I J) = s_j X d 275 0 [.ref 69, .retAddr 0, .retAddr 0, .retAddr 0, .retAddr 0, .retAddr 0] [] (mm I J) := s_S_in rfl rfl
theorem u_275_0 {X : e_X} {d : Nat} {ls st : List Value} {m : e_M} : s_j X d 275 0 ls st m = s_x X d 275 [.aload 0, .invokeinterface 230 1, .sipush 0, .istore 1, .sipush 0, .istore 2, .jsr 8] ls st m := by
  rw [s_j, s_g_eq, g_l275]; rfl
theorem u_275_8 {X : e_X} {d : Nat} {ls st : List Value} {m : e_M} : s_j X d 275 8 ls st m = s_x X d 275 [.iload 2, .aload 0, .getfield 669, .if_icmp .ge 133, .iload 1, .ifCond .ne 133, .aload 0, .aload 0, .checkcast 668, .sipush 3, .iload 2, .imul, .iaload, .invokeinterface 276 2, .ifCond .eq 46, .aload 0, .invokeinterface 217 1, .ifCond .ne 46, .sipush 1, .goto 47] ls st m := by
  rw [s_j, s_g_eq, g_l275]; rfl
theorem u_275_46 {X : e_X} {d : Nat} {ls st : List Value} {m : e_M} : s_j X d 275 46 ls st m = s_x X d 275 [.sipush 0, .jsr 47] ls st m := by
  rw [s_j, s_g_eq, g_l275]; rfl
theorem u_275_47 {X : e_X} {d : Nat} {ls st : List Value} {m : e_M} : s_j X d 275 47 ls st m = s_x X d 275 [.istore 3, .iload 3, .ifCond .eq 67, .aload 0, .aload 0, .checkcast 668, .sipush 3, .iload 2, .imul, .iaload, .invokeinterface 220 2, .goto 68] ls st m := by
  rw [s_j, s_g_eq, g_l275]; rfl
theorem u_275_67 {X : e_X} {d : Nat} {ls st : List Value} {m : e_M} : s_j X d 275 67 ls st m = s_x X d 275 [.sipush 0, .jsr 68] ls st m := by
  rw [s_j, s_g_eq, g_l275]; rfl
theorem u_275_68 {X : e_X} {d : Nat} {ls st : List Value} {m : e_M} : s_j X d 275 68 ls st m = s_x X d 275 [.istore 4, .iload 3, .ifCond .eq 111, .iload 4, .aload 0, .checkcast 668, .sipush 3, .iload 2, .imul, .sipush 1, .iadd, .iaload, .if_icmp .ne 111, .aload 0, .sipush 4, .invokeinterface 218 2, .aload 0, .checkcast 668, .sipush 3, .iload 2, .imul, .sipush 2, .iadd, .iaload, .if_icmp .ne 111, .sipush 1, .goto 112] ls st m := by
  rw [s_j, s_g_eq, g_l275]; rfl
theorem u_275_111 {X : e_X} {d : Nat} {ls st : List Value} {m : e_M} : s_j X d 275 111 ls st m = s_x X d 275 [.sipush 0, .jsr 112] ls st m := by
  rw [s_j, s_g_eq, g_l275]; rfl
theorem u_275_112 {X : e_X} {d : Nat} {ls st : List Value} {m : e_M} : s_j X d 275 112 ls st m = s_x X d 275 [.istore 5, .iload 5, .ifCond .eq 123, .sipush 0, .goto 126] ls st m := by
  rw [s_j, s_g_eq, g_l275]; rfl
theorem u_275_123 {X : e_X} {d : Nat} {ls st : List Value} {m : e_M} : s_j X d 275 123 ls st m = s_x X d 275 [.sipush 1, .iload 2, .iadd, .jsr 126] ls st m := by
  rw [s_j, s_g_eq, g_l275]; rfl
theorem u_275_126 {X : e_X} {d : Nat} {ls st : List Value} {m : e_M} : s_j X d 275 126 ls st m = s_x X d 275 [.istore 1, .iinc 2 1, .goto 8] ls st m := by
  rw [s_j, s_g_eq, g_l275]; rfl
theorem u_275_133 {X : e_X} {d : Nat} {ls st : List Value} {m : e_M} : s_j X d 275 133 ls st m = s_x X d 275 [.aload 0, .invokeinterface 232 1, .iload 1, .ireturn] ls st m := by
  rw [s_j, s_g_eq, g_l275]; rfl
/-- M.isAct -/
theorem g_l276 (l : Nat) : g_P 276 l = (g_c276.lookup l).getD [] := rfl
theorem v_276_69 {X : e_X} {d : Nat} {a1 : Int32} {I J : Nat → Int → Int} : s_S X (d + 1) 276 [.ref 69, .int a1] (mm I J) = s_j X d 276 0 [.ref 69, .int a1] [] (mm I J) := s_S_in rfl rfl
theorem u_276_0 {X : e_X} {d : Nat} {ls st : List Value} {m : e_M} : s_j X d 276 0 ls st m = s_x X d 276 [.iload 1, .sipush 0, .aload 0, .checkcast 640, .sipush 6, .iaload, .invokeinterface 172 3, .areturn] ls st m := by
  rw [s_j, s_g_eq, g_l276]; rfl
/-- M.sheet -/
theorem g_l277 (l : Nat) : g_P 277 l = (g_c277.lookup l).getD [] := rfl
theorem v_277_69 {X : e_X} {d : Nat} {a1 : Int32} {a2 : Int32} {a3 : Int32} {I J : Nat → Int → Int} : s_S X (d + 1) 277 [.ref 69, .int a1, .int a2, .int a3] (mm I J) = s_j X d 277 0 [.ref 69, .int a1, .int a2, .int a3, .retAddr 0] [] (mm I J) := s_S_in rfl rfl
theorem u_277_0 {X : e_X} {d : Nat} {ls st : List Value} {m : e_M} : s_j X d 277 0 ls st m = s_x X d 277 [.iload 1, .invokeinterface 278 1, .ifCond .eq 26, .iload 2, .sipush (-1), .sipush 4, .invokeinterface 172 3, .ifCond .eq 26, .iload 2, .ifCond .lt 28, .iload 3, .sipush 40, .if_icmp .le 28, .jsr 26] ls st m := by
  rw [s_j, s_g_eq, g_l277]; rfl
theorem u_277_26 {X : e_X} {d : Nat} {ls st : List Value} {m : e_M} : s_j X d 277 26 ls st m = s_x X d 277 [.sipush (-1), .ireturn] ls st m := by
  rw [s_j, s_g_eq, g_l277]; rfl
theorem u_277_28 {X : e_X} {d : Nat} {ls st : List Value} {m : e_M} : s_j X d 277 28 ls st m = s_x X d 277 [.iload 2, .ifCond .lt 39, .iload 3, .ifCond .ge 39, .sipush (-14), .ireturn] ls st m := by
  rw [s_j, s_g_eq, g_l277]; rfl
theorem u_277_39 {X : e_X} {d : Nat} {ls st : List Value} {m : e_M} : s_j X d 277 39 ls st m = s_x X d 277 [.aload 0, .checkcast 670, .iload 1, .iload 2, .iastore, .aload 0, .checkcast 671, .iload 1, .iload 2, .ifCond .ge 59, .sipush 0, .goto 60] ls st m := by
  rw [s_j, s_g_eq, g_l277]; rfl
theorem u_277_59 {X : e_X} {d : Nat} {ls st : List Value} {m : e_M} : s_j X d 277 59 ls st m = s_x X d 277 [.iload 3, .jsr 60] ls st m := by
  rw [s_j, s_g_eq, g_l277]; rfl
theorem u_277_60 {X : e_X} {d : Nat} {ls st : List Value} {m : e_M} : s_j X d 277 60 ls st m = s_x X d 277 [.iastore, .sipush 0, .istore 4, .jsr 64] ls st m := by
  rw [s_j, s_g_eq, g_l277]; rfl
theorem u_277_64 {X : e_X} {d : Nat} {ls st : List Value} {m : e_M} : s_j X d 277 64 ls st m = s_x X d 277 [.iload 4, .sipush 40, .if_icmp .ge 90, .aload 0, .checkcast 672, .sipush 40, .iload 1, .imul, .iload 4, .iadd, .sipush 0, .iastore, .iinc 4 1, .goto 64] ls st m := by
  rw [s_j, s_g_eq, g_l277]; rfl
theorem u_277_90 {X : e_X} {d : Nat} {ls st : List Value} {m : e_M} : s_j X d 277 90 ls st m = s_x X d 277 [.sipush 1, .ireturn] ls st m := by
  rw [s_j, s_g_eq, g_l277]; rfl
/-- M.isSheet -/
theorem g_l278 (l : Nat) : g_P 278 l = (g_c278.lookup l).getD [] := rfl
theorem v_278 {X : e_X} {d : Nat} {a0 : Int32} {I J : Nat → Int → Int} : s_S X (d + 1) 278 [.int a0] (mm I J) = s_j X d 278 0 [.int a0] [] (mm I J) := s_S_in rfl rfl
theorem u_278_0 {X : e_X} {d : Nat} {ls st : List Value} {m : e_M} : s_j X d 278 0 ls st m = s_x X d 278 [.iload 0, .sipush 0, .sipush 3, .invokeinterface 172 3, .areturn] ls st m := by
  rw [s_j, s_g_eq, g_l278]; rfl
/-- M.write -/
theorem g_l279 (l : Nat) : g_P 279 l = (g_c279.lookup l).getD [] := rfl
theorem v_279_69 {X : e_X} {d : Nat} {a1 : Int32} {a2 : Int32} {a3 : Int32} {I J : Nat → Int → Int} : s_S X (d + 1) 279 [.ref 69, .int a1, .int a2, .int a3] (mm I J) = s_j X d 279 0 [.ref 69, .int a1, .int a2, .int a3] [] (mm I J) := s_S_in rfl rfl
theorem u_279_0 {X : e_X} {d : Nat} {ls st : List Value} {m : e_M} : s_j X d 279 0 ls st m = s_x X d 279 [.iload 1, .invokeinterface 278 1, .ifCond .ne 9, .sipush (-1), .ireturn] ls st m := by
  rw [s_j, s_g_eq, g_l279]; rfl
theorem u_279_9 {X : e_X} {d : Nat} {ls st : List Value} {m : e_M} : s_j X d 279 9 ls st m = s_x X d 279 [.aload 0, .checkcast 670, .iload 1, .iaload, .ifCond .ge 21, .sipush (-11), .ireturn] ls st m := by
  rw [s_j, s_g_eq, g_l279]; rfl
theorem u_279_21 {X : e_X} {d : Nat} {ls st : List Value} {m : e_M} : s_j X d 279 21 ls st m = s_x X d 279 [.iload 2, .sipush 0, .aload 0, .checkcast 671, .iload 1, .iaload, .sipush 1, .isub, .invokeinterface 172 3, .ifCond .ne 40, .sipush (-12), .ireturn] ls st m := by
  rw [s_j, s_g_eq, g_l279]; rfl
theorem u_279_40 {X : e_X} {d : Nat} {ls st : List Value} {m : e_M} : s_j X d 279 40 ls st m = s_x X d 279 [.aload 0, .checkcast 672, .sipush 40, .iload 1, .imul, .iload 2, .iadd, .iload 3, .aload 0, .checkcast 670, .iload 1, .iaload, .invokeinterface 280 2, .iastore, .sipush 1, .ireturn] ls st m := by
  rw [s_j, s_g_eq, g_l279]; rfl
/-- M.narrowed -/
theorem g_l280 (l : Nat) : g_P 280 l = (g_c280.lookup l).getD [] := rfl
theorem v_280 {X : e_X} {d : Nat} {a0 : Int32} {a1 : Int32} {I J : Nat → Int → Int} : s_S X (d + 1) 280 [.int a0, .int a1] (mm I J) = s_j X d 280 0 [.int a0, .int a1] [] (mm I J) := s_S_in rfl rfl
theorem u_280_0 {X : e_X} {d : Nat} {ls st : List Value} {m : e_M} : s_j X d 280 0 ls st m = s_x X d 280 [.iload 1, .ifCond .ne 9, .iload 0, .i2b, .goto 37] ls st m := by
  rw [s_j, s_g_eq, g_l280]; rfl
theorem u_280_9 {X : e_X} {d : Nat} {ls st : List Value} {m : e_M} : s_j X d 280 9 ls st m = s_x X d 280 [.iload 1, .sipush 1, .if_icmp .ne 19, .iload 0, .i2s, .goto 37] ls st m := by
  rw [s_j, s_g_eq, g_l280]; rfl
theorem u_280_19 {X : e_X} {d : Nat} {ls st : List Value} {m : e_M} : s_j X d 280 19 ls st m = s_x X d 280 [.iload 1, .sipush 4, .if_icmp .ne 36, .iload 0, .ifCond .eq 32, .sipush 1, .goto 37] ls st m := by
  rw [s_j, s_g_eq, g_l280]; rfl
theorem u_280_32 {X : e_X} {d : Nat} {ls st : List Value} {m : e_M} : s_j X d 280 32 ls st m = s_x X d 280 [.sipush 0, .goto 37] ls st m := by
  rw [s_j, s_g_eq, g_l280]; rfl
theorem u_280_36 {X : e_X} {d : Nat} {ls st : List Value} {m : e_M} : s_j X d 280 36 ls st m = s_x X d 280 [.iload 0, .jsr 37] ls st m := by
  rw [s_j, s_g_eq, g_l280]; rfl
theorem u_280_37 {X : e_X} {d : Nat} {ls st : List Value} {m : e_M} : s_j X d 280 37 ls st m = s_x X d 280 [.ireturn] ls st m := by
  rw [s_j, s_g_eq, g_l280]; rfl
/-- M.item -/
theorem g_l281 (l : Nat) : g_P 281 l = (g_c281.lookup l).getD [] := rfl
theorem v_281_69 {X : e_X} {d : Nat} {a1 : Int32} {a2 : Int32} {a3 : Int32} {I J : Nat → Int → Int} : s_S X (d + 1) 281 [.ref 69, .int a1, .int a2, .int a3] (mm I J) = s_j X d 281 0 [.ref 69, .int a1, .int a2, .int a3, .retAddr 0] [] (mm I J) := s_S_in rfl rfl
theorem u_281_0 {X : e_X} {d : Nat} {ls st : List Value} {m : e_M} : s_j X d 281 0 ls st m = s_x X d 281 [.iload 1, .invokeinterface 278 1, .ifCond .eq 16, .iload 2, .sipush 0, .sipush 4, .invokeinterface 172 3, .ifCond .ne 18, .jsr 16] ls st m := by
  rw [s_j, s_g_eq, g_l281]; rfl
theorem u_281_16 {X : e_X} {d : Nat} {ls st : List Value} {m : e_M} : s_j X d 281 16 ls st m = s_x X d 281 [.sipush (-1), .ireturn] ls st m := by
  rw [s_j, s_g_eq, g_l281]; rfl
theorem u_281_18 {X : e_X} {d : Nat} {ls st : List Value} {m : e_M} : s_j X d 281 18 ls st m = s_x X d 281 [.aload 0, .iload 1, .iload 2, .invokeinterface 282 3, .istore 4, .iload 4, .ifCond .eq 36, .iload 4, .goto 68] ls st m := by
  rw [s_j, s_g_eq, g_l281]; rfl
theorem u_281_36 {X : e_X} {d : Nat} {ls st : List Value} {m : e_M} : s_j X d 281 36 ls st m = s_x X d 281 [.iload 3, .sipush 0, .aload 0, .checkcast 671, .iload 1, .iaload, .sipush 1, .isub, .invokeinterface 172 3, .ifCond .eq 66, .aload 0, .checkcast 672, .sipush 40, .iload 1, .imul, .iload 3, .iadd, .iaload, .goto 68] ls st m := by
  rw [s_j, s_g_eq, g_l281]; rfl
theorem u_281_66 {X : e_X} {d : Nat} {ls st : List Value} {m : e_M} : s_j X d 281 66 ls st m = s_x X d 281 [.sipush (-12), .jsr 68] ls st m := by
  rw [s_j, s_g_eq, g_l281]; rfl
theorem u_281_68 {X : e_X} {d : Nat} {ls st : List Value} {m : e_M} : s_j X d 281 68 ls st m = s_x X d 281 [.ireturn] ls st m := by
  rw [s_j, s_g_eq, g_l281]; rfl
/-- M.lacks -/
theorem g_l282 (l : Nat) : g_P 282 l = (g_c282.lookup l).getD [] := rfl
theorem v_282_69 {X : e_X} {d : Nat} {a1 : Int32} {a2 : Int32} {I J : Nat → Int → Int} : s_S X (d + 1) 282 [.ref 69, .int a1, .int a2] (mm I J) = s_j X d 282 0 [.ref 69, .int a1, .int a2] [] (mm I J) := s_S_in rfl rfl
theorem u_282_0 {X : e_X} {d : Nat} {ls st : List Value} {m : e_M} : s_j X d 282 0 ls st m = s_x X d 282 [.aload 0, .checkcast 670, .iload 1, .iaload, .ifCond .ge 14, .sipush (-11), .goto 30] ls st m := by
  rw [s_j, s_g_eq, g_l282]; rfl
theorem u_282_14 {X : e_X} {d : Nat} {ls st : List Value} {m : e_M} : s_j X d 282 14 ls st m = s_x X d 282 [.aload 0, .checkcast 670, .iload 1, .iaload, .iload 2, .if_icmp .eq 29, .sipush (-13), .goto 30] ls st m := by
  rw [s_j, s_g_eq, g_l282]; rfl
theorem u_282_29 {X : e_X} {d : Nat} {ls st : List Value} {m : e_M} : s_j X d 282 29 ls st m = s_x X d 282 [.sipush 0, .jsr 30] ls st m := by
  rw [s_j, s_g_eq, g_l282]; rfl
theorem u_282_30 {X : e_X} {d : Nat} {ls st : List Value} {m : e_M} : s_j X d 282 30 ls st m = s_x X d 282 [.ireturn] ls st m := by
  rw [s_j, s_g_eq, g_l282]; rfl
/-- M.goAll -/
theorem g_l283 (l : Nat) : g_P 283 l = (g_c283.lookup l).getD [] := rfl
theorem v_283_69 {X : e_X} {d : Nat} {a1 : Int32} {a2 : Int32} {a3 : Int32} {I J : Nat → Int → Int} : s_S X (d + 1) 283 [.ref 69, .int a1, .int a2, .int a3] (mm I J) = s_j X d 283 0 [.ref 69, .int a1, .int a2, .int a3, .retAddr 0, .retAddr 0, .retAddr 0, .retAddr 0] [] (mm I J) := s_S_in rfl rfl
theorem u_283_0 {X : e_X} {d : Nat} {ls st : List Value} {m : e_M} : s_j X d 283 0 ls st m = s_x X d 283 [.iload 1, .invokeinterface 278 1, .ifCond .eq 17, .iload 3, .sipush 0, .sipush 20, .invokeinterface 172 3, .ifCond .ne 19, .jsr 17] ls st m := by
  rw [s_j, s_g_eq, g_l283]; rfl
theorem u_283_17 {X : e_X} {d : Nat} {ls st : List Value} {m : e_M} : s_j X d 283 17 ls st m = s_x X d 283 [.sipush (-1), .ireturn] ls st m := by
  rw [s_j, s_g_eq, g_l283]; rfl
theorem u_283_19 {X : e_X} {d : Nat} {ls st : List Value} {m : e_M} : s_j X d 283 19 ls st m = s_x X d 283 [.aload 0, .iload 1, .sipush 0, .invokeinterface 282 3, .istore 4, .iload 4, .ifCond .eq 35, .iload 4, .ireturn] ls st m := by
  rw [s_j, s_g_eq, g_l283]; rfl
theorem u_283_35 {X : e_X} {d : Nat} {ls st : List Value} {m : e_M} : s_j X d 283 35 ls st m = s_x X d 283 [.sipush 0, .istore 5, .sipush 0, .istore 6, .jsr 41] ls st m := by
  rw [s_j, s_g_eq, g_l283]; rfl
theorem u_283_41 {X : e_X} {d : Nat} {ls st : List Value} {m : e_M} : s_j X d 283 41 ls st m = s_x X d 283 [.iload 6, .iload 3, .if_icmp .ge 114, .aload 0, .iload 1, .iload 2, .iload 6, .invokeinterface 284 4, .ifCond .ne 61, .sipush (-12), .ireturn] ls st m := by
  rw [s_j, s_g_eq, g_l283]; rfl
theorem u_283_61 {X : e_X} {d : Nat} {ls st : List Value} {m : e_M} : s_j X d 283 61 ls st m = s_x X d 283 [.aload 0, .checkcast 672, .sipush 40, .iload 1, .imul, .iload 2, .iadd, .iload 6, .iadd, .iaload, .istore 7, .iload 5, .aload 0, .iload 7, .invokeinterface 276 2, .ifCond .eq 104, .aload 0, .invokeinterface 217 1, .ifCond .ne 104, .aload 0, .iload 7, .invokeinterface 220 2, .goto 105] ls st m := by
  rw [s_j, s_g_eq, g_l283]; rfl
theorem u_283_104 {X : e_X} {d : Nat} {ls st : List Value} {m : e_M} : s_j X d 283 104 ls st m = s_x X d 283 [.sipush 0, .jsr 105] ls st m := by
  rw [s_j, s_g_eq, g_l283]; rfl
theorem u_283_105 {X : e_X} {d : Nat} {ls st : List Value} {m : e_M} : s_j X d 283 105 ls st m = s_x X d 283 [.iadd, .istore 5, .iinc 6 1, .goto 41] ls st m := by
  rw [s_j, s_g_eq, g_l283]; rfl
theorem u_283_114 {X : e_X} {d : Nat} {ls st : List Value} {m : e_M} : s_j X d 283 114 ls st m = s_x X d 283 [.iload 5, .ireturn] ls st m := by
  rw [s_j, s_g_eq, g_l283]; rfl
/-- M.isItem -/
theorem g_l284 (l : Nat) : g_P 284 l = (g_c284.lookup l).getD [] := rfl
theorem v_284_69 {X : e_X} {d : Nat} {a1 : Int32} {a2 : Int32} {a3 : Int32} {I J : Nat → Int → Int} : s_S X (d + 1) 284 [.ref 69, .int a1, .int a2, .int a3] (mm I J) = s_j X d 284 0 [.ref 69, .int a1, .int a2, .int a3] [] (mm I J) := s_S_in rfl rfl
theorem u_284_0 {X : e_X} {d : Nat} {ls st : List Value} {m : e_M} : s_j X d 284 0 ls st m = s_x X d 284 [.iload 2, .ifCond .lt 20, .iload 2, .aload 0, .checkcast 671, .iload 1, .iaload, .iload 3, .isub, .if_icmp .ge 20, .sipush 1, .goto 21] ls st m := by
  rw [s_j, s_g_eq, g_l284]; rfl
theorem u_284_20 {X : e_X} {d : Nat} {ls st : List Value} {m : e_M} : s_j X d 284 20 ls st m = s_x X d 284 [.sipush 0, .jsr 21] ls st m := by
  rw [s_j, s_g_eq, g_l284]; rfl
theorem u_284_21 {X : e_X} {d : Nat} {ls st : List Value} {m : e_M} : s_j X d 284 21 ls st m = s_x X d 284 [.areturn] ls st m := by
  rw [s_j, s_g_eq, g_l284]; rfl
/-- M.wouldBe -/
theorem g_l285 (l : Nat) : g_P 285 l = (g_c285.lookup l).getD [] := rfl
theorem v_285_69 {X : e_X} {d : Nat} {a1 : Int32} {a2 : Int32} {a3 : Int32} {I J : Nat → Int → Int} : s_S X (d + 1) 285 [.ref 69, .int a1, .int a2, .int a3] (mm I J) = s_j X d 285 0 [.ref 69, .int a1, .int a2, .int a3, .retAddr 0, .retAddr 0, .retAddr 0, .retAddr 0] [] (mm I J) := s_S_in rfl rfl
theorem u_285_0 {X : e_X} {d : Nat} {ls st : List Value} {m : e_M} : s_j X d 285 0 ls st m = s_x X d 285 [.iload 1, .invokeinterface 278 1, .ifCond .eq 17, .iload 3, .sipush 0, .sipush 20, .invokeinterface 172 3, .ifCond .ne 19, .jsr 17] ls st m := by
  rw [s_j, s_g_eq, g_l285]; rfl
theorem u_285_17 {X : e_X} {d : Nat} {ls st : List Value} {m : e_M} : s_j X d 285 17 ls st m = s_x X d 285 [.sipush (-1), .ireturn] ls st m := by
  rw [s_j, s_g_eq, g_l285]; rfl
theorem u_285_19 {X : e_X} {d : Nat} {ls st : List Value} {m : e_M} : s_j X d 285 19 ls st m = s_x X d 285 [.aload 0, .iload 1, .sipush 0, .invokeinterface 282 3, .istore 4, .sipush 0, .istore 5, .aload 0, .invokeinterface 230 1, .sipush 0, .istore 6, .jsr 37] ls st m := by
  rw [s_j, s_g_eq, g_l285]; rfl
theorem u_285_37 {X : e_X} {d : Nat} {ls st : List Value} {m : e_M} : s_j X d 285 37 ls st m = s_x X d 285 [.iload 6, .iload 3, .if_icmp .ge 145, .iload 4, .ifCond .ne 145, .aload 0, .iload 1, .iload 2, .iload 6, .invokeinterface 284 4, .ifCond .eq 76, .aload 0, .checkcast 672, .sipush 40, .iload 1, .imul, .iload 2, .iadd, .iload 6, .iadd, .iaload, .goto 77] ls st m := by
  rw [s_j, s_g_eq, g_l285]; rfl
theorem u_285_76 {X : e_X} {d : Nat} {ls st : List Value} {m : e_M} : s_j X d 285 76 ls st m = s_x X d 285 [.sipush (-1), .jsr 77] ls st m := by
  rw [s_j, s_g_eq, g_l285]; rfl
theorem u_285_77 {X : e_X} {d : Nat} {ls st : List Value} {m : e_M} : s_j X d 285 77 ls st m = s_x X d 285 [.istore 7, .aload 0, .iload 1, .iload 2, .iload 6, .invokeinterface 284 4, .ifCond .ne 95, .sipush (-12), .goto 117] ls st m := by
  rw [s_j, s_g_eq, g_l285]; rfl
theorem u_285_95 {X : e_X} {d : Nat} {ls st : List Value} {m : e_M} : s_j X d 285 95 ls st m = s_x X d 285 [.aload 0, .iload 7, .invokeinterface 276 2, .ifCond .eq 111, .aload 0, .invokeinterface 217 1, .ifCond .eq 116, .jsr 111] ls st m := by
  rw [s_j, s_g_eq, g_l285]; rfl
theorem u_285_111 {X : e_X} {d : Nat} {ls st : List Value} {m : e_M} : s_j X d 285 111 ls st m = s_x X d 285 [.sipush (-4), .goto 117] ls st m := by
  rw [s_j, s_g_eq, g_l285]; rfl
theorem u_285_116 {X : e_X} {d : Nat} {ls st : List Value} {m : e_M} : s_j X d 285 116 ls st m = s_x X d 285 [.sipush 0, .jsr 117] ls st m := by
  rw [s_j, s_g_eq, g_l285]; rfl
theorem u_285_117 {X : e_X} {d : Nat} {ls st : List Value} {m : e_M} : s_j X d 285 117 ls st m = s_x X d 285 [.istore 4, .iload 5, .iload 4, .ifCond .ne 135, .aload 0, .iload 7, .invokeinterface 220 2, .goto 136] ls st m := by
  rw [s_j, s_g_eq, g_l285]; rfl
theorem u_285_135 {X : e_X} {d : Nat} {ls st : List Value} {m : e_M} : s_j X d 285 135 ls st m = s_x X d 285 [.sipush 0, .jsr 136] ls st m := by
  rw [s_j, s_g_eq, g_l285]; rfl
theorem u_285_136 {X : e_X} {d : Nat} {ls st : List Value} {m : e_M} : s_j X d 285 136 ls st m = s_x X d 285 [.iadd, .istore 5, .iinc 6 1, .goto 37] ls st m := by
  rw [s_j, s_g_eq, g_l285]; rfl
theorem u_285_145 {X : e_X} {d : Nat} {ls st : List Value} {m : e_M} : s_j X d 285 145 ls st m = s_x X d 285 [.aload 0, .invokeinterface 232 1, .iload 4, .ifCond .eq 159, .iload 4, .goto 161] ls st m := by
  rw [s_j, s_g_eq, g_l285]; rfl
theorem u_285_159 {X : e_X} {d : Nat} {ls st : List Value} {m : e_M} : s_j X d 285 159 ls st m = s_x X d 285 [.iload 5, .jsr 161] ls st m := by
  rw [s_j, s_g_eq, g_l285]; rfl
theorem u_285_161 {X : e_X} {d : Nat} {ls st : List Value} {m : e_M} : s_j X d 285 161 ls st m = s_x X d 285 [.ireturn] ls st m := by
  rw [s_j, s_g_eq, g_l285]; rfl
/-- M.shelf -/
theorem g_l286 (l : Nat) : g_P 286 l = (g_c286.lookup l).getD [] := rfl
theorem v_286_69 {X : e_X} {d : Nat} {a1 : Int32} {a2 : Int32} {a3 : Int32} {I J : Nat → Int → Int} : s_S X (d + 1) 286 [.ref 69, .int a1, .int a2, .int a3] (mm I J) = s_j X d 286 0 [.ref 69, .int a1, .int a2, .int a3] [] (mm I J) := s_S_in rfl rfl
theorem u_286_0 {X : e_X} {d : Nat} {ls st : List Value} {m : e_M} : s_j X d 286 0 ls st m = s_x X d 286 [.iload 1, .invokeinterface 278 1, .ifCond .eq 40, .iload 2, .sipush 0, .sipush 2, .invokeinterface 172 3, .ifCond .eq 40, .iload 2, .ifCond .ne 28, .aload 0, .iload 3, .invokeinterface 194 2, .ifCond .eq 40, .jsr 28] ls st m := by
  rw [s_j, s_g_eq, g_l286]; rfl
theorem u_286_28 {X : e_X} {d : Nat} {ls st : List Value} {m : e_M} : s_j X d 286 28 ls st m = s_x X d 286 [.iload 2, .sipush 1, .if_icmp .ne 42, .iload 3, .invokeinterface 278 1, .ifCond .ne 42, .jsr 40] ls st m := by
  rw [s_j, s_g_eq, g_l286]; rfl
theorem u_286_40 {X : e_X} {d : Nat} {ls st : List Value} {m : e_M} : s_j X d 286 40 ls st m = s_x X d 286 [.sipush (-1), .ireturn] ls st m := by
  rw [s_j, s_g_eq, g_l286]; rfl
theorem u_286_42 {X : e_X} {d : Nat} {ls st : List Value} {m : e_M} : s_j X d 286 42 ls st m = s_x X d 286 [.aload 0, .checkcast 673, .iload 1, .iload 2, .ifCond .ne 55, .sipush 0, .goto 82] ls st m := by
  rw [s_j, s_g_eq, g_l286]; rfl
theorem u_286_55 {X : e_X} {d : Nat} {ls st : List Value} {m : e_M} : s_j X d 286 55 ls st m = s_x X d 286 [.iload 2, .sipush 1, .if_icmp .ne 81, .aload 0, .checkcast 670, .iload 3, .iaload, .ifCond .lt 81, .sipush 10, .aload 0, .checkcast 670, .iload 3, .iaload, .iadd, .goto 82] ls st m := by
  rw [s_j, s_g_eq, g_l286]; rfl
theorem u_286_81 {X : e_X} {d : Nat} {ls st : List Value} {m : e_M} : s_j X d 286 81 ls st m = s_x X d 286 [.sipush (-1), .jsr 82] ls st m := by
  rw [s_j, s_g_eq, g_l286]; rfl
theorem u_286_82 {X : e_X} {d : Nat} {ls st : List Value} {m : e_M} : s_j X d 286 82 ls st m = s_x X d 286 [.iastore, .aload 0, .checkcast 674, .iload 1, .iload 2, .ifCond .ne 96, .iload 3, .goto 111] ls st m := by
  rw [s_j, s_g_eq, g_l286]; rfl
theorem u_286_96 {X : e_X} {d : Nat} {ls st : List Value} {m : e_M} : s_j X d 286 96 ls st m = s_x X d 286 [.iload 2, .sipush 1, .if_icmp .ne 110, .aload 0, .checkcast 671, .iload 3, .iaload, .goto 111] ls st m := by
  rw [s_j, s_g_eq, g_l286]; rfl
theorem u_286_110 {X : e_X} {d : Nat} {ls st : List Value} {m : e_M} : s_j X d 286 110 ls st m = s_x X d 286 [.sipush 0, .jsr 111] ls st m := by
  rw [s_j, s_g_eq, g_l286]; rfl
theorem u_286_111 {X : e_X} {d : Nat} {ls st : List Value} {m : e_M} : s_j X d 286 111 ls st m = s_x X d 286 [.iastore, .sipush 1, .ireturn] ls st m := by
  rw [s_j, s_g_eq, g_l286]; rfl
/-- M.taken -/
theorem g_l287 (l : Nat) : g_P 287 l = (g_c287.lookup l).getD [] := rfl
theorem v_287_69 {X : e_X} {d : Nat} {a1 : Int32} {a2 : Int32} {I J : Nat → Int → Int} : s_S X (d + 1) 287 [.ref 69, .int a1, .int a2] (mm I J) = s_j X d 287 0 [.ref 69, .int a1, .int a2, .retAddr 0, .retAddr 0] [] (mm I J) := s_S_in rfl rfl
theorem u_287_0 {X : e_X} {d : Nat} {ls st : List Value} {m : e_M} : s_j X d 287 0 ls st m = s_x X d 287 [.iload 1, .invokeinterface 278 1, .ifCond .eq 27, .iload 2, .sipush 0, .sipush 5, .invokeinterface 172 3, .ifCond .ne 29, .iload 2, .sipush 10, .sipush 14, .invokeinterface 172 3, .ifCond .ne 29, .jsr 27] ls st m := by
  rw [s_j, s_g_eq, g_l287]; rfl
theorem u_287_27 {X : e_X} {d : Nat} {ls st : List Value} {m : e_M} : s_j X d 287 27 ls st m = s_x X d 287 [.sipush (-1), .ireturn] ls st m := by
  rw [s_j, s_g_eq, g_l287]; rfl
theorem u_287_29 {X : e_X} {d : Nat} {ls st : List Value} {m : e_M} : s_j X d 287 29 ls st m = s_x X d 287 [.aload 0, .iload 1, .invokeinterface 288 2, .istore 3, .iload 3, .ifCond .ge 42, .sipush (-11), .ireturn] ls st m := by
  rw [s_j, s_g_eq, g_l287]; rfl
theorem u_287_42 {X : e_X} {d : Nat} {ls st : List Value} {m : e_M} : s_j X d 287 42 ls st m = s_x X d 287 [.iload 3, .ifCond .ne 78, .iload 2, .sipush 10, .if_icmp .ge 74, .aload 0, .aload 0, .checkcast 674, .iload 1, .iaload, .sipush 0, .invokeinterface 196 3, .iload 2, .invokeinterface 202 2, .ifCond .eq 74, .sipush 1, .goto 88] ls st m := by
  rw [s_j, s_g_eq, g_l287]; rfl
theorem u_287_74 {X : e_X} {d : Nat} {ls st : List Value} {m : e_M} : s_j X d 287 74 ls st m = s_x X d 287 [.sipush 0, .goto 88] ls st m := by
  rw [s_j, s_g_eq, g_l287]; rfl
theorem u_287_78 {X : e_X} {d : Nat} {ls st : List Value} {m : e_M} : s_j X d 287 78 ls st m = s_x X d 287 [.iload 3, .iload 2, .if_icmp .ne 87, .sipush 1, .goto 88] ls st m := by
  rw [s_j, s_g_eq, g_l287]; rfl
theorem u_287_87 {X : e_X} {d : Nat} {ls st : List Value} {m : e_M} : s_j X d 287 87 ls st m = s_x X d 287 [.sipush 0, .jsr 88] ls st m := by
  rw [s_j, s_g_eq, g_l287]; rfl
theorem u_287_88 {X : e_X} {d : Nat} {ls st : List Value} {m : e_M} : s_j X d 287 88 ls st m = s_x X d 287 [.istore 4, .iload 4, .ifCond .eq 104, .aload 0, .checkcast 674, .iload 1, .iaload, .goto 106] ls st m := by
  rw [s_j, s_g_eq, g_l287]; rfl
theorem u_287_104 {X : e_X} {d : Nat} {ls st : List Value} {m : e_M} : s_j X d 287 104 ls st m = s_x X d 287 [.sipush (-13), .jsr 106] ls st m := by
  rw [s_j, s_g_eq, g_l287]; rfl
theorem u_287_106 {X : e_X} {d : Nat} {ls st : List Value} {m : e_M} : s_j X d 287 106 ls st m = s_x X d 287 [.ireturn] ls st m := by
  rw [s_j, s_g_eq, g_l287]; rfl
/-- M.heldOn -/
theorem g_l288 (l : Nat) : g_P 288 l = (g_c288.lookup l).getD [] := rfl
theorem v_288_69 {X : e_X} {d : Nat} {a1 : Int32} {I J : Nat → Int → Int} : s_S X (d + 1) 288 [.ref 69, .int a1] (mm I J) = s_j X d 288 0 [.ref 69, .int a1] [] (mm I J) := s_S_in rfl rfl
theorem u_288_0 {X : e_X} {d : Nat} {ls st : List Value} {m : e_M} : s_j X d 288 0 ls st m = s_x X d 288 [.aload 0, .checkcast 673, .iload 1, .iaload, .ifCond .ne 26, .aload 0, .aload 0, .checkcast 674, .iload 1, .iaload, .invokeinterface 194 2, .ifCond .ne 26, .sipush (-1), .goto 32] ls st m := by
  rw [s_j, s_g_eq, g_l288]; rfl
theorem u_288_26 {X : e_X} {d : Nat} {ls st : List Value} {m : e_M} : s_j X d 288 26 ls st m = s_x X d 288 [.aload 0, .checkcast 673, .iload 1, .iaload, .jsr 32] ls st m := by
  rw [s_j, s_g_eq, g_l288]; rfl
theorem u_288_32 {X : e_X} {d : Nat} {ls st : List Value} {m : e_M} : s_j X d 288 32 ls st m = s_x X d 288 [.ireturn] ls st m := by
  rw [s_j, s_g_eq, g_l288]; rfl
/-- M.act -/
theorem g_l289 (l : Nat) : g_P 289 l = (g_c289.lookup l).getD [] := rfl
theorem v_289_69 {X : e_X} {d : Nat} {a1 : Int32} {a2 : Int32} {a3 : Int32} {I J : Nat → Int → Int} : s_S X (d + 1) 289 [.ref 69, .int a1, .int a2, .int a3] (mm I J) = s_j X d 289 0 [.ref 69, .int a1, .int a2, .int a3, .retAddr 0, .retAddr 0] [] (mm I J) := s_S_in rfl rfl
theorem u_289_0 {X : e_X} {d : Nat} {ls st : List Value} {m : e_M} : s_j X d 289 0 ls st m = s_x X d 289 [.aload 0, .sipush 0, .putfield 676, .iload 1, .invokeinterface 278 1, .ifCond .eq 29, .iload 2, .sipush 0, .sipush 3, .invokeinterface 172 3, .ifCond .eq 29, .aload 0, .iload 1, .invokeinterface 288 2, .ifCond .eq 31, .jsr 29] ls st m := by
  rw [s_j, s_g_eq, g_l289]; rfl
theorem u_289_29 {X : e_X} {d : Nat} {ls st : List Value} {m : e_M} : s_j X d 289 29 ls st m = s_x X d 289 [.sipush 0, .ireturn] ls st m := by
  rw [s_j, s_g_eq, g_l289]; rfl
theorem u_289_31 {X : e_X} {d : Nat} {ls st : List Value} {m : e_M} : s_j X d 289 31 ls st m = s_x X d 289 [.aload 0, .aload 0, .checkcast 674, .iload 1, .iaload, .putfield 677, .aload 0, .sipush 0, .putfield 678, .aload 0, .aload 0, .getfield 677, .sipush 0, .invokeinterface 196 3, .istore 4, .iload 2, .ifCond .ne 71, .aload 0, .iload 4, .iload 3, .invokeinterface 290 3, .goto 108] ls st m := by
  rw [s_j, s_g_eq, g_l289]; rfl
theorem u_289_71 {X : e_X} {d : Nat} {ls st : List Value} {m : e_M} : s_j X d 289 71 ls st m = s_x X d 289 [.iload 2, .sipush 1, .if_icmp .ne 86, .aload 0, .iload 4, .iload 3, .invokeinterface 292 3, .goto 108] ls st m := by
  rw [s_j, s_g_eq, g_l289]; rfl
theorem u_289_86 {X : e_X} {d : Nat} {ls st : List Value} {m : e_M} : s_j X d 289 86 ls st m = s_x X d 289 [.iload 2, .sipush 2, .if_icmp .ne 101, .aload 0, .iload 4, .iload 3, .invokeinterface 293 3, .goto 108] ls st m := by
  rw [s_j, s_g_eq, g_l289]; rfl
theorem u_289_101 {X : e_X} {d : Nat} {ls st : List Value} {m : e_M} : s_j X d 289 101 ls st m = s_x X d 289 [.aload 0, .iload 4, .iload 3, .invokeinterface 294 3, .jsr 108] ls st m := by
  rw [s_j, s_g_eq, g_l289]; rfl
theorem u_289_108 {X : e_X} {d : Nat} {ls st : List Value} {m : e_M} : s_j X d 289 108 ls st m = s_x X d 289 [.istore 5, .aload 0, .getfield 678, .ifCond .eq 122, .sipush (-15), .goto 124] ls st m := by
  rw [s_j, s_g_eq, g_l289]; rfl
theorem u_289_122 {X : e_X} {d : Nat} {ls st : List Value} {m : e_M} : s_j X d 289 122 ls st m = s_x X d 289 [.iload 5, .jsr 124] ls st m := by
  rw [s_j, s_g_eq, g_l289]; rfl
theorem u_289_124 {X : e_X} {d : Nat} {ls st : List Value} {m : e_M} : s_j X d 289 124 ls st m = s_x X d 289 [.ireturn] ls st m := by
  rw [s_j, s_g_eq, g_l289]; rfl
/-- M.laysAs -/
theorem g_l290 (l : Nat) : g_P 290 l = (g_c290.lookup l).getD [] := rfl
theorem v_290_69 {X : e_X} {d : Nat} {a1 : Int32} {a2 : Int32} {I J : Nat → Int → Int} : s_S X (d + 1) 290 [.ref 69, .int a1, .int a2] (mm I J) = s_j X d 290 0 [.ref 69, .int a1, .int a2] [] (mm I J) := s_S_in rfl rfl
theorem u_290_0 {X : e_X} {d : Nat} {ls st : List Value} {m : e_M} : s_j X d 290 0 ls st m = s_x X d 290 [.iload 1, .sipush 1, .if_icmp .ne 20, .aload 0, .sipush 20, .invokeinterface 291 2, .aload 0, .sipush 0, .iload 2, .invokeinterface 290 3, .sipush 3, .imul, .ireturn] ls st m := by
  rw [s_j, s_g_eq, g_l290]; rfl
theorem u_290_20 {X : e_X} {d : Nat} {ls st : List Value} {m : e_M} : s_j X d 290 20 ls st m = s_x X d 290 [.iload 1, .sipush 3, .if_icmp .ne 40, .aload 0, .sipush 50, .invokeinterface 291 2, .aload 0, .sipush 2, .iload 2, .invokeinterface 290 3, .sipush 4, .ixor, .ireturn] ls st m := by
  rw [s_j, s_g_eq, g_l290]; rfl
theorem u_290_40 {X : e_X} {d : Nat} {ls st : List Value} {m : e_M} : s_j X d 290 40 ls st m = s_x X d 290 [.aload 0, .sipush 10, .invokeinterface 291 2, .iload 2, .sipush 2, .imul, .aload 0, .getfield 677, .iadd, .ireturn] ls st m := by
  rw [s_j, s_g_eq, g_l290]; rfl
/-- M.starts -/
theorem g_l291 (l : Nat) : g_P 291 l = (g_c291.lookup l).getD [] := rfl
theorem v_291_69 {X : e_X} {d : Nat} {a1 : Int32} {I J : Nat → Int → Int} : s_S X (d + 1) 291 [.ref 69, .int a1] (mm I J) = s_j X d 291 0 [.ref 69, .int a1] [] (mm I J) := s_S_in rfl rfl
theorem u_291_0 {X : e_X} {d : Nat} {ls st : List Value} {m : e_M} : s_j X d 291 0 ls st m = s_x X d 291 [.aload 0, .getfield 676, .sipush 30, .if_icmp .ge 29, .aload 0, .checkcast 675, .aload 0, .getfield 676, .iload 1, .iastore, .aload 0, .dup, .getfield 676, .sipush 1, .iadd, .putfield 676, .jsr 29] ls st m := by
  rw [s_j, s_g_eq, g_l291]; rfl
theorem u_291_29 {X : e_X} {d : Nat} {ls st : List Value} {m : e_M} : s_j X d 291 29 ls st m = s_x X d 291 [.return_] ls st m := by
  rw [s_j, s_g_eq, g_l291]; rfl
/-- M.tiltsAs -/
theorem g_l292 (l : Nat) : g_P 292 l = (g_c292.lookup l).getD [] := rfl
theorem v_292_69 {X : e_X} {d : Nat} {a1 : Int32} {a2 : Int32} {I J : Nat → Int → Int} : s_S X (d + 1) 292 [.ref 69, .int a1, .int a2] (mm I J) = s_j X d 292 0 [.ref 69, .int a1, .int a2] [] (mm I J) := s_S_in rfl rfl
theorem u_292_0 {X : e_X} {d : Nat} {ls st : List Value} {m : e_M} : s_j X d 292 0 ls st m = s_x X d 292 [.iload 1, .sipush 2, .if_icmp .eq 10, .iload 1, .sipush 3, .if_icmp .ne 25, .jsr 10] ls st m := by
  rw [s_j, s_g_eq, g_l292]; rfl
theorem u_292_10 {X : e_X} {d : Nat} {ls st : List Value} {m : e_M} : s_j X d 292 10 ls st m = s_x X d 292 [.aload 0, .sipush 30, .invokeinterface 291 2, .aload 0, .sipush 0, .iload 2, .sipush 1, .iadd, .invokeinterface 292 3, .ireturn] ls st m := by
  rw [s_j, s_g_eq, g_l292]; rfl
theorem u_292_25 {X : e_X} {d : Nat} {ls st : List Value} {m : e_M} : s_j X d 292 25 ls st m = s_x X d 292 [.iload 1, .sipush 5, .if_icmp .ne 46, .aload 0, .sipush 60, .invokeinterface 291 2, .aload 0, .sipush 4, .iload 2, .invokeinterface 292 3, .sipush 60, .isub, .ireturn] ls st m := by
  rw [s_j, s_g_eq, g_l292]; rfl
theorem u_292_46 {X : e_X} {d : Nat} {ls st : List Value} {m : e_M} : s_j X d 292 46 ls st m = s_x X d 292 [.aload 0, .sipush 11, .invokeinterface 291 2, .aload 0, .aload 0, .aload 0, .getfield 677, .sipush 0, .invokeinterface 196 3, .iload 2, .invokeinterface 290 3, .aload 0, .aload 0, .getfield 677, .sipush 3, .invokeinterface 196 3, .isub, .ireturn] ls st m := by
  rw [s_j, s_g_eq, g_l292]; rfl
/-- M.breaksAs -/
theorem g_l293 (l : Nat) : g_P 293 l = (g_c293.lookup l).getD [] := rfl
theorem v_293_69 {X : e_X} {d : Nat} {a1 : Int32} {a2 : Int32} {I J : Nat → Int → Int} : s_S X (d + 1) 293 [.ref 69, .int a1, .int a2] (mm I J) = s_j X d 293 0 [.ref 69, .int a1, .int a2, .retAddr 0] [] (mm I J) := s_S_in rfl rfl
theorem u_293_0 {X : e_X} {d : Nat} {ls st : List Value} {m : e_M} : s_j X d 293 0 ls st m = s_x X d 293 [.iload 1, .sipush 5, .if_icmp .ne 46, .aload 0, .sipush 61, .invokeinterface 291 2, .aload 0, .sipush 4, .iload 2, .invokeinterface 293 3, .istore 3, .aload 0, .getfield 678, .ifCond .eq 29, .sipush 0, .goto 45] ls st m := by
  rw [s_j, s_g_eq, g_l293]; rfl
theorem u_293_29 {X : e_X} {d : Nat} {ls st : List Value} {m : e_M} : s_j X d 293 29 ls st m = s_x X d 293 [.iload 3, .aload 0, .sipush 5, .aload 0, .aload 0, .getfield 677, .sipush 3, .invokeinterface 196 3, .invokeinterface 290 3, .ixor, .jsr 45] ls st m := by
  rw [s_j, s_g_eq, g_l293]; rfl
theorem u_293_45 {X : e_X} {d : Nat} {ls st : List Value} {m : e_M} : s_j X d 293 45 ls st m = s_x X d 293 [.ireturn] ls st m := by
  rw [s_j, s_g_eq, g_l293]; rfl
theorem u_293_46 {X : e_X} {d : Nat} {ls st : List Value} {m : e_M} : s_j X d 293 46 ls st m = s_x X d 293 [.iload 1, .sipush 4, .if_icmp .ne 65, .aload 0, .sipush 40, .invokeinterface 291 2, .aload 0, .sipush 0, .iload 2, .invokeinterface 293 3, .ineg, .ireturn] ls st m := by
  rw [s_j, s_g_eq, g_l293]; rfl
theorem u_293_65 {X : e_X} {d : Nat} {ls st : List Value} {m : e_M} : s_j X d 293 65 ls st m = s_x X d 293 [.aload 0, .sipush 12, .invokeinterface 291 2, .aload 0, .getfield 677, .aload 0, .aload 0, .getfield 677, .sipush 3, .invokeinterface 196 3, .iadd, .sipush 3, .isub, .istore 3, .aload 0, .aload 0, .getfield 678, .ifCond .ne 100, .iload 3, .ifCond .ne 104, .jsr 100] ls st m := by
  rw [s_j, s_g_eq, g_l293]; rfl
theorem u_293_100 {X : e_X} {d : Nat} {ls st : List Value} {m : e_M} : s_j X d 293 100 ls st m = s_x X d 293 [.sipush 1, .goto 105] ls st m := by
  rw [s_j, s_g_eq, g_l293]; rfl
theorem u_293_104 {X : e_X} {d : Nat} {ls st : List Value} {m : e_M} : s_j X d 293 104 ls st m = s_x X d 293 [.sipush 0, .jsr 105] ls st m := by
  rw [s_j, s_g_eq, g_l293]; rfl
theorem u_293_105 {X : e_X} {d : Nat} {ls st : List Value} {m : e_M} : s_j X d 293 105 ls st m = s_x X d 293 [.putfield 678, .aload 0, .getfield 678, .ifCond .eq 119, .sipush 0, .goto 122] ls st m := by
  rw [s_j, s_g_eq, g_l293]; rfl
theorem u_293_119 {X : e_X} {d : Nat} {ls st : List Value} {m : e_M} : s_j X d 293 119 ls st m = s_x X d 293 [.iload 2, .iload 3, .irem, .jsr 122] ls st m := by
  rw [s_j, s_g_eq, g_l293]; rfl
theorem u_293_122 {X : e_X} {d : Nat} {ls st : List Value} {m : e_M} : s_j X d 293 122 ls st m = s_x X d 293 [.ireturn] ls st m := by
  rw [s_j, s_g_eq, g_l293]; rfl
/-- M.shinesAs -/
theorem g_l294 (l : Nat) : g_P 294 l = (g_c294.lookup l).getD [] := rfl
theorem v_294_69 {X : e_X} {d : Nat} {a1 : Int32} {a2 : Int32} {I J : Nat → Int → Int} : s_S X (d + 1) 294 [.ref 69, .int a1, .int a2] (mm I J) = s_j X d 294 0 [.ref 69, .int a1, .int a2, .retAddr 0] [] (mm I J) := s_S_in rfl rfl
theorem u_294_0 {X : e_X} {d : Nat} {ls st : List Value} {m : e_M} : s_j X d 294 0 ls st m = s_x X d 294 [.iload 1, .sipush 3, .if_icmp .ne 41, .aload 0, .sipush 51, .invokeinterface 291 2, .aload 0, .sipush 2, .iload 2, .invokeinterface 294 3, .istore 3, .aload 0, .getfield 678, .ifCond .eq 29, .sipush 0, .goto 40] ls st m := by
  rw [s_j, s_g_eq, g_l294]; rfl
theorem u_294_29 {X : e_X} {d : Nat} {ls st : List Value} {m : e_M} : s_j X d 294 29 ls st m = s_x X d 294 [.iload 3, .aload 0, .sipush 3, .aload 0, .getfield 677, .invokeinterface 292 3, .iadd, .jsr 40] ls st m := by
  rw [s_j, s_g_eq, g_l294]; rfl
theorem u_294_40 {X : e_X} {d : Nat} {ls st : List Value} {m : e_M} : s_j X d 294 40 ls st m = s_x X d 294 [.ireturn] ls st m := by
  rw [s_j, s_g_eq, g_l294]; rfl
theorem u_294_41 {X : e_X} {d : Nat} {ls st : List Value} {m : e_M} : s_j X d 294 41 ls st m = s_x X d 294 [.aload 0, .sipush 13, .invokeinterface 291 2, .aload 0, .aload 0, .aload 0, .getfield 677, .sipush 0, .invokeinterface 196 3, .iload 2, .invokeinterface 292 3, .istore 3, .iload 3, .aload 0, .aload 0, .aload 0, .getfield 677, .sipush 0, .invokeinterface 196 3, .iload 2, .invokeinterface 293 3, .ixor, .ireturn] ls st m := by
  rw [s_j, s_g_eq, g_l294]; rfl
/-- M.trace -/
theorem g_l295 (l : Nat) : g_P 295 l = (g_c295.lookup l).getD [] := rfl
theorem v_295_69 {X : e_X} {d : Nat} {a1 : Int32} {I J : Nat → Int → Int} : s_S X (d + 1) 295 [.ref 69, .int a1] (mm I J) = s_j X d 295 0 [.ref 69, .int a1] [] (mm I J) := s_S_in rfl rfl
theorem u_295_0 {X : e_X} {d : Nat} {ls st : List Value} {m : e_M} : s_j X d 295 0 ls st m = s_x X d 295 [.iload 1, .sipush 0, .aload 0, .getfield 676, .sipush 1, .isub, .invokeinterface 172 3, .ifCond .eq 23, .aload 0, .checkcast 675, .iload 1, .iaload, .goto 25] ls st m := by
  rw [s_j, s_g_eq, g_l295]; rfl
theorem u_295_23 {X : e_X} {d : Nat} {ls st : List Value} {m : e_M} : s_j X d 295 23 ls st m = s_x X d 295 [.sipush (-3), .jsr 25] ls st m := by
  rw [s_j, s_g_eq, g_l295]; rfl
theorem u_295_25 {X : e_X} {d : Nat} {ls st : List Value} {m : e_M} : s_j X d 295 25 ls st m = s_x X d 295 [.ireturn] ls st m := by
  rw [s_j, s_g_eq, g_l295]; rfl
/-- M.many -/
theorem g_l296 (l : Nat) : g_P 296 l = (g_c296.lookup l).getD [] := rfl
theorem v_296_69 {X : e_X} {d : Nat} {a1 : Int32} {I J : Nat → Int → Int} : s_S X (d + 1) 296 [.ref 69, .int a1] (mm I J) = s_j X d 296 0 [.ref 69, .int a1] [] (mm I J) := s_S_in rfl rfl
theorem u_296_0 {X : e_X} {d : Nat} {ls st : List Value} {m : e_M} : s_j X d 296 0 ls st m = s_x X d 296 [.iload 1, .lookupswitch 92 #[(0, 44), (1, 52), (2, 60), (3, 69), (4, 77), (5, 82), (6, 87)]] ls st m := by
  rw [s_j, s_g_eq, g_l296]; rfl
theorem u_296_44 {X : e_X} {d : Nat} {ls st : List Value} {m : e_M} : s_j X d 296 44 ls st m = s_x X d 296 [.aload 0, .checkcast 640, .sipush 6, .iaload, .ireturn] ls st m := by
  rw [s_j, s_g_eq, g_l296]; rfl
theorem u_296_52 {X : e_X} {d : Nat} {ls st : List Value} {m : e_M} : s_j X d 296 52 ls st m = s_x X d 296 [.aload 0, .checkcast 640, .sipush 7, .iaload, .ireturn] ls st m := by
  rw [s_j, s_g_eq, g_l296]; rfl
theorem u_296_60 {X : e_X} {d : Nat} {ls st : List Value} {m : e_M} : s_j X d 296 60 ls st m = s_x X d 296 [.aload 0, .sipush 4, .invokeinterface 218 2, .invokeinterface 297 1, .ireturn] ls st m := by
  rw [s_j, s_g_eq, g_l296]; rfl
theorem u_296_69 {X : e_X} {d : Nat} {ls st : List Value} {m : e_M} : s_j X d 296 69 ls st m = s_x X d 296 [.aload 0, .checkcast 640, .sipush 8, .iaload, .ireturn] ls st m := by
  rw [s_j, s_g_eq, g_l296]; rfl
theorem u_296_77 {X : e_X} {d : Nat} {ls st : List Value} {m : e_M} : s_j X d 296 77 ls st m = s_x X d 296 [.aload 0, .getfield 669, .ireturn] ls st m := by
  rw [s_j, s_g_eq, g_l296]; rfl
theorem u_296_82 {X : e_X} {d : Nat} {ls st : List Value} {m : e_M} : s_j X d 296 82 ls st m = s_x X d 296 [.aload 0, .getfield 646, .ireturn] ls st m := by
  rw [s_j, s_g_eq, g_l296]; rfl
theorem u_296_87 {X : e_X} {d : Nat} {ls st : List Value} {m : e_M} : s_j X d 296 87 ls st m = s_x X d 296 [.aload 0, .getfield 676, .ireturn] ls st m := by
  rw [s_j, s_g_eq, g_l296]; rfl
theorem u_296_92 {X : e_X} {d : Nat} {ls st : List Value} {m : e_M} : s_j X d 296 92 ls st m = s_x X d 296 [.sipush (-1), .ireturn] ls st m := by
  rw [s_j, s_g_eq, g_l296]; rfl
/-- M.ones -/
theorem g_l297 (l : Nat) : g_P 297 l = (g_c297.lookup l).getD [] := rfl
theorem v_297 {X : e_X} {d : Nat} {a0 : Int32} {I J : Nat → Int → Int} : s_S X (d + 1) 297 [.int a0] (mm I J) = s_j X d 297 0 [.int a0, .retAddr 0, .retAddr 0] [] (mm I J) := s_S_in rfl rfl
theorem u_297_0 {X : e_X} {d : Nat} {ls st : List Value} {m : e_M} : s_j X d 297 0 ls st m = s_x X d 297 [.sipush 0, .istore 1, .iload 0, .istore 2, .jsr 4] ls st m := by
  rw [s_j, s_g_eq, g_l297]; rfl
theorem u_297_4 {X : e_X} {d : Nat} {ls st : List Value} {m : e_M} : s_j X d 297 4 ls st m = s_x X d 297 [.iload 2, .ifCond .eq 20, .iinc 1 1, .iload 2, .iload 2, .sipush 1, .isub, .iand, .istore 2, .goto 4] ls st m := by
  rw [s_j, s_g_eq, g_l297]; rfl
theorem u_297_20 {X : e_X} {d : Nat} {ls st : List Value} {m : e_M} : s_j X d 297 20 ls st m = s_x X d 297 [.iload 1, .ireturn] ls st m := by
  rw [s_j, s_g_eq, g_l297]; rfl
/-- M.keep -/
theorem g_l298 (l : Nat) : g_P 298 l = (g_c298.lookup l).getD [] := rfl
theorem v_298_69 {X : e_X} {d : Nat}  {I J : Nat → Int → Int} : s_S X (d + 1) 298 [.ref 69] (mm I J) = s_j X d 298 0 [.ref 69, .retAddr 0] [] (mm I J) := s_S_in rfl rfl
theorem u_298_0 {X : e_X} {d : Nat} {ls st : List Value} {m : e_M} : s_j X d 298 0 ls st m = s_x X d 298 [.sipush 0, .istore 1, .jsr 2] ls st m := by
  rw [s_j, s_g_eq, g_l298]; rfl
theorem u_298_2 {X : e_X} {d : Nat} {ls st : List Value} {m : e_M} : s_j X d 298 2 ls st m = s_x X d 298 [.iload 1, .sipush 322, .if_icmp .ge 27, .aload 0, .checkcast 641, .iload 1, .aload 0, .checkcast 640, .iload 1, .iaload, .iastore, .iinc 1 1, .goto 2] ls st m := by
  rw [s_j, s_g_eq, g_l298]; rfl
theorem u_298_27 {X : e_X} {d : Nat} {ls st : List Value} {m : e_M} : s_j X d 298 27 ls st m = s_x X d 298 [.aload 0, .sipush 1, .putfield 643, .sipush 1, .ireturn] ls st m := by
  rw [s_j, s_g_eq, g_l298]; rfl
/-- M.again -/
theorem g_l299 (l : Nat) : g_P 299 l = (g_c299.lookup l).getD [] := rfl
theorem v_299_69 {X : e_X} {d : Nat}  {I J : Nat → Int → Int} : s_S X (d + 1) 299 [.ref 69] (mm I J) = s_j X d 299 0 [.ref 69, .retAddr 0] [] (mm I J) := s_S_in rfl rfl
theorem u_299_0 {X : e_X} {d : Nat} {ls st : List Value} {m : e_M} : s_j X d 299 0 ls st m = s_x X d 299 [.aload 0, .getfield 643, .ifCond .ne 10, .sipush (-3), .ireturn] ls st m := by
  rw [s_j, s_g_eq, g_l299]; rfl
theorem u_299_10 {X : e_X} {d : Nat} {ls st : List Value} {m : e_M} : s_j X d 299 10 ls st m = s_x X d 299 [.sipush 0, .istore 1, .jsr 12] ls st m := by
  rw [s_j, s_g_eq, g_l299]; rfl
theorem u_299_12 {X : e_X} {d : Nat} {ls st : List Value} {m : e_M} : s_j X d 299 12 ls st m = s_x X d 299 [.iload 1, .sipush 322, .if_icmp .ge 37, .aload 0, .checkcast 640, .iload 1, .aload 0, .checkcast 641, .iload 1, .iaload, .iastore, .iinc 1 1, .goto 12] ls st m := by
  rw [s_j, s_g_eq, g_l299]; rfl
theorem u_299_37 {X : e_X} {d : Nat} {ls st : List Value} {m : e_M} : s_j X d 299 37 ls st m = s_x X d 299 [.aload 0, .checkcast 640, .sipush 6, .iaload, .ireturn] ls st m := by
  rw [s_j, s_g_eq, g_l299]; rfl
/-- J.bitCount -/
theorem g_l300 (l : Nat) : g_P 300 l = (g_c300.lookup l).getD [] := rfl
theorem v_300 {X : e_X} {d : Nat} {a0 : Int32} {I J : Nat → Int → Int} : s_S X (d + 1) 300 [.int a0] (mm I J) = s_j X d 300 0 [.int a0] [] (mm I J) := s_S_in rfl rfl
theorem u_300_0 {X : e_X} {d : Nat} {ls st : List Value} {m : e_M} : s_j X d 300 0 ls st m = s_x X d 300 [.iload 0, .iload 0, .sipush 1, .iushr, .sipush 1431655765, .iand, .isub, .istore 0, .iload 0, .sipush 858993459, .iand, .iload 0, .sipush 2, .iushr, .sipush 858993459, .iand, .iadd, .istore 0, .iload 0, .iload 0, .sipush 4, .iushr, .iadd, .sipush 252645135, .iand, .istore 0, .iload 0, .iload 0, .sipush 8, .iushr, .iadd, .istore 0, .iload 0, .iload 0, .sipush 16, .iushr, .iadd, .istore 0, .iload 0, .sipush 63, .iand, .ireturn] ls st m := by
  rw [s_j, s_g_eq, g_l300]; rfl
/-- J.length -/
theorem g_l301 (l : Nat) : g_P 301 l = (g_c301.lookup l).getD [] := rfl
theorem v_301_1002 {X : e_X} {d : Nat}  {I J : Nat → Int → Int} : s_S X (d + 1) 301 [.ref 1002] (mm I J) = s_j X d 301 0 [.ref 1002] [] (mm I J) := s_S_in rfl rfl
theorem u_301_0 {X : e_X} {d : Nat} {ls st : List Value} {m : e_M} : s_j X d 301 0 ls st m = s_x X d 301 [.aload 0, .fload 0, .fmul, .aload 0, .invokeinterface 302 1, .ishr, .ireturn] ls st m := by
  rw [s_j, s_g_eq, g_l301]; rfl
/-- J.coder -/
theorem g_l302 (l : Nat) : g_P 302 l = (g_c302.lookup l).getD [] := rfl
theorem v_302_1002 {X : e_X} {d : Nat}  {I J : Nat → Int → Int} : s_S X (d + 1) 302 [.ref 1002] (mm I J) = s_j X d 302 0 [.ref 1002] [] (mm I J) := s_S_in rfl rfl
theorem u_302_0 {X : e_X} {d : Nat} {ls st : List Value} {m : e_M} : s_j X d 302 0 ls st m = s_x X d 302 [.getstatic 1, .ifCond .eq 13, .aload 0, .fload 1, .goto 14] ls st m := by
  rw [s_j, s_g_eq, g_l302]; rfl
theorem u_302_13 {X : e_X} {d : Nat} {ls st : List Value} {m : e_M} : s_j X d 302 13 ls st m = s_x X d 302 [.sipush 1, .jsr 14] ls st m := by
  rw [s_j, s_g_eq, g_l302]; rfl
theorem u_302_14 {X : e_X} {d : Nat} {ls st : List Value} {m : e_M} : s_j X d 302 14 ls st m = s_x X d 302 [.dreturn] ls st m := by
  rw [s_j, s_g_eq, g_l302]; rfl
/-- J.charAt -/
theorem g_l303 (l : Nat) : g_P 303 l = (g_c303.lookup l).getD [] := rfl
theorem v_303_1002 {X : e_X} {d : Nat} {a1 : Int32} {I J : Nat → Int → Int} : s_S X (d + 1) 303 [.ref 1002, .int a1] (mm I J) = s_j X d 303 0 [.ref 1002, .int a1] [] (mm I J) := s_S_in rfl rfl
theorem u_303_0 {X : e_X} {d : Nat} {ls st : List Value} {m : e_M} : s_j X d 303 0 ls st m = s_x X d 303 [.aload 0, .invokeinterface 304 1, .ifCond .eq 16, .aload 0, .fload 0, .iload 1, .invokeinterface 306 2, .freturn] ls st m := by
  rw [s_j, s_g_eq, g_l303]; rfl
theorem u_303_16 {X : e_X} {d : Nat} {ls st : List Value} {m : e_M} : s_j X d 303 16 ls st m = s_x X d 303 [.aload 0, .fload 0, .iload 1] ls st m := by
  rw [s_j, s_g_eq, g_l303]; rfl
/-- J.isLatin1 -/
theorem g_l304 (l : Nat) : g_P 304 l = (g_c304.lookup l).getD [] := rfl
theorem v_304_1002 {X : e_X} {d : Nat}  {I J : Nat → Int → Int} : s_S X (d + 1) 304 [.ref 1002] (mm I J) = s_j X d 304 0 [.ref 1002] [] (mm I J) := s_S_in rfl rfl
theorem u_304_0 {X : e_X} {d : Nat} {ls st : List Value} {m : e_M} : s_j X d 304 0 ls st m = s_x X d 304 [.getstatic 1, .ifCond .eq 17, .aload 0, .fload 1, .ifCond .ne 17, .sipush 1, .goto 18] ls st m := by
  rw [s_j, s_g_eq, g_l304]; rfl
theorem u_304_17 {X : e_X} {d : Nat} {ls st : List Value} {m : e_M} : s_j X d 304 17 ls st m = s_x X d 304 [.sipush 0, .jsr 18] ls st m := by
  rw [s_j, s_g_eq, g_l304]; rfl
theorem u_304_18 {X : e_X} {d : Nat} {ls st : List Value} {m : e_M} : s_j X d 304 18 ls st m = s_x X d 304 [.areturn] ls st m := by
  rw [s_j, s_g_eq, g_l304]; rfl
/-- J.checkIndex -/
theorem g_l305 (l : Nat) : g_P 305 l = (g_c305.lookup l).getD [] := rfl
theorem v_305 {X : e_X} {d : Nat} {a0 : Int32} {a1 : Int32} {I J : Nat → Int → Int} : s_S X (d + 1) 305 [.int a0, .int a1] (mm I J) = s_j X d 305 0 [.int a0, .int a1] [] (mm I J) := s_S_in rfl rfl
theorem u_305_0 {X : e_X} {d : Nat} {ls st : List Value} {m : e_M} : s_j X d 305 0 ls st m = s_x X d 305 [.iload 0, .iload 1, .getstatic 2, .invokeinterface 307 3, .pop, .return_] ls st m := by
  rw [s_j, s_g_eq, g_l305]; rfl
/-- J.charAt_306 -/
theorem g_l306 (l : Nat) : g_P 306 l = (g_c306.lookup l).getD [] := rfl
theorem v_306 {X : e_X} {d : Nat} {a0 : Nat} {a1 : Int32} {I J : Nat → Int → Int} : s_S X (d + 1) 306 [.ref a0, .int a1] (mm I J) = s_j X d 306 0 [.ref a0, .int a1] [] (mm I J) := s_S_in rfl rfl
theorem u_306_0 {X : e_X} {d : Nat} {ls st : List Value} {m : e_M} : s_j X d 306 0 ls st m = s_x X d 306 [.iload 1, .aload 0, .fmul, .invokeinterface 305 2, .aload 0, .iload 1, .baload, .sipush 255, .iand, .i2c, .freturn] ls st m := by
  rw [s_j, s_g_eq, g_l306]; rfl
/-- J.checkIndex_307 -/
theorem g_l307 (l : Nat) : g_P 307 l = (g_c307.lookup l).getD [] := rfl
theorem v_307 {X : e_X} {d : Nat} {a0 : Int32} {a1 : Int32} {a2 : Nat} {I J : Nat → Int → Int} : s_S X (d + 1) 307 [.int a0, .int a1, .ref a2] (mm I J) = s_j X d 307 0 [.int a0, .int a1, .ref a2] [] (mm I J) := s_S_in rfl rfl
theorem u_307_0 {X : e_X} {d : Nat} {ls st : List Value} {m : e_M} : s_j X d 307 0 ls st m = s_x X d 307 [.iload 0, .ifCond .lt 9, .iload 0, .iload 1, .if_icmp .lt 16, .jsr 9] ls st m := by
  rw [s_j, s_g_eq, g_l307]; rfl
theorem u_307_9 {X : e_X} {d : Nat} {ls st : List Value} {m : e_M} : s_j X d 307 9 ls st m = s_x X d 307 [.aload 2, .iload 0, .iload 1] ls st m := by
  rw [s_j, s_g_eq, g_l307]; rfl
theorem u_307_16 {X : e_X} {d : Nat} {ls st : List Value} {m : e_M} : s_j X d 307 16 ls st m = s_x X d 307 [.iload 0, .ireturn] ls st m := by
  rw [s_j, s_g_eq, g_l307]; rfl
