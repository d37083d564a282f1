/-! THE LAW'S LOOP -/
theorem g_l308 (l : Nat) : g_P 308 l = (g_c308.lookup l).getD [] := rfl
theorem u_308_0 {X : e_X} {d : Nat} {ls st : List Value} {m : e_M} : s_j X d 308 0 ls st m = s_x X d 308 [.new 9, .dup, .invokeinterface 107 1, .astore 1, .new 10, .dup, .invokeinterface 170 1, .astore 2, .sipush 0, .istore 3, .jsr 18] ls st m := by
  rw [s_j, s_g_eq, g_l308]; rfl
theorem u_308_18 {X : e_X} {d : Nat} {ls st : List Value} {m : e_M} : s_j X d 308 18 ls st m = s_x X d 308 [.iload 3, .aload 0, .fadd, .sipush 5, .isub, .if_icmp .gt 1788, .aload 0, .iload 3, .faload, .sipush 63, .iand, .lookupswitch 1782 #[(0, 256), (1, 309), (2, 342), (3, 385), (4, 418), (5, 451), (6, 494), (7, 527), (8, 560), (9, 583), (10, 596), (11, 619), (12, 682), (13, 695), (14, 708), (15, 731), (16, 754), (17, 777), (18, 800), (19, 823), (20, 846), (21, 869), (22, 902), (23, 925), (24, 958), (25, 981), (26, 1014), (27, 1047), (28, 1070), (29, 1093), (30, 1146), (31, 1159), (32, 1182), (33, 1195), (34, 1218), (35, 1231), (36, 1264), (37, 1287), (38, 1320), (39, 1363), (40, 1376), (41, 1419), (42, 1462), (43, 1505), (44, 1548), (45, 1591), (46, 1634), (47, 1667), (48, 1710), (49, 1733), (50, 1756), (51, 1769)]] ls st m := by
  rw [s_j, s_g_eq, g_l308]; rfl
theorem u_308_256 {X : e_X} {d : Nat} {ls st : List Value} {m : e_M} : s_j X d 308 256 ls st m = s_x X d 308 [.aload 1, .aload 0, .iload 3, .sipush 1, .iadd, .faload, .aload 0, .iload 3, .sipush 2, .iadd, .faload, .aload 0, .iload 3, .sipush 3, .iadd, .faload, .aload 0, .iload 3, .sipush 4, .iadd, .faload, .invokeinterface 108 5, .aload 2, .aload 0, .iload 3, .sipush 1, .iadd, .faload, .aload 0, .iload 3, .sipush 2, .iadd, .faload, .aload 0, .iload 3, .sipush 3, .iadd, .faload, .aload 0, .iload 3, .sipush 4, .iadd, .faload, .invokeinterface 188 5, .if_icmp .eq 1782, .sipush 0, .areturn] ls st m := by
  rw [s_j, s_g_eq, g_l308]; rfl
theorem u_308_309 {X : e_X} {d : Nat} {ls st : List Value} {m : e_M} : s_j X d 308 309 ls st m = s_x X d 308 [.aload 1, .aload 0, .iload 3, .sipush 1, .iadd, .faload, .aload 0, .iload 3, .sipush 2, .iadd, .faload, .invokeinterface 110 3, .aload 2, .aload 0, .iload 3, .sipush 1, .iadd, .faload, .aload 0, .iload 3, .sipush 2, .iadd, .faload, .invokeinterface 193 3, .if_icmp .eq 1782, .sipush 0, .areturn] ls st m := by
  rw [s_j, s_g_eq, g_l308]; rfl
theorem u_308_342 {X : e_X} {d : Nat} {ls st : List Value} {m : e_M} : s_j X d 308 342 ls st m = s_x X d 308 [.aload 1, .aload 0, .iload 3, .sipush 1, .iadd, .faload, .aload 0, .iload 3, .sipush 2, .iadd, .faload, .aload 0, .iload 3, .sipush 3, .iadd, .faload, .invokeinterface 113 4, .aload 2, .aload 0, .iload 3, .sipush 1, .iadd, .faload, .aload 0, .iload 3, .sipush 2, .iadd, .faload, .aload 0, .iload 3, .sipush 3, .iadd, .faload, .invokeinterface 207 4, .if_icmp .eq 1782, .sipush 0, .areturn] ls st m := by
  rw [s_j, s_g_eq, g_l308]; rfl
theorem u_308_385 {X : e_X} {d : Nat} {ls st : List Value} {m : e_M} : s_j X d 308 385 ls st m = s_x X d 308 [.aload 1, .aload 0, .iload 3, .sipush 1, .iadd, .faload, .aload 0, .iload 3, .sipush 2, .iadd, .faload, .invokeinterface 115 3, .aload 2, .aload 0, .iload 3, .sipush 1, .iadd, .faload, .aload 0, .iload 3, .sipush 2, .iadd, .faload, .invokeinterface 209 3, .if_icmp .eq 1782, .sipush 0, .areturn] ls st m := by
  rw [s_j, s_g_eq, g_l308]; rfl
theorem u_308_418 {X : e_X} {d : Nat} {ls st : List Value} {m : e_M} : s_j X d 308 418 ls st m = s_x X d 308 [.aload 1, .aload 0, .iload 3, .sipush 1, .iadd, .faload, .aload 0, .iload 3, .sipush 2, .iadd, .faload, .invokeinterface 116 3, .aload 2, .aload 0, .iload 3, .sipush 1, .iadd, .faload, .aload 0, .iload 3, .sipush 2, .iadd, .faload, .invokeinterface 210 3, .if_icmp .eq 1782, .sipush 0, .areturn] ls st m := by
  rw [s_j, s_g_eq, g_l308]; rfl
theorem u_308_451 {X : e_X} {d : Nat} {ls st : List Value} {m : e_M} : s_j X d 308 451 ls st m = s_x X d 308 [.aload 1, .aload 0, .iload 3, .sipush 1, .iadd, .faload, .aload 0, .iload 3, .sipush 2, .iadd, .faload, .aload 0, .iload 3, .sipush 3, .iadd, .faload, .invokeinterface 117 4, .aload 2, .aload 0, .iload 3, .sipush 1, .iadd, .faload, .aload 0, .iload 3, .sipush 2, .iadd, .faload, .aload 0, .iload 3, .sipush 3, .iadd, .faload, .invokeinterface 211 4, .if_icmp .eq 1782, .sipush 0, .areturn] ls st m := by
  rw [s_j, s_g_eq, g_l308]; rfl
theorem u_308_494 {X : e_X} {d : Nat} {ls st : List Value} {m : e_M} : s_j X d 308 494 ls st m = s_x X d 308 [.aload 1, .aload 0, .iload 3, .sipush 1, .iadd, .faload, .aload 0, .iload 3, .sipush 2, .iadd, .faload, .invokeinterface 118 3, .aload 2, .aload 0, .iload 3, .sipush 1, .iadd, .faload, .aload 0, .iload 3, .sipush 2, .iadd, .faload, .invokeinterface 212 3, .if_icmp .eq 1782, .sipush 0, .areturn] ls st m := by
  rw [s_j, s_g_eq, g_l308]; rfl
theorem u_308_527 {X : e_X} {d : Nat} {ls st : List Value} {m : e_M} : s_j X d 308 527 ls st m = s_x X d 308 [.aload 1, .aload 0, .iload 3, .sipush 1, .iadd, .faload, .aload 0, .iload 3, .sipush 2, .iadd, .faload, .invokeinterface 119 3, .aload 2, .aload 0, .iload 3, .sipush 1, .iadd, .faload, .aload 0, .iload 3, .sipush 2, .iadd, .faload, .invokeinterface 213 3, .if_icmp .eq 1782, .sipush 0, .areturn] ls st m := by
  rw [s_j, s_g_eq, g_l308]; rfl
theorem u_308_560 {X : e_X} {d : Nat} {ls st : List Value} {m : e_M} : s_j X d 308 560 ls st m = s_x X d 308 [.aload 1, .aload 0, .iload 3, .sipush 1, .iadd, .faload, .invokeinterface 120 2, .aload 2, .aload 0, .iload 3, .sipush 1, .iadd, .faload, .invokeinterface 214 2, .if_icmp .eq 1782, .sipush 0, .areturn] ls st m := by
  rw [s_j, s_g_eq, g_l308]; rfl
theorem u_308_583 {X : e_X} {d : Nat} {ls st : List Value} {m : e_M} : s_j X d 308 583 ls st m = s_x X d 308 [.aload 1, .invokeinterface 121 1, .aload 2, .invokeinterface 215 1, .if_icmp .eq 1782, .sipush 0, .areturn] ls st m := by
  rw [s_j, s_g_eq, g_l308]; rfl
theorem u_308_596 {X : e_X} {d : Nat} {ls st : List Value} {m : e_M} : s_j X d 308 596 ls st m = s_x X d 308 [.aload 1, .aload 0, .iload 3, .sipush 1, .iadd, .faload, .invokeinterface 122 2, .aload 2, .aload 0, .iload 3, .sipush 1, .iadd, .faload, .invokeinterface 216 2, .if_icmp .eq 1782, .sipush 0, .areturn] ls st m := by
  rw [s_j, s_g_eq, g_l308]; rfl
theorem u_308_619 {X : e_X} {d : Nat} {ls st : List Value} {m : e_M} : s_j X d 308 619 ls st m = s_x X d 308 [.aload 1, .aload 0, .iload 3, .sipush 1, .iadd, .faload, .i2l, .sipush 32, .lshl, .aload 0, .iload 3, .sipush 2, .iadd, .faload, .i2l, .goto_w 4294967295, .land, .lor, .aload 0, .iload 3, .sipush 3, .iadd, .faload, .invokeinterface 123 3, .aload 2, .aload 0, .iload 3, .sipush 1, .iadd, .faload, .i2l, .sipush 32, .lshl, .aload 0, .iload 3, .sipush 2, .iadd, .faload, .i2l, .goto_w 4294967295, .land, .lor, .aload 0, .iload 3, .sipush 3, .iadd, .faload, .invokeinterface 171 3, .if_icmp .eq 1782, .sipush 0, .areturn] ls st m := by
  rw [s_j, s_g_eq, g_l308]; rfl
theorem u_308_682 {X : e_X} {d : Nat} {ls st : List Value} {m : e_M} : s_j X d 308 682 ls st m = s_x X d 308 [.aload 1, .invokeinterface 124 1, .aload 2, .invokeinterface 173 1, .if_icmp .eq 1782, .sipush 0, .areturn] ls st m := by
  rw [s_j, s_g_eq, g_l308]; rfl
theorem u_308_695 {X : e_X} {d : Nat} {ls st : List Value} {m : e_M} : s_j X d 308 695 ls st m = s_x X d 308 [.aload 1, .invokeinterface 125 1, .aload 2, .invokeinterface 219 1, .if_icmp .eq 1782, .sipush 0, .areturn] ls st m := by
  rw [s_j, s_g_eq, g_l308]; rfl
theorem u_308_708 {X : e_X} {d : Nat} {ls st : List Value} {m : e_M} : s_j X d 308 708 ls st m = s_x X d 308 [.aload 1, .aload 0, .iload 3, .sipush 1, .iadd, .faload, .invokeinterface 129 2, .aload 2, .aload 0, .iload 3, .sipush 1, .iadd, .faload, .invokeinterface 229 2, .if_icmp .eq 1782, .sipush 0, .areturn] ls st m := by
  rw [s_j, s_g_eq, g_l308]; rfl
theorem u_308_731 {X : e_X} {d : Nat} {ls st : List Value} {m : e_M} : s_j X d 308 731 ls st m = s_x X d 308 [.aload 1, .aload 0, .iload 3, .sipush 1, .iadd, .faload, .invokeinterface 130 2, .aload 2, .aload 0, .iload 3, .sipush 1, .iadd, .faload, .invokeinterface 233 2, .if_icmp .eq 1782, .sipush 0, .areturn] ls st m := by
  rw [s_j, s_g_eq, g_l308]; rfl
theorem u_308_754 {X : e_X} {d : Nat} {ls st : List Value} {m : e_M} : s_j X d 308 754 ls st m = s_x X d 308 [.aload 1, .aload 0, .iload 3, .sipush 1, .iadd, .faload, .invokeinterface 131 2, .aload 2, .aload 0, .iload 3, .sipush 1, .iadd, .faload, .invokeinterface 234 2, .if_icmp .eq 1782, .sipush 0, .areturn] ls st m := by
  rw [s_j, s_g_eq, g_l308]; rfl
theorem u_308_777 {X : e_X} {d : Nat} {ls st : List Value} {m : e_M} : s_j X d 308 777 ls st m = s_x X d 308 [.aload 1, .aload 0, .iload 3, .sipush 1, .iadd, .faload, .invokeinterface 132 2, .aload 2, .aload 0, .iload 3, .sipush 1, .iadd, .faload, .invokeinterface 236 2, .if_icmp .eq 1782, .sipush 0, .areturn] ls st m := by
  rw [s_j, s_g_eq, g_l308]; rfl
theorem u_308_800 {X : e_X} {d : Nat} {ls st : List Value} {m : e_M} : s_j X d 308 800 ls st m = s_x X d 308 [.aload 1, .aload 0, .iload 3, .sipush 1, .iadd, .faload, .invokeinterface 133 2, .aload 2, .aload 0, .iload 3, .sipush 1, .iadd, .faload, .invokeinterface 237 2, .if_icmp .eq 1782, .sipush 0, .areturn] ls st m := by
  rw [s_j, s_g_eq, g_l308]; rfl
theorem u_308_823 {X : e_X} {d : Nat} {ls st : List Value} {m : e_M} : s_j X d 308 823 ls st m = s_x X d 308 [.aload 1, .aload 0, .iload 3, .sipush 1, .iadd, .faload, .invokeinterface 134 2, .aload 2, .aload 0, .iload 3, .sipush 1, .iadd, .faload, .invokeinterface 238 2, .if_icmp .eq 1782, .sipush 0, .areturn] ls st m := by
  rw [s_j, s_g_eq, g_l308]; rfl
theorem u_308_846 {X : e_X} {d : Nat} {ls st : List Value} {m : e_M} : s_j X d 308 846 ls st m = s_x X d 308 [.aload 1, .aload 0, .iload 3, .sipush 1, .iadd, .faload, .invokeinterface 135 2, .aload 2, .aload 0, .iload 3, .sipush 1, .iadd, .faload, .invokeinterface 239 2, .if_icmp .eq 1782, .sipush 0, .areturn] ls st m := by
  rw [s_j, s_g_eq, g_l308]; rfl
theorem u_308_869 {X : e_X} {d : Nat} {ls st : List Value} {m : e_M} : s_j X d 308 869 ls st m = s_x X d 308 [.aload 1, .aload 0, .iload 3, .sipush 1, .iadd, .faload, .aload 0, .iload 3, .sipush 2, .iadd, .faload, .invokeinterface 137 3, .aload 2, .aload 0, .iload 3, .sipush 1, .iadd, .faload, .aload 0, .iload 3, .sipush 2, .iadd, .faload, .invokeinterface 242 3, .if_icmp .eq 1782, .sipush 0, .areturn] ls st m := by
  rw [s_j, s_g_eq, g_l308]; rfl
theorem u_308_902 {X : e_X} {d : Nat} {ls st : List Value} {m : e_M} : s_j X d 308 902 ls st m = s_x X d 308 [.aload 1, .aload 0, .iload 3, .sipush 1, .iadd, .faload, .invokeinterface 138 2, .aload 2, .aload 0, .iload 3, .sipush 1, .iadd, .faload, .invokeinterface 244 2, .if_icmp .eq 1782, .sipush 0, .areturn] ls st m := by
  rw [s_j, s_g_eq, g_l308]; rfl
theorem u_308_925 {X : e_X} {d : Nat} {ls st : List Value} {m : e_M} : s_j X d 308 925 ls st m = s_x X d 308 [.aload 1, .aload 0, .iload 3, .sipush 1, .iadd, .faload, .aload 0, .iload 3, .sipush 2, .iadd, .faload, .invokeinterface 139 3, .aload 2, .aload 0, .iload 3, .sipush 1, .iadd, .faload, .aload 0, .iload 3, .sipush 2, .iadd, .faload, .invokeinterface 252 3, .if_icmp .eq 1782, .sipush 0, .areturn] ls st m := by
  rw [s_j, s_g_eq, g_l308]; rfl
theorem u_308_958 {X : e_X} {d : Nat} {ls st : List Value} {m : e_M} : s_j X d 308 958 ls st m = s_x X d 308 [.aload 1, .aload 0, .iload 3, .sipush 1, .iadd, .faload, .invokeinterface 140 2, .aload 2, .aload 0, .iload 3, .sipush 1, .iadd, .faload, .invokeinterface 253 2, .if_icmp .eq 1782, .sipush 0, .areturn] ls st m := by
  rw [s_j, s_g_eq, g_l308]; rfl
theorem u_308_981 {X : e_X} {d : Nat} {ls st : List Value} {m : e_M} : s_j X d 308 981 ls st m = s_x X d 308 [.aload 1, .aload 0, .iload 3, .sipush 1, .iadd, .faload, .aload 0, .iload 3, .sipush 2, .iadd, .faload, .invokeinterface 141 3, .aload 2, .aload 0, .iload 3, .sipush 1, .iadd, .faload, .aload 0, .iload 3, .sipush 2, .iadd, .faload, .invokeinterface 254 3, .if_icmp .eq 1782, .sipush 0, .areturn] ls st m := by
  rw [s_j, s_g_eq, g_l308]; rfl
theorem u_308_1014 {X : e_X} {d : Nat} {ls st : List Value} {m : e_M} : s_j X d 308 1014 ls st m = s_x X d 308 [.aload 1, .aload 0, .iload 3, .sipush 1, .iadd, .faload, .aload 0, .iload 3, .sipush 2, .iadd, .faload, .invokeinterface 142 3, .aload 2, .aload 0, .iload 3, .sipush 1, .iadd, .faload, .aload 0, .iload 3, .sipush 2, .iadd, .faload, .invokeinterface 256 3, .if_icmp .eq 1782, .sipush 0, .areturn] ls st m := by
  rw [s_j, s_g_eq, g_l308]; rfl
theorem u_308_1047 {X : e_X} {d : Nat} {ls st : List Value} {m : e_M} : s_j X d 308 1047 ls st m = s_x X d 308 [.aload 1, .aload 0, .iload 3, .sipush 1, .iadd, .faload, .invokeinterface 143 2, .aload 2, .aload 0, .iload 3, .sipush 1, .iadd, .faload, .invokeinterface 257 2, .if_icmp .eq 1782, .sipush 0, .areturn] ls st m := by
  rw [s_j, s_g_eq, g_l308]; rfl
theorem u_308_1070 {X : e_X} {d : Nat} {ls st : List Value} {m : e_M} : s_j X d 308 1070 ls st m = s_x X d 308 [.aload 1, .aload 0, .iload 3, .sipush 1, .iadd, .faload, .invokeinterface 144 2, .aload 2, .aload 0, .iload 3, .sipush 1, .iadd, .faload, .invokeinterface 259 2, .if_icmp .eq 1782, .sipush 0, .areturn] ls st m := by
  rw [s_j, s_g_eq, g_l308]; rfl
theorem u_308_1093 {X : e_X} {d : Nat} {ls st : List Value} {m : e_M} : s_j X d 308 1093 ls st m = s_x X d 308 [.aload 1, .aload 0, .iload 3, .sipush 1, .iadd, .faload, .aload 0, .iload 3, .sipush 2, .iadd, .faload, .aload 0, .iload 3, .sipush 3, .iadd, .faload, .aload 0, .iload 3, .sipush 4, .iadd, .faload, .invokeinterface 145 5, .aload 2, .aload 0, .iload 3, .sipush 1, .iadd, .faload, .aload 0, .iload 3, .sipush 2, .iadd, .faload, .aload 0, .iload 3, .sipush 3, .iadd, .faload, .aload 0, .iload 3, .sipush 4, .iadd, .faload, .invokeinterface 260 5, .if_icmp .eq 1782, .sipush 0, .areturn] ls st m := by
  rw [s_j, s_g_eq, g_l308]; rfl
theorem u_308_1146 {X : e_X} {d : Nat} {ls st : List Value} {m : e_M} : s_j X d 308 1146 ls st m = s_x X d 308 [.aload 1, .invokeinterface 146 1, .aload 2, .invokeinterface 261 1, .if_icmp .eq 1782, .sipush 0, .areturn] ls st m := by
  rw [s_j, s_g_eq, g_l308]; rfl
theorem u_308_1159 {X : e_X} {d : Nat} {ls st : List Value} {m : e_M} : s_j X d 308 1159 ls st m = s_x X d 308 [.aload 1, .aload 0, .iload 3, .sipush 1, .iadd, .faload, .invokeinterface 147 2, .aload 2, .aload 0, .iload 3, .sipush 1, .iadd, .faload, .invokeinterface 262 2, .if_icmp .eq 1782, .sipush 0, .areturn] ls st m := by
  rw [s_j, s_g_eq, g_l308]; rfl
theorem u_308_1182 {X : e_X} {d : Nat} {ls st : List Value} {m : e_M} : s_j X d 308 1182 ls st m = s_x X d 308 [.aload 1, .invokeinterface 148 1, .aload 2, .invokeinterface 266 1, .if_icmp .eq 1782, .sipush 0, .areturn] ls st m := by
  rw [s_j, s_g_eq, g_l308]; rfl
theorem u_308_1195 {X : e_X} {d : Nat} {ls st : List Value} {m : e_M} : s_j X d 308 1195 ls st m = s_x X d 308 [.aload 1, .aload 0, .iload 3, .sipush 1, .iadd, .faload, .invokeinterface 149 2, .aload 2, .aload 0, .iload 3, .sipush 1, .iadd, .faload, .invokeinterface 267 2, .if_icmp .eq 1782, .sipush 0, .areturn] ls st m := by
  rw [s_j, s_g_eq, g_l308]; rfl
theorem u_308_1218 {X : e_X} {d : Nat} {ls st : List Value} {m : e_M} : s_j X d 308 1218 ls st m = s_x X d 308 [.aload 1, .invokeinterface 150 1, .aload 2, .invokeinterface 268 1, .if_icmp .eq 1782, .sipush 0, .areturn] ls st m := by
  rw [s_j, s_g_eq, g_l308]; rfl
theorem u_308_1231 {X : e_X} {d : Nat} {ls st : List Value} {m : e_M} : s_j X d 308 1231 ls st m = s_x X d 308 [.aload 1, .aload 0, .iload 3, .sipush 1, .iadd, .faload, .aload 0, .iload 3, .sipush 2, .iadd, .faload, .invokeinterface 151 3, .aload 2, .aload 0, .iload 3, .sipush 1, .iadd, .faload, .aload 0, .iload 3, .sipush 2, .iadd, .faload, .invokeinterface 270 3, .if_icmp .eq 1782, .sipush 0, .areturn] ls st m := by
  rw [s_j, s_g_eq, g_l308]; rfl
theorem u_308_1264 {X : e_X} {d : Nat} {ls st : List Value} {m : e_M} : s_j X d 308 1264 ls st m = s_x X d 308 [.aload 1, .aload 0, .iload 3, .sipush 1, .iadd, .faload, .invokeinterface 152 2, .aload 2, .aload 0, .iload 3, .sipush 1, .iadd, .faload, .invokeinterface 271 2, .if_icmp .eq 1782, .sipush 0, .areturn] ls st m := by
  rw [s_j, s_g_eq, g_l308]; rfl
theorem u_308_1287 {X : e_X} {d : Nat} {ls st : List Value} {m : e_M} : s_j X d 308 1287 ls st m = s_x X d 308 [.aload 1, .aload 0, .iload 3, .sipush 1, .iadd, .faload, .aload 0, .iload 3, .sipush 2, .iadd, .faload, .invokeinterface 153 3, .aload 2, .aload 0, .iload 3, .sipush 1, .iadd, .faload, .aload 0, .iload 3, .sipush 2, .iadd, .faload, .invokeinterface 272 3, .if_icmp .eq 1782, .sipush 0, .areturn] ls st m := by
  rw [s_j, s_g_eq, g_l308]; rfl
theorem u_308_1320 {X : e_X} {d : Nat} {ls st : List Value} {m : e_M} : s_j X d 308 1320 ls st m = s_x X d 308 [.aload 1, .aload 0, .iload 3, .sipush 1, .iadd, .faload, .aload 0, .iload 3, .sipush 2, .iadd, .faload, .aload 0, .iload 3, .sipush 3, .iadd, .faload, .invokeinterface 154 4, .aload 2, .aload 0, .iload 3, .sipush 1, .iadd, .faload, .aload 0, .iload 3, .sipush 2, .iadd, .faload, .aload 0, .iload 3, .sipush 3, .iadd, .faload, .invokeinterface 274 4, .if_icmp .eq 1782, .sipush 0, .areturn] ls st m := by
  rw [s_j, s_g_eq, g_l308]; rfl
theorem u_308_1363 {X : e_X} {d : Nat} {ls st : List Value} {m : e_M} : s_j X d 308 1363 ls st m = s_x X d 308 [.aload 1, .invokeinterface 155 1, .aload 2, .invokeinterface 275 1, .if_icmp .eq 1782, .sipush 0, .areturn] ls st m := by
  rw [s_j, s_g_eq, g_l308]; rfl
theorem u_308_1376 {X : e_X} {d : Nat} {ls st : List Value} {m : e_M} : s_j X d 308 1376 ls st m = s_x X d 308 [.aload 1, .aload 0, .iload 3, .sipush 1, .iadd, .faload, .aload 0, .iload 3, .sipush 2, .iadd, .faload, .aload 0, .iload 3, .sipush 3, .iadd, .faload, .invokeinterface 156 4, .aload 2, .aload 0, .iload 3, .sipush 1, .iadd, .faload, .aload 0, .iload 3, .sipush 2, .iadd, .faload, .aload 0, .iload 3, .sipush 3, .iadd, .faload, .invokeinterface 277 4, .if_icmp .eq 1782, .sipush 0, .areturn] ls st m := by
  rw [s_j, s_g_eq, g_l308]; rfl
theorem u_308_1419 {X : e_X} {d : Nat} {ls st : List Value} {m : e_M} : s_j X d 308 1419 ls st m = s_x X d 308 [.aload 1, .aload 0, .iload 3, .sipush 1, .iadd, .faload, .aload 0, .iload 3, .sipush 2, .iadd, .faload, .aload 0, .iload 3, .sipush 3, .iadd, .faload, .invokeinterface 157 4, .aload 2, .aload 0, .iload 3, .sipush 1, .iadd, .faload, .aload 0, .iload 3, .sipush 2, .iadd, .faload, .aload 0, .iload 3, .sipush 3, .iadd, .faload, .invokeinterface 279 4, .if_icmp .eq 1782, .sipush 0, .areturn] ls st m := by
  rw [s_j, s_g_eq, g_l308]; rfl
theorem u_308_1462 {X : e_X} {d : Nat} {ls st : List Value} {m : e_M} : s_j X d 308 1462 ls st m = s_x X d 308 [.aload 1, .aload 0, .iload 3, .sipush 1, .iadd, .faload, .aload 0, .iload 3, .sipush 2, .iadd, .faload, .aload 0, .iload 3, .sipush 3, .iadd, .faload, .invokeinterface 158 4, .aload 2, .aload 0, .iload 3, .sipush 1, .iadd, .faload, .aload 0, .iload 3, .sipush 2, .iadd, .faload, .aload 0, .iload 3, .sipush 3, .iadd, .faload, .invokeinterface 281 4, .if_icmp .eq 1782, .sipush 0, .areturn] ls st m := by
  rw [s_j, s_g_eq, g_l308]; rfl
theorem u_308_1505 {X : e_X} {d : Nat} {ls st : List Value} {m : e_M} : s_j X d 308 1505 ls st m = s_x X d 308 [.aload 1, .aload 0, .iload 3, .sipush 1, .iadd, .faload, .aload 0, .iload 3, .sipush 2, .iadd, .faload, .aload 0, .iload 3, .sipush 3, .iadd, .faload, .invokeinterface 159 4, .aload 2, .aload 0, .iload 3, .sipush 1, .iadd, .faload, .aload 0, .iload 3, .sipush 2, .iadd, .faload, .aload 0, .iload 3, .sipush 3, .iadd, .faload, .invokeinterface 283 4, .if_icmp .eq 1782, .sipush 0, .areturn] ls st m := by
  rw [s_j, s_g_eq, g_l308]; rfl
theorem u_308_1548 {X : e_X} {d : Nat} {ls st : List Value} {m : e_M} : s_j X d 308 1548 ls st m = s_x X d 308 [.aload 1, .aload 0, .iload 3, .sipush 1, .iadd, .faload, .aload 0, .iload 3, .sipush 2, .iadd, .faload, .aload 0, .iload 3, .sipush 3, .iadd, .faload, .invokeinterface 160 4, .aload 2, .aload 0, .iload 3, .sipush 1, .iadd, .faload, .aload 0, .iload 3, .sipush 2, .iadd, .faload, .aload 0, .iload 3, .sipush 3, .iadd, .faload, .invokeinterface 285 4, .if_icmp .eq 1782, .sipush 0, .areturn] ls st m := by
  rw [s_j, s_g_eq, g_l308]; rfl
theorem u_308_1591 {X : e_X} {d : Nat} {ls st : List Value} {m : e_M} : s_j X d 308 1591 ls st m = s_x X d 308 [.aload 1, .aload 0, .iload 3, .sipush 1, .iadd, .faload, .aload 0, .iload 3, .sipush 2, .iadd, .faload, .aload 0, .iload 3, .sipush 3, .iadd, .faload, .invokeinterface 162 4, .aload 2, .aload 0, .iload 3, .sipush 1, .iadd, .faload, .aload 0, .iload 3, .sipush 2, .iadd, .faload, .aload 0, .iload 3, .sipush 3, .iadd, .faload, .invokeinterface 286 4, .if_icmp .eq 1782, .sipush 0, .areturn] ls st m := by
  rw [s_j, s_g_eq, g_l308]; rfl
theorem u_308_1634 {X : e_X} {d : Nat} {ls st : List Value} {m : e_M} : s_j X d 308 1634 ls st m = s_x X d 308 [.aload 1, .aload 0, .iload 3, .sipush 1, .iadd, .faload, .aload 0, .iload 3, .sipush 2, .iadd, .faload, .invokeinterface 163 3, .aload 2, .aload 0, .iload 3, .sipush 1, .iadd, .faload, .aload 0, .iload 3, .sipush 2, .iadd, .faload, .invokeinterface 287 3, .if_icmp .eq 1782, .sipush 0, .areturn] ls st m := by
  rw [s_j, s_g_eq, g_l308]; rfl
theorem u_308_1667 {X : e_X} {d : Nat} {ls st : List Value} {m : e_M} : s_j X d 308 1667 ls st m = s_x X d 308 [.aload 1, .aload 0, .iload 3, .sipush 1, .iadd, .faload, .aload 0, .iload 3, .sipush 2, .iadd, .faload, .aload 0, .iload 3, .sipush 3, .iadd, .faload, .invokeinterface 165 4, .aload 2, .aload 0, .iload 3, .sipush 1, .iadd, .faload, .aload 0, .iload 3, .sipush 2, .iadd, .faload, .aload 0, .iload 3, .sipush 3, .iadd, .faload, .invokeinterface 289 4, .if_icmp .eq 1782, .sipush 0, .areturn] ls st m := by
  rw [s_j, s_g_eq, g_l308]; rfl
theorem u_308_1710 {X : e_X} {d : Nat} {ls st : List Value} {m : e_M} : s_j X d 308 1710 ls st m = s_x X d 308 [.aload 1, .aload 0, .iload 3, .sipush 1, .iadd, .faload, .invokeinterface 166 2, .aload 2, .aload 0, .iload 3, .sipush 1, .iadd, .faload, .invokeinterface 295 2, .if_icmp .eq 1782, .sipush 0, .areturn] ls st m := by
  rw [s_j, s_g_eq, g_l308]; rfl
theorem u_308_1733 {X : e_X} {d : Nat} {ls st : List Value} {m : e_M} : s_j X d 308 1733 ls st m = s_x X d 308 [.aload 1, .aload 0, .iload 3, .sipush 1, .iadd, .faload, .invokeinterface 167 2, .aload 2, .aload 0, .iload 3, .sipush 1, .iadd, .faload, .invokeinterface 296 2, .if_icmp .eq 1782, .sipush 0, .areturn] ls st m := by
  rw [s_j, s_g_eq, g_l308]; rfl
theorem u_308_1756 {X : e_X} {d : Nat} {ls st : List Value} {m : e_M} : s_j X d 308 1756 ls st m = s_x X d 308 [.aload 1, .invokeinterface 168 1, .aload 2, .invokeinterface 298 1, .if_icmp .eq 1782, .sipush 0, .areturn] ls st m := by
  rw [s_j, s_g_eq, g_l308]; rfl
theorem u_308_1769 {X : e_X} {d : Nat} {ls st : List Value} {m : e_M} : s_j X d 308 1769 ls st m = s_x X d 308 [.aload 1, .invokeinterface 169 1, .aload 2, .invokeinterface 299 1, .if_icmp .eq 1782, .sipush 0, .areturn] ls st m := by
  rw [s_j, s_g_eq, g_l308]; rfl
theorem u_308_1782 {X : e_X} {d : Nat} {ls st : List Value} {m : e_M} : s_j X d 308 1782 ls st m = s_x X d 308 [.iinc 3 5, .goto 18] ls st m := by
  rw [s_j, s_g_eq, g_l308]; rfl
theorem u_308_1788 {X : e_X} {d : Nat} {ls st : List Value} {m : e_M} : s_j X d 308 1788 ls st m = s_x X d 308 [.sipush 1, .areturn] ls st m := by
  rw [s_j, s_g_eq, g_l308]; rfl
/-- the script's ints by their value -/
def xv (X : e_X) (z : Int) : Int := (X.2 z.toNat).toInt
theorem xv_rg {X : e_X} {z : Int} : rg (xv X z) := iI_rg _
section
variable {X : e_X} {d c : Nat} {is : List Instr} {ls st : List Value} {m : e_M}
theorem x_fal {z : Int} (h : 0 ≤ z ∧ z < X.1) (hL : X.1 ≤ 2560) : s_x X d c (.faload :: is) ls (.int (iI z) :: .ref 1000 :: st) m = s_x X d c is ls (.int (iI (xv X z)) :: st) m := by
  show (match (if (decide ((1000 : Nat) = 1000) && e_in (iI z) X.1) = true then some (ls, .int (X.2 (iI z).toNatClampNeg) :: st, m) else none : e_T) with | some (a, b, q) => s_x X d c is a b q | none => none) = _
  rw [e_in_I h (by omega), iI_cl (by omega)]
  unfold xv
  rw [iI_of]
  rfl
theorem x_icq {x : Int32} {t : Int} : s_x X d c (.if_icmp .eq t :: is) ls (.int x :: .int x :: st) m = s_j X d c t ls st m := by
  show (if e_c .eq x x = true then _ else _) = _
  rw [if_pos (by simp [e_c])]
  rfl
/-- a switch goes somewhere -/
theorem sw_ex {x : Int32} {e : Int} : ∀ (ps : List (Int × Int)), ∃ t, (t = e ∨ t ∈ ps.map (·.2)) ∧ e_sw (fun t => s_g X d c t ls st m) e ps x = s_j X d c t ls st m
  | [] => ⟨e, Or.inl rfl, rfl⟩
  | (a, t) :: r => by
    by_cases h : x.toInt = a
    · refine ⟨t, Or.inr (by simp), ?_⟩
      unfold e_sw
      rw [if_pos h]
      rfl
    · obtain ⟨t', h1, h2⟩ := sw_ex r
      refine ⟨t', ?_, ?_⟩
      · rcases h1 with h1 | h1
        · exact Or.inl h1
        · exact Or.inr (by simp only [List.map_cons, List.mem_cons]; exact Or.inr h1)
      · unfold e_sw
        rw [if_neg h]
        exact h2
end
section
variable {X : e_X} {d : Nat} {I J : Nat → Int → Int}
/-- one turn from a label on -/
def wtn (X : e_X) (d : Nat) (I J : Nat → Int → Int) (i l : Int) : Prop := ∃ I' J', s_j X (d + 30) 308 l [.ref 1000, .ref 0, .ref 69, .int (iI i)] [] (mm I J) = s_j X (d + 30) 308 1782 [.ref 1000, .ref 0, .ref 69, .int (iI i)] [] (mm I' J') ∧ Rel I' J'
theorem w_plate (h : Rel I J) (hL : X.1 ≤ 2560) {i : Int} (hi : 0 ≤ i ∧ i + 5 ≤ X.1) : wtn X d I J i 256 := by
  obtain ⟨v, I1, J1, I2, J2, e1, e2, h2⟩ := q_plate (X := X) (d := d) h (k := xv X (i + 1)) (p := xv X (i + 2)) (w := xv X (i + 3)) (g := xv X (i + 4)) xv_rg xv_rg xv_rg xv_rg
  refine ⟨I2, J2, ?_, h2⟩
  rw [u_308_256]
  simp (disch := omega) only [x_aload0, x_aload1, x_aload2, x_iload3, x_sipush, x_iadd, x_fal, x_call5_0, x_call5_1, e_k_s, List.nil_append, List.cons_append, x_icq, e1, e2]
theorem w_plateOf (h : Rel I J) (hL : X.1 ≤ 2560) {i : Int} (hi : 0 ≤ i ∧ i + 5 ≤ X.1) : wtn X d I J i 309 := by
  obtain ⟨v, I1, J1, I2, J2, e1, e2, h2⟩ := q_plateOf (X := X) (d := d) h (a := xv X (i + 1)) (w := xv X (i + 2)) xv_rg xv_rg
  refine ⟨I2, J2, ?_, h2⟩
  rw [u_308_309]
  simp (disch := omega) only [x_aload0, x_aload1, x_aload2, x_iload3, x_sipush, x_iadd, x_fal, x_call3_0, x_call3_1, e_k_s, List.nil_append, List.cons_append, x_icq, e1, e2]
theorem w_change (h : Rel I J) (hL : X.1 ≤ 2560) {i : Int} (hi : 0 ≤ i ∧ i + 5 ≤ X.1) : wtn X d I J i 342 := by
  obtain ⟨v, I1, J1, I2, J2, e1, e2, h2⟩ := q_change (X := X) (d := d) h (a := xv X (i + 1)) (w := xv X (i + 2)) (b := xv X (i + 3)) xv_rg xv_rg xv_rg
  refine ⟨I2, J2, ?_, h2⟩
  rw [u_308_342]
  simp (disch := omega) only [x_aload0, x_aload1, x_aload2, x_iload3, x_sipush, x_iadd, x_fal, x_call4_0, x_call4_1, e_k_s, List.nil_append, List.cons_append, x_icq, e1, e2]
theorem w_remake (h : Rel I J) (hL : X.1 ≤ 2560) {i : Int} (hi : 0 ≤ i ∧ i + 5 ≤ X.1) : wtn X d I J i 385 := by
  obtain ⟨v, I1, J1, I2, J2, e1, e2, h2⟩ := q_remake (X := X) (d := d) h (a := xv X (i + 1)) (b := xv X (i + 2)) xv_rg xv_rg
  refine ⟨I2, J2, ?_, h2⟩
  rw [u_308_385]
  simp (disch := omega) only [x_aload0, x_aload1, x_aload2, x_iload3, x_sipush, x_iadd, x_fal, x_call3_0, x_call3_1, e_k_s, List.nil_append, List.cons_append, x_icq, e1, e2]
theorem w_news (h : Rel I J) (hL : X.1 ≤ 2560) {i : Int} (hi : 0 ≤ i ∧ i + 5 ≤ X.1) : wtn X d I J i 418 := by
  obtain ⟨v, I1, J1, I2, J2, e1, e2, h2⟩ := q_news (X := X) (d := d) h (a := xv X (i + 1)) (b := xv X (i + 2)) xv_rg xv_rg
  refine ⟨I2, J2, ?_, h2⟩
  rw [u_308_418]
  simp (disch := omega) only [x_aload0, x_aload1, x_aload2, x_iload3, x_sipush, x_iadd, x_fal, x_call3_0, x_call3_1, e_k_s, List.nil_append, List.cons_append, x_icq, e1, e2]
theorem w_home (h : Rel I J) (hL : X.1 ≤ 2560) {i : Int} (hi : 0 ≤ i ∧ i + 5 ≤ X.1) : wtn X d I J i 451 := by
  obtain ⟨v, I1, J1, I2, J2, e1, e2, h2⟩ := q_home (X := X) (d := d) h (a := xv X (i + 1)) (b := xv X (i + 2)) (c := xv X (i + 3)) xv_rg xv_rg xv_rg
  refine ⟨I2, J2, ?_, h2⟩
  rw [u_308_451]
  simp (disch := omega) only [x_aload0, x_aload1, x_aload2, x_iload3, x_sipush, x_iadd, x_fal, x_call4_0, x_call4_1, e_k_s, List.nil_append, List.cons_append, x_icq, e1, e2]
theorem w_homeOf (h : Rel I J) (hL : X.1 ≤ 2560) {i : Int} (hi : 0 ≤ i ∧ i + 5 ≤ X.1) : wtn X d I J i 494 := by
  obtain ⟨v, I1, J1, I2, J2, e1, e2, h2⟩ := q_homeOf (X := X) (d := d) h (a := xv X (i + 1)) (b := xv X (i + 2)) xv_rg xv_rg
  refine ⟨I2, J2, ?_, h2⟩
  rw [u_308_494]
  simp (disch := omega) only [x_aload0, x_aload1, x_aload2, x_iload3, x_sipush, x_iadd, x_fal, x_call3_0, x_call3_1, e_k_s, List.nil_append, List.cons_append, x_icq, e1, e2]
theorem w_family (h : Rel I J) (hL : X.1 ≤ 2560) {i : Int} (hi : 0 ≤ i ∧ i + 5 ≤ X.1) : wtn X d I J i 527 := by
  obtain ⟨v, I1, J1, I2, J2, e1, e2, h2⟩ := q_family (X := X) (d := d) h (a := xv X (i + 1)) (b := xv X (i + 2)) xv_rg xv_rg
  refine ⟨I2, J2, ?_, h2⟩
  rw [u_308_527]
  simp (disch := omega) only [x_aload0, x_aload1, x_aload2, x_iload3, x_sipush, x_iadd, x_fal, x_call3_0, x_call3_1, e_k_s, List.nil_append, List.cons_append, x_icq, e1, e2]
theorem w_ends (h : Rel I J) (hL : X.1 ≤ 2560) {i : Int} (hi : 0 ≤ i ∧ i + 5 ≤ X.1) : wtn X d I J i 560 := by
  obtain ⟨v, I1, J1, I2, J2, e1, e2, h2⟩ := q_ends (X := X) (d := d) h (a := xv X (i + 1)) xv_rg
  refine ⟨I2, J2, ?_, h2⟩
  rw [u_308_560]
  simp (disch := omega) only [x_aload0, x_aload1, x_aload2, x_iload3, x_sipush, x_iadd, x_fal, x_call2_0, x_call2_1, e_k_s, List.nil_append, List.cons_append, x_icq, e1, e2]
theorem w_anew (h : Rel I J) (hL : X.1 ≤ 2560) {i : Int} (hi : 0 ≤ i ∧ i + 5 ≤ X.1) : wtn X d I J i 583 := by
  obtain ⟨v, I1, J1, I2, J2, e1, e2, h2⟩ := q_anew (X := X) (d := d) h  
  refine ⟨I2, J2, ?_, h2⟩
  rw [u_308_583]
  simp (disch := omega) only [x_aload0, x_aload1, x_aload2, x_iload3, x_sipush, x_iadd, x_fal, x_call1_0, x_call1_1, e_k_s, List.nil_append, List.cons_append, x_icq, e1, e2]
theorem w_state (h : Rel I J) (hL : X.1 ≤ 2560) {i : Int} (hi : 0 ≤ i ∧ i + 5 ≤ X.1) : wtn X d I J i 596 := by
  obtain ⟨v, I1, J1, I2, J2, e1, e2, h2⟩ := q_state (X := X) (d := d) h (a := xv X (i + 1)) xv_rg
  refine ⟨I2, J2, ?_, h2⟩
  rw [u_308_596]
  simp (disch := omega) only [x_aload0, x_aload1, x_aload2, x_iload3, x_sipush, x_iadd, x_fal, x_call2_0, x_call2_1, e_k_s, List.nil_append, List.cons_append, x_icq, e1, e2]
theorem w_feed (h : Rel I J) (hL : X.1 ≤ 2560) {i : Int} (hi : 0 ≤ i ∧ i + 5 ≤ X.1) : wtn X d I J i 619 := by
  obtain ⟨v, I1, J1, I2, J2, e1, e2, h2⟩ := q_feed (X := X) (d := d) h (x := ((iI (xv X (i + 1))).toInt64 <<< ((iI 32).toInt64 &&& 63)) ||| ((iI (xv X (i + 2))).toInt64 &&& lI 4294967295)) (n := xv X (i + 3)) xv_rg
  refine ⟨I2, J2, ?_, h2⟩
  rw [u_308_619]
  simp (disch := omega) only [x_aload0, x_aload1, x_aload2, x_iload3, x_sipush, x_iadd, x_fal, x_call3_0, x_call3_1, e_k_s, List.nil_append, List.cons_append, x_icq, x_i2l, x_lshl, x_land, x_lor, x_lconst, e1, e2]
theorem w_rules (h : Rel I J) (hL : X.1 ≤ 2560) {i : Int} (hi : 0 ≤ i ∧ i + 5 ≤ X.1) : wtn X d I J i 682 := by
  obtain ⟨v, I1, J1, I2, J2, e1, e2, h2⟩ := q_rules (X := X) (d := d) h  
  refine ⟨I2, J2, ?_, h2⟩
  rw [u_308_682]
  simp (disch := omega) only [x_aload0, x_aload1, x_aload2, x_iload3, x_sipush, x_iadd, x_fal, x_call1_0, x_call1_1, e_k_s, List.nil_append, List.cons_append, x_icq, e1, e2]
theorem w_year (h : Rel I J) (hL : X.1 ≤ 2560) {i : Int} (hi : 0 ≤ i ∧ i + 5 ≤ X.1) : wtn X d I J i 695 := by
  obtain ⟨v, I1, J1, I2, J2, e1, e2, h2⟩ := q_year (X := X) (d := d) h  
  refine ⟨I2, J2, ?_, h2⟩
  rw [u_308_695]
  simp (disch := omega) only [x_aload0, x_aload1, x_aload2, x_iload3, x_sipush, x_iadd, x_fal, x_call1_0, x_call1_1, e_k_s, List.nil_append, List.cons_append, x_icq, e1, e2]
theorem w_on (h : Rel I J) (hL : X.1 ≤ 2560) {i : Int} (hi : 0 ≤ i ∧ i + 5 ≤ X.1) : wtn X d I J i 708 := by
  obtain ⟨v, I1, J1, I2, J2, e1, e2, h2⟩ := q_on (X := X) (d := d) h (a := xv X (i + 1)) xv_rg
  refine ⟨I2, J2, ?_, h2⟩
  rw [u_308_708]
  simp (disch := omega) only [x_aload0, x_aload1, x_aload2, x_iload3, x_sipush, x_iadd, x_fal, x_call2_0, x_call2_1, e_k_s, List.nil_append, List.cons_append, x_icq, e1, e2]
theorem w_when (h : Rel I J) (hL : X.1 ≤ 2560) {i : Int} (hi : 0 ≤ i ∧ i + 5 ≤ X.1) : wtn X d I J i 731 := by
  obtain ⟨v, I1, J1, I2, J2, e1, e2, h2⟩ := q_when (X := X) (d := d) h (a := xv X (i + 1)) xv_rg
  refine ⟨I2, J2, ?_, h2⟩
  rw [u_308_731]
  simp (disch := omega) only [x_aload0, x_aload1, x_aload2, x_iload3, x_sipush, x_iadd, x_fal, x_call2_0, x_call2_1, e_k_s, List.nil_append, List.cons_append, x_icq, e1, e2]
theorem w_widthFor (h : Rel I J) (hL : X.1 ≤ 2560) {i : Int} (hi : 0 ≤ i ∧ i + 5 ≤ X.1) : wtn X d I J i 754 := by
  obtain ⟨v, I1, J1, I2, J2, e1, e2, h2⟩ := q_widthFor (X := X) (d := d) h (a := xv X (i + 1)) xv_rg
  refine ⟨I2, J2, ?_, h2⟩
  rw [u_308_754]
  simp (disch := omega) only [x_aload0, x_aload1, x_aload2, x_iload3, x_sipush, x_iadd, x_fal, x_call2_0, x_call2_1, e_k_s, List.nil_append, List.cons_append, x_icq, e1, e2]
theorem w_pieceFor (h : Rel I J) (hL : X.1 ≤ 2560) {i : Int} (hi : 0 ≤ i ∧ i + 5 ≤ X.1) : wtn X d I J i 777 := by
  obtain ⟨v, I1, J1, I2, J2, e1, e2, h2⟩ := q_pieceFor (X := X) (d := d) h (a := xv X (i + 1)) xv_rg
  refine ⟨I2, J2, ?_, h2⟩
  rw [u_308_777]
  simp (disch := omega) only [x_aload0, x_aload1, x_aload2, x_iload3, x_sipush, x_iadd, x_fal, x_call2_0, x_call2_1, e_k_s, List.nil_append, List.cons_append, x_icq, e1, e2]
theorem w_over (h : Rel I J) (hL : X.1 ≤ 2560) {i : Int} (hi : 0 ≤ i ∧ i + 5 ≤ X.1) : wtn X d I J i 800 := by
  obtain ⟨v, I1, J1, I2, J2, e1, e2, h2⟩ := q_over (X := X) (d := d) h (a := xv X (i + 1)) xv_rg
  refine ⟨I2, J2, ?_, h2⟩
  rw [u_308_800]
  simp (disch := omega) only [x_aload0, x_aload1, x_aload2, x_iload3, x_sipush, x_iadd, x_fal, x_call2_0, x_call2_1, e_k_s, List.nil_append, List.cons_append, x_icq, e1, e2]
theorem w_gap (h : Rel I J) (hL : X.1 ≤ 2560) {i : Int} (hi : 0 ≤ i ∧ i + 5 ≤ X.1) : wtn X d I J i 823 := by
  obtain ⟨v, I1, J1, I2, J2, e1, e2, h2⟩ := q_gap (X := X) (d := d) h (a := xv X (i + 1)) xv_rg
  refine ⟨I2, J2, ?_, h2⟩
  rw [u_308_823]
  simp (disch := omega) only [x_aload0, x_aload1, x_aload2, x_iload3, x_sipush, x_iadd, x_fal, x_call2_0, x_call2_1, e_k_s, List.nil_append, List.cons_append, x_icq, e1, e2]
theorem w_branches (h : Rel I J) (hL : X.1 ≤ 2560) {i : Int} (hi : 0 ≤ i ∧ i + 5 ≤ X.1) : wtn X d I J i 846 := by
  obtain ⟨v, I1, J1, I2, J2, e1, e2, h2⟩ := q_branches (X := X) (d := d) h (a := xv X (i + 1)) xv_rg
  refine ⟨I2, J2, ?_, h2⟩
  rw [u_308_846]
  simp (disch := omega) only [x_aload0, x_aload1, x_aload2, x_iload3, x_sipush, x_iadd, x_fal, x_call2_0, x_call2_1, e_k_s, List.nil_append, List.cons_append, x_icq, e1, e2]
theorem w_fetch (h : Rel I J) (hL : X.1 ≤ 2560) {i : Int} (hi : 0 ≤ i ∧ i + 5 ≤ X.1) : wtn X d I J i 869 := by
  obtain ⟨v, I1, J1, I2, J2, e1, e2, h2⟩ := q_fetch (X := X) (d := d) h (a := xv X (i + 1)) (b := xv X (i + 2)) xv_rg xv_rg
  refine ⟨I2, J2, ?_, h2⟩
  rw [u_308_869]
  simp (disch := omega) only [x_aload0, x_aload1, x_aload2, x_iload3, x_sipush, x_iadd, x_fal, x_call3_0, x_call3_1, e_k_s, List.nil_append, List.cons_append, x_icq, e1, e2]
theorem w_best (h : Rel I J) (hL : X.1 ≤ 2560) {i : Int} (hi : 0 ≤ i ∧ i + 5 ≤ X.1) : wtn X d I J i 902 := by
  obtain ⟨v, I1, J1, I2, J2, e1, e2, h2⟩ := q_best (X := X) (d := d) h (a := xv X (i + 1)) xv_rg
  refine ⟨I2, J2, ?_, h2⟩
  rw [u_308_902]
  simp (disch := omega) only [x_aload0, x_aload1, x_aload2, x_iload3, x_sipush, x_iadd, x_fal, x_call2_0, x_call2_1, e_k_s, List.nil_append, List.cons_append, x_icq, e1, e2]
theorem w_ith (h : Rel I J) (hL : X.1 ≤ 2560) {i : Int} (hi : 0 ≤ i ∧ i + 5 ≤ X.1) : wtn X d I J i 925 := by
  obtain ⟨v, I1, J1, I2, J2, e1, e2, h2⟩ := q_ith (X := X) (d := d) h (a := xv X (i + 1)) (b := xv X (i + 2)) xv_rg xv_rg
  refine ⟨I2, J2, ?_, h2⟩
  rw [u_308_925]
  simp (disch := omega) only [x_aload0, x_aload1, x_aload2, x_iload3, x_sipush, x_iadd, x_fal, x_call3_0, x_call3_1, e_k_s, List.nil_append, List.cons_append, x_icq, e1, e2]
theorem w_ways (h : Rel I J) (hL : X.1 ≤ 2560) {i : Int} (hi : 0 ≤ i ∧ i + 5 ≤ X.1) : wtn X d I J i 958 := by
  obtain ⟨v, I1, J1, I2, J2, e1, e2, h2⟩ := q_ways (X := X) (d := d) h (a := xv X (i + 1)) xv_rg
  refine ⟨I2, J2, ?_, h2⟩
  rw [u_308_958]
  simp (disch := omega) only [x_aload0, x_aload1, x_aload2, x_iload3, x_sipush, x_iadd, x_fal, x_call2_0, x_call2_1, e_k_s, List.nil_append, List.cons_append, x_icq, e1, e2]
theorem w_supper (h : Rel I J) (hL : X.1 ≤ 2560) {i : Int} (hi : 0 ≤ i ∧ i + 5 ≤ X.1) : wtn X d I J i 981 := by
  obtain ⟨v, I1, J1, I2, J2, e1, e2, h2⟩ := q_supper (X := X) (d := d) h (a := xv X (i + 1)) (b := xv X (i + 2)) xv_rg xv_rg
  refine ⟨I2, J2, ?_, h2⟩
  rw [u_308_981]
  simp (disch := omega) only [x_aload0, x_aload1, x_aload2, x_iload3, x_sipush, x_iadd, x_fal, x_call3_0, x_call3_1, e_k_s, List.nil_append, List.cons_append, x_icq, e1, e2]
theorem w_bars (h : Rel I J) (hL : X.1 ≤ 2560) {i : Int} (hi : 0 ≤ i ∧ i + 5 ≤ X.1) : wtn X d I J i 1014 := by
  obtain ⟨v, I1, J1, I2, J2, e1, e2, h2⟩ := q_bars (X := X) (d := d) h (a := xv X (i + 1)) (b := xv X (i + 2)) xv_rg xv_rg
  refine ⟨I2, J2, ?_, h2⟩
  rw [u_308_1014]
  simp (disch := omega) only [x_aload0, x_aload1, x_aload2, x_iload3, x_sipush, x_iadd, x_fal, x_call3_0, x_call3_1, e_k_s, List.nil_append, List.cons_append, x_icq, e1, e2]
theorem w_game (h : Rel I J) (hL : X.1 ≤ 2560) {i : Int} (hi : 0 ≤ i ∧ i + 5 ≤ X.1) : wtn X d I J i 1047 := by
  obtain ⟨v, I1, J1, I2, J2, e1, e2, h2⟩ := q_game (X := X) (d := d) h (a := xv X (i + 1)) xv_rg
  refine ⟨I2, J2, ?_, h2⟩
  rw [u_308_1047]
  simp (disch := omega) only [x_aload0, x_aload1, x_aload2, x_iload3, x_sipush, x_iadd, x_fal, x_call2_0, x_call2_1, e_k_s, List.nil_append, List.cons_append, x_icq, e1, e2]
theorem w_play (h : Rel I J) (hL : X.1 ≤ 2560) {i : Int} (hi : 0 ≤ i ∧ i + 5 ≤ X.1) : wtn X d I J i 1070 := by
  obtain ⟨v, I1, J1, I2, J2, e1, e2, h2⟩ := q_play (X := X) (d := d) h (a := xv X (i + 1)) xv_rg
  refine ⟨I2, J2, ?_, h2⟩
  rw [u_308_1070]
  simp (disch := omega) only [x_aload0, x_aload1, x_aload2, x_iload3, x_sipush, x_iadd, x_fal, x_call2_0, x_call2_1, e_k_s, List.nil_append, List.cons_append, x_icq, e1, e2]
theorem w_report (h : Rel I J) (hL : X.1 ≤ 2560) {i : Int} (hi : 0 ≤ i ∧ i + 5 ≤ X.1) : wtn X d I J i 1093 := by
  obtain ⟨v, I1, J1, I2, J2, e1, e2, h2⟩ := q_report (X := X) (d := d) h (a := xv X (i + 1)) (b := xv X (i + 2)) (l := xv X (i + 3)) (m := xv X (i + 4)) xv_rg xv_rg xv_rg xv_rg
  refine ⟨I2, J2, ?_, h2⟩
  rw [u_308_1093]
  simp (disch := omega) only [x_aload0, x_aload1, x_aload2, x_iload3, x_sipush, x_iadd, x_fal, x_call5_0, x_call5_1, e_k_s, List.nil_append, List.cons_append, x_icq, e1, e2]
theorem w_forget (h : Rel I J) (hL : X.1 ≤ 2560) {i : Int} (hi : 0 ≤ i ∧ i + 5 ≤ X.1) : wtn X d I J i 1146 := by
  obtain ⟨v, I1, J1, I2, J2, e1, e2, h2⟩ := q_forget (X := X) (d := d) h  
  refine ⟨I2, J2, ?_, h2⟩
  rw [u_308_1146]
  simp (disch := omega) only [x_aload0, x_aload1, x_aload2, x_iload3, x_sipush, x_iadd, x_fal, x_call1_0, x_call1_1, e_k_s, List.nil_append, List.cons_append, x_icq, e1, e2]
theorem w_lost (h : Rel I J) (hL : X.1 ≤ 2560) {i : Int} (hi : 0 ≤ i ∧ i + 5 ≤ X.1) : wtn X d I J i 1159 := by
  obtain ⟨v, I1, J1, I2, J2, e1, e2, h2⟩ := q_lost (X := X) (d := d) h (a := xv X (i + 1)) xv_rg
  refine ⟨I2, J2, ?_, h2⟩
  rw [u_308_1159]
  simp (disch := omega) only [x_aload0, x_aload1, x_aload2, x_iload3, x_sipush, x_iadd, x_fal, x_call2_0, x_call2_1, e_k_s, List.nil_append, List.cons_append, x_icq, e1, e2]
theorem w_liar (h : Rel I J) (hL : X.1 ≤ 2560) {i : Int} (hi : 0 ≤ i ∧ i + 5 ≤ X.1) : wtn X d I J i 1182 := by
  obtain ⟨v, I1, J1, I2, J2, e1, e2, h2⟩ := q_liar (X := X) (d := d) h  
  refine ⟨I2, J2, ?_, h2⟩
  rw [u_308_1182]
  simp (disch := omega) only [x_aload0, x_aload1, x_aload2, x_iload3, x_sipush, x_iadd, x_fal, x_call1_0, x_call1_1, e_k_s, List.nil_append, List.cons_append, x_icq, e1, e2]
theorem w_seed (h : Rel I J) (hL : X.1 ≤ 2560) {i : Int} (hi : 0 ≤ i ∧ i + 5 ≤ X.1) : wtn X d I J i 1195 := by
  obtain ⟨v, I1, J1, I2, J2, e1, e2, h2⟩ := q_seed (X := X) (d := d) h (a := xv X (i + 1)) xv_rg
  refine ⟨I2, J2, ?_, h2⟩
  rw [u_308_1195]
  simp (disch := omega) only [x_aload0, x_aload1, x_aload2, x_iload3, x_sipush, x_iadd, x_fal, x_call2_0, x_call2_1, e_k_s, List.nil_append, List.cons_append, x_icq, e1, e2]
theorem w_lot (h : Rel I J) (hL : X.1 ≤ 2560) {i : Int} (hi : 0 ≤ i ∧ i + 5 ≤ X.1) : wtn X d I J i 1218 := by
  obtain ⟨v, I1, J1, I2, J2, e1, e2, h2⟩ := q_lot (X := X) (d := d) h  
  refine ⟨I2, J2, ?_, h2⟩
  rw [u_308_1218]
  simp (disch := omega) only [x_aload0, x_aload1, x_aload2, x_iload3, x_sipush, x_iadd, x_fal, x_call1_0, x_call1_1, e_k_s, List.nil_append, List.cons_append, x_icq, e1, e2]
theorem w_times (h : Rel I J) (hL : X.1 ≤ 2560) {i : Int} (hi : 0 ≤ i ∧ i + 5 ≤ X.1) : wtn X d I J i 1231 := by
  obtain ⟨v, I1, J1, I2, J2, e1, e2, h2⟩ := q_times (X := X) (d := d) h (a := xv X (i + 1)) (b := xv X (i + 2)) xv_rg xv_rg
  refine ⟨I2, J2, ?_, h2⟩
  rw [u_308_1231]
  simp (disch := omega) only [x_aload0, x_aload1, x_aload2, x_iload3, x_sipush, x_iadd, x_fal, x_call3_0, x_call3_1, e_k_s, List.nil_append, List.cons_append, x_icq, e1, e2]
theorem w_prove (h : Rel I J) (hL : X.1 ≤ 2560) {i : Int} (hi : 0 ≤ i ∧ i + 5 ≤ X.1) : wtn X d I J i 1264 := by
  obtain ⟨v, I1, J1, I2, J2, e1, e2, h2⟩ := q_prove (X := X) (d := d) h (a := xv X (i + 1)) xv_rg
  refine ⟨I2, J2, ?_, h2⟩
  rw [u_308_1264]
  simp (disch := omega) only [x_aload0, x_aload1, x_aload2, x_iload3, x_sipush, x_iadd, x_fal, x_call2_0, x_call2_1, e_k_s, List.nil_append, List.cons_append, x_icq, e1, e2]
theorem w_row (h : Rel I J) (hL : X.1 ≤ 2560) {i : Int} (hi : 0 ≤ i ∧ i + 5 ≤ X.1) : wtn X d I J i 1287 := by
  obtain ⟨v, I1, J1, I2, J2, e1, e2, h2⟩ := q_row (X := X) (d := d) h (a := xv X (i + 1)) (b := xv X (i + 2)) xv_rg xv_rg
  refine ⟨I2, J2, ?_, h2⟩
  rw [u_308_1287]
  simp (disch := omega) only [x_aload0, x_aload1, x_aload2, x_iload3, x_sipush, x_iadd, x_fal, x_call3_0, x_call3_1, e_k_s, List.nil_append, List.cons_append, x_icq, e1, e2]
theorem w_alter (h : Rel I J) (hL : X.1 ≤ 2560) {i : Int} (hi : 0 ≤ i ∧ i + 5 ≤ X.1) : wtn X d I J i 1320 := by
  obtain ⟨v, I1, J1, I2, J2, e1, e2, h2⟩ := q_alter (X := X) (d := d) h (a := xv X (i + 1)) (b := xv X (i + 2)) (c := xv X (i + 3)) xv_rg xv_rg xv_rg
  refine ⟨I2, J2, ?_, h2⟩
  rw [u_308_1320]
  simp (disch := omega) only [x_aload0, x_aload1, x_aload2, x_iload3, x_sipush, x_iadd, x_fal, x_call4_0, x_call4_1, e_k_s, List.nil_append, List.cons_append, x_icq, e1, e2]
theorem w_judge (h : Rel I J) (hL : X.1 ≤ 2560) {i : Int} (hi : 0 ≤ i ∧ i + 5 ≤ X.1) : wtn X d I J i 1363 := by
  obtain ⟨v, I1, J1, I2, J2, e1, e2, h2⟩ := q_judge (X := X) (d := d) h  
  refine ⟨I2, J2, ?_, h2⟩
  rw [u_308_1363]
  simp (disch := omega) only [x_aload0, x_aload1, x_aload2, x_iload3, x_sipush, x_iadd, x_fal, x_call1_0, x_call1_1, e_k_s, List.nil_append, List.cons_append, x_icq, e1, e2]
theorem w_sheet (h : Rel I J) (hL : X.1 ≤ 2560) {i : Int} (hi : 0 ≤ i ∧ i + 5 ≤ X.1) : wtn X d I J i 1376 := by
  obtain ⟨v, I1, J1, I2, J2, e1, e2, h2⟩ := q_sheet (X := X) (d := d) h (a := xv X (i + 1)) (b := xv X (i + 2)) (c := xv X (i + 3)) xv_rg xv_rg xv_rg
  refine ⟨I2, J2, ?_, h2⟩
  rw [u_308_1376]
  simp (disch := omega) only [x_aload0, x_aload1, x_aload2, x_iload3, x_sipush, x_iadd, x_fal, x_call4_0, x_call4_1, e_k_s, List.nil_append, List.cons_append, x_icq, e1, e2]
theorem w_write (h : Rel I J) (hL : X.1 ≤ 2560) {i : Int} (hi : 0 ≤ i ∧ i + 5 ≤ X.1) : wtn X d I J i 1419 := by
  obtain ⟨v, I1, J1, I2, J2, e1, e2, h2⟩ := q_write (X := X) (d := d) h (a := xv X (i + 1)) (b := xv X (i + 2)) (c := xv X (i + 3)) xv_rg xv_rg xv_rg
  refine ⟨I2, J2, ?_, h2⟩
  rw [u_308_1419]
  simp (disch := omega) only [x_aload0, x_aload1, x_aload2, x_iload3, x_sipush, x_iadd, x_fal, x_call4_0, x_call4_1, e_k_s, List.nil_append, List.cons_append, x_icq, e1, e2]
theorem w_item (h : Rel I J) (hL : X.1 ≤ 2560) {i : Int} (hi : 0 ≤ i ∧ i + 5 ≤ X.1) : wtn X d I J i 1462 := by
  obtain ⟨v, I1, J1, I2, J2, e1, e2, h2⟩ := q_item (X := X) (d := d) h (a := xv X (i + 1)) (b := xv X (i + 2)) (c := xv X (i + 3)) xv_rg xv_rg xv_rg
  refine ⟨I2, J2, ?_, h2⟩
  rw [u_308_1462]
  simp (disch := omega) only [x_aload0, x_aload1, x_aload2, x_iload3, x_sipush, x_iadd, x_fal, x_call4_0, x_call4_1, e_k_s, List.nil_append, List.cons_append, x_icq, e1, e2]
theorem w_goAll (h : Rel I J) (hL : X.1 ≤ 2560) {i : Int} (hi : 0 ≤ i ∧ i + 5 ≤ X.1) : wtn X d I J i 1505 := by
  obtain ⟨v, I1, J1, I2, J2, e1, e2, h2⟩ := q_goAll (X := X) (d := d) h (a := xv X (i + 1)) (b := xv X (i + 2)) (c := xv X (i + 3)) xv_rg xv_rg xv_rg
  refine ⟨I2, J2, ?_, h2⟩
  rw [u_308_1505]
  simp (disch := omega) only [x_aload0, x_aload1, x_aload2, x_iload3, x_sipush, x_iadd, x_fal, x_call4_0, x_call4_1, e_k_s, List.nil_append, List.cons_append, x_icq, e1, e2]
theorem w_would (h : Rel I J) (hL : X.1 ≤ 2560) {i : Int} (hi : 0 ≤ i ∧ i + 5 ≤ X.1) : wtn X d I J i 1548 := by
  obtain ⟨v, I1, J1, I2, J2, e1, e2, h2⟩ := q_would (X := X) (d := d) h (a := xv X (i + 1)) (b := xv X (i + 2)) (c := xv X (i + 3)) xv_rg xv_rg xv_rg
  refine ⟨I2, J2, ?_, h2⟩
  rw [u_308_1548]
  simp (disch := omega) only [x_aload0, x_aload1, x_aload2, x_iload3, x_sipush, x_iadd, x_fal, x_call4_0, x_call4_1, e_k_s, List.nil_append, List.cons_append, x_icq, e1, e2]
theorem w_shelf (h : Rel I J) (hL : X.1 ≤ 2560) {i : Int} (hi : 0 ≤ i ∧ i + 5 ≤ X.1) : wtn X d I J i 1591 := by
  obtain ⟨v, I1, J1, I2, J2, e1, e2, h2⟩ := q_shelf (X := X) (d := d) h (a := xv X (i + 1)) (b := xv X (i + 2)) (c := xv X (i + 3)) xv_rg xv_rg xv_rg
  refine ⟨I2, J2, ?_, h2⟩
  rw [u_308_1591]
  simp (disch := omega) only [x_aload0, x_aload1, x_aload2, x_iload3, x_sipush, x_iadd, x_fal, x_call4_0, x_call4_1, e_k_s, List.nil_append, List.cons_append, x_icq, e1, e2]
theorem w_taken (h : Rel I J) (hL : X.1 ≤ 2560) {i : Int} (hi : 0 ≤ i ∧ i + 5 ≤ X.1) : wtn X d I J i 1634 := by
  obtain ⟨v, I1, J1, I2, J2, e1, e2, h2⟩ := q_taken (X := X) (d := d) h (a := xv X (i + 1)) (b := xv X (i + 2)) xv_rg xv_rg
  refine ⟨I2, J2, ?_, h2⟩
  rw [u_308_1634]
  simp (disch := omega) only [x_aload0, x_aload1, x_aload2, x_iload3, x_sipush, x_iadd, x_fal, x_call3_0, x_call3_1, e_k_s, List.nil_append, List.cons_append, x_icq, e1, e2]
theorem w_act (h : Rel I J) (hL : X.1 ≤ 2560) {i : Int} (hi : 0 ≤ i ∧ i + 5 ≤ X.1) : wtn X d I J i 1667 := by
  obtain ⟨v, I1, J1, I2, J2, e1, e2, h2⟩ := q_act (X := X) (d := d) h (a := xv X (i + 1)) (b := xv X (i + 2)) (c := xv X (i + 3)) xv_rg xv_rg xv_rg
  refine ⟨I2, J2, ?_, h2⟩
  rw [u_308_1667]
  simp (disch := omega) only [x_aload0, x_aload1, x_aload2, x_iload3, x_sipush, x_iadd, x_fal, x_call4_0, x_call4_1, e_k_s, List.nil_append, List.cons_append, x_icq, e1, e2]
theorem w_trace (h : Rel I J) (hL : X.1 ≤ 2560) {i : Int} (hi : 0 ≤ i ∧ i + 5 ≤ X.1) : wtn X d I J i 1710 := by
  obtain ⟨v, I1, J1, I2, J2, e1, e2, h2⟩ := q_trace (X := X) (d := d) h (a := xv X (i + 1)) xv_rg
  refine ⟨I2, J2, ?_, h2⟩
  rw [u_308_1710]
  simp (disch := omega) only [x_aload0, x_aload1, x_aload2, x_iload3, x_sipush, x_iadd, x_fal, x_call2_0, x_call2_1, e_k_s, List.nil_append, List.cons_append, x_icq, e1, e2]
theorem w_many (h : Rel I J) (hL : X.1 ≤ 2560) {i : Int} (hi : 0 ≤ i ∧ i + 5 ≤ X.1) : wtn X d I J i 1733 := by
  obtain ⟨v, I1, J1, I2, J2, e1, e2, h2⟩ := q_many (X := X) (d := d) h (a := xv X (i + 1)) xv_rg
  refine ⟨I2, J2, ?_, h2⟩
  rw [u_308_1733]
  simp (disch := omega) only [x_aload0, x_aload1, x_aload2, x_iload3, x_sipush, x_iadd, x_fal, x_call2_0, x_call2_1, e_k_s, List.nil_append, List.cons_append, x_icq, e1, e2]
theorem w_keep (h : Rel I J) (hL : X.1 ≤ 2560) {i : Int} (hi : 0 ≤ i ∧ i + 5 ≤ X.1) : wtn X d I J i 1756 := by
  obtain ⟨v, I1, J1, I2, J2, e1, e2, h2⟩ := q_keep (X := X) (d := d) h  
  refine ⟨I2, J2, ?_, h2⟩
  rw [u_308_1756]
  simp (disch := omega) only [x_aload0, x_aload1, x_aload2, x_iload3, x_sipush, x_iadd, x_fal, x_call1_0, x_call1_1, e_k_s, List.nil_append, List.cons_append, x_icq, e1, e2]
theorem w_again (h : Rel I J) (hL : X.1 ≤ 2560) {i : Int} (hi : 0 ≤ i ∧ i + 5 ≤ X.1) : wtn X d I J i 1769 := by
  obtain ⟨v, I1, J1, I2, J2, e1, e2, h2⟩ := q_again (X := X) (d := d) h  
  refine ⟨I2, J2, ?_, h2⟩
  rw [u_308_1769]
  simp (disch := omega) only [x_aload0, x_aload1, x_aload2, x_iload3, x_sipush, x_iadd, x_fal, x_call1_0, x_call1_1, e_k_s, List.nil_append, List.cons_append, x_icq, e1, e2]
theorem w_turn (h : Rel I J) (hL : X.1 ≤ 2560) {i : Int} (hi : 0 ≤ i ∧ i + 5 ≤ X.1) : ∃ I' J', s_j X (d + 30) 308 18 [.ref 1000, .ref 0, .ref 69, .int (iI i)] [] (mm I J) = s_j X (d + 30) 308 18 [.ref 1000, .ref 0, .ref 69, .int (iI (i + 5))] [] (mm I' J') ∧ Rel I' J' := by
  have hX : Int32.ofNat X.1 = iI X.1 := Int32.ofInt_eq_ofNat.symm
  have q : ¬ (X.1 : Int) - 5 < i := by omega
  have e1 : s_j X (d + 30) 308 18 [.ref 1000, .ref 0, .ref 69, .int (iI i)] [] (mm I J) = e_sw (fun t => s_g X (d + 30) 308 t [.ref 1000, .ref 0, .ref 69, .int (iI i)] [] (mm I J)) 1782 [(0, 256), (1, 309), (2, 342), (3, 385), (4, 418), (5, 451), (6, 494), (7, 527), (8, 560), (9, 583), (10, 596), (11, 619), (12, 682), (13, 695), (14, 708), (15, 731), (16, 754), (17, 777), (18, 800), (19, 823), (20, 846), (21, 869), (22, 902), (23, 925), (24, 958), (25, 981), (26, 1014), (27, 1047), (28, 1070), (29, 1093), (30, 1146), (31, 1159), (32, 1182), (33, 1195), (34, 1218), (35, 1231), (36, 1264), (37, 1287), (38, 1320), (39, 1363), (40, 1376), (41, 1419), (42, 1462), (43, 1505), (44, 1548), (45, 1591), (46, 1634), (47, 1667), (48, 1710), (49, 1733), (50, 1756), (51, 1769)] (iI (xv X i) &&& iI 63) := by
    rw [u_308_18]
    simp (disch := omega) only [x_iload3, x_aload0, x_fadd, hX, x_sipush, x_isub, x_if_icmp_gt, q, if_false, ↓reduceIte, x_fal, x_iand, x_switch]
  obtain ⟨t, ht, e2⟩ := sw_ex (X := X) (d := d + 30) (c := 308) (ls := [.ref 1000, .ref 0, .ref 69, .int (iI i)]) (st := []) (m := mm I J) (x := iI (xv X i) &&& iI 63) (e := 1782) [(0, 256), (1, 309), (2, 342), (3, 385), (4, 418), (5, 451), (6, 494), (7, 527), (8, 560), (9, 583), (10, 596), (11, 619), (12, 682), (13, 695), (14, 708), (15, 731), (16, 754), (17, 777), (18, 800), (19, 823), (20, 846), (21, 869), (22, 902), (23, 925), (24, 958), (25, 981), (26, 1014), (27, 1047), (28, 1070), (29, 1093), (30, 1146), (31, 1159), (32, 1182), (33, 1195), (34, 1218), (35, 1231), (36, 1264), (37, 1287), (38, 1320), (39, 1363), (40, 1376), (41, 1419), (42, 1462), (43, 1505), (44, 1548), (45, 1591), (46, 1634), (47, 1667), (48, 1710), (49, 1733), (50, 1756), (51, 1769)]
  have hw : wtn X d I J i t := by
    rcases ht with rfl | ht
    · exact ⟨I, J, rfl, h⟩
    · simp only [List.map_cons, List.map_nil, List.mem_cons, List.mem_nil_iff, or_false] at ht
      rcases ht with rfl | rfl | rfl | rfl | rfl | rfl | rfl | rfl | rfl | rfl | rfl | rfl | rfl | rfl | rfl | rfl | rfl | rfl | rfl | rfl | rfl | rfl | rfl | rfl | rfl | rfl | rfl | rfl | rfl | rfl | rfl | rfl | rfl | rfl | rfl | rfl | rfl | rfl | rfl | rfl | rfl | rfl | rfl | rfl | rfl | rfl | rfl | rfl | rfl | rfl | rfl | rfl
      · exact w_plate h hL hi
      · exact w_plateOf h hL hi
      · exact w_change h hL hi
      · exact w_remake h hL hi
      · exact w_news h hL hi
      · exact w_home h hL hi
      · exact w_homeOf h hL hi
      · exact w_family h hL hi
      · exact w_ends h hL hi
      · exact w_anew h hL hi
      · exact w_state h hL hi
      · exact w_feed h hL hi
      · exact w_rules h hL hi
      · exact w_year h hL hi
      · exact w_on h hL hi
      · exact w_when h hL hi
      · exact w_widthFor h hL hi
      · exact w_pieceFor h hL hi
      · exact w_over h hL hi
      · exact w_gap h hL hi
      · exact w_branches h hL hi
      · exact w_fetch h hL hi
      · exact w_best h hL hi
      · exact w_ith h hL hi
      · exact w_ways h hL hi
      · exact w_supper h hL hi
      · exact w_bars h hL hi
      · exact w_game h hL hi
      · exact w_play h hL hi
      · exact w_report h hL hi
      · exact w_forget h hL hi
      · exact w_lost h hL hi
      · exact w_liar h hL hi
      · exact w_seed h hL hi
      · exact w_lot h hL hi
      · exact w_times h hL hi
      · exact w_prove h hL hi
      · exact w_row h hL hi
      · exact w_alter h hL hi
      · exact w_judge h hL hi
      · exact w_sheet h hL hi
      · exact w_write h hL hi
      · exact w_item h hL hi
      · exact w_goAll h hL hi
      · exact w_would h hL hi
      · exact w_shelf h hL hi
      · exact w_taken h hL hi
      · exact w_act h hL hi
      · exact w_trace h hL hi
      · exact w_many h hL hi
      · exact w_keep h hL hi
      · exact w_again h hL hi
  obtain ⟨I', J', e3, h3⟩ := hw
  refine ⟨I', J', ?_, h3⟩
  rw [e1, e2, e3]
  conv => lhs; rw [u_308_1782]
  simp only [x_iinc3r, x_goto]
theorem w_loop (hL : X.1 ≤ 2560) : ∀ (f : Nat) (i : Int) (I J : Nat → Int → Int), Rel I J → 0 ≤ i → i ≤ 2600 → (X.1 : Int) - i < f → ∃ I' J', s_j X (d + 30) 308 18 [.ref 1000, .ref 0, .ref 69, .int (iI i)] [] (mm I J) = some ([.int (iI 1)], mm I' J')
  | f, i, I, J, h, h0, h1, hf => by
    by_cases q : i + 5 ≤ X.1
    · obtain ⟨I1, J1, e1, r1⟩ := w_turn (X := X) (d := d) h hL ⟨h0, q⟩
      cases f with
      | zero => omega
      | succ f =>
        obtain ⟨I2, J2, e2⟩ := w_loop hL f (i + 5) I1 J1 r1 (by omega) (by omega) (by omega)
        exact ⟨I2, J2, by rw [e1, e2]⟩
    · refine ⟨I, J, ?_⟩
      have hX : Int32.ofNat X.1 = iI X.1 := Int32.ofInt_eq_ofNat.symm
      have q2 : (X.1 : Int) - 5 < i := by omega
      rw [u_308_18]
      simp (disch := omega) only [x_iload3, x_aload0, x_fadd, hX, x_sipush, x_isub, x_if_icmp_gt, q2, if_true, ↓reduceIte]
      rw [u_308_1788]
      simp only [x_sipush, x_zret1]
end
