/-! THE PROGRAM, resolved, by wip/whole/gen.py -/
/-- A.init -/
def g_c0 : List (Nat × List Instr) := [(0, [.aload 0, .pop2, .aload 0, .sipush 30, .newarray .int, .instanceof 0, .aload 0, .sipush 0, .putfield 1, .aload 0, .sipush 0, .putfield 2, .aload 0, .sipush 0, .putfield 3, .aload 0, .sipush 0, .putfield 4, .aload 0, .sipush 0, .putfield 5, .return_])]
/-- A.begin -/
def g_c1 : List (Nat × List Instr) := [(0, [.aload 0, .iload 1, .putfield 3, .aload 0, .iload 2, .putfield 4, .aload 0, .iload 3, .putfield 5, .aload 0, .sipush 0, .putfield 1, .aload 0, .sipush 0, .putfield 2, .return_])]
/-- A.perform -/
def g_c2 : List (Nat × List Instr) := [(0, [.sipush 0, .istore 3, .iload 1, .lookupswitch 55 #[(0, 28), (1, 37), (2, 46)]]),
  (28, [.aload 0, .iload 2, .invokeinterface 3 2, .istore 3, .goto 61]),
  (37, [.aload 0, .iload 2, .invokeinterface 5 2, .istore 3, .goto 61]),
  (46, [.aload 0, .iload 2, .invokeinterface 6 2, .istore 3, .goto 61]),
  (55, [.aload 0, .iload 2, .invokeinterface 7 2, .istore 3, .jsr 61]),
  (61, [.aload 0, .getfield 2, .ifCond .eq 73, .sipush (-15), .goto 74]),
  (73, [.iload 3, .jsr 74]),
  (74, [.ireturn])]
/-- A.lays -/
def g_c3 : List (Nat × List Instr) := [(0, [.aload 0, .getfield 3, .sipush 1, .if_icmp .ne 14, .aload 0, .sipush 20, .invokeinterface 4 2, .jsr 14]),
  (14, [.aload 0, .getfield 3, .sipush 3, .if_icmp .ne 28, .aload 0, .sipush 50, .invokeinterface 4 2, .jsr 28]),
  (28, [.aload 0, .sipush 10, .invokeinterface 4 2, .iload 1, .sipush 2, .imul, .aload 0, .getfield 4, .iadd, .istore 2, .aload 0, .getfield 3, .sipush 1, .if_icmp .ne 55, .iload 2, .sipush 3, .imul, .ireturn]),
  (55, [.aload 0, .getfield 3, .sipush 3, .if_icmp .ne 69, .iload 2, .sipush 4, .ixor, .goto 70]),
  (69, [.iload 2, .jsr 70]),
  (70, [.ireturn])]
/-- A.note -/
def g_c4 : List (Nat × List Instr) := [(0, [.aload 0, .getfield 2, .ifCond .ne 33, .aload 0, .getfield 1, .sipush 30, .if_icmp .ge 33, .aload 0, .checkcast 0, .aload 0, .dup, .getfield 1, .dup_x1, .sipush 1, .iadd, .putfield 1, .iload 1, .iastore, .jsr 33]),
  (33, [.return_])]
/-- A.tilts -/
def g_c5 : List (Nat × List Instr) := [(0, [.aload 0, .getfield 3, .sipush 2, .invokeinterface 112 2, .istore 2, .iload 2, .ifCond .eq 19, .aload 0, .sipush 30, .invokeinterface 4 2, .jsr 19]),
  (19, [.aload 0, .getfield 3, .sipush 5, .if_icmp .ne 33, .aload 0, .sipush 60, .invokeinterface 4 2, .jsr 33]),
  (33, [.aload 0, .sipush 11, .invokeinterface 4 2, .aload 0, .iload 2, .ifCond .eq 50, .iload 1, .sipush 1, .iadd, .goto 51]),
  (50, [.iload 1, .jsr 51]),
  (51, [.invokeinterface 3 2, .aload 0, .getfield 5, .isub, .istore 3, .aload 0, .getfield 3, .sipush 5, .if_icmp .ne 75, .iload 3, .sipush 60, .isub, .goto 76]),
  (75, [.iload 3, .jsr 76]),
  (76, [.ireturn])]
/-- A.breaks -/
def g_c6 : List (Nat × List Instr) := [(0, [.aload 0, .getfield 3, .sipush 4, .invokeinterface 112 2, .istore 2, .aload 0, .getfield 3, .sipush 5, .if_icmp .ne 23, .aload 0, .sipush 61, .invokeinterface 4 2, .jsr 23]),
  (23, [.iload 2, .ifCond .eq 33, .aload 0, .sipush 40, .invokeinterface 4 2, .jsr 33]),
  (33, [.aload 0, .sipush 12, .invokeinterface 4 2, .aload 0, .getfield 4, .aload 0, .getfield 5, .iadd, .sipush 3, .isub, .istore 3, .iload 3, .ifCond .ne 62, .aload 0, .sipush 1, .putfield 2, .sipush 0, .ireturn]),
  (62, [.iload 2, .ifCond .eq 74, .sipush 0, .iload 1, .iload 3, .irem, .isub, .goto 77]),
  (74, [.iload 1, .iload 3, .irem, .jsr 77]),
  (77, [.istore 4, .aload 0, .getfield 3, .sipush 5, .if_icmp .ne 101, .iload 4, .aload 0, .aload 0, .getfield 5, .invokeinterface 3 2, .ixor, .goto 103]),
  (101, [.iload 4, .jsr 103]),
  (103, [.ireturn])]
/-- A.shines -/
def g_c7 : List (Nat × List Instr) := [(0, [.aload 0, .getfield 3, .sipush 3, .if_icmp .ne 14, .aload 0, .sipush 51, .invokeinterface 4 2, .jsr 14]),
  (14, [.aload 0, .sipush 13, .invokeinterface 4 2, .aload 0, .iload 1, .invokeinterface 5 2, .istore 2, .iload 2, .aload 0, .iload 1, .invokeinterface 6 2, .ixor, .istore 3, .aload 0, .getfield 3, .sipush 3, .if_icmp .ne 55, .iload 3, .aload 0, .aload 0, .getfield 4, .invokeinterface 5 2, .iadd, .goto 56]),
  (55, [.iload 3, .jsr 56]),
  (56, [.ireturn])]
/-- L.init -/
def g_c8 : List (Nat × List Instr) := [(0, [.aload 0, .pop2, .aload 0, .sipush 8, .newarray .int, .instanceof 64, .aload 0, .sipush 8, .newarray .int, .instanceof 65, .aload 0, .sipush 8, .newarray .int, .instanceof 66, .aload 0, .sipush 200, .newarray .int, .instanceof 67, .aload 0, .sipush 5, .newarray .int, .instanceof 68, .aload 0, .sipush 0, .putfield 69, .aload 0, .sipush 0, .putfield 70, .return_])]
/-- L.tellTo -/
def g_c9 : List (Nat × List Instr) := [(0, [.sipush 0, .istore 2, .sipush 0, .istore 3, .jsr 4]),
  (4, [.iload 3, .aload 0, .getfield 69, .if_icmp .ge 59, .iload 1, .aload 0, .checkcast 64, .iload 3, .iaload, .invokeinterface 112 2, .ifCond .eq 46, .aload 0, .iload 2, .aload 0, .checkcast 66, .iload 3, .iaload, .invokeinterface 10 3, .ifCond .eq 46, .aload 0, .checkcast 65, .iload 3, .iaload, .ireturn]),
  (46, [.aload 0, .checkcast 66, .iload 3, .iaload, .istore 2, .iinc 3 1, .goto 4]),
  (59, [.sipush 0, .ireturn])]
/-- L.holds -/
def g_c10 : List (Nat × List Instr) := [(0, [.goto_w 1, .lstore 3, .iload 1, .istore 5, .jsr 5]),
  (5, [.iload 5, .iload 2, .if_icmp .ge 96, .aload 0, .checkcast 67, .iload 5, .iaload, .istore 6, .iload 6, .sipush (-1), .if_icmp .ne 33, .lload 3, .goto_w 1, .lxor, .lstore 3, .goto 90]),
  (33, [.iload 6, .sipush (-2), .if_icmp .ne 53, .lload 3, .sipush 1, .lushr, .lload 3, .goto_w (-2), .lor, .land, .lstore 3, .goto 90]),
  (53, [.iload 6, .sipush (-3), .if_icmp .ne 71, .lload 3, .sipush 1, .lushr, .lload 3, .goto_w 1, .land, .lor, .lstore 3, .goto 90]),
  (71, [.lload 3, .sipush 1, .lshl, .aload 0, .iload 6, .invokeinterface 11 2, .ifCond .eq 87, .goto_w 1, .goto 88]),
  (87, [.goto_w 0, .jsr 88]),
  (88, [.lor, .lstore 3, .jsr 90]),
  (90, [.iinc 5 1, .goto 5]),
  (96, [.lload 3, .goto_w 1, .land, .goto_w 1, .lcmp, .ifCond .ne 108, .sipush 1, .goto 109]),
  (108, [.sipush 0, .jsr 109]),
  (109, [.areturn])]
/-- L.compares -/
def g_c11 : List (Nat × List Instr) := [(0, [.iload 1, .sipush 14, .ishr, .sipush 16383, .iand, .istore 2, .iload 1, .sipush 16383, .iand, .istore 3, .iload 2, .sipush 10000, .if_icmp .lt 40, .iload 2, .sipush 10005, .if_icmp .ge 40, .aload 0, .checkcast 68, .iload 2, .sipush 10000, .isub, .iaload, .istore 2, .jsr 40]),
  (40, [.iload 3, .sipush 10000, .if_icmp .lt 65, .iload 3, .sipush 10005, .if_icmp .ge 65, .aload 0, .checkcast 68, .iload 3, .sipush 10000, .isub, .iaload, .istore 3, .jsr 65]),
  (65, [.iload 1, .sipush 28, .ishr, .lookupswitch 118 #[(0, 96), (1, 107)]]),
  (96, [.iload 2, .iload 3, .if_icmp .ge 105, .sipush 1, .goto 106]),
  (105, [.sipush 0, .jsr 106]),
  (106, [.areturn]),
  (107, [.iload 2, .iload 3, .if_icmp .ne 116, .sipush 1, .goto 117]),
  (116, [.sipush 0, .jsr 117]),
  (117, [.areturn]),
  (118, [.iload 2, .iload 3, .if_icmp .le 127, .sipush 1, .goto 128]),
  (127, [.sipush 0, .jsr 128]),
  (128, [.areturn])]
/-- L.empty -/
def g_c12 : List (Nat × List Instr) := [(0, [.aload 0, .sipush 0, .putfield 69, .aload 0, .sipush 0, .putfield 70, .return_])]
/-- L.comparison -/
def g_c13 : List (Nat × List Instr) := [(0, [.iload 1, .sipush 28, .ishl, .iload 0, .sipush 14, .ishl, .ior, .iload 2, .ior, .ireturn])]
/-- L.append -/
def g_c14 : List (Nat × List Instr) := [(0, [.aload 0, .getfield 70, .sipush 200, .if_icmp .ge 27, .aload 0, .checkcast 67, .aload 0, .dup, .getfield 70, .dup_x1, .sipush 1, .iadd, .putfield 70, .iload 1, .iastore, .jsr 27]),
  (27, [.return_])]
/-- L.close -/
def g_c15 : List (Nat × List Instr) := [(0, [.aload 0, .getfield 69, .sipush 8, .if_icmp .lt 10, .return_]),
  (10, [.aload 0, .checkcast 64, .aload 0, .getfield 69, .iload 1, .iastore, .aload 0, .checkcast 65, .aload 0, .getfield 69, .iload 2, .iastore, .aload 0, .checkcast 66, .aload 0, .getfield 69, .aload 0, .getfield 70, .iastore, .aload 0, .dup, .getfield 69, .sipush 1, .iadd, .putfield 69, .return_])]
/-- L.copyFrom -/
def g_c16 : List (Nat × List Instr) := [(0, [.aload 1, .checkcast 64, .sipush 0, .aload 0, .checkcast 64, .sipush 0, .sipush 8, .dmul, .aload 1, .checkcast 65, .sipush 0, .aload 0, .checkcast 65, .sipush 0, .sipush 8, .dmul, .aload 1, .checkcast 66, .sipush 0, .aload 0, .checkcast 66, .sipush 0, .sipush 8, .dmul, .aload 1, .checkcast 67, .sipush 0, .aload 0, .checkcast 67, .sipush 0, .sipush 200, .dmul, .aload 0, .aload 1, .getfield 69, .putfield 69, .aload 0, .aload 1, .getfield 70, .putfield 70, .return_])]
/-- P.init -/
def g_c17 : List (Nat × List Instr) := [(0, [.aload 0, .pop2, .aload 0, .sipush 4, .newarray .int, .instanceof 129, .aload 0, .sipush 4, .newarray .int, .instanceof 130, .aload 0, .sipush 0, .putfield 131, .aload 0, .sipush 0, .putfield 132, .aload 0, .sipush 0, .putfield 133, .aload 0, .sipush 0, .putfield 134, .aload 0, .sipush (-3), .putfield 135, .aload 0, .sipush 0, .putfield 136, .aload 0, .aload 1, .instanceof 128, .return_])]
/-- P.tryAll -/
def g_c18 : List (Nat × List Instr) := [(0, [.aload 0, .sipush 4, .aload 0, .checkcast 128, .iload 1, .invokeinterface 86 2, .dsub, .putfield 131, .aload 0, .iload 2, .putfield 132, .aload 0, .sipush 0, .putfield 133, .aload 0, .sipush 0, .putfield 134, .aload 0, .sipush (-3), .putfield 135, .aload 0, .sipush 0, .putfield 136, .aload 0, .sipush 0, .sipush 0, .sipush 0, .invokeinterface 19 4, .return_])]
/-- P.tryFrom -/
def g_c19 : List (Nat × List Instr) := [(0, [.iload 1, .aload 0, .getfield 131, .if_icmp .lt 15, .aload 0, .iload 2, .iload 3, .invokeinterface 20 3, .return_]),
  (15, [.aload 0, .checkcast 128, .invokeinterface 85 1, .istore 4, .sipush 0, .istore 5, .jsr 27]),
  (27, [.iload 5, .aload 0, .checkcast 128, .getfield 521, .if_icmp .gt 96, .aload 0, .checkcast 129, .iload 1, .iload 5, .iastore, .aload 0, .checkcast 128, .iload 5, .invokeinterface 79 2, .istore 6, .aload 0, .iload 1, .sipush 1, .iadd, .iload 2, .iload 6, .iadd, .iload 5, .ifCond .ne 75, .iload 3, .goto 78]),
  (75, [.iload 3, .sipush 1, .iadd, .jsr 78]),
  (78, [.invokeinterface 19 4, .aload 0, .checkcast 128, .iload 4, .invokeinterface 87 2, .iinc 5 1, .goto 27]),
  (96, [.return_])]
/-- P.weigh -/
def g_c20 : List (Nat × List Instr) := [(0, [.aload 0, .getfield 134, .ifCond .eq 15, .iload 1, .aload 0, .getfield 133, .if_icmp .le 39, .jsr 15]),
  (15, [.aload 0, .iload 1, .putfield 133, .aload 0, .sipush 0, .putfield 134, .aload 0, .checkcast 129, .sipush 0, .aload 0, .checkcast 130, .sipush 0, .sipush 4, .dmul, .jsr 39]),
  (39, [.iload 1, .aload 0, .getfield 133, .if_icmp .ne 57, .aload 0, .dup, .getfield 134, .sipush 1, .iadd, .putfield 134, .jsr 57]),
  (57, [.aload 0, .dup, .getfield 136, .aload 0, .checkcast 128, .getfield 522, .ior, .putfield 136, .aload 0, .checkcast 128, .getfield 522, .aload 0, .getfield 132, .iand, .aload 0, .getfield 132, .if_icmp .ne 96, .sipush 1, .goto 97]),
  (96, [.sipush 0, .jsr 97]),
  (97, [.istore 3, .iload 3, .ifCond .eq 124, .aload 0, .getfield 135, .sipush (-3), .if_icmp .eq 119, .iload 2, .aload 0, .getfield 135, .if_icmp .ge 124, .jsr 119]),
  (119, [.aload 0, .iload 2, .putfield 135, .jsr 124]),
  (124, [.return_])]
/-- P.valueOfGame -/
def g_c21 : List (Nat × List Instr) := [(0, [.iload 1, .ifCond .gt 6, .sipush 0, .ireturn]),
  (6, [.sipush 0, .istore 3, .sipush 0, .istore 4, .jsr 11]),
  (11, [.iload 4, .aload 0, .checkcast 128, .getfield 521, .if_icmp .gt 66, .aload 0, .iload 4, .iload 1, .iload 2, .invokeinterface 22 4, .istore 5, .iload 4, .ifCond .eq 57, .iload 2, .ifCond .eq 51, .iload 5, .iload 3, .if_icmp .le 60, .goto 57]),
  (51, [.iload 5, .iload 3, .if_icmp .ge 60, .jsr 57]),
  (57, [.iload 5, .istore 3, .jsr 60]),
  (60, [.iinc 4 1, .goto 11]),
  (66, [.iload 3, .ireturn])]
/-- P.valueOfAct -/
def g_c22 : List (Nat × List Instr) := [(0, [.aload 0, .checkcast 128, .invokeinterface 85 1, .istore 4, .aload 0, .checkcast 128, .iload 1, .invokeinterface 79 2, .istore 5, .iload 5, .aload 0, .iload 2, .sipush 1, .isub, .iload 3, .ifCond .ne 33, .sipush 1, .goto 34]),
  (33, [.sipush 0, .jsr 34]),
  (34, [.invokeinterface 21 3, .iadd, .istore 6, .aload 0, .checkcast 128, .iload 4, .invokeinterface 87 2, .iload 6, .ireturn])]
/-- P.leastGoodAct -/
def g_c23 : List (Nat × List Instr) := [(0, [.sipush 0, .istore 2, .aload 0, .sipush 0, .iload 1, .sipush 1, .invokeinterface 22 4, .istore 3, .sipush 1, .istore 4, .jsr 13]),
  (13, [.iload 4, .aload 0, .checkcast 128, .getfield 521, .if_icmp .gt 53, .aload 0, .iload 4, .iload 1, .sipush 1, .invokeinterface 22 4, .istore 5, .iload 5, .iload 3, .if_icmp .le 47, .iload 5, .istore 3, .iload 4, .istore 2, .jsr 47]),
  (47, [.iinc 4 1, .goto 13]),
  (53, [.iload 2, .ireturn])]
/-- R.init -/
def g_c24 : List (Nat × List Instr) := [(0, [.aload 0, .pop2, .aload 0, .new 1, .dup, .invokeinterface 8 1, .instanceof 192, .aload 0, .sipush 200, .newarray .int, .instanceof 193, .aload 0, .sipush 0, .putfield 194, .aload 0, .sipush 0, .putfield 195, .aload 0, .sipush 0, .putfield 196, .aload 0, .sipush 0, .putfield 197, .aload 0, .sipush 0, .putfield 198, .aload 0, .sipush 0, .putfield 199, .aload 0, .sipush 0, .putfield 200, .aload 0, .sipush 0, .putfield 201, .aload 0, .sipush 0, .putfield 202, .aload 0, .sipush 0, .putfield 203, .aload 0, .sipush 200, .newarray .int, .instanceof 204, .aload 0, .sipush 0, .putfield 205, .return_])]
/-- R.takeBytes -/
def g_c25 : List (Nat × List Instr) := [(0, [.sipush 0, .istore 4, .jsr 3]),
  (3, [.iload 4, .iload 3, .if_icmp .ge 53, .aload 0, .getfield 194, .sipush 200, .if_icmp .ge 53, .aload 0, .checkcast 193, .aload 0, .dup, .getfield 194, .dup_x1, .sipush 1, .iadd, .putfield 194, .lload 1, .sipush 8, .iload 4, .imul, .lushr, .goto_w 255, .land, .l2i, .iastore, .iinc 4 1, .goto 3]),
  (53, [.aload 0, .getfield 194, .ireturn])]
/-- R.readAll -/
def g_c26 : List (Nat × List Instr) := [(0, [.aload 0, .checkcast 192, .invokeinterface 12 1, .aload 0, .sipush 0, .putfield 195, .aload 0, .sipush 0, .putfield 198, .aload 0, .sipush 0, .putfield 203, .aload 0, .sipush 0, .putfield 205, .aload 0, .invokeinterface 27 1, .istore 1, .sipush 0, .istore 2, .jsr 34]),
  (34, [.iload 2, .sipush 200, .if_icmp .ge 66, .iload 1, .sipush 20, .if_icmp .eq 66, .aload 0, .iload 1, .invokeinterface 33 2, .ifCond .eq 66, .aload 0, .invokeinterface 27 1, .istore 1, .iinc 2 1, .goto 34]),
  (66, [.aload 0, .sipush 0, .putfield 194, .iload 1, .sipush 20, .if_icmp .ne 88, .aload 0, .getfield 198, .ifCond .ne 88, .sipush (-1), .goto 92]),
  (88, [.aload 0, .getfield 196, .jsr 92]),
  (92, [.ireturn])]
/-- R.nextWord -/
def g_c27 : List (Nat × List Instr) := [(0, [.aload 0, .getfield 195, .aload 0, .getfield 194, .if_icmp .ge 38, .aload 0, .checkcast 193, .aload 0, .getfield 195, .iaload, .sipush 32, .if_icmp .ne 38, .aload 0, .dup, .getfield 195, .sipush 1, .iadd, .putfield 195, .goto 0]),
  (38, [.aload 0, .aload 0, .getfield 195, .putfield 196, .aload 0, .getfield 195, .aload 0, .getfield 194, .if_icmp .lt 60, .sipush 20, .ireturn]),
  (60, [.aload 0, .checkcast 193, .aload 0, .getfield 195, .iaload, .istore 1, .iload 1, .invokeinterface 28 1, .ifCond .eq 82, .aload 0, .invokeinterface 29 1, .ireturn]),
  (82, [.iload 1, .invokeinterface 30 1, .ifCond .eq 94, .aload 0, .invokeinterface 31 1, .ireturn]),
  (94, [.aload 0, .dup, .getfield 195, .sipush 1, .iadd, .putfield 195, .iload 1, .invokeinterface 32 1, .ireturn])]
/-- R.isLetter -/
def g_c28 : List (Nat × List Instr) := [(0, [.iload 0, .sipush 97, .if_icmp .lt 16, .iload 0, .sipush 122, .if_icmp .gt 16, .sipush 1, .goto 17]),
  (16, [.sipush 0, .jsr 17]),
  (17, [.areturn])]
/-- R.readName -/
def g_c29 : List (Nat × List Instr) := [(0, [.aload 0, .getfield 195, .aload 0, .getfield 194, .if_icmp .ge 39, .aload 0, .checkcast 193, .aload 0, .getfield 195, .iaload, .invokeinterface 28 1, .ifCond .eq 39, .aload 0, .dup, .getfield 195, .sipush 1, .iadd, .putfield 195, .goto 0]),
  (39, [.sipush 0, .istore 1, .aload 0, .getfield 196, .istore 2, .sipush 0, .istore 3, .jsr 48]),
  (48, [.iload 3, .getstatic 3, .invokeinterface 301 1, .if_icmp .ge 134, .getstatic 3, .iload 3, .invokeinterface 303 2, .istore 4, .iload 4, .sipush 44, .if_icmp .ne 93, .iload 2, .aload 0, .getfield 195, .if_icmp .ne 82, .iload 1, .ireturn]),
  (82, [.iinc 1 1, .aload 0, .getfield 196, .istore 2, .goto 128]),
  (93, [.iload 2, .aload 0, .getfield 196, .if_icmp .lt 126, .iload 2, .aload 0, .getfield 195, .if_icmp .ge 126, .aload 0, .checkcast 193, .iload 2, .iaload, .iload 4, .if_icmp .ne 126, .iinc 2 1, .goto 128]),
  (126, [.sipush (-1), .istore 2, .jsr 128]),
  (128, [.iinc 3 1, .goto 48]),
  (134, [.sipush 19, .ireturn])]
/-- R.isDigit -/
def g_c30 : List (Nat × List Instr) := [(0, [.iload 0, .sipush 48, .if_icmp .lt 16, .iload 0, .sipush 57, .if_icmp .gt 16, .sipush 1, .goto 17]),
  (16, [.sipush 0, .jsr 17]),
  (17, [.areturn])]
/-- R.readNumber -/
def g_c31 : List (Nat × List Instr) := [(0, [.aload 0, .sipush 0, .putfield 197, .jsr 5]),
  (5, [.aload 0, .getfield 195, .aload 0, .getfield 194, .if_icmp .ge 81, .aload 0, .checkcast 193, .aload 0, .getfield 195, .iaload, .invokeinterface 30 1, .ifCond .eq 81, .aload 0, .getfield 195, .aload 0, .getfield 196, .isub, .sipush 4, .if_icmp .ge 68, .aload 0, .sipush 10, .aload 0, .getfield 197, .imul, .aload 0, .checkcast 193, .aload 0, .getfield 195, .iaload, .iadd, .sipush 48, .isub, .putfield 197, .jsr 68]),
  (68, [.aload 0, .dup, .getfield 195, .sipush 1, .iadd, .putfield 195, .goto 5]),
  (81, [.aload 0, .getfield 195, .aload 0, .getfield 196, .isub, .sipush 4, .if_icmp .le 99, .sipush 19, .goto 101]),
  (99, [.sipush 18, .jsr 101]),
  (101, [.ireturn])]
/-- R.signWord -/
def g_c32 : List (Nat × List Instr) := [(0, [.iload 0, .lookupswitch 78 #[(40, 69), (41, 72), (59, 75), (60, 60), (61, 63), (62, 66)]]),
  (60, [.sipush 21, .ireturn]),
  (63, [.sipush 22, .ireturn]),
  (66, [.sipush 23, .ireturn]),
  (69, [.sipush 24, .ireturn]),
  (72, [.sipush 25, .ireturn]),
  (75, [.sipush 26, .ireturn]),
  (78, [.sipush 19, .ireturn])]
/-- R.mayStand -/
def g_c33 : List (Nat × List Instr) := [(0, [.aload 0, .getfield 198, .lookupswitch 80 #[(0, 44), (1, 50), (2, 56), (3, 62), (4, 68), (5, 74)]]),
  (44, [.aload 0, .iload 1, .invokeinterface 34 2, .areturn]),
  (50, [.aload 0, .iload 1, .invokeinterface 35 2, .areturn]),
  (56, [.aload 0, .iload 1, .invokeinterface 37 2, .areturn]),
  (62, [.aload 0, .iload 1, .invokeinterface 41 2, .areturn]),
  (68, [.aload 0, .iload 1, .invokeinterface 42 2, .areturn]),
  (74, [.aload 0, .iload 1, .invokeinterface 44 2, .areturn]),
  (80, [.aload 0, .iload 1, .invokeinterface 47 2, .areturn])]
/-- R.takeKind -/
def g_c34 : List (Nat × List Instr) := [(0, [.iload 1, .sipush 5, .if_icmp .gt 17, .aload 0, .checkcast 192, .getfield 69, .sipush 8, .if_icmp .lt 19, .jsr 17]),
  (17, [.sipush 0, .areturn]),
  (19, [.aload 0, .iload 1, .putfield 199, .aload 0, .sipush 1, .putfield 198, .sipush 1, .areturn])]
/-- R.takeTail -/
def g_c35 : List (Nat × List Instr) := [(0, [.iload 1, .sipush 9, .if_icmp .eq 12, .aload 0, .iload 1, .invokeinterface 36 2, .areturn]),
  (12, [.aload 0, .sipush 2, .putfield 198, .sipush 1, .areturn])]
/-- R.takeWill -/
def g_c36 : List (Nat × List Instr) := [(0, [.iload 1, .sipush 6, .sipush 8, .invokeinterface 109 3, .ifCond .eq 13, .sipush 0, .areturn]),
  (13, [.aload 0, .iload 1, .sipush 6, .isub, .putfield 200, .aload 0, .sipush 6, .putfield 198, .sipush 1, .areturn])]
/-- R.takeOne -/
def g_c37 : List (Nat × List Instr) := [(0, [.iload 1, .sipush 12, .if_icmp .ne 13, .aload 0, .sipush 12, .invokeinterface 38 2, .areturn]),
  (13, [.iload 1, .sipush 24, .if_icmp .ne 52, .aload 0, .dup, .getfield 203, .sipush 1, .iadd, .putfield 203, .aload 0, .getfield 203, .sipush 3, .if_icmp .gt 50, .aload 0, .sipush 24, .invokeinterface 38 2, .ifCond .eq 50, .sipush 1, .goto 51]),
  (50, [.sipush 0, .jsr 51]),
  (51, [.areturn]),
  (52, [.iload 1, .invokeinterface 39 1, .ifCond .ne 61, .sipush 0, .areturn]),
  (61, [.aload 0, .aload 0, .iload 1, .invokeinterface 40 2, .putfield 201, .aload 0, .sipush 3, .putfield 198, .sipush 1, .areturn])]
/-- R.waitWith -/
def g_c38 : List (Nat × List Instr) := [(0, [.aload 0, .getfield 205, .sipush 200, .if_icmp .lt 12, .sipush 0, .areturn]),
  (12, [.aload 0, .checkcast 204, .aload 0, .dup, .getfield 205, .dup_x1, .sipush 1, .iadd, .putfield 205, .iload 1, .iastore, .sipush 1, .areturn])]
/-- R.isValue -/
def g_c39 : List (Nat × List Instr) := [(0, [.iload 0, .sipush 18, .if_icmp .eq 17, .iload 0, .sipush 13, .sipush 17, .invokeinterface 109 3, .ifCond .ne 21, .jsr 17]),
  (17, [.sipush 1, .goto 22]),
  (21, [.sipush 0, .jsr 22]),
  (22, [.areturn])]
/-- R.valueOf -/
def g_c40 : List (Nat × List Instr) := [(0, [.iload 1, .sipush 18, .if_icmp .ne 13, .aload 0, .getfield 197, .goto 21]),
  (13, [.sipush 10000, .iload 1, .iadd, .sipush 13, .isub, .jsr 21]),
  (21, [.ireturn])]
/-- R.takeSign -/
def g_c41 : List (Nat × List Instr) := [(0, [.iload 1, .sipush 21, .sipush 23, .invokeinterface 109 3, .ifCond .eq 13, .sipush 0, .areturn]),
  (13, [.aload 0, .iload 1, .sipush 21, .isub, .putfield 202, .aload 0, .sipush 4, .putfield 198, .sipush 1, .areturn])]
/-- R.takeRight -/
def g_c42 : List (Nat × List Instr) := [(0, [.iload 1, .invokeinterface 39 1, .ifCond .ne 9, .sipush 0, .areturn]),
  (9, [.aload 0, .checkcast 192, .aload 0, .getfield 201, .aload 0, .getfield 202, .aload 0, .iload 1, .invokeinterface 40 2, .invokeinterface 13 3, .invokeinterface 14 2, .aload 0, .invokeinterface 43 1, .sipush 1, .areturn])]
/-- R.endOne -/
def g_c43 : List (Nat × List Instr) := [(0, [.aload 0, .getfield 205, .ifCond .le 44, .aload 0, .checkcast 204, .aload 0, .getfield 205, .sipush 1, .isub, .iaload, .sipush 12, .if_icmp .ne 44, .aload 0, .checkcast 192, .sipush (-1), .invokeinterface 14 2, .aload 0, .dup, .getfield 205, .sipush 1, .isub, .putfield 205, .goto 0]),
  (44, [.aload 0, .sipush 5, .putfield 198, .return_])]
/-- R.takeJoint -/
def g_c44 : List (Nat × List Instr) := [(0, [.iload 1, .sipush 25, .if_icmp .ne 11, .aload 0, .invokeinterface 45 1, .areturn]),
  (11, [.iload 1, .sipush 10, .if_icmp .eq 23, .iload 1, .sipush 11, .if_icmp .ne 39, .jsr 23]),
  (23, [.aload 0, .iload 1, .invokeinterface 46 2, .aload 0, .sipush 2, .putfield 198, .aload 0, .iload 1, .invokeinterface 38 2, .areturn]),
  (39, [.aload 0, .getfield 203, .ifCond .le 48, .sipush 0, .areturn]),
  (48, [.aload 0, .sipush 11, .invokeinterface 46 2, .aload 0, .iload 1, .invokeinterface 36 2, .areturn])]
/-- R.takeClose -/
def g_c45 : List (Nat × List Instr) := [(0, [.aload 0, .getfield 203, .ifCond .ne 9, .sipush 0, .areturn]),
  (9, [.aload 0, .dup, .getfield 203, .sipush 1, .isub, .putfield 203, .aload 0, .sipush 11, .invokeinterface 46 2, .aload 0, .getfield 205, .ifCond .le 42, .aload 0, .dup, .getfield 205, .sipush 1, .isub, .putfield 205, .jsr 42]),
  (42, [.aload 0, .invokeinterface 43 1, .sipush 1, .areturn])]
/-- R.appendJoints -/
def g_c46 : List (Nat × List Instr) := [(0, [.aload 0, .getfield 205, .ifCond .le 81, .aload 0, .checkcast 204, .aload 0, .getfield 205, .sipush 1, .isub, .iaload, .sipush 10, .if_icmp .eq 38, .aload 0, .checkcast 204, .aload 0, .getfield 205, .sipush 1, .isub, .iaload, .iload 1, .if_icmp .ne 81, .jsr 38]),
  (38, [.aload 0, .checkcast 192, .aload 0, .checkcast 204, .aload 0, .getfield 205, .sipush 1, .isub, .iaload, .sipush 10, .if_icmp .ne 63, .sipush (-2), .goto 65]),
  (63, [.sipush (-3), .jsr 65]),
  (65, [.invokeinterface 14 2, .aload 0, .dup, .getfield 205, .sipush 1, .isub, .putfield 205, .goto 0]),
  (81, [.return_])]
/-- R.takeSemicolon -/
def g_c47 : List (Nat × List Instr) := [(0, [.iload 1, .sipush 26, .if_icmp .eq 8, .sipush 0, .areturn]),
  (8, [.aload 0, .checkcast 192, .aload 0, .getfield 199, .aload 0, .getfield 200, .invokeinterface 15 3, .aload 0, .sipush 0, .putfield 198, .sipush 1, .areturn])]
/-- Rp.init -/
def g_c48 : List (Nat × List Instr) := [(0, [.aload 0, .pop2, .aload 0, .sipush 6, .newarray .int, .instanceof 256, .aload 0, .sipush 6, .newarray .int, .instanceof 257, .aload 0, .sipush 6, .newarray .int, .instanceof 258, .aload 0, .sipush 6, .newarray .int, .instanceof 259, .aload 0, .sipush 0, .putfield 260, .return_])]
/-- Rp.add -/
def g_c49 : List (Nat × List Instr) := [(0, [.aload 0, .getfield 260, .sipush 6, .if_icmp .lt 12, .sipush (-2), .ireturn]),
  (12, [.aload 0, .checkcast 256, .aload 0, .getfield 260, .iload 1, .iastore, .aload 0, .checkcast 257, .aload 0, .getfield 260, .iload 2, .iastore, .aload 0, .checkcast 258, .aload 0, .getfield 260, .iload 3, .iastore, .aload 0, .checkcast 259, .aload 0, .getfield 260, .iload 4, .iastore, .aload 0, .dup, .getfield 260, .dup_x1, .sipush 1, .iadd, .putfield 260, .ireturn])]
/-- Rp.latest -/
def g_c50 : List (Nat × List Instr) := [(0, [.sipush 0, .istore 1, .sipush 0, .istore 2, .jsr 4]),
  (4, [.iload 2, .aload 0, .getfield 260, .if_icmp .ge 29, .iload 1, .aload 0, .checkcast 256, .iload 2, .iaload, .dadd, .istore 1, .iinc 2 1, .goto 4]),
  (29, [.iload 1, .ireturn])]
/-- Rp.wrongBehind -/
def g_c51 : List (Nat × List Instr) := [(0, [.sipush 0, .istore 4, .sipush 0, .istore 5, .jsr 6]),
  (6, [.iload 5, .aload 0, .getfield 260, .if_icmp .ge 76, .aload 0, .checkcast 256, .iload 5, .iaload, .iload 1, .if_icmp .ne 70, .aload 0, .checkcast 257, .iload 5, .iaload, .ifCond .ne 40, .iload 2, .goto 41]),
  (40, [.iload 3, .jsr 41]),
  (41, [.aload 0, .checkcast 258, .iload 5, .iaload, .aload 0, .checkcast 259, .iload 5, .iaload, .invokeinterface 109 3, .ifCond .eq 70, .iload 4, .sipush 1, .iload 5, .ishl, .ior, .istore 4, .jsr 70]),
  (70, [.iinc 5 1, .goto 6]),
  (76, [.iload 4, .ireturn])]
/-- Rp.copyFrom -/
def g_c52 : List (Nat × List Instr) := [(0, [.aload 1, .checkcast 256, .sipush 0, .aload 0, .checkcast 256, .sipush 0, .sipush 6, .dmul, .aload 1, .checkcast 257, .sipush 0, .aload 0, .checkcast 257, .sipush 0, .sipush 6, .dmul, .aload 1, .checkcast 258, .sipush 0, .aload 0, .checkcast 258, .sipush 0, .sipush 6, .dmul, .aload 1, .checkcast 259, .sipush 0, .aload 0, .checkcast 259, .sipush 0, .sipush 6, .dmul, .aload 0, .aload 1, .getfield 260, .putfield 260, .return_])]
/-- Rw.init -/
def g_c53 : List (Nat × List Instr) := [(0, [.aload 0, .pop2, .aload 0, .sipush 12, .newarray .int, .instanceof 321, .aload 0, .sipush 0, .putfield 322, .aload 0, .aload 1, .instanceof 320, .return_])]
/-- Rw.fill -/
def g_c54 : List (Nat × List Instr) := [(0, [.aload 0, .checkcast 320, .invokeinterface 85 1, .istore 3, .aload 0, .iload 2, .sipush 4, .dsub, .putfield 322, .sipush 0, .istore 4, .jsr 20]),
  (20, [.iload 4, .aload 0, .getfield 322, .if_icmp .ge 88, .aload 0, .checkcast 321, .sipush 3, .iload 4, .imul, .aload 1, .iload 4, .iaload, .iastore, .aload 0, .checkcast 321, .sipush 3, .iload 4, .imul, .sipush 1, .iadd, .aload 0, .checkcast 320, .aload 1, .iload 4, .iaload, .invokeinterface 79 2, .iastore, .aload 0, .checkcast 321, .sipush 3, .iload 4, .imul, .sipush 2, .iadd, .aload 0, .checkcast 320, .getfield 522, .iastore, .iinc 4 1, .goto 20]),
  (88, [.aload 0, .checkcast 320, .iload 3, .invokeinterface 87 2, .aload 0, .getfield 322, .ireturn])]
/-- Rw.has -/
def g_c55 : List (Nat × List Instr) := [(0, [.iload 1, .ifCond .lt 25, .iload 1, .aload 0, .getfield 322, .if_icmp .ge 25, .iload 2, .ifCond .lt 25, .iload 2, .sipush 3, .if_icmp .ge 25, .sipush 1, .goto 26]),
  (25, [.sipush 0, .jsr 26]),
  (26, [.areturn])]
/-- Rw.firstWrong -/
def g_c56 : List (Nat × List Instr) := [(0, [.aload 0, .checkcast 320, .invokeinterface 85 1, .istore 1, .sipush 0, .istore 2, .sipush 0, .istore 3, .jsr 12]),
  (12, [.iload 3, .aload 0, .getfield 322, .if_icmp .ge 42, .iload 2, .ifCond .ne 42, .aload 0, .iload 3, .invokeinterface 57 2, .ifCond .ne 36, .iload 3, .sipush 1, .iadd, .istore 2, .jsr 36]),
  (36, [.iinc 3 1, .goto 12]),
  (42, [.aload 0, .checkcast 320, .iload 1, .invokeinterface 87 2, .iload 2, .ireturn])]
/-- Rw.isRight -/
def g_c57 : List (Nat × List Instr) := [(0, [.aload 0, .checkcast 321, .sipush 3, .iload 1, .imul, .iaload, .istore 2, .aload 0, .checkcast 320, .iload 2, .invokeinterface 105 2, .ifCond .eq 30, .aload 0, .checkcast 320, .invokeinterface 76 1, .ifCond .eq 32, .jsr 30]),
  (30, [.sipush 0, .areturn]),
  (32, [.aload 0, .checkcast 320, .iload 2, .invokeinterface 79 2, .istore 3, .aload 0, .checkcast 321, .sipush 3, .iload 1, .imul, .sipush 1, .iadd, .iaload, .iload 3, .if_icmp .ne 79, .aload 0, .checkcast 321, .sipush 3, .iload 1, .imul, .sipush 2, .iadd, .iaload, .aload 0, .checkcast 320, .getfield 522, .if_icmp .ne 79, .sipush 1, .goto 80]),
  (79, [.sipush 0, .jsr 80]),
  (80, [.areturn])]
/-- Sh.init -/
def g_c58 : List (Nat × List Instr) := [(0, [.aload 0, .pop2, .aload 0, .sipush 40, .newarray .long, .instanceof 384, .aload 0, .sipush (-1), .putfield 385, .aload 0, .sipush 0, .putfield 386, .return_])]
/-- Sh.become -/
def g_c59 : List (Nat × List Instr) := [(0, [.sipush 0, .istore 3, .jsr 2]),
  (2, [.iload 3, .sipush 40, .if_icmp .ge 21, .aload 0, .checkcast 384, .iload 3, .goto_w 0, .lastore, .iinc 3 1, .goto 2]),
  (21, [.aload 0, .iload 1, .putfield 385, .aload 0, .iload 2, .putfield 386, .return_])]
/-- Sh.hasItem -/
def g_c60 : List (Nat × List Instr) := [(0, [.iload 1, .ifCond .lt 22, .iload 1, .aload 0, .getfield 386, .if_icmp .ge 22, .iload 1, .sipush 40, .if_icmp .ge 22, .sipush 1, .goto 23]),
  (22, [.sipush 0, .jsr 23]),
  (23, [.areturn])]
/-- Sh.putItem -/
def g_c61 : List (Nat × List Instr) := [(0, [.aload 0, .iload 1, .invokeinterface 60 2, .ifCond .eq 19, .aload 0, .checkcast 384, .iload 1, .aload 0, .iload 2, .invokeinterface 62 2, .lastore, .jsr 19]),
  (19, [.return_])]
/-- Sh.narrowed -/
def g_c62 : List (Nat × List Instr) := [(0, [.aload 0, .getfield 385, .lookupswitch 58 #[(0, 40), (1, 44), (2, 58), (3, 58), (4, 48)]]),
  (40, [.iload 1, .i2b, .i2l, .lreturn]),
  (44, [.iload 1, .i2s, .i2l, .lreturn]),
  (48, [.iload 1, .ifCond .eq 56, .goto_w 1, .goto 57]),
  (56, [.goto_w 0, .jsr 57]),
  (57, [.lreturn]),
  (58, [.iload 1, .i2l, .lreturn])]
/-- Sh.refusalAs -/
def g_c63 : List (Nat × List Instr) := [(0, [.aload 0, .getfield 385, .sipush (-1), .if_icmp .ne 11, .sipush (-11), .ireturn]),
  (11, [.aload 0, .getfield 385, .iload 1, .if_icmp .ne 23, .sipush 0, .goto 25]),
  (23, [.sipush (-13), .jsr 25]),
  (25, [.ireturn])]
/-- Sf.init -/
def g_c64 : List (Nat × List Instr) := [(0, [.aload 0, .pop2, .aload 0, .sipush 2, .putfield 448, .aload 0, .sipush 0, .putfield 449, .aload 0, .sipush (-1), .putfield 450, .aload 0, .sipush 0, .putfield 451, .return_])]
/-- Sf.holdRow -/
def g_c65 : List (Nat × List Instr) := [(0, [.aload 0, .iload 1, .sipush (-1), .if_icmp .ne 10, .sipush 2, .goto 11]),
  (10, [.sipush 1, .jsr 11]),
  (11, [.putfield 448, .aload 0, .iload 1, .putfield 450, .aload 0, .iload 2, .putfield 451, .return_])]
/-- Sf.hold -/
def g_c66 : List (Nat × List Instr) := [(0, [.aload 0, .iload 1, .putfield 448, .aload 0, .iload 2, .putfield 449, .return_])]
/-- T.init -/
def g_c67 : List (Nat × List Instr) := [(0, [.aload 0, .pop2, .aload 0, .sipush 6, .newarray .int, .instanceof 512, .aload 0, .sipush 6, .newarray .int, .instanceof 513, .aload 0, .sipush 6, .newarray .int, .instanceof 514, .aload 0, .sipush 6, .newarray .int, .instanceof 515, .aload 0, .sipush 6, .newarray .int, .instanceof 516, .aload 0, .sipush 6, .newarray .int, .instanceof 517, .aload 0, .sipush 16, .newarray .int, .instanceof 518, .aload 0, .new 1, .dup, .invokeinterface 8 1, .instanceof 519, .aload 0, .new 4, .dup, .invokeinterface 48 1, .instanceof 520, .aload 0, .sipush 0, .putfield 521, .aload 0, .sipush 0, .putfield 522, .aload 0, .sipush 0, .putfield 523, .aload 0, .sipush 12, .putfield 524, .aload 0, .sipush 0, .putfield 525, .aload 0, .sipush 5, .putfield 526, .aload 0, .sipush 0, .putfield 527, .aload 0, .sipush 1, .putfield 528, .sipush 0, .istore 1, .jsr 125]),
  (125, [.iload 1, .sipush 6, .if_icmp .ge 144, .aload 0, .checkcast 517, .iload 1, .sipush 3, .iastore, .iinc 1 1, .goto 125]),
  (144, [.sipush 0, .istore 1, .jsr 146]),
  (146, [.iload 1, .sipush 16, .if_icmp .ge 165, .aload 0, .checkcast 518, .iload 1, .sipush 4, .iastore, .iinc 1 1, .goto 146]),
  (165, [.return_])]
/-- T.addPiece -/
def g_c68 : List (Nat × List Instr) := [(0, [.aload 0, .getfield 521, .sipush 6, .if_icmp .lt 12, .sipush (-2), .ireturn]),
  (12, [.aload 0, .checkcast 512, .aload 0, .getfield 521, .iload 1, .iastore, .aload 0, .checkcast 513, .aload 0, .getfield 521, .iload 2, .iastore, .aload 0, .checkcast 514, .aload 0, .getfield 521, .iload 3, .iastore, .aload 0, .checkcast 515, .aload 0, .getfield 521, .iload 4, .iastore, .aload 0, .dup, .getfield 521, .dup_x1, .sipush 1, .iadd, .putfield 521, .ireturn])]
/-- T.hasPiece -/
def g_c69 : List (Nat × List Instr) := [(0, [.iload 1, .ifCond .lt 16, .iload 1, .aload 0, .getfield 521, .if_icmp .ge 16, .sipush 1, .goto 17]),
  (16, [.sipush 0, .jsr 17]),
  (17, [.areturn])]
/-- T.isSeated -/
def g_c70 : List (Nat × List Instr) := [(0, [.aload 0, .getfield 522, .iload 1, .ishr, .sipush 1, .iand, .sipush 1, .if_icmp .ne 16, .sipush 1, .goto 17]),
  (16, [.sipush 0, .jsr 17]),
  (17, [.areturn])]
/-- T.grudgeOf -/
def g_c71 : List (Nat × List Instr) := [(0, [.aload 0, .checkcast 516, .aload 0, .checkcast 515, .iload 1, .iaload, .iaload, .istore 2, .aload 0, .checkcast 512, .iload 1, .iaload, .lookupswitch 80 #[(1, 52), (2, 56), (3, 60), (4, 70), (5, 74)]]),
  (52, [.iload 2, .sipush 2, .iadd, .ireturn]),
  (56, [.iload 2, .iload 1, .iadd, .ireturn]),
  (60, [.sipush 0, .iload 2, .iload 1, .iadd, .sipush 3, .isub, .dadd, .ireturn]),
  (70, [.iload 2, .sipush 2, .idiv, .ireturn]),
  (74, [.iload 2, .sipush 2, .idiv, .sipush 2, .imul, .ireturn]),
  (80, [.iload 2, .ireturn])]
/-- T.wouldSit -/
def g_c72 : List (Nat × List Instr) := [(0, [.aload 0, .iload 1, .invokeinterface 70 2, .ifCond .ne 36, .aload 0, .iload 1, .invokeinterface 71 2, .aload 0, .getfield 526, .aload 0, .checkcast 517, .aload 0, .checkcast 515, .iload 1, .iaload, .iaload, .iadd, .if_icmp .gt 36, .sipush 1, .goto 37]),
  (36, [.sipush 0, .jsr 37]),
  (37, [.areturn])]
/-- T.willOf -/
def g_c73 : List (Nat × List Instr) := [(0, [.aload 0, .checkcast 519, .checkcast 68, .sipush 0, .aload 0, .getfield 523, .iastore, .aload 0, .checkcast 519, .checkcast 68, .sipush 1, .aload 0, .checkcast 514, .iload 1, .iaload, .iastore, .aload 0, .checkcast 519, .checkcast 68, .sipush 2, .aload 0, .iload 1, .invokeinterface 71 2, .iastore, .aload 0, .checkcast 519, .checkcast 68, .sipush 3, .aload 0, .getfield 526, .iastore, .aload 0, .checkcast 519, .checkcast 68, .sipush 4, .iload 1, .iastore, .aload 0, .checkcast 519, .aload 0, .checkcast 512, .iload 1, .iaload, .invokeinterface 9 2, .ireturn])]
/-- T.putSeated -/
def g_c74 : List (Nat × List Instr) := [(0, [.aload 0, .getfield 522, .iload 1, .ishr, .sipush 1, .iand, .istore 3, .aload 0, .iload 2, .ifCond .eq 25, .aload 0, .getfield 522, .sipush 1, .iload 1, .ishl, .ior, .goto 35]),
  (25, [.aload 0, .getfield 522, .sipush 1, .iload 1, .ishl, .sipush (-1), .ixor, .iand, .jsr 35]),
  (35, [.putfield 522, .iload 3, .ireturn])]
/-- T.beginAnew -/
def g_c75 : List (Nat × List Instr) := [(0, [.aload 0, .sipush 0, .putfield 523, .aload 0, .sipush 0, .putfield 525, .aload 0, .sipush 5, .putfield 526, .aload 0, .sipush 0, .putfield 527, .aload 0, .sipush 0, .putfield 522, .return_])]
/-- T.isOver -/
def g_c76 : List (Nat × List Instr) := [(0, [.aload 0, .getfield 523, .aload 0, .getfield 524, .if_icmp .lt 15, .sipush 1, .goto 16]),
  (15, [.sipush 0, .jsr 16]),
  (16, [.areturn])]
/-- T.newsIn -/
def g_c77 : List (Nat × List Instr) := [(0, [.iload 1, .sipush 0, .sipush 15, .invokeinterface 109 3, .ifCond .eq 14, .sipush 0, .goto 20]),
  (14, [.aload 0, .checkcast 518, .iload 1, .iaload, .jsr 20]),
  (20, [.ireturn])]
/-- T.passAndScore -/
def g_c78 : List (Nat × List Instr) := [(0, [.aload 0, .iload 1, .invokeinterface 79 2, .istore 2, .aload 0, .dup, .getfield 525, .iload 2, .iadd, .putfield 525, .iload 2, .ireturn])]
/-- T.passYear -/
def g_c79 : List (Nat × List Instr) := [(0, [.aload 0, .aload 0, .aload 0, .getfield 523, .invokeinterface 77 2, .aload 0, .getfield 526, .invokeinterface 126 2, .putfield 526, .iload 1, .sipush (-1), .if_icmp .ne 31, .aload 0, .invokeinterface 80 1, .goto 34]),
  (31, [.iload 1, .sipush 1, .isub, .jsr 34]),
  (34, [.istore 2, .aload 0, .iload 2, .invokeinterface 69 2, .ifCond .eq 51, .aload 0, .iload 2, .invokeinterface 73 2, .goto 52]),
  (51, [.sipush 1, .jsr 52]),
  (52, [.istore 3, .sipush 0, .istore 4, .iload 3, .ifCond .ne 70, .aload 0, .iload 2, .invokeinterface 81 2, .istore 4, .goto 80]),
  (70, [.iload 3, .sipush 2, .if_icmp .ne 80, .aload 0, .iload 2, .invokeinterface 82 2, .jsr 80]),
  (80, [.aload 0, .aload 0, .getfield 522, .invokeinterface 83 2, .aload 0, .getfield 527, .aload 0, .getfield 526, .invokeinterface 128 3, .istore 5, .aload 0, .dup, .getfield 527, .iload 5, .iadd, .putfield 527, .aload 0, .dup, .getfield 523, .sipush 1, .iadd, .putfield 523, .iload 4, .sipush 2, .iload 5, .imul, .iadd, .ireturn])]
/-- T.leastWilling -/
def g_c80 : List (Nat × List Instr) := [(0, [.sipush 0, .istore 1, .jsr 2]),
  (2, [.iload 1, .aload 0, .getfield 521, .if_icmp .ge 26, .aload 0, .iload 1, .invokeinterface 72 2, .ifCond .eq 20, .iload 1, .ireturn]),
  (20, [.iinc 1 1, .goto 2]),
  (26, [.sipush (-3), .ireturn])]
/-- T.sitDown -/
def g_c81 : List (Nat × List Instr) := [(0, [.aload 0, .iload 1, .invokeinterface 70 2, .ifCond .eq 10, .sipush 0, .ireturn]),
  (10, [.aload 0, .iload 1, .invokeinterface 72 2, .ifCond .ne 34, .aload 0, .sipush 0, .aload 0, .getfield 526, .sipush 1, .isub, .dadd, .putfield 526, .sipush 0, .ireturn]),
  (34, [.aload 0, .sipush 0, .aload 0, .getfield 526, .aload 0, .iload 1, .invokeinterface 71 2, .sipush 3, .idiv, .isub, .dadd, .putfield 526, .aload 0, .iload 1, .sipush 1, .invokeinterface 74 3, .pop, .sipush 1, .ireturn])]
/-- T.getUp -/
def g_c82 : List (Nat × List Instr) := [(0, [.aload 0, .iload 1, .invokeinterface 70 2, .ifCond .ne 9, .return_]),
  (9, [.aload 0, .iload 1, .sipush 0, .invokeinterface 74 3, .pop, .aload 0, .sipush 9, .aload 0, .getfield 526, .sipush 1, .iadd, .dsub, .putfield 526, .return_])]
/-- T.placesSpanned -/
def g_c83 : List (Nat × List Instr) := [(0, [.goto_w 0, .lstore 2, .sipush 0, .istore 4, .jsr 5]),
  (5, [.iload 4, .aload 0, .getfield 521, .if_icmp .ge 64, .iload 1, .iload 4, .ishr, .sipush 1, .iand, .sipush 1, .if_icmp .ne 58, .lload 2, .aload 0, .checkcast 513, .iload 4, .iaload, .aload 0, .checkcast 512, .iload 4, .iaload, .aload 0, .checkcast 514, .iload 4, .iaload, .aload 0, .getfield 523, .invokeinterface 111 3, .invokeinterface 127 2, .lor, .lstore 2, .jsr 58]),
  (58, [.iinc 4 1, .goto 5]),
  (64, [.lload 2, .lreturn])]
/-- T.restWorth -/
def g_c84 : List (Nat × List Instr) := [(0, [.aload 0, .invokeinterface 85 1, .istore 2, .aload 0, .iload 1, .invokeinterface 86 2, .istore 3, .sipush 0, .istore 4, .sipush 0, .istore 5, .jsr 17]),
  (17, [.iload 5, .iload 3, .if_icmp .ge 39, .iload 4, .aload 0, .sipush (-1), .invokeinterface 79 2, .iadd, .istore 4, .iinc 5 1, .goto 17]),
  (39, [.aload 0, .iload 2, .invokeinterface 87 2, .iload 4, .ireturn])]
/-- T.moment -/
def g_c85 : List (Nat × List Instr) := [(0, [.aload 0, .getfield 523, .aload 0, .getfield 526, .sipush 5, .ishl, .ior, .aload 0, .getfield 527, .sipush 9, .ishl, .ior, .aload 0, .getfield 522, .sipush 15, .ishl, .ior, .ireturn])]
/-- T.yearsYet -/
def g_c86 : List (Nat × List Instr) := [(0, [.sipush 0, .iload 1, .aload 0, .getfield 524, .aload 0, .getfield 523, .isub, .dsub, .dadd, .ireturn])]
/-- T.backTo -/
def g_c87 : List (Nat × List Instr) := [(0, [.aload 0, .iload 1, .sipush 31, .iand, .putfield 523, .aload 0, .iload 1, .sipush 5, .ishr, .sipush 15, .iand, .putfield 526, .aload 0, .iload 1, .sipush 9, .ishr, .sipush 63, .iand, .putfield 527, .aload 0, .iload 1, .sipush 15, .ishr, .sipush 63, .iand, .putfield 522, .return_])]
/-- T.restUntil -/
def g_c88 : List (Nat × List Instr) := [(0, [.aload 0, .invokeinterface 85 1, .istore 3, .aload 0, .sipush 16, .invokeinterface 86 2, .istore 4, .sipush (-3), .istore 5, .sipush 0, .istore 6, .jsr 20]),
  (20, [.iload 6, .iload 4, .if_icmp .ge 72, .iload 5, .sipush (-3), .if_icmp .ne 72, .aload 0, .sipush (-1), .invokeinterface 79 2, .pop, .aload 0, .getfield 522, .iload 1, .iand, .iload 1, .if_icmp .ne 66, .aload 0, .getfield 527, .iload 2, .if_icmp .lt 66, .aload 0, .getfield 523, .sipush 1, .isub, .istore 5, .jsr 66]),
  (66, [.iinc 6 1, .goto 20]),
  (72, [.aload 0, .iload 3, .invokeinterface 87 2, .iload 5, .ireturn])]
/-- T.bestValue -/
def g_c89 : List (Nat × List Instr) := [(0, [.aload 1, .iload 2, .iaload, .istore 4, .sipush 0, .istore 5, .sipush (-1), .istore 6, .sipush 0, .istore 7, .jsr 14]),
  (14, [.iload 7, .iload 3, .if_icmp .gt 54, .aload 1, .iload 2, .iload 7, .iastore, .aload 0, .sipush 16, .invokeinterface 84 2, .istore 8, .iload 8, .iload 6, .if_icmp .le 48, .iload 8, .istore 6, .iload 7, .istore 5, .jsr 48]),
  (48, [.iinc 7 1, .goto 14]),
  (54, [.aload 1, .iload 2, .iload 4, .iastore, .iload 5, .ireturn])]
/-- T.firstUnspanned -/
def g_c90 : List (Nat × List Instr) := [(0, [.aload 0, .aload 0, .invokeinterface 91 1, .invokeinterface 83 2, .lstore 1, .aload 0, .getfield 527, .istore 3, .jsr 14]),
  (14, [.iload 3, .sipush 39, .if_icmp .gt 38, .lload 1, .iload 3, .lushr, .goto_w 1, .land, .goto_w 0, .lcmp, .ifCond .ne 32, .iload 3, .ireturn]),
  (32, [.iinc 3 1, .goto 14]),
  (38, [.sipush (-3), .ireturn])]
/-- T.allPieces -/
def g_c91 : List (Nat × List Instr) := [(0, [.sipush 1, .aload 0, .getfield 521, .ishl, .sipush 1, .isub, .ireturn])]
/-- T.countNotThere -/
def g_c92 : List (Nat × List Instr) := [(0, [.aload 0, .aload 0, .getfield 522, .invokeinterface 83 2, .lstore 1, .sipush 0, .istore 3, .sipush 0, .istore 4, .jsr 14]),
  (14, [.iload 4, .sipush 39, .if_icmp .gt 41, .lload 1, .iload 4, .lushr, .goto_w 1, .land, .goto_w 0, .lcmp, .ifCond .ne 35, .iinc 3 1, .jsr 35]),
  (35, [.iinc 4 1, .goto 14]),
  (41, [.iload 3, .ireturn])]
/-- T.countBranches -/
def g_c93 : List (Nat × List Instr) := [(0, [.sipush 0, .istore 1, .sipush 0, .istore 2, .jsr 4]),
  (4, [.iload 2, .aload 0, .getfield 521, .if_icmp .ge 33, .aload 0, .iload 2, .invokeinterface 94 2, .invokeinterface 136 1, .iload 2, .if_icmp .ne 27, .iinc 1 1, .jsr 27]),
  (27, [.iinc 2 1, .goto 4]),
  (33, [.iload 1, .ireturn])]
/-- T.branchOf -/
def g_c94 : List (Nat × List Instr) := [(0, [.aload 0, .iload 1, .invokeinterface 70 2, .ifCond .eq 10, .sipush 0, .ireturn]),
  (10, [.sipush 1, .iload 1, .ishl, .istore 2, .sipush 0, .istore 3, .jsr 16]),
  (16, [.iload 3, .sipush 6, .if_icmp .ge 36, .iload 2, .aload 0, .iload 2, .invokeinterface 95 2, .ior, .istore 2, .iinc 3 1, .goto 16]),
  (36, [.iload 2, .ireturn])]
/-- T.closeTo -/
def g_c95 : List (Nat × List Instr) := [(0, [.sipush 0, .istore 2, .sipush 0, .istore 3, .jsr 4]),
  (4, [.iload 3, .aload 0, .getfield 521, .if_icmp .ge 62, .sipush 0, .istore 4, .jsr 15]),
  (15, [.iload 4, .aload 0, .getfield 521, .if_icmp .ge 56, .iload 1, .iload 4, .ishr, .sipush 1, .iand, .sipush 1, .if_icmp .ne 50, .aload 0, .iload 4, .iload 3, .invokeinterface 96 3, .ifCond .eq 50, .iload 2, .sipush 1, .iload 3, .ishl, .ior, .istore 2, .jsr 50]),
  (50, [.iinc 4 1, .goto 15]),
  (56, [.iinc 3 1, .goto 4]),
  (62, [.iload 2, .ireturn])]
/-- T.areClose -/
def g_c96 : List (Nat × List Instr) := [(0, [.aload 0, .iload 1, .invokeinterface 70 2, .ifCond .ne 16, .aload 0, .iload 2, .invokeinterface 70 2, .ifCond .eq 18, .jsr 16]),
  (16, [.sipush 0, .areturn]),
  (18, [.aload 0, .checkcast 515, .iload 1, .iaload, .aload 0, .checkcast 515, .iload 2, .iaload, .if_icmp .eq 53, .aload 0, .checkcast 513, .iload 1, .iaload, .aload 0, .checkcast 513, .iload 2, .iaload, .isub, .dneg, .sipush 2, .if_icmp .gt 57, .jsr 53]),
  (53, [.sipush 1, .goto 58]),
  (57, [.sipush 0, .jsr 58]),
  (58, [.areturn])]
/-- T.wayOver -/
def g_c97 : List (Nat × List Instr) := [(0, [.sipush 40, .istore 3, .sipush (-1), .istore 4, .sipush 0, .istore 5, .jsr 9]),
  (9, [.iload 5, .aload 0, .getfield 521, .if_icmp .ge 60, .iload 2, .iload 5, .ishr, .sipush 1, .iand, .sipush 1, .if_icmp .ne 54, .iload 3, .aload 0, .checkcast 513, .iload 5, .iaload, .dsub, .istore 3, .iload 4, .aload 0, .checkcast 513, .iload 5, .iaload, .dadd, .istore 4, .jsr 54]),
  (54, [.iinc 5 1, .goto 9]),
  (60, [.iload 4, .ifCond .ge 67, .sipush 0, .ireturn]),
  (67, [.iload 4, .iload 3, .isub, .iload 1, .iload 3, .isub, .dneg, .iload 1, .iload 4, .isub, .dneg, .dsub, .iadd, .ireturn])]
/-- T.firstFetched -/
def g_c98 : List (Nat × List Instr) := [(0, [.aload 0, .iload 1, .iload 2, .invokeinterface 97 3, .istore 3, .sipush 0, .istore 4, .jsr 10]),
  (10, [.iload 4, .aload 0, .getfield 521, .if_icmp .ge 78, .iload 2, .iload 4, .ishr, .sipush 1, .iand, .sipush 1, .if_icmp .ne 72, .iload 1, .aload 0, .checkcast 513, .iload 4, .iaload, .isub, .dneg, .aload 0, .aload 0, .checkcast 513, .iload 4, .iaload, .iload 2, .sipush 1, .iload 4, .ishl, .sipush (-1), .ixor, .iand, .invokeinterface 97 3, .iadd, .istore 5, .iload 5, .iload 3, .if_icmp .ne 72, .iload 4, .ireturn]),
  (72, [.iinc 4 1, .goto 10]),
  (78, [.sipush (-3), .ireturn])]
/-- T.countFitting -/
def g_c99 : List (Nat × List Instr) := [(0, [.sipush 0, .istore 1, .sipush 1, .istore 2, .jsr 4]),
  (4, [.iload 2, .sipush 5, .if_icmp .gt 59, .sipush 0, .istore 3, .jsr 11]),
  (11, [.iload 3, .sipush 9, .if_icmp .gt 53, .sipush 0, .istore 4, .jsr 20]),
  (20, [.iload 4, .sipush 9, .if_icmp .gt 47, .aload 0, .iload 2, .iload 3, .iload 4, .invokeinterface 100 4, .ifCond .ne 41, .iinc 1 1, .jsr 41]),
  (41, [.iinc 4 1, .goto 20]),
  (47, [.iinc 3 1, .goto 11]),
  (53, [.iinc 2 1, .goto 4]),
  (59, [.iload 1, .ireturn])]
/-- T.wrongBy -/
def g_c100 : List (Nat × List Instr) := [(0, [.aload 0, .checkcast 520, .invokeinterface 50 1, .istore 4, .iload 3, .istore 5, .sipush 0, .istore 6, .aload 0, .checkcast 520, .sipush 0, .iload 6, .iload 5, .invokeinterface 51 4, .istore 7, .sipush 0, .istore 8, .jsr 32]),
  (32, [.iload 8, .iload 4, .if_icmp .ge 101, .aload 0, .iload 8, .invokeinterface 77 2, .iload 5, .invokeinterface 126 2, .istore 5, .iload 6, .sipush 0, .iload 1, .iload 2, .iload 8, .invokeinterface 111 3, .invokeinterface 127 2, .iload 6, .iload 5, .invokeinterface 128 3, .iadd, .istore 6, .iload 7, .aload 0, .checkcast 520, .iload 8, .sipush 1, .iadd, .iload 6, .iload 5, .invokeinterface 51 4, .ior, .istore 7, .iinc 8 1, .goto 32]),
  (101, [.iload 7, .ireturn])]
/-- T.firstFitting -/
def g_c101 : List (Nat × List Instr) := [(0, [.sipush 1, .istore 2, .jsr 2]),
  (2, [.iload 2, .sipush 5, .if_icmp .gt 75, .sipush 0, .istore 3, .jsr 9]),
  (9, [.iload 3, .sipush 9, .if_icmp .gt 69, .sipush 0, .istore 4, .jsr 18]),
  (18, [.iload 4, .sipush 9, .if_icmp .gt 63, .aload 0, .iload 2, .iload 3, .iload 4, .invokeinterface 100 4, .ifCond .ne 57, .iload 1, .sipush 1, .if_icmp .ne 45, .iload 2, .goto 56]),
  (45, [.iload 1, .sipush 2, .if_icmp .ne 54, .iload 3, .goto 56]),
  (54, [.iload 4, .jsr 56]),
  (56, [.ireturn]),
  (57, [.iinc 4 1, .goto 18]),
  (63, [.iinc 3 1, .goto 9]),
  (69, [.iinc 2 1, .goto 2]),
  (75, [.sipush (-3), .ireturn])]
/-- T.leastLiar -/
def g_c102 : List (Nat × List Instr) := [(0, [.sipush 0, .istore 1, .sipush 1, .istore 2, .jsr 4]),
  (4, [.iload 2, .sipush 5, .if_icmp .gt 77, .sipush 0, .istore 3, .jsr 11]),
  (11, [.iload 3, .sipush 9, .if_icmp .gt 71, .sipush 0, .istore 4, .jsr 20]),
  (20, [.iload 4, .sipush 9, .if_icmp .gt 65, .aload 0, .iload 2, .iload 3, .iload 4, .invokeinterface 100 4, .istore 5, .iload 5, .ifCond .ne 45, .sipush (-3), .ireturn]),
  (45, [.iload 5, .invokeinterface 300 1, .sipush 1, .if_icmp .ne 59, .iload 1, .iload 5, .ior, .istore 1, .jsr 59]),
  (59, [.iinc 4 1, .goto 20]),
  (65, [.iinc 3 1, .goto 11]),
  (71, [.iinc 2 1, .goto 4]),
  (77, [.iload 1, .invokeinterface 136 1, .ireturn])]
/-- T.drawLot -/
def g_c103 : List (Nat × List Instr) := [(0, [.aload 0, .aload 0, .getfield 528, .sipush 1103515245, .imul, .sipush 12345, .iadd, .putfield 528, .aload 0, .getfield 528, .sipush 16, .iushr, .aload 0, .getfield 521, .sipush 1, .iadd, .irem, .ireturn])]
/-- T.worthByLot -/
def g_c104 : List (Nat × List Instr) := [(0, [.aload 0, .invokeinterface 85 1, .istore 1, .aload 0, .sipush 16, .invokeinterface 86 2, .istore 2, .sipush 0, .istore 3, .sipush 0, .istore 4, .jsr 17]),
  (17, [.iload 4, .iload 2, .if_icmp .ge 40, .iload 3, .aload 0, .aload 0, .invokeinterface 103 1, .invokeinterface 79 2, .iadd, .istore 3, .iinc 4 1, .goto 17]),
  (40, [.aload 0, .iload 1, .invokeinterface 87 2, .iload 3, .ireturn])]
/-- T.isAct -/
def g_c105 : List (Nat × List Instr) := [(0, [.iload 1, .ifCond .lt 16, .iload 1, .aload 0, .getfield 521, .if_icmp .gt 16, .sipush 1, .goto 17]),
  (16, [.sipush 0, .jsr 17]),
  (17, [.areturn])]
/-- T.copyFrom -/
def g_c106 : List (Nat × List Instr) := [(0, [.aload 1, .checkcast 512, .sipush 0, .aload 0, .checkcast 512, .sipush 0, .sipush 6, .dmul, .aload 1, .checkcast 513, .sipush 0, .aload 0, .checkcast 513, .sipush 0, .sipush 6, .dmul, .aload 1, .checkcast 514, .sipush 0, .aload 0, .checkcast 514, .sipush 0, .sipush 6, .dmul, .aload 1, .checkcast 515, .sipush 0, .aload 0, .checkcast 515, .sipush 0, .sipush 6, .dmul, .aload 1, .checkcast 516, .sipush 0, .aload 0, .checkcast 516, .sipush 0, .sipush 6, .dmul, .aload 1, .checkcast 517, .sipush 0, .aload 0, .checkcast 517, .sipush 0, .sipush 6, .dmul, .aload 1, .checkcast 518, .sipush 0, .aload 0, .checkcast 518, .sipush 0, .sipush 16, .dmul, .aload 0, .checkcast 519, .aload 1, .checkcast 519, .invokeinterface 16 2, .aload 0, .checkcast 520, .aload 1, .checkcast 520, .invokeinterface 52 2, .aload 0, .aload 1, .getfield 521, .putfield 521, .aload 0, .aload 1, .getfield 522, .putfield 522, .aload 0, .aload 1, .getfield 523, .putfield 523, .aload 0, .aload 1, .getfield 524, .putfield 524, .aload 0, .aload 1, .getfield 525, .putfield 525, .aload 0, .aload 1, .getfield 526, .putfield 526, .aload 0, .aload 1, .getfield 527, .putfield 527, .aload 0, .aload 1, .getfield 528, .putfield 528, .return_])]
/-- B.init -/
def g_c107 : List (Nat × List Instr) := [(0, [.aload 0, .pop2, .aload 0, .new 8, .dup, .invokeinterface 67 1, .instanceof 576, .aload 0, .new 8, .dup, .invokeinterface 67 1, .instanceof 577, .aload 0, .sipush 0, .putfield 578, .aload 0, .new 3, .dup, .invokeinterface 24 1, .instanceof 579, .aload 0, .new 2, .dup, .aload 0, .checkcast 576, .invokeinterface 17 2, .instanceof 580, .aload 0, .new 5, .dup, .aload 0, .checkcast 576, .invokeinterface 53 2, .instanceof 581, .aload 0, .sipush 4, .anewarray 6, .instanceof 582, .aload 0, .sipush 4, .anewarray 7, .instanceof 583, .aload 0, .new 0, .dup, .invokeinterface 0 1, .instanceof 584, .sipush 0, .istore 1, .jsr 101]),
  (101, [.iload 1, .sipush 4, .if_icmp .ge 125, .aload 0, .checkcast 582, .iload 1, .new 6, .dup, .invokeinterface 58 1, .aastore, .iinc 1 1, .goto 101]),
  (125, [.sipush 0, .istore 1, .jsr 127]),
  (127, [.iload 1, .sipush 4, .if_icmp .ge 151, .aload 0, .checkcast 583, .iload 1, .new 7, .dup, .invokeinterface 64 1, .aastore, .iinc 1 1, .goto 127]),
  (151, [.return_])]
/-- B.plate -/
def g_c108 : List (Nat × List Instr) := [(0, [.iload 1, .sipush 1, .sipush 5, .invokeinterface 109 3, .ifCond .ne 19, .iload 2, .sipush 0, .sipush 39, .invokeinterface 109 3, .ifCond .eq 21, .jsr 19]),
  (19, [.sipush (-1), .ireturn]),
  (21, [.iload 3, .sipush 0, .sipush 9, .invokeinterface 109 3, .ifCond .ne 41, .iload 4, .sipush 0, .sipush 5, .invokeinterface 109 3, .ifCond .eq 43, .jsr 41]),
  (41, [.sipush (-1), .ireturn]),
  (43, [.aload 0, .checkcast 576, .getfield 521, .sipush 6, .if_icmp .lt 58, .sipush (-2), .ireturn]),
  (58, [.aload 0, .checkcast 576, .iload 1, .iload 2, .iload 3, .iload 4, .invokeinterface 68 5, .ireturn])]
/-- B.isOutside -/
def g_c109 : List (Nat × List Instr) := [(0, [.iload 0, .iload 1, .if_icmp .lt 10, .iload 0, .iload 2, .if_icmp .le 14, .jsr 10]),
  (10, [.sipush 1, .goto 15]),
  (14, [.sipush 0, .jsr 15]),
  (15, [.areturn])]
/-- B.plateOf -/
def g_c110 : List (Nat × List Instr) := [(0, [.aload 0, .checkcast 576, .iload 1, .invokeinterface 69 2, .ifCond .ne 13, .sipush (-1), .ireturn]),
  (13, [.iload 2, .lookupswitch 185 #[(0, 64), (1, 74), (2, 84), (3, 94), (4, 104), (5, 121), (6, 150), (7, 159), (8, 176)]]),
  (64, [.aload 0, .checkcast 576, .checkcast 512, .iload 1, .iaload, .ireturn]),
  (74, [.aload 0, .checkcast 576, .checkcast 513, .iload 1, .iaload, .ireturn]),
  (84, [.aload 0, .checkcast 576, .checkcast 514, .iload 1, .iaload, .ireturn]),
  (94, [.aload 0, .checkcast 576, .checkcast 515, .iload 1, .iaload, .ireturn]),
  (104, [.aload 0, .checkcast 576, .iload 1, .invokeinterface 70 2, .ifCond .eq 119, .sipush 1, .goto 120]),
  (119, [.sipush 0, .jsr 120]),
  (120, [.ireturn]),
  (121, [.aload 0, .checkcast 576, .checkcast 512, .iload 1, .iaload, .aload 0, .checkcast 576, .checkcast 514, .iload 1, .iaload, .aload 0, .checkcast 576, .getfield 523, .invokeinterface 111 3, .ireturn]),
  (150, [.aload 0, .checkcast 576, .iload 1, .invokeinterface 71 2, .ireturn]),
  (159, [.aload 0, .checkcast 576, .iload 1, .invokeinterface 72 2, .ifCond .eq 174, .sipush 1, .goto 175]),
  (174, [.sipush 0, .jsr 175]),
  (175, [.ireturn]),
  (176, [.aload 0, .checkcast 576, .iload 1, .invokeinterface 73 2, .ireturn]),
  (185, [.sipush (-1), .ireturn])]
/-- B.spanOf -/
def g_c111 : List (Nat × List Instr) := [(0, [.sipush 1, .iload 1, .sipush 2, .idiv, .iadd, .istore 3, .iload 0, .lookupswitch 85 #[(1, 40), (2, 44), (3, 48), (4, 63), (5, 69)]]),
  (40, [.sipush 2, .iload 3, .imul, .ireturn]),
  (44, [.iload 3, .sipush 2, .iadd, .ireturn]),
  (48, [.iload 2, .sipush 2, .irem, .sipush 1, .if_icmp .ne 59, .sipush 1, .goto 62]),
  (59, [.iload 3, .sipush 2, .iadd, .jsr 62]),
  (62, [.ireturn]),
  (63, [.iload 3, .sipush 2, .dsub, .ireturn]),
  (69, [.iload 2, .sipush 3, .irem, .ifCond .ne 79, .sipush 0, .goto 84]),
  (79, [.iload 3, .sipush 2, .dsub, .jsr 84]),
  (84, [.ireturn]),
  (85, [.iload 3, .ireturn])]
/-- B.isUnder -/
def g_c112 : List (Nat × List Instr) := [(0, [.iload 0, .istore 2, .sipush 0, .istore 3, .jsr 4]),
  (4, [.iload 3, .getstatic 0, .fsub, .if_icmp .ge 43, .iload 2, .ifCond .lt 43, .iload 2, .getstatic 0, .fsub, .if_icmp .ge 43, .iload 2, .iload 1, .if_icmp .ne 31, .sipush 1, .areturn]),
  (31, [.getstatic 0, .iload 2, .daload, .istore 2, .iinc 3 1, .goto 4]),
  (43, [.sipush 0, .areturn])]
/-- B.change -/
def g_c113 : List (Nat × List Instr) := [(0, [.aload 0, .checkcast 576, .iload 1, .invokeinterface 69 2, .ifCond .ne 13, .sipush (-1), .ireturn]),
  (13, [.iload 2, .lookupswitch 156 #[(1, 44), (2, 71), (3, 98), (4, 124)]]),
  (44, [.iload 3, .sipush 0, .sipush 39, .invokeinterface 109 3, .ifCond .eq 58, .sipush (-1), .goto 70]),
  (58, [.aload 0, .checkcast 576, .checkcast 513, .iload 1, .iload 3, .invokeinterface 114 3, .jsr 70]),
  (70, [.ireturn]),
  (71, [.iload 3, .sipush 0, .sipush 9, .invokeinterface 109 3, .ifCond .eq 85, .sipush (-1), .goto 97]),
  (85, [.aload 0, .checkcast 576, .checkcast 514, .iload 1, .iload 3, .invokeinterface 114 3, .jsr 97]),
  (97, [.ireturn]),
  (98, [.iload 3, .sipush 0, .sipush 5, .invokeinterface 109 3, .ifCond .eq 111, .sipush (-1), .goto 123]),
  (111, [.aload 0, .checkcast 576, .checkcast 515, .iload 1, .iload 3, .invokeinterface 114 3, .jsr 123]),
  (123, [.ireturn]),
  (124, [.iload 3, .sipush 0, .sipush 1, .invokeinterface 109 3, .ifCond .eq 137, .sipush (-1), .goto 155]),
  (137, [.aload 0, .checkcast 576, .iload 1, .iload 3, .sipush 1, .if_icmp .ne 151, .sipush 1, .goto 152]),
  (151, [.sipush 0, .jsr 152]),
  (152, [.invokeinterface 74 3, .jsr 155]),
  (155, [.ireturn]),
  (156, [.sipush (-1), .ireturn])]
/-- B.put -/
def g_c114 : List (Nat × List Instr) := [(0, [.iload 1, .sipush 0, .aload 0, .arraylength, .sipush 1, .isub, .invokeinterface 109 3, .ifCond .eq 14, .sipush (-1), .ireturn]),
  (14, [.aload 0, .iload 1, .iaload, .istore 3, .aload 0, .iload 1, .iload 2, .iastore, .iload 3, .ireturn])]
/-- B.remake -/
def g_c115 : List (Nat × List Instr) := [(0, [.aload 0, .checkcast 576, .iload 1, .invokeinterface 69 2, .ifCond .eq 20, .iload 2, .sipush 1, .sipush 5, .invokeinterface 109 3, .ifCond .eq 22, .jsr 20]),
  (20, [.sipush (-1), .ireturn]),
  (22, [.aload 0, .checkcast 576, .checkcast 512, .iload 1, .iload 2, .invokeinterface 114 3, .ireturn])]
/-- B.news -/
def g_c116 : List (Nat × List Instr) := [(0, [.iload 1, .sipush 0, .sipush 15, .invokeinterface 109 3, .ifCond .ne 20, .iload 2, .sipush 0, .sipush 15, .invokeinterface 109 3, .ifCond .eq 22, .jsr 20]),
  (20, [.sipush (-1), .ireturn]),
  (22, [.aload 0, .checkcast 576, .checkcast 518, .iload 1, .iload 2, .invokeinterface 114 3, .ireturn])]
/-- B.home -/
def g_c117 : List (Nat × List Instr) := [(0, [.iload 1, .sipush 0, .sipush 5, .invokeinterface 109 3, .ifCond .ne 28, .iload 2, .sipush 0, .sipush 1, .invokeinterface 109 3, .ifCond .ne 28, .iload 3, .sipush 0, .sipush 9, .invokeinterface 109 3, .ifCond .eq 30, .jsr 28]),
  (28, [.sipush (-1), .ireturn]),
  (30, [.iload 2, .ifCond .ne 44, .aload 0, .checkcast 576, .checkcast 516, .goto 51]),
  (44, [.aload 0, .checkcast 576, .checkcast 517, .jsr 51]),
  (51, [.iload 1, .iload 3, .invokeinterface 114 3, .ireturn])]
/-- B.homeOf -/
def g_c118 : List (Nat × List Instr) := [(0, [.iload 1, .sipush 0, .sipush 5, .invokeinterface 109 3, .ifCond .ne 18, .iload 2, .sipush 0, .sipush 1, .invokeinterface 109 3, .ifCond .eq 20, .jsr 18]),
  (18, [.sipush (-1), .ireturn]),
  (20, [.iload 2, .ifCond .ne 36, .aload 0, .checkcast 576, .checkcast 516, .iload 1, .iaload, .goto 45]),
  (36, [.aload 0, .checkcast 576, .checkcast 517, .iload 1, .iaload, .jsr 45]),
  (45, [.ireturn])]
/-- B.family -/
def g_c119 : List (Nat × List Instr) := [(0, [.iload 1, .sipush 0, .sipush 1, .invokeinterface 109 3, .ifCond .ne 28, .iload 2, .sipush 0, .iload 1, .ifCond .ne 20, .sipush 9, .goto 22]),
  (20, [.sipush 40, .jsr 22]),
  (22, [.invokeinterface 109 3, .ifCond .eq 30, .jsr 28]),
  (28, [.sipush (-1), .ireturn]),
  (30, [.iload 1, .ifCond .ne 44, .aload 0, .checkcast 576, .getfield 526, .goto 51]),
  (44, [.aload 0, .checkcast 576, .getfield 527, .jsr 51]),
  (51, [.istore 3, .iload 1, .ifCond .ne 67, .aload 0, .checkcast 576, .iload 2, .putfield 526, .goto 75]),
  (67, [.aload 0, .checkcast 576, .iload 2, .putfield 527, .jsr 75]),
  (75, [.iload 3, .ireturn])]
/-- B.ends -/
def g_c120 : List (Nat × List Instr) := [(0, [.iload 1, .sipush 1, .sipush 16, .invokeinterface 109 3, .ifCond .eq 12, .sipush (-1), .ireturn]),
  (12, [.iload 1, .aload 0, .checkcast 576, .getfield 523, .if_icmp .ge 26, .sipush (-4), .ireturn]),
  (26, [.aload 0, .checkcast 576, .getfield 524, .istore 2, .aload 0, .checkcast 576, .iload 1, .putfield 524, .iload 2, .ireturn])]
/-- B.anew -/
def g_c121 : List (Nat × List Instr) := [(0, [.aload 0, .checkcast 576, .getfield 523, .istore 1, .aload 0, .checkcast 576, .invokeinterface 75 1, .iload 1, .ireturn])]
/-- B.state -/
def g_c122 : List (Nat × List Instr) := [(0, [.iload 1, .lookupswitch 127 #[(0, 48), (1, 56), (2, 64), (3, 72), (4, 88), (5, 96), (6, 111), (7, 119)]]),
  (48, [.aload 0, .checkcast 576, .getfield 523, .ireturn]),
  (56, [.aload 0, .checkcast 576, .getfield 524, .ireturn]),
  (64, [.aload 0, .checkcast 576, .getfield 525, .ireturn]),
  (72, [.aload 0, .checkcast 576, .invokeinterface 76 1, .ifCond .eq 86, .sipush 1, .goto 87]),
  (86, [.sipush 0, .jsr 87]),
  (87, [.ireturn]),
  (88, [.aload 0, .checkcast 576, .getfield 522, .ireturn]),
  (96, [.aload 0, .checkcast 576, .aload 0, .checkcast 576, .getfield 523, .invokeinterface 77 2, .ireturn]),
  (111, [.aload 0, .checkcast 576, .getfield 526, .ireturn]),
  (119, [.aload 0, .checkcast 576, .getfield 527, .ireturn]),
  (127, [.sipush (-1), .ireturn])]
/-- B.feed -/
def g_c123 : List (Nat × List Instr) := [(0, [.iload 3, .sipush 1, .sipush 8, .invokeinterface 109 3, .ifCond .eq 12, .sipush (-1), .ireturn]),
  (12, [.aload 0, .checkcast 579, .getfield 194, .iload 3, .iadd, .sipush 200, .if_icmp .le 30, .sipush (-2), .ireturn]),
  (30, [.aload 0, .checkcast 579, .lload 1, .iload 3, .invokeinterface 25 3, .ireturn])]
/-- B.rules -/
def g_c124 : List (Nat × List Instr) := [(0, [.aload 0, .checkcast 579, .invokeinterface 26 1, .istore 1, .iload 1, .sipush (-1), .if_icmp .eq 18, .sipush (-100), .iload 1, .isub, .ireturn]),
  (18, [.aload 0, .checkcast 576, .checkcast 519, .aload 0, .checkcast 579, .checkcast 192, .invokeinterface 16 2, .aload 0, .checkcast 576, .checkcast 519, .getfield 69, .ireturn])]
/-- B.year -/
def g_c125 : List (Nat × List Instr) := [(0, [.aload 0, .checkcast 576, .invokeinterface 76 1, .ifCond .eq 13, .sipush (-4), .ireturn]),
  (13, [.aload 0, .checkcast 576, .sipush (-1), .invokeinterface 78 2, .ireturn])]
/-- B.moodBehind -/
def g_c126 : List (Nat × List Instr) := [(0, [.iload 0, .sipush 4, .idiv, .istore 2, .iload 0, .sipush 4, .irem, .lookupswitch 72 #[(0, 32), (1, 41), (2, 49)]]),
  (32, [.sipush 9, .iload 1, .iload 2, .iadd, .dsub, .ireturn]),
  (41, [.sipush 0, .iload 1, .iload 2, .isub, .dadd, .ireturn]),
  (49, [.iload 1, .sipush 5, .if_icmp .ge 64, .sipush 5, .iload 1, .iload 2, .iadd, .dsub, .goto 71]),
  (64, [.sipush 5, .iload 1, .iload 2, .isub, .dadd, .jsr 71]),
  (71, [.ireturn]),
  (72, [.iload 1, .ireturn])]
/-- B.placesOf -/
def g_c127 : List (Nat × List Instr) := [(0, [.goto_w 1, .iload 1, .lshl, .goto_w 1, .lsub, .iload 0, .lshl, .lreturn])]
/-- B.stepsOn -/
def g_c128 : List (Nat × List Instr) := [(0, [.sipush 0, .istore 4, .jsr 3]),
  (3, [.iload 4, .iload 3, .if_icmp .gt 37, .iload 2, .iload 4, .iadd, .sipush 40, .if_icmp .ge 37, .lload 0, .iload 2, .iload 4, .iadd, .lushr, .goto_w 1, .land, .goto_w 1, .lcmp, .ifCond .ne 37, .iinc 4 1, .goto 3]),
  (37, [.iload 4, .ireturn])]
/-- B.on -/
def g_c129 : List (Nat × List Instr) := [(0, [.iload 1, .sipush 0, .sipush 16, .invokeinterface 109 3, .ifCond .eq 12, .sipush (-1), .ireturn]),
  (12, [.aload 0, .checkcast 576, .iload 1, .invokeinterface 84 2, .ireturn])]
/-- B.when -/
def g_c130 : List (Nat × List Instr) := [(0, [.aload 0, .checkcast 576, .iload 1, .invokeinterface 69 2, .ifCond .ne 13, .sipush (-1), .ireturn]),
  (13, [.aload 0, .checkcast 576, .iload 1, .invokeinterface 70 2, .ifCond .eq 29, .sipush (-3), .goto 40]),
  (29, [.aload 0, .checkcast 576, .sipush 1, .iload 1, .ishl, .sipush 0, .invokeinterface 88 3, .jsr 40]),
  (40, [.ireturn])]
/-- B.widthFor -/
def g_c131 : List (Nat × List Instr) := [(0, [.aload 0, .checkcast 576, .iload 1, .invokeinterface 69 2, .ifCond .ne 13, .sipush (-1), .ireturn]),
  (13, [.aload 0, .checkcast 576, .aload 0, .checkcast 576, .checkcast 514, .iload 1, .sipush 9, .invokeinterface 89 4, .ireturn])]
/-- B.pieceFor -/
def g_c132 : List (Nat × List Instr) := [(0, [.aload 0, .checkcast 576, .iload 1, .invokeinterface 69 2, .ifCond .ne 13, .sipush (-1), .ireturn]),
  (13, [.aload 0, .checkcast 576, .aload 0, .checkcast 576, .checkcast 513, .iload 1, .sipush 39, .invokeinterface 89 4, .ireturn])]
/-- B.over -/
def g_c133 : List (Nat × List Instr) := [(0, [.iload 1, .sipush 0, .sipush 40, .invokeinterface 109 3, .ifCond .eq 12, .sipush (-1), .ireturn]),
  (12, [.aload 0, .checkcast 576, .sipush 0, .iload 1, .invokeinterface 88 3, .ireturn])]
/-- B.gap -/
def g_c134 : List (Nat × List Instr) := [(0, [.iload 1, .ifCond .ne 12, .aload 0, .checkcast 576, .invokeinterface 90 1, .ireturn]),
  (12, [.iload 1, .sipush 1, .if_icmp .ne 27, .aload 0, .checkcast 576, .invokeinterface 92 1, .goto 28]),
  (27, [.sipush (-1), .jsr 28]),
  (28, [.ireturn])]
/-- B.branches -/
def g_c135 : List (Nat × List Instr) := [(0, [.iload 1, .sipush (-1), .if_icmp .ne 13, .aload 0, .checkcast 576, .invokeinterface 93 1, .ireturn]),
  (13, [.aload 0, .checkcast 576, .iload 1, .invokeinterface 69 2, .ifCond .eq 35, .aload 0, .checkcast 576, .iload 1, .invokeinterface 94 2, .goto 36]),
  (35, [.sipush (-1), .jsr 36]),
  (36, [.ireturn])]
/-- B.leastOf -/
def g_c136 : List (Nat × List Instr) := [(0, [.sipush 0, .istore 1, .jsr 2]),
  (2, [.iload 1, .sipush 6, .if_icmp .ge 25, .iload 0, .iload 1, .ishr, .sipush 1, .iand, .sipush 1, .if_icmp .ne 19, .iload 1, .ireturn]),
  (19, [.iinc 1 1, .goto 2]),
  (25, [.sipush (-3), .ireturn])]
/-- B.fetch -/
def g_c137 : List (Nat × List Instr) := [(0, [.iload 1, .sipush 0, .sipush 40, .invokeinterface 109 3, .ifCond .ne 19, .iload 2, .sipush 0, .sipush 1, .invokeinterface 109 3, .ifCond .eq 21, .jsr 19]),
  (19, [.sipush (-1), .ireturn]),
  (21, [.aload 0, .checkcast 576, .invokeinterface 91 1, .aload 0, .checkcast 576, .getfield 522, .sipush (-1), .ixor, .iand, .istore 3, .iload 2, .ifCond .ne 53, .aload 0, .checkcast 576, .iload 1, .iload 3, .invokeinterface 97 3, .ireturn]),
  (53, [.aload 0, .checkcast 576, .iload 1, .iload 3, .invokeinterface 98 3, .ireturn])]
/-- B.best -/
def g_c138 : List (Nat × List Instr) := [(0, [.iload 1, .sipush 0, .sipush 4, .invokeinterface 109 3, .ifCond .eq 11, .sipush (-1), .ireturn]),
  (11, [.aload 0, .checkcast 580, .iload 1, .sipush 0, .invokeinterface 18 3, .aload 0, .checkcast 580, .getfield 133, .ireturn])]
/-- B.ith -/
def g_c139 : List (Nat × List Instr) := [(0, [.iload 1, .sipush 0, .sipush 4, .invokeinterface 109 3, .ifCond .ne 18, .iload 2, .sipush 0, .sipush 3, .invokeinterface 109 3, .ifCond .eq 20, .jsr 18]),
  (18, [.sipush (-1), .ireturn]),
  (20, [.aload 0, .checkcast 580, .iload 1, .sipush 0, .invokeinterface 18 3, .iload 2, .aload 0, .checkcast 580, .getfield 131, .if_icmp .ge 52, .aload 0, .checkcast 580, .checkcast 130, .iload 2, .iaload, .goto 54]),
  (52, [.sipush (-3), .jsr 54]),
  (54, [.ireturn])]
/-- B.ways -/
def g_c140 : List (Nat × List Instr) := [(0, [.iload 1, .sipush 0, .sipush 4, .invokeinterface 109 3, .ifCond .eq 11, .sipush (-1), .ireturn]),
  (11, [.aload 0, .checkcast 580, .iload 1, .sipush 0, .invokeinterface 18 3, .aload 0, .checkcast 580, .getfield 134, .ireturn])]
/-- B.supper -/
def g_c141 : List (Nat × List Instr) := [(0, [.iload 1, .sipush 0, .sipush 4, .invokeinterface 109 3, .ifCond .ne 24, .iload 2, .sipush 0, .aload 0, .checkcast 576, .invokeinterface 91 1, .invokeinterface 109 3, .ifCond .eq 26, .jsr 24]),
  (24, [.sipush (-1), .ireturn]),
  (26, [.aload 0, .checkcast 580, .iload 1, .iload 2, .invokeinterface 18 3, .aload 0, .checkcast 580, .getfield 135, .ireturn])]
/-- B.bars -/
def g_c142 : List (Nat × List Instr) := [(0, [.iload 1, .sipush 0, .sipush 4, .invokeinterface 109 3, .ifCond .ne 24, .iload 2, .sipush 0, .aload 0, .checkcast 576, .invokeinterface 91 1, .invokeinterface 109 3, .ifCond .eq 26, .jsr 24]),
  (24, [.sipush (-1), .ireturn]),
  (26, [.aload 0, .checkcast 580, .iload 1, .iload 2, .invokeinterface 18 3, .iload 2, .aload 0, .checkcast 580, .getfield 136, .sipush (-1), .ixor, .iand, .invokeinterface 136 1, .ireturn])]
/-- B.game -/
def g_c143 : List (Nat × List Instr) := [(0, [.iload 1, .sipush 1, .sipush 4, .invokeinterface 109 3, .ifCond .eq 11, .sipush (-1), .ireturn]),
  (11, [.aload 0, .checkcast 580, .aload 0, .checkcast 576, .iload 1, .invokeinterface 86 2, .sipush 1, .invokeinterface 21 3, .ireturn])]
/-- B.play -/
def g_c144 : List (Nat × List Instr) := [(0, [.iload 1, .sipush 1, .sipush 4, .invokeinterface 109 3, .ifCond .eq 11, .sipush (-1), .ireturn]),
  (11, [.aload 0, .checkcast 576, .invokeinterface 76 1, .ifCond .eq 26, .sipush (-3), .goto 41]),
  (26, [.aload 0, .checkcast 580, .aload 0, .checkcast 576, .iload 1, .invokeinterface 86 2, .invokeinterface 23 2, .jsr 41]),
  (41, [.ireturn])]
/-- B.report -/
def g_c145 : List (Nat × List Instr) := [(0, [.iload 1, .sipush 0, .sipush 15, .invokeinterface 109 3, .ifCond .ne 19, .iload 2, .sipush 0, .sipush 1, .invokeinterface 109 3, .ifCond .eq 21, .jsr 19]),
  (19, [.sipush (-1), .ireturn]),
  (21, [.iload 2, .ifCond .ne 30, .sipush 40, .goto 32]),
  (30, [.sipush 9, .jsr 32]),
  (32, [.istore 5, .iload 3, .sipush 0, .iload 5, .invokeinterface 109 3, .ifCond .ne 55, .iload 4, .iload 3, .iload 5, .invokeinterface 109 3, .ifCond .eq 57, .jsr 55]),
  (55, [.sipush (-1), .ireturn]),
  (57, [.aload 0, .checkcast 576, .checkcast 520, .getfield 260, .sipush 6, .if_icmp .lt 75, .sipush (-2), .ireturn]),
  (75, [.aload 0, .checkcast 576, .checkcast 520, .iload 1, .iload 2, .iload 3, .iload 4, .invokeinterface 49 5, .ireturn])]
/-- B.forget -/
def g_c146 : List (Nat × List Instr) := [(0, [.aload 0, .checkcast 576, .checkcast 520, .getfield 260, .istore 1, .aload 0, .checkcast 576, .checkcast 520, .sipush 0, .putfield 260, .iload 1, .ireturn])]
/-- B.lost -/
def g_c147 : List (Nat × List Instr) := [(0, [.iload 1, .sipush 0, .sipush 3, .invokeinterface 109 3, .ifCond .eq 11, .sipush (-1), .ireturn]),
  (11, [.iload 1, .ifCond .ne 25, .aload 0, .checkcast 576, .invokeinterface 99 1, .goto 33]),
  (25, [.aload 0, .checkcast 576, .iload 1, .invokeinterface 101 2, .jsr 33]),
  (33, [.ireturn])]
/-- B.liar -/
def g_c148 : List (Nat × List Instr) := [(0, [.aload 0, .checkcast 576, .invokeinterface 102 1, .ireturn])]
/-- B.seed -/
def g_c149 : List (Nat × List Instr) := [(0, [.aload 0, .checkcast 576, .getfield 528, .istore 2, .aload 0, .checkcast 576, .iload 1, .putfield 528, .iload 2, .ireturn])]
/-- B.lot -/
def g_c150 : List (Nat × List Instr) := [(0, [.aload 0, .checkcast 576, .invokeinterface 76 1, .ifCond .eq 13, .sipush (-4), .ireturn]),
  (13, [.aload 0, .checkcast 576, .aload 0, .checkcast 576, .invokeinterface 103 1, .invokeinterface 78 2, .ireturn])]
/-- B.times -/
def g_c151 : List (Nat × List Instr) := [(0, [.iload 1, .sipush 1, .sipush 40, .invokeinterface 109 3, .ifCond .ne 21, .iload 2, .sipush 0, .sipush 999, .invokeinterface 109 3, .ifCond .eq 23, .jsr 21]),
  (21, [.sipush (-1), .ireturn]),
  (23, [.aload 0, .checkcast 576, .getfield 528, .istore 3, .sipush 0, .istore 4, .sipush 0, .istore 5, .jsr 37]),
  (37, [.iload 5, .iload 1, .if_icmp .ge 63, .aload 0, .checkcast 576, .invokeinterface 104 1, .iload 2, .if_icmp .lt 57, .iinc 4 1, .jsr 57]),
  (57, [.iinc 5 1, .goto 37]),
  (63, [.aload 0, .checkcast 576, .iload 3, .putfield 528, .iload 4, .ireturn])]
/-- B.prove -/
def g_c152 : List (Nat × List Instr) := [(0, [.iload 1, .sipush 0, .sipush 4, .invokeinterface 109 3, .ifCond .eq 11, .sipush (-1), .ireturn]),
  (11, [.aload 0, .checkcast 580, .iload 1, .sipush 0, .invokeinterface 18 3, .aload 0, .checkcast 581, .aload 0, .checkcast 580, .checkcast 130, .aload 0, .checkcast 580, .getfield 131, .invokeinterface 54 3, .ireturn])]
/-- B.row -/
def g_c153 : List (Nat × List Instr) := [(0, [.aload 0, .checkcast 581, .iload 1, .iload 2, .invokeinterface 55 3, .ifCond .eq 28, .aload 0, .checkcast 581, .checkcast 321, .sipush 3, .iload 1, .imul, .iload 2, .iadd, .iaload, .goto 30]),
  (28, [.sipush (-9), .jsr 30]),
  (30, [.ireturn])]
/-- B.alterRow -/
def g_c154 : List (Nat × List Instr) := [(0, [.aload 0, .checkcast 581, .iload 1, .iload 2, .invokeinterface 55 3, .ifCond .eq 31, .aload 0, .checkcast 581, .checkcast 321, .sipush 3, .iload 1, .imul, .iload 2, .iadd, .iload 3, .invokeinterface 114 3, .goto 33]),
  (31, [.sipush (-9), .jsr 33]),
  (33, [.ireturn])]
/-- B.judge -/
def g_c155 : List (Nat × List Instr) := [(0, [.aload 0, .checkcast 581, .invokeinterface 56 1, .ireturn])]
/-- B.sheet -/
def g_c156 : List (Nat × List Instr) := [(0, [.iload 1, .sipush 0, .sipush 3, .invokeinterface 109 3, .ifCond .ne 18, .iload 2, .sipush (-1), .sipush 4, .invokeinterface 109 3, .ifCond .eq 20, .jsr 18]),
  (18, [.sipush (-1), .ireturn]),
  (20, [.iload 2, .sipush (-1), .if_icmp .eq 33, .iload 3, .sipush 40, .if_icmp .le 33, .sipush (-1), .ireturn]),
  (33, [.iload 2, .sipush (-1), .if_icmp .eq 45, .iload 3, .ifCond .ge 45, .sipush (-14), .ireturn]),
  (45, [.aload 0, .checkcast 582, .iload 1, .aaload, .iload 2, .iload 2, .sipush (-1), .if_icmp .ne 61, .sipush 0, .goto 62]),
  (61, [.iload 3, .jsr 62]),
  (62, [.invokeinterface 59 3, .sipush 1, .ireturn])]
/-- B.write -/
def g_c157 : List (Nat × List Instr) := [(0, [.iload 1, .sipush 0, .sipush 3, .invokeinterface 109 3, .ifCond .eq 11, .sipush (-1), .ireturn]),
  (11, [.aload 0, .checkcast 582, .iload 1, .aaload, .getfield 385, .sipush (-1), .if_icmp .ne 27, .sipush (-11), .ireturn]),
  (27, [.aload 0, .checkcast 582, .iload 1, .aaload, .iload 2, .invokeinterface 60 2, .ifCond .ne 43, .sipush (-12), .ireturn]),
  (43, [.aload 0, .checkcast 582, .iload 1, .aaload, .iload 2, .iload 3, .invokeinterface 61 3, .sipush 1, .ireturn])]
/-- B.item -/
def g_c158 : List (Nat × List Instr) := [(0, [.iload 1, .sipush 0, .sipush 3, .invokeinterface 109 3, .ifCond .ne 18, .iload 2, .sipush 0, .sipush 4, .invokeinterface 109 3, .ifCond .eq 20, .jsr 18]),
  (18, [.sipush (-1), .ireturn]),
  (20, [.aload 0, .checkcast 582, .iload 1, .aaload, .iload 2, .invokeinterface 63 2, .istore 4, .iload 4, .ifCond .eq 40, .iload 4, .ireturn]),
  (40, [.aload 0, .checkcast 582, .iload 1, .aaload, .iload 3, .invokeinterface 60 2, .ifCond .eq 68, .aload 0, .checkcast 582, .iload 1, .aaload, .checkcast 384, .iload 3, .laload, .l2i, .goto 70]),
  (68, [.sipush (-12), .jsr 70]),
  (70, [.ireturn])]
/-- B.goAll -/
def g_c159 : List (Nat × List Instr) := [(0, [.iload 1, .sipush 0, .sipush 3, .invokeinterface 109 3, .ifCond .ne 19, .iload 3, .sipush 0, .sipush 20, .invokeinterface 109 3, .ifCond .eq 21, .jsr 19]),
  (19, [.sipush (-1), .ireturn]),
  (21, [.aload 0, .checkcast 582, .iload 1, .aaload, .astore 4, .aload 4, .sipush 0, .invokeinterface 63 2, .istore 5, .iload 5, .ifCond .eq 45, .iload 5, .ireturn]),
  (45, [.sipush 0, .istore 6, .sipush 0, .istore 7, .jsr 51]),
  (51, [.iload 7, .iload 3, .if_icmp .ge 127, .aload 4, .iload 2, .iload 7, .iadd, .invokeinterface 60 2, .ifCond .ne 72, .sipush (-12), .ireturn]),
  (72, [.aload 4, .checkcast 384, .iload 2, .iload 7, .iadd, .laload, .l2i, .istore 8, .aload 0, .checkcast 576, .iload 8, .invokeinterface 105 2, .ifCond .eq 121, .aload 0, .checkcast 576, .invokeinterface 76 1, .ifCond .ne 121, .iload 6, .aload 0, .checkcast 576, .iload 8, .invokeinterface 78 2, .iadd, .istore 6, .jsr 121]),
  (121, [.iinc 7 1, .goto 51]),
  (127, [.iload 6, .ireturn])]
/-- B.wouldBe -/
def g_c160 : List (Nat × List Instr) := [(0, [.iload 1, .sipush 0, .sipush 3, .invokeinterface 109 3, .ifCond .ne 19, .iload 3, .sipush 0, .sipush 20, .invokeinterface 109 3, .ifCond .eq 21, .jsr 19]),
  (19, [.sipush (-1), .ireturn]),
  (21, [.aload 0, .checkcast 582, .iload 1, .aaload, .sipush 0, .invokeinterface 63 2, .istore 4, .iload 4, .ifCond .eq 41, .iload 4, .ireturn]),
  (41, [.aload 0, .checkcast 576, .invokeinterface 85 1, .istore 5, .aload 0, .aload 0, .checkcast 582, .iload 1, .aaload, .iload 2, .iload 3, .invokeinterface 161 4, .istore 6, .aload 0, .checkcast 576, .iload 5, .invokeinterface 87 2, .iload 6, .ireturn])]
/-- B.worthOfItems -/
def g_c161 : List (Nat × List Instr) := [(0, [.sipush 0, .istore 4, .sipush 0, .istore 5, .jsr 6]),
  (6, [.iload 5, .iload 3, .if_icmp .ge 83, .aload 1, .iload 2, .iload 5, .iadd, .invokeinterface 60 2, .ifCond .ne 26, .sipush (-12), .ireturn]),
  (26, [.aload 1, .checkcast 384, .iload 2, .iload 5, .iadd, .laload, .l2i, .istore 6, .aload 0, .checkcast 576, .iload 6, .invokeinterface 105 2, .ifCond .eq 60, .aload 0, .checkcast 576, .invokeinterface 76 1, .ifCond .eq 63, .jsr 60]),
  (60, [.sipush (-4), .ireturn]),
  (63, [.iload 4, .aload 0, .checkcast 576, .iload 6, .invokeinterface 79 2, .iadd, .istore 4, .iinc 5 1, .goto 6]),
  (83, [.iload 4, .ireturn])]
/-- B.shelf -/
def g_c162 : List (Nat × List Instr) := [(0, [.iload 1, .sipush 0, .sipush 3, .invokeinterface 109 3, .ifCond .ne 18, .iload 2, .sipush 0, .sipush 2, .invokeinterface 109 3, .ifCond .eq 20, .jsr 18]),
  (18, [.sipush (-1), .ireturn]),
  (20, [.iload 2, .ifCond .ne 37, .aload 0, .checkcast 576, .iload 3, .invokeinterface 69 2, .ifCond .ne 37, .sipush (-1), .ireturn]),
  (37, [.iload 2, .sipush 1, .if_icmp .ne 53, .iload 3, .sipush 0, .sipush 3, .invokeinterface 109 3, .ifCond .eq 53, .sipush (-1), .ireturn]),
  (53, [.iload 2, .sipush 1, .if_icmp .ne 88, .aload 0, .checkcast 583, .iload 1, .aaload, .aload 0, .checkcast 582, .iload 3, .aaload, .getfield 385, .aload 0, .checkcast 582, .iload 3, .aaload, .getfield 386, .invokeinterface 65 3, .goto 99]),
  (88, [.aload 0, .checkcast 583, .iload 1, .aaload, .iload 2, .iload 3, .invokeinterface 66 3, .jsr 99]),
  (99, [.sipush 1, .ireturn])]
/-- B.taken -/
def g_c163 : List (Nat × List Instr) := [(0, [.iload 2, .sipush 0, .sipush 5, .invokeinterface 109 3, .ifCond .ne 13, .sipush 1, .goto 14]),
  (13, [.sipush 0, .jsr 14]),
  (14, [.istore 3, .iload 2, .sipush 10, .sipush 14, .invokeinterface 109 3, .ifCond .ne 30, .sipush 1, .goto 31]),
  (30, [.sipush 0, .jsr 31]),
  (31, [.istore 4, .iload 1, .sipush 0, .sipush 3, .invokeinterface 109 3, .ifCond .ne 51, .iload 3, .ifCond .ne 53, .iload 4, .ifCond .ne 53, .jsr 51]),
  (51, [.sipush (-1), .ireturn]),
  (53, [.aload 0, .checkcast 583, .iload 1, .aaload, .astore 5, .aload 0, .aload 5, .invokeinterface 164 2, .istore 6, .iload 6, .sipush 2, .if_icmp .ne 78, .sipush (-11), .ireturn]),
  (78, [.iload 6, .sipush 1, .if_icmp .ne 112, .iload 4, .ifCond .eq 109, .aload 5, .getfield 450, .iload 2, .sipush 10, .isub, .if_icmp .ne 109, .aload 5, .getfield 451, .goto 111]),
  (109, [.sipush (-13), .jsr 111]),
  (111, [.ireturn]),
  (112, [.iload 3, .ifCond .eq 144, .aload 0, .checkcast 576, .checkcast 512, .aload 5, .getfield 449, .iaload, .iload 2, .invokeinterface 112 2, .ifCond .eq 144, .aload 5, .getfield 449, .goto 146]),
  (144, [.sipush (-13), .jsr 146]),
  (146, [.ireturn])]
/-- B.heldOn -/
def g_c164 : List (Nat × List Instr) := [(0, [.aload 1, .getfield 448, .ifCond .ne 23, .aload 0, .checkcast 576, .aload 1, .getfield 449, .invokeinterface 69 2, .ifCond .ne 23, .sipush 2, .ireturn]),
  (23, [.aload 1, .getfield 448, .ireturn])]
/-- B.act -/
def g_c165 : List (Nat × List Instr) := [(0, [.aload 0, .checkcast 584, .sipush 0, .putfield 1, .iload 1, .sipush 0, .sipush 3, .invokeinterface 109 3, .ifCond .ne 26, .iload 2, .sipush 0, .sipush 3, .invokeinterface 109 3, .ifCond .eq 28, .jsr 26]),
  (26, [.sipush 0, .ireturn]),
  (28, [.aload 0, .aload 0, .checkcast 583, .iload 1, .aaload, .invokeinterface 164 2, .ifCond .eq 43, .sipush 0, .ireturn]),
  (43, [.aload 0, .checkcast 583, .iload 1, .aaload, .getfield 449, .istore 4, .aload 0, .checkcast 584, .aload 0, .checkcast 576, .checkcast 512, .iload 4, .iaload, .iload 4, .aload 0, .checkcast 576, .checkcast 515, .iload 4, .iaload, .invokeinterface 1 4, .aload 0, .checkcast 584, .iload 2, .iload 3, .invokeinterface 2 3, .ireturn])]
/-- B.trace -/
def g_c166 : List (Nat × List Instr) := [(0, [.iload 1, .sipush 0, .aload 0, .checkcast 584, .getfield 1, .sipush 1, .isub, .invokeinterface 109 3, .ifCond .eq 22, .sipush (-3), .goto 31]),
  (22, [.aload 0, .checkcast 584, .checkcast 0, .iload 1, .iaload, .jsr 31]),
  (31, [.ireturn])]
/-- B.many -/
def g_c167 : List (Nat × List Instr) := [(0, [.iload 1, .lookupswitch 109 #[(0, 44), (1, 52), (2, 63), (3, 74), (4, 85), (5, 93), (6, 101)]]),
  (44, [.aload 0, .checkcast 576, .getfield 521, .ireturn]),
  (52, [.aload 0, .checkcast 576, .checkcast 519, .getfield 69, .ireturn]),
  (63, [.aload 0, .checkcast 576, .getfield 522, .invokeinterface 300 1, .ireturn]),
  (74, [.aload 0, .checkcast 576, .checkcast 520, .getfield 260, .ireturn]),
  (85, [.aload 0, .checkcast 581, .getfield 322, .ireturn]),
  (93, [.aload 0, .checkcast 579, .getfield 194, .ireturn]),
  (101, [.aload 0, .checkcast 584, .getfield 1, .ireturn]),
  (109, [.sipush (-1), .ireturn])]
/-- B.keep -/
def g_c168 : List (Nat × List Instr) := [(0, [.aload 0, .checkcast 577, .aload 0, .checkcast 576, .invokeinterface 106 2, .aload 0, .sipush 1, .putfield 578, .sipush 1, .ireturn])]
/-- B.again -/
def g_c169 : List (Nat × List Instr) := [(0, [.aload 0, .getfield 578, .ifCond .ne 10, .sipush (-3), .ireturn]),
  (10, [.aload 0, .checkcast 576, .aload 0, .checkcast 577, .invokeinterface 106 2, .aload 0, .checkcast 576, .getfield 521, .ireturn])]
/-- M.init -/
def g_c170 : List (Nat × List Instr) := [(0, [.aload 0, .pop2, .aload 0, .sipush 322, .newarray .int, .instanceof 640, .aload 0, .sipush 322, .newarray .int, .instanceof 641, .aload 0, .sipush 74, .newarray .int, .instanceof 642, .aload 0, .sipush 200, .newarray .int, .instanceof 644, .aload 0, .sipush 200, .newarray .int, .instanceof 645, .aload 0, .sipush 144, .newarray .char, .dup, .sipush 0, .sipush 112, .castore, .dup, .sipush 1, .sipush 108, .castore, .dup, .sipush 2, .sipush 97, .castore, .dup, .sipush 3, .sipush 116, .castore, .dup, .sipush 4, .sipush 101, .castore, .dup, .sipush 5, .sipush 32, .castore, .dup, .sipush 6, .sipush 32, .castore, .dup, .sipush 7, .sipush 32, .castore, .dup, .sipush 8, .sipush 100, .castore, .dup, .sipush 9, .sipush 105, .castore, .dup, .sipush 10, .sipush 115, .castore, .dup, .sipush 11, .sipush 104, .castore, .dup, .sipush 12, .sipush 32, .castore, .dup, .sipush 13, .sipush 32, .jsr 131]),
  (131, [.castore, .dup, .sipush 14, .sipush 32, .castore, .dup, .sipush 15, .sipush 32, .castore, .dup, .sipush 16, .sipush 116, .castore, .dup, .sipush 17, .sipush 117, .castore, .dup, .sipush 18, .sipush 114, .castore, .dup, .sipush 19, .sipush 101, .castore, .dup, .sipush 20, .sipush 101, .castore, .dup, .sipush 21, .sipush 110, .castore, .dup, .sipush 22, .sipush 32, .castore, .dup, .sipush 23, .sipush 32, .castore, .dup, .sipush 24, .sipush 98, .castore, .dup, .sipush 25, .sipush 111, .castore, .dup, .sipush 26, .sipush 97, .castore, .dup, .sipush 27, .sipush 116, .castore, .dup, .sipush 28, .sipush 32, .castore, .dup, .sipush 29, .sipush 32, .castore, .dup, .sipush 30, .sipush 32, .castore, .dup, .sipush 31, .sipush 32, .castore, .dup, .sipush 32, .sipush 115, .castore, .dup, .sipush 33, .sipush 97, .jsr 251]),
  (251, [.castore, .dup, .sipush 34, .sipush 117, .castore, .dup, .sipush 35, .sipush 99, .castore, .dup, .sipush 36, .sipush 101, .castore, .dup, .sipush 37, .sipush 114, .castore, .dup, .sipush 38, .sipush 32, .castore, .dup, .sipush 39, .sipush 32, .castore, .dup, .sipush 40, .sipush 99, .castore, .dup, .sipush 41, .sipush 114, .castore, .dup, .sipush 42, .sipush 97, .castore, .dup, .sipush 43, .sipush 99, .castore, .dup, .sipush 44, .sipush 107, .castore, .dup, .sipush 45, .sipush 101, .castore, .dup, .sipush 46, .sipush 100, .castore, .dup, .sipush 47, .sipush 32, .castore, .dup, .sipush 48, .sipush 115, .castore, .dup, .sipush 49, .sipush 105, .castore, .dup, .sipush 50, .sipush 116, .castore, .dup, .sipush 51, .sipush 32, .castore, .dup, .sipush 52, .sipush 32, .castore, .dup, .sipush 53, .sipush 32, .jsr 371]),
  (371, [.castore, .dup, .sipush 54, .sipush 32, .castore, .dup, .sipush 55, .sipush 32, .castore, .dup, .sipush 56, .sipush 115, .castore, .dup, .sipush 57, .sipush 116, .castore, .dup, .sipush 58, .sipush 97, .castore, .dup, .sipush 59, .sipush 110, .castore, .dup, .sipush 60, .sipush 100, .castore, .dup, .sipush 61, .sipush 32, .castore, .dup, .sipush 62, .sipush 32, .castore, .dup, .sipush 63, .sipush 32, .castore, .dup, .sipush 64, .sipush 108, .castore, .dup, .sipush 65, .sipush 101, .castore, .dup, .sipush 66, .sipush 97, .castore, .dup, .sipush 67, .sipush 118, .castore, .dup, .sipush 68, .sipush 101, .castore, .dup, .sipush 69, .sipush 32, .castore, .dup, .sipush 70, .sipush 32, .castore, .dup, .sipush 71, .sipush 32, .castore, .dup, .sipush 72, .sipush 105, .castore, .dup, .sipush 73, .sipush 102, .jsr 491]),
  (491, [.castore, .dup, .sipush 74, .sipush 32, .castore, .dup, .sipush 75, .sipush 32, .castore, .dup, .sipush 76, .sipush 32, .castore, .dup, .sipush 77, .sipush 32, .castore, .dup, .sipush 78, .sipush 32, .castore, .dup, .sipush 79, .sipush 32, .castore, .dup, .sipush 80, .sipush 110, .castore, .dup, .sipush 81, .sipush 111, .castore, .dup, .sipush 82, .sipush 116, .castore, .dup, .sipush 83, .sipush 32, .castore, .dup, .sipush 84, .sipush 32, .castore, .dup, .sipush 85, .sipush 32, .castore, .dup, .sipush 86, .sipush 32, .castore, .dup, .sipush 87, .sipush 32, .castore, .dup, .sipush 88, .sipush 97, .castore, .dup, .sipush 89, .sipush 110, .castore, .dup, .sipush 90, .sipush 100, .castore, .dup, .sipush 91, .sipush 32, .castore, .dup, .sipush 92, .sipush 32, .castore, .dup, .sipush 93, .sipush 32, .jsr 611]),
  (611, [.castore, .dup, .sipush 94, .sipush 32, .castore, .dup, .sipush 95, .sipush 32, .castore, .dup, .sipush 96, .sipush 111, .castore, .dup, .sipush 97, .sipush 114, .castore, .dup, .sipush 98, .sipush 32, .castore, .dup, .sipush 99, .sipush 32, .castore, .dup, .sipush 100, .sipush 32, .castore, .dup, .sipush 101, .sipush 32, .castore, .dup, .sipush 102, .sipush 32, .castore, .dup, .sipush 103, .sipush 32, .castore, .dup, .sipush 104, .sipush 121, .castore, .dup, .sipush 105, .sipush 101, .castore, .dup, .sipush 106, .sipush 97, .castore, .dup, .sipush 107, .sipush 114, .castore, .dup, .sipush 108, .sipush 32, .castore, .dup, .sipush 109, .sipush 32, .castore, .dup, .sipush 110, .sipush 32, .castore, .dup, .sipush 111, .sipush 32, .castore, .dup, .sipush 112, .sipush 119, .castore, .dup, .sipush 113, .sipush 105, .jsr 731]),
  (731, [.castore, .dup, .sipush 114, .sipush 100, .castore, .dup, .sipush 115, .sipush 116, .castore, .dup, .sipush 116, .sipush 104, .castore, .dup, .sipush 117, .sipush 32, .castore, .dup, .sipush 118, .sipush 32, .castore, .dup, .sipush 119, .sipush 32, .castore, .dup, .sipush 120, .sipush 103, .castore, .dup, .sipush 121, .sipush 114, .castore, .dup, .sipush 122, .sipush 117, .castore, .dup, .sipush 123, .sipush 100, .castore, .dup, .sipush 124, .sipush 103, .castore, .dup, .sipush 125, .sipush 101, .castore, .dup, .sipush 126, .sipush 32, .castore, .dup, .sipush 127, .sipush 32, .castore, .dup, .sipush 128, .sipush 109, .castore, .dup, .sipush 129, .sipush 111, .castore, .dup, .sipush 130, .sipush 111, .castore, .dup, .sipush 131, .sipush 100, .castore, .dup, .sipush 132, .sipush 32, .castore, .dup, .sipush 133, .sipush 32, .jsr 857]),
  (857, [.castore, .dup, .sipush 134, .sipush 32, .castore, .dup, .sipush 135, .sipush 32, .castore, .dup, .sipush 136, .sipush 110, .castore, .dup, .sipush 137, .sipush 117, .castore, .dup, .sipush 138, .sipush 109, .castore, .dup, .sipush 139, .sipush 98, .castore, .dup, .sipush 140, .sipush 101, .castore, .dup, .sipush 141, .sipush 114, .castore, .dup, .sipush 142, .sipush 32, .castore, .dup, .sipush 143, .sipush 32, .castore, .instanceof 647, .aload 0, .sipush 200, .newarray .int, .instanceof 654, .aload 0, .sipush 24, .newarray .int, .instanceof 655, .aload 0, .sipush 370, .newarray .int, .instanceof 658, .aload 0, .sipush 4, .newarray .int, .instanceof 659, .aload 0, .sipush 4, .newarray .int, .instanceof 660, .aload 0, .sipush 16, .newarray .int, .instanceof 665, .aload 0, .sipush 16, .newarray .int, .instanceof 666, .aload 0, .sipush 12, .newarray .int, .instanceof 668, .aload 0, .sipush 4, .newarray .int, .dup, .sipush 0, .sipush (-1), .jsr 1002]),
  (1002, [.iastore, .dup, .sipush 1, .sipush (-1), .iastore, .dup, .sipush 2, .sipush (-1), .iastore, .dup, .sipush 3, .sipush (-1), .iastore, .instanceof 670, .aload 0, .sipush 4, .newarray .int, .instanceof 671, .aload 0, .sipush 160, .newarray .int, .instanceof 672, .aload 0, .sipush 4, .newarray .int, .dup, .sipush 0, .sipush (-1), .iastore, .dup, .sipush 1, .sipush (-1), .iastore, .dup, .sipush 2, .sipush (-1), .iastore, .dup, .sipush 3, .sipush (-1), .iastore, .instanceof 673, .aload 0, .sipush 4, .newarray .int, .instanceof 674, .aload 0, .sipush 30, .newarray .int, .instanceof 675, .aload 0, .checkcast 640, .sipush 1, .sipush 12, .iastore, .aload 0, .checkcast 640, .sipush 3, .sipush 5, .iastore, .aload 0, .checkcast 640, .sipush 5, .sipush 1, .iastore, .sipush 0, .istore 1, .jsr 1096]),
  (1096, [.iload 1, .sipush 16, .if_icmp .ge 1118, .aload 0, .checkcast 640, .sipush 10, .iload 1, .iadd, .sipush 4, .iastore, .iinc 1 1, .goto 1096]),
  (1118, [.sipush 0, .jsr 1119]),
  (1119, [.istore 1, .jsr 1120]),
  (1120, [.iload 1, .sipush 6, .if_icmp .ge 1142, .aload 0, .checkcast 640, .sipush 32, .iload 1, .iadd, .sipush 3, .iastore, .iinc 1 1, .goto 1120]),
  (1142, [.return_])]
/-- M.feed -/
def g_c171 : List (Nat × List Instr) := [(0, [.iload 3, .sipush 1, .sipush 8, .invokeinterface 172 3, .ifCond .ne 12, .sipush (-1), .ireturn]),
  (12, [.aload 0, .getfield 646, .iload 3, .iadd, .sipush 200, .if_icmp .le 27, .sipush (-2), .ireturn]),
  (27, [.sipush 0, .istore 4, .jsr 30]),
  (30, [.iload 4, .iload 3, .if_icmp .ge 73, .aload 0, .checkcast 645, .aload 0, .getfield 646, .lload 1, .sipush 8, .iload 4, .imul, .lshr, .goto_w 255, .land, .l2i, .iastore, .aload 0, .dup, .getfield 646, .sipush 1, .iadd, .putfield 646, .iinc 4 1, .goto 30]),
  (73, [.aload 0, .getfield 646, .ireturn])]
/-- M.in1 -/
def g_c172 : List (Nat × List Instr) := [(0, [.iload 0, .iload 1, .if_icmp .lt 14, .iload 0, .iload 2, .if_icmp .gt 14, .sipush 1, .goto 15]),
  (14, [.sipush 0, .jsr 15]),
  (15, [.areturn])]
/-- M.rules -/
def g_c173 : List (Nat × List Instr) := [(0, [.aload 0, .sipush 0, .putfield 648, .aload 0, .sipush 0, .putfield 653, .sipush 0, .istore 1, .aload 0, .invokeinterface 174 1, .sipush 1, .istore 2, .jsr 18]),
  (18, [.iload 2, .ifCond .eq 42, .aload 0, .getfield 650, .sipush (-1), .if_icmp .eq 42, .aload 0, .iload 1, .invokeinterface 179 2, .istore 2, .iinc 1 1, .goto 18]),
  (42, [.aload 0, .sipush 0, .putfield 646, .iload 2, .ifCond .ne 59, .sipush (-100), .aload 0, .getfield 649, .isub, .ireturn]),
  (59, [.aload 0, .checkcast 640, .sipush 7, .iload 1, .iastore, .sipush 0, .istore 3, .jsr 69]),
  (69, [.iload 3, .sipush 3, .iload 1, .imul, .if_icmp .ge 97, .aload 0, .checkcast 640, .sipush 98, .iload 3, .iadd, .aload 0, .checkcast 655, .iload 3, .iaload, .iastore, .iinc 3 1, .goto 69]),
  (97, [.sipush 0, .istore 3, .jsr 99]),
  (99, [.iload 3, .aload 0, .getfield 653, .if_icmp .ge 128, .aload 0, .checkcast 640, .sipush 122, .iload 3, .iadd, .aload 0, .checkcast 654, .iload 3, .iaload, .iastore, .iinc 3 1, .goto 99]),
  (128, [.iload 1, .ireturn])]
/-- M.next -/
def g_c174 : List (Nat × List Instr) := [(0, [.aload 0, .aload 0, .getfield 648, .invokeinterface 175 2, .sipush 32, .if_icmp .ne 26, .aload 0, .dup, .getfield 648, .sipush 1, .iadd, .putfield 648, .goto 0]),
  (26, [.aload 0, .aload 0, .getfield 648, .putfield 649, .aload 0, .aload 0, .getfield 648, .invokeinterface 175 2, .istore 1, .iload 1, .ifCond .ge 55, .aload 0, .sipush (-1), .putfield 650, .goto 110]),
  (55, [.iload 1, .sipush 97, .sipush 122, .invokeinterface 172 3, .ifCond .eq 73, .aload 0, .invokeinterface 176 1, .goto 110]),
  (73, [.iload 1, .sipush 48, .sipush 57, .invokeinterface 172 3, .ifCond .eq 91, .aload 0, .invokeinterface 178 1, .goto 110]),
  (91, [.aload 0, .sipush 200, .iload 1, .iadd, .putfield 650, .aload 0, .dup, .getfield 648, .sipush 1, .iadd, .putfield 648, .jsr 110]),
  (110, [.return_])]
/-- M.byteAt -/
def g_c175 : List (Nat × List Instr) := [(0, [.iload 1, .aload 0, .getfield 646, .if_icmp .ge 17, .aload 0, .checkcast 645, .iload 1, .iaload, .goto 18]),
  (17, [.sipush (-1), .jsr 18]),
  (18, [.ireturn])]
/-- M.readsName -/
def g_c176 : List (Nat × List Instr) := [(0, [.aload 0, .aload 0, .getfield 648, .invokeinterface 175 2, .sipush 97, .sipush 122, .invokeinterface 172 3, .ifCond .eq 31, .aload 0, .dup, .getfield 648, .sipush 1, .iadd, .putfield 648, .goto 0]),
  (31, [.aload 0, .sipush 101, .putfield 650, .sipush 0, .istore 1, .jsr 39]),
  (39, [.iload 1, .sipush 18, .if_icmp .ge 71, .aload 0, .aload 0, .iload 1, .invokeinterface 177 2, .ifCond .eq 58, .iload 1, .goto 62]),
  (58, [.aload 0, .getfield 650, .jsr 62]),
  (62, [.putfield 650, .iinc 1 1, .goto 39]),
  (71, [.return_])]
/-- M.isNameOf -/
def g_c177 : List (Nat × List Instr) := [(0, [.aload 0, .getfield 648, .aload 0, .getfield 649, .isub, .sipush 8, .if_icmp .gt 18, .sipush 1, .goto 19]),
  (18, [.sipush 0, .jsr 19]),
  (19, [.istore 2, .sipush 0, .istore 3, .jsr 22]),
  (22, [.iload 3, .sipush 8, .if_icmp .ge 86, .iload 2, .ifCond .eq 86, .aload 0, .checkcast 647, .sipush 8, .iload 1, .imul, .iload 3, .iadd, .caload, .aload 0, .getfield 649, .iload 3, .iadd, .aload 0, .getfield 648, .if_icmp .ge 69, .aload 0, .aload 0, .getfield 649, .iload 3, .iadd, .invokeinterface 175 2, .goto 71]),
  (69, [.sipush 32, .jsr 71]),
  (71, [.if_icmp .ne 78, .sipush 1, .goto 79]),
  (78, [.sipush 0, .jsr 79]),
  (79, [.istore 2, .iinc 3 1, .goto 22]),
  (86, [.iload 2, .areturn])]
/-- M.readsNumber -/
def g_c178 : List (Nat × List Instr) := [(0, [.aload 0, .sipush 0, .putfield 651, .jsr 5]),
  (5, [.aload 0, .aload 0, .getfield 648, .invokeinterface 175 2, .sipush 48, .sipush 57, .invokeinterface 172 3, .ifCond .eq 79, .aload 0, .aload 0, .getfield 648, .aload 0, .getfield 649, .isub, .sipush 4, .if_icmp .ge 59, .sipush 10, .aload 0, .getfield 651, .imul, .aload 0, .aload 0, .getfield 648, .invokeinterface 175 2, .iadd, .sipush 48, .isub, .goto 63]),
  (59, [.aload 0, .getfield 651, .jsr 63]),
  (63, [.putfield 651, .aload 0, .dup, .getfield 648, .sipush 1, .iadd, .putfield 648, .goto 5]),
  (79, [.aload 0, .aload 0, .getfield 648, .aload 0, .getfield 649, .isub, .sipush 4, .if_icmp .le 98, .sipush 101, .goto 100]),
  (98, [.sipush 100, .jsr 100]),
  (100, [.putfield 650, .return_])]
/-- M.readsRule -/
def g_c179 : List (Nat × List Instr) := [(0, [.iload 1, .sipush 8, .if_icmp .eq 18, .aload 0, .getfield 650, .sipush 0, .sipush 5, .invokeinterface 172 3, .ifCond .ne 20, .jsr 18]),
  (18, [.sipush 0, .areturn]),
  (20, [.aload 0, .checkcast 655, .sipush 3, .iload 1, .imul, .aload 0, .getfield 650, .iastore, .aload 0, .invokeinterface 174 1, .aload 0, .sipush 0, .putfield 652, .aload 0, .sipush 9, .invokeinterface 180 2, .ifCond .eq 59, .aload 0, .invokeinterface 181 1, .ifCond .ne 59, .sipush 0, .areturn]),
  (59, [.aload 0, .getfield 650, .sipush 6, .sipush 8, .invokeinterface 172 3, .ifCond .ne 75, .sipush 0, .areturn]),
  (75, [.aload 0, .checkcast 655, .sipush 3, .iload 1, .imul, .sipush 1, .iadd, .aload 0, .getfield 650, .sipush 6, .isub, .iastore, .aload 0, .checkcast 655, .sipush 3, .iload 1, .imul, .sipush 2, .iadd, .aload 0, .getfield 653, .iastore, .aload 0, .invokeinterface 174 1, .aload 0, .sipush 259, .invokeinterface 180 2, .areturn])]
/-- M.takes -/
def g_c180 : List (Nat × List Instr) := [(0, [.aload 0, .getfield 650, .iload 1, .if_icmp .ne 12, .sipush 1, .goto 13]),
  (12, [.sipush 0, .jsr 13]),
  (13, [.istore 2, .iload 2, .ifCond .eq 22, .aload 0, .invokeinterface 174 1, .jsr 22]),
  (22, [.iload 2, .areturn])]
/-- M.readsCondition -/
def g_c181 : List (Nat × List Instr) := [(0, [.aload 0, .invokeinterface 182 1, .istore 1, .jsr 5]),
  (5, [.iload 1, .ifCond .eq 37, .aload 0, .sipush 12, .invokeinterface 180 2, .ifCond .eq 37, .aload 0, .invokeinterface 182 1, .istore 1, .iload 1, .ifCond .eq 5, .aload 0, .sipush 10014, .invokeinterface 187 2, .goto 5]),
  (37, [.iload 1, .areturn])]
/-- M.readsAll -/
def g_c182 : List (Nat × List Instr) := [(0, [.aload 0, .invokeinterface 183 1, .istore 1, .jsr 5]),
  (5, [.iload 1, .ifCond .eq 37, .aload 0, .sipush 11, .invokeinterface 180 2, .ifCond .eq 37, .aload 0, .invokeinterface 183 1, .istore 1, .iload 1, .ifCond .eq 5, .aload 0, .sipush 10013, .invokeinterface 187 2, .goto 5]),
  (37, [.iload 1, .areturn])]
/-- M.readsOne -/
def g_c183 : List (Nat × List Instr) := [(0, [.sipush 0, .istore 1, .jsr 2]),
  (2, [.aload 0, .sipush 10, .invokeinterface 180 2, .ifCond .eq 17, .iinc 1 1, .goto 2]),
  (17, [.aload 0, .getfield 650, .sipush 240, .if_icmp .ne 34, .aload 0, .invokeinterface 184 1, .goto 38]),
  (34, [.aload 0, .invokeinterface 185 1, .jsr 38]),
  (38, [.istore 2, .sipush 0, .istore 3, .jsr 41]),
  (41, [.iload 3, .iload 1, .if_icmp .ge 63, .iload 2, .ifCond .eq 63, .aload 0, .sipush 10015, .invokeinterface 187 2, .iinc 3 1, .goto 41]),
  (63, [.iload 2, .areturn])]
/-- M.readsWithin -/
def g_c184 : List (Nat × List Instr) := [(0, [.aload 0, .getfield 652, .sipush 3, .if_icmp .ne 10, .sipush 0, .areturn]),
  (10, [.aload 0, .dup, .getfield 652, .sipush 1, .iadd, .putfield 652, .aload 0, .invokeinterface 174 1, .aload 0, .invokeinterface 181 1, .ifCond .eq 41, .aload 0, .sipush 241, .invokeinterface 180 2, .ifCond .ne 43, .jsr 41]),
  (41, [.sipush 0, .areturn]),
  (43, [.aload 0, .dup, .getfield 652, .sipush 1, .isub, .putfield 652, .sipush 1, .areturn])]
/-- M.readsLike -/
def g_c185 : List (Nat × List Instr) := [(0, [.aload 0, .invokeinterface 186 1, .ifCond .ne 9, .sipush 0, .areturn]),
  (9, [.aload 0, .getfield 650, .sipush 260, .if_icmp .ne 25, .sipush 10010, .goto 58]),
  (25, [.aload 0, .getfield 650, .sipush 261, .if_icmp .ne 41, .sipush 10011, .goto 58]),
  (41, [.aload 0, .getfield 650, .sipush 262, .if_icmp .ne 57, .sipush 10012, .goto 58]),
  (57, [.sipush 0, .jsr 58]),
  (58, [.istore 1, .iload 1, .ifCond .ne 65, .sipush 0, .areturn]),
  (65, [.aload 0, .invokeinterface 174 1, .aload 0, .invokeinterface 186 1, .ifCond .ne 78, .sipush 0, .areturn]),
  (78, [.aload 0, .iload 1, .invokeinterface 187 2, .sipush 1, .areturn])]
/-- M.readsValue -/
def g_c186 : List (Nat × List Instr) := [(0, [.aload 0, .getfield 650, .sipush 100, .if_icmp .eq 23, .aload 0, .getfield 650, .sipush 13, .sipush 17, .invokeinterface 172 3, .ifCond .eq 27, .jsr 23]),
  (23, [.sipush 1, .goto 28]),
  (27, [.sipush 0, .jsr 28]),
  (28, [.istore 1, .iload 1, .ifCond .eq 68, .aload 0, .aload 0, .getfield 650, .sipush 100, .if_icmp .ne 50, .aload 0, .getfield 651, .goto 61]),
  (50, [.sipush 10000, .aload 0, .getfield 650, .iadd, .sipush 13, .isub, .jsr 61]),
  (61, [.invokeinterface 187 2, .aload 0, .invokeinterface 174 1, .jsr 68]),
  (68, [.iload 1, .areturn])]
/-- M.lays -/
def g_c187 : List (Nat × List Instr) := [(0, [.aload 0, .checkcast 654, .aload 0, .getfield 653, .iload 1, .iastore, .aload 0, .dup, .getfield 653, .sipush 1, .iadd, .putfield 653, .return_])]
/-- M.plate -/
def g_c188 : List (Nat × List Instr) := [(0, [.iload 1, .sipush 1, .sipush 5, .invokeinterface 172 3, .ifCond .eq 31, .iload 2, .invokeinterface 189 1, .ifCond .eq 31, .iload 3, .invokeinterface 190 1, .ifCond .eq 31, .iload 4, .invokeinterface 191 1, .ifCond .ne 33, .jsr 31]),
  (31, [.sipush (-1), .ireturn]),
  (33, [.aload 0, .checkcast 640, .sipush 6, .iaload, .sipush 6, .if_icmp .ne 48, .sipush (-2), .ireturn]),
  (48, [.aload 0, .checkcast 640, .sipush 6, .iaload, .istore 5, .aload 0, .iload 5, .sipush 0, .iload 1, .invokeinterface 192 4, .aload 0, .iload 5, .sipush 1, .iload 2, .invokeinterface 192 4, .aload 0, .iload 5, .sipush 2, .iload 3, .invokeinterface 192 4, .aload 0, .iload 5, .sipush 3, .iload 4, .invokeinterface 192 4, .aload 0, .iload 5, .sipush 4, .sipush 0, .invokeinterface 192 4, .aload 0, .checkcast 640, .sipush 6, .dup2, .iaload, .sipush 1, .iadd, .iastore, .iload 5, .ireturn])]
/-- M.isFirst -/
def g_c189 : List (Nat × List Instr) := [(0, [.iload 0, .sipush 0, .sipush 39, .invokeinterface 172 3, .areturn])]
/-- M.isDigit -/
def g_c190 : List (Nat × List Instr) := [(0, [.iload 0, .sipush 0, .sipush 9, .invokeinterface 172 3, .areturn])]
/-- M.isHome -/
def g_c191 : List (Nat × List Instr) := [(0, [.iload 0, .sipush 0, .sipush 5, .invokeinterface 172 3, .areturn])]
/-- M.puts -/
def g_c192 : List (Nat × List Instr) := [(0, [.aload 0, .checkcast 640, .sipush 38, .sipush 6, .iload 1, .imul, .iadd, .iload 2, .iadd, .iload 3, .iastore, .return_])]
/-- M.plateOf -/
def g_c193 : List (Nat × List Instr) := [(0, [.aload 0, .iload 1, .invokeinterface 194 2, .ifCond .eq 18, .iload 2, .sipush 0, .sipush 8, .invokeinterface 172 3, .ifCond .ne 20, .jsr 18]),
  (18, [.sipush (-1), .ireturn]),
  (20, [.iload 2, .lookupswitch 84 #[(5, 52), (6, 58), (7, 64), (8, 78)]]),
  (52, [.aload 0, .iload 1, .invokeinterface 195 2, .ireturn]),
  (58, [.aload 0, .iload 1, .invokeinterface 198 2, .ireturn]),
  (64, [.aload 0, .iload 1, .invokeinterface 199 2, .ifCond .eq 76, .sipush 1, .goto 77]),
  (76, [.sipush 0, .jsr 77]),
  (77, [.ireturn]),
  (78, [.aload 0, .iload 1, .invokeinterface 200 2, .ireturn]),
  (84, [.aload 0, .iload 1, .iload 2, .invokeinterface 196 3, .ireturn])]
/-- M.isPiece -/
def g_c194 : List (Nat × List Instr) := [(0, [.iload 1, .sipush 0, .aload 0, .checkcast 640, .sipush 6, .iaload, .sipush 1, .isub, .invokeinterface 172 3, .areturn])]
/-- M.spansOf -/
def g_c195 : List (Nat × List Instr) := [(0, [.aload 0, .iload 1, .sipush 0, .invokeinterface 196 3, .aload 0, .iload 1, .sipush 2, .invokeinterface 196 3, .aload 0, .checkcast 640, .sipush 0, .iaload, .invokeinterface 197 3, .ireturn])]
/-- M.get -/
def g_c196 : List (Nat × List Instr) := [(0, [.aload 0, .checkcast 640, .sipush 38, .sipush 6, .iload 1, .imul, .iadd, .iload 2, .iadd, .iaload, .ireturn])]
/-- M.spansBy -/
def g_c197 : List (Nat × List Instr) := [(0, [.sipush 1, .iload 1, .sipush 2, .idiv, .iadd, .istore 3, .iload 3, .sipush 2, .if_icmp .le 15, .sipush 2, .goto 16]),
  (15, [.iload 3, .jsr 16]),
  (16, [.istore 4, .iload 0, .lookupswitch 91 #[(1, 52), (2, 56), (3, 60), (4, 75), (5, 78)]]),
  (52, [.sipush 2, .iload 3, .imul, .ireturn]),
  (56, [.iload 3, .sipush 2, .iadd, .ireturn]),
  (60, [.iload 2, .sipush 2, .irem, .sipush 1, .if_icmp .ne 71, .sipush 1, .goto 74]),
  (71, [.iload 3, .sipush 2, .iadd, .jsr 74]),
  (74, [.ireturn]),
  (75, [.iload 4, .ireturn]),
  (78, [.iload 2, .sipush 3, .irem, .ifCond .ne 88, .sipush 0, .goto 90]),
  (88, [.iload 4, .jsr 90]),
  (90, [.ireturn]),
  (91, [.iload 3, .ireturn])]
/-- M.grudgeOf -/
def g_c198 : List (Nat × List Instr) := [(0, [.aload 0, .checkcast 640, .sipush 26, .aload 0, .iload 1, .sipush 3, .invokeinterface 196 3, .iadd, .iaload, .istore 2, .aload 0, .iload 1, .sipush 0, .invokeinterface 196 3, .lookupswitch 91 #[(1, 56), (2, 60), (3, 64), (4, 81), (5, 85)]]),
  (56, [.iload 2, .sipush 2, .iadd, .ireturn]),
  (60, [.iload 2, .iload 1, .iadd, .ireturn]),
  (64, [.iload 2, .iload 1, .iadd, .sipush 3, .if_icmp .ge 75, .sipush 0, .goto 80]),
  (75, [.iload 2, .iload 1, .iadd, .sipush 3, .isub, .jsr 80]),
  (80, [.ireturn]),
  (81, [.iload 2, .sipush 2, .idiv, .ireturn]),
  (85, [.iload 2, .sipush 2, .idiv, .sipush 2, .imul, .ireturn]),
  (91, [.iload 2, .ireturn])]
/-- M.wouldSit -/
def g_c199 : List (Nat × List Instr) := [(0, [.aload 0, .iload 1, .sipush 4, .invokeinterface 196 3, .ifCond .ne 42, .aload 0, .iload 1, .invokeinterface 198 2, .aload 0, .checkcast 640, .sipush 3, .iaload, .aload 0, .checkcast 640, .sipush 32, .aload 0, .iload 1, .sipush 3, .invokeinterface 196 3, .iadd, .iaload, .iadd, .if_icmp .gt 42, .sipush 1, .goto 43]),
  (42, [.sipush 0, .jsr 43]),
  (43, [.areturn])]
/-- M.willOf -/
def g_c200 : List (Nat × List Instr) := [(0, [.sipush 0, .istore 2, .jsr 2]),
  (2, [.iload 2, .aload 0, .checkcast 640, .sipush 7, .iaload, .if_icmp .ge 53, .aload 0, .iload 1, .sipush 0, .invokeinterface 196 3, .aload 0, .iload 2, .sipush 0, .invokeinterface 201 3, .invokeinterface 202 2, .ifCond .eq 47, .aload 0, .iload 2, .iload 1, .invokeinterface 204 3, .ifCond .eq 47, .aload 0, .iload 2, .sipush 1, .invokeinterface 201 3, .ireturn]),
  (47, [.iinc 2 1, .goto 2]),
  (53, [.sipush 0, .ireturn])]
/-- M.ruleOf -/
def g_c201 : List (Nat × List Instr) := [(0, [.aload 0, .checkcast 640, .sipush 98, .sipush 3, .iload 1, .imul, .iadd, .iload 2, .iadd, .iaload, .ireturn])]
/-- M.isUnder -/
def g_c202 : List (Nat × List Instr) := [(0, [.iload 0, .istore 2, .jsr 2]),
  (2, [.iload 2, .iload 1, .if_icmp .eq 19, .iload 2, .ifCond .eq 19, .iload 2, .invokeinterface 203 1, .istore 2, .goto 2]),
  (19, [.iload 2, .iload 1, .if_icmp .ne 28, .sipush 1, .goto 29]),
  (28, [.sipush 0, .jsr 29]),
  (29, [.areturn])]
/-- M.above -/
def g_c203 : List (Nat × List Instr) := [(0, [.iload 0, .sipush 3, .if_icmp .ne 9, .sipush 2, .goto 19]),
  (9, [.iload 0, .sipush 5, .if_icmp .ne 18, .sipush 4, .goto 19]),
  (18, [.sipush 0, .jsr 19]),
  (19, [.ireturn])]
/-- M.holdsFor -/
def g_c204 : List (Nat × List Instr) := [(0, [.sipush 0, .istore 3, .iload 1, .ifCond .ne 10, .sipush 0, .goto 18]),
  (10, [.aload 0, .iload 1, .sipush 1, .isub, .sipush 2, .invokeinterface 201 3, .jsr 18]),
  (18, [.istore 4, .jsr 20]),
  (20, [.iload 4, .aload 0, .iload 1, .sipush 2, .invokeinterface 201 3, .if_icmp .ge 152, .aload 0, .checkcast 640, .sipush 122, .iload 4, .iadd, .iaload, .istore 5, .iload 5, .sipush 10010, .if_icmp .ge 87, .aload 0, .checkcast 644, .iload 3, .iload 5, .sipush 10000, .if_icmp .ge 69, .iload 5, .goto 80]),
  (69, [.aload 0, .iload 5, .sipush 10000, .isub, .iload 2, .invokeinterface 205 3, .jsr 80]),
  (80, [.iastore, .iinc 3 1, .goto 146]),
  (87, [.iload 5, .sipush 10015, .if_icmp .ne 116, .aload 0, .checkcast 644, .iload 3, .sipush 1, .isub, .sipush 1, .aload 0, .checkcast 644, .iload 3, .sipush 1, .isub, .iaload, .isub, .iastore, .goto 146]),
  (116, [.iinc 3 (-1), .aload 0, .checkcast 644, .iload 3, .sipush 1, .isub, .iload 5, .aload 0, .checkcast 644, .iload 3, .sipush 1, .isub, .iaload, .aload 0, .checkcast 644, .iload 3, .iaload, .invokeinterface 206 3, .iastore, .jsr 146]),
  (146, [.iinc 4 1, .goto 20]),
  (152, [.iload 3, .ifCond .eq 165, .aload 0, .checkcast 644, .sipush 0, .iaload, .ifCond .eq 169, .jsr 165]),
  (165, [.sipush 1, .goto 170]),
  (169, [.sipush 0, .jsr 170]),
  (170, [.areturn])]
/-- M.knownOf -/
def g_c205 : List (Nat × List Instr) := [(0, [.iload 1, .ifCond .ne 13, .aload 0, .checkcast 640, .sipush 0, .iaload, .goto 55]),
  (13, [.iload 1, .sipush 1, .if_icmp .ne 27, .aload 0, .iload 2, .sipush 2, .invokeinterface 196 3, .goto 55]),
  (27, [.iload 1, .sipush 2, .if_icmp .ne 40, .aload 0, .iload 2, .invokeinterface 198 2, .goto 55]),
  (40, [.iload 1, .sipush 3, .if_icmp .ne 54, .aload 0, .checkcast 640, .sipush 3, .iaload, .goto 55]),
  (54, [.iload 2, .jsr 55]),
  (55, [.ireturn])]
/-- M.joined -/
def g_c206 : List (Nat × List Instr) := [(0, [.iload 0, .lookupswitch 79 #[(10010, 32), (10011, 43), (10012, 54), (10013, 65)]]),
  (32, [.iload 1, .iload 2, .if_icmp .ge 41, .sipush 1, .goto 42]),
  (41, [.sipush 0, .jsr 42]),
  (42, [.ireturn]),
  (43, [.iload 1, .iload 2, .if_icmp .ne 52, .sipush 1, .goto 53]),
  (52, [.sipush 0, .jsr 53]),
  (53, [.ireturn]),
  (54, [.iload 1, .iload 2, .if_icmp .le 63, .sipush 1, .goto 64]),
  (63, [.sipush 0, .jsr 64]),
  (64, [.ireturn]),
  (65, [.iload 1, .ifCond .eq 77, .iload 2, .ifCond .eq 77, .sipush 1, .goto 78]),
  (77, [.sipush 0, .jsr 78]),
  (78, [.ireturn]),
  (79, [.iload 1, .ifCond .ne 87, .iload 2, .ifCond .eq 91, .jsr 87]),
  (87, [.sipush 1, .goto 92]),
  (91, [.sipush 0, .jsr 92]),
  (92, [.ireturn])]
/-- M.change -/
def g_c207 : List (Nat × List Instr) := [(0, [.iload 2, .sipush 1, .if_icmp .ne 10, .sipush 39, .goto 30]),
  (10, [.iload 2, .sipush 3, .if_icmp .ne 19, .sipush 5, .goto 30]),
  (19, [.iload 2, .sipush 4, .if_icmp .ne 28, .sipush 1, .goto 30]),
  (28, [.sipush 9, .jsr 30]),
  (30, [.istore 4, .aload 0, .iload 1, .invokeinterface 194 2, .ifCond .eq 76, .iload 2, .sipush 1, .sipush 4, .invokeinterface 172 3, .ifCond .eq 76, .iload 3, .sipush 0, .iload 4, .invokeinterface 172 3, .ifCond .eq 76, .aload 0, .sipush 38, .sipush 6, .iload 1, .imul, .iadd, .iload 2, .iadd, .iload 3, .invokeinterface 208 3, .goto 77]),
  (76, [.sipush (-1), .jsr 77]),
  (77, [.ireturn])]
/-- M.becomes -/
def g_c208 : List (Nat × List Instr) := [(0, [.aload 0, .checkcast 640, .iload 1, .iaload, .istore 3, .aload 0, .checkcast 640, .iload 1, .iload 2, .iastore, .iload 3, .ireturn])]
/-- M.remake -/
def g_c209 : List (Nat × List Instr) := [(0, [.aload 0, .iload 1, .invokeinterface 194 2, .ifCond .eq 32, .iload 2, .sipush 1, .sipush 5, .invokeinterface 172 3, .ifCond .eq 32, .aload 0, .sipush 38, .sipush 6, .iload 1, .imul, .iadd, .iload 2, .invokeinterface 208 3, .goto 33]),
  (32, [.sipush (-1), .jsr 33]),
  (33, [.ireturn])]
/-- M.news -/
def g_c210 : List (Nat × List Instr) := [(0, [.iload 1, .sipush 0, .sipush 15, .invokeinterface 172 3, .ifCond .eq 32, .iload 2, .sipush 0, .sipush 15, .invokeinterface 172 3, .ifCond .eq 32, .aload 0, .sipush 10, .iload 1, .iadd, .iload 2, .invokeinterface 208 3, .goto 33]),
  (32, [.sipush (-1), .jsr 33]),
  (33, [.ireturn])]
/-- M.home -/
def g_c211 : List (Nat × List Instr) := [(0, [.iload 1, .invokeinterface 191 1, .ifCond .eq 44, .iload 2, .sipush 0, .sipush 1, .invokeinterface 172 3, .ifCond .eq 44, .iload 3, .invokeinterface 190 1, .ifCond .eq 44, .aload 0, .iload 2, .ifCond .ne 33, .sipush 26, .goto 35]),
  (33, [.sipush 32, .jsr 35]),
  (35, [.iload 1, .iadd, .iload 3, .invokeinterface 208 3, .goto 45]),
  (44, [.sipush (-1), .jsr 45]),
  (45, [.ireturn])]
/-- M.homeOf -/
def g_c212 : List (Nat × List Instr) := [(0, [.iload 1, .invokeinterface 191 1, .ifCond .eq 37, .iload 2, .sipush 0, .sipush 1, .invokeinterface 172 3, .ifCond .eq 37, .aload 0, .checkcast 640, .iload 2, .ifCond .ne 29, .sipush 26, .goto 31]),
  (29, [.sipush 32, .jsr 31]),
  (31, [.iload 1, .iadd, .iaload, .goto 38]),
  (37, [.sipush (-1), .jsr 38]),
  (38, [.ireturn])]
/-- M.family -/
def g_c213 : List (Nat × List Instr) := [(0, [.iload 1, .sipush 0, .sipush 1, .invokeinterface 172 3, .ifCond .eq 39, .iload 2, .sipush 0, .iload 1, .ifCond .ne 20, .sipush 9, .goto 22]),
  (20, [.sipush 40, .jsr 22]),
  (22, [.invokeinterface 172 3, .ifCond .eq 39, .aload 0, .sipush 3, .iload 1, .iadd, .iload 2, .invokeinterface 208 3, .goto 40]),
  (39, [.sipush (-1), .jsr 40]),
  (40, [.ireturn])]
/-- M.ends -/
def g_c214 : List (Nat × List Instr) := [(0, [.iload 1, .sipush 1, .sipush 16, .invokeinterface 172 3, .ifCond .ne 14, .sipush (-1), .goto 35]),
  (14, [.iload 1, .aload 0, .checkcast 640, .sipush 0, .iaload, .if_icmp .ge 29, .sipush (-4), .goto 35]),
  (29, [.aload 0, .sipush 1, .iload 1, .invokeinterface 208 3, .jsr 35]),
  (35, [.ireturn])]
/-- M.anew -/
def g_c215 : List (Nat × List Instr) := [(0, [.aload 0, .checkcast 640, .sipush 2, .sipush 0, .iastore, .aload 0, .checkcast 640, .sipush 3, .sipush 5, .iastore, .aload 0, .checkcast 640, .sipush 4, .sipush 0, .iastore, .sipush 0, .istore 1, .jsr 23]),
  (23, [.iload 1, .aload 0, .checkcast 640, .sipush 6, .iaload, .if_icmp .ge 47, .aload 0, .iload 1, .sipush 4, .sipush 0, .invokeinterface 192 4, .iinc 1 1, .goto 23]),
  (47, [.aload 0, .sipush 0, .sipush 0, .invokeinterface 208 3, .ireturn])]
/-- M.state -/
def g_c216 : List (Nat × List Instr) := [(0, [.iload 1, .lookupswitch 132 #[(0, 48), (1, 55), (2, 62), (3, 69), (4, 82), (5, 88), (6, 118), (7, 125)]]),
  (48, [.aload 0, .checkcast 640, .sipush 0, .iaload, .ireturn]),
  (55, [.aload 0, .checkcast 640, .sipush 1, .iaload, .ireturn]),
  (62, [.aload 0, .checkcast 640, .sipush 2, .iaload, .ireturn]),
  (69, [.aload 0, .invokeinterface 217 1, .ifCond .eq 80, .sipush 1, .goto 81]),
  (80, [.sipush 0, .jsr 81]),
  (81, [.ireturn]),
  (82, [.aload 0, .sipush 4, .invokeinterface 218 2, .ireturn]),
  (88, [.aload 0, .checkcast 640, .sipush 0, .iaload, .sipush 16, .if_icmp .ge 116, .aload 0, .checkcast 640, .sipush 10, .aload 0, .checkcast 640, .sipush 0, .iaload, .iadd, .iaload, .goto 117]),
  (116, [.sipush 0, .jsr 117]),
  (117, [.ireturn]),
  (118, [.aload 0, .checkcast 640, .sipush 3, .iaload, .ireturn]),
  (125, [.aload 0, .checkcast 640, .sipush 4, .iaload, .ireturn]),
  (132, [.sipush (-1), .ireturn])]
/-- M.isOver -/
def g_c217 : List (Nat × List Instr) := [(0, [.aload 0, .checkcast 640, .sipush 0, .iaload, .aload 0, .checkcast 640, .sipush 1, .iaload, .if_icmp .lt 19, .sipush 1, .goto 20]),
  (19, [.sipush 0, .jsr 20]),
  (20, [.areturn])]
/-- M.those -/
def g_c218 : List (Nat × List Instr) := [(0, [.sipush 0, .istore 2, .sipush 0, .istore 3, .jsr 4]),
  (4, [.iload 3, .aload 0, .checkcast 640, .sipush 6, .iaload, .if_icmp .ge 40, .iload 2, .aload 0, .iload 3, .iload 1, .invokeinterface 196 3, .ifCond .le 31, .sipush 1, .iload 3, .ishl, .goto 32]),
  (31, [.sipush 0, .jsr 32]),
  (32, [.ior, .istore 2, .iinc 3 1, .goto 4]),
  (40, [.iload 2, .ireturn])]
/-- M.year -/
def g_c219 : List (Nat × List Instr) := [(0, [.aload 0, .invokeinterface 217 1, .ifCond .eq 12, .sipush (-4), .goto 17]),
  (12, [.aload 0, .sipush (-1), .invokeinterface 220 2, .jsr 17]),
  (17, [.ireturn])]
/-- M.goesBy -/
def g_c220 : List (Nat × List Instr) := [(0, [.aload 0, .checkcast 640, .sipush 3, .aload 0, .checkcast 640, .sipush 0, .iaload, .sipush 16, .if_icmp .ge 42, .aload 0, .checkcast 640, .sipush 3, .iaload, .aload 0, .checkcast 640, .sipush 10, .aload 0, .checkcast 640, .sipush 0, .iaload, .iadd, .iaload, .invokeinterface 221 2, .goto 48]),
  (42, [.aload 0, .checkcast 640, .sipush 3, .iaload, .jsr 48]),
  (48, [.iastore, .iload 1, .ifCond .ge 60, .aload 0, .invokeinterface 223 1, .goto 63]),
  (60, [.iload 1, .sipush 1, .isub, .jsr 63]),
  (63, [.istore 2, .iload 2, .ifCond .lt 76, .aload 0, .iload 2, .invokeinterface 224 2, .goto 77]),
  (76, [.sipush 0, .jsr 77]),
  (77, [.istore 3, .iload 3, .aload 0, .invokeinterface 226 1, .iadd, .istore 3, .aload 0, .checkcast 640, .sipush 0, .dup2, .iaload, .sipush 1, .iadd, .iastore, .aload 0, .checkcast 640, .sipush 2, .dup2, .iaload, .iload 3, .iadd, .iastore, .iload 3, .ireturn])]
/-- M.moodBy -/
def g_c221 : List (Nat × List Instr) := [(0, [.iload 1, .sipush 4, .idiv, .istore 2, .iload 0, .sipush 5, .if_icmp .ge 15, .sipush 5, .iload 0, .isub, .goto 18]),
  (15, [.iload 0, .sipush 5, .isub, .jsr 18]),
  (18, [.istore 3, .iload 3, .iload 2, .if_icmp .ge 28, .iload 3, .goto 29]),
  (28, [.iload 2, .jsr 29]),
  (29, [.istore 4, .iload 1, .sipush 4, .irem, .lookupswitch 95 #[(0, 60), (1, 69), (2, 78)]]),
  (60, [.iload 0, .iload 2, .iadd, .sipush 9, .invokeinterface 222 2, .ireturn]),
  (69, [.iload 0, .iload 2, .isub, .sipush 9, .invokeinterface 222 2, .ireturn]),
  (78, [.iload 0, .sipush 5, .if_icmp .ge 90, .iload 0, .iload 4, .iadd, .goto 94]),
  (90, [.iload 0, .iload 4, .isub, .jsr 94]),
  (94, [.ireturn]),
  (95, [.iload 0, .ireturn])]
/-- M.held -/
def g_c222 : List (Nat × List Instr) := [(0, [.iload 0, .ifCond .ge 8, .sipush 0, .goto 18]),
  (8, [.iload 0, .iload 1, .if_icmp .le 17, .iload 1, .goto 18]),
  (17, [.iload 0, .jsr 18]),
  (18, [.ireturn])]
/-- M.restOne -/
def g_c223 : List (Nat × List Instr) := [(0, [.sipush 0, .istore 1, .jsr 2]),
  (2, [.iload 1, .aload 0, .checkcast 640, .sipush 6, .iaload, .if_icmp .ge 29, .aload 0, .iload 1, .invokeinterface 199 2, .ifCond .eq 23, .iload 1, .ireturn]),
  (23, [.iinc 1 1, .goto 2]),
  (29, [.sipush (-1), .ireturn])]
/-- M.meets -/
def g_c224 : List (Nat × List Instr) := [(0, [.aload 0, .iload 1, .invokeinterface 200 2, .istore 2, .iload 2, .ifCond .ne 16, .aload 0, .iload 1, .invokeinterface 225 2, .ireturn]),
  (16, [.iload 2, .sipush 2, .if_icmp .ne 57, .aload 0, .iload 1, .sipush 4, .invokeinterface 196 3, .sipush 1, .if_icmp .ne 57, .aload 0, .iload 1, .sipush 4, .sipush 0, .invokeinterface 192 4, .aload 0, .checkcast 640, .sipush 3, .aload 0, .checkcast 640, .sipush 3, .iaload, .sipush 1, .iadd, .sipush 9, .invokeinterface 222 2, .iastore, .jsr 57]),
  (57, [.sipush 0, .ireturn])]
/-- M.sits -/
def g_c225 : List (Nat × List Instr) := [(0, [.aload 0, .iload 1, .sipush 4, .invokeinterface 196 3, .sipush 1, .if_icmp .ne 12, .sipush 0, .ireturn]),
  (12, [.aload 0, .iload 1, .invokeinterface 199 2, .istore 2, .aload 0, .checkcast 640, .sipush 3, .aload 0, .checkcast 640, .sipush 3, .iaload, .iload 2, .ifCond .eq 43, .aload 0, .iload 1, .invokeinterface 198 2, .sipush 3, .idiv, .goto 44]),
  (43, [.sipush 1, .jsr 44]),
  (44, [.isub, .sipush 9, .invokeinterface 222 2, .iastore, .aload 0, .iload 1, .sipush 4, .iload 2, .ifCond .eq 62, .sipush 1, .goto 63]),
  (62, [.sipush 0, .jsr 63]),
  (63, [.invokeinterface 192 4, .iload 2, .ifCond .eq 74, .sipush 1, .goto 75]),
  (74, [.sipush 0, .jsr 75]),
  (75, [.ireturn])]
/-- M.walksOn -/
def g_c226 : List (Nat × List Instr) := [(0, [.aload 0, .checkcast 640, .sipush 3, .iaload, .sipush 1, .iadd, .istore 1, .sipush 0, .istore 2, .jsr 11]),
  (11, [.iload 2, .iload 1, .if_icmp .ge 56, .aload 0, .checkcast 640, .sipush 4, .iaload, .sipush 40, .if_icmp .ge 56, .aload 0, .aload 0, .checkcast 640, .sipush 4, .iaload, .invokeinterface 227 2, .ifCond .eq 56, .aload 0, .checkcast 640, .sipush 4, .dup2, .iaload, .sipush 1, .iadd, .iastore, .iinc 2 1, .goto 11]),
  (56, [.sipush 2, .iload 2, .imul, .ireturn])]
/-- M.isThere -/
def g_c227 : List (Nat × List Instr) := [(0, [.sipush 0, .istore 2, .sipush 0, .istore 3, .jsr 4]),
  (4, [.iload 3, .aload 0, .checkcast 640, .sipush 6, .iaload, .if_icmp .ge 50, .iload 2, .ifCond .ne 38, .aload 0, .iload 3, .sipush 4, .invokeinterface 196 3, .sipush 1, .if_icmp .ne 42, .aload 0, .iload 3, .iload 1, .invokeinterface 228 3, .ifCond .eq 42, .jsr 38]),
  (38, [.sipush 1, .goto 43]),
  (42, [.sipush 0, .jsr 43]),
  (43, [.istore 2, .iinc 3 1, .goto 4]),
  (50, [.iload 2, .areturn])]
/-- M.isSpanned -/
def g_c228 : List (Nat × List Instr) := [(0, [.iload 2, .aload 0, .iload 1, .sipush 1, .invokeinterface 196 3, .aload 0, .iload 1, .sipush 1, .invokeinterface 196 3, .aload 0, .iload 1, .invokeinterface 195 2, .iadd, .sipush 1, .isub, .invokeinterface 172 3, .areturn])]
/-- M.on -/
def g_c229 : List (Nat × List Instr) := [(0, [.iload 1, .sipush 0, .sipush 16, .invokeinterface 172 3, .ifCond .ne 12, .sipush (-1), .ireturn]),
  (12, [.aload 0, .invokeinterface 230 1, .aload 0, .iload 1, .invokeinterface 231 2, .istore 2, .aload 0, .invokeinterface 232 1, .iload 2, .ireturn])]
/-- M.layDown -/
def g_c230 : List (Nat × List Instr) := [(0, [.sipush 0, .istore 1, .jsr 2]),
  (2, [.iload 1, .sipush 74, .if_icmp .ge 26, .aload 0, .checkcast 642, .iload 1, .aload 0, .checkcast 640, .iload 1, .iaload, .iastore, .iinc 1 1, .goto 2]),
  (26, [.return_])]
/-- M.restOf -/
def g_c231 : List (Nat × List Instr) := [(0, [.sipush 0, .istore 2, .sipush 0, .istore 3, .jsr 4]),
  (4, [.iload 3, .iload 1, .if_icmp .ge 30, .aload 0, .invokeinterface 217 1, .ifCond .ne 30, .iload 2, .aload 0, .sipush (-1), .invokeinterface 220 2, .iadd, .istore 2, .iinc 3 1, .goto 4]),
  (30, [.iload 2, .ireturn])]
/-- M.layBack -/
def g_c232 : List (Nat × List Instr) := [(0, [.sipush 0, .istore 1, .jsr 2]),
  (2, [.iload 1, .sipush 74, .if_icmp .ge 26, .aload 0, .checkcast 640, .iload 1, .aload 0, .checkcast 642, .iload 1, .iaload, .iastore, .iinc 1 1, .goto 2]),
  (26, [.return_])]
/-- M.when -/
def g_c233 : List (Nat × List Instr) := [(0, [.aload 0, .iload 1, .invokeinterface 194 2, .ifCond .ne 10, .sipush (-1), .ireturn]),
  (10, [.aload 0, .invokeinterface 230 1, .sipush (-3), .istore 2, .aload 0, .iload 1, .sipush 4, .invokeinterface 196 3, .ifCond .ne 30, .sipush 1, .goto 31]),
  (30, [.sipush 0, .jsr 31]),
  (31, [.istore 3, .jsr 32]),
  (32, [.iload 3, .ifCond .eq 91, .aload 0, .invokeinterface 217 1, .ifCond .ne 91, .aload 0, .sipush (-1), .invokeinterface 220 2, .istore 4, .aload 0, .iload 1, .sipush 4, .invokeinterface 196 3, .ifCond .ne 63, .sipush 1, .goto 64]),
  (63, [.sipush 0, .jsr 64]),
  (64, [.istore 3, .iload 3, .ifCond .ne 74, .iload 4, .ifCond .ge 79, .jsr 74]),
  (74, [.sipush (-3), .goto 87]),
  (79, [.aload 0, .checkcast 640, .sipush 0, .iaload, .sipush 1, .isub, .jsr 87]),
  (87, [.istore 2, .goto 32]),
  (91, [.aload 0, .invokeinterface 232 1, .iload 2, .ireturn])]
/-- M.widthFor -/
def g_c234 : List (Nat × List Instr) := [(0, [.aload 0, .iload 1, .sipush 2, .sipush 9, .invokeinterface 235 4, .ireturn])]
/-- M.bestFor -/
def g_c235 : List (Nat × List Instr) := [(0, [.aload 0, .iload 1, .invokeinterface 194 2, .ifCond .ne 10, .sipush (-1), .ireturn]),
  (10, [.sipush 0, .istore 4, .sipush (-1), .istore 5, .aload 0, .invokeinterface 230 1, .sipush 0, .istore 6, .jsr 23]),
  (23, [.iload 6, .iload 3, .if_icmp .gt 87, .aload 0, .iload 1, .iload 2, .iload 6, .invokeinterface 192 4, .aload 0, .sipush 16, .invokeinterface 231 2, .istore 7, .iload 7, .iload 5, .if_icmp .le 57, .iload 6, .goto 59]),
  (57, [.iload 4, .jsr 59]),
  (59, [.istore 4, .iload 7, .iload 5, .if_icmp .le 73, .iload 7, .goto 75]),
  (73, [.iload 5, .jsr 75]),
  (75, [.istore 5, .aload 0, .invokeinterface 232 1, .iinc 6 1, .goto 23]),
  (87, [.iload 4, .ireturn])]
/-- M.pieceFor -/
def g_c236 : List (Nat × List Instr) := [(0, [.aload 0, .iload 1, .sipush 1, .sipush 39, .invokeinterface 235 4, .ireturn])]
/-- M.over -/
def g_c237 : List (Nat × List Instr) := [(0, [.iload 1, .sipush 0, .sipush 40, .invokeinterface 172 3, .ifCond .ne 12, .sipush (-1), .ireturn]),
  (12, [.aload 0, .invokeinterface 230 1, .sipush (-3), .istore 2, .jsr 19]),
  (19, [.iload 2, .sipush (-3), .if_icmp .ne 69, .aload 0, .invokeinterface 217 1, .ifCond .ne 69, .aload 0, .sipush (-1), .invokeinterface 220 2, .istore 3, .aload 0, .checkcast 640, .sipush 4, .iaload, .iload 1, .if_icmp .lt 63, .iload 3, .ifCond .lt 63, .aload 0, .checkcast 640, .sipush 0, .iaload, .sipush 1, .isub, .goto 65]),
  (63, [.sipush (-3), .jsr 65]),
  (65, [.istore 2, .goto 19]),
  (69, [.aload 0, .invokeinterface 232 1, .iload 2, .ireturn])]
/-- M.gap -/
def g_c238 : List (Nat × List Instr) := [(0, [.iload 1, .sipush 0, .sipush 1, .invokeinterface 172 3, .ifCond .ne 11, .sipush (-1), .ireturn]),
  (11, [.sipush 0, .istore 2, .sipush (-3), .istore 3, .sipush 39, .istore 4, .jsr 20]),
  (20, [.iload 4, .ifCond .lt 118, .sipush 0, .istore 5, .sipush 0, .istore 6, .jsr 31]),
  (31, [.iload 6, .aload 0, .checkcast 640, .sipush 6, .iaload, .if_icmp .ge 72, .iload 5, .ifCond .ne 59, .aload 0, .iload 6, .iload 4, .invokeinterface 228 3, .ifCond .eq 63, .jsr 59]),
  (59, [.sipush 1, .goto 64]),
  (63, [.sipush 0, .jsr 64]),
  (64, [.istore 5, .iinc 6 1, .goto 31]),
  (72, [.iload 2, .aload 0, .iload 4, .invokeinterface 227 2, .ifCond .eq 86, .sipush 0, .goto 87]),
  (86, [.sipush 1, .jsr 87]),
  (87, [.iadd, .istore 2, .iload 4, .aload 0, .checkcast 640, .sipush 4, .iaload, .if_icmp .lt 110, .iload 5, .ifCond .ne 110, .iload 4, .goto 111]),
  (110, [.iload 3, .jsr 111]),
  (111, [.istore 3, .iinc 4 (-1), .goto 20]),
  (118, [.iload 1, .ifCond .ne 126, .iload 3, .goto 127]),
  (126, [.iload 2, .jsr 127]),
  (127, [.ireturn])]
/-- M.branches -/
def g_c239 : List (Nat × List Instr) := [(0, [.iload 1, .sipush (-1), .if_icmp .eq 15, .aload 0, .iload 1, .invokeinterface 194 2, .ifCond .ne 15, .sipush (-1), .ireturn]),
  (15, [.iload 1, .ifCond .lt 25, .aload 0, .iload 1, .invokeinterface 240 2, .ireturn]),
  (25, [.sipush 0, .istore 2, .sipush 0, .istore 3, .jsr 29]),
  (29, [.iload 3, .aload 0, .checkcast 640, .sipush 6, .iaload, .if_icmp .ge 75, .aload 0, .iload 3, .invokeinterface 240 2, .istore 4, .iload 2, .iload 4, .ifCond .eq 66, .iload 4, .sipush 1, .iload 3, .ishl, .irem, .ifCond .ne 66, .sipush 1, .goto 67]),
  (66, [.sipush 0, .jsr 67]),
  (67, [.iadd, .istore 2, .iinc 3 1, .goto 29]),
  (75, [.iload 2, .ireturn])]
/-- M.branchOf -/
def g_c240 : List (Nat × List Instr) := [(0, [.sipush 1, .iload 1, .ishl, .istore 2, .sipush 0, .istore 3, .jsr 6]),
  (6, [.iload 3, .aload 0, .checkcast 640, .sipush 6, .iaload, .if_icmp .ge 97, .sipush 0, .istore 4, .jsr 20]),
  (20, [.iload 4, .aload 0, .checkcast 640, .sipush 6, .iaload, .if_icmp .ge 91, .sipush 0, .istore 5, .jsr 35]),
  (35, [.iload 5, .aload 0, .checkcast 640, .sipush 6, .iaload, .if_icmp .ge 85, .iload 2, .iload 2, .iload 4, .ishr, .sipush 1, .iand, .sipush 1, .if_icmp .ne 76, .aload 0, .iload 4, .iload 5, .invokeinterface 241 3, .ifCond .eq 76, .sipush 1, .iload 5, .ishl, .goto 77]),
  (76, [.sipush 0, .jsr 77]),
  (77, [.ior, .istore 2, .iinc 5 1, .goto 35]),
  (85, [.iinc 4 1, .goto 20]),
  (91, [.iinc 3 1, .goto 6]),
  (97, [.aload 0, .iload 1, .sipush 4, .invokeinterface 196 3, .sipush 1, .if_icmp .ne 111, .sipush 0, .goto 112]),
  (111, [.iload 2, .jsr 112]),
  (112, [.ireturn])]
/-- M.areClose -/
def g_c241 : List (Nat × List Instr) := [(0, [.aload 0, .iload 1, .sipush 1, .invokeinterface 196 3, .aload 0, .iload 2, .sipush 1, .invokeinterface 196 3, .isub, .istore 3, .aload 0, .iload 1, .sipush 4, .invokeinterface 196 3, .ifCond .ne 61, .aload 0, .iload 2, .sipush 4, .invokeinterface 196 3, .ifCond .ne 61, .aload 0, .iload 1, .sipush 3, .invokeinterface 196 3, .aload 0, .iload 2, .sipush 3, .invokeinterface 196 3, .if_icmp .eq 57, .iload 3, .sipush (-2), .sipush 2, .invokeinterface 172 3, .ifCond .eq 61, .jsr 57]),
  (57, [.sipush 1, .goto 62]),
  (61, [.sipush 0, .jsr 62]),
  (62, [.areturn])]
/-- M.fetch -/
def g_c242 : List (Nat × List Instr) := [(0, [.iload 1, .sipush 0, .sipush 40, .invokeinterface 172 3, .ifCond .eq 19, .iload 2, .sipush 0, .sipush 1, .invokeinterface 172 3, .ifCond .ne 21, .jsr 19]),
  (19, [.sipush (-1), .ireturn]),
  (21, [.sipush 1, .aload 0, .checkcast 640, .sipush 6, .iaload, .ishl, .sipush 1, .isub, .aload 0, .sipush 4, .invokeinterface 218 2, .sipush (-1), .ixor, .iand, .istore 3, .aload 0, .sipush (-1), .putfield 656, .aload 0, .iload 3, .iload 1, .sipush 0, .sipush (-1), .invokeinterface 243 5, .iload 2, .ifCond .ne 65, .aload 0, .getfield 656, .goto 78]),
  (65, [.iload 3, .ifCond .ne 74, .sipush (-3), .goto 78]),
  (74, [.aload 0, .getfield 657, .jsr 78]),
  (78, [.ireturn])]
/-- M.goesRound -/
def g_c243 : List (Nat × List Instr) := [(0, [.iload 1, .ifCond .ne 31, .aload 0, .getfield 656, .ifCond .lt 19, .iload 3, .aload 0, .getfield 656, .if_icmp .ge 30, .jsr 19]),
  (19, [.aload 0, .iload 3, .putfield 656, .aload 0, .iload 4, .putfield 657, .jsr 30]),
  (30, [.return_]),
  (31, [.sipush 0, .istore 5, .jsr 34]),
  (34, [.iload 5, .aload 0, .checkcast 640, .sipush 6, .iaload, .if_icmp .ge 131, .iload 1, .iload 5, .ishr, .sipush 1, .iand, .sipush 1, .if_icmp .ne 125, .aload 0, .iload 5, .sipush 1, .invokeinterface 196 3, .iload 2, .if_icmp .ge 79, .iload 2, .aload 0, .iload 5, .sipush 1, .invokeinterface 196 3, .isub, .goto 88]),
  (79, [.aload 0, .iload 5, .sipush 1, .invokeinterface 196 3, .iload 2, .isub, .jsr 88]),
  (88, [.istore 6, .aload 0, .iload 1, .sipush 1, .iload 5, .ishl, .sipush (-1), .ixor, .iand, .aload 0, .iload 5, .sipush 1, .invokeinterface 196 3, .iload 3, .iload 6, .iadd, .iload 4, .ifCond .ge 120, .iload 5, .goto 122]),
  (120, [.iload 4, .jsr 122]),
  (122, [.invokeinterface 243 5, .jsr 125]),
  (125, [.iinc 5 1, .goto 34]),
  (131, [.return_])]
/-- M.best -/
def g_c244 : List (Nat × List Instr) := [(0, [.iload 1, .invokeinterface 245 1, .ifCond .ne 9, .sipush (-1), .ireturn]),
  (9, [.aload 0, .iload 1, .sipush 0, .invokeinterface 246 3, .aload 0, .getfield 661, .ireturn])]
/-- M.isPlan -/
def g_c245 : List (Nat × List Instr) := [(0, [.iload 0, .sipush 0, .sipush 4, .invokeinterface 172 3, .areturn])]
/-- M.triesAll -/
def g_c246 : List (Nat × List Instr) := [(0, [.aload 0, .sipush (-1), .putfield 661, .aload 0, .sipush 0, .putfield 662, .aload 0, .sipush 5, .putfield 663, .aload 0, .sipush 0, .putfield 664, .aload 0, .sipush 0, .aload 0, .iload 1, .invokeinterface 247 2, .sipush 0, .sipush 0, .iload 2, .invokeinterface 248 6, .return_])]
/-- M.daysOf -/
def g_c247 : List (Nat × List Instr) := [(0, [.aload 0, .invokeinterface 217 1, .ifCond .eq 11, .sipush 0, .goto 24]),
  (11, [.aload 0, .checkcast 640, .sipush 1, .iaload, .aload 0, .checkcast 640, .sipush 0, .iaload, .isub, .jsr 24]),
  (24, [.istore 2, .iload 1, .iload 2, .if_icmp .ge 34, .iload 1, .goto 35]),
  (34, [.iload 2, .jsr 35]),
  (35, [.ireturn])]
/-- M.goesPlans -/
def g_c248 : List (Nat × List Instr) := [(0, [.iload 1, .iload 2, .if_icmp .ne 16, .aload 0, .iload 2, .iload 3, .iload 4, .iload 5, .invokeinterface 249 5, .return_]),
  (16, [.aload 0, .iload 1, .invokeinterface 250 2, .sipush 0, .istore 6, .jsr 24]),
  (24, [.iload 6, .aload 0, .checkcast 640, .sipush 6, .iaload, .if_icmp .gt 91, .aload 0, .checkcast 659, .iload 1, .iload 6, .iastore, .aload 0, .iload 6, .invokeinterface 220 2, .istore 7, .aload 0, .iload 1, .sipush 1, .iadd, .iload 2, .iload 3, .iload 7, .iadd, .iload 6, .ifCond .le 73, .iload 4, .sipush 1, .iadd, .goto 75]),
  (73, [.iload 4, .jsr 75]),
  (75, [.iload 5, .invokeinterface 248 6, .aload 0, .iload 1, .invokeinterface 251 2, .iinc 6 1, .goto 24]),
  (91, [.return_])]
/-- M.endsPlan -/
def g_c249 : List (Nat × List Instr) := [(0, [.iload 2, .aload 0, .getfield 661, .if_icmp .le 47, .aload 0, .sipush 0, .putfield 662, .aload 0, .iload 2, .putfield 661, .sipush 0, .istore 5, .jsr 21]),
  (21, [.iload 5, .iload 1, .if_icmp .ge 47, .aload 0, .checkcast 660, .iload 5, .aload 0, .checkcast 659, .iload 5, .iaload, .iastore, .iinc 5 1, .goto 21]),
  (47, [.aload 0, .dup, .getfield 662, .iload 2, .aload 0, .getfield 661, .if_icmp .ne 64, .sipush 1, .goto 65]),
  (64, [.sipush 0, .jsr 65]),
  (65, [.iadd, .putfield 662, .aload 0, .sipush 4, .invokeinterface 218 2, .istore 5, .aload 0, .iload 4, .iload 5, .sipush (-1), .ixor, .iand, .ifCond .ne 99, .iload 3, .aload 0, .getfield 663, .if_icmp .ge 99, .iload 3, .goto 103]),
  (99, [.aload 0, .getfield 663, .jsr 103]),
  (103, [.putfield 663, .aload 0, .dup, .getfield 664, .iload 5, .ior, .putfield 664, .return_])]
/-- M.saves -/
def g_c250 : List (Nat × List Instr) := [(0, [.sipush 0, .istore 2, .jsr 2]),
  (2, [.iload 2, .sipush 74, .if_icmp .ge 31, .aload 0, .checkcast 658, .sipush 74, .iload 1, .imul, .iload 2, .iadd, .aload 0, .checkcast 640, .iload 2, .iaload, .iastore, .iinc 2 1, .goto 2]),
  (31, [.return_])]
/-- M.restores -/
def g_c251 : List (Nat × List Instr) := [(0, [.sipush 0, .istore 2, .jsr 2]),
  (2, [.iload 2, .sipush 74, .if_icmp .ge 31, .aload 0, .checkcast 640, .iload 2, .aload 0, .checkcast 658, .sipush 74, .iload 1, .imul, .iload 2, .iadd, .iaload, .iastore, .iinc 2 1, .goto 2]),
  (31, [.return_])]
/-- M.ith -/
def g_c252 : List (Nat × List Instr) := [(0, [.iload 1, .invokeinterface 245 1, .ifCond .eq 16, .iload 2, .sipush 0, .sipush 3, .invokeinterface 172 3, .ifCond .ne 18, .jsr 16]),
  (16, [.sipush (-1), .ireturn]),
  (18, [.aload 0, .iload 1, .sipush 0, .invokeinterface 246 3, .iload 2, .aload 0, .iload 1, .invokeinterface 247 2, .if_icmp .ge 42, .aload 0, .checkcast 660, .iload 2, .iaload, .goto 44]),
  (42, [.sipush (-3), .jsr 44]),
  (44, [.ireturn])]
/-- M.ways -/
def g_c253 : List (Nat × List Instr) := [(0, [.iload 1, .invokeinterface 245 1, .ifCond .ne 9, .sipush (-1), .ireturn]),
  (9, [.aload 0, .iload 1, .sipush 0, .invokeinterface 246 3, .aload 0, .getfield 662, .ireturn])]
/-- M.supper -/
def g_c254 : List (Nat × List Instr) := [(0, [.iload 1, .invokeinterface 245 1, .ifCond .eq 15, .aload 0, .iload 2, .invokeinterface 255 2, .ifCond .ne 17, .jsr 15]),
  (15, [.sipush (-1), .ireturn]),
  (17, [.aload 0, .iload 1, .iload 2, .invokeinterface 246 3, .aload 0, .getfield 663, .sipush 4, .if_icmp .le 36, .sipush (-3), .goto 40]),
  (36, [.aload 0, .getfield 663, .jsr 40]),
  (40, [.ireturn])]
/-- M.isSet -/
def g_c255 : List (Nat × List Instr) := [(0, [.iload 1, .sipush 0, .sipush 1, .aload 0, .checkcast 640, .sipush 6, .iaload, .ishl, .sipush 1, .isub, .invokeinterface 172 3, .areturn])]
/-- M.bars -/
def g_c256 : List (Nat × List Instr) := [(0, [.iload 1, .invokeinterface 245 1, .ifCond .eq 15, .aload 0, .iload 2, .invokeinterface 255 2, .ifCond .ne 17, .jsr 15]),
  (15, [.sipush (-1), .ireturn]),
  (17, [.aload 0, .iload 1, .iload 2, .invokeinterface 246 3, .iload 2, .aload 0, .getfield 664, .sipush (-1), .ixor, .iand, .istore 3, .sipush 0, .istore 4, .jsr 35]),
  (35, [.iload 4, .aload 0, .checkcast 640, .sipush 6, .iaload, .if_icmp .ge 62, .iload 3, .iload 4, .ishr, .sipush 1, .iand, .ifCond .ne 62, .iinc 4 1, .goto 35]),
  (62, [.iload 4, .aload 0, .checkcast 640, .sipush 6, .iaload, .if_icmp .ge 79, .iload 4, .goto 81]),
  (79, [.sipush (-3), .jsr 81]),
  (81, [.ireturn])]
/-- M.game -/
def g_c257 : List (Nat × List Instr) := [(0, [.iload 1, .sipush 1, .sipush 4, .invokeinterface 172 3, .ifCond .eq 22, .aload 0, .sipush 0, .aload 0, .iload 1, .invokeinterface 247 2, .invokeinterface 258 3, .goto 23]),
  (22, [.sipush (-1), .jsr 23]),
  (23, [.ireturn])]
/-- M.playedFrom -/
def g_c258 : List (Nat × List Instr) := [(0, [.iload 1, .iload 2, .if_icmp .ne 7, .sipush 0, .ireturn]),
  (7, [.aload 0, .iload 1, .invokeinterface 250 2, .sipush 0, .istore 3, .sipush (-1), .istore 4, .sipush 0, .istore 5, .jsr 20]),
  (20, [.iload 5, .aload 0, .checkcast 640, .sipush 6, .iaload, .if_icmp .gt 123, .aload 0, .iload 5, .invokeinterface 220 2, .istore 6, .iload 6, .aload 0, .iload 1, .sipush 1, .iadd, .iload 2, .invokeinterface 258 3, .iadd, .istore 7, .aload 0, .iload 1, .invokeinterface 251 2, .iload 4, .ifCond .lt 84, .iload 1, .sipush 2, .irem, .ifCond .ne 78, .iload 7, .iload 3, .if_icmp .le 88, .goto 84]),
  (78, [.iload 7, .iload 3, .if_icmp .ge 88, .jsr 84]),
  (84, [.sipush 1, .goto 89]),
  (88, [.sipush 0, .jsr 89]),
  (89, [.istore 8, .iload 8, .ifCond .eq 101, .iload 5, .goto 103]),
  (101, [.iload 4, .jsr 103]),
  (103, [.istore 4, .iload 8, .ifCond .eq 115, .iload 7, .goto 116]),
  (115, [.iload 3, .jsr 116]),
  (116, [.istore 3, .iinc 5 1, .goto 20]),
  (123, [.aload 0, .checkcast 659, .iload 1, .iload 4, .iastore, .iload 3, .ireturn])]
/-- M.play -/
def g_c259 : List (Nat × List Instr) := [(0, [.iload 1, .sipush 1, .sipush 4, .invokeinterface 172 3, .ifCond .ne 11, .sipush (-1), .ireturn]),
  (11, [.aload 0, .invokeinterface 217 1, .ifCond .eq 21, .sipush (-3), .ireturn]),
  (21, [.aload 0, .sipush 0, .aload 0, .iload 1, .invokeinterface 247 2, .invokeinterface 258 3, .istore 2, .iload 2, .ifCond .ge 41, .sipush (-3), .goto 47]),
  (41, [.aload 0, .checkcast 659, .sipush 0, .iaload, .jsr 47]),
  (47, [.ireturn])]
/-- M.report -/
def g_c260 : List (Nat × List Instr) := [(0, [.iload 2, .ifCond .ne 9, .sipush 40, .goto 11]),
  (9, [.sipush 9, .jsr 11]),
  (11, [.istore 5, .iload 1, .sipush 0, .sipush 15, .invokeinterface 172 3, .ifCond .eq 53, .iload 2, .sipush 0, .sipush 1, .invokeinterface 172 3, .ifCond .eq 53, .iload 3, .sipush 0, .iload 5, .invokeinterface 172 3, .ifCond .eq 53, .iload 4, .iload 3, .iload 5, .invokeinterface 172 3, .ifCond .ne 55, .jsr 53]),
  (53, [.sipush (-1), .ireturn]),
  (55, [.aload 0, .checkcast 640, .sipush 8, .iaload, .sipush 6, .if_icmp .ne 70, .sipush (-2), .ireturn]),
  (70, [.sipush 74, .sipush 4, .aload 0, .checkcast 640, .sipush 8, .iaload, .imul, .iadd, .istore 6, .aload 0, .checkcast 640, .iload 6, .iload 1, .iastore, .aload 0, .checkcast 640, .iload 6, .sipush 1, .iadd, .iload 2, .iastore, .aload 0, .checkcast 640, .iload 6, .sipush 2, .iadd, .iload 3, .iastore, .aload 0, .checkcast 640, .iload 6, .sipush 3, .iadd, .iload 4, .iastore, .aload 0, .checkcast 640, .sipush 8, .dup2, .iaload, .sipush 1, .iadd, .iastore, .aload 0, .checkcast 640, .sipush 8, .iaload, .sipush 1, .isub, .ireturn])]
/-- M.forget -/
def g_c261 : List (Nat × List Instr) := [(0, [.aload 0, .sipush 8, .sipush 0, .invokeinterface 208 3, .ireturn])]
/-- M.lost -/
def g_c262 : List (Nat × List Instr) := [(0, [.iload 1, .sipush 0, .sipush 3, .invokeinterface 172 3, .ifCond .ne 11, .sipush (-1), .ireturn]),
  (11, [.aload 0, .sipush (-1), .invokeinterface 263 2, .istore 2, .iload 1, .ifCond .le 28, .iload 2, .ifCond .ne 28, .sipush (-3), .ireturn]),
  (28, [.iload 1, .ifCond .ne 36, .iload 2, .goto 78]),
  (36, [.iload 1, .sipush 1, .if_icmp .ne 53, .sipush 1, .aload 0, .getfield 667, .sipush 100, .idiv, .iadd, .goto 78]),
  (53, [.iload 1, .sipush 2, .if_icmp .ne 71, .aload 0, .getfield 667, .sipush 10, .idiv, .sipush 10, .irem, .goto 78]),
  (71, [.aload 0, .getfield 667, .sipush 10, .irem, .jsr 78]),
  (78, [.ireturn])]
/-- M.fitting -/
def g_c263 : List (Nat × List Instr) := [(0, [.sipush 0, .istore 2, .aload 0, .sipush (-1), .putfield 667, .sipush 0, .istore 3, .jsr 9]),
  (9, [.iload 3, .sipush 500, .if_icmp .ge 131, .aload 0, .sipush 1, .iload 3, .sipush 100, .idiv, .iadd, .iload 3, .sipush 10, .idiv, .sipush 10, .irem, .iload 3, .sipush 10, .irem, .invokeinterface 264 4, .sipush 1, .istore 4, .sipush 0, .istore 5, .jsr 43]),
  (43, [.iload 5, .aload 0, .checkcast 640, .sipush 8, .iaload, .if_icmp .ge 88, .iload 4, .ifCond .eq 88, .iload 5, .iload 1, .if_icmp .eq 75, .aload 0, .iload 5, .invokeinterface 265 2, .ifCond .eq 79, .jsr 75]),
  (75, [.sipush 1, .goto 80]),
  (79, [.sipush 0, .jsr 80]),
  (80, [.istore 4, .iinc 5 1, .goto 43]),
  (88, [.iload 2, .iload 4, .ifCond .eq 98, .sipush 1, .goto 99]),
  (98, [.sipush 0, .jsr 99]),
  (99, [.iadd, .istore 2, .aload 0, .iload 4, .ifCond .eq 118, .aload 0, .getfield 667, .ifCond .ge 118, .iload 3, .goto 122]),
  (118, [.aload 0, .getfield 667, .jsr 122]),
  (122, [.putfield 667, .iinc 3 1, .goto 9]),
  (131, [.iload 2, .ireturn])]
/-- M.tellsStranger -/
def g_c264 : List (Nat × List Instr) := [(0, [.iload 3, .istore 4, .sipush 0, .istore 5, .sipush 0, .istore 6, .jsr 9]),
  (9, [.iload 6, .sipush 16, .if_icmp .ge 105, .aload 0, .checkcast 665, .iload 6, .iload 5, .iastore, .aload 0, .checkcast 666, .iload 6, .iload 4, .iastore, .iload 4, .aload 0, .checkcast 640, .sipush 10, .iload 6, .iadd, .iaload, .invokeinterface 221 2, .istore 4, .iload 1, .iload 2, .iload 6, .invokeinterface 197 3, .istore 7, .iload 7, .iload 5, .isub, .istore 8, .iload 5, .iload 8, .ifCond .gt 78, .sipush 0, .goto 96]),
  (78, [.iload 8, .iload 4, .sipush 1, .iadd, .if_icmp .le 94, .iload 4, .sipush 1, .iadd, .goto 96]),
  (94, [.iload 8, .jsr 96]),
  (96, [.iadd, .istore 5, .iinc 6 1, .goto 9]),
  (105, [.return_])]
/-- M.isSo -/
def g_c265 : List (Nat × List Instr) := [(0, [.sipush 74, .sipush 4, .iload 1, .imul, .iadd, .istore 2, .aload 0, .checkcast 640, .iload 2, .sipush 1, .iadd, .iaload, .ifCond .ne 32, .aload 0, .checkcast 665, .aload 0, .checkcast 640, .iload 2, .iaload, .iaload, .goto 43]),
  (32, [.aload 0, .checkcast 666, .aload 0, .checkcast 640, .iload 2, .iaload, .iaload, .jsr 43]),
  (43, [.istore 3, .iload 3, .aload 0, .checkcast 640, .iload 2, .sipush 2, .iadd, .iaload, .aload 0, .checkcast 640, .iload 2, .sipush 3, .iadd, .iaload, .invokeinterface 172 3, .areturn])]
/-- M.liar -/
def g_c266 : List (Nat × List Instr) := [(0, [.aload 0, .sipush (-1), .invokeinterface 263 2, .ifCond .le 11, .sipush (-3), .ireturn]),
  (11, [.sipush 0, .istore 1, .jsr 13]),
  (13, [.iload 1, .aload 0, .checkcast 640, .sipush 8, .iaload, .if_icmp .ge 40, .aload 0, .iload 1, .invokeinterface 263 2, .ifCond .le 34, .iload 1, .ireturn]),
  (34, [.iinc 1 1, .goto 13]),
  (40, [.sipush (-3), .ireturn])]
/-- M.seed -/
def g_c267 : List (Nat × List Instr) := [(0, [.aload 0, .sipush 5, .iload 1, .invokeinterface 208 3, .ireturn])]
/-- M.lot -/
def g_c268 : List (Nat × List Instr) := [(0, [.aload 0, .invokeinterface 217 1, .ifCond .eq 12, .sipush (-4), .goto 16]),
  (12, [.aload 0, .invokeinterface 269 1, .jsr 16]),
  (16, [.ireturn])]
/-- M.byLot -/
def g_c269 : List (Nat × List Instr) := [(0, [.aload 0, .checkcast 640, .sipush 5, .aload 0, .checkcast 640, .sipush 5, .iaload, .sipush 1103515245, .imul, .sipush 12345, .iadd, .iastore, .aload 0, .aload 0, .checkcast 640, .sipush 5, .iaload, .sipush 16, .iushr, .aload 0, .checkcast 640, .sipush 6, .iaload, .sipush 1, .iadd, .irem, .invokeinterface 220 2, .ireturn])]
/-- M.times -/
def g_c270 : List (Nat × List Instr) := [(0, [.iload 1, .sipush 1, .sipush 40, .invokeinterface 172 3, .ifCond .eq 21, .iload 2, .sipush 0, .sipush 999, .invokeinterface 172 3, .ifCond .ne 23, .jsr 21]),
  (21, [.sipush (-1), .ireturn]),
  (23, [.aload 0, .invokeinterface 230 1, .sipush 0, .istore 3, .sipush 0, .istore 4, .jsr 32]),
  (32, [.iload 4, .iload 1, .if_icmp .ge 100, .sipush 0, .istore 5, .jsr 41]),
  (41, [.aload 0, .invokeinterface 217 1, .ifCond .ne 60, .iload 5, .aload 0, .invokeinterface 269 1, .iadd, .istore 5, .goto 41]),
  (60, [.iload 3, .iload 5, .iload 2, .if_icmp .lt 71, .sipush 1, .goto 72]),
  (71, [.sipush 0, .jsr 72]),
  (72, [.iadd, .istore 3, .aload 0, .checkcast 640, .sipush 5, .iaload, .istore 6, .aload 0, .invokeinterface 232 1, .aload 0, .checkcast 640, .sipush 5, .iload 6, .iastore, .iinc 4 1, .goto 32]),
  (100, [.aload 0, .invokeinterface 232 1, .iload 3, .ireturn])]
/-- M.prove -/
def g_c271 : List (Nat × List Instr) := [(0, [.iload 1, .invokeinterface 245 1, .ifCond .ne 9, .sipush (-1), .ireturn]),
  (9, [.aload 0, .iload 1, .sipush 0, .invokeinterface 246 3, .aload 0, .aload 0, .iload 1, .invokeinterface 247 2, .putfield 669, .aload 0, .invokeinterface 230 1, .sipush 0, .istore 2, .jsr 30]),
  (30, [.iload 2, .aload 0, .getfield 669, .if_icmp .ge 93, .aload 0, .checkcast 668, .sipush 3, .iload 2, .imul, .aload 0, .checkcast 660, .iload 2, .iaload, .iastore, .aload 0, .checkcast 668, .sipush 3, .iload 2, .imul, .sipush 1, .iadd, .aload 0, .aload 0, .checkcast 660, .iload 2, .iaload, .invokeinterface 220 2, .iastore, .aload 0, .checkcast 668, .sipush 3, .iload 2, .imul, .sipush 2, .iadd, .aload 0, .sipush 4, .invokeinterface 218 2, .iastore, .iinc 2 1, .goto 30]),
  (93, [.aload 0, .invokeinterface 232 1, .aload 0, .getfield 669, .ireturn])]
/-- M.row -/
def g_c272 : List (Nat × List Instr) := [(0, [.aload 0, .iload 1, .iload 2, .invokeinterface 273 3, .ifCond .eq 22, .aload 0, .checkcast 668, .sipush 3, .iload 1, .imul, .iload 2, .iadd, .iaload, .goto 24]),
  (22, [.sipush (-9), .jsr 24]),
  (24, [.ireturn])]
/-- M.isRow -/
def g_c273 : List (Nat × List Instr) := [(0, [.iload 1, .sipush 0, .aload 0, .getfield 669, .sipush 1, .isub, .invokeinterface 172 3, .ifCond .eq 27, .iload 2, .sipush 0, .sipush 2, .invokeinterface 172 3, .ifCond .eq 27, .sipush 1, .goto 28]),
  (27, [.sipush 0, .jsr 28]),
  (28, [.areturn])]
/-- M.alterRow -/
def g_c274 : List (Nat × List Instr) := [(0, [.aload 0, .iload 1, .iload 2, .invokeinterface 273 3, .ifCond .ne 12, .sipush (-9), .ireturn]),
  (12, [.aload 0, .checkcast 668, .sipush 3, .iload 1, .imul, .iload 2, .iadd, .iaload, .istore 4, .aload 0, .checkcast 668, .sipush 3, .iload 1, .imul, .iload 2, .iadd, .iload 3, .iastore, .iload 4, .ireturn])]
/-- M.judge -/
def g_c275 : List (Nat × List Instr) := [(0, [.aload 0, .invokeinterface 230 1, .sipush 0, .istore 1, .sipush 0, .istore 2, .jsr 8]),
  (8, [.iload 2, .aload 0, .getfield 669, .if_icmp .ge 133, .iload 1, .ifCond .ne 133, .aload 0, .aload 0, .checkcast 668, .sipush 3, .iload 2, .imul, .iaload, .invokeinterface 276 2, .ifCond .eq 46, .aload 0, .invokeinterface 217 1, .ifCond .ne 46, .sipush 1, .goto 47]),
  (46, [.sipush 0, .jsr 47]),
  (47, [.istore 3, .iload 3, .ifCond .eq 67, .aload 0, .aload 0, .checkcast 668, .sipush 3, .iload 2, .imul, .iaload, .invokeinterface 220 2, .goto 68]),
  (67, [.sipush 0, .jsr 68]),
  (68, [.istore 4, .iload 3, .ifCond .eq 111, .iload 4, .aload 0, .checkcast 668, .sipush 3, .iload 2, .imul, .sipush 1, .iadd, .iaload, .if_icmp .ne 111, .aload 0, .sipush 4, .invokeinterface 218 2, .aload 0, .checkcast 668, .sipush 3, .iload 2, .imul, .sipush 2, .iadd, .iaload, .if_icmp .ne 111, .sipush 1, .goto 112]),
  (111, [.sipush 0, .jsr 112]),
  (112, [.istore 5, .iload 5, .ifCond .eq 123, .sipush 0, .goto 126]),
  (123, [.sipush 1, .iload 2, .iadd, .jsr 126]),
  (126, [.istore 1, .iinc 2 1, .goto 8]),
  (133, [.aload 0, .invokeinterface 232 1, .iload 1, .ireturn])]
/-- M.isAct -/
def g_c276 : List (Nat × List Instr) := [(0, [.iload 1, .sipush 0, .aload 0, .checkcast 640, .sipush 6, .iaload, .invokeinterface 172 3, .areturn])]
/-- M.sheet -/
def g_c277 : List (Nat × List Instr) := [(0, [.iload 1, .invokeinterface 278 1, .ifCond .eq 26, .iload 2, .sipush (-1), .sipush 4, .invokeinterface 172 3, .ifCond .eq 26, .iload 2, .ifCond .lt 28, .iload 3, .sipush 40, .if_icmp .le 28, .jsr 26]),
  (26, [.sipush (-1), .ireturn]),
  (28, [.iload 2, .ifCond .lt 39, .iload 3, .ifCond .ge 39, .sipush (-14), .ireturn]),
  (39, [.aload 0, .checkcast 670, .iload 1, .iload 2, .iastore, .aload 0, .checkcast 671, .iload 1, .iload 2, .ifCond .ge 59, .sipush 0, .goto 60]),
  (59, [.iload 3, .jsr 60]),
  (60, [.iastore, .sipush 0, .istore 4, .jsr 64]),
  (64, [.iload 4, .sipush 40, .if_icmp .ge 90, .aload 0, .checkcast 672, .sipush 40, .iload 1, .imul, .iload 4, .iadd, .sipush 0, .iastore, .iinc 4 1, .goto 64]),
  (90, [.sipush 1, .ireturn])]
/-- M.isSheet -/
def g_c278 : List (Nat × List Instr) := [(0, [.iload 0, .sipush 0, .sipush 3, .invokeinterface 172 3, .areturn])]
/-- M.write -/
def g_c279 : List (Nat × List Instr) := [(0, [.iload 1, .invokeinterface 278 1, .ifCond .ne 9, .sipush (-1), .ireturn]),
  (9, [.aload 0, .checkcast 670, .iload 1, .iaload, .ifCond .ge 21, .sipush (-11), .ireturn]),
  (21, [.iload 2, .sipush 0, .aload 0, .checkcast 671, .iload 1, .iaload, .sipush 1, .isub, .invokeinterface 172 3, .ifCond .ne 40, .sipush (-12), .ireturn]),
  (40, [.aload 0, .checkcast 672, .sipush 40, .iload 1, .imul, .iload 2, .iadd, .iload 3, .aload 0, .checkcast 670, .iload 1, .iaload, .invokeinterface 280 2, .iastore, .sipush 1, .ireturn])]
/-- M.narrowed -/
def g_c280 : List (Nat × List Instr) := [(0, [.iload 1, .ifCond .ne 9, .iload 0, .i2b, .goto 37]),
  (9, [.iload 1, .sipush 1, .if_icmp .ne 19, .iload 0, .i2s, .goto 37]),
  (19, [.iload 1, .sipush 4, .if_icmp .ne 36, .iload 0, .ifCond .eq 32, .sipush 1, .goto 37]),
  (32, [.sipush 0, .goto 37]),
  (36, [.iload 0, .jsr 37]),
  (37, [.ireturn])]
/-- M.item -/
def g_c281 : List (Nat × List Instr) := [(0, [.iload 1, .invokeinterface 278 1, .ifCond .eq 16, .iload 2, .sipush 0, .sipush 4, .invokeinterface 172 3, .ifCond .ne 18, .jsr 16]),
  (16, [.sipush (-1), .ireturn]),
  (18, [.aload 0, .iload 1, .iload 2, .invokeinterface 282 3, .istore 4, .iload 4, .ifCond .eq 36, .iload 4, .goto 68]),
  (36, [.iload 3, .sipush 0, .aload 0, .checkcast 671, .iload 1, .iaload, .sipush 1, .isub, .invokeinterface 172 3, .ifCond .eq 66, .aload 0, .checkcast 672, .sipush 40, .iload 1, .imul, .iload 3, .iadd, .iaload, .goto 68]),
  (66, [.sipush (-12), .jsr 68]),
  (68, [.ireturn])]
/-- M.lacks -/
def g_c282 : List (Nat × List Instr) := [(0, [.aload 0, .checkcast 670, .iload 1, .iaload, .ifCond .ge 14, .sipush (-11), .goto 30]),
  (14, [.aload 0, .checkcast 670, .iload 1, .iaload, .iload 2, .if_icmp .eq 29, .sipush (-13), .goto 30]),
  (29, [.sipush 0, .jsr 30]),
  (30, [.ireturn])]
/-- M.goAll -/
def g_c283 : List (Nat × List Instr) := [(0, [.iload 1, .invokeinterface 278 1, .ifCond .eq 17, .iload 3, .sipush 0, .sipush 20, .invokeinterface 172 3, .ifCond .ne 19, .jsr 17]),
  (17, [.sipush (-1), .ireturn]),
  (19, [.aload 0, .iload 1, .sipush 0, .invokeinterface 282 3, .istore 4, .iload 4, .ifCond .eq 35, .iload 4, .ireturn]),
  (35, [.sipush 0, .istore 5, .sipush 0, .istore 6, .jsr 41]),
  (41, [.iload 6, .iload 3, .if_icmp .ge 114, .aload 0, .iload 1, .iload 2, .iload 6, .invokeinterface 284 4, .ifCond .ne 61, .sipush (-12), .ireturn]),
  (61, [.aload 0, .checkcast 672, .sipush 40, .iload 1, .imul, .iload 2, .iadd, .iload 6, .iadd, .iaload, .istore 7, .iload 5, .aload 0, .iload 7, .invokeinterface 276 2, .ifCond .eq 104, .aload 0, .invokeinterface 217 1, .ifCond .ne 104, .aload 0, .iload 7, .invokeinterface 220 2, .goto 105]),
  (104, [.sipush 0, .jsr 105]),
  (105, [.iadd, .istore 5, .iinc 6 1, .goto 41]),
  (114, [.iload 5, .ireturn])]
/-- M.isItem -/
def g_c284 : List (Nat × List Instr) := [(0, [.iload 2, .ifCond .lt 20, .iload 2, .aload 0, .checkcast 671, .iload 1, .iaload, .iload 3, .isub, .if_icmp .ge 20, .sipush 1, .goto 21]),
  (20, [.sipush 0, .jsr 21]),
  (21, [.areturn])]
/-- M.wouldBe -/
def g_c285 : List (Nat × List Instr) := [(0, [.iload 1, .invokeinterface 278 1, .ifCond .eq 17, .iload 3, .sipush 0, .sipush 20, .invokeinterface 172 3, .ifCond .ne 19, .jsr 17]),
  (17, [.sipush (-1), .ireturn]),
  (19, [.aload 0, .iload 1, .sipush 0, .invokeinterface 282 3, .istore 4, .sipush 0, .istore 5, .aload 0, .invokeinterface 230 1, .sipush 0, .istore 6, .jsr 37]),
  (37, [.iload 6, .iload 3, .if_icmp .ge 145, .iload 4, .ifCond .ne 145, .aload 0, .iload 1, .iload 2, .iload 6, .invokeinterface 284 4, .ifCond .eq 76, .aload 0, .checkcast 672, .sipush 40, .iload 1, .imul, .iload 2, .iadd, .iload 6, .iadd, .iaload, .goto 77]),
  (76, [.sipush (-1), .jsr 77]),
  (77, [.istore 7, .aload 0, .iload 1, .iload 2, .iload 6, .invokeinterface 284 4, .ifCond .ne 95, .sipush (-12), .goto 117]),
  (95, [.aload 0, .iload 7, .invokeinterface 276 2, .ifCond .eq 111, .aload 0, .invokeinterface 217 1, .ifCond .eq 116, .jsr 111]),
  (111, [.sipush (-4), .goto 117]),
  (116, [.sipush 0, .jsr 117]),
  (117, [.istore 4, .iload 5, .iload 4, .ifCond .ne 135, .aload 0, .iload 7, .invokeinterface 220 2, .goto 136]),
  (135, [.sipush 0, .jsr 136]),
  (136, [.iadd, .istore 5, .iinc 6 1, .goto 37]),
  (145, [.aload 0, .invokeinterface 232 1, .iload 4, .ifCond .eq 159, .iload 4, .goto 161]),
  (159, [.iload 5, .jsr 161]),
  (161, [.ireturn])]
/-- M.shelf -/
def g_c286 : List (Nat × List Instr) := [(0, [.iload 1, .invokeinterface 278 1, .ifCond .eq 40, .iload 2, .sipush 0, .sipush 2, .invokeinterface 172 3, .ifCond .eq 40, .iload 2, .ifCond .ne 28, .aload 0, .iload 3, .invokeinterface 194 2, .ifCond .eq 40, .jsr 28]),
  (28, [.iload 2, .sipush 1, .if_icmp .ne 42, .iload 3, .invokeinterface 278 1, .ifCond .ne 42, .jsr 40]),
  (40, [.sipush (-1), .ireturn]),
  (42, [.aload 0, .checkcast 673, .iload 1, .iload 2, .ifCond .ne 55, .sipush 0, .goto 82]),
  (55, [.iload 2, .sipush 1, .if_icmp .ne 81, .aload 0, .checkcast 670, .iload 3, .iaload, .ifCond .lt 81, .sipush 10, .aload 0, .checkcast 670, .iload 3, .iaload, .iadd, .goto 82]),
  (81, [.sipush (-1), .jsr 82]),
  (82, [.iastore, .aload 0, .checkcast 674, .iload 1, .iload 2, .ifCond .ne 96, .iload 3, .goto 111]),
  (96, [.iload 2, .sipush 1, .if_icmp .ne 110, .aload 0, .checkcast 671, .iload 3, .iaload, .goto 111]),
  (110, [.sipush 0, .jsr 111]),
  (111, [.iastore, .sipush 1, .ireturn])]
/-- M.taken -/
def g_c287 : List (Nat × List Instr) := [(0, [.iload 1, .invokeinterface 278 1, .ifCond .eq 27, .iload 2, .sipush 0, .sipush 5, .invokeinterface 172 3, .ifCond .ne 29, .iload 2, .sipush 10, .sipush 14, .invokeinterface 172 3, .ifCond .ne 29, .jsr 27]),
  (27, [.sipush (-1), .ireturn]),
  (29, [.aload 0, .iload 1, .invokeinterface 288 2, .istore 3, .iload 3, .ifCond .ge 42, .sipush (-11), .ireturn]),
  (42, [.iload 3, .ifCond .ne 78, .iload 2, .sipush 10, .if_icmp .ge 74, .aload 0, .aload 0, .checkcast 674, .iload 1, .iaload, .sipush 0, .invokeinterface 196 3, .iload 2, .invokeinterface 202 2, .ifCond .eq 74, .sipush 1, .goto 88]),
  (74, [.sipush 0, .goto 88]),
  (78, [.iload 3, .iload 2, .if_icmp .ne 87, .sipush 1, .goto 88]),
  (87, [.sipush 0, .jsr 88]),
  (88, [.istore 4, .iload 4, .ifCond .eq 104, .aload 0, .checkcast 674, .iload 1, .iaload, .goto 106]),
  (104, [.sipush (-13), .jsr 106]),
  (106, [.ireturn])]
/-- M.heldOn -/
def g_c288 : List (Nat × List Instr) := [(0, [.aload 0, .checkcast 673, .iload 1, .iaload, .ifCond .ne 26, .aload 0, .aload 0, .checkcast 674, .iload 1, .iaload, .invokeinterface 194 2, .ifCond .ne 26, .sipush (-1), .goto 32]),
  (26, [.aload 0, .checkcast 673, .iload 1, .iaload, .jsr 32]),
  (32, [.ireturn])]
/-- M.act -/
def g_c289 : List (Nat × List Instr) := [(0, [.aload 0, .sipush 0, .putfield 676, .iload 1, .invokeinterface 278 1, .ifCond .eq 29, .iload 2, .sipush 0, .sipush 3, .invokeinterface 172 3, .ifCond .eq 29, .aload 0, .iload 1, .invokeinterface 288 2, .ifCond .eq 31, .jsr 29]),
  (29, [.sipush 0, .ireturn]),
  (31, [.aload 0, .aload 0, .checkcast 674, .iload 1, .iaload, .putfield 677, .aload 0, .sipush 0, .putfield 678, .aload 0, .aload 0, .getfield 677, .sipush 0, .invokeinterface 196 3, .istore 4, .iload 2, .ifCond .ne 71, .aload 0, .iload 4, .iload 3, .invokeinterface 290 3, .goto 108]),
  (71, [.iload 2, .sipush 1, .if_icmp .ne 86, .aload 0, .iload 4, .iload 3, .invokeinterface 292 3, .goto 108]),
  (86, [.iload 2, .sipush 2, .if_icmp .ne 101, .aload 0, .iload 4, .iload 3, .invokeinterface 293 3, .goto 108]),
  (101, [.aload 0, .iload 4, .iload 3, .invokeinterface 294 3, .jsr 108]),
  (108, [.istore 5, .aload 0, .getfield 678, .ifCond .eq 122, .sipush (-15), .goto 124]),
  (122, [.iload 5, .jsr 124]),
  (124, [.ireturn])]
/-- M.laysAs -/
def g_c290 : List (Nat × List Instr) := [(0, [.iload 1, .sipush 1, .if_icmp .ne 20, .aload 0, .sipush 20, .invokeinterface 291 2, .aload 0, .sipush 0, .iload 2, .invokeinterface 290 3, .sipush 3, .imul, .ireturn]),
  (20, [.iload 1, .sipush 3, .if_icmp .ne 40, .aload 0, .sipush 50, .invokeinterface 291 2, .aload 0, .sipush 2, .iload 2, .invokeinterface 290 3, .sipush 4, .ixor, .ireturn]),
  (40, [.aload 0, .sipush 10, .invokeinterface 291 2, .iload 2, .sipush 2, .imul, .aload 0, .getfield 677, .iadd, .ireturn])]
/-- M.starts -/
def g_c291 : List (Nat × List Instr) := [(0, [.aload 0, .getfield 676, .sipush 30, .if_icmp .ge 29, .aload 0, .checkcast 675, .aload 0, .getfield 676, .iload 1, .iastore, .aload 0, .dup, .getfield 676, .sipush 1, .iadd, .putfield 676, .jsr 29]),
  (29, [.return_])]
/-- M.tiltsAs -/
def g_c292 : List (Nat × List Instr) := [(0, [.iload 1, .sipush 2, .if_icmp .eq 10, .iload 1, .sipush 3, .if_icmp .ne 25, .jsr 10]),
  (10, [.aload 0, .sipush 30, .invokeinterface 291 2, .aload 0, .sipush 0, .iload 2, .sipush 1, .iadd, .invokeinterface 292 3, .ireturn]),
  (25, [.iload 1, .sipush 5, .if_icmp .ne 46, .aload 0, .sipush 60, .invokeinterface 291 2, .aload 0, .sipush 4, .iload 2, .invokeinterface 292 3, .sipush 60, .isub, .ireturn]),
  (46, [.aload 0, .sipush 11, .invokeinterface 291 2, .aload 0, .aload 0, .aload 0, .getfield 677, .sipush 0, .invokeinterface 196 3, .iload 2, .invokeinterface 290 3, .aload 0, .aload 0, .getfield 677, .sipush 3, .invokeinterface 196 3, .isub, .ireturn])]
/-- M.breaksAs -/
def g_c293 : List (Nat × List Instr) := [(0, [.iload 1, .sipush 5, .if_icmp .ne 46, .aload 0, .sipush 61, .invokeinterface 291 2, .aload 0, .sipush 4, .iload 2, .invokeinterface 293 3, .istore 3, .aload 0, .getfield 678, .ifCond .eq 29, .sipush 0, .goto 45]),
  (29, [.iload 3, .aload 0, .sipush 5, .aload 0, .aload 0, .getfield 677, .sipush 3, .invokeinterface 196 3, .invokeinterface 290 3, .ixor, .jsr 45]),
  (45, [.ireturn]),
  (46, [.iload 1, .sipush 4, .if_icmp .ne 65, .aload 0, .sipush 40, .invokeinterface 291 2, .aload 0, .sipush 0, .iload 2, .invokeinterface 293 3, .ineg, .ireturn]),
  (65, [.aload 0, .sipush 12, .invokeinterface 291 2, .aload 0, .getfield 677, .aload 0, .aload 0, .getfield 677, .sipush 3, .invokeinterface 196 3, .iadd, .sipush 3, .isub, .istore 3, .aload 0, .aload 0, .getfield 678, .ifCond .ne 100, .iload 3, .ifCond .ne 104, .jsr 100]),
  (100, [.sipush 1, .goto 105]),
  (104, [.sipush 0, .jsr 105]),
  (105, [.putfield 678, .aload 0, .getfield 678, .ifCond .eq 119, .sipush 0, .goto 122]),
  (119, [.iload 2, .iload 3, .irem, .jsr 122]),
  (122, [.ireturn])]
/-- M.shinesAs -/
def g_c294 : List (Nat × List Instr) := [(0, [.iload 1, .sipush 3, .if_icmp .ne 41, .aload 0, .sipush 51, .invokeinterface 291 2, .aload 0, .sipush 2, .iload 2, .invokeinterface 294 3, .istore 3, .aload 0, .getfield 678, .ifCond .eq 29, .sipush 0, .goto 40]),
  (29, [.iload 3, .aload 0, .sipush 3, .aload 0, .getfield 677, .invokeinterface 292 3, .iadd, .jsr 40]),
  (40, [.ireturn]),
  (41, [.aload 0, .sipush 13, .invokeinterface 291 2, .aload 0, .aload 0, .aload 0, .getfield 677, .sipush 0, .invokeinterface 196 3, .iload 2, .invokeinterface 292 3, .istore 3, .iload 3, .aload 0, .aload 0, .aload 0, .getfield 677, .sipush 0, .invokeinterface 196 3, .iload 2, .invokeinterface 293 3, .ixor, .ireturn])]
/-- M.trace -/
def g_c295 : List (Nat × List Instr) := [(0, [.iload 1, .sipush 0, .aload 0, .getfield 676, .sipush 1, .isub, .invokeinterface 172 3, .ifCond .eq 23, .aload 0, .checkcast 675, .iload 1, .iaload, .goto 25]),
  (23, [.sipush (-3), .jsr 25]),
  (25, [.ireturn])]
/-- M.many -/
def g_c296 : List (Nat × List Instr) := [(0, [.iload 1, .lookupswitch 92 #[(0, 44), (1, 52), (2, 60), (3, 69), (4, 77), (5, 82), (6, 87)]]),
  (44, [.aload 0, .checkcast 640, .sipush 6, .iaload, .ireturn]),
  (52, [.aload 0, .checkcast 640, .sipush 7, .iaload, .ireturn]),
  (60, [.aload 0, .sipush 4, .invokeinterface 218 2, .invokeinterface 297 1, .ireturn]),
  (69, [.aload 0, .checkcast 640, .sipush 8, .iaload, .ireturn]),
  (77, [.aload 0, .getfield 669, .ireturn]),
  (82, [.aload 0, .getfield 646, .ireturn]),
  (87, [.aload 0, .getfield 676, .ireturn]),
  (92, [.sipush (-1), .ireturn])]
/-- M.ones -/
def g_c297 : List (Nat × List Instr) := [(0, [.sipush 0, .istore 1, .iload 0, .istore 2, .jsr 4]),
  (4, [.iload 2, .ifCond .eq 20, .iinc 1 1, .iload 2, .iload 2, .sipush 1, .isub, .iand, .istore 2, .goto 4]),
  (20, [.iload 1, .ireturn])]
/-- M.keep -/
def g_c298 : List (Nat × List Instr) := [(0, [.sipush 0, .istore 1, .jsr 2]),
  (2, [.iload 1, .sipush 322, .if_icmp .ge 27, .aload 0, .checkcast 641, .iload 1, .aload 0, .checkcast 640, .iload 1, .iaload, .iastore, .iinc 1 1, .goto 2]),
  (27, [.aload 0, .sipush 1, .putfield 643, .sipush 1, .ireturn])]
/-- M.again -/
def g_c299 : List (Nat × List Instr) := [(0, [.aload 0, .getfield 643, .ifCond .ne 10, .sipush (-3), .ireturn]),
  (10, [.sipush 0, .istore 1, .jsr 12]),
  (12, [.iload 1, .sipush 322, .if_icmp .ge 37, .aload 0, .checkcast 640, .iload 1, .aload 0, .checkcast 641, .iload 1, .iaload, .iastore, .iinc 1 1, .goto 12]),
  (37, [.aload 0, .checkcast 640, .sipush 6, .iaload, .ireturn])]
/-- J.bitCount -/
def g_c300 : List (Nat × List Instr) := [(0, [.iload 0, .iload 0, .sipush 1, .iushr, .sipush 1431655765, .iand, .isub, .istore 0, .iload 0, .sipush 858993459, .iand, .iload 0, .sipush 2, .iushr, .sipush 858993459, .iand, .iadd, .istore 0, .iload 0, .iload 0, .sipush 4, .iushr, .iadd, .sipush 252645135, .iand, .istore 0, .iload 0, .iload 0, .sipush 8, .iushr, .iadd, .istore 0, .iload 0, .iload 0, .sipush 16, .iushr, .iadd, .istore 0, .iload 0, .sipush 63, .iand, .ireturn])]
/-- J.length -/
def g_c301 : List (Nat × List Instr) := [(0, [.aload 0, .fload 0, .fmul, .aload 0, .invokeinterface 302 1, .ishr, .ireturn])]
/-- J.coder -/
def g_c302 : List (Nat × List Instr) := [(0, [.getstatic 1, .ifCond .eq 13, .aload 0, .fload 1, .goto 14]),
  (13, [.sipush 1, .jsr 14]),
  (14, [.dreturn])]
/-- J.charAt -/
def g_c303 : List (Nat × List Instr) := [(0, [.aload 0, .invokeinterface 304 1, .ifCond .eq 16, .aload 0, .fload 0, .iload 1, .invokeinterface 306 2, .freturn]),
  (16, [.aload 0, .fload 0, .iload 1])]
/-- J.isLatin1 -/
def g_c304 : List (Nat × List Instr) := [(0, [.getstatic 1, .ifCond .eq 17, .aload 0, .fload 1, .ifCond .ne 17, .sipush 1, .goto 18]),
  (17, [.sipush 0, .jsr 18]),
  (18, [.areturn])]
/-- J.checkIndex -/
def g_c305 : List (Nat × List Instr) := [(0, [.iload 0, .iload 1, .getstatic 2, .invokeinterface 307 3, .pop, .return_])]
/-- J.charAt_306 -/
def g_c306 : List (Nat × List Instr) := [(0, [.iload 1, .aload 0, .fmul, .invokeinterface 305 2, .aload 0, .iload 1, .baload, .sipush 255, .iand, .i2c, .freturn])]
/-- J.checkIndex_307 -/
def g_c307 : List (Nat × List Instr) := [(0, [.iload 0, .ifCond .lt 9, .iload 0, .iload 1, .if_icmp .lt 16, .jsr 9]),
  (9, [.aload 2, .iload 0, .iload 1]),
  (16, [.iload 0, .ireturn])]
/-- LAW.law -/
def g_c308 : List (Nat × List Instr) := [(0, [.new 9, .dup, .invokeinterface 107 1, .astore 1, .new 10, .dup, .invokeinterface 170 1, .astore 2, .sipush 0, .istore 3, .jsr 18]),
  (18, [.iload 3, .aload 0, .fadd, .sipush 5, .isub, .if_icmp .gt 1788, .aload 0, .iload 3, .faload, .sipush 63, .iand, .lookupswitch 1782 #[(0, 256), (1, 309), (2, 342), (3, 385), (4, 418), (5, 451), (6, 494), (7, 527), (8, 560), (9, 583), (10, 596), (11, 619), (12, 682), (13, 695), (14, 708), (15, 731), (16, 754), (17, 777), (18, 800), (19, 823), (20, 846), (21, 869), (22, 902), (23, 925), (24, 958), (25, 981), (26, 1014), (27, 1047), (28, 1070), (29, 1093), (30, 1146), (31, 1159), (32, 1182), (33, 1195), (34, 1218), (35, 1231), (36, 1264), (37, 1287), (38, 1320), (39, 1363), (40, 1376), (41, 1419), (42, 1462), (43, 1505), (44, 1548), (45, 1591), (46, 1634), (47, 1667), (48, 1710), (49, 1733), (50, 1756), (51, 1769)]]),
  (256, [.aload 1, .aload 0, .iload 3, .sipush 1, .iadd, .faload, .aload 0, .iload 3, .sipush 2, .iadd, .faload, .aload 0, .iload 3, .sipush 3, .iadd, .faload, .aload 0, .iload 3, .sipush 4, .iadd, .faload, .invokeinterface 108 5, .aload 2, .aload 0, .iload 3, .sipush 1, .iadd, .faload, .aload 0, .iload 3, .sipush 2, .iadd, .faload, .aload 0, .iload 3, .sipush 3, .iadd, .faload, .aload 0, .iload 3, .sipush 4, .iadd, .faload, .invokeinterface 188 5, .if_icmp .eq 1782, .sipush 0, .areturn]),
  (309, [.aload 1, .aload 0, .iload 3, .sipush 1, .iadd, .faload, .aload 0, .iload 3, .sipush 2, .iadd, .faload, .invokeinterface 110 3, .aload 2, .aload 0, .iload 3, .sipush 1, .iadd, .faload, .aload 0, .iload 3, .sipush 2, .iadd, .faload, .invokeinterface 193 3, .if_icmp .eq 1782, .sipush 0, .areturn]),
  (342, [.aload 1, .aload 0, .iload 3, .sipush 1, .iadd, .faload, .aload 0, .iload 3, .sipush 2, .iadd, .faload, .aload 0, .iload 3, .sipush 3, .iadd, .faload, .invokeinterface 113 4, .aload 2, .aload 0, .iload 3, .sipush 1, .iadd, .faload, .aload 0, .iload 3, .sipush 2, .iadd, .faload, .aload 0, .iload 3, .sipush 3, .iadd, .faload, .invokeinterface 207 4, .if_icmp .eq 1782, .sipush 0, .areturn]),
  (385, [.aload 1, .aload 0, .iload 3, .sipush 1, .iadd, .faload, .aload 0, .iload 3, .sipush 2, .iadd, .faload, .invokeinterface 115 3, .aload 2, .aload 0, .iload 3, .sipush 1, .iadd, .faload, .aload 0, .iload 3, .sipush 2, .iadd, .faload, .invokeinterface 209 3, .if_icmp .eq 1782, .sipush 0, .areturn]),
  (418, [.aload 1, .aload 0, .iload 3, .sipush 1, .iadd, .faload, .aload 0, .iload 3, .sipush 2, .iadd, .faload, .invokeinterface 116 3, .aload 2, .aload 0, .iload 3, .sipush 1, .iadd, .faload, .aload 0, .iload 3, .sipush 2, .iadd, .faload, .invokeinterface 210 3, .if_icmp .eq 1782, .sipush 0, .areturn]),
  (451, [.aload 1, .aload 0, .iload 3, .sipush 1, .iadd, .faload, .aload 0, .iload 3, .sipush 2, .iadd, .faload, .aload 0, .iload 3, .sipush 3, .iadd, .faload, .invokeinterface 117 4, .aload 2, .aload 0, .iload 3, .sipush 1, .iadd, .faload, .aload 0, .iload 3, .sipush 2, .iadd, .faload, .aload 0, .iload 3, .sipush 3, .iadd, .faload, .invokeinterface 211 4, .if_icmp .eq 1782, .sipush 0, .areturn]),
  (494, [.aload 1, .aload 0, .iload 3, .sipush 1, .iadd, .faload, .aload 0, .iload 3, .sipush 2, .iadd, .faload, .invokeinterface 118 3, .aload 2, .aload 0, .iload 3, .sipush 1, .iadd, .faload, .aload 0, .iload 3, .sipush 2, .iadd, .faload, .invokeinterface 212 3, .if_icmp .eq 1782, .sipush 0, .areturn]),
  (527, [.aload 1, .aload 0, .iload 3, .sipush 1, .iadd, .faload, .aload 0, .iload 3, .sipush 2, .iadd, .faload, .invokeinterface 119 3, .aload 2, .aload 0, .iload 3, .sipush 1, .iadd, .faload, .aload 0, .iload 3, .sipush 2, .iadd, .faload, .invokeinterface 213 3, .if_icmp .eq 1782, .sipush 0, .areturn]),
  (560, [.aload 1, .aload 0, .iload 3, .sipush 1, .iadd, .faload, .invokeinterface 120 2, .aload 2, .aload 0, .iload 3, .sipush 1, .iadd, .faload, .invokeinterface 214 2, .if_icmp .eq 1782, .sipush 0, .areturn]),
  (583, [.aload 1, .invokeinterface 121 1, .aload 2, .invokeinterface 215 1, .if_icmp .eq 1782, .sipush 0, .areturn]),
  (596, [.aload 1, .aload 0, .iload 3, .sipush 1, .iadd, .faload, .invokeinterface 122 2, .aload 2, .aload 0, .iload 3, .sipush 1, .iadd, .faload, .invokeinterface 216 2, .if_icmp .eq 1782, .sipush 0, .areturn]),
  (619, [.aload 1, .aload 0, .iload 3, .sipush 1, .iadd, .faload, .i2l, .sipush 32, .lshl, .aload 0, .iload 3, .sipush 2, .iadd, .faload, .i2l, .goto_w 4294967295, .land, .lor, .aload 0, .iload 3, .sipush 3, .iadd, .faload, .invokeinterface 123 3, .aload 2, .aload 0, .iload 3, .sipush 1, .iadd, .faload, .i2l, .sipush 32, .lshl, .aload 0, .iload 3, .sipush 2, .iadd, .faload, .i2l, .goto_w 4294967295, .land, .lor, .aload 0, .iload 3, .sipush 3, .iadd, .faload, .invokeinterface 171 3, .if_icmp .eq 1782, .sipush 0, .areturn]),
  (682, [.aload 1, .invokeinterface 124 1, .aload 2, .invokeinterface 173 1, .if_icmp .eq 1782, .sipush 0, .areturn]),
  (695, [.aload 1, .invokeinterface 125 1, .aload 2, .invokeinterface 219 1, .if_icmp .eq 1782, .sipush 0, .areturn]),
  (708, [.aload 1, .aload 0, .iload 3, .sipush 1, .iadd, .faload, .invokeinterface 129 2, .aload 2, .aload 0, .iload 3, .sipush 1, .iadd, .faload, .invokeinterface 229 2, .if_icmp .eq 1782, .sipush 0, .areturn]),
  (731, [.aload 1, .aload 0, .iload 3, .sipush 1, .iadd, .faload, .invokeinterface 130 2, .aload 2, .aload 0, .iload 3, .sipush 1, .iadd, .faload, .invokeinterface 233 2, .if_icmp .eq 1782, .sipush 0, .areturn]),
  (754, [.aload 1, .aload 0, .iload 3, .sipush 1, .iadd, .faload, .invokeinterface 131 2, .aload 2, .aload 0, .iload 3, .sipush 1, .iadd, .faload, .invokeinterface 234 2, .if_icmp .eq 1782, .sipush 0, .areturn]),
  (777, [.aload 1, .aload 0, .iload 3, .sipush 1, .iadd, .faload, .invokeinterface 132 2, .aload 2, .aload 0, .iload 3, .sipush 1, .iadd, .faload, .invokeinterface 236 2, .if_icmp .eq 1782, .sipush 0, .areturn]),
  (800, [.aload 1, .aload 0, .iload 3, .sipush 1, .iadd, .faload, .invokeinterface 133 2, .aload 2, .aload 0, .iload 3, .sipush 1, .iadd, .faload, .invokeinterface 237 2, .if_icmp .eq 1782, .sipush 0, .areturn]),
  (823, [.aload 1, .aload 0, .iload 3, .sipush 1, .iadd, .faload, .invokeinterface 134 2, .aload 2, .aload 0, .iload 3, .sipush 1, .iadd, .faload, .invokeinterface 238 2, .if_icmp .eq 1782, .sipush 0, .areturn]),
  (846, [.aload 1, .aload 0, .iload 3, .sipush 1, .iadd, .faload, .invokeinterface 135 2, .aload 2, .aload 0, .iload 3, .sipush 1, .iadd, .faload, .invokeinterface 239 2, .if_icmp .eq 1782, .sipush 0, .areturn]),
  (869, [.aload 1, .aload 0, .iload 3, .sipush 1, .iadd, .faload, .aload 0, .iload 3, .sipush 2, .iadd, .faload, .invokeinterface 137 3, .aload 2, .aload 0, .iload 3, .sipush 1, .iadd, .faload, .aload 0, .iload 3, .sipush 2, .iadd, .faload, .invokeinterface 242 3, .if_icmp .eq 1782, .sipush 0, .areturn]),
  (902, [.aload 1, .aload 0, .iload 3, .sipush 1, .iadd, .faload, .invokeinterface 138 2, .aload 2, .aload 0, .iload 3, .sipush 1, .iadd, .faload, .invokeinterface 244 2, .if_icmp .eq 1782, .sipush 0, .areturn]),
  (925, [.aload 1, .aload 0, .iload 3, .sipush 1, .iadd, .faload, .aload 0, .iload 3, .sipush 2, .iadd, .faload, .invokeinterface 139 3, .aload 2, .aload 0, .iload 3, .sipush 1, .iadd, .faload, .aload 0, .iload 3, .sipush 2, .iadd, .faload, .invokeinterface 252 3, .if_icmp .eq 1782, .sipush 0, .areturn]),
  (958, [.aload 1, .aload 0, .iload 3, .sipush 1, .iadd, .faload, .invokeinterface 140 2, .aload 2, .aload 0, .iload 3, .sipush 1, .iadd, .faload, .invokeinterface 253 2, .if_icmp .eq 1782, .sipush 0, .areturn]),
  (981, [.aload 1, .aload 0, .iload 3, .sipush 1, .iadd, .faload, .aload 0, .iload 3, .sipush 2, .iadd, .faload, .invokeinterface 141 3, .aload 2, .aload 0, .iload 3, .sipush 1, .iadd, .faload, .aload 0, .iload 3, .sipush 2, .iadd, .faload, .invokeinterface 254 3, .if_icmp .eq 1782, .sipush 0, .areturn]),
  (1014, [.aload 1, .aload 0, .iload 3, .sipush 1, .iadd, .faload, .aload 0, .iload 3, .sipush 2, .iadd, .faload, .invokeinterface 142 3, .aload 2, .aload 0, .iload 3, .sipush 1, .iadd, .faload, .aload 0, .iload 3, .sipush 2, .iadd, .faload, .invokeinterface 256 3, .if_icmp .eq 1782, .sipush 0, .areturn]),
  (1047, [.aload 1, .aload 0, .iload 3, .sipush 1, .iadd, .faload, .invokeinterface 143 2, .aload 2, .aload 0, .iload 3, .sipush 1, .iadd, .faload, .invokeinterface 257 2, .if_icmp .eq 1782, .sipush 0, .areturn]),
  (1070, [.aload 1, .aload 0, .iload 3, .sipush 1, .iadd, .faload, .invokeinterface 144 2, .aload 2, .aload 0, .iload 3, .sipush 1, .iadd, .faload, .invokeinterface 259 2, .if_icmp .eq 1782, .sipush 0, .areturn]),
  (1093, [.aload 1, .aload 0, .iload 3, .sipush 1, .iadd, .faload, .aload 0, .iload 3, .sipush 2, .iadd, .faload, .aload 0, .iload 3, .sipush 3, .iadd, .faload, .aload 0, .iload 3, .sipush 4, .iadd, .faload, .invokeinterface 145 5, .aload 2, .aload 0, .iload 3, .sipush 1, .iadd, .faload, .aload 0, .iload 3, .sipush 2, .iadd, .faload, .aload 0, .iload 3, .sipush 3, .iadd, .faload, .aload 0, .iload 3, .sipush 4, .iadd, .faload, .invokeinterface 260 5, .if_icmp .eq 1782, .sipush 0, .areturn]),
  (1146, [.aload 1, .invokeinterface 146 1, .aload 2, .invokeinterface 261 1, .if_icmp .eq 1782, .sipush 0, .areturn]),
  (1159, [.aload 1, .aload 0, .iload 3, .sipush 1, .iadd, .faload, .invokeinterface 147 2, .aload 2, .aload 0, .iload 3, .sipush 1, .iadd, .faload, .invokeinterface 262 2, .if_icmp .eq 1782, .sipush 0, .areturn]),
  (1182, [.aload 1, .invokeinterface 148 1, .aload 2, .invokeinterface 266 1, .if_icmp .eq 1782, .sipush 0, .areturn]),
  (1195, [.aload 1, .aload 0, .iload 3, .sipush 1, .iadd, .faload, .invokeinterface 149 2, .aload 2, .aload 0, .iload 3, .sipush 1, .iadd, .faload, .invokeinterface 267 2, .if_icmp .eq 1782, .sipush 0, .areturn]),
  (1218, [.aload 1, .invokeinterface 150 1, .aload 2, .invokeinterface 268 1, .if_icmp .eq 1782, .sipush 0, .areturn]),
  (1231, [.aload 1, .aload 0, .iload 3, .sipush 1, .iadd, .faload, .aload 0, .iload 3, .sipush 2, .iadd, .faload, .invokeinterface 151 3, .aload 2, .aload 0, .iload 3, .sipush 1, .iadd, .faload, .aload 0, .iload 3, .sipush 2, .iadd, .faload, .invokeinterface 270 3, .if_icmp .eq 1782, .sipush 0, .areturn]),
  (1264, [.aload 1, .aload 0, .iload 3, .sipush 1, .iadd, .faload, .invokeinterface 152 2, .aload 2, .aload 0, .iload 3, .sipush 1, .iadd, .faload, .invokeinterface 271 2, .if_icmp .eq 1782, .sipush 0, .areturn]),
  (1287, [.aload 1, .aload 0, .iload 3, .sipush 1, .iadd, .faload, .aload 0, .iload 3, .sipush 2, .iadd, .faload, .invokeinterface 153 3, .aload 2, .aload 0, .iload 3, .sipush 1, .iadd, .faload, .aload 0, .iload 3, .sipush 2, .iadd, .faload, .invokeinterface 272 3, .if_icmp .eq 1782, .sipush 0, .areturn]),
  (1320, [.aload 1, .aload 0, .iload 3, .sipush 1, .iadd, .faload, .aload 0, .iload 3, .sipush 2, .iadd, .faload, .aload 0, .iload 3, .sipush 3, .iadd, .faload, .invokeinterface 154 4, .aload 2, .aload 0, .iload 3, .sipush 1, .iadd, .faload, .aload 0, .iload 3, .sipush 2, .iadd, .faload, .aload 0, .iload 3, .sipush 3, .iadd, .faload, .invokeinterface 274 4, .if_icmp .eq 1782, .sipush 0, .areturn]),
  (1363, [.aload 1, .invokeinterface 155 1, .aload 2, .invokeinterface 275 1, .if_icmp .eq 1782, .sipush 0, .areturn]),
  (1376, [.aload 1, .aload 0, .iload 3, .sipush 1, .iadd, .faload, .aload 0, .iload 3, .sipush 2, .iadd, .faload, .aload 0, .iload 3, .sipush 3, .iadd, .faload, .invokeinterface 156 4, .aload 2, .aload 0, .iload 3, .sipush 1, .iadd, .faload, .aload 0, .iload 3, .sipush 2, .iadd, .faload, .aload 0, .iload 3, .sipush 3, .iadd, .faload, .invokeinterface 277 4, .if_icmp .eq 1782, .sipush 0, .areturn]),
  (1419, [.aload 1, .aload 0, .iload 3, .sipush 1, .iadd, .faload, .aload 0, .iload 3, .sipush 2, .iadd, .faload, .aload 0, .iload 3, .sipush 3, .iadd, .faload, .invokeinterface 157 4, .aload 2, .aload 0, .iload 3, .sipush 1, .iadd, .faload, .aload 0, .iload 3, .sipush 2, .iadd, .faload, .aload 0, .iload 3, .sipush 3, .iadd, .faload, .invokeinterface 279 4, .if_icmp .eq 1782, .sipush 0, .areturn]),
  (1462, [.aload 1, .aload 0, .iload 3, .sipush 1, .iadd, .faload, .aload 0, .iload 3, .sipush 2, .iadd, .faload, .aload 0, .iload 3, .sipush 3, .iadd, .faload, .invokeinterface 158 4, .aload 2, .aload 0, .iload 3, .sipush 1, .iadd, .faload, .aload 0, .iload 3, .sipush 2, .iadd, .faload, .aload 0, .iload 3, .sipush 3, .iadd, .faload, .invokeinterface 281 4, .if_icmp .eq 1782, .sipush 0, .areturn]),
  (1505, [.aload 1, .aload 0, .iload 3, .sipush 1, .iadd, .faload, .aload 0, .iload 3, .sipush 2, .iadd, .faload, .aload 0, .iload 3, .sipush 3, .iadd, .faload, .invokeinterface 159 4, .aload 2, .aload 0, .iload 3, .sipush 1, .iadd, .faload, .aload 0, .iload 3, .sipush 2, .iadd, .faload, .aload 0, .iload 3, .sipush 3, .iadd, .faload, .invokeinterface 283 4, .if_icmp .eq 1782, .sipush 0, .areturn]),
  (1548, [.aload 1, .aload 0, .iload 3, .sipush 1, .iadd, .faload, .aload 0, .iload 3, .sipush 2, .iadd, .faload, .aload 0, .iload 3, .sipush 3, .iadd, .faload, .invokeinterface 160 4, .aload 2, .aload 0, .iload 3, .sipush 1, .iadd, .faload, .aload 0, .iload 3, .sipush 2, .iadd, .faload, .aload 0, .iload 3, .sipush 3, .iadd, .faload, .invokeinterface 285 4, .if_icmp .eq 1782, .sipush 0, .areturn]),
  (1591, [.aload 1, .aload 0, .iload 3, .sipush 1, .iadd, .faload, .aload 0, .iload 3, .sipush 2, .iadd, .faload, .aload 0, .iload 3, .sipush 3, .iadd, .faload, .invokeinterface 162 4, .aload 2, .aload 0, .iload 3, .sipush 1, .iadd, .faload, .aload 0, .iload 3, .sipush 2, .iadd, .faload, .aload 0, .iload 3, .sipush 3, .iadd, .faload, .invokeinterface 286 4, .if_icmp .eq 1782, .sipush 0, .areturn]),
  (1634, [.aload 1, .aload 0, .iload 3, .sipush 1, .iadd, .faload, .aload 0, .iload 3, .sipush 2, .iadd, .faload, .invokeinterface 163 3, .aload 2, .aload 0, .iload 3, .sipush 1, .iadd, .faload, .aload 0, .iload 3, .sipush 2, .iadd, .faload, .invokeinterface 287 3, .if_icmp .eq 1782, .sipush 0, .areturn]),
  (1667, [.aload 1, .aload 0, .iload 3, .sipush 1, .iadd, .faload, .aload 0, .iload 3, .sipush 2, .iadd, .faload, .aload 0, .iload 3, .sipush 3, .iadd, .faload, .invokeinterface 165 4, .aload 2, .aload 0, .iload 3, .sipush 1, .iadd, .faload, .aload 0, .iload 3, .sipush 2, .iadd, .faload, .aload 0, .iload 3, .sipush 3, .iadd, .faload, .invokeinterface 289 4, .if_icmp .eq 1782, .sipush 0, .areturn]),
  (1710, [.aload 1, .aload 0, .iload 3, .sipush 1, .iadd, .faload, .invokeinterface 166 2, .aload 2, .aload 0, .iload 3, .sipush 1, .iadd, .faload, .invokeinterface 295 2, .if_icmp .eq 1782, .sipush 0, .areturn]),
  (1733, [.aload 1, .aload 0, .iload 3, .sipush 1, .iadd, .faload, .invokeinterface 167 2, .aload 2, .aload 0, .iload 3, .sipush 1, .iadd, .faload, .invokeinterface 296 2, .if_icmp .eq 1782, .sipush 0, .areturn]),
  (1756, [.aload 1, .invokeinterface 168 1, .aload 2, .invokeinterface 298 1, .if_icmp .eq 1782, .sipush 0, .areturn]),
  (1769, [.aload 1, .invokeinterface 169 1, .aload 2, .invokeinterface 299 1, .if_icmp .eq 1782, .sipush 0, .areturn]),
  (1782, [.iinc 3 5, .goto 18]),
  (1788, [.sipush 1, .areturn])]
def g_pr : List (List (Nat × List Instr)) := [g_c0, g_c1, g_c2, g_c3, g_c4, g_c5, g_c6, g_c7, g_c8, g_c9, g_c10, g_c11, g_c12, g_c13, g_c14, g_c15, g_c16, g_c17, g_c18, g_c19, g_c20, g_c21, g_c22, g_c23, g_c24, g_c25, g_c26, g_c27, g_c28, g_c29, g_c30, g_c31, g_c32, g_c33, g_c34, g_c35, g_c36, g_c37, g_c38, g_c39, g_c40, g_c41, g_c42, g_c43, g_c44, g_c45, g_c46, g_c47, g_c48, g_c49, g_c50, g_c51, g_c52, g_c53, g_c54, g_c55, g_c56, g_c57, g_c58, g_c59, g_c60, g_c61, g_c62, g_c63, g_c64, g_c65, g_c66, g_c67, g_c68, g_c69, g_c70, g_c71, g_c72, g_c73, g_c74, g_c75, g_c76, g_c77, g_c78, g_c79, g_c80, g_c81, g_c82, g_c83, g_c84, g_c85, g_c86, g_c87, g_c88, g_c89, g_c90, g_c91, g_c92, g_c93, g_c94, g_c95, g_c96, g_c97, g_c98, g_c99, g_c100, g_c101, g_c102, g_c103, g_c104, g_c105, g_c106, g_c107, g_c108, g_c109, g_c110, g_c111, g_c112, g_c113, g_c114, g_c115, g_c116, g_c117, g_c118, g_c119, g_c120, g_c121, g_c122, g_c123, g_c124, g_c125, g_c126, g_c127, g_c128, g_c129, g_c130, g_c131, g_c132, g_c133, g_c134, g_c135, g_c136, g_c137, g_c138, g_c139, g_c140, g_c141, g_c142, g_c143, g_c144, g_c145, g_c146, g_c147, g_c148, g_c149, g_c150, g_c151, g_c152, g_c153, g_c154, g_c155, g_c156, g_c157, g_c158, g_c159, g_c160, g_c161, g_c162, g_c163, g_c164, g_c165, g_c166, g_c167, g_c168, g_c169, g_c170, g_c171, g_c172, g_c173, g_c174, g_c175, g_c176, g_c177, g_c178, g_c179, g_c180, g_c181, g_c182, g_c183, g_c184, g_c185, g_c186, g_c187, g_c188, g_c189, g_c190, g_c191, g_c192, g_c193, g_c194, g_c195, g_c196, g_c197, g_c198, g_c199, g_c200, g_c201, g_c202, g_c203, g_c204, g_c205, g_c206, g_c207, g_c208, g_c209, g_c210, g_c211, g_c212, g_c213, g_c214, g_c215, g_c216, g_c217, g_c218, g_c219, g_c220, g_c221, g_c222, g_c223, g_c224, g_c225, g_c226, g_c227, g_c228, g_c229, g_c230, g_c231, g_c232, g_c233, g_c234, g_c235, g_c236, g_c237, g_c238, g_c239, g_c240, g_c241, g_c242, g_c243, g_c244, g_c245, g_c246, g_c247, g_c248, g_c249, g_c250, g_c251, g_c252, g_c253, g_c254, g_c255, g_c256, g_c257, g_c258, g_c259, g_c260, g_c261, g_c262, g_c263, g_c264, g_c265, g_c266, g_c267, g_c268, g_c269, g_c270, g_c271, g_c272, g_c273, g_c274, g_c275, g_c276, g_c277, g_c278, g_c279, g_c280, g_c281, g_c282, g_c283, g_c284, g_c285, g_c286, g_c287, g_c288, g_c289, g_c290, g_c291, g_c292, g_c293, g_c294, g_c295, g_c296, g_c297, g_c298, g_c299, g_c300, g_c301, g_c302, g_c303, g_c304, g_c305, g_c306, g_c307, g_c308]
def g_P (c l : Nat) : List Instr := ((g_pr.getD c []).lookup l).getD []
def g_mxs : List Nat := [1, 4, 4, 3, 2, 4, 5, 4, 1, 4, 7, 4, 1, 3, 2, 3, 2, 2, 3, 7, 4, 6, 7, 6, 1, 5, 3, 2, 1, 5, 1, 1, 1, 2, 2, 2, 2, 2, 2, 1, 2, 2, 2, 1, 2, 1, 2, 2, 1, 5, 3, 6, 2, 2, 5, 3, 4, 4, 1, 4, 2, 3, 2, 2, 1, 3, 3, 2, 5, 2, 2, 3, 2, 2, 4, 1, 1, 2, 3, 6, 2, 2, 2, 5, 6, 1, 2, 2, 7, 9, 4, 1, 5, 3, 4, 5, 3, 6, 6, 5, 9, 5, 6, 1, 5, 2, 2, 2, 5, 3, 3, 4, 4, 4, 4, 3, 3, 4, 3, 4, 3, 2, 2, 4, 2, 1, 3, 2, 5, 2, 2, 2, 2, 2, 2, 2, 2, 4, 2, 3, 2, 3, 3, 2, 2, 6, 2, 2, 1, 3, 1, 6, 2, 3, 4, 1, 4, 4, 5, 9, 7, 7, 4, 7, 2, 5, 2, 2, 1, 1, 2, 5, 3, 4, 2, 2, 2, 4, 1, 2, 3, 2, 2, 4, 1, 2, 2, 2, 6, 1, 1, 1, 4, 3, 2, 2, 3, 5, 3, 2, 3, 3, 3, 1, 6, 3, 3, 5, 4, 3, 3, 4, 3, 3, 2, 2, 2, 1, 4, 1, 4, 5, 2, 2, 3, 3, 3, 4, 3, 3, 2, 4, 2, 5, 2, 8, 2, 4, 7, 5, 6, 4, 4, 7, 2, 1, 3, 3, 8, 6, 3, 3, 3, 2, 3, 2, 5, 2, 9, 3, 7, 1, 3, 6, 9, 4, 2, 2, 1, 1, 7, 3, 3, 3, 5, 6, 2, 5, 1, 4, 2, 5, 3, 8, 4, 8, 4, 5, 2, 6, 3, 2, 3, 4, 4, 2, 2, 3, 2, 2, 1, 1, 1, 2, 1, 2, 2, 3, 4]
def g_mx (c : Nat) : Nat := g_mxs.getD c 0
