section
-- ===== PART A: goes FIRST, ahead of the names: the tables' words, and 'selects' of the private methods out of them =====
/-- a private method of a class that the tables say can be made, by its rows of tables_1 -/
def lw_okq (q : MethodName × Nat) : Prop := (q.1.cls ≠ "java/lang/invoke/MethodHandle" ∧ q.1.cls ≠ "java/lang/invoke/VarHandle") ∧ Cond.instantiable q.1.cls q.2 ∈ tables_1 ∧ Cond.privateMethod q.1 ∈ tables_1 ∧ Cond.instanceMethod q.1 ∈ tables_1
theorem lw_p0 : lw_okq (⟨"BridgeService$Laws", "holds", "(II)Z"⟩, 7) := ⟨⟨by decide +kernel, by decide +kernel⟩, List.mem_of_getElem? (i := 34) (by decide +kernel), List.mem_of_getElem? (i := 427) (by decide +kernel), List.mem_of_getElem? (i := 428) (by decide +kernel)⟩
theorem lw_p1 : lw_okq (⟨"BridgeService$Laws", "compares", "(I)Z"⟩, 7) := ⟨⟨by decide +kernel, by decide +kernel⟩, List.mem_of_getElem? (i := 34) (by decide +kernel), List.mem_of_getElem? (i := 432) (by decide +kernel), List.mem_of_getElem? (i := 433) (by decide +kernel)⟩
theorem lw_p2 : lw_okq (⟨"BridgeService$Reader", "nextWord", "()I"⟩, 14) := ⟨⟨by decide +kernel, by decide +kernel⟩, List.mem_of_getElem? (i := 161) (by decide +kernel), List.mem_of_getElem? (i := 513) (by decide +kernel), List.mem_of_getElem? (i := 514) (by decide +kernel)⟩
theorem lw_p3 : lw_okq (⟨"BridgeService$Reader", "readName", "()I"⟩, 14) := ⟨⟨by decide +kernel, by decide +kernel⟩, List.mem_of_getElem? (i := 161) (by decide +kernel), List.mem_of_getElem? (i := 520) (by decide +kernel), List.mem_of_getElem? (i := 521) (by decide +kernel)⟩
theorem lw_p4 : lw_okq (⟨"BridgeService$Reader", "readNumber", "()I"⟩, 14) := ⟨⟨by decide +kernel, by decide +kernel⟩, List.mem_of_getElem? (i := 161) (by decide +kernel), List.mem_of_getElem? (i := 576) (by decide +kernel), List.mem_of_getElem? (i := 577) (by decide +kernel)⟩
theorem lw_p5 : lw_okq (⟨"BridgeService$Reader", "mayStand", "(I)Z"⟩, 14) := ⟨⟨by decide +kernel, by decide +kernel⟩, List.mem_of_getElem? (i := 161) (by decide +kernel), List.mem_of_getElem? (i := 583) (by decide +kernel), List.mem_of_getElem? (i := 584) (by decide +kernel)⟩
theorem lw_p6 : lw_okq (⟨"BridgeService$Reader", "takeKind", "(I)Z"⟩, 14) := ⟨⟨by decide +kernel, by decide +kernel⟩, List.mem_of_getElem? (i := 161) (by decide +kernel), List.mem_of_getElem? (i := 587) (by decide +kernel), List.mem_of_getElem? (i := 588) (by decide +kernel)⟩
theorem lw_p7 : lw_okq (⟨"BridgeService$Reader", "takeTail", "(I)Z"⟩, 14) := ⟨⟨by decide +kernel, by decide +kernel⟩, List.mem_of_getElem? (i := 161) (by decide +kernel), List.mem_of_getElem? (i := 591) (by decide +kernel), List.mem_of_getElem? (i := 592) (by decide +kernel)⟩
theorem lw_p8 : lw_okq (⟨"BridgeService$Reader", "takeWill", "(I)Z"⟩, 14) := ⟨⟨by decide +kernel, by decide +kernel⟩, List.mem_of_getElem? (i := 161) (by decide +kernel), List.mem_of_getElem? (i := 595) (by decide +kernel), List.mem_of_getElem? (i := 596) (by decide +kernel)⟩
theorem lw_p9 : lw_okq (⟨"BridgeService$Reader", "takeOne", "(I)Z"⟩, 14) := ⟨⟨by decide +kernel, by decide +kernel⟩, List.mem_of_getElem? (i := 161) (by decide +kernel), List.mem_of_getElem? (i := 600) (by decide +kernel), List.mem_of_getElem? (i := 601) (by decide +kernel)⟩
theorem lw_p10 : lw_okq (⟨"BridgeService$Reader", "waitWith", "(I)Z"⟩, 14) := ⟨⟨by decide +kernel, by decide +kernel⟩, List.mem_of_getElem? (i := 161) (by decide +kernel), List.mem_of_getElem? (i := 604) (by decide +kernel), List.mem_of_getElem? (i := 605) (by decide +kernel)⟩
theorem lw_p11 : lw_okq (⟨"BridgeService$Reader", "valueOf", "(I)I"⟩, 14) := ⟨⟨by decide +kernel, by decide +kernel⟩, List.mem_of_getElem? (i := 161) (by decide +kernel), List.mem_of_getElem? (i := 611) (by decide +kernel), List.mem_of_getElem? (i := 612) (by decide +kernel)⟩
theorem lw_p12 : lw_okq (⟨"BridgeService$Reader", "takeSign", "(I)Z"⟩, 14) := ⟨⟨by decide +kernel, by decide +kernel⟩, List.mem_of_getElem? (i := 161) (by decide +kernel), List.mem_of_getElem? (i := 615) (by decide +kernel), List.mem_of_getElem? (i := 616) (by decide +kernel)⟩
theorem lw_p13 : lw_okq (⟨"BridgeService$Reader", "takeRight", "(I)Z"⟩, 14) := ⟨⟨by decide +kernel, by decide +kernel⟩, List.mem_of_getElem? (i := 161) (by decide +kernel), List.mem_of_getElem? (i := 619) (by decide +kernel), List.mem_of_getElem? (i := 620) (by decide +kernel)⟩
theorem lw_p14 : lw_okq (⟨"BridgeService$Reader", "endOne", "()V"⟩, 14) := ⟨⟨by decide +kernel, by decide +kernel⟩, List.mem_of_getElem? (i := 161) (by decide +kernel), List.mem_of_getElem? (i := 630) (by decide +kernel), List.mem_of_getElem? (i := 631) (by decide +kernel)⟩
theorem lw_p15 : lw_okq (⟨"BridgeService$Reader", "takeJoint", "(I)Z"⟩, 14) := ⟨⟨by decide +kernel, by decide +kernel⟩, List.mem_of_getElem? (i := 161) (by decide +kernel), List.mem_of_getElem? (i := 634) (by decide +kernel), List.mem_of_getElem? (i := 635) (by decide +kernel)⟩
def lw_privs_1 : List (MethodName × Nat) := [(⟨"BridgeService$Laws", "holds", "(II)Z"⟩, 7), (⟨"BridgeService$Laws", "compares", "(I)Z"⟩, 7), (⟨"BridgeService$Reader", "nextWord", "()I"⟩, 14), (⟨"BridgeService$Reader", "readName", "()I"⟩, 14), (⟨"BridgeService$Reader", "readNumber", "()I"⟩, 14), (⟨"BridgeService$Reader", "mayStand", "(I)Z"⟩, 14), (⟨"BridgeService$Reader", "takeKind", "(I)Z"⟩, 14), (⟨"BridgeService$Reader", "takeTail", "(I)Z"⟩, 14), (⟨"BridgeService$Reader", "takeWill", "(I)Z"⟩, 14), (⟨"BridgeService$Reader", "takeOne", "(I)Z"⟩, 14), (⟨"BridgeService$Reader", "waitWith", "(I)Z"⟩, 14), (⟨"BridgeService$Reader", "valueOf", "(I)I"⟩, 14), (⟨"BridgeService$Reader", "takeSign", "(I)Z"⟩, 14), (⟨"BridgeService$Reader", "takeRight", "(I)Z"⟩, 14), (⟨"BridgeService$Reader", "endOne", "()V"⟩, 14), (⟨"BridgeService$Reader", "takeJoint", "(I)Z"⟩, 14)]
theorem lw_r1 : ∀ q ∈ lw_privs_1, lw_okq q := List.forall_mem_cons.mpr ⟨lw_p0, List.forall_mem_cons.mpr ⟨lw_p1, List.forall_mem_cons.mpr ⟨lw_p2, List.forall_mem_cons.mpr ⟨lw_p3, List.forall_mem_cons.mpr ⟨lw_p4, List.forall_mem_cons.mpr ⟨lw_p5, List.forall_mem_cons.mpr ⟨lw_p6, List.forall_mem_cons.mpr ⟨lw_p7, List.forall_mem_cons.mpr ⟨lw_p8, List.forall_mem_cons.mpr ⟨lw_p9, List.forall_mem_cons.mpr ⟨lw_p10, List.forall_mem_cons.mpr ⟨lw_p11, List.forall_mem_cons.mpr ⟨lw_p12, List.forall_mem_cons.mpr ⟨lw_p13, List.forall_mem_cons.mpr ⟨lw_p14, List.forall_mem_cons.mpr ⟨lw_p15, fun _ h => absurd h List.not_mem_nil⟩⟩⟩⟩⟩⟩⟩⟩⟩⟩⟩⟩⟩⟩⟩⟩
theorem lw_p16 : lw_okq (⟨"BridgeService$Reader", "takeClose", "()Z"⟩, 14) := ⟨⟨by decide +kernel, by decide +kernel⟩, List.mem_of_getElem? (i := 161) (by decide +kernel), List.mem_of_getElem? (i := 638) (by decide +kernel), List.mem_of_getElem? (i := 639) (by decide +kernel)⟩
theorem lw_p17 : lw_okq (⟨"BridgeService$Reader", "appendJoints", "(I)V"⟩, 14) := ⟨⟨by decide +kernel, by decide +kernel⟩, List.mem_of_getElem? (i := 161) (by decide +kernel), List.mem_of_getElem? (i := 642) (by decide +kernel), List.mem_of_getElem? (i := 643) (by decide +kernel)⟩
theorem lw_p18 : lw_okq (⟨"BridgeService$Reader", "takeSemicolon", "(I)Z"⟩, 14) := ⟨⟨by decide +kernel, by decide +kernel⟩, List.mem_of_getElem? (i := 161) (by decide +kernel), List.mem_of_getElem? (i := 646) (by decide +kernel), List.mem_of_getElem? (i := 647) (by decide +kernel)⟩
theorem lw_p19 : lw_okq (⟨"BridgeService$Table", "leastWilling", "()I"⟩, 17) := ⟨⟨by decide +kernel, by decide +kernel⟩, List.mem_of_getElem? (i := 28) (by decide +kernel), List.mem_of_getElem? (i := 679) (by decide +kernel), List.mem_of_getElem? (i := 680) (by decide +kernel)⟩
theorem lw_p20 : lw_okq (⟨"BridgeService$Table", "sitDown", "(I)I"⟩, 17) := ⟨⟨by decide +kernel, by decide +kernel⟩, List.mem_of_getElem? (i := 28) (by decide +kernel), List.mem_of_getElem? (i := 686) (by decide +kernel), List.mem_of_getElem? (i := 687) (by decide +kernel)⟩
theorem lw_p21 : lw_okq (⟨"BridgeService$Table", "getUp", "(I)V"⟩, 17) := ⟨⟨by decide +kernel, by decide +kernel⟩, List.mem_of_getElem? (i := 28) (by decide +kernel), List.mem_of_getElem? (i := 691) (by decide +kernel), List.mem_of_getElem? (i := 692) (by decide +kernel)⟩
theorem lw_p22 : lw_okq (⟨"BridgeService$Table", "placesSpanned", "(I)J"⟩, 17) := ⟨⟨by decide +kernel, by decide +kernel⟩, List.mem_of_getElem? (i := 28) (by decide +kernel), List.mem_of_getElem? (i := 696) (by decide +kernel), List.mem_of_getElem? (i := 697) (by decide +kernel)⟩
theorem lw_p23 : lw_okq (⟨"BridgeService$Table", "closeTo", "(I)I"⟩, 17) := ⟨⟨by decide +kernel, by decide +kernel⟩, List.mem_of_getElem? (i := 28) (by decide +kernel), List.mem_of_getElem? (i := 780) (by decide +kernel), List.mem_of_getElem? (i := 781) (by decide +kernel)⟩
theorem lw_p24 : lw_okq (⟨"BridgeService$Table", "areClose", "(II)Z"⟩, 17) := ⟨⟨by decide +kernel, by decide +kernel⟩, List.mem_of_getElem? (i := 28) (by decide +kernel), List.mem_of_getElem? (i := 784) (by decide +kernel), List.mem_of_getElem? (i := 785) (by decide +kernel)⟩
theorem lw_p25 : lw_okq (⟨"BridgeService$Plans", "tryFrom", "(III)V"⟩, 9) := ⟨⟨by decide +kernel, by decide +kernel⟩, List.mem_of_getElem? (i := 214) (by decide +kernel), List.mem_of_getElem? (i := 819) (by decide +kernel), List.mem_of_getElem? (i := 820) (by decide +kernel)⟩
theorem lw_p26 : lw_okq (⟨"BridgeService$Plans", "weigh", "(II)V"⟩, 9) := ⟨⟨by decide +kernel, by decide +kernel⟩, List.mem_of_getElem? (i := 214) (by decide +kernel), List.mem_of_getElem? (i := 823) (by decide +kernel), List.mem_of_getElem? (i := 824) (by decide +kernel)⟩
theorem lw_p27 : lw_okq (⟨"BridgeService$Plans", "valueOfGame", "(IZ)I"⟩, 9) := ⟨⟨by decide +kernel, by decide +kernel⟩, List.mem_of_getElem? (i := 214) (by decide +kernel), List.mem_of_getElem? (i := 853) (by decide +kernel), List.mem_of_getElem? (i := 854) (by decide +kernel)⟩
theorem lw_p28 : lw_okq (⟨"BridgeService$Plans", "valueOfAct", "(IIZ)I"⟩, 9) := ⟨⟨by decide +kernel, by decide +kernel⟩, List.mem_of_getElem? (i := 214) (by decide +kernel), List.mem_of_getElem? (i := 857) (by decide +kernel), List.mem_of_getElem? (i := 858) (by decide +kernel)⟩
theorem lw_p29 : lw_okq (⟨"BridgeService$Table", "wrongBy", "(III)I"⟩, 17) := ⟨⟨by decide +kernel, by decide +kernel⟩, List.mem_of_getElem? (i := 28) (by decide +kernel), List.mem_of_getElem? (i := 890) (by decide +kernel), List.mem_of_getElem? (i := 891) (by decide +kernel)⟩
theorem lw_p30 : lw_okq (⟨"BridgeService$Rows", "isRight", "(I)Z"⟩, 3) := ⟨⟨by decide +kernel, by decide +kernel⟩, List.mem_of_getElem? (i := 254) (by decide +kernel), List.mem_of_getElem? (i := 976) (by decide +kernel), List.mem_of_getElem? (i := 977) (by decide +kernel)⟩
theorem lw_p31 : lw_okq (⟨"BridgeService$Sheet", "narrowed", "(I)J"⟩, 3) := ⟨⟨by decide +kernel, by decide +kernel⟩, List.mem_of_getElem? (i := 302) (by decide +kernel), List.mem_of_getElem? (i := 1006) (by decide +kernel), List.mem_of_getElem? (i := 1007) (by decide +kernel)⟩
def lw_privs_2 : List (MethodName × Nat) := [(⟨"BridgeService$Reader", "takeClose", "()Z"⟩, 14), (⟨"BridgeService$Reader", "appendJoints", "(I)V"⟩, 14), (⟨"BridgeService$Reader", "takeSemicolon", "(I)Z"⟩, 14), (⟨"BridgeService$Table", "leastWilling", "()I"⟩, 17), (⟨"BridgeService$Table", "sitDown", "(I)I"⟩, 17), (⟨"BridgeService$Table", "getUp", "(I)V"⟩, 17), (⟨"BridgeService$Table", "placesSpanned", "(I)J"⟩, 17), (⟨"BridgeService$Table", "closeTo", "(I)I"⟩, 17), (⟨"BridgeService$Table", "areClose", "(II)Z"⟩, 17), (⟨"BridgeService$Plans", "tryFrom", "(III)V"⟩, 9), (⟨"BridgeService$Plans", "weigh", "(II)V"⟩, 9), (⟨"BridgeService$Plans", "valueOfGame", "(IZ)I"⟩, 9), (⟨"BridgeService$Plans", "valueOfAct", "(IIZ)I"⟩, 9), (⟨"BridgeService$Table", "wrongBy", "(III)I"⟩, 17), (⟨"BridgeService$Rows", "isRight", "(I)Z"⟩, 3), (⟨"BridgeService$Sheet", "narrowed", "(I)J"⟩, 3)]
theorem lw_r2 : ∀ q ∈ lw_privs_2, lw_okq q := List.forall_mem_cons.mpr ⟨lw_p16, List.forall_mem_cons.mpr ⟨lw_p17, List.forall_mem_cons.mpr ⟨lw_p18, List.forall_mem_cons.mpr ⟨lw_p19, List.forall_mem_cons.mpr ⟨lw_p20, List.forall_mem_cons.mpr ⟨lw_p21, List.forall_mem_cons.mpr ⟨lw_p22, List.forall_mem_cons.mpr ⟨lw_p23, List.forall_mem_cons.mpr ⟨lw_p24, List.forall_mem_cons.mpr ⟨lw_p25, List.forall_mem_cons.mpr ⟨lw_p26, List.forall_mem_cons.mpr ⟨lw_p27, List.forall_mem_cons.mpr ⟨lw_p28, List.forall_mem_cons.mpr ⟨lw_p29, List.forall_mem_cons.mpr ⟨lw_p30, List.forall_mem_cons.mpr ⟨lw_p31, fun _ h => absurd h List.not_mem_nil⟩⟩⟩⟩⟩⟩⟩⟩⟩⟩⟩⟩⟩⟩⟩⟩
theorem lw_p32 : lw_okq (⟨"BridgeService", "worthOfItems", "(LBridgeService$Sheet;II)I"⟩, 9) := ⟨⟨by decide +kernel, by decide +kernel⟩, List.mem_of_getElem? (i := 20) (by decide +kernel), List.mem_of_getElem? (i := 1028) (by decide +kernel), List.mem_of_getElem? (i := 1029) (by decide +kernel)⟩
theorem lw_p33 : lw_okq (⟨"BridgeService", "heldOn", "(LBridgeService$Shelf;)I"⟩, 9) := ⟨⟨by decide +kernel, by decide +kernel⟩, List.mem_of_getElem? (i := 20) (by decide +kernel), List.mem_of_getElem? (i := 1050) (by decide +kernel), List.mem_of_getElem? (i := 1051) (by decide +kernel)⟩
theorem lw_p34 : lw_okq (⟨"BridgeService$Acting", "lays", "(I)I"⟩, 6) := ⟨⟨by decide +kernel, by decide +kernel⟩, List.mem_of_getElem? (i := 276) (by decide +kernel), List.mem_of_getElem? (i := 1067) (by decide +kernel), List.mem_of_getElem? (i := 1068) (by decide +kernel)⟩
theorem lw_p35 : lw_okq (⟨"BridgeService$Acting", "note", "(I)V"⟩, 6) := ⟨⟨by decide +kernel, by decide +kernel⟩, List.mem_of_getElem? (i := 276) (by decide +kernel), List.mem_of_getElem? (i := 1071) (by decide +kernel), List.mem_of_getElem? (i := 1072) (by decide +kernel)⟩
theorem lw_p36 : lw_okq (⟨"BridgeService$Acting", "tilts", "(I)I"⟩, 6) := ⟨⟨by decide +kernel, by decide +kernel⟩, List.mem_of_getElem? (i := 276) (by decide +kernel), List.mem_of_getElem? (i := 1075) (by decide +kernel), List.mem_of_getElem? (i := 1076) (by decide +kernel)⟩
theorem lw_p37 : lw_okq (⟨"BridgeService$Acting", "breaks", "(I)I"⟩, 6) := ⟨⟨by decide +kernel, by decide +kernel⟩, List.mem_of_getElem? (i := 276) (by decide +kernel), List.mem_of_getElem? (i := 1080) (by decide +kernel), List.mem_of_getElem? (i := 1081) (by decide +kernel)⟩
theorem lw_p38 : lw_okq (⟨"BridgeService$Acting", "shines", "(I)I"⟩, 6) := ⟨⟨by decide +kernel, by decide +kernel⟩, List.mem_of_getElem? (i := 276) (by decide +kernel), List.mem_of_getElem? (i := 1084) (by decide +kernel), List.mem_of_getElem? (i := 1085) (by decide +kernel)⟩
theorem lw_p39 : lw_okq (⟨"BridgeServiceModel", "next", "()V"⟩, 39) := ⟨⟨by decide +kernel, by decide +kernel⟩, List.mem_of_getElem? (i := 1116) (by decide +kernel), List.mem_of_getElem? (i := 1253) (by decide +kernel), List.mem_of_getElem? (i := 1254) (by decide +kernel)⟩
theorem lw_p40 : lw_okq (⟨"BridgeServiceModel", "byteAt", "(I)I"⟩, 39) := ⟨⟨by decide +kernel, by decide +kernel⟩, List.mem_of_getElem? (i := 1116) (by decide +kernel), List.mem_of_getElem? (i := 1257) (by decide +kernel), List.mem_of_getElem? (i := 1258) (by decide +kernel)⟩
theorem lw_p41 : lw_okq (⟨"BridgeServiceModel", "readsName", "()V"⟩, 39) := ⟨⟨by decide +kernel, by decide +kernel⟩, List.mem_of_getElem? (i := 1116) (by decide +kernel), List.mem_of_getElem? (i := 1261) (by decide +kernel), List.mem_of_getElem? (i := 1262) (by decide +kernel)⟩
theorem lw_p42 : lw_okq (⟨"BridgeServiceModel", "isNameOf", "(I)Z"⟩, 39) := ⟨⟨by decide +kernel, by decide +kernel⟩, List.mem_of_getElem? (i := 1116) (by decide +kernel), List.mem_of_getElem? (i := 1265) (by decide +kernel), List.mem_of_getElem? (i := 1266) (by decide +kernel)⟩
theorem lw_p43 : lw_okq (⟨"BridgeServiceModel", "readsNumber", "()V"⟩, 39) := ⟨⟨by decide +kernel, by decide +kernel⟩, List.mem_of_getElem? (i := 1116) (by decide +kernel), List.mem_of_getElem? (i := 1269) (by decide +kernel), List.mem_of_getElem? (i := 1270) (by decide +kernel)⟩
theorem lw_p44 : lw_okq (⟨"BridgeServiceModel", "readsRule", "(I)Z"⟩, 39) := ⟨⟨by decide +kernel, by decide +kernel⟩, List.mem_of_getElem? (i := 1116) (by decide +kernel), List.mem_of_getElem? (i := 1273) (by decide +kernel), List.mem_of_getElem? (i := 1274) (by decide +kernel)⟩
theorem lw_p45 : lw_okq (⟨"BridgeServiceModel", "takes", "(I)Z"⟩, 39) := ⟨⟨by decide +kernel, by decide +kernel⟩, List.mem_of_getElem? (i := 1116) (by decide +kernel), List.mem_of_getElem? (i := 1277) (by decide +kernel), List.mem_of_getElem? (i := 1278) (by decide +kernel)⟩
theorem lw_p46 : lw_okq (⟨"BridgeServiceModel", "readsCondition", "()Z"⟩, 39) := ⟨⟨by decide +kernel, by decide +kernel⟩, List.mem_of_getElem? (i := 1116) (by decide +kernel), List.mem_of_getElem? (i := 1281) (by decide +kernel), List.mem_of_getElem? (i := 1282) (by decide +kernel)⟩
theorem lw_p47 : lw_okq (⟨"BridgeServiceModel", "readsAll", "()Z"⟩, 39) := ⟨⟨by decide +kernel, by decide +kernel⟩, List.mem_of_getElem? (i := 1116) (by decide +kernel), List.mem_of_getElem? (i := 1285) (by decide +kernel), List.mem_of_getElem? (i := 1286) (by decide +kernel)⟩
def lw_privs_3 : List (MethodName × Nat) := [(⟨"BridgeService", "worthOfItems", "(LBridgeService$Sheet;II)I"⟩, 9), (⟨"BridgeService", "heldOn", "(LBridgeService$Shelf;)I"⟩, 9), (⟨"BridgeService$Acting", "lays", "(I)I"⟩, 6), (⟨"BridgeService$Acting", "note", "(I)V"⟩, 6), (⟨"BridgeService$Acting", "tilts", "(I)I"⟩, 6), (⟨"BridgeService$Acting", "breaks", "(I)I"⟩, 6), (⟨"BridgeService$Acting", "shines", "(I)I"⟩, 6), (⟨"BridgeServiceModel", "next", "()V"⟩, 39), (⟨"BridgeServiceModel", "byteAt", "(I)I"⟩, 39), (⟨"BridgeServiceModel", "readsName", "()V"⟩, 39), (⟨"BridgeServiceModel", "isNameOf", "(I)Z"⟩, 39), (⟨"BridgeServiceModel", "readsNumber", "()V"⟩, 39), (⟨"BridgeServiceModel", "readsRule", "(I)Z"⟩, 39), (⟨"BridgeServiceModel", "takes", "(I)Z"⟩, 39), (⟨"BridgeServiceModel", "readsCondition", "()Z"⟩, 39), (⟨"BridgeServiceModel", "readsAll", "()Z"⟩, 39)]
theorem lw_r3 : ∀ q ∈ lw_privs_3, lw_okq q := List.forall_mem_cons.mpr ⟨lw_p32, List.forall_mem_cons.mpr ⟨lw_p33, List.forall_mem_cons.mpr ⟨lw_p34, List.forall_mem_cons.mpr ⟨lw_p35, List.forall_mem_cons.mpr ⟨lw_p36, List.forall_mem_cons.mpr ⟨lw_p37, List.forall_mem_cons.mpr ⟨lw_p38, List.forall_mem_cons.mpr ⟨lw_p39, List.forall_mem_cons.mpr ⟨lw_p40, List.forall_mem_cons.mpr ⟨lw_p41, List.forall_mem_cons.mpr ⟨lw_p42, List.forall_mem_cons.mpr ⟨lw_p43, List.forall_mem_cons.mpr ⟨lw_p44, List.forall_mem_cons.mpr ⟨lw_p45, List.forall_mem_cons.mpr ⟨lw_p46, List.forall_mem_cons.mpr ⟨lw_p47, fun _ h => absurd h List.not_mem_nil⟩⟩⟩⟩⟩⟩⟩⟩⟩⟩⟩⟩⟩⟩⟩⟩
theorem lw_p48 : lw_okq (⟨"BridgeServiceModel", "readsOne", "()Z"⟩, 39) := ⟨⟨by decide +kernel, by decide +kernel⟩, List.mem_of_getElem? (i := 1116) (by decide +kernel), List.mem_of_getElem? (i := 1289) (by decide +kernel), List.mem_of_getElem? (i := 1290) (by decide +kernel)⟩
theorem lw_p49 : lw_okq (⟨"BridgeServiceModel", "readsWithin", "()Z"⟩, 39) := ⟨⟨by decide +kernel, by decide +kernel⟩, List.mem_of_getElem? (i := 1116) (by decide +kernel), List.mem_of_getElem? (i := 1293) (by decide +kernel), List.mem_of_getElem? (i := 1294) (by decide +kernel)⟩
theorem lw_p50 : lw_okq (⟨"BridgeServiceModel", "readsLike", "()Z"⟩, 39) := ⟨⟨by decide +kernel, by decide +kernel⟩, List.mem_of_getElem? (i := 1116) (by decide +kernel), List.mem_of_getElem? (i := 1297) (by decide +kernel), List.mem_of_getElem? (i := 1298) (by decide +kernel)⟩
theorem lw_p51 : lw_okq (⟨"BridgeServiceModel", "readsValue", "()Z"⟩, 39) := ⟨⟨by decide +kernel, by decide +kernel⟩, List.mem_of_getElem? (i := 1116) (by decide +kernel), List.mem_of_getElem? (i := 1301) (by decide +kernel), List.mem_of_getElem? (i := 1302) (by decide +kernel)⟩
theorem lw_p52 : lw_okq (⟨"BridgeServiceModel", "lays", "(I)V"⟩, 39) := ⟨⟨by decide +kernel, by decide +kernel⟩, List.mem_of_getElem? (i := 1116) (by decide +kernel), List.mem_of_getElem? (i := 1305) (by decide +kernel), List.mem_of_getElem? (i := 1306) (by decide +kernel)⟩
theorem lw_p53 : lw_okq (⟨"BridgeServiceModel", "puts", "(III)V"⟩, 39) := ⟨⟨by decide +kernel, by decide +kernel⟩, List.mem_of_getElem? (i := 1116) (by decide +kernel), List.mem_of_getElem? (i := 1322) (by decide +kernel), List.mem_of_getElem? (i := 1323) (by decide +kernel)⟩
theorem lw_p54 : lw_okq (⟨"BridgeServiceModel", "isPiece", "(I)Z"⟩, 39) := ⟨⟨by decide +kernel, by decide +kernel⟩, List.mem_of_getElem? (i := 1116) (by decide +kernel), List.mem_of_getElem? (i := 1330) (by decide +kernel), List.mem_of_getElem? (i := 1331) (by decide +kernel)⟩
theorem lw_p55 : lw_okq (⟨"BridgeServiceModel", "spansOf", "(I)I"⟩, 39) := ⟨⟨by decide +kernel, by decide +kernel⟩, List.mem_of_getElem? (i := 1116) (by decide +kernel), List.mem_of_getElem? (i := 1334) (by decide +kernel), List.mem_of_getElem? (i := 1335) (by decide +kernel)⟩
theorem lw_p56 : lw_okq (⟨"BridgeServiceModel", "get", "(II)I"⟩, 39) := ⟨⟨by decide +kernel, by decide +kernel⟩, List.mem_of_getElem? (i := 1116) (by decide +kernel), List.mem_of_getElem? (i := 1338) (by decide +kernel), List.mem_of_getElem? (i := 1339) (by decide +kernel)⟩
theorem lw_p57 : lw_okq (⟨"BridgeServiceModel", "grudgeOf", "(I)I"⟩, 39) := ⟨⟨by decide +kernel, by decide +kernel⟩, List.mem_of_getElem? (i := 1116) (by decide +kernel), List.mem_of_getElem? (i := 1345) (by decide +kernel), List.mem_of_getElem? (i := 1346) (by decide +kernel)⟩
theorem lw_p58 : lw_okq (⟨"BridgeServiceModel", "wouldSit", "(I)Z"⟩, 39) := ⟨⟨by decide +kernel, by decide +kernel⟩, List.mem_of_getElem? (i := 1116) (by decide +kernel), List.mem_of_getElem? (i := 1349) (by decide +kernel), List.mem_of_getElem? (i := 1350) (by decide +kernel)⟩
theorem lw_p59 : lw_okq (⟨"BridgeServiceModel", "willOf", "(I)I"⟩, 39) := ⟨⟨by decide +kernel, by decide +kernel⟩, List.mem_of_getElem? (i := 1116) (by decide +kernel), List.mem_of_getElem? (i := 1353) (by decide +kernel), List.mem_of_getElem? (i := 1354) (by decide +kernel)⟩
theorem lw_p60 : lw_okq (⟨"BridgeServiceModel", "ruleOf", "(II)I"⟩, 39) := ⟨⟨by decide +kernel, by decide +kernel⟩, List.mem_of_getElem? (i := 1116) (by decide +kernel), List.mem_of_getElem? (i := 1357) (by decide +kernel), List.mem_of_getElem? (i := 1358) (by decide +kernel)⟩
theorem lw_p61 : lw_okq (⟨"BridgeServiceModel", "holdsFor", "(II)Z"⟩, 39) := ⟨⟨by decide +kernel, by decide +kernel⟩, List.mem_of_getElem? (i := 1116) (by decide +kernel), List.mem_of_getElem? (i := 1367) (by decide +kernel), List.mem_of_getElem? (i := 1368) (by decide +kernel)⟩
theorem lw_p62 : lw_okq (⟨"BridgeServiceModel", "knownOf", "(II)I"⟩, 39) := ⟨⟨by decide +kernel, by decide +kernel⟩, List.mem_of_getElem? (i := 1116) (by decide +kernel), List.mem_of_getElem? (i := 1371) (by decide +kernel), List.mem_of_getElem? (i := 1372) (by decide +kernel)⟩
theorem lw_p63 : lw_okq (⟨"BridgeServiceModel", "becomes", "(II)I"⟩, 39) := ⟨⟨by decide +kernel, by decide +kernel⟩, List.mem_of_getElem? (i := 1116) (by decide +kernel), List.mem_of_getElem? (i := 1382) (by decide +kernel), List.mem_of_getElem? (i := 1383) (by decide +kernel)⟩
def lw_privs_4 : List (MethodName × Nat) := [(⟨"BridgeServiceModel", "readsOne", "()Z"⟩, 39), (⟨"BridgeServiceModel", "readsWithin", "()Z"⟩, 39), (⟨"BridgeServiceModel", "readsLike", "()Z"⟩, 39), (⟨"BridgeServiceModel", "readsValue", "()Z"⟩, 39), (⟨"BridgeServiceModel", "lays", "(I)V"⟩, 39), (⟨"BridgeServiceModel", "puts", "(III)V"⟩, 39), (⟨"BridgeServiceModel", "isPiece", "(I)Z"⟩, 39), (⟨"BridgeServiceModel", "spansOf", "(I)I"⟩, 39), (⟨"BridgeServiceModel", "get", "(II)I"⟩, 39), (⟨"BridgeServiceModel", "grudgeOf", "(I)I"⟩, 39), (⟨"BridgeServiceModel", "wouldSit", "(I)Z"⟩, 39), (⟨"BridgeServiceModel", "willOf", "(I)I"⟩, 39), (⟨"BridgeServiceModel", "ruleOf", "(II)I"⟩, 39), (⟨"BridgeServiceModel", "holdsFor", "(II)Z"⟩, 39), (⟨"BridgeServiceModel", "knownOf", "(II)I"⟩, 39), (⟨"BridgeServiceModel", "becomes", "(II)I"⟩, 39)]
theorem lw_r4 : ∀ q ∈ lw_privs_4, lw_okq q := List.forall_mem_cons.mpr ⟨lw_p48, List.forall_mem_cons.mpr ⟨lw_p49, List.forall_mem_cons.mpr ⟨lw_p50, List.forall_mem_cons.mpr ⟨lw_p51, List.forall_mem_cons.mpr ⟨lw_p52, List.forall_mem_cons.mpr ⟨lw_p53, List.forall_mem_cons.mpr ⟨lw_p54, List.forall_mem_cons.mpr ⟨lw_p55, List.forall_mem_cons.mpr ⟨lw_p56, List.forall_mem_cons.mpr ⟨lw_p57, List.forall_mem_cons.mpr ⟨lw_p58, List.forall_mem_cons.mpr ⟨lw_p59, List.forall_mem_cons.mpr ⟨lw_p60, List.forall_mem_cons.mpr ⟨lw_p61, List.forall_mem_cons.mpr ⟨lw_p62, List.forall_mem_cons.mpr ⟨lw_p63, fun _ h => absurd h List.not_mem_nil⟩⟩⟩⟩⟩⟩⟩⟩⟩⟩⟩⟩⟩⟩⟩⟩
theorem lw_p64 : lw_okq (⟨"BridgeServiceModel", "isOver", "()Z"⟩, 39) := ⟨⟨by decide +kernel, by decide +kernel⟩, List.mem_of_getElem? (i := 1116) (by decide +kernel), List.mem_of_getElem? (i := 1418) (by decide +kernel), List.mem_of_getElem? (i := 1419) (by decide +kernel)⟩
theorem lw_p65 : lw_okq (⟨"BridgeServiceModel", "those", "(I)I"⟩, 39) := ⟨⟨by decide +kernel, by decide +kernel⟩, List.mem_of_getElem? (i := 1116) (by decide +kernel), List.mem_of_getElem? (i := 1422) (by decide +kernel), List.mem_of_getElem? (i := 1423) (by decide +kernel)⟩
theorem lw_p66 : lw_okq (⟨"BridgeServiceModel", "goesBy", "(I)I"⟩, 39) := ⟨⟨by decide +kernel, by decide +kernel⟩, List.mem_of_getElem? (i := 1116) (by decide +kernel), List.mem_of_getElem? (i := 1430) (by decide +kernel), List.mem_of_getElem? (i := 1431) (by decide +kernel)⟩
theorem lw_p67 : lw_okq (⟨"BridgeServiceModel", "restOne", "()I"⟩, 39) := ⟨⟨by decide +kernel, by decide +kernel⟩, List.mem_of_getElem? (i := 1116) (by decide +kernel), List.mem_of_getElem? (i := 1440) (by decide +kernel), List.mem_of_getElem? (i := 1441) (by decide +kernel)⟩
theorem lw_p68 : lw_okq (⟨"BridgeServiceModel", "meets", "(I)I"⟩, 39) := ⟨⟨by decide +kernel, by decide +kernel⟩, List.mem_of_getElem? (i := 1116) (by decide +kernel), List.mem_of_getElem? (i := 1444) (by decide +kernel), List.mem_of_getElem? (i := 1445) (by decide +kernel)⟩
theorem lw_p69 : lw_okq (⟨"BridgeServiceModel", "sits", "(I)I"⟩, 39) := ⟨⟨by decide +kernel, by decide +kernel⟩, List.mem_of_getElem? (i := 1116) (by decide +kernel), List.mem_of_getElem? (i := 1448) (by decide +kernel), List.mem_of_getElem? (i := 1449) (by decide +kernel)⟩
theorem lw_p70 : lw_okq (⟨"BridgeServiceModel", "walksOn", "()I"⟩, 39) := ⟨⟨by decide +kernel, by decide +kernel⟩, List.mem_of_getElem? (i := 1116) (by decide +kernel), List.mem_of_getElem? (i := 1452) (by decide +kernel), List.mem_of_getElem? (i := 1453) (by decide +kernel)⟩
theorem lw_p71 : lw_okq (⟨"BridgeServiceModel", "isThere", "(I)Z"⟩, 39) := ⟨⟨by decide +kernel, by decide +kernel⟩, List.mem_of_getElem? (i := 1116) (by decide +kernel), List.mem_of_getElem? (i := 1456) (by decide +kernel), List.mem_of_getElem? (i := 1457) (by decide +kernel)⟩
theorem lw_p72 : lw_okq (⟨"BridgeServiceModel", "isSpanned", "(II)Z"⟩, 39) := ⟨⟨by decide +kernel, by decide +kernel⟩, List.mem_of_getElem? (i := 1116) (by decide +kernel), List.mem_of_getElem? (i := 1460) (by decide +kernel), List.mem_of_getElem? (i := 1461) (by decide +kernel)⟩
theorem lw_p73 : lw_okq (⟨"BridgeServiceModel", "layDown", "()V"⟩, 39) := ⟨⟨by decide +kernel, by decide +kernel⟩, List.mem_of_getElem? (i := 1116) (by decide +kernel), List.mem_of_getElem? (i := 1468) (by decide +kernel), List.mem_of_getElem? (i := 1469) (by decide +kernel)⟩
theorem lw_p74 : lw_okq (⟨"BridgeServiceModel", "restOf", "(I)I"⟩, 39) := ⟨⟨by decide +kernel, by decide +kernel⟩, List.mem_of_getElem? (i := 1116) (by decide +kernel), List.mem_of_getElem? (i := 1472) (by decide +kernel), List.mem_of_getElem? (i := 1473) (by decide +kernel)⟩
theorem lw_p75 : lw_okq (⟨"BridgeServiceModel", "layBack", "()V"⟩, 39) := ⟨⟨by decide +kernel, by decide +kernel⟩, List.mem_of_getElem? (i := 1116) (by decide +kernel), List.mem_of_getElem? (i := 1476) (by decide +kernel), List.mem_of_getElem? (i := 1477) (by decide +kernel)⟩
theorem lw_p76 : lw_okq (⟨"BridgeServiceModel", "bestFor", "(III)I"⟩, 39) := ⟨⟨by decide +kernel, by decide +kernel⟩, List.mem_of_getElem? (i := 1116) (by decide +kernel), List.mem_of_getElem? (i := 1488) (by decide +kernel), List.mem_of_getElem? (i := 1489) (by decide +kernel)⟩
theorem lw_p77 : lw_okq (⟨"BridgeServiceModel", "branchOf", "(I)I"⟩, 39) := ⟨⟨by decide +kernel, by decide +kernel⟩, List.mem_of_getElem? (i := 1116) (by decide +kernel), List.mem_of_getElem? (i := 1508) (by decide +kernel), List.mem_of_getElem? (i := 1509) (by decide +kernel)⟩
theorem lw_p78 : lw_okq (⟨"BridgeServiceModel", "areClose", "(II)Z"⟩, 39) := ⟨⟨by decide +kernel, by decide +kernel⟩, List.mem_of_getElem? (i := 1116) (by decide +kernel), List.mem_of_getElem? (i := 1512) (by decide +kernel), List.mem_of_getElem? (i := 1513) (by decide +kernel)⟩
theorem lw_p79 : lw_okq (⟨"BridgeServiceModel", "goesRound", "(IIII)V"⟩, 39) := ⟨⟨by decide +kernel, by decide +kernel⟩, List.mem_of_getElem? (i := 1116) (by decide +kernel), List.mem_of_getElem? (i := 1520) (by decide +kernel), List.mem_of_getElem? (i := 1521) (by decide +kernel)⟩
def lw_privs_5 : List (MethodName × Nat) := [(⟨"BridgeServiceModel", "isOver", "()Z"⟩, 39), (⟨"BridgeServiceModel", "those", "(I)I"⟩, 39), (⟨"BridgeServiceModel", "goesBy", "(I)I"⟩, 39), (⟨"BridgeServiceModel", "restOne", "()I"⟩, 39), (⟨"BridgeServiceModel", "meets", "(I)I"⟩, 39), (⟨"BridgeServiceModel", "sits", "(I)I"⟩, 39), (⟨"BridgeServiceModel", "walksOn", "()I"⟩, 39), (⟨"BridgeServiceModel", "isThere", "(I)Z"⟩, 39), (⟨"BridgeServiceModel", "isSpanned", "(II)Z"⟩, 39), (⟨"BridgeServiceModel", "layDown", "()V"⟩, 39), (⟨"BridgeServiceModel", "restOf", "(I)I"⟩, 39), (⟨"BridgeServiceModel", "layBack", "()V"⟩, 39), (⟨"BridgeServiceModel", "bestFor", "(III)I"⟩, 39), (⟨"BridgeServiceModel", "branchOf", "(I)I"⟩, 39), (⟨"BridgeServiceModel", "areClose", "(II)Z"⟩, 39), (⟨"BridgeServiceModel", "goesRound", "(IIII)V"⟩, 39)]
theorem lw_r5 : ∀ q ∈ lw_privs_5, lw_okq q := List.forall_mem_cons.mpr ⟨lw_p64, List.forall_mem_cons.mpr ⟨lw_p65, List.forall_mem_cons.mpr ⟨lw_p66, List.forall_mem_cons.mpr ⟨lw_p67, List.forall_mem_cons.mpr ⟨lw_p68, List.forall_mem_cons.mpr ⟨lw_p69, List.forall_mem_cons.mpr ⟨lw_p70, List.forall_mem_cons.mpr ⟨lw_p71, List.forall_mem_cons.mpr ⟨lw_p72, List.forall_mem_cons.mpr ⟨lw_p73, List.forall_mem_cons.mpr ⟨lw_p74, List.forall_mem_cons.mpr ⟨lw_p75, List.forall_mem_cons.mpr ⟨lw_p76, List.forall_mem_cons.mpr ⟨lw_p77, List.forall_mem_cons.mpr ⟨lw_p78, List.forall_mem_cons.mpr ⟨lw_p79, fun _ h => absurd h List.not_mem_nil⟩⟩⟩⟩⟩⟩⟩⟩⟩⟩⟩⟩⟩⟩⟩⟩
theorem lw_p80 : lw_okq (⟨"BridgeServiceModel", "triesAll", "(II)V"⟩, 39) := ⟨⟨by decide +kernel, by decide +kernel⟩, List.mem_of_getElem? (i := 1116) (by decide +kernel), List.mem_of_getElem? (i := 1531) (by decide +kernel), List.mem_of_getElem? (i := 1532) (by decide +kernel)⟩
theorem lw_p81 : lw_okq (⟨"BridgeServiceModel", "daysOf", "(I)I"⟩, 39) := ⟨⟨by decide +kernel, by decide +kernel⟩, List.mem_of_getElem? (i := 1116) (by decide +kernel), List.mem_of_getElem? (i := 1535) (by decide +kernel), List.mem_of_getElem? (i := 1536) (by decide +kernel)⟩
theorem lw_p82 : lw_okq (⟨"BridgeServiceModel", "goesPlans", "(IIIII)V"⟩, 39) := ⟨⟨by decide +kernel, by decide +kernel⟩, List.mem_of_getElem? (i := 1116) (by decide +kernel), List.mem_of_getElem? (i := 1539) (by decide +kernel), List.mem_of_getElem? (i := 1540) (by decide +kernel)⟩
theorem lw_p83 : lw_okq (⟨"BridgeServiceModel", "endsPlan", "(IIII)V"⟩, 39) := ⟨⟨by decide +kernel, by decide +kernel⟩, List.mem_of_getElem? (i := 1116) (by decide +kernel), List.mem_of_getElem? (i := 1543) (by decide +kernel), List.mem_of_getElem? (i := 1544) (by decide +kernel)⟩
theorem lw_p84 : lw_okq (⟨"BridgeServiceModel", "saves", "(I)V"⟩, 39) := ⟨⟨by decide +kernel, by decide +kernel⟩, List.mem_of_getElem? (i := 1116) (by decide +kernel), List.mem_of_getElem? (i := 1547) (by decide +kernel), List.mem_of_getElem? (i := 1548) (by decide +kernel)⟩
theorem lw_p85 : lw_okq (⟨"BridgeServiceModel", "restores", "(I)V"⟩, 39) := ⟨⟨by decide +kernel, by decide +kernel⟩, List.mem_of_getElem? (i := 1116) (by decide +kernel), List.mem_of_getElem? (i := 1551) (by decide +kernel), List.mem_of_getElem? (i := 1552) (by decide +kernel)⟩
theorem lw_p86 : lw_okq (⟨"BridgeServiceModel", "isSet", "(I)Z"⟩, 39) := ⟨⟨by decide +kernel, by decide +kernel⟩, List.mem_of_getElem? (i := 1116) (by decide +kernel), List.mem_of_getElem? (i := 1567) (by decide +kernel), List.mem_of_getElem? (i := 1568) (by decide +kernel)⟩
theorem lw_p87 : lw_okq (⟨"BridgeServiceModel", "playedFrom", "(II)I"⟩, 39) := ⟨⟨by decide +kernel, by decide +kernel⟩, List.mem_of_getElem? (i := 1116) (by decide +kernel), List.mem_of_getElem? (i := 1579) (by decide +kernel), List.mem_of_getElem? (i := 1580) (by decide +kernel)⟩
theorem lw_p88 : lw_okq (⟨"BridgeServiceModel", "fitting", "(I)I"⟩, 39) := ⟨⟨by decide +kernel, by decide +kernel⟩, List.mem_of_getElem? (i := 1116) (by decide +kernel), List.mem_of_getElem? (i := 1599) (by decide +kernel), List.mem_of_getElem? (i := 1600) (by decide +kernel)⟩
theorem lw_p89 : lw_okq (⟨"BridgeServiceModel", "tellsStranger", "(III)V"⟩, 39) := ⟨⟨by decide +kernel, by decide +kernel⟩, List.mem_of_getElem? (i := 1116) (by decide +kernel), List.mem_of_getElem? (i := 1603) (by decide +kernel), List.mem_of_getElem? (i := 1604) (by decide +kernel)⟩
theorem lw_p90 : lw_okq (⟨"BridgeServiceModel", "isSo", "(I)Z"⟩, 39) := ⟨⟨by decide +kernel, by decide +kernel⟩, List.mem_of_getElem? (i := 1116) (by decide +kernel), List.mem_of_getElem? (i := 1607) (by decide +kernel), List.mem_of_getElem? (i := 1608) (by decide +kernel)⟩
theorem lw_p91 : lw_okq (⟨"BridgeServiceModel", "byLot", "()I"⟩, 39) := ⟨⟨by decide +kernel, by decide +kernel⟩, List.mem_of_getElem? (i := 1116) (by decide +kernel), List.mem_of_getElem? (i := 1623) (by decide +kernel), List.mem_of_getElem? (i := 1624) (by decide +kernel)⟩
theorem lw_p92 : lw_okq (⟨"BridgeServiceModel", "isRow", "(II)Z"⟩, 39) := ⟨⟨by decide +kernel, by decide +kernel⟩, List.mem_of_getElem? (i := 1116) (by decide +kernel), List.mem_of_getElem? (i := 1640) (by decide +kernel), List.mem_of_getElem? (i := 1641) (by decide +kernel)⟩
theorem lw_p93 : lw_okq (⟨"BridgeServiceModel", "isAct", "(I)Z"⟩, 39) := ⟨⟨by decide +kernel, by decide +kernel⟩, List.mem_of_getElem? (i := 1116) (by decide +kernel), List.mem_of_getElem? (i := 1652) (by decide +kernel), List.mem_of_getElem? (i := 1653) (by decide +kernel)⟩
theorem lw_p94 : lw_okq (⟨"BridgeServiceModel", "lacks", "(II)I"⟩, 39) := ⟨⟨by decide +kernel, by decide +kernel⟩, List.mem_of_getElem? (i := 1116) (by decide +kernel), List.mem_of_getElem? (i := 1674) (by decide +kernel), List.mem_of_getElem? (i := 1675) (by decide +kernel)⟩
theorem lw_p95 : lw_okq (⟨"BridgeServiceModel", "isItem", "(III)Z"⟩, 39) := ⟨⟨by decide +kernel, by decide +kernel⟩, List.mem_of_getElem? (i := 1116) (by decide +kernel), List.mem_of_getElem? (i := 1682) (by decide +kernel), List.mem_of_getElem? (i := 1683) (by decide +kernel)⟩
def lw_privs_6 : List (MethodName × Nat) := [(⟨"BridgeServiceModel", "triesAll", "(II)V"⟩, 39), (⟨"BridgeServiceModel", "daysOf", "(I)I"⟩, 39), (⟨"BridgeServiceModel", "goesPlans", "(IIIII)V"⟩, 39), (⟨"BridgeServiceModel", "endsPlan", "(IIII)V"⟩, 39), (⟨"BridgeServiceModel", "saves", "(I)V"⟩, 39), (⟨"BridgeServiceModel", "restores", "(I)V"⟩, 39), (⟨"BridgeServiceModel", "isSet", "(I)Z"⟩, 39), (⟨"BridgeServiceModel", "playedFrom", "(II)I"⟩, 39), (⟨"BridgeServiceModel", "fitting", "(I)I"⟩, 39), (⟨"BridgeServiceModel", "tellsStranger", "(III)V"⟩, 39), (⟨"BridgeServiceModel", "isSo", "(I)Z"⟩, 39), (⟨"BridgeServiceModel", "byLot", "()I"⟩, 39), (⟨"BridgeServiceModel", "isRow", "(II)Z"⟩, 39), (⟨"BridgeServiceModel", "isAct", "(I)Z"⟩, 39), (⟨"BridgeServiceModel", "lacks", "(II)I"⟩, 39), (⟨"BridgeServiceModel", "isItem", "(III)Z"⟩, 39)]
theorem lw_r6 : ∀ q ∈ lw_privs_6, lw_okq q := List.forall_mem_cons.mpr ⟨lw_p80, List.forall_mem_cons.mpr ⟨lw_p81, List.forall_mem_cons.mpr ⟨lw_p82, List.forall_mem_cons.mpr ⟨lw_p83, List.forall_mem_cons.mpr ⟨lw_p84, List.forall_mem_cons.mpr ⟨lw_p85, List.forall_mem_cons.mpr ⟨lw_p86, List.forall_mem_cons.mpr ⟨lw_p87, List.forall_mem_cons.mpr ⟨lw_p88, List.forall_mem_cons.mpr ⟨lw_p89, List.forall_mem_cons.mpr ⟨lw_p90, List.forall_mem_cons.mpr ⟨lw_p91, List.forall_mem_cons.mpr ⟨lw_p92, List.forall_mem_cons.mpr ⟨lw_p93, List.forall_mem_cons.mpr ⟨lw_p94, List.forall_mem_cons.mpr ⟨lw_p95, fun _ h => absurd h List.not_mem_nil⟩⟩⟩⟩⟩⟩⟩⟩⟩⟩⟩⟩⟩⟩⟩⟩
theorem lw_p96 : lw_okq (⟨"BridgeServiceModel", "heldOn", "(I)I"⟩, 39) := ⟨⟨by decide +kernel, by decide +kernel⟩, List.mem_of_getElem? (i := 1116) (by decide +kernel), List.mem_of_getElem? (i := 1698) (by decide +kernel), List.mem_of_getElem? (i := 1699) (by decide +kernel)⟩
theorem lw_p97 : lw_okq (⟨"BridgeServiceModel", "laysAs", "(II)I"⟩, 39) := ⟨⟨by decide +kernel, by decide +kernel⟩, List.mem_of_getElem? (i := 1116) (by decide +kernel), List.mem_of_getElem? (i := 1706) (by decide +kernel), List.mem_of_getElem? (i := 1707) (by decide +kernel)⟩
theorem lw_p98 : lw_okq (⟨"BridgeServiceModel", "starts", "(I)V"⟩, 39) := ⟨⟨by decide +kernel, by decide +kernel⟩, List.mem_of_getElem? (i := 1116) (by decide +kernel), List.mem_of_getElem? (i := 1710) (by decide +kernel), List.mem_of_getElem? (i := 1711) (by decide +kernel)⟩
theorem lw_p99 : lw_okq (⟨"BridgeServiceModel", "tiltsAs", "(II)I"⟩, 39) := ⟨⟨by decide +kernel, by decide +kernel⟩, List.mem_of_getElem? (i := 1116) (by decide +kernel), List.mem_of_getElem? (i := 1714) (by decide +kernel), List.mem_of_getElem? (i := 1715) (by decide +kernel)⟩
theorem lw_p100 : lw_okq (⟨"BridgeServiceModel", "breaksAs", "(II)I"⟩, 39) := ⟨⟨by decide +kernel, by decide +kernel⟩, List.mem_of_getElem? (i := 1116) (by decide +kernel), List.mem_of_getElem? (i := 1718) (by decide +kernel), List.mem_of_getElem? (i := 1719) (by decide +kernel)⟩
theorem lw_p101 : lw_okq (⟨"BridgeServiceModel", "shinesAs", "(II)I"⟩, 39) := ⟨⟨by decide +kernel, by decide +kernel⟩, List.mem_of_getElem? (i := 1116) (by decide +kernel), List.mem_of_getElem? (i := 1722) (by decide +kernel), List.mem_of_getElem? (i := 1723) (by decide +kernel)⟩
def lw_privs_7 : List (MethodName × Nat) := [(⟨"BridgeServiceModel", "heldOn", "(I)I"⟩, 39), (⟨"BridgeServiceModel", "laysAs", "(II)I"⟩, 39), (⟨"BridgeServiceModel", "starts", "(I)V"⟩, 39), (⟨"BridgeServiceModel", "tiltsAs", "(II)I"⟩, 39), (⟨"BridgeServiceModel", "breaksAs", "(II)I"⟩, 39), (⟨"BridgeServiceModel", "shinesAs", "(II)I"⟩, 39)]
theorem lw_r7 : ∀ q ∈ lw_privs_7, lw_okq q := List.forall_mem_cons.mpr ⟨lw_p96, List.forall_mem_cons.mpr ⟨lw_p97, List.forall_mem_cons.mpr ⟨lw_p98, List.forall_mem_cons.mpr ⟨lw_p99, List.forall_mem_cons.mpr ⟨lw_p100, List.forall_mem_cons.mpr ⟨lw_p101, fun _ h => absurd h List.not_mem_nil⟩⟩⟩⟩⟩⟩
def lw_privs : List (MethodName × Nat) := lw_privs_1 ++ (lw_privs_2 ++ (lw_privs_3 ++ (lw_privs_4 ++ (lw_privs_5 ++ (lw_privs_6 ++ (lw_privs_7))))))
def lw_tbl : List Cond := k2_sels lw_privs ++ tables_1
theorem lw_privs_ok : ∀ q ∈ lw_privs, lw_okq q := by
  show ∀ q ∈ lw_privs_1 ++ (lw_privs_2 ++ (lw_privs_3 ++ (lw_privs_4 ++ (lw_privs_5 ++ (lw_privs_6 ++ (lw_privs_7)))))), lw_okq q
  exact List.forall_mem_append.mpr ⟨lw_r1, List.forall_mem_append.mpr ⟨lw_r2, List.forall_mem_append.mpr ⟨lw_r3, List.forall_mem_append.mpr ⟨lw_r4, List.forall_mem_append.mpr ⟨lw_r5, List.forall_mem_append.mpr ⟨lw_r6, lw_r7⟩⟩⟩⟩⟩⟩
-- ===== end of PART A; then your names; then what follows =====
end
section
/-- fields of type boolean, by number of the class * 64 + place -/
def e_bools : List Nat := [2, 578, 643, 678]
/-- how many fields the classes have -/
def e_nf (c : Nat) : Nat := ([6, 7, 9, 14, 5, 3, 3, 4, 17, 9, 39] : List Nat).getD c 0
/-- the bytes of the text of names -/
def e_nms : List Int32 := [112, 108, 97, 116, 101, 44, 100, 105, 115, 104, 44, 116, 117, 114, 101, 101, 110, 44, 98, 111, 97, 116, 44, 115, 97, 117, 99, 101, 114, 44, 99, 114, 97, 99, 107, 101, 100, 44, 115, 105, 116, 44, 115, 116, 97, 110, 100, 44, 108, 101, 97, 118, 101, 44, 105, 102, 44, 97, 110, 100, 44, 111, 114, 44, 110, 111, 116, 44, 121, 101, 97, 114, 44, 119, 105, 100, 116, 104, 44, 103, 114, 117, 100, 103, 101, 44, 109, 111, 111, 100, 44, 110, 117, 109, 98, 101, 114, 44]
/-- is the field boolean -/
def e_bool (n : Nat) : Bool := decide (n ∈ e_bools)
end
section
/-! THE PROGRAM, resolved, by wip/whole/gen.py -/
/-- A.init -/
def g_c0 : List (Nat × List Instr) := [(0, [.aload 0, .pop2, .aload 0, .sipush 30, .newarray .int, .instanceof 0, .aload 0, .sipush 0, .putfield 1, .aload 0, .sipush 0, .putfield 2, .aload 0, .sipush 0, .putfield 3, .aload 0, .sipush 0, .putfield 4, .aload 0, .sipush 0, .putfield 5, .return_])]
/-- A.begin -/
def g_c1 : List (Nat × List Instr) := [(0, [.aload 0, .iload 1, .putfield 3, .aload 0, .iload 2, .putfield 4, .aload 0, .iload 3, .putfield 5, .aload 0, .sipush 0, .putfield 1, .aload 0, .sipush 0, .putfield 2, .return_])]
/-- A.perform -/
def g_c2 : List (Nat × List Instr) := [(0, [.sipush 0, .istore 3, .iload 1, .lookupswitch 55 #[(0, 28), (1, 37), (2, 46)]]),
  (28, [.aload 0, .iload 2, .invokeinterface 3 2, .istore 3, .goto 61]),
  (37, [.aload 0, .iload 2, .invokeinterface 5 2, .istore 3, .goto 61]),
  (46, [.aload 0, .iload 2, .invokeinterface 6 2, .istore 3, .goto 61]),
  (55, [.aload 0, .iload 2, .invokeinterface 7 2, .istore 3, .jsr 61]),
  (61, [.aload 0, .getfield 2, .ifCond .eq 73, .sipush (-15), .goto 74]),
  (73, [.iload 3, .jsr 74]),
  (74, [.ireturn])]
/-- A.lays -/
def g_c3 : List (Nat × List Instr) := [(0, [.aload 0, .getfield 3, .sipush 1, .if_icmp .ne 14, .aload 0, .sipush 20, .invokeinterface 4 2, .jsr 14]),
  (14, [.aload 0, .getfield 3, .sipush 3, .if_icmp .ne 28, .aload 0, .sipush 50, .invokeinterface 4 2, .jsr 28]),
  (28, [.aload 0, .sipush 10, .invokeinterface 4 2, .iload 1, .sipush 2, .imul, .aload 0, .getfield 4, .iadd, .istore 2, .aload 0, .getfield 3, .sipush 1, .if_icmp .ne 55, .iload 2, .sipush 3, .imul, .ireturn]),
  (55, [.aload 0, .getfield 3, .sipush 3, .if_icmp .ne 69, .iload 2, .sipush 4, .ixor, .goto 70]),
  (69, [.iload 2, .jsr 70]),
  (70, [.ireturn])]
/-- A.note -/
def g_c4 : List (Nat × List Instr) := [(0, [.aload 0, .getfield 2, .ifCond .ne 33, .aload 0, .getfield 1, .sipush 30, .if_icmp .ge 33, .aload 0, .checkcast 0, .aload 0, .dup, .getfield 1, .dup_x1, .sipush 1, .iadd, .putfield 1, .iload 1, .iastore, .jsr 33]),
  (33, [.return_])]
/-- A.tilts -/
def g_c5 : List (Nat × List Instr) := [(0, [.aload 0, .getfield 3, .sipush 2, .invokeinterface 112 2, .istore 2, .iload 2, .ifCond .eq 19, .aload 0, .sipush 30, .invokeinterface 4 2, .jsr 19]),
  (19, [.aload 0, .getfield 3, .sipush 5, .if_icmp .ne 33, .aload 0, .sipush 60, .invokeinterface 4 2, .jsr 33]),
  (33, [.aload 0, .sipush 11, .invokeinterface 4 2, .aload 0, .iload 2, .ifCond .eq 50, .iload 1, .sipush 1, .iadd, .goto 51]),
  (50, [.iload 1, .jsr 51]),
  (51, [.invokeinterface 3 2, .aload 0, .getfield 5, .isub, .istore 3, .aload 0, .getfield 3, .sipush 5, .if_icmp .ne 75, .iload 3, .sipush 60, .isub, .goto 76]),
  (75, [.iload 3, .jsr 76]),
  (76, [.ireturn])]
/-- A.breaks -/
def g_c6 : List (Nat × List Instr) := [(0, [.aload 0, .getfield 3, .sipush 4, .invokeinterface 112 2, .istore 2, .aload 0, .getfield 3, .sipush 5, .if_icmp .ne 23, .aload 0, .sipush 61, .invokeinterface 4 2, .jsr 23]),
  (23, [.iload 2, .ifCond .eq 33, .aload 0, .sipush 40, .invokeinterface 4 2, .jsr 33]),
  (33, [.aload 0, .sipush 12, .invokeinterface 4 2, .aload 0, .getfield 4, .aload 0, .getfield 5, .iadd, .sipush 3, .isub, .istore 3, .iload 3, .ifCond .ne 62, .aload 0, .sipush 1, .putfield 2, .sipush 0, .ireturn]),
  (62, [.iload 2, .ifCond .eq 74, .sipush 0, .iload 1, .iload 3, .irem, .isub, .goto 77]),
  (74, [.iload 1, .iload 3, .irem, .jsr 77]),
  (77, [.istore 4, .aload 0, .getfield 3, .sipush 5, .if_icmp .ne 101, .iload 4, .aload 0, .aload 0, .getfield 5, .invokeinterface 3 2, .ixor, .goto 103]),
  (101, [.iload 4, .jsr 103]),
  (103, [.ireturn])]
/-- A.shines -/
def g_c7 : List (Nat × List Instr) := [(0, [.aload 0, .getfield 3, .sipush 3, .if_icmp .ne 14, .aload 0, .sipush 51, .invokeinterface 4 2, .jsr 14]),
  (14, [.aload 0, .sipush 13, .invokeinterface 4 2, .aload 0, .iload 1, .invokeinterface 5 2, .istore 2, .iload 2, .aload 0, .iload 1, .invokeinterface 6 2, .ixor, .istore 3, .aload 0, .getfield 3, .sipush 3, .if_icmp .ne 55, .iload 3, .aload 0, .aload 0, .getfield 4, .invokeinterface 5 2, .iadd, .goto 56]),
  (55, [.iload 3, .jsr 56]),
  (56, [.ireturn])]
/-- L.init -/
def g_c8 : List (Nat × List Instr) := [(0, [.aload 0, .pop2, .aload 0, .sipush 8, .newarray .int, .instanceof 64, .aload 0, .sipush 8, .newarray .int, .instanceof 65, .aload 0, .sipush 8, .newarray .int, .instanceof 66, .aload 0, .sipush 200, .newarray .int, .instanceof 67, .aload 0, .sipush 5, .newarray .int, .instanceof 68, .aload 0, .sipush 0, .putfield 69, .aload 0, .sipush 0, .putfield 70, .return_])]
/-- L.tellTo -/
def g_c9 : List (Nat × List Instr) := [(0, [.sipush 0, .istore 2, .sipush 0, .istore 3, .jsr 4]),
  (4, [.iload 3, .aload 0, .getfield 69, .if_icmp .ge 59, .iload 1, .aload 0, .checkcast 64, .iload 3, .iaload, .invokeinterface 112 2, .ifCond .eq 46, .aload 0, .iload 2, .aload 0, .checkcast 66, .iload 3, .iaload, .invokeinterface 10 3, .ifCond .eq 46, .aload 0, .checkcast 65, .iload 3, .iaload, .ireturn]),
  (46, [.aload 0, .checkcast 66, .iload 3, .iaload, .istore 2, .iinc 3 1, .goto 4]),
  (59, [.sipush 0, .ireturn])]
/-- L.holds -/
def g_c10 : List (Nat × List Instr) := [(0, [.goto_w 1, .lstore 3, .iload 1, .istore 5, .jsr 5]),
  (5, [.iload 5, .iload 2, .if_icmp .ge 96, .aload 0, .checkcast 67, .iload 5, .iaload, .istore 6, .iload 6, .sipush (-1), .if_icmp .ne 33, .lload 3, .goto_w 1, .lxor, .lstore 3, .goto 90]),
  (33, [.iload 6, .sipush (-2), .if_icmp .ne 53, .lload 3, .sipush 1, .lushr, .lload 3, .goto_w (-2), .lor, .land, .lstore 3, .goto 90]),
  (53, [.iload 6, .sipush (-3), .if_icmp .ne 71, .lload 3, .sipush 1, .lushr, .lload 3, .goto_w 1, .land, .lor, .lstore 3, .goto 90]),
  (71, [.lload 3, .sipush 1, .lshl, .aload 0, .iload 6, .invokeinterface 11 2, .ifCond .eq 87, .goto_w 1, .goto 88]),
  (87, [.goto_w 0, .jsr 88]),
  (88, [.lor, .lstore 3, .jsr 90]),
  (90, [.iinc 5 1, .goto 5]),
  (96, [.lload 3, .goto_w 1, .land, .goto_w 1, .lcmp, .ifCond .ne 108, .sipush 1, .goto 109]),
  (108, [.sipush 0, .jsr 109]),
  (109, [.areturn])]
/-- L.compares -/
def g_c11 : List (Nat × List Instr) := [(0, [.iload 1, .sipush 14, .ishr, .sipush 16383, .iand, .istore 2, .iload 1, .sipush 16383, .iand, .istore 3, .iload 2, .sipush 10000, .if_icmp .lt 40, .iload 2, .sipush 10005, .if_icmp .ge 40, .aload 0, .checkcast 68, .iload 2, .sipush 10000, .isub, .iaload, .istore 2, .jsr 40]),
  (40, [.iload 3, .sipush 10000, .if_icmp .lt 65, .iload 3, .sipush 10005, .if_icmp .ge 65, .aload 0, .checkcast 68, .iload 3, .sipush 10000, .isub, .iaload, .istore 3, .jsr 65]),
  (65, [.iload 1, .sipush 28, .ishr, .lookupswitch 118 #[(0, 96), (1, 107)]]),
  (96, [.iload 2, .iload 3, .if_icmp .ge 105, .sipush 1, .goto 106]),
  (105, [.sipush 0, .jsr 106]),
  (106, [.areturn]),
  (107, [.iload 2, .iload 3, .if_icmp .ne 116, .sipush 1, .goto 117]),
  (116, [.sipush 0, .jsr 117]),
  (117, [.areturn]),
  (118, [.iload 2, .iload 3, .if_icmp .le 127, .sipush 1, .goto 128]),
  (127, [.sipush 0, .jsr 128]),
  (128, [.areturn])]
/-- L.empty -/
def g_c12 : List (Nat × List Instr) := [(0, [.aload 0, .sipush 0, .putfield 69, .aload 0, .sipush 0, .putfield 70, .return_])]
/-- L.comparison -/
def g_c13 : List (Nat × List Instr) := [(0, [.iload 1, .sipush 28, .ishl, .iload 0, .sipush 14, .ishl, .ior, .iload 2, .ior, .ireturn])]
/-- L.append -/
def g_c14 : List (Nat × List Instr) := [(0, [.aload 0, .getfield 70, .sipush 200, .if_icmp .ge 27, .aload 0, .checkcast 67, .aload 0, .dup, .getfield 70, .dup_x1, .sipush 1, .iadd, .putfield 70, .iload 1, .iastore, .jsr 27]),
  (27, [.return_])]
/-- L.close -/
def g_c15 : List (Nat × List Instr) := [(0, [.aload 0, .getfield 69, .sipush 8, .if_icmp .lt 10, .return_]),
  (10, [.aload 0, .checkcast 64, .aload 0, .getfield 69, .iload 1, .iastore, .aload 0, .checkcast 65, .aload 0, .getfield 69, .iload 2, .iastore, .aload 0, .checkcast 66, .aload 0, .getfield 69, .aload 0, .getfield 70, .iastore, .aload 0, .dup, .getfield 69, .sipush 1, .iadd, .putfield 69, .return_])]
/-- L.copyFrom -/
def g_c16 : List (Nat × List Instr) := [(0, [.aload 1, .checkcast 64, .sipush 0, .aload 0, .checkcast 64, .sipush 0, .sipush 8, .dmul, .aload 1, .checkcast 65, .sipush 0, .aload 0, .checkcast 65, .sipush 0, .sipush 8, .dmul, .aload 1, .checkcast 66, .sipush 0, .aload 0, .checkcast 66, .sipush 0, .sipush 8, .dmul, .aload 1, .checkcast 67, .sipush 0, .aload 0, .checkcast 67, .sipush 0, .sipush 200, .dmul, .aload 0, .aload 1, .getfield 69, .putfield 69, .aload 0, .aload 1, .getfield 70, .putfield 70, .return_])]
/-- P.init -/
def g_c17 : List (Nat × List Instr) := [(0, [.aload 0, .pop2, .aload 0, .sipush 4, .newarray .int, .instanceof 129, .aload 0, .sipush 4, .newarray .int, .instanceof 130, .aload 0, .sipush 0, .putfield 131, .aload 0, .sipush 0, .putfield 132, .aload 0, .sipush 0, .putfield 133, .aload 0, .sipush 0, .putfield 134, .aload 0, .sipush (-3), .putfield 135, .aload 0, .sipush 0, .putfield 136, .aload 0, .aload 1, .instanceof 128, .return_])]
/-- P.tryAll -/
def g_c18 : List (Nat × List Instr) := [(0, [.aload 0, .sipush 4, .aload 0, .checkcast 128, .iload 1, .invokeinterface 86 2, .dsub, .putfield 131, .aload 0, .iload 2, .putfield 132, .aload 0, .sipush 0, .putfield 133, .aload 0, .sipush 0, .putfield 134, .aload 0, .sipush (-3), .putfield 135, .aload 0, .sipush 0, .putfield 136, .aload 0, .sipush 0, .sipush 0, .sipush 0, .invokeinterface 19 4, .return_])]
/-- P.tryFrom -/
def g_c19 : List (Nat × List Instr) := [(0, [.iload 1, .aload 0, .getfield 131, .if_icmp .lt 15, .aload 0, .iload 2, .iload 3, .invokeinterface 20 3, .return_]),
  (15, [.aload 0, .checkcast 128, .invokeinterface 85 1, .istore 4, .sipush 0, .istore 5, .jsr 27]),
  (27, [.iload 5, .aload 0, .checkcast 128, .getfield 521, .if_icmp .gt 96, .aload 0, .checkcast 129, .iload 1, .iload 5, .iastore, .aload 0, .checkcast 128, .iload 5, .invokeinterface 79 2, .istore 6, .aload 0, .iload 1, .sipush 1, .iadd, .iload 2, .iload 6, .iadd, .iload 5, .ifCond .ne 75, .iload 3, .goto 78]),
  (75, [.iload 3, .sipush 1, .iadd, .jsr 78]),
  (78, [.invokeinterface 19 4, .aload 0, .checkcast 128, .iload 4, .invokeinterface 87 2, .iinc 5 1, .goto 27]),
  (96, [.return_])]
/-- P.weigh -/
def g_c20 : List (Nat × List Instr) := [(0, [.aload 0, .getfield 134, .ifCond .eq 15, .iload 1, .aload 0, .getfield 133, .if_icmp .le 39, .jsr 15]),
  (15, [.aload 0, .iload 1, .putfield 133, .aload 0, .sipush 0, .putfield 134, .aload 0, .checkcast 129, .sipush 0, .aload 0, .checkcast 130, .sipush 0, .sipush 4, .dmul, .jsr 39]),
  (39, [.iload 1, .aload 0, .getfield 133, .if_icmp .ne 57, .aload 0, .dup, .getfield 134, .sipush 1, .iadd, .putfield 134, .jsr 57]),
  (57, [.aload 0, .dup, .getfield 136, .aload 0, .checkcast 128, .getfield 522, .ior, .putfield 136, .aload 0, .checkcast 128, .getfield 522, .aload 0, .getfield 132, .iand, .aload 0, .getfield 132, .if_icmp .ne 96, .sipush 1, .goto 97]),
  (96, [.sipush 0, .jsr 97]),
  (97, [.istore 3, .iload 3, .ifCond .eq 124, .aload 0, .getfield 135, .sipush (-3), .if_icmp .eq 119, .iload 2, .aload 0, .getfield 135, .if_icmp .ge 124, .jsr 119]),
  (119, [.aload 0, .iload 2, .putfield 135, .jsr 124]),
  (124, [.return_])]
/-- P.valueOfGame -/
def g_c21 : List (Nat × List Instr) := [(0, [.iload 1, .ifCond .gt 6, .sipush 0, .ireturn]),
  (6, [.sipush 0, .istore 3, .sipush 0, .istore 4, .jsr 11]),
  (11, [.iload 4, .aload 0, .checkcast 128, .getfield 521, .if_icmp .gt 66, .aload 0, .iload 4, .iload 1, .iload 2, .invokeinterface 22 4, .istore 5, .iload 4, .ifCond .eq 57, .iload 2, .ifCond .eq 51, .iload 5, .iload 3, .if_icmp .le 60, .goto 57]),
  (51, [.iload 5, .iload 3, .if_icmp .ge 60, .jsr 57]),
  (57, [.iload 5, .istore 3, .jsr 60]),
  (60, [.iinc 4 1, .goto 11]),
  (66, [.iload 3, .ireturn])]
/-- P.valueOfAct -/
def g_c22 : List (Nat × List Instr) := [(0, [.aload 0, .checkcast 128, .invokeinterface 85 1, .istore 4, .aload 0, .checkcast 128, .iload 1, .invokeinterface 79 2, .istore 5, .iload 5, .aload 0, .iload 2, .sipush 1, .isub, .iload 3, .ifCond .ne 33, .sipush 1, .goto 34]),
  (33, [.sipush 0, .jsr 34]),
  (34, [.invokeinterface 21 3, .iadd, .istore 6, .aload 0, .checkcast 128, .iload 4, .invokeinterface 87 2, .iload 6, .ireturn])]
/-- P.leastGoodAct -/
def g_c23 : List (Nat × List Instr) := [(0, [.sipush 0, .istore 2, .aload 0, .sipush 0, .iload 1, .sipush 1, .invokeinterface 22 4, .istore 3, .sipush 1, .istore 4, .jsr 13]),
  (13, [.iload 4, .aload 0, .checkcast 128, .getfield 521, .if_icmp .gt 53, .aload 0, .iload 4, .iload 1, .sipush 1, .invokeinterface 22 4, .istore 5, .iload 5, .iload 3, .if_icmp .le 47, .iload 5, .istore 3, .iload 4, .istore 2, .jsr 47]),
  (47, [.iinc 4 1, .goto 13]),
  (53, [.iload 2, .ireturn])]
/-- R.init -/
def g_c24 : List (Nat × List Instr) := [(0, [.aload 0, .pop2, .aload 0, .new 1, .dup, .invokeinterface 8 1, .instanceof 192, .aload 0, .sipush 200, .newarray .int, .instanceof 193, .aload 0, .sipush 0, .putfield 194, .aload 0, .sipush 0, .putfield 195, .aload 0, .sipush 0, .putfield 196, .aload 0, .sipush 0, .putfield 197, .aload 0, .sipush 0, .putfield 198, .aload 0, .sipush 0, .putfield 199, .aload 0, .sipush 0, .putfield 200, .aload 0, .sipush 0, .putfield 201, .aload 0, .sipush 0, .putfield 202, .aload 0, .sipush 0, .putfield 203, .aload 0, .sipush 200, .newarray .int, .instanceof 204, .aload 0, .sipush 0, .putfield 205, .return_])]
/-- R.takeBytes -/
def g_c25 : List (Nat × List Instr) := [(0, [.sipush 0, .istore 4, .jsr 3]),
  (3, [.iload 4, .iload 3, .if_icmp .ge 53, .aload 0, .getfield 194, .sipush 200, .if_icmp .ge 53, .aload 0, .checkcast 193, .aload 0, .dup, .getfield 194, .dup_x1, .sipush 1, .iadd, .putfield 194, .lload 1, .sipush 8, .iload 4, .imul, .lushr, .goto_w 255, .land, .l2i, .iastore, .iinc 4 1, .goto 3]),
  (53, [.aload 0, .getfield 194, .ireturn])]
/-- R.readAll -/
def g_c26 : List (Nat × List Instr) := [(0, [.aload 0, .checkcast 192, .invokeinterface 12 1, .aload 0, .sipush 0, .putfield 195, .aload 0, .sipush 0, .putfield 198, .aload 0, .sipush 0, .putfield 203, .aload 0, .sipush 0, .putfield 205, .aload 0, .invokeinterface 27 1, .istore 1, .sipush 0, .istore 2, .jsr 34]),
  (34, [.iload 2, .sipush 200, .if_icmp .ge 66, .iload 1, .sipush 20, .if_icmp .eq 66, .aload 0, .iload 1, .invokeinterface 33 2, .ifCond .eq 66, .aload 0, .invokeinterface 27 1, .istore 1, .iinc 2 1, .goto 34]),
  (66, [.aload 0, .sipush 0, .putfield 194, .iload 1, .sipush 20, .if_icmp .ne 88, .aload 0, .getfield 198, .ifCond .ne 88, .sipush (-1), .goto 92]),
  (88, [.aload 0, .getfield 196, .jsr 92]),
  (92, [.ireturn])]
/-- R.nextWord -/
def g_c27 : List (Nat × List Instr) := [(0, [.aload 0, .getfield 195, .aload 0, .getfield 194, .if_icmp .ge 38, .aload 0, .checkcast 193, .aload 0, .getfield 195, .iaload, .sipush 32, .if_icmp .ne 38, .aload 0, .dup, .getfield 195, .sipush 1, .iadd, .putfield 195, .goto 0]),
  (38, [.aload 0, .aload 0, .getfield 195, .putfield 196, .aload 0, .getfield 195, .aload 0, .getfield 194, .if_icmp .lt 60, .sipush 20, .ireturn]),
  (60, [.aload 0, .checkcast 193, .aload 0, .getfield 195, .iaload, .istore 1, .iload 1, .invokeinterface 28 1, .ifCond .eq 82, .aload 0, .invokeinterface 29 1, .ireturn]),
  (82, [.iload 1, .invokeinterface 30 1, .ifCond .eq 94, .aload 0, .invokeinterface 31 1, .ireturn]),
  (94, [.aload 0, .dup, .getfield 195, .sipush 1, .iadd, .putfield 195, .iload 1, .invokeinterface 32 1, .ireturn])]
/-- R.isLetter -/
def g_c28 : List (Nat × List Instr) := [(0, [.iload 0, .sipush 97, .if_icmp .lt 16, .iload 0, .sipush 122, .if_icmp .gt 16, .sipush 1, .goto 17]),
  (16, [.sipush 0, .jsr 17]),
  (17, [.areturn])]
/-- R.readName -/
def g_c29 : List (Nat × List Instr) := [(0, [.aload 0, .getfield 195, .aload 0, .getfield 194, .if_icmp .ge 39, .aload 0, .checkcast 193, .aload 0, .getfield 195, .iaload, .invokeinterface 28 1, .ifCond .eq 39, .aload 0, .dup, .getfield 195, .sipush 1, .iadd, .putfield 195, .goto 0]),
  (39, [.sipush 0, .istore 1, .aload 0, .getfield 196, .istore 2, .sipush 0, .istore 3, .jsr 48]),
  (48, [.iload 3, .getstatic 3, .invokeinterface 301 1, .if_icmp .ge 134, .getstatic 3, .iload 3, .invokeinterface 303 2, .istore 4, .iload 4, .sipush 44, .if_icmp .ne 93, .iload 2, .aload 0, .getfield 195, .if_icmp .ne 82, .iload 1, .ireturn]),
  (82, [.iinc 1 1, .aload 0, .getfield 196, .istore 2, .goto 128]),
  (93, [.iload 2, .aload 0, .getfield 196, .if_icmp .lt 126, .iload 2, .aload 0, .getfield 195, .if_icmp .ge 126, .aload 0, .checkcast 193, .iload 2, .iaload, .iload 4, .if_icmp .ne 126, .iinc 2 1, .goto 128]),
  (126, [.sipush (-1), .istore 2, .jsr 128]),
  (128, [.iinc 3 1, .goto 48]),
  (134, [.sipush 19, .ireturn])]
/-- R.isDigit -/
def g_c30 : List (Nat × List Instr) := [(0, [.iload 0, .sipush 48, .if_icmp .lt 16, .iload 0, .sipush 57, .if_icmp .gt 16, .sipush 1, .goto 17]),
  (16, [.sipush 0, .jsr 17]),
  (17, [.areturn])]
/-- R.readNumber -/
def g_c31 : List (Nat × List Instr) := [(0, [.aload 0, .sipush 0, .putfield 197, .jsr 5]),
  (5, [.aload 0, .getfield 195, .aload 0, .getfield 194, .if_icmp .ge 81, .aload 0, .checkcast 193, .aload 0, .getfield 195, .iaload, .invokeinterface 30 1, .ifCond .eq 81, .aload 0, .getfield 195, .aload 0, .getfield 196, .isub, .sipush 4, .if_icmp .ge 68, .aload 0, .sipush 10, .aload 0, .getfield 197, .imul, .aload 0, .checkcast 193, .aload 0, .getfield 195, .iaload, .iadd, .sipush 48, .isub, .putfield 197, .jsr 68]),
  (68, [.aload 0, .dup, .getfield 195, .sipush 1, .iadd, .putfield 195, .goto 5]),
  (81, [.aload 0, .getfield 195, .aload 0, .getfield 196, .isub, .sipush 4, .if_icmp .le 99, .sipush 19, .goto 101]),
  (99, [.sipush 18, .jsr 101]),
  (101, [.ireturn])]
/-- R.signWord -/
def g_c32 : List (Nat × List Instr) := [(0, [.iload 0, .lookupswitch 78 #[(40, 69), (41, 72), (59, 75), (60, 60), (61, 63), (62, 66)]]),
  (60, [.sipush 21, .ireturn]),
  (63, [.sipush 22, .ireturn]),
  (66, [.sipush 23, .ireturn]),
  (69, [.sipush 24, .ireturn]),
  (72, [.sipush 25, .ireturn]),
  (75, [.sipush 26, .ireturn]),
  (78, [.sipush 19, .ireturn])]
/-- R.mayStand -/
def g_c33 : List (Nat × List Instr) := [(0, [.aload 0, .getfield 198, .lookupswitch 80 #[(0, 44), (1, 50), (2, 56), (3, 62), (4, 68), (5, 74)]]),
  (44, [.aload 0, .iload 1, .invokeinterface 34 2, .areturn]),
  (50, [.aload 0, .iload 1, .invokeinterface 35 2, .areturn]),
  (56, [.aload 0, .iload 1, .invokeinterface 37 2, .areturn]),
  (62, [.aload 0, .iload 1, .invokeinterface 41 2, .areturn]),
  (68, [.aload 0, .iload 1, .invokeinterface 42 2, .areturn]),
  (74, [.aload 0, .iload 1, .invokeinterface 44 2, .areturn]),
  (80, [.aload 0, .iload 1, .invokeinterface 47 2, .areturn])]
/-- R.takeKind -/
def g_c34 : List (Nat × List Instr) := [(0, [.iload 1, .sipush 5, .if_icmp .gt 17, .aload 0, .checkcast 192, .getfield 69, .sipush 8, .if_icmp .lt 19, .jsr 17]),
  (17, [.sipush 0, .areturn]),
  (19, [.aload 0, .iload 1, .putfield 199, .aload 0, .sipush 1, .putfield 198, .sipush 1, .areturn])]
/-- R.takeTail -/
def g_c35 : List (Nat × List Instr) := [(0, [.iload 1, .sipush 9, .if_icmp .eq 12, .aload 0, .iload 1, .invokeinterface 36 2, .areturn]),
  (12, [.aload 0, .sipush 2, .putfield 198, .sipush 1, .areturn])]
/-- R.takeWill -/
def g_c36 : List (Nat × List Instr) := [(0, [.iload 1, .sipush 6, .sipush 8, .invokeinterface 109 3, .ifCond .eq 13, .sipush 0, .areturn]),
  (13, [.aload 0, .iload 1, .sipush 6, .isub, .putfield 200, .aload 0, .sipush 6, .putfield 198, .sipush 1, .areturn])]
/-- R.takeOne -/
def g_c37 : List (Nat × List Instr) := [(0, [.iload 1, .sipush 12, .if_icmp .ne 13, .aload 0, .sipush 12, .invokeinterface 38 2, .areturn]),
  (13, [.iload 1, .sipush 24, .if_icmp .ne 52, .aload 0, .dup, .getfield 203, .sipush 1, .iadd, .putfield 203, .aload 0, .getfield 203, .sipush 3, .if_icmp .gt 50, .aload 0, .sipush 24, .invokeinterface 38 2, .ifCond .eq 50, .sipush 1, .goto 51]),
  (50, [.sipush 0, .jsr 51]),
  (51, [.areturn]),
  (52, [.iload 1, .invokeinterface 39 1, .ifCond .ne 61, .sipush 0, .areturn]),
  (61, [.aload 0, .aload 0, .iload 1, .invokeinterface 40 2, .putfield 201, .aload 0, .sipush 3, .putfield 198, .sipush 1, .areturn])]
/-- R.waitWith -/
def g_c38 : List (Nat × List Instr) := [(0, [.aload 0, .getfield 205, .sipush 200, .if_icmp .lt 12, .sipush 0, .areturn]),
  (12, [.aload 0, .checkcast 204, .aload 0, .dup, .getfield 205, .dup_x1, .sipush 1, .iadd, .putfield 205, .iload 1, .iastore, .sipush 1, .areturn])]
/-- R.isValue -/
def g_c39 : List (Nat × List Instr) := [(0, [.iload 0, .sipush 18, .if_icmp .eq 17, .iload 0, .sipush 13, .sipush 17, .invokeinterface 109 3, .ifCond .ne 21, .jsr 17]),
  (17, [.sipush 1, .goto 22]),
  (21, [.sipush 0, .jsr 22]),
  (22, [.areturn])]
/-- R.valueOf -/
def g_c40 : List (Nat × List Instr) := [(0, [.iload 1, .sipush 18, .if_icmp .ne 13, .aload 0, .getfield 197, .goto 21]),
  (13, [.sipush 10000, .iload 1, .iadd, .sipush 13, .isub, .jsr 21]),
  (21, [.ireturn])]
/-- R.takeSign -/
def g_c41 : List (Nat × List Instr) := [(0, [.iload 1, .sipush 21, .sipush 23, .invokeinterface 109 3, .ifCond .eq 13, .sipush 0, .areturn]),
  (13, [.aload 0, .iload 1, .sipush 21, .isub, .putfield 202, .aload 0, .sipush 4, .putfield 198, .sipush 1, .areturn])]
/-- R.takeRight -/
def g_c42 : List (Nat × List Instr) := [(0, [.iload 1, .invokeinterface 39 1, .ifCond .ne 9, .sipush 0, .areturn]),
  (9, [.aload 0, .checkcast 192, .aload 0, .getfield 201, .aload 0, .getfield 202, .aload 0, .iload 1, .invokeinterface 40 2, .invokeinterface 13 3, .invokeinterface 14 2, .aload 0, .invokeinterface 43 1, .sipush 1, .areturn])]
/-- R.endOne -/
def g_c43 : List (Nat × List Instr) := [(0, [.aload 0, .getfield 205, .ifCond .le 44, .aload 0, .checkcast 204, .aload 0, .getfield 205, .sipush 1, .isub, .iaload, .sipush 12, .if_icmp .ne 44, .aload 0, .checkcast 192, .sipush (-1), .invokeinterface 14 2, .aload 0, .dup, .getfield 205, .sipush 1, .isub, .putfield 205, .goto 0]),
  (44, [.aload 0, .sipush 5, .putfield 198, .return_])]
/-- R.takeJoint -/
def g_c44 : List (Nat × List Instr) := [(0, [.iload 1, .sipush 25, .if_icmp .ne 11, .aload 0, .invokeinterface 45 1, .areturn]),
  (11, [.iload 1, .sipush 10, .if_icmp .eq 23, .iload 1, .sipush 11, .if_icmp .ne 39, .jsr 23]),
  (23, [.aload 0, .iload 1, .invokeinterface 46 2, .aload 0, .sipush 2, .putfield 198, .aload 0, .iload 1, .invokeinterface 38 2, .areturn]),
  (39, [.aload 0, .getfield 203, .ifCond .le 48, .sipush 0, .areturn]),
  (48, [.aload 0, .sipush 11, .invokeinterface 46 2, .aload 0, .iload 1, .invokeinterface 36 2, .areturn])]
/-- R.takeClose -/
def g_c45 : List (Nat × List Instr) := [(0, [.aload 0, .getfield 203, .ifCond .ne 9, .sipush 0, .areturn]),
  (9, [.aload 0, .dup, .getfield 203, .sipush 1, .isub, .putfield 203, .aload 0, .sipush 11, .invokeinterface 46 2, .aload 0, .getfield 205, .ifCond .le 42, .aload 0, .dup, .getfield 205, .sipush 1, .isub, .putfield 205, .jsr 42]),
  (42, [.aload 0, .invokeinterface 43 1, .sipush 1, .areturn])]
/-- R.appendJoints -/
def g_c46 : List (Nat × List Instr) := [(0, [.aload 0, .getfield 205, .ifCond .le 81, .aload 0, .checkcast 204, .aload 0, .getfield 205, .sipush 1, .isub, .iaload, .sipush 10, .if_icmp .eq 38, .aload 0, .checkcast 204, .aload 0, .getfield 205, .sipush 1, .isub, .iaload, .iload 1, .if_icmp .ne 81, .jsr 38]),
  (38, [.aload 0, .checkcast 192, .aload 0, .checkcast 204, .aload 0, .getfield 205, .sipush 1, .isub, .iaload, .sipush 10, .if_icmp .ne 63, .sipush (-2), .goto 65]),
  (63, [.sipush (-3), .jsr 65]),
  (65, [.invokeinterface 14 2, .aload 0, .dup, .getfield 205, .sipush 1, .isub, .putfield 205, .goto 0]),
  (81, [.return_])]
/-- R.takeSemicolon -/
def g_c47 : List (Nat × List Instr) := [(0, [.iload 1, .sipush 26, .if_icmp .eq 8, .sipush 0, .areturn]),
  (8, [.aload 0, .checkcast 192, .aload 0, .getfield 199, .aload 0, .getfield 200, .invokeinterface 15 3, .aload 0, .sipush 0, .putfield 198, .sipush 1, .areturn])]
/-- Rp.init -/
def g_c48 : List (Nat × List Instr) := [(0, [.aload 0, .pop2, .aload 0, .sipush 6, .newarray .int, .instanceof 256, .aload 0, .sipush 6, .newarray .int, .instanceof 257, .aload 0, .sipush 6, .newarray .int, .instanceof 258, .aload 0, .sipush 6, .newarray .int, .instanceof 259, .aload 0, .sipush 0, .putfield 260, .return_])]
/-- Rp.add -/
def g_c49 : List (Nat × List Instr) := [(0, [.aload 0, .getfield 260, .sipush 6, .if_icmp .lt 12, .sipush (-2), .ireturn]),
  (12, [.aload 0, .checkcast 256, .aload 0, .getfield 260, .iload 1, .iastore, .aload 0, .checkcast 257, .aload 0, .getfield 260, .iload 2, .iastore, .aload 0, .checkcast 258, .aload 0, .getfield 260, .iload 3, .iastore, .aload 0, .checkcast 259, .aload 0, .getfield 260, .iload 4, .iastore, .aload 0, .dup, .getfield 260, .dup_x1, .sipush 1, .iadd, .putfield 260, .ireturn])]
/-- Rp.latest -/
def g_c50 : List (Nat × List Instr) := [(0, [.sipush 0, .istore 1, .sipush 0, .istore 2, .jsr 4]),
  (4, [.iload 2, .aload 0, .getfield 260, .if_icmp .ge 29, .iload 1, .aload 0, .checkcast 256, .iload 2, .iaload, .dadd, .istore 1, .iinc 2 1, .goto 4]),
  (29, [.iload 1, .ireturn])]
/-- Rp.wrongBehind -/
def g_c51 : List (Nat × List Instr) := [(0, [.sipush 0, .istore 4, .sipush 0, .istore 5, .jsr 6]),
  (6, [.iload 5, .aload 0, .getfield 260, .if_icmp .ge 76, .aload 0, .checkcast 256, .iload 5, .iaload, .iload 1, .if_icmp .ne 70, .aload 0, .checkcast 257, .iload 5, .iaload, .ifCond .ne 40, .iload 2, .goto 41]),
  (40, [.iload 3, .jsr 41]),
  (41, [.aload 0, .checkcast 258, .iload 5, .iaload, .aload 0, .checkcast 259, .iload 5, .iaload, .invokeinterface 109 3, .ifCond .eq 70, .iload 4, .sipush 1, .iload 5, .ishl, .ior, .istore 4, .jsr 70]),
  (70, [.iinc 5 1, .goto 6]),
  (76, [.iload 4, .ireturn])]
/-- Rp.copyFrom -/
def g_c52 : List (Nat × List Instr) := [(0, [.aload 1, .checkcast 256, .sipush 0, .aload 0, .checkcast 256, .sipush 0, .sipush 6, .dmul, .aload 1, .checkcast 257, .sipush 0, .aload 0, .checkcast 257, .sipush 0, .sipush 6, .dmul, .aload 1, .checkcast 258, .sipush 0, .aload 0, .checkcast 258, .sipush 0, .sipush 6, .dmul, .aload 1, .checkcast 259, .sipush 0, .aload 0, .checkcast 259, .sipush 0, .sipush 6, .dmul, .aload 0, .aload 1, .getfield 260, .putfield 260, .return_])]
/-- Rw.init -/
def g_c53 : List (Nat × List Instr) := [(0, [.aload 0, .pop2, .aload 0, .sipush 12, .newarray .int, .instanceof 321, .aload 0, .sipush 0, .putfield 322, .aload 0, .aload 1, .instanceof 320, .return_])]
/-- Rw.fill -/
def g_c54 : List (Nat × List Instr) := [(0, [.aload 0, .checkcast 320, .invokeinterface 85 1, .istore 3, .aload 0, .iload 2, .sipush 4, .dsub, .putfield 322, .sipush 0, .istore 4, .jsr 20]),
  (20, [.iload 4, .aload 0, .getfield 322, .if_icmp .ge 88, .aload 0, .checkcast 321, .sipush 3, .iload 4, .imul, .aload 1, .iload 4, .iaload, .iastore, .aload 0, .checkcast 321, .sipush 3, .iload 4, .imul, .sipush 1, .iadd, .aload 0, .checkcast 320, .aload 1, .iload 4, .iaload, .invokeinterface 79 2, .iastore, .aload 0, .checkcast 321, .sipush 3, .iload 4, .imul, .sipush 2, .iadd, .aload 0, .checkcast 320, .getfield 522, .iastore, .iinc 4 1, .goto 20]),
  (88, [.aload 0, .checkcast 320, .iload 3, .invokeinterface 87 2, .aload 0, .getfield 322, .ireturn])]
/-- Rw.has -/
def g_c55 : List (Nat × List Instr) := [(0, [.iload 1, .ifCond .lt 25, .iload 1, .aload 0, .getfield 322, .if_icmp .ge 25, .iload 2, .ifCond .lt 25, .iload 2, .sipush 3, .if_icmp .ge 25, .sipush 1, .goto 26]),
  (25, [.sipush 0, .jsr 26]),
  (26, [.areturn])]
/-- Rw.firstWrong -/
def g_c56 : List (Nat × List Instr) := [(0, [.aload 0, .checkcast 320, .invokeinterface 85 1, .istore 1, .sipush 0, .istore 2, .sipush 0, .istore 3, .jsr 12]),
  (12, [.iload 3, .aload 0, .getfield 322, .if_icmp .ge 42, .iload 2, .ifCond .ne 42, .aload 0, .iload 3, .invokeinterface 57 2, .ifCond .ne 36, .iload 3, .sipush 1, .iadd, .istore 2, .jsr 36]),
  (36, [.iinc 3 1, .goto 12]),
  (42, [.aload 0, .checkcast 320, .iload 1, .invokeinterface 87 2, .iload 2, .ireturn])]
/-- Rw.isRight -/
def g_c57 : List (Nat × List Instr) := [(0, [.aload 0, .checkcast 321, .sipush 3, .iload 1, .imul, .iaload, .istore 2, .aload 0, .checkcast 320, .iload 2, .invokeinterface 105 2, .ifCond .eq 30, .aload 0, .checkcast 320, .invokeinterface 76 1, .ifCond .eq 32, .jsr 30]),
  (30, [.sipush 0, .areturn]),
  (32, [.aload 0, .checkcast 320, .iload 2, .invokeinterface 79 2, .istore 3, .aload 0, .checkcast 321, .sipush 3, .iload 1, .imul, .sipush 1, .iadd, .iaload, .iload 3, .if_icmp .ne 79, .aload 0, .checkcast 321, .sipush 3, .iload 1, .imul, .sipush 2, .iadd, .iaload, .aload 0, .checkcast 320, .getfield 522, .if_icmp .ne 79, .sipush 1, .goto 80]),
  (79, [.sipush 0, .jsr 80]),
  (80, [.areturn])]
/-- Sh.init -/
def g_c58 : List (Nat × List Instr) := [(0, [.aload 0, .pop2, .aload 0, .sipush 40, .newarray .long, .instanceof 384, .aload 0, .sipush (-1), .putfield 385, .aload 0, .sipush 0, .putfield 386, .return_])]
/-- Sh.become -/
def g_c59 : List (Nat × List Instr) := [(0, [.sipush 0, .istore 3, .jsr 2]),
  (2, [.iload 3, .sipush 40, .if_icmp .ge 21, .aload 0, .checkcast 384, .iload 3, .goto_w 0, .lastore, .iinc 3 1, .goto 2]),
  (21, [.aload 0, .iload 1, .putfield 385, .aload 0, .iload 2, .putfield 386, .return_])]
/-- Sh.hasItem -/
def g_c60 : List (Nat × List Instr) := [(0, [.iload 1, .ifCond .lt 22, .iload 1, .aload 0, .getfield 386, .if_icmp .ge 22, .iload 1, .sipush 40, .if_icmp .ge 22, .sipush 1, .goto 23]),
  (22, [.sipush 0, .jsr 23]),
  (23, [.areturn])]
/-- Sh.putItem -/
def g_c61 : List (Nat × List Instr) := [(0, [.aload 0, .iload 1, .invokeinterface 60 2, .ifCond .eq 19, .aload 0, .checkcast 384, .iload 1, .aload 0, .iload 2, .invokeinterface 62 2, .lastore, .jsr 19]),
  (19, [.return_])]
/-- Sh.narrowed -/
def g_c62 : List (Nat × List Instr) := [(0, [.aload 0, .getfield 385, .lookupswitch 58 #[(0, 40), (1, 44), (2, 58), (3, 58), (4, 48)]]),
  (40, [.iload 1, .i2b, .i2l, .lreturn]),
  (44, [.iload 1, .i2s, .i2l, .lreturn]),
  (48, [.iload 1, .ifCond .eq 56, .goto_w 1, .goto 57]),
  (56, [.goto_w 0, .jsr 57]),
  (57, [.lreturn]),
  (58, [.iload 1, .i2l, .lreturn])]
/-- Sh.refusalAs -/
def g_c63 : List (Nat × List Instr) := [(0, [.aload 0, .getfield 385, .sipush (-1), .if_icmp .ne 11, .sipush (-11), .ireturn]),
  (11, [.aload 0, .getfield 385, .iload 1, .if_icmp .ne 23, .sipush 0, .goto 25]),
  (23, [.sipush (-13), .jsr 25]),
  (25, [.ireturn])]
/-- Sf.init -/
def g_c64 : List (Nat × List Instr) := [(0, [.aload 0, .pop2, .aload 0, .sipush 2, .putfield 448, .aload 0, .sipush 0, .putfield 449, .aload 0, .sipush (-1), .putfield 450, .aload 0, .sipush 0, .putfield 451, .return_])]
/-- Sf.holdRow -/
def g_c65 : List (Nat × List Instr) := [(0, [.aload 0, .iload 1, .sipush (-1), .if_icmp .ne 10, .sipush 2, .goto 11]),
  (10, [.sipush 1, .jsr 11]),
  (11, [.putfield 448, .aload 0, .iload 1, .putfield 450, .aload 0, .iload 2, .putfield 451, .return_])]
/-- Sf.hold -/
def g_c66 : List (Nat × List Instr) := [(0, [.aload 0, .iload 1, .putfield 448, .aload 0, .iload 2, .putfield 449, .return_])]
/-- T.init -/
def g_c67 : List (Nat × List Instr) := [(0, [.aload 0, .pop2, .aload 0, .sipush 6, .newarray .int, .instanceof 512, .aload 0, .sipush 6, .newarray .int, .instanceof 513, .aload 0, .sipush 6, .newarray .int, .instanceof 514, .aload 0, .sipush 6, .newarray .int, .instanceof 515, .aload 0, .sipush 6, .newarray .int, .instanceof 516, .aload 0, .sipush 6, .newarray .int, .instanceof 517, .aload 0, .sipush 16, .newarray .int, .instanceof 518, .aload 0, .new 1, .dup, .invokeinterface 8 1, .instanceof 519, .aload 0, .new 4, .dup, .invokeinterface 48 1, .instanceof 520, .aload 0, .sipush 0, .putfield 521, .aload 0, .sipush 0, .putfield 522, .aload 0, .sipush 0, .putfield 523, .aload 0, .sipush 12, .putfield 524, .aload 0, .sipush 0, .putfield 525, .aload 0, .sipush 5, .putfield 526, .aload 0, .sipush 0, .putfield 527, .aload 0, .sipush 1, .putfield 528, .sipush 0, .istore 1, .jsr 125]),
  (125, [.iload 1, .sipush 6, .if_icmp .ge 144, .aload 0, .checkcast 517, .iload 1, .sipush 3, .iastore, .iinc 1 1, .goto 125]),
  (144, [.sipush 0, .istore 1, .jsr 146]),
  (146, [.iload 1, .sipush 16, .if_icmp .ge 165, .aload 0, .checkcast 518, .iload 1, .sipush 4, .iastore, .iinc 1 1, .goto 146]),
  (165, [.return_])]
/-- T.addPiece -/
def g_c68 : List (Nat × List Instr) := [(0, [.aload 0, .getfield 521, .sipush 6, .if_icmp .lt 12, .sipush (-2), .ireturn]),
  (12, [.aload 0, .checkcast 512, .aload 0, .getfield 521, .iload 1, .iastore, .aload 0, .checkcast 513, .aload 0, .getfield 521, .iload 2, .iastore, .aload 0, .checkcast 514, .aload 0, .getfield 521, .iload 3, .iastore, .aload 0, .checkcast 515, .aload 0, .getfield 521, .iload 4, .iastore, .aload 0, .dup, .getfield 521, .dup_x1, .sipush 1, .iadd, .putfield 521, .ireturn])]
/-- T.hasPiece -/
def g_c69 : List (Nat × List Instr) := [(0, [.iload 1, .ifCond .lt 16, .iload 1, .aload 0, .getfield 521, .if_icmp .ge 16, .sipush 1, .goto 17]),
  (16, [.sipush 0, .jsr 17]),
  (17, [.areturn])]
/-- T.isSeated -/
def g_c70 : List (Nat × List Instr) := [(0, [.aload 0, .getfield 522, .iload 1, .ishr, .sipush 1, .iand, .sipush 1, .if_icmp .ne 16, .sipush 1, .goto 17]),
  (16, [.sipush 0, .jsr 17]),
  (17, [.areturn])]
/-- T.grudgeOf -/
def g_c71 : List (Nat × List Instr) := [(0, [.aload 0, .checkcast 516, .aload 0, .checkcast 515, .iload 1, .iaload, .iaload, .istore 2, .aload 0, .checkcast 512, .iload 1, .iaload, .lookupswitch 80 #[(1, 52), (2, 56), (3, 60), (4, 70), (5, 74)]]),
  (52, [.iload 2, .sipush 2, .iadd, .ireturn]),
  (56, [.iload 2, .iload 1, .iadd, .ireturn]),
  (60, [.sipush 0, .iload 2, .iload 1, .iadd, .sipush 3, .isub, .dadd, .ireturn]),
  (70, [.iload 2, .sipush 2, .idiv, .ireturn]),
  (74, [.iload 2, .sipush 2, .idiv, .sipush 2, .imul, .ireturn]),
  (80, [.iload 2, .ireturn])]
/-- T.wouldSit -/
def g_c72 : List (Nat × List Instr) := [(0, [.aload 0, .iload 1, .invokeinterface 70 2, .ifCond .ne 36, .aload 0, .iload 1, .invokeinterface 71 2, .aload 0, .getfield 526, .aload 0, .checkcast 517, .aload 0, .checkcast 515, .iload 1, .iaload, .iaload, .iadd, .if_icmp .gt 36, .sipush 1, .goto 37]),
  (36, [.sipush 0, .jsr 37]),
  (37, [.areturn])]
/-- T.willOf -/
def g_c73 : List (Nat × List Instr) := [(0, [.aload 0, .checkcast 519, .checkcast 68, .sipush 0, .aload 0, .getfield 523, .iastore, .aload 0, .checkcast 519, .checkcast 68, .sipush 1, .aload 0, .checkcast 514, .iload 1, .iaload, .iastore, .aload 0, .checkcast 519, .checkcast 68, .sipush 2, .aload 0, .iload 1, .invokeinterface 71 2, .iastore, .aload 0, .checkcast 519, .checkcast 68, .sipush 3, .aload 0, .getfield 526, .iastore, .aload 0, .checkcast 519, .checkcast 68, .sipush 4, .iload 1, .iastore, .aload 0, .checkcast 519, .aload 0, .checkcast 512, .iload 1, .iaload, .invokeinterface 9 2, .ireturn])]
/-- T.putSeated -/
def g_c74 : List (Nat × List Instr) := [(0, [.aload 0, .getfield 522, .iload 1, .ishr, .sipush 1, .iand, .istore 3, .aload 0, .iload 2, .ifCond .eq 25, .aload 0, .getfield 522, .sipush 1, .iload 1, .ishl, .ior, .goto 35]),
  (25, [.aload 0, .getfield 522, .sipush 1, .iload 1, .ishl, .sipush (-1), .ixor, .iand, .jsr 35]),
  (35, [.putfield 522, .iload 3, .ireturn])]
/-- T.beginAnew -/
def g_c75 : List (Nat × List Instr) := [(0, [.aload 0, .sipush 0, .putfield 523, .aload 0, .sipush 0, .putfield 525, .aload 0, .sipush 5, .putfield 526, .aload 0, .sipush 0, .putfield 527, .aload 0, .sipush 0, .putfield 522, .return_])]
/-- T.isOver -/
def g_c76 : List (Nat × List Instr) := [(0, [.aload 0, .getfield 523, .aload 0, .getfield 524, .if_icmp .lt 15, .sipush 1, .goto 16]),
  (15, [.sipush 0, .jsr 16]),
  (16, [.areturn])]
/-- T.newsIn -/
def g_c77 : List (Nat × List Instr) := [(0, [.iload 1, .sipush 0, .sipush 15, .invokeinterface 109 3, .ifCond .eq 14, .sipush 0, .goto 20]),
  (14, [.aload 0, .checkcast 518, .iload 1, .iaload, .jsr 20]),
  (20, [.ireturn])]
/-- T.passAndScore -/
def g_c78 : List (Nat × List Instr) := [(0, [.aload 0, .iload 1, .invokeinterface 79 2, .istore 2, .aload 0, .dup, .getfield 525, .iload 2, .iadd, .putfield 525, .iload 2, .ireturn])]
/-- T.passYear -/
def g_c79 : List (Nat × List Instr) := [(0, [.aload 0, .aload 0, .aload 0, .getfield 523, .invokeinterface 77 2, .aload 0, .getfield 526, .invokeinterface 126 2, .putfield 526, .iload 1, .sipush (-1), .if_icmp .ne 31, .aload 0, .invokeinterface 80 1, .goto 34]),
  (31, [.iload 1, .sipush 1, .isub, .jsr 34]),
  (34, [.istore 2, .aload 0, .iload 2, .invokeinterface 69 2, .ifCond .eq 51, .aload 0, .iload 2, .invokeinterface 73 2, .goto 52]),
  (51, [.sipush 1, .jsr 52]),
  (52, [.istore 3, .sipush 0, .istore 4, .iload 3, .ifCond .ne 70, .aload 0, .iload 2, .invokeinterface 81 2, .istore 4, .goto 80]),
  (70, [.iload 3, .sipush 2, .if_icmp .ne 80, .aload 0, .iload 2, .invokeinterface 82 2, .jsr 80]),
  (80, [.aload 0, .aload 0, .getfield 522, .invokeinterface 83 2, .aload 0, .getfield 527, .aload 0, .getfield 526, .invokeinterface 128 3, .istore 5, .aload 0, .dup, .getfield 527, .iload 5, .iadd, .putfield 527, .aload 0, .dup, .getfield 523, .sipush 1, .iadd, .putfield 523, .iload 4, .sipush 2, .iload 5, .imul, .iadd, .ireturn])]
/-- T.leastWilling -/
def g_c80 : List (Nat × List Instr) := [(0, [.sipush 0, .istore 1, .jsr 2]),
  (2, [.iload 1, .aload 0, .getfield 521, .if_icmp .ge 26, .aload 0, .iload 1, .invokeinterface 72 2, .ifCond .eq 20, .iload 1, .ireturn]),
  (20, [.iinc 1 1, .goto 2]),
  (26, [.sipush (-3), .ireturn])]
/-- T.sitDown -/
def g_c81 : List (Nat × List Instr) := [(0, [.aload 0, .iload 1, .invokeinterface 70 2, .ifCond .eq 10, .sipush 0, .ireturn]),
  (10, [.aload 0, .iload 1, .invokeinterface 72 2, .ifCond .ne 34, .aload 0, .sipush 0, .aload 0, .getfield 526, .sipush 1, .isub, .dadd, .putfield 526, .sipush 0, .ireturn]),
  (34, [.aload 0, .sipush 0, .aload 0, .getfield 526, .aload 0, .iload 1, .invokeinterface 71 2, .sipush 3, .idiv, .isub, .dadd, .putfield 526, .aload 0, .iload 1, .sipush 1, .invokeinterface 74 3, .pop, .sipush 1, .ireturn])]
/-- T.getUp -/
def g_c82 : List (Nat × List Instr) := [(0, [.aload 0, .iload 1, .invokeinterface 70 2, .ifCond .ne 9, .return_]),
  (9, [.aload 0, .iload 1, .sipush 0, .invokeinterface 74 3, .pop, .aload 0, .sipush 9, .aload 0, .getfield 526, .sipush 1, .iadd, .dsub, .putfield 526, .return_])]
/-- T.placesSpanned -/
def g_c83 : List (Nat × List Instr) := [(0, [.goto_w 0, .lstore 2, .sipush 0, .istore 4, .jsr 5]),
  (5, [.iload 4, .aload 0, .getfield 521, .if_icmp .ge 64, .iload 1, .iload 4, .ishr, .sipush 1, .iand, .sipush 1, .if_icmp .ne 58, .lload 2, .aload 0, .checkcast 513, .iload 4, .iaload, .aload 0, .checkcast 512, .iload 4, .iaload, .aload 0, .checkcast 514, .iload 4, .iaload, .aload 0, .getfield 523, .invokeinterface 111 3, .invokeinterface 127 2, .lor, .lstore 2, .jsr 58]),
  (58, [.iinc 4 1, .goto 5]),
  (64, [.lload 2, .lreturn])]
/-- T.restWorth -/
def g_c84 : List (Nat × List Instr) := [(0, [.aload 0, .invokeinterface 85 1, .istore 2, .aload 0, .iload 1, .invokeinterface 86 2, .istore 3, .sipush 0, .istore 4, .sipush 0, .istore 5, .jsr 17]),
  (17, [.iload 5, .iload 3, .if_icmp .ge 39, .iload 4, .aload 0, .sipush (-1), .invokeinterface 79 2, .iadd, .istore 4, .iinc 5 1, .goto 17]),
  (39, [.aload 0, .iload 2, .invokeinterface 87 2, .iload 4, .ireturn])]
/-- T.moment -/
def g_c85 : List (Nat × List Instr) := [(0, [.aload 0, .getfield 523, .aload 0, .getfield 526, .sipush 5, .ishl, .ior, .aload 0, .getfield 527, .sipush 9, .ishl, .ior, .aload 0, .getfield 522, .sipush 15, .ishl, .ior, .ireturn])]
/-- T.yearsYet -/
def g_c86 : List (Nat × List Instr) := [(0, [.sipush 0, .iload 1, .aload 0, .getfield 524, .aload 0, .getfield 523, .isub, .dsub, .dadd, .ireturn])]
/-- T.backTo -/
def g_c87 : List (Nat × List Instr) := [(0, [.aload 0, .iload 1, .sipush 31, .iand, .putfield 523, .aload 0, .iload 1, .sipush 5, .ishr, .sipush 15, .iand, .putfield 526, .aload 0, .iload 1, .sipush 9, .ishr, .sipush 63, .iand, .putfield 527, .aload 0, .iload 1, .sipush 15, .ishr, .sipush 63, .iand, .putfield 522, .return_])]
/-- T.restUntil -/
def g_c88 : List (Nat × List Instr) := [(0, [.aload 0, .invokeinterface 85 1, .istore 3, .aload 0, .sipush 16, .invokeinterface 86 2, .istore 4, .sipush (-3), .istore 5, .sipush 0, .istore 6, .jsr 20]),
  (20, [.iload 6, .iload 4, .if_icmp .ge 72, .iload 5, .sipush (-3), .if_icmp .ne 72, .aload 0, .sipush (-1), .invokeinterface 79 2, .pop, .aload 0, .getfield 522, .iload 1, .iand, .iload 1, .if_icmp .ne 66, .aload 0, .getfield 527, .iload 2, .if_icmp .lt 66, .aload 0, .getfield 523, .sipush 1, .isub, .istore 5, .jsr 66]),
  (66, [.iinc 6 1, .goto 20]),
  (72, [.aload 0, .iload 3, .invokeinterface 87 2, .iload 5, .ireturn])]
/-- T.bestValue -/
def g_c89 : List (Nat × List Instr) := [(0, [.aload 1, .iload 2, .iaload, .istore 4, .sipush 0, .istore 5, .sipush (-1), .istore 6, .sipush 0, .istore 7, .jsr 14]),
  (14, [.iload 7, .iload 3, .if_icmp .gt 54, .aload 1, .iload 2, .iload 7, .iastore, .aload 0, .sipush 16, .invokeinterface 84 2, .istore 8, .iload 8, .iload 6, .if_icmp .le 48, .iload 8, .istore 6, .iload 7, .istore 5, .jsr 48]),
  (48, [.iinc 7 1, .goto 14]),
  (54, [.aload 1, .iload 2, .iload 4, .iastore, .iload 5, .ireturn])]
/-- T.firstUnspanned -/
def g_c90 : List (Nat × List Instr) := [(0, [.aload 0, .aload 0, .invokeinterface 91 1, .invokeinterface 83 2, .lstore 1, .aload 0, .getfield 527, .istore 3, .jsr 14]),
  (14, [.iload 3, .sipush 39, .if_icmp .gt 38, .lload 1, .iload 3, .lushr, .goto_w 1, .land, .goto_w 0, .lcmp, .ifCond .ne 32, .iload 3, .ireturn]),
  (32, [.iinc 3 1, .goto 14]),
  (38, [.sipush (-3), .ireturn])]
/-- T.allPieces -/
def g_c91 : List (Nat × List Instr) := [(0, [.sipush 1, .aload 0, .getfield 521, .ishl, .sipush 1, .isub, .ireturn])]
/-- T.countNotThere -/
def g_c92 : List (Nat × List Instr) := [(0, [.aload 0, .aload 0, .getfield 522, .invokeinterface 83 2, .lstore 1, .sipush 0, .istore 3, .sipush 0, .istore 4, .jsr 14]),
  (14, [.iload 4, .sipush 39, .if_icmp .gt 41, .lload 1, .iload 4, .lushr, .goto_w 1, .land, .goto_w 0, .lcmp, .ifCond .ne 35, .iinc 3 1, .jsr 35]),
  (35, [.iinc 4 1, .goto 14]),
  (41, [.iload 3, .ireturn])]
/-- T.countBranches -/
def g_c93 : List (Nat × List Instr) := [(0, [.sipush 0, .istore 1, .sipush 0, .istore 2, .jsr 4]),
  (4, [.iload 2, .aload 0, .getfield 521, .if_icmp .ge 33, .aload 0, .iload 2, .invokeinterface 94 2, .invokeinterface 136 1, .iload 2, .if_icmp .ne 27, .iinc 1 1, .jsr 27]),
  (27, [.iinc 2 1, .goto 4]),
  (33, [.iload 1, .ireturn])]
/-- T.branchOf -/
def g_c94 : List (Nat × List Instr) := [(0, [.aload 0, .iload 1, .invokeinterface 70 2, .ifCond .eq 10, .sipush 0, .ireturn]),
  (10, [.sipush 1, .iload 1, .ishl, .istore 2, .sipush 0, .istore 3, .jsr 16]),
  (16, [.iload 3, .sipush 6, .if_icmp .ge 36, .iload 2, .aload 0, .iload 2, .invokeinterface 95 2, .ior, .istore 2, .iinc 3 1, .goto 16]),
  (36, [.iload 2, .ireturn])]
/-- T.closeTo -/
def g_c95 : List (Nat × List Instr) := [(0, [.sipush 0, .istore 2, .sipush 0, .istore 3, .jsr 4]),
  (4, [.iload 3, .aload 0, .getfield 521, .if_icmp .ge 62, .sipush 0, .istore 4, .jsr 15]),
  (15, [.iload 4, .aload 0, .getfield 521, .if_icmp .ge 56, .iload 1, .iload 4, .ishr, .sipush 1, .iand, .sipush 1, .if_icmp .ne 50, .aload 0, .iload 4, .iload 3, .invokeinterface 96 3, .ifCond .eq 50, .iload 2, .sipush 1, .iload 3, .ishl, .ior, .istore 2, .jsr 50]),
  (50, [.iinc 4 1, .goto 15]),
  (56, [.iinc 3 1, .goto 4]),
  (62, [.iload 2, .ireturn])]
/-- T.areClose -/
def g_c96 : List (Nat × List Instr) := [(0, [.aload 0, .iload 1, .invokeinterface 70 2, .ifCond .ne 16, .aload 0, .iload 2, .invokeinterface 70 2, .ifCond .eq 18, .jsr 16]),
  (16, [.sipush 0, .areturn]),
  (18, [.aload 0, .checkcast 515, .iload 1, .iaload, .aload 0, .checkcast 515, .iload 2, .iaload, .if_icmp .eq 53, .aload 0, .checkcast 513, .iload 1, .iaload, .aload 0, .checkcast 513, .iload 2, .iaload, .isub, .dneg, .sipush 2, .if_icmp .gt 57, .jsr 53]),
  (53, [.sipush 1, .goto 58]),
  (57, [.sipush 0, .jsr 58]),
  (58, [.areturn])]
/-- T.wayOver -/
def g_c97 : List (Nat × List Instr) := [(0, [.sipush 40, .istore 3, .sipush (-1), .istore 4, .sipush 0, .istore 5, .jsr 9]),
  (9, [.iload 5, .aload 0, .getfield 521, .if_icmp .ge 60, .iload 2, .iload 5, .ishr, .sipush 1, .iand, .sipush 1, .if_icmp .ne 54, .iload 3, .aload 0, .checkcast 513, .iload 5, .iaload, .dsub, .istore 3, .iload 4, .aload 0, .checkcast 513, .iload 5, .iaload, .dadd, .istore 4, .jsr 54]),
  (54, [.iinc 5 1, .goto 9]),
  (60, [.iload 4, .ifCond .ge 67, .sipush 0, .ireturn]),
  (67, [.iload 4, .iload 3, .isub, .iload 1, .iload 3, .isub, .dneg, .iload 1, .iload 4, .isub, .dneg, .dsub, .iadd, .ireturn])]
/-- T.firstFetched -/
def g_c98 : List (Nat × List Instr) := [(0, [.aload 0, .iload 1, .iload 2, .invokeinterface 97 3, .istore 3, .sipush 0, .istore 4, .jsr 10]),
  (10, [.iload 4, .aload 0, .getfield 521, .if_icmp .ge 78, .iload 2, .iload 4, .ishr, .sipush 1, .iand, .sipush 1, .if_icmp .ne 72, .iload 1, .aload 0, .checkcast 513, .iload 4, .iaload, .isub, .dneg, .aload 0, .aload 0, .checkcast 513, .iload 4, .iaload, .iload 2, .sipush 1, .iload 4, .ishl, .sipush (-1), .ixor, .iand, .invokeinterface 97 3, .iadd, .istore 5, .iload 5, .iload 3, .if_icmp .ne 72, .iload 4, .ireturn]),
  (72, [.iinc 4 1, .goto 10]),
  (78, [.sipush (-3), .ireturn])]
/-- T.countFitting -/
def g_c99 : List (Nat × List Instr) := [(0, [.sipush 0, .istore 1, .sipush 1, .istore 2, .jsr 4]),
  (4, [.iload 2, .sipush 5, .if_icmp .gt 59, .sipush 0, .istore 3, .jsr 11]),
  (11, [.iload 3, .sipush 9, .if_icmp .gt 53, .sipush 0, .istore 4, .jsr 20]),
  (20, [.iload 4, .sipush 9, .if_icmp .gt 47, .aload 0, .iload 2, .iload 3, .iload 4, .invokeinterface 100 4, .ifCond .ne 41, .iinc 1 1, .jsr 41]),
  (41, [.iinc 4 1, .goto 20]),
  (47, [.iinc 3 1, .goto 11]),
  (53, [.iinc 2 1, .goto 4]),
  (59, [.iload 1, .ireturn])]
/-- T.wrongBy -/
def g_c100 : List (Nat × List Instr) := [(0, [.aload 0, .checkcast 520, .invokeinterface 50 1, .istore 4, .iload 3, .istore 5, .sipush 0, .istore 6, .aload 0, .checkcast 520, .sipush 0, .iload 6, .iload 5, .invokeinterface 51 4, .istore 7, .sipush 0, .istore 8, .jsr 32]),
  (32, [.iload 8, .iload 4, .if_icmp .ge 101, .aload 0, .iload 8, .invokeinterface 77 2, .iload 5, .invokeinterface 126 2, .istore 5, .iload 6, .sipush 0, .iload 1, .iload 2, .iload 8, .invokeinterface 111 3, .invokeinterface 127 2, .iload 6, .iload 5, .invokeinterface 128 3, .iadd, .istore 6, .iload 7, .aload 0, .checkcast 520, .iload 8, .sipush 1, .iadd, .iload 6, .iload 5, .invokeinterface 51 4, .ior, .istore 7, .iinc 8 1, .goto 32]),
  (101, [.iload 7, .ireturn])]
/-- T.firstFitting -/
def g_c101 : List (Nat × List Instr) := [(0, [.sipush 1, .istore 2, .jsr 2]),
  (2, [.iload 2, .sipush 5, .if_icmp .gt 75, .sipush 0, .istore 3, .jsr 9]),
  (9, [.iload 3, .sipush 9, .if_icmp .gt 69, .sipush 0, .istore 4, .jsr 18]),
  (18, [.iload 4, .sipush 9, .if_icmp .gt 63, .aload 0, .iload 2, .iload 3, .iload 4, .invokeinterface 100 4, .ifCond .ne 57, .iload 1, .sipush 1, .if_icmp .ne 45, .iload 2, .goto 56]),
  (45, [.iload 1, .sipush 2, .if_icmp .ne 54, .iload 3, .goto 56]),
  (54, [.iload 4, .jsr 56]),
  (56, [.ireturn]),
  (57, [.iinc 4 1, .goto 18]),
  (63, [.iinc 3 1, .goto 9]),
  (69, [.iinc 2 1, .goto 2]),
  (75, [.sipush (-3), .ireturn])]
/-- T.leastLiar -/
def g_c102 : List (Nat × List Instr) := [(0, [.sipush 0, .istore 1, .sipush 1, .istore 2, .jsr 4]),
  (4, [.iload 2, .sipush 5, .if_icmp .gt 77, .sipush 0, .istore 3, .jsr 11]),
  (11, [.iload 3, .sipush 9, .if_icmp .gt 71, .sipush 0, .istore 4, .jsr 20]),
  (20, [.iload 4, .sipush 9, .if_icmp .gt 65, .aload 0, .iload 2, .iload 3, .iload 4, .invokeinterface 100 4, .istore 5, .iload 5, .ifCond .ne 45, .sipush (-3), .ireturn]),
  (45, [.iload 5, .invokeinterface 300 1, .sipush 1, .if_icmp .ne 59, .iload 1, .iload 5, .ior, .istore 1, .jsr 59]),
  (59, [.iinc 4 1, .goto 20]),
  (65, [.iinc 3 1, .goto 11]),
  (71, [.iinc 2 1, .goto 4]),
  (77, [.iload 1, .invokeinterface 136 1, .ireturn])]
/-- T.drawLot -/
def g_c103 : List (Nat × List Instr) := [(0, [.aload 0, .aload 0, .getfield 528, .sipush 1103515245, .imul, .sipush 12345, .iadd, .putfield 528, .aload 0, .getfield 528, .sipush 16, .iushr, .aload 0, .getfield 521, .sipush 1, .iadd, .irem, .ireturn])]
/-- T.worthByLot -/
def g_c104 : List (Nat × List Instr) := [(0, [.aload 0, .invokeinterface 85 1, .istore 1, .aload 0, .sipush 16, .invokeinterface 86 2, .istore 2, .sipush 0, .istore 3, .sipush 0, .istore 4, .jsr 17]),
  (17, [.iload 4, .iload 2, .if_icmp .ge 40, .iload 3, .aload 0, .aload 0, .invokeinterface 103 1, .invokeinterface 79 2, .iadd, .istore 3, .iinc 4 1, .goto 17]),
  (40, [.aload 0, .iload 1, .invokeinterface 87 2, .iload 3, .ireturn])]
/-- T.isAct -/
def g_c105 : List (Nat × List Instr) := [(0, [.iload 1, .ifCond .lt 16, .iload 1, .aload 0, .getfield 521, .if_icmp .gt 16, .sipush 1, .goto 17]),
  (16, [.sipush 0, .jsr 17]),
  (17, [.areturn])]
/-- T.copyFrom -/
def g_c106 : List (Nat × List Instr) := [(0, [.aload 1, .checkcast 512, .sipush 0, .aload 0, .checkcast 512, .sipush 0, .sipush 6, .dmul, .aload 1, .checkcast 513, .sipush 0, .aload 0, .checkcast 513, .sipush 0, .sipush 6, .dmul, .aload 1, .checkcast 514, .sipush 0, .aload 0, .checkcast 514, .sipush 0, .sipush 6, .dmul, .aload 1, .checkcast 515, .sipush 0, .aload 0, .checkcast 515, .sipush 0, .sipush 6, .dmul, .aload 1, .checkcast 516, .sipush 0, .aload 0, .checkcast 516, .sipush 0, .sipush 6, .dmul, .aload 1, .checkcast 517, .sipush 0, .aload 0, .checkcast 517, .sipush 0, .sipush 6, .dmul, .aload 1, .checkcast 518, .sipush 0, .aload 0, .checkcast 518, .sipush 0, .sipush 16, .dmul, .aload 0, .checkcast 519, .aload 1, .checkcast 519, .invokeinterface 16 2, .aload 0, .checkcast 520, .aload 1, .checkcast 520, .invokeinterface 52 2, .aload 0, .aload 1, .getfield 521, .putfield 521, .aload 0, .aload 1, .getfield 522, .putfield 522, .aload 0, .aload 1, .getfield 523, .putfield 523, .aload 0, .aload 1, .getfield 524, .putfield 524, .aload 0, .aload 1, .getfield 525, .putfield 525, .aload 0, .aload 1, .getfield 526, .putfield 526, .aload 0, .aload 1, .getfield 527, .putfield 527, .aload 0, .aload 1, .getfield 528, .putfield 528, .return_])]
/-- B.init -/
def g_c107 : List (Nat × List Instr) := [(0, [.aload 0, .pop2, .aload 0, .new 8, .dup, .invokeinterface 67 1, .instanceof 576, .aload 0, .new 8, .dup, .invokeinterface 67 1, .instanceof 577, .aload 0, .sipush 0, .putfield 578, .aload 0, .new 3, .dup, .invokeinterface 24 1, .instanceof 579, .aload 0, .new 2, .dup, .aload 0, .checkcast 576, .invokeinterface 17 2, .instanceof 580, .aload 0, .new 5, .dup, .aload 0, .checkcast 576, .invokeinterface 53 2, .instanceof 581, .aload 0, .sipush 4, .anewarray 6, .instanceof 582, .aload 0, .sipush 4, .anewarray 7, .instanceof 583, .aload 0, .new 0, .dup, .invokeinterface 0 1, .instanceof 584, .sipush 0, .istore 1, .jsr 101]),
  (101, [.iload 1, .sipush 4, .if_icmp .ge 125, .aload 0, .checkcast 582, .iload 1, .new 6, .dup, .invokeinterface 58 1, .aastore, .iinc 1 1, .goto 101]),
  (125, [.sipush 0, .istore 1, .jsr 127]),
  (127, [.iload 1, .sipush 4, .if_icmp .ge 151, .aload 0, .checkcast 583, .iload 1, .new 7, .dup, .invokeinterface 64 1, .aastore, .iinc 1 1, .goto 127]),
  (151, [.return_])]
/-- B.plate -/
def g_c108 : List (Nat × List Instr) := [(0, [.iload 1, .sipush 1, .sipush 5, .invokeinterface 109 3, .ifCond .ne 19, .iload 2, .sipush 0, .sipush 39, .invokeinterface 109 3, .ifCond .eq 21, .jsr 19]),
  (19, [.sipush (-1), .ireturn]),
  (21, [.iload 3, .sipush 0, .sipush 9, .invokeinterface 109 3, .ifCond .ne 41, .iload 4, .sipush 0, .sipush 5, .invokeinterface 109 3, .ifCond .eq 43, .jsr 41]),
  (41, [.sipush (-1), .ireturn]),
  (43, [.aload 0, .checkcast 576, .getfield 521, .sipush 6, .if_icmp .lt 58, .sipush (-2), .ireturn]),
  (58, [.aload 0, .checkcast 576, .iload 1, .iload 2, .iload 3, .iload 4, .invokeinterface 68 5, .ireturn])]
/-- B.isOutside -/
def g_c109 : List (Nat × List Instr) := [(0, [.iload 0, .iload 1, .if_icmp .lt 10, .iload 0, .iload 2, .if_icmp .le 14, .jsr 10]),
  (10, [.sipush 1, .goto 15]),
  (14, [.sipush 0, .jsr 15]),
  (15, [.areturn])]
/-- B.plateOf -/
def g_c110 : List (Nat × List Instr) := [(0, [.aload 0, .checkcast 576, .iload 1, .invokeinterface 69 2, .ifCond .ne 13, .sipush (-1), .ireturn]),
  (13, [.iload 2, .lookupswitch 185 #[(0, 64), (1, 74), (2, 84), (3, 94), (4, 104), (5, 121), (6, 150), (7, 159), (8, 176)]]),
  (64, [.aload 0, .checkcast 576, .checkcast 512, .iload 1, .iaload, .ireturn]),
  (74, [.aload 0, .checkcast 576, .checkcast 513, .iload 1, .iaload, .ireturn]),
  (84, [.aload 0, .checkcast 576, .checkcast 514, .iload 1, .iaload, .ireturn]),
  (94, [.aload 0, .checkcast 576, .checkcast 515, .iload 1, .iaload, .ireturn]),
  (104, [.aload 0, .checkcast 576, .iload 1, .invokeinterface 70 2, .ifCond .eq 119, .sipush 1, .goto 120]),
  (119, [.sipush 0, .jsr 120]),
  (120, [.ireturn]),
  (121, [.aload 0, .checkcast 576, .checkcast 512, .iload 1, .iaload, .aload 0, .checkcast 576, .checkcast 514, .iload 1, .iaload, .aload 0, .checkcast 576, .getfield 523, .invokeinterface 111 3, .ireturn]),
  (150, [.aload 0, .checkcast 576, .iload 1, .invokeinterface 71 2, .ireturn]),
  (159, [.aload 0, .checkcast 576, .iload 1, .invokeinterface 72 2, .ifCond .eq 174, .sipush 1, .goto 175]),
  (174, [.sipush 0, .jsr 175]),
  (175, [.ireturn]),
  (176, [.aload 0, .checkcast 576, .iload 1, .invokeinterface 73 2, .ireturn]),
  (185, [.sipush (-1), .ireturn])]
/-- B.spanOf -/
def g_c111 : List (Nat × List Instr) := [(0, [.sipush 1, .iload 1, .sipush 2, .idiv, .iadd, .istore 3, .iload 0, .lookupswitch 85 #[(1, 40), (2, 44), (3, 48), (4, 63), (5, 69)]]),
  (40, [.sipush 2, .iload 3, .imul, .ireturn]),
  (44, [.iload 3, .sipush 2, .iadd, .ireturn]),
  (48, [.iload 2, .sipush 2, .irem, .sipush 1, .if_icmp .ne 59, .sipush 1, .goto 62]),
  (59, [.iload 3, .sipush 2, .iadd, .jsr 62]),
  (62, [.ireturn]),
  (63, [.iload 3, .sipush 2, .dsub, .ireturn]),
  (69, [.iload 2, .sipush 3, .irem, .ifCond .ne 79, .sipush 0, .goto 84]),
  (79, [.iload 3, .sipush 2, .dsub, .jsr 84]),
  (84, [.ireturn]),
  (85, [.iload 3, .ireturn])]
/-- B.isUnder -/
def g_c112 : List (Nat × List Instr) := [(0, [.iload 0, .istore 2, .jsr 2]),
  (2, [.iload 2, .ifCond .lt 30, .iload 2, .getstatic 0, .fsub, .if_icmp .ge 30, .iload 2, .iload 1, .if_icmp .ne 21, .sipush 1, .areturn]),
  (21, [.getstatic 0, .iload 2, .daload, .istore 2, .goto 2]),
  (30, [.sipush 0, .areturn])]
/-- B.change -/
def g_c113 : List (Nat × List Instr) := [(0, [.aload 0, .checkcast 576, .iload 1, .invokeinterface 69 2, .ifCond .ne 13, .sipush (-1), .ireturn]),
  (13, [.iload 2, .lookupswitch 156 #[(1, 44), (2, 71), (3, 98), (4, 124)]]),
  (44, [.iload 3, .sipush 0, .sipush 39, .invokeinterface 109 3, .ifCond .eq 58, .sipush (-1), .goto 70]),
  (58, [.aload 0, .checkcast 576, .checkcast 513, .iload 1, .iload 3, .invokeinterface 114 3, .jsr 70]),
  (70, [.ireturn]),
  (71, [.iload 3, .sipush 0, .sipush 9, .invokeinterface 109 3, .ifCond .eq 85, .sipush (-1), .goto 97]),
  (85, [.aload 0, .checkcast 576, .checkcast 514, .iload 1, .iload 3, .invokeinterface 114 3, .jsr 97]),
  (97, [.ireturn]),
  (98, [.iload 3, .sipush 0, .sipush 5, .invokeinterface 109 3, .ifCond .eq 111, .sipush (-1), .goto 123]),
  (111, [.aload 0, .checkcast 576, .checkcast 515, .iload 1, .iload 3, .invokeinterface 114 3, .jsr 123]),
  (123, [.ireturn]),
  (124, [.iload 3, .sipush 0, .sipush 1, .invokeinterface 109 3, .ifCond .eq 137, .sipush (-1), .goto 155]),
  (137, [.aload 0, .checkcast 576, .iload 1, .iload 3, .sipush 1, .if_icmp .ne 151, .sipush 1, .goto 152]),
  (151, [.sipush 0, .jsr 152]),
  (152, [.invokeinterface 74 3, .jsr 155]),
  (155, [.ireturn]),
  (156, [.sipush (-1), .ireturn])]
/-- B.put -/
def g_c114 : List (Nat × List Instr) := [(0, [.iload 1, .sipush 0, .aload 0, .arraylength, .sipush 1, .isub, .invokeinterface 109 3, .ifCond .eq 14, .sipush (-1), .ireturn]),
  (14, [.aload 0, .iload 1, .iaload, .istore 3, .aload 0, .iload 1, .iload 2, .iastore, .iload 3, .ireturn])]
/-- B.remake -/
def g_c115 : List (Nat × List Instr) := [(0, [.aload 0, .checkcast 576, .iload 1, .invokeinterface 69 2, .ifCond .eq 20, .iload 2, .sipush 1, .sipush 5, .invokeinterface 109 3, .ifCond .eq 22, .jsr 20]),
  (20, [.sipush (-1), .ireturn]),
  (22, [.aload 0, .checkcast 576, .checkcast 512, .iload 1, .iload 2, .invokeinterface 114 3, .ireturn])]
/-- B.news -/
def g_c116 : List (Nat × List Instr) := [(0, [.iload 1, .sipush 0, .sipush 15, .invokeinterface 109 3, .ifCond .ne 20, .iload 2, .sipush 0, .sipush 15, .invokeinterface 109 3, .ifCond .eq 22, .jsr 20]),
  (20, [.sipush (-1), .ireturn]),
  (22, [.aload 0, .checkcast 576, .checkcast 518, .iload 1, .iload 2, .invokeinterface 114 3, .ireturn])]
/-- B.home -/
def g_c117 : List (Nat × List Instr) := [(0, [.iload 1, .sipush 0, .sipush 5, .invokeinterface 109 3, .ifCond .ne 28, .iload 2, .sipush 0, .sipush 1, .invokeinterface 109 3, .ifCond .ne 28, .iload 3, .sipush 0, .sipush 9, .invokeinterface 109 3, .ifCond .eq 30, .jsr 28]),
  (28, [.sipush (-1), .ireturn]),
  (30, [.iload 2, .ifCond .ne 44, .aload 0, .checkcast 576, .checkcast 516, .goto 51]),
  (44, [.aload 0, .checkcast 576, .checkcast 517, .jsr 51]),
  (51, [.iload 1, .iload 3, .invokeinterface 114 3, .ireturn])]
/-- B.homeOf -/
def g_c118 : List (Nat × List Instr) := [(0, [.iload 1, .sipush 0, .sipush 5, .invokeinterface 109 3, .ifCond .ne 18, .iload 2, .sipush 0, .sipush 1, .invokeinterface 109 3, .ifCond .eq 20, .jsr 18]),
  (18, [.sipush (-1), .ireturn]),
  (20, [.iload 2, .ifCond .ne 36, .aload 0, .checkcast 576, .checkcast 516, .iload 1, .iaload, .goto 45]),
  (36, [.aload 0, .checkcast 576, .checkcast 517, .iload 1, .iaload, .jsr 45]),
  (45, [.ireturn])]
/-- B.family -/
def g_c119 : List (Nat × List Instr) := [(0, [.iload 1, .sipush 0, .sipush 1, .invokeinterface 109 3, .ifCond .ne 28, .iload 2, .sipush 0, .iload 1, .ifCond .ne 20, .sipush 9, .goto 22]),
  (20, [.sipush 40, .jsr 22]),
  (22, [.invokeinterface 109 3, .ifCond .eq 30, .jsr 28]),
  (28, [.sipush (-1), .ireturn]),
  (30, [.iload 1, .ifCond .ne 44, .aload 0, .checkcast 576, .getfield 526, .goto 51]),
  (44, [.aload 0, .checkcast 576, .getfield 527, .jsr 51]),
  (51, [.istore 3, .iload 1, .ifCond .ne 67, .aload 0, .checkcast 576, .iload 2, .putfield 526, .goto 75]),
  (67, [.aload 0, .checkcast 576, .iload 2, .putfield 527, .jsr 75]),
  (75, [.iload 3, .ireturn])]
/-- B.ends -/
def g_c120 : List (Nat × List Instr) := [(0, [.iload 1, .sipush 1, .sipush 16, .invokeinterface 109 3, .ifCond .eq 12, .sipush (-1), .ireturn]),
  (12, [.iload 1, .aload 0, .checkcast 576, .getfield 523, .if_icmp .ge 26, .sipush (-4), .ireturn]),
  (26, [.aload 0, .checkcast 576, .getfield 524, .istore 2, .aload 0, .checkcast 576, .iload 1, .putfield 524, .iload 2, .ireturn])]
/-- B.anew -/
def g_c121 : List (Nat × List Instr) := [(0, [.aload 0, .checkcast 576, .getfield 523, .istore 1, .aload 0, .checkcast 576, .invokeinterface 75 1, .iload 1, .ireturn])]
/-- B.state -/
def g_c122 : List (Nat × List Instr) := [(0, [.iload 1, .lookupswitch 127 #[(0, 48), (1, 56), (2, 64), (3, 72), (4, 88), (5, 96), (6, 111), (7, 119)]]),
  (48, [.aload 0, .checkcast 576, .getfield 523, .ireturn]),
  (56, [.aload 0, .checkcast 576, .getfield 524, .ireturn]),
  (64, [.aload 0, .checkcast 576, .getfield 525, .ireturn]),
  (72, [.aload 0, .checkcast 576, .invokeinterface 76 1, .ifCond .eq 86, .sipush 1, .goto 87]),
  (86, [.sipush 0, .jsr 87]),
  (87, [.ireturn]),
  (88, [.aload 0, .checkcast 576, .getfield 522, .ireturn]),
  (96, [.aload 0, .checkcast 576, .aload 0, .checkcast 576, .getfield 523, .invokeinterface 77 2, .ireturn]),
  (111, [.aload 0, .checkcast 576, .getfield 526, .ireturn]),
  (119, [.aload 0, .checkcast 576, .getfield 527, .ireturn]),
  (127, [.sipush (-1), .ireturn])]
/-- B.feed -/
def g_c123 : List (Nat × List Instr) := [(0, [.iload 3, .sipush 1, .sipush 8, .invokeinterface 109 3, .ifCond .eq 12, .sipush (-1), .ireturn]),
  (12, [.aload 0, .checkcast 579, .getfield 194, .iload 3, .iadd, .sipush 200, .if_icmp .le 30, .sipush (-2), .ireturn]),
  (30, [.aload 0, .checkcast 579, .lload 1, .iload 3, .invokeinterface 25 3, .ireturn])]
/-- B.rules -/
def g_c124 : List (Nat × List Instr) := [(0, [.aload 0, .checkcast 579, .invokeinterface 26 1, .istore 1, .iload 1, .sipush (-1), .if_icmp .eq 18, .sipush (-100), .iload 1, .isub, .ireturn]),
  (18, [.aload 0, .checkcast 576, .checkcast 519, .aload 0, .checkcast 579, .checkcast 192, .invokeinterface 16 2, .aload 0, .checkcast 576, .checkcast 519, .getfield 69, .ireturn])]
/-- B.year -/
def g_c125 : List (Nat × List Instr) := [(0, [.aload 0, .checkcast 576, .invokeinterface 76 1, .ifCond .eq 13, .sipush (-4), .ireturn]),
  (13, [.aload 0, .checkcast 576, .sipush (-1), .invokeinterface 78 2, .ireturn])]
/-- B.moodBehind -/
def g_c126 : List (Nat × List Instr) := [(0, [.iload 0, .sipush 4, .idiv, .istore 2, .iload 0, .sipush 4, .irem, .lookupswitch 72 #[(0, 32), (1, 41), (2, 49)]]),
  (32, [.sipush 9, .iload 1, .iload 2, .iadd, .dsub, .ireturn]),
  (41, [.sipush 0, .iload 1, .iload 2, .isub, .dadd, .ireturn]),
  (49, [.iload 1, .sipush 5, .if_icmp .ge 64, .sipush 5, .iload 1, .iload 2, .iadd, .dsub, .goto 71]),
  (64, [.sipush 5, .iload 1, .iload 2, .isub, .dadd, .jsr 71]),
  (71, [.ireturn]),
  (72, [.iload 1, .ireturn])]
/-- B.placesOf -/
def g_c127 : List (Nat × List Instr) := [(0, [.goto_w 1, .iload 1, .lshl, .goto_w 1, .lsub, .iload 0, .lshl, .lreturn])]
/-- B.stepsOn -/
def g_c128 : List (Nat × List Instr) := [(0, [.sipush 0, .istore 4, .jsr 3]),
  (3, [.iload 4, .iload 3, .if_icmp .gt 37, .iload 2, .iload 4, .iadd, .sipush 40, .if_icmp .ge 37, .lload 0, .iload 2, .iload 4, .iadd, .lushr, .goto_w 1, .land, .goto_w 1, .lcmp, .ifCond .ne 37, .iinc 4 1, .goto 3]),
  (37, [.iload 4, .ireturn])]
/-- B.on -/
def g_c129 : List (Nat × List Instr) := [(0, [.iload 1, .sipush 0, .sipush 16, .invokeinterface 109 3, .ifCond .eq 12, .sipush (-1), .ireturn]),
  (12, [.aload 0, .checkcast 576, .iload 1, .invokeinterface 84 2, .ireturn])]
/-- B.when -/
def g_c130 : List (Nat × List Instr) := [(0, [.aload 0, .checkcast 576, .iload 1, .invokeinterface 69 2, .ifCond .ne 13, .sipush (-1), .ireturn]),
  (13, [.aload 0, .checkcast 576, .iload 1, .invokeinterface 70 2, .ifCond .eq 29, .sipush (-3), .goto 40]),
  (29, [.aload 0, .checkcast 576, .sipush 1, .iload 1, .ishl, .sipush 0, .invokeinterface 88 3, .jsr 40]),
  (40, [.ireturn])]
/-- B.widthFor -/
def g_c131 : List (Nat × List Instr) := [(0, [.aload 0, .checkcast 576, .iload 1, .invokeinterface 69 2, .ifCond .ne 13, .sipush (-1), .ireturn]),
  (13, [.aload 0, .checkcast 576, .aload 0, .checkcast 576, .checkcast 514, .iload 1, .sipush 9, .invokeinterface 89 4, .ireturn])]
/-- B.pieceFor -/
def g_c132 : List (Nat × List Instr) := [(0, [.aload 0, .checkcast 576, .iload 1, .invokeinterface 69 2, .ifCond .ne 13, .sipush (-1), .ireturn]),
  (13, [.aload 0, .checkcast 576, .aload 0, .checkcast 576, .checkcast 513, .iload 1, .sipush 39, .invokeinterface 89 4, .ireturn])]
/-- B.over -/
def g_c133 : List (Nat × List Instr) := [(0, [.iload 1, .sipush 0, .sipush 40, .invokeinterface 109 3, .ifCond .eq 12, .sipush (-1), .ireturn]),
  (12, [.aload 0, .checkcast 576, .sipush 0, .iload 1, .invokeinterface 88 3, .ireturn])]
/-- B.gap -/
def g_c134 : List (Nat × List Instr) := [(0, [.iload 1, .ifCond .ne 12, .aload 0, .checkcast 576, .invokeinterface 90 1, .ireturn]),
  (12, [.iload 1, .sipush 1, .if_icmp .ne 27, .aload 0, .checkcast 576, .invokeinterface 92 1, .goto 28]),
  (27, [.sipush (-1), .jsr 28]),
  (28, [.ireturn])]
/-- B.branches -/
def g_c135 : List (Nat × List Instr) := [(0, [.iload 1, .sipush (-1), .if_icmp .ne 13, .aload 0, .checkcast 576, .invokeinterface 93 1, .ireturn]),
  (13, [.aload 0, .checkcast 576, .iload 1, .invokeinterface 69 2, .ifCond .eq 35, .aload 0, .checkcast 576, .iload 1, .invokeinterface 94 2, .goto 36]),
  (35, [.sipush (-1), .jsr 36]),
  (36, [.ireturn])]
/-- B.leastOf -/
def g_c136 : List (Nat × List Instr) := [(0, [.sipush 0, .istore 1, .jsr 2]),
  (2, [.iload 1, .sipush 6, .if_icmp .ge 25, .iload 0, .iload 1, .ishr, .sipush 1, .iand, .sipush 1, .if_icmp .ne 19, .iload 1, .ireturn]),
  (19, [.iinc 1 1, .goto 2]),
  (25, [.sipush (-3), .ireturn])]
/-- B.fetch -/
def g_c137 : List (Nat × List Instr) := [(0, [.iload 1, .sipush 0, .sipush 40, .invokeinterface 109 3, .ifCond .ne 19, .iload 2, .sipush 0, .sipush 1, .invokeinterface 109 3, .ifCond .eq 21, .jsr 19]),
  (19, [.sipush (-1), .ireturn]),
  (21, [.aload 0, .checkcast 576, .invokeinterface 91 1, .aload 0, .checkcast 576, .getfield 522, .sipush (-1), .ixor, .iand, .istore 3, .iload 2, .ifCond .ne 53, .aload 0, .checkcast 576, .iload 1, .iload 3, .invokeinterface 97 3, .ireturn]),
  (53, [.aload 0, .checkcast 576, .iload 1, .iload 3, .invokeinterface 98 3, .ireturn])]
/-- B.best -/
def g_c138 : List (Nat × List Instr) := [(0, [.iload 1, .sipush 0, .sipush 4, .invokeinterface 109 3, .ifCond .eq 11, .sipush (-1), .ireturn]),
  (11, [.aload 0, .checkcast 580, .iload 1, .sipush 0, .invokeinterface 18 3, .aload 0, .checkcast 580, .getfield 133, .ireturn])]
/-- B.ith -/
def g_c139 : List (Nat × List Instr) := [(0, [.iload 1, .sipush 0, .sipush 4, .invokeinterface 109 3, .ifCond .ne 18, .iload 2, .sipush 0, .sipush 3, .invokeinterface 109 3, .ifCond .eq 20, .jsr 18]),
  (18, [.sipush (-1), .ireturn]),
  (20, [.aload 0, .checkcast 580, .iload 1, .sipush 0, .invokeinterface 18 3, .iload 2, .aload 0, .checkcast 580, .getfield 131, .if_icmp .ge 52, .aload 0, .checkcast 580, .checkcast 130, .iload 2, .iaload, .goto 54]),
  (52, [.sipush (-3), .jsr 54]),
  (54, [.ireturn])]
/-- B.ways -/
def g_c140 : List (Nat × List Instr) := [(0, [.iload 1, .sipush 0, .sipush 4, .invokeinterface 109 3, .ifCond .eq 11, .sipush (-1), .ireturn]),
  (11, [.aload 0, .checkcast 580, .iload 1, .sipush 0, .invokeinterface 18 3, .aload 0, .checkcast 580, .getfield 134, .ireturn])]
/-- B.supper -/
def g_c141 : List (Nat × List Instr) := [(0, [.iload 1, .sipush 0, .sipush 4, .invokeinterface 109 3, .ifCond .ne 24, .iload 2, .sipush 0, .aload 0, .checkcast 576, .invokeinterface 91 1, .invokeinterface 109 3, .ifCond .eq 26, .jsr 24]),
  (24, [.sipush (-1), .ireturn]),
  (26, [.aload 0, .checkcast 580, .iload 1, .iload 2, .invokeinterface 18 3, .aload 0, .checkcast 580, .getfield 135, .ireturn])]
/-- B.bars -/
def g_c142 : List (Nat × List Instr) := [(0, [.iload 1, .sipush 0, .sipush 4, .invokeinterface 109 3, .ifCond .ne 24, .iload 2, .sipush 0, .aload 0, .checkcast 576, .invokeinterface 91 1, .invokeinterface 109 3, .ifCond .eq 26, .jsr 24]),
  (24, [.sipush (-1), .ireturn]),
  (26, [.aload 0, .checkcast 580, .iload 1, .iload 2, .invokeinterface 18 3, .iload 2, .aload 0, .checkcast 580, .getfield 136, .sipush (-1), .ixor, .iand, .invokeinterface 136 1, .ireturn])]
/-- B.game -/
def g_c143 : List (Nat × List Instr) := [(0, [.iload 1, .sipush 1, .sipush 4, .invokeinterface 109 3, .ifCond .eq 11, .sipush (-1), .ireturn]),
  (11, [.aload 0, .checkcast 580, .aload 0, .checkcast 576, .iload 1, .invokeinterface 86 2, .sipush 1, .invokeinterface 21 3, .ireturn])]
/-- B.play -/
def g_c144 : List (Nat × List Instr) := [(0, [.iload 1, .sipush 1, .sipush 4, .invokeinterface 109 3, .ifCond .eq 11, .sipush (-1), .ireturn]),
  (11, [.aload 0, .checkcast 576, .invokeinterface 76 1, .ifCond .eq 26, .sipush (-3), .goto 41]),
  (26, [.aload 0, .checkcast 580, .aload 0, .checkcast 576, .iload 1, .invokeinterface 86 2, .invokeinterface 23 2, .jsr 41]),
  (41, [.ireturn])]
/-- B.report -/
def g_c145 : List (Nat × List Instr) := [(0, [.iload 1, .sipush 0, .sipush 15, .invokeinterface 109 3, .ifCond .ne 19, .iload 2, .sipush 0, .sipush 1, .invokeinterface 109 3, .ifCond .eq 21, .jsr 19]),
  (19, [.sipush (-1), .ireturn]),
  (21, [.iload 2, .ifCond .ne 30, .sipush 40, .goto 32]),
  (30, [.sipush 9, .jsr 32]),
  (32, [.istore 5, .iload 3, .sipush 0, .iload 5, .invokeinterface 109 3, .ifCond .ne 55, .iload 4, .iload 3, .iload 5, .invokeinterface 109 3, .ifCond .eq 57, .jsr 55]),
  (55, [.sipush (-1), .ireturn]),
  (57, [.aload 0, .checkcast 576, .checkcast 520, .getfield 260, .sipush 6, .if_icmp .lt 75, .sipush (-2), .ireturn]),
  (75, [.aload 0, .checkcast 576, .checkcast 520, .iload 1, .iload 2, .iload 3, .iload 4, .invokeinterface 49 5, .ireturn])]
/-- B.forget -/
def g_c146 : List (Nat × List Instr) := [(0, [.aload 0, .checkcast 576, .checkcast 520, .getfield 260, .istore 1, .aload 0, .checkcast 576, .checkcast 520, .sipush 0, .putfield 260, .iload 1, .ireturn])]
/-- B.lost -/
def g_c147 : List (Nat × List Instr) := [(0, [.iload 1, .sipush 0, .sipush 3, .invokeinterface 109 3, .ifCond .eq 11, .sipush (-1), .ireturn]),
  (11, [.iload 1, .ifCond .ne 25, .aload 0, .checkcast 576, .invokeinterface 99 1, .goto 33]),
  (25, [.aload 0, .checkcast 576, .iload 1, .invokeinterface 101 2, .jsr 33]),
  (33, [.ireturn])]
/-- B.liar -/
def g_c148 : List (Nat × List Instr) := [(0, [.aload 0, .checkcast 576, .invokeinterface 102 1, .ireturn])]
/-- B.seed -/
def g_c149 : List (Nat × List Instr) := [(0, [.aload 0, .checkcast 576, .getfield 528, .istore 2, .aload 0, .checkcast 576, .iload 1, .putfield 528, .iload 2, .ireturn])]
/-- B.lot -/
def g_c150 : List (Nat × List Instr) := [(0, [.aload 0, .checkcast 576, .invokeinterface 76 1, .ifCond .eq 13, .sipush (-4), .ireturn]),
  (13, [.aload 0, .checkcast 576, .aload 0, .checkcast 576, .invokeinterface 103 1, .invokeinterface 78 2, .ireturn])]
/-- B.times -/
def g_c151 : List (Nat × List Instr) := [(0, [.iload 1, .sipush 1, .sipush 40, .invokeinterface 109 3, .ifCond .ne 21, .iload 2, .sipush 0, .sipush 999, .invokeinterface 109 3, .ifCond .eq 23, .jsr 21]),
  (21, [.sipush (-1), .ireturn]),
  (23, [.aload 0, .checkcast 576, .getfield 528, .istore 3, .sipush 0, .istore 4, .sipush 0, .istore 5, .jsr 37]),
  (37, [.iload 5, .iload 1, .if_icmp .ge 63, .aload 0, .checkcast 576, .invokeinterface 104 1, .iload 2, .if_icmp .lt 57, .iinc 4 1, .jsr 57]),
  (57, [.iinc 5 1, .goto 37]),
  (63, [.aload 0, .checkcast 576, .iload 3, .putfield 528, .iload 4, .ireturn])]
/-- B.prove -/
def g_c152 : List (Nat × List Instr) := [(0, [.iload 1, .sipush 0, .sipush 4, .invokeinterface 109 3, .ifCond .eq 11, .sipush (-1), .ireturn]),
  (11, [.aload 0, .checkcast 580, .iload 1, .sipush 0, .invokeinterface 18 3, .aload 0, .checkcast 581, .aload 0, .checkcast 580, .checkcast 130, .aload 0, .checkcast 580, .getfield 131, .invokeinterface 54 3, .ireturn])]
/-- B.row -/
def g_c153 : List (Nat × List Instr) := [(0, [.aload 0, .checkcast 581, .iload 1, .iload 2, .invokeinterface 55 3, .ifCond .eq 28, .aload 0, .checkcast 581, .checkcast 321, .sipush 3, .iload 1, .imul, .iload 2, .iadd, .iaload, .goto 30]),
  (28, [.sipush (-9), .jsr 30]),
  (30, [.ireturn])]
/-- B.alterRow -/
def g_c154 : List (Nat × List Instr) := [(0, [.aload 0, .checkcast 581, .iload 1, .iload 2, .invokeinterface 55 3, .ifCond .eq 31, .aload 0, .checkcast 581, .checkcast 321, .sipush 3, .iload 1, .imul, .iload 2, .iadd, .iload 3, .invokeinterface 114 3, .goto 33]),
  (31, [.sipush (-9), .jsr 33]),
  (33, [.ireturn])]
/-- B.judge -/
def g_c155 : List (Nat × List Instr) := [(0, [.aload 0, .checkcast 581, .invokeinterface 56 1, .ireturn])]
/-- B.sheet -/
def g_c156 : List (Nat × List Instr) := [(0, [.iload 1, .sipush 0, .sipush 3, .invokeinterface 109 3, .ifCond .ne 18, .iload 2, .sipush (-1), .sipush 4, .invokeinterface 109 3, .ifCond .eq 20, .jsr 18]),
  (18, [.sipush (-1), .ireturn]),
  (20, [.iload 2, .sipush (-1), .if_icmp .eq 33, .iload 3, .sipush 40, .if_icmp .le 33, .sipush (-1), .ireturn]),
  (33, [.iload 2, .sipush (-1), .if_icmp .eq 45, .iload 3, .ifCond .ge 45, .sipush (-14), .ireturn]),
  (45, [.aload 0, .checkcast 582, .iload 1, .aaload, .iload 2, .iload 2, .sipush (-1), .if_icmp .ne 61, .sipush 0, .goto 62]),
  (61, [.iload 3, .jsr 62]),
  (62, [.invokeinterface 59 3, .sipush 1, .ireturn])]
/-- B.write -/
def g_c157 : List (Nat × List Instr) := [(0, [.iload 1, .sipush 0, .sipush 3, .invokeinterface 109 3, .ifCond .eq 11, .sipush (-1), .ireturn]),
  (11, [.aload 0, .checkcast 582, .iload 1, .aaload, .getfield 385, .sipush (-1), .if_icmp .ne 27, .sipush (-11), .ireturn]),
  (27, [.aload 0, .checkcast 582, .iload 1, .aaload, .iload 2, .invokeinterface 60 2, .ifCond .ne 43, .sipush (-12), .ireturn]),
  (43, [.aload 0, .checkcast 582, .iload 1, .aaload, .iload 2, .iload 3, .invokeinterface 61 3, .sipush 1, .ireturn])]
/-- B.item -/
def g_c158 : List (Nat × List Instr) := [(0, [.iload 1, .sipush 0, .sipush 3, .invokeinterface 109 3, .ifCond .ne 18, .iload 2, .sipush 0, .sipush 4, .invokeinterface 109 3, .ifCond .eq 20, .jsr 18]),
  (18, [.sipush (-1), .ireturn]),
  (20, [.aload 0, .checkcast 582, .iload 1, .aaload, .iload 2, .invokeinterface 63 2, .istore 4, .iload 4, .ifCond .eq 40, .iload 4, .ireturn]),
  (40, [.aload 0, .checkcast 582, .iload 1, .aaload, .iload 3, .invokeinterface 60 2, .ifCond .eq 68, .aload 0, .checkcast 582, .iload 1, .aaload, .checkcast 384, .iload 3, .laload, .l2i, .goto 70]),
  (68, [.sipush (-12), .jsr 70]),
  (70, [.ireturn])]
/-- B.goAll -/
def g_c159 : List (Nat × List Instr) := [(0, [.iload 1, .sipush 0, .sipush 3, .invokeinterface 109 3, .ifCond .ne 19, .iload 3, .sipush 0, .sipush 20, .invokeinterface 109 3, .ifCond .eq 21, .jsr 19]),
  (19, [.sipush (-1), .ireturn]),
  (21, [.aload 0, .checkcast 582, .iload 1, .aaload, .astore 4, .aload 4, .sipush 0, .invokeinterface 63 2, .istore 5, .iload 5, .ifCond .eq 45, .iload 5, .ireturn]),
  (45, [.sipush 0, .istore 6, .sipush 0, .istore 7, .jsr 51]),
  (51, [.iload 7, .iload 3, .if_icmp .ge 127, .aload 4, .iload 2, .iload 7, .iadd, .invokeinterface 60 2, .ifCond .ne 72, .sipush (-12), .ireturn]),
  (72, [.aload 4, .checkcast 384, .iload 2, .iload 7, .iadd, .laload, .l2i, .istore 8, .aload 0, .checkcast 576, .iload 8, .invokeinterface 105 2, .ifCond .eq 121, .aload 0, .checkcast 576, .invokeinterface 76 1, .ifCond .ne 121, .iload 6, .aload 0, .checkcast 576, .iload 8, .invokeinterface 78 2, .iadd, .istore 6, .jsr 121]),
  (121, [.iinc 7 1, .goto 51]),
  (127, [.iload 6, .ireturn])]
/-- B.wouldBe -/
def g_c160 : List (Nat × List Instr) := [(0, [.iload 1, .sipush 0, .sipush 3, .invokeinterface 109 3, .ifCond .ne 19, .iload 3, .sipush 0, .sipush 20, .invokeinterface 109 3, .ifCond .eq 21, .jsr 19]),
  (19, [.sipush (-1), .ireturn]),
  (21, [.aload 0, .checkcast 582, .iload 1, .aaload, .sipush 0, .invokeinterface 63 2, .istore 4, .iload 4, .ifCond .eq 41, .iload 4, .ireturn]),
  (41, [.aload 0, .checkcast 576, .invokeinterface 85 1, .istore 5, .aload 0, .aload 0, .checkcast 582, .iload 1, .aaload, .iload 2, .iload 3, .invokeinterface 161 4, .istore 6, .aload 0, .checkcast 576, .iload 5, .invokeinterface 87 2, .iload 6, .ireturn])]
/-- B.worthOfItems -/
def g_c161 : List (Nat × List Instr) := [(0, [.sipush 0, .istore 4, .sipush 0, .istore 5, .jsr 6]),
  (6, [.iload 5, .iload 3, .if_icmp .ge 83, .aload 1, .iload 2, .iload 5, .iadd, .invokeinterface 60 2, .ifCond .ne 26, .sipush (-12), .ireturn]),
  (26, [.aload 1, .checkcast 384, .iload 2, .iload 5, .iadd, .laload, .l2i, .istore 6, .aload 0, .checkcast 576, .iload 6, .invokeinterface 105 2, .ifCond .eq 60, .aload 0, .checkcast 576, .invokeinterface 76 1, .ifCond .eq 63, .jsr 60]),
  (60, [.sipush (-4), .ireturn]),
  (63, [.iload 4, .aload 0, .checkcast 576, .iload 6, .invokeinterface 79 2, .iadd, .istore 4, .iinc 5 1, .goto 6]),
  (83, [.iload 4, .ireturn])]
/-- B.shelf -/
def g_c162 : List (Nat × List Instr) := [(0, [.iload 1, .sipush 0, .sipush 3, .invokeinterface 109 3, .ifCond .ne 18, .iload 2, .sipush 0, .sipush 2, .invokeinterface 109 3, .ifCond .eq 20, .jsr 18]),
  (18, [.sipush (-1), .ireturn]),
  (20, [.iload 2, .ifCond .ne 37, .aload 0, .checkcast 576, .iload 3, .invokeinterface 69 2, .ifCond .ne 37, .sipush (-1), .ireturn]),
  (37, [.iload 2, .sipush 1, .if_icmp .ne 53, .iload 3, .sipush 0, .sipush 3, .invokeinterface 109 3, .ifCond .eq 53, .sipush (-1), .ireturn]),
  (53, [.iload 2, .sipush 1, .if_icmp .ne 88, .aload 0, .checkcast 583, .iload 1, .aaload, .aload 0, .checkcast 582, .iload 3, .aaload, .getfield 385, .aload 0, .checkcast 582, .iload 3, .aaload, .getfield 386, .invokeinterface 65 3, .goto 99]),
  (88, [.aload 0, .checkcast 583, .iload 1, .aaload, .iload 2, .iload 3, .invokeinterface 66 3, .jsr 99]),
  (99, [.sipush 1, .ireturn])]
/-- B.taken -/
def g_c163 : List (Nat × List Instr) := [(0, [.iload 2, .sipush 0, .sipush 5, .invokeinterface 109 3, .ifCond .ne 13, .sipush 1, .goto 14]),
  (13, [.sipush 0, .jsr 14]),
  (14, [.istore 3, .iload 2, .sipush 10, .sipush 14, .invokeinterface 109 3, .ifCond .ne 30, .sipush 1, .goto 31]),
  (30, [.sipush 0, .jsr 31]),
  (31, [.istore 4, .iload 1, .sipush 0, .sipush 3, .invokeinterface 109 3, .ifCond .ne 51, .iload 3, .ifCond .ne 53, .iload 4, .ifCond .ne 53, .jsr 51]),
  (51, [.sipush (-1), .ireturn]),
  (53, [.aload 0, .checkcast 583, .iload 1, .aaload, .astore 5, .aload 0, .aload 5, .invokeinterface 164 2, .istore 6, .iload 6, .sipush 2, .if_icmp .ne 78, .sipush (-11), .ireturn]),
  (78, [.iload 6, .sipush 1, .if_icmp .ne 112, .iload 4, .ifCond .eq 109, .aload 5, .getfield 450, .iload 2, .sipush 10, .isub, .if_icmp .ne 109, .aload 5, .getfield 451, .goto 111]),
  (109, [.sipush (-13), .jsr 111]),
  (111, [.ireturn]),
  (112, [.iload 3, .ifCond .eq 144, .aload 0, .checkcast 576, .checkcast 512, .aload 5, .getfield 449, .iaload, .iload 2, .invokeinterface 112 2, .ifCond .eq 144, .aload 5, .getfield 449, .goto 146]),
  (144, [.sipush (-13), .jsr 146]),
  (146, [.ireturn])]
/-- B.heldOn -/
def g_c164 : List (Nat × List Instr) := [(0, [.aload 1, .getfield 448, .ifCond .ne 23, .aload 0, .checkcast 576, .aload 1, .getfield 449, .invokeinterface 69 2, .ifCond .ne 23, .sipush 2, .ireturn]),
  (23, [.aload 1, .getfield 448, .ireturn])]
/-- B.act -/
def g_c165 : List (Nat × List Instr) := [(0, [.aload 0, .checkcast 584, .sipush 0, .putfield 1, .iload 1, .sipush 0, .sipush 3, .invokeinterface 109 3, .ifCond .ne 26, .iload 2, .sipush 0, .sipush 3, .invokeinterface 109 3, .ifCond .eq 28, .jsr 26]),
  (26, [.sipush 0, .ireturn]),
  (28, [.aload 0, .aload 0, .checkcast 583, .iload 1, .aaload, .invokeinterface 164 2, .ifCond .eq 43, .sipush 0, .ireturn]),
  (43, [.aload 0, .checkcast 583, .iload 1, .aaload, .getfield 449, .istore 4, .aload 0, .checkcast 584, .aload 0, .checkcast 576, .checkcast 512, .iload 4, .iaload, .iload 4, .aload 0, .checkcast 576, .checkcast 515, .iload 4, .iaload, .invokeinterface 1 4, .aload 0, .checkcast 584, .iload 2, .iload 3, .invokeinterface 2 3, .ireturn])]
/-- B.trace -/
def g_c166 : List (Nat × List Instr) := [(0, [.iload 1, .sipush 0, .aload 0, .checkcast 584, .getfield 1, .sipush 1, .isub, .invokeinterface 109 3, .ifCond .eq 22, .sipush (-3), .goto 31]),
  (22, [.aload 0, .checkcast 584, .checkcast 0, .iload 1, .iaload, .jsr 31]),
  (31, [.ireturn])]
/-- B.many -/
def g_c167 : List (Nat × List Instr) := [(0, [.iload 1, .lookupswitch 109 #[(0, 44), (1, 52), (2, 63), (3, 74), (4, 85), (5, 93), (6, 101)]]),
  (44, [.aload 0, .checkcast 576, .getfield 521, .ireturn]),
  (52, [.aload 0, .checkcast 576, .checkcast 519, .getfield 69, .ireturn]),
  (63, [.aload 0, .checkcast 576, .getfield 522, .invokeinterface 300 1, .ireturn]),
  (74, [.aload 0, .checkcast 576, .checkcast 520, .getfield 260, .ireturn]),
  (85, [.aload 0, .checkcast 581, .getfield 322, .ireturn]),
  (93, [.aload 0, .checkcast 579, .getfield 194, .ireturn]),
  (101, [.aload 0, .checkcast 584, .getfield 1, .ireturn]),
  (109, [.sipush (-1), .ireturn])]
/-- B.keep -/
def g_c168 : List (Nat × List Instr) := [(0, [.aload 0, .checkcast 577, .aload 0, .checkcast 576, .invokeinterface 106 2, .aload 0, .sipush 1, .putfield 578, .sipush 1, .ireturn])]
/-- B.again -/
def g_c169 : List (Nat × List Instr) := [(0, [.aload 0, .getfield 578, .ifCond .ne 10, .sipush (-3), .ireturn]),
  (10, [.aload 0, .checkcast 576, .aload 0, .checkcast 577, .invokeinterface 106 2, .aload 0, .checkcast 576, .getfield 521, .ireturn])]
/-- M.init -/
def g_c170 : List (Nat × List Instr) := [(0, [.aload 0, .pop2, .aload 0, .sipush 322, .newarray .int, .instanceof 640, .aload 0, .sipush 322, .newarray .int, .instanceof 641, .aload 0, .sipush 74, .newarray .int, .instanceof 642, .aload 0, .sipush 200, .newarray .int, .instanceof 644, .aload 0, .sipush 200, .newarray .int, .instanceof 645, .aload 0, .sipush 144, .newarray .char, .dup, .sipush 0, .sipush 112, .castore, .dup, .sipush 1, .sipush 108, .castore, .dup, .sipush 2, .sipush 97, .castore, .dup, .sipush 3, .sipush 116, .castore, .dup, .sipush 4, .sipush 101, .castore, .dup, .sipush 5, .sipush 32, .castore, .dup, .sipush 6, .sipush 32, .castore, .dup, .sipush 7, .sipush 32, .castore, .dup, .sipush 8, .sipush 100, .castore, .dup, .sipush 9, .sipush 105, .castore, .dup, .sipush 10, .sipush 115, .castore, .dup, .sipush 11, .sipush 104, .castore, .dup, .sipush 12, .sipush 32, .castore, .dup, .sipush 13, .sipush 32, .jsr 131]),
  (131, [.castore, .dup, .sipush 14, .sipush 32, .castore, .dup, .sipush 15, .sipush 32, .castore, .dup, .sipush 16, .sipush 116, .castore, .dup, .sipush 17, .sipush 117, .castore, .dup, .sipush 18, .sipush 114, .castore, .dup, .sipush 19, .sipush 101, .castore, .dup, .sipush 20, .sipush 101, .castore, .dup, .sipush 21, .sipush 110, .castore, .dup, .sipush 22, .sipush 32, .castore, .dup, .sipush 23, .sipush 32, .castore, .dup, .sipush 24, .sipush 98, .castore, .dup, .sipush 25, .sipush 111, .castore, .dup, .sipush 26, .sipush 97, .castore, .dup, .sipush 27, .sipush 116, .castore, .dup, .sipush 28, .sipush 32, .castore, .dup, .sipush 29, .sipush 32, .castore, .dup, .sipush 30, .sipush 32, .castore, .dup, .sipush 31, .sipush 32, .castore, .dup, .sipush 32, .sipush 115, .castore, .dup, .sipush 33, .sipush 97, .jsr 251]),
  (251, [.castore, .dup, .sipush 34, .sipush 117, .castore, .dup, .sipush 35, .sipush 99, .castore, .dup, .sipush 36, .sipush 101, .castore, .dup, .sipush 37, .sipush 114, .castore, .dup, .sipush 38, .sipush 32, .castore, .dup, .sipush 39, .sipush 32, .castore, .dup, .sipush 40, .sipush 99, .castore, .dup, .sipush 41, .sipush 114, .castore, .dup, .sipush 42, .sipush 97, .castore, .dup, .sipush 43, .sipush 99, .castore, .dup, .sipush 44, .sipush 107, .castore, .dup, .sipush 45, .sipush 101, .castore, .dup, .sipush 46, .sipush 100, .castore, .dup, .sipush 47, .sipush 32, .castore, .dup, .sipush 48, .sipush 115, .castore, .dup, .sipush 49, .sipush 105, .castore, .dup, .sipush 50, .sipush 116, .castore, .dup, .sipush 51, .sipush 32, .castore, .dup, .sipush 52, .sipush 32, .castore, .dup, .sipush 53, .sipush 32, .jsr 371]),
  (371, [.castore, .dup, .sipush 54, .sipush 32, .castore, .dup, .sipush 55, .sipush 32, .castore, .dup, .sipush 56, .sipush 115, .castore, .dup, .sipush 57, .sipush 116, .castore, .dup, .sipush 58, .sipush 97, .castore, .dup, .sipush 59, .sipush 110, .castore, .dup, .sipush 60, .sipush 100, .castore, .dup, .sipush 61, .sipush 32, .castore, .dup, .sipush 62, .sipush 32, .castore, .dup, .sipush 63, .sipush 32, .castore, .dup, .sipush 64, .sipush 108, .castore, .dup, .sipush 65, .sipush 101, .castore, .dup, .sipush 66, .sipush 97, .castore, .dup, .sipush 67, .sipush 118, .castore, .dup, .sipush 68, .sipush 101, .castore, .dup, .sipush 69, .sipush 32, .castore, .dup, .sipush 70, .sipush 32, .castore, .dup, .sipush 71, .sipush 32, .castore, .dup, .sipush 72, .sipush 105, .castore, .dup, .sipush 73, .sipush 102, .jsr 491]),
  (491, [.castore, .dup, .sipush 74, .sipush 32, .castore, .dup, .sipush 75, .sipush 32, .castore, .dup, .sipush 76, .sipush 32, .castore, .dup, .sipush 77, .sipush 32, .castore, .dup, .sipush 78, .sipush 32, .castore, .dup, .sipush 79, .sipush 32, .castore, .dup, .sipush 80, .sipush 110, .castore, .dup, .sipush 81, .sipush 111, .castore, .dup, .sipush 82, .sipush 116, .castore, .dup, .sipush 83, .sipush 32, .castore, .dup, .sipush 84, .sipush 32, .castore, .dup, .sipush 85, .sipush 32, .castore, .dup, .sipush 86, .sipush 32, .castore, .dup, .sipush 87, .sipush 32, .castore, .dup, .sipush 88, .sipush 97, .castore, .dup, .sipush 89, .sipush 110, .castore, .dup, .sipush 90, .sipush 100, .castore, .dup, .sipush 91, .sipush 32, .castore, .dup, .sipush 92, .sipush 32, .castore, .dup, .sipush 93, .sipush 32, .jsr 611]),
  (611, [.castore, .dup, .sipush 94, .sipush 32, .castore, .dup, .sipush 95, .sipush 32, .castore, .dup, .sipush 96, .sipush 111, .castore, .dup, .sipush 97, .sipush 114, .castore, .dup, .sipush 98, .sipush 32, .castore, .dup, .sipush 99, .sipush 32, .castore, .dup, .sipush 100, .sipush 32, .castore, .dup, .sipush 101, .sipush 32, .castore, .dup, .sipush 102, .sipush 32, .castore, .dup, .sipush 103, .sipush 32, .castore, .dup, .sipush 104, .sipush 121, .castore, .dup, .sipush 105, .sipush 101, .castore, .dup, .sipush 106, .sipush 97, .castore, .dup, .sipush 107, .sipush 114, .castore, .dup, .sipush 108, .sipush 32, .castore, .dup, .sipush 109, .sipush 32, .castore, .dup, .sipush 110, .sipush 32, .castore, .dup, .sipush 111, .sipush 32, .castore, .dup, .sipush 112, .sipush 119, .castore, .dup, .sipush 113, .sipush 105, .jsr 731]),
  (731, [.castore, .dup, .sipush 114, .sipush 100, .castore, .dup, .sipush 115, .sipush 116, .castore, .dup, .sipush 116, .sipush 104, .castore, .dup, .sipush 117, .sipush 32, .castore, .dup, .sipush 118, .sipush 32, .castore, .dup, .sipush 119, .sipush 32, .castore, .dup, .sipush 120, .sipush 103, .castore, .dup, .sipush 121, .sipush 114, .castore, .dup, .sipush 122, .sipush 117, .castore, .dup, .sipush 123, .sipush 100, .castore, .dup, .sipush 124, .sipush 103, .castore, .dup, .sipush 125, .sipush 101, .castore, .dup, .sipush 126, .sipush 32, .castore, .dup, .sipush 127, .sipush 32, .castore, .dup, .sipush 128, .sipush 109, .castore, .dup, .sipush 129, .sipush 111, .castore, .dup, .sipush 130, .sipush 111, .castore, .dup, .sipush 131, .sipush 100, .castore, .dup, .sipush 132, .sipush 32, .castore, .dup, .sipush 133, .sipush 32, .jsr 857]),
  (857, [.castore, .dup, .sipush 134, .sipush 32, .castore, .dup, .sipush 135, .sipush 32, .castore, .dup, .sipush 136, .sipush 110, .castore, .dup, .sipush 137, .sipush 117, .castore, .dup, .sipush 138, .sipush 109, .castore, .dup, .sipush 139, .sipush 98, .castore, .dup, .sipush 140, .sipush 101, .castore, .dup, .sipush 141, .sipush 114, .castore, .dup, .sipush 142, .sipush 32, .castore, .dup, .sipush 143, .sipush 32, .castore, .instanceof 647, .aload 0, .sipush 200, .newarray .int, .instanceof 654, .aload 0, .sipush 24, .newarray .int, .instanceof 655, .aload 0, .sipush 370, .newarray .int, .instanceof 658, .aload 0, .sipush 4, .newarray .int, .instanceof 659, .aload 0, .sipush 4, .newarray .int, .instanceof 660, .aload 0, .sipush 16, .newarray .int, .instanceof 665, .aload 0, .sipush 16, .newarray .int, .instanceof 666, .aload 0, .sipush 12, .newarray .int, .instanceof 668, .aload 0, .sipush 4, .newarray .int, .dup, .sipush 0, .sipush (-1), .jsr 1002]),
  (1002, [.iastore, .dup, .sipush 1, .sipush (-1), .iastore, .dup, .sipush 2, .sipush (-1), .iastore, .dup, .sipush 3, .sipush (-1), .iastore, .instanceof 670, .aload 0, .sipush 4, .newarray .int, .instanceof 671, .aload 0, .sipush 160, .newarray .int, .instanceof 672, .aload 0, .sipush 4, .newarray .int, .dup, .sipush 0, .sipush (-1), .iastore, .dup, .sipush 1, .sipush (-1), .iastore, .dup, .sipush 2, .sipush (-1), .iastore, .dup, .sipush 3, .sipush (-1), .iastore, .instanceof 673, .aload 0, .sipush 4, .newarray .int, .instanceof 674, .aload 0, .sipush 30, .newarray .int, .instanceof 675, .aload 0, .checkcast 640, .sipush 1, .sipush 12, .iastore, .aload 0, .checkcast 640, .sipush 3, .sipush 5, .iastore, .aload 0, .checkcast 640, .sipush 5, .sipush 1, .iastore, .sipush 0, .istore 1, .jsr 1096]),
  (1096, [.iload 1, .sipush 16, .if_icmp .ge 1118, .aload 0, .checkcast 640, .sipush 10, .iload 1, .iadd, .sipush 4, .iastore, .iinc 1 1, .goto 1096]),
  (1118, [.sipush 0, .jsr 1119]),
  (1119, [.istore 1, .jsr 1120]),
  (1120, [.iload 1, .sipush 6, .if_icmp .ge 1142, .aload 0, .checkcast 640, .sipush 32, .iload 1, .iadd, .sipush 3, .iastore, .iinc 1 1, .goto 1120]),
  (1142, [.return_])]
/-- M.feed -/
def g_c171 : List (Nat × List Instr) := [(0, [.iload 3, .sipush 1, .sipush 8, .invokeinterface 172 3, .ifCond .ne 12, .sipush (-1), .ireturn]),
  (12, [.aload 0, .getfield 646, .iload 3, .iadd, .sipush 200, .if_icmp .le 27, .sipush (-2), .ireturn]),
  (27, [.sipush 0, .istore 4, .jsr 30]),
  (30, [.iload 4, .iload 3, .if_icmp .ge 73, .aload 0, .checkcast 645, .aload 0, .getfield 646, .lload 1, .sipush 8, .iload 4, .imul, .lshr, .goto_w 255, .land, .l2i, .iastore, .aload 0, .dup, .getfield 646, .sipush 1, .iadd, .putfield 646, .iinc 4 1, .goto 30]),
  (73, [.aload 0, .getfield 646, .ireturn])]
/-- M.in1 -/
def g_c172 : List (Nat × List Instr) := [(0, [.iload 0, .iload 1, .if_icmp .lt 14, .iload 0, .iload 2, .if_icmp .gt 14, .sipush 1, .goto 15]),
  (14, [.sipush 0, .jsr 15]),
  (15, [.areturn])]
/-- M.rules -/
def g_c173 : List (Nat × List Instr) := [(0, [.aload 0, .sipush 0, .putfield 648, .aload 0, .sipush 0, .putfield 653, .sipush 0, .istore 1, .aload 0, .invokeinterface 174 1, .sipush 1, .istore 2, .jsr 18]),
  (18, [.iload 2, .ifCond .eq 42, .aload 0, .getfield 650, .sipush (-1), .if_icmp .eq 42, .aload 0, .iload 1, .invokeinterface 179 2, .istore 2, .iinc 1 1, .goto 18]),
  (42, [.aload 0, .sipush 0, .putfield 646, .iload 2, .ifCond .ne 59, .sipush (-100), .aload 0, .getfield 649, .isub, .ireturn]),
  (59, [.aload 0, .checkcast 640, .sipush 7, .iload 1, .iastore, .sipush 0, .istore 3, .jsr 69]),
  (69, [.iload 3, .sipush 3, .iload 1, .imul, .if_icmp .ge 97, .aload 0, .checkcast 640, .sipush 98, .iload 3, .iadd, .aload 0, .checkcast 655, .iload 3, .iaload, .iastore, .iinc 3 1, .goto 69]),
  (97, [.sipush 0, .istore 3, .jsr 99]),
  (99, [.iload 3, .aload 0, .getfield 653, .if_icmp .ge 128, .aload 0, .checkcast 640, .sipush 122, .iload 3, .iadd, .aload 0, .checkcast 654, .iload 3, .iaload, .iastore, .iinc 3 1, .goto 99]),
  (128, [.iload 1, .ireturn])]
/-- M.next -/
def g_c174 : List (Nat × List Instr) := [(0, [.aload 0, .aload 0, .getfield 648, .invokeinterface 175 2, .sipush 32, .if_icmp .ne 26, .aload 0, .dup, .getfield 648, .sipush 1, .iadd, .putfield 648, .goto 0]),
  (26, [.aload 0, .aload 0, .getfield 648, .putfield 649, .aload 0, .aload 0, .getfield 648, .invokeinterface 175 2, .istore 1, .iload 1, .ifCond .ge 55, .aload 0, .sipush (-1), .putfield 650, .goto 110]),
  (55, [.iload 1, .sipush 97, .sipush 122, .invokeinterface 172 3, .ifCond .eq 73, .aload 0, .invokeinterface 176 1, .goto 110]),
  (73, [.iload 1, .sipush 48, .sipush 57, .invokeinterface 172 3, .ifCond .eq 91, .aload 0, .invokeinterface 178 1, .goto 110]),
  (91, [.aload 0, .sipush 200, .iload 1, .iadd, .putfield 650, .aload 0, .dup, .getfield 648, .sipush 1, .iadd, .putfield 648, .jsr 110]),
  (110, [.return_])]
/-- M.byteAt -/
def g_c175 : List (Nat × List Instr) := [(0, [.iload 1, .aload 0, .getfield 646, .if_icmp .ge 17, .aload 0, .checkcast 645, .iload 1, .iaload, .goto 18]),
  (17, [.sipush (-1), .jsr 18]),
  (18, [.ireturn])]
/-- M.readsName -/
def g_c176 : List (Nat × List Instr) := [(0, [.aload 0, .aload 0, .getfield 648, .invokeinterface 175 2, .sipush 97, .sipush 122, .invokeinterface 172 3, .ifCond .eq 31, .aload 0, .dup, .getfield 648, .sipush 1, .iadd, .putfield 648, .goto 0]),
  (31, [.aload 0, .sipush 101, .putfield 650, .sipush 0, .istore 1, .jsr 39]),
  (39, [.iload 1, .sipush 18, .if_icmp .ge 71, .aload 0, .aload 0, .iload 1, .invokeinterface 177 2, .ifCond .eq 58, .iload 1, .goto 62]),
  (58, [.aload 0, .getfield 650, .jsr 62]),
  (62, [.putfield 650, .iinc 1 1, .goto 39]),
  (71, [.return_])]
/-- M.isNameOf -/
def g_c177 : List (Nat × List Instr) := [(0, [.aload 0, .getfield 648, .aload 0, .getfield 649, .isub, .sipush 8, .if_icmp .gt 18, .sipush 1, .goto 19]),
  (18, [.sipush 0, .jsr 19]),
  (19, [.istore 2, .sipush 0, .istore 3, .jsr 22]),
  (22, [.iload 3, .sipush 8, .if_icmp .ge 86, .iload 2, .ifCond .eq 86, .aload 0, .checkcast 647, .sipush 8, .iload 1, .imul, .iload 3, .iadd, .caload, .aload 0, .getfield 649, .iload 3, .iadd, .aload 0, .getfield 648, .if_icmp .ge 69, .aload 0, .aload 0, .getfield 649, .iload 3, .iadd, .invokeinterface 175 2, .goto 71]),
  (69, [.sipush 32, .jsr 71]),
  (71, [.if_icmp .ne 78, .sipush 1, .goto 79]),
  (78, [.sipush 0, .jsr 79]),
  (79, [.istore 2, .iinc 3 1, .goto 22]),
  (86, [.iload 2, .areturn])]
/-- M.readsNumber -/
def g_c178 : List (Nat × List Instr) := [(0, [.aload 0, .sipush 0, .putfield 651, .jsr 5]),
  (5, [.aload 0, .aload 0, .getfield 648, .invokeinterface 175 2, .sipush 48, .sipush 57, .invokeinterface 172 3, .ifCond .eq 79, .aload 0, .aload 0, .getfield 648, .aload 0, .getfield 649, .isub, .sipush 4, .if_icmp .ge 59, .sipush 10, .aload 0, .getfield 651, .imul, .aload 0, .aload 0, .getfield 648, .invokeinterface 175 2, .iadd, .sipush 48, .isub, .goto 63]),
  (59, [.aload 0, .getfield 651, .jsr 63]),
  (63, [.putfield 651, .aload 0, .dup, .getfield 648, .sipush 1, .iadd, .putfield 648, .goto 5]),
  (79, [.aload 0, .aload 0, .getfield 648, .aload 0, .getfield 649, .isub, .sipush 4, .if_icmp .le 98, .sipush 101, .goto 100]),
  (98, [.sipush 100, .jsr 100]),
  (100, [.putfield 650, .return_])]
/-- M.readsRule -/
def g_c179 : List (Nat × List Instr) := [(0, [.iload 1, .sipush 8, .if_icmp .eq 18, .aload 0, .getfield 650, .sipush 0, .sipush 5, .invokeinterface 172 3, .ifCond .ne 20, .jsr 18]),
  (18, [.sipush 0, .areturn]),
  (20, [.aload 0, .checkcast 655, .sipush 3, .iload 1, .imul, .aload 0, .getfield 650, .iastore, .aload 0, .invokeinterface 174 1, .aload 0, .sipush 0, .putfield 652, .aload 0, .sipush 9, .invokeinterface 180 2, .ifCond .eq 59, .aload 0, .invokeinterface 181 1, .ifCond .ne 59, .sipush 0, .areturn]),
  (59, [.aload 0, .getfield 650, .sipush 6, .sipush 8, .invokeinterface 172 3, .ifCond .ne 75, .sipush 0, .areturn]),
  (75, [.aload 0, .checkcast 655, .sipush 3, .iload 1, .imul, .sipush 1, .iadd, .aload 0, .getfield 650, .sipush 6, .isub, .iastore, .aload 0, .checkcast 655, .sipush 3, .iload 1, .imul, .sipush 2, .iadd, .aload 0, .getfield 653, .iastore, .aload 0, .invokeinterface 174 1, .aload 0, .sipush 259, .invokeinterface 180 2, .areturn])]
/-- M.takes -/
def g_c180 : List (Nat × List Instr) := [(0, [.aload 0, .getfield 650, .iload 1, .if_icmp .ne 12, .sipush 1, .goto 13]),
  (12, [.sipush 0, .jsr 13]),
  (13, [.istore 2, .iload 2, .ifCond .eq 22, .aload 0, .invokeinterface 174 1, .jsr 22]),
  (22, [.iload 2, .areturn])]
/-- M.readsCondition -/
def g_c181 : List (Nat × List Instr) := [(0, [.aload 0, .invokeinterface 182 1, .istore 1, .jsr 5]),
  (5, [.iload 1, .ifCond .eq 37, .aload 0, .sipush 12, .invokeinterface 180 2, .ifCond .eq 37, .aload 0, .invokeinterface 182 1, .istore 1, .iload 1, .ifCond .eq 5, .aload 0, .sipush 10014, .invokeinterface 187 2, .goto 5]),
  (37, [.iload 1, .areturn])]
/-- M.readsAll -/
def g_c182 : List (Nat × List Instr) := [(0, [.aload 0, .invokeinterface 183 1, .istore 1, .jsr 5]),
  (5, [.iload 1, .ifCond .eq 37, .aload 0, .sipush 11, .invokeinterface 180 2, .ifCond .eq 37, .aload 0, .invokeinterface 183 1, .istore 1, .iload 1, .ifCond .eq 5, .aload 0, .sipush 10013, .invokeinterface 187 2, .goto 5]),
  (37, [.iload 1, .areturn])]
/-- M.readsOne -/
def g_c183 : List (Nat × List Instr) := [(0, [.sipush 0, .istore 1, .jsr 2]),
  (2, [.aload 0, .sipush 10, .invokeinterface 180 2, .ifCond .eq 17, .iinc 1 1, .goto 2]),
  (17, [.aload 0, .getfield 650, .sipush 240, .if_icmp .ne 34, .aload 0, .invokeinterface 184 1, .goto 38]),
  (34, [.aload 0, .invokeinterface 185 1, .jsr 38]),
  (38, [.istore 2, .sipush 0, .istore 3, .jsr 41]),
  (41, [.iload 3, .iload 1, .if_icmp .ge 63, .iload 2, .ifCond .eq 63, .aload 0, .sipush 10015, .invokeinterface 187 2, .iinc 3 1, .goto 41]),
  (63, [.iload 2, .areturn])]
/-- M.readsWithin -/
def g_c184 : List (Nat × List Instr) := [(0, [.aload 0, .getfield 652, .sipush 3, .if_icmp .ne 10, .sipush 0, .areturn]),
  (10, [.aload 0, .dup, .getfield 652, .sipush 1, .iadd, .putfield 652, .aload 0, .invokeinterface 174 1, .aload 0, .invokeinterface 181 1, .ifCond .eq 41, .aload 0, .sipush 241, .invokeinterface 180 2, .ifCond .ne 43, .jsr 41]),
  (41, [.sipush 0, .areturn]),
  (43, [.aload 0, .dup, .getfield 652, .sipush 1, .isub, .putfield 652, .sipush 1, .areturn])]
/-- M.readsLike -/
def g_c185 : List (Nat × List Instr) := [(0, [.aload 0, .invokeinterface 186 1, .ifCond .ne 9, .sipush 0, .areturn]),
  (9, [.aload 0, .getfield 650, .sipush 260, .if_icmp .ne 25, .sipush 10010, .goto 58]),
  (25, [.aload 0, .getfield 650, .sipush 261, .if_icmp .ne 41, .sipush 10011, .goto 58]),
  (41, [.aload 0, .getfield 650, .sipush 262, .if_icmp .ne 57, .sipush 10012, .goto 58]),
  (57, [.sipush 0, .jsr 58]),
  (58, [.istore 1, .iload 1, .ifCond .ne 65, .sipush 0, .areturn]),
  (65, [.aload 0, .invokeinterface 174 1, .aload 0, .invokeinterface 186 1, .ifCond .ne 78, .sipush 0, .areturn]),
  (78, [.aload 0, .iload 1, .invokeinterface 187 2, .sipush 1, .areturn])]
/-- M.readsValue -/
def g_c186 : List (Nat × List Instr) := [(0, [.aload 0, .getfield 650, .sipush 100, .if_icmp .eq 23, .aload 0, .getfield 650, .sipush 13, .sipush 17, .invokeinterface 172 3, .ifCond .eq 27, .jsr 23]),
  (23, [.sipush 1, .goto 28]),
  (27, [.sipush 0, .jsr 28]),
  (28, [.istore 1, .iload 1, .ifCond .eq 68, .aload 0, .aload 0, .getfield 650, .sipush 100, .if_icmp .ne 50, .aload 0, .getfield 651, .goto 61]),
  (50, [.sipush 10000, .aload 0, .getfield 650, .iadd, .sipush 13, .isub, .jsr 61]),
  (61, [.invokeinterface 187 2, .aload 0, .invokeinterface 174 1, .jsr 68]),
  (68, [.iload 1, .areturn])]
/-- M.lays -/
def g_c187 : List (Nat × List Instr) := [(0, [.aload 0, .checkcast 654, .aload 0, .getfield 653, .iload 1, .iastore, .aload 0, .dup, .getfield 653, .sipush 1, .iadd, .putfield 653, .return_])]
/-- M.plate -/
def g_c188 : List (Nat × List Instr) := [(0, [.iload 1, .sipush 1, .sipush 5, .invokeinterface 172 3, .ifCond .eq 31, .iload 2, .invokeinterface 189 1, .ifCond .eq 31, .iload 3, .invokeinterface 190 1, .ifCond .eq 31, .iload 4, .invokeinterface 191 1, .ifCond .ne 33, .jsr 31]),
  (31, [.sipush (-1), .ireturn]),
  (33, [.aload 0, .checkcast 640, .sipush 6, .iaload, .sipush 6, .if_icmp .ne 48, .sipush (-2), .ireturn]),
  (48, [.aload 0, .checkcast 640, .sipush 6, .iaload, .istore 5, .aload 0, .iload 5, .sipush 0, .iload 1, .invokeinterface 192 4, .aload 0, .iload 5, .sipush 1, .iload 2, .invokeinterface 192 4, .aload 0, .iload 5, .sipush 2, .iload 3, .invokeinterface 192 4, .aload 0, .iload 5, .sipush 3, .iload 4, .invokeinterface 192 4, .aload 0, .iload 5, .sipush 4, .sipush 0, .invokeinterface 192 4, .aload 0, .checkcast 640, .sipush 6, .dup2, .iaload, .sipush 1, .iadd, .iastore, .iload 5, .ireturn])]
/-- M.isFirst -/
def g_c189 : List (Nat × List Instr) := [(0, [.iload 0, .sipush 0, .sipush 39, .invokeinterface 172 3, .areturn])]
/-- M.isDigit -/
def g_c190 : List (Nat × List Instr) := [(0, [.iload 0, .sipush 0, .sipush 9, .invokeinterface 172 3, .areturn])]
/-- M.isHome -/
def g_c191 : List (Nat × List Instr) := [(0, [.iload 0, .sipush 0, .sipush 5, .invokeinterface 172 3, .areturn])]
/-- M.puts -/
def g_c192 : List (Nat × List Instr) := [(0, [.aload 0, .checkcast 640, .sipush 38, .sipush 6, .iload 1, .imul, .iadd, .iload 2, .iadd, .iload 3, .iastore, .return_])]
/-- M.plateOf -/
def g_c193 : List (Nat × List Instr) := [(0, [.aload 0, .iload 1, .invokeinterface 194 2, .ifCond .eq 18, .iload 2, .sipush 0, .sipush 8, .invokeinterface 172 3, .ifCond .ne 20, .jsr 18]),
  (18, [.sipush (-1), .ireturn]),
  (20, [.iload 2, .lookupswitch 84 #[(5, 52), (6, 58), (7, 64), (8, 78)]]),
  (52, [.aload 0, .iload 1, .invokeinterface 195 2, .ireturn]),
  (58, [.aload 0, .iload 1, .invokeinterface 198 2, .ireturn]),
  (64, [.aload 0, .iload 1, .invokeinterface 199 2, .ifCond .eq 76, .sipush 1, .goto 77]),
  (76, [.sipush 0, .jsr 77]),
  (77, [.ireturn]),
  (78, [.aload 0, .iload 1, .invokeinterface 200 2, .ireturn]),
  (84, [.aload 0, .iload 1, .iload 2, .invokeinterface 196 3, .ireturn])]
/-- M.isPiece -/
def g_c194 : List (Nat × List Instr) := [(0, [.iload 1, .sipush 0, .aload 0, .checkcast 640, .sipush 6, .iaload, .sipush 1, .isub, .invokeinterface 172 3, .areturn])]
/-- M.spansOf -/
def g_c195 : List (Nat × List Instr) := [(0, [.aload 0, .iload 1, .sipush 0, .invokeinterface 196 3, .aload 0, .iload 1, .sipush 2, .invokeinterface 196 3, .aload 0, .checkcast 640, .sipush 0, .iaload, .invokeinterface 197 3, .ireturn])]
/-- M.get -/
def g_c196 : List (Nat × List Instr) := [(0, [.aload 0, .checkcast 640, .sipush 38, .sipush 6, .iload 1, .imul, .iadd, .iload 2, .iadd, .iaload, .ireturn])]
/-- M.spansBy -/
def g_c197 : List (Nat × List Instr) := [(0, [.sipush 1, .iload 1, .sipush 2, .idiv, .iadd, .istore 3, .iload 3, .sipush 2, .if_icmp .le 15, .sipush 2, .goto 16]),
  (15, [.iload 3, .jsr 16]),
  (16, [.istore 4, .iload 0, .lookupswitch 91 #[(1, 52), (2, 56), (3, 60), (4, 75), (5, 78)]]),
  (52, [.sipush 2, .iload 3, .imul, .ireturn]),
  (56, [.iload 3, .sipush 2, .iadd, .ireturn]),
  (60, [.iload 2, .sipush 2, .irem, .sipush 1, .if_icmp .ne 71, .sipush 1, .goto 74]),
  (71, [.iload 3, .sipush 2, .iadd, .jsr 74]),
  (74, [.ireturn]),
  (75, [.iload 4, .ireturn]),
  (78, [.iload 2, .sipush 3, .irem, .ifCond .ne 88, .sipush 0, .goto 90]),
  (88, [.iload 4, .jsr 90]),
  (90, [.ireturn]),
  (91, [.iload 3, .ireturn])]
/-- M.grudgeOf -/
def g_c198 : List (Nat × List Instr) := [(0, [.aload 0, .checkcast 640, .sipush 26, .aload 0, .iload 1, .sipush 3, .invokeinterface 196 3, .iadd, .iaload, .istore 2, .aload 0, .iload 1, .sipush 0, .invokeinterface 196 3, .lookupswitch 91 #[(1, 56), (2, 60), (3, 64), (4, 81), (5, 85)]]),
  (56, [.iload 2, .sipush 2, .iadd, .ireturn]),
  (60, [.iload 2, .iload 1, .iadd, .ireturn]),
  (64, [.iload 2, .iload 1, .iadd, .sipush 3, .if_icmp .ge 75, .sipush 0, .goto 80]),
  (75, [.iload 2, .iload 1, .iadd, .sipush 3, .isub, .jsr 80]),
  (80, [.ireturn]),
  (81, [.iload 2, .sipush 2, .idiv, .ireturn]),
  (85, [.iload 2, .sipush 2, .idiv, .sipush 2, .imul, .ireturn]),
  (91, [.iload 2, .ireturn])]
/-- M.wouldSit -/
def g_c199 : List (Nat × List Instr) := [(0, [.aload 0, .iload 1, .sipush 4, .invokeinterface 196 3, .ifCond .ne 42, .aload 0, .iload 1, .invokeinterface 198 2, .aload 0, .checkcast 640, .sipush 3, .iaload, .aload 0, .checkcast 640, .sipush 32, .aload 0, .iload 1, .sipush 3, .invokeinterface 196 3, .iadd, .iaload, .iadd, .if_icmp .gt 42, .sipush 1, .goto 43]),
  (42, [.sipush 0, .jsr 43]),
  (43, [.areturn])]
/-- M.willOf -/
def g_c200 : List (Nat × List Instr) := [(0, [.sipush 0, .istore 2, .jsr 2]),
  (2, [.iload 2, .aload 0, .checkcast 640, .sipush 7, .iaload, .if_icmp .ge 53, .aload 0, .iload 1, .sipush 0, .invokeinterface 196 3, .aload 0, .iload 2, .sipush 0, .invokeinterface 201 3, .invokeinterface 202 2, .ifCond .eq 47, .aload 0, .iload 2, .iload 1, .invokeinterface 204 3, .ifCond .eq 47, .aload 0, .iload 2, .sipush 1, .invokeinterface 201 3, .ireturn]),
  (47, [.iinc 2 1, .goto 2]),
  (53, [.sipush 0, .ireturn])]
/-- M.ruleOf -/
def g_c201 : List (Nat × List Instr) := [(0, [.aload 0, .checkcast 640, .sipush 98, .sipush 3, .iload 1, .imul, .iadd, .iload 2, .iadd, .iaload, .ireturn])]
/-- M.isUnder -/
def g_c202 : List (Nat × List Instr) := [(0, [.iload 0, .istore 2, .jsr 2]),
  (2, [.iload 2, .iload 1, .if_icmp .eq 19, .iload 2, .ifCond .eq 19, .iload 2, .invokeinterface 203 1, .istore 2, .goto 2]),
  (19, [.iload 2, .iload 1, .if_icmp .ne 28, .sipush 1, .goto 29]),
  (28, [.sipush 0, .jsr 29]),
  (29, [.areturn])]
/-- M.above -/
def g_c203 : List (Nat × List Instr) := [(0, [.iload 0, .sipush 3, .if_icmp .ne 9, .sipush 2, .goto 19]),
  (9, [.iload 0, .sipush 5, .if_icmp .ne 18, .sipush 4, .goto 19]),
  (18, [.sipush 0, .jsr 19]),
  (19, [.ireturn])]
/-- M.holdsFor -/
def g_c204 : List (Nat × List Instr) := [(0, [.sipush 0, .istore 3, .iload 1, .ifCond .ne 10, .sipush 0, .goto 18]),
  (10, [.aload 0, .iload 1, .sipush 1, .isub, .sipush 2, .invokeinterface 201 3, .jsr 18]),
  (18, [.istore 4, .jsr 20]),
  (20, [.iload 4, .aload 0, .iload 1, .sipush 2, .invokeinterface 201 3, .if_icmp .ge 152, .aload 0, .checkcast 640, .sipush 122, .iload 4, .iadd, .iaload, .istore 5, .iload 5, .sipush 10010, .if_icmp .ge 87, .aload 0, .checkcast 644, .iload 3, .iload 5, .sipush 10000, .if_icmp .ge 69, .iload 5, .goto 80]),
  (69, [.aload 0, .iload 5, .sipush 10000, .isub, .iload 2, .invokeinterface 205 3, .jsr 80]),
  (80, [.iastore, .iinc 3 1, .goto 146]),
  (87, [.iload 5, .sipush 10015, .if_icmp .ne 116, .aload 0, .checkcast 644, .iload 3, .sipush 1, .isub, .sipush 1, .aload 0, .checkcast 644, .iload 3, .sipush 1, .isub, .iaload, .isub, .iastore, .goto 146]),
  (116, [.iinc 3 (-1), .aload 0, .checkcast 644, .iload 3, .sipush 1, .isub, .iload 5, .aload 0, .checkcast 644, .iload 3, .sipush 1, .isub, .iaload, .aload 0, .checkcast 644, .iload 3, .iaload, .invokeinterface 206 3, .iastore, .jsr 146]),
  (146, [.iinc 4 1, .goto 20]),
  (152, [.iload 3, .ifCond .eq 165, .aload 0, .checkcast 644, .sipush 0, .iaload, .ifCond .eq 169, .jsr 165]),
  (165, [.sipush 1, .goto 170]),
  (169, [.sipush 0, .jsr 170]),
  (170, [.areturn])]
/-- M.knownOf -/
def g_c205 : List (Nat × List Instr) := [(0, [.iload 1, .ifCond .ne 13, .aload 0, .checkcast 640, .sipush 0, .iaload, .goto 55]),
  (13, [.iload 1, .sipush 1, .if_icmp .ne 27, .aload 0, .iload 2, .sipush 2, .invokeinterface 196 3, .goto 55]),
  (27, [.iload 1, .sipush 2, .if_icmp .ne 40, .aload 0, .iload 2, .invokeinterface 198 2, .goto 55]),
  (40, [.iload 1, .sipush 3, .if_icmp .ne 54, .aload 0, .checkcast 640, .sipush 3, .iaload, .goto 55]),
  (54, [.iload 2, .jsr 55]),
  (55, [.ireturn])]
/-- M.joined -/
def g_c206 : List (Nat × List Instr) := [(0, [.iload 0, .lookupswitch 79 #[(10010, 32), (10011, 43), (10012, 54), (10013, 65)]]),
  (32, [.iload 1, .iload 2, .if_icmp .ge 41, .sipush 1, .goto 42]),
  (41, [.sipush 0, .jsr 42]),
  (42, [.ireturn]),
  (43, [.iload 1, .iload 2, .if_icmp .ne 52, .sipush 1, .goto 53]),
  (52, [.sipush 0, .jsr 53]),
  (53, [.ireturn]),
  (54, [.iload 1, .iload 2, .if_icmp .le 63, .sipush 1, .goto 64]),
  (63, [.sipush 0, .jsr 64]),
  (64, [.ireturn]),
  (65, [.iload 1, .ifCond .eq 77, .iload 2, .ifCond .eq 77, .sipush 1, .goto 78]),
  (77, [.sipush 0, .jsr 78]),
  (78, [.ireturn]),
  (79, [.iload 1, .ifCond .ne 87, .iload 2, .ifCond .eq 91, .jsr 87]),
  (87, [.sipush 1, .goto 92]),
  (91, [.sipush 0, .jsr 92]),
  (92, [.ireturn])]
/-- M.change -/
def g_c207 : List (Nat × List Instr) := [(0, [.iload 2, .sipush 1, .if_icmp .ne 10, .sipush 39, .goto 30]),
  (10, [.iload 2, .sipush 3, .if_icmp .ne 19, .sipush 5, .goto 30]),
  (19, [.iload 2, .sipush 4, .if_icmp .ne 28, .sipush 1, .goto 30]),
  (28, [.sipush 9, .jsr 30]),
  (30, [.istore 4, .aload 0, .iload 1, .invokeinterface 194 2, .ifCond .eq 76, .iload 2, .sipush 1, .sipush 4, .invokeinterface 172 3, .ifCond .eq 76, .iload 3, .sipush 0, .iload 4, .invokeinterface 172 3, .ifCond .eq 76, .aload 0, .sipush 38, .sipush 6, .iload 1, .imul, .iadd, .iload 2, .iadd, .iload 3, .invokeinterface 208 3, .goto 77]),
  (76, [.sipush (-1), .jsr 77]),
  (77, [.ireturn])]
/-- M.becomes -/
def g_c208 : List (Nat × List Instr) := [(0, [.aload 0, .checkcast 640, .iload 1, .iaload, .istore 3, .aload 0, .checkcast 640, .iload 1, .iload 2, .iastore, .iload 3, .ireturn])]
/-- M.remake -/
def g_c209 : List (Nat × List Instr) := [(0, [.aload 0, .iload 1, .invokeinterface 194 2, .ifCond .eq 32, .iload 2, .sipush 1, .sipush 5, .invokeinterface 172 3, .ifCond .eq 32, .aload 0, .sipush 38, .sipush 6, .iload 1, .imul, .iadd, .iload 2, .invokeinterface 208 3, .goto 33]),
  (32, [.sipush (-1), .jsr 33]),
  (33, [.ireturn])]
/-- M.news -/
def g_c210 : List (Nat × List Instr) := [(0, [.iload 1, .sipush 0, .sipush 15, .invokeinterface 172 3, .ifCond .eq 32, .iload 2, .sipush 0, .sipush 15, .invokeinterface 172 3, .ifCond .eq 32, .aload 0, .sipush 10, .iload 1, .iadd, .iload 2, .invokeinterface 208 3, .goto 33]),
  (32, [.sipush (-1), .jsr 33]),
  (33, [.ireturn])]
/-- M.home -/
def g_c211 : List (Nat × List Instr) := [(0, [.iload 1, .invokeinterface 191 1, .ifCond .eq 44, .iload 2, .sipush 0, .sipush 1, .invokeinterface 172 3, .ifCond .eq 44, .iload 3, .invokeinterface 190 1, .ifCond .eq 44, .aload 0, .iload 2, .ifCond .ne 33, .sipush 26, .goto 35]),
  (33, [.sipush 32, .jsr 35]),
  (35, [.iload 1, .iadd, .iload 3, .invokeinterface 208 3, .goto 45]),
  (44, [.sipush (-1), .jsr 45]),
  (45, [.ireturn])]
/-- M.homeOf -/
def g_c212 : List (Nat × List Instr) := [(0, [.iload 1, .invokeinterface 191 1, .ifCond .eq 37, .iload 2, .sipush 0, .sipush 1, .invokeinterface 172 3, .ifCond .eq 37, .aload 0, .checkcast 640, .iload 2, .ifCond .ne 29, .sipush 26, .goto 31]),
  (29, [.sipush 32, .jsr 31]),
  (31, [.iload 1, .iadd, .iaload, .goto 38]),
  (37, [.sipush (-1), .jsr 38]),
  (38, [.ireturn])]
/-- M.family -/
def g_c213 : List (Nat × List Instr) := [(0, [.iload 1, .sipush 0, .sipush 1, .invokeinterface 172 3, .ifCond .eq 39, .iload 2, .sipush 0, .iload 1, .ifCond .ne 20, .sipush 9, .goto 22]),
  (20, [.sipush 40, .jsr 22]),
  (22, [.invokeinterface 172 3, .ifCond .eq 39, .aload 0, .sipush 3, .iload 1, .iadd, .iload 2, .invokeinterface 208 3, .goto 40]),
  (39, [.sipush (-1), .jsr 40]),
  (40, [.ireturn])]
/-- M.ends -/
def g_c214 : List (Nat × List Instr) := [(0, [.iload 1, .sipush 1, .sipush 16, .invokeinterface 172 3, .ifCond .ne 14, .sipush (-1), .goto 35]),
  (14, [.iload 1, .aload 0, .checkcast 640, .sipush 0, .iaload, .if_icmp .ge 29, .sipush (-4), .goto 35]),
  (29, [.aload 0, .sipush 1, .iload 1, .invokeinterface 208 3, .jsr 35]),
  (35, [.ireturn])]
/-- M.anew -/
def g_c215 : List (Nat × List Instr) := [(0, [.aload 0, .checkcast 640, .sipush 2, .sipush 0, .iastore, .aload 0, .checkcast 640, .sipush 3, .sipush 5, .iastore, .aload 0, .checkcast 640, .sipush 4, .sipush 0, .iastore, .sipush 0, .istore 1, .jsr 23]),
  (23, [.iload 1, .aload 0, .checkcast 640, .sipush 6, .iaload, .if_icmp .ge 47, .aload 0, .iload 1, .sipush 4, .sipush 0, .invokeinterface 192 4, .iinc 1 1, .goto 23]),
  (47, [.aload 0, .sipush 0, .sipush 0, .invokeinterface 208 3, .ireturn])]
/-- M.state -/
def g_c216 : List (Nat × List Instr) := [(0, [.iload 1, .lookupswitch 132 #[(0, 48), (1, 55), (2, 62), (3, 69), (4, 82), (5, 88), (6, 118), (7, 125)]]),
  (48, [.aload 0, .checkcast 640, .sipush 0, .iaload, .ireturn]),
  (55, [.aload 0, .checkcast 640, .sipush 1, .iaload, .ireturn]),
  (62, [.aload 0, .checkcast 640, .sipush 2, .iaload, .ireturn]),
  (69, [.aload 0, .invokeinterface 217 1, .ifCond .eq 80, .sipush 1, .goto 81]),
  (80, [.sipush 0, .jsr 81]),
  (81, [.ireturn]),
  (82, [.aload 0, .sipush 4, .invokeinterface 218 2, .ireturn]),
  (88, [.aload 0, .checkcast 640, .sipush 0, .iaload, .sipush 16, .if_icmp .ge 116, .aload 0, .checkcast 640, .sipush 10, .aload 0, .checkcast 640, .sipush 0, .iaload, .iadd, .iaload, .goto 117]),
  (116, [.sipush 0, .jsr 117]),
  (117, [.ireturn]),
  (118, [.aload 0, .checkcast 640, .sipush 3, .iaload, .ireturn]),
  (125, [.aload 0, .checkcast 640, .sipush 4, .iaload, .ireturn]),
  (132, [.sipush (-1), .ireturn])]
/-- M.isOver -/
def g_c217 : List (Nat × List Instr) := [(0, [.aload 0, .checkcast 640, .sipush 0, .iaload, .aload 0, .checkcast 640, .sipush 1, .iaload, .if_icmp .lt 19, .sipush 1, .goto 20]),
  (19, [.sipush 0, .jsr 20]),
  (20, [.areturn])]
/-- M.those -/
def g_c218 : List (Nat × List Instr) := [(0, [.sipush 0, .istore 2, .sipush 0, .istore 3, .jsr 4]),
  (4, [.iload 3, .aload 0, .checkcast 640, .sipush 6, .iaload, .if_icmp .ge 40, .iload 2, .aload 0, .iload 3, .iload 1, .invokeinterface 196 3, .ifCond .le 31, .sipush 1, .iload 3, .ishl, .goto 32]),
  (31, [.sipush 0, .jsr 32]),
  (32, [.ior, .istore 2, .iinc 3 1, .goto 4]),
  (40, [.iload 2, .ireturn])]
/-- M.year -/
def g_c219 : List (Nat × List Instr) := [(0, [.aload 0, .invokeinterface 217 1, .ifCond .eq 12, .sipush (-4), .goto 17]),
  (12, [.aload 0, .sipush (-1), .invokeinterface 220 2, .jsr 17]),
  (17, [.ireturn])]
/-- M.goesBy -/
def g_c220 : List (Nat × List Instr) := [(0, [.aload 0, .checkcast 640, .sipush 3, .aload 0, .checkcast 640, .sipush 0, .iaload, .sipush 16, .if_icmp .ge 42, .aload 0, .checkcast 640, .sipush 3, .iaload, .aload 0, .checkcast 640, .sipush 10, .aload 0, .checkcast 640, .sipush 0, .iaload, .iadd, .iaload, .invokeinterface 221 2, .goto 48]),
  (42, [.aload 0, .checkcast 640, .sipush 3, .iaload, .jsr 48]),
  (48, [.iastore, .iload 1, .ifCond .ge 60, .aload 0, .invokeinterface 223 1, .goto 63]),
  (60, [.iload 1, .sipush 1, .isub, .jsr 63]),
  (63, [.istore 2, .iload 2, .ifCond .lt 76, .aload 0, .iload 2, .invokeinterface 224 2, .goto 77]),
  (76, [.sipush 0, .jsr 77]),
  (77, [.istore 3, .iload 3, .aload 0, .invokeinterface 226 1, .iadd, .istore 3, .aload 0, .checkcast 640, .sipush 0, .dup2, .iaload, .sipush 1, .iadd, .iastore, .aload 0, .checkcast 640, .sipush 2, .dup2, .iaload, .iload 3, .iadd, .iastore, .iload 3, .ireturn])]
/-- M.moodBy -/
def g_c221 : List (Nat × List Instr) := [(0, [.iload 1, .sipush 4, .idiv, .istore 2, .iload 0, .sipush 5, .if_icmp .ge 15, .sipush 5, .iload 0, .isub, .goto 18]),
  (15, [.iload 0, .sipush 5, .isub, .jsr 18]),
  (18, [.istore 3, .iload 3, .iload 2, .if_icmp .ge 28, .iload 3, .goto 29]),
  (28, [.iload 2, .jsr 29]),
  (29, [.istore 4, .iload 1, .sipush 4, .irem, .lookupswitch 95 #[(0, 60), (1, 69), (2, 78)]]),
  (60, [.iload 0, .iload 2, .iadd, .sipush 9, .invokeinterface 222 2, .ireturn]),
  (69, [.iload 0, .iload 2, .isub, .sipush 9, .invokeinterface 222 2, .ireturn]),
  (78, [.iload 0, .sipush 5, .if_icmp .ge 90, .iload 0, .iload 4, .iadd, .goto 94]),
  (90, [.iload 0, .iload 4, .isub, .jsr 94]),
  (94, [.ireturn]),
  (95, [.iload 0, .ireturn])]
/-- M.held -/
def g_c222 : List (Nat × List Instr) := [(0, [.iload 0, .ifCond .ge 8, .sipush 0, .goto 18]),
  (8, [.iload 0, .iload 1, .if_icmp .le 17, .iload 1, .goto 18]),
  (17, [.iload 0, .jsr 18]),
  (18, [.ireturn])]
/-- M.restOne -/
def g_c223 : List (Nat × List Instr) := [(0, [.sipush 0, .istore 1, .jsr 2]),
  (2, [.iload 1, .aload 0, .checkcast 640, .sipush 6, .iaload, .if_icmp .ge 29, .aload 0, .iload 1, .invokeinterface 199 2, .ifCond .eq 23, .iload 1, .ireturn]),
  (23, [.iinc 1 1, .goto 2]),
  (29, [.sipush (-1), .ireturn])]
/-- M.meets -/
def g_c224 : List (Nat × List Instr) := [(0, [.aload 0, .iload 1, .invokeinterface 200 2, .istore 2, .iload 2, .ifCond .ne 16, .aload 0, .iload 1, .invokeinterface 225 2, .ireturn]),
  (16, [.iload 2, .sipush 2, .if_icmp .ne 57, .aload 0, .iload 1, .sipush 4, .invokeinterface 196 3, .sipush 1, .if_icmp .ne 57, .aload 0, .iload 1, .sipush 4, .sipush 0, .invokeinterface 192 4, .aload 0, .checkcast 640, .sipush 3, .aload 0, .checkcast 640, .sipush 3, .iaload, .sipush 1, .iadd, .sipush 9, .invokeinterface 222 2, .iastore, .jsr 57]),
  (57, [.sipush 0, .ireturn])]
/-- M.sits -/
def g_c225 : List (Nat × List Instr) := [(0, [.aload 0, .iload 1, .sipush 4, .invokeinterface 196 3, .sipush 1, .if_icmp .ne 12, .sipush 0, .ireturn]),
  (12, [.aload 0, .iload 1, .invokeinterface 199 2, .istore 2, .aload 0, .checkcast 640, .sipush 3, .aload 0, .checkcast 640, .sipush 3, .iaload, .iload 2, .ifCond .eq 43, .aload 0, .iload 1, .invokeinterface 198 2, .sipush 3, .idiv, .goto 44]),
  (43, [.sipush 1, .jsr 44]),
  (44, [.isub, .sipush 9, .invokeinterface 222 2, .iastore, .aload 0, .iload 1, .sipush 4, .iload 2, .ifCond .eq 62, .sipush 1, .goto 63]),
  (62, [.sipush 0, .jsr 63]),
  (63, [.invokeinterface 192 4, .iload 2, .ifCond .eq 74, .sipush 1, .goto 75]),
  (74, [.sipush 0, .jsr 75]),
  (75, [.ireturn])]
/-- M.walksOn -/
def g_c226 : List (Nat × List Instr) := [(0, [.aload 0, .checkcast 640, .sipush 3, .iaload, .sipush 1, .iadd, .istore 1, .sipush 0, .istore 2, .jsr 11]),
  (11, [.iload 2, .iload 1, .if_icmp .ge 56, .aload 0, .checkcast 640, .sipush 4, .iaload, .sipush 40, .if_icmp .ge 56, .aload 0, .aload 0, .checkcast 640, .sipush 4, .iaload, .invokeinterface 227 2, .ifCond .eq 56, .aload 0, .checkcast 640, .sipush 4, .dup2, .iaload, .sipush 1, .iadd, .iastore, .iinc 2 1, .goto 11]),
  (56, [.sipush 2, .iload 2, .imul, .ireturn])]
/-- M.isThere -/
def g_c227 : List (Nat × List Instr) := [(0, [.sipush 0, .istore 2, .sipush 0, .istore 3, .jsr 4]),
  (4, [.iload 3, .aload 0, .checkcast 640, .sipush 6, .iaload, .if_icmp .ge 50, .iload 2, .ifCond .ne 38, .aload 0, .iload 3, .sipush 4, .invokeinterface 196 3, .sipush 1, .if_icmp .ne 42, .aload 0, .iload 3, .iload 1, .invokeinterface 228 3, .ifCond .eq 42, .jsr 38]),
  (38, [.sipush 1, .goto 43]),
  (42, [.sipush 0, .jsr 43]),
  (43, [.istore 2, .iinc 3 1, .goto 4]),
  (50, [.iload 2, .areturn])]
/-- M.isSpanned -/
def g_c228 : List (Nat × List Instr) := [(0, [.iload 2, .aload 0, .iload 1, .sipush 1, .invokeinterface 196 3, .aload 0, .iload 1, .sipush 1, .invokeinterface 196 3, .aload 0, .iload 1, .invokeinterface 195 2, .iadd, .sipush 1, .isub, .invokeinterface 172 3, .areturn])]
/-- M.on -/
def g_c229 : List (Nat × List Instr) := [(0, [.iload 1, .sipush 0, .sipush 16, .invokeinterface 172 3, .ifCond .ne 12, .sipush (-1), .ireturn]),
  (12, [.aload 0, .invokeinterface 230 1, .aload 0, .iload 1, .invokeinterface 231 2, .istore 2, .aload 0, .invokeinterface 232 1, .iload 2, .ireturn])]
/-- M.layDown -/
def g_c230 : List (Nat × List Instr) := [(0, [.sipush 0, .istore 1, .jsr 2]),
  (2, [.iload 1, .sipush 74, .if_icmp .ge 26, .aload 0, .checkcast 642, .iload 1, .aload 0, .checkcast 640, .iload 1, .iaload, .iastore, .iinc 1 1, .goto 2]),
  (26, [.return_])]
/-- M.restOf -/
def g_c231 : List (Nat × List Instr) := [(0, [.sipush 0, .istore 2, .sipush 0, .istore 3, .jsr 4]),
  (4, [.iload 3, .iload 1, .if_icmp .ge 30, .aload 0, .invokeinterface 217 1, .ifCond .ne 30, .iload 2, .aload 0, .sipush (-1), .invokeinterface 220 2, .iadd, .istore 2, .iinc 3 1, .goto 4]),
  (30, [.iload 2, .ireturn])]
/-- M.layBack -/
def g_c232 : List (Nat × List Instr) := [(0, [.sipush 0, .istore 1, .jsr 2]),
  (2, [.iload 1, .sipush 74, .if_icmp .ge 26, .aload 0, .checkcast 640, .iload 1, .aload 0, .checkcast 642, .iload 1, .iaload, .iastore, .iinc 1 1, .goto 2]),
  (26, [.return_])]
/-- M.when -/
def g_c233 : List (Nat × List Instr) := [(0, [.aload 0, .iload 1, .invokeinterface 194 2, .ifCond .ne 10, .sipush (-1), .ireturn]),
  (10, [.aload 0, .invokeinterface 230 1, .sipush (-3), .istore 2, .aload 0, .iload 1, .sipush 4, .invokeinterface 196 3, .ifCond .ne 30, .sipush 1, .goto 31]),
  (30, [.sipush 0, .jsr 31]),
  (31, [.istore 3, .jsr 32]),
  (32, [.iload 3, .ifCond .eq 91, .aload 0, .invokeinterface 217 1, .ifCond .ne 91, .aload 0, .sipush (-1), .invokeinterface 220 2, .istore 4, .aload 0, .iload 1, .sipush 4, .invokeinterface 196 3, .ifCond .ne 63, .sipush 1, .goto 64]),
  (63, [.sipush 0, .jsr 64]),
  (64, [.istore 3, .iload 3, .ifCond .ne 74, .iload 4, .ifCond .ge 79, .jsr 74]),
  (74, [.sipush (-3), .goto 87]),
  (79, [.aload 0, .checkcast 640, .sipush 0, .iaload, .sipush 1, .isub, .jsr 87]),
  (87, [.istore 2, .goto 32]),
  (91, [.aload 0, .invokeinterface 232 1, .iload 2, .ireturn])]
/-- M.widthFor -/
def g_c234 : List (Nat × List Instr) := [(0, [.aload 0, .iload 1, .sipush 2, .sipush 9, .invokeinterface 235 4, .ireturn])]
/-- M.bestFor -/
def g_c235 : List (Nat × List Instr) := [(0, [.aload 0, .iload 1, .invokeinterface 194 2, .ifCond .ne 10, .sipush (-1), .ireturn]),
  (10, [.sipush 0, .istore 4, .sipush (-1), .istore 5, .aload 0, .invokeinterface 230 1, .sipush 0, .istore 6, .jsr 23]),
  (23, [.iload 6, .iload 3, .if_icmp .gt 87, .aload 0, .iload 1, .iload 2, .iload 6, .invokeinterface 192 4, .aload 0, .sipush 16, .invokeinterface 231 2, .istore 7, .iload 7, .iload 5, .if_icmp .le 57, .iload 6, .goto 59]),
  (57, [.iload 4, .jsr 59]),
  (59, [.istore 4, .iload 7, .iload 5, .if_icmp .le 73, .iload 7, .goto 75]),
  (73, [.iload 5, .jsr 75]),
  (75, [.istore 5, .aload 0, .invokeinterface 232 1, .iinc 6 1, .goto 23]),
  (87, [.iload 4, .ireturn])]
/-- M.pieceFor -/
def g_c236 : List (Nat × List Instr) := [(0, [.aload 0, .iload 1, .sipush 1, .sipush 39, .invokeinterface 235 4, .ireturn])]
/-- M.over -/
def g_c237 : List (Nat × List Instr) := [(0, [.iload 1, .sipush 0, .sipush 40, .invokeinterface 172 3, .ifCond .ne 12, .sipush (-1), .ireturn]),
  (12, [.aload 0, .invokeinterface 230 1, .sipush (-3), .istore 2, .jsr 19]),
  (19, [.iload 2, .sipush (-3), .if_icmp .ne 69, .aload 0, .invokeinterface 217 1, .ifCond .ne 69, .aload 0, .sipush (-1), .invokeinterface 220 2, .istore 3, .aload 0, .checkcast 640, .sipush 4, .iaload, .iload 1, .if_icmp .lt 63, .iload 3, .ifCond .lt 63, .aload 0, .checkcast 640, .sipush 0, .iaload, .sipush 1, .isub, .goto 65]),
  (63, [.sipush (-3), .jsr 65]),
  (65, [.istore 2, .goto 19]),
  (69, [.aload 0, .invokeinterface 232 1, .iload 2, .ireturn])]
/-- M.gap -/
def g_c238 : List (Nat × List Instr) := [(0, [.iload 1, .sipush 0, .sipush 1, .invokeinterface 172 3, .ifCond .ne 11, .sipush (-1), .ireturn]),
  (11, [.sipush 0, .istore 2, .sipush (-3), .istore 3, .sipush 39, .istore 4, .jsr 20]),
  (20, [.iload 4, .ifCond .lt 118, .sipush 0, .istore 5, .sipush 0, .istore 6, .jsr 31]),
  (31, [.iload 6, .aload 0, .checkcast 640, .sipush 6, .iaload, .if_icmp .ge 72, .iload 5, .ifCond .ne 59, .aload 0, .iload 6, .iload 4, .invokeinterface 228 3, .ifCond .eq 63, .jsr 59]),
  (59, [.sipush 1, .goto 64]),
  (63, [.sipush 0, .jsr 64]),
  (64, [.istore 5, .iinc 6 1, .goto 31]),
  (72, [.iload 2, .aload 0, .iload 4, .invokeinterface 227 2, .ifCond .eq 86, .sipush 0, .goto 87]),
  (86, [.sipush 1, .jsr 87]),
  (87, [.iadd, .istore 2, .iload 4, .aload 0, .checkcast 640, .sipush 4, .iaload, .if_icmp .lt 110, .iload 5, .ifCond .ne 110, .iload 4, .goto 111]),
  (110, [.iload 3, .jsr 111]),
  (111, [.istore 3, .iinc 4 (-1), .goto 20]),
  (118, [.iload 1, .ifCond .ne 126, .iload 3, .goto 127]),
  (126, [.iload 2, .jsr 127]),
  (127, [.ireturn])]
/-- M.branches -/
def g_c239 : List (Nat × List Instr) := [(0, [.iload 1, .sipush (-1), .if_icmp .eq 15, .aload 0, .iload 1, .invokeinterface 194 2, .ifCond .ne 15, .sipush (-1), .ireturn]),
  (15, [.iload 1, .ifCond .lt 25, .aload 0, .iload 1, .invokeinterface 240 2, .ireturn]),
  (25, [.sipush 0, .istore 2, .sipush 0, .istore 3, .jsr 29]),
  (29, [.iload 3, .aload 0, .checkcast 640, .sipush 6, .iaload, .if_icmp .ge 75, .aload 0, .iload 3, .invokeinterface 240 2, .istore 4, .iload 2, .iload 4, .ifCond .eq 66, .iload 4, .sipush 1, .iload 3, .ishl, .irem, .ifCond .ne 66, .sipush 1, .goto 67]),
  (66, [.sipush 0, .jsr 67]),
  (67, [.iadd, .istore 2, .iinc 3 1, .goto 29]),
  (75, [.iload 2, .ireturn])]
/-- M.branchOf -/
def g_c240 : List (Nat × List Instr) := [(0, [.sipush 1, .iload 1, .ishl, .istore 2, .sipush 0, .istore 3, .jsr 6]),
  (6, [.iload 3, .aload 0, .checkcast 640, .sipush 6, .iaload, .if_icmp .ge 97, .sipush 0, .istore 4, .jsr 20]),
  (20, [.iload 4, .aload 0, .checkcast 640, .sipush 6, .iaload, .if_icmp .ge 91, .sipush 0, .istore 5, .jsr 35]),
  (35, [.iload 5, .aload 0, .checkcast 640, .sipush 6, .iaload, .if_icmp .ge 85, .iload 2, .iload 2, .iload 4, .ishr, .sipush 1, .iand, .sipush 1, .if_icmp .ne 76, .aload 0, .iload 4, .iload 5, .invokeinterface 241 3, .ifCond .eq 76, .sipush 1, .iload 5, .ishl, .goto 77]),
  (76, [.sipush 0, .jsr 77]),
  (77, [.ior, .istore 2, .iinc 5 1, .goto 35]),
  (85, [.iinc 4 1, .goto 20]),
  (91, [.iinc 3 1, .goto 6]),
  (97, [.aload 0, .iload 1, .sipush 4, .invokeinterface 196 3, .sipush 1, .if_icmp .ne 111, .sipush 0, .goto 112]),
  (111, [.iload 2, .jsr 112]),
  (112, [.ireturn])]
/-- M.areClose -/
def g_c241 : List (Nat × List Instr) := [(0, [.aload 0, .iload 1, .sipush 1, .invokeinterface 196 3, .aload 0, .iload 2, .sipush 1, .invokeinterface 196 3, .isub, .istore 3, .aload 0, .iload 1, .sipush 4, .invokeinterface 196 3, .ifCond .ne 61, .aload 0, .iload 2, .sipush 4, .invokeinterface 196 3, .ifCond .ne 61, .aload 0, .iload 1, .sipush 3, .invokeinterface 196 3, .aload 0, .iload 2, .sipush 3, .invokeinterface 196 3, .if_icmp .eq 57, .iload 3, .sipush (-2), .sipush 2, .invokeinterface 172 3, .ifCond .eq 61, .jsr 57]),
  (57, [.sipush 1, .goto 62]),
  (61, [.sipush 0, .jsr 62]),
  (62, [.areturn])]
/-- M.fetch -/
def g_c242 : List (Nat × List Instr) := [(0, [.iload 1, .sipush 0, .sipush 40, .invokeinterface 172 3, .ifCond .eq 19, .iload 2, .sipush 0, .sipush 1, .invokeinterface 172 3, .ifCond .ne 21, .jsr 19]),
  (19, [.sipush (-1), .ireturn]),
  (21, [.sipush 1, .aload 0, .checkcast 640, .sipush 6, .iaload, .ishl, .sipush 1, .isub, .aload 0, .sipush 4, .invokeinterface 218 2, .sipush (-1), .ixor, .iand, .istore 3, .aload 0, .sipush (-1), .putfield 656, .aload 0, .iload 3, .iload 1, .sipush 0, .sipush (-1), .invokeinterface 243 5, .iload 2, .ifCond .ne 65, .aload 0, .getfield 656, .goto 78]),
  (65, [.iload 3, .ifCond .ne 74, .sipush (-3), .goto 78]),
  (74, [.aload 0, .getfield 657, .jsr 78]),
  (78, [.ireturn])]
/-- M.goesRound -/
def g_c243 : List (Nat × List Instr) := [(0, [.iload 1, .ifCond .ne 31, .aload 0, .getfield 656, .ifCond .lt 19, .iload 3, .aload 0, .getfield 656, .if_icmp .ge 30, .jsr 19]),
  (19, [.aload 0, .iload 3, .putfield 656, .aload 0, .iload 4, .putfield 657, .jsr 30]),
  (30, [.return_]),
  (31, [.sipush 0, .istore 5, .jsr 34]),
  (34, [.iload 5, .aload 0, .checkcast 640, .sipush 6, .iaload, .if_icmp .ge 131, .iload 1, .iload 5, .ishr, .sipush 1, .iand, .sipush 1, .if_icmp .ne 125, .aload 0, .iload 5, .sipush 1, .invokeinterface 196 3, .iload 2, .if_icmp .ge 79, .iload 2, .aload 0, .iload 5, .sipush 1, .invokeinterface 196 3, .isub, .goto 88]),
  (79, [.aload 0, .iload 5, .sipush 1, .invokeinterface 196 3, .iload 2, .isub, .jsr 88]),
  (88, [.istore 6, .aload 0, .iload 1, .sipush 1, .iload 5, .ishl, .sipush (-1), .ixor, .iand, .aload 0, .iload 5, .sipush 1, .invokeinterface 196 3, .iload 3, .iload 6, .iadd, .iload 4, .ifCond .ge 120, .iload 5, .goto 122]),
  (120, [.iload 4, .jsr 122]),
  (122, [.invokeinterface 243 5, .jsr 125]),
  (125, [.iinc 5 1, .goto 34]),
  (131, [.return_])]
/-- M.best -/
def g_c244 : List (Nat × List Instr) := [(0, [.iload 1, .invokeinterface 245 1, .ifCond .ne 9, .sipush (-1), .ireturn]),
  (9, [.aload 0, .iload 1, .sipush 0, .invokeinterface 246 3, .aload 0, .getfield 661, .ireturn])]
/-- M.isPlan -/
def g_c245 : List (Nat × List Instr) := [(0, [.iload 0, .sipush 0, .sipush 4, .invokeinterface 172 3, .areturn])]
/-- M.triesAll -/
def g_c246 : List (Nat × List Instr) := [(0, [.aload 0, .sipush (-1), .putfield 661, .aload 0, .sipush 0, .putfield 662, .aload 0, .sipush 5, .putfield 663, .aload 0, .sipush 0, .putfield 664, .aload 0, .sipush 0, .aload 0, .iload 1, .invokeinterface 247 2, .sipush 0, .sipush 0, .iload 2, .invokeinterface 248 6, .return_])]
/-- M.daysOf -/
def g_c247 : List (Nat × List Instr) := [(0, [.aload 0, .invokeinterface 217 1, .ifCond .eq 11, .sipush 0, .goto 24]),
  (11, [.aload 0, .checkcast 640, .sipush 1, .iaload, .aload 0, .checkcast 640, .sipush 0, .iaload, .isub, .jsr 24]),
  (24, [.istore 2, .iload 1, .iload 2, .if_icmp .ge 34, .iload 1, .goto 35]),
  (34, [.iload 2, .jsr 35]),
  (35, [.ireturn])]
/-- M.goesPlans -/
def g_c248 : List (Nat × List Instr) := [(0, [.iload 1, .iload 2, .if_icmp .ne 16, .aload 0, .iload 2, .iload 3, .iload 4, .iload 5, .invokeinterface 249 5, .return_]),
  (16, [.aload 0, .iload 1, .invokeinterface 250 2, .sipush 0, .istore 6, .jsr 24]),
  (24, [.iload 6, .aload 0, .checkcast 640, .sipush 6, .iaload, .if_icmp .gt 91, .aload 0, .checkcast 659, .iload 1, .iload 6, .iastore, .aload 0, .iload 6, .invokeinterface 220 2, .istore 7, .aload 0, .iload 1, .sipush 1, .iadd, .iload 2, .iload 3, .iload 7, .iadd, .iload 6, .ifCond .le 73, .iload 4, .sipush 1, .iadd, .goto 75]),
  (73, [.iload 4, .jsr 75]),
  (75, [.iload 5, .invokeinterface 248 6, .aload 0, .iload 1, .invokeinterface 251 2, .iinc 6 1, .goto 24]),
  (91, [.return_])]
/-- M.endsPlan -/
def g_c249 : List (Nat × List Instr) := [(0, [.iload 2, .aload 0, .getfield 661, .if_icmp .le 47, .aload 0, .sipush 0, .putfield 662, .aload 0, .iload 2, .putfield 661, .sipush 0, .istore 5, .jsr 21]),
  (21, [.iload 5, .iload 1, .if_icmp .ge 47, .aload 0, .checkcast 660, .iload 5, .aload 0, .checkcast 659, .iload 5, .iaload, .iastore, .iinc 5 1, .goto 21]),
  (47, [.aload 0, .dup, .getfield 662, .iload 2, .aload 0, .getfield 661, .if_icmp .ne 64, .sipush 1, .goto 65]),
  (64, [.sipush 0, .jsr 65]),
  (65, [.iadd, .putfield 662, .aload 0, .sipush 4, .invokeinterface 218 2, .istore 5, .aload 0, .iload 4, .iload 5, .sipush (-1), .ixor, .iand, .ifCond .ne 99, .iload 3, .aload 0, .getfield 663, .if_icmp .ge 99, .iload 3, .goto 103]),
  (99, [.aload 0, .getfield 663, .jsr 103]),
  (103, [.putfield 663, .aload 0, .dup, .getfield 664, .iload 5, .ior, .putfield 664, .return_])]
/-- M.saves -/
def g_c250 : List (Nat × List Instr) := [(0, [.sipush 0, .istore 2, .jsr 2]),
  (2, [.iload 2, .sipush 74, .if_icmp .ge 31, .aload 0, .checkcast 658, .sipush 74, .iload 1, .imul, .iload 2, .iadd, .aload 0, .checkcast 640, .iload 2, .iaload, .iastore, .iinc 2 1, .goto 2]),
  (31, [.return_])]
/-- M.restores -/
def g_c251 : List (Nat × List Instr) := [(0, [.sipush 0, .istore 2, .jsr 2]),
  (2, [.iload 2, .sipush 74, .if_icmp .ge 31, .aload 0, .checkcast 640, .iload 2, .aload 0, .checkcast 658, .sipush 74, .iload 1, .imul, .iload 2, .iadd, .iaload, .iastore, .iinc 2 1, .goto 2]),
  (31, [.return_])]
/-- M.ith -/
def g_c252 : List (Nat × List Instr) := [(0, [.iload 1, .invokeinterface 245 1, .ifCond .eq 16, .iload 2, .sipush 0, .sipush 3, .invokeinterface 172 3, .ifCond .ne 18, .jsr 16]),
  (16, [.sipush (-1), .ireturn]),
  (18, [.aload 0, .iload 1, .sipush 0, .invokeinterface 246 3, .iload 2, .aload 0, .iload 1, .invokeinterface 247 2, .if_icmp .ge 42, .aload 0, .checkcast 660, .iload 2, .iaload, .goto 44]),
  (42, [.sipush (-3), .jsr 44]),
  (44, [.ireturn])]
/-- M.ways -/
def g_c253 : List (Nat × List Instr) := [(0, [.iload 1, .invokeinterface 245 1, .ifCond .ne 9, .sipush (-1), .ireturn]),
  (9, [.aload 0, .iload 1, .sipush 0, .invokeinterface 246 3, .aload 0, .getfield 662, .ireturn])]
/-- M.supper -/
def g_c254 : List (Nat × List Instr) := [(0, [.iload 1, .invokeinterface 245 1, .ifCond .eq 15, .aload 0, .iload 2, .invokeinterface 255 2, .ifCond .ne 17, .jsr 15]),
  (15, [.sipush (-1), .ireturn]),
  (17, [.aload 0, .iload 1, .iload 2, .invokeinterface 246 3, .aload 0, .getfield 663, .sipush 4, .if_icmp .le 36, .sipush (-3), .goto 40]),
  (36, [.aload 0, .getfield 663, .jsr 40]),
  (40, [.ireturn])]
/-- M.isSet -/
def g_c255 : List (Nat × List Instr) := [(0, [.iload 1, .sipush 0, .sipush 1, .aload 0, .checkcast 640, .sipush 6, .iaload, .ishl, .sipush 1, .isub, .invokeinterface 172 3, .areturn])]
/-- M.bars -/
def g_c256 : List (Nat × List Instr) := [(0, [.iload 1, .invokeinterface 245 1, .ifCond .eq 15, .aload 0, .iload 2, .invokeinterface 255 2, .ifCond .ne 17, .jsr 15]),
  (15, [.sipush (-1), .ireturn]),
  (17, [.aload 0, .iload 1, .iload 2, .invokeinterface 246 3, .iload 2, .aload 0, .getfield 664, .sipush (-1), .ixor, .iand, .istore 3, .sipush 0, .istore 4, .jsr 35]),
  (35, [.iload 4, .aload 0, .checkcast 640, .sipush 6, .iaload, .if_icmp .ge 62, .iload 3, .iload 4, .ishr, .sipush 1, .iand, .ifCond .ne 62, .iinc 4 1, .goto 35]),
  (62, [.iload 4, .aload 0, .checkcast 640, .sipush 6, .iaload, .if_icmp .ge 79, .iload 4, .goto 81]),
  (79, [.sipush (-3), .jsr 81]),
  (81, [.ireturn])]
/-- M.game -/
def g_c257 : List (Nat × List Instr) := [(0, [.iload 1, .sipush 1, .sipush 4, .invokeinterface 172 3, .ifCond .eq 22, .aload 0, .sipush 0, .aload 0, .iload 1, .invokeinterface 247 2, .invokeinterface 258 3, .goto 23]),
  (22, [.sipush (-1), .jsr 23]),
  (23, [.ireturn])]
/-- M.playedFrom -/
def g_c258 : List (Nat × List Instr) := [(0, [.iload 1, .iload 2, .if_icmp .ne 7, .sipush 0, .ireturn]),
  (7, [.aload 0, .iload 1, .invokeinterface 250 2, .sipush 0, .istore 3, .sipush (-1), .istore 4, .sipush 0, .istore 5, .jsr 20]),
  (20, [.iload 5, .aload 0, .checkcast 640, .sipush 6, .iaload, .if_icmp .gt 123, .aload 0, .iload 5, .invokeinterface 220 2, .istore 6, .iload 6, .aload 0, .iload 1, .sipush 1, .iadd, .iload 2, .invokeinterface 258 3, .iadd, .istore 7, .aload 0, .iload 1, .invokeinterface 251 2, .iload 4, .ifCond .lt 84, .iload 1, .sipush 2, .irem, .ifCond .ne 78, .iload 7, .iload 3, .if_icmp .le 88, .goto 84]),
  (78, [.iload 7, .iload 3, .if_icmp .ge 88, .jsr 84]),
  (84, [.sipush 1, .goto 89]),
  (88, [.sipush 0, .jsr 89]),
  (89, [.istore 8, .iload 8, .ifCond .eq 101, .iload 5, .goto 103]),
  (101, [.iload 4, .jsr 103]),
  (103, [.istore 4, .iload 8, .ifCond .eq 115, .iload 7, .goto 116]),
  (115, [.iload 3, .jsr 116]),
  (116, [.istore 3, .iinc 5 1, .goto 20]),
  (123, [.aload 0, .checkcast 659, .iload 1, .iload 4, .iastore, .iload 3, .ireturn])]
/-- M.play -/
def g_c259 : List (Nat × List Instr) := [(0, [.iload 1, .sipush 1, .sipush 4, .invokeinterface 172 3, .ifCond .ne 11, .sipush (-1), .ireturn]),
  (11, [.aload 0, .invokeinterface 217 1, .ifCond .eq 21, .sipush (-3), .ireturn]),
  (21, [.aload 0, .sipush 0, .aload 0, .iload 1, .invokeinterface 247 2, .invokeinterface 258 3, .istore 2, .iload 2, .ifCond .ge 41, .sipush (-3), .goto 47]),
  (41, [.aload 0, .checkcast 659, .sipush 0, .iaload, .jsr 47]),
  (47, [.ireturn])]
/-- M.report -/
def g_c260 : List (Nat × List Instr) := [(0, [.iload 2, .ifCond .ne 9, .sipush 40, .goto 11]),
  (9, [.sipush 9, .jsr 11]),
  (11, [.istore 5, .iload 1, .sipush 0, .sipush 15, .invokeinterface 172 3, .ifCond .eq 53, .iload 2, .sipush 0, .sipush 1, .invokeinterface 172 3, .ifCond .eq 53, .iload 3, .sipush 0, .iload 5, .invokeinterface 172 3, .ifCond .eq 53, .iload 4, .iload 3, .iload 5, .invokeinterface 172 3, .ifCond .ne 55, .jsr 53]),
  (53, [.sipush (-1), .ireturn]),
  (55, [.aload 0, .checkcast 640, .sipush 8, .iaload, .sipush 6, .if_icmp .ne 70, .sipush (-2), .ireturn]),
  (70, [.sipush 74, .sipush 4, .aload 0, .checkcast 640, .sipush 8, .iaload, .imul, .iadd, .istore 6, .aload 0, .checkcast 640, .iload 6, .iload 1, .iastore, .aload 0, .checkcast 640, .iload 6, .sipush 1, .iadd, .iload 2, .iastore, .aload 0, .checkcast 640, .iload 6, .sipush 2, .iadd, .iload 3, .iastore, .aload 0, .checkcast 640, .iload 6, .sipush 3, .iadd, .iload 4, .iastore, .aload 0, .checkcast 640, .sipush 8, .dup2, .iaload, .sipush 1, .iadd, .iastore, .aload 0, .checkcast 640, .sipush 8, .iaload, .sipush 1, .isub, .ireturn])]
/-- M.forget -/
def g_c261 : List (Nat × List Instr) := [(0, [.aload 0, .sipush 8, .sipush 0, .invokeinterface 208 3, .ireturn])]
/-- M.lost -/
def g_c262 : List (Nat × List Instr) := [(0, [.iload 1, .sipush 0, .sipush 3, .invokeinterface 172 3, .ifCond .ne 11, .sipush (-1), .ireturn]),
  (11, [.aload 0, .sipush (-1), .invokeinterface 263 2, .istore 2, .iload 1, .ifCond .le 28, .iload 2, .ifCond .ne 28, .sipush (-3), .ireturn]),
  (28, [.iload 1, .ifCond .ne 36, .iload 2, .goto 78]),
  (36, [.iload 1, .sipush 1, .if_icmp .ne 53, .sipush 1, .aload 0, .getfield 667, .sipush 100, .idiv, .iadd, .goto 78]),
  (53, [.iload 1, .sipush 2, .if_icmp .ne 71, .aload 0, .getfield 667, .sipush 10, .idiv, .sipush 10, .irem, .goto 78]),
  (71, [.aload 0, .getfield 667, .sipush 10, .irem, .jsr 78]),
  (78, [.ireturn])]
/-- M.fitting -/
def g_c263 : List (Nat × List Instr) := [(0, [.sipush 0, .istore 2, .aload 0, .sipush (-1), .putfield 667, .sipush 0, .istore 3, .jsr 9]),
  (9, [.iload 3, .sipush 500, .if_icmp .ge 131, .aload 0, .sipush 1, .iload 3, .sipush 100, .idiv, .iadd, .iload 3, .sipush 10, .idiv, .sipush 10, .irem, .iload 3, .sipush 10, .irem, .invokeinterface 264 4, .sipush 1, .istore 4, .sipush 0, .istore 5, .jsr 43]),
  (43, [.iload 5, .aload 0, .checkcast 640, .sipush 8, .iaload, .if_icmp .ge 88, .iload 4, .ifCond .eq 88, .iload 5, .iload 1, .if_icmp .eq 75, .aload 0, .iload 5, .invokeinterface 265 2, .ifCond .eq 79, .jsr 75]),
  (75, [.sipush 1, .goto 80]),
  (79, [.sipush 0, .jsr 80]),
  (80, [.istore 4, .iinc 5 1, .goto 43]),
  (88, [.iload 2, .iload 4, .ifCond .eq 98, .sipush 1, .goto 99]),
  (98, [.sipush 0, .jsr 99]),
  (99, [.iadd, .istore 2, .aload 0, .iload 4, .ifCond .eq 118, .aload 0, .getfield 667, .ifCond .ge 118, .iload 3, .goto 122]),
  (118, [.aload 0, .getfield 667, .jsr 122]),
  (122, [.putfield 667, .iinc 3 1, .goto 9]),
  (131, [.iload 2, .ireturn])]
/-- M.tellsStranger -/
def g_c264 : List (Nat × List Instr) := [(0, [.iload 3, .istore 4, .sipush 0, .istore 5, .sipush 0, .istore 6, .jsr 9]),
  (9, [.iload 6, .sipush 16, .if_icmp .ge 105, .aload 0, .checkcast 665, .iload 6, .iload 5, .iastore, .aload 0, .checkcast 666, .iload 6, .iload 4, .iastore, .iload 4, .aload 0, .checkcast 640, .sipush 10, .iload 6, .iadd, .iaload, .invokeinterface 221 2, .istore 4, .iload 1, .iload 2, .iload 6, .invokeinterface 197 3, .istore 7, .iload 7, .iload 5, .isub, .istore 8, .iload 5, .iload 8, .ifCond .gt 78, .sipush 0, .goto 96]),
  (78, [.iload 8, .iload 4, .sipush 1, .iadd, .if_icmp .le 94, .iload 4, .sipush 1, .iadd, .goto 96]),
  (94, [.iload 8, .jsr 96]),
  (96, [.iadd, .istore 5, .iinc 6 1, .goto 9]),
  (105, [.return_])]
/-- M.isSo -/
def g_c265 : List (Nat × List Instr) := [(0, [.sipush 74, .sipush 4, .iload 1, .imul, .iadd, .istore 2, .aload 0, .checkcast 640, .iload 2, .sipush 1, .iadd, .iaload, .ifCond .ne 32, .aload 0, .checkcast 665, .aload 0, .checkcast 640, .iload 2, .iaload, .iaload, .goto 43]),
  (32, [.aload 0, .checkcast 666, .aload 0, .checkcast 640, .iload 2, .iaload, .iaload, .jsr 43]),
  (43, [.istore 3, .iload 3, .aload 0, .checkcast 640, .iload 2, .sipush 2, .iadd, .iaload, .aload 0, .checkcast 640, .iload 2, .sipush 3, .iadd, .iaload, .invokeinterface 172 3, .areturn])]
/-- M.liar -/
def g_c266 : List (Nat × List Instr) := [(0, [.aload 0, .sipush (-1), .invokeinterface 263 2, .ifCond .le 11, .sipush (-3), .ireturn]),
  (11, [.sipush 0, .istore 1, .jsr 13]),
  (13, [.iload 1, .aload 0, .checkcast 640, .sipush 8, .iaload, .if_icmp .ge 40, .aload 0, .iload 1, .invokeinterface 263 2, .ifCond .le 34, .iload 1, .ireturn]),
  (34, [.iinc 1 1, .goto 13]),
  (40, [.sipush (-3), .ireturn])]
/-- M.seed -/
def g_c267 : List (Nat × List Instr) := [(0, [.aload 0, .sipush 5, .iload 1, .invokeinterface 208 3, .ireturn])]
/-- M.lot -/
def g_c268 : List (Nat × List Instr) := [(0, [.aload 0, .invokeinterface 217 1, .ifCond .eq 12, .sipush (-4), .goto 16]),
  (12, [.aload 0, .invokeinterface 269 1, .jsr 16]),
  (16, [.ireturn])]
/-- M.byLot -/
def g_c269 : List (Nat × List Instr) := [(0, [.aload 0, .checkcast 640, .sipush 5, .aload 0, .checkcast 640, .sipush 5, .iaload, .sipush 1103515245, .imul, .sipush 12345, .iadd, .iastore, .aload 0, .aload 0, .checkcast 640, .sipush 5, .iaload, .sipush 16, .iushr, .aload 0, .checkcast 640, .sipush 6, .iaload, .sipush 1, .iadd, .irem, .invokeinterface 220 2, .ireturn])]
/-- M.times -/
def g_c270 : List (Nat × List Instr) := [(0, [.iload 1, .sipush 1, .sipush 40, .invokeinterface 172 3, .ifCond .eq 21, .iload 2, .sipush 0, .sipush 999, .invokeinterface 172 3, .ifCond .ne 23, .jsr 21]),
  (21, [.sipush (-1), .ireturn]),
  (23, [.aload 0, .invokeinterface 230 1, .sipush 0, .istore 3, .sipush 0, .istore 4, .jsr 32]),
  (32, [.iload 4, .iload 1, .if_icmp .ge 100, .sipush 0, .istore 5, .jsr 41]),
  (41, [.aload 0, .invokeinterface 217 1, .ifCond .ne 60, .iload 5, .aload 0, .invokeinterface 269 1, .iadd, .istore 5, .goto 41]),
  (60, [.iload 3, .iload 5, .iload 2, .if_icmp .lt 71, .sipush 1, .goto 72]),
  (71, [.sipush 0, .jsr 72]),
  (72, [.iadd, .istore 3, .aload 0, .checkcast 640, .sipush 5, .iaload, .istore 6, .aload 0, .invokeinterface 232 1, .aload 0, .checkcast 640, .sipush 5, .iload 6, .iastore, .iinc 4 1, .goto 32]),
  (100, [.aload 0, .invokeinterface 232 1, .iload 3, .ireturn])]
/-- M.prove -/
def g_c271 : List (Nat × List Instr) := [(0, [.iload 1, .invokeinterface 245 1, .ifCond .ne 9, .sipush (-1), .ireturn]),
  (9, [.aload 0, .iload 1, .sipush 0, .invokeinterface 246 3, .aload 0, .aload 0, .iload 1, .invokeinterface 247 2, .putfield 669, .aload 0, .invokeinterface 230 1, .sipush 0, .istore 2, .jsr 30]),
  (30, [.iload 2, .aload 0, .getfield 669, .if_icmp .ge 93, .aload 0, .checkcast 668, .sipush 3, .iload 2, .imul, .aload 0, .checkcast 660, .iload 2, .iaload, .iastore, .aload 0, .checkcast 668, .sipush 3, .iload 2, .imul, .sipush 1, .iadd, .aload 0, .aload 0, .checkcast 660, .iload 2, .iaload, .invokeinterface 220 2, .iastore, .aload 0, .checkcast 668, .sipush 3, .iload 2, .imul, .sipush 2, .iadd, .aload 0, .sipush 4, .invokeinterface 218 2, .iastore, .iinc 2 1, .goto 30]),
  (93, [.aload 0, .invokeinterface 232 1, .aload 0, .getfield 669, .ireturn])]
/-- M.row -/
def g_c272 : List (Nat × List Instr) := [(0, [.aload 0, .iload 1, .iload 2, .invokeinterface 273 3, .ifCond .eq 22, .aload 0, .checkcast 668, .sipush 3, .iload 1, .imul, .iload 2, .iadd, .iaload, .goto 24]),
  (22, [.sipush (-9), .jsr 24]),
  (24, [.ireturn])]
/-- M.isRow -/
def g_c273 : List (Nat × List Instr) := [(0, [.iload 1, .sipush 0, .aload 0, .getfield 669, .sipush 1, .isub, .invokeinterface 172 3, .ifCond .eq 27, .iload 2, .sipush 0, .sipush 2, .invokeinterface 172 3, .ifCond .eq 27, .sipush 1, .goto 28]),
  (27, [.sipush 0, .jsr 28]),
  (28, [.areturn])]
/-- M.alterRow -/
def g_c274 : List (Nat × List Instr) := [(0, [.aload 0, .iload 1, .iload 2, .invokeinterface 273 3, .ifCond .ne 12, .sipush (-9), .ireturn]),
  (12, [.aload 0, .checkcast 668, .sipush 3, .iload 1, .imul, .iload 2, .iadd, .iaload, .istore 4, .aload 0, .checkcast 668, .sipush 3, .iload 1, .imul, .iload 2, .iadd, .iload 3, .iastore, .iload 4, .ireturn])]
/-- M.judge -/
def g_c275 : List (Nat × List Instr) := [(0, [.aload 0, .invokeinterface 230 1, .sipush 0, .istore 1, .sipush 0, .istore 2, .jsr 8]),
  (8, [.iload 2, .aload 0, .getfield 669, .if_icmp .ge 133, .iload 1, .ifCond .ne 133, .aload 0, .aload 0, .checkcast 668, .sipush 3, .iload 2, .imul, .iaload, .invokeinterface 276 2, .ifCond .eq 46, .aload 0, .invokeinterface 217 1, .ifCond .ne 46, .sipush 1, .goto 47]),
  (46, [.sipush 0, .jsr 47]),
  (47, [.istore 3, .iload 3, .ifCond .eq 67, .aload 0, .aload 0, .checkcast 668, .sipush 3, .iload 2, .imul, .iaload, .invokeinterface 220 2, .goto 68]),
  (67, [.sipush 0, .jsr 68]),
  (68, [.istore 4, .iload 3, .ifCond .eq 111, .iload 4, .aload 0, .checkcast 668, .sipush 3, .iload 2, .imul, .sipush 1, .iadd, .iaload, .if_icmp .ne 111, .aload 0, .sipush 4, .invokeinterface 218 2, .aload 0, .checkcast 668, .sipush 3, .iload 2, .imul, .sipush 2, .iadd, .iaload, .if_icmp .ne 111, .sipush 1, .goto 112]),
  (111, [.sipush 0, .jsr 112]),
  (112, [.istore 5, .iload 5, .ifCond .eq 123, .sipush 0, .goto 126]),
  (123, [.sipush 1, .iload 2, .iadd, .jsr 126]),
  (126, [.istore 1, .iinc 2 1, .goto 8]),
  (133, [.aload 0, .invokeinterface 232 1, .iload 1, .ireturn])]
/-- M.isAct -/
def g_c276 : List (Nat × List Instr) := [(0, [.iload 1, .sipush 0, .aload 0, .checkcast 640, .sipush 6, .iaload, .invokeinterface 172 3, .areturn])]
/-- M.sheet -/
def g_c277 : List (Nat × List Instr) := [(0, [.iload 1, .invokeinterface 278 1, .ifCond .eq 26, .iload 2, .sipush (-1), .sipush 4, .invokeinterface 172 3, .ifCond .eq 26, .iload 2, .ifCond .lt 28, .iload 3, .sipush 40, .if_icmp .le 28, .jsr 26]),
  (26, [.sipush (-1), .ireturn]),
  (28, [.iload 2, .ifCond .lt 39, .iload 3, .ifCond .ge 39, .sipush (-14), .ireturn]),
  (39, [.aload 0, .checkcast 670, .iload 1, .iload 2, .iastore, .aload 0, .checkcast 671, .iload 1, .iload 2, .ifCond .ge 59, .sipush 0, .goto 60]),
  (59, [.iload 3, .jsr 60]),
  (60, [.iastore, .sipush 0, .istore 4, .jsr 64]),
  (64, [.iload 4, .sipush 40, .if_icmp .ge 90, .aload 0, .checkcast 672, .sipush 40, .iload 1, .imul, .iload 4, .iadd, .sipush 0, .iastore, .iinc 4 1, .goto 64]),
  (90, [.sipush 1, .ireturn])]
/-- M.isSheet -/
def g_c278 : List (Nat × List Instr) := [(0, [.iload 0, .sipush 0, .sipush 3, .invokeinterface 172 3, .areturn])]
/-- M.write -/
def g_c279 : List (Nat × List Instr) := [(0, [.iload 1, .invokeinterface 278 1, .ifCond .ne 9, .sipush (-1), .ireturn]),
  (9, [.aload 0, .checkcast 670, .iload 1, .iaload, .ifCond .ge 21, .sipush (-11), .ireturn]),
  (21, [.iload 2, .sipush 0, .aload 0, .checkcast 671, .iload 1, .iaload, .sipush 1, .isub, .invokeinterface 172 3, .ifCond .ne 40, .sipush (-12), .ireturn]),
  (40, [.aload 0, .checkcast 672, .sipush 40, .iload 1, .imul, .iload 2, .iadd, .iload 3, .aload 0, .checkcast 670, .iload 1, .iaload, .invokeinterface 280 2, .iastore, .sipush 1, .ireturn])]
/-- M.narrowed -/
def g_c280 : List (Nat × List Instr) := [(0, [.iload 1, .ifCond .ne 9, .iload 0, .i2b, .goto 37]),
  (9, [.iload 1, .sipush 1, .if_icmp .ne 19, .iload 0, .i2s, .goto 37]),
  (19, [.iload 1, .sipush 4, .if_icmp .ne 36, .iload 0, .ifCond .eq 32, .sipush 1, .goto 37]),
  (32, [.sipush 0, .goto 37]),
  (36, [.iload 0, .jsr 37]),
  (37, [.ireturn])]
/-- M.item -/
def g_c281 : List (Nat × List Instr) := [(0, [.iload 1, .invokeinterface 278 1, .ifCond .eq 16, .iload 2, .sipush 0, .sipush 4, .invokeinterface 172 3, .ifCond .ne 18, .jsr 16]),
  (16, [.sipush (-1), .ireturn]),
  (18, [.aload 0, .iload 1, .iload 2, .invokeinterface 282 3, .istore 4, .iload 4, .ifCond .eq 36, .iload 4, .goto 68]),
  (36, [.iload 3, .sipush 0, .aload 0, .checkcast 671, .iload 1, .iaload, .sipush 1, .isub, .invokeinterface 172 3, .ifCond .eq 66, .aload 0, .checkcast 672, .sipush 40, .iload 1, .imul, .iload 3, .iadd, .iaload, .goto 68]),
  (66, [.sipush (-12), .jsr 68]),
  (68, [.ireturn])]
/-- M.lacks -/
def g_c282 : List (Nat × List Instr) := [(0, [.aload 0, .checkcast 670, .iload 1, .iaload, .ifCond .ge 14, .sipush (-11), .goto 30]),
  (14, [.aload 0, .checkcast 670, .iload 1, .iaload, .iload 2, .if_icmp .eq 29, .sipush (-13), .goto 30]),
  (29, [.sipush 0, .jsr 30]),
  (30, [.ireturn])]
/-- M.goAll -/
def g_c283 : List (Nat × List Instr) := [(0, [.iload 1, .invokeinterface 278 1, .ifCond .eq 17, .iload 3, .sipush 0, .sipush 20, .invokeinterface 172 3, .ifCond .ne 19, .jsr 17]),
  (17, [.sipush (-1), .ireturn]),
  (19, [.aload 0, .iload 1, .sipush 0, .invokeinterface 282 3, .istore 4, .iload 4, .ifCond .eq 35, .iload 4, .ireturn]),
  (35, [.sipush 0, .istore 5, .sipush 0, .istore 6, .jsr 41]),
  (41, [.iload 6, .iload 3, .if_icmp .ge 114, .aload 0, .iload 1, .iload 2, .iload 6, .invokeinterface 284 4, .ifCond .ne 61, .sipush (-12), .ireturn]),
  (61, [.aload 0, .checkcast 672, .sipush 40, .iload 1, .imul, .iload 2, .iadd, .iload 6, .iadd, .iaload, .istore 7, .iload 5, .aload 0, .iload 7, .invokeinterface 276 2, .ifCond .eq 104, .aload 0, .invokeinterface 217 1, .ifCond .ne 104, .aload 0, .iload 7, .invokeinterface 220 2, .goto 105]),
  (104, [.sipush 0, .jsr 105]),
  (105, [.iadd, .istore 5, .iinc 6 1, .goto 41]),
  (114, [.iload 5, .ireturn])]
/-- M.isItem -/
def g_c284 : List (Nat × List Instr) := [(0, [.iload 2, .ifCond .lt 20, .iload 2, .aload 0, .checkcast 671, .iload 1, .iaload, .iload 3, .isub, .if_icmp .ge 20, .sipush 1, .goto 21]),
  (20, [.sipush 0, .jsr 21]),
  (21, [.areturn])]
/-- M.wouldBe -/
def g_c285 : List (Nat × List Instr) := [(0, [.iload 1, .invokeinterface 278 1, .ifCond .eq 17, .iload 3, .sipush 0, .sipush 20, .invokeinterface 172 3, .ifCond .ne 19, .jsr 17]),
  (17, [.sipush (-1), .ireturn]),
  (19, [.aload 0, .iload 1, .sipush 0, .invokeinterface 282 3, .istore 4, .sipush 0, .istore 5, .aload 0, .invokeinterface 230 1, .sipush 0, .istore 6, .jsr 37]),
  (37, [.iload 6, .iload 3, .if_icmp .ge 145, .iload 4, .ifCond .ne 145, .aload 0, .iload 1, .iload 2, .iload 6, .invokeinterface 284 4, .ifCond .eq 76, .aload 0, .checkcast 672, .sipush 40, .iload 1, .imul, .iload 2, .iadd, .iload 6, .iadd, .iaload, .goto 77]),
  (76, [.sipush (-1), .jsr 77]),
  (77, [.istore 7, .aload 0, .iload 1, .iload 2, .iload 6, .invokeinterface 284 4, .ifCond .ne 95, .sipush (-12), .goto 117]),
  (95, [.aload 0, .iload 7, .invokeinterface 276 2, .ifCond .eq 111, .aload 0, .invokeinterface 217 1, .ifCond .eq 116, .jsr 111]),
  (111, [.sipush (-4), .goto 117]),
  (116, [.sipush 0, .jsr 117]),
  (117, [.istore 4, .iload 5, .iload 4, .ifCond .ne 135, .aload 0, .iload 7, .invokeinterface 220 2, .goto 136]),
  (135, [.sipush 0, .jsr 136]),
  (136, [.iadd, .istore 5, .iinc 6 1, .goto 37]),
  (145, [.aload 0, .invokeinterface 232 1, .iload 4, .ifCond .eq 159, .iload 4, .goto 161]),
  (159, [.iload 5, .jsr 161]),
  (161, [.ireturn])]
/-- M.shelf -/
def g_c286 : List (Nat × List Instr) := [(0, [.iload 1, .invokeinterface 278 1, .ifCond .eq 40, .iload 2, .sipush 0, .sipush 2, .invokeinterface 172 3, .ifCond .eq 40, .iload 2, .ifCond .ne 28, .aload 0, .iload 3, .invokeinterface 194 2, .ifCond .eq 40, .jsr 28]),
  (28, [.iload 2, .sipush 1, .if_icmp .ne 42, .iload 3, .invokeinterface 278 1, .ifCond .ne 42, .jsr 40]),
  (40, [.sipush (-1), .ireturn]),
  (42, [.aload 0, .checkcast 673, .iload 1, .iload 2, .ifCond .ne 55, .sipush 0, .goto 82]),
  (55, [.iload 2, .sipush 1, .if_icmp .ne 81, .aload 0, .checkcast 670, .iload 3, .iaload, .ifCond .lt 81, .sipush 10, .aload 0, .checkcast 670, .iload 3, .iaload, .iadd, .goto 82]),
  (81, [.sipush (-1), .jsr 82]),
  (82, [.iastore, .aload 0, .checkcast 674, .iload 1, .iload 2, .ifCond .ne 96, .iload 3, .goto 111]),
  (96, [.iload 2, .sipush 1, .if_icmp .ne 110, .aload 0, .checkcast 671, .iload 3, .iaload, .goto 111]),
  (110, [.sipush 0, .jsr 111]),
  (111, [.iastore, .sipush 1, .ireturn])]
/-- M.taken -/
def g_c287 : List (Nat × List Instr) := [(0, [.iload 1, .invokeinterface 278 1, .ifCond .eq 27, .iload 2, .sipush 0, .sipush 5, .invokeinterface 172 3, .ifCond .ne 29, .iload 2, .sipush 10, .sipush 14, .invokeinterface 172 3, .ifCond .ne 29, .jsr 27]),
  (27, [.sipush (-1), .ireturn]),
  (29, [.aload 0, .iload 1, .invokeinterface 288 2, .istore 3, .iload 3, .ifCond .ge 42, .sipush (-11), .ireturn]),
  (42, [.iload 3, .ifCond .ne 78, .iload 2, .sipush 10, .if_icmp .ge 74, .aload 0, .aload 0, .checkcast 674, .iload 1, .iaload, .sipush 0, .invokeinterface 196 3, .iload 2, .invokeinterface 202 2, .ifCond .eq 74, .sipush 1, .goto 88]),
  (74, [.sipush 0, .goto 88]),
  (78, [.iload 3, .iload 2, .if_icmp .ne 87, .sipush 1, .goto 88]),
  (87, [.sipush 0, .jsr 88]),
  (88, [.istore 4, .iload 4, .ifCond .eq 104, .aload 0, .checkcast 674, .iload 1, .iaload, .goto 106]),
  (104, [.sipush (-13), .jsr 106]),
  (106, [.ireturn])]
/-- M.heldOn -/
def g_c288 : List (Nat × List Instr) := [(0, [.aload 0, .checkcast 673, .iload 1, .iaload, .ifCond .ne 26, .aload 0, .aload 0, .checkcast 674, .iload 1, .iaload, .invokeinterface 194 2, .ifCond .ne 26, .sipush (-1), .goto 32]),
  (26, [.aload 0, .checkcast 673, .iload 1, .iaload, .jsr 32]),
  (32, [.ireturn])]
/-- M.act -/
def g_c289 : List (Nat × List Instr) := [(0, [.aload 0, .sipush 0, .putfield 676, .iload 1, .invokeinterface 278 1, .ifCond .eq 29, .iload 2, .sipush 0, .sipush 3, .invokeinterface 172 3, .ifCond .eq 29, .aload 0, .iload 1, .invokeinterface 288 2, .ifCond .eq 31, .jsr 29]),
  (29, [.sipush 0, .ireturn]),
  (31, [.aload 0, .aload 0, .checkcast 674, .iload 1, .iaload, .putfield 677, .aload 0, .sipush 0, .putfield 678, .aload 0, .aload 0, .getfield 677, .sipush 0, .invokeinterface 196 3, .istore 4, .iload 2, .ifCond .ne 71, .aload 0, .iload 4, .iload 3, .invokeinterface 290 3, .goto 108]),
  (71, [.iload 2, .sipush 1, .if_icmp .ne 86, .aload 0, .iload 4, .iload 3, .invokeinterface 292 3, .goto 108]),
  (86, [.iload 2, .sipush 2, .if_icmp .ne 101, .aload 0, .iload 4, .iload 3, .invokeinterface 293 3, .goto 108]),
  (101, [.aload 0, .iload 4, .iload 3, .invokeinterface 294 3, .jsr 108]),
  (108, [.istore 5, .aload 0, .getfield 678, .ifCond .eq 122, .sipush (-15), .goto 124]),
  (122, [.iload 5, .jsr 124]),
  (124, [.ireturn])]
/-- M.laysAs -/
def g_c290 : List (Nat × List Instr) := [(0, [.iload 1, .sipush 1, .if_icmp .ne 20, .aload 0, .sipush 20, .invokeinterface 291 2, .aload 0, .sipush 0, .iload 2, .invokeinterface 290 3, .sipush 3, .imul, .ireturn]),
  (20, [.iload 1, .sipush 3, .if_icmp .ne 40, .aload 0, .sipush 50, .invokeinterface 291 2, .aload 0, .sipush 2, .iload 2, .invokeinterface 290 3, .sipush 4, .ixor, .ireturn]),
  (40, [.aload 0, .sipush 10, .invokeinterface 291 2, .iload 2, .sipush 2, .imul, .aload 0, .getfield 677, .iadd, .ireturn])]
/-- M.starts -/
def g_c291 : List (Nat × List Instr) := [(0, [.aload 0, .getfield 676, .sipush 30, .if_icmp .ge 29, .aload 0, .checkcast 675, .aload 0, .getfield 676, .iload 1, .iastore, .aload 0, .dup, .getfield 676, .sipush 1, .iadd, .putfield 676, .jsr 29]),
  (29, [.return_])]
/-- M.tiltsAs -/
def g_c292 : List (Nat × List Instr) := [(0, [.iload 1, .sipush 2, .if_icmp .eq 10, .iload 1, .sipush 3, .if_icmp .ne 25, .jsr 10]),
  (10, [.aload 0, .sipush 30, .invokeinterface 291 2, .aload 0, .sipush 0, .iload 2, .sipush 1, .iadd, .invokeinterface 292 3, .ireturn]),
  (25, [.iload 1, .sipush 5, .if_icmp .ne 46, .aload 0, .sipush 60, .invokeinterface 291 2, .aload 0, .sipush 4, .iload 2, .invokeinterface 292 3, .sipush 60, .isub, .ireturn]),
  (46, [.aload 0, .sipush 11, .invokeinterface 291 2, .aload 0, .aload 0, .aload 0, .getfield 677, .sipush 0, .invokeinterface 196 3, .iload 2, .invokeinterface 290 3, .aload 0, .aload 0, .getfield 677, .sipush 3, .invokeinterface 196 3, .isub, .ireturn])]
/-- M.breaksAs -/
def g_c293 : List (Nat × List Instr) := [(0, [.iload 1, .sipush 5, .if_icmp .ne 46, .aload 0, .sipush 61, .invokeinterface 291 2, .aload 0, .sipush 4, .iload 2, .invokeinterface 293 3, .istore 3, .aload 0, .getfield 678, .ifCond .eq 29, .sipush 0, .goto 45]),
  (29, [.iload 3, .aload 0, .sipush 5, .aload 0, .aload 0, .getfield 677, .sipush 3, .invokeinterface 196 3, .invokeinterface 290 3, .ixor, .jsr 45]),
  (45, [.ireturn]),
  (46, [.iload 1, .sipush 4, .if_icmp .ne 65, .aload 0, .sipush 40, .invokeinterface 291 2, .aload 0, .sipush 0, .iload 2, .invokeinterface 293 3, .ineg, .ireturn]),
  (65, [.aload 0, .sipush 12, .invokeinterface 291 2, .aload 0, .getfield 677, .aload 0, .aload 0, .getfield 677, .sipush 3, .invokeinterface 196 3, .iadd, .sipush 3, .isub, .istore 3, .aload 0, .aload 0, .getfield 678, .ifCond .ne 100, .iload 3, .ifCond .ne 104, .jsr 100]),
  (100, [.sipush 1, .goto 105]),
  (104, [.sipush 0, .jsr 105]),
  (105, [.putfield 678, .aload 0, .getfield 678, .ifCond .eq 119, .sipush 0, .goto 122]),
  (119, [.iload 2, .iload 3, .irem, .jsr 122]),
  (122, [.ireturn])]
/-- M.shinesAs -/
def g_c294 : List (Nat × List Instr) := [(0, [.iload 1, .sipush 3, .if_icmp .ne 41, .aload 0, .sipush 51, .invokeinterface 291 2, .aload 0, .sipush 2, .iload 2, .invokeinterface 294 3, .istore 3, .aload 0, .getfield 678, .ifCond .eq 29, .sipush 0, .goto 40]),
  (29, [.iload 3, .aload 0, .sipush 3, .aload 0, .getfield 677, .invokeinterface 292 3, .iadd, .jsr 40]),
  (40, [.ireturn]),
  (41, [.aload 0, .sipush 13, .invokeinterface 291 2, .aload 0, .aload 0, .aload 0, .getfield 677, .sipush 0, .invokeinterface 196 3, .iload 2, .invokeinterface 292 3, .istore 3, .iload 3, .aload 0, .aload 0, .aload 0, .getfield 677, .sipush 0, .invokeinterface 196 3, .iload 2, .invokeinterface 293 3, .ixor, .ireturn])]
/-- M.trace -/
def g_c295 : List (Nat × List Instr) := [(0, [.iload 1, .sipush 0, .aload 0, .getfield 676, .sipush 1, .isub, .invokeinterface 172 3, .ifCond .eq 23, .aload 0, .checkcast 675, .iload 1, .iaload, .goto 25]),
  (23, [.sipush (-3), .jsr 25]),
  (25, [.ireturn])]
/-- M.many -/
def g_c296 : List (Nat × List Instr) := [(0, [.iload 1, .lookupswitch 92 #[(0, 44), (1, 52), (2, 60), (3, 69), (4, 77), (5, 82), (6, 87)]]),
  (44, [.aload 0, .checkcast 640, .sipush 6, .iaload, .ireturn]),
  (52, [.aload 0, .checkcast 640, .sipush 7, .iaload, .ireturn]),
  (60, [.aload 0, .sipush 4, .invokeinterface 218 2, .invokeinterface 297 1, .ireturn]),
  (69, [.aload 0, .checkcast 640, .sipush 8, .iaload, .ireturn]),
  (77, [.aload 0, .getfield 669, .ireturn]),
  (82, [.aload 0, .getfield 646, .ireturn]),
  (87, [.aload 0, .getfield 676, .ireturn]),
  (92, [.sipush (-1), .ireturn])]
/-- M.ones -/
def g_c297 : List (Nat × List Instr) := [(0, [.sipush 0, .istore 1, .iload 0, .istore 2, .jsr 4]),
  (4, [.iload 2, .ifCond .eq 20, .iinc 1 1, .iload 2, .iload 2, .sipush 1, .isub, .iand, .istore 2, .goto 4]),
  (20, [.iload 1, .ireturn])]
/-- M.keep -/
def g_c298 : List (Nat × List Instr) := [(0, [.sipush 0, .istore 1, .jsr 2]),
  (2, [.iload 1, .sipush 322, .if_icmp .ge 27, .aload 0, .checkcast 641, .iload 1, .aload 0, .checkcast 640, .iload 1, .iaload, .iastore, .iinc 1 1, .goto 2]),
  (27, [.aload 0, .sipush 1, .putfield 643, .sipush 1, .ireturn])]
/-- M.again -/
def g_c299 : List (Nat × List Instr) := [(0, [.aload 0, .getfield 643, .ifCond .ne 10, .sipush (-3), .ireturn]),
  (10, [.sipush 0, .istore 1, .jsr 12]),
  (12, [.iload 1, .sipush 322, .if_icmp .ge 37, .aload 0, .checkcast 640, .iload 1, .aload 0, .checkcast 641, .iload 1, .iaload, .iastore, .iinc 1 1, .goto 12]),
  (37, [.aload 0, .checkcast 640, .sipush 6, .iaload, .ireturn])]
/-- J.bitCount -/
def g_c300 : List (Nat × List Instr) := [(0, [.iload 0, .iload 0, .sipush 1, .iushr, .sipush 1431655765, .iand, .isub, .istore 0, .iload 0, .sipush 858993459, .iand, .iload 0, .sipush 2, .iushr, .sipush 858993459, .iand, .iadd, .istore 0, .iload 0, .iload 0, .sipush 4, .iushr, .iadd, .sipush 252645135, .iand, .istore 0, .iload 0, .iload 0, .sipush 8, .iushr, .iadd, .istore 0, .iload 0, .iload 0, .sipush 16, .iushr, .iadd, .istore 0, .iload 0, .sipush 63, .iand, .ireturn])]
/-- J.length -/
def g_c301 : List (Nat × List Instr) := [(0, [.aload 0, .fload 0, .fmul, .aload 0, .invokeinterface 302 1, .ishr, .ireturn])]
/-- J.coder -/
def g_c302 : List (Nat × List Instr) := [(0, [.getstatic 1, .ifCond .eq 13, .aload 0, .fload 1, .goto 14]),
  (13, [.sipush 1, .jsr 14]),
  (14, [.dreturn])]
/-- J.charAt -/
def g_c303 : List (Nat × List Instr) := [(0, [.aload 0, .invokeinterface 304 1, .ifCond .eq 16, .aload 0, .fload 0, .iload 1, .invokeinterface 306 2, .freturn]),
  (16, [.aload 0, .fload 0, .iload 1])]
/-- J.isLatin1 -/
def g_c304 : List (Nat × List Instr) := [(0, [.getstatic 1, .ifCond .eq 17, .aload 0, .fload 1, .ifCond .ne 17, .sipush 1, .goto 18]),
  (17, [.sipush 0, .jsr 18]),
  (18, [.areturn])]
/-- J.checkIndex -/
def g_c305 : List (Nat × List Instr) := [(0, [.iload 0, .iload 1, .getstatic 2, .invokeinterface 307 3, .pop, .return_])]
/-- J.charAt_306 -/
def g_c306 : List (Nat × List Instr) := [(0, [.iload 1, .aload 0, .fmul, .invokeinterface 305 2, .aload 0, .iload 1, .baload, .sipush 255, .iand, .i2c, .freturn])]
/-- J.checkIndex_307 -/
def g_c307 : List (Nat × List Instr) := [(0, [.iload 0, .ifCond .lt 9, .iload 0, .iload 1, .if_icmp .lt 16, .jsr 9]),
  (9, [.aload 2, .iload 0, .iload 1]),
  (16, [.iload 0, .ireturn])]
/-- LAW.law -/
def g_c308 : List (Nat × List Instr) := [(0, [.new 9, .dup, .invokeinterface 107 1, .astore 1, .new 10, .dup, .invokeinterface 170 1, .astore 2, .sipush 0, .istore 3, .jsr 18]),
  (18, [.iload 3, .aload 0, .fadd, .sipush 5, .isub, .if_icmp .gt 1788, .aload 0, .iload 3, .faload, .sipush 63, .iand, .lookupswitch 1782 #[(0, 256), (1, 309), (2, 342), (3, 385), (4, 418), (5, 451), (6, 494), (7, 527), (8, 560), (9, 583), (10, 596), (11, 619), (12, 682), (13, 695), (14, 708), (15, 731), (16, 754), (17, 777), (18, 800), (19, 823), (20, 846), (21, 869), (22, 902), (23, 925), (24, 958), (25, 981), (26, 1014), (27, 1047), (28, 1070), (29, 1093), (30, 1146), (31, 1159), (32, 1182), (33, 1195), (34, 1218), (35, 1231), (36, 1264), (37, 1287), (38, 1320), (39, 1363), (40, 1376), (41, 1419), (42, 1462), (43, 1505), (44, 1548), (45, 1591), (46, 1634), (47, 1667), (48, 1710), (49, 1733), (50, 1756), (51, 1769)]]),
  (256, [.aload 1, .aload 0, .iload 3, .sipush 1, .iadd, .faload, .aload 0, .iload 3, .sipush 2, .iadd, .faload, .aload 0, .iload 3, .sipush 3, .iadd, .faload, .aload 0, .iload 3, .sipush 4, .iadd, .faload, .invokeinterface 108 5, .aload 2, .aload 0, .iload 3, .sipush 1, .iadd, .faload, .aload 0, .iload 3, .sipush 2, .iadd, .faload, .aload 0, .iload 3, .sipush 3, .iadd, .faload, .aload 0, .iload 3, .sipush 4, .iadd, .faload, .invokeinterface 188 5, .if_icmp .eq 1782, .sipush 0, .areturn]),
  (309, [.aload 1, .aload 0, .iload 3, .sipush 1, .iadd, .faload, .aload 0, .iload 3, .sipush 2, .iadd, .faload, .invokeinterface 110 3, .aload 2, .aload 0, .iload 3, .sipush 1, .iadd, .faload, .aload 0, .iload 3, .sipush 2, .iadd, .faload, .invokeinterface 193 3, .if_icmp .eq 1782, .sipush 0, .areturn]),
  (342, [.aload 1, .aload 0, .iload 3, .sipush 1, .iadd, .faload, .aload 0, .iload 3, .sipush 2, .iadd, .faload, .aload 0, .iload 3, .sipush 3, .iadd, .faload, .invokeinterface 113 4, .aload 2, .aload 0, .iload 3, .sipush 1, .iadd, .faload, .aload 0, .iload 3, .sipush 2, .iadd, .faload, .aload 0, .iload 3, .sipush 3, .iadd, .faload, .invokeinterface 207 4, .if_icmp .eq 1782, .sipush 0, .areturn]),
  (385, [.aload 1, .aload 0, .iload 3, .sipush 1, .iadd, .faload, .aload 0, .iload 3, .sipush 2, .iadd, .faload, .invokeinterface 115 3, .aload 2, .aload 0, .iload 3, .sipush 1, .iadd, .faload, .aload 0, .iload 3, .sipush 2, .iadd, .faload, .invokeinterface 209 3, .if_icmp .eq 1782, .sipush 0, .areturn]),
  (418, [.aload 1, .aload 0, .iload 3, .sipush 1, .iadd, .faload, .aload 0, .iload 3, .sipush 2, .iadd, .faload, .invokeinterface 116 3, .aload 2, .aload 0, .iload 3, .sipush 1, .iadd, .faload, .aload 0, .iload 3, .sipush 2, .iadd, .faload, .invokeinterface 210 3, .if_icmp .eq 1782, .sipush 0, .areturn]),
  (451, [.aload 1, .aload 0, .iload 3, .sipush 1, .iadd, .faload, .aload 0, .iload 3, .sipush 2, .iadd, .faload, .aload 0, .iload 3, .sipush 3, .iadd, .faload, .invokeinterface 117 4, .aload 2, .aload 0, .iload 3, .sipush 1, .iadd, .faload, .aload 0, .iload 3, .sipush 2, .iadd, .faload, .aload 0, .iload 3, .sipush 3, .iadd, .faload, .invokeinterface 211 4, .if_icmp .eq 1782, .sipush 0, .areturn]),
  (494, [.aload 1, .aload 0, .iload 3, .sipush 1, .iadd, .faload, .aload 0, .iload 3, .sipush 2, .iadd, .faload, .invokeinterface 118 3, .aload 2, .aload 0, .iload 3, .sipush 1, .iadd, .faload, .aload 0, .iload 3, .sipush 2, .iadd, .faload, .invokeinterface 212 3, .if_icmp .eq 1782, .sipush 0, .areturn]),
  (527, [.aload 1, .aload 0, .iload 3, .sipush 1, .iadd, .faload, .aload 0, .iload 3, .sipush 2, .iadd, .faload, .invokeinterface 119 3, .aload 2, .aload 0, .iload 3, .sipush 1, .iadd, .faload, .aload 0, .iload 3, .sipush 2, .iadd, .faload, .invokeinterface 213 3, .if_icmp .eq 1782, .sipush 0, .areturn]),
  (560, [.aload 1, .aload 0, .iload 3, .sipush 1, .iadd, .faload, .invokeinterface 120 2, .aload 2, .aload 0, .iload 3, .sipush 1, .iadd, .faload, .invokeinterface 214 2, .if_icmp .eq 1782, .sipush 0, .areturn]),
  (583, [.aload 1, .invokeinterface 121 1, .aload 2, .invokeinterface 215 1, .if_icmp .eq 1782, .sipush 0, .areturn]),
  (596, [.aload 1, .aload 0, .iload 3, .sipush 1, .iadd, .faload, .invokeinterface 122 2, .aload 2, .aload 0, .iload 3, .sipush 1, .iadd, .faload, .invokeinterface 216 2, .if_icmp .eq 1782, .sipush 0, .areturn]),
  (619, [.aload 1, .aload 0, .iload 3, .sipush 1, .iadd, .faload, .i2l, .sipush 32, .lshl, .aload 0, .iload 3, .sipush 2, .iadd, .faload, .i2l, .goto_w 4294967295, .land, .lor, .aload 0, .iload 3, .sipush 3, .iadd, .faload, .invokeinterface 123 3, .aload 2, .aload 0, .iload 3, .sipush 1, .iadd, .faload, .i2l, .sipush 32, .lshl, .aload 0, .iload 3, .sipush 2, .iadd, .faload, .i2l, .goto_w 4294967295, .land, .lor, .aload 0, .iload 3, .sipush 3, .iadd, .faload, .invokeinterface 171 3, .if_icmp .eq 1782, .sipush 0, .areturn]),
  (682, [.aload 1, .invokeinterface 124 1, .aload 2, .invokeinterface 173 1, .if_icmp .eq 1782, .sipush 0, .areturn]),
  (695, [.aload 1, .invokeinterface 125 1, .aload 2, .invokeinterface 219 1, .if_icmp .eq 1782, .sipush 0, .areturn]),
  (708, [.aload 1, .aload 0, .iload 3, .sipush 1, .iadd, .faload, .invokeinterface 129 2, .aload 2, .aload 0, .iload 3, .sipush 1, .iadd, .faload, .invokeinterface 229 2, .if_icmp .eq 1782, .sipush 0, .areturn]),
  (731, [.aload 1, .aload 0, .iload 3, .sipush 1, .iadd, .faload, .invokeinterface 130 2, .aload 2, .aload 0, .iload 3, .sipush 1, .iadd, .faload, .invokeinterface 233 2, .if_icmp .eq 1782, .sipush 0, .areturn]),
  (754, [.aload 1, .aload 0, .iload 3, .sipush 1, .iadd, .faload, .invokeinterface 131 2, .aload 2, .aload 0, .iload 3, .sipush 1, .iadd, .faload, .invokeinterface 234 2, .if_icmp .eq 1782, .sipush 0, .areturn]),
  (777, [.aload 1, .aload 0, .iload 3, .sipush 1, .iadd, .faload, .invokeinterface 132 2, .aload 2, .aload 0, .iload 3, .sipush 1, .iadd, .faload, .invokeinterface 236 2, .if_icmp .eq 1782, .sipush 0, .areturn]),
  (800, [.aload 1, .aload 0, .iload 3, .sipush 1, .iadd, .faload, .invokeinterface 133 2, .aload 2, .aload 0, .iload 3, .sipush 1, .iadd, .faload, .invokeinterface 237 2, .if_icmp .eq 1782, .sipush 0, .areturn]),
  (823, [.aload 1, .aload 0, .iload 3, .sipush 1, .iadd, .faload, .invokeinterface 134 2, .aload 2, .aload 0, .iload 3, .sipush 1, .iadd, .faload, .invokeinterface 238 2, .if_icmp .eq 1782, .sipush 0, .areturn]),
  (846, [.aload 1, .aload 0, .iload 3, .sipush 1, .iadd, .faload, .invokeinterface 135 2, .aload 2, .aload 0, .iload 3, .sipush 1, .iadd, .faload, .invokeinterface 239 2, .if_icmp .eq 1782, .sipush 0, .areturn]),
  (869, [.aload 1, .aload 0, .iload 3, .sipush 1, .iadd, .faload, .aload 0, .iload 3, .sipush 2, .iadd, .faload, .invokeinterface 137 3, .aload 2, .aload 0, .iload 3, .sipush 1, .iadd, .faload, .aload 0, .iload 3, .sipush 2, .iadd, .faload, .invokeinterface 242 3, .if_icmp .eq 1782, .sipush 0, .areturn]),
  (902, [.aload 1, .aload 0, .iload 3, .sipush 1, .iadd, .faload, .invokeinterface 138 2, .aload 2, .aload 0, .iload 3, .sipush 1, .iadd, .faload, .invokeinterface 244 2, .if_icmp .eq 1782, .sipush 0, .areturn]),
  (925, [.aload 1, .aload 0, .iload 3, .sipush 1, .iadd, .faload, .aload 0, .iload 3, .sipush 2, .iadd, .faload, .invokeinterface 139 3, .aload 2, .aload 0, .iload 3, .sipush 1, .iadd, .faload, .aload 0, .iload 3, .sipush 2, .iadd, .faload, .invokeinterface 252 3, .if_icmp .eq 1782, .sipush 0, .areturn]),
  (958, [.aload 1, .aload 0, .iload 3, .sipush 1, .iadd, .faload, .invokeinterface 140 2, .aload 2, .aload 0, .iload 3, .sipush 1, .iadd, .faload, .invokeinterface 253 2, .if_icmp .eq 1782, .sipush 0, .areturn]),
  (981, [.aload 1, .aload 0, .iload 3, .sipush 1, .iadd, .faload, .aload 0, .iload 3, .sipush 2, .iadd, .faload, .invokeinterface 141 3, .aload 2, .aload 0, .iload 3, .sipush 1, .iadd, .faload, .aload 0, .iload 3, .sipush 2, .iadd, .faload, .invokeinterface 254 3, .if_icmp .eq 1782, .sipush 0, .areturn]),
  (1014, [.aload 1, .aload 0, .iload 3, .sipush 1, .iadd, .faload, .aload 0, .iload 3, .sipush 2, .iadd, .faload, .invokeinterface 142 3, .aload 2, .aload 0, .iload 3, .sipush 1, .iadd, .faload, .aload 0, .iload 3, .sipush 2, .iadd, .faload, .invokeinterface 256 3, .if_icmp .eq 1782, .sipush 0, .areturn]),
  (1047, [.aload 1, .aload 0, .iload 3, .sipush 1, .iadd, .faload, .invokeinterface 143 2, .aload 2, .aload 0, .iload 3, .sipush 1, .iadd, .faload, .invokeinterface 257 2, .if_icmp .eq 1782, .sipush 0, .areturn]),
  (1070, [.aload 1, .aload 0, .iload 3, .sipush 1, .iadd, .faload, .invokeinterface 144 2, .aload 2, .aload 0, .iload 3, .sipush 1, .iadd, .faload, .invokeinterface 259 2, .if_icmp .eq 1782, .sipush 0, .areturn]),
  (1093, [.aload 1, .aload 0, .iload 3, .sipush 1, .iadd, .faload, .aload 0, .iload 3, .sipush 2, .iadd, .faload, .aload 0, .iload 3, .sipush 3, .iadd, .faload, .aload 0, .iload 3, .sipush 4, .iadd, .faload, .invokeinterface 145 5, .aload 2, .aload 0, .iload 3, .sipush 1, .iadd, .faload, .aload 0, .iload 3, .sipush 2, .iadd, .faload, .aload 0, .iload 3, .sipush 3, .iadd, .faload, .aload 0, .iload 3, .sipush 4, .iadd, .faload, .invokeinterface 260 5, .if_icmp .eq 1782, .sipush 0, .areturn]),
  (1146, [.aload 1, .invokeinterface 146 1, .aload 2, .invokeinterface 261 1, .if_icmp .eq 1782, .sipush 0, .areturn]),
  (1159, [.aload 1, .aload 0, .iload 3, .sipush 1, .iadd, .faload, .invokeinterface 147 2, .aload 2, .aload 0, .iload 3, .sipush 1, .iadd, .faload, .invokeinterface 262 2, .if_icmp .eq 1782, .sipush 0, .areturn]),
  (1182, [.aload 1, .invokeinterface 148 1, .aload 2, .invokeinterface 266 1, .if_icmp .eq 1782, .sipush 0, .areturn]),
  (1195, [.aload 1, .aload 0, .iload 3, .sipush 1, .iadd, .faload, .invokeinterface 149 2, .aload 2, .aload 0, .iload 3, .sipush 1, .iadd, .faload, .invokeinterface 267 2, .if_icmp .eq 1782, .sipush 0, .areturn]),
  (1218, [.aload 1, .invokeinterface 150 1, .aload 2, .invokeinterface 268 1, .if_icmp .eq 1782, .sipush 0, .areturn]),
  (1231, [.aload 1, .aload 0, .iload 3, .sipush 1, .iadd, .faload, .aload 0, .iload 3, .sipush 2, .iadd, .faload, .invokeinterface 151 3, .aload 2, .aload 0, .iload 3, .sipush 1, .iadd, .faload, .aload 0, .iload 3, .sipush 2, .iadd, .faload, .invokeinterface 270 3, .if_icmp .eq 1782, .sipush 0, .areturn]),
  (1264, [.aload 1, .aload 0, .iload 3, .sipush 1, .iadd, .faload, .invokeinterface 152 2, .aload 2, .aload 0, .iload 3, .sipush 1, .iadd, .faload, .invokeinterface 271 2, .if_icmp .eq 1782, .sipush 0, .areturn]),
  (1287, [.aload 1, .aload 0, .iload 3, .sipush 1, .iadd, .faload, .aload 0, .iload 3, .sipush 2, .iadd, .faload, .invokeinterface 153 3, .aload 2, .aload 0, .iload 3, .sipush 1, .iadd, .faload, .aload 0, .iload 3, .sipush 2, .iadd, .faload, .invokeinterface 272 3, .if_icmp .eq 1782, .sipush 0, .areturn]),
  (1320, [.aload 1, .aload 0, .iload 3, .sipush 1, .iadd, .faload, .aload 0, .iload 3, .sipush 2, .iadd, .faload, .aload 0, .iload 3, .sipush 3, .iadd, .faload, .invokeinterface 154 4, .aload 2, .aload 0, .iload 3, .sipush 1, .iadd, .faload, .aload 0, .iload 3, .sipush 2, .iadd, .faload, .aload 0, .iload 3, .sipush 3, .iadd, .faload, .invokeinterface 274 4, .if_icmp .eq 1782, .sipush 0, .areturn]),
  (1363, [.aload 1, .invokeinterface 155 1, .aload 2, .invokeinterface 275 1, .if_icmp .eq 1782, .sipush 0, .areturn]),
  (1376, [.aload 1, .aload 0, .iload 3, .sipush 1, .iadd, .faload, .aload 0, .iload 3, .sipush 2, .iadd, .faload, .aload 0, .iload 3, .sipush 3, .iadd, .faload, .invokeinterface 156 4, .aload 2, .aload 0, .iload 3, .sipush 1, .iadd, .faload, .aload 0, .iload 3, .sipush 2, .iadd, .faload, .aload 0, .iload 3, .sipush 3, .iadd, .faload, .invokeinterface 277 4, .if_icmp .eq 1782, .sipush 0, .areturn]),
  (1419, [.aload 1, .aload 0, .iload 3, .sipush 1, .iadd, .faload, .aload 0, .iload 3, .sipush 2, .iadd, .faload, .aload 0, .iload 3, .sipush 3, .iadd, .faload, .invokeinterface 157 4, .aload 2, .aload 0, .iload 3, .sipush 1, .iadd, .faload, .aload 0, .iload 3, .sipush 2, .iadd, .faload, .aload 0, .iload 3, .sipush 3, .iadd, .faload, .invokeinterface 279 4, .if_icmp .eq 1782, .sipush 0, .areturn]),
  (1462, [.aload 1, .aload 0, .iload 3, .sipush 1, .iadd, .faload, .aload 0, .iload 3, .sipush 2, .iadd, .faload, .aload 0, .iload 3, .sipush 3, .iadd, .faload, .invokeinterface 158 4, .aload 2, .aload 0, .iload 3, .sipush 1, .iadd, .faload, .aload 0, .iload 3, .sipush 2, .iadd, .faload, .aload 0, .iload 3, .sipush 3, .iadd, .faload, .invokeinterface 281 4, .if_icmp .eq 1782, .sipush 0, .areturn]),
  (1505, [.aload 1, .aload 0, .iload 3, .sipush 1, .iadd, .faload, .aload 0, .iload 3, .sipush 2, .iadd, .faload, .aload 0, .iload 3, .sipush 3, .iadd, .faload, .invokeinterface 159 4, .aload 2, .aload 0, .iload 3, .sipush 1, .iadd, .faload, .aload 0, .iload 3, .sipush 2, .iadd, .faload, .aload 0, .iload 3, .sipush 3, .iadd, .faload, .invokeinterface 283 4, .if_icmp .eq 1782, .sipush 0, .areturn]),
  (1548, [.aload 1, .aload 0, .iload 3, .sipush 1, .iadd, .faload, .aload 0, .iload 3, .sipush 2, .iadd, .faload, .aload 0, .iload 3, .sipush 3, .iadd, .faload, .invokeinterface 160 4, .aload 2, .aload 0, .iload 3, .sipush 1, .iadd, .faload, .aload 0, .iload 3, .sipush 2, .iadd, .faload, .aload 0, .iload 3, .sipush 3, .iadd, .faload, .invokeinterface 285 4, .if_icmp .eq 1782, .sipush 0, .areturn]),
  (1591, [.aload 1, .aload 0, .iload 3, .sipush 1, .iadd, .faload, .aload 0, .iload 3, .sipush 2, .iadd, .faload, .aload 0, .iload 3, .sipush 3, .iadd, .faload, .invokeinterface 162 4, .aload 2, .aload 0, .iload 3, .sipush 1, .iadd, .faload, .aload 0, .iload 3, .sipush 2, .iadd, .faload, .aload 0, .iload 3, .sipush 3, .iadd, .faload, .invokeinterface 286 4, .if_icmp .eq 1782, .sipush 0, .areturn]),
  (1634, [.aload 1, .aload 0, .iload 3, .sipush 1, .iadd, .faload, .aload 0, .iload 3, .sipush 2, .iadd, .faload, .invokeinterface 163 3, .aload 2, .aload 0, .iload 3, .sipush 1, .iadd, .faload, .aload 0, .iload 3, .sipush 2, .iadd, .faload, .invokeinterface 287 3, .if_icmp .eq 1782, .sipush 0, .areturn]),
  (1667, [.aload 1, .aload 0, .iload 3, .sipush 1, .iadd, .faload, .aload 0, .iload 3, .sipush 2, .iadd, .faload, .aload 0, .iload 3, .sipush 3, .iadd, .faload, .invokeinterface 165 4, .aload 2, .aload 0, .iload 3, .sipush 1, .iadd, .faload, .aload 0, .iload 3, .sipush 2, .iadd, .faload, .aload 0, .iload 3, .sipush 3, .iadd, .faload, .invokeinterface 289 4, .if_icmp .eq 1782, .sipush 0, .areturn]),
  (1710, [.aload 1, .aload 0, .iload 3, .sipush 1, .iadd, .faload, .invokeinterface 166 2, .aload 2, .aload 0, .iload 3, .sipush 1, .iadd, .faload, .invokeinterface 295 2, .if_icmp .eq 1782, .sipush 0, .areturn]),
  (1733, [.aload 1, .aload 0, .iload 3, .sipush 1, .iadd, .faload, .invokeinterface 167 2, .aload 2, .aload 0, .iload 3, .sipush 1, .iadd, .faload, .invokeinterface 296 2, .if_icmp .eq 1782, .sipush 0, .areturn]),
  (1756, [.aload 1, .invokeinterface 168 1, .aload 2, .invokeinterface 298 1, .if_icmp .eq 1782, .sipush 0, .areturn]),
  (1769, [.aload 1, .invokeinterface 169 1, .aload 2, .invokeinterface 299 1, .if_icmp .eq 1782, .sipush 0, .areturn]),
  (1782, [.iinc 3 5, .goto 18]),
  (1788, [.sipush 1, .areturn])]
def g_pr : List (List (Nat × List Instr)) := [g_c0, g_c1, g_c2, g_c3, g_c4, g_c5, g_c6, g_c7, g_c8, g_c9, g_c10, g_c11, g_c12, g_c13, g_c14, g_c15, g_c16, g_c17, g_c18, g_c19, g_c20, g_c21, g_c22, g_c23, g_c24, g_c25, g_c26, g_c27, g_c28, g_c29, g_c30, g_c31, g_c32, g_c33, g_c34, g_c35, g_c36, g_c37, g_c38, g_c39, g_c40, g_c41, g_c42, g_c43, g_c44, g_c45, g_c46, g_c47, g_c48, g_c49, g_c50, g_c51, g_c52, g_c53, g_c54, g_c55, g_c56, g_c57, g_c58, g_c59, g_c60, g_c61, g_c62, g_c63, g_c64, g_c65, g_c66, g_c67, g_c68, g_c69, g_c70, g_c71, g_c72, g_c73, g_c74, g_c75, g_c76, g_c77, g_c78, g_c79, g_c80, g_c81, g_c82, g_c83, g_c84, g_c85, g_c86, g_c87, g_c88, g_c89, g_c90, g_c91, g_c92, g_c93, g_c94, g_c95, g_c96, g_c97, g_c98, g_c99, g_c100, g_c101, g_c102, g_c103, g_c104, g_c105, g_c106, g_c107, g_c108, g_c109, g_c110, g_c111, g_c112, g_c113, g_c114, g_c115, g_c116, g_c117, g_c118, g_c119, g_c120, g_c121, g_c122, g_c123, g_c124, g_c125, g_c126, g_c127, g_c128, g_c129, g_c130, g_c131, g_c132, g_c133, g_c134, g_c135, g_c136, g_c137, g_c138, g_c139, g_c140, g_c141, g_c142, g_c143, g_c144, g_c145, g_c146, g_c147, g_c148, g_c149, g_c150, g_c151, g_c152, g_c153, g_c154, g_c155, g_c156, g_c157, g_c158, g_c159, g_c160, g_c161, g_c162, g_c163, g_c164, g_c165, g_c166, g_c167, g_c168, g_c169, g_c170, g_c171, g_c172, g_c173, g_c174, g_c175, g_c176, g_c177, g_c178, g_c179, g_c180, g_c181, g_c182, g_c183, g_c184, g_c185, g_c186, g_c187, g_c188, g_c189, g_c190, g_c191, g_c192, g_c193, g_c194, g_c195, g_c196, g_c197, g_c198, g_c199, g_c200, g_c201, g_c202, g_c203, g_c204, g_c205, g_c206, g_c207, g_c208, g_c209, g_c210, g_c211, g_c212, g_c213, g_c214, g_c215, g_c216, g_c217, g_c218, g_c219, g_c220, g_c221, g_c222, g_c223, g_c224, g_c225, g_c226, g_c227, g_c228, g_c229, g_c230, g_c231, g_c232, g_c233, g_c234, g_c235, g_c236, g_c237, g_c238, g_c239, g_c240, g_c241, g_c242, g_c243, g_c244, g_c245, g_c246, g_c247, g_c248, g_c249, g_c250, g_c251, g_c252, g_c253, g_c254, g_c255, g_c256, g_c257, g_c258, g_c259, g_c260, g_c261, g_c262, g_c263, g_c264, g_c265, g_c266, g_c267, g_c268, g_c269, g_c270, g_c271, g_c272, g_c273, g_c274, g_c275, g_c276, g_c277, g_c278, g_c279, g_c280, g_c281, g_c282, g_c283, g_c284, g_c285, g_c286, g_c287, g_c288, g_c289, g_c290, g_c291, g_c292, g_c293, g_c294, g_c295, g_c296, g_c297, g_c298, g_c299, g_c300, g_c301, g_c302, g_c303, g_c304, g_c305, g_c306, g_c307, g_c308]
def g_P (c l : Nat) : List Instr := ((g_pr.getD c []).lookup l).getD []
def g_mxs : List Nat := [1, 4, 4, 3, 2, 4, 5, 4, 1, 4, 7, 4, 1, 3, 2, 3, 2, 2, 3, 7, 4, 6, 7, 6, 1, 5, 3, 2, 1, 5, 1, 1, 1, 2, 2, 2, 2, 2, 2, 1, 2, 2, 2, 1, 2, 1, 2, 2, 1, 5, 3, 6, 2, 2, 5, 3, 4, 4, 1, 4, 2, 3, 2, 2, 1, 3, 3, 2, 5, 2, 2, 3, 2, 2, 4, 1, 1, 2, 3, 6, 2, 2, 2, 5, 6, 1, 2, 2, 7, 9, 4, 1, 5, 3, 4, 5, 3, 6, 6, 5, 9, 5, 6, 1, 5, 2, 2, 2, 5, 3, 3, 4, 3, 4, 4, 3, 3, 4, 3, 4, 3, 2, 2, 4, 2, 1, 3, 2, 5, 2, 2, 2, 2, 2, 2, 2, 2, 4, 2, 3, 2, 3, 3, 2, 2, 6, 2, 2, 1, 3, 1, 6, 2, 3, 4, 1, 4, 4, 5, 9, 7, 7, 4, 7, 2, 5, 2, 2, 1, 1, 2, 5, 3, 4, 2, 2, 2, 4, 1, 2, 3, 2, 2, 4, 1, 2, 2, 2, 6, 1, 1, 1, 4, 3, 2, 2, 3, 5, 3, 2, 3, 3, 3, 1, 6, 3, 3, 5, 4, 3, 3, 4, 3, 3, 2, 2, 2, 1, 4, 1, 4, 5, 2, 2, 3, 3, 3, 4, 3, 3, 2, 4, 2, 5, 2, 8, 2, 4, 7, 5, 6, 4, 4, 7, 2, 1, 3, 3, 8, 6, 3, 3, 3, 2, 3, 2, 5, 2, 9, 3, 7, 1, 3, 6, 9, 4, 2, 2, 1, 1, 7, 3, 3, 3, 5, 6, 2, 5, 1, 4, 2, 5, 3, 8, 4, 8, 4, 5, 2, 6, 3, 2, 3, 4, 4, 2, 2, 3, 2, 2, 1, 1, 1, 2, 1, 2, 2, 3, 4]
def g_mx (c : Nat) : Nat := g_mxs.getD c 0
end
section
/-! TABLES of names, links and words, by wip/whole/gentab.py: own is the number of the class that holds the code, p a place in lw_tbl -/
def g_cn (o : Nat) : String := (["BridgeService$Acting", "BridgeService$Laws", "BridgeService$Plans", "BridgeService$Reader", "BridgeService$Reports", "BridgeService$Rows", "BridgeService$Sheet", "BridgeService$Shelf", "BridgeService$Table", "BridgeService", "BridgeServiceModel", "BridgeServiceLaw", "java/lang/Integer", "java/lang/String", "java/lang/StringLatin1", "jdk/internal/util/Preconditions"] : List String).getD o ""
def q_F : List (List (String × String × Bool)) := [[("bodies", "[I", true), ("traced", "I", false), ("isParted", "Z", false), ("kind", "I", false), ("n", "I", false), ("a", "I", false)], [("kinds", "[I", true), ("wills", "[I", true), ("ends", "[I", true), ("code", "[I", true), ("facts", "[I", true), ("count", "I", false), ("size", "I", false)], [("table", "LBridgeService$Table;", true), ("plan", "[I", true), ("first", "[I", true), ("length", "I", false), ("wanted", "I", false), ("most", "I", false), ("count", "I", false), ("fewest", "I", false), ("everSeated", "I", false)], [("draft", "LBridgeService$Laws;", true), ("tape", "[I", true), ("bytes", "I", false), ("at", "I", false), ("start", "I", false), ("number", "I", false), ("due", "I", false), ("kind", "I", false), ("will", "I", false), ("left", "I", false), ("sign", "I", false), ("open", "I", false), ("waiting", "[I", true), ("waits", "I", false)], [("behind", "[I", true), ("asked", "[I", true), ("least", "[I", true), ("most", "[I", true), ("count", "I", false)], [("table", "LBridgeService$Table;", true), ("cells", "[I", true), ("count", "I", false)], [("items", "[J", true), ("sort", "I", false), ("size", "I", false)], [("holds", "I", false), ("piece", "I", false), ("sort", "I", false), ("size", "I", false)], [("kinds", "[I", true), ("firsts", "[I", true), ("widths", "[I", true), ("homes", "[I", true), ("angers", "[I", true), ("welcomes", "[I", true), ("allNews", "[I", true), ("laws", "LBridgeService$Laws;", true), ("reports", "LBridgeService$Reports;", true), ("pieces", "I", false), ("seated", "I", false), ("year", "I", false), ("end", "I", false), ("score", "I", false), ("mood", "I", false), ("she", "I", false), ("z", "I", false)], [("table", "LBridgeService$Table;", true), ("kept", "LBridgeService$Table;", true), ("isKept", "Z", false), ("reader", "LBridgeService$Reader;", true), ("plans", "LBridgeService$Plans;", true), ("rows", "LBridgeService$Rows;", true), ("sheets", "[LBridgeService$Sheet;", true), ("shelves", "[LBridgeService$Shelf;", true), ("acting", "LBridgeService$Acting;", true)], [("s", "[I", true), ("kept", "[I", true), ("laid", "[I", true), ("isKept", "Z", false), ("pile", "[I", true), ("tape", "[I", true), ("taped", "I", false), ("letters", "[C", true), ("at", "I", false), ("begun", "I", false), ("token", "I", false), ("value", "I", false), ("opened", "I", false), ("steps", "I", false), ("step", "[I", true), ("read", "[I", true), ("leastPlaces", "I", false), ("firstGone", "I", false), ("saved", "[I", true), ("plan", "[I", true), ("bestPlan", "[I", true), ("most", "I", false), ("many", "I", false), ("few", "I", false), ("everSeated", "I", false), ("sheThen", "[I", true), ("moodThen", "[I", true), ("firstFit", "I", false), ("rows", "[I", true), ("rowMany", "I", false), ("sorts", "[I", true), ("sizes", "[I", true), ("number", "[I", true), ("holds", "[I", true), ("heldOne", "[I", true), ("trace", "[I", true), ("traced", "I", false), ("own", "I", false), ("isParted", "Z", false)]]
def q_T (c : Nat) : u_T := fun k => let f := (q_F.getD c []).getD k ("", "", false); (g_cn c, f.1, f.2.1, f.2.2)
def q_ty (c k : Nat) : FieldType := (parseFieldDescriptor (q_T c k).2.2.1).getD .int
/-- is the field a reference -/
def q_rf (c k : Nat) : Bool := match q_ty c k with
  | .int => false
  | .boolean => false
  | _ => true
abbrev q_cl : List vw_C := (List.range 11).map fun c => (g_cn c, q_T c, e_nf c)
/-- a method: own, name, descriptor -/
def g_yl : List (Nat × String × String) := [(0, "<init>", "()V"), (0, "begin", "(III)V"), (0, "perform", "(II)I"), (0, "lays", "(I)I"), (0, "note", "(I)V"), (0, "tilts", "(I)I"), (0, "breaks", "(I)I"), (0, "shines", "(I)I"), (1, "<init>", "()V"), (1, "tellTo", "(I)I"), (1, "holds", "(II)Z"), (1, "compares", "(I)Z"), (1, "empty", "()V"), (1, "comparison", "(III)I"), (1, "append", "(I)V"), (1, "close", "(II)V"), (1, "copyFrom", "(LBridgeService$Laws;)V"), (2, "<init>", "(LBridgeService$Table;)V"), (2, "tryAll", "(II)V"), (2, "tryFrom", "(III)V"), (2, "weigh", "(II)V"), (2, "valueOfGame", "(IZ)I"), (2, "valueOfAct", "(IIZ)I"), (2, "leastGoodAct", "(I)I"), (3, "<init>", "()V"), (3, "takeBytes", "(JI)I"), (3, "readAll", "()I"), (3, "nextWord", "()I"), (3, "isLetter", "(I)Z"), (3, "readName", "()I"), (3, "isDigit", "(I)Z"), (3, "readNumber", "()I"), (3, "signWord", "(I)I"), (3, "mayStand", "(I)Z"), (3, "takeKind", "(I)Z"), (3, "takeTail", "(I)Z"), (3, "takeWill", "(I)Z"), (3, "takeOne", "(I)Z"), (3, "waitWith", "(I)Z"), (3, "isValue", "(I)Z"), (3, "valueOf", "(I)I"), (3, "takeSign", "(I)Z"), (3, "takeRight", "(I)Z"), (3, "endOne", "()V"), (3, "takeJoint", "(I)Z"), (3, "takeClose", "()Z"), (3, "appendJoints", "(I)V"), (3, "takeSemicolon", "(I)Z"), (4, "<init>", "()V"), (4, "add", "(IIII)I"), (4, "latest", "()I"), (4, "wrongBehind", "(III)I"), (4, "copyFrom", "(LBridgeService$Reports;)V"), (5, "<init>", "(LBridgeService$Table;)V"), (5, "fill", "([II)I"), (5, "has", "(II)Z"), (5, "firstWrong", "()I"), (5, "isRight", "(I)Z"), (6, "<init>", "()V"), (6, "become", "(II)V"), (6, "hasItem", "(I)Z"), (6, "putItem", "(II)V"), (6, "narrowed", "(I)J"), (6, "refusalAs", "(I)I"), (7, "<init>", "()V"), (7, "holdRow", "(II)V"), (7, "hold", "(II)V"), (8, "<init>", "()V"), (8, "addPiece", "(IIII)I"), (8, "hasPiece", "(I)Z"), (8, "isSeated", "(I)Z"), (8, "grudgeOf", "(I)I"), (8, "wouldSit", "(I)Z"), (8, "willOf", "(I)I"), (8, "putSeated", "(IZ)I"), (8, "beginAnew", "()V"), (8, "isOver", "()Z"), (8, "newsIn", "(I)I"), (8, "passAndScore", "(I)I"), (8, "passYear", "(I)I"), (8, "leastWilling", "()I"), (8, "sitDown", "(I)I"), (8, "getUp", "(I)V"), (8, "placesSpanned", "(I)J"), (8, "restWorth", "(I)I"), (8, "moment", "()I"), (8, "yearsYet", "(I)I"), (8, "backTo", "(I)V"), (8, "restUntil", "(II)I"), (8, "bestValue", "([III)I"), (8, "firstUnspanned", "()I"), (8, "allPieces", "()I"), (8, "countNotThere", "()I"), (8, "countBranches", "()I"), (8, "branchOf", "(I)I"), (8, "closeTo", "(I)I"), (8, "areClose", "(II)Z"), (8, "wayOver", "(II)I"), (8, "firstFetched", "(II)I"), (8, "countFitting", "()I"), (8, "wrongBy", "(III)I"), (8, "firstFitting", "(I)I"), (8, "leastLiar", "()I"), (8, "drawLot", "()I"), (8, "worthByLot", "()I"), (8, "isAct", "(I)Z"), (8, "copyFrom", "(LBridgeService$Table;)V"), (9, "<init>", "()V"), (9, "plate", "(IIII)I"), (9, "isOutside", "(III)Z"), (9, "plateOf", "(II)I"), (9, "spanOf", "(III)I"), (9, "isUnder", "(II)Z"), (9, "change", "(III)I"), (9, "put", "([III)I"), (9, "remake", "(II)I"), (9, "news", "(II)I"), (9, "home", "(III)I"), (9, "homeOf", "(II)I"), (9, "family", "(II)I"), (9, "ends", "(I)I"), (9, "anew", "()I"), (9, "state", "(I)I"), (9, "feed", "(JI)I"), (9, "rules", "()I"), (9, "year", "()I"), (9, "moodBehind", "(II)I"), (9, "placesOf", "(II)J"), (9, "stepsOn", "(JII)I"), (9, "on", "(I)I"), (9, "when", "(I)I"), (9, "widthFor", "(I)I"), (9, "pieceFor", "(I)I"), (9, "over", "(I)I"), (9, "gap", "(I)I"), (9, "branches", "(I)I"), (9, "leastOf", "(I)I"), (9, "fetch", "(II)I"), (9, "best", "(I)I"), (9, "ith", "(II)I"), (9, "ways", "(I)I"), (9, "supper", "(II)I"), (9, "bars", "(II)I"), (9, "game", "(I)I"), (9, "play", "(I)I"), (9, "report", "(IIII)I"), (9, "forget", "()I"), (9, "lost", "(I)I"), (9, "liar", "()I"), (9, "seed", "(I)I"), (9, "lot", "()I"), (9, "times", "(II)I"), (9, "prove", "(I)I"), (9, "row", "(II)I"), (9, "alterRow", "(III)I"), (9, "judge", "()I"), (9, "sheet", "(III)I"), (9, "write", "(III)I"), (9, "item", "(III)I"), (9, "goAll", "(III)I"), (9, "wouldBe", "(III)I"), (9, "worthOfItems", "(LBridgeService$Sheet;II)I"), (9, "shelf", "(III)I"), (9, "taken", "(II)I"), (9, "heldOn", "(LBridgeService$Shelf;)I"), (9, "act", "(III)I"), (9, "trace", "(I)I"), (9, "many", "(I)I"), (9, "keep", "()I"), (9, "again", "()I"), (10, "<init>", "()V"), (10, "feed", "(JI)I"), (10, "in1", "(III)Z"), (10, "rules", "()I"), (10, "next", "()V"), (10, "byteAt", "(I)I"), (10, "readsName", "()V"), (10, "isNameOf", "(I)Z"), (10, "readsNumber", "()V"), (10, "readsRule", "(I)Z"), (10, "takes", "(I)Z"), (10, "readsCondition", "()Z"), (10, "readsAll", "()Z"), (10, "readsOne", "()Z"), (10, "readsWithin", "()Z"), (10, "readsLike", "()Z"), (10, "readsValue", "()Z"), (10, "lays", "(I)V"), (10, "plate", "(IIII)I"), (10, "isFirst", "(I)Z"), (10, "isDigit", "(I)Z"), (10, "isHome", "(I)Z"), (10, "puts", "(III)V"), (10, "plateOf", "(II)I"), (10, "isPiece", "(I)Z"), (10, "spansOf", "(I)I"), (10, "get", "(II)I"), (10, "spansBy", "(III)I"), (10, "grudgeOf", "(I)I"), (10, "wouldSit", "(I)Z"), (10, "willOf", "(I)I"), (10, "ruleOf", "(II)I"), (10, "isUnder", "(II)Z"), (10, "above", "(I)I"), (10, "holdsFor", "(II)Z"), (10, "knownOf", "(II)I"), (10, "joined", "(III)I"), (10, "change", "(III)I"), (10, "becomes", "(II)I"), (10, "remake", "(II)I"), (10, "news", "(II)I"), (10, "home", "(III)I"), (10, "homeOf", "(II)I"), (10, "family", "(II)I"), (10, "ends", "(I)I"), (10, "anew", "()I"), (10, "state", "(I)I"), (10, "isOver", "()Z"), (10, "those", "(I)I"), (10, "year", "()I"), (10, "goesBy", "(I)I"), (10, "moodBy", "(II)I"), (10, "held", "(II)I"), (10, "restOne", "()I"), (10, "meets", "(I)I"), (10, "sits", "(I)I"), (10, "walksOn", "()I"), (10, "isThere", "(I)Z"), (10, "isSpanned", "(II)Z"), (10, "on", "(I)I"), (10, "layDown", "()V"), (10, "restOf", "(I)I"), (10, "layBack", "()V"), (10, "when", "(I)I"), (10, "widthFor", "(I)I"), (10, "bestFor", "(III)I"), (10, "pieceFor", "(I)I"), (10, "over", "(I)I"), (10, "gap", "(I)I"), (10, "branches", "(I)I"), (10, "branchOf", "(I)I"), (10, "areClose", "(II)Z"), (10, "fetch", "(II)I"), (10, "goesRound", "(IIII)V"), (10, "best", "(I)I"), (10, "isPlan", "(I)Z"), (10, "triesAll", "(II)V"), (10, "daysOf", "(I)I"), (10, "goesPlans", "(IIIII)V"), (10, "endsPlan", "(IIII)V"), (10, "saves", "(I)V"), (10, "restores", "(I)V"), (10, "ith", "(II)I"), (10, "ways", "(I)I"), (10, "supper", "(II)I"), (10, "isSet", "(I)Z"), (10, "bars", "(II)I"), (10, "game", "(I)I"), (10, "playedFrom", "(II)I"), (10, "play", "(I)I"), (10, "report", "(IIII)I"), (10, "forget", "()I"), (10, "lost", "(I)I"), (10, "fitting", "(I)I"), (10, "tellsStranger", "(III)V"), (10, "isSo", "(I)Z"), (10, "liar", "()I"), (10, "seed", "(I)I"), (10, "lot", "()I"), (10, "byLot", "()I"), (10, "times", "(II)I"), (10, "prove", "(I)I"), (10, "row", "(II)I"), (10, "isRow", "(II)Z"), (10, "alterRow", "(III)I"), (10, "judge", "()I"), (10, "isAct", "(I)Z"), (10, "sheet", "(III)I"), (10, "isSheet", "(I)Z"), (10, "write", "(III)I"), (10, "narrowed", "(II)I"), (10, "item", "(III)I"), (10, "lacks", "(II)I"), (10, "goAll", "(III)I"), (10, "isItem", "(III)Z"), (10, "wouldBe", "(III)I"), (10, "shelf", "(III)I"), (10, "taken", "(II)I"), (10, "heldOn", "(I)I"), (10, "act", "(III)I"), (10, "laysAs", "(II)I"), (10, "starts", "(I)V"), (10, "tiltsAs", "(II)I"), (10, "breaksAs", "(II)I"), (10, "shinesAs", "(II)I"), (10, "trace", "(I)I"), (10, "many", "(I)I"), (10, "ones", "(I)I"), (10, "keep", "()I"), (10, "again", "()I"), (12, "bitCount", "(I)I"), (13, "length", "()I"), (13, "coder", "()B"), (13, "charAt", "(I)C"), (13, "isLatin1", "()Z"), (13, "checkIndex", "(II)V"), (14, "charAt", "([BI)C"), (15, "checkIndex", "(IILjava/util/function/BiFunction;)I"), (11, "law", "([I)Z")]
def g_y (c : Nat) : MethodName := let y := g_yl.getD c (0, "", ""); ⟨g_cn y.1, y.2.1, y.2.2⟩
def g_own (c : Nat) : Nat := (g_yl.getD c (0, "", "")).1
def g_rl : List (Option FieldType) := [none, none, some .int, some .int, none, some .int, some .int, some .int, none, some .int, some .boolean, some .boolean, none, some .int, none, none, none, none, none, none, none, some .int, some .int, some .int, none, some .int, some .int, some .int, some .boolean, some .int, some .boolean, some .int, some .int, some .boolean, some .boolean, some .boolean, some .boolean, some .boolean, some .boolean, some .boolean, some .int, some .boolean, some .boolean, none, some .boolean, some .boolean, none, some .boolean, none, some .int, some .int, some .int, none, none, some .int, some .boolean, some .int, some .boolean, none, none, some .boolean, none, some .long, some .int, none, none, none, none, some .int, some .boolean, some .boolean, some .int, some .boolean, some .int, some .int, none, some .boolean, some .int, some .int, some .int, some .int, some .int, none, some .long, some .int, some .int, some .int, none, some .int, some .int, some .int, some .int, some .int, some .int, some .int, some .int, some .boolean, some .int, some .int, some .int, some .int, some .int, some .int, some .int, some .int, some .boolean, none, none, some .int, some .boolean, some .int, some .int, some .boolean, some .int, some .int, some .int, some .int, some .int, some .int, some .int, some .int, some .int, some .int, some .int, some .int, some .int, some .int, some .long, some .int, some .int, some .int, some .int, some .int, some .int, some .int, some .int, some .int, some .int, some .int, some .int, some .int, some .int, some .int, some .int, some .int, some .int, some .int, some .int, some .int, some .int, some .int, some .int, some .int, some .int, some .int, some .int, some .int, some .int, some .int, some .int, some .int, some .int, some .int, some .int, some .int, some .int, some .int, some .int, some .int, some .int, none, some .int, some .boolean, some .int, none, some .int, none, some .boolean, none, some .boolean, some .boolean, some .boolean, some .boolean, some .boolean, some .boolean, some .boolean, some .boolean, none, some .int, some .boolean, some .boolean, some .boolean, none, some .int, some .boolean, some .int, some .int, some .int, some .int, some .boolean, some .int, some .int, some .boolean, some .int, some .boolean, some .int, some .int, some .int, some .int, some .int, some .int, some .int, some .int, some .int, some .int, some .int, some .int, some .boolean, some .int, some .int, some .int, some .int, some .int, some .int, some .int, some .int, some .int, some .boolean, some .boolean, some .int, none, some .int, none, some .int, some .int, some .int, some .int, some .int, some .int, some .int, some .int, some .boolean, some .int, none, some .int, some .boolean, none, some .int, none, none, none, none, some .int, some .int, some .int, some .boolean, some .int, some .int, some .int, some .int, some .int, some .int, some .int, some .int, none, some .boolean, some .int, some .int, some .int, some .int, some .int, some .int, some .int, some .boolean, some .int, some .int, some .boolean, some .int, some .boolean, some .int, some .int, some .int, some .int, some .int, some .boolean, some .int, some .int, some .int, some .int, some .int, some .int, none, some .int, some .int, some .int, some .int, some .int, some .int, some .int, some .int, some .int, some .int, some .byte, some .char, some .boolean, none, some .char, some .int, (some .boolean)]
def g_ret (c : Nat) : Option FieldType := g_rl.getD c none
/-- how many arguments, the receiver too; 0 static, 1 of an object, 2 a constructor; places of: code, initialized, static or instanceMethod, selects -/
def g_kl : List (Nat × Nat × Nat × Nat × Nat × Nat) := [(1, 2, 381, 110, 380, 0), (4, 1, 1163, 110, 1161, 1162), (3, 1, 1167, 110, 1165, 1166), (2, 1, 1171, 110, 1170, 34), (2, 1, 1175, 110, 1174, 35), (2, 1, 1179, 110, 1178, 36), (2, 1, 1184, 110, 1183, 37), (2, 1, 1188, 110, 1187, 38), (1, 2, 139, 105, 138, 0), (2, 1, 522, 105, 520, 521), (3, 1, 531, 105, 530, 0), (2, 1, 536, 105, 535, 1), (1, 1, 613, 105, 611, 612), (3, 0, 726, 105, 725, 0), (2, 1, 730, 105, 728, 729), (3, 1, 754, 105, 752, 753), (2, 1, 758, 105, 756, 757), (2, 2, 319, 108, 318, 0), (3, 1, 917, 108, 915, 916), (4, 1, 923, 108, 922, 25), (3, 1, 927, 108, 926, 26), (3, 1, 957, 108, 956, 27), (4, 1, 961, 108, 960, 28), (2, 1, 970, 108, 968, 969), (1, 2, 266, 107, 265, 0), (3, 1, 600, 107, 598, 599), (1, 1, 609, 107, 607, 608), (1, 1, 617, 107, 616, 2), (1, 0, 620, 107, 619, 0), (1, 1, 624, 107, 623, 3), (1, 0, 676, 107, 675, 0), (1, 1, 680, 107, 679, 4), (1, 0, 683, 107, 682, 0), (2, 1, 687, 107, 686, 5), (2, 1, 691, 107, 690, 6), (2, 1, 695, 107, 694, 7), (2, 1, 699, 107, 698, 8), (2, 1, 704, 107, 703, 9), (2, 1, 708, 107, 707, 10), (1, 0, 711, 107, 710, 0), (2, 1, 715, 107, 714, 11), (2, 1, 719, 107, 718, 12), (2, 1, 723, 107, 722, 13), (1, 1, 734, 107, 733, 14), (2, 1, 738, 107, 737, 15), (1, 1, 742, 107, 741, 16), (2, 1, 746, 107, 745, 17), (2, 1, 750, 107, 749, 18), (1, 2, 171, 106, 170, 0), (5, 1, 978, 106, 976, 977), (1, 1, 998, 106, 996, 997), (4, 1, 1003, 106, 1001, 1002), (2, 1, 1211, 106, 1209, 1210), (2, 2, 359, 109, 358, 0), (3, 1, 1052, 109, 1050, 1051), (3, 1, 1064, 109, 1062, 1063), (1, 1, 1076, 109, 1074, 1075), (2, 1, 1080, 109, 1079, 30), (1, 2, 407, 111, 406, 0), (3, 1, 1093, 111, 1091, 1092), (2, 1, 1101, 111, 1099, 1100), (3, 1, 1105, 111, 1103, 1104), (2, 1, 1110, 111, 1109, 31), (2, 1, 1118, 111, 1116, 1117), (1, 2, 426, 112, 425, 0), (3, 1, 1142, 112, 1140, 1141), (3, 1, 1146, 112, 1144, 1145), (1, 2, 133, 104, 132, 0), (5, 1, 483, 104, 481, 482), (2, 1, 491, 104, 489, 490), (2, 1, 495, 104, 493, 494), (2, 1, 505, 104, 503, 504), (2, 1, 512, 104, 510, 511), (2, 1, 518, 104, 516, 517), (3, 1, 547, 104, 545, 546), (1, 1, 579, 104, 577, 578), (1, 1, 587, 104, 585, 586), (2, 1, 591, 104, 589, 590), (2, 1, 770, 104, 768, 769), (2, 1, 774, 104, 772, 773), (1, 1, 783, 104, 782, 19), (2, 1, 790, 104, 789, 20), (2, 1, 795, 104, 794, 21), (2, 1, 800, 104, 799, 22), (2, 1, 815, 104, 813, 814), (1, 1, 819, 104, 817, 818), (2, 1, 823, 104, 821, 822), (2, 1, 827, 104, 825, 826), (3, 1, 835, 104, 833, 834), (4, 1, 843, 104, 841, 842), (1, 1, 860, 104, 858, 859), (1, 1, 864, 104, 862, 863), (1, 1, 868, 104, 866, 867), (1, 1, 876, 104, 874, 875), (2, 1, 880, 104, 878, 879), (2, 1, 884, 104, 883, 23), (3, 1, 888, 104, 887, 24), (3, 1, 904, 104, 902, 903), (3, 1, 908, 104, 906, 907), (1, 1, 990, 104, 988, 989), (4, 1, 994, 104, 993, 29), (2, 1, 1008, 104, 1006, 1007), (1, 1, 1016, 104, 1014, 1015), (1, 1, 1034, 104, 1032, 1033), (1, 1, 1043, 104, 1041, 1042), (2, 1, 1084, 104, 1082, 1083), (2, 1, 1205, 104, 1203, 1204), (1, 2, 125, 103, 124, 0), (5, 1, 476, 103, 474, 475), (3, 0, 479, 103, 478, 0), (3, 1, 487, 103, 485, 486), (3, 0, 498, 103, 497, 0), (2, 0, 525, 103, 524, 0), (4, 1, 540, 103, 538, 539), (3, 0, 543, 103, 542, 0), (3, 1, 551, 103, 549, 550), (3, 1, 555, 103, 553, 554), (4, 1, 559, 103, 557, 558), (3, 1, 563, 103, 561, 562), (3, 1, 567, 103, 565, 566), (2, 1, 571, 103, 569, 570), (1, 1, 575, 103, 573, 574), (2, 1, 583, 103, 581, 582), (3, 1, 596, 103, 594, 595), (1, 1, 605, 103, 603, 604), (1, 1, 766, 103, 764, 765), (2, 0, 778, 103, 777, 0), (2, 0, 804, 103, 803, 0), (3, 0, 807, 103, 806, 0), (2, 1, 811, 103, 809, 810), (2, 1, 831, 103, 829, 830), (2, 1, 839, 103, 837, 838), (2, 1, 848, 103, 846, 847), (2, 1, 852, 103, 850, 851), (2, 1, 856, 103, 854, 855), (2, 1, 872, 103, 870, 871), (1, 0, 894, 103, 893, 0), (3, 1, 899, 103, 897, 898), (2, 1, 913, 103, 911, 912), (3, 1, 935, 103, 933, 934), (2, 1, 939, 103, 937, 938), (3, 1, 943, 103, 941, 942), (3, 1, 947, 103, 945, 946), (2, 1, 952, 103, 950, 951), (2, 1, 966, 103, 964, 965), (5, 1, 974, 103, 972, 973), (1, 1, 982, 103, 980, 981), (2, 1, 986, 103, 984, 985), (1, 1, 1012, 103, 1010, 1011), (2, 1, 1026, 103, 1024, 1025), (1, 1, 1030, 103, 1028, 1029), (3, 1, 1039, 103, 1037, 1038), (2, 1, 1048, 103, 1046, 1047), (3, 1, 1060, 103, 1058, 1059), (4, 1, 1068, 103, 1066, 1067), (1, 1, 1072, 103, 1070, 1071), (4, 1, 1089, 103, 1087, 1088), (4, 1, 1097, 103, 1095, 1096), (4, 1, 1114, 103, 1112, 1113), (4, 1, 1122, 103, 1120, 1121), (4, 1, 1127, 103, 1125, 1126), (4, 1, 1132, 103, 1131, 32), (4, 1, 1138, 103, 1136, 1137), (3, 1, 1150, 103, 1148, 1149), (2, 1, 1154, 103, 1153, 33), (4, 1, 1159, 103, 1157, 1158), (2, 1, 1192, 103, 1190, 1191), (2, 1, 1196, 103, 1194, 1195), (1, 1, 1201, 103, 1199, 1200), (1, 1, 1216, 103, 1214, 1215), (1, 2, 1221, 113, 1220, 0), (3, 1, 1345, 113, 1343, 1344), (3, 0, 1348, 113, 1347, 0), (1, 1, 1353, 113, 1351, 1352), (1, 1, 1357, 113, 1356, 39), (2, 1, 1361, 113, 1360, 40), (1, 1, 1365, 113, 1364, 41), (2, 1, 1369, 113, 1368, 42), (1, 1, 1373, 113, 1372, 43), (2, 1, 1377, 113, 1376, 44), (2, 1, 1381, 113, 1380, 45), (1, 1, 1385, 113, 1384, 46), (1, 1, 1389, 113, 1388, 47), (1, 1, 1393, 113, 1392, 48), (1, 1, 1397, 113, 1396, 49), (1, 1, 1401, 113, 1400, 50), (1, 1, 1405, 113, 1404, 51), (2, 1, 1409, 113, 1408, 52), (5, 1, 1413, 113, 1411, 1412), (1, 0, 1416, 113, 1415, 0), (1, 0, 1419, 113, 1418, 0), (1, 0, 1422, 113, 1421, 0), (4, 1, 1426, 113, 1425, 53), (3, 1, 1430, 113, 1428, 1429), (2, 1, 1434, 113, 1433, 54), (2, 1, 1438, 113, 1437, 55), (3, 1, 1442, 113, 1441, 56), (3, 0, 1445, 113, 1444, 0), (2, 1, 1449, 113, 1448, 57), (2, 1, 1453, 113, 1452, 58), (2, 1, 1457, 113, 1456, 59), (3, 1, 1461, 113, 1460, 60), (2, 0, 1464, 113, 1463, 0), (1, 0, 1467, 113, 1466, 0), (3, 1, 1471, 113, 1470, 61), (3, 1, 1475, 113, 1474, 62), (3, 0, 1478, 113, 1477, 0), (4, 1, 1482, 113, 1480, 1481), (3, 1, 1486, 113, 1485, 63), (3, 1, 1490, 113, 1488, 1489), (3, 1, 1494, 113, 1492, 1493), (4, 1, 1498, 113, 1496, 1497), (3, 1, 1502, 113, 1500, 1501), (3, 1, 1506, 113, 1504, 1505), (2, 1, 1510, 113, 1508, 1509), (1, 1, 1514, 113, 1512, 1513), (2, 1, 1518, 113, 1516, 1517), (1, 1, 1522, 113, 1521, 64), (2, 1, 1526, 113, 1525, 65), (1, 1, 1530, 113, 1528, 1529), (2, 1, 1534, 113, 1533, 66), (2, 0, 1537, 113, 1536, 0), (2, 0, 1540, 113, 1539, 0), (1, 1, 1544, 113, 1543, 67), (2, 1, 1548, 113, 1547, 68), (2, 1, 1552, 113, 1551, 69), (1, 1, 1556, 113, 1555, 70), (2, 1, 1560, 113, 1559, 71), (3, 1, 1564, 113, 1563, 72), (2, 1, 1568, 113, 1566, 1567), (1, 1, 1572, 113, 1571, 73), (2, 1, 1576, 113, 1575, 74), (1, 1, 1580, 113, 1579, 75), (2, 1, 1584, 113, 1582, 1583), (2, 1, 1588, 113, 1586, 1587), (4, 1, 1592, 113, 1591, 76), (2, 1, 1596, 113, 1594, 1595), (2, 1, 1600, 113, 1598, 1599), (2, 1, 1604, 113, 1602, 1603), (2, 1, 1608, 113, 1606, 1607), (2, 1, 1612, 113, 1611, 77), (3, 1, 1616, 113, 1615, 78), (3, 1, 1620, 113, 1618, 1619), (5, 1, 1624, 113, 1623, 79), (2, 1, 1628, 113, 1626, 1627), (1, 0, 1631, 113, 1630, 0), (3, 1, 1635, 113, 1634, 80), (2, 1, 1639, 113, 1638, 81), (6, 1, 1643, 113, 1642, 82), (5, 1, 1647, 113, 1646, 83), (2, 1, 1651, 113, 1650, 84), (2, 1, 1655, 113, 1654, 85), (3, 1, 1659, 113, 1657, 1658), (2, 1, 1663, 113, 1661, 1662), (3, 1, 1667, 113, 1665, 1666), (2, 1, 1671, 113, 1670, 86), (3, 1, 1675, 113, 1673, 1674), (2, 1, 1679, 113, 1677, 1678), (3, 1, 1683, 113, 1682, 87), (2, 1, 1687, 113, 1685, 1686), (5, 1, 1691, 113, 1689, 1690), (1, 1, 1695, 113, 1693, 1694), (2, 1, 1699, 113, 1697, 1698), (2, 1, 1703, 113, 1702, 88), (4, 1, 1707, 113, 1706, 89), (2, 1, 1711, 113, 1710, 90), (1, 1, 1715, 113, 1713, 1714), (2, 1, 1719, 113, 1717, 1718), (1, 1, 1723, 113, 1721, 1722), (1, 1, 1727, 113, 1726, 91), (3, 1, 1732, 113, 1730, 1731), (2, 1, 1736, 113, 1734, 1735), (3, 1, 1740, 113, 1738, 1739), (3, 1, 1744, 113, 1743, 92), (4, 1, 1748, 113, 1746, 1747), (1, 1, 1752, 113, 1750, 1751), (2, 1, 1756, 113, 1755, 93), (4, 1, 1760, 113, 1758, 1759), (1, 0, 1763, 113, 1762, 0), (4, 1, 1767, 113, 1765, 1766), (2, 0, 1770, 113, 1769, 0), (4, 1, 1774, 113, 1772, 1773), (3, 1, 1778, 113, 1777, 94), (4, 1, 1782, 113, 1780, 1781), (4, 1, 1786, 113, 1785, 95), (4, 1, 1790, 113, 1788, 1789), (4, 1, 1794, 113, 1792, 1793), (3, 1, 1798, 113, 1796, 1797), (2, 1, 1802, 113, 1801, 96), (4, 1, 1806, 113, 1804, 1805), (3, 1, 1810, 113, 1809, 97), (2, 1, 1814, 113, 1813, 98), (3, 1, 1818, 113, 1817, 99), (3, 1, 1822, 113, 1821, 100), (3, 1, 1826, 113, 1825, 101), (2, 1, 1830, 113, 1828, 1829), (2, 1, 1834, 113, 1832, 1833), (1, 0, 1837, 113, 1836, 0), (1, 1, 1841, 113, 1839, 1840), (1, 1, 1845, 113, 1843, 1844), (1, 0, 1019, 120, 1018, 0), (1, 1, 629, 115, 627, 628), (1, 1, 633, 115, 631, 632), (2, 1, 639, 115, 637, 638), (1, 1, 643, 115, 641, 642), (2, 0, 649, 115, 648, 0), (2, 0, 646, 116, 645, 0), (3, 0, 654, 117, 653, 0), (1, 0, 0, 0, 0, 0)]
def g_k (c : Nat) : Nat × Nat × Nat × Nat × Nat × Nat := g_kl.getD c (0, 0, 0, 0, 0, 0)
/-- a method's bytes, out of its word; the law's -/
def g_b (c : Nat) : ByteArray := if c = 308 then code else match lw_tbl[(g_k c).2.2.1]? with
  | some (.code _ b _ _) => b
  | _ => ⟨#[]⟩
def k_cd (p : Nat) (y : MethodName) (n : Nat) (r : Option FieldType) : Bool := match lw_tbl[p]? with
  | some (.code y' _ n' r') => decide (y' = y) && decide (n' = n) && decide (r' = r)
  | _ => false
theorem k_cd_mem {c : Nat} (hc : c ≠ 308) {y : MethodName} {n : Nat} {r : Option FieldType} (h : k_cd (g_k c).2.2.1 y n r = true) : Jvm.Cond.code y (g_b c) n r ∈ lw_tbl := by
  unfold k_cd at h
  split at h
  · rename_i y' b n' r' hw
    simp only [Bool.and_eq_true, decide_eq_true_eq] at h
    obtain ⟨⟨rfl, rfl⟩, rfl⟩ := h
    have e : g_b c = b := by
      unfold g_b
      rw [if_neg hc, hw]
    rw [e]
    exact List.mem_of_getElem? hw
  · cases h
/-- links of fields: class * 64 + place, nest host, p -/
def k_fl : List (List (Nat × Nat × String × Nat)) := [[(9, 0, "", 383), (15, 1, "", 385), (19, 2, "", 387), (23, 3, "", 388), (26, 4, "", 389), (29, 5, "", 390)], [(11, 64, "", 141), (15, 65, "", 142), (18, 66, "", 143), (21, 67, "", 144), (24, 68, "", 145), (27, 69, "", 147), (31, 70, "", 150)], [(9, 129, "", 322), (15, 130, "", 323), (18, 131, "", 325), (22, 132, "", 327), (25, 133, "", 328), (28, 134, "", 330), (31, 135, "", 332), (34, 136, "", 334), (37, 128, "", 321), (65, 521, "BridgeService", 210), (81, 522, "BridgeService", 213)], [(12, 192, "", 270), (18, 193, "", 272), (22, 194, "", 273), (26, 195, "", 275), (29, 196, "", 276), (32, 197, "", 277), (35, 198, "", 278), (38, 199, "", 279), (41, 200, "", 280), (44, 201, "", 281), (47, 202, "", 282), (50, 203, "", 283), (53, 204, "", 284), (56, 205, "", 285), (120, 69, "BridgeService", 148)], [(9, 256, "", 173), (15, 257, "", 174), (18, 258, "", 175), (21, 259, "", 176), (24, 260, "", 177)], [(9, 321, "", 362), (15, 322, "", 364), (19, 320, "", 361), (39, 522, "BridgeService", 212)], [(9, 384, "", 409), (15, 385, "", 411), (19, 386, "", 413)], [(9, 448, "", 428), (15, 449, "", 430), (18, 450, "", 432), (21, 451, "", 434)], [(9, 512, "", 190), (15, 513, "", 192), (18, 514, "", 194), (21, 515, "", 196), (24, 516, "", 198), (27, 517, "", 200), (30, 518, "", 202), (36, 519, "", 204), (43, 520, "", 206), (47, 521, "", 208), (51, 522, "", 211), (54, 523, "", 215), (57, 524, "", 217), (60, 525, "", 219), (63, 526, "", 221), (66, 527, "", 223), (69, 528, "", 225), (103, 68, "BridgeService", 146)], [(10, 576, "", 445), (16, 577, "", 446), (19, 578, "", 447), (26, 579, "", 448), (35, 580, "", 449), (42, 581, "", 450), (48, 582, "", 451), (54, 583, "", 452), (61, 584, "", 453), (71, 521, "BridgeService", 209), (83, 512, "BridgeService", 191), (87, 513, "BridgeService", 193), (90, 514, "BridgeService", 195), (93, 515, "BridgeService", 197), (99, 523, "BridgeService", 216), (124, 518, "BridgeService", 203), (127, 516, "BridgeService", 199), (130, 517, "BridgeService", 201), (133, 526, "BridgeService", 222), (136, 527, "BridgeService", 224), (139, 524, "BridgeService", 218), (145, 525, "BridgeService", 220), (152, 522, "BridgeService", 214), (158, 194, "BridgeService", 274), (169, 519, "BridgeService", 205), (173, 192, "BridgeService", 271), (182, 69, "BridgeService", 149), (223, 133, "BridgeService", 329), (226, 131, "BridgeService", 326), (229, 130, "BridgeService", 324), (232, 134, "BridgeService", 331), (233, 135, "BridgeService", 333), (236, 136, "BridgeService", 335), (251, 520, "BridgeService", 207), (255, 260, "BridgeService", 178), (270, 528, "BridgeService", 226), (287, 321, "BridgeService", 363), (296, 385, "BridgeService", 412), (308, 384, "BridgeService", 410), (326, 386, "BridgeService", 414), (339, 450, "BridgeService", 433), (340, 451, "BridgeService", 435), (341, 449, "BridgeService", 431), (347, 1, "BridgeService", 386), (357, 0, "BridgeService", 384), (365, 322, "BridgeService", 365), (382, 448, "BridgeService", 429)], [(9, 640, "", 1223), (13, 641, "", 1224), (16, 642, "", 1225), (19, 644, "", 1227), (22, 645, "", 1228), (25, 647, "", 1230), (29, 654, "", 1237), (32, 655, "", 1238), (35, 658, "", 1241), (38, 659, "", 1242), (41, 660, "", 1243), (44, 665, "", 1248), (47, 666, "", 1249), (50, 668, "", 1251), (53, 670, "", 1253), (56, 671, "", 1254), (59, 672, "", 1255), (62, 673, "", 1256), (65, 674, "", 1257), (68, 675, "", 1258), (112, 646, "", 1229), (116, 648, "", 1231), (119, 649, "", 1232), (125, 650, "", 1233), (132, 651, "", 1234), (144, 653, "", 1236), (155, 652, "", 1235), (255, 656, "", 1239), (258, 657, "", 1240), (265, 661, "", 1244), (268, 662, "", 1245), (271, 663, "", 1246), (274, 664, "", 1247), (306, 667, "", 1250), (322, 669, "", 1252), (346, 676, "", 1259), (355, 677, "", 1260), (364, 678, "", 1261), (374, 643, "", 1226)], [], [], [], [], []]
def k_f (o i : Nat) : Option (Nat × String × Nat) := (k_fl.getD o []).lookup i
/-- links of methods: which, nest host, p -/
def k_ml : List (List (Nat × Nat × String × Nat)) := [[(32, 3, "", 1168), (36, 5, "", 1176), (39, 6, "", 1181), (42, 7, "", 1185), (45, 4, "", 1172), (49, 112, "BridgeService", 1180)], [(40, 112, "BridgeService", 523), (44, 10, "", 528), (49, 11, "", 533)], [(41, 86, "", 918), (53, 19, "", 920), (57, 20, "", 924), (61, 85, "", 929), (68, 79, "", 930), (71, 87, "", 931), (84, 22, "", 958), (88, 21, "", 962)], [(11, 8, "BridgeService", 269), (61, 12, "", 610), (64, 27, "", 614), (68, 33, "", 684), (72, 28, "", 618), (75, 29, "", 621), (78, 30, "", 674), (81, 31, "", 677), (84, 32, "", 681), (90, 301, "", 626), (95, 303, "", 636), (99, 34, "", 688), (102, 35, "", 692), (105, 37, "", 701), (108, 41, "", 716), (111, 42, "", 720), (114, 44, "", 735), (117, 47, "", 747), (123, 36, "", 696), (126, 109, "BridgeService", 700), (130, 38, "", 705), (133, 39, "", 709), (136, 40, "", 712), (139, 13, "", 724), (143, 14, "", 727), (147, 43, "", 731), (150, 45, "", 739), (154, 46, "", 743), (157, 15, "", 751)], [(40, 109, "BridgeService", 1004)], [(23, 85, "", 1053), (35, 79, "", 1055), (42, 87, "", 1056), (46, 57, "", 1077), (50, 105, "", 1081), (53, 76, "", 1085)], [(22, 60, "", 1106), (26, 62, "", 1107)], [], [(35, 8, "BridgeService", 137), (42, 48, "BridgeService", 169), (78, 16, "", 1207), (82, 52, "", 1208), (85, 109, "BridgeService", 592), (95, 70, "", 513), (99, 71, "", 514), (106, 9, "", 519), (109, 77, "", 775), (112, 126, "BridgeService", 776), (115, 80, "", 780), (119, 69, "", 785), (122, 73, "", 786), (125, 81, "", 787), (128, 82, "", 792), (132, 83, "", 797), (136, 128, "BridgeService", 805), (140, 79, "", 771), (143, 72, "", 784), (146, 74, "", 791), (153, 111, "BridgeService", 801), (157, 127, "BridgeService", 802), (161, 85, "", 816), (164, 86, "", 820), (167, 87, "", 824), (170, 84, "", 844), (173, 91, "", 861), (176, 94, "", 877), (179, 136, "BridgeService", 892), (182, 95, "", 881), (185, 96, "", 885), (192, 97, "", 909), (195, 50, "", 995), (198, 51, "", 1000), (201, 100, "", 991), (204, 300, "", 1017), (210, 103, "", 1044)], [(9, 67, "", 131), (25, 24, "BridgeService", 264), (32, 17, "", 317), (41, 53, "", 357), (60, 0, "BridgeService", 379), (65, 58, "BridgeService", 405), (66, 64, "BridgeService", 424), (67, 109, "", 477), (75, 68, "", 480), (79, 69, "", 488), (96, 70, "", 492), (102, 111, "", 496), (106, 71, "", 502), (110, 72, "", 509), (113, 73, "", 515), (116, 114, "", 541), (120, 74, "", 544), (142, 75, "", 576), (148, 76, "", 584), (155, 77, "", 588), (161, 25, "", 597), (165, 26, "", 606), (176, 16, "", 755), (185, 78, "", 767), (188, 84, "", 812), (191, 88, "", 832), (195, 89, "", 840), (198, 90, "", 857), (201, 92, "", 865), (204, 93, "", 873), (207, 94, "", 895), (210, 91, "", 900), (213, 97, "", 901), (216, 98, "", 905), (219, 18, "", 914), (239, 136, "", 948), (242, 86, "", 953), (245, 21, "BridgeService", 954), (248, 23, "", 967), (258, 49, "", 975), (261, 99, "", 987), (264, 101, "", 1005), (267, 102, "", 1013), (273, 103, "", 1031), (276, 104, "", 1040), (279, 54, "", 1049), (283, 55, "", 1061), (290, 56, "", 1073), (293, 59, "", 1090), (299, 60, "", 1098), (302, 61, "", 1102), (305, 63, "", 1115), (312, 105, "", 1123), (315, 85, "", 1128), (318, 161, "", 1129), (322, 87, "", 1134), (329, 65, "", 1139), (332, 66, "", 1143), (335, 164, "", 1151), (344, 112, "", 1155), (350, 1, "", 1160), (354, 2, "", 1164), (360, 300, "", 1197), (366, 106, "", 1202), (379, 79, "", 1133)], [(71, 172, "", 1346), (75, 203, "", 1465), (79, 196, "", 1439), (83, 197, "", 1443), (87, 195, "", 1435), (90, 228, "", 1561), (94, 198, "", 1446), (97, 201, "", 1458), (100, 205, "", 1472), (103, 206, "", 1476), (106, 202, "", 1462), (109, 204, "", 1468), (122, 175, "", 1358), (128, 177, "", 1366), (135, 176, "", 1362), (138, 178, "", 1370), (141, 174, "", 1354), (147, 187, "", 1406), (151, 186, "", 1402), (158, 181, "", 1382), (161, 180, "", 1378), (164, 184, "", 1394), (167, 185, "", 1398), (170, 183, "", 1390), (173, 182, "", 1386), (178, 179, "", 1374), (181, 222, "", 1538), (184, 199, "", 1450), (187, 192, "", 1423), (191, 200, "", 1454), (194, 225, "", 1549), (197, 227, "", 1557), (200, 221, "", 1535), (203, 223, "", 1541), (207, 224, "", 1545), (210, 226, "", 1553), (213, 189, "", 1414), (216, 190, "", 1417), (219, 191, "", 1420), (222, 194, "", 1431), (225, 208, "", 1483), (228, 217, "", 1519), (231, 218, "", 1523), (234, 220, "", 1531), (237, 230, "", 1569), (240, 231, "", 1573), (243, 232, "", 1577), (246, 235, "", 1589), (249, 241, "", 1613), (252, 240, "", 1609), (261, 243, "", 1621), (277, 249, "", 1644), (280, 250, "", 1648), (283, 248, "", 1640), (287, 251, "", 1652), (290, 247, "", 1636), (293, 245, "", 1629), (296, 246, "", 1632), (300, 255, "", 1668), (303, 258, "", 1680), (309, 264, "", 1704), (312, 265, "", 1708), (315, 263, "", 1700), (319, 269, "", 1724), (325, 273, "", 1741), (328, 276, "", 1753), (331, 278, "", 1761), (334, 280, "", 1768), (337, 282, "", 1775), (340, 284, "", 1783), (343, 288, "", 1799), (349, 291, "", 1811), (352, 290, "", 1807), (358, 292, "", 1815), (361, 293, "", 1819), (368, 294, "", 1823), (371, 297, "", 1835)], [(9, 107, "", 123), (12, 170, "", 1219), (13, 108, "", 473), (17, 188, "", 1410), (18, 110, "", 484), (22, 193, "", 1427), (23, 113, "", 537), (27, 207, "", 1479), (28, 115, "", 548), (31, 209, "", 1487), (32, 116, "", 552), (35, 210, "", 1491), (36, 117, "", 556), (39, 211, "", 1495), (40, 118, "", 560), (43, 212, "", 1499), (44, 119, "", 564), (47, 213, "", 1503), (48, 120, "", 568), (52, 214, "", 1507), (53, 121, "", 572), (57, 215, "", 1511), (58, 122, "", 580), (61, 216, "", 1515), (64, 123, "", 593), (68, 171, "", 1342), (69, 124, "", 602), (72, 173, "", 1350), (73, 125, "", 763), (76, 219, "", 1527), (77, 129, "", 808), (80, 229, "", 1565), (81, 130, "", 828), (84, 233, "", 1581), (85, 131, "", 836), (88, 234, "", 1585), (89, 132, "", 845), (92, 236, "", 1593), (93, 133, "", 849), (96, 237, "", 1597), (97, 134, "", 853), (100, 238, "", 1601), (101, 135, "", 869), (104, 239, "", 1605), (105, 137, "", 896), (108, 242, "", 1617), (109, 138, "", 910), (112, 244, "", 1625), (113, 139, "", 932), (116, 252, "", 1656), (117, 140, "", 936), (120, 253, "", 1660), (121, 141, "", 940), (124, 254, "", 1664), (125, 142, "", 944), (128, 256, "", 1672), (129, 143, "", 949), (132, 257, "", 1676), (133, 144, "", 963), (136, 259, "", 1684), (137, 145, "", 971), (140, 260, "", 1688), (141, 146, "", 979), (144, 261, "", 1692), (145, 147, "", 983), (148, 262, "", 1696), (149, 148, "", 1009), (152, 266, "", 1712), (153, 149, "", 1023), (156, 267, "", 1716), (157, 150, "", 1027), (160, 268, "", 1720), (161, 151, "", 1036), (164, 270, "", 1729), (165, 152, "", 1045), (168, 271, "", 1733), (169, 153, "", 1057), (172, 272, "", 1737), (173, 154, "", 1065), (176, 274, "", 1745), (177, 155, "", 1069), (180, 275, "", 1749), (181, 156, "", 1086), (184, 277, "", 1757), (185, 157, "", 1094), (188, 279, "", 1764), (189, 158, "", 1111), (192, 281, "", 1771), (193, 159, "", 1119), (196, 283, "", 1779), (197, 160, "", 1124), (200, 285, "", 1787), (201, 162, "", 1135), (204, 286, "", 1791), (205, 163, "", 1147), (208, 287, "", 1795), (209, 165, "", 1156), (212, 289, "", 1803), (213, 166, "", 1189), (216, 295, "", 1827), (217, 167, "", 1193), (220, 296, "", 1831), (221, 168, "", 1198), (224, 298, "", 1838), (225, 169, "", 1213), (228, 299, "", 1842)], [], [(335, 302, "", 630), (492, 304, "", 640), (495, 306, "", 644), (1059, 307, "", 652)], [(9, 305, "", 647)], []]
def k_m (o i : Nat) : Option (Nat × String × Nat) := (k_ml.getD o []).lookup i
/-- links of classes -/
def k_cl : List (List (Nat × Nat × Nat)) := [[], [], [], [(9, 1, 268)], [], [], [], [], [(33, 1, 135), (40, 4, 167)], [(7, 8, 129), (23, 3, 262), (30, 2, 315), (39, 5, 355), (46, 6, 373), (52, 7, 375), (58, 0, 377)], [], [(7, 9, 121), (10, 10, 1217)], [], [], [], []]
def k_c (o i : Nat) : Option (Nat × Nat) := (k_cl.getD o []).lookup i
/-- int constants -/
def k_il : List (List (Nat × Int × Nat)) := [[], [], [], [], [], [], [], [], [(209, 1103515245, 1035)], [], [(318, 1103515245, 1728)], [], [(265, 1431655765, 1020), (266, 858993459, 1021), (267, 252645135, 1022)], [], [], []]
def k_i (o i : Nat) : Option (Int × Nat) := (k_il.getD o []).lookup i
/-- long constants -/
def k_jl : List (List (Nat × Int × Nat)) := [[], [(47, (-2), 532)], [], [(59, 255, 601)], [], [], [], [], [], [], [(176, 255, 1349)], [(62, 4294967295, 1846)], [], [], [], []]
def k_j (o i : Nat) : Option (Int × Nat) := (k_jl.getD o []).lookup i
/-- links of special methods: 0 max, 1 min, 2 abs, 3 Object(), 4 arraycopy -/
def k_sl : List (List (Nat × Nat × Nat)) := [[(3, 3, 382)], [(5, 3, 140), (34, 4, 759)], [(3, 3, 320), (47, 1, 919), (75, 4, 928)], [(3, 3, 267)], [(3, 3, 172), (28, 4, 1212), (34, 0, 999)], [(3, 3, 360), (29, 1, 1054)], [(3, 3, 408)], [(3, 3, 427)], [(3, 3, 134), (72, 4, 1206), (89, 0, 506), (150, 1, 796), (189, 2, 889)], [(1, 3, 126), (371, 1, 499), (376, 0, 779)], [(1, 3, 1222)], [], [], [], [], []]
def k_s (o i : Nat) : Option (Nat × Nat) := (k_sl.getD o []).lookup i
/-- links of static fields: 0 ABOVE, 1 COMPACT_STRINGS, 2 SIOOBE_FORMATTER -/
def k_gl : List (List (Nat × Nat × String × Nat)) := [[], [], [], [], [], [], [], [], [], [(368, 0, "", 526)], [], [], [], [(38, 1, "", 634), (1053, 2, "", 650)], [], []]
def k_g (o i : Nat) : Option (Nat × String × Nat) := (k_gl.getD o []).lookup i
/-- links of fields of texts: 0 value, 1 coder -/
def k_tl : List (List (Nat × Nat × Nat)) := [[], [], [], [], [], [], [], [], [], [], [], [], [], [(9, 0, 1847), (15, 1, 1848)], [], []]
def k_t (o i : Nat) : Option (Nat × Nat) := (k_tl.getD o []).lookup i
/-- is a table's word where it says -/
def k_nest : Jvm.Cond → Bool
  | .fieldLinkNest .. => true
  | .methodLinkNest .. => true
  | _ => false
def k_at (p : Nat) (w : Jvm.Cond) : Bool := (goodWord w || k_nest w) && decide (lw_tbl[p]? = some w)
theorem k_at_mem {p : Nat} {w : Jvm.Cond} (h : k_at p w = true) : w ∈ lw_tbl ∧ (goodWord w = true ∨ k_nest w = true) := by
  simp only [k_at, Bool.and_eq_true, Bool.or_eq_true, decide_eq_true_eq] at h
  exact ⟨List.mem_of_getElem? h.2, h.1⟩
def k_fw (o i n : Nat) (h : String) : Jvm.Cond := let T := q_T (n / 64) (n % 64); if h = "" then .fieldLink (g_cn o) i (g_cn (n / 64)) T.2.1 T.2.2.1 else .fieldLinkNest (g_cn o) i (g_cn (n / 64)) T.2.1 T.2.2.1 h
def k_mw (o i c : Nat) (h : String) : Jvm.Cond := if h = "" then .methodLink (g_cn o) i (g_y c) else .methodLinkNest (g_cn o) i (g_y c) h
theorem k_f_ok : (List.range 16).all (fun o => (k_fl.getD o []).all fun e => k_at e.2.2.2 (k_fw o e.1 e.2.1 e.2.2.1) && decide (e.2.1 / 64 < 11) && decide (e.2.1 % 64 < e_nf (e.2.1 / 64))) = true := by decide +kernel
theorem k_m_ok : (List.range 16).all (fun o => (k_ml.getD o []).all fun e => k_at e.2.2.2 (k_mw o e.1 e.2.1 e.2.2.1) && decide (e.2.1 < 308)) = true := by decide +kernel
theorem k_c_ok : (List.range 16).all (fun o => (k_cl.getD o []).all fun e => k_at e.2.2 (.classLink (g_cn o) e.1 (g_cn e.2.1)) && decide (e.2.1 < 11)) = true := by decide +kernel
theorem k_i_ok : (List.range 16).all (fun o => (k_il.getD o []).all fun e => k_at e.2.2 (.constant (g_cn o) e.1 (Int32.ofInt e.2.1))) = true := by decide +kernel
theorem k_j_ok : (List.range 16).all (fun o => (k_jl.getD o []).all fun e => k_at e.2.2 (.constantLong (g_cn o) e.1 (Int64.ofInt e.2.1))) = true := by decide +kernel
def k_sn (q : Nat) : MethodName := match q with
  | 0 => Lib.Math.max.name
  | 1 => Lib.Math.min.name
  | 2 => Lib.Math.abs.name
  | 3 => objectInit
  | _ => arraycopyName
theorem k_s_ok : (List.range 16).all (fun o => (k_sl.getD o []).all fun e => k_at e.2.2 (.methodLink (g_cn o) e.1 (k_sn e.2.1))) = true := by decide +kernel
def k_gn (q : Nat) : String × String × String := match q with
  | 0 => ("BridgeService", "ABOVE", "[I")
  | 1 => ("java/lang/String", "COMPACT_STRINGS", "Z")
  | _ => ("jdk/internal/util/Preconditions", "SIOOBE_FORMATTER", "Ljava/util/function/BiFunction;")
theorem k_g_ok : (List.range 16).all (fun o => (k_gl.getD o []).all fun e => k_at e.2.2.2 (let g := k_gn e.2.1; if e.2.2.1 = "" then .fieldLink (g_cn o) e.1 g.1 g.2.1 g.2.2 else .fieldLinkNest (g_cn o) e.1 g.1 g.2.1 g.2.2 e.2.2.1)) = true := by decide +kernel
theorem k_t_ok : (List.range 16).all (fun o => (k_tl.getD o []).all fun e => k_at e.2.2 (.fieldLink (g_cn o) e.1 "java/lang/String" (if e.2.1 = 0 then "value" else "coder") (if e.2.1 = 0 then "[B" else "B"))) = true := by decide +kernel
/-- a method's words -/
def k_me (c : Nat) : Bool := let y := g_y c; let k := g_k c
  k_cd k.2.2.1 y (g_mx c) (g_ret c) && k_at k.2.2.2.1 (.initialized y.cls) &&
  (if k.2.1 = 0 then k_at k.2.2.2.2.1 (.static y) else k_at k.2.2.2.2.1 (.instanceMethod y) && (if k.2.1 = 1 then k_at k.2.2.2.2.2 (.selects y.cls y y) else decide (y.name = "<init>") && decide (g_ret c = none))) &&
  decide (g_mx c ≤ 20) && plainName y.cls && decide (y.cls ≠ "java/lang/invoke/MethodHandle") && decide (y.cls ≠ "java/lang/invoke/VarHandle") &&
  decide ((parseMethodDescriptor y.desc).map (fun q => q.parameters.length) = some (if k.2.1 = 0 then k.1 else k.1 - 1)) && decide (k.2.1 = 0 ∨ 1 ≤ k.1)
theorem q_cl_ok : (List.range 11).all (fun c => (u_ws (g_cn c) (q_T c) (e_nf c)).all (fun w => goodWord w && decide (w ∈ lw_tbl))) = true := by decide +kernel
theorem q_ty_ok : (List.range 11).all (fun c => (List.range (e_nf c)).all fun k => decide (parseFieldDescriptor (q_T c k).2.2.1 = some (q_ty c k)) && (if q_rf c k then decide (e_bool (c * 64 + k) = false) && decide (fits (q_ty c k) (.ref 0) = true) else decide (q_ty c k = if e_bool (c * 64 + k) then .boolean else .int)) && (List.range (e_nf c)).all fun j => decide (j = k) || decide ((q_T c j).2.1 ≠ (q_T c k).2.1)) = true := by decide +kernel
theorem k_me_0 : (List.range' 0 14).all k_me = true := by decide +kernel
theorem k_me_14 : (List.range' 14 14).all k_me = true := by decide +kernel
theorem k_me_28 : (List.range' 28 14).all k_me = true := by decide +kernel
theorem k_me_42 : (List.range' 42 14).all k_me = true := by decide +kernel
theorem k_me_56 : (List.range' 56 14).all k_me = true := by decide +kernel
theorem k_me_70 : (List.range' 70 14).all k_me = true := by decide +kernel
theorem k_me_84 : (List.range' 84 14).all k_me = true := by decide +kernel
theorem k_me_98 : (List.range' 98 14).all k_me = true := by decide +kernel
theorem k_me_112 : (List.range' 112 14).all k_me = true := by decide +kernel
theorem k_me_126 : (List.range' 126 14).all k_me = true := by decide +kernel
theorem k_me_140 : (List.range' 140 14).all k_me = true := by decide +kernel
theorem k_me_154 : (List.range' 154 14).all k_me = true := by decide +kernel
theorem k_me_168 : (List.range' 168 14).all k_me = true := by decide +kernel
theorem k_me_182 : (List.range' 182 14).all k_me = true := by decide +kernel
theorem k_me_196 : (List.range' 196 14).all k_me = true := by decide +kernel
theorem k_me_210 : (List.range' 210 14).all k_me = true := by decide +kernel
theorem k_me_224 : (List.range' 224 14).all k_me = true := by decide +kernel
theorem k_me_238 : (List.range' 238 14).all k_me = true := by decide +kernel
theorem k_me_252 : (List.range' 252 14).all k_me = true := by decide +kernel
theorem k_me_266 : (List.range' 266 14).all k_me = true := by decide +kernel
theorem k_me_280 : (List.range' 280 14).all k_me = true := by decide +kernel
theorem k_me_294 : (List.range' 294 14).all k_me = true := by decide +kernel
end
section
/-! THE CODE is as resolved: each resolved instruction beside the decoded one -/
/-- may r stand for the instruction i of len bytes at pc of the method c -/
def k_ok (c pc len : Nat) (i r : Instr) : Bool := match r with
  | .sipush v => match i with
    | .iconst n => decide (n = v) && decide (len = 1)
    | .bipush n => decide (n = v) && decide (len = 2) && decide ((Int8.ofInt n).toInt32 = Int32.ofInt n)
    | .sipush n => decide (n = v) && decide (len = 3) && decide ((Int16.ofInt n).toInt32 = Int32.ofInt n)
    | .ldc x => decide (len = 2) && decide ((k_i (g_own c) x).map (·.1) = some v)
    | .ldc_w x => decide (len = 3) && decide ((k_i (g_own c) x).map (·.1) = some v)
    | _ => false
  | .goto_w v => match i with
    | .lconst n => decide (((n : Nat) : Int) = v) && decide (len = 1)
    | .ldc2_w x => decide (len = 3) && decide ((k_j (g_own c) x).map (·.1) = some v)
    | _ => false
  | .iload k => match i with
    | .iload n => decide (n = k) && decide (len = 2)
    | .iload_n n => decide (n.val = k) && decide (len = 1)
    | _ => false
  | .lload k => match i with
    | .lload n => decide (n = k) && decide (len = 2)
    | .lload_n n => decide (n.val = k) && decide (len = 1)
    | _ => false
  | .aload k => match i with
    | .aload n => decide (n = k) && decide (len = 2)
    | .aload_n n => decide (n.val = k) && decide (len = 1)
    | _ => false
  | .istore k => match i with
    | .istore n => decide (n = k) && decide (len = 2)
    | .istore_n n => decide (n.val = k) && decide (len = 1)
    | _ => false
  | .lstore k => match i with
    | .lstore n => decide (n = k) && decide (len = 2)
    | .lstore_n n => decide (n.val = k) && decide (len = 1)
    | _ => false
  | .astore k => match i with
    | .astore n => decide (n = k) && decide (len = 2)
    | .astore_n n => decide (n.val = k) && decide (len = 1)
    | _ => false
  | .iinc k v => decide (i = .iinc k v) && decide (len = 3)
  | .dadd => match i with
    | .invokestatic x => decide (len = 3) && decide ((k_s (g_own c) x).map (·.1) = some 0)
    | _ => false
  | .dsub => match i with
    | .invokestatic x => decide (len = 3) && decide ((k_s (g_own c) x).map (·.1) = some 1)
    | _ => false
  | .dneg => match i with
    | .invokestatic x => decide (len = 3) && decide ((k_s (g_own c) x).map (·.1) = some 2)
    | _ => false
  | .pop2 => match i with
    | .invokespecial x => decide (len = 3) && decide ((k_s (g_own c) x).map (·.1) = some 3)
    | _ => false
  | .dmul => match i with
    | .invokestatic x => decide (len = 3) && decide ((k_s (g_own c) x).map (·.1) = some 4)
    | _ => false
  | .getfield n => match i with
    | .getfield x => decide (len = 3) && decide ((k_f (g_own c) x).map (·.1) = some n) && !(q_rf (n / 64) (n % 64))
    | _ => false
  | .checkcast n => match i with
    | .getfield x => decide (len = 3) && decide ((k_f (g_own c) x).map (·.1) = some n) && q_rf (n / 64) (n % 64)
    | _ => false
  | .putfield n => match i with
    | .putfield x => decide (len = 3) && decide ((k_f (g_own c) x).map (·.1) = some n) && !(q_rf (n / 64) (n % 64)) && !((q_T (n / 64) (n % 64)).2.2.2)
    | _ => false
  | .instanceof n => match i with
    | .putfield x => decide (len = 3) && decide ((k_f (g_own c) x).map (fun e => (e.1, e.2.1)) = some (n, "")) && q_rf (n / 64) (n % 64) && decide ((q_T (n / 64) (n % 64)).2.2.2 = true) && decide (g_own c = n / 64) && decide ((g_y c).name = "<init>")
    | _ => false
  | .new k => match i with
    | .new x => decide (len = 3) && decide ((k_c (g_own c) x).map (·.1) = some k)
    | _ => false
  | .anewarray k => match i with
    | .anewarray x => decide (len = 3) && decide ((k_c (g_own c) x).map (·.1) = some k) && (decide (k = 6) || decide (k = 7))
    | _ => false
  | .newarray a => decide (i = .newarray a) && decide (len = 2)
  | .invokeinterface e n => match i with
    | .invokevirtual x => decide (len = 3) && decide ((k_m (g_own c) x).map (·.1) = some e) && decide ((g_k e).2.1 = 1) && decide ((g_k e).1 = n)
    | .invokestatic x => decide (len = 3) && decide ((k_m (g_own c) x).map (·.1) = some e) && decide ((g_k e).2.1 = 0) && decide ((g_k e).1 = n)
    | .invokespecial x => decide (len = 3) && decide ((k_m (g_own c) x).map (·.1) = some e) && decide ((g_k e).2.1 = 2) && decide ((g_k e).1 = n)
    | _ => false
  | .goto t => match i with
    | .goto off => decide (len = 3) && decide ((pc : Int) + off = t) && decide (0 ≤ t)
    | _ => false
  | .ifCond k t => match i with
    | .ifCond k' off => decide (len = 3) && decide (k' = k) && decide ((pc : Int) + off = t) && decide (0 ≤ t)
    | _ => false
  | .if_icmp k t => match i with
    | .if_icmp k' off => decide (len = 3) && decide (k' = k) && decide ((pc : Int) + off = t) && decide (0 ≤ t)
    | _ => false
  | .lookupswitch d ps => match i with
    | .tableswitch e lo hi offs => decide ((pc : Int) + e = d) && decide (0 ≤ d) && decide (ps.toList = offs.toList.mapIdx fun j o => (lo + j, (pc : Int) + o)) && decide (hi = lo + offs.size - 1) && ps.toList.all fun q => decide (0 ≤ q.2)
    | .lookupswitch e qs => decide ((pc : Int) + e = d) && decide (0 ≤ d) && decide (ps.toList = qs.toList.map fun q => (q.1, (pc : Int) + q.2)) && (ps.toList.all fun q => decide (0 ≤ q.2)) && (qs.toList.zip (qs.toList.drop 1)).all fun (a, next) => a.1 < next.1
    | _ => false
  | .ireturn => decide (i = .ireturn) && decide (len = 1) && decide (g_ret c = some .int)
  | .areturn => decide (i = .ireturn) && decide (len = 1) && decide (g_ret c = some .boolean)
  | .freturn => decide (i = .ireturn) && decide (len = 1) && decide (g_ret c = some .char)
  | .dreturn => decide (i = .ireturn) && decide (len = 1) && decide (g_ret c = some .byte)
  | .lreturn => decide (i = .lreturn) && decide (len = 1) && decide (g_ret c = some .long)
  | .return_ => decide (i = .return_) && decide (len = 1) && decide (g_ret c = none)
  | .faload => decide (i = .iaload) && decide (len = 1)
  | .fadd => decide (i = .arraylength) && decide (len = 1)
  | .daload => decide (i = .iaload) && decide (len = 1)
  | .fsub => decide (i = .arraylength) && decide (len = 1)
  | .fmul => decide (i = .arraylength) && decide (len = 1)
  | .fload k => match i with
    | .getfield x => decide (len = 3) && decide ((k_t (g_own c) x).map (·.1) = some k)
    | _ => false
  | .getstatic q => match i with
    | .getstatic x => decide (len = 3) && decide (q < 3) && decide ((k_g (g_own c) x).map (·.1) = some q)
    | .ldc x => decide (len = 2) && decide (q = 3) && decide (g_own c = 3) && decide (x = 88)
    | _ => false
  | .iaload => decide (i = .iaload) && decide (len = 1)
  | .caload => decide (i = .caload) && decide (len = 1)
  | .laload => decide (i = .laload) && decide (len = 1)
  | .aaload => decide (i = .aaload) && decide (len = 1)
  | .iastore => decide (i = .iastore) && decide (len = 1)
  | .castore => decide (i = .castore) && decide (len = 1)
  | .lastore => decide (i = .lastore) && decide (len = 1)
  | .aastore => decide (i = .aastore) && decide (len = 1)
  | .baload => decide (i = .baload) && decide (len = 1)
  | .arraylength => decide (i = .arraylength) && decide (len = 1)
  | .pop => decide (i = .pop) && decide (len = 1)
  | .dup => decide (i = .dup) && decide (len = 1)
  | .dup_x1 => decide (i = .dup_x1) && decide (len = 1)
  | .dup2 => decide (i = .dup2) && decide (len = 1)
  | .iadd => decide (i = .iadd) && decide (len = 1)
  | .isub => decide (i = .isub) && decide (len = 1)
  | .imul => decide (i = .imul) && decide (len = 1)
  | .idiv => decide (i = .idiv) && decide (len = 1)
  | .irem => decide (i = .irem) && decide (len = 1)
  | .iand => decide (i = .iand) && decide (len = 1)
  | .ior => decide (i = .ior) && decide (len = 1)
  | .ixor => decide (i = .ixor) && decide (len = 1)
  | .ishl => decide (i = .ishl) && decide (len = 1)
  | .ishr => decide (i = .ishr) && decide (len = 1)
  | .iushr => decide (i = .iushr) && decide (len = 1)
  | .ineg => decide (i = .ineg) && decide (len = 1)
  | .i2b => decide (i = .i2b) && decide (len = 1)
  | .i2s => decide (i = .i2s) && decide (len = 1)
  | .i2c => decide (i = .i2c) && decide (len = 1)
  | .ladd => decide (i = .ladd) && decide (len = 1)
  | .lsub => decide (i = .lsub) && decide (len = 1)
  | .land => decide (i = .land) && decide (len = 1)
  | .lor => decide (i = .lor) && decide (len = 1)
  | .lxor => decide (i = .lxor) && decide (len = 1)
  | .lshl => decide (i = .lshl) && decide (len = 1)
  | .lshr => decide (i = .lshr) && decide (len = 1)
  | .lushr => decide (i = .lushr) && decide (len = 1)
  | .lcmp => decide (i = .lcmp) && decide (len = 1)
  | .i2l => decide (i = .i2l) && decide (len = 1)
  | .l2i => decide (i = .l2i) && decide (len = 1)
  | _ => false
def k_chk (c : Nat) (b : ByteArray) : Nat → List Instr → Bool
  | _, [] => true
  | pc, r :: rs => match r with
    | .jsr t => decide ((pc : Int) = t)
    | r => match decode b pc with
      | .ok (i, len) => k_ok c pc len i r && k_chk c b (pc + len) rs
      | _ => false
def k_code (c : Nat) : Bool := (g_pr.getD c []).all fun q => k_chk c (g_b c) q.1 q.2
/-- some blocks of a method -/
def k_some (c i n : Nat) : Bool := (((g_pr.getD c []).drop i).take n).all fun q => k_chk c (g_b c) q.1 q.2
theorem k_some_all {c : Nat} (ks : List (Nat × Nat)) (h : ∀ q ∈ ks, k_some c q.1 q.2 = true) (hc : ∀ j, j < (g_pr.getD c []).length → ∃ q ∈ ks, q.1 ≤ j ∧ j < q.1 + q.2) : k_code c = true := by
  refine List.all_eq_true.mpr fun x hx => ?_
  obtain ⟨j, hj⟩ := List.getElem?_of_mem hx
  have hl := (List.getElem?_eq_some_iff.mp hj).1
  obtain ⟨q, hq, h1, h2⟩ := hc j hl
  refine List.all_eq_true.mp (h q hq) x ?_
  refine List.mem_of_getElem? (i := j - q.1) ?_
  rw [List.getElem?_take_of_lt (by omega), List.getElem?_drop, show q.1 + (j - q.1) = j by omega]
  exact hj
end
section
theorem k_code_0 : (List.range' 0 10).all k_code = true := by decide +kernel
theorem k_code_10 : (List.range' 10 9).all k_code = true := by decide +kernel
theorem k_code_19 : (List.range' 19 7).all k_code = true := by decide +kernel
theorem k_code_26 : (List.range' 26 10).all k_code = true := by decide +kernel
theorem k_code_36 : (List.range' 36 13).all k_code = true := by decide +kernel
theorem k_code_49 : (List.range' 49 11).all k_code = true := by decide +kernel
theorem k_code_60 : (List.range' 60 13).all k_code = true := by decide +kernel
theorem k_code_73 : (List.range' 73 12).all k_code = true := by decide +kernel
theorem k_code_85 : (List.range' 85 12).all k_code = true := by decide +kernel
theorem k_code_97 : (List.range' 97 9).all k_code = true := by decide +kernel
theorem k_code_106 : (List.range' 106 5).all k_code = true := by decide +kernel
theorem k_code_111 : (List.range' 111 11).all k_code = true := by decide +kernel
theorem k_code_122 : (List.range' 122 16).all k_code = true := by decide +kernel
theorem k_code_138 : (List.range' 138 16).all k_code = true := by decide +kernel
theorem k_code_154 : (List.range' 154 8).all k_code = true := by decide +kernel
end
section
theorem k_code_162 : (List.range' 162 8).all k_code = true := by decide +kernel
theorem k_code_171 : (List.range' 171 7).all k_code = true := by decide +kernel
theorem k_code_178 : (List.range' 178 10).all k_code = true := by decide +kernel
theorem k_code_188 : (List.range' 188 14).all k_code = true := by decide +kernel
theorem k_code_202 : (List.range' 202 10).all k_code = true := by decide +kernel
theorem k_code_212 : (List.range' 212 10).all k_code = true := by decide +kernel
theorem k_code_222 : (List.range' 222 13).all k_code = true := by decide +kernel
theorem k_code_235 : (List.range' 235 7).all k_code = true := by decide +kernel
theorem k_code_242 : (List.range' 242 9).all k_code = true := by decide +kernel
theorem k_code_251 : (List.range' 251 9).all k_code = true := by decide +kernel
theorem k_code_260 : (List.range' 260 7).all k_code = true := by decide +kernel
theorem k_code_267 : (List.range' 267 10).all k_code = true := by decide +kernel
theorem k_code_277 : (List.range' 277 8).all k_code = true := by decide +kernel
theorem k_code_285 : (List.range' 285 6).all k_code = true := by decide +kernel
theorem k_code_291 : (List.range' 291 10).all k_code = true := by decide +kernel
theorem k_code_301 : (List.range' 301 7).all k_code = true := by decide +kernel
end
section
theorem k_code_170_0 : k_some 170 0 1 = true := by decide +kernel
theorem k_code_170_1 : k_some 170 1 1 = true := by decide +kernel
theorem k_code_170_2 : k_some 170 2 1 = true := by decide +kernel
theorem k_code_170_3 : k_some 170 3 1 = true := by decide +kernel
theorem k_code_170_4 : k_some 170 4 1 = true := by decide +kernel
theorem k_code_170_5 : k_some 170 5 1 = true := by decide +kernel
theorem k_code_170_6 : k_some 170 6 1 = true := by decide +kernel
theorem k_code_170_7 : k_some 170 7 1 = true := by decide +kernel
theorem k_code_170_8 : k_some 170 8 4 = true := by decide +kernel
theorem k_code_170_12 : k_some 170 12 2 = true := by decide +kernel
theorem k_code_170 : k_code 170 = true := k_some_all [(0, 1), (1, 1), (2, 1), (3, 1), (4, 1), (5, 1), (6, 1), (7, 1), (8, 4), (12, 2)] (by
  intro q hq
  simp only [List.mem_cons, List.not_mem_nil, or_false] at hq
  rcases hq with rfl | rfl | rfl | rfl | rfl | rfl | rfl | rfl | rfl | rfl
  · exact k_code_170_0
  · exact k_code_170_1
  · exact k_code_170_2
  · exact k_code_170_3
  · exact k_code_170_4
  · exact k_code_170_5
  · exact k_code_170_6
  · exact k_code_170_7
  · exact k_code_170_8
  · exact k_code_170_12
) (by decide +kernel)
theorem k_code_308_0 : k_some 308 0 3 = true := by decide +kernel
theorem k_code_308_3 : k_some 308 3 2 = true := by decide +kernel
theorem k_code_308_5 : k_some 308 5 2 = true := by decide +kernel
theorem k_code_308_7 : k_some 308 7 2 = true := by decide +kernel
theorem k_code_308_9 : k_some 308 9 4 = true := by decide +kernel
theorem k_code_308_13 : k_some 308 13 4 = true := by decide +kernel
theorem k_code_308_17 : k_some 308 17 5 = true := by decide +kernel
theorem k_code_308_22 : k_some 308 22 4 = true := by decide +kernel
theorem k_code_308_26 : k_some 308 26 4 = true := by decide +kernel
theorem k_code_308_30 : k_some 308 30 4 = true := by decide +kernel
theorem k_code_308_34 : k_some 308 34 5 = true := by decide +kernel
theorem k_code_308_39 : k_some 308 39 3 = true := by decide +kernel
theorem k_code_308_42 : k_some 308 42 2 = true := by decide +kernel
theorem k_code_308_44 : k_some 308 44 2 = true := by decide +kernel
theorem k_code_308_46 : k_some 308 46 2 = true := by decide +kernel
theorem k_code_308_48 : k_some 308 48 3 = true := by decide +kernel
theorem k_code_308_51 : k_some 308 51 5 = true := by decide +kernel
theorem k_code_308 : k_code 308 = true := k_some_all [(0, 3), (3, 2), (5, 2), (7, 2), (9, 4), (13, 4), (17, 5), (22, 4), (26, 4), (30, 4), (34, 5), (39, 3), (42, 2), (44, 2), (46, 2), (48, 3), (51, 5)] (by
  intro q hq
  simp only [List.mem_cons, List.not_mem_nil, or_false] at hq
  rcases hq with rfl | rfl | rfl | rfl | rfl | rfl | rfl | rfl | rfl | rfl | rfl | rfl | rfl | rfl | rfl | rfl | rfl
  · exact k_code_308_0
  · exact k_code_308_3
  · exact k_code_308_5
  · exact k_code_308_7
  · exact k_code_308_9
  · exact k_code_308_13
  · exact k_code_308_17
  · exact k_code_308_22
  · exact k_code_308_26
  · exact k_code_308_30
  · exact k_code_308_34
  · exact k_code_308_39
  · exact k_code_308_42
  · exact k_code_308_44
  · exact k_code_308_46
  · exact k_code_308_48
  · exact k_code_308_51
) (by decide +kernel)
theorem k_code_all : ∀ c, c < 309 → k_code c = true := by
  intro c hc
  have key : ∀ a m, (List.range' a m).all k_code = true → a ≤ c → c < a + m → k_code c = true := fun a m h h1 h2 => List.all_eq_true.mp h c (List.mem_range'_1.mpr ⟨h1, h2⟩)
  by_cases h10 : c < 10
  · exact key 0 10 k_code_0 (by omega) (by omega)
  by_cases h19 : c < 19
  · exact key 10 9 k_code_10 (by omega) (by omega)
  by_cases h26 : c < 26
  · exact key 19 7 k_code_19 (by omega) (by omega)
  by_cases h36 : c < 36
  · exact key 26 10 k_code_26 (by omega) (by omega)
  by_cases h49 : c < 49
  · exact key 36 13 k_code_36 (by omega) (by omega)
  by_cases h60 : c < 60
  · exact key 49 11 k_code_49 (by omega) (by omega)
  by_cases h73 : c < 73
  · exact key 60 13 k_code_60 (by omega) (by omega)
  by_cases h85 : c < 85
  · exact key 73 12 k_code_73 (by omega) (by omega)
  by_cases h97 : c < 97
  · exact key 85 12 k_code_85 (by omega) (by omega)
  by_cases h106 : c < 106
  · exact key 97 9 k_code_97 (by omega) (by omega)
  by_cases h111 : c < 111
  · exact key 106 5 k_code_106 (by omega) (by omega)
  by_cases h122 : c < 122
  · exact key 111 11 k_code_111 (by omega) (by omega)
  by_cases h138 : c < 138
  · exact key 122 16 k_code_122 (by omega) (by omega)
  by_cases h154 : c < 154
  · exact key 138 16 k_code_138 (by omega) (by omega)
  by_cases h162 : c < 162
  · exact key 154 8 k_code_154 (by omega) (by omega)
  by_cases h170 : c < 170
  · exact key 162 8 k_code_162 (by omega) (by omega)
  by_cases h171 : c < 171
  · rw [show c = 170 by omega]; exact k_code_170
  by_cases h178 : c < 178
  · exact key 171 7 k_code_171 (by omega) (by omega)
  by_cases h188 : c < 188
  · exact key 178 10 k_code_178 (by omega) (by omega)
  by_cases h202 : c < 202
  · exact key 188 14 k_code_188 (by omega) (by omega)
  by_cases h212 : c < 212
  · exact key 202 10 k_code_202 (by omega) (by omega)
  by_cases h222 : c < 222
  · exact key 212 10 k_code_212 (by omega) (by omega)
  by_cases h235 : c < 235
  · exact key 222 13 k_code_222 (by omega) (by omega)
  by_cases h242 : c < 242
  · exact key 235 7 k_code_235 (by omega) (by omega)
  by_cases h251 : c < 251
  · exact key 242 9 k_code_242 (by omega) (by omega)
  by_cases h260 : c < 260
  · exact key 251 9 k_code_251 (by omega) (by omega)
  by_cases h267 : c < 267
  · exact key 260 7 k_code_260 (by omega) (by omega)
  by_cases h277 : c < 277
  · exact key 267 10 k_code_267 (by omega) (by omega)
  by_cases h285 : c < 285
  · exact key 277 8 k_code_277 (by omega) (by omega)
  by_cases h291 : c < 291
  · exact key 285 6 k_code_285 (by omega) (by omega)
  by_cases h301 : c < 301
  · exact key 291 10 k_code_291 (by omega) (by omega)
  by_cases h308 : c < 308
  · exact key 301 7 k_code_301 (by omega) (by omega)
  by_cases h309 : c < 309
  · rw [show c = 308 by omega]; exact k_code_308
  exact absurd hc h309
end
section
/-! AN EVALUATOR of resolved code, over an abstract memory: kinds and sizes of the cells by their number; ints, longs and references (0: null, n + 1: cell n) by cell and place -/
abbrev e_M : Type := List (Nat × Nat) × (Nat → Nat → Int32) × (Nat → Nat → Int64) × (Nat → Nat → Nat)
/-- the script: how many, which -/
abbrev e_X : Type := Nat × (Nat → Int32)
abbrev e_R : Type := Option (List Value × e_M)
abbrev e_T : Type := Option (List Value × List Value × e_M)
def e_rf : Nat → Value
  | 0 => .null
  | n + 1 => .ref n
def e_up {α : Type} (f : Nat → Nat → α) (o k : Nat) (v : α) : Nat → Nat → α := fun a b => if a = o ∧ b = k then v else f a b
def e_in (i : Int32) (n : Nat) : Bool := !(decide (i < 0) || decide (n ≤ i.toNatClampNeg))
theorem e_in_iff {i : Int32} {n : Nat} : e_in i n = true ↔ vp_in i n := by
  simp [e_in, vp_in]
def e_abv (i : Nat) : Int32 := ([-1, 0, 0, 2, 0, 4] : List Int32).getD i 0
/-- kinds of arrays behind those of classes -/
def e_kI : Nat := 100
def e_kC : Nat := 101
def e_kJ : Nat := 102
def e_kO : Nat := 200
def e_c (c : Jvm.ClassFile.Cond) (x y : Int32) : Bool := match c with
  | .eq => decide (x = y)
  | .ne => decide (¬ x = y)
  | .lt => decide (x < y)
  | .ge => decide (y ≤ x)
  | .gt => decide (y < x)
  | .le => decide (x ≤ y)
def e_sw (J : Nat → e_R) (d : Int) (ps : List (Int × Int)) (x : Int32) : e_R := match ps with
  | [] => J d.toNat
  | (a, t) :: r => if x.toInt = a then J t.toNat else e_sw J d r x
/-- what may lie below a call's arguments -/
def e_lo (r : List Value) : Bool := decide (r.length ≤ 4)
def e_iq (f : Int32 → Int32 → Int32) (ls st : List Value) (m : e_M) : e_T := match st with
  | .int y :: .int x :: r => if e_lo r then some (ls, .int (f x y) :: r, m) else none
  | _ => none
def e_ii (f : Int32 → Int32 → Int32) (ls st : List Value) (m : e_M) : e_T := match st with
  | .int y :: .int x :: r => some (ls, .int (f x y) :: r, m)
  | _ => none
def e_i1 (f : Int32 → Int32) (ls st : List Value) (m : e_M) : e_T := match st with
  | .int x :: r => some (ls, .int (f x) :: r, m)
  | _ => none
def e_id (f : Int32 → Int32 → Int32) (ls st : List Value) (m : e_M) : e_T := match st with
  | .int y :: .int x :: r => if y = 0 then none else some (ls, .int (f x y) :: r, m)
  | _ => none
def e_jj (f : Int64 → Int64 → Int64) (ls st : List Value) (m : e_M) : e_T := match st with
  | .long y :: .long x :: r => some (ls, .long (f x y) :: r, m)
  | _ => none
def e_ji (f : Int64 → Int32 → Int64) (ls st : List Value) (m : e_M) : e_T := match st with
  | .int y :: .long x :: r => some (ls, .long (f x y) :: r, m)
  | _ => none
def e_st1 (i : Nat) (ls : List Value) (v : Value) : Option (List Value) :=
  if i < ls.length then (match i with
    | 0 => some (ls.set i v)
    | j + 1 => match ls[j]? with
      | some w => if w.category = 2 then none else some (ls.set (j + 1) v)
      | none => none) else none
def e_st2 (i : Nat) (ls : List Value) (v : Value) : Option (List Value) :=
  if i + 1 < ls.length then (match i with
    | 0 => some ((ls.set 0 v).set 1 (.retAddr 0))
    | j + 1 => match ls[j]? with
      | some w => if w.category = 2 then none else some ((ls.set (j + 1) v).set (j + 2) (.retAddr 0))
      | none => none) else none
/-- an object o of class n / 64, its place n % 64 -/
def e_ob (K : List (Nat × Nat)) (o n : Nat) : Bool := match K[o]? with
  | some (c, z) => decide (c = n / 64) && decide (n % 64 < z)
  | none => false
/-- an array o of a kind: how long -/
def e_ar (K : List (Nat × Nat)) (o k : Nat) : Nat := match K[o]? with
  | some (c, z) => if c = k then z else 0
  | none => 0
def e_st (X : e_X) (i : Instr) (ls st : List Value) (m : e_M) : e_T := match i with
  | .sipush v => some (ls, .int (Int32.ofInt v) :: st, m)
  | .goto_w v => some (ls, .long (Int64.ofInt v) :: st, m)
  | .iload i => match ls[i]? with
    | some (.int x) => some (ls, .int x :: st, m)
    | _ => none
  | .lload i => match ls[i]? with
    | some (.long x) => some (ls, .long x :: st, m)
    | _ => none
  | .aload i => match ls[i]? with
    | some (.ref x) => some (ls, .ref x :: st, m)
    | _ => none
  | .istore i => match st with
    | .int x :: r => (e_st1 i ls (.int x)).map fun l => (l, r, m)
    | _ => none
  | .astore i => match st with
    | .ref x :: r => (e_st1 i ls (.ref x)).map fun l => (l, r, m)
    | _ => none
  | .lstore i => match st with
    | .long x :: r => (e_st2 i ls (.long x)).map fun l => (l, r, m)
    | _ => none
  | .iinc i n => match ls[i]? with
    | some (.int x) => (e_st1 i ls (.int (x + Int32.ofInt n))).map fun l => (l, st, m)
    | _ => none
  | .iadd => e_ii (fun x y => x + y) ls st m
  | .isub => e_ii (fun x y => x - y) ls st m
  | .imul => e_ii (fun x y => x * y) ls st m
  | .idiv => e_id (fun x y => x / y) ls st m
  | .irem => e_id (fun x y => x % y) ls st m
  | .iand => e_ii (fun x y => x &&& y) ls st m
  | .ior => e_ii (fun x y => x ||| y) ls st m
  | .ixor => e_ii (fun x y => x ^^^ y) ls st m
  | .ishl => e_ii (fun x y => x <<< (y &&& 31)) ls st m
  | .ishr => e_ii (fun x y => x >>> (y &&& 31)) ls st m
  | .iushr => e_ii (fun x y => (x.toUInt32 >>> (y.toUInt32 &&& Int32.toUInt32 31)).toInt32) ls st m
  | .ineg => e_i1 (fun x => -x) ls st m
  | .i2b => e_i1 (fun x => x.toInt8.toInt32) ls st m
  | .i2s => e_i1 (fun x => x.toInt16.toInt32) ls st m
  | .i2c => e_i1 (fun x => (x.toUInt32 % 65536).toInt32) ls st m
  | .ladd => e_jj (fun x y => x + y) ls st m
  | .lsub => e_jj (fun x y => x - y) ls st m
  | .land => e_jj (fun x y => x &&& y) ls st m
  | .lor => e_jj (fun x y => x ||| y) ls st m
  | .lxor => e_jj (fun x y => x ^^^ y) ls st m
  | .lshl => e_ji (fun x y => x <<< (y.toInt64 &&& 63)) ls st m
  | .lshr => e_ji (fun x y => x >>> (y.toInt64 &&& 63)) ls st m
  | .lushr => e_ji (fun x y => (x.toUInt64 >>> (y.toInt64.toUInt64 &&& Int64.toUInt64 63)).toInt64) ls st m
  | .lcmp => match st with
    | .long y :: .long x :: r => some (ls, .int (lg_cmp x y) :: r, m)
    | _ => none
  | .i2l => match st with
    | .int x :: r => some (ls, .long x.toInt64 :: r, m)
    | _ => none
  | .l2i => match st with
    | .long x :: r => some (ls, .int x.toInt32 :: r, m)
    | _ => none
  | .dup => match st with
    | .int x :: r => some (ls, .int x :: .int x :: r, m)
    | .ref x :: r => some (ls, .ref x :: .ref x :: r, m)
    | _ => none
  | .pop => match st with
    | .int _ :: r => some (ls, r, m)
    | _ => none
  | .pop2 => match st with
    | .ref _ :: r => if e_lo r then some (ls, r, m) else none
    | _ => none
  | .dup_x1 => match st with
    | .int x :: .ref y :: r => some (ls, .int x :: .ref y :: .int x :: r, m)
    | _ => none
  | .dup2 => match st with
    | .int x :: .ref y :: r => some (ls, .int x :: .ref y :: .int x :: .ref y :: r, m)
    | _ => none
  -- Math.max, min, abs
  | .dadd => e_iq (fun x y => if x < y then y else x) ls st m
  | .dsub => e_iq (fun x y => if y < x then y else x) ls st m
  | .dneg => match st with
    | .int x :: r => if e_lo r then some (ls, .int (if 0 ≤ x then x else 0 - x) :: r, m) else none
    | _ => none
  -- fields
  | .getfield n => match st with
    | .ref o :: r => if e_ob m.1 o n then some (ls, .int (m.2.1 o (n % 64)) :: r, m) else none
    | _ => none
  | .checkcast n => match st with
    | .ref o :: r => if e_ob m.1 o n then some (ls, e_rf (m.2.2.2 o (n % 64)) :: r, m) else none
    | _ => none
  | .putfield n => match st with
    | .int v :: .ref o :: r => if e_ob m.1 o n && (!(e_bool n) || decide (v = 0) || decide (v = 1)) then some (ls, r, m.1, e_up m.2.1 o (n % 64) v, m.2.2.1, m.2.2.2) else none
    | _ => none
  | .instanceof n => match st with
    | .ref v :: .ref o :: r => if e_ob m.1 o n && decide (v < m.1.length) then some (ls, r, m.1, m.2.1, m.2.2.1, e_up m.2.2.2 o (n % 64) (v + 1)) else none
    | _ => none
  -- arrays
  | .iaload => match st with
    | .int i :: .ref o :: r => if e_in i (e_ar m.1 o e_kI) then some (ls, .int (m.2.1 o i.toNatClampNeg) :: r, m) else none
    | _ => none
  | .caload => match st with
    | .int i :: .ref o :: r => if e_in i (e_ar m.1 o e_kC) then some (ls, .int (m.2.1 o i.toNatClampNeg) :: r, m) else none
    | _ => none
  | .laload => match st with
    | .int i :: .ref o :: r => if e_in i (e_ar m.1 o e_kJ) then some (ls, .long (m.2.2.1 o i.toNatClampNeg) :: r, m) else none
    | _ => none
  | .anewarray n => match st with
    | .int i :: r => if i < 0 then none else some (ls, .ref m.1.length :: r, m.1 ++ [(e_kO + n, i.toNatClampNeg)], m.2.1, m.2.2.1, fun a b => if a = m.1.length then 0 else m.2.2.2 a b)
    | _ => none
  | .aaload => match st with
    | .int i :: .ref o :: r => match m.1[o]? with
      | some (c, z) => if decide (e_kO ≤ c) && e_in i z then some (ls, e_rf (m.2.2.2 o i.toNatClampNeg) :: r, m) else none
      | none => none
    | _ => none
  | .aastore => match st with
    | .ref v :: .int i :: .ref o :: r => match m.1[o]?, m.1[v]? with
      | some (c, z), some (d, _) => if decide (d < e_kI) && decide (c = e_kO + d) && e_in i z then some (ls, r, m.1, m.2.1, m.2.2.1, e_up m.2.2.2 o i.toNatClampNeg (v + 1)) else none
      | _, _ => none
    | _ => none
  | .iastore => match st with
    | .int v :: .int i :: .ref o :: r => if e_in i (e_ar m.1 o e_kI) then some (ls, r, m.1, e_up m.2.1 o i.toNatClampNeg v, m.2.2.1, m.2.2.2) else none
    | _ => none
  | .castore => match st with
    | .int v :: .int i :: .ref o :: r => if e_in i (e_ar m.1 o e_kC) && decide ((v.toUInt32 % 65536).toInt32 = v) then some (ls, r, m.1, e_up m.2.1 o i.toNatClampNeg v, m.2.2.1, m.2.2.2) else none
    | _ => none
  | .lastore => match st with
    | .long v :: .int i :: .ref o :: r => if e_in i (e_ar m.1 o e_kJ) then some (ls, r, m.1, m.2.1, e_up m.2.2.1 o i.toNatClampNeg v, m.2.2.2) else none
    | _ => none
  | .arraylength => match st with
    | .ref o :: r => match m.1[o]? with
      | some (c, z) => if decide (c = e_kI) then some (ls, .int (Int32.ofNat z) :: r, m) else none
      | none => none
    | _ => none
  | .new c => some (ls, .ref m.1.length :: st, m.1 ++ [(c, e_nf c)], fun a b => if a = m.1.length then 0 else m.2.1 a b, m.2.2.1, fun a b => if a = m.1.length then 0 else m.2.2.2 a b)
  | .newarray a => match st with
    | .int i :: r => if i < 0 then none else match a with
      | .int => some (ls, .ref m.1.length :: r, m.1 ++ [(e_kI, i.toNatClampNeg)], fun a b => if a = m.1.length then 0 else m.2.1 a b, m.2.2.1, fun a b => if a = m.1.length then 0 else m.2.2.2 a b)
      | .char => some (ls, .ref m.1.length :: r, m.1 ++ [(e_kC, i.toNatClampNeg)], fun a b => if a = m.1.length then 0 else m.2.1 a b, m.2.2.1, fun a b => if a = m.1.length then 0 else m.2.2.2 a b)
      | .long => some (ls, .ref m.1.length :: r, m.1 ++ [(e_kJ, i.toNatClampNeg)], m.2.1, fun a b => if a = m.1.length then 0 else m.2.2.1 a b, fun a b => if a = m.1.length then 0 else m.2.2.2 a b)
      | _ => none
    | _ => none
  -- System.arraycopy of ints
  | .dmul => match st with
    | .int n :: .int dp :: .ref d :: .int sp :: .ref o :: r => match m.1[o]?, m.1[d]? with
      | some (ka, z0), some (kb, z1) => if decide (ka = e_kI) && decide (kb = e_kI) && !(decide (n < 0)) && !(decide (dp < 0)) && !(decide (sp < 0)) && decide (sp.toNatClampNeg + n.toNatClampNeg ≤ z0) && decide (dp.toNatClampNeg + n.toNatClampNeg ≤ z1) && decide (r.length ≤ 3)
        then some (ls, r, m.1, fun a b => if a = d then (if dp.toNatClampNeg ≤ b ∧ b < dp.toNatClampNeg + n.toNatClampNeg then m.2.1 o (sp.toNatClampNeg + (b - dp.toNatClampNeg)) else m.2.1 d b) else m.2.1 a b, m.2.2.1, m.2.2.2) else none
      | _, _ => none
    | _ => none
  -- the script (1000), ABOVE (1001), the text of names (1002) and its bytes (1003), a formatter (1004)
  | .faload => match st with
    | .int i :: .ref o :: r => if decide (o = 1000) && e_in i X.1 then some (ls, .int (X.2 i.toNatClampNeg) :: r, m) else none
    | _ => none
  | .fadd => match st with
    | .ref o :: r => if o = 1000 then some (ls, .int (Int32.ofNat X.1) :: r, m) else none
    | _ => none
  | .daload => match st with
    | .int i :: .ref o :: r => if decide (o = 1001) && e_in i 6 then some (ls, .int (e_abv i.toNatClampNeg) :: r, m) else none
    | _ => none
  | .fsub => match st with
    | .ref o :: r => if o = 1001 then some (ls, .int 6 :: r, m) else none
    | _ => none
  | .fload n => match st with
    | .ref o :: r => if o = 1002 then (match n with
      | 0 => some (ls, .ref 1003 :: r, m)
      | 1 => some (ls, .int 0 :: r, m)
      | _ => none) else none
    | _ => none
  | .baload => match st with
    | .int i :: .ref o :: r => if decide (o = 1003) && e_in i 98 then some (ls, .int (e_nms.getD i.toNatClampNeg 0) :: r, m) else none
    | _ => none
  | .fmul => match st with
    | .ref o :: r => if o = 1003 then some (ls, .int 98 :: r, m) else none
    | _ => none
  | .getstatic n => match n with
    | 0 => some (ls, .ref 1001 :: st, m)
    | 1 => some (ls, .int 1 :: st, m)
    | 2 => some (ls, .retAddr 1 :: st, m)
    | 3 => some (ls, .ref 1002 :: st, m)
    | _ => none
  | _ => none

def e_x (X : e_X) (S : Nat → List Value → e_M → e_R) (J : Nat → List Value → List Value → e_M → e_R) : List Instr → List Value → List Value → e_M → e_R
  | [], _, _, _ => none
  | i :: is, ls, st, m =>
    match i with
    | .goto t => J t.toNat ls st m
    | .jsr t => J t.toNat ls st m
    | .ifCond c t => match st with
      | .int x :: r => if e_c c x 0 then J t.toNat ls r m else e_x X S J is ls r m
      | _ => none
    | .if_icmp c t => match st with
      | .int y :: .int x :: r => if e_c c x y then J t.toNat ls r m else e_x X S J is ls r m
      | _ => none
    | .lookupswitch d ps => match st with
      | .int x :: r => e_sw (fun t => J t ls r m) d ps.toList x
      | _ => none
    | .ireturn => match st with
      | [.int x] => some ([.int x], m)
      | _ => none
    | .areturn => match st with
      | [.int x] => if decide (x = 0) || decide (x = 1) then some ([.int x], m) else none
      | _ => none
    | .freturn => match st with
      | [.int x] => if (x.toUInt32 % 65536).toInt32 = x then some ([.int x], m) else none
      | _ => none
    | .dreturn => match st with
      | [.int x] => if x.toInt8.toInt32 = x then some ([.int x], m) else none
      | _ => none
    | .lreturn => match st with
      | [.long x] => some ([.long x], m)
      | _ => none
    | .return_ => match st with
      | [] => some ([], m)
      | _ => none
    | .invokeinterface c n => if decide (n ≤ st.length) && e_lo (st.drop n) then (match S c (st.take n).reverse m with
      | some (r, m') => e_x X S J is ls (r ++ st.drop n) m'
      | none => none) else none
    | i => match e_st X i ls st m with
      | some (ls', st', m') => e_x X S J is ls' st' m'
      | none => none
def e_ent (n : Nat) (as : List Value) : List Value :=
  let l := as.flatMap fun v => if v.category = 2 then [v, .retAddr 0] else [v]
  l ++ List.replicate (n - l.length) (.retAddr 0)
end
section
/-! RUNNING: blocks by fuel, its limit, calls by depth -/
section
variable (P : Nat → Nat → List Instr) (mx : Nat → Nat) (rc : Nat → List Value → e_M → Bool)
def e_run (X : e_X) (S : Nat → List Value → e_M → e_R) (c : Nat) : Nat → Nat → List Value → List Value → e_M → e_R
  | 0, _, _, _, _ => none
  | n + 1, lab, ls, st, m => e_x X S (e_run X S c n) (P c lab) ls st m
noncomputable def e_lim {α : Type} (f : Nat → Option α) : Option α := @dite _ (∃ n r, f n = some r) (Classical.propDecidable _) (fun h => f h.choose) (fun _ => none)
noncomputable def e_go (X : e_X) (S : Nat → List Value → e_M → e_R) (c lab : Nat) (ls st : List Value) (m : e_M) : e_R := e_lim fun n => e_run P X S c n lab ls st m
noncomputable def e_S (X : e_X) : Nat → Nat → List Value → e_M → e_R
  | 0, _, _, _ => none
  | d + 1, c, as, m => if rc c as m then e_go P X (e_S X d) c 0 (e_ent (mx c) as) [] m else none
/-- the same with fuel, to be computed -/
def e_F (X : e_X) (N : Nat) : Nat → Nat → List Value → e_M → e_R
  | 0, _, _, _ => none
  | d + 1, c, as, m => if rc c as m then e_run P X (e_F X N d) c N 0 (e_ent (mx c) as) [] m else none
end
/-- what a jump gives counts at one place at most -/
theorem e_sw_J {J : Nat → e_R} {d : Int} {x : Int32} : ∀ {ps : List (Int × Int)} {r}, e_sw J d ps x = some r → ∃ t, J t = some r ∧ ∀ J' : Nat → e_R, J' t = some r → e_sw J' d ps x = some r
  | [], r, h => ⟨d.toNat, h, fun _ h' => h'⟩
  | (a, t) :: ps, r, h => by
    unfold e_sw at h
    by_cases hc : x.toInt = a
    · rw [if_pos hc] at h
      exact ⟨t.toNat, h, fun J' h' => by unfold e_sw; rw [if_pos hc]; exact h'⟩
    · rw [if_neg hc] at h
      obtain ⟨t', h1, h2⟩ := e_sw_J h
      exact ⟨t', h1, fun J' h' => by unfold e_sw; rw [if_neg hc]; exact h2 J' h'⟩
theorem e_x_J {X : e_X} {S : Nat → List Value → e_M → e_R} {J : Nat → List Value → List Value → e_M → e_R} : ∀ (is : List Instr) (ls st : List Value) (m : e_M) (r : List Value × e_M), e_x X S J is ls st m = some r →
    (∃ t a b q, J t a b q = some r ∧ ∀ J' : Nat → List Value → List Value → e_M → e_R, J' t a b q = some r → e_x X S J' is ls st m = some r) ∨ ∀ J', e_x X S J' is ls st m = some r := by
  intro is
  induction is with
  | nil => intro ls st m r h; simp [e_x] at h
  | cons i is ih =>
    intro ls st m r h
    unfold e_x at h
    split at h
    · exact Or.inl ⟨_, _, _, _, h, fun J' h' => by unfold e_x; exact h'⟩
    · exact Or.inl ⟨_, _, _, _, h, fun J' h' => by unfold e_x; exact h'⟩
    · split at h
      · split at h
        · rename_i hc
          exact Or.inl ⟨_, _, _, _, h, fun J' h' => by unfold e_x; dsimp only; rw [if_pos hc]; exact h'⟩
        · rename_i hc
          rcases ih _ _ _ _ h with ⟨t, a, b, q, h1, h2⟩ | h2
          · exact Or.inl ⟨t, a, b, q, h1, fun J' h' => by unfold e_x; dsimp only; rw [if_neg hc]; exact h2 J' h'⟩
          · exact Or.inr fun J' => by unfold e_x; dsimp only; rw [if_neg hc]; exact h2 J'
      · cases h
    · split at h
      · split at h
        · rename_i hc
          exact Or.inl ⟨_, _, _, _, h, fun J' h' => by unfold e_x; dsimp only; rw [if_pos hc]; exact h'⟩
        · rename_i hc
          rcases ih _ _ _ _ h with ⟨t, a, b, q, h1, h2⟩ | h2
          · exact Or.inl ⟨t, a, b, q, h1, fun J' h' => by unfold e_x; dsimp only; rw [if_neg hc]; exact h2 J' h'⟩
          · exact Or.inr fun J' => by unfold e_x; dsimp only; rw [if_neg hc]; exact h2 J'
      · cases h
    · split at h
      · obtain ⟨t, h1, h2⟩ := e_sw_J h
        exact Or.inl ⟨t, _, _, _, h1, fun J' h' => by unfold e_x; exact h2 _ h'⟩
      · cases h
    · split at h
      · exact Or.inr fun J' => by unfold e_x; exact h
      · cases h
    · split at h
      · exact Or.inr fun J' => by unfold e_x; exact h
      · cases h
    · split at h
      · exact Or.inr fun J' => by unfold e_x; exact h
      · cases h
    · split at h
      · exact Or.inr fun J' => by unfold e_x; exact h
      · cases h
    · split at h
      · exact Or.inr fun J' => by unfold e_x; exact h
      · cases h
    · split at h
      · exact Or.inr fun J' => by unfold e_x; exact h
      · cases h
    · split at h
      · rename_i hc
        split at h
        · rename_i r' m' hs
          rcases ih _ _ _ _ h with ⟨t, a, b, q, h1, h2⟩ | h2
          · exact Or.inl ⟨t, a, b, q, h1, fun J' h' => by unfold e_x; dsimp only; rw [if_pos hc, hs]; exact h2 J' h'⟩
          · exact Or.inr fun J' => by unfold e_x; dsimp only; rw [if_pos hc, hs]; exact h2 J'
        · cases h
      · cases h
    · rename_i n1 n1b n2 n3 n4 n5 n5a n5b n5c n6 n7 n8
      split at h
      · rename_i ls' st' m' hs
        have key : ∀ J', e_x X S J' (i :: is) ls st m = e_x X S J' is ls' st' m' := by
          intro J'
          conv => lhs; unfold e_x
          split
          · exact absurd rfl (n1 _)
          · exact absurd rfl (n1b _)
          · exact absurd rfl (n2 _ _)
          · exact absurd rfl (n3 _ _)
          · exact absurd rfl (n4 _ _)
          · exact absurd rfl n5
          · exact absurd rfl n5a
          · exact absurd rfl n5b
          · exact absurd rfl n5c
          · exact absurd rfl n6
          · exact absurd rfl n7
          · exact absurd rfl (n8 _ _)
          · rw [hs]
        rcases ih _ _ _ _ h with ⟨t, a, b, q, h1, h2⟩ | h2
        · exact Or.inl ⟨t, a, b, q, h1, fun J' h' => by rw [key]; exact h2 J' h'⟩
        · exact Or.inr fun J' => by rw [key]; exact h2 J'
      · cases h
section
variable {P : Nat → Nat → List Instr} {mx : Nat → Nat} {X : e_X}
theorem e_x_mono {S : Nat → List Value → e_M → e_R} {J J' : Nat → List Value → List Value → e_M → e_R} (hJ : ∀ t a b q r, J t a b q = some r → J' t a b q = some r) {is ls st m r} (h : e_x X S J is ls st m = some r) : e_x X S J' is ls st m = some r := by
  rcases e_x_J is ls st m r h with ⟨t, a, b, q, h1, h2⟩ | h2
  · exact h2 J' (hJ _ _ _ _ _ h1)
  · exact h2 J'
theorem e_run_mono {S : Nat → List Value → e_M → e_R} {c : Nat} : ∀ (n k lab : Nat) (ls st : List Value) (m : e_M) r, n ≤ k → e_run P X S c n lab ls st m = some r → e_run P X S c k lab ls st m = some r
  | 0, _, _, _, _, _, _, _, h => by cases h
  | n + 1, 0, _, _, _, _, _, hk, _ => by omega
  | n + 1, k + 1, lab, ls, st, m, r, hk, h => by
    unfold e_run at h ⊢
    exact e_x_mono (fun t a b q r' h' => e_run_mono n k t a b q r' (by omega) h') h
theorem e_lim_some {α : Type} {f : Nat → Option α} (hm : ∀ n k r, n ≤ k → f n = some r → f k = some r) {r : α} : e_lim f = some r ↔ ∃ n, f n = some r := by
  constructor
  · intro h
    unfold e_lim at h
    by_cases hc : ∃ n r, f n = some r
    · rw [dif_pos hc] at h
      exact ⟨_, h⟩
    · rw [dif_neg hc] at h
      cases h
  · intro ⟨n, h⟩
    have hc : ∃ n r, f n = some r := ⟨n, r, h⟩
    unfold e_lim
    rw [dif_pos hc]
    obtain ⟨r', hr'⟩ := hc.choose_spec
    rw [hr']
    have h1 := hm n (max n hc.choose) r (by omega) h
    have h2 := hm hc.choose (max n hc.choose) r' (by omega) hr'
    rw [h1] at h2
    exact h2.symm
theorem e_go_some {S : Nat → List Value → e_M → e_R} {c lab : Nat} {ls st : List Value} {m : e_M} {r} : e_go P X S c lab ls st m = some r ↔ ∃ n, e_run P X S c n lab ls st m = some r :=
  e_lim_some (fun n k r hk h => e_run_mono n k lab ls st m r hk h)
/-- a block, then what its jumps give -/
theorem e_go_eq (S : Nat → List Value → e_M → e_R) (c lab : Nat) (ls st : List Value) (m : e_M) : e_go P X S c lab ls st m = e_x X S (e_go P X S c) (P c lab) ls st m := by
  apply Option.ext
  intro r
  constructor
  · intro h
    obtain ⟨n, hn⟩ := e_go_some.mp h
    cases n with
    | zero => cases hn
    | succ n =>
      unfold e_run at hn
      exact e_x_mono (fun t a b q r' h' => e_go_some.mpr ⟨n, h'⟩) hn
  · intro h
    rcases e_x_J _ _ _ _ _ h with ⟨t, a, b, q, h1, h2⟩ | h2
    · obtain ⟨n, hn⟩ := e_go_some.mp h1
      exact e_go_some.mpr ⟨n + 1, by unfold e_run; exact h2 _ hn⟩
    · exact e_go_some.mpr ⟨1, by unfold e_run; exact h2 _⟩
end
end
section
/-- the receiver is of the method's class -/
def e_rc (c : Nat) (as : List Value) (m : e_M) : Bool := decide (as.length = (g_k c).1) && (match (g_k c).2.1 with
  | 0 => true
  | 2 => (match as with
    | .ref _ :: _ => true
    | _ => false)
  | _ => (match as with
    | .ref o :: _ => if g_own c = 13 then decide (o = 1002) else (match m.1[o]? with
      | some (ci, _) => decide (ci = g_own c) && decide (ci < 11)
      | none => false)
    | _ => false))
end
section
/-! THE MACHINE BESIDE THE EVALUATOR: addresses, worlds, the relation -/
/-- what a run fixes: the tables' numbers; classes of arrays by kind; addresses: 0 the first cell, 1 the script, 2 ABOVE, 3 the text, 4 its bytes; a formatter or null -/
abbrev n_G : Type := va_G × (Nat → ClassId) × (Nat → Nat) × Value
def n_b (G : n_G) : Nat := G.2.2.1 0
def n_a (G : n_G) (o : Nat) : Nat := if o < 1000 then n_b G + o else G.2.2.1 (o - 999)
def n_v (G : n_G) : Value → Value
  | .ref o => .ref (n_a G o)
  | .retAddr _ => G.2.2.2
  | v => v
def n_o (G : n_G) : Nat → Option Nat
  | 0 => none
  | r + 1 => some (n_a G r)
theorem n_v_rf (G : n_G) (r : Nat) : n_v G (e_rf r) = va_rf (n_o G r) := by cases r <;> rfl
def n_cell (G : n_G) (m : e_M) (o c z : Nat) : va_E :=
  if c < 100 then .inr (c, (List.range z).map fun k => if q_rf c k then va_rf (n_o G (m.2.2.2 o k)) else .int (m.2.1 o k))
  else .inl (G.2.1 c, z, if c = 102 then .inr (.inl (m.2.2.1 o)) else if c < 200 then .inl (m.2.1 o) else .inr (.inr (.inr (.inr fun k => n_o G (m.2.2.2 o k)))))
def n_w (G : n_G) (m : e_M) : va_W := m.1.mapIdx fun o q => (n_b G + o, n_cell G m o q.1 q.2)
theorem n_w_at {G : n_G} {m : e_M} {o c z : Nat} (h : m.1[o]? = some (c, z)) : (n_w G m)[o]? = some (n_b G + o, n_cell G m o c z) := by
  simp [n_w, List.getElem?_mapIdx, h]
theorem n_w_len {G : n_G} {m : e_M} : (n_w G m).length = m.1.length := by simp [n_w]
theorem n_w_inv {G : n_G} {m : e_M} {o : Nat} {q : Nat × va_E} (h : (n_w G m)[o]? = some q) : ∃ c z, m.1[o]? = some (c, z) ∧ q = (n_b G + o, n_cell G m o c z) := by
  simp only [n_w, List.getElem?_mapIdx, Option.map_eq_some_iff] at h
  obtain ⟨⟨c, z⟩, h1, h2⟩ := h
  exact ⟨c, z, h1, h2.symm⟩
theorem n_w_D {G : n_G} {m : e_M} : va_D (fun q => n_b G ≤ q) (n_w G m) := by
  refine ⟨fun i j p q hi hj he => ?_, fun k q hk => ?_⟩
  · obtain ⟨c, z, -, rfl⟩ := n_w_inv hi
    obtain ⟨c', z', -, rfl⟩ := n_w_inv hj
    dsimp only at he
    omega
  · obtain ⟨c, z, -, rfl⟩ := n_w_inv hk
    exact Nat.le_add_right _ _
/-- one cell changed -/
theorem n_w_set {G : n_G} {m m' : e_M} {o c z : Nat} (h : m.1[o]? = some (c, z)) (h1 : m'.1 = m.1) (hi : ∀ a k, a ≠ o → m'.2.1 a k = m.2.1 a k) (hj : ∀ a k, a ≠ o → m'.2.2.1 a k = m.2.2.1 a k) (hr : ∀ a k, a ≠ o → m'.2.2.2 a k = m.2.2.2 a k) :
    n_w G m' = (n_w G m).set o (n_b G + o, n_cell G m' o c z) := by
  apply List.ext_getElem?
  intro a
  by_cases e : a = o
  · subst e
    have hl : a < (n_w G m).length := by rw [n_w_len]; exact (List.getElem?_eq_some_iff.mp h).1
    rw [List.getElem?_set_self hl]
    exact n_w_at (by rw [h1]; exact h)
  · rw [List.getElem?_set_ne (Ne.symm e)]
    cases hq : m.1[a]? with
    | none =>
      have l1 : m.1.length ≤ a := by simpa using hq
      rw [List.getElem?_eq_none (by rw [n_w_len, h1]; exact l1), List.getElem?_eq_none (by rw [n_w_len]; exact l1)]
    | some q =>
      obtain ⟨c', z'⟩ := q
      rw [n_w_at hq, n_w_at (m := m') (by rw [h1]; exact hq)]
      have i1 : m'.2.1 a = m.2.1 a := funext fun k => hi a k e
      have i2 : m'.2.2.1 a = m.2.2.1 a := funext fun k => hj a k e
      have i3 : ∀ k, m'.2.2.2 a k = m.2.2.2 a k := fun k => hr a k e
      simp only [n_cell, i1, i2, i3]
/-- one cell more -/
theorem n_w_push {G : n_G} {m m' : e_M} {c z : Nat} (h1 : m'.1 = m.1 ++ [(c, z)]) (hi : ∀ a k, a < m.1.length → m'.2.1 a k = m.2.1 a k) (hj : ∀ a k, a < m.1.length → m'.2.2.1 a k = m.2.2.1 a k) (hr : ∀ a k, a < m.1.length → m'.2.2.2 a k = m.2.2.2 a k) :
    n_w G m' = n_w G m ++ [(n_b G + m.1.length, n_cell G m' m.1.length c z)] := by
  apply List.ext_getElem?
  intro a
  rcases Nat.lt_trichotomy a m.1.length with e | e | e
  · rw [List.getElem?_append_left (by rw [n_w_len]; exact e)]
    have hq : m.1[a]? = some m.1[a] := List.getElem?_eq_getElem e
    generalize m.1[a] = q at hq
    obtain ⟨c', z'⟩ := q
    have hq' : m'.1[a]? = some (c', z') := by rw [h1, List.getElem?_append_left e]; exact hq
    rw [n_w_at hq, n_w_at hq']
    have i1 : m'.2.1 a = m.2.1 a := funext fun k => hi a k e
    have i2 : m'.2.2.1 a = m.2.2.1 a := funext fun k => hj a k e
    have i3 : ∀ k, m'.2.2.2 a k = m.2.2.2 a k := fun k => hr a k e
    simp only [n_cell, i1, i2, i3]
  · subst e
    rw [List.getElem?_append_right (by rw [n_w_len]; exact Nat.le_refl _), n_w_len, Nat.sub_self]
    exact n_w_at (by rw [h1, List.getElem?_append_right (Nat.le_refl _), Nat.sub_self]; rfl)
  · rw [List.getElem?_eq_none (by rw [n_w_len, h1]; simp; omega), List.getElem?_eq_none (by simp [n_w_len]; omega)]
/-- the kinds that there are -/
def n_kd (q : Nat × Nat) : Prop := (q.1 < 11 ∧ q.2 = e_nf q.1) ∨ q.1 = 100 ∨ q.1 = 101 ∨ q.1 = 102 ∨ q.1 = 206 ∨ q.1 = 207
def n_ok (m : e_M) : Prop := (∀ (o : Nat) (q : Nat × Nat), m.1[o]? = some q → n_kd q) ∧ ∀ (o k : Nat), o < m.1.length → m.2.2.2 o k ≤ m.1.length
def n_z (m : e_M) : Nat := (m.1.map (·.2)).sum
def n_t (G : n_G) : List (ClassId × FieldType) := [(G.2.1 100, .int), (G.2.1 101, .char), (G.2.1 102, .long), (G.2.1 206, .object "BridgeService$Sheet"), (G.2.1 207, .object "BridgeService$Shelf")]
/-! locals -/
def e_u : Value → Bool
  | .retAddr _ => true
  | _ => false
def n_ll (G : n_G) (ls : List Value) : List (Nat × Value) := (List.range ls.length).filterMap fun j => match ls[j]? with
  | some v => if e_u v then none else some (j, n_v G v)
  | none => none
def n_L (G : n_G) (nL : Nat) (ls : List Value) (lsA : Array Slot) : Prop := ls.length = nL ∧ lsA.size = nL ∧ lv_wf lsA ∧ ∀ (i : Nat) (v : Value), ls[i]? = some v → e_u v = false → lsA[i]? = some (.val (n_v G v))
theorem n_ll_mem {G : n_G} {ls : List Value} {q : Nat × Value} : q ∈ n_ll G ls ↔ ∃ v, ls[q.1]? = some v ∧ e_u v = false ∧ q.2 = n_v G v := by
  simp only [n_ll, List.mem_filterMap, List.mem_range]
  constructor
  · rintro ⟨j, hj, h⟩
    have hg : ls[j]? = some ls[j] := List.getElem?_eq_getElem hj
    rw [hg] at h
    dsimp only at h
    by_cases hu : e_u ls[j] = true
    · rw [if_pos hu] at h; cases h
    · rw [if_neg hu] at h
      cases h
      exact ⟨_, hg, by simpa using hu, rfl⟩
  · rintro ⟨v, h1, h2, h3⟩
    refine ⟨q.1, (List.getElem?_eq_some_iff.mp h1).1, ?_⟩
    rw [h1]
    dsimp only
    rw [if_neg (by rw [h2]; decide), ← h3]
theorem n_L_has {G : n_G} {nL : Nat} {ls : List Value} {lsA : Array Slot} (h : n_L G nL ls lsA) : lv_has lsA nL (n_ll G ls) := by
  refine ⟨h.2.1, h.2.2.1, fun q hq => ?_⟩
  obtain ⟨v, h1, h2, h3⟩ := n_ll_mem.mp hq
  rw [h3]
  exact h.2.2.2 _ _ h1 h2
theorem n_v_cat {G : n_G} {v : Value} (h : e_u v = false) : (n_v G v).category = v.category := by cases v <;> first | rfl | (cases h; done)
theorem n_L_st1 {G : n_G} {nL i : Nat} {ls ls' : List Value} {lsA lsB : Array Slot} {v : Value} (h : n_L G nL ls lsA) (hs : e_st1 i ls v = some ls') (hB : lv_has lsB nL ((i, n_v G v) :: (n_ll G ls).filter (fun q => !(q.1 == i) && !(q.1 + 1 == i && q.2.category == 2)))) : n_L G nL ls' lsB ∧ i < nL := by
  unfold e_st1 at hs
  split at hs
  · rename_i hi
    have key : (∀ w, i ≠ 0 → ls[i - 1]? = some w → ¬ w.category = 2) ∧ ls' = ls.set i v := by
      split at hs
      · cases hs
        exact ⟨fun w h0 => absurd rfl h0, rfl⟩
      · split at hs
        · rename_i j w hw
          split at hs
          · cases hs
          · rename_i hc
            cases hs
            exact ⟨fun w' _ hw' => by rw [Nat.succ_sub_one, hw] at hw'; cases hw'; exact hc, rfl⟩
        · cases hs
    obtain ⟨hc, rfl⟩ := key
    refine ⟨⟨by simp [h.1], hB.1, hB.2.1, fun j w hj hu => ?_⟩, by rw [← h.1]; exact hi⟩
    by_cases e : j = i
    · subst e
      rw [List.getElem?_set_self hi] at hj
      cases hj
      exact hB.2.2 _ List.mem_cons_self
    · rw [List.getElem?_set_ne (Ne.symm e)] at hj
      refine hB.2.2 (j, n_v G w) (List.mem_cons_of_mem _ (List.mem_filter.mpr ⟨n_ll_mem.mpr ⟨w, hj, hu, rfl⟩, ?_⟩))
      simp only [Bool.and_eq_true, Bool.not_eq_true', beq_eq_false_iff_ne, ne_eq, Bool.and_eq_false_iff]
      refine ⟨e, ?_⟩
      by_cases e2 : j + 1 = i
      · refine Or.inr fun hc2 => hc w (by omega) (by rw [← e2, Nat.add_sub_cancel]; exact hj) ?_
        rw [← n_v_cat (G := G) hu]
        exact hc2
      · exact Or.inl e2
  · cases hs
theorem n_L_st2 {G : n_G} {nL i : Nat} {ls ls' : List Value} {lsA lsB : Array Slot} {v : Value} (h : n_L G nL ls lsA) (hs : e_st2 i ls v = some ls') (hB : lv_has lsB nL ((i, n_v G v) :: (n_ll G ls).filter (fun q => !(q.1 == i) && (!(q.1 == i + 1) && !(q.1 + 1 == i && q.2.category == 2))))) : n_L G nL ls' lsB ∧ i + 1 < nL := by
  unfold e_st2 at hs
  split at hs
  · rename_i hi
    have key : (∀ w, i ≠ 0 → ls[i - 1]? = some w → ¬ w.category = 2) ∧ ls' = (ls.set i v).set (i + 1) (.retAddr 0) := by
      split at hs
      · cases hs
        exact ⟨fun w h0 => absurd rfl h0, rfl⟩
      · split at hs
        · rename_i j w hw
          split at hs
          · cases hs
          · rename_i hc
            cases hs
            exact ⟨fun w' _ hw' => by rw [Nat.succ_sub_one, hw] at hw'; cases hw'; exact hc, rfl⟩
        · cases hs
    obtain ⟨hc, rfl⟩ := key
    refine ⟨⟨by simp [h.1], hB.1, hB.2.1, fun j w hj hu => ?_⟩, by rw [← h.1]; exact hi⟩
    by_cases e1 : j = i + 1
    · subst e1
      rw [List.getElem?_set_self (by simpa using hi)] at hj
      cases hj
      cases hu
    · rw [List.getElem?_set_ne (Ne.symm e1)] at hj
      by_cases e : j = i
      · subst e
        rw [List.getElem?_set_self (by omega)] at hj
        cases hj
        exact hB.2.2 _ List.mem_cons_self
      · rw [List.getElem?_set_ne (Ne.symm e)] at hj
        refine hB.2.2 (j, n_v G w) (List.mem_cons_of_mem _ (List.mem_filter.mpr ⟨n_ll_mem.mpr ⟨w, hj, hu, rfl⟩, ?_⟩))
        simp only [Bool.and_eq_true, Bool.not_eq_true', beq_eq_false_iff_ne, ne_eq, Bool.and_eq_false_iff]
        refine ⟨e, e1, ?_⟩
        by_cases e2 : j + 1 = i
        · refine Or.inr fun hc2 => hc w (by omega) (by rw [← e2, Nat.add_sub_cancel]; exact hj) ?_
          rw [← n_v_cat (G := G) hu]
          exact hc2
        · exact Or.inl e2
  · cases hs
end
section
/-! PLAIN INSTRUCTIONS: what the evaluator does, the machine does -/
def n_tx : String := "plate,dish,tureen,boat,saucer,cracked,sit,stand,leave,if,and,or,not,year,width,grudge,mood,number,"
/-- what is behind a table's row -/
theorem k_lookup_mem {α : Type} {i : Nat} {v : α} : ∀ {l : List (Nat × α)}, l.lookup i = some v → (i, v) ∈ l
  | [], h => by cases h
  | (j, w) :: l, h => by
    rw [List.lookup_cons] at h
    by_cases e : (i == j) = true
    · rw [e] at h
      have e' : i = j := by simpa using e
      cases h
      rw [e']
      exact List.mem_cons_self
    · have e' : (i == j) = false := by simpa using e
      rw [e'] at h
      exact List.mem_cons_of_mem _ (k_lookup_mem h)
theorem k_look {α : Type} {L : List (List (Nat × α))} {P : Nat → Nat × α → Bool} (h : (List.range 16).all (fun o => (L.getD o []).all (P o)) = true) (hl : L.length ≤ 16) {o i : Nat} {v : α} (hv : (L.getD o []).lookup i = some v) : P o (i, v) = true := by
  by_cases ho : o < 16
  · exact List.all_eq_true.mp (List.all_eq_true.mp h o (List.mem_range.mpr ho)) _ (k_lookup_mem hv)
  · rw [List.getD_eq_getElem?_getD, List.getElem?_eq_none (by omega)] at hv
    cases hv
theorem k_map1 {α β : Type} {x : Option (α × β)} {a : α} (h : x.map (·.1) = some a) : ∃ b, x = some (a, b) := by
  cases x with
  | none => cases h
  | some q =>
    obtain ⟨q1, q2⟩ := q
    simp only [Option.map_some, Option.some.injEq] at h
    exact ⟨q2, by rw [h]⟩

/-- the facts of the start that ride along: the script, the static row, the text, the words that the launch's tables don't keep by themselves -/
def n_S (G : n_G) (X : e_X) (U : State) : Prop :=
  va_T .int (G.2.2.1 1) X.1 (fun j => .int (X.2 j)) (fun q => n_b G ≤ q) U U.heap ∧
  va_Z "BridgeService" "ABOVE" "[I" (.ref (G.2.2.1 2)) (fun q => n_b G ≤ q) U U.heap ∧ va_T .int (G.2.2.1 2) 6 (fun j => .int (e_abv j)) (fun q => n_b G ≤ q) U U.heap ∧
  va_Z "java/lang/String" "COMPACT_STRINGS" "Z" (.int 1) (fun q => n_b G ≤ q) U U.heap ∧
  va_Z "jdk/internal/util/Preconditions" "SIOOBE_FORMATTER" "Ljava/util/function/BiFunction;" G.2.2.2 (fun q => n_b G ≤ q) U U.heap ∧
  vk_R "BridgeService$Reader" 88 n_tx (G.2.2.1 3) U ∧
  vk_S 1 [98] [e_nms] (fun _ => G.2.2.1 3) (fun _ => G.2.2.1 4) (fun q => n_b G ≤ q) U U.heap ∧
  (∀ w ∈ lw_tbl, k_nest w = true → va_Nw w U) ∧ va_AO "BridgeService$Sheet" U ∧ va_AO "BridgeService$Shelf" U
theorem n_S_moved {G : n_G} {X : e_X} {s U : State} {H : Heap} {locs : List Loc} (h : n_S G X s) (hS : va_S (fun q => n_b G ≤ q) s.heap H locs) (hU : U.heap = H) (hW : s.WarmedH U.vm) : n_S G X U := by
  obtain ⟨h1, h2, h3, h4, h5, h6, h7, h8, h9, h10⟩ := h
  have ha := hW.alike
  unfold n_S
  rw [hU]
  refine ⟨(h1.kept hS.2.1).moved ha, (h2.kept hS.2.1).moved ha, (h3.kept hS.2.1).moved ha, (h4.kept hS.2.1).moved ha, (h5.kept hS.2.1).moved ha, h6.warm hW, (h7.kept hS.2.1).moved ha, fun w hw hn => ?_, h9.moved ha, h10.moved ha⟩
  have h8 := h8 w hw hn
  cases w <;> first | (cases hn; done) | exact va_Nw.warmF hW h8 | exact va_Nw.warmM hW h8
/-- the frame of a body -/
def n_C (G : n_G) (X : e_X) (p : Program) (R : Room) (s : State) (m : MethodId) (args : Array Value) (meth : Method) (c : Code) (g nL : Nat) : Prop :=
  p.tables.exec = Jvm.exec ∧ c.code = g_b g ∧ c.maxLocals = nL ∧ s.vm.findClass (g_cn (g_own g)) = some m.cls ∧ (∀ w ∈ lw_tbl, (goodWord w = true ∨ k_nest w = true) → w.before args s = true) ∧ va_K G.1 q_cl (n_t G) s ∧ n_S G X s ∧ ((g_y g).name = "<init>" → meth.name = "<init>") ∧ n_b G ≤ s.heap.size ∧ 1 ≤ R.frames ∧ 100 ≤ R.locals
def n_R (G : n_G) (s : State) (k0 s0 nL : Nat) (m : e_M) (ls : List Value) (H : Heap) (locs : List Loc) (lsA : Array Slot) (cells slots : Nat) : Prop :=
  H.size = n_b G + m.1.length ∧ va_P G.1 q_cl (n_w G m) H ∧ va_S (fun q => n_b G ≤ q) s.heap H locs ∧ n_L G nL ls lsA ∧ cells + k0 = m.1.length ∧ slots + s0 = n_z m ∧ n_ok m
def n_Q (G : n_G) (X : e_X) (p : Program) (l : Launch) (e : Env) (R : Room) (s : State) (m : MethodId) (args : Array Value) (below : List Frame) (meth : Method) (c : Code) (g nL k0 s0 : Nat) (r : Instr) : Prop :=
  ∀ (i : Instr) (pc len : Nat) (mm mm' : e_M) (ls ls' st st' : List Value) (H : Heap) (locs : List Loc) (lsA : Array Slot) (cells slots : Nat) (Q : State → Prop),
    decode (g_b g) pc = .ok (i, len) → k_ok g pc len i r = true → e_st X r ls st mm = some (ls', st', mm') → n_R G s k0 s0 nL mm ls H locs lsA cells slots → mm'.1.length ≤ 900 → mm'.1.length ≤ R.cells + k0 → n_z mm' ≤ R.slots + s0 → n_z mm' ≤ 100000 →
    (∀ (H' : Heap) (locs' : List Loc) (lsA' : Array Slot) (cells' slots' : Nat), n_R G s k0 s0 nL mm' ls' H' locs' lsA' cells' slots' → W p l e R s m args below meth c H' locs' cells' slots' Q (F0 m (pc + len) lsA' (st'.map (n_v G)))) →
    W p l e R s m args below meth c H locs cells slots Q (F0 m pc lsA (st.map (n_v G)))
theorem n_cat2 (v : Value) : v.category ≤ 2 := by cases v <;> simp [Value.category]
theorem n_lo {f : Value → Value} : ∀ {r : List Value} {n : Nat}, r.length ≤ n → ((r.map f).map fun v => v.category).sum ≤ 2 * n
  | [], n, _ => Nat.zero_le _
  | v :: r, 0, h => by simp at h
  | v :: r, n + 1, h => by
    have h1 := n_lo (f := f) (r := r) (n := n) (by simpa using h)
    have h2 := n_cat2 (f v)
    simp only [List.map_cons, List.sum_cons]
    omega
section
variable {G : n_G} {X : e_X} {p : Program} {l : Launch} {e : Env} {R : Room} {s : State} {m : MethodId} {args : Array Value} {below : List Frame} {meth : Method} {c : Code} {g nL k0 s0 : Nat}
theorem n_iadd (C : n_C G X p R s m args meth c g nL) : n_Q G X p l e R s m args below meth c g nL k0 s0 .iadd := by
  intro i pc len mm mm' ls ls' st st' H locs lsA cells slots Q hd hk he hr h1 h2 h3 h4 kk
  simp only [k_ok, Bool.and_eq_true, decide_eq_true_eq] at hk
  obtain ⟨rfl, rfl⟩ := hk
  replace he : e_ii (fun x y => x + y) ls st mm = some (ls', st', mm') := he
  unfold e_ii at he
  split at he
  · cases he
    exact lv_iadd C.1 C.2.1 hd (kk _ _ _ _ _ hr)
  · cases he
theorem n_isub (C : n_C G X p R s m args meth c g nL) : n_Q G X p l e R s m args below meth c g nL k0 s0 .isub := by
  intro i pc len mm mm' ls ls' st st' H locs lsA cells slots Q hd hk he hr h1 h2 h3 h4 kk
  simp only [k_ok, Bool.and_eq_true, decide_eq_true_eq] at hk
  obtain ⟨rfl, rfl⟩ := hk
  replace he : e_ii (fun x y => x - y) ls st mm = some (ls', st', mm') := he
  unfold e_ii at he
  split at he
  · cases he
    exact lv_isub C.1 C.2.1 hd (kk _ _ _ _ _ hr)
  · cases he
theorem n_imul (C : n_C G X p R s m args meth c g nL) : n_Q G X p l e R s m args below meth c g nL k0 s0 .imul := by
  intro i pc len mm mm' ls ls' st st' H locs lsA cells slots Q hd hk he hr h1 h2 h3 h4 kk
  simp only [k_ok, Bool.and_eq_true, decide_eq_true_eq] at hk
  obtain ⟨rfl, rfl⟩ := hk
  replace he : e_ii (fun x y => x * y) ls st mm = some (ls', st', mm') := he
  unfold e_ii at he
  split at he
  · cases he
    exact lv_imul C.1 C.2.1 hd (kk _ _ _ _ _ hr)
  · cases he
theorem n_iand (C : n_C G X p R s m args meth c g nL) : n_Q G X p l e R s m args below meth c g nL k0 s0 .iand := by
  intro i pc len mm mm' ls ls' st st' H locs lsA cells slots Q hd hk he hr h1 h2 h3 h4 kk
  simp only [k_ok, Bool.and_eq_true, decide_eq_true_eq] at hk
  obtain ⟨rfl, rfl⟩ := hk
  replace he : e_ii (fun x y => x &&& y) ls st mm = some (ls', st', mm') := he
  unfold e_ii at he
  split at he
  · cases he
    exact lv_iand C.1 C.2.1 hd (kk _ _ _ _ _ hr)
  · cases he
theorem n_ior (C : n_C G X p R s m args meth c g nL) : n_Q G X p l e R s m args below meth c g nL k0 s0 .ior := by
  intro i pc len mm mm' ls ls' st st' H locs lsA cells slots Q hd hk he hr h1 h2 h3 h4 kk
  simp only [k_ok, Bool.and_eq_true, decide_eq_true_eq] at hk
  obtain ⟨rfl, rfl⟩ := hk
  replace he : e_ii (fun x y => x ||| y) ls st mm = some (ls', st', mm') := he
  unfold e_ii at he
  split at he
  · cases he
    exact lv_ior C.1 C.2.1 hd (kk _ _ _ _ _ hr)
  · cases he
theorem n_ixor (C : n_C G X p R s m args meth c g nL) : n_Q G X p l e R s m args below meth c g nL k0 s0 .ixor := by
  intro i pc len mm mm' ls ls' st st' H locs lsA cells slots Q hd hk he hr h1 h2 h3 h4 kk
  simp only [k_ok, Bool.and_eq_true, decide_eq_true_eq] at hk
  obtain ⟨rfl, rfl⟩ := hk
  replace he : e_ii (fun x y => x ^^^ y) ls st mm = some (ls', st', mm') := he
  unfold e_ii at he
  split at he
  · cases he
    exact lv_ixor C.1 C.2.1 hd (kk _ _ _ _ _ hr)
  · cases he
theorem n_ishl (C : n_C G X p R s m args meth c g nL) : n_Q G X p l e R s m args below meth c g nL k0 s0 .ishl := by
  intro i pc len mm mm' ls ls' st st' H locs lsA cells slots Q hd hk he hr h1 h2 h3 h4 kk
  simp only [k_ok, Bool.and_eq_true, decide_eq_true_eq] at hk
  obtain ⟨rfl, rfl⟩ := hk
  replace he : e_ii (fun x y => x <<< (y &&& 31)) ls st mm = some (ls', st', mm') := he
  unfold e_ii at he
  split at he
  · cases he
    exact lv_ishl C.1 C.2.1 hd (kk _ _ _ _ _ hr)
  · cases he
theorem n_ishr (C : n_C G X p R s m args meth c g nL) : n_Q G X p l e R s m args below meth c g nL k0 s0 .ishr := by
  intro i pc len mm mm' ls ls' st st' H locs lsA cells slots Q hd hk he hr h1 h2 h3 h4 kk
  simp only [k_ok, Bool.and_eq_true, decide_eq_true_eq] at hk
  obtain ⟨rfl, rfl⟩ := hk
  replace he : e_ii (fun x y => x >>> (y &&& 31)) ls st mm = some (ls', st', mm') := he
  unfold e_ii at he
  split at he
  · cases he
    exact lv_ishr C.1 C.2.1 hd (kk _ _ _ _ _ hr)
  · cases he
theorem n_iushr (C : n_C G X p R s m args meth c g nL) : n_Q G X p l e R s m args below meth c g nL k0 s0 .iushr := by
  intro i pc len mm mm' ls ls' st st' H locs lsA cells slots Q hd hk he hr h1 h2 h3 h4 kk
  simp only [k_ok, Bool.and_eq_true, decide_eq_true_eq] at hk
  obtain ⟨rfl, rfl⟩ := hk
  replace he : e_ii (fun x y => (x.toUInt32 >>> (y.toUInt32 &&& Int32.toUInt32 31)).toInt32) ls st mm = some (ls', st', mm') := he
  unfold e_ii at he
  split at he
  · cases he
    exact lv_iushr C.1 C.2.1 hd rfl (kk _ _ _ _ _ hr)
  · cases he
theorem n_idiv (C : n_C G X p R s m args meth c g nL) : n_Q G X p l e R s m args below meth c g nL k0 s0 .idiv := by
  intro i pc len mm mm' ls ls' st st' H locs lsA cells slots Q hd hk he hr h1 h2 h3 h4 kk
  simp only [k_ok, Bool.and_eq_true, decide_eq_true_eq] at hk
  obtain ⟨rfl, rfl⟩ := hk
  replace he : e_id (fun x y => x / y) ls st mm = some (ls', st', mm') := he
  unfold e_id at he
  split at he
  · split at he
    · cases he
    · rename_i hz
      cases he
      exact lv_idiv C.1 C.2.1 hd hz (kk _ _ _ _ _ hr)
  · cases he
theorem n_irem (C : n_C G X p R s m args meth c g nL) : n_Q G X p l e R s m args below meth c g nL k0 s0 .irem := by
  intro i pc len mm mm' ls ls' st st' H locs lsA cells slots Q hd hk he hr h1 h2 h3 h4 kk
  simp only [k_ok, Bool.and_eq_true, decide_eq_true_eq] at hk
  obtain ⟨rfl, rfl⟩ := hk
  replace he : e_id (fun x y => x % y) ls st mm = some (ls', st', mm') := he
  unfold e_id at he
  split at he
  · split at he
    · cases he
    · rename_i hz
      cases he
      refine lv_irem C.1 C.2.1 hd hz ?_
      rw [irem_eq_mod]
      exact kk _ _ _ _ _ hr
  · cases he
theorem n_ineg (C : n_C G X p R s m args meth c g nL) : n_Q G X p l e R s m args below meth c g nL k0 s0 .ineg := by
  intro i pc len mm mm' ls ls' st st' H locs lsA cells slots Q hd hk he hr h1 h2 h3 h4 kk
  simp only [k_ok, Bool.and_eq_true, decide_eq_true_eq] at hk
  obtain ⟨rfl, rfl⟩ := hk
  replace he : e_i1 (fun x => -x) ls st mm = some (ls', st', mm') := he
  unfold e_i1 at he
  split at he
  · cases he
    exact lv_ineg C.1 C.2.1 hd (kk _ _ _ _ _ hr)
  · cases he
theorem n_i2b (C : n_C G X p R s m args meth c g nL) : n_Q G X p l e R s m args below meth c g nL k0 s0 .i2b := by
  intro i pc len mm mm' ls ls' st st' H locs lsA cells slots Q hd hk he hr h1 h2 h3 h4 kk
  simp only [k_ok, Bool.and_eq_true, decide_eq_true_eq] at hk
  obtain ⟨rfl, rfl⟩ := hk
  replace he : e_i1 (fun x => x.toInt8.toInt32) ls st mm = some (ls', st', mm') := he
  unfold e_i1 at he
  split at he
  · cases he
    exact lv_i2b C.1 C.2.1 hd rfl (kk _ _ _ _ _ hr)
  · cases he
theorem n_i2s (C : n_C G X p R s m args meth c g nL) : n_Q G X p l e R s m args below meth c g nL k0 s0 .i2s := by
  intro i pc len mm mm' ls ls' st st' H locs lsA cells slots Q hd hk he hr h1 h2 h3 h4 kk
  simp only [k_ok, Bool.and_eq_true, decide_eq_true_eq] at hk
  obtain ⟨rfl, rfl⟩ := hk
  replace he : e_i1 (fun x => x.toInt16.toInt32) ls st mm = some (ls', st', mm') := he
  unfold e_i1 at he
  split at he
  · cases he
    exact lv_i2s C.1 C.2.1 hd rfl (kk _ _ _ _ _ hr)
  · cases he
theorem n_i2c (C : n_C G X p R s m args meth c g nL) : n_Q G X p l e R s m args below meth c g nL k0 s0 .i2c := by
  intro i pc len mm mm' ls ls' st st' H locs lsA cells slots Q hd hk he hr h1 h2 h3 h4 kk
  simp only [k_ok, Bool.and_eq_true, decide_eq_true_eq] at hk
  obtain ⟨rfl, rfl⟩ := hk
  replace he : e_i1 (fun x => (x.toUInt32 % 65536).toInt32) ls st mm = some (ls', st', mm') := he
  unfold e_i1 at he
  split at he
  · cases he
    exact lv_i2c C.1 C.2.1 hd rfl (kk _ _ _ _ _ hr)
  · cases he
theorem n_ladd (C : n_C G X p R s m args meth c g nL) : n_Q G X p l e R s m args below meth c g nL k0 s0 .ladd := by
  intro i pc len mm mm' ls ls' st st' H locs lsA cells slots Q hd hk he hr h1 h2 h3 h4 kk
  simp only [k_ok, Bool.and_eq_true, decide_eq_true_eq] at hk
  obtain ⟨rfl, rfl⟩ := hk
  replace he : e_jj (fun x y => x + y) ls st mm = some (ls', st', mm') := he
  unfold e_jj at he
  split at he
  · cases he
    exact lv_ladd C.1 C.2.1 hd (kk _ _ _ _ _ hr)
  · cases he
theorem n_lsub (C : n_C G X p R s m args meth c g nL) : n_Q G X p l e R s m args below meth c g nL k0 s0 .lsub := by
  intro i pc len mm mm' ls ls' st st' H locs lsA cells slots Q hd hk he hr h1 h2 h3 h4 kk
  simp only [k_ok, Bool.and_eq_true, decide_eq_true_eq] at hk
  obtain ⟨rfl, rfl⟩ := hk
  replace he : e_jj (fun x y => x - y) ls st mm = some (ls', st', mm') := he
  unfold e_jj at he
  split at he
  · cases he
    exact lv_lsub C.1 C.2.1 hd (kk _ _ _ _ _ hr)
  · cases he
theorem n_land (C : n_C G X p R s m args meth c g nL) : n_Q G X p l e R s m args below meth c g nL k0 s0 .land := by
  intro i pc len mm mm' ls ls' st st' H locs lsA cells slots Q hd hk he hr h1 h2 h3 h4 kk
  simp only [k_ok, Bool.and_eq_true, decide_eq_true_eq] at hk
  obtain ⟨rfl, rfl⟩ := hk
  replace he : e_jj (fun x y => x &&& y) ls st mm = some (ls', st', mm') := he
  unfold e_jj at he
  split at he
  · cases he
    exact lv_land C.1 C.2.1 hd (kk _ _ _ _ _ hr)
  · cases he
theorem n_lor (C : n_C G X p R s m args meth c g nL) : n_Q G X p l e R s m args below meth c g nL k0 s0 .lor := by
  intro i pc len mm mm' ls ls' st st' H locs lsA cells slots Q hd hk he hr h1 h2 h3 h4 kk
  simp only [k_ok, Bool.and_eq_true, decide_eq_true_eq] at hk
  obtain ⟨rfl, rfl⟩ := hk
  replace he : e_jj (fun x y => x ||| y) ls st mm = some (ls', st', mm') := he
  unfold e_jj at he
  split at he
  · cases he
    exact lv_lor C.1 C.2.1 hd (kk _ _ _ _ _ hr)
  · cases he
theorem n_lxor (C : n_C G X p R s m args meth c g nL) : n_Q G X p l e R s m args below meth c g nL k0 s0 .lxor := by
  intro i pc len mm mm' ls ls' st st' H locs lsA cells slots Q hd hk he hr h1 h2 h3 h4 kk
  simp only [k_ok, Bool.and_eq_true, decide_eq_true_eq] at hk
  obtain ⟨rfl, rfl⟩ := hk
  replace he : e_jj (fun x y => x ^^^ y) ls st mm = some (ls', st', mm') := he
  unfold e_jj at he
  split at he
  · cases he
    exact lv_lxor C.1 C.2.1 hd (kk _ _ _ _ _ hr)
  · cases he
theorem n_lshl (C : n_C G X p R s m args meth c g nL) : n_Q G X p l e R s m args below meth c g nL k0 s0 .lshl := by
  intro i pc len mm mm' ls ls' st st' H locs lsA cells slots Q hd hk he hr h1 h2 h3 h4 kk
  simp only [k_ok, Bool.and_eq_true, decide_eq_true_eq] at hk
  obtain ⟨rfl, rfl⟩ := hk
  replace he : e_ji (fun x y => x <<< (y.toInt64 &&& 63)) ls st mm = some (ls', st', mm') := he
  unfold e_ji at he
  split at he
  · cases he
    exact lv_lshl C.1 C.2.1 hd rfl (kk _ _ _ _ _ hr)
  · cases he
theorem n_lshr (C : n_C G X p R s m args meth c g nL) : n_Q G X p l e R s m args below meth c g nL k0 s0 .lshr := by
  intro i pc len mm mm' ls ls' st st' H locs lsA cells slots Q hd hk he hr h1 h2 h3 h4 kk
  simp only [k_ok, Bool.and_eq_true, decide_eq_true_eq] at hk
  obtain ⟨rfl, rfl⟩ := hk
  replace he : e_ji (fun x y => x >>> (y.toInt64 &&& 63)) ls st mm = some (ls', st', mm') := he
  unfold e_ji at he
  split at he
  · cases he
    exact lv_lshr C.1 C.2.1 hd rfl (kk _ _ _ _ _ hr)
  · cases he
theorem n_lushr (C : n_C G X p R s m args meth c g nL) : n_Q G X p l e R s m args below meth c g nL k0 s0 .lushr := by
  intro i pc len mm mm' ls ls' st st' H locs lsA cells slots Q hd hk he hr h1 h2 h3 h4 kk
  simp only [k_ok, Bool.and_eq_true, decide_eq_true_eq] at hk
  obtain ⟨rfl, rfl⟩ := hk
  replace he : e_ji (fun x y => (x.toUInt64 >>> (y.toInt64.toUInt64 &&& Int64.toUInt64 63)).toInt64) ls st mm = some (ls', st', mm') := he
  unfold e_ji at he
  split at he
  · cases he
    exact lv_lushr C.1 C.2.1 hd rfl (kk _ _ _ _ _ hr)
  · cases he
theorem n_lcmp (C : n_C G X p R s m args meth c g nL) : n_Q G X p l e R s m args below meth c g nL k0 s0 .lcmp := by
  intro i pc len mm mm' ls ls' st st' H locs lsA cells slots Q hd hk he hr h1 h2 h3 h4 kk
  simp only [k_ok, Bool.and_eq_true, decide_eq_true_eq] at hk
  obtain ⟨rfl, rfl⟩ := hk
  simp only [e_st] at he
  split at he
  · cases he
    exact W.lcmp C.1 C.2.1 hd (kk _ _ _ _ _ hr)
  · cases he
theorem n_i2l (C : n_C G X p R s m args meth c g nL) : n_Q G X p l e R s m args below meth c g nL k0 s0 .i2l := by
  intro i pc len mm mm' ls ls' st st' H locs lsA cells slots Q hd hk he hr h1 h2 h3 h4 kk
  simp only [k_ok, Bool.and_eq_true, decide_eq_true_eq] at hk
  obtain ⟨rfl, rfl⟩ := hk
  simp only [e_st] at he
  split at he
  · cases he
    exact lv_i2l C.1 C.2.1 hd rfl (kk _ _ _ _ _ hr)
  · cases he
theorem n_l2i (C : n_C G X p R s m args meth c g nL) : n_Q G X p l e R s m args below meth c g nL k0 s0 .l2i := by
  intro i pc len mm mm' ls ls' st st' H locs lsA cells slots Q hd hk he hr h1 h2 h3 h4 kk
  simp only [k_ok, Bool.and_eq_true, decide_eq_true_eq] at hk
  obtain ⟨rfl, rfl⟩ := hk
  simp only [e_st] at he
  split at he
  · cases he
    exact lv_l2i C.1 C.2.1 hd rfl (kk _ _ _ _ _ hr)
  · cases he
theorem n_dup (C : n_C G X p R s m args meth c g nL) : n_Q G X p l e R s m args below meth c g nL k0 s0 .dup := by
  intro i pc len mm mm' ls ls' st st' H locs lsA cells slots Q hd hk he hr h1 h2 h3 h4 kk
  simp only [k_ok, Bool.and_eq_true, decide_eq_true_eq] at hk
  obtain ⟨rfl, rfl⟩ := hk
  simp only [e_st] at he
  split at he
  · cases he
    exact lv_dup C.1 C.2.1 hd rfl (kk _ _ _ _ _ hr)
  · cases he
    exact lv_dup C.1 C.2.1 hd rfl (kk _ _ _ _ _ hr)
  · cases he
theorem n_pop (C : n_C G X p R s m args meth c g nL) : n_Q G X p l e R s m args below meth c g nL k0 s0 .pop := by
  intro i pc len mm mm' ls ls' st st' H locs lsA cells slots Q hd hk he hr h1 h2 h3 h4 kk
  simp only [k_ok, Bool.and_eq_true, decide_eq_true_eq] at hk
  obtain ⟨rfl, rfl⟩ := hk
  simp only [e_st] at he
  split at he
  · cases he
    exact lv_pop C.1 C.2.1 hd rfl (kk _ _ _ _ _ hr)
  · cases he
theorem n_dup_x1 (C : n_C G X p R s m args meth c g nL) : n_Q G X p l e R s m args below meth c g nL k0 s0 .dup_x1 := by
  intro i pc len mm mm' ls ls' st st' H locs lsA cells slots Q hd hk he hr h1 h2 h3 h4 kk
  simp only [k_ok, Bool.and_eq_true, decide_eq_true_eq] at hk
  obtain ⟨rfl, rfl⟩ := hk
  simp only [e_st] at he
  split at he
  · cases he
    exact lv_dup_x1 C.1 C.2.1 hd rfl rfl (kk _ _ _ _ _ hr)
  · cases he
theorem n_dup2 (C : n_C G X p R s m args meth c g nL) : n_Q G X p l e R s m args below meth c g nL k0 s0 .dup2 := by
  intro i pc len mm mm' ls ls' st st' H locs lsA cells slots Q hd hk he hr h1 h2 h3 h4 kk
  simp only [k_ok, Bool.and_eq_true, decide_eq_true_eq] at hk
  obtain ⟨rfl, rfl⟩ := hk
  simp only [e_st] at he
  split at he
  · cases he
    exact lv_dup2_11 C.1 C.2.1 hd rfl rfl (kk _ _ _ _ _ hr)
  · cases he
theorem n_fin2 (n : Fin 2) : Int64.ofNat (n : Nat) = Int64.ofInt ((n : Nat) : Int) := by
  obtain ⟨n, h⟩ := n
  have : n = 0 ∨ n = 1 := by omega
  rcases this with rfl | rfl <;> rfl
theorem n_good (C : n_C G X p R s m args meth c g nL) {w : Jvm.Cond} (h : w ∈ lw_tbl ∧ (goodWord w = true ∨ k_nest w = true)) : w.before args s = true := C.2.2.2.2.1 w h.1 h.2
theorem n_sipush {v : Int} (C : n_C G X p R s m args meth c g nL) : n_Q G X p l e R s m args below meth c g nL k0 s0 (.sipush v) := by
  intro i pc len mm mm' ls ls' st st' H locs lsA cells slots Q hd hk he hr h1 h2 h3 h4 kk
  have he : some (ls, .int (Int32.ofInt v) :: st, mm) = some (ls', st', mm') := he
  cases he
  simp only [k_ok] at hk
  split at hk
  · simp only [Bool.and_eq_true, decide_eq_true_eq] at hk
    obtain ⟨rfl, rfl⟩ := hk
    exact lv_iconst C.1 C.2.1 hd rfl (kk _ _ _ _ _ hr)
  · simp only [Bool.and_eq_true, decide_eq_true_eq] at hk
    obtain ⟨⟨rfl, rfl⟩, hz⟩ := hk
    exact lv_bipush C.1 C.2.1 hd hz (kk _ _ _ _ _ hr)
  · simp only [Bool.and_eq_true, decide_eq_true_eq] at hk
    obtain ⟨⟨rfl, rfl⟩, hz⟩ := hk
    exact lv_sipush C.1 C.2.1 hd hz (kk _ _ _ _ _ hr)
  · simp only [Bool.and_eq_true, decide_eq_true_eq] at hk
    obtain ⟨rfl, hz⟩ := hk
    obtain ⟨q, hq⟩ := k_map1 hz
    exact lv_ldc C.1 C.2.1 C.2.2.2.1 (n_good C (k_at_mem (k_look k_i_ok (by decide) hq))) hd (kk _ _ _ _ _ hr)
  · simp only [Bool.and_eq_true, decide_eq_true_eq] at hk
    obtain ⟨rfl, hz⟩ := hk
    obtain ⟨q, hq⟩ := k_map1 hz
    exact lv_ldcw C.1 C.2.1 C.2.2.2.1 (n_good C (k_at_mem (k_look k_i_ok (by decide) hq))) hd (kk _ _ _ _ _ hr)
  · cases hk
theorem n_lconst {v : Int} (C : n_C G X p R s m args meth c g nL) : n_Q G X p l e R s m args below meth c g nL k0 s0 (.goto_w v) := by
  intro i pc len mm mm' ls ls' st st' H locs lsA cells slots Q hd hk he hr h1 h2 h3 h4 kk
  have he : some (ls, .long (Int64.ofInt v) :: st, mm) = some (ls', st', mm') := he
  cases he
  simp only [k_ok] at hk
  split at hk
  · simp only [Bool.and_eq_true, decide_eq_true_eq] at hk
    obtain ⟨rfl, rfl⟩ := hk
    exact lv_lconst C.1 C.2.1 hd (n_fin2 _) (kk _ _ _ _ _ hr)
  · simp only [Bool.and_eq_true, decide_eq_true_eq] at hk
    obtain ⟨rfl, hz⟩ := hk
    obtain ⟨q, hq⟩ := k_map1 hz
    exact lv_ldc2 C.1 C.2.1 C.2.2.2.1 (n_good C (k_at_mem (k_look k_j_ok (by decide) hq))) hd (kk _ _ _ _ _ hr)
  · cases hk
theorem n_iload {k : Nat} (C : n_C G X p R s m args meth c g nL) : n_Q G X p l e R s m args below meth c g nL k0 s0 (.iload k) := by
  intro i pc len mm mm' ls ls' st st' H locs lsA cells slots Q hd hk he hr h1 h2 h3 h4 kk
  simp only [e_st] at he
  split at he
  · rename_i x hx
    cases he
    have hl := hr.2.2.2.1.2.2.2 _ _ hx rfl
    simp only [k_ok] at hk
    split at hk
    · simp only [Bool.and_eq_true, decide_eq_true_eq] at hk
      obtain ⟨rfl, rfl⟩ := hk
      exact lv_iload C.1 C.2.1 hd hl (kk _ _ _ _ _ hr)
    · simp only [Bool.and_eq_true, decide_eq_true_eq] at hk
      obtain ⟨rfl, rfl⟩ := hk
      exact lv_iload_n C.1 C.2.1 hd rfl hl (kk _ _ _ _ _ hr)
    · cases hk
  · cases he
theorem n_lload {k : Nat} (C : n_C G X p R s m args meth c g nL) : n_Q G X p l e R s m args below meth c g nL k0 s0 (.lload k) := by
  intro i pc len mm mm' ls ls' st st' H locs lsA cells slots Q hd hk he hr h1 h2 h3 h4 kk
  simp only [e_st] at he
  split at he
  · rename_i x hx
    cases he
    have hl := hr.2.2.2.1.2.2.2 _ _ hx rfl
    simp only [k_ok] at hk
    split at hk
    · simp only [Bool.and_eq_true, decide_eq_true_eq] at hk
      obtain ⟨rfl, rfl⟩ := hk
      exact lv_lload C.1 C.2.1 hd hl (kk _ _ _ _ _ hr)
    · simp only [Bool.and_eq_true, decide_eq_true_eq] at hk
      obtain ⟨rfl, rfl⟩ := hk
      exact lv_lload_n C.1 C.2.1 hd rfl hl (kk _ _ _ _ _ hr)
    · cases hk
  · cases he
theorem n_aload {k : Nat} (C : n_C G X p R s m args meth c g nL) : n_Q G X p l e R s m args below meth c g nL k0 s0 (.aload k) := by
  intro i pc len mm mm' ls ls' st st' H locs lsA cells slots Q hd hk he hr h1 h2 h3 h4 kk
  simp only [e_st] at he
  split at he
  · rename_i x hx
    cases he
    have hl := hr.2.2.2.1.2.2.2 _ _ hx rfl
    simp only [k_ok] at hk
    split at hk
    · simp only [Bool.and_eq_true, decide_eq_true_eq] at hk
      obtain ⟨rfl, rfl⟩ := hk
      exact lv_aload C.1 C.2.1 hd hl (kk _ _ _ _ _ hr)
    · simp only [Bool.and_eq_true, decide_eq_true_eq] at hk
      obtain ⟨rfl, rfl⟩ := hk
      exact lv_aload_n C.1 C.2.1 hd rfl hl (kk _ _ _ _ _ hr)
    · cases hk
  · cases he
theorem n_R_L {mm : e_M} {ls ls' : List Value} {H : Heap} {locs : List Loc} {lsA lsB : Array Slot} {cells slots : Nat} (hr : n_R G s k0 s0 nL mm ls H locs lsA cells slots) (h : n_L G nL ls' lsB) : n_R G s k0 s0 nL mm ls' H locs lsB cells slots := ⟨hr.1, hr.2.1, hr.2.2.1, h, hr.2.2.2.2⟩
theorem e_st1_lt {i : Nat} {ls ls' : List Value} {v : Value} (h : e_st1 i ls v = some ls') : i < ls.length := by
  unfold e_st1 at h
  split at h
  · assumption
  · cases h
theorem e_st2_lt {i : Nat} {ls ls' : List Value} {v : Value} (h : e_st2 i ls v = some ls') : i + 1 < ls.length := by
  unfold e_st2 at h
  split at h
  · assumption
  · cases h
theorem n_istore {k : Nat} (C : n_C G X p R s m args meth c g nL) : n_Q G X p l e R s m args below meth c g nL k0 s0 (.istore k) := by
  intro i pc len mm mm' ls ls' st st' H locs lsA cells slots Q hd hk he hr h1 h2 h3 h4 kk
  simp only [e_st] at he
  split at he
  · rename_i x r
    simp only [Option.map_eq_some_iff] at he
    obtain ⟨q, hq, he⟩ := he
    cases he
    have hlt : k < nL := by rw [← hr.2.2.2.1.1]; exact e_st1_lt hq
    have hL := n_L_has hr.2.2.2.1
    simp only [k_ok] at hk
    split at hk
    · simp only [Bool.and_eq_true, decide_eq_true_eq] at hk
      obtain ⟨rfl, rfl⟩ := hk
      exact lv_istore C.1 C.2.1 hd hL hlt rfl (fun ls' h' => kk _ _ _ _ _ (n_R_L hr (n_L_st1 hr.2.2.2.1 hq h').1))
    · simp only [Bool.and_eq_true, decide_eq_true_eq] at hk
      obtain ⟨rfl, rfl⟩ := hk
      exact lv_istore_n C.1 C.2.1 hd rfl hL hlt rfl (fun ls' h' => kk _ _ _ _ _ (n_R_L hr (n_L_st1 hr.2.2.2.1 hq h').1))
    · cases hk
  · cases he
theorem n_astore {k : Nat} (C : n_C G X p R s m args meth c g nL) : n_Q G X p l e R s m args below meth c g nL k0 s0 (.astore k) := by
  intro i pc len mm mm' ls ls' st st' H locs lsA cells slots Q hd hk he hr h1 h2 h3 h4 kk
  simp only [e_st] at he
  split at he
  · rename_i x r
    simp only [Option.map_eq_some_iff] at he
    obtain ⟨q, hq, he⟩ := he
    cases he
    have hlt : k < nL := by rw [← hr.2.2.2.1.1]; exact e_st1_lt hq
    have hL := n_L_has hr.2.2.2.1
    simp only [k_ok] at hk
    split at hk
    · simp only [Bool.and_eq_true, decide_eq_true_eq] at hk
      obtain ⟨rfl, rfl⟩ := hk
      exact lv_astore C.1 C.2.1 hd hL hlt rfl (fun ls' h' => kk _ _ _ _ _ (n_R_L hr (n_L_st1 hr.2.2.2.1 hq h').1))
    · simp only [Bool.and_eq_true, decide_eq_true_eq] at hk
      obtain ⟨rfl, rfl⟩ := hk
      exact lv_astore_n C.1 C.2.1 hd rfl hL hlt rfl (fun ls' h' => kk _ _ _ _ _ (n_R_L hr (n_L_st1 hr.2.2.2.1 hq h').1))
    · cases hk
  · cases he
theorem n_lstore {k : Nat} (C : n_C G X p R s m args meth c g nL) : n_Q G X p l e R s m args below meth c g nL k0 s0 (.lstore k) := by
  intro i pc len mm mm' ls ls' st st' H locs lsA cells slots Q hd hk he hr h1 h2 h3 h4 kk
  simp only [e_st] at he
  split at he
  · rename_i x r
    simp only [Option.map_eq_some_iff] at he
    obtain ⟨q, hq, he⟩ := he
    cases he
    have hlt : k + 1 < nL := by rw [← hr.2.2.2.1.1]; exact e_st2_lt hq
    have hL := n_L_has hr.2.2.2.1
    simp only [k_ok] at hk
    split at hk
    · simp only [Bool.and_eq_true, decide_eq_true_eq] at hk
      obtain ⟨rfl, rfl⟩ := hk
      exact lv_lstore C.1 C.2.1 hd hL hlt rfl (fun ls' h' => kk _ _ _ _ _ (n_R_L hr (n_L_st2 hr.2.2.2.1 hq h').1))
    · simp only [Bool.and_eq_true, decide_eq_true_eq] at hk
      obtain ⟨rfl, rfl⟩ := hk
      exact lv_lstore_n C.1 C.2.1 hd rfl hL hlt rfl (fun ls' h' => kk _ _ _ _ _ (n_R_L hr (n_L_st2 hr.2.2.2.1 hq h').1))
    · cases hk
  · cases he
theorem n_iinc {k : Nat} {v : Int} (C : n_C G X p R s m args meth c g nL) : n_Q G X p l e R s m args below meth c g nL k0 s0 (.iinc k v) := by
  intro i pc len mm mm' ls ls' st st' H locs lsA cells slots Q hd hk he hr h1 h2 h3 h4 kk
  simp only [e_st] at he
  split at he
  · rename_i x hx
    simp only [Option.map_eq_some_iff] at he
    obtain ⟨q, hq, he⟩ := he
    cases he
    have hlt : k < nL := by rw [← hr.2.2.2.1.1]; exact e_st1_lt hq
    have hL := n_L_has hr.2.2.2.1
    simp only [k_ok, Bool.and_eq_true, decide_eq_true_eq] at hk
    obtain ⟨rfl, rfl⟩ := hk
    obtain ⟨j, hj⟩ := List.getElem?_of_mem (n_ll_mem (G := G) (q := (k, .int x)) |>.mpr ⟨_, hx, rfl, rfl⟩)
    exact lv_iinc C.1 C.2.1 hd hL hj rfl hlt rfl (fun ls' h' => kk _ _ _ _ _ (n_R_L hr (n_L_st1 hr.2.2.2.1 hq h').1))
  · cases he
theorem n_w_max : (Jvm.Cond.static Lib.Math.max.name ∈ lw_tbl ∧ (goodWord (Jvm.Cond.static Lib.Math.max.name) = true ∨ k_nest (Jvm.Cond.static Lib.Math.max.name) = true)) ∧ (Jvm.Cond.code Lib.Math.max.name Lib.Math.max.code 2 (some .int) ∈ lw_tbl ∧ (goodWord (Jvm.Cond.code Lib.Math.max.name Lib.Math.max.code 2 (some .int)) = true ∨ k_nest (Jvm.Cond.code Lib.Math.max.name Lib.Math.max.code 2 (some .int)) = true)) := ⟨k_at_mem (p := 507) (by decide +kernel), k_at_mem (p := 508) (by decide +kernel)⟩
theorem n_w_Math : Jvm.Cond.initialized "java/lang/Math" ∈ lw_tbl ∧ (goodWord (Jvm.Cond.initialized "java/lang/Math") = true ∨ k_nest (Jvm.Cond.initialized "java/lang/Math") = true) := k_at_mem (p := 114) (by decide +kernel)
theorem n_dadd (C : n_C G X p R s m args meth c g nL) : n_Q G X p l e R s m args below meth c g nL k0 s0 .dadd := by
  intro i pc len mm mm' ls ls' st st' H locs lsA cells slots Q hd hk he hr h1 h2 h3 h4 kk
  replace he : e_iq (fun x y => if x < y then y else x) ls st mm = some (ls', st', mm') := he
  unfold e_iq at he
  split at he
  · split at he
    · rename_i hlo
      cases he
      simp only [k_ok] at hk
      split at hk
      · simp only [Bool.and_eq_true, decide_eq_true_eq] at hk
        obtain ⟨rfl, hz⟩ := hk
        obtain ⟨q, hq⟩ := k_map1 hz
        have hq2 := n_lo (f := n_v G) (of_decide_eq_true hlo)
        have hR1 := C.2.2.2.2.2.2.2.2.2.1
        have hR2 := C.2.2.2.2.2.2.2.2.2.2
        have hc1 := hr.2.2.2.2.1
        have hc2 := hr.2.2.2.2.2.1
        exact va_mmax C.1 C.2.1 (C.2.2.1.trans hr.2.2.2.1.2.1.symm) C.2.2.2.1 (n_good C (k_at_mem (k_look k_s_ok (by decide) hq))) (n_good C n_w_max.1) (n_good C n_w_Math) (n_good C n_w_max.2) hR1 (by omega) (by omega) (by omega) hd (kk _ _ _ _ _ hr)
      · cases hk
    · cases he
  · cases he
theorem n_w_min : (Jvm.Cond.static Lib.Math.min.name ∈ lw_tbl ∧ (goodWord (Jvm.Cond.static Lib.Math.min.name) = true ∨ k_nest (Jvm.Cond.static Lib.Math.min.name) = true)) ∧ (Jvm.Cond.code Lib.Math.min.name Lib.Math.min.code 2 (some .int) ∈ lw_tbl ∧ (goodWord (Jvm.Cond.code Lib.Math.min.name Lib.Math.min.code 2 (some .int)) = true ∨ k_nest (Jvm.Cond.code Lib.Math.min.name Lib.Math.min.code 2 (some .int)) = true)) := ⟨k_at_mem (p := 500) (by decide +kernel), k_at_mem (p := 501) (by decide +kernel)⟩
theorem n_dsub (C : n_C G X p R s m args meth c g nL) : n_Q G X p l e R s m args below meth c g nL k0 s0 .dsub := by
  intro i pc len mm mm' ls ls' st st' H locs lsA cells slots Q hd hk he hr h1 h2 h3 h4 kk
  replace he : e_iq (fun x y => if y < x then y else x) ls st mm = some (ls', st', mm') := he
  unfold e_iq at he
  split at he
  · split at he
    · rename_i hlo
      cases he
      simp only [k_ok] at hk
      split at hk
      · simp only [Bool.and_eq_true, decide_eq_true_eq] at hk
        obtain ⟨rfl, hz⟩ := hk
        obtain ⟨q, hq⟩ := k_map1 hz
        have hq2 := n_lo (f := n_v G) (of_decide_eq_true hlo)
        have hR1 := C.2.2.2.2.2.2.2.2.2.1
        have hR2 := C.2.2.2.2.2.2.2.2.2.2
        have hc1 := hr.2.2.2.2.1
        have hc2 := hr.2.2.2.2.2.1
        exact va_mmin C.1 C.2.1 (C.2.2.1.trans hr.2.2.2.1.2.1.symm) C.2.2.2.1 (n_good C (k_at_mem (k_look k_s_ok (by decide) hq))) (n_good C n_w_min.1) (n_good C n_w_Math) (n_good C n_w_min.2) hR1 (by omega) (by omega) (by omega) hd (kk _ _ _ _ _ hr)
      · cases hk
    · cases he
  · cases he
theorem n_w_abs : (Jvm.Cond.static Lib.Math.abs.name ∈ lw_tbl ∧ (goodWord (Jvm.Cond.static Lib.Math.abs.name) = true ∨ k_nest (Jvm.Cond.static Lib.Math.abs.name) = true)) ∧ (Jvm.Cond.code Lib.Math.abs.name Lib.Math.abs.code 1 (some .int) ∈ lw_tbl ∧ (goodWord (Jvm.Cond.code Lib.Math.abs.name Lib.Math.abs.code 1 (some .int)) = true ∨ k_nest (Jvm.Cond.code Lib.Math.abs.name Lib.Math.abs.code 1 (some .int)) = true)) := ⟨k_at_mem (p := 890) (by decide +kernel), k_at_mem (p := 891) (by decide +kernel)⟩
theorem n_dneg (C : n_C G X p R s m args meth c g nL) : n_Q G X p l e R s m args below meth c g nL k0 s0 .dneg := by
  intro i pc len mm mm' ls ls' st st' H locs lsA cells slots Q hd hk he hr h1 h2 h3 h4 kk
  simp only [e_st] at he
  split at he
  · split at he
    · rename_i hlo
      cases he
      simp only [k_ok] at hk
      split at hk
      · simp only [Bool.and_eq_true, decide_eq_true_eq] at hk
        obtain ⟨rfl, hz⟩ := hk
        obtain ⟨q, hq⟩ := k_map1 hz
        have hq2 := n_lo (f := n_v G) (of_decide_eq_true hlo)
        have hR1 := C.2.2.2.2.2.2.2.2.2.1
        have hR2 := C.2.2.2.2.2.2.2.2.2.2
        have hc1 := hr.2.2.2.2.1
        have hc2 := hr.2.2.2.2.2.1
        exact va_mabs C.1 C.2.1 (C.2.2.1.trans hr.2.2.2.1.2.1.symm) C.2.2.2.1 (n_good C (k_at_mem (k_look k_s_ok (by decide) hq))) (n_good C n_w_abs.1) (n_good C n_w_Math) (n_good C n_w_abs.2) hR1 (by omega) (by omega) (by omega) hd (kk _ _ _ _ _ hr)
      · cases hk
    · cases he
  · cases he
theorem n_w_obj : (Jvm.Cond.instanceMethod objectInit ∈ lw_tbl ∧ (goodWord (Jvm.Cond.instanceMethod objectInit) = true ∨ k_nest (Jvm.Cond.instanceMethod objectInit) = true)) ∧ (Jvm.Cond.code objectInit ⟨#[0xb1]⟩ 1 none ∈ lw_tbl ∧ (goodWord (Jvm.Cond.code objectInit ⟨#[0xb1]⟩ 1 none) = true ∨ k_nest (Jvm.Cond.code objectInit ⟨#[0xb1]⟩ 1 none) = true)) := ⟨k_at_mem (p := 127) (by decide +kernel), k_at_mem (p := 128) (by decide +kernel)⟩
theorem n_pop2 (C : n_C G X p R s m args meth c g nL) : n_Q G X p l e R s m args below meth c g nL k0 s0 .pop2 := by
  intro i pc len mm mm' ls ls' st st' H locs lsA cells slots Q hd hk he hr h1 h2 h3 h4 kk
  simp only [e_st] at he
  split at he
  · split at he
    · rename_i hlo
      cases he
      simp only [k_ok] at hk
      split at hk
      · simp only [Bool.and_eq_true, decide_eq_true_eq] at hk
        obtain ⟨rfl, hz⟩ := hk
        obtain ⟨q, hq⟩ := k_map1 hz
        have hq2 := n_lo (f := n_v G) (of_decide_eq_true hlo)
        have hR1 := C.2.2.2.2.2.2.2.2.2.1
        have hR2 := C.2.2.2.2.2.2.2.2.2.2
        exact W.objInit C.1 C.2.1 C.2.2.2.1 (n_good C (k_at_mem (k_look k_s_ok (by decide) hq))) (n_good C n_w_obj.1) (n_good C n_w_obj.2) rfl (hr.2.2.2.1.2.1.trans C.2.2.1.symm) rfl hd hR1 (by show 2 * 0 + _ + 12 ≤ _; omega) (kk _ _ _ _ _ hr)
      · cases hk
    · cases he
  · cases he
end
end
section
/-! INSTRUCTIONS OVER CELLS: what the evaluator does, the machine does -/
theorem e_ob_at {K : List (Nat × Nat)} {o n : Nat} (h : e_ob K o n = true) : ∃ z, K[o]? = some (n / 64, z) ∧ n % 64 < z := by
  unfold e_ob at h
  split at h
  · rename_i c z hc
    simp only [Bool.and_eq_true, decide_eq_true_eq] at h
    exact ⟨z, by rw [hc, h.1], h.2⟩
  · cases h
theorem e_ar_at {K : List (Nat × Nat)} {o k : Nat} {i : Int32} (h : e_in i (e_ar K o k) = true) : ∃ z, K[o]? = some (k, z) ∧ vp_in i z := by
  rw [e_in_iff] at h
  unfold e_ar at h
  split at h
  · rename_i c z hc
    split at h
    · rename_i hk
      exact ⟨z, by rw [hc, hk], h⟩
    · exact absurd (Or.inr (Nat.zero_le _)) h
  · exact absurd (Or.inr (Nat.zero_le _)) h
theorem q_cl_at {c : Nat} (h : c < 11) : q_cl[c]? = some (g_cn c, q_T c, e_nf c) := by
  have : c = 0 ∨ c = 1 ∨ c = 2 ∨ c = 3 ∨ c = 4 ∨ c = 5 ∨ c = 6 ∨ c = 7 ∨ c = 8 ∨ c = 9 ∨ c = 10 := by omega
  rcases this with rfl | rfl | rfl | rfl | rfl | rfl | rfl | rfl | rfl | rfl | rfl <;> rfl
theorem q_cl_ws {c : Nat} (h : c < 11) {w : Jvm.Cond} (hw : w ∈ u_ws (g_cn c) (q_T c) (e_nf c)) : w ∈ lw_tbl ∧ (goodWord w = true ∨ k_nest w = true) := by
  have h1 := List.all_eq_true.mp (List.all_eq_true.mp q_cl_ok c (List.mem_range.mpr h)) w hw
  simp only [Bool.and_eq_true, decide_eq_true_eq] at h1
  exact ⟨h1.2, Or.inl h1.1⟩
theorem q_tyk {c k : Nat} (h : c < 11) (hk : k < e_nf c) : parseFieldDescriptor (q_T c k).2.2.1 = some (q_ty c k) ∧ (q_rf c k = true → e_bool (c * 64 + k) = false ∧ fits (q_ty c k) (.ref 0) = true) ∧ (q_rf c k = false → q_ty c k = if e_bool (c * 64 + k) then .boolean else .int) ∧ ∀ j, j < e_nf c → j ≠ k → (q_T c j).2.1 ≠ (q_T c k).2.1 := by
  have h1 := List.all_eq_true.mp (List.all_eq_true.mp q_ty_ok c (List.mem_range.mpr h)) k (List.mem_range.mpr hk)
  simp only [Bool.and_eq_true, decide_eq_true_eq, List.all_eq_true, List.mem_range, Bool.or_eq_true] at h1
  obtain ⟨⟨h1, h2⟩, h3⟩ := h1
  refine ⟨h1, fun q => ?_, fun q => ?_, fun j hj hjk => ?_⟩
  · rw [if_pos q] at h2
    simpa using h2
  · rw [if_neg (by rw [q]; decide)] at h2
    simpa using h2
  · rcases h3 j hj with e | e
    · exact absurd e hjk
    · exact e
theorem fits_ref {t : FieldType} (a : Nat) (h : fits t (.ref 0) = true) : fits t (.ref a) = true ∧ narrow t (.ref a) = .ref a := by
  cases t <;> first | (cases h; done) | exact ⟨rfl, rfl⟩
section
variable {G : n_G} {X : e_X} {p : Program} {l : Launch} {e : Env} {R : Room} {s : State} {m : MethodId} {args : Array Value} {below : List Frame} {meth : Method} {c : Code} {g nL k0 s0 : Nat}
theorem n_R_lt {mm : e_M} {o : Nat} {q : Nat × Nat} (ho : mm.1[o]? = some q) (h9 : mm.1.length ≤ 900) : n_a G o = n_b G + o := by
  have := (List.getElem?_eq_some_iff.mp ho).1
  unfold n_a
  rw [if_pos (by omega)]
/-- an object's world -/
theorem n_obj {mm : e_M} {o ci z : Nat} (hk : n_ok mm) (ho : mm.1[o]? = some (ci, z)) (hc : ci < 11) : z = e_nf ci ∧ (n_w G mm)[o]? = some (n_b G + o, .inr (ci, (List.range (e_nf ci)).map fun k => if q_rf ci k then va_rf (n_o G (mm.2.2.2 o k)) else .int (mm.2.1 o k))) := by
  have hz : z = e_nf ci := by
    rcases hk.1 o _ ho with h | h | h | h | h | h <;> dsimp only at h <;> omega
  subst hz
  refine ⟨rfl, ?_⟩
  rw [n_w_at ho]
  unfold n_cell
  rw [if_pos (by omega)]
theorem n_int {mm : e_M} {o z : Nat} (ho : mm.1[o]? = some (e_kI, z)) : (n_w G mm)[o]? = some (n_b G + o, .inl (G.2.1 e_kI, z, .inl (mm.2.1 o))) := by
  rw [n_w_at ho]; rfl
theorem n_chr {mm : e_M} {o z : Nat} (ho : mm.1[o]? = some (e_kC, z)) : (n_w G mm)[o]? = some (n_b G + o, .inl (G.2.1 e_kC, z, .inl (mm.2.1 o))) := by
  rw [n_w_at ho]; rfl
theorem n_lng {mm : e_M} {o z : Nat} (ho : mm.1[o]? = some (e_kJ, z)) : (n_w G mm)[o]? = some (n_b G + o, .inl (G.2.1 e_kJ, z, .inr (.inl (mm.2.2.1 o)))) := by
  rw [n_w_at ho]; rfl
theorem n_row {mm : e_M} {o k z : Nat} (ho : mm.1[o]? = some (k, z)) (hk : 200 ≤ k) : (n_w G mm)[o]? = some (n_b G + o, .inl (G.2.1 k, z, .inr (.inr (.inr (.inr fun j => n_o G (mm.2.2.2 o j)))))) := by
  rw [n_w_at ho]
  unfold n_cell
  rw [if_neg (by omega), if_neg (by omega), if_neg (by omega)]
theorem n_hts (C : n_C G X p R s m args meth c g nL) {ci : Nat} (h : ci < 11) : ∀ w ∈ u_ws (g_cn ci) (q_T ci) (e_nf ci), w.before args s = true := fun w hw => n_good C (q_cl_ws h hw)
/-- where a field's link leads -/
theorem n_lnk (C : n_C G X p R s m args meth c g nL) {x n : Nat} {h : String} {q : Nat} (hq : k_f (g_own g) x = some (n, h, q)) : n / 64 < 11 ∧ n % 64 < e_nf (n / 64) ∧ (k_fw (g_own g) x n h).before args s = true := by
  have h1 := k_look k_f_ok (by decide) hq
  simp only [Bool.and_eq_true, decide_eq_true_eq] at h1
  exact ⟨h1.1.2, h1.2, n_good C (k_at_mem h1.1.1)⟩
theorem n_getfield {n : Nat} (C : n_C G X p R s m args meth c g nL) : n_Q G X p l e R s m args below meth c g nL k0 s0 (.getfield n) := by
  intro i pc len mm mm' ls ls' st st' H locs lsA cells slots Q hd hk he hr h1 h2 h3 h4 kk
  simp only [e_st] at he
  split at he
  · rename_i o r
    split at he
    · rename_i hob
      cases he
      obtain ⟨z, ho, hz⟩ := e_ob_at hob
      simp only [k_ok] at hk
      split at hk
      · rename_i x
        simp only [Bool.and_eq_true, decide_eq_true_eq, Bool.not_eq_true'] at hk
        obtain ⟨⟨rfl, hkf⟩, hrf⟩ := hk
        obtain ⟨⟨ht, q⟩, hq⟩ := k_map1 hkf
        obtain ⟨g1, g2, g3⟩ := n_lnk C hq
        obtain ⟨-, hw⟩ := n_obj (G := G) hr.2.2.2.2.2.2 ho g1
        have hv : ((List.range (e_nf (n / 64))).map fun k => if q_rf (n / 64) k then va_rf (n_o G (mm.2.2.2 o k)) else .int (mm.2.1 o k))[n % 64]? = some (.int (mm.2.1 o (n % 64))) := by
          simp [List.getElem?_map, List.getElem?_range g2, hrf]
        have ha : n_v G (.ref o) = .ref (n_b G + o) := by rw [n_v, n_R_lt ho h1]
        show W p l e R s m args below meth c H locs cells slots Q (F0 m pc lsA (n_v G (.ref o) :: List.map (n_v G) r))
        rw [ha]
        unfold k_fw at g3
        split at g3
        · exact va_get C.1 C.2.1 (n_hts C g1) (fun _ h => h) C.2.2.2.1 C.2.2.2.2.2.1 hr.2.1 o hw (q_cl_at g1) (n % 64) g2 g3 (fun _ h => h) hv hd (kk _ _ _ _ _ hr)
        · exact va_getN C.1 C.2.1 (n_hts C g1) (fun _ h => h) C.2.2.2.1 C.2.2.2.2.2.1 hr.2.1 o hw (q_cl_at g1) (n % 64) g2 g3 (fun _ h => h) hv hd (kk _ _ _ _ _ hr)
      · cases hk
    · cases he
  · cases he
theorem n_getref {n : Nat} (C : n_C G X p R s m args meth c g nL) : n_Q G X p l e R s m args below meth c g nL k0 s0 (.checkcast n) := by
  intro i pc len mm mm' ls ls' st st' H locs lsA cells slots Q hd hk he hr h1 h2 h3 h4 kk
  simp only [e_st] at he
  split at he
  · rename_i o r
    split at he
    · rename_i hob
      cases he
      obtain ⟨z, ho, hz⟩ := e_ob_at hob
      simp only [k_ok] at hk
      split at hk
      · rename_i x
        simp only [Bool.and_eq_true, decide_eq_true_eq] at hk
        obtain ⟨⟨rfl, hkf⟩, hrf⟩ := hk
        obtain ⟨⟨ht, q⟩, hq⟩ := k_map1 hkf
        obtain ⟨g1, g2, g3⟩ := n_lnk C hq
        obtain ⟨-, hw⟩ := n_obj (G := G) hr.2.2.2.2.2.2 ho g1
        have hv : ((List.range (e_nf (n / 64))).map fun k => if q_rf (n / 64) k then va_rf (n_o G (mm.2.2.2 o k)) else .int (mm.2.1 o k))[n % 64]? = some (n_v G (e_rf (mm.2.2.2 o (n % 64)))) := by
          simp [List.getElem?_map, List.getElem?_range g2, hrf, n_v_rf]
        have ha : n_v G (.ref o) = .ref (n_b G + o) := by rw [n_v, n_R_lt ho h1]
        show W p l e R s m args below meth c H locs cells slots Q (F0 m pc lsA (n_v G (.ref o) :: List.map (n_v G) r))
        rw [ha]
        unfold k_fw at g3
        split at g3
        · exact va_get C.1 C.2.1 (n_hts C g1) (fun _ h => h) C.2.2.2.1 C.2.2.2.2.2.1 hr.2.1 o hw (q_cl_at g1) (n % 64) g2 g3 (fun _ h => h) hv hd (kk _ _ _ _ _ hr)
        · exact va_getN C.1 C.2.1 (n_hts C g1) (fun _ h => h) C.2.2.2.1 C.2.2.2.2.2.1 hr.2.1 o hw (q_cl_at g1) (n % 64) g2 g3 (fun _ h => h) hv hd (kk _ _ _ _ _ hr)
      · cases hk
    · cases he
  · cases he
/-- the relation behind a write into cell o -/
theorem n_R_wr {mm mm' : e_M} {ls : List Value} {H H1 : Heap} {locs locs1 : List Loc} {lsA : Array Slot} {cells slots o : Nat} {q : Nat × Nat} (hr : n_R G s k0 s0 nL mm ls H locs lsA cells slots) (ho : mm.1[o]? = some q) (h1 : mm'.1 = mm.1) (hi : ∀ a k, a ≠ o → mm'.2.1 a k = mm.2.1 a k) (hj : ∀ a k, a ≠ o → mm'.2.2.1 a k = mm.2.2.1 a k) (hx : ∀ a k, a ≠ o → mm'.2.2.2 a k = mm.2.2.2 a k) (hx2 : ∀ k, mm'.2.2.2 o k ≤ mm.1.length)
    (hz : H1.size = H.size) (oq : ∀ a : Nat, a ≠ n_b G + o → H1[a]? = H[a]?) (hat : va_at G.1 q_cl (n_b G + o, n_cell G mm' o q.1 q.2) H1) (hS : va_S (fun q => n_b G ≤ q) s.heap H1 locs1) : n_R G s k0 s0 nL mm' ls H1 locs1 lsA cells slots := by
  obtain ⟨r1, r2, r3, r4, r5, r6, r7, r8⟩ := hr
  refine ⟨by rw [hz, h1]; exact r1, ?_, hS, r4, by rw [h1]; exact r5, by unfold n_z; rw [h1]; exact r6, fun a b h => r7 a b (by rw [← h1]; exact h), fun a k ha => ?_⟩
  · rw [n_w_set (c := q.1) (z := q.2) ho h1 hi hj hx]
    exact r2.set n_w_D (n_w_at ho) hat oq
  · rw [h1] at ha ⊢
    by_cases e : a = o
    · rw [e]; exact hx2 k
    · rw [hx a k e]; exact r8 a k ha
theorem n_up_ne {α : Type} {f : Nat → Nat → α} {o k : Nat} {v : α} : ∀ a b, a ≠ o → e_up f o k v a b = f a b := fun a b h => by
  unfold e_up
  rw [if_neg (fun q => h q.1)]
theorem n_up_row {α : Type} {f : Nat → Nat → α} {o k : Nat} {v : α} (j : Nat) : e_up f o k v o j = if j = k then v else f o j := by
  unfold e_up
  by_cases h : j = k
  · rw [if_pos ⟨rfl, h⟩, if_pos h]
  · rw [if_neg (fun q => h q.2), if_neg h]
/-- the facts of an object's field that a write needs -/
theorem n_fld (C : n_C G X p R s m args meth c g nL) {mm : e_M} {ls : List Value} {H : Heap} {locs : List Loc} {lsA : Array Slot} {cells slots o ci z k : Nat} (hr : n_R G s k0 s0 nL mm ls H locs lsA cells slots) (ho : mm.1[o]? = some (ci, z)) (hc : ci < 11) (hk : k < e_nf ci) :
    ∃ (cell : Cell) (cf : ClassId) (kf : Class) (fi : Nat) (f : Field), H[n_b G + o]? = some cell ∧ cell.vm = .none ∧ cell.cls = G.1.1 ci ∧ s.fieldFound? (g_cn ci) (q_T ci k).2.1 (q_T ci k).2.2.1 = some (cf, kf, fi, f) ∧ f.isStatic = false ∧ f.slot < cell.slots.size ∧
      (∀ v : Value, fits (q_ty ci k) v = true → narrow (q_ty ci k) v = v → ((q_T ci k).2.2.2 = false → k2_Sd s f cell.cls v) ∧ ((q_T ci k).2.2.2 = true → (narrow f.type v = v ∧ s.fitsSlot cell.cls .none f.slot v = true) ∧ (s.vm.findClass (g_cn ci) = some m.cls → m.cls = cf))) ∧
      (∀ (v : Value) (mm' : e_M) (H1 : Heap), H1[n_b G + o]? = some (cell.setSlot f.slot v) → (∀ j, j < e_nf ci → (if q_rf ci j then va_rf (n_o G (mm'.2.2.2 o j)) else Value.int (mm'.2.1 o j)) = if j = k then v else if q_rf ci j then va_rf (n_o G (mm.2.2.2 o j)) else .int (mm.2.1 o j)) → va_at G.1 q_cl (n_b G + o, n_cell G mm' o ci z) H1) := by
  obtain ⟨hz, hw⟩ := n_obj (G := G) hr.2.2.2.2.2.2 ho hc
  subst hz
  have hK := C.2.2.2.2.2.1
  have hts := n_hts C hc
  have hcl := q_cl_at hc
  have hap := va_apart (own := g_cn ci) hts (fun _ h => h) (q_ty ci) (fun j hj => (q_tyk hc hj).1) (fun a ha b hb hab => (q_tyk hc hb).2.2.2 a ha hab) hK hcl
  obtain ⟨r, h1, cell, q1, q2, q3, q4⟩ := hr.2.1 o _ hw
  have hrr : r = (g_cn ci, q_T ci, e_nf ci) := Option.some.inj (h1.symm.trans hcl)
  subst hrr
  obtain ⟨hS, hfc, kC, hkC, hkind⟩ := hK.1 ci _ hcl
  obtain ⟨cf, kf, fi, f, hi, hsl⟩ := hS k hk
  have hlay := hts _ (u_in_lay hk)
  have hst := (u_facts hfc hkC (u_lays hts (fun _ h => h) hk) hi).1
  have hd := (q_tyk hc hk).1
  refine ⟨cell, cf, kf, fi, f, q1, q3, q2, hi, hst, by rw [hsl]; exact k2_hasslot (q4 k hk), fun v hf hn => ⟨fun hfin => ?_, fun hfin => ⟨?_, fun hown => ?_⟩⟩, fun v mm' H1 e1 hv => ?_⟩
  · unfold u_lay at hlay
    rw [if_neg (by rw [hfin]; decide)] at hlay
    have h6 := u_store hfc hkC hkind hlay hi hd hn hf
    rw [q2]
    exact h6
  · unfold u_lay at hlay
    rw [if_pos hfin] at hlay
    have h6 := u_fits hfc hkC hkind (Or.inr hlay) hi hd hn hf
    rw [q2]
    exact h6
  · unfold u_lay at hlay
    rw [if_pos hfin] at hlay
    obtain ⟨_, _, c', _, _, _, -, -, hf', -, -, -, hown2, -⟩ := Cond.laysFinal_spec hlay
    have e1 : c' = cf := by have := hi.symm.trans hf'; simp at this; exact this.1.symm
    rw [← e1]
    exact Option.some.inj (hown.symm.trans hown2)
  · rw [hsl] at e1
    unfold n_cell
    rw [if_pos (by omega)]
    refine ⟨_, hcl, t_OB.to (V := updV (vp_V ((List.range (e_nf ci)).map fun k => if q_rf ci k then va_rf (n_o G (mm.2.2.2 o k)) else .int (mm.2.1 o k))) k v) ⟨_, e1, q2, q3, t_set q4 hap hk v⟩ (fun j hj => ?_)⟩
    have e2 : vp_V ((List.range (e_nf ci)).map fun k => if q_rf ci k then va_rf (n_o G (mm'.2.2.2 o k)) else .int (mm'.2.1 o k)) j = if q_rf ci j then va_rf (n_o G (mm'.2.2.2 o j)) else .int (mm'.2.1 o j) := by
      simp [vp_V, List.getD_eq_getElem?_getD, List.getElem?_map, List.getElem?_range hj]
    have e3 : vp_V ((List.range (e_nf ci)).map fun k => if q_rf ci k then va_rf (n_o G (mm.2.2.2 o k)) else .int (mm.2.1 o k)) j = if q_rf ci j then va_rf (n_o G (mm.2.2.2 o j)) else .int (mm.2.1 o j) := by
      simp [vp_V, List.getD_eq_getElem?_getD, List.getElem?_map, List.getElem?_range hj]
    rw [e2, hv j hj]
    unfold updV
    rw [e3]
theorem n_putfield {n : Nat} (C : n_C G X p R s m args meth c g nL) : n_Q G X p l e R s m args below meth c g nL k0 s0 (.putfield n) := by
  intro i pc len mm mm' ls ls' st st' H locs lsA cells slots Q hd hk he hr h1 h2 h3 h4 kk
  simp only [e_st] at he
  split at he
  · rename_i v o r
    split at he
    · rename_i hob
      cases he
      simp only [Bool.and_eq_true, Bool.or_eq_true, Bool.not_eq_true', decide_eq_true_eq] at hob
      obtain ⟨hob, hbl⟩ := hob
      obtain ⟨z, ho, hz⟩ := e_ob_at hob
      simp only [k_ok] at hk
      split at hk
      · rename_i x
        simp only [Bool.and_eq_true, decide_eq_true_eq, Bool.not_eq_true'] at hk
        obtain ⟨⟨⟨rfl, hkf⟩, hrf⟩, hfin⟩ := hk
        obtain ⟨⟨ht, q⟩, hq⟩ := k_map1 hkf
        obtain ⟨g1, g2, g3⟩ := n_lnk C hq
        have hnn : n / 64 * 64 + n % 64 = n := by omega
        have hty := (q_tyk g1 g2).2.2.1 hrf
        rw [hnn] at hty
        have hfn : fits (q_ty (n / 64) (n % 64)) (.int v) = true ∧ narrow (q_ty (n / 64) (n % 64)) (.int v) = .int v := by
          rw [hty]
          by_cases hb : e_bool n = true
          · rw [if_pos hb]
            rcases hbl with (hbl | rfl) | rfl
            · rw [hb] at hbl; cases hbl
            · exact ⟨rfl, rfl⟩
            · exact ⟨rfl, rfl⟩
          · rw [if_neg hb]
            exact ⟨rfl, rfl⟩
        obtain ⟨cell, cf, kf, fi, f, f1, f2, -, f4, f5, f6, f7, f8⟩ := n_fld C hr ho g1 g2
        have hSd := (f7 (.int v) hfn.1 hfn.2).1 hfin
        have ha : n_v G (.ref o) = .ref (n_b G + o) := by rw [n_v, n_R_lt ho h1]
        show W p l e R s m args below meth c H locs cells slots Q (F0 m pc lsA (.int v :: n_v G (.ref o) :: List.map (n_v G) st'))
        rw [ha]
        have fin : ∀ H' : Heap, H'[n_b G + o]? = some (cell.setSlot f.slot (.int v)) → H'.size = H.size → (∀ q, q ≠ n_b G + o → H'[q]? = H[q]?) → W p l e R s m args below meth c H' (locs ++ [⟨n_b G + o, f.slot⟩]) cells slots Q (F0 m (pc + 3) lsA (List.map (n_v G) st')) := by
          intro H' e1 e2 e3
          refine kk _ _ _ _ _ (n_R_wr hr ho rfl (fun a b h => n_up_ne a b h) (fun _ _ _ => rfl) (fun _ _ _ => rfl) (fun k => hr.2.2.2.2.2.2.2 o k (List.getElem?_eq_some_iff.mp ho).1) e2 e3 (f8 (.int v) _ H' e1 fun j hj => ?_) (hr.2.2.1.put e2 e3 (Nat.le_add_right _ _)))
          dsimp only
          rw [n_up_row]
          by_cases ej : j = n % 64
          · subst ej
            rw [if_pos rfl, if_pos rfl, if_neg (by rw [hrf]; decide)]
          · rw [if_neg ej, if_neg ej]
        unfold k_fw at g3
        split at g3
        · exact W.putK C.1 C.2.1 (f := f) ⟨C.2.2.2.1, g3, ⟨_, _, _, f4⟩, f5⟩ hSd f1 f2 f6 rfl rfl hd fin
        · exact va_WputK C.1 C.2.1 (f := f) C.2.2.2.1 g3 f4 f5 hSd f1 f2 f6 rfl rfl hd fin
      · cases hk
    · cases he
  · cases he
theorem n_putref {n : Nat} (C : n_C G X p R s m args meth c g nL) : n_Q G X p l e R s m args below meth c g nL k0 s0 (.instanceof n) := by
  intro i pc len mm mm' ls ls' st st' H locs lsA cells slots Q hd hk he hr h1 h2 h3 h4 kk
  simp only [e_st] at he
  split at he
  · rename_i v o r
    split at he
    · rename_i hob
      cases he
      simp only [Bool.and_eq_true, decide_eq_true_eq] at hob
      obtain ⟨hob, hvl⟩ := hob
      obtain ⟨z, ho, hz⟩ := e_ob_at hob
      simp only [k_ok] at hk
      split at hk
      · rename_i x
        simp only [Bool.and_eq_true, decide_eq_true_eq] at hk
        obtain ⟨⟨⟨⟨⟨rfl, hkf⟩, hrf⟩, hfin⟩, hog⟩, hini⟩ := hk
        have hq0 : ∃ q, k_f (g_own g) x = some (n, "", q) := by
          cases hq : k_f (g_own g) x with
          | none => rw [hq] at hkf; cases hkf
          | some w =>
            obtain ⟨w1, w2, w3⟩ := w
            rw [hq] at hkf
            simp only [Option.map_some, Option.some.injEq, Prod.mk.injEq] at hkf
            exact ⟨w3, by rw [hkf.1, hkf.2]⟩
        obtain ⟨q, hq⟩ := hq0
        obtain ⟨g1, g2, g3⟩ := n_lnk C hq
        have hfn := fits_ref (n_a G v) ((q_tyk g1 g2).2.1 hrf).2
        obtain ⟨cell, cf, kf, fi, f, f1, f2, f3, f4, f5, f6, f7, f8⟩ := n_fld C hr ho g1 g2
        obtain ⟨hSd, hcf⟩ := (f7 (.ref (n_a G v)) hfn.1 hfn.2).2 hfin
        have ha : n_v G (.ref o) = .ref (n_b G + o) := by rw [n_v, n_R_lt ho h1]
        show W p l e R s m args below meth c H locs cells slots Q (F0 m pc lsA (.ref (n_a G v) :: n_v G (.ref o) :: List.map (n_v G) st'))
        rw [ha]
        unfold k_fw at g3
        rw [if_pos rfl] at g3
        refine W.putFinK C.1 C.2.1 C.2.2.2.1 g3 f4 f5 (hcf (by rw [← hog]; exact C.2.2.2.1)) (C.2.2.2.2.2.2.2.1 hini) hSd f1 f2 f6 rfl rfl hd fun H' e1 e2 e3 => ?_
        refine kk _ _ _ _ _ (n_R_wr hr ho rfl (fun _ _ _ => rfl) (fun _ _ _ => rfl) (fun a b h => n_up_ne a b h) (fun k => ?_) e2 e3 (f8 (.ref (n_a G v)) _ H' e1 fun j hj => ?_) (hr.2.2.1.put e2 e3 (Nat.le_add_right _ _)))
        · dsimp only
          rw [n_up_row]
          by_cases ej : k = n % 64
          · rw [if_pos ej]
            exact hvl
          · rw [if_neg ej]
            exact hr.2.2.2.2.2.2.2 o k (List.getElem?_eq_some_iff.mp ho).1
        · dsimp only
          rw [n_up_row]
          by_cases ej : j = n % 64
          · subst ej
            rw [if_pos rfl, if_pos rfl, if_pos hrf]
            rfl
          · rw [if_neg ej, if_neg ej]
      · cases hk
    · cases he
  · cases he
end
end
section
/-! ARRAYS, NEW CELLS, special references -/
section
variable {G : n_G} {X : e_X} {p : Program} {l : Launch} {e : Env} {R : Room} {s : State} {m : MethodId} {args : Array Value} {below : List Frame} {meth : Method} {c : Code} {g nL k0 s0 : Nat}
theorem n_iaload (C : n_C G X p R s m args meth c g nL) : n_Q G X p l e R s m args below meth c g nL k0 s0 .iaload := by
  intro i pc len mm mm' ls ls' st st' H locs lsA cells slots Q hd hk he hr h1 h2 h3 h4 kk
  simp only [k_ok, Bool.and_eq_true, decide_eq_true_eq] at hk
  obtain ⟨rfl, rfl⟩ := hk
  simp only [e_st] at he
  split at he
  · rename_i j o r
    split at he
    · rename_i hin
      cases he
      obtain ⟨z, ho, hz⟩ := e_ar_at hin
      have ha : n_v G (.ref o) = .ref (n_b G + o) := by rw [n_v, n_R_lt ho h1]
      show W p l e R s m args below meth c H locs cells slots Q (F0 m pc lsA (.int j :: n_v G (.ref o) :: List.map (n_v G) r))
      rw [ha]
      exact va_iald C.1 C.2.1 C.2.2.2.2.2.1 hr.2.1 o 0 (n_int ho) rfl hz hd (kk _ _ _ _ _ hr)
    · cases he
  · cases he
theorem n_caload (C : n_C G X p R s m args meth c g nL) : n_Q G X p l e R s m args below meth c g nL k0 s0 .caload := by
  intro i pc len mm mm' ls ls' st st' H locs lsA cells slots Q hd hk he hr h1 h2 h3 h4 kk
  simp only [k_ok, Bool.and_eq_true, decide_eq_true_eq] at hk
  obtain ⟨rfl, rfl⟩ := hk
  simp only [e_st] at he
  split at he
  · rename_i j o r
    split at he
    · rename_i hin
      cases he
      obtain ⟨z, ho, hz⟩ := e_ar_at hin
      have ha : n_v G (.ref o) = .ref (n_b G + o) := by rw [n_v, n_R_lt ho h1]
      show W p l e R s m args below meth c H locs cells slots Q (F0 m pc lsA (.int j :: n_v G (.ref o) :: List.map (n_v G) r))
      rw [ha]
      exact va_cald C.1 C.2.1 C.2.2.2.2.2.1 hr.2.1 o 1 (n_chr ho) rfl hz hd (kk _ _ _ _ _ hr)
    · cases he
  · cases he
theorem n_laload (C : n_C G X p R s m args meth c g nL) : n_Q G X p l e R s m args below meth c g nL k0 s0 .laload := by
  intro i pc len mm mm' ls ls' st st' H locs lsA cells slots Q hd hk he hr h1 h2 h3 h4 kk
  simp only [k_ok, Bool.and_eq_true, decide_eq_true_eq] at hk
  obtain ⟨rfl, rfl⟩ := hk
  simp only [e_st] at he
  split at he
  · rename_i j o r
    split at he
    · rename_i hin
      cases he
      obtain ⟨z, ho, hz⟩ := e_ar_at hin
      have ha : n_v G (.ref o) = .ref (n_b G + o) := by rw [n_v, n_R_lt ho h1]
      show W p l e R s m args below meth c H locs cells slots Q (F0 m pc lsA (.int j :: n_v G (.ref o) :: List.map (n_v G) r))
      rw [ha]
      exact va_lald C.1 C.2.1 C.2.2.2.2.2.1 hr.2.1 o 2 (n_lng ho) rfl hz hd (kk _ _ _ _ _ hr)
    · cases he
  · cases he
theorem n_aaload (C : n_C G X p R s m args meth c g nL) : n_Q G X p l e R s m args below meth c g nL k0 s0 .aaload := by
  intro i pc len mm mm' ls ls' st st' H locs lsA cells slots Q hd hk he hr h1 h2 h3 h4 kk
  simp only [k_ok, Bool.and_eq_true, decide_eq_true_eq] at hk
  obtain ⟨rfl, rfl⟩ := hk
  simp only [e_st] at he
  split at he
  · rename_i j o r
    split at he
    · rename_i k z ho
      split at he
      · rename_i hin
        simp only [Bool.and_eq_true, decide_eq_true_eq] at hin
        obtain ⟨hko, hin⟩ := hin
        have hko : 200 ≤ k := hko
        cases he
        have ha : n_v G (.ref o) = .ref (n_b G + o) := by rw [n_v, n_R_lt ho h1]
        show W p l e R s m args below meth c H locs cells slots Q (F0 m pc lsA (.int j :: n_v G (.ref o) :: List.map (n_v G) r))
        rw [ha]
        have hkk : k = 206 ∨ k = 207 := by
          rcases hr.2.2.2.2.2.2.1 o _ ho with h | h | h | h | h | h <;> dsimp only at h <;> omega
        have fin : W p l e R s m args below meth c H locs cells slots Q (F0 m (pc + 1) lsA (va_rf (n_o G (mm.2.2.2 o j.toNatClampNeg)) :: List.map (n_v G) r)) := by
          rw [← n_v_rf]
          exact kk _ _ _ _ _ hr
        rcases hkk with rfl | rfl
        · exact va_aldq C.1 C.2.1 C.2.2.2.2.2.1 hr.2.1 o 3 (n_row ho (by omega)) rfl (e_in_iff.mp hin) hd fin
        · exact va_aldq C.1 C.2.1 C.2.2.2.2.2.1 hr.2.1 o 4 (n_row ho (by omega)) rfl (e_in_iff.mp hin) hd fin
      · cases he
    · cases he
  · cases he
theorem n_alen (C : n_C G X p R s m args meth c g nL) : n_Q G X p l e R s m args below meth c g nL k0 s0 .arraylength := by
  intro i pc len mm mm' ls ls' st st' H locs lsA cells slots Q hd hk he hr h1 h2 h3 h4 kk
  simp only [k_ok, Bool.and_eq_true, decide_eq_true_eq] at hk
  obtain ⟨rfl, rfl⟩ := hk
  simp only [e_st] at he
  split at he
  · rename_i o r
    split at he
    · rename_i k z ho
      split at he
      · rename_i hin
        simp only [decide_eq_true_eq] at hin
        subst hin
        cases he
        have ha : n_v G (.ref o) = .ref (n_b G + o) := by rw [n_v, n_R_lt ho h1]
        show W p l e R s m args below meth c H locs cells slots Q (F0 m pc lsA (n_v G (.ref o) :: List.map (n_v G) r))
        rw [ha]
        exact va_alen C.1 C.2.1 C.2.2.2.2.2.1 hr.2.1 o 0 (n_int ho) rfl rfl hd (kk _ _ _ _ _ hr)
      · cases he
    · cases he
  · cases he
theorem n_arr_at {D : va_G} {cl : List vw_C} {a : Nat} {cA : ClassId} {n : Nat} {H1 : Heap} {F F' : Nat → Value} {k : Nat} {v : Value} {x : vp_A} (hx : vp_cell cA x = arrV cA n F') (h : H1[a]? = some ((arrV cA n F).setSlot k v)) (hF : ∀ j, F' j = if j = k then v else F j) : va_at D cl (a, .inl (cA, x)) H1 := by
  show H1[a]? = some (vp_cell cA x)
  rw [h, hx, arrV_store]
  congr 2
  funext j
  rw [hF]
  rfl
theorem n_iastore (C : n_C G X p R s m args meth c g nL) : n_Q G X p l e R s m args below meth c g nL k0 s0 .iastore := by
  intro i pc len mm mm' ls ls' st st' H locs lsA cells slots Q hd hk he hr h1 h2 h3 h4 kk
  simp only [k_ok, Bool.and_eq_true, decide_eq_true_eq] at hk
  obtain ⟨rfl, rfl⟩ := hk
  simp only [e_st] at he
  split at he
  · rename_i v j o r
    split at he
    · rename_i hin
      cases he
      obtain ⟨z, ho, hz⟩ := e_ar_at hin
      have ha : n_v G (.ref o) = .ref (n_b G + o) := by rw [n_v, n_R_lt ho h1]
      show W p l e R s m args below meth c H locs cells slots Q (F0 m pc lsA (.int v :: .int j :: n_v G (.ref o) :: List.map (n_v G) st'))
      rw [ha]
      refine W.iast C.1 C.2.1 (hr.2.1 o _ (n_int ho)) ((C.2.2.2.2.2.1.2 0 _ rfl).1 z (fun j => .int (mm.2.1 o j))) (fun q => by cases q) (by show ¬ (j < 0 ∨ (arrV _ _ _).slots.size ≤ _); rw [arrV_size]; exact hz) rfl rfl hd fun H1 e1 e2 e3 => ?_
      refine kk _ _ _ _ _ (n_R_wr hr ho rfl (fun a b h => n_up_ne a b h) (fun _ _ _ => rfl) (fun _ _ _ => rfl) (fun k => hr.2.2.2.2.2.2.2 o k (List.getElem?_eq_some_iff.mp ho).1) e2 e3 ?_ (hr.2.2.1.put e2 e3 (Nat.le_add_right _ _)))
      refine n_arr_at (k := j.toNatClampNeg) (v := .int v) (F := fun j => .int (mm.2.1 o j)) (vp_cell_i _ _ _) e1 fun q => ?_
      dsimp only
      rw [n_up_row]
      by_cases eq : q = j.toNatClampNeg
      · rw [if_pos eq, if_pos eq]
      · rw [if_neg eq, if_neg eq]
    · cases he
  · cases he
theorem n_castore (C : n_C G X p R s m args meth c g nL) : n_Q G X p l e R s m args below meth c g nL k0 s0 .castore := by
  intro i pc len mm mm' ls ls' st st' H locs lsA cells slots Q hd hk he hr h1 h2 h3 h4 kk
  simp only [k_ok, Bool.and_eq_true, decide_eq_true_eq] at hk
  obtain ⟨rfl, rfl⟩ := hk
  simp only [e_st] at he
  split at he
  · rename_i v j o r
    split at he
    · rename_i hin
      simp only [Bool.and_eq_true, decide_eq_true_eq] at hin
      obtain ⟨hin, hch⟩ := hin
      cases he
      obtain ⟨z, ho, hz⟩ := e_ar_at hin
      have ha : n_v G (.ref o) = .ref (n_b G + o) := by rw [n_v, n_R_lt ho h1]
      show W p l e R s m args below meth c H locs cells slots Q (F0 m pc lsA (.int v :: .int j :: n_v G (.ref o) :: List.map (n_v G) st'))
      rw [ha]
      refine W.cast C.1 C.2.1 (hr.2.1 o _ (n_chr ho)) ((C.2.2.2.2.2.1.2 1 _ rfl).1 z (fun j => .int (mm.2.1 o j))) (fun q => by cases q) (by show ¬ (j < 0 ∨ (arrV _ _ _).slots.size ≤ _); rw [arrV_size]; exact hz) rfl rfl hd fun H1 e1 e2 e3 => ?_
      refine kk _ _ _ _ _ (n_R_wr hr ho rfl (fun a b h => n_up_ne a b h) (fun _ _ _ => rfl) (fun _ _ _ => rfl) (fun k => hr.2.2.2.2.2.2.2 o k (List.getElem?_eq_some_iff.mp ho).1) e2 e3 ?_ (hr.2.2.1.put e2 e3 (Nat.le_add_right _ _)))
      have hv : narrow .char (.int v) = .int v := by
        have := vp_nar_char v
        first
          | (show Value.int _ = _; congr 1)
          | simpa [narrow] using hch
      refine n_arr_at (k := j.toNatClampNeg) (v := .int v) (F := fun j => .int (mm.2.1 o j)) (vp_cell_i _ _ _) (by first | exact e1 | (rw [hv] at e1; exact e1)) fun q => ?_
      dsimp only
      rw [n_up_row]
      by_cases eq : q = j.toNatClampNeg
      · rw [if_pos eq, if_pos eq]
      · rw [if_neg eq, if_neg eq]
    · cases he
  · cases he
theorem n_lastore (C : n_C G X p R s m args meth c g nL) : n_Q G X p l e R s m args below meth c g nL k0 s0 .lastore := by
  intro i pc len mm mm' ls ls' st st' H locs lsA cells slots Q hd hk he hr h1 h2 h3 h4 kk
  simp only [k_ok, Bool.and_eq_true, decide_eq_true_eq] at hk
  obtain ⟨rfl, rfl⟩ := hk
  simp only [e_st] at he
  split at he
  · rename_i v j o r
    split at he
    · rename_i hin
      cases he
      obtain ⟨z, ho, hz⟩ := e_ar_at hin
      have ha : n_v G (.ref o) = .ref (n_b G + o) := by rw [n_v, n_R_lt ho h1]
      show W p l e R s m args below meth c H locs cells slots Q (F0 m pc lsA (.long v :: .int j :: n_v G (.ref o) :: List.map (n_v G) st'))
      rw [ha]
      refine W.last C.1 C.2.1 (hr.2.1 o _ (n_lng ho)) ((C.2.2.2.2.2.1.2 2 _ rfl).1 z (fun j => .long (mm.2.2.1 o j))) (fun q => by cases q) (by show ¬ (j < 0 ∨ (arrV _ _ _).slots.size ≤ _); rw [arrV_size]; exact hz) rfl rfl hd fun H1 e1 e2 e3 => ?_
      refine kk _ _ _ _ _ (n_R_wr hr ho rfl (fun _ _ _ => rfl) (fun a b h => n_up_ne a b h) (fun _ _ _ => rfl) (fun k => hr.2.2.2.2.2.2.2 o k (List.getElem?_eq_some_iff.mp ho).1) e2 e3 ?_ (hr.2.2.1.put e2 e3 (Nat.le_add_right _ _)))
      refine n_arr_at (k := j.toNatClampNeg) (v := .long v) (F := fun j => .long (mm.2.2.1 o j)) (vp_cell_l _ _ _) e1 fun q => ?_
      dsimp only
      rw [n_up_row]
      by_cases eq : q = j.toNatClampNeg
      · rw [if_pos eq, if_pos eq]
      · rw [if_neg eq, if_neg eq]
    · cases he
  · cases he
theorem n_aastore (C : n_C G X p R s m args meth c g nL) : n_Q G X p l e R s m args below meth c g nL k0 s0 .aastore := by
  intro i pc len mm mm' ls ls' st st' H locs lsA cells slots Q hd hk he hr h1 h2 h3 h4 kk
  simp only [k_ok, Bool.and_eq_true, decide_eq_true_eq] at hk
  obtain ⟨rfl, rfl⟩ := hk
  simp only [e_st] at he
  split at he
  · rename_i v j o r
    split at he
    · rename_i k z d zd ho hvv
      split at he
      · rename_i hin
        simp only [Bool.and_eq_true, decide_eq_true_eq] at hin
        obtain ⟨⟨hd1, hd2⟩, hin⟩ := hin
        have hd1 : d < 100 := hd1
        have hd2 : k = 200 + d := hd2
        cases he
        have ha : n_v G (.ref o) = .ref (n_b G + o) := by rw [n_v, n_R_lt ho h1]
        have hb : n_v G (.ref v) = .ref (n_b G + v) := by rw [n_v, n_R_lt hvv h1]
        show W p l e R s m args below meth c H locs cells slots Q (F0 m pc lsA (n_v G (.ref v) :: .int j :: n_v G (.ref o) :: List.map (n_v G) st'))
        rw [ha, hb]
        have hkk : k = 206 ∨ k = 207 := by
          rcases hr.2.2.2.2.2.2.1 o _ ho with h | h | h | h | h | h <;> dsimp only at h <;> omega
        have hdd : d < 11 := by omega
        have hvl := (List.getElem?_eq_some_iff.mp hvv).1
        have hz := e_in_iff.mp hin
        have hlt : j.toNatClampNeg < z := Nat.not_le.mp fun q => hz (Or.inr q)
        have h0 : ¬ j < 0 := fun q => hz (Or.inl q)
        obtain ⟨-, hwv⟩ := n_obj (G := G) hr.2.2.2.2.2.2 hvv hdd
        obtain ⟨r', hr', cellV, g1, g2, g3, -⟩ := hr.2.1 v _ hwv
        have hcls := (C.2.2.2.2.2.1.1 d _ (q_cl_at hdd)).2
        obtain ⟨t0, ht0⟩ : ∃ t0 : Nat, (n_t G)[t0]? = some (G.2.1 k, FieldType.object (g_cn d)) := by
          rcases hkk with rfl | rfl
          · exact ⟨3, by rw [show d = 6 by omega]; rfl⟩
          · exact ⟨4, by rw [show d = 7 by omega]; rfl⟩
        obtain ⟨kA, comp, k1, k2, k3, -⟩ := (C.2.2.2.2.2.1.2 t0 _ ht0).2
        have hcomp : comp = G.1.1 d := Option.some.inj (k3.symm.trans hcls.1)
        subst hcomp
        obtain ⟨kC, hkC, -⟩ := hcls.2
        refine W.aast C.1 C.2.1 (hr.2.1 o _ (n_row ho (by omega))) (fun q h => by cases h) (fun h => by cases h) k1 k2 rfl hkC ⟨h0, by show _ < (arrV _ _ _).slots.size; rw [arrV_size]; exact hlt⟩ g1 (fun q h => by rw [g3] at h; cases h) (by rw [g2]; exact hkC) (by rw [g2]; exact va_assign hcls) rfl rfl hd fun H1 e1 e2 e3 => ?_
        refine kk _ _ _ _ _ (n_R_wr hr ho rfl (fun _ _ _ => rfl) (fun _ _ _ => rfl) (fun a b h => n_up_ne a b h) (fun q => ?_) e2 e3 ?_ (hr.2.2.1.put e2 e3 (Nat.le_add_right _ _)))
        · dsimp only
          rw [n_up_row]
          by_cases ej : q = j.toNatClampNeg
          · rw [if_pos ej]; omega
          · rw [if_neg ej]
            exact hr.2.2.2.2.2.2.2 o q (List.getElem?_eq_some_iff.mp ho).1
        · unfold n_cell
          rw [if_neg (by omega), if_neg (by omega), if_neg (by omega)]
          refine n_arr_at (k := j.toNatClampNeg) (v := .ref (n_b G + v)) (F := fun j => va_rf (n_o G (mm.2.2.2 o j))) (vp_cell_q _ _ _) e1 fun q => ?_
          dsimp only
          rw [n_up_row]
          by_cases eq : q = j.toNatClampNeg
          · rw [if_pos eq, if_pos eq]
            show Value.ref (n_a G v) = _
            rw [n_R_lt hvv h1]
          · rw [if_neg eq, if_neg eq]
      · cases he
    · cases he
  · cases he
end
end
section
/-! NEW CELLS, special references, copies -/
def n_pl1 : List Nat := [378, 136, 316, 263, 168, 356, 404, 423, 130, 122, 1218]
def n_pl2 : List Nat := [110, 105, 108, 107, 106, 109, 111, 112, 104, 103, 113]
theorem n_cls_ok : (List.range 11).all (fun c => k_at (n_pl1.getD c 0) (.instantiable (g_cn c) (e_nf c)) && k_at (n_pl2.getD c 0) (.initialized (g_cn c))) = true := by decide +kernel
theorem n_ac : ∀ w ∈ [Jvm.Cond.arrayClass .int, .arrayClass .char, .arrayClass .long], w ∈ lw_tbl ∧ (goodWord w = true ∨ k_nest w = true) := by
  intro w hw
  simp only [List.mem_cons, List.not_mem_nil, or_false] at hw
  rcases hw with rfl | rfl | rfl
  · exact k_at_mem (p := 166) (by decide +kernel)
  · exact k_at_mem (p := 1341) (by decide +kernel)
  · exact k_at_mem (p := 422) (by decide +kernel)
theorem n_cp : ∀ w ∈ [Jvm.Cond.native arraycopyName, .static arraycopyName, .initialized "java/lang/System"], w ∈ lw_tbl ∧ (goodWord w = true ∨ k_nest w = true) := by
  intro w hw
  simp only [List.mem_cons, List.not_mem_nil, or_false] at hw
  rcases hw with rfl | rfl | rfl
  · exact k_at_mem (p := 761) (by decide +kernel)
  · exact k_at_mem (p := 760) (by decide +kernel)
  · exact k_at_mem (p := 119) (by decide +kernel)
section
variable {G : n_G} {X : e_X} {p : Program} {l : Launch} {e : Env} {R : Room} {s : State} {m : MethodId} {args : Array Value} {below : List Frame} {meth : Method} {c : Code} {g nL k0 s0 : Nat}
/-- the relation behind a new cell -/
theorem n_R_push {mm mm' : e_M} {ls : List Value} {H H1 : Heap} {locs : List Loc} {lsA : Array Slot} {cells slots k z : Nat} (hr : n_R G s k0 s0 nL mm ls H locs lsA cells slots) (hk : n_kd (k, z)) (h1 : mm'.1 = mm.1 ++ [(k, z)]) (hi : ∀ a b, a < mm.1.length → mm'.2.1 a b = mm.2.1 a b) (hj : ∀ a b, a < mm.1.length → mm'.2.2.1 a b = mm.2.2.1 a b) (hx : ∀ a b, a < mm.1.length → mm'.2.2.2 a b = mm.2.2.2 a b) (hx2 : ∀ b, mm'.2.2.2 mm.1.length b ≤ mm.1.length + 1)
    (hz : H1.size = n_b G + mm.1.length + 1) (oq : ∀ a : Nat, a < n_b G + mm.1.length → H1[a]? = H[a]?) (hat : va_at G.1 q_cl (n_b G + mm.1.length, n_cell G mm' mm.1.length k z) H1) : n_R G s k0 s0 nL mm' ls H1 locs lsA (cells + 1) (slots + z) := by
  obtain ⟨r1, r2, r3, r4, r5, r6, r7, r8⟩ := hr
  have hl : mm'.1.length = mm.1.length + 1 := by rw [h1]; simp
  refine ⟨by rw [hz, hl]; omega, ?_, ⟨by have := r3.1; omega, fun a ha hna => ?_, r3.2.2⟩, r4, by omega, ?_, fun a b h => ?_, fun a b ha => ?_⟩
  · rw [n_w_push h1 hi hj hx]
    refine (r2.kept fun a q hq => oq q.1 ?_).app fun a q hq => ?_
    · have := (r2 a q hq).lt
      omega
    · have ha : a < 1 := (List.getElem?_eq_some_iff.mp hq).1
      rw [show a = 0 by omega] at hq
      cases hq
      exact hat
  · rw [oq a (by have := r3.1; omega)]
    exact r3.2.1 a ha hna
  · unfold n_z at r6 ⊢
    rw [h1, List.map_append, List.sum_append]
    simp
    omega
  · rw [h1] at h
    by_cases ha : a < mm.1.length
    · rw [List.getElem?_append_left ha] at h
      exact r7 a b h
    · rw [List.getElem?_append_right (by omega)] at h
      have hb : a - mm.1.length < 1 := (List.getElem?_eq_some_iff.mp h).1
      rw [show a - mm.1.length = 0 by omega] at h
      cases h
      exact hk
  · rw [hl] at ha ⊢
    by_cases e : a = mm.1.length
    · rw [e]; exact hx2 b
    · rw [hx a b (by omega)]
      have := r8 a b (by omega)
      omega
theorem n_new {k : Nat} (C : n_C G X p R s m args meth c g nL) : n_Q G X p l e R s m args below meth c g nL k0 s0 (.new k) := by
  intro i pc len mm mm' ls ls' st st' H locs lsA cells slots Q hd hk he hr h1 h2 h3 h4 kk
  replace he : some (ls, Value.ref mm.1.length :: st, ((mm.1 ++ [(k, e_nf k)], (fun a b => if a = mm.1.length then 0 else mm.2.1 a b), mm.2.2.1, (fun a b => if a = mm.1.length then 0 else mm.2.2.2 a b)) : e_M)) = some (ls', st', mm') := he
  simp only [Option.some.injEq, Prod.mk.injEq] at he
  obtain ⟨rfl, rfl, hmm⟩ := he
  simp only [k_ok] at hk
  split at hk
  · rename_i x
    simp only [Bool.and_eq_true, decide_eq_true_eq] at hk
    obtain ⟨rfl, hkc⟩ := hk
    obtain ⟨q, hq⟩ := k_map1 hkc
    have hc0 := k_look k_c_ok (by decide) hq
    simp only [Bool.and_eq_true, decide_eq_true_eq] at hc0
    obtain ⟨hc1, hk11⟩ := hc0
    have hc2 := List.all_eq_true.mp n_cls_ok k (List.mem_range.mpr hk11)
    simp only [Bool.and_eq_true] at hc2
    have hKn := C.2.2.2.2.2.1.1 k _ (q_cl_at hk11)
    have e1 : mm'.1 = mm.1 ++ [(k, e_nf k)] := by rw [← hmm]
    have e2 : mm'.1.length = mm.1.length + 1 := by rw [e1]; simp
    have e3 : n_z mm' = n_z mm + e_nf k := by
      unfold n_z
      rw [e1, List.map_append, List.sum_append]
      simp
    have hr5 := hr.2.2.2.2.1
    have hr6 := hr.2.2.2.2.2.1
    refine W.newcK C.1 C.2.1 C.2.2.2.1 (n_good C (k_at_mem hc1)) (n_good C (k_at_mem hc2.1)) (n_good C (k_at_mem hc2.2)) rfl hd (by omega) (by omega) hKn.2.1 hr.1 fun H1 kC hkC f1 f2 f3 => ?_
    have hres := kk H1 locs lsA (cells + 1) (slots + e_nf k) (n_R_push hr (Or.inl ⟨hk11, rfl⟩) e1 (fun a b ha => by rw [← hmm]; exact if_neg (by omega)) (fun a b ha => by rw [← hmm]) (fun a b ha => by rw [← hmm]; exact if_neg (by omega)) (fun b => by rw [← hmm]; dsimp only; rw [if_pos rfl]; omega) f2 f3 ?_)
    · show W p l e R s m args below meth c H1 locs (cells + 1) (slots + e_nf k) Q (F0 m (pc + 3) lsA (Value.ref (n_b G + mm.1.length) :: st.map (n_v G)))
      have ha : n_v G (.ref mm.1.length) = .ref (n_b G + mm.1.length) := by
        rw [n_v, n_R_lt (mm := mm') (q := (k, e_nf k)) (by rw [e1]; simp) h1]
      rw [← ha]
      exact hres
    · unfold n_cell
      rw [if_pos (by omega)]
      refine ⟨_, q_cl_at hk11, (u_born (q_ty k) (n_hts C hk11) (fun _ h => h) hKn hkC f1 (fun j hj => (q_tyk hk11 hj).1)).to fun j hj => ?_⟩
      have hv : vp_V ((List.range (e_nf k)).map fun j => if q_rf k j then va_rf (n_o G (mm'.2.2.2 mm.1.length j)) else .int (mm'.2.1 mm.1.length j)) j = if q_rf k j then va_rf (n_o G (mm'.2.2.2 mm.1.length j)) else .int (mm'.2.1 mm.1.length j) := by
        simp [vp_V, List.getD_eq_getElem?_getD, List.getElem?_map, List.getElem?_range hj]
      rw [hv, ← hmm]
      dsimp only
      rw [if_pos rfl, if_pos rfl]
      obtain ⟨-, t2, t3, -⟩ := q_tyk hk11 hj
      by_cases hrf : q_rf k j = true
      · rw [if_pos hrf]
        have t4 := (t2 hrf).2
        generalize q_ty k j = ty at t4
        cases ty <;> first | (cases t4; done) | rfl
      · rw [if_neg hrf, t3 (by simpa using hrf)]
        by_cases hb : e_bool (k * 64 + j) = true
        · rw [if_pos hb]; rfl
        · rw [if_neg hb]; rfl
  · cases hk
theorem n_newarr {a : ArrayType} (C : n_C G X p R s m args meth c g nL) : n_Q G X p l e R s m args below meth c g nL k0 s0 (.newarray a) := by
  intro i pc len mm mm' ls ls' st st' H locs lsA cells slots Q hd hk he hr h1 h2 h3 h4 kk
  simp only [k_ok, Bool.and_eq_true, decide_eq_true_eq] at hk
  obtain ⟨rfl, rfl⟩ := hk
  simp only [e_st] at he
  have gen : ∀ (kd : Nat) (ty : FieldType) (j : Int32) (r : List Value), newarray.typeOf a = ty → (Jvm.Cond.arrayClass ty ∈ [Jvm.Cond.arrayClass .int, .arrayClass .char, .arrayClass .long]) → n_kd (kd, j.toNatClampNeg) → ¬ j < 0 → componentBytes ty ≤ 8 → (∃ t0 : Nat, (n_t G)[t0]? = some (G.2.1 kd, ty)) → (∀ cA, va_RA s cA ty → s.vm.findClass ("[" ++ ty.toString) = some cA) → st = .int j :: r → ls' = ls → st' = .ref mm.1.length :: r → mm'.1 = mm.1 ++ [(kd, j.toNatClampNeg)] → (∀ a b, a < mm.1.length → mm'.2.1 a b = mm.2.1 a b) → (∀ a b, a < mm.1.length → mm'.2.2.1 a b = mm.2.2.1 a b) → (∀ a b, a < mm.1.length → mm'.2.2.2 a b = mm.2.2.2 a b) → (∀ b, mm'.2.2.2 mm.1.length b ≤ mm.1.length + 1) → (∀ H1 : Heap, H1[n_b G + mm.1.length]? = some (arrV (G.2.1 kd) j.toNatClampNeg (fun _ => defaultValue ty)) → va_at G.1 q_cl (n_b G + mm.1.length, n_cell G mm' mm.1.length kd j.toNatClampNeg) H1) → W p l e R s m args below meth c H locs cells slots Q (F0 m pc lsA (st.map (n_v G))) := by
    intro kd ty j r hty hw hkd hj hcb ⟨t0, ht0⟩ hRA est els est' e1 gi gj gx gx2 hat
    subst est
    subst els
    subst est'
    have e2 : mm'.1.length = mm.1.length + 1 := by rw [e1]; simp
    have e3 : n_z mm' = n_z mm + j.toNatClampNeg := by
      unfold n_z
      rw [e1, List.map_append, List.sum_append]
      simp
    have hr5 := hr.2.2.2.2.1
    have hr6 := hr.2.2.2.2.2.1
    have hcb2 : j.toNatClampNeg * componentBytes ty ≤ 100000 * 8 := Nat.mul_le_mul (by omega) hcb
    refine va_newaK C.1 C.2.1 (by rw [hty]; exact n_good C (n_ac _ hw)) (g := F0 m pc lsA (List.map (n_v G) (Value.int j :: r))) rfl hd (n := j) (rest := List.map (n_v G) r) rfl hj rfl (by rw [hty]; omega) (by omega) (by omega) hr.1 fun H1 cA f1 f2 f3 f4 f5 => ?_
    have hcA : cA = G.2.1 kd := by
      rw [hty] at f5
      exact Option.some.inj (f5.symm.trans (hRA _ (C.2.2.2.2.2.1.2 t0 _ ht0).2))
    subst hcA
    rw [hty] at f1
    have hres := kk H1 locs lsA (cells + 1) (slots + j.toNatClampNeg) (n_R_push hr hkd e1 gi gj gx gx2 f2 f3 (hat H1 f1))
    show W p l e R s m args below meth c H1 locs (cells + 1) (slots + j.toNatClampNeg) Q (F0 m (pc + 2) lsA (Value.ref (n_b G + mm.1.length) :: List.map (n_v G) r))
    have ha : n_v G (.ref mm.1.length) = .ref (n_b G + mm.1.length) := by
      rw [n_v, n_R_lt (mm := mm') (q := (kd, j.toNatClampNeg)) (by rw [e1]; simp) h1]
    rw [← ha]
    exact hres
  have hx2 : ∀ b, mm.2.2.2 mm.1.length b ≤ mm.1.length + 1 → True := fun _ _ => trivial
  split at he
  · rename_i j r
    split at he
    · cases he
    · rename_i hj
      split at he
      · simp only [Option.some.injEq, Prod.mk.injEq] at he
        obtain ⟨rfl, rfl, hmm⟩ := he
        refine gen 100 .int j r rfl (by simp) (Or.inr (Or.inl rfl)) hj (by decide) ⟨0, rfl⟩ (fun cA h => h) rfl rfl rfl (by rw [← hmm]; rfl) (fun a b ha => by rw [← hmm]; exact if_neg (by omega)) (fun a b ha => by rw [← hmm]) (fun a b ha => by rw [← hmm]; exact if_neg (by omega)) (fun b => by rw [← hmm]; dsimp only; rw [if_pos rfl]; omega) fun H1 f1 => ?_
        show H1[_]? = some (vp_cell _ _)
        rw [f1, ← hmm]
        unfold vp_cell
        dsimp only
        simp only [if_true]
        rfl
      · simp only [Option.some.injEq, Prod.mk.injEq] at he
        obtain ⟨rfl, rfl, hmm⟩ := he
        refine gen 101 .char j r rfl (by simp) (Or.inr (Or.inr (Or.inl rfl))) hj (by decide) ⟨1, rfl⟩ (fun cA h => h) rfl rfl rfl (by rw [← hmm]; rfl) (fun a b ha => by rw [← hmm]; exact if_neg (by omega)) (fun a b ha => by rw [← hmm]) (fun a b ha => by rw [← hmm]; exact if_neg (by omega)) (fun b => by rw [← hmm]; dsimp only; rw [if_pos rfl]; omega) fun H1 f1 => ?_
        show H1[_]? = some (vp_cell _ _)
        rw [f1, ← hmm]
        unfold vp_cell
        dsimp only
        simp only [if_true]
        rfl
      · simp only [Option.some.injEq, Prod.mk.injEq] at he
        obtain ⟨rfl, rfl, hmm⟩ := he
        refine gen 102 .long j r rfl (by simp) (Or.inr (Or.inr (Or.inr (Or.inl rfl)))) hj (by decide) ⟨2, rfl⟩ (fun cA h => h) rfl rfl rfl (by rw [← hmm]; rfl) (fun a b ha => by rw [← hmm]) (fun a b ha => by rw [← hmm]; exact if_neg (by omega)) (fun a b ha => by rw [← hmm]; exact if_neg (by omega)) (fun b => by rw [← hmm]; dsimp only; rw [if_pos rfl]; omega) fun H1 f1 => ?_
        show H1[_]? = some (vp_cell _ _)
        rw [f1, ← hmm]
        unfold vp_cell
        dsimp only
        simp only [if_true]
        rfl
      · cases he
  · cases he
theorem n_anew {k : Nat} (C : n_C G X p R s m args meth c g nL) : n_Q G X p l e R s m args below meth c g nL k0 s0 (.anewarray k) := by
  intro i pc len mm mm' ls ls' st st' H locs lsA cells slots Q hd hk he hr h1 h2 h3 h4 kk
  simp only [e_st] at he
  split at he
  · rename_i j r
    split at he
    · cases he
    · rename_i hj
      simp only [Option.some.injEq, Prod.mk.injEq] at he
      obtain ⟨rfl, rfl, hmm⟩ := he
      simp only [k_ok] at hk
      split at hk
      · rename_i x
        simp only [Bool.and_eq_true, Bool.or_eq_true, decide_eq_true_eq] at hk
        obtain ⟨⟨rfl, hkc⟩, h67⟩ := hk
        obtain ⟨q, hq⟩ := k_map1 hkc
        have hc0 := k_look k_c_ok (by decide) hq
        simp only [Bool.and_eq_true, decide_eq_true_eq] at hc0
        obtain ⟨hc1, hk11⟩ := hc0
        have e1 : mm'.1 = mm.1 ++ [(200 + k, j.toNatClampNeg)] := by rw [← hmm]; rfl
        have e2 : mm'.1.length = mm.1.length + 1 := by rw [e1]; simp
        have e3 : n_z mm' = n_z mm + j.toNatClampNeg := by
          unfold n_z
          rw [e1, List.map_append, List.sum_append]
          simp
        have hr5 := hr.2.2.2.2.1
        have hr6 := hr.2.2.2.2.2.1
        obtain ⟨hao, t0, ht0, hkd⟩ : va_AO (g_cn k) s ∧ ∃ t0 : Nat, (n_t G)[t0]? = some (G.2.1 (200 + k), FieldType.object (g_cn k)) ∧ n_kd (200 + k, j.toNatClampNeg) := by
          rcases h67 with rfl | rfl
          · exact ⟨C.2.2.2.2.2.2.1.2.2.2.2.2.2.2.2.1, 3, rfl, Or.inr (Or.inr (Or.inr (Or.inr (Or.inl rfl))))⟩
          · exact ⟨C.2.2.2.2.2.2.1.2.2.2.2.2.2.2.2.2, 4, rfl, Or.inr (Or.inr (Or.inr (Or.inr (Or.inr rfl))))⟩
        refine W.anew C.1 C.2.1 C.2.2.2.1 (n_good C (k_at_mem hc1)) (va_AO.use hao) (g := F0 m pc lsA (List.map (n_v G) (Value.int j :: r))) rfl hd (n := j) (rest := List.map (n_v G) r) rfl hj (by omega) (by omega) (by omega) fun cA kA comp f1 f2 f3 f4 => ?_
        have hcA : cA = G.2.1 (200 + k) := by
          obtain ⟨kA', comp', q1, q2, q3, q4⟩ := (C.2.2.2.2.2.1.2 t0 _ ht0).2
          exact Option.some.inj (f1.symm.trans q4)
        subst hcA
        have hz := hr.1
        have hres := kk (H.push { cls := G.2.1 (200 + k), slots := Array.replicate j.toNatClampNeg .null, vm := .none }) locs lsA (cells + 1) (slots + j.toNatClampNeg) (n_R_push hr hkd e1 (fun a b ha => by rw [← hmm]) (fun a b ha => by rw [← hmm]) (fun a b ha => by rw [← hmm]; exact if_neg (by omega)) (fun b => by rw [← hmm]; dsimp only; rw [if_pos rfl]; omega) (by rw [Array.size_push, hz]) (fun a ha => by rw [Array.getElem?_push, if_neg (by omega)]) ?_)
        · show W p l e R s m args below meth c _ locs (cells + 1) (slots + j.toNatClampNeg) Q (F0 m (pc + 3) lsA (Value.ref H.size :: List.map (n_v G) r))
          have ha : n_v G (.ref mm.1.length) = .ref H.size := by
            rw [n_v, n_R_lt (mm := mm') (q := (200 + k, j.toNatClampNeg)) (by rw [e1]; simp) h1, hz]
          rw [← ha]
          exact hres
        · unfold n_cell
          rw [if_neg (by omega), if_neg (by omega), if_neg (by omega), ← hmm]
          show (H.push _)[_]? = some (vp_cell _ _)
          rw [← hz, Array.getElem?_push_size, vp_cell_q, arrV_new]
          dsimp only
          simp only [if_true]
          rfl
      · cases hk
  · cases he
theorem n_getstatic {q : Nat} (C : n_C G X p R s m args meth c g nL) : n_Q G X p l e R s m args below meth c g nL k0 s0 (.getstatic q) := by
  intro i pc len mm mm' ls ls' st st' H locs lsA cells slots Q hd hk he hr h1 h2 h3 h4 kk
  have C7 := C.2.2.2.2.2.2.1
  simp only [k_ok] at hk
  split at hk
  · rename_i x
    simp only [Bool.and_eq_true, decide_eq_true_eq] at hk
    obtain ⟨⟨rfl, hq3⟩, hkg⟩ := hk
    obtain ⟨⟨hh, w⟩, hq⟩ := k_map1 hkg
    have hw := n_good C (k_at_mem (k_look k_g_ok (by decide) hq))
    have hho : hh = "" := by
      have h0 : (List.range 16).all (fun o => (k_gl.getD o []).all fun e => decide (e.2.2.1 = "")) = true := by decide +kernel
      exact of_decide_eq_true (k_look h0 (by decide) hq)
    subst hho
    simp only [if_true] at hw
    have : q = 0 ∨ q = 1 ∨ q = 2 := by omega
    rcases this with rfl | rfl | rfl
    · have he : some (ls, Value.ref 1001 :: st, mm) = some (ls', st', mm') := he
      cases he
      exact va_gets C.1 C.2.1 C7.2.1 hr.2.2.1 C.2.2.2.1 hw (fun _ h => h) hd (kk _ _ _ _ _ hr)
    · have he : some (ls, Value.int 1 :: st, mm) = some (ls', st', mm') := he
      cases he
      exact va_gets C.1 C.2.1 C7.2.2.2.1 hr.2.2.1 C.2.2.2.1 hw (fun _ h => h) hd (kk _ _ _ _ _ hr)
    · have he : some (ls, Value.retAddr 1 :: st, mm) = some (ls', st', mm') := he
      cases he
      exact va_gets C.1 C.2.1 C7.2.2.2.2.1 hr.2.2.1 C.2.2.2.1 hw (fun _ h => h) hd (kk _ _ _ _ _ hr)
  · rename_i x
    simp only [Bool.and_eq_true, decide_eq_true_eq] at hk
    obtain ⟨⟨⟨rfl, rfl⟩, hg⟩, rfl⟩ := hk
    have he : some (ls, Value.ref 1002 :: st, mm) = some (ls', st', mm') := he
    cases he
    have ho := C.2.2.2.1
    rw [hg] at ho
    exact va_ldcS C.1 C.2.1 ho C7.2.2.2.2.2.1 hd (kk _ _ _ _ _ hr)
  · cases hk
theorem n_faload (C : n_C G X p R s m args meth c g nL) : n_Q G X p l e R s m args below meth c g nL k0 s0 .faload := by
  intro i pc len mm mm' ls ls' st st' H locs lsA cells slots Q hd hk he hr h1 h2 h3 h4 kk
  simp only [k_ok, Bool.and_eq_true, decide_eq_true_eq] at hk
  obtain ⟨rfl, rfl⟩ := hk
  simp only [e_st] at he
  split at he
  · split at he
    · rename_i hin
      simp only [Bool.and_eq_true, decide_eq_true_eq] at hin
      obtain ⟨rfl, hin⟩ := hin
      cases he
      exact va_ti C.1 C.2.1 C.2.2.2.2.2.2.1.1 hr.2.2.1 (e_in_iff.mp hin) rfl hd (kk _ _ _ _ _ hr)
    · cases he
  · cases he
theorem n_fadd (C : n_C G X p R s m args meth c g nL) : n_Q G X p l e R s m args below meth c g nL k0 s0 .fadd := by
  intro i pc len mm mm' ls ls' st st' H locs lsA cells slots Q hd hk he hr h1 h2 h3 h4 kk
  simp only [k_ok, Bool.and_eq_true, decide_eq_true_eq] at hk
  obtain ⟨rfl, rfl⟩ := hk
  simp only [e_st] at he
  split at he
  · split at he
    · rename_i hin
      subst hin
      cases he
      exact va_tlen C.1 C.2.1 C.2.2.2.2.2.2.1.1 hr.2.2.1 rfl hd (kk _ _ _ _ _ hr)
    · cases he
  · cases he
theorem n_daload (C : n_C G X p R s m args meth c g nL) : n_Q G X p l e R s m args below meth c g nL k0 s0 .daload := by
  intro i pc len mm mm' ls ls' st st' H locs lsA cells slots Q hd hk he hr h1 h2 h3 h4 kk
  simp only [k_ok, Bool.and_eq_true, decide_eq_true_eq] at hk
  obtain ⟨rfl, rfl⟩ := hk
  simp only [e_st] at he
  split at he
  · split at he
    · rename_i hin
      simp only [Bool.and_eq_true, decide_eq_true_eq] at hin
      obtain ⟨rfl, hin⟩ := hin
      cases he
      exact va_ti C.1 C.2.1 C.2.2.2.2.2.2.1.2.2.1 hr.2.2.1 (e_in_iff.mp hin) rfl hd (kk _ _ _ _ _ hr)
    · cases he
  · cases he
theorem n_fsub (C : n_C G X p R s m args meth c g nL) : n_Q G X p l e R s m args below meth c g nL k0 s0 .fsub := by
  intro i pc len mm mm' ls ls' st st' H locs lsA cells slots Q hd hk he hr h1 h2 h3 h4 kk
  simp only [k_ok, Bool.and_eq_true, decide_eq_true_eq] at hk
  obtain ⟨rfl, rfl⟩ := hk
  simp only [e_st] at he
  split at he
  · split at he
    · rename_i hin
      subst hin
      cases he
      exact va_tlen C.1 C.2.1 C.2.2.2.2.2.2.1.2.2.1 hr.2.2.1 rfl hd (kk _ _ _ _ _ hr)
    · cases he
  · cases he
theorem n_baload (C : n_C G X p R s m args meth c g nL) : n_Q G X p l e R s m args below meth c g nL k0 s0 .baload := by
  intro i pc len mm mm' ls ls' st st' H locs lsA cells slots Q hd hk he hr h1 h2 h3 h4 kk
  simp only [k_ok, Bool.and_eq_true, decide_eq_true_eq] at hk
  obtain ⟨rfl, rfl⟩ := hk
  simp only [e_st] at he
  split at he
  · split at he
    · rename_i hin
      simp only [Bool.and_eq_true, decide_eq_true_eq] at hin
      obtain ⟨rfl, hin⟩ := hin
      cases he
      exact va_tb C.1 C.2.1 (C.2.2.2.2.2.2.1.2.2.2.2.2.2.1.1 0 (by decide)).2.2.2 hr.2.2.1 (e_in_iff.mp hin) rfl hd (kk _ _ _ _ _ hr)
    · cases he
  · cases he
theorem n_fmul (C : n_C G X p R s m args meth c g nL) : n_Q G X p l e R s m args below meth c g nL k0 s0 .fmul := by
  intro i pc len mm mm' ls ls' st st' H locs lsA cells slots Q hd hk he hr h1 h2 h3 h4 kk
  simp only [k_ok, Bool.and_eq_true, decide_eq_true_eq] at hk
  obtain ⟨rfl, rfl⟩ := hk
  simp only [e_st] at he
  split at he
  · split at he
    · rename_i hin
      subst hin
      cases he
      exact va_tlen C.1 C.2.1 (C.2.2.2.2.2.2.1.2.2.2.2.2.2.1.1 0 (by decide)).2.2.2 hr.2.2.1 rfl hd (kk _ _ _ _ _ hr)
    · cases he
  · cases he
theorem n_fload {n : Nat} (C : n_C G X p R s m args meth c g nL) : n_Q G X p l e R s m args below meth c g nL k0 s0 (.fload n) := by
  intro i pc len mm mm' ls ls' st st' H locs lsA cells slots Q hd hk he hr h1 h2 h3 h4 kk
  have hE := C.2.2.2.2.2.2.1.2.2.2.2.2.2.1.1 0 (by decide)
  simp only [k_ok] at hk
  split at hk
  · rename_i x
    simp only [Bool.and_eq_true, decide_eq_true_eq] at hk
    obtain ⟨rfl, hkt⟩ := hk
    obtain ⟨w, hq⟩ := k_map1 hkt
    have hw := n_good C (k_at_mem (k_look k_t_ok (by decide) hq))
    simp only [e_st] at he
    split at he
    · split at he
      · rename_i hin
        subst hin
        split at he
        · cases he
          exact vk_getf C.1 C.2.1 hE.2.2.1 hr.2.2.1 C.2.2.2.1 hw (fun _ h => h) hd (kk _ _ _ _ _ hr)
        · cases he
          exact vk_getf C.1 C.2.1 hE.2.1 hr.2.2.1 C.2.2.2.1 hw (fun _ h => h) hd (kk _ _ _ _ _ hr)
        · cases he
      · cases he
    · cases he
  · cases hk
theorem n_copy (C : n_C G X p R s m args meth c g nL) : n_Q G X p l e R s m args below meth c g nL k0 s0 .dmul := by
  intro i pc len mm mm' ls ls' st st' H locs lsA cells slots Q hd hk he hr h1 h2 h3 h4 kk
  simp only [k_ok] at hk
  split at hk
  · rename_i x
    simp only [Bool.and_eq_true, decide_eq_true_eq] at hk
    obtain ⟨rfl, hz⟩ := hk
    obtain ⟨q, hq⟩ := k_map1 hz
    have hlink := n_good C (k_at_mem (k_look k_s_ok (by decide) hq))
    simp only [e_st] at he
    split at he
    · rename_i n dp d sp o r
      split at he
      · rename_i ka z0 kb z1 ho hdd
        split at he
        · rename_i hc
          simp only [Bool.and_eq_true, decide_eq_true_eq, Bool.not_eq_true', decide_eq_false_iff_not] at hc
          obtain ⟨⟨⟨⟨⟨⟨⟨rfl, rfl⟩, g3⟩, g2⟩, g1⟩, g4⟩, g5⟩, g6⟩ := hc
          cases he
          have hM9 : mm.1.length ≤ 900 := h1
          have ha : n_v G (.ref o) = .ref (n_b G + o) := by rw [n_v, n_R_lt ho hM9]
          have hb : n_v G (.ref d) = .ref (n_b G + d) := by rw [n_v, n_R_lt hdd hM9]
          show W p l e R s m args below meth c H locs cells slots Q (F0 m pc lsA (.int n :: .int dp :: n_v G (.ref d) :: .int sp :: n_v G (.ref o) :: List.map (n_v G) st'))
          rw [ha, hb]
          have hP := hr.2.1
          have ha0 := n_int (G := G) ho
          have ha1 := n_int (G := G) hdd
          have hKt := C.2.2.2.2.2.1.2 0 (G.2.1 100, FieldType.int) rfl
          have nn : ∀ z : Int32, ¬ z < 0 → z.toInt = (z.toNatClampNeg : Int) := by
            intro z hz
            have hz0 : (0 : Int) ≤ z.toInt := by
              have := Int32.not_lt.mp hz
              simpa using Int32.le_iff_toInt_le.mp this
            show z.toInt = ((z.toInt.toNat : Nat) : Int)
            omega
          intro T hT X'
          have hc0 : H[n_b G + o]? = some (vp_cell (G.2.1 e_kI) (z0, .inl (mm.2.1 o))) := hP o _ ha0
          have hc1 : H[n_b G + d]? = some (vp_cell (G.2.1 e_kI) (z1, .inl (mm.2.1 d))) := hP d _ ha1
          obtain ⟨-, kA, hk0, cm0, hkk0⟩ := hKt.1 z0 (fun j => .int (mm.2.1 o j))
          obtain ⟨-, kB, hk1, cm1, hkk1⟩ := hKt.1 z1 (fun j => .int (mm.2.1 d j))
          have hR1 := C.2.2.2.2.2.2.2.2.2.1
          have hR2 := C.2.2.2.2.2.2.2.2.2.2
          have hlo := n_lo (f := n_v G) g6
          have hnw : nativeFrameWords "java/lang/System" "arraycopy" 5 = 7 := by decide +kernel
          obtain ⟨vm', X2, step⟩ := X'.arraycopy C.1 C.2.2.2.1 hlink (n_good C (n_cp _ (by simp))) (n_good C (n_cp _ (by simp))) (n_good C (n_cp _ (by simp))) (src := n_b G + o) (dst := n_b G + d) (cs := vp_cell (G.2.1 e_kI) (z0, .inl (mm.2.1 o))) (cd := vp_cell (G.2.1 e_kI) (z1, .inl (mm.2.1 d))) (srcPos := sp) (destPos := dp) (n := n) (by rw [hT]; exact hc0) (by rw [hT]; exact hc1)
            (fun _ h => by cases h) (fun _ h => by cases h) (fun h => by cases h) (fun h => by cases h) hk0 hk1 hkk0 hkk1 (by simp [refKind]) g1 g2 g3
            (by rw [nn sp g1, nn n g3]; show ¬ _ > ((arrV (G.2.1 e_kI) z0 (fun j => .int (mm.2.1 o j))).slots.size : Int); rw [arrV_size]; omega)
            (by rw [nn dp g2, nn n g3]; show ¬ _ > ((arrV (G.2.1 e_kI) z1 (fun j => .int (mm.2.1 d j))).slots.size : Int); rw [arrV_size]; omega)
            (fun vm₁ _ i hi => by
              have e : (vp_cell (G.2.1 e_kI) (z0, .inl (mm.2.1 o))).slots.getD (sp.toNatClampNeg + i) .null = .int (mm.2.1 o (sp.toNatClampNeg + i)) := by
                show (arrV (G.2.1 e_kI) z0 (fun j => .int (mm.2.1 o j))).slots.getD _ _ = _
                rw [Array.getD_eq_getD_getElem?, arrV_read _ _ (by omega)]
                rfl
              refine ⟨?_, ?_⟩
              · rw [e]
                rfl
              · rw [e]
                exact trivial)
            (g := F0 m pc lsA (.int n :: .int dp :: .ref (n_b G + d) :: .int sp :: .ref (n_b G + o) :: List.map (n_v G) st')) rfl (hr.2.2.2.1.2.1.trans C.2.2.1.symm) (rest := List.map (n_v G) st') rfl (by rw [C.2.1]; exact hd) hR1 (by show 2 * 0 + _ + _ ≤ _; omega)
          have e1 : copied (vp_cell (G.2.1 e_kI) (z0, .inl (mm.2.1 o))) (vp_cell (G.2.1 e_kI) (z1, .inl (mm.2.1 d))) sp dp n = vp_cell (G.2.1 e_kI) (z1, .inl (va_cpy (mm.2.1 o) (mm.2.1 d) sp.toNatClampNeg dp.toNatClampNeg n.toNatClampNeg)) := va_copied (fun z => .int z) (G.2.1 e_kI) (G.2.1 e_kI) (mm.2.1 o) (mm.2.1 d) g4
          rw [e1] at X2 step
          have hl : n_b G + d < H.size := (Array.getElem?_eq_some_iff.mp hc1).1
          have hheap : ((T.setVm vm').setCell (n_b G + d) (vp_cell (G.2.1 e_kI) (z1, .inl (va_cpy (mm.2.1 o) (mm.2.1 d) sp.toNatClampNeg dp.toNatClampNeg n.toNatClampNeg)))).heap = H.setIfInBounds (n_b G + d) (vp_cell (G.2.1 e_kI) (z1, .inl (va_cpy (mm.2.1 o) (mm.2.1 d) sp.toNatClampNeg dp.toNatClampNeg n.toNatClampNeg))) := by rw [← hT]; rfl
          have oq : ∀ q : Nat, q ≠ n_b G + d → (H.setIfInBounds (n_b G + d) (vp_cell (G.2.1 e_kI) (z1, .inl (va_cpy (mm.2.1 o) (mm.2.1 d) sp.toNatClampNeg dp.toNatClampNeg n.toNatClampNeg))))[q]? = H[q]? := fun q hq => by simp [Array.getElem?_setIfInBounds, Ne.symm hq]
          have hz1 : (H.setIfInBounds (n_b G + d) (vp_cell (G.2.1 e_kI) (z1, .inl (va_cpy (mm.2.1 o) (mm.2.1 d) sp.toNatClampNeg dp.toNatClampNeg n.toNatClampNeg)))).size = H.size := by simp
          obtain ⟨t, a1, b1⟩ := kk _ _ lsA cells slots (n_R_wr hr hdd rfl (fun a b h => if_neg h) (fun _ _ _ => rfl) (fun _ _ _ => rfl) (fun k => hr.2.2.2.2.2.2.2 d k (List.getElem?_eq_some_iff.mp hdd).1) hz1 oq
            (show (H.setIfInBounds (n_b G + d) _)[n_b G + d]? = some (vp_cell _ _) by
              simp only [Array.getElem?_setIfInBounds, hl, if_true]
              first
                | rfl
                | (congr 2; done))
            (⟨by rw [hz1]; exact hr.2.2.1.1, fun q g7 g8 => by
              rw [oq q (fun e => g8 (by rw [e]; exact Nat.le_add_right _ _))]
              exact hr.2.2.1.2.1 q g7 g8, fun q hq => by
              rcases List.mem_append.mp hq with h | h
              · exact hr.2.2.1.2.2 q h
              · obtain ⟨z, -, hz⟩ := List.mem_map.mp h
                rw [← hz]
                exact Nat.le_add_right _ _⟩)) _ hheap X2
          exact ⟨t, step t a1, b1⟩
        · cases he
      · cases he
    · cases he
  · cases hk
end
end
section
/-! BLOCKS, CALLS, METHODS -/
def n_le (m m' : e_M) : Prop := m.1.length ≤ m'.1.length ∧ n_z m ≤ n_z m'
theorem n_le.rf {m : e_M} : n_le m m := ⟨Nat.le_refl _, Nat.le_refl _⟩
theorem n_le.tr {a b c : e_M} (h : n_le a b) (h' : n_le b c) : n_le a c := ⟨Nat.le_trans h.1 h'.1, Nat.le_trans h.2 h'.2⟩
theorem n_le_of {m m' : e_M} (h : ∃ q, m'.1 = m.1 ++ q) : n_le m m' := by
  obtain ⟨q, h⟩ := h
  refine ⟨by rw [h]; simp, ?_⟩
  unfold n_z
  rw [h, List.map_append, List.sum_append]
  exact Nat.le_add_right _ _
theorem e_ii_K {f ls st mm ls' st' mm'} (h : e_ii f ls st mm = some (ls', st', mm')) : ∃ q, mm'.1 = mm.1 ++ q := by
  unfold e_ii at h
  split at h
  · cases h; exact ⟨[], (List.append_nil _).symm⟩
  · cases h
theorem e_iq_K {f ls st mm ls' st' mm'} (h : e_iq f ls st mm = some (ls', st', mm')) : ∃ q, mm'.1 = mm.1 ++ q := by
  unfold e_iq at h
  split at h
  · split at h
    · cases h; exact ⟨[], (List.append_nil _).symm⟩
    · cases h
  · cases h
theorem e_i1_K {f ls st mm ls' st' mm'} (h : e_i1 f ls st mm = some (ls', st', mm')) : ∃ q, mm'.1 = mm.1 ++ q := by
  unfold e_i1 at h
  split at h
  · cases h; exact ⟨[], (List.append_nil _).symm⟩
  · cases h
theorem e_id_K {f ls st mm ls' st' mm'} (h : e_id f ls st mm = some (ls', st', mm')) : ∃ q, mm'.1 = mm.1 ++ q := by
  unfold e_id at h
  split at h
  · split at h
    · cases h
    · cases h; exact ⟨[], (List.append_nil _).symm⟩
  · cases h
theorem e_jj_K {f ls st mm ls' st' mm'} (h : e_jj f ls st mm = some (ls', st', mm')) : ∃ q, mm'.1 = mm.1 ++ q := by
  unfold e_jj at h
  split at h
  · cases h; exact ⟨[], (List.append_nil _).symm⟩
  · cases h
theorem e_ji_K {f ls st mm ls' st' mm'} (h : e_ji f ls st mm = some (ls', st', mm')) : ∃ q, mm'.1 = mm.1 ++ q := by
  unfold e_ji at h
  split at h
  · cases h; exact ⟨[], (List.append_nil _).symm⟩
  · cases h
theorem e_map_K {o : Option (List Value)} {r : List Value} {mm : e_M} {ls' st' mm'} (h : (o.map fun l => (l, r, mm)) = some (ls', st', mm')) : ∃ q, mm'.1 = mm.1 ++ q := by
  cases o with
  | none => cases h
  | some l => cases h; exact ⟨[], (List.append_nil _).symm⟩
theorem e_st_K {X : e_X} {i : Instr} {ls st : List Value} {mm : e_M} {ls' st' : List Value} {mm' : e_M} (h : e_st X i ls st mm = some (ls', st', mm')) : ∃ q, mm'.1 = mm.1 ++ q := by
  unfold e_st at h
  split at h <;> first
    | exact e_ii_K h
    | exact e_iq_K h
    | exact e_i1_K h
    | exact e_id_K h
    | exact e_jj_K h
    | exact e_ji_K h
    | (cases h; exact ⟨[], (List.append_nil _).symm⟩)
    | (cases h; done)
    | (cases h; exact ⟨_, rfl⟩)
    | (split at h <;> first
        | exact e_map_K h
        | (cases h; exact ⟨[], (List.append_nil _).symm⟩)
        | (cases h; done)
        | (cases h; exact ⟨_, rfl⟩)
        | (split at h <;> first
            | (cases h; exact ⟨[], (List.append_nil _).symm⟩)
            | (cases h; done)
            | (cases h; exact ⟨_, rfl⟩)
            | (split at h <;> first
                | (cases h; exact ⟨[], (List.append_nil _).symm⟩)
                | (cases h; done)
                | (cases h; exact ⟨_, rfl⟩))))
theorem e_x_sz {X : e_X} {S : Nat → List Value → e_M → e_R} {J : Nat → List Value → List Value → e_M → e_R} (hS : ∀ c as m r m', S c as m = some (r, m') → n_le m m') (hJ : ∀ t a b m r m', J t a b m = some (r, m') → n_le m m') : ∀ (is : List Instr) (ls st : List Value) (m : e_M) (r : List Value) (m' : e_M), e_x X S J is ls st m = some (r, m') → n_le m m' := by
  intro is
  induction is with
  | nil => intro ls st m r m' h; simp [e_x] at h
  | cons i is ih =>
    intro ls st m r m' h
    unfold e_x at h
    split at h
    · exact hJ _ _ _ _ _ _ h
    · exact hJ _ _ _ _ _ _ h
    · split at h
      · split at h
        · exact hJ _ _ _ _ _ _ h
        · exact ih _ _ _ _ _ h
      · cases h
    · split at h
      · split at h
        · exact hJ _ _ _ _ _ _ h
        · exact ih _ _ _ _ _ h
      · cases h
    · split at h
      · obtain ⟨t, h1, -⟩ := e_sw_J h
        exact hJ _ _ _ _ _ _ h1
      · cases h
    · split at h
      · cases h; exact n_le.rf
      · cases h
    · split at h
      · split at h
        · cases h; exact n_le.rf
        · cases h
      · cases h
    · split at h
      · split at h
        · cases h; exact n_le.rf
        · cases h
      · cases h
    · split at h
      · split at h
        · cases h; exact n_le.rf
        · cases h
      · cases h
    · split at h
      · cases h; exact n_le.rf
      · cases h
    · split at h
      · cases h; exact n_le.rf
      · cases h
    · split at h
      · split at h
        · rename_i hs
          exact (hS _ _ _ _ _ hs).tr (ih _ _ _ _ _ h)
        · cases h
      · cases h
    · split at h
      · rename_i hs
        exact (n_le_of (e_st_K hs)).tr (ih _ _ _ _ _ h)
      · cases h
section
variable {P : Nat → Nat → List Instr} {mx : Nat → Nat} {rc : Nat → List Value → e_M → Bool} {X : e_X}
theorem e_run_sz {S : Nat → List Value → e_M → e_R} (hS : ∀ c as m r m', S c as m = some (r, m') → n_le m m') {c : Nat} : ∀ (n lab : Nat) (ls st : List Value) (m : e_M) (r : List Value) (m' : e_M), e_run P X S c n lab ls st m = some (r, m') → n_le m m'
  | 0, _, _, _, _, _, _, h => by cases h
  | n + 1, lab, ls, st, m, r, m', h => by
    unfold e_run at h
    exact e_x_sz hS (fun t a b q r' m'' h' => e_run_sz hS n t a b q r' m'' h') _ _ _ _ _ _ h
theorem e_S_sz : ∀ (d c : Nat) (as : List Value) (m : e_M) (r : List Value) (m' : e_M), e_S P mx rc X d c as m = some (r, m') → n_le m m'
  | 0, _, _, _, _, _, h => by cases h
  | d + 1, c, as, m, r, m', h => by
    unfold e_S at h
    split at h
    · obtain ⟨n, hn⟩ := e_go_some.mp h
      exact e_run_sz (fun c as m r m' h => e_S_sz d c as m r m' h) n _ _ _ _ _ _ hn
    · cases h
end
def g_w (c : Nat) : List Jvm.Cond := .code (g_y c) (g_b c) (g_mx c) (g_ret c) :: lw_tbl.filter goodWord
def n_rm (d mc ms : Nat) : Room := { frames := d + 1, cells := mc, slots := ms, locals := 100 * (d + 1) }
def n_Pc (G : n_G) (X : e_X) (as : List Value) (m1 : e_M) : Array Value → State → Prop := fun v U => v = (as.map (n_v G)).toArray ∧ U.heap.size = n_b G + m1.1.length ∧ va_P G.1 q_cl (n_w G m1) U.heap ∧ va_K G.1 q_cl (n_t G) U ∧ n_S G X U ∧ n_ok m1
def n_Qc (G : n_G) (r : List Value) (m2 : e_M) : Array Value → State → Outcome → State → Prop := fun _ st o t => (∃ v : Option Value, o = .returned v ∧ v.toList = r.map (n_v G)) ∧ t.heap.size = n_b G + m2.1.length ∧ va_P G.1 q_cl (n_w G m2) t.heap ∧ n_ok m2 ∧ va_F (fun q => n_b G ≤ q) st t
/-- what the evaluator answers for calls at depth d, the methods meet -/
def n_M (l : Launch) (G : n_G) (X : e_X) (d : Nat) (S : Nat → List Value → e_M → e_R) : Prop := ∀ (c : Nat) (as : List Value) (m1 : e_M) (r : List Value) (m2 : e_M), c < 308 → S c as m1 = some (r, m2) → m2.1.length ≤ 900 → n_z m2 ≤ 100000 →
  e_rc c as m1 = true ∧ Met l (g_y c) (g_w c) (n_rm d (m2.1.length - m1.1.length) (n_z m2 - n_z m1)) (n_Pc G X as m1) (n_Qc G r m2) (m2.1.length - m1.1.length) (n_z m2 - n_z m1) (fun q => n_b G ≤ q)
theorem n_S_calling {G : n_G} {X : e_X} {U : State} {g : JFrame} {mk : MethodId} {a : Array Value} (h : n_S G X U) : n_S G X (U.calling g mk a) := by
  obtain ⟨h1, h2, h3, h4, h5, h6, h7, h8, h9, h10⟩ := h
  have ha : U.vm.Alike (U.calling g mk a).vm := Vm.Alike.refl U.vm
  exact ⟨h1.moved ha, h2.moved ha, h3.moved ha, h4.moved ha, h5.moved ha, vk_R.same (u := U) (U := U.calling g mk a) rfl h6, h7.moved ha, fun w hw hn => va_Nw.same (u := U) (U := U.calling g mk a) (by cases w <;> first | (cases hn; done) | rfl) rfl (h8 w hw hn), h9.moved ha, h10.moved ha⟩
theorem n_blind {G : n_G} {X : e_X} {as : List Value} {m1 : e_M} : FrameBlind (n_Pc G X as m1) := fun a U g mk q =>
  ⟨q.1, q.2.1, q.2.2.1, va_K.moved (u := U) (U := U.calling g mk a) (Vm.Alike.refl U.vm) q.2.2.2.1, n_S_calling q.2.2.2.2.1, q.2.2.2.2.2⟩
/-- a method's own facts -/
theorem k_me_at {c : Nat} (hc : c < 308) : k_me c = true := by
  have key : ∀ a m, (List.range' a m).all k_me = true → a ≤ c → c < a + m → k_me c = true := fun a m h h1 h2 => List.all_eq_true.mp h c (List.mem_range'_1.mpr ⟨h1, h2⟩)
  by_cases h : c < 14
  · exact key 0 14 k_me_0 (by omega) (by omega)
  by_cases h14 : c < 28
  · exact key 14 14 k_me_14 (by omega) (by omega)
  by_cases h28 : c < 42
  · exact key 28 14 k_me_28 (by omega) (by omega)
  by_cases h42 : c < 56
  · exact key 42 14 k_me_42 (by omega) (by omega)
  by_cases h56 : c < 70
  · exact key 56 14 k_me_56 (by omega) (by omega)
  by_cases h70 : c < 84
  · exact key 70 14 k_me_70 (by omega) (by omega)
  by_cases h84 : c < 98
  · exact key 84 14 k_me_84 (by omega) (by omega)
  by_cases h98 : c < 112
  · exact key 98 14 k_me_98 (by omega) (by omega)
  by_cases h112 : c < 126
  · exact key 112 14 k_me_112 (by omega) (by omega)
  by_cases h126 : c < 140
  · exact key 126 14 k_me_126 (by omega) (by omega)
  by_cases h140 : c < 154
  · exact key 140 14 k_me_140 (by omega) (by omega)
  by_cases h154 : c < 168
  · exact key 154 14 k_me_154 (by omega) (by omega)
  by_cases h168 : c < 182
  · exact key 168 14 k_me_168 (by omega) (by omega)
  by_cases h182 : c < 196
  · exact key 182 14 k_me_182 (by omega) (by omega)
  by_cases h196 : c < 210
  · exact key 196 14 k_me_196 (by omega) (by omega)
  by_cases h210 : c < 224
  · exact key 210 14 k_me_210 (by omega) (by omega)
  by_cases h224 : c < 238
  · exact key 224 14 k_me_224 (by omega) (by omega)
  by_cases h238 : c < 252
  · exact key 238 14 k_me_238 (by omega) (by omega)
  by_cases h252 : c < 266
  · exact key 252 14 k_me_252 (by omega) (by omega)
  by_cases h266 : c < 280
  · exact key 266 14 k_me_266 (by omega) (by omega)
  by_cases h280 : c < 294
  · exact key 280 14 k_me_280 (by omega) (by omega)
  by_cases h294 : c < 308
  · exact key 294 14 k_me_294 (by omega) (by omega)
  exact absurd hc h294
end
section
/-! CALLS -/
theorem k_me_facts {c : Nat} (hc : c < 308) : (Jvm.Cond.code (g_y c) (g_b c) (g_mx c) (g_ret c) ∈ lw_tbl) ∧ (Jvm.Cond.initialized (g_y c).cls ∈ lw_tbl) ∧ ((g_k c).2.1 = 0 → Jvm.Cond.static (g_y c) ∈ lw_tbl) ∧ ((g_k c).2.1 = 1 → Jvm.Cond.instanceMethod (g_y c) ∈ lw_tbl ∧ Jvm.Cond.selects (g_y c).cls (g_y c) (g_y c) ∈ lw_tbl) ∧
    ((g_k c).2.1 = 2 → Jvm.Cond.instanceMethod (g_y c) ∈ lw_tbl ∧ (g_y c).name = "<init>" ∧ g_ret c = none) ∧ g_mx c ≤ 20 ∧ plainName (g_y c).cls = true ∧ ((g_y c).cls ≠ "java/lang/invoke/MethodHandle" ∧ (g_y c).cls ≠ "java/lang/invoke/VarHandle") ∧
    (parseMethodDescriptor (g_y c).desc).map (fun q => q.parameters.length) = some (if (g_k c).2.1 = 0 then (g_k c).1 else (g_k c).1 - 1) ∧ ((g_k c).2.1 = 0 ∨ 1 ≤ (g_k c).1) := by
  have h := k_me_at hc
  unfold k_me at h
  dsimp only at h
  rw [Bool.and_eq_true, Bool.and_eq_true, Bool.and_eq_true, Bool.and_eq_true, Bool.and_eq_true, Bool.and_eq_true, Bool.and_eq_true, Bool.and_eq_true] at h
  obtain ⟨⟨⟨⟨⟨⟨⟨⟨h1, h2⟩, h3⟩, h4⟩, h5⟩, h6⟩, h7⟩, h8⟩, h9⟩ := h
  refine ⟨k_cd_mem (by omega) h1, (k_at_mem h2).1, fun q => ?_, fun q => ?_, fun q => ?_, of_decide_eq_true h4, h5, ⟨of_decide_eq_true h6, of_decide_eq_true h7⟩, of_decide_eq_true h8, of_decide_eq_true h9⟩
  · rw [if_pos q] at h3
    exact (k_at_mem h3).1
  · rw [if_neg (by omega), if_pos q, Bool.and_eq_true] at h3
    exact ⟨(k_at_mem h3.1).1, (k_at_mem h3.2).1⟩
  · rw [if_neg (by omega), if_neg (by omega), Bool.and_eq_true, Bool.and_eq_true] at h3
    exact ⟨(k_at_mem h3.1).1, of_decide_eq_true h3.2.1, of_decide_eq_true h3.2.2⟩
theorem g_y_cls (c : Nat) : (g_y c).cls = g_cn (g_own c) := rfl
section
variable {G : n_G} {X : e_X} {p : Program} {l : Launch} {e : Env} {R : Room} {s : State} {m : MethodId} {args : Array Value} {below : List Frame} {meth : Method} {c : Code} {g nL k0 s0 d : Nat} {S : Nat → List Value → e_M → e_R} {Q : State → Prop}
/-- behind a call -/
theorem n_back {mm m2 : e_M} {ls r1 : List Value} {H : Heap} {locs : List Loc} {lsA : Array Slot} {cells slots pc : Nat} {st0 rest : List Value} {a : Array Value} {mc ms : Nat} (hr : n_R G s k0 s0 nL mm ls H locs lsA cells slots) (hle : n_le mm m2) (hmc : mc = m2.1.length - mm.1.length) (hms : ms = n_z m2 - n_z mm)
    (hrun : va_Run p l e R s m args below meth c H locs cells slots mc ms (F0 m pc lsA st0) rest (n_Qc G r1 m2 a) (fun q => n_b G ≤ q))
    (kk : ∀ (H' : Heap) (locs' : List Loc) (cells' slots' : Nat), n_R G s k0 s0 nL m2 ls H' locs' lsA cells' slots' → W p l e R s m args below meth c H' locs' cells' slots' Q (F0 m (pc + 3) lsA (r1.map (n_v G) ++ rest))) : W p l e R s m args below meth c H locs cells slots Q (F0 m pc lsA st0) := by
  intro T hT X'
  obtain ⟨v, st₀, t, T', L, h0, X'', hL, e1, e2, ⟨⟨v', hv, hvl⟩, hz, hP, hok, hF⟩, st⟩ := hrun T hT X'
  cases hv
  obtain ⟨r1', r2, r3, r4, r5, r6, r7⟩ := hr
  have hS : va_S (fun q => n_b G ≤ q) s.heap T'.heap (locs ++ L) := by
    refine ⟨by rw [e1, hz]; have := r3.1; have := hle.1; omega, fun q h1 h2 => ?_, fun q hq => ?_⟩
    · rw [e1, hF.2 q (by rw [h0]; exact Nat.lt_of_lt_of_le h1 r3.1) h2, h0]
      exact r3.2.1 q h1 h2
    · rcases List.mem_append.mp hq with h | h
      · exact r3.2.2 q h
      · exact hL q h
  obtain ⟨t2, a1, b1⟩ := kk T'.heap (locs ++ L) (cells + mc) (slots + ms) ⟨by rw [e1]; exact hz, by rw [e1]; exact hP, hS, r4, by have := hle.1; omega, by have := hle.2; omega, hok⟩ T' rfl X''
  rw [← hvl] at a1
  exact ⟨t2, st t2 a1, b1⟩
theorem n_words (C : n_C G X p R s m args meth c g nL) {c' : Nat} (hc : c' < 308) : ∀ w ∈ g_w c', ∀ (a' : Array Value) (U : State), s.WarmedH U.vm → w.before a' U = true := by
  intro w hw a' U hW
  unfold g_w at hw
  rcases List.mem_cons.mp hw with rfl | hw
  · exact word_at hW (Or.inl rfl) (n_good C ⟨(k_me_facts hc).1, Or.inl rfl⟩)
  · obtain ⟨h1, h2⟩ := List.mem_filter.mp hw
    exact word_at hW (good_of_word h2) (n_good C ⟨h1, Or.inl h2⟩)
theorem n_pre (C : n_C G X p R s m args meth c g nL) {mm : e_M} {ls as : List Value} {H : Heap} {locs : List Loc} {lsA : Array Slot} {cells slots : Nat} (hr : n_R G s k0 s0 nL mm ls H locs lsA cells slots) {v : Array Value} (hv : v = (as.map (n_v G)).toArray) : ∀ U : State, U.heap = H → s.WarmedH U.vm → n_Pc G X as mm v U := by
  intro U hU hW
  exact ⟨hv, by rw [hU]; exact hr.1, by rw [hU]; exact hr.2.1, C.2.2.2.2.2.1.moved hW.alike, n_S_moved C.2.2.2.2.2.2.1 hr.2.2.1 hU hW, hr.2.2.2.2.2.2⟩
theorem n_call (C : n_C G X p R s m args meth c g nL) (hM : n_M l G X d S) (hRf : d + 2 ≤ R.frames) (hRl : 8 + (20 + 11) + 100 * (d + 1) ≤ R.locals) {c' n pc len : Nat} {i : Instr} (hd : decode (g_b g) pc = .ok (i, len)) (hk : k_ok g pc len i (.invokeinterface c' n) = true) {ls st r1 : List Value} {mm m2 : e_M} {H : Heap} {locs : List Loc} {lsA : Array Slot} {cells slots : Nat}
    (hlo : e_lo (st.drop n) = true) (hs : S c' (st.take n).reverse mm = some (r1, m2)) (hr : n_R G s k0 s0 nL mm ls H locs lsA cells slots) (hle : n_le mm m2) (h1 : m2.1.length ≤ 900) (h2 : m2.1.length ≤ R.cells + k0) (h3 : n_z m2 ≤ R.slots + s0) (h4 : n_z m2 ≤ 100000)
    (kk : ∀ (H' : Heap) (locs' : List Loc) (cells' slots' : Nat), n_R G s k0 s0 nL m2 ls H' locs' lsA cells' slots' → W p l e R s m args below meth c H' locs' cells' slots' Q (F0 m (pc + len) lsA ((r1 ++ st.drop n).map (n_v G)))) :
    W p l e R s m args below meth c H locs cells slots Q (F0 m pc lsA (st.map (n_v G))) := by
  have hlk : ∀ x : Nat, (k_m (g_own g) x).map (·.1) = some c' → c' < 308 ∧ ∃ h : String, (k_mw (g_own g) x c' h).before args s = true := by
    intro x hx
    obtain ⟨⟨h, q⟩, hq⟩ := k_map1 hx
    have h0 := k_look k_m_ok (by decide) hq
    rw [Bool.and_eq_true] at h0
    exact ⟨of_decide_eq_true h0.2, h, n_good C (k_at_mem h0.1)⟩
  have hrest : ((((st.drop n).map (n_v G)).map fun v => v.category)).sum ≤ 8 := n_lo (f := n_v G) (of_decide_eq_true hlo)
  have hrm : ∀ {c'' : Nat}, c'' < 308 → 8 + (g_mx c'' + 11) + 100 * (d + 1) ≤ R.locals := fun hc => by have := (k_me_facts hc).2.2.2.2.2.1; omega
  have hcells : cells + (m2.1.length - mm.1.length) ≤ R.cells ∧ slots + (n_z m2 - n_z mm) ≤ R.slots := by
    have a1 := hr.2.2.2.2.1
    have a2 := hr.2.2.2.2.2.1
    have a3 := hle.1
    have a4 := hle.2
    omega
  have hst : st = (st.take n).reverse.reverse ++ st.drop n := by rw [List.reverse_reverse, List.take_append_drop]
  have hsz : (F0 m pc lsA (st.map (n_v G))).locals.size = nL := hr.2.2.2.1.2.1
  have kk' : len = 3 → ∀ (H' : Heap) (locs' : List Loc) (cells' slots' : Nat), n_R G s k0 s0 nL m2 ls H' locs' lsA cells' slots' → W p l e R s m args below meth c H' locs' cells' slots' Q (F0 m (pc + 3) lsA (r1.map (n_v G) ++ (st.drop n).map (n_v G))) := by
    intro hl H' locs' cells' slots' h
    have := kk H' locs' cells' slots' h
    rw [hl, List.map_append] at this
    exact this
  simp only [k_ok] at hk
  generalize has : (st.take n).reverse = as at hs hst
  have hSX : CallFix p m c (g_b g) nL s args [] (g_cn (g_own g)) := ⟨C.1, C.2.1, C.2.2.1, C.2.2.2.1, fun w h => absurd h List.not_mem_nil⟩
  split at hk
  · -- virtual
    rename_i x
    simp only [Bool.and_eq_true, decide_eq_true_eq] at hk
    obtain ⟨⟨⟨hl, hkm⟩, hkd⟩, hna⟩ := hk
    obtain ⟨hc, hh, hw⟩ := hlk x hkm
    obtain ⟨hrc, hMet⟩ := hM c' as mm r1 m2 hc hs h1 h4
    obtain ⟨f1, f2, -, f4, -, f6, -, f8, f9, f10⟩ := k_me_facts hc
    obtain ⟨f4a, f4b⟩ := f4 hkd
    simp only [e_rc, hkd, Bool.and_eq_true, decide_eq_true_eq] at hrc
    obtain ⟨hal, hrc⟩ := hrc
    split at hrc
    · rename_i o As
      have hAn : As.length = (g_k c').1 - 1 := by
        rw [List.length_cons] at hal
        omega
      have hrecv : ∃ cellB : Cell, H[n_a G o]? = some cellB ∧ cellB.vm.isStatics = false ∧ s.vm.findClass (g_y c').cls = some cellB.cls := by
        split at hrc
        · rename_i h13
          rw [of_decide_eq_true hrc, g_y_cls, h13]
          exact vk_recv C.2.2.2.2.2.2.1.2.2.2.2.2.2.1 (i := 0) (by decide) hr.2.2.1
        · split at hrc
          · rename_i ci z ho
            simp only [Bool.and_eq_true, decide_eq_true_eq] at hrc
            obtain ⟨rfl, hci⟩ := hrc
            obtain ⟨-, hwo⟩ := n_obj (G := G) hr.2.2.2.2.2.2 ho hci
            have ho9 : mm.1.length ≤ 900 := Nat.le_trans hle.1 h1
            rw [n_R_lt ho ho9, g_y_cls]
            exact va_recv C.2.2.2.2.2.1 hr.2.1 (q_cl_at hci) hwo
          · cases hrc
      have hstk : (F0 m pc lsA (st.map (n_v G))).stack = (As.map (n_v G)).reverse ++ .ref (n_a G o) :: (st.drop n).map (n_v G) := by
        show st.map (n_v G) = _
        conv => lhs; rw [hst]
        simp [List.map_append, List.map_reverse, n_v]
      have hsig : ∀ sig, parseMethodDescriptor (g_y c').desc = some sig → (g_k c').1 - 1 = sig.parameters.length := by
        intro sig hsig
        rw [hsig, if_neg (by omega)] at f9
        exact (Option.some.inj f9).symm
      have hP := n_pre C hr (as := .ref o :: As) (v := (Value.ref (n_a G o) :: As.map (n_v G)).toArray) rfl
      unfold k_mw at hw
      split at hw
      · exact n_back hr hle rfl rfl (va_runV (C := (g_y c').cls) (bytes := g_b c') (maxL := g_mx c') (ret := g_ret c') (n := (g_k c').1 - 1) (rest := (st.drop n).map (n_v G)) hSX hMet ⟨⟨rfl, rfl, hRf, hrm hc, n_words C hc, List.mem_cons_self, n_good C ⟨f1, Or.inl rfl⟩, n_good C ⟨f2, Or.inl rfl⟩, f8, hsig, hw⟩, n_good C ⟨f4a, Or.inl rfl⟩, n_good C ⟨f4b, Or.inl rfl⟩⟩ ⟨n_blind, hrecv, hP⟩ rfl (by rw [List.length_map]; exact hAn) hsz hstk (lv_room hrest) (by rw [hl] at hd; exact hd) hcells) (kk' hl)
      · exact n_back hr hle rfl rfl (va_runVN (C := (g_y c').cls) (host := hh) (bytes := g_b c') (maxL := g_mx c') (ret := g_ret c') (n := (g_k c').1 - 1) (rest := (st.drop n).map (n_v G)) hSX hMet ⟨⟨⟨rfl, rfl, hRf, hrm hc, n_words C hc, List.mem_cons_self⟩, n_good C ⟨f1, Or.inl rfl⟩, n_good C ⟨f2, Or.inl rfl⟩, f8, hsig, hw⟩, n_good C ⟨f4a, Or.inl rfl⟩, n_good C ⟨f4b, Or.inl rfl⟩⟩ ⟨n_blind, hrecv, hP⟩ rfl (by rw [List.length_map]; exact hAn) hsz hstk (lv_room hrest) (by rw [hl] at hd; exact hd) hcells) (kk' hl)
    · cases hrc
  · -- static
    rename_i x
    simp only [Bool.and_eq_true, decide_eq_true_eq] at hk
    obtain ⟨⟨⟨hl, hkm⟩, hkd⟩, hna⟩ := hk
    obtain ⟨hc, hh, hw⟩ := hlk x hkm
    obtain ⟨hrc, hMet⟩ := hM c' as mm r1 m2 hc hs h1 h4
    obtain ⟨f1, f2, f3, -, -, f6, -, f8, f9, f10⟩ := k_me_facts hc
    have f3 := f3 hkd
    simp only [e_rc, hkd, Bool.and_eq_true, decide_eq_true_eq] at hrc
    have hal := hrc.1
    have hstk : (F0 m pc lsA (st.map (n_v G))).stack = (as.map (n_v G)).reverse ++ (st.drop n).map (n_v G) := by
      show st.map (n_v G) = _
      conv => lhs; rw [hst]
      simp [List.map_append, List.map_reverse]
    have hsig : ∀ sig, parseMethodDescriptor (g_y c').desc = some sig → (g_k c').1 = sig.parameters.length := by
      intro sig hsig
      rw [hsig, if_pos hkd] at f9
      exact (Option.some.inj f9).symm
    have hP := n_pre C hr (as := as) (v := (as.map (n_v G)).toArray) rfl
    unfold k_mw at hw
    split at hw
    · exact n_back hr hle rfl rfl (va_runS (bytes := g_b c') (maxL := g_mx c') (ret := g_ret c') (n := (g_k c').1) (rest := (st.drop n).map (n_v G)) hSX hMet ⟨⟨rfl, rfl, hRf, hrm hc, n_words C hc, List.mem_cons_self, n_good C ⟨f1, Or.inl rfl⟩, n_good C ⟨f2, Or.inl rfl⟩, f8, hsig, hw⟩, n_good C ⟨f3, Or.inl rfl⟩⟩ ⟨n_blind, hP⟩ rfl (by rw [List.length_map]; exact hal) hsz hstk (lv_room hrest) (by rw [hl] at hd; exact hd) hcells) (kk' hl)
    · exact n_back hr hle rfl rfl (va_runSN (host := hh) (bytes := g_b c') (maxL := g_mx c') (ret := g_ret c') (n := (g_k c').1) (rest := (st.drop n).map (n_v G)) hSX hMet ⟨⟨⟨rfl, rfl, hRf, hrm hc, n_words C hc, List.mem_cons_self⟩, n_good C ⟨f1, Or.inl rfl⟩, n_good C ⟨f2, Or.inl rfl⟩, f8, hsig, hw⟩, n_good C ⟨f3, Or.inl rfl⟩, trivial⟩ ⟨n_blind, hP⟩ rfl (by rw [List.length_map]; exact hal) hsz hstk (lv_room hrest) (by rw [hl] at hd; exact hd) hcells) (kk' hl)
  · -- a constructor
    rename_i x
    simp only [Bool.and_eq_true, decide_eq_true_eq] at hk
    obtain ⟨⟨⟨hl, hkm⟩, hkd⟩, hna⟩ := hk
    obtain ⟨hc, hh, hw⟩ := hlk x hkm
    obtain ⟨hrc, hMet⟩ := hM c' as mm r1 m2 hc hs h1 h4
    obtain ⟨f1, f2, -, -, f5, f6, -, f8, f9, f10⟩ := k_me_facts hc
    obtain ⟨f5a, f5b, f5c⟩ := f5 hkd
    simp only [e_rc, hkd, Bool.and_eq_true, decide_eq_true_eq] at hrc
    obtain ⟨hal, hrc⟩ := hrc
    split at hrc
    · rename_i o As
      have hAn : As.length = (g_k c').1 - 1 := by
        rw [List.length_cons] at hal
        omega
      have hstk : (F0 m pc lsA (st.map (n_v G))).stack = (As.map (n_v G)).reverse ++ .ref (n_a G o) :: (st.drop n).map (n_v G) := by
        show st.map (n_v G) = _
        conv => lhs; rw [hst]
        simp [List.map_append, List.map_reverse, n_v]
      have hsig : ∀ sig, parseMethodDescriptor (g_y c').desc = some sig → (g_k c').1 - 1 = sig.parameters.length := by
        intro sig hsig
        rw [hsig, if_neg (by omega)] at f9
        exact (Option.some.inj f9).symm
      have hP := n_pre C hr (as := .ref o :: As) (v := (Value.ref (n_a G o) :: As.map (n_v G)).toArray) rfl
      have hcd : (Jvm.Cond.code (g_y c') (g_b c') (g_mx c') none) ∈ lw_tbl := by rw [← f5c]; exact f1
      have hcm : (Jvm.Cond.code (g_y c') (g_b c') (g_mx c') none) ∈ g_w c' := by
        unfold g_w
        rw [f5c]
        exact List.mem_cons_self
      unfold k_mw at hw
      split at hw
      · exact n_back hr hle rfl rfl (va_runI (bytes := g_b c') (maxL := g_mx c') (n := (g_k c').1 - 1) (rest := (st.drop n).map (n_v G)) hSX hMet ⟨⟨rfl, rfl, hRf, hrm hc, n_words C hc, hcm, n_good C ⟨hcd, Or.inl rfl⟩, n_good C ⟨f2, Or.inl rfl⟩, f8, hsig, hw⟩, f5b, n_good C ⟨f5a, Or.inl rfl⟩⟩ ⟨n_blind, hP⟩ rfl (by rw [List.length_map]; exact hAn) hsz hstk (lv_room hrest) (by rw [hl] at hd; exact hd) hcells) (kk' hl)
      · exact n_back hr hle rfl rfl (va_runIN (host := hh) (bytes := g_b c') (maxL := g_mx c') (n := (g_k c').1 - 1) (rest := (st.drop n).map (n_v G)) hSX hMet ⟨⟨⟨rfl, rfl, hRf, hrm hc, n_words C hc, hcm⟩, n_good C ⟨hcd, Or.inl rfl⟩, n_good C ⟨f2, Or.inl rfl⟩, f8, hsig, hw⟩, f5b, n_good C ⟨f5a, Or.inl rfl⟩⟩ ⟨n_blind, hP⟩ rfl (by rw [List.length_map]; exact hAn) hsz hstk (lv_room hrest) (by rw [hl] at hd; exact hd) hcells) (kk' hl)
    · cases hrc
  · cases hk
end
end
section
/-! BLOCKS AND METHODS, as the evaluator runs them -/
theorem n_sw_look {J : Nat → e_R} {x : Int32} (pc : Nat) (d : Int) : ∀ (ps : List (Int × Int)), e_sw J ((pc : Int) + d) (ps.map fun q => (q.1, (pc : Int) + q.2)) x = J ((pc : Int) + Op.lookupswitch.offset ps d x.toInt).toNat
  | [] => rfl
  | (a, o) :: ps => by
    show (if x.toInt = a then J ((pc : Int) + o).toNat else e_sw J _ _ x) = _
    by_cases h : x.toInt = a
    · rw [if_pos h]
      simp [Op.lookupswitch.offset, h]
    · rw [if_neg h]
      have e : Op.lookupswitch.offset ((a, o) :: ps) d x.toInt = Op.lookupswitch.offset ps d x.toInt := by
        have h' : ¬ a = x.toInt := fun q => h q.symm
        simp [Op.lookupswitch.offset, h, h']
      rw [e]
      exact n_sw_look pc d ps
theorem n_sw_tab {J : Nat → e_R} {x : Int32} (pc : Nat) (D : Int) : ∀ (offs : List Int) (lo : Int), e_sw J D (offs.mapIdx fun j o => (lo + j, (pc : Int) + o)) x = if x.toInt < lo ∨ lo + offs.length ≤ x.toInt then J D.toNat else J ((pc : Int) + offs.getD (x.toInt - lo).toNat 0).toNat
  | [], lo => by
    rw [if_pos (by simp; omega)]
    rfl
  | o :: offs, lo => by
    rw [List.mapIdx_cons]
    have ih := n_sw_tab (J := J) (x := x) pc D offs (lo + 1)
    have ef : (fun (j : Nat) (o : Int) => (lo + 1 + (j : Int), (pc : Int) + o)) = fun j o => (lo + ((j + 1 : Nat) : Int), (pc : Int) + o) := by
      funext j o
      congr 1
      omega
    rw [ef] at ih
    show (if x.toInt = lo + ((0 : Nat) : Int) then J ((pc : Int) + o).toNat else e_sw J D (offs.mapIdx fun (i : Nat) (o : Int) => (lo + ((i + 1 : Nat) : Int), (pc : Int) + o)) x) = _
    rw [ih]
    by_cases h : x.toInt = lo
    · rw [if_pos (by omega), if_neg (by simp only [List.length_cons]; omega), h, Int.sub_self]
      rfl
    · rw [if_neg (by omega)]
      by_cases h2 : x.toInt < lo ∨ lo + 1 + (offs.length : Int) ≤ x.toInt
      · rw [if_pos (by omega), if_pos (by simp only [List.length_cons]; omega)]
      · rw [if_neg (by omega), if_neg (by simp only [List.length_cons]; omega)]
        have e : (x.toInt - lo).toNat = (x.toInt - (lo + 1)).toNat + 1 := by omega
        rw [e, List.getD_cons_succ]
theorem k_chk_cons {c pc : Nat} {b : ByteArray} {r0 : Instr} {rs : List Instr} (hj : ∀ t, r0 ≠ .jsr t) (h : k_chk c b pc (r0 :: rs) = true) : ∃ i len, decode b pc = .ok (i, len) ∧ k_ok c pc len i r0 = true ∧ k_chk c b (pc + len) rs = true := by
  unfold k_chk at h
  split at h
  · exact absurd rfl (hj _)
  · split at h
    · rename_i i len hd
      rw [Bool.and_eq_true] at h
      exact ⟨i, len, hd, h.1, h.2⟩
    · cases h
section
variable {G : n_G} {X : e_X} {p : Program} {l : Launch} {e : Env} {R : Room} {s : State} {m : MethodId} {args : Array Value} {below : List Frame} {meth : Method} {c : Code} {g nL k0 s0 d : Nat} {S : Nat → List Value → e_M → e_R} {Q : State → Prop}
theorem n_plain (C : n_C G X p R s m args meth c g nL) (r : Instr) : n_Q G X p l e R s m args below meth c g nL k0 s0 r := by
  cases r <;> first
    | exact n_iload C | exact n_aload C | exact n_getfield C | exact n_getref C | exact n_sipush C | exact n_istore C | exact n_putfield C
    | exact n_iaload C | exact n_iastore C | exact n_iadd C | exact n_isub C | exact n_imul C | exact n_iand C | exact n_ior C | exact n_ixor C | exact n_ishl C | exact n_ishr C | exact n_iushr C
    | exact n_idiv C | exact n_irem C | exact n_ineg C | exact n_i2b C | exact n_i2s C | exact n_i2c C | exact n_ladd C | exact n_lsub C | exact n_land C | exact n_lor C | exact n_lxor C
    | exact n_lshl C | exact n_lshr C | exact n_lushr C | exact n_lcmp C | exact n_i2l C | exact n_l2i C | exact n_dup C | exact n_pop C | exact n_dup_x1 C | exact n_dup2 C | exact n_lconst C
    | exact n_lload C | exact n_astore C | exact n_lstore C | exact n_iinc C | exact n_dadd C | exact n_dsub C | exact n_dneg C | exact n_pop2 C | exact n_putref C
    | exact n_caload C | exact n_laload C | exact n_aaload C | exact n_alen C | exact n_castore C | exact n_lastore C | exact n_aastore C | exact n_new C | exact n_newarr C | exact n_anew C
    | exact n_getstatic C | exact n_faload C | exact n_fadd C | exact n_daload C | exact n_fsub C | exact n_baload C | exact n_fmul C | exact n_fload C | exact n_copy C
    | (intro i pc len mm mm' ls ls' st st' H locs lsA cells slots Q hd hk he; cases he; done)
theorem n_blk (C : n_C G X p R s m args meth c g nL) (hM : n_M l G X d S) (hRf : d + 2 ≤ R.frames) (hRl : 8 + (20 + 11) + 100 * (d + 1) ≤ R.locals) {J : Nat → List Value → List Value → e_M → e_R} (hSz : ∀ c as m r m', S c as m = some (r, m') → n_le m m') (hJz : ∀ t a b m r m', J t a b m = some (r, m') → n_le m m')
    {r : List Value} {mf : e_M} (h1 : mf.1.length ≤ 900) (h2 : mf.1.length ≤ R.cells + k0) (h3 : n_z mf ≤ R.slots + s0) (h4 : n_z mf ≤ 100000)
    (hJ : ∀ (t : Nat) (ls' st' : List Value) (mm' : e_M) (H' : Heap) (locs' : List Loc) (lsA' : Array Slot) (cells' slots' : Nat), J t ls' st' mm' = some (r, mf) → n_R G s k0 s0 nL mm' ls' H' locs' lsA' cells' slots' → W p l e R s m args below meth c H' locs' cells' slots' Q (F0 m t lsA' (st'.map (n_v G))))
    (hT : ∀ (pc' : Nat) (i ri : Instr) (H' : Heap) (locs' : List Loc) (lsA' : Array Slot) (ls' : List Value) (cells' slots' : Nat), decode (g_b g) pc' = .ok (i, 1) → ((i = .ireturn ∧ ∃ v ty, r = [.int v] ∧ g_ret g = some ty ∧ narrow ty (.int v) = .int v) ∨ (i = .lreturn ∧ (∃ v, r = [.long v]) ∧ g_ret g = some .long) ∨ (i = .return_ ∧ r = [] ∧ g_ret g = none)) → n_R G s k0 s0 nL mf ls' H' locs' lsA' cells' slots' → W p l e R s m args below meth c H' locs' cells' slots' Q (F0 m pc' lsA' (r.map (n_v G)))) :
    ∀ (is : List Instr) (pc : Nat) (mm : e_M) (ls st : List Value) (H : Heap) (locs : List Loc) (lsA : Array Slot) (cells slots : Nat), e_x X S J is ls st mm = some (r, mf) → k_chk g (g_b g) pc is = true → n_R G s k0 s0 nL mm ls H locs lsA cells slots → W p l e R s m args below meth c H locs cells slots Q (F0 m pc lsA (st.map (n_v G))) := by
  intro is
  induction is with
  | nil => intro pc mm ls st H locs lsA cells slots he; simp [e_x] at he
  | cons i0 is ih =>
    intro pc mm ls st H locs lsA cells slots he hc hr
    unfold e_x at he
    split at he
    · -- goto
      obtain ⟨i, len, hd, hk, hc'⟩ := k_chk_cons (fun t => by simp) hc
      simp only [k_ok] at hk
      split at hk
      · simp only [Bool.and_eq_true, decide_eq_true_eq] at hk
        obtain ⟨⟨rfl, ht⟩, h0⟩ := hk
        exact lv_goto C.1 C.2.1 hd (by rw [ht, Int.toNat_of_nonneg h0]) (hJ _ _ _ _ _ _ _ _ _ he hr)
      · cases hk
    · -- falling through
      unfold k_chk at hc
      simp only [decide_eq_true_eq] at hc
      rw [← hc, Int.toNat_natCast] at he
      exact hJ _ _ _ _ _ _ _ _ _ he hr
    · -- ifCond
      obtain ⟨i, len, hd, hk, hc'⟩ := k_chk_cons (fun t => by simp) hc
      rename_i k t
      split at he
      · rename_i x r0
        simp only [k_ok] at hk
        split at hk
        · rename_i k' off
          simp only [Bool.and_eq_true, decide_eq_true_eq] at hk
          obtain ⟨⟨⟨rfl, hkk⟩, ht⟩, h0⟩ := hk
          rw [hkk] at hd
          have ht' : (pc : Int) + off = (t.toNat : Int) := by rw [ht, Int.toNat_of_nonneg h0]
          have yes : e_c k x 0 = true → W p l e R s m args below meth c H locs cells slots Q (F0 m t.toNat lsA (List.map (n_v G) r0)) := fun h => by
            rw [if_pos h] at he
            exact hJ _ _ _ _ _ _ _ _ _ he hr
          have no : ¬ e_c k x 0 = true → W p l e R s m args below meth c H locs cells slots Q (F0 m (pc + 3) lsA (List.map (n_v G) r0)) := fun h => by
            rw [if_neg h] at he
            exact ih _ _ _ _ _ _ _ _ _ he hc' hr
          cases k
          · exact lv_if_eq C.1 C.2.1 hd ht' (fun h => yes (decide_eq_true h)) (fun h => no (by rw [e_c, decide_eq_true_eq]; exact h))
          · exact lv_if_ne C.1 C.2.1 hd ht' (fun h => yes (decide_eq_true h)) (fun h => no (by rw [e_c, decide_eq_true_eq]; exact not_not_intro h))
          · exact lv_if_lt C.1 C.2.1 hd ht' (fun h => yes (decide_eq_true h)) (fun h => no (by rw [e_c, decide_eq_true_eq]; exact h))
          · exact lv_if_ge C.1 C.2.1 hd ht' (fun h => yes (decide_eq_true h)) (fun h => no (by rw [e_c, decide_eq_true_eq]; exact h))
          · exact lv_if_gt C.1 C.2.1 hd ht' (fun h => yes (decide_eq_true h)) (fun h => no (by rw [e_c, decide_eq_true_eq]; exact h))
          · exact lv_if_le C.1 C.2.1 hd ht' (fun h => yes (decide_eq_true h)) (fun h => no (by rw [e_c, decide_eq_true_eq]; exact h))
        · cases hk
      · cases he
    · -- if_icmp
      obtain ⟨i, len, hd, hk, hc'⟩ := k_chk_cons (fun t => by simp) hc
      rename_i k t
      split at he
      · rename_i y x r0
        simp only [k_ok] at hk
        split at hk
        · rename_i k' off
          simp only [Bool.and_eq_true, decide_eq_true_eq] at hk
          obtain ⟨⟨⟨rfl, hkk⟩, ht⟩, h0⟩ := hk
          rw [hkk] at hd
          have ht' : (pc : Int) + off = (t.toNat : Int) := by rw [ht, Int.toNat_of_nonneg h0]
          have yes : e_c k x y = true → W p l e R s m args below meth c H locs cells slots Q (F0 m t.toNat lsA (List.map (n_v G) r0)) := fun h => by
            rw [if_pos h] at he
            exact hJ _ _ _ _ _ _ _ _ _ he hr
          have no : ¬ e_c k x y = true → W p l e R s m args below meth c H locs cells slots Q (F0 m (pc + 3) lsA (List.map (n_v G) r0)) := fun h => by
            rw [if_neg h] at he
            exact ih _ _ _ _ _ _ _ _ _ he hc' hr
          cases k
          · exact lv_icmp_eq C.1 C.2.1 hd ht' (fun h => yes (decide_eq_true h)) (fun h => no (by rw [e_c, decide_eq_true_eq]; exact h))
          · exact lv_icmp_ne C.1 C.2.1 hd ht' (fun h => yes (decide_eq_true h)) (fun h => no (by rw [e_c, decide_eq_true_eq]; exact not_not_intro h))
          · exact lv_icmp_lt C.1 C.2.1 hd ht' (fun h => yes (decide_eq_true h)) (fun h => no (by rw [e_c, decide_eq_true_eq]; exact h))
          · exact lv_icmp_ge C.1 C.2.1 hd ht' (fun h => yes (decide_eq_true h)) (fun h => no (by rw [e_c, decide_eq_true_eq]; exact h))
          · exact lv_icmp_gt C.1 C.2.1 hd ht' (fun h => yes (decide_eq_true h)) (fun h => no (by rw [e_c, decide_eq_true_eq]; exact h))
          · exact lv_icmp_le C.1 C.2.1 hd ht' (fun h => yes (decide_eq_true h)) (fun h => no (by rw [e_c, decide_eq_true_eq]; exact h))
        · cases hk
      · cases he
    · -- switches
      obtain ⟨i, len, hd, hk, hc'⟩ := k_chk_cons (fun t => by simp) hc
      split at he
      · rename_i x r0
        simp only [k_ok] at hk
        split at hk
        · rename_i e0 lo hi offs
          simp only [Bool.and_eq_true, decide_eq_true_eq, List.all_eq_true] at hk
          obtain ⟨⟨⟨⟨hd0, hd1⟩, hps⟩, hhi⟩, hall⟩ := hk
          rw [hps, ← hd0, n_sw_tab] at he
          have hsz : (offs.size : Int) = (offs.toList.length : Int) := by rw [Array.length_toList]
          by_cases hx : x.toInt < lo ∨ lo + (offs.toList.length : Int) ≤ x.toInt
          · rw [if_pos hx] at he
            exact lv_tableOut C.1 C.2.1 hd (by omega) (by rw [hd0, Int.toNat_of_nonneg hd1]) (by rw [hd0] at he; exact hJ _ _ _ _ _ _ _ _ _ he hr)
          · rw [if_neg hx] at he
            have hlt : (x.toInt - lo).toNat < offs.toList.length := by omega
            have ho : offs[(x.toInt - lo).toNat]? = some (offs.toList.getD (x.toInt - lo).toNat 0) := by
              rw [← Array.getElem?_toList, List.getD_eq_getElem?_getD, List.getElem?_eq_getElem hlt]
              rfl
            have h0 : 0 ≤ (pc : Int) + offs.toList.getD (x.toInt - lo).toNat 0 := by
              have hm : ((lo + ((x.toInt - lo).toNat : Int)), (pc : Int) + offs.toList.getD (x.toInt - lo).toNat 0) ∈ (offs.toList.mapIdx fun (j : Nat) (o : Int) => (lo + (j : Int), (pc : Int) + o)) := by
                refine List.mem_of_getElem? (i := (x.toInt - lo).toNat) ?_
                rw [List.getElem?_mapIdx, List.getD_eq_getElem?_getD, List.getElem?_eq_getElem hlt]
                rfl
              rw [← hps] at hm
              exact hall _ hm
            exact lv_tableIn C.1 C.2.1 hd (by omega) (by omega) ho (by rw [Int.toNat_of_nonneg h0]) (hJ _ _ _ _ _ _ _ _ _ he hr)
        · rename_i e0 qs
          simp only [Bool.and_eq_true, decide_eq_true_eq, List.all_eq_true (p := fun q : Int × Int => decide (0 ≤ q.2))] at hk
          obtain ⟨⟨⟨⟨hd0, hd1⟩, hps⟩, hall⟩, hso⟩ := hk
          rw [hps, ← hd0, n_sw_look] at he
          have h0 : 0 ≤ (pc : Int) + Op.lookupswitch.offset qs.toList e0 x.toInt := by
            rw [hps] at hall
            clear hps he hso hd
            generalize qs.toList = ql at hall
            induction ql with
            | nil => show 0 ≤ (pc : Int) + e0; omega
            | cons q ql ih2 =>
              obtain ⟨a, o⟩ := q
              by_cases h : x.toInt = a
              · have := hall (a, (pc : Int) + o) (by simp)
                simp [Op.lookupswitch.offset, h]
                simpa using this
              · have h' : ¬ a = x.toInt := fun q => h q.symm
                have e1 : Op.lookupswitch.offset ((a, o) :: ql) e0 x.toInt = Op.lookupswitch.offset ql e0 x.toInt := by simp [Op.lookupswitch.offset, h, h']
                rw [e1]
                exact ih2 fun z hz => hall z (by rw [List.map_cons]; exact List.mem_cons_of_mem _ hz)
          exact lv_lookup C.1 C.2.1 hd hso rfl (by rw [Int.toNat_of_nonneg h0]) (hJ _ _ _ _ _ _ _ _ _ he hr)
        · cases hk
      · cases he
    · -- ireturn
      obtain ⟨i, len, hd, hk, hc'⟩ := k_chk_cons (fun t => by simp) hc
      split at he
      · rename_i x
        cases he
        simp only [k_ok, Bool.and_eq_true, decide_eq_true_eq] at hk
        obtain ⟨⟨rfl, rfl⟩, hg⟩ := hk
        exact hT pc _ .ireturn _ _ _ _ _ _ hd (Or.inl ⟨rfl, x, .int, rfl, hg, rfl⟩) hr
      · cases he
    · -- a boolean
      obtain ⟨i, len, hd, hk, hc'⟩ := k_chk_cons (fun t => by simp) hc
      split at he
      · rename_i x
        split at he
        · rename_i hx
          cases he
          simp only [k_ok, Bool.and_eq_true, decide_eq_true_eq] at hk
          obtain ⟨⟨rfl, rfl⟩, hg⟩ := hk
          refine hT pc _ .ireturn _ _ _ _ _ _ hd (Or.inl ⟨rfl, x, .boolean, rfl, hg, ?_⟩) hr
          simp only [Bool.or_eq_true, decide_eq_true_eq] at hx
          rcases hx with rfl | rfl <;> rfl
        · cases he
      · cases he
    · -- a char
      obtain ⟨i, len, hd, hk, hc'⟩ := k_chk_cons (fun t => by simp) hc
      split at he
      · rename_i x
        split at he
        · rename_i hx
          cases he
          simp only [k_ok, Bool.and_eq_true, decide_eq_true_eq] at hk
          obtain ⟨⟨rfl, rfl⟩, hg⟩ := hk
          refine hT pc _ .ireturn _ _ _ _ _ _ hd (Or.inl ⟨rfl, _, .char, rfl, hg, ?_⟩) hr
          have := pk_nc x
          rw [hx] at this
          exact this
        · cases he
      · cases he
    · -- a byte
      obtain ⟨i, len, hd, hk, hc'⟩ := k_chk_cons (fun t => by simp) hc
      split at he
      · rename_i x
        split at he
        · rename_i hx
          cases he
          simp only [k_ok, Bool.and_eq_true, decide_eq_true_eq] at hk
          obtain ⟨⟨rfl, rfl⟩, hg⟩ := hk
          refine hT pc _ .ireturn _ _ _ _ _ _ hd (Or.inl ⟨rfl, _, .byte, rfl, hg, ?_⟩) hr
          have := pk_nb x
          rw [hx] at this
          exact this
        · cases he
      · cases he
    · -- lreturn
      obtain ⟨i, len, hd, hk, hc'⟩ := k_chk_cons (fun t => by simp) hc
      split at he
      · rename_i x
        cases he
        simp only [k_ok, Bool.and_eq_true, decide_eq_true_eq] at hk
        obtain ⟨⟨rfl, rfl⟩, hg⟩ := hk
        exact hT pc _ .lreturn _ _ _ _ _ _ hd (Or.inr (Or.inl ⟨rfl, ⟨x, rfl⟩, hg⟩)) hr
      · cases he
    · -- return
      obtain ⟨i, len, hd, hk, hc'⟩ := k_chk_cons (fun t => by simp) hc
      split at he
      · cases he
        simp only [k_ok, Bool.and_eq_true, decide_eq_true_eq] at hk
        obtain ⟨⟨rfl, rfl⟩, hg⟩ := hk
        exact hT pc _ .return_ _ _ _ _ _ _ hd (Or.inr (Or.inr ⟨rfl, rfl, hg⟩)) hr
      · cases he
    · -- a call
      rename_i c' n
      obtain ⟨i, len, hd, hk, hc'⟩ := k_chk_cons (fun t => by simp) hc
      split at he
      · rename_i hlo
        rw [Bool.and_eq_true] at hlo
        split at he
        · rename_i r1 m2 hs
          have hle2 := e_x_sz hSz hJz _ _ _ _ _ _ he
          have b1 := hle2.1
          have b2 := hle2.2
          exact n_call C hM hRf hRl hd hk hlo.2 hs hr (hSz _ _ _ _ _ hs) (by omega) (by omega) (by omega) (by omega) fun H' locs' cells' slots' hr' => ih _ _ _ _ _ _ _ _ _ he hc' hr'
        · cases he
      · cases he
    · -- a plain one
      rename_i n1 n1b n2 n3 n4 n5 n5a n5b n5c n6 n7 n8
      obtain ⟨i, len, hd, hk, hc'⟩ := k_chk_cons (fun t q => n1b t q) hc
      split at he
      · rename_i ls' st' m' hs
        have hle2 := e_x_sz hSz hJz _ _ _ _ _ _ he
        have b1 := hle2.1
        have b2 := hle2.2
        exact n_plain C i0 i pc len mm m' ls ls' st st' H locs lsA cells slots Q hd hk hs hr (by omega) (by omega) (by omega) (by omega) fun H' locs' lsA' cells' slots' hr' => ih _ _ _ _ _ _ _ _ _ he hc' hr'
      · cases he
end
end
section
/-! METHODS: the evaluator's answers, met -/
/-- the receiver fits, the arguments too -/
def e_rq (c : Nat) (as : List Value) (m : e_M) : Bool := e_rc c as m && decide ((e_ent (g_mx c) as).length = g_mx c)
theorem n_lookup {l : Nat} {is : List Instr} : ∀ {bs : List (Nat × List Instr)}, bs.lookup l = some is → (l, is) ∈ bs
  | [], h => by cases h
  | (a, b) :: bs, h => by
    rw [List.lookup_cons] at h
    split at h
    · rename_i q
      cases h
      rw [beq_iff_eq.mp q]
      exact List.mem_cons_self
    · exact List.mem_cons_of_mem _ (n_lookup h)
theorem k_chk_P {g : Nat} (hg : g < 309) (lab : Nat) : k_chk g (g_b g) lab (g_P g lab) = true := by
  have h := k_code_all g hg
  unfold k_code at h
  unfold g_P
  cases hq : (g_pr.getD g []).lookup lab with
  | none => simp [k_chk]
  | some is => exact List.all_eq_true.mp h _ (n_lookup hq)
theorem n_ent_sl (G : n_G) (hG : G.2.2.2.category = 1) : ∀ as : List Value, (lg_sl (as.map (n_v G))).length = (as.flatMap fun v => if v.category = 2 then [v, Value.retAddr 0] else [v]).length := by
  intro as
  induction as with
  | nil => rfl
  | cons v as ih =>
    have hc : (n_v G v).category = v.category := by
      cases v <;> first | rfl | exact hG
    have e1 : lg_sl ((v :: as).map (n_v G)) = (if (n_v G v).category = 2 then [Slot.val (n_v G v), .second] else [.val (n_v G v)]) ++ lg_sl (as.map (n_v G)) := rfl
    rw [e1, List.flatMap_cons, List.length_append, List.length_append, ih, hc]
    by_cases h : v.category = 2
    · rw [if_pos h, if_pos h]; rfl
    · rw [if_neg h, if_neg h]; rfl
theorem n_ent_args (G : n_G) (hG : G.2.2.2.category = 1) : ∀ (as : List Value) (n i : Nat) (v : Value), ((as.flatMap fun v => if v.category = 2 then [v, Value.retAddr 0] else [v]) ++ List.replicate n (Value.retAddr 0))[i]? = some v → e_u v = false → ∀ j, (j + i, n_v G v) ∈ lv_args j (as.map (n_v G)) := by
  intro as
  induction as with
  | nil =>
    intro n i v h hu
    rw [List.flatMap_nil, List.nil_append] at h
    have := List.eq_of_mem_replicate (List.mem_of_getElem? h)
    rw [this] at hu
    cases hu
  | cons w as ih =>
    intro n i v h hu j
    have hc : (n_v G w).category = w.category := by
      cases w <;> first | rfl | exact hG
    rw [List.map_cons, lv_args, hc]
    rw [List.flatMap_cons] at h
    by_cases h2 : w.category = 2
    · rw [if_pos h2] at h
      rw [if_pos h2]
      match i, h with
      | 0, h =>
        cases h
        exact List.mem_cons_self
      | 1, h =>
        cases h
        cases hu
      | i + 2, h =>
        have := ih n i v h hu (j + 2)
        rw [show j + 2 + i = j + (i + 2) by omega] at this
        exact List.mem_cons_of_mem _ this
    · rw [if_neg h2] at h
      rw [if_neg h2]
      match i, h with
      | 0, h =>
        cases h
        exact List.mem_cons_self
      | i + 1, h =>
        have := ih n i v h hu (j + 1)
        rw [show j + 1 + i = j + (i + 1) by omega] at this
        exact List.mem_cons_of_mem _ this
theorem n_ent (G : n_G) (hG : G.2.2.2.category = 1) {as : List Value} {nL : Nat} (h : (e_ent nL as).length = nL) : n_L G nL (e_ent nL as) ((lg_sl (as.map (n_v G)) ++ List.replicate (nL - (lg_sl (as.map (n_v G))).length) Slot.unset).toArray) := by
  have hs := n_ent_sl G hG as
  have hl : (lg_sl (as.map (n_v G))).length ≤ nL := by
    rw [hs]
    unfold e_ent at h
    rw [List.length_append, List.length_replicate] at h
    omega
  obtain ⟨h1, h2, h3⟩ := lv_entry (as.map (n_v G)) hl
  refine ⟨h, h1, h2, fun i v hi hu => ?_⟩
  have := n_ent_args G hG as _ i v hi hu 0
  rw [Nat.zero_add] at this
  exact h3 _ this
section
variable {G : n_G} {X : e_X} {p : Program} {l : Launch} {e : Env} {R : Room} {s : State} {m : MethodId} {args : Array Value} {below : List Frame} {meth : Method} {c : Code} {g nL k0 s0 d : Nat} {Q : State → Prop}
theorem n_run (C : n_C G X p R s m args meth c g nL) (hg : g < 309) (hM : n_M l G X d (e_S g_P g_mx e_rq X d)) (hRf : d + 2 ≤ R.frames) (hRl : 8 + (20 + 11) + 100 * (d + 1) ≤ R.locals)
    {r : List Value} {mf : e_M} (h1 : mf.1.length ≤ 900) (h2 : mf.1.length ≤ R.cells + k0) (h3 : n_z mf ≤ R.slots + s0) (h4 : n_z mf ≤ 100000)
    (hT : ∀ (pc' : Nat) (i ri : Instr) (H' : Heap) (locs' : List Loc) (lsA' : Array Slot) (ls' : List Value) (cells' slots' : Nat), decode (g_b g) pc' = .ok (i, 1) → ((i = .ireturn ∧ ∃ v ty, r = [.int v] ∧ g_ret g = some ty ∧ narrow ty (.int v) = .int v) ∨ (i = .lreturn ∧ (∃ v, r = [.long v]) ∧ g_ret g = some .long) ∨ (i = .return_ ∧ r = [] ∧ g_ret g = none)) → n_R G s k0 s0 nL mf ls' H' locs' lsA' cells' slots' → W p l e R s m args below meth c H' locs' cells' slots' Q (F0 m pc' lsA' (r.map (n_v G)))) :
    ∀ (n lab : Nat) (mm : e_M) (ls st : List Value) (H : Heap) (locs : List Loc) (lsA : Array Slot) (cells slots : Nat), e_run g_P X (e_S g_P g_mx e_rq X d) g n lab ls st mm = some (r, mf) → n_R G s k0 s0 nL mm ls H locs lsA cells slots → W p l e R s m args below meth c H locs cells slots Q (F0 m lab lsA (st.map (n_v G))) := by
  intro n
  induction n with
  | zero => intro lab mm ls st H locs lsA cells slots he; cases he
  | succ n ih =>
    intro lab mm ls st H locs lsA cells slots he hr
    unfold e_run at he
    have hSz : ∀ c as m r m', e_S g_P g_mx e_rq X d c as m = some (r, m') → n_le m m' := fun c as m r m' h => e_S_sz d c as m r m' h
    exact n_blk C hM hRf hRl hSz (fun t a b m r m' h => e_run_sz hSz n t a b m r m' h) h1 h2 h3 h4 (fun t ls' st' mm' H' locs' lsA' cells' slots' hj hr' => ih t mm' ls' st' H' locs' lsA' cells' slots' hj hr') hT _ lab mm ls st H locs lsA cells slots he (k_chk_P hg lab) hr
end
theorem n_R_start {G : n_G} {s : State} {nL : Nat} {m1 : e_M} {ls : List Value} {lsA : Array Slot} (hsz : s.heap.size = n_b G + m1.1.length) (hP : va_P G.1 q_cl (n_w G m1) s.heap) (hL : n_L G nL ls lsA) (hok : n_ok m1) : n_R G s m1.1.length (n_z m1) nL m1 ls s.heap [] lsA 0 0 :=
  ⟨hsz, hP, va_S.rf, hL, Nat.zero_add _, Nat.zero_add _, hok⟩
/-- every method, at every depth -/
theorem n_meth (l : Launch) (G : n_G) (X : e_X) (hG : G.2.2.2.category = 1) : ∀ d, n_M l G X d (e_S g_P g_mx e_rq X d) := by
  intro d
  induction d with
  | zero => intro c as m1 r m2 hc hs; cases hs
  | succ d ih =>
    intro g as m1 r m2 hc hs h1 h4
    have hle := e_S_sz _ _ _ _ _ _ hs
    unfold e_S at hs
    split at hs
    · rename_i hrq
      unfold e_rq at hrq
      rw [Bool.and_eq_true, decide_eq_true_eq] at hrq
      obtain ⟨hrc, hlen⟩ := hrq
      obtain ⟨n, hn⟩ := e_go_some.mp hs
      refine ⟨hrc, ?_⟩
      obtain ⟨f1, f2, f3, f4, f5, f6, f7, f8, f9, f10⟩ := k_me_facts hc
      refine Met.ofW (ws' := lw_tbl.filter goodWord) (cc := g_b g) (maxL := g_mx g) (ret := g_ret g) f7 rfl ?_
      intro p e s m args below meth cd s₁ B hml hP
      obtain ⟨rfl, hsz, hPw, hK, hSs, hok⟩ := hP
      have hws : ∀ w ∈ g_w g, w.before (as.map (n_v G)).toArray s = true := atoms_spec (ws := g_w g) B.pre
      have hlocks : meth.locks = false := B.notSynchronized
      have C : n_C G X p (n_rm (d + 1) (m2.1.length - m1.1.length) (n_z m2 - n_z m1)) s m (as.map (n_v G)).toArray meth cd g (g_mx g) := by
        refine ⟨B.exec, B.bytes, hml, findClass_of_methodNamed B.named, fun w hw hq => ?_, hK, hSs, fun hy => ?_, by omega, by show 1 ≤ d + 1 + 1; omega, by show 100 ≤ 100 * (d + 1 + 1); omega⟩
        · rcases hq with hq | hq
          · exact hws w (List.mem_cons_of_mem _ (List.mem_filter.mpr ⟨hw, hq⟩))
          · exact va_Nw.use (by cases w <;> first | (cases hq; done) | rfl) (hSs.2.2.2.2.2.2.2.1 w hw hq)
        · rw [(name_of_methodNamed B.named B.method).1]
          exact hy
      rw [lg_entry_eq]
      refine n_run C (by omega) ih (Nat.le_refl _) (by show 8 + (20 + 11) + 100 * (d + 1) ≤ 100 * (d + 1 + 1); omega) h1 (by show m2.1.length ≤ m2.1.length - m1.1.length + m1.1.length; have := hle.1; omega) (by show n_z m2 ≤ n_z m2 - n_z m1 + n_z m1; have := hle.2; omega) h4 ?_ n 0 m1 (e_ent (g_mx g) as) [] s.heap [] _ 0 0 hn (n_R_start hsz hPw (n_ent G hG hlen) hok)
      intro pc' i ri H' locs' lsA' ls' cells' slots' hd hret hr'
      obtain ⟨q1, q2, q3, q4, q5, q6, q7⟩ := hr'
      have e5 : cells' = m2.1.length - m1.1.length := by omega
      have e6 : slots' = n_z m2 - n_z m1 := by omega
      subst e5
      subst e6
      have hq : ∀ (v : Option Value) (t : State), v.toList = r.map (n_v G) → t.heap = H' → n_Qc G r m2 (as.map (n_v G)).toArray s (.returned v) t := fun v t hv ht => ⟨⟨v, rfl, hv⟩, by rw [ht]; exact q1, by rw [ht]; exact q2, q7, q3.F ht⟩
      rcases hret with ⟨rfl, v, ty, rfl, hty, hnar⟩ | ⟨rfl, ⟨v, rfl⟩, hty⟩ | ⟨rfl, rfl, hty⟩
      · exact W.zret (Qc := n_Qc G _ m2) (ty := ty) B.exec B.bytes (B.returns.trans hty) hnar (fun t ht _ => hq _ t rfl ht) q3.2.2 hd hlocks
      · exact W.lret (Qc := n_Qc G _ m2) B.exec B.bytes (B.returns.trans hty) (fun t ht _ => hq _ t rfl ht) q3.2.2 hd hlocks
      · exact W.vret (Qc := n_Qc G _ m2) B.exec B.bytes (B.returns.trans hty) (fun t ht _ => hq _ t rfl ht) q3.2.2 hd hlocks
    · cases hs
end
section
/-! THE CLAIM OUT OF ONE WALK OF THE LAW'S BODY. Your part is whole_start (and what it stands on); all else here is the same for every law, but numbers. -/
def R_law : String := "BridgeServiceLaw"
def lw_P (b : Addr) (xs : List Int32) (args : Array Value) (s : State) : Prop := args = #[.ref b] ∧ s.IntsAt b xs ∧ xs.length ≤ 2560 ∧ (Jvm.Cond.and given_1 narrow_1).before args s = true
def lw_Q (_ : Array Value) (s : State) (o : Outcome) (t : State) : Prop := o = .returned (some (.int 1)) ∧ Framed s o t [] 600000 7302250
def lw_Z (below : List Frame) (a : Array Value) (s : State) : State → Prop := fun t => ∃ o, t.status = .running ∧ Ended t below o ∧ lw_Q a s o t
/-- the law's own end, with 1 on the stack, nothing written that was there before, its room as the claim has it -/
theorem lw_ret {p : Program} {l : Launch} {e : Env} {s : State} {m : MethodId} {below : List Frame} {meth : Method} {c : Code} {b : Nat} (hx : p.tables.exec = Jvm.exec) (hb : c.code = code) (hr : meth.sig.returnType = ret) (hlocks : meth.locks = false) {pc : Nat} {H : Heap} {ls : Array Slot} (hdg : decode code pc = .ok (.ireturn, 1)) : W p l e room_1 s m #[Value.ref b] below meth c H [] 600000 7302250 (lw_Z below #[Value.ref b] s) (F0 m pc ls [.int 1]) := by
  intro T hT X
  obtain ⟨fs, hret, hrun, hended, hW, hframe⟩ := X.leave (v := some (.int 1)) (hlocks := hlocks) (fun h => by rw [hr] at h; cases h)
  have hmeth' : T.vm.method? m = some meth := X.method'
  refine ⟨T.setFrames fs, ?_, .returned (some (.int 1)), hrun, hended, rfl, ⟨_, rfl⟩, hW, hframe⟩
  jvm_step X.here [X.here.top, hx, hb, hdg, hmeth', hr, ret, narrow_b1]
  (try refine ⟨rfl, ?_⟩); (try refine ⟨rfl, ?_⟩)
  first | (intro acts; rw [hret _ acts rfl rfl rfl]) | rw [hret _ _ rfl rfl rfl]
  exact Steps.refl _
/-- what holds at the law's entry: the machine, the code, the tables' words (any of lw_tbl by 'hts w (by decide +kernel)'), the script of L ints xs at the cell b, what the Statement gives of the start (any of its parts by flat_of_before) -/
def lw_At (p : Program) (s : State) (m : MethodId) (meth : Method) (c : Code) (b L : Nat) (xs : Nat → Int32) : Prop :=
  p.tables.exec = Jvm.exec ∧ c.code = code ∧ meth.sig.returnType = ret ∧ c.maxLocals = 4 ∧ s.vm.findClass R_law = some m.cls ∧ (∀ w ∈ lw_tbl, w.before #[Value.ref b] s = true) ∧ va_X b L xs s s.heap ∧ b < s.heap.size ∧ meth.locks = false ∧ (Jvm.Cond.and given_1 narrow_1).before #[Value.ref b] s = true
end
section
/-! THE START: what the law's entry gives -/
def j_ws : List Jvm.Cond := [.laysStatic "BridgeService" "ABOVE" "[I", .initialized "BridgeService", .laysStatic "java/lang/String" "COMPACT_STRINGS" "Z", .initialized "java/lang/String", .laysStatic "jdk/internal/util/Preconditions" "SIOOBE_FORMATTER" "Ljava/util/function/BiFunction;", .initialized "jdk/internal/util/Preconditions", .stringRef "BridgeService$Reader" 88 n_tx, .arrayOver (.object "BridgeService$Sheet"), .arrayOver (.object "BridgeService$Shelf")]
def j_pl : List Nat := [527, 103, 635, 115, 651, 117, 625, 374, 376]
theorem j_ws_ok : (List.range 9).all (fun i => decide (lw_tbl[j_pl.getD i 0]? = j_ws[i]?)) = true := by decide +kernel
theorem j_ws_mem {i : Nat} (h : i < 9) {w : Jvm.Cond} (hw : j_ws[i]? = some w) : w ∈ lw_tbl := by
  have h1 := of_decide_eq_true (List.all_eq_true.mp j_ws_ok i (List.mem_range.mpr h))
  rw [hw] at h1
  exact List.mem_of_getElem? h1
def j_A : Jvm.Term := .static "BridgeService" "ABOVE" "[I"
def j_s : Jvm.Term := .string "BridgeService$Reader" 88
def j_v : Jvm.Term := .field j_s "java/lang/String" "value" "[B"
def j_G : Jvm.Cond := .and given_1 narrow_1
theorem j_f0 : ∀ w ∈ [Jvm.Cond.arrayOf j_A .int, .eq (.length j_A) (.int 6), .eq (.static "java/lang/String" "COMPACT_STRINGS" "Z") (.int 1), .isRef (.static "jdk/internal/util/Preconditions" "SIOOBE_FORMATTER" "Ljava/util/function/BiFunction;"), .exactly j_s "java/lang/String", .eq (.field j_s "java/lang/String" "coder" "B") (.int 0), .arrayOf j_v .byte, .eq (.length j_v) (.int 98)], w ∈ flatC j_G := by
  have h : ([Jvm.Cond.arrayOf j_A .int, .eq (.length j_A) (.int 6), .eq (.static "java/lang/String" "COMPACT_STRINGS" "Z") (.int 1), .isRef (.static "jdk/internal/util/Preconditions" "SIOOBE_FORMATTER" "Ljava/util/function/BiFunction;"), .exactly j_s "java/lang/String", .eq (.field j_s "java/lang/String" "coder" "B") (.int 0), .arrayOf j_v .byte, .eq (.length j_v) (.int 98)] : List Jvm.Cond).all (fun w => decide (w ∈ flatC j_G)) = true := by decide +kernel
  intro w hw
  exact of_decide_eq_true (List.all_eq_true.mp h w hw)
theorem j_f1 : (List.range 6).all (fun j => decide (Jvm.Cond.eq (.elem j_A (.int (Int32.ofNat j))) (.int (e_abv j)) ∈ flatC j_G)) = true := by decide +kernel
theorem j_f2 : (List.range 98).all (fun j => decide (Jvm.Cond.eq (.elem j_v (.int (Int32.ofNat j))) (.int (([e_nms].getD 0 []).getD j 0)) ∈ flatC j_G)) = true := by decide +kernel
theorem j_prim {s : State} {args : Array Value} {ty : FieldType} (hp : ∀ C, ty ≠ .object C) (h : (Jvm.Cond.arrayClass ty).before args s = true) : ∃ cA : ClassId, ArrOfT s cA ty ∧ va_RA s cA ty := by
  obtain ⟨cA, kA, comp, h1, h2, h3⟩ := Cond.arrayClass_spec h
  refine ⟨cA, fun n z => ⟨fun k h => (by cases h), kA, h2, comp, h3⟩, ?_⟩
  cases ty <;> first | exact h1 | exact absurd rfl (hp _)
theorem j_obj {s : State} {args : Array Value} {C : String} (h : (Jvm.Cond.arrayOver (.object C)).before args s = true) : ∃ cA : ClassId, ArrOfT s cA (.object C) ∧ va_RA s cA (.object C) := by
  obtain ⟨comp, cA, kA, h1, h2, h3, h4, h5⟩ := Cond.arrayOver_spec h
  exact ⟨cA, fun n z => ⟨fun k h => (by cases h), kA, h3, comp, h4⟩, kA, comp, h3, h4, h1, h5⟩
theorem j_start {p : Program} {s : State} {m : MethodId} {meth : Method} {c : Code} {b L : Nat} {xs : Nat → Int32} (C0 : lw_At p s m meth c b L xs) : ∃ G : n_G, G.2.2.2.category = 1 ∧ n_b G = s.heap.size ∧ G.2.2.1 1 = b ∧ va_K G.1 q_cl (n_t G) s ∧ n_S G (L, xs) s := by
  obtain ⟨a1, a2, a3, a4, a5, hts, hX, hb, a9, hgv⟩ := C0
  have hs := flat_of_before _ hgv
  have hw : ∀ {i : Nat} (w : Jvm.Cond), i < 9 → j_ws[i]? = some w → w.before #[Value.ref b] s = true := fun w hi h => hts w (j_ws_mem hi h)
  have hA : ∀ a : Nat, a < s.heap.size → ¬ s.heap.size ≤ a := fun a h => by omega
  -- classes
  have hk : ∀ k : Nat, ∃ q : ClassId × (Nat → Nat), k < 11 → u_Kn s (g_cn k) (q_T k) (e_nf k) q.1 q.2 := by
    intro k
    by_cases h : k < 11
    · have h1 := List.all_eq_true.mp n_cls_ok k (List.mem_range.mpr h)
      rw [Bool.and_eq_true] at h1
      obtain ⟨cC, iS, h2⟩ := u_known (ws := lw_tbl) (args := #[Value.ref b]) hts (fun w hw => (q_cl_ws h hw).1) (hts _ (k_at_mem h1.1).1)
      exact ⟨(cC, iS), fun _ => h2⟩
    · exact ⟨(0, fun _ => 0), fun q => absurd q h⟩
  obtain ⟨dd, hdd⟩ := Classical.axiomOfChoice hk
  obtain ⟨cI, hI1, hI2⟩ := j_prim (ty := .int) (fun C h => by cases h) (hts _ (n_ac _ (by simp)).1)
  obtain ⟨cC, hC1, hC2⟩ := j_prim (ty := .char) (fun C h => by cases h) (hts _ (n_ac _ (by simp)).1)
  obtain ⟨cJ, hJ1, hJ2⟩ := j_prim (ty := .long) (fun C h => by cases h) (hts _ (n_ac _ (by simp)).1)
  have hOS := hw (i := 7) _ (by decide) rfl
  have hOF := hw (i := 8) _ (by decide) rfl
  obtain ⟨cS, hS1, hS2⟩ := j_obj hOS
  obtain ⟨cF, hF1, hF2⟩ := j_obj hOF
  -- statics
  obtain ⟨tA, hA1, hA2⟩ := va_Tof (args := #[Value.ref b]) (s := s) (tm := j_A) (ty := .int) (N := 6) (f := fun j => .int (e_abv j)) (A := fun q => s.heap.size ≤ q) (by decide) (hs _ (j_f0 _ (by simp))) (va_eqt (hs _ (j_f0 (.eq (.length j_A) (.int 6)) (by simp)))) (fun j hj => va_eqt (hs _ (of_decide_eq_true (List.all_eq_true.mp j_f1 j (List.mem_range.mpr hj))))) hA
  have hZ1 := va_Zref (hw (i := 0) _ (by decide) rfl) (hw (i := 1) _ (by decide) rfl) hA1 hA
  have hZ2 := va_Zof (hw (i := 2) _ (by decide) rfl) (hw (i := 3) _ (by decide) rfl) (va_eqi (hs (.eq (.static "java/lang/String" "COMPACT_STRINGS" "Z") (.int 1)) (j_f0 _ (by simp)))) hA
  have hZ3 := va_Zqof (hw (i := 4) _ (by decide) rfl) (hw (i := 5) _ (by decide) rfl) (hs _ (j_f0 (.isRef (.static "jdk/internal/util/Preconditions" "SIOOBE_FORMATTER" "Ljava/util/function/BiFunction;")) (by simp))) hA
  have hZ3' : ∃ vF : Value, vF.category = 1 ∧ va_Z "jdk/internal/util/Preconditions" "SIOOBE_FORMATTER" "Ljava/util/function/BiFunction;" vF (fun q => s.heap.size ≤ q) s s.heap := by
    rcases hZ3 with h | ⟨t, h⟩
    · exact ⟨_, rfl, h⟩
    · exact ⟨_, rfl, h⟩
  obtain ⟨vF, hv1, hv2⟩ := hZ3'
  obtain ⟨adK, adV, hT1, hT2⟩ := vk_Sof (args := #[Value.ref b]) (s := s) (N := 1) (tm := fun _ => j_s) (len := [98]) (byt := [e_nms]) (A := fun q => s.heap.size ≤ q)
    (fun i hi => by have : i = 0 := by omega
                    subst this; decide)
    (fun i hi => hs _ (j_f0 _ (by simp))) (fun i hi => hs _ (j_f0 (.eq (.field j_s "java/lang/String" "coder" "B") (.int 0)) (by simp))) (fun i hi => hs _ (j_f0 (.arrayOf j_v .byte) (by simp)))
    (fun i hi => by have : i = 0 := by omega
                    subst this
                    exact hs (.eq (.length j_v) (.int 98)) (j_f0 _ (by simp)))
    (fun i hi j hj => by
      have : i = 0 := by omega
      subst this
      exact hs _ (of_decide_eq_true (List.all_eq_true.mp j_f2 j (List.mem_range.mpr hj))))
    (fun i j hi hj hij => by omega) hA
  have hR := vk_R.of (hw (i := 6) _ (by decide) rfl) (hT2 0 (by decide))
  refine ⟨((fun k => (dd k).1, fun k => (dd k).2), (fun k => if k = 100 then cI else if k = 101 then cC else if k = 102 then cJ else if k = 206 then cS else cF), (fun k => if k = 0 then s.heap.size else if k = 1 then b else if k = 2 then tA else if k = 3 then adK 0 else adV 0), vF), hv1, rfl, rfl, ⟨fun k q hq => ?_, fun k q hq => ?_⟩, ?_⟩
  · have hlt : k < 11 := by
      have := (List.getElem?_eq_some_iff.mp hq).1
      simpa using this
    rw [q_cl_at hlt] at hq
    cases hq
    exact hdd k hlt
  · unfold n_t at hq
    match k, hq with
    | 0, hq => cases hq; exact ⟨hI1, hI2⟩
    | 1, hq => cases hq; exact ⟨hC1, hC2⟩
    | 2, hq => cases hq; exact ⟨hJ1, hJ2⟩
    | 3, hq => cases hq; exact ⟨hS1, hS2⟩
    | 4, hq => cases hq; exact ⟨hF1, hF2⟩
    | n + 5, hq => cases hq
  · refine ⟨?_, hZ1, hA2, hZ2, hv2, hR, ?_, fun w hw hn => va_Nw.of (by cases w <;> first | (cases hn; done) | rfl) (hts w hw), va_AO.of hOS, va_AO.of hOF⟩
    · obtain ⟨scr, x1, x2, x3, x4, x5⟩ := hX
      exact ⟨scr, x1, x2, x3, Nat.le_of_eq x4.symm, by rw [x4], x5, by show ¬ s.heap.size ≤ b; omega⟩
    · refine ⟨fun i hi => ?_, fun i j hi hj _ => by omega⟩
      have : i = 0 := by omega
      subst this
      exact hT1.1 0 hi
/-- what is asked of the evaluator: for every script of at most 2560 ints the law's code answers 1, in a small memory -/
def j_goal : Prop := ∀ (L : Nat) (xs : Nat → Int32), L ≤ 2560 → ∃ (d : Nat) (mf : e_M), d ≤ 800 ∧ mf.1.length ≤ 900 ∧ n_z mf ≤ 100000 ∧ e_go g_P (L, xs) (e_S g_P g_mx e_rq (L, xs) d) 308 0 (e_ent 4 [.ref 1000]) [] ([], fun _ _ => 0, fun _ _ => 0, fun _ _ => 0) = some ([.int 1], mf)
theorem whole_of (hE : j_goal) {p : Program} {e : Env} {s : State} {m : MethodId} {below : List Frame} {meth : Method} {c : Code} (l : Launch) {b L : Nat} {xs : Nat → Int32} (hL : L ≤ 2560) (C0 : lw_At p s m meth c b L xs) : W p l e room_1 s m #[Value.ref b] below meth c s.heap [] 0 0 (lw_Z below #[Value.ref b] s) (entryFrame m ([Value.ref b] : List Value).toArray 4) := by
  obtain ⟨d, mf, hd, hm1, hm2, hgo⟩ := hE L xs hL
  obtain ⟨G, hG, hbG, hb1, hK, hSs⟩ := j_start C0
  obtain ⟨a1, a2, a3, a4, a5, hts, hX, hb, a9, hgv⟩ := C0
  obtain ⟨n, hn⟩ := e_go_some.mp hgo
  have C : n_C G (L, xs) p room_1 s m #[Value.ref b] meth c 308 4 := ⟨a1, a2, a4, a5, fun w hw _ => hts w hw, hK, hSs, fun h => absurd h (by decide), by omega, by decide, by decide⟩
  have hent : n_L G 4 (e_ent 4 [.ref 1000]) ((lg_sl ([Value.ref 1000].map (n_v G)) ++ List.replicate (4 - (lg_sl ([Value.ref 1000].map (n_v G))).length) Slot.unset).toArray) := n_ent G hG rfl
  have hv : ([Value.ref 1000].map (n_v G)) = [Value.ref b] := by
    show [Value.ref (n_a G 1000)] = _
    have : n_a G 1000 = b := hb1
    rw [this]
  rw [hv] at hent
  rw [lg_entry_eq]
  refine n_run C (by decide) (n_meth l G (L, xs) hG d) (k0 := 0) (s0 := 0) (r := [.int 1]) (mf := mf) ?_ ?_ hm1 ?_ ?_ hm2 ?_ n 0 ([], fun _ _ => 0, fun _ _ => 0, fun _ _ => 0) (e_ent 4 [.ref 1000]) [] s.heap [] _ 0 0 hn ⟨by rw [hbG]; rfl, fun k q hk => (by cases hk), va_S.rf, hent, rfl, rfl, fun o q h => (by cases h), fun o k h => absurd h (Nat.not_lt_zero _)⟩
  · show d + 2 ≤ 2048; omega
  · show 8 + (20 + 11) + 100 * (d + 1) ≤ 84000; omega
  · show mf.1.length ≤ 600000 + 0; omega
  · show n_z mf ≤ 7302250 + 0; omega
  · intro pc' i ri H' locs' lsA' ls' cells' slots' hdg hret hr'
    obtain ⟨q1, q2, q3, q4, q5, q6, q7⟩ := hr'
    rcases hret with ⟨rfl, v, ty, hv, hty, hnar⟩ | ⟨-, ⟨v, hv⟩, -⟩ | ⟨-, hv, -⟩
    · refine va_forget (fun q hq => ?_) (W.widen (k := 600000) (n := 7302250) (by omega) (by omega) ?_)
      · have := q3.2.2 q hq
        show s.heap.size ≤ q.base
        rw [← hbG]
        exact this
      · exact lw_ret a1 a2 a3 a9 hdg
    · cases hv
    · cases hv
end
section
/-! THE HEAP behind the two constructors; memories over it; steps of the evaluator as rows for simp -/
def h_K : List (Nat × Nat) := [(9, 9), (8, 17), (100, 6), (100, 6), (100, 6), (100, 6), (100, 6), (100, 6), (100, 16), (1, 7), (100, 8), (100, 8), (100, 8), (100, 200), (100, 5), (4, 5), (100, 6), (100, 6), (100, 6), (100, 6), (8, 17), (100, 6), (100, 6), (100, 6), (100, 6), (100, 6), (100, 6), (100, 16), (1, 7), (100, 8), (100, 8), (100, 8), (100, 200), (100, 5), (4, 5), (100, 6), (100, 6), (100, 6), (100, 6), (3, 14), (1, 7), (100, 8), (100, 8), (100, 8), (100, 200), (100, 5), (100, 200), (100, 200), (2, 9), (100, 4), (100, 4), (5, 3), (100, 12), (206, 4), (207, 4), (0, 6), (100, 30), (6, 3), (102, 40), (6, 3), (102, 40), (6, 3), (102, 40), (6, 3), (102, 40), (7, 4), (7, 4), (7, 4), (7, 4), (10, 39), (100, 322), (100, 322), (100, 74), (100, 200), (100, 200), (101, 144), (100, 200), (100, 24), (100, 370), (100, 4), (100, 4), (100, 16), (100, 16), (100, 12), (100, 4), (100, 4), (100, 160), (100, 4), (100, 4), (100, 30)]
def h_R : Nat → Nat → Nat
  | 0, 0 => 2
  | 0, 1 => 21
  | 0, 3 => 40
  | 0, 4 => 49
  | 0, 5 => 52
  | 0, 6 => 54
  | 0, 7 => 55
  | 0, 8 => 56
  | 1, 0 => 3
  | 1, 1 => 4
  | 1, 2 => 5
  | 1, 3 => 6
  | 1, 4 => 7
  | 1, 5 => 8
  | 1, 6 => 9
  | 1, 7 => 10
  | 1, 8 => 16
  | 9, 0 => 11
  | 9, 1 => 12
  | 9, 2 => 13
  | 9, 3 => 14
  | 9, 4 => 15
  | 15, 0 => 17
  | 15, 1 => 18
  | 15, 2 => 19
  | 15, 3 => 20
  | 20, 0 => 22
  | 20, 1 => 23
  | 20, 2 => 24
  | 20, 3 => 25
  | 20, 4 => 26
  | 20, 5 => 27
  | 20, 6 => 28
  | 20, 7 => 29
  | 20, 8 => 35
  | 28, 0 => 30
  | 28, 1 => 31
  | 28, 2 => 32
  | 28, 3 => 33
  | 28, 4 => 34
  | 34, 0 => 36
  | 34, 1 => 37
  | 34, 2 => 38
  | 34, 3 => 39
  | 39, 0 => 41
  | 39, 1 => 47
  | 39, 12 => 48
  | 40, 0 => 42
  | 40, 1 => 43
  | 40, 2 => 44
  | 40, 3 => 45
  | 40, 4 => 46
  | 48, 0 => 2
  | 48, 1 => 50
  | 48, 2 => 51
  | 51, 0 => 2
  | 51, 1 => 53
  | 53, 0 => 58
  | 53, 1 => 60
  | 53, 2 => 62
  | 53, 3 => 64
  | 54, 0 => 66
  | 54, 1 => 67
  | 54, 2 => 68
  | 54, 3 => 69
  | 55, 0 => 57
  | 57, 0 => 59
  | 59, 0 => 61
  | 61, 0 => 63
  | 63, 0 => 65
  | 69, 0 => 71
  | 69, 1 => 72
  | 69, 2 => 73
  | 69, 4 => 74
  | 69, 5 => 75
  | 69, 7 => 76
  | 69, 14 => 77
  | 69, 15 => 78
  | 69, 18 => 79
  | 69, 19 => 80
  | 69, 20 => 81
  | 69, 25 => 82
  | 69, 26 => 83
  | 69, 28 => 84
  | 69, 30 => 85
  | 69, 31 => 86
  | 69, 32 => 87
  | 69, 33 => 88
  | 69, 34 => 89
  | 69, 35 => 90
  | _, _ => 0
/-- an int, a long by its value -/
def iI (z : Int) : Int32 := Int32.ofInt z
def lI (z : Int) : Int64 := Int64.ofInt z
/-- the values of ints -/
abbrev rg (z : Int) : Prop := -2147483648 ≤ z ∧ z < 2147483648
def up (I : Nat → Int → Int) (o : Nat) (k v : Int) : Nat → Int → Int := fun a b => if a = o ∧ b = k then v else I a b
def mm (I J : Nat → Int → Int) : e_M := (h_K, fun o k => iI (I o k), fun o k => lI (J o k), h_R)
def iabs (z : Int) : Int := if 0 ≤ z then z else -z
def iabv (z : Int) : Int := if z = 0 then -1 else if z = 3 then 2 else if z = 5 then 4 else 0
theorem iI_toInt {z : Int} (h : rg z) : (iI z).toInt = z := Int32.toInt_ofInt_of_le (by simpa using h.1) (by simpa using h.2)
theorem iI_of (x : Int32) : iI x.toInt = x := Int32.ofInt_toInt x
theorem iI_rg (x : Int32) : rg x.toInt := ⟨by have := x.le_toInt; simpa using this, by have := x.toInt_lt; simpa using this⟩
theorem iI_inj {a b : Int} (ha : rg a) (hb : rg b) : iI a = iI b ↔ a = b := ⟨fun h => by rw [← iI_toInt ha, ← iI_toInt hb, h], fun h => by rw [h]⟩
theorem iI_add (a b : Int) : iI a + iI b = iI (a + b) := (Int32.ofInt_add a b).symm
theorem iI_sub (a b : Int) : iI a - iI b = iI (a - b) := (Int32.ofInt_sub a b).symm
theorem iI_mul (a b : Int) : iI a * iI b = iI (a * b) := (Int32.ofInt_mul a b).symm
theorem iI_neg (a : Int) : - iI a = iI (- a) := (Int32.ofInt_neg a).symm
theorem iI_lt {a b : Int} (ha : rg a) (hb : rg b) : iI a < iI b ↔ a < b := by
  rw [Int32.lt_iff_toInt_lt, iI_toInt ha, iI_toInt hb]
theorem iI_le {a b : Int} (ha : rg a) (hb : rg b) : iI a ≤ iI b ↔ a ≤ b := by
  rw [Int32.le_iff_toInt_le, iI_toInt ha, iI_toInt hb]
theorem iI_cl {z : Int} (h : 0 ≤ z ∧ z < 2147483648) : (iI z).toNatClampNeg = z.toNat := by
  show (iI z).toInt.toNat = _
  rw [iI_toInt ⟨by omega, h.2⟩]
theorem iI_n0 {y : Int} (h : 0 < y ∧ y < 2147483648) : ¬ iI y = 0 := by
  show ¬ iI y = iI 0
  rw [iI_inj ⟨by omega, h.2⟩ (by decide)]
  omega
theorem iI_div {x y : Int} (hx : rg x) (h1 : 0 < y) (h2 : y < 2147483648) : iI x / iI y = iI (Int.tdiv x y) := by
  have hb : rg (Int.tdiv x y) := by
    have ha : (Int.tdiv x y).natAbs ≤ x.natAbs := by
      rw [Int.natAbs_tdiv]
      exact Nat.div_le_self _ _
    have h3 := hx.1
    have h4 := hx.2
    rcases Int.le_total 0 x with q | q
    · have := Int.tdiv_nonneg q (Int.le_of_lt h1)
      constructor <;> omega
    · have e : Int.tdiv x y = - Int.tdiv (-x) y := by rw [Int.neg_tdiv, Int.neg_neg]
      have := Int.tdiv_nonneg (a := -x) (b := y) (by omega) (Int.le_of_lt h1)
      constructor <;> omega
  apply Int32.toInt_inj.mp
  rw [Int32.toInt_div, iI_toInt hx, iI_toInt ⟨by omega, h2⟩, iI_toInt hb]
  exact Int.bmod_eq_of_le (by have := hb.1; simpa using this) (by have := hb.2; simpa using this)
theorem iI_rem {x y : Int} (hx : rg x) (h1 : 0 < y) (h2 : y < 2147483648) : iI x % iI y = iI (Int.tmod x y) := by
  have hb : rg (Int.tmod x y) := by
    have h3 : (Int.tmod x y).natAbs < y.natAbs := by
      rw [Int.natAbs_tmod]
      exact Nat.mod_lt _ (by omega)
    constructor <;> omega
  apply Int32.toInt_inj.mp
  rw [Int32.toInt_mod, iI_toInt hx, iI_toInt ⟨by omega, h2⟩, iI_toInt hb]
theorem iI_max {x y : Int} (hx : rg x) (hy : rg y) : (if iI x < iI y then iI y else iI x) = iI (max x y) := by
  by_cases h : x < y
  · rw [if_pos ((iI_lt hx hy).mpr h), Int.max_eq_right (by omega)]
  · rw [if_neg (fun q => h ((iI_lt hx hy).mp q)), Int.max_eq_left (by omega)]
theorem iI_min {x y : Int} (hx : rg x) (hy : rg y) : (if iI y < iI x then iI y else iI x) = iI (min x y) := by
  by_cases h : y < x
  · rw [if_pos ((iI_lt hy hx).mpr h), Int.min_eq_right (by omega)]
  · rw [if_neg (fun q => h ((iI_lt hy hx).mp q)), Int.min_eq_left (by omega)]
theorem iI_abs {x : Int} (hx : rg x) : (if (0 : Int32) ≤ iI x then iI x else 0 - iI x) = iI (iabs x) := by
  unfold iabs
  have e : ((0 : Int32) ≤ iI x) ↔ 0 ≤ x := iI_le (a := 0) (by decide) hx
  by_cases h : 0 ≤ x
  · rw [if_pos (e.mpr h), if_pos h]
  · rw [if_neg (fun q => h (e.mp q)), if_neg h]
    show iI 0 - iI x = _
    rw [iI_sub, Int.zero_sub]
theorem up_self (I : Nat → Int → Int) (o : Nat) (k v : Int) : up I o k v o k = v := if_pos ⟨rfl, rfl⟩
theorem up_o {I : Nat → Int → Int} {o a : Nat} {k v b : Int} (h : a ≠ o) : up I o k v a b = I a b := if_neg fun q => h q.1
theorem up_k {I : Nat → Int → Int} {o a : Nat} {k v b : Int} (h : b ≠ k) : up I o k v a b = I a b := if_neg fun q => h q.2
theorem up_row (I : Nat → Int → Int) (o : Nat) (k v b : Int) : up I o k v o b = if b = k then v else I o b := by
  unfold up
  by_cases h : b = k
  · rw [if_pos ⟨rfl, h⟩, if_pos h]
  · rw [if_neg (fun q => h q.2), if_neg h]
theorem mm_i {I J : Nat → Int → Int} {o k : Nat} {v : Int} : (h_K, e_up (fun (a b : Nat) => iI (I a b)) o k (iI v), (fun (a b : Nat) => lI (J a b)), h_R) = mm (up I o k v) J := by
  unfold mm e_up up
  congr 2
  funext a b
  by_cases h : a = o ∧ b = k
  · rw [if_pos h, if_pos ⟨h.1, by rw [h.2]⟩]
  · rw [if_neg h, if_neg (fun q => h ⟨q.1, by omega⟩)]
theorem mm_j {I J : Nat → Int → Int} {o k : Nat} {v : Int} : (h_K, (fun (a b : Nat) => iI (I a b)), e_up (fun (a b : Nat) => lI (J a b)) o k (lI v), h_R) = mm I (up J o k v) := by
  unfold mm e_up up
  congr 3
  funext a b
  by_cases h : a = o ∧ b = k
  · rw [if_pos h, if_pos ⟨h.1, by rw [h.2]⟩]
  · rw [if_neg h, if_neg (fun q => h ⟨q.1, by omega⟩)]
noncomputable def s_S (X : e_X) (d c : Nat) (as : List Value) (m : e_M) : e_R := e_S g_P g_mx e_rq X d c as m
noncomputable def s_g (X : e_X) (d c l : Nat) (ls st : List Value) (m : e_M) : e_R := e_go g_P X (s_S X d) c l ls st m
/-- a jump -/
noncomputable def s_j (X : e_X) (d c : Nat) (t : Int) (ls st : List Value) (m : e_M) : e_R := s_g X d c t.toNat ls st m
noncomputable def s_x (X : e_X) (d c : Nat) (is : List Instr) (ls st : List Value) (m : e_M) : e_R := e_x X (s_S X d) (s_g X d c) is ls st m
theorem s_g_eq {X : e_X} {d c l : Nat} {ls st : List Value} {m : e_M} : s_g X d c l ls st m = s_x X d c (g_P c l) ls st m := e_go_eq _ _ _ _ _ _
/-- behind a call -/
def e_k (r : e_R) (f : List Value → e_M → e_R) : e_R := match r with
  | some (v, m) => f v m
  | none => none
theorem e_k_s {v : List Value} {m : e_M} {f : List Value → e_M → e_R} : e_k (some (v, m)) f = f v m := rfl
theorem e_k_i {p : Prop} [Decidable p] {a b : e_R} {f : List Value → e_M → e_R} : e_k (if p then a else b) f = if p then e_k a f else e_k b f := by
  by_cases h : p
  · rw [if_pos h, if_pos h]
  · rw [if_neg h, if_neg h]
/-- there is an answer, and it is so -/
def wp (Q : List Value → e_M → Prop) (r : e_R) : Prop := ∃ v m, r = some (v, m) ∧ Q v m
theorem wp_s {Q : List Value → e_M → Prop} {v : List Value} {m : e_M} : wp Q (some (v, m)) ↔ Q v m := ⟨fun ⟨_, _, h, q⟩ => by cases h; exact q, fun q => ⟨v, m, rfl, q⟩⟩
theorem wp_k {Q : List Value → e_M → Prop} {r : e_R} {f : List Value → e_M → e_R} (h : wp (fun v m => wp Q (f v m)) r) : wp Q (e_k r f) := by
  obtain ⟨v, m, rfl, h⟩ := h
  exact h
theorem wp_m {Q Q' : List Value → e_M → Prop} {r : e_R} (h : wp Q r) (k : ∀ v m, Q v m → Q' v m) : wp Q' r := by
  obtain ⟨v, m, e, h⟩ := h
  exact ⟨v, m, e, k v m h⟩
theorem e_sw_n {X : e_X} {d c : Nat} {ls st : List Value} {m : e_M} {e : Int} {x : Int32} : e_sw (fun t => s_g X d c t ls st m) e [] x = s_j X d c e ls st m := rfl
theorem e_sw_c {X : e_X} {d c : Nat} {ls st : List Value} {m : e_M} {e a t : Int} {r : List (Int × Int)} {x : Int} (h : rg x) : e_sw (fun t => s_g X d c t ls st m) e ((a, t) :: r) (iI x) = if x = a then s_j X d c t ls st m else e_sw (fun t => s_g X d c t ls st m) e r (iI x) := by
  conv => lhs; unfold e_sw
  rw [iI_toInt h]
  rfl
section
variable {X : e_X} {d c : Nat} {is : List Instr} {ls l st r : List Value} {m : e_M}
theorem x_cd_eq {x y : Int} {t : Int} (h : rg x ∧ rg y) : (if e_c .eq (iI x) (iI y) = true then s_j X d c t ls st m else s_x X d c is ls st m) = if x = y then s_j X d c t ls st m else s_x X d c is ls st m := by
  simp only [e_c, decide_eq_true_eq, iI_inj h.1 h.2]
theorem x_cd_ne {x y : Int} {t : Int} (h : rg x ∧ rg y) : (if e_c .ne (iI x) (iI y) = true then s_j X d c t ls st m else s_x X d c is ls st m) = if x = y then s_x X d c is ls st m else s_j X d c t ls st m := by
  simp only [e_c, decide_eq_true_eq, iI_inj h.1 h.2]
  by_cases q : x = y
  · rw [if_pos q, if_neg (not_not_intro q)]
  · rw [if_neg q, if_pos q]
theorem x_cd_lt {x y : Int} {t : Int} (h : rg x ∧ rg y) : (if e_c .lt (iI x) (iI y) = true then s_j X d c t ls st m else s_x X d c is ls st m) = if x < y then s_j X d c t ls st m else s_x X d c is ls st m := by
  simp only [e_c, decide_eq_true_eq, iI_lt h.1 h.2]
theorem x_cd_ge {x y : Int} {t : Int} (h : rg x ∧ rg y) : (if e_c .ge (iI x) (iI y) = true then s_j X d c t ls st m else s_x X d c is ls st m) = if x < y then s_x X d c is ls st m else s_j X d c t ls st m := by
  simp only [e_c, decide_eq_true_eq, iI_le h.2 h.1]
  by_cases q : x < y
  · rw [if_pos q, if_neg (by omega)]
  · rw [if_neg q, if_pos (by omega)]
theorem x_cd_gt {x y : Int} {t : Int} (h : rg x ∧ rg y) : (if e_c .gt (iI x) (iI y) = true then s_j X d c t ls st m else s_x X d c is ls st m) = if y < x then s_j X d c t ls st m else s_x X d c is ls st m := by
  simp only [e_c, decide_eq_true_eq, iI_lt h.2 h.1]
theorem x_cd_le {x y : Int} {t : Int} (h : rg x ∧ rg y) : (if e_c .le (iI x) (iI y) = true then s_j X d c t ls st m else s_x X d c is ls st m) = if y < x then s_x X d c is ls st m else s_j X d c t ls st m := by
  simp only [e_c, decide_eq_true_eq, iI_le h.1 h.2]
  by_cases q : y < x
  · rw [if_pos q, if_neg (by omega)]
  · rw [if_neg q, if_pos (by omega)]
theorem e_in_I {z : Int} {n : Nat} (h : 0 ≤ z ∧ z < n) (hn : n ≤ 2147483648) : e_in (iI z) n = true := by
  have e := iI_cl (z := z) (by omega)
  simp only [e_in, e, Bool.not_eq_true', Bool.or_eq_false_iff, decide_eq_false_iff_not]
  refine ⟨?_, by omega⟩
  show ¬ iI z < iI 0
  rw [iI_lt ⟨by omega, by omega⟩ (by decide)]
  omega
variable {I J : Nat → Int → Int}
theorem x_pf {o n : Nat} {k v : Int} (h : e_ob h_K o n = true) (hk : ((n % 64 : Nat) : Int) = k) (hb : (!(e_bool n) || decide (iI v = 0) || decide (iI v = 1)) = true) : s_x X d c (.putfield n :: is) ls (.int (iI v) :: .ref o :: st) (mm I J) = s_x X d c is ls st (mm (up I o k v) J) := by
  subst hk
  rw [← mm_i]
  show (match (if (e_ob h_K o n && (!(e_bool n) || decide (iI v = 0) || decide (iI v = 1))) = true then _ else none : e_T) with | some (a, b, q) => _ | none => _) = _
  rw [h, hb]
  rfl
theorem x_ia {o n : Nat} {z : Int} (hn : e_ar h_K o e_kI = n) (h : 0 ≤ z ∧ z < n) (hn2 : n ≤ 2147483648 := by decide) : s_x X d c (.iaload :: is) ls (.int (iI z) :: .ref o :: st) (mm I J) = s_x X d c is ls (.int (iI (I o z)) :: st) (mm I J) := by
  show (match (if e_in (iI z) (e_ar h_K o e_kI) = true then some (ls, .int (iI (I o (iI z).toNatClampNeg)) :: st, mm I J) else none : e_T) with | some (a, b, q) => _ | none => _) = _
  rw [hn, e_in_I h hn2, iI_cl (by omega), Int.toNat_of_nonneg h.1]
  rfl
theorem x_ca {o n : Nat} {z : Int} (hn : e_ar h_K o e_kC = n) (h : 0 ≤ z ∧ z < n) (hn2 : n ≤ 2147483648 := by decide) : s_x X d c (.caload :: is) ls (.int (iI z) :: .ref o :: st) (mm I J) = s_x X d c is ls (.int (iI (I o z)) :: st) (mm I J) := by
  show (match (if e_in (iI z) (e_ar h_K o e_kC) = true then some (ls, .int (iI (I o (iI z).toNatClampNeg)) :: st, mm I J) else none : e_T) with | some (a, b, q) => _ | none => _) = _
  rw [hn, e_in_I h hn2, iI_cl (by omega), Int.toNat_of_nonneg h.1]
  rfl
theorem x_la {o n : Nat} {z : Int} (hn : e_ar h_K o e_kJ = n) (h : 0 ≤ z ∧ z < n) (hn2 : n ≤ 2147483648 := by decide) : s_x X d c (.laload :: is) ls (.int (iI z) :: .ref o :: st) (mm I J) = s_x X d c is ls (.long (lI (J o z)) :: st) (mm I J) := by
  show (match (if e_in (iI z) (e_ar h_K o e_kJ) = true then some (ls, .long (lI (J o (iI z).toNatClampNeg)) :: st, mm I J) else none : e_T) with | some (a, b, q) => _ | none => _) = _
  rw [hn, e_in_I h hn2, iI_cl (by omega), Int.toNat_of_nonneg h.1]
  rfl
theorem x_is {o n : Nat} {z v : Int} (hn : e_ar h_K o e_kI = n) (h : 0 ≤ z ∧ z < n) (hn2 : n ≤ 2147483648 := by decide) : s_x X d c (.iastore :: is) ls (.int (iI v) :: .int (iI z) :: .ref o :: st) (mm I J) = s_x X d c is ls st (mm (up I o z v) J) := by
  have e : (((iI z).toNatClampNeg : Nat) : Int) = z := by rw [iI_cl (by omega), Int.toNat_of_nonneg h.1]
  conv => rhs; rw [← e, ← mm_i]
  show (match (if e_in (iI z) (e_ar h_K o e_kI) = true then _ else none : e_T) with | some (a, b, q) => _ | none => _) = _
  rw [hn, e_in_I h hn2]
  rfl
theorem x_ls {o n : Nat} {z v : Int} (hn : e_ar h_K o e_kJ = n) (h : 0 ≤ z ∧ z < n) (hn2 : n ≤ 2147483648 := by decide) : s_x X d c (.lastore :: is) ls (.long (lI v) :: .int (iI z) :: .ref o :: st) (mm I J) = s_x X d c is ls st (mm I (up J o z v)) := by
  have e : (((iI z).toNatClampNeg : Nat) : Int) = z := by rw [iI_cl (by omega), Int.toNat_of_nonneg h.1]
  conv => rhs; rw [← e, ← mm_j]
  show (match (if e_in (iI z) (e_ar h_K o e_kJ) = true then _ else none : e_T) with | some (a, b, q) => _ | none => _) = _
  rw [hn, e_in_I h hn2]
  rfl
/-- System.arraycopy: from the row o to the row a -/
def cp (I : Nat → Int → Int) (o a : Nat) (n : Int) : Nat → Int → Int := fun x b => if x = a ∧ 0 ≤ b ∧ b < n then I o b else I x b
theorem x_copy {o a z0 z1 : Nat} {n : Int} (h0 : h_K[o]? = some (e_kI, z0)) (h1 : h_K[a]? = some (e_kI, z1)) (h : 0 ≤ n ∧ n ≤ z0 ∧ n ≤ z1 ∧ n < 2147483648) (hs : st.length ≤ 3) : s_x X d c (.dmul :: is) ls (.int (iI n) :: .int (iI 0) :: .ref a :: .int (iI 0) :: .ref o :: st) (mm I J) = s_x X d c is ls st (mm (cp I o a n) J) := by
  have e := iI_cl (z := n) ⟨h.1, h.2.2.2⟩
  have ez : (iI 0).toNatClampNeg = 0 := rfl
  have en : ¬ iI n < 0 := by
    show ¬ iI n < iI 0
    rw [iI_lt ⟨by omega, by omega⟩ (by decide)]
    omega
  have key : e_st X .dmul ls (.int (iI n) :: .int (iI 0) :: .ref a :: .int (iI 0) :: .ref o :: st) (mm I J) = some (ls, st, mm (cp I o a n) J) := by
    have b1 : (iI 0).toNatClampNeg + (iI n).toNatClampNeg ≤ z0 := by rw [ez, e]; omega
    have b2 : (iI 0).toNatClampNeg + (iI n).toNatClampNeg ≤ z1 := by rw [ez, e]; omega
    have k0 : (mm I J).1[o]? = some (e_kI, z0) := h0
    have k1 : (mm I J).1[a]? = some (e_kI, z1) := h1
    have z0' : ¬ iI 0 < 0 := by decide
    simp only [e_st, k0, k1, en, z0', b1, b2, hs, decide_true, decide_false, Bool.not_false, Bool.and_self, if_true]
    simp only [mm, cp]
    congr 5
    funext x b
    by_cases hx : x = a
    · subst hx
      rw [if_pos rfl]
      by_cases hb : b < n.toNat
      · rw [if_pos (by rw [ez, e]; omega), if_pos ⟨rfl, by omega, by omega⟩, ez]
        simp
      · rw [if_neg (by rw [ez, e]; omega), if_neg (by omega)]
    · rw [if_neg hx, if_neg (fun q => hx q.1)]
  show (match e_st X .dmul ls (.int (iI n) :: .int (iI 0) :: .ref a :: .int (iI 0) :: .ref o :: st) (mm I J) with | some (a, b, q) => s_x X d c is a b q | none => none) = _
  rw [key]
theorem x_sipush {v : Int} : s_x X d c (.sipush v :: is) (ls) (st) m = s_x X d c is (ls) (.int (iI v) :: st) m := rfl
theorem x_lconst {v : Int} : s_x X d c (.goto_w v :: is) (ls) (st) m = s_x X d c is (ls) (.long (lI v) :: st) m := rfl
theorem x_iload0 {x : Int32} : s_x X d c (.iload 0 :: is) (.int x :: l) (st) m = s_x X d c is (.int x :: l) (.int x :: st) m := rfl
theorem x_aload0 {x : Nat} : s_x X d c (.aload 0 :: is) (.ref x :: l) (st) m = s_x X d c is (.ref x :: l) (.ref x :: st) m := rfl
theorem x_lload0 {x : Int64} : s_x X d c (.lload 0 :: is) (.long x :: l) (st) m = s_x X d c is (.long x :: l) (.long x :: st) m := rfl
theorem x_istore0 {x : Int32} {w : Value} : s_x X d c (.istore 0 :: is) (w :: l) (.int x :: st) m = s_x X d c is (.int x :: l) (st) m := rfl
theorem x_astore0 {x : Nat} {w : Value} : s_x X d c (.astore 0 :: is) (w :: l) (.ref x :: st) m = s_x X d c is (.ref x :: l) (st) m := rfl
theorem x_lstore0 {x : Int64} {w w2 : Value} : s_x X d c (.lstore 0 :: is) (w :: w2 :: l) (.long x :: st) m = s_x X d c is (.long x :: .retAddr 0 :: l) (st) m := rfl
theorem x_iinc0 {x : Int} {v : Int} : s_x X d c (.iinc 0 v :: is) (.int (iI x) :: l) (st) m = s_x X d c is (.int (iI (x + v)) :: l) (st) m := (congrArg (fun z => s_x X d c is (.int z :: l) st m) (iI_add x v))
theorem x_iload1 {b0 : Value} {x : Int32} : s_x X d c (.iload 1 :: is) (b0 :: .int x :: l) (st) m = s_x X d c is (b0 :: .int x :: l) (.int x :: st) m := rfl
theorem x_aload1 {b0 : Value} {x : Nat} : s_x X d c (.aload 1 :: is) (b0 :: .ref x :: l) (st) m = s_x X d c is (b0 :: .ref x :: l) (.ref x :: st) m := rfl
theorem x_lload1 {b0 : Value} {x : Int64} : s_x X d c (.lload 1 :: is) (b0 :: .long x :: l) (st) m = s_x X d c is (b0 :: .long x :: l) (.long x :: st) m := rfl
theorem x_istore1i {p : Int32} {x : Int32} {w : Value} : s_x X d c (.istore 1 :: is) (.int p :: w :: l) (.int x :: st) m = s_x X d c is (.int p :: .int x :: l) (st) m := rfl
theorem x_astore1i {p : Int32} {x : Nat} {w : Value} : s_x X d c (.astore 1 :: is) (.int p :: w :: l) (.ref x :: st) m = s_x X d c is (.int p :: .ref x :: l) (st) m := rfl
theorem x_lstore1i {p : Int32} {x : Int64} {w w2 : Value} : s_x X d c (.lstore 1 :: is) (.int p :: w :: w2 :: l) (.long x :: st) m = s_x X d c is (.int p :: .long x :: .retAddr 0 :: l) (st) m := rfl
theorem x_iinc1i {p : Int32} {x : Int} {v : Int} : s_x X d c (.iinc 1 v :: is) (.int p :: .int (iI x) :: l) (st) m = s_x X d c is (.int p :: .int (iI (x + v)) :: l) (st) m := (congrArg (fun z => s_x X d c is (.int p :: .int z :: l) st m) (iI_add x v))
theorem x_istore1r {p : Nat} {x : Int32} {w : Value} : s_x X d c (.istore 1 :: is) (.ref p :: w :: l) (.int x :: st) m = s_x X d c is (.ref p :: .int x :: l) (st) m := rfl
theorem x_astore1r {p : Nat} {x : Nat} {w : Value} : s_x X d c (.astore 1 :: is) (.ref p :: w :: l) (.ref x :: st) m = s_x X d c is (.ref p :: .ref x :: l) (st) m := rfl
theorem x_lstore1r {p : Nat} {x : Int64} {w w2 : Value} : s_x X d c (.lstore 1 :: is) (.ref p :: w :: w2 :: l) (.long x :: st) m = s_x X d c is (.ref p :: .long x :: .retAddr 0 :: l) (st) m := rfl
theorem x_iinc1r {p : Nat} {x : Int} {v : Int} : s_x X d c (.iinc 1 v :: is) (.ref p :: .int (iI x) :: l) (st) m = s_x X d c is (.ref p :: .int (iI (x + v)) :: l) (st) m := (congrArg (fun z => s_x X d c is (.ref p :: .int z :: l) st m) (iI_add x v))
theorem x_istore1u {p : Nat} {x : Int32} {w : Value} : s_x X d c (.istore 1 :: is) (.retAddr p :: w :: l) (.int x :: st) m = s_x X d c is (.retAddr p :: .int x :: l) (st) m := rfl
theorem x_astore1u {p : Nat} {x : Nat} {w : Value} : s_x X d c (.astore 1 :: is) (.retAddr p :: w :: l) (.ref x :: st) m = s_x X d c is (.retAddr p :: .ref x :: l) (st) m := rfl
theorem x_lstore1u {p : Nat} {x : Int64} {w w2 : Value} : s_x X d c (.lstore 1 :: is) (.retAddr p :: w :: w2 :: l) (.long x :: st) m = s_x X d c is (.retAddr p :: .long x :: .retAddr 0 :: l) (st) m := rfl
theorem x_iinc1u {p : Nat} {x : Int} {v : Int} : s_x X d c (.iinc 1 v :: is) (.retAddr p :: .int (iI x) :: l) (st) m = s_x X d c is (.retAddr p :: .int (iI (x + v)) :: l) (st) m := (congrArg (fun z => s_x X d c is (.retAddr p :: .int z :: l) st m) (iI_add x v))
theorem x_iload2 {b0 b1 : Value} {x : Int32} : s_x X d c (.iload 2 :: is) (b0 :: b1 :: .int x :: l) (st) m = s_x X d c is (b0 :: b1 :: .int x :: l) (.int x :: st) m := rfl
theorem x_aload2 {b0 b1 : Value} {x : Nat} : s_x X d c (.aload 2 :: is) (b0 :: b1 :: .ref x :: l) (st) m = s_x X d c is (b0 :: b1 :: .ref x :: l) (.ref x :: st) m := rfl
theorem x_lload2 {b0 b1 : Value} {x : Int64} : s_x X d c (.lload 2 :: is) (b0 :: b1 :: .long x :: l) (st) m = s_x X d c is (b0 :: b1 :: .long x :: l) (.long x :: st) m := rfl
theorem x_istore2i {b0 : Value} {p : Int32} {x : Int32} {w : Value} : s_x X d c (.istore 2 :: is) (b0 :: .int p :: w :: l) (.int x :: st) m = s_x X d c is (b0 :: .int p :: .int x :: l) (st) m := rfl
theorem x_astore2i {b0 : Value} {p : Int32} {x : Nat} {w : Value} : s_x X d c (.astore 2 :: is) (b0 :: .int p :: w :: l) (.ref x :: st) m = s_x X d c is (b0 :: .int p :: .ref x :: l) (st) m := rfl
theorem x_lstore2i {b0 : Value} {p : Int32} {x : Int64} {w w2 : Value} : s_x X d c (.lstore 2 :: is) (b0 :: .int p :: w :: w2 :: l) (.long x :: st) m = s_x X d c is (b0 :: .int p :: .long x :: .retAddr 0 :: l) (st) m := rfl
theorem x_iinc2i {b0 : Value} {p : Int32} {x : Int} {v : Int} : s_x X d c (.iinc 2 v :: is) (b0 :: .int p :: .int (iI x) :: l) (st) m = s_x X d c is (b0 :: .int p :: .int (iI (x + v)) :: l) (st) m := (congrArg (fun z => s_x X d c is (b0 :: .int p :: .int z :: l) st m) (iI_add x v))
theorem x_istore2r {b0 : Value} {p : Nat} {x : Int32} {w : Value} : s_x X d c (.istore 2 :: is) (b0 :: .ref p :: w :: l) (.int x :: st) m = s_x X d c is (b0 :: .ref p :: .int x :: l) (st) m := rfl
theorem x_astore2r {b0 : Value} {p : Nat} {x : Nat} {w : Value} : s_x X d c (.astore 2 :: is) (b0 :: .ref p :: w :: l) (.ref x :: st) m = s_x X d c is (b0 :: .ref p :: .ref x :: l) (st) m := rfl
theorem x_lstore2r {b0 : Value} {p : Nat} {x : Int64} {w w2 : Value} : s_x X d c (.lstore 2 :: is) (b0 :: .ref p :: w :: w2 :: l) (.long x :: st) m = s_x X d c is (b0 :: .ref p :: .long x :: .retAddr 0 :: l) (st) m := rfl
theorem x_iinc2r {b0 : Value} {p : Nat} {x : Int} {v : Int} : s_x X d c (.iinc 2 v :: is) (b0 :: .ref p :: .int (iI x) :: l) (st) m = s_x X d c is (b0 :: .ref p :: .int (iI (x + v)) :: l) (st) m := (congrArg (fun z => s_x X d c is (b0 :: .ref p :: .int z :: l) st m) (iI_add x v))
theorem x_istore2u {b0 : Value} {p : Nat} {x : Int32} {w : Value} : s_x X d c (.istore 2 :: is) (b0 :: .retAddr p :: w :: l) (.int x :: st) m = s_x X d c is (b0 :: .retAddr p :: .int x :: l) (st) m := rfl
theorem x_astore2u {b0 : Value} {p : Nat} {x : Nat} {w : Value} : s_x X d c (.astore 2 :: is) (b0 :: .retAddr p :: w :: l) (.ref x :: st) m = s_x X d c is (b0 :: .retAddr p :: .ref x :: l) (st) m := rfl
theorem x_lstore2u {b0 : Value} {p : Nat} {x : Int64} {w w2 : Value} : s_x X d c (.lstore 2 :: is) (b0 :: .retAddr p :: w :: w2 :: l) (.long x :: st) m = s_x X d c is (b0 :: .retAddr p :: .long x :: .retAddr 0 :: l) (st) m := rfl
theorem x_iinc2u {b0 : Value} {p : Nat} {x : Int} {v : Int} : s_x X d c (.iinc 2 v :: is) (b0 :: .retAddr p :: .int (iI x) :: l) (st) m = s_x X d c is (b0 :: .retAddr p :: .int (iI (x + v)) :: l) (st) m := (congrArg (fun z => s_x X d c is (b0 :: .retAddr p :: .int z :: l) st m) (iI_add x v))
theorem x_iload3 {b0 b1 b2 : Value} {x : Int32} : s_x X d c (.iload 3 :: is) (b0 :: b1 :: b2 :: .int x :: l) (st) m = s_x X d c is (b0 :: b1 :: b2 :: .int x :: l) (.int x :: st) m := rfl
theorem x_aload3 {b0 b1 b2 : Value} {x : Nat} : s_x X d c (.aload 3 :: is) (b0 :: b1 :: b2 :: .ref x :: l) (st) m = s_x X d c is (b0 :: b1 :: b2 :: .ref x :: l) (.ref x :: st) m := rfl
theorem x_lload3 {b0 b1 b2 : Value} {x : Int64} : s_x X d c (.lload 3 :: is) (b0 :: b1 :: b2 :: .long x :: l) (st) m = s_x X d c is (b0 :: b1 :: b2 :: .long x :: l) (.long x :: st) m := rfl
theorem x_istore3i {b0 b1 : Value} {p : Int32} {x : Int32} {w : Value} : s_x X d c (.istore 3 :: is) (b0 :: b1 :: .int p :: w :: l) (.int x :: st) m = s_x X d c is (b0 :: b1 :: .int p :: .int x :: l) (st) m := rfl
theorem x_astore3i {b0 b1 : Value} {p : Int32} {x : Nat} {w : Value} : s_x X d c (.astore 3 :: is) (b0 :: b1 :: .int p :: w :: l) (.ref x :: st) m = s_x X d c is (b0 :: b1 :: .int p :: .ref x :: l) (st) m := rfl
theorem x_lstore3i {b0 b1 : Value} {p : Int32} {x : Int64} {w w2 : Value} : s_x X d c (.lstore 3 :: is) (b0 :: b1 :: .int p :: w :: w2 :: l) (.long x :: st) m = s_x X d c is (b0 :: b1 :: .int p :: .long x :: .retAddr 0 :: l) (st) m := rfl
theorem x_iinc3i {b0 b1 : Value} {p : Int32} {x : Int} {v : Int} : s_x X d c (.iinc 3 v :: is) (b0 :: b1 :: .int p :: .int (iI x) :: l) (st) m = s_x X d c is (b0 :: b1 :: .int p :: .int (iI (x + v)) :: l) (st) m := (congrArg (fun z => s_x X d c is (b0 :: b1 :: .int p :: .int z :: l) st m) (iI_add x v))
theorem x_istore3r {b0 b1 : Value} {p : Nat} {x : Int32} {w : Value} : s_x X d c (.istore 3 :: is) (b0 :: b1 :: .ref p :: w :: l) (.int x :: st) m = s_x X d c is (b0 :: b1 :: .ref p :: .int x :: l) (st) m := rfl
theorem x_astore3r {b0 b1 : Value} {p : Nat} {x : Nat} {w : Value} : s_x X d c (.astore 3 :: is) (b0 :: b1 :: .ref p :: w :: l) (.ref x :: st) m = s_x X d c is (b0 :: b1 :: .ref p :: .ref x :: l) (st) m := rfl
theorem x_lstore3r {b0 b1 : Value} {p : Nat} {x : Int64} {w w2 : Value} : s_x X d c (.lstore 3 :: is) (b0 :: b1 :: .ref p :: w :: w2 :: l) (.long x :: st) m = s_x X d c is (b0 :: b1 :: .ref p :: .long x :: .retAddr 0 :: l) (st) m := rfl
theorem x_iinc3r {b0 b1 : Value} {p : Nat} {x : Int} {v : Int} : s_x X d c (.iinc 3 v :: is) (b0 :: b1 :: .ref p :: .int (iI x) :: l) (st) m = s_x X d c is (b0 :: b1 :: .ref p :: .int (iI (x + v)) :: l) (st) m := (congrArg (fun z => s_x X d c is (b0 :: b1 :: .ref p :: .int z :: l) st m) (iI_add x v))
theorem x_istore3u {b0 b1 : Value} {p : Nat} {x : Int32} {w : Value} : s_x X d c (.istore 3 :: is) (b0 :: b1 :: .retAddr p :: w :: l) (.int x :: st) m = s_x X d c is (b0 :: b1 :: .retAddr p :: .int x :: l) (st) m := rfl
theorem x_astore3u {b0 b1 : Value} {p : Nat} {x : Nat} {w : Value} : s_x X d c (.astore 3 :: is) (b0 :: b1 :: .retAddr p :: w :: l) (.ref x :: st) m = s_x X d c is (b0 :: b1 :: .retAddr p :: .ref x :: l) (st) m := rfl
theorem x_lstore3u {b0 b1 : Value} {p : Nat} {x : Int64} {w w2 : Value} : s_x X d c (.lstore 3 :: is) (b0 :: b1 :: .retAddr p :: w :: w2 :: l) (.long x :: st) m = s_x X d c is (b0 :: b1 :: .retAddr p :: .long x :: .retAddr 0 :: l) (st) m := rfl
theorem x_iinc3u {b0 b1 : Value} {p : Nat} {x : Int} {v : Int} : s_x X d c (.iinc 3 v :: is) (b0 :: b1 :: .retAddr p :: .int (iI x) :: l) (st) m = s_x X d c is (b0 :: b1 :: .retAddr p :: .int (iI (x + v)) :: l) (st) m := (congrArg (fun z => s_x X d c is (b0 :: b1 :: .retAddr p :: .int z :: l) st m) (iI_add x v))
theorem x_iload4 {b0 b1 b2 b3 : Value} {x : Int32} : s_x X d c (.iload 4 :: is) (b0 :: b1 :: b2 :: b3 :: .int x :: l) (st) m = s_x X d c is (b0 :: b1 :: b2 :: b3 :: .int x :: l) (.int x :: st) m := rfl
theorem x_aload4 {b0 b1 b2 b3 : Value} {x : Nat} : s_x X d c (.aload 4 :: is) (b0 :: b1 :: b2 :: b3 :: .ref x :: l) (st) m = s_x X d c is (b0 :: b1 :: b2 :: b3 :: .ref x :: l) (.ref x :: st) m := rfl
theorem x_lload4 {b0 b1 b2 b3 : Value} {x : Int64} : s_x X d c (.lload 4 :: is) (b0 :: b1 :: b2 :: b3 :: .long x :: l) (st) m = s_x X d c is (b0 :: b1 :: b2 :: b3 :: .long x :: l) (.long x :: st) m := rfl
theorem x_istore4i {b0 b1 b2 : Value} {p : Int32} {x : Int32} {w : Value} : s_x X d c (.istore 4 :: is) (b0 :: b1 :: b2 :: .int p :: w :: l) (.int x :: st) m = s_x X d c is (b0 :: b1 :: b2 :: .int p :: .int x :: l) (st) m := rfl
theorem x_astore4i {b0 b1 b2 : Value} {p : Int32} {x : Nat} {w : Value} : s_x X d c (.astore 4 :: is) (b0 :: b1 :: b2 :: .int p :: w :: l) (.ref x :: st) m = s_x X d c is (b0 :: b1 :: b2 :: .int p :: .ref x :: l) (st) m := rfl
theorem x_lstore4i {b0 b1 b2 : Value} {p : Int32} {x : Int64} {w w2 : Value} : s_x X d c (.lstore 4 :: is) (b0 :: b1 :: b2 :: .int p :: w :: w2 :: l) (.long x :: st) m = s_x X d c is (b0 :: b1 :: b2 :: .int p :: .long x :: .retAddr 0 :: l) (st) m := rfl
theorem x_iinc4i {b0 b1 b2 : Value} {p : Int32} {x : Int} {v : Int} : s_x X d c (.iinc 4 v :: is) (b0 :: b1 :: b2 :: .int p :: .int (iI x) :: l) (st) m = s_x X d c is (b0 :: b1 :: b2 :: .int p :: .int (iI (x + v)) :: l) (st) m := (congrArg (fun z => s_x X d c is (b0 :: b1 :: b2 :: .int p :: .int z :: l) st m) (iI_add x v))
theorem x_istore4r {b0 b1 b2 : Value} {p : Nat} {x : Int32} {w : Value} : s_x X d c (.istore 4 :: is) (b0 :: b1 :: b2 :: .ref p :: w :: l) (.int x :: st) m = s_x X d c is (b0 :: b1 :: b2 :: .ref p :: .int x :: l) (st) m := rfl
theorem x_astore4r {b0 b1 b2 : Value} {p : Nat} {x : Nat} {w : Value} : s_x X d c (.astore 4 :: is) (b0 :: b1 :: b2 :: .ref p :: w :: l) (.ref x :: st) m = s_x X d c is (b0 :: b1 :: b2 :: .ref p :: .ref x :: l) (st) m := rfl
theorem x_lstore4r {b0 b1 b2 : Value} {p : Nat} {x : Int64} {w w2 : Value} : s_x X d c (.lstore 4 :: is) (b0 :: b1 :: b2 :: .ref p :: w :: w2 :: l) (.long x :: st) m = s_x X d c is (b0 :: b1 :: b2 :: .ref p :: .long x :: .retAddr 0 :: l) (st) m := rfl
theorem x_iinc4r {b0 b1 b2 : Value} {p : Nat} {x : Int} {v : Int} : s_x X d c (.iinc 4 v :: is) (b0 :: b1 :: b2 :: .ref p :: .int (iI x) :: l) (st) m = s_x X d c is (b0 :: b1 :: b2 :: .ref p :: .int (iI (x + v)) :: l) (st) m := (congrArg (fun z => s_x X d c is (b0 :: b1 :: b2 :: .ref p :: .int z :: l) st m) (iI_add x v))
theorem x_istore4u {b0 b1 b2 : Value} {p : Nat} {x : Int32} {w : Value} : s_x X d c (.istore 4 :: is) (b0 :: b1 :: b2 :: .retAddr p :: w :: l) (.int x :: st) m = s_x X d c is (b0 :: b1 :: b2 :: .retAddr p :: .int x :: l) (st) m := rfl
theorem x_astore4u {b0 b1 b2 : Value} {p : Nat} {x : Nat} {w : Value} : s_x X d c (.astore 4 :: is) (b0 :: b1 :: b2 :: .retAddr p :: w :: l) (.ref x :: st) m = s_x X d c is (b0 :: b1 :: b2 :: .retAddr p :: .ref x :: l) (st) m := rfl
theorem x_lstore4u {b0 b1 b2 : Value} {p : Nat} {x : Int64} {w w2 : Value} : s_x X d c (.lstore 4 :: is) (b0 :: b1 :: b2 :: .retAddr p :: w :: w2 :: l) (.long x :: st) m = s_x X d c is (b0 :: b1 :: b2 :: .retAddr p :: .long x :: .retAddr 0 :: l) (st) m := rfl
theorem x_iinc4u {b0 b1 b2 : Value} {p : Nat} {x : Int} {v : Int} : s_x X d c (.iinc 4 v :: is) (b0 :: b1 :: b2 :: .retAddr p :: .int (iI x) :: l) (st) m = s_x X d c is (b0 :: b1 :: b2 :: .retAddr p :: .int (iI (x + v)) :: l) (st) m := (congrArg (fun z => s_x X d c is (b0 :: b1 :: b2 :: .retAddr p :: .int z :: l) st m) (iI_add x v))
theorem x_iload5 {b0 b1 b2 b3 b4 : Value} {x : Int32} : s_x X d c (.iload 5 :: is) (b0 :: b1 :: b2 :: b3 :: b4 :: .int x :: l) (st) m = s_x X d c is (b0 :: b1 :: b2 :: b3 :: b4 :: .int x :: l) (.int x :: st) m := rfl
theorem x_aload5 {b0 b1 b2 b3 b4 : Value} {x : Nat} : s_x X d c (.aload 5 :: is) (b0 :: b1 :: b2 :: b3 :: b4 :: .ref x :: l) (st) m = s_x X d c is (b0 :: b1 :: b2 :: b3 :: b4 :: .ref x :: l) (.ref x :: st) m := rfl
theorem x_lload5 {b0 b1 b2 b3 b4 : Value} {x : Int64} : s_x X d c (.lload 5 :: is) (b0 :: b1 :: b2 :: b3 :: b4 :: .long x :: l) (st) m = s_x X d c is (b0 :: b1 :: b2 :: b3 :: b4 :: .long x :: l) (.long x :: st) m := rfl
theorem x_istore5i {b0 b1 b2 b3 : Value} {p : Int32} {x : Int32} {w : Value} : s_x X d c (.istore 5 :: is) (b0 :: b1 :: b2 :: b3 :: .int p :: w :: l) (.int x :: st) m = s_x X d c is (b0 :: b1 :: b2 :: b3 :: .int p :: .int x :: l) (st) m := rfl
theorem x_astore5i {b0 b1 b2 b3 : Value} {p : Int32} {x : Nat} {w : Value} : s_x X d c (.astore 5 :: is) (b0 :: b1 :: b2 :: b3 :: .int p :: w :: l) (.ref x :: st) m = s_x X d c is (b0 :: b1 :: b2 :: b3 :: .int p :: .ref x :: l) (st) m := rfl
theorem x_lstore5i {b0 b1 b2 b3 : Value} {p : Int32} {x : Int64} {w w2 : Value} : s_x X d c (.lstore 5 :: is) (b0 :: b1 :: b2 :: b3 :: .int p :: w :: w2 :: l) (.long x :: st) m = s_x X d c is (b0 :: b1 :: b2 :: b3 :: .int p :: .long x :: .retAddr 0 :: l) (st) m := rfl
theorem x_iinc5i {b0 b1 b2 b3 : Value} {p : Int32} {x : Int} {v : Int} : s_x X d c (.iinc 5 v :: is) (b0 :: b1 :: b2 :: b3 :: .int p :: .int (iI x) :: l) (st) m = s_x X d c is (b0 :: b1 :: b2 :: b3 :: .int p :: .int (iI (x + v)) :: l) (st) m := (congrArg (fun z => s_x X d c is (b0 :: b1 :: b2 :: b3 :: .int p :: .int z :: l) st m) (iI_add x v))
theorem x_istore5r {b0 b1 b2 b3 : Value} {p : Nat} {x : Int32} {w : Value} : s_x X d c (.istore 5 :: is) (b0 :: b1 :: b2 :: b3 :: .ref p :: w :: l) (.int x :: st) m = s_x X d c is (b0 :: b1 :: b2 :: b3 :: .ref p :: .int x :: l) (st) m := rfl
theorem x_astore5r {b0 b1 b2 b3 : Value} {p : Nat} {x : Nat} {w : Value} : s_x X d c (.astore 5 :: is) (b0 :: b1 :: b2 :: b3 :: .ref p :: w :: l) (.ref x :: st) m = s_x X d c is (b0 :: b1 :: b2 :: b3 :: .ref p :: .ref x :: l) (st) m := rfl
theorem x_lstore5r {b0 b1 b2 b3 : Value} {p : Nat} {x : Int64} {w w2 : Value} : s_x X d c (.lstore 5 :: is) (b0 :: b1 :: b2 :: b3 :: .ref p :: w :: w2 :: l) (.long x :: st) m = s_x X d c is (b0 :: b1 :: b2 :: b3 :: .ref p :: .long x :: .retAddr 0 :: l) (st) m := rfl
theorem x_iinc5r {b0 b1 b2 b3 : Value} {p : Nat} {x : Int} {v : Int} : s_x X d c (.iinc 5 v :: is) (b0 :: b1 :: b2 :: b3 :: .ref p :: .int (iI x) :: l) (st) m = s_x X d c is (b0 :: b1 :: b2 :: b3 :: .ref p :: .int (iI (x + v)) :: l) (st) m := (congrArg (fun z => s_x X d c is (b0 :: b1 :: b2 :: b3 :: .ref p :: .int z :: l) st m) (iI_add x v))
theorem x_istore5u {b0 b1 b2 b3 : Value} {p : Nat} {x : Int32} {w : Value} : s_x X d c (.istore 5 :: is) (b0 :: b1 :: b2 :: b3 :: .retAddr p :: w :: l) (.int x :: st) m = s_x X d c is (b0 :: b1 :: b2 :: b3 :: .retAddr p :: .int x :: l) (st) m := rfl
theorem x_astore5u {b0 b1 b2 b3 : Value} {p : Nat} {x : Nat} {w : Value} : s_x X d c (.astore 5 :: is) (b0 :: b1 :: b2 :: b3 :: .retAddr p :: w :: l) (.ref x :: st) m = s_x X d c is (b0 :: b1 :: b2 :: b3 :: .retAddr p :: .ref x :: l) (st) m := rfl
theorem x_lstore5u {b0 b1 b2 b3 : Value} {p : Nat} {x : Int64} {w w2 : Value} : s_x X d c (.lstore 5 :: is) (b0 :: b1 :: b2 :: b3 :: .retAddr p :: w :: w2 :: l) (.long x :: st) m = s_x X d c is (b0 :: b1 :: b2 :: b3 :: .retAddr p :: .long x :: .retAddr 0 :: l) (st) m := rfl
theorem x_iinc5u {b0 b1 b2 b3 : Value} {p : Nat} {x : Int} {v : Int} : s_x X d c (.iinc 5 v :: is) (b0 :: b1 :: b2 :: b3 :: .retAddr p :: .int (iI x) :: l) (st) m = s_x X d c is (b0 :: b1 :: b2 :: b3 :: .retAddr p :: .int (iI (x + v)) :: l) (st) m := (congrArg (fun z => s_x X d c is (b0 :: b1 :: b2 :: b3 :: .retAddr p :: .int z :: l) st m) (iI_add x v))
theorem x_iload6 {b0 b1 b2 b3 b4 b5 : Value} {x : Int32} : s_x X d c (.iload 6 :: is) (b0 :: b1 :: b2 :: b3 :: b4 :: b5 :: .int x :: l) (st) m = s_x X d c is (b0 :: b1 :: b2 :: b3 :: b4 :: b5 :: .int x :: l) (.int x :: st) m := rfl
theorem x_aload6 {b0 b1 b2 b3 b4 b5 : Value} {x : Nat} : s_x X d c (.aload 6 :: is) (b0 :: b1 :: b2 :: b3 :: b4 :: b5 :: .ref x :: l) (st) m = s_x X d c is (b0 :: b1 :: b2 :: b3 :: b4 :: b5 :: .ref x :: l) (.ref x :: st) m := rfl
theorem x_lload6 {b0 b1 b2 b3 b4 b5 : Value} {x : Int64} : s_x X d c (.lload 6 :: is) (b0 :: b1 :: b2 :: b3 :: b4 :: b5 :: .long x :: l) (st) m = s_x X d c is (b0 :: b1 :: b2 :: b3 :: b4 :: b5 :: .long x :: l) (.long x :: st) m := rfl
theorem x_istore6i {b0 b1 b2 b3 b4 : Value} {p : Int32} {x : Int32} {w : Value} : s_x X d c (.istore 6 :: is) (b0 :: b1 :: b2 :: b3 :: b4 :: .int p :: w :: l) (.int x :: st) m = s_x X d c is (b0 :: b1 :: b2 :: b3 :: b4 :: .int p :: .int x :: l) (st) m := rfl
theorem x_astore6i {b0 b1 b2 b3 b4 : Value} {p : Int32} {x : Nat} {w : Value} : s_x X d c (.astore 6 :: is) (b0 :: b1 :: b2 :: b3 :: b4 :: .int p :: w :: l) (.ref x :: st) m = s_x X d c is (b0 :: b1 :: b2 :: b3 :: b4 :: .int p :: .ref x :: l) (st) m := rfl
theorem x_lstore6i {b0 b1 b2 b3 b4 : Value} {p : Int32} {x : Int64} {w w2 : Value} : s_x X d c (.lstore 6 :: is) (b0 :: b1 :: b2 :: b3 :: b4 :: .int p :: w :: w2 :: l) (.long x :: st) m = s_x X d c is (b0 :: b1 :: b2 :: b3 :: b4 :: .int p :: .long x :: .retAddr 0 :: l) (st) m := rfl
theorem x_iinc6i {b0 b1 b2 b3 b4 : Value} {p : Int32} {x : Int} {v : Int} : s_x X d c (.iinc 6 v :: is) (b0 :: b1 :: b2 :: b3 :: b4 :: .int p :: .int (iI x) :: l) (st) m = s_x X d c is (b0 :: b1 :: b2 :: b3 :: b4 :: .int p :: .int (iI (x + v)) :: l) (st) m := (congrArg (fun z => s_x X d c is (b0 :: b1 :: b2 :: b3 :: b4 :: .int p :: .int z :: l) st m) (iI_add x v))
theorem x_istore6r {b0 b1 b2 b3 b4 : Value} {p : Nat} {x : Int32} {w : Value} : s_x X d c (.istore 6 :: is) (b0 :: b1 :: b2 :: b3 :: b4 :: .ref p :: w :: l) (.int x :: st) m = s_x X d c is (b0 :: b1 :: b2 :: b3 :: b4 :: .ref p :: .int x :: l) (st) m := rfl
theorem x_astore6r {b0 b1 b2 b3 b4 : Value} {p : Nat} {x : Nat} {w : Value} : s_x X d c (.astore 6 :: is) (b0 :: b1 :: b2 :: b3 :: b4 :: .ref p :: w :: l) (.ref x :: st) m = s_x X d c is (b0 :: b1 :: b2 :: b3 :: b4 :: .ref p :: .ref x :: l) (st) m := rfl
theorem x_lstore6r {b0 b1 b2 b3 b4 : Value} {p : Nat} {x : Int64} {w w2 : Value} : s_x X d c (.lstore 6 :: is) (b0 :: b1 :: b2 :: b3 :: b4 :: .ref p :: w :: w2 :: l) (.long x :: st) m = s_x X d c is (b0 :: b1 :: b2 :: b3 :: b4 :: .ref p :: .long x :: .retAddr 0 :: l) (st) m := rfl
theorem x_iinc6r {b0 b1 b2 b3 b4 : Value} {p : Nat} {x : Int} {v : Int} : s_x X d c (.iinc 6 v :: is) (b0 :: b1 :: b2 :: b3 :: b4 :: .ref p :: .int (iI x) :: l) (st) m = s_x X d c is (b0 :: b1 :: b2 :: b3 :: b4 :: .ref p :: .int (iI (x + v)) :: l) (st) m := (congrArg (fun z => s_x X d c is (b0 :: b1 :: b2 :: b3 :: b4 :: .ref p :: .int z :: l) st m) (iI_add x v))
theorem x_istore6u {b0 b1 b2 b3 b4 : Value} {p : Nat} {x : Int32} {w : Value} : s_x X d c (.istore 6 :: is) (b0 :: b1 :: b2 :: b3 :: b4 :: .retAddr p :: w :: l) (.int x :: st) m = s_x X d c is (b0 :: b1 :: b2 :: b3 :: b4 :: .retAddr p :: .int x :: l) (st) m := rfl
theorem x_astore6u {b0 b1 b2 b3 b4 : Value} {p : Nat} {x : Nat} {w : Value} : s_x X d c (.astore 6 :: is) (b0 :: b1 :: b2 :: b3 :: b4 :: .retAddr p :: w :: l) (.ref x :: st) m = s_x X d c is (b0 :: b1 :: b2 :: b3 :: b4 :: .retAddr p :: .ref x :: l) (st) m := rfl
theorem x_lstore6u {b0 b1 b2 b3 b4 : Value} {p : Nat} {x : Int64} {w w2 : Value} : s_x X d c (.lstore 6 :: is) (b0 :: b1 :: b2 :: b3 :: b4 :: .retAddr p :: w :: w2 :: l) (.long x :: st) m = s_x X d c is (b0 :: b1 :: b2 :: b3 :: b4 :: .retAddr p :: .long x :: .retAddr 0 :: l) (st) m := rfl
theorem x_iinc6u {b0 b1 b2 b3 b4 : Value} {p : Nat} {x : Int} {v : Int} : s_x X d c (.iinc 6 v :: is) (b0 :: b1 :: b2 :: b3 :: b4 :: .retAddr p :: .int (iI x) :: l) (st) m = s_x X d c is (b0 :: b1 :: b2 :: b3 :: b4 :: .retAddr p :: .int (iI (x + v)) :: l) (st) m := (congrArg (fun z => s_x X d c is (b0 :: b1 :: b2 :: b3 :: b4 :: .retAddr p :: .int z :: l) st m) (iI_add x v))
theorem x_iload7 {b0 b1 b2 b3 b4 b5 b6 : Value} {x : Int32} : s_x X d c (.iload 7 :: is) (b0 :: b1 :: b2 :: b3 :: b4 :: b5 :: b6 :: .int x :: l) (st) m = s_x X d c is (b0 :: b1 :: b2 :: b3 :: b4 :: b5 :: b6 :: .int x :: l) (.int x :: st) m := rfl
theorem x_aload7 {b0 b1 b2 b3 b4 b5 b6 : Value} {x : Nat} : s_x X d c (.aload 7 :: is) (b0 :: b1 :: b2 :: b3 :: b4 :: b5 :: b6 :: .ref x :: l) (st) m = s_x X d c is (b0 :: b1 :: b2 :: b3 :: b4 :: b5 :: b6 :: .ref x :: l) (.ref x :: st) m := rfl
theorem x_lload7 {b0 b1 b2 b3 b4 b5 b6 : Value} {x : Int64} : s_x X d c (.lload 7 :: is) (b0 :: b1 :: b2 :: b3 :: b4 :: b5 :: b6 :: .long x :: l) (st) m = s_x X d c is (b0 :: b1 :: b2 :: b3 :: b4 :: b5 :: b6 :: .long x :: l) (.long x :: st) m := rfl
theorem x_istore7i {b0 b1 b2 b3 b4 b5 : Value} {p : Int32} {x : Int32} {w : Value} : s_x X d c (.istore 7 :: is) (b0 :: b1 :: b2 :: b3 :: b4 :: b5 :: .int p :: w :: l) (.int x :: st) m = s_x X d c is (b0 :: b1 :: b2 :: b3 :: b4 :: b5 :: .int p :: .int x :: l) (st) m := rfl
theorem x_astore7i {b0 b1 b2 b3 b4 b5 : Value} {p : Int32} {x : Nat} {w : Value} : s_x X d c (.astore 7 :: is) (b0 :: b1 :: b2 :: b3 :: b4 :: b5 :: .int p :: w :: l) (.ref x :: st) m = s_x X d c is (b0 :: b1 :: b2 :: b3 :: b4 :: b5 :: .int p :: .ref x :: l) (st) m := rfl
theorem x_lstore7i {b0 b1 b2 b3 b4 b5 : Value} {p : Int32} {x : Int64} {w w2 : Value} : s_x X d c (.lstore 7 :: is) (b0 :: b1 :: b2 :: b3 :: b4 :: b5 :: .int p :: w :: w2 :: l) (.long x :: st) m = s_x X d c is (b0 :: b1 :: b2 :: b3 :: b4 :: b5 :: .int p :: .long x :: .retAddr 0 :: l) (st) m := rfl
theorem x_iinc7i {b0 b1 b2 b3 b4 b5 : Value} {p : Int32} {x : Int} {v : Int} : s_x X d c (.iinc 7 v :: is) (b0 :: b1 :: b2 :: b3 :: b4 :: b5 :: .int p :: .int (iI x) :: l) (st) m = s_x X d c is (b0 :: b1 :: b2 :: b3 :: b4 :: b5 :: .int p :: .int (iI (x + v)) :: l) (st) m := (congrArg (fun z => s_x X d c is (b0 :: b1 :: b2 :: b3 :: b4 :: b5 :: .int p :: .int z :: l) st m) (iI_add x v))
theorem x_istore7r {b0 b1 b2 b3 b4 b5 : Value} {p : Nat} {x : Int32} {w : Value} : s_x X d c (.istore 7 :: is) (b0 :: b1 :: b2 :: b3 :: b4 :: b5 :: .ref p :: w :: l) (.int x :: st) m = s_x X d c is (b0 :: b1 :: b2 :: b3 :: b4 :: b5 :: .ref p :: .int x :: l) (st) m := rfl
theorem x_astore7r {b0 b1 b2 b3 b4 b5 : Value} {p : Nat} {x : Nat} {w : Value} : s_x X d c (.astore 7 :: is) (b0 :: b1 :: b2 :: b3 :: b4 :: b5 :: .ref p :: w :: l) (.ref x :: st) m = s_x X d c is (b0 :: b1 :: b2 :: b3 :: b4 :: b5 :: .ref p :: .ref x :: l) (st) m := rfl
theorem x_lstore7r {b0 b1 b2 b3 b4 b5 : Value} {p : Nat} {x : Int64} {w w2 : Value} : s_x X d c (.lstore 7 :: is) (b0 :: b1 :: b2 :: b3 :: b4 :: b5 :: .ref p :: w :: w2 :: l) (.long x :: st) m = s_x X d c is (b0 :: b1 :: b2 :: b3 :: b4 :: b5 :: .ref p :: .long x :: .retAddr 0 :: l) (st) m := rfl
theorem x_iinc7r {b0 b1 b2 b3 b4 b5 : Value} {p : Nat} {x : Int} {v : Int} : s_x X d c (.iinc 7 v :: is) (b0 :: b1 :: b2 :: b3 :: b4 :: b5 :: .ref p :: .int (iI x) :: l) (st) m = s_x X d c is (b0 :: b1 :: b2 :: b3 :: b4 :: b5 :: .ref p :: .int (iI (x + v)) :: l) (st) m := (congrArg (fun z => s_x X d c is (b0 :: b1 :: b2 :: b3 :: b4 :: b5 :: .ref p :: .int z :: l) st m) (iI_add x v))
theorem x_istore7u {b0 b1 b2 b3 b4 b5 : Value} {p : Nat} {x : Int32} {w : Value} : s_x X d c (.istore 7 :: is) (b0 :: b1 :: b2 :: b3 :: b4 :: b5 :: .retAddr p :: w :: l) (.int x :: st) m = s_x X d c is (b0 :: b1 :: b2 :: b3 :: b4 :: b5 :: .retAddr p :: .int x :: l) (st) m := rfl
theorem x_astore7u {b0 b1 b2 b3 b4 b5 : Value} {p : Nat} {x : Nat} {w : Value} : s_x X d c (.astore 7 :: is) (b0 :: b1 :: b2 :: b3 :: b4 :: b5 :: .retAddr p :: w :: l) (.ref x :: st) m = s_x X d c is (b0 :: b1 :: b2 :: b3 :: b4 :: b5 :: .retAddr p :: .ref x :: l) (st) m := rfl
theorem x_lstore7u {b0 b1 b2 b3 b4 b5 : Value} {p : Nat} {x : Int64} {w w2 : Value} : s_x X d c (.lstore 7 :: is) (b0 :: b1 :: b2 :: b3 :: b4 :: b5 :: .retAddr p :: w :: w2 :: l) (.long x :: st) m = s_x X d c is (b0 :: b1 :: b2 :: b3 :: b4 :: b5 :: .retAddr p :: .long x :: .retAddr 0 :: l) (st) m := rfl
theorem x_iinc7u {b0 b1 b2 b3 b4 b5 : Value} {p : Nat} {x : Int} {v : Int} : s_x X d c (.iinc 7 v :: is) (b0 :: b1 :: b2 :: b3 :: b4 :: b5 :: .retAddr p :: .int (iI x) :: l) (st) m = s_x X d c is (b0 :: b1 :: b2 :: b3 :: b4 :: b5 :: .retAddr p :: .int (iI (x + v)) :: l) (st) m := (congrArg (fun z => s_x X d c is (b0 :: b1 :: b2 :: b3 :: b4 :: b5 :: .retAddr p :: .int z :: l) st m) (iI_add x v))
theorem x_iload8 {b0 b1 b2 b3 b4 b5 b6 b7 : Value} {x : Int32} : s_x X d c (.iload 8 :: is) (b0 :: b1 :: b2 :: b3 :: b4 :: b5 :: b6 :: b7 :: .int x :: l) (st) m = s_x X d c is (b0 :: b1 :: b2 :: b3 :: b4 :: b5 :: b6 :: b7 :: .int x :: l) (.int x :: st) m := rfl
theorem x_aload8 {b0 b1 b2 b3 b4 b5 b6 b7 : Value} {x : Nat} : s_x X d c (.aload 8 :: is) (b0 :: b1 :: b2 :: b3 :: b4 :: b5 :: b6 :: b7 :: .ref x :: l) (st) m = s_x X d c is (b0 :: b1 :: b2 :: b3 :: b4 :: b5 :: b6 :: b7 :: .ref x :: l) (.ref x :: st) m := rfl
theorem x_lload8 {b0 b1 b2 b3 b4 b5 b6 b7 : Value} {x : Int64} : s_x X d c (.lload 8 :: is) (b0 :: b1 :: b2 :: b3 :: b4 :: b5 :: b6 :: b7 :: .long x :: l) (st) m = s_x X d c is (b0 :: b1 :: b2 :: b3 :: b4 :: b5 :: b6 :: b7 :: .long x :: l) (.long x :: st) m := rfl
theorem x_istore8i {b0 b1 b2 b3 b4 b5 b6 : Value} {p : Int32} {x : Int32} {w : Value} : s_x X d c (.istore 8 :: is) (b0 :: b1 :: b2 :: b3 :: b4 :: b5 :: b6 :: .int p :: w :: l) (.int x :: st) m = s_x X d c is (b0 :: b1 :: b2 :: b3 :: b4 :: b5 :: b6 :: .int p :: .int x :: l) (st) m := rfl
theorem x_astore8i {b0 b1 b2 b3 b4 b5 b6 : Value} {p : Int32} {x : Nat} {w : Value} : s_x X d c (.astore 8 :: is) (b0 :: b1 :: b2 :: b3 :: b4 :: b5 :: b6 :: .int p :: w :: l) (.ref x :: st) m = s_x X d c is (b0 :: b1 :: b2 :: b3 :: b4 :: b5 :: b6 :: .int p :: .ref x :: l) (st) m := rfl
theorem x_lstore8i {b0 b1 b2 b3 b4 b5 b6 : Value} {p : Int32} {x : Int64} {w w2 : Value} : s_x X d c (.lstore 8 :: is) (b0 :: b1 :: b2 :: b3 :: b4 :: b5 :: b6 :: .int p :: w :: w2 :: l) (.long x :: st) m = s_x X d c is (b0 :: b1 :: b2 :: b3 :: b4 :: b5 :: b6 :: .int p :: .long x :: .retAddr 0 :: l) (st) m := rfl
theorem x_iinc8i {b0 b1 b2 b3 b4 b5 b6 : Value} {p : Int32} {x : Int} {v : Int} : s_x X d c (.iinc 8 v :: is) (b0 :: b1 :: b2 :: b3 :: b4 :: b5 :: b6 :: .int p :: .int (iI x) :: l) (st) m = s_x X d c is (b0 :: b1 :: b2 :: b3 :: b4 :: b5 :: b6 :: .int p :: .int (iI (x + v)) :: l) (st) m := (congrArg (fun z => s_x X d c is (b0 :: b1 :: b2 :: b3 :: b4 :: b5 :: b6 :: .int p :: .int z :: l) st m) (iI_add x v))
theorem x_istore8r {b0 b1 b2 b3 b4 b5 b6 : Value} {p : Nat} {x : Int32} {w : Value} : s_x X d c (.istore 8 :: is) (b0 :: b1 :: b2 :: b3 :: b4 :: b5 :: b6 :: .ref p :: w :: l) (.int x :: st) m = s_x X d c is (b0 :: b1 :: b2 :: b3 :: b4 :: b5 :: b6 :: .ref p :: .int x :: l) (st) m := rfl
theorem x_astore8r {b0 b1 b2 b3 b4 b5 b6 : Value} {p : Nat} {x : Nat} {w : Value} : s_x X d c (.astore 8 :: is) (b0 :: b1 :: b2 :: b3 :: b4 :: b5 :: b6 :: .ref p :: w :: l) (.ref x :: st) m = s_x X d c is (b0 :: b1 :: b2 :: b3 :: b4 :: b5 :: b6 :: .ref p :: .ref x :: l) (st) m := rfl
theorem x_lstore8r {b0 b1 b2 b3 b4 b5 b6 : Value} {p : Nat} {x : Int64} {w w2 : Value} : s_x X d c (.lstore 8 :: is) (b0 :: b1 :: b2 :: b3 :: b4 :: b5 :: b6 :: .ref p :: w :: w2 :: l) (.long x :: st) m = s_x X d c is (b0 :: b1 :: b2 :: b3 :: b4 :: b5 :: b6 :: .ref p :: .long x :: .retAddr 0 :: l) (st) m := rfl
theorem x_iinc8r {b0 b1 b2 b3 b4 b5 b6 : Value} {p : Nat} {x : Int} {v : Int} : s_x X d c (.iinc 8 v :: is) (b0 :: b1 :: b2 :: b3 :: b4 :: b5 :: b6 :: .ref p :: .int (iI x) :: l) (st) m = s_x X d c is (b0 :: b1 :: b2 :: b3 :: b4 :: b5 :: b6 :: .ref p :: .int (iI (x + v)) :: l) (st) m := (congrArg (fun z => s_x X d c is (b0 :: b1 :: b2 :: b3 :: b4 :: b5 :: b6 :: .ref p :: .int z :: l) st m) (iI_add x v))
theorem x_istore8u {b0 b1 b2 b3 b4 b5 b6 : Value} {p : Nat} {x : Int32} {w : Value} : s_x X d c (.istore 8 :: is) (b0 :: b1 :: b2 :: b3 :: b4 :: b5 :: b6 :: .retAddr p :: w :: l) (.int x :: st) m = s_x X d c is (b0 :: b1 :: b2 :: b3 :: b4 :: b5 :: b6 :: .retAddr p :: .int x :: l) (st) m := rfl
theorem x_astore8u {b0 b1 b2 b3 b4 b5 b6 : Value} {p : Nat} {x : Nat} {w : Value} : s_x X d c (.astore 8 :: is) (b0 :: b1 :: b2 :: b3 :: b4 :: b5 :: b6 :: .retAddr p :: w :: l) (.ref x :: st) m = s_x X d c is (b0 :: b1 :: b2 :: b3 :: b4 :: b5 :: b6 :: .retAddr p :: .ref x :: l) (st) m := rfl
theorem x_lstore8u {b0 b1 b2 b3 b4 b5 b6 : Value} {p : Nat} {x : Int64} {w w2 : Value} : s_x X d c (.lstore 8 :: is) (b0 :: b1 :: b2 :: b3 :: b4 :: b5 :: b6 :: .retAddr p :: w :: w2 :: l) (.long x :: st) m = s_x X d c is (b0 :: b1 :: b2 :: b3 :: b4 :: b5 :: b6 :: .retAddr p :: .long x :: .retAddr 0 :: l) (st) m := rfl
theorem x_iinc8u {b0 b1 b2 b3 b4 b5 b6 : Value} {p : Nat} {x : Int} {v : Int} : s_x X d c (.iinc 8 v :: is) (b0 :: b1 :: b2 :: b3 :: b4 :: b5 :: b6 :: .retAddr p :: .int (iI x) :: l) (st) m = s_x X d c is (b0 :: b1 :: b2 :: b3 :: b4 :: b5 :: b6 :: .retAddr p :: .int (iI (x + v)) :: l) (st) m := (congrArg (fun z => s_x X d c is (b0 :: b1 :: b2 :: b3 :: b4 :: b5 :: b6 :: .retAddr p :: .int z :: l) st m) (iI_add x v))
theorem x_iload9 {b0 b1 b2 b3 b4 b5 b6 b7 b8 : Value} {x : Int32} : s_x X d c (.iload 9 :: is) (b0 :: b1 :: b2 :: b3 :: b4 :: b5 :: b6 :: b7 :: b8 :: .int x :: l) (st) m = s_x X d c is (b0 :: b1 :: b2 :: b3 :: b4 :: b5 :: b6 :: b7 :: b8 :: .int x :: l) (.int x :: st) m := rfl
theorem x_aload9 {b0 b1 b2 b3 b4 b5 b6 b7 b8 : Value} {x : Nat} : s_x X d c (.aload 9 :: is) (b0 :: b1 :: b2 :: b3 :: b4 :: b5 :: b6 :: b7 :: b8 :: .ref x :: l) (st) m = s_x X d c is (b0 :: b1 :: b2 :: b3 :: b4 :: b5 :: b6 :: b7 :: b8 :: .ref x :: l) (.ref x :: st) m := rfl
theorem x_lload9 {b0 b1 b2 b3 b4 b5 b6 b7 b8 : Value} {x : Int64} : s_x X d c (.lload 9 :: is) (b0 :: b1 :: b2 :: b3 :: b4 :: b5 :: b6 :: b7 :: b8 :: .long x :: l) (st) m = s_x X d c is (b0 :: b1 :: b2 :: b3 :: b4 :: b5 :: b6 :: b7 :: b8 :: .long x :: l) (.long x :: st) m := rfl
theorem x_istore9i {b0 b1 b2 b3 b4 b5 b6 b7 : Value} {p : Int32} {x : Int32} {w : Value} : s_x X d c (.istore 9 :: is) (b0 :: b1 :: b2 :: b3 :: b4 :: b5 :: b6 :: b7 :: .int p :: w :: l) (.int x :: st) m = s_x X d c is (b0 :: b1 :: b2 :: b3 :: b4 :: b5 :: b6 :: b7 :: .int p :: .int x :: l) (st) m := rfl
theorem x_astore9i {b0 b1 b2 b3 b4 b5 b6 b7 : Value} {p : Int32} {x : Nat} {w : Value} : s_x X d c (.astore 9 :: is) (b0 :: b1 :: b2 :: b3 :: b4 :: b5 :: b6 :: b7 :: .int p :: w :: l) (.ref x :: st) m = s_x X d c is (b0 :: b1 :: b2 :: b3 :: b4 :: b5 :: b6 :: b7 :: .int p :: .ref x :: l) (st) m := rfl
theorem x_lstore9i {b0 b1 b2 b3 b4 b5 b6 b7 : Value} {p : Int32} {x : Int64} {w w2 : Value} : s_x X d c (.lstore 9 :: is) (b0 :: b1 :: b2 :: b3 :: b4 :: b5 :: b6 :: b7 :: .int p :: w :: w2 :: l) (.long x :: st) m = s_x X d c is (b0 :: b1 :: b2 :: b3 :: b4 :: b5 :: b6 :: b7 :: .int p :: .long x :: .retAddr 0 :: l) (st) m := rfl
theorem x_iinc9i {b0 b1 b2 b3 b4 b5 b6 b7 : Value} {p : Int32} {x : Int} {v : Int} : s_x X d c (.iinc 9 v :: is) (b0 :: b1 :: b2 :: b3 :: b4 :: b5 :: b6 :: b7 :: .int p :: .int (iI x) :: l) (st) m = s_x X d c is (b0 :: b1 :: b2 :: b3 :: b4 :: b5 :: b6 :: b7 :: .int p :: .int (iI (x + v)) :: l) (st) m := (congrArg (fun z => s_x X d c is (b0 :: b1 :: b2 :: b3 :: b4 :: b5 :: b6 :: b7 :: .int p :: .int z :: l) st m) (iI_add x v))
theorem x_istore9r {b0 b1 b2 b3 b4 b5 b6 b7 : Value} {p : Nat} {x : Int32} {w : Value} : s_x X d c (.istore 9 :: is) (b0 :: b1 :: b2 :: b3 :: b4 :: b5 :: b6 :: b7 :: .ref p :: w :: l) (.int x :: st) m = s_x X d c is (b0 :: b1 :: b2 :: b3 :: b4 :: b5 :: b6 :: b7 :: .ref p :: .int x :: l) (st) m := rfl
theorem x_astore9r {b0 b1 b2 b3 b4 b5 b6 b7 : Value} {p : Nat} {x : Nat} {w : Value} : s_x X d c (.astore 9 :: is) (b0 :: b1 :: b2 :: b3 :: b4 :: b5 :: b6 :: b7 :: .ref p :: w :: l) (.ref x :: st) m = s_x X d c is (b0 :: b1 :: b2 :: b3 :: b4 :: b5 :: b6 :: b7 :: .ref p :: .ref x :: l) (st) m := rfl
theorem x_lstore9r {b0 b1 b2 b3 b4 b5 b6 b7 : Value} {p : Nat} {x : Int64} {w w2 : Value} : s_x X d c (.lstore 9 :: is) (b0 :: b1 :: b2 :: b3 :: b4 :: b5 :: b6 :: b7 :: .ref p :: w :: w2 :: l) (.long x :: st) m = s_x X d c is (b0 :: b1 :: b2 :: b3 :: b4 :: b5 :: b6 :: b7 :: .ref p :: .long x :: .retAddr 0 :: l) (st) m := rfl
theorem x_iinc9r {b0 b1 b2 b3 b4 b5 b6 b7 : Value} {p : Nat} {x : Int} {v : Int} : s_x X d c (.iinc 9 v :: is) (b0 :: b1 :: b2 :: b3 :: b4 :: b5 :: b6 :: b7 :: .ref p :: .int (iI x) :: l) (st) m = s_x X d c is (b0 :: b1 :: b2 :: b3 :: b4 :: b5 :: b6 :: b7 :: .ref p :: .int (iI (x + v)) :: l) (st) m := (congrArg (fun z => s_x X d c is (b0 :: b1 :: b2 :: b3 :: b4 :: b5 :: b6 :: b7 :: .ref p :: .int z :: l) st m) (iI_add x v))
theorem x_istore9u {b0 b1 b2 b3 b4 b5 b6 b7 : Value} {p : Nat} {x : Int32} {w : Value} : s_x X d c (.istore 9 :: is) (b0 :: b1 :: b2 :: b3 :: b4 :: b5 :: b6 :: b7 :: .retAddr p :: w :: l) (.int x :: st) m = s_x X d c is (b0 :: b1 :: b2 :: b3 :: b4 :: b5 :: b6 :: b7 :: .retAddr p :: .int x :: l) (st) m := rfl
theorem x_astore9u {b0 b1 b2 b3 b4 b5 b6 b7 : Value} {p : Nat} {x : Nat} {w : Value} : s_x X d c (.astore 9 :: is) (b0 :: b1 :: b2 :: b3 :: b4 :: b5 :: b6 :: b7 :: .retAddr p :: w :: l) (.ref x :: st) m = s_x X d c is (b0 :: b1 :: b2 :: b3 :: b4 :: b5 :: b6 :: b7 :: .retAddr p :: .ref x :: l) (st) m := rfl
theorem x_lstore9u {b0 b1 b2 b3 b4 b5 b6 b7 : Value} {p : Nat} {x : Int64} {w w2 : Value} : s_x X d c (.lstore 9 :: is) (b0 :: b1 :: b2 :: b3 :: b4 :: b5 :: b6 :: b7 :: .retAddr p :: w :: w2 :: l) (.long x :: st) m = s_x X d c is (b0 :: b1 :: b2 :: b3 :: b4 :: b5 :: b6 :: b7 :: .retAddr p :: .long x :: .retAddr 0 :: l) (st) m := rfl
theorem x_iinc9u {b0 b1 b2 b3 b4 b5 b6 b7 : Value} {p : Nat} {x : Int} {v : Int} : s_x X d c (.iinc 9 v :: is) (b0 :: b1 :: b2 :: b3 :: b4 :: b5 :: b6 :: b7 :: .retAddr p :: .int (iI x) :: l) (st) m = s_x X d c is (b0 :: b1 :: b2 :: b3 :: b4 :: b5 :: b6 :: b7 :: .retAddr p :: .int (iI (x + v)) :: l) (st) m := (congrArg (fun z => s_x X d c is (b0 :: b1 :: b2 :: b3 :: b4 :: b5 :: b6 :: b7 :: .retAddr p :: .int z :: l) st m) (iI_add x v))
theorem x_iload10 {b0 b1 b2 b3 b4 b5 b6 b7 b8 b9 : Value} {x : Int32} : s_x X d c (.iload 10 :: is) (b0 :: b1 :: b2 :: b3 :: b4 :: b5 :: b6 :: b7 :: b8 :: b9 :: .int x :: l) (st) m = s_x X d c is (b0 :: b1 :: b2 :: b3 :: b4 :: b5 :: b6 :: b7 :: b8 :: b9 :: .int x :: l) (.int x :: st) m := rfl
theorem x_aload10 {b0 b1 b2 b3 b4 b5 b6 b7 b8 b9 : Value} {x : Nat} : s_x X d c (.aload 10 :: is) (b0 :: b1 :: b2 :: b3 :: b4 :: b5 :: b6 :: b7 :: b8 :: b9 :: .ref x :: l) (st) m = s_x X d c is (b0 :: b1 :: b2 :: b3 :: b4 :: b5 :: b6 :: b7 :: b8 :: b9 :: .ref x :: l) (.ref x :: st) m := rfl
theorem x_lload10 {b0 b1 b2 b3 b4 b5 b6 b7 b8 b9 : Value} {x : Int64} : s_x X d c (.lload 10 :: is) (b0 :: b1 :: b2 :: b3 :: b4 :: b5 :: b6 :: b7 :: b8 :: b9 :: .long x :: l) (st) m = s_x X d c is (b0 :: b1 :: b2 :: b3 :: b4 :: b5 :: b6 :: b7 :: b8 :: b9 :: .long x :: l) (.long x :: st) m := rfl
theorem x_istore10i {b0 b1 b2 b3 b4 b5 b6 b7 b8 : Value} {p : Int32} {x : Int32} {w : Value} : s_x X d c (.istore 10 :: is) (b0 :: b1 :: b2 :: b3 :: b4 :: b5 :: b6 :: b7 :: b8 :: .int p :: w :: l) (.int x :: st) m = s_x X d c is (b0 :: b1 :: b2 :: b3 :: b4 :: b5 :: b6 :: b7 :: b8 :: .int p :: .int x :: l) (st) m := rfl
theorem x_astore10i {b0 b1 b2 b3 b4 b5 b6 b7 b8 : Value} {p : Int32} {x : Nat} {w : Value} : s_x X d c (.astore 10 :: is) (b0 :: b1 :: b2 :: b3 :: b4 :: b5 :: b6 :: b7 :: b8 :: .int p :: w :: l) (.ref x :: st) m = s_x X d c is (b0 :: b1 :: b2 :: b3 :: b4 :: b5 :: b6 :: b7 :: b8 :: .int p :: .ref x :: l) (st) m := rfl
theorem x_lstore10i {b0 b1 b2 b3 b4 b5 b6 b7 b8 : Value} {p : Int32} {x : Int64} {w w2 : Value} : s_x X d c (.lstore 10 :: is) (b0 :: b1 :: b2 :: b3 :: b4 :: b5 :: b6 :: b7 :: b8 :: .int p :: w :: w2 :: l) (.long x :: st) m = s_x X d c is (b0 :: b1 :: b2 :: b3 :: b4 :: b5 :: b6 :: b7 :: b8 :: .int p :: .long x :: .retAddr 0 :: l) (st) m := rfl
theorem x_iinc10i {b0 b1 b2 b3 b4 b5 b6 b7 b8 : Value} {p : Int32} {x : Int} {v : Int} : s_x X d c (.iinc 10 v :: is) (b0 :: b1 :: b2 :: b3 :: b4 :: b5 :: b6 :: b7 :: b8 :: .int p :: .int (iI x) :: l) (st) m = s_x X d c is (b0 :: b1 :: b2 :: b3 :: b4 :: b5 :: b6 :: b7 :: b8 :: .int p :: .int (iI (x + v)) :: l) (st) m := (congrArg (fun z => s_x X d c is (b0 :: b1 :: b2 :: b3 :: b4 :: b5 :: b6 :: b7 :: b8 :: .int p :: .int z :: l) st m) (iI_add x v))
theorem x_istore10r {b0 b1 b2 b3 b4 b5 b6 b7 b8 : Value} {p : Nat} {x : Int32} {w : Value} : s_x X d c (.istore 10 :: is) (b0 :: b1 :: b2 :: b3 :: b4 :: b5 :: b6 :: b7 :: b8 :: .ref p :: w :: l) (.int x :: st) m = s_x X d c is (b0 :: b1 :: b2 :: b3 :: b4 :: b5 :: b6 :: b7 :: b8 :: .ref p :: .int x :: l) (st) m := rfl
theorem x_astore10r {b0 b1 b2 b3 b4 b5 b6 b7 b8 : Value} {p : Nat} {x : Nat} {w : Value} : s_x X d c (.astore 10 :: is) (b0 :: b1 :: b2 :: b3 :: b4 :: b5 :: b6 :: b7 :: b8 :: .ref p :: w :: l) (.ref x :: st) m = s_x X d c is (b0 :: b1 :: b2 :: b3 :: b4 :: b5 :: b6 :: b7 :: b8 :: .ref p :: .ref x :: l) (st) m := rfl
theorem x_lstore10r {b0 b1 b2 b3 b4 b5 b6 b7 b8 : Value} {p : Nat} {x : Int64} {w w2 : Value} : s_x X d c (.lstore 10 :: is) (b0 :: b1 :: b2 :: b3 :: b4 :: b5 :: b6 :: b7 :: b8 :: .ref p :: w :: w2 :: l) (.long x :: st) m = s_x X d c is (b0 :: b1 :: b2 :: b3 :: b4 :: b5 :: b6 :: b7 :: b8 :: .ref p :: .long x :: .retAddr 0 :: l) (st) m := rfl
theorem x_iinc10r {b0 b1 b2 b3 b4 b5 b6 b7 b8 : Value} {p : Nat} {x : Int} {v : Int} : s_x X d c (.iinc 10 v :: is) (b0 :: b1 :: b2 :: b3 :: b4 :: b5 :: b6 :: b7 :: b8 :: .ref p :: .int (iI x) :: l) (st) m = s_x X d c is (b0 :: b1 :: b2 :: b3 :: b4 :: b5 :: b6 :: b7 :: b8 :: .ref p :: .int (iI (x + v)) :: l) (st) m := (congrArg (fun z => s_x X d c is (b0 :: b1 :: b2 :: b3 :: b4 :: b5 :: b6 :: b7 :: b8 :: .ref p :: .int z :: l) st m) (iI_add x v))
theorem x_istore10u {b0 b1 b2 b3 b4 b5 b6 b7 b8 : Value} {p : Nat} {x : Int32} {w : Value} : s_x X d c (.istore 10 :: is) (b0 :: b1 :: b2 :: b3 :: b4 :: b5 :: b6 :: b7 :: b8 :: .retAddr p :: w :: l) (.int x :: st) m = s_x X d c is (b0 :: b1 :: b2 :: b3 :: b4 :: b5 :: b6 :: b7 :: b8 :: .retAddr p :: .int x :: l) (st) m := rfl
theorem x_astore10u {b0 b1 b2 b3 b4 b5 b6 b7 b8 : Value} {p : Nat} {x : Nat} {w : Value} : s_x X d c (.astore 10 :: is) (b0 :: b1 :: b2 :: b3 :: b4 :: b5 :: b6 :: b7 :: b8 :: .retAddr p :: w :: l) (.ref x :: st) m = s_x X d c is (b0 :: b1 :: b2 :: b3 :: b4 :: b5 :: b6 :: b7 :: b8 :: .retAddr p :: .ref x :: l) (st) m := rfl
theorem x_lstore10u {b0 b1 b2 b3 b4 b5 b6 b7 b8 : Value} {p : Nat} {x : Int64} {w w2 : Value} : s_x X d c (.lstore 10 :: is) (b0 :: b1 :: b2 :: b3 :: b4 :: b5 :: b6 :: b7 :: b8 :: .retAddr p :: w :: w2 :: l) (.long x :: st) m = s_x X d c is (b0 :: b1 :: b2 :: b3 :: b4 :: b5 :: b6 :: b7 :: b8 :: .retAddr p :: .long x :: .retAddr 0 :: l) (st) m := rfl
theorem x_iinc10u {b0 b1 b2 b3 b4 b5 b6 b7 b8 : Value} {p : Nat} {x : Int} {v : Int} : s_x X d c (.iinc 10 v :: is) (b0 :: b1 :: b2 :: b3 :: b4 :: b5 :: b6 :: b7 :: b8 :: .retAddr p :: .int (iI x) :: l) (st) m = s_x X d c is (b0 :: b1 :: b2 :: b3 :: b4 :: b5 :: b6 :: b7 :: b8 :: .retAddr p :: .int (iI (x + v)) :: l) (st) m := (congrArg (fun z => s_x X d c is (b0 :: b1 :: b2 :: b3 :: b4 :: b5 :: b6 :: b7 :: b8 :: .retAddr p :: .int z :: l) st m) (iI_add x v))
theorem x_iadd {x y : Int} : s_x X d c (.iadd :: is) (ls) (.int (iI y) :: .int (iI x) :: st) m = s_x X d c is (ls) (.int (iI (x + y)) :: st) m := congrArg (fun z => s_x X d c is ls (.int z :: st) m) (iI_add x y)
theorem x_isub {x y : Int} : s_x X d c (.isub :: is) (ls) (.int (iI y) :: .int (iI x) :: st) m = s_x X d c is (ls) (.int (iI (x - y)) :: st) m := congrArg (fun z => s_x X d c is ls (.int z :: st) m) (iI_sub x y)
theorem x_imul {x y : Int} : s_x X d c (.imul :: is) (ls) (.int (iI y) :: .int (iI x) :: st) m = s_x X d c is (ls) (.int (iI (x * y)) :: st) m := congrArg (fun z => s_x X d c is ls (.int z :: st) m) (iI_mul x y)
theorem x_iand {x y : Int32} : s_x X d c (.iand :: is) (ls) (.int y :: .int x :: st) m = s_x X d c is (ls) (.int (x &&& y) :: st) m := rfl
theorem x_ior {x y : Int32} : s_x X d c (.ior :: is) (ls) (.int y :: .int x :: st) m = s_x X d c is (ls) (.int (x ||| y) :: st) m := rfl
theorem x_ixor {x y : Int32} : s_x X d c (.ixor :: is) (ls) (.int y :: .int x :: st) m = s_x X d c is (ls) (.int (x ^^^ y) :: st) m := rfl
theorem x_ishl {x y : Int32} : s_x X d c (.ishl :: is) (ls) (.int y :: .int x :: st) m = s_x X d c is (ls) (.int (x <<< (y &&& 31)) :: st) m := rfl
theorem x_ishr {x y : Int32} : s_x X d c (.ishr :: is) (ls) (.int y :: .int x :: st) m = s_x X d c is (ls) (.int (x >>> (y &&& 31)) :: st) m := rfl
theorem x_iushr {x y : Int32} : s_x X d c (.iushr :: is) (ls) (.int y :: .int x :: st) m = s_x X d c is (ls) (.int ((x.toUInt32 >>> (y.toUInt32 &&& Int32.toUInt32 31)).toInt32) :: st) m := rfl
theorem x_idiv {x y : Int32} (h : ¬ y = 0) : s_x X d c (.idiv :: is) (ls) (.int y :: .int x :: st) m = s_x X d c is (ls) (.int (x / y) :: st) m := by
  simp only [s_x, e_x, e_st, e_id, if_neg h]
theorem x_irem {x y : Int32} (h : ¬ y = 0) : s_x X d c (.irem :: is) (ls) (.int y :: .int x :: st) m = s_x X d c is (ls) (.int (x % y) :: st) m := by
  simp only [s_x, e_x, e_st, e_id, if_neg h]
theorem x_idivI {x y : Int} (h : rg x ∧ 0 < y ∧ y < 2147483648) : s_x X d c (.idiv :: is) (ls) (.int (iI y) :: .int (iI x) :: st) m = s_x X d c is (ls) (.int (iI (Int.tdiv x y)) :: st) m := by
  rw [x_idiv (iI_n0 ⟨h.2.1, h.2.2⟩), iI_div h.1 h.2.1 h.2.2]
theorem x_iremI {x y : Int} (h : rg x ∧ 0 < y ∧ y < 2147483648) : s_x X d c (.irem :: is) (ls) (.int (iI y) :: .int (iI x) :: st) m = s_x X d c is (ls) (.int (iI (Int.tmod x y)) :: st) m := by
  rw [x_irem (iI_n0 ⟨h.2.1, h.2.2⟩), iI_rem h.1 h.2.1 h.2.2]
theorem x_ineg {x : Int} : s_x X d c (.ineg :: is) (ls) (.int (iI x) :: st) m = s_x X d c is (ls) (.int (iI (-x)) :: st) m := congrArg (fun z => s_x X d c is ls (.int z :: st) m) (iI_neg x)
theorem x_i2b {x : Int32} : s_x X d c (.i2b :: is) (ls) (.int x :: st) m = s_x X d c is (ls) (.int (x.toInt8.toInt32) :: st) m := rfl
theorem x_i2s {x : Int32} : s_x X d c (.i2s :: is) (ls) (.int x :: st) m = s_x X d c is (ls) (.int (x.toInt16.toInt32) :: st) m := rfl
theorem x_i2c {x : Int32} : s_x X d c (.i2c :: is) (ls) (.int x :: st) m = s_x X d c is (ls) (.int ((x.toUInt32 % 65536).toInt32) :: st) m := rfl
theorem x_ladd {x y : Int64} : s_x X d c (.ladd :: is) (ls) (.long y :: .long x :: st) m = s_x X d c is (ls) (.long (x + y) :: st) m := rfl
theorem x_lsub {x y : Int64} : s_x X d c (.lsub :: is) (ls) (.long y :: .long x :: st) m = s_x X d c is (ls) (.long (x - y) :: st) m := rfl
theorem x_land {x y : Int64} : s_x X d c (.land :: is) (ls) (.long y :: .long x :: st) m = s_x X d c is (ls) (.long (x &&& y) :: st) m := rfl
theorem x_lor {x y : Int64} : s_x X d c (.lor :: is) (ls) (.long y :: .long x :: st) m = s_x X d c is (ls) (.long (x ||| y) :: st) m := rfl
theorem x_lxor {x y : Int64} : s_x X d c (.lxor :: is) (ls) (.long y :: .long x :: st) m = s_x X d c is (ls) (.long (x ^^^ y) :: st) m := rfl
theorem x_lshl {x : Int64} {y : Int32} : s_x X d c (.lshl :: is) (ls) (.int y :: .long x :: st) m = s_x X d c is (ls) (.long (x <<< (y.toInt64 &&& 63)) :: st) m := rfl
theorem x_lshr {x : Int64} {y : Int32} : s_x X d c (.lshr :: is) (ls) (.int y :: .long x :: st) m = s_x X d c is (ls) (.long (x >>> (y.toInt64 &&& 63)) :: st) m := rfl
theorem x_lushr {x : Int64} {y : Int32} : s_x X d c (.lushr :: is) (ls) (.int y :: .long x :: st) m = s_x X d c is (ls) (.long ((x.toUInt64 >>> (y.toInt64.toUInt64 &&& Int64.toUInt64 63)).toInt64) :: st) m := rfl
theorem x_dadd_0 {x y : Int} (h : rg x ∧ rg y) : s_x X d c (.dadd :: is) (ls) ([.int (iI y), .int (iI x)]) m = s_x X d c is (ls) ([.int (iI (max x y))]) m := congrArg (fun z => s_x X d c is ls [.int z] m) (iI_max h.1 h.2)
theorem x_dsub_0 {x y : Int} (h : rg x ∧ rg y) : s_x X d c (.dsub :: is) (ls) ([.int (iI y), .int (iI x)]) m = s_x X d c is (ls) ([.int (iI (min x y))]) m := congrArg (fun z => s_x X d c is ls [.int z] m) (iI_min h.1 h.2)
theorem x_dneg_0 {x : Int} (h : rg x) : s_x X d c (.dneg :: is) (ls) ([.int (iI x)]) m = s_x X d c is (ls) ([.int (iI (iabs x))]) m := congrArg (fun z => s_x X d c is ls [.int z] m) (iI_abs h)
theorem x_pop2_0 {x : Nat} : s_x X d c (.pop2 :: is) (ls) ([.ref x]) m = s_x X d c is (ls) ([]) m := rfl
theorem x_dadd_1 {x y : Int} {s0 : Value} (h : rg x ∧ rg y) : s_x X d c (.dadd :: is) (ls) ([.int (iI y), .int (iI x), s0]) m = s_x X d c is (ls) ([.int (iI (max x y)), s0]) m := congrArg (fun z => s_x X d c is ls [.int z, s0] m) (iI_max h.1 h.2)
theorem x_dsub_1 {x y : Int} {s0 : Value} (h : rg x ∧ rg y) : s_x X d c (.dsub :: is) (ls) ([.int (iI y), .int (iI x), s0]) m = s_x X d c is (ls) ([.int (iI (min x y)), s0]) m := congrArg (fun z => s_x X d c is ls [.int z, s0] m) (iI_min h.1 h.2)
theorem x_dneg_1 {x : Int} {s0 : Value} (h : rg x) : s_x X d c (.dneg :: is) (ls) ([.int (iI x), s0]) m = s_x X d c is (ls) ([.int (iI (iabs x)), s0]) m := congrArg (fun z => s_x X d c is ls [.int z, s0] m) (iI_abs h)
theorem x_pop2_1 {x : Nat} {s0 : Value} : s_x X d c (.pop2 :: is) (ls) ([.ref x, s0]) m = s_x X d c is (ls) ([s0]) m := rfl
theorem x_dadd_2 {x y : Int} {s0 s1 : Value} (h : rg x ∧ rg y) : s_x X d c (.dadd :: is) (ls) ([.int (iI y), .int (iI x), s0, s1]) m = s_x X d c is (ls) ([.int (iI (max x y)), s0, s1]) m := congrArg (fun z => s_x X d c is ls [.int z, s0, s1] m) (iI_max h.1 h.2)
theorem x_dsub_2 {x y : Int} {s0 s1 : Value} (h : rg x ∧ rg y) : s_x X d c (.dsub :: is) (ls) ([.int (iI y), .int (iI x), s0, s1]) m = s_x X d c is (ls) ([.int (iI (min x y)), s0, s1]) m := congrArg (fun z => s_x X d c is ls [.int z, s0, s1] m) (iI_min h.1 h.2)
theorem x_dneg_2 {x : Int} {s0 s1 : Value} (h : rg x) : s_x X d c (.dneg :: is) (ls) ([.int (iI x), s0, s1]) m = s_x X d c is (ls) ([.int (iI (iabs x)), s0, s1]) m := congrArg (fun z => s_x X d c is ls [.int z, s0, s1] m) (iI_abs h)
theorem x_pop2_2 {x : Nat} {s0 s1 : Value} : s_x X d c (.pop2 :: is) (ls) ([.ref x, s0, s1]) m = s_x X d c is (ls) ([s0, s1]) m := rfl
theorem x_dadd_3 {x y : Int} {s0 s1 s2 : Value} (h : rg x ∧ rg y) : s_x X d c (.dadd :: is) (ls) ([.int (iI y), .int (iI x), s0, s1, s2]) m = s_x X d c is (ls) ([.int (iI (max x y)), s0, s1, s2]) m := congrArg (fun z => s_x X d c is ls [.int z, s0, s1, s2] m) (iI_max h.1 h.2)
theorem x_dsub_3 {x y : Int} {s0 s1 s2 : Value} (h : rg x ∧ rg y) : s_x X d c (.dsub :: is) (ls) ([.int (iI y), .int (iI x), s0, s1, s2]) m = s_x X d c is (ls) ([.int (iI (min x y)), s0, s1, s2]) m := congrArg (fun z => s_x X d c is ls [.int z, s0, s1, s2] m) (iI_min h.1 h.2)
theorem x_dneg_3 {x : Int} {s0 s1 s2 : Value} (h : rg x) : s_x X d c (.dneg :: is) (ls) ([.int (iI x), s0, s1, s2]) m = s_x X d c is (ls) ([.int (iI (iabs x)), s0, s1, s2]) m := congrArg (fun z => s_x X d c is ls [.int z, s0, s1, s2] m) (iI_abs h)
theorem x_pop2_3 {x : Nat} {s0 s1 s2 : Value} : s_x X d c (.pop2 :: is) (ls) ([.ref x, s0, s1, s2]) m = s_x X d c is (ls) ([s0, s1, s2]) m := rfl
theorem x_dadd_4 {x y : Int} {s0 s1 s2 s3 : Value} (h : rg x ∧ rg y) : s_x X d c (.dadd :: is) (ls) ([.int (iI y), .int (iI x), s0, s1, s2, s3]) m = s_x X d c is (ls) ([.int (iI (max x y)), s0, s1, s2, s3]) m := congrArg (fun z => s_x X d c is ls [.int z, s0, s1, s2, s3] m) (iI_max h.1 h.2)
theorem x_dsub_4 {x y : Int} {s0 s1 s2 s3 : Value} (h : rg x ∧ rg y) : s_x X d c (.dsub :: is) (ls) ([.int (iI y), .int (iI x), s0, s1, s2, s3]) m = s_x X d c is (ls) ([.int (iI (min x y)), s0, s1, s2, s3]) m := congrArg (fun z => s_x X d c is ls [.int z, s0, s1, s2, s3] m) (iI_min h.1 h.2)
theorem x_dneg_4 {x : Int} {s0 s1 s2 s3 : Value} (h : rg x) : s_x X d c (.dneg :: is) (ls) ([.int (iI x), s0, s1, s2, s3]) m = s_x X d c is (ls) ([.int (iI (iabs x)), s0, s1, s2, s3]) m := congrArg (fun z => s_x X d c is ls [.int z, s0, s1, s2, s3] m) (iI_abs h)
theorem x_pop2_4 {x : Nat} {s0 s1 s2 s3 : Value} : s_x X d c (.pop2 :: is) (ls) ([.ref x, s0, s1, s2, s3]) m = s_x X d c is (ls) ([s0, s1, s2, s3]) m := rfl
theorem x_lcmp {x y : Int64} : s_x X d c (.lcmp :: is) (ls) (.long y :: .long x :: st) m = s_x X d c is (ls) (.int (lg_cmp x y) :: st) m := rfl
theorem x_i2l {x : Int32} : s_x X d c (.i2l :: is) (ls) (.int x :: st) m = s_x X d c is (ls) (.long x.toInt64 :: st) m := rfl
theorem x_l2i {x : Int64} : s_x X d c (.l2i :: is) (ls) (.long x :: st) m = s_x X d c is (ls) (.int x.toInt32 :: st) m := rfl
theorem x_dup_i {x : Int32} : s_x X d c (.dup :: is) (ls) (.int x :: st) m = s_x X d c is (ls) (.int x :: .int x :: st) m := rfl
theorem x_dup_r {x : Nat} : s_x X d c (.dup :: is) (ls) (.ref x :: st) m = s_x X d c is (ls) (.ref x :: .ref x :: st) m := rfl
theorem x_pop {x : Int32} : s_x X d c (.pop :: is) (ls) (.int x :: st) m = s_x X d c is (ls) (st) m := rfl
theorem x_dup_x1 {x : Int32} {y : Nat} : s_x X d c (.dup_x1 :: is) (ls) (.int x :: .ref y :: st) m = s_x X d c is (ls) (.int x :: .ref y :: .int x :: st) m := rfl
theorem x_dup2 {x : Int32} {y : Nat} : s_x X d c (.dup2 :: is) (ls) (.int x :: .ref y :: st) m = s_x X d c is (ls) (.int x :: .ref y :: .int x :: .ref y :: st) m := rfl
theorem x_ifCond_eq {x : Int} {t : Int} (h : rg x) : s_x X d c (.ifCond .eq t :: is) (ls) (.int (iI x) :: st) m = if x = 0 then s_j X d c t ls st m else s_x X d c is (ls) (st) m := x_cd_eq (y := 0) ⟨h, by decide, by decide⟩
theorem x_ifCond_eqb {p : Prop} [Decidable p] {t : Int} : s_x X d c (.ifCond .eq t :: is) (ls) (.int (iI (if p then 1 else 0)) :: st) m = if p then s_x X d c is (ls) (st) m else s_j X d c t ls st m := by
  by_cases h : p
  · simp only [if_pos h]; rfl
  · simp only [if_neg h]; rfl
theorem x_if_icmp_eq {x y : Int} {t : Int} (h : rg x ∧ rg y) : s_x X d c (.if_icmp .eq t :: is) (ls) (.int (iI y) :: .int (iI x) :: st) m = if x = y then s_j X d c t ls st m else s_x X d c is (ls) (st) m := x_cd_eq (y := y) h
theorem x_ifCond_ne {x : Int} {t : Int} (h : rg x) : s_x X d c (.ifCond .ne t :: is) (ls) (.int (iI x) :: st) m = if x = 0 then s_x X d c is (ls) (st) m else s_j X d c t ls st m := x_cd_ne (y := 0) ⟨h, by decide, by decide⟩
theorem x_ifCond_neb {p : Prop} [Decidable p] {t : Int} : s_x X d c (.ifCond .ne t :: is) (ls) (.int (iI (if p then 1 else 0)) :: st) m = if p then s_j X d c t ls st m else s_x X d c is (ls) (st) m := by
  by_cases h : p
  · simp only [if_pos h]; rfl
  · simp only [if_neg h]; rfl
theorem x_if_icmp_ne {x y : Int} {t : Int} (h : rg x ∧ rg y) : s_x X d c (.if_icmp .ne t :: is) (ls) (.int (iI y) :: .int (iI x) :: st) m = if x = y then s_x X d c is (ls) (st) m else s_j X d c t ls st m := x_cd_ne (y := y) h
theorem x_ifCond_lt {x : Int} {t : Int} (h : rg x) : s_x X d c (.ifCond .lt t :: is) (ls) (.int (iI x) :: st) m = if x < 0 then s_j X d c t ls st m else s_x X d c is (ls) (st) m := x_cd_lt (y := 0) ⟨h, by decide, by decide⟩
theorem x_if_icmp_lt {x y : Int} {t : Int} (h : rg x ∧ rg y) : s_x X d c (.if_icmp .lt t :: is) (ls) (.int (iI y) :: .int (iI x) :: st) m = if x < y then s_j X d c t ls st m else s_x X d c is (ls) (st) m := x_cd_lt (y := y) h
theorem x_ifCond_ge {x : Int} {t : Int} (h : rg x) : s_x X d c (.ifCond .ge t :: is) (ls) (.int (iI x) :: st) m = if x < 0 then s_x X d c is (ls) (st) m else s_j X d c t ls st m := x_cd_ge (y := 0) ⟨h, by decide, by decide⟩
theorem x_if_icmp_ge {x y : Int} {t : Int} (h : rg x ∧ rg y) : s_x X d c (.if_icmp .ge t :: is) (ls) (.int (iI y) :: .int (iI x) :: st) m = if x < y then s_x X d c is (ls) (st) m else s_j X d c t ls st m := x_cd_ge (y := y) h
theorem x_ifCond_gt {x : Int} {t : Int} (h : rg x) : s_x X d c (.ifCond .gt t :: is) (ls) (.int (iI x) :: st) m = if 0 < x then s_j X d c t ls st m else s_x X d c is (ls) (st) m := x_cd_gt (y := 0) ⟨h, by decide, by decide⟩
theorem x_if_icmp_gt {x y : Int} {t : Int} (h : rg x ∧ rg y) : s_x X d c (.if_icmp .gt t :: is) (ls) (.int (iI y) :: .int (iI x) :: st) m = if y < x then s_j X d c t ls st m else s_x X d c is (ls) (st) m := x_cd_gt (y := y) h
theorem x_ifCond_le {x : Int} {t : Int} (h : rg x) : s_x X d c (.ifCond .le t :: is) (ls) (.int (iI x) :: st) m = if 0 < x then s_x X d c is (ls) (st) m else s_j X d c t ls st m := x_cd_le (y := 0) ⟨h, by decide, by decide⟩
theorem x_if_icmp_le {x y : Int} {t : Int} (h : rg x ∧ rg y) : s_x X d c (.if_icmp .le t :: is) (ls) (.int (iI y) :: .int (iI x) :: st) m = if y < x then s_x X d c is (ls) (st) m else s_j X d c t ls st m := x_cd_le (y := y) h
theorem x_goto {t : Int} : s_x X d c (.goto t :: is) (ls) (st) m = s_j X d c t ls st m := rfl
theorem x_jsr {t : Int} : s_x X d c (.jsr t :: is) (ls) (st) m = s_j X d c t ls st m := rfl
theorem x_switch {x : Int32} {e : Int} {ps : Array (Int × Int)} : s_x X d c (.lookupswitch e ps :: is) (ls) (.int x :: st) m = e_sw (fun t => s_g X d c t ls st m) e ps.toList x := rfl
theorem x_ireturn {x : Int32} : s_x X d c (.ireturn :: is) (ls) ([.int x]) m = some ([.int x], m) := rfl
theorem x_zret0 : s_x X d c (.areturn :: is) (ls) ([.int (iI 0)]) m = some ([.int (iI 0)], m) := rfl
theorem x_zret1 : s_x X d c (.areturn :: is) (ls) ([.int (iI 1)]) m = some ([.int (iI 1)], m) := rfl
theorem x_zretb {p : Prop} [Decidable p] : s_x X d c (.areturn :: is) (ls) ([.int (iI (if p then 1 else 0))]) m = some ([.int (iI (if p then 1 else 0))], m) := by
  by_cases h : p
  · simp only [if_pos h]; rfl
  · simp only [if_neg h]; rfl
theorem x_zret {x : Int32} (h : x = 0 ∨ x = 1) : s_x X d c (.areturn :: is) (ls) ([.int x]) m = some ([.int x], m) := by
  rcases h with rfl | rfl <;> rfl
theorem x_cret {x : Int32} (h : (x.toUInt32 % 65536).toInt32 = x) : s_x X d c (.freturn :: is) (ls) ([.int x]) m = some ([.int x], m) := by
  show (if _ then _ else _) = _
  rw [if_pos h]
theorem x_bret {x : Int32} (h : x.toInt8.toInt32 = x) : s_x X d c (.dreturn :: is) (ls) ([.int x]) m = some ([.int x], m) := by
  show (if _ then _ else _) = _
  rw [if_pos h]
theorem x_lreturn {x : Int64} : s_x X d c (.lreturn :: is) (ls) ([.long x]) m = some ([.long x], m) := rfl
theorem x_return : s_x X d c (.return_ :: is) (ls) ([]) m = some ([], m) := rfl
theorem x_call1_0 {e : Nat} {v0 : Value} : s_x X d c (.invokeinterface e 1 :: is) (ls) ([v0]) m = e_k (s_S X d e [v0] m) (fun r q => s_x X d c is ls (r ++ []) q) := rfl
theorem x_call1_1 {e : Nat} {v0 s0 : Value} : s_x X d c (.invokeinterface e 1 :: is) (ls) ([v0, s0]) m = e_k (s_S X d e [v0] m) (fun r q => s_x X d c is ls (r ++ [s0]) q) := rfl
theorem x_call1_2 {e : Nat} {v0 s0 s1 : Value} : s_x X d c (.invokeinterface e 1 :: is) (ls) ([v0, s0, s1]) m = e_k (s_S X d e [v0] m) (fun r q => s_x X d c is ls (r ++ [s0, s1]) q) := rfl
theorem x_call1_3 {e : Nat} {v0 s0 s1 s2 : Value} : s_x X d c (.invokeinterface e 1 :: is) (ls) ([v0, s0, s1, s2]) m = e_k (s_S X d e [v0] m) (fun r q => s_x X d c is ls (r ++ [s0, s1, s2]) q) := rfl
theorem x_call1_4 {e : Nat} {v0 s0 s1 s2 s3 : Value} : s_x X d c (.invokeinterface e 1 :: is) (ls) ([v0, s0, s1, s2, s3]) m = e_k (s_S X d e [v0] m) (fun r q => s_x X d c is ls (r ++ [s0, s1, s2, s3]) q) := rfl
theorem x_call2_0 {e : Nat} {v0 v1 : Value} : s_x X d c (.invokeinterface e 2 :: is) (ls) ([v1, v0]) m = e_k (s_S X d e [v0, v1] m) (fun r q => s_x X d c is ls (r ++ []) q) := rfl
theorem x_call2_1 {e : Nat} {v0 v1 s0 : Value} : s_x X d c (.invokeinterface e 2 :: is) (ls) ([v1, v0, s0]) m = e_k (s_S X d e [v0, v1] m) (fun r q => s_x X d c is ls (r ++ [s0]) q) := rfl
theorem x_call2_2 {e : Nat} {v0 v1 s0 s1 : Value} : s_x X d c (.invokeinterface e 2 :: is) (ls) ([v1, v0, s0, s1]) m = e_k (s_S X d e [v0, v1] m) (fun r q => s_x X d c is ls (r ++ [s0, s1]) q) := rfl
theorem x_call2_3 {e : Nat} {v0 v1 s0 s1 s2 : Value} : s_x X d c (.invokeinterface e 2 :: is) (ls) ([v1, v0, s0, s1, s2]) m = e_k (s_S X d e [v0, v1] m) (fun r q => s_x X d c is ls (r ++ [s0, s1, s2]) q) := rfl
theorem x_call2_4 {e : Nat} {v0 v1 s0 s1 s2 s3 : Value} : s_x X d c (.invokeinterface e 2 :: is) (ls) ([v1, v0, s0, s1, s2, s3]) m = e_k (s_S X d e [v0, v1] m) (fun r q => s_x X d c is ls (r ++ [s0, s1, s2, s3]) q) := rfl
theorem x_call3_0 {e : Nat} {v0 v1 v2 : Value} : s_x X d c (.invokeinterface e 3 :: is) (ls) ([v2, v1, v0]) m = e_k (s_S X d e [v0, v1, v2] m) (fun r q => s_x X d c is ls (r ++ []) q) := rfl
theorem x_call3_1 {e : Nat} {v0 v1 v2 s0 : Value} : s_x X d c (.invokeinterface e 3 :: is) (ls) ([v2, v1, v0, s0]) m = e_k (s_S X d e [v0, v1, v2] m) (fun r q => s_x X d c is ls (r ++ [s0]) q) := rfl
theorem x_call3_2 {e : Nat} {v0 v1 v2 s0 s1 : Value} : s_x X d c (.invokeinterface e 3 :: is) (ls) ([v2, v1, v0, s0, s1]) m = e_k (s_S X d e [v0, v1, v2] m) (fun r q => s_x X d c is ls (r ++ [s0, s1]) q) := rfl
theorem x_call3_3 {e : Nat} {v0 v1 v2 s0 s1 s2 : Value} : s_x X d c (.invokeinterface e 3 :: is) (ls) ([v2, v1, v0, s0, s1, s2]) m = e_k (s_S X d e [v0, v1, v2] m) (fun r q => s_x X d c is ls (r ++ [s0, s1, s2]) q) := rfl
theorem x_call3_4 {e : Nat} {v0 v1 v2 s0 s1 s2 s3 : Value} : s_x X d c (.invokeinterface e 3 :: is) (ls) ([v2, v1, v0, s0, s1, s2, s3]) m = e_k (s_S X d e [v0, v1, v2] m) (fun r q => s_x X d c is ls (r ++ [s0, s1, s2, s3]) q) := rfl
theorem x_call4_0 {e : Nat} {v0 v1 v2 v3 : Value} : s_x X d c (.invokeinterface e 4 :: is) (ls) ([v3, v2, v1, v0]) m = e_k (s_S X d e [v0, v1, v2, v3] m) (fun r q => s_x X d c is ls (r ++ []) q) := rfl
theorem x_call4_1 {e : Nat} {v0 v1 v2 v3 s0 : Value} : s_x X d c (.invokeinterface e 4 :: is) (ls) ([v3, v2, v1, v0, s0]) m = e_k (s_S X d e [v0, v1, v2, v3] m) (fun r q => s_x X d c is ls (r ++ [s0]) q) := rfl
theorem x_call4_2 {e : Nat} {v0 v1 v2 v3 s0 s1 : Value} : s_x X d c (.invokeinterface e 4 :: is) (ls) ([v3, v2, v1, v0, s0, s1]) m = e_k (s_S X d e [v0, v1, v2, v3] m) (fun r q => s_x X d c is ls (r ++ [s0, s1]) q) := rfl
theorem x_call4_3 {e : Nat} {v0 v1 v2 v3 s0 s1 s2 : Value} : s_x X d c (.invokeinterface e 4 :: is) (ls) ([v3, v2, v1, v0, s0, s1, s2]) m = e_k (s_S X d e [v0, v1, v2, v3] m) (fun r q => s_x X d c is ls (r ++ [s0, s1, s2]) q) := rfl
theorem x_call4_4 {e : Nat} {v0 v1 v2 v3 s0 s1 s2 s3 : Value} : s_x X d c (.invokeinterface e 4 :: is) (ls) ([v3, v2, v1, v0, s0, s1, s2, s3]) m = e_k (s_S X d e [v0, v1, v2, v3] m) (fun r q => s_x X d c is ls (r ++ [s0, s1, s2, s3]) q) := rfl
theorem x_call5_0 {e : Nat} {v0 v1 v2 v3 v4 : Value} : s_x X d c (.invokeinterface e 5 :: is) (ls) ([v4, v3, v2, v1, v0]) m = e_k (s_S X d e [v0, v1, v2, v3, v4] m) (fun r q => s_x X d c is ls (r ++ []) q) := rfl
theorem x_call5_1 {e : Nat} {v0 v1 v2 v3 v4 s0 : Value} : s_x X d c (.invokeinterface e 5 :: is) (ls) ([v4, v3, v2, v1, v0, s0]) m = e_k (s_S X d e [v0, v1, v2, v3, v4] m) (fun r q => s_x X d c is ls (r ++ [s0]) q) := rfl
theorem x_call5_2 {e : Nat} {v0 v1 v2 v3 v4 s0 s1 : Value} : s_x X d c (.invokeinterface e 5 :: is) (ls) ([v4, v3, v2, v1, v0, s0, s1]) m = e_k (s_S X d e [v0, v1, v2, v3, v4] m) (fun r q => s_x X d c is ls (r ++ [s0, s1]) q) := rfl
theorem x_call5_3 {e : Nat} {v0 v1 v2 v3 v4 s0 s1 s2 : Value} : s_x X d c (.invokeinterface e 5 :: is) (ls) ([v4, v3, v2, v1, v0, s0, s1, s2]) m = e_k (s_S X d e [v0, v1, v2, v3, v4] m) (fun r q => s_x X d c is ls (r ++ [s0, s1, s2]) q) := rfl
theorem x_call5_4 {e : Nat} {v0 v1 v2 v3 v4 s0 s1 s2 s3 : Value} : s_x X d c (.invokeinterface e 5 :: is) (ls) ([v4, v3, v2, v1, v0, s0, s1, s2, s3]) m = e_k (s_S X d e [v0, v1, v2, v3, v4] m) (fun r q => s_x X d c is ls (r ++ [s0, s1, s2, s3]) q) := rfl
theorem x_call6_0 {e : Nat} {v0 v1 v2 v3 v4 v5 : Value} : s_x X d c (.invokeinterface e 6 :: is) (ls) ([v5, v4, v3, v2, v1, v0]) m = e_k (s_S X d e [v0, v1, v2, v3, v4, v5] m) (fun r q => s_x X d c is ls (r ++ []) q) := rfl
theorem x_call6_1 {e : Nat} {v0 v1 v2 v3 v4 v5 s0 : Value} : s_x X d c (.invokeinterface e 6 :: is) (ls) ([v5, v4, v3, v2, v1, v0, s0]) m = e_k (s_S X d e [v0, v1, v2, v3, v4, v5] m) (fun r q => s_x X d c is ls (r ++ [s0]) q) := rfl
theorem x_call6_2 {e : Nat} {v0 v1 v2 v3 v4 v5 s0 s1 : Value} : s_x X d c (.invokeinterface e 6 :: is) (ls) ([v5, v4, v3, v2, v1, v0, s0, s1]) m = e_k (s_S X d e [v0, v1, v2, v3, v4, v5] m) (fun r q => s_x X d c is ls (r ++ [s0, s1]) q) := rfl
theorem x_call6_3 {e : Nat} {v0 v1 v2 v3 v4 v5 s0 s1 s2 : Value} : s_x X d c (.invokeinterface e 6 :: is) (ls) ([v5, v4, v3, v2, v1, v0, s0, s1, s2]) m = e_k (s_S X d e [v0, v1, v2, v3, v4, v5] m) (fun r q => s_x X d c is ls (r ++ [s0, s1, s2]) q) := rfl
theorem x_call6_4 {e : Nat} {v0 v1 v2 v3 v4 v5 s0 s1 s2 s3 : Value} : s_x X d c (.invokeinterface e 6 :: is) (ls) ([v5, v4, v3, v2, v1, v0, s0, s1, s2, s3]) m = e_k (s_S X d e [v0, v1, v2, v3, v4, v5] m) (fun r q => s_x X d c is ls (r ++ [s0, s1, s2, s3]) q) := rfl
theorem x_fload0 : s_x X d c (.fload 0 :: is) (ls) (.ref 1002 :: st) m = s_x X d c is (ls) (.ref 1003 :: st) m := rfl
theorem x_fload1 : s_x X d c (.fload 1 :: is) (ls) (.ref 1002 :: st) m = s_x X d c is (ls) (.int (iI 0) :: st) m := rfl
theorem x_fmul : s_x X d c (.fmul :: is) (ls) (.ref 1003 :: st) m = s_x X d c is (ls) (.int (iI 98) :: st) m := rfl
theorem x_fsub : s_x X d c (.fsub :: is) (ls) (.ref 1001 :: st) m = s_x X d c is (ls) (.int (iI 6) :: st) m := rfl
theorem x_fadd : s_x X d c (.fadd :: is) (ls) (.ref 1000 :: st) m = s_x X d c is (ls) (.int (Int32.ofNat X.1) :: st) m := rfl
theorem x_gets0 : s_x X d c (.getstatic 0 :: is) (ls) (st) m = s_x X d c is (ls) (.ref 1001 :: st) m := rfl
theorem x_gets1 : s_x X d c (.getstatic 1 :: is) (ls) (st) m = s_x X d c is (ls) (.int (iI 1) :: st) m := rfl
theorem x_gets2 : s_x X d c (.getstatic 2 :: is) (ls) (st) m = s_x X d c is (ls) (.retAddr 1 :: st) m := rfl
theorem x_gets3 : s_x X d c (.getstatic 3 :: is) (ls) (st) m = s_x X d c is (ls) (.ref 1002 :: st) m := rfl
theorem x_daload {z : Int} (h : 0 ≤ z ∧ z < 6) : s_x X d c (.daload :: is) (ls) (.int (iI z) :: .ref 1001 :: st) m = s_x X d c is (ls) (.int (iI (iabv z)) :: st) m := by
  obtain ⟨k, rfl⟩ := Int.eq_ofNat_of_zero_le h.1
  have : k = 0 ∨ k = 1 ∨ k = 2 ∨ k = 3 ∨ k = 4 ∨ k = 5 := by omega
  rcases this with rfl | rfl | rfl | rfl | rfl | rfl <;> rfl
end
end
