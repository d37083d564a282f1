section
-- ===== PART A: goes FIRST, ahead of the names: the tables' words, and 'selects' of the private methods out of them =====
/-- a private method of a class that the tables say can be made, by its rows of tables_1 -/
def lw_okq (q : MethodName × Nat) : Prop := (q.1.cls ≠ "java/lang/invoke/MethodHandle" ∧ q.1.cls ≠ "java/lang/invoke/VarHandle") ∧ Cond.instantiable q.1.cls q.2 ∈ tables_1 ∧ Cond.privateMethod q.1 ∈ tables_1 ∧ Cond.instanceMethod q.1 ∈ tables_1
theorem lw_p0 : lw_okq (⟨"BridgeService$Laws", "holds", "(II)Z"⟩, 7) := ⟨⟨by decide +kernel, by decide +kernel⟩, List.mem_of_getElem? (i := 34) (by decide +kernel), List.mem_of_getElem? (i := 427) (by decide +kernel), List.mem_of_getElem? (i := 428) (by decide +kernel)⟩
theorem lw_p1 : lw_okq (⟨"BridgeService$Laws", "compares", "(I)Z"⟩, 7) := ⟨⟨by decide +kernel, by decide +kernel⟩, List.mem_of_getElem? (i := 34) (by decide +kernel), List.mem_of_getElem? (i := 432) (by decide +kernel), List.mem_of_getElem? (i := 433) (by decide +kernel)⟩
theorem lw_p2 : lw_okq (⟨"BridgeService$Reader", "nextWord", "()I"⟩, 14) := ⟨⟨by decide +kernel, by decide +kernel⟩, List.mem_of_getElem? (i := 161) (by decide +kernel), List.mem_of_getElem? (i := 513) (by decide +kernel), List.mem_of_getElem? (i := 514) (by decide +kernel)⟩
theorem lw_p3 : lw_okq (⟨"BridgeService$Reader", "readName", "()I"⟩, 14) := ⟨⟨by decide +kernel, by decide +kernel⟩, List.mem_of_getElem? (i := 161) (by decide +kernel), List.mem_of_getElem? (i := 520) (by decide +kernel), List.mem_of_getElem? (i := 521) (by decide +kernel)⟩
theorem lw_p4 : lw_okq (⟨"BridgeService$Reader", "readNumber", "()I"⟩, 14) := ⟨⟨by decide +kernel, by decide +kernel⟩, List.mem_of_getElem? (i := 161) (by decide +kernel), List.mem_of_getElem? (i := 576) (by decide +kernel), List.mem_of_getElem? (i := 577) (by decide +kernel)⟩
theorem lw_p5 : lw_okq (⟨"BridgeService$Reader", "mayStand", "(I)Z"⟩, 14) := ⟨⟨by decide +kernel, by decide +kernel⟩, List.mem_of_getElem? (i := 161) (by decide +kernel), List.mem_of_getElem? (i := 583) (by decide +kernel), List.mem_of_getElem? (i := 584) (by decide +kernel)⟩
theorem lw_p6 : lw_okq (⟨"BridgeService$Reader", "takeKind", "(I)Z"⟩, 14) := ⟨⟨by decide +kernel, by decide +kernel⟩, List.mem_of_getElem? (i := 161) (by decide +kernel), List.mem_of_getElem? (i := 587) (by decide +kernel), List.mem_of_getElem? (i := 588) (by decide +kernel)⟩
theorem lw_p7 : lw_okq (⟨"BridgeService$Reader", "takeTail", "(I)Z"⟩, 14) := ⟨⟨by decide +kernel, by decide +kernel⟩, List.mem_of_getElem? (i := 161) (by decide +kernel), List.mem_of_getElem? (i := 591) (by decide +kernel), List.mem_of_getElem? (i := 592) (by decide +kernel)⟩
theorem lw_p8 : lw_okq (⟨"BridgeService$Reader", "takeWill", "(I)Z"⟩, 14) := ⟨⟨by decide +kernel, by decide +kernel⟩, List.mem_of_getElem? (i := 161) (by decide +kernel), List.mem_of_getElem? (i := 595) (by decide +kernel), List.mem_of_getElem? (i := 596) (by decide +kernel)⟩
theorem lw_p9 : lw_okq (⟨"BridgeService$Reader", "takeOne", "(I)Z"⟩, 14) := ⟨⟨by decide +kernel, by decide +kernel⟩, List.mem_of_getElem? (i := 161) (by decide +kernel), List.mem_of_getElem? (i := 600) (by decide +kernel), List.mem_of_getElem? (i := 601) (by decide +kernel)⟩
theorem lw_p10 : lw_okq (⟨"BridgeService$Reader", "waitWith", "(I)Z"⟩, 14) := ⟨⟨by decide +kernel, by decide +kernel⟩, List.mem_of_getElem? (i := 161) (by decide +kernel), List.mem_of_getElem? (i := 604) (by decide +kernel), List.mem_of_getElem? (i := 605) (by decide +kernel)⟩
theorem lw_p11 : lw_okq (⟨"BridgeService$Reader", "valueOf", "(I)I"⟩, 14) := ⟨⟨by decide +kernel, by decide +kernel⟩, List.mem_of_getElem? (i := 161) (by decide +kernel), List.mem_of_getElem? (i := 611) (by decide +kernel), List.mem_of_getElem? (i := 612) (by decide +kernel)⟩
theorem lw_p12 : lw_okq (⟨"BridgeService$Reader", "takeSign", "(I)Z"⟩, 14) := ⟨⟨by decide +kernel, by decide +kernel⟩, List.mem_of_getElem? (i := 161) (by decide +kernel), List.mem_of_getElem? (i := 615) (by decide +kernel), List.mem_of_getElem? (i := 616) (by decide +kernel)⟩
theorem lw_p13 : lw_okq (⟨"BridgeService$Reader", "takeRight", "(I)Z"⟩, 14) := ⟨⟨by decide +kernel, by decide +kernel⟩, List.mem_of_getElem? (i := 161) (by decide +kernel), List.mem_of_getElem? (i := 619) (by decide +kernel), List.mem_of_getElem? (i := 620) (by decide +kernel)⟩
theorem lw_p14 : lw_okq (⟨"BridgeService$Reader", "endOne", "()V"⟩, 14) := ⟨⟨by decide +kernel, by decide +kernel⟩, List.mem_of_getElem? (i := 161) (by decide +kernel), List.mem_of_getElem? (i := 630) (by decide +kernel), List.mem_of_getElem? (i := 631) (by decide +kernel)⟩
theorem lw_p15 : lw_okq (⟨"BridgeService$Reader", "takeJoint", "(I)Z"⟩, 14) := ⟨⟨by decide +kernel, by decide +kernel⟩, List.mem_of_getElem? (i := 161) (by decide +kernel), List.mem_of_getElem? (i := 634) (by decide +kernel), List.mem_of_getElem? (i := 635) (by decide +kernel)⟩
def lw_privs_1 : List (MethodName × Nat) := [(⟨"BridgeService$Laws", "holds", "(II)Z"⟩, 7), (⟨"BridgeService$Laws", "compares", "(I)Z"⟩, 7), (⟨"BridgeService$Reader", "nextWord", "()I"⟩, 14), (⟨"BridgeService$Reader", "readName", "()I"⟩, 14), (⟨"BridgeService$Reader", "readNumber", "()I"⟩, 14), (⟨"BridgeService$Reader", "mayStand", "(I)Z"⟩, 14), (⟨"BridgeService$Reader", "takeKind", "(I)Z"⟩, 14), (⟨"BridgeService$Reader", "takeTail", "(I)Z"⟩, 14), (⟨"BridgeService$Reader", "takeWill", "(I)Z"⟩, 14), (⟨"BridgeService$Reader", "takeOne", "(I)Z"⟩, 14), (⟨"BridgeService$Reader", "waitWith", "(I)Z"⟩, 14), (⟨"BridgeService$Reader", "valueOf", "(I)I"⟩, 14), (⟨"BridgeService$Reader", "takeSign", "(I)Z"⟩, 14), (⟨"BridgeService$Reader", "takeRight", "(I)Z"⟩, 14), (⟨"BridgeService$Reader", "endOne", "()V"⟩, 14), (⟨"BridgeService$Reader", "takeJoint", "(I)Z"⟩, 14)]
theorem lw_r1 : ∀ q ∈ lw_privs_1, lw_okq q := List.forall_mem_cons.mpr ⟨lw_p0, List.forall_mem_cons.mpr ⟨lw_p1, List.forall_mem_cons.mpr ⟨lw_p2, List.forall_mem_cons.mpr ⟨lw_p3, List.forall_mem_cons.mpr ⟨lw_p4, List.forall_mem_cons.mpr ⟨lw_p5, List.forall_mem_cons.mpr ⟨lw_p6, List.forall_mem_cons.mpr ⟨lw_p7, List.forall_mem_cons.mpr ⟨lw_p8, List.forall_mem_cons.mpr ⟨lw_p9, List.forall_mem_cons.mpr ⟨lw_p10, List.forall_mem_cons.mpr ⟨lw_p11, List.forall_mem_cons.mpr ⟨lw_p12, List.forall_mem_cons.mpr ⟨lw_p13, List.forall_mem_cons.mpr ⟨lw_p14, List.forall_mem_cons.mpr ⟨lw_p15, fun _ h => absurd h List.not_mem_nil⟩⟩⟩⟩⟩⟩⟩⟩⟩⟩⟩⟩⟩⟩⟩⟩
theorem lw_p16 : lw_okq (⟨"BridgeService$Reader", "takeClose", "()Z"⟩, 14) := ⟨⟨by decide +kernel, by decide +kernel⟩, List.mem_of_getElem? (i := 161) (by decide +kernel), List.mem_of_getElem? (i := 638) (by decide +kernel), List.mem_of_getElem? (i := 639) (by decide +kernel)⟩
theorem lw_p17 : lw_okq (⟨"BridgeService$Reader", "appendJoints", "(I)V"⟩, 14) := ⟨⟨by decide +kernel, by decide +kernel⟩, List.mem_of_getElem? (i := 161) (by decide +kernel), List.mem_of_getElem? (i := 642) (by decide +kernel), List.mem_of_getElem? (i := 643) (by decide +kernel)⟩
theorem lw_p18 : lw_okq (⟨"BridgeService$Reader", "takeSemicolon", "(I)Z"⟩, 14) := ⟨⟨by decide +kernel, by decide +kernel⟩, List.mem_of_getElem? (i := 161) (by decide +kernel), List.mem_of_getElem? (i := 646) (by decide +kernel), List.mem_of_getElem? (i := 647) (by decide +kernel)⟩
theorem lw_p19 : lw_okq (⟨"BridgeService$Table", "leastWilling", "()I"⟩, 17) := ⟨⟨by decide +kernel, by decide +kernel⟩, List.mem_of_getElem? (i := 28) (by decide +kernel), List.mem_of_getElem? (i := 679) (by decide +kernel), List.mem_of_getElem? (i := 680) (by decide +kernel)⟩
theorem lw_p20 : lw_okq (⟨"BridgeService$Table", "sitDown", "(I)I"⟩, 17) := ⟨⟨by decide +kernel, by decide +kernel⟩, List.mem_of_getElem? (i := 28) (by decide +kernel), List.mem_of_getElem? (i := 686) (by decide +kernel), List.mem_of_getElem? (i := 687) (by decide +kernel)⟩
theorem lw_p21 : lw_okq (⟨"BridgeService$Table", "getUp", "(I)V"⟩, 17) := ⟨⟨by decide +kernel, by decide +kernel⟩, List.mem_of_getElem? (i := 28) (by decide +kernel), List.mem_of_getElem? (i := 691) (by decide +kernel), List.mem_of_getElem? (i := 692) (by decide +kernel)⟩
theorem lw_p22 : lw_okq (⟨"BridgeService$Table", "placesSpanned", "(I)J"⟩, 17) := ⟨⟨by decide +kernel, by decide +kernel⟩, List.mem_of_getElem? (i := 28) (by decide +kernel), List.mem_of_getElem? (i := 696) (by decide +kernel), List.mem_of_getElem? (i := 697) (by decide +kernel)⟩
theorem lw_p23 : lw_okq (⟨"BridgeService$Table", "closeTo", "(I)I"⟩, 17) := ⟨⟨by decide +kernel, by decide +kernel⟩, List.mem_of_getElem? (i := 28) (by decide +kernel), List.mem_of_getElem? (i := 780) (by decide +kernel), List.mem_of_getElem? (i := 781) (by decide +kernel)⟩
theorem lw_p24 : lw_okq (⟨"BridgeService$Table", "areClose", "(II)Z"⟩, 17) := ⟨⟨by decide +kernel, by decide +kernel⟩, List.mem_of_getElem? (i := 28) (by decide +kernel), List.mem_of_getElem? (i := 784) (by decide +kernel), List.mem_of_getElem? (i := 785) (by decide +kernel)⟩
theorem lw_p25 : lw_okq (⟨"BridgeService$Plans", "tryFrom", "(III)V"⟩, 9) := ⟨⟨by decide +kernel, by decide +kernel⟩, List.mem_of_getElem? (i := 214) (by decide +kernel), List.mem_of_getElem? (i := 819) (by decide +kernel), List.mem_of_getElem? (i := 820) (by decide +kernel)⟩
theorem lw_p26 : lw_okq (⟨"BridgeService$Plans", "weigh", "(II)V"⟩, 9) := ⟨⟨by decide +kernel, by decide +kernel⟩, List.mem_of_getElem? (i := 214) (by decide +kernel), List.mem_of_getElem? (i := 823) (by decide +kernel), List.mem_of_getElem? (i := 824) (by decide +kernel)⟩
theorem lw_p27 : lw_okq (⟨"BridgeService$Plans", "valueOfGame", "(IZ)I"⟩, 9) := ⟨⟨by decide +kernel, by decide +kernel⟩, List.mem_of_getElem? (i := 214) (by decide +kernel), List.mem_of_getElem? (i := 853) (by decide +kernel), List.mem_of_getElem? (i := 854) (by decide +kernel)⟩
theorem lw_p28 : lw_okq (⟨"BridgeService$Plans", "valueOfAct", "(IIZ)I"⟩, 9) := ⟨⟨by decide +kernel, by decide +kernel⟩, List.mem_of_getElem? (i := 214) (by decide +kernel), List.mem_of_getElem? (i := 857) (by decide +kernel), List.mem_of_getElem? (i := 858) (by decide +kernel)⟩
theorem lw_p29 : lw_okq (⟨"BridgeService$Table", "wrongBy", "(III)I"⟩, 17) := ⟨⟨by decide +kernel, by decide +kernel⟩, List.mem_of_getElem? (i := 28) (by decide +kernel), List.mem_of_getElem? (i := 890) (by decide +kernel), List.mem_of_getElem? (i := 891) (by decide +kernel)⟩
theorem lw_p30 : lw_okq (⟨"BridgeService$Rows", "isRight", "(I)Z"⟩, 3) := ⟨⟨by decide +kernel, by decide +kernel⟩, List.mem_of_getElem? (i := 254) (by decide +kernel), List.mem_of_getElem? (i := 976) (by decide +kernel), List.mem_of_getElem? (i := 977) (by decide +kernel)⟩
theorem lw_p31 : lw_okq (⟨"BridgeService$Sheet", "narrowed", "(I)J"⟩, 3) := ⟨⟨by decide +kernel, by decide +kernel⟩, List.mem_of_getElem? (i := 302) (by decide +kernel), List.mem_of_getElem? (i := 1006) (by decide +kernel), List.mem_of_getElem? (i := 1007) (by decide +kernel)⟩
def lw_privs_2 : List (MethodName × Nat) := [(⟨"BridgeService$Reader", "takeClose", "()Z"⟩, 14), (⟨"BridgeService$Reader", "appendJoints", "(I)V"⟩, 14), (⟨"BridgeService$Reader", "takeSemicolon", "(I)Z"⟩, 14), (⟨"BridgeService$Table", "leastWilling", "()I"⟩, 17), (⟨"BridgeService$Table", "sitDown", "(I)I"⟩, 17), (⟨"BridgeService$Table", "getUp", "(I)V"⟩, 17), (⟨"BridgeService$Table", "placesSpanned", "(I)J"⟩, 17), (⟨"BridgeService$Table", "closeTo", "(I)I"⟩, 17), (⟨"BridgeService$Table", "areClose", "(II)Z"⟩, 17), (⟨"BridgeService$Plans", "tryFrom", "(III)V"⟩, 9), (⟨"BridgeService$Plans", "weigh", "(II)V"⟩, 9), (⟨"BridgeService$Plans", "valueOfGame", "(IZ)I"⟩, 9), (⟨"BridgeService$Plans", "valueOfAct", "(IIZ)I"⟩, 9), (⟨"BridgeService$Table", "wrongBy", "(III)I"⟩, 17), (⟨"BridgeService$Rows", "isRight", "(I)Z"⟩, 3), (⟨"BridgeService$Sheet", "narrowed", "(I)J"⟩, 3)]
theorem lw_r2 : ∀ q ∈ lw_privs_2, lw_okq q := List.forall_mem_cons.mpr ⟨lw_p16, List.forall_mem_cons.mpr ⟨lw_p17, List.forall_mem_cons.mpr ⟨lw_p18, List.forall_mem_cons.mpr ⟨lw_p19, List.forall_mem_cons.mpr ⟨lw_p20, List.forall_mem_cons.mpr ⟨lw_p21, List.forall_mem_cons.mpr ⟨lw_p22, List.forall_mem_cons.mpr ⟨lw_p23, List.forall_mem_cons.mpr ⟨lw_p24, List.forall_mem_cons.mpr ⟨lw_p25, List.forall_mem_cons.mpr ⟨lw_p26, List.forall_mem_cons.mpr ⟨lw_p27, List.forall_mem_cons.mpr ⟨lw_p28, List.forall_mem_cons.mpr ⟨lw_p29, List.forall_mem_cons.mpr ⟨lw_p30, List.forall_mem_cons.mpr ⟨lw_p31, fun _ h => absurd h List.not_mem_nil⟩⟩⟩⟩⟩⟩⟩⟩⟩⟩⟩⟩⟩⟩⟩⟩
theorem lw_p32 : lw_okq (⟨"BridgeService", "worthOfItems", "(LBridgeService$Sheet;II)I"⟩, 9) := ⟨⟨by decide +kernel, by decide +kernel⟩, List.mem_of_getElem? (i := 20) (by decide +kernel), List.mem_of_getElem? (i := 1028) (by decide +kernel), List.mem_of_getElem? (i := 1029) (by decide +kernel)⟩
theorem lw_p33 : lw_okq (⟨"BridgeService", "heldOn", "(LBridgeService$Shelf;)I"⟩, 9) := ⟨⟨by decide +kernel, by decide +kernel⟩, List.mem_of_getElem? (i := 20) (by decide +kernel), List.mem_of_getElem? (i := 1050) (by decide +kernel), List.mem_of_getElem? (i := 1051) (by decide +kernel)⟩
theorem lw_p34 : lw_okq (⟨"BridgeService$Acting", "lays", "(I)I"⟩, 6) := ⟨⟨by decide +kernel, by decide +kernel⟩, List.mem_of_getElem? (i := 276) (by decide +kernel), List.mem_of_getElem? (i := 1067) (by decide +kernel), List.mem_of_getElem? (i := 1068) (by decide +kernel)⟩
theorem lw_p35 : lw_okq (⟨"BridgeService$Acting", "note", "(I)V"⟩, 6) := ⟨⟨by decide +kernel, by decide +kernel⟩, List.mem_of_getElem? (i := 276) (by decide +kernel), List.mem_of_getElem? (i := 1071) (by decide +kernel), List.mem_of_getElem? (i := 1072) (by decide +kernel)⟩
theorem lw_p36 : lw_okq (⟨"BridgeService$Acting", "tilts", "(I)I"⟩, 6) := ⟨⟨by decide +kernel, by decide +kernel⟩, List.mem_of_getElem? (i := 276) (by decide +kernel), List.mem_of_getElem? (i := 1075) (by decide +kernel), List.mem_of_getElem? (i := 1076) (by decide +kernel)⟩
theorem lw_p37 : lw_okq (⟨"BridgeService$Acting", "breaks", "(I)I"⟩, 6) := ⟨⟨by decide +kernel, by decide +kernel⟩, List.mem_of_getElem? (i := 276) (by decide +kernel), List.mem_of_getElem? (i := 1080) (by decide +kernel), List.mem_of_getElem? (i := 1081) (by decide +kernel)⟩
theorem lw_p38 : lw_okq (⟨"BridgeService$Acting", "shines", "(I)I"⟩, 6) := ⟨⟨by decide +kernel, by decide +kernel⟩, List.mem_of_getElem? (i := 276) (by decide +kernel), List.mem_of_getElem? (i := 1084) (by decide +kernel), List.mem_of_getElem? (i := 1085) (by decide +kernel)⟩
theorem lw_p39 : lw_okq (⟨"BridgeServiceModel", "next", "()V"⟩, 39) := ⟨⟨by decide +kernel, by decide +kernel⟩, List.mem_of_getElem? (i := 1116) (by decide +kernel), List.mem_of_getElem? (i := 1253) (by decide +kernel), List.mem_of_getElem? (i := 1254) (by decide +kernel)⟩
theorem lw_p40 : lw_okq (⟨"BridgeServiceModel", "byteAt", "(I)I"⟩, 39) := ⟨⟨by decide +kernel, by decide +kernel⟩, List.mem_of_getElem? (i := 1116) (by decide +kernel), List.mem_of_getElem? (i := 1257) (by decide +kernel), List.mem_of_getElem? (i := 1258) (by decide +kernel)⟩
theorem lw_p41 : lw_okq (⟨"BridgeServiceModel", "readsName", "()V"⟩, 39) := ⟨⟨by decide +kernel, by decide +kernel⟩, List.mem_of_getElem? (i := 1116) (by decide +kernel), List.mem_of_getElem? (i := 1261) (by decide +kernel), List.mem_of_getElem? (i := 1262) (by decide +kernel)⟩
theorem lw_p42 : lw_okq (⟨"BridgeServiceModel", "isNameOf", "(I)Z"⟩, 39) := ⟨⟨by decide +kernel, by decide +kernel⟩, List.mem_of_getElem? (i := 1116) (by decide +kernel), List.mem_of_getElem? (i := 1265) (by decide +kernel), List.mem_of_getElem? (i := 1266) (by decide +kernel)⟩
theorem lw_p43 : lw_okq (⟨"BridgeServiceModel", "readsNumber", "()V"⟩, 39) := ⟨⟨by decide +kernel, by decide +kernel⟩, List.mem_of_getElem? (i := 1116) (by decide +kernel), List.mem_of_getElem? (i := 1269) (by decide +kernel), List.mem_of_getElem? (i := 1270) (by decide +kernel)⟩
theorem lw_p44 : lw_okq (⟨"BridgeServiceModel", "readsRule", "(I)Z"⟩, 39) := ⟨⟨by decide +kernel, by decide +kernel⟩, List.mem_of_getElem? (i := 1116) (by decide +kernel), List.mem_of_getElem? (i := 1273) (by decide +kernel), List.mem_of_getElem? (i := 1274) (by decide +kernel)⟩
theorem lw_p45 : lw_okq (⟨"BridgeServiceModel", "takes", "(I)Z"⟩, 39) := ⟨⟨by decide +kernel, by decide +kernel⟩, List.mem_of_getElem? (i := 1116) (by decide +kernel), List.mem_of_getElem? (i := 1277) (by decide +kernel), List.mem_of_getElem? (i := 1278) (by decide +kernel)⟩
theorem lw_p46 : lw_okq (⟨"BridgeServiceModel", "readsCondition", "()Z"⟩, 39) := ⟨⟨by decide +kernel, by decide +kernel⟩, List.mem_of_getElem? (i := 1116) (by decide +kernel), List.mem_of_getElem? (i := 1281) (by decide +kernel), List.mem_of_getElem? (i := 1282) (by decide +kernel)⟩
theorem lw_p47 : lw_okq (⟨"BridgeServiceModel", "readsAll", "()Z"⟩, 39) := ⟨⟨by decide +kernel, by decide +kernel⟩, List.mem_of_getElem? (i := 1116) (by decide +kernel), List.mem_of_getElem? (i := 1285) (by decide +kernel), List.mem_of_getElem? (i := 1286) (by decide +kernel)⟩
def lw_privs_3 : List (MethodName × Nat) := [(⟨"BridgeService", "worthOfItems", "(LBridgeService$Sheet;II)I"⟩, 9), (⟨"BridgeService", "heldOn", "(LBridgeService$Shelf;)I"⟩, 9), (⟨"BridgeService$Acting", "lays", "(I)I"⟩, 6), (⟨"BridgeService$Acting", "note", "(I)V"⟩, 6), (⟨"BridgeService$Acting", "tilts", "(I)I"⟩, 6), (⟨"BridgeService$Acting", "breaks", "(I)I"⟩, 6), (⟨"BridgeService$Acting", "shines", "(I)I"⟩, 6), (⟨"BridgeServiceModel", "next", "()V"⟩, 39), (⟨"BridgeServiceModel", "byteAt", "(I)I"⟩, 39), (⟨"BridgeServiceModel", "readsName", "()V"⟩, 39), (⟨"BridgeServiceModel", "isNameOf", "(I)Z"⟩, 39), (⟨"BridgeServiceModel", "readsNumber", "()V"⟩, 39), (⟨"BridgeServiceModel", "readsRule", "(I)Z"⟩, 39), (⟨"BridgeServiceModel", "takes", "(I)Z"⟩, 39), (⟨"BridgeServiceModel", "readsCondition", "()Z"⟩, 39), (⟨"BridgeServiceModel", "readsAll", "()Z"⟩, 39)]
theorem lw_r3 : ∀ q ∈ lw_privs_3, lw_okq q := List.forall_mem_cons.mpr ⟨lw_p32, List.forall_mem_cons.mpr ⟨lw_p33, List.forall_mem_cons.mpr ⟨lw_p34, List.forall_mem_cons.mpr ⟨lw_p35, List.forall_mem_cons.mpr ⟨lw_p36, List.forall_mem_cons.mpr ⟨lw_p37, List.forall_mem_cons.mpr ⟨lw_p38, List.forall_mem_cons.mpr ⟨lw_p39, List.forall_mem_cons.mpr ⟨lw_p40, List.forall_mem_cons.mpr ⟨lw_p41, List.forall_mem_cons.mpr ⟨lw_p42, List.forall_mem_cons.mpr ⟨lw_p43, List.forall_mem_cons.mpr ⟨lw_p44, List.forall_mem_cons.mpr ⟨lw_p45, List.forall_mem_cons.mpr ⟨lw_p46, List.forall_mem_cons.mpr ⟨lw_p47, fun _ h => absurd h List.not_mem_nil⟩⟩⟩⟩⟩⟩⟩⟩⟩⟩⟩⟩⟩⟩⟩⟩
theorem lw_p48 : lw_okq (⟨"BridgeServiceModel", "readsOne", "()Z"⟩, 39) := ⟨⟨by decide +kernel, by decide +kernel⟩, List.mem_of_getElem? (i := 1116) (by decide +kernel), List.mem_of_getElem? (i := 1289) (by decide +kernel), List.mem_of_getElem? (i := 1290) (by decide +kernel)⟩
theorem lw_p49 : lw_okq (⟨"BridgeServiceModel", "readsWithin", "()Z"⟩, 39) := ⟨⟨by decide +kernel, by decide +kernel⟩, List.mem_of_getElem? (i := 1116) (by decide +kernel), List.mem_of_getElem? (i := 1293) (by decide +kernel), List.mem_of_getElem? (i := 1294) (by decide +kernel)⟩
theorem lw_p50 : lw_okq (⟨"BridgeServiceModel", "readsLike", "()Z"⟩, 39) := ⟨⟨by decide +kernel, by decide +kernel⟩, List.mem_of_getElem? (i := 1116) (by decide +kernel), List.mem_of_getElem? (i := 1297) (by decide +kernel), List.mem_of_getElem? (i := 1298) (by decide +kernel)⟩
theorem lw_p51 : lw_okq (⟨"BridgeServiceModel", "readsValue", "()Z"⟩, 39) := ⟨⟨by decide +kernel, by decide +kernel⟩, List.mem_of_getElem? (i := 1116) (by decide +kernel), List.mem_of_getElem? (i := 1301) (by decide +kernel), List.mem_of_getElem? (i := 1302) (by decide +kernel)⟩
theorem lw_p52 : lw_okq (⟨"BridgeServiceModel", "lays", "(I)V"⟩, 39) := ⟨⟨by decide +kernel, by decide +kernel⟩, List.mem_of_getElem? (i := 1116) (by decide +kernel), List.mem_of_getElem? (i := 1305) (by decide +kernel), List.mem_of_getElem? (i := 1306) (by decide +kernel)⟩
theorem lw_p53 : lw_okq (⟨"BridgeServiceModel", "puts", "(III)V"⟩, 39) := ⟨⟨by decide +kernel, by decide +kernel⟩, List.mem_of_getElem? (i := 1116) (by decide +kernel), List.mem_of_getElem? (i := 1322) (by decide +kernel), List.mem_of_getElem? (i := 1323) (by decide +kernel)⟩
theorem lw_p54 : lw_okq (⟨"BridgeServiceModel", "isPiece", "(I)Z"⟩, 39) := ⟨⟨by decide +kernel, by decide +kernel⟩, List.mem_of_getElem? (i := 1116) (by decide +kernel), List.mem_of_getElem? (i := 1330) (by decide +kernel), List.mem_of_getElem? (i := 1331) (by decide +kernel)⟩
theorem lw_p55 : lw_okq (⟨"BridgeServiceModel", "spansOf", "(I)I"⟩, 39) := ⟨⟨by decide +kernel, by decide +kernel⟩, List.mem_of_getElem? (i := 1116) (by decide +kernel), List.mem_of_getElem? (i := 1334) (by decide +kernel), List.mem_of_getElem? (i := 1335) (by decide +kernel)⟩
theorem lw_p56 : lw_okq (⟨"BridgeServiceModel", "get", "(II)I"⟩, 39) := ⟨⟨by decide +kernel, by decide +kernel⟩, List.mem_of_getElem? (i := 1116) (by decide +kernel), List.mem_of_getElem? (i := 1338) (by decide +kernel), List.mem_of_getElem? (i := 1339) (by decide +kernel)⟩
theorem lw_p57 : lw_okq (⟨"BridgeServiceModel", "grudgeOf", "(I)I"⟩, 39) := ⟨⟨by decide +kernel, by decide +kernel⟩, List.mem_of_getElem? (i := 1116) (by decide +kernel), List.mem_of_getElem? (i := 1345) (by decide +kernel), List.mem_of_getElem? (i := 1346) (by decide +kernel)⟩
theorem lw_p58 : lw_okq (⟨"BridgeServiceModel", "wouldSit", "(I)Z"⟩, 39) := ⟨⟨by decide +kernel, by decide +kernel⟩, List.mem_of_getElem? (i := 1116) (by decide +kernel), List.mem_of_getElem? (i := 1349) (by decide +kernel), List.mem_of_getElem? (i := 1350) (by decide +kernel)⟩
theorem lw_p59 : lw_okq (⟨"BridgeServiceModel", "willOf", "(I)I"⟩, 39) := ⟨⟨by decide +kernel, by decide +kernel⟩, List.mem_of_getElem? (i := 1116) (by decide +kernel), List.mem_of_getElem? (i := 1353) (by decide +kernel), List.mem_of_getElem? (i := 1354) (by decide +kernel)⟩
theorem lw_p60 : lw_okq (⟨"BridgeServiceModel", "ruleOf", "(II)I"⟩, 39) := ⟨⟨by decide +kernel, by decide +kernel⟩, List.mem_of_getElem? (i := 1116) (by decide +kernel), List.mem_of_getElem? (i := 1357) (by decide +kernel), List.mem_of_getElem? (i := 1358) (by decide +kernel)⟩
theorem lw_p61 : lw_okq (⟨"BridgeServiceModel", "holdsFor", "(II)Z"⟩, 39) := ⟨⟨by decide +kernel, by decide +kernel⟩, List.mem_of_getElem? (i := 1116) (by decide +kernel), List.mem_of_getElem? (i := 1367) (by decide +kernel), List.mem_of_getElem? (i := 1368) (by decide +kernel)⟩
theorem lw_p62 : lw_okq (⟨"BridgeServiceModel", "knownOf", "(II)I"⟩, 39) := ⟨⟨by decide +kernel, by decide +kernel⟩, List.mem_of_getElem? (i := 1116) (by decide +kernel), List.mem_of_getElem? (i := 1371) (by decide +kernel), List.mem_of_getElem? (i := 1372) (by decide +kernel)⟩
theorem lw_p63 : lw_okq (⟨"BridgeServiceModel", "becomes", "(II)I"⟩, 39) := ⟨⟨by decide +kernel, by decide +kernel⟩, List.mem_of_getElem? (i := 1116) (by decide +kernel), List.mem_of_getElem? (i := 1382) (by decide +kernel), List.mem_of_getElem? (i := 1383) (by decide +kernel)⟩
def lw_privs_4 : List (MethodName × Nat) := [(⟨"BridgeServiceModel", "readsOne", "()Z"⟩, 39), (⟨"BridgeServiceModel", "readsWithin", "()Z"⟩, 39), (⟨"BridgeServiceModel", "readsLike", "()Z"⟩, 39), (⟨"BridgeServiceModel", "readsValue", "()Z"⟩, 39), (⟨"BridgeServiceModel", "lays", "(I)V"⟩, 39), (⟨"BridgeServiceModel", "puts", "(III)V"⟩, 39), (⟨"BridgeServiceModel", "isPiece", "(I)Z"⟩, 39), (⟨"BridgeServiceModel", "spansOf", "(I)I"⟩, 39), (⟨"BridgeServiceModel", "get", "(II)I"⟩, 39), (⟨"BridgeServiceModel", "grudgeOf", "(I)I"⟩, 39), (⟨"BridgeServiceModel", "wouldSit", "(I)Z"⟩, 39), (⟨"BridgeServiceModel", "willOf", "(I)I"⟩, 39), (⟨"BridgeServiceModel", "ruleOf", "(II)I"⟩, 39), (⟨"BridgeServiceModel", "holdsFor", "(II)Z"⟩, 39), (⟨"BridgeServiceModel", "knownOf", "(II)I"⟩, 39), (⟨"BridgeServiceModel", "becomes", "(II)I"⟩, 39)]
theorem lw_r4 : ∀ q ∈ lw_privs_4, lw_okq q := List.forall_mem_cons.mpr ⟨lw_p48, List.forall_mem_cons.mpr ⟨lw_p49, List.forall_mem_cons.mpr ⟨lw_p50, List.forall_mem_cons.mpr ⟨lw_p51, List.forall_mem_cons.mpr ⟨lw_p52, List.forall_mem_cons.mpr ⟨lw_p53, List.forall_mem_cons.mpr ⟨lw_p54, List.forall_mem_cons.mpr ⟨lw_p55, List.forall_mem_cons.mpr ⟨lw_p56, List.forall_mem_cons.mpr ⟨lw_p57, List.forall_mem_cons.mpr ⟨lw_p58, List.forall_mem_cons.mpr ⟨lw_p59, List.forall_mem_cons.mpr ⟨lw_p60, List.forall_mem_cons.mpr ⟨lw_p61, List.forall_mem_cons.mpr ⟨lw_p62, List.forall_mem_cons.mpr ⟨lw_p63, fun _ h => absurd h List.not_mem_nil⟩⟩⟩⟩⟩⟩⟩⟩⟩⟩⟩⟩⟩⟩⟩⟩
theorem lw_p64 : lw_okq (⟨"BridgeServiceModel", "isOver", "()Z"⟩, 39) := ⟨⟨by decide +kernel, by decide +kernel⟩, List.mem_of_getElem? (i := 1116) (by decide +kernel), List.mem_of_getElem? (i := 1418) (by decide +kernel), List.mem_of_getElem? (i := 1419) (by decide +kernel)⟩
theorem lw_p65 : lw_okq (⟨"BridgeServiceModel", "those", "(I)I"⟩, 39) := ⟨⟨by decide +kernel, by decide +kernel⟩, List.mem_of_getElem? (i := 1116) (by decide +kernel), List.mem_of_getElem? (i := 1422) (by decide +kernel), List.mem_of_getElem? (i := 1423) (by decide +kernel)⟩
theorem lw_p66 : lw_okq (⟨"BridgeServiceModel", "goesBy", "(I)I"⟩, 39) := ⟨⟨by decide +kernel, by decide +kernel⟩, List.mem_of_getElem? (i := 1116) (by decide +kernel), List.mem_of_getElem? (i := 1430) (by decide +kernel), List.mem_of_getElem? (i := 1431) (by decide +kernel)⟩
theorem lw_p67 : lw_okq (⟨"BridgeServiceModel", "restOne", "()I"⟩, 39) := ⟨⟨by decide +kernel, by decide +kernel⟩, List.mem_of_getElem? (i := 1116) (by decide +kernel), List.mem_of_getElem? (i := 1440) (by decide +kernel), List.mem_of_getElem? (i := 1441) (by decide +kernel)⟩
theorem lw_p68 : lw_okq (⟨"BridgeServiceModel", "meets", "(I)I"⟩, 39) := ⟨⟨by decide +kernel, by decide +kernel⟩, List.mem_of_getElem? (i := 1116) (by decide +kernel), List.mem_of_getElem? (i := 1444) (by decide +kernel), List.mem_of_getElem? (i := 1445) (by decide +kernel)⟩
theorem lw_p69 : lw_okq (⟨"BridgeServiceModel", "sits", "(I)I"⟩, 39) := ⟨⟨by decide +kernel, by decide +kernel⟩, List.mem_of_getElem? (i := 1116) (by decide +kernel), List.mem_of_getElem? (i := 1448) (by decide +kernel), List.mem_of_getElem? (i := 1449) (by decide +kernel)⟩
theorem lw_p70 : lw_okq (⟨"BridgeServiceModel", "walksOn", "()I"⟩, 39) := ⟨⟨by decide +kernel, by decide +kernel⟩, List.mem_of_getElem? (i := 1116) (by decide +kernel), List.mem_of_getElem? (i := 1452) (by decide +kernel), List.mem_of_getElem? (i := 1453) (by decide +kernel)⟩
theorem lw_p71 : lw_okq (⟨"BridgeServiceModel", "isThere", "(I)Z"⟩, 39) := ⟨⟨by decide +kernel, by decide +kernel⟩, List.mem_of_getElem? (i := 1116) (by decide +kernel), List.mem_of_getElem? (i := 1456) (by decide +kernel), List.mem_of_getElem? (i := 1457) (by decide +kernel)⟩
theorem lw_p72 : lw_okq (⟨"BridgeServiceModel", "isSpanned", "(II)Z"⟩, 39) := ⟨⟨by decide +kernel, by decide +kernel⟩, List.mem_of_getElem? (i := 1116) (by decide +kernel), List.mem_of_getElem? (i := 1460) (by decide +kernel), List.mem_of_getElem? (i := 1461) (by decide +kernel)⟩
theorem lw_p73 : lw_okq (⟨"BridgeServiceModel", "layDown", "()V"⟩, 39) := ⟨⟨by decide +kernel, by decide +kernel⟩, List.mem_of_getElem? (i := 1116) (by decide +kernel), List.mem_of_getElem? (i := 1468) (by decide +kernel), List.mem_of_getElem? (i := 1469) (by decide +kernel)⟩
theorem lw_p74 : lw_okq (⟨"BridgeServiceModel", "restOf", "(I)I"⟩, 39) := ⟨⟨by decide +kernel, by decide +kernel⟩, List.mem_of_getElem? (i := 1116) (by decide +kernel), List.mem_of_getElem? (i := 1472) (by decide +kernel), List.mem_of_getElem? (i := 1473) (by decide +kernel)⟩
theorem lw_p75 : lw_okq (⟨"BridgeServiceModel", "layBack", "()V"⟩, 39) := ⟨⟨by decide +kernel, by decide +kernel⟩, List.mem_of_getElem? (i := 1116) (by decide +kernel), List.mem_of_getElem? (i := 1476) (by decide +kernel), List.mem_of_getElem? (i := 1477) (by decide +kernel)⟩
theorem lw_p76 : lw_okq (⟨"BridgeServiceModel", "bestFor", "(III)I"⟩, 39) := ⟨⟨by decide +kernel, by decide +kernel⟩, List.mem_of_getElem? (i := 1116) (by decide +kernel), List.mem_of_getElem? (i := 1488) (by decide +kernel), List.mem_of_getElem? (i := 1489) (by decide +kernel)⟩
theorem lw_p77 : lw_okq (⟨"BridgeServiceModel", "branchOf", "(I)I"⟩, 39) := ⟨⟨by decide +kernel, by decide +kernel⟩, List.mem_of_getElem? (i := 1116) (by decide +kernel), List.mem_of_getElem? (i := 1508) (by decide +kernel), List.mem_of_getElem? (i := 1509) (by decide +kernel)⟩
theorem lw_p78 : lw_okq (⟨"BridgeServiceModel", "areClose", "(II)Z"⟩, 39) := ⟨⟨by decide +kernel, by decide +kernel⟩, List.mem_of_getElem? (i := 1116) (by decide +kernel), List.mem_of_getElem? (i := 1512) (by decide +kernel), List.mem_of_getElem? (i := 1513) (by decide +kernel)⟩
theorem lw_p79 : lw_okq (⟨"BridgeServiceModel", "goesRound", "(IIII)V"⟩, 39) := ⟨⟨by decide +kernel, by decide +kernel⟩, List.mem_of_getElem? (i := 1116) (by decide +kernel), List.mem_of_getElem? (i := 1520) (by decide +kernel), List.mem_of_getElem? (i := 1521) (by decide +kernel)⟩
def lw_privs_5 : List (MethodName × Nat) := [(⟨"BridgeServiceModel", "isOver", "()Z"⟩, 39), (⟨"BridgeServiceModel", "those", "(I)I"⟩, 39), (⟨"BridgeServiceModel", "goesBy", "(I)I"⟩, 39), (⟨"BridgeServiceModel", "restOne", "()I"⟩, 39), (⟨"BridgeServiceModel", "meets", "(I)I"⟩, 39), (⟨"BridgeServiceModel", "sits", "(I)I"⟩, 39), (⟨"BridgeServiceModel", "walksOn", "()I"⟩, 39), (⟨"BridgeServiceModel", "isThere", "(I)Z"⟩, 39), (⟨"BridgeServiceModel", "isSpanned", "(II)Z"⟩, 39), (⟨"BridgeServiceModel", "layDown", "()V"⟩, 39), (⟨"BridgeServiceModel", "restOf", "(I)I"⟩, 39), (⟨"BridgeServiceModel", "layBack", "()V"⟩, 39), (⟨"BridgeServiceModel", "bestFor", "(III)I"⟩, 39), (⟨"BridgeServiceModel", "branchOf", "(I)I"⟩, 39), (⟨"BridgeServiceModel", "areClose", "(II)Z"⟩, 39), (⟨"BridgeServiceModel", "goesRound", "(IIII)V"⟩, 39)]
theorem lw_r5 : ∀ q ∈ lw_privs_5, lw_okq q := List.forall_mem_cons.mpr ⟨lw_p64, List.forall_mem_cons.mpr ⟨lw_p65, List.forall_mem_cons.mpr ⟨lw_p66, List.forall_mem_cons.mpr ⟨lw_p67, List.forall_mem_cons.mpr ⟨lw_p68, List.forall_mem_cons.mpr ⟨lw_p69, List.forall_mem_cons.mpr ⟨lw_p70, List.forall_mem_cons.mpr ⟨lw_p71, List.forall_mem_cons.mpr ⟨lw_p72, List.forall_mem_cons.mpr ⟨lw_p73, List.forall_mem_cons.mpr ⟨lw_p74, List.forall_mem_cons.mpr ⟨lw_p75, List.forall_mem_cons.mpr ⟨lw_p76, List.forall_mem_cons.mpr ⟨lw_p77, List.forall_mem_cons.mpr ⟨lw_p78, List.forall_mem_cons.mpr ⟨lw_p79, fun _ h => absurd h List.not_mem_nil⟩⟩⟩⟩⟩⟩⟩⟩⟩⟩⟩⟩⟩⟩⟩⟩
theorem lw_p80 : lw_okq (⟨"BridgeServiceModel", "triesAll", "(II)V"⟩, 39) := ⟨⟨by decide +kernel, by decide +kernel⟩, List.mem_of_getElem? (i := 1116) (by decide +kernel), List.mem_of_getElem? (i := 1531) (by decide +kernel), List.mem_of_getElem? (i := 1532) (by decide +kernel)⟩
theorem lw_p81 : lw_okq (⟨"BridgeServiceModel", "daysOf", "(I)I"⟩, 39) := ⟨⟨by decide +kernel, by decide +kernel⟩, List.mem_of_getElem? (i := 1116) (by decide +kernel), List.mem_of_getElem? (i := 1535) (by decide +kernel), List.mem_of_getElem? (i := 1536) (by decide +kernel)⟩
theorem lw_p82 : lw_okq (⟨"BridgeServiceModel", "goesPlans", "(IIIII)V"⟩, 39) := ⟨⟨by decide +kernel, by decide +kernel⟩, List.mem_of_getElem? (i := 1116) (by decide +kernel), List.mem_of_getElem? (i := 1539) (by decide +kernel), List.mem_of_getElem? (i := 1540) (by decide +kernel)⟩
theorem lw_p83 : lw_okq (⟨"BridgeServiceModel", "endsPlan", "(IIII)V"⟩, 39) := ⟨⟨by decide +kernel, by decide +kernel⟩, List.mem_of_getElem? (i := 1116) (by decide +kernel), List.mem_of_getElem? (i := 1543) (by decide +kernel), List.mem_of_getElem? (i := 1544) (by decide +kernel)⟩
theorem lw_p84 : lw_okq (⟨"BridgeServiceModel", "saves", "(I)V"⟩, 39) := ⟨⟨by decide +kernel, by decide +kernel⟩, List.mem_of_getElem? (i := 1116) (by decide +kernel), List.mem_of_getElem? (i := 1547) (by decide +kernel), List.mem_of_getElem? (i := 1548) (by decide +kernel)⟩
theorem lw_p85 : lw_okq (⟨"BridgeServiceModel", "restores", "(I)V"⟩, 39) := ⟨⟨by decide +kernel, by decide +kernel⟩, List.mem_of_getElem? (i := 1116) (by decide +kernel), List.mem_of_getElem? (i := 1551) (by decide +kernel), List.mem_of_getElem? (i := 1552) (by decide +kernel)⟩
theorem lw_p86 : lw_okq (⟨"BridgeServiceModel", "isSet", "(I)Z"⟩, 39) := ⟨⟨by decide +kernel, by decide +kernel⟩, List.mem_of_getElem? (i := 1116) (by decide +kernel), List.mem_of_getElem? (i := 1567) (by decide +kernel), List.mem_of_getElem? (i := 1568) (by decide +kernel)⟩
theorem lw_p87 : lw_okq (⟨"BridgeServiceModel", "playedFrom", "(II)I"⟩, 39) := ⟨⟨by decide +kernel, by decide +kernel⟩, List.mem_of_getElem? (i := 1116) (by decide +kernel), List.mem_of_getElem? (i := 1579) (by decide +kernel), List.mem_of_getElem? (i := 1580) (by decide +kernel)⟩
theorem lw_p88 : lw_okq (⟨"BridgeServiceModel", "fitting", "(I)I"⟩, 39) := ⟨⟨by decide +kernel, by decide +kernel⟩, List.mem_of_getElem? (i := 1116) (by decide +kernel), List.mem_of_getElem? (i := 1599) (by decide +kernel), List.mem_of_getElem? (i := 1600) (by decide +kernel)⟩
theorem lw_p89 : lw_okq (⟨"BridgeServiceModel", "tellsStranger", "(III)V"⟩, 39) := ⟨⟨by decide +kernel, by decide +kernel⟩, List.mem_of_getElem? (i := 1116) (by decide +kernel), List.mem_of_getElem? (i := 1603) (by decide +kernel), List.mem_of_getElem? (i := 1604) (by decide +kernel)⟩
theorem lw_p90 : lw_okq (⟨"BridgeServiceModel", "isSo", "(I)Z"⟩, 39) := ⟨⟨by decide +kernel, by decide +kernel⟩, List.mem_of_getElem? (i := 1116) (by decide +kernel), List.mem_of_getElem? (i := 1607) (by decide +kernel), List.mem_of_getElem? (i := 1608) (by decide +kernel)⟩
theorem lw_p91 : lw_okq (⟨"BridgeServiceModel", "byLot", "()I"⟩, 39) := ⟨⟨by decide +kernel, by decide +kernel⟩, List.mem_of_getElem? (i := 1116) (by decide +kernel), List.mem_of_getElem? (i := 1623) (by decide +kernel), List.mem_of_getElem? (i := 1624) (by decide +kernel)⟩
theorem lw_p92 : lw_okq (⟨"BridgeServiceModel", "isRow", "(II)Z"⟩, 39) := ⟨⟨by decide +kernel, by decide +kernel⟩, List.mem_of_getElem? (i := 1116) (by decide +kernel), List.mem_of_getElem? (i := 1640) (by decide +kernel), List.mem_of_getElem? (i := 1641) (by decide +kernel)⟩
theorem lw_p93 : lw_okq (⟨"BridgeServiceModel", "isAct", "(I)Z"⟩, 39) := ⟨⟨by decide +kernel, by decide +kernel⟩, List.mem_of_getElem? (i := 1116) (by decide +kernel), List.mem_of_getElem? (i := 1652) (by decide +kernel), List.mem_of_getElem? (i := 1653) (by decide +kernel)⟩
theorem lw_p94 : lw_okq (⟨"BridgeServiceModel", "lacks", "(II)I"⟩, 39) := ⟨⟨by decide +kernel, by decide +kernel⟩, List.mem_of_getElem? (i := 1116) (by decide +kernel), List.mem_of_getElem? (i := 1674) (by decide +kernel), List.mem_of_getElem? (i := 1675) (by decide +kernel)⟩
theorem lw_p95 : lw_okq (⟨"BridgeServiceModel", "isItem", "(III)Z"⟩, 39) := ⟨⟨by decide +kernel, by decide +kernel⟩, List.mem_of_getElem? (i := 1116) (by decide +kernel), List.mem_of_getElem? (i := 1682) (by decide +kernel), List.mem_of_getElem? (i := 1683) (by decide +kernel)⟩
def lw_privs_6 : List (MethodName × Nat) := [(⟨"BridgeServiceModel", "triesAll", "(II)V"⟩, 39), (⟨"BridgeServiceModel", "daysOf", "(I)I"⟩, 39), (⟨"BridgeServiceModel", "goesPlans", "(IIIII)V"⟩, 39), (⟨"BridgeServiceModel", "endsPlan", "(IIII)V"⟩, 39), (⟨"BridgeServiceModel", "saves", "(I)V"⟩, 39), (⟨"BridgeServiceModel", "restores", "(I)V"⟩, 39), (⟨"BridgeServiceModel", "isSet", "(I)Z"⟩, 39), (⟨"BridgeServiceModel", "playedFrom", "(II)I"⟩, 39), (⟨"BridgeServiceModel", "fitting", "(I)I"⟩, 39), (⟨"BridgeServiceModel", "tellsStranger", "(III)V"⟩, 39), (⟨"BridgeServiceModel", "isSo", "(I)Z"⟩, 39), (⟨"BridgeServiceModel", "byLot", "()I"⟩, 39), (⟨"BridgeServiceModel", "isRow", "(II)Z"⟩, 39), (⟨"BridgeServiceModel", "isAct", "(I)Z"⟩, 39), (⟨"BridgeServiceModel", "lacks", "(II)I"⟩, 39), (⟨"BridgeServiceModel", "isItem", "(III)Z"⟩, 39)]
theorem lw_r6 : ∀ q ∈ lw_privs_6, lw_okq q := List.forall_mem_cons.mpr ⟨lw_p80, List.forall_mem_cons.mpr ⟨lw_p81, List.forall_mem_cons.mpr ⟨lw_p82, List.forall_mem_cons.mpr ⟨lw_p83, List.forall_mem_cons.mpr ⟨lw_p84, List.forall_mem_cons.mpr ⟨lw_p85, List.forall_mem_cons.mpr ⟨lw_p86, List.forall_mem_cons.mpr ⟨lw_p87, List.forall_mem_cons.mpr ⟨lw_p88, List.forall_mem_cons.mpr ⟨lw_p89, List.forall_mem_cons.mpr ⟨lw_p90, List.forall_mem_cons.mpr ⟨lw_p91, List.forall_mem_cons.mpr ⟨lw_p92, List.forall_mem_cons.mpr ⟨lw_p93, List.forall_mem_cons.mpr ⟨lw_p94, List.forall_mem_cons.mpr ⟨lw_p95, fun _ h => absurd h List.not_mem_nil⟩⟩⟩⟩⟩⟩⟩⟩⟩⟩⟩⟩⟩⟩⟩⟩
theorem lw_p96 : lw_okq (⟨"BridgeServiceModel", "heldOn", "(I)I"⟩, 39) := ⟨⟨by decide +kernel, by decide +kernel⟩, List.mem_of_getElem? (i := 1116) (by decide +kernel), List.mem_of_getElem? (i := 1698) (by decide +kernel), List.mem_of_getElem? (i := 1699) (by decide +kernel)⟩
theorem lw_p97 : lw_okq (⟨"BridgeServiceModel", "laysAs", "(II)I"⟩, 39) := ⟨⟨by decide +kernel, by decide +kernel⟩, List.mem_of_getElem? (i := 1116) (by decide +kernel), List.mem_of_getElem? (i := 1706) (by decide +kernel), List.mem_of_getElem? (i := 1707) (by decide +kernel)⟩
theorem lw_p98 : lw_okq (⟨"BridgeServiceModel", "starts", "(I)V"⟩, 39) := ⟨⟨by decide +kernel, by decide +kernel⟩, List.mem_of_getElem? (i := 1116) (by decide +kernel), List.mem_of_getElem? (i := 1710) (by decide +kernel), List.mem_of_getElem? (i := 1711) (by decide +kernel)⟩
theorem lw_p99 : lw_okq (⟨"BridgeServiceModel", "tiltsAs", "(II)I"⟩, 39) := ⟨⟨by decide +kernel, by decide +kernel⟩, List.mem_of_getElem? (i := 1116) (by decide +kernel), List.mem_of_getElem? (i := 1714) (by decide +kernel), List.mem_of_getElem? (i := 1715) (by decide +kernel)⟩
theorem lw_p100 : lw_okq (⟨"BridgeServiceModel", "breaksAs", "(II)I"⟩, 39) := ⟨⟨by decide +kernel, by decide +kernel⟩, List.mem_of_getElem? (i := 1116) (by decide +kernel), List.mem_of_getElem? (i := 1718) (by decide +kernel), List.mem_of_getElem? (i := 1719) (by decide +kernel)⟩
theorem lw_p101 : lw_okq (⟨"BridgeServiceModel", "shinesAs", "(II)I"⟩, 39) := ⟨⟨by decide +kernel, by decide +kernel⟩, List.mem_of_getElem? (i := 1116) (by decide +kernel), List.mem_of_getElem? (i := 1722) (by decide +kernel), List.mem_of_getElem? (i := 1723) (by decide +kernel)⟩
def lw_privs_7 : List (MethodName × Nat) := [(⟨"BridgeServiceModel", "heldOn", "(I)I"⟩, 39), (⟨"BridgeServiceModel", "laysAs", "(II)I"⟩, 39), (⟨"BridgeServiceModel", "starts", "(I)V"⟩, 39), (⟨"BridgeServiceModel", "tiltsAs", "(II)I"⟩, 39), (⟨"BridgeServiceModel", "breaksAs", "(II)I"⟩, 39), (⟨"BridgeServiceModel", "shinesAs", "(II)I"⟩, 39)]
theorem lw_r7 : ∀ q ∈ lw_privs_7, lw_okq q := List.forall_mem_cons.mpr ⟨lw_p96, List.forall_mem_cons.mpr ⟨lw_p97, List.forall_mem_cons.mpr ⟨lw_p98, List.forall_mem_cons.mpr ⟨lw_p99, List.forall_mem_cons.mpr ⟨lw_p100, List.forall_mem_cons.mpr ⟨lw_p101, fun _ h => absurd h List.not_mem_nil⟩⟩⟩⟩⟩⟩
def lw_privs : List (MethodName × Nat) := lw_privs_1 ++ (lw_privs_2 ++ (lw_privs_3 ++ (lw_privs_4 ++ (lw_privs_5 ++ (lw_privs_6 ++ (lw_privs_7))))))
def lw_tbl : List Cond := k2_sels lw_privs ++ tables_1
theorem lw_privs_ok : ∀ q ∈ lw_privs, lw_okq q := by
  show ∀ q ∈ lw_privs_1 ++ (lw_privs_2 ++ (lw_privs_3 ++ (lw_privs_4 ++ (lw_privs_5 ++ (lw_privs_6 ++ (lw_privs_7)))))), lw_okq q
  exact List.forall_mem_append.mpr ⟨lw_r1, List.forall_mem_append.mpr ⟨lw_r2, List.forall_mem_append.mpr ⟨lw_r3, List.forall_mem_append.mpr ⟨lw_r4, List.forall_mem_append.mpr ⟨lw_r5, List.forall_mem_append.mpr ⟨lw_r6, lw_r7⟩⟩⟩⟩⟩⟩
-- ===== end of PART A; then your names; then what follows =====
end
section
/-- fields of type boolean, by number of the class * 64 + place -/
def e_bools : List Nat := [2, 578, 643, 678]
/-- how many fields the classes have -/
def e_nf (c : Nat) : Nat := ([6, 7, 9, 14, 5, 3, 3, 4, 17, 9, 39] : List Nat).getD c 0
/-- the bytes of the text of names -/
def e_nms : List Int32 := [112, 108, 97, 116, 101, 44, 100, 105, 115, 104, 44, 116, 117, 114, 101, 101, 110, 44, 98, 111, 97, 116, 44, 115, 97, 117, 99, 101, 114, 44, 99, 114, 97, 99, 107, 101, 100, 44, 115, 105, 116, 44, 115, 116, 97, 110, 100, 44, 108, 101, 97, 118, 101, 44, 105, 102, 44, 97, 110, 100, 44, 111, 114, 44, 110, 111, 116, 44, 121, 101, 97, 114, 44, 119, 105, 100, 116, 104, 44, 103, 114, 117, 100, 103, 101, 44, 109, 111, 111, 100, 44, 110, 117, 109, 98, 101, 114, 44]
end
section
/-! AN EVALUATOR of resolved code, over an abstract memory: kinds and sizes of the cells by their number; ints, longs and references (0: null, n + 1: cell n) by cell and place -/
abbrev e_M : Type := List (Nat × Nat) × (Nat → Nat → Int32) × (Nat → Nat → Int64) × (Nat → Nat → Nat)
/-- the script: how many, which -/
abbrev e_X : Type := Nat × (Nat → Int32)
abbrev e_R : Type := Option (List Value × e_M)
abbrev e_T : Type := Option (List Value × List Value × e_M)
def e_rf : Nat → Value
  | 0 => .null
  | n + 1 => .ref n
def e_up {α : Type} (f : Nat → Nat → α) (o k : Nat) (v : α) : Nat → Nat → α := fun a b => if a = o ∧ b = k then v else f a b
def e_in (i : Int32) (n : Nat) : Bool := !(decide (i < 0) || decide (n ≤ i.toNatClampNeg))
theorem e_in_iff {i : Int32} {n : Nat} : e_in i n = true ↔ vp_in i n := by
  simp [e_in, vp_in]
def e_abv (i : Nat) : Int32 := ([-1, 0, 0, 2, 0, 4] : List Int32).getD i 0
/-- kinds of arrays behind those of classes -/
def e_kI : Nat := 100
def e_kC : Nat := 101
def e_kJ : Nat := 102
def e_kO : Nat := 200
def e_c (c : Jvm.ClassFile.Cond) (x y : Int32) : Bool := match c with
  | .eq => decide (x = y)
  | .ne => decide (¬ x = y)
  | .lt => decide (x < y)
  | .ge => decide (y ≤ x)
  | .gt => decide (y < x)
  | .le => decide (x ≤ y)
def e_sw (J : Nat → e_R) (d : Int) (ps : List (Int × Int)) (x : Int32) : e_R := match ps with
  | [] => J d.toNat
  | (a, t) :: r => if x.toInt = a then J t.toNat else e_sw J d r x
def e_ii (f : Int32 → Int32 → Int32) (ls st : List Value) (m : e_M) : e_T := match st with
  | .int y :: .int x :: r => some (ls, .int (f x y) :: r, m)
  | _ => none
def e_i1 (f : Int32 → Int32) (ls st : List Value) (m : e_M) : e_T := match st with
  | .int x :: r => some (ls, .int (f x) :: r, m)
  | _ => none
def e_id (f : Int32 → Int32 → Int32) (ls st : List Value) (m : e_M) : e_T := match st with
  | .int y :: .int x :: r => if y = 0 then none else some (ls, .int (f x y) :: r, m)
  | _ => none
def e_jj (f : Int64 → Int64 → Int64) (ls st : List Value) (m : e_M) : e_T := match st with
  | .long y :: .long x :: r => some (ls, .long (f x y) :: r, m)
  | _ => none
def e_ji (f : Int64 → Int32 → Int64) (ls st : List Value) (m : e_M) : e_T := match st with
  | .int y :: .long x :: r => some (ls, .long (f x y) :: r, m)
  | _ => none
def e_st1 (i : Nat) (ls : List Value) (v : Value) : Option (List Value) :=
  if i < ls.length then (match i with
    | 0 => some (ls.set i v)
    | j + 1 => match ls[j]? with
      | some (.long _) => none
      | _ => some (ls.set (j + 1) v)) else none
def e_st2 (i : Nat) (ls : List Value) (v : Value) : Option (List Value) :=
  if i + 1 < ls.length then (match i with
    | 0 => some ((ls.set 0 v).set 1 (.retAddr 0))
    | j + 1 => match ls[j]? with
      | some (.long _) => none
      | _ => some ((ls.set (j + 1) v).set (j + 2) (.retAddr 0))) else none
/-- an object o of class n / 64, its place n % 64 -/
def e_ob (K : List (Nat × Nat)) (o n : Nat) : Bool := match K[o]? with
  | some (c, z) => decide (c = n / 64) && decide (n % 64 < z)
  | none => false
/-- an array o of a kind: how long -/
def e_ar (K : List (Nat × Nat)) (o k : Nat) : Nat := match K[o]? with
  | some (c, z) => if c = k then z else 0
  | none => 0
/-- fields of type boolean, by class * 64 + place: what they hold is 0 or 1 -/
def e_bool (n : Nat) : Bool := decide (n ∈ e_bools)
def e_st (X : e_X) (i : Instr) (ls st : List Value) (m : e_M) : e_T := match i with
  | .sipush v => some (ls, .int (Int32.ofInt v) :: st, m)
  | .goto_w v => some (ls, .long (Int64.ofInt v) :: st, m)
  | .iload i => match ls[i]? with
    | some (.int x) => some (ls, .int x :: st, m)
    | _ => none
  | .lload i => match ls[i]? with
    | some (.long x) => some (ls, .long x :: st, m)
    | _ => none
  | .aload i => match ls[i]? with
    | some (.ref x) => some (ls, .ref x :: st, m)
    | _ => none
  | .istore i => match st with
    | .int x :: r => (e_st1 i ls (.int x)).map fun l => (l, r, m)
    | _ => none
  | .astore i => match st with
    | .ref x :: r => (e_st1 i ls (.ref x)).map fun l => (l, r, m)
    | _ => none
  | .lstore i => match st with
    | .long x :: r => (e_st2 i ls (.long x)).map fun l => (l, r, m)
    | _ => none
  | .iinc i n => match ls[i]? with
    | some (.int x) => (e_st1 i ls (.int (x + Int32.ofInt n))).map fun l => (l, st, m)
    | _ => none
  | .iadd => e_ii (fun x y => x + y) ls st m
  | .isub => e_ii (fun x y => x - y) ls st m
  | .imul => e_ii (fun x y => x * y) ls st m
  | .idiv => e_id (fun x y => x / y) ls st m
  | .irem => e_id (fun x y => x % y) ls st m
  | .iand => e_ii (fun x y => x &&& y) ls st m
  | .ior => e_ii (fun x y => x ||| y) ls st m
  | .ixor => e_ii (fun x y => x ^^^ y) ls st m
  | .ishl => e_ii (fun x y => x <<< (y &&& 31)) ls st m
  | .ishr => e_ii (fun x y => x >>> (y &&& 31)) ls st m
  | .iushr => e_ii (fun x y => (x.toUInt32 >>> (y.toUInt32 &&& Int32.toUInt32 31)).toInt32) ls st m
  | .ineg => e_i1 (fun x => -x) ls st m
  | .i2b => e_i1 (fun x => x.toInt8.toInt32) ls st m
  | .i2s => e_i1 (fun x => x.toInt16.toInt32) ls st m
  | .i2c => e_i1 (fun x => (x.toUInt32 % 65536).toInt32) ls st m
  | .ladd => e_jj (fun x y => x + y) ls st m
  | .lsub => e_jj (fun x y => x - y) ls st m
  | .land => e_jj (fun x y => x &&& y) ls st m
  | .lor => e_jj (fun x y => x ||| y) ls st m
  | .lxor => e_jj (fun x y => x ^^^ y) ls st m
  | .lshl => e_ji (fun x y => x <<< (y.toInt64 &&& 63)) ls st m
  | .lshr => e_ji (fun x y => x >>> (y.toInt64 &&& 63)) ls st m
  | .lushr => e_ji (fun x y => (x.toUInt64 >>> (y.toInt64.toUInt64 &&& Int64.toUInt64 63)).toInt64) ls st m
  | .lcmp => match st with
    | .long y :: .long x :: r => some (ls, .int (lg_cmp x y) :: r, m)
    | _ => none
  | .i2l => match st with
    | .int x :: r => some (ls, .long x.toInt64 :: r, m)
    | _ => none
  | .l2i => match st with
    | .long x :: r => some (ls, .int x.toInt32 :: r, m)
    | _ => none
  | .dup => match st with
    | .int x :: r => some (ls, .int x :: .int x :: r, m)
    | .ref x :: r => some (ls, .ref x :: .ref x :: r, m)
    | _ => none
  | .pop => match st with
    | .int _ :: r => some (ls, r, m)
    | _ => none
  | .pop2 => match st with
    | .ref _ :: r => some (ls, r, m)
    | _ => none
  | .dup_x1 => match st with
    | .int x :: .ref y :: r => some (ls, .int x :: .ref y :: .int x :: r, m)
    | _ => none
  | .dup2 => match st with
    | .int x :: .ref y :: r => some (ls, .int x :: .ref y :: .int x :: .ref y :: r, m)
    | _ => none
  -- Math.max, min, abs
  | .dadd => e_ii (fun x y => if x < y then y else x) ls st m
  | .dsub => e_ii (fun x y => if y < x then y else x) ls st m
  | .dneg => e_i1 (fun x => if 0 ≤ x then x else 0 - x) ls st m
  -- fields
  | .getfield n => match st with
    | .ref o :: r => if e_ob m.1 o n then some (ls, .int (m.2.1 o (n % 64)) :: r, m) else none
    | _ => none
  | .checkcast n => match st with
    | .ref o :: r => if e_ob m.1 o n then some (ls, e_rf (m.2.2.2 o (n % 64)) :: r, m) else none
    | _ => none
  | .putfield n => match st with
    | .int v :: .ref o :: r => if e_ob m.1 o n && (!(e_bool n) || decide (v = 0) || decide (v = 1)) then some (ls, r, m.1, e_up m.2.1 o (n % 64) v, m.2.2.1, m.2.2.2) else none
    | _ => none
  | .instanceof n => match st with
    | .ref v :: .ref o :: r => if e_ob m.1 o n && decide (v < m.1.length) then some (ls, r, m.1, m.2.1, m.2.2.1, e_up m.2.2.2 o (n % 64) (v + 1)) else none
    | _ => none
  -- arrays
  | .iaload => match st with
    | .int i :: .ref o :: r => if e_in i (e_ar m.1 o e_kI) then some (ls, .int (m.2.1 o i.toNatClampNeg) :: r, m) else none
    | _ => none
  | .caload => match st with
    | .int i :: .ref o :: r => if e_in i (e_ar m.1 o e_kC) then some (ls, .int (m.2.1 o i.toNatClampNeg) :: r, m) else none
    | _ => none
  | .laload => match st with
    | .int i :: .ref o :: r => if e_in i (e_ar m.1 o e_kJ) then some (ls, .long (m.2.2.1 o i.toNatClampNeg) :: r, m) else none
    | _ => none
  | .anewarray n => match st with
    | .int i :: r => if i < 0 then none else some (ls, .ref m.1.length :: r, m.1 ++ [(e_kO + n, i.toNatClampNeg)], m.2.1, m.2.2.1, fun a b => if a = m.1.length then 0 else m.2.2.2 a b)
    | _ => none
  | .aaload => match st with
    | .int i :: .ref o :: r => match m.1[o]? with
      | some (c, z) => if decide (e_kO ≤ c) && e_in i z then some (ls, e_rf (m.2.2.2 o i.toNatClampNeg) :: r, m) else none
      | none => none
    | _ => none
  | .aastore => match st with
    | .ref v :: .int i :: .ref o :: r => match m.1[o]?, m.1[v]? with
      | some (c, z), some (d, _) => if decide (d < e_kI) && decide (c = e_kO + d) && e_in i z then some (ls, r, m.1, m.2.1, m.2.2.1, e_up m.2.2.2 o i.toNatClampNeg (v + 1)) else none
      | _, _ => none
    | _ => none
  | .iastore => match st with
    | .int v :: .int i :: .ref o :: r => if e_in i (e_ar m.1 o e_kI) then some (ls, r, m.1, e_up m.2.1 o i.toNatClampNeg v, m.2.2.1, m.2.2.2) else none
    | _ => none
  | .castore => match st with
    | .int v :: .int i :: .ref o :: r => if e_in i (e_ar m.1 o e_kC) && decide ((v.toUInt32 % 65536).toInt32 = v) then some (ls, r, m.1, e_up m.2.1 o i.toNatClampNeg v, m.2.2.1, m.2.2.2) else none
    | _ => none
  | .lastore => match st with
    | .long v :: .int i :: .ref o :: r => if e_in i (e_ar m.1 o e_kJ) then some (ls, r, m.1, m.2.1, e_up m.2.2.1 o i.toNatClampNeg v, m.2.2.2) else none
    | _ => none
  | .arraylength => match st with
    | .ref o :: r => match m.1[o]? with
      | some (c, z) => if decide (c = e_kI) then some (ls, .int (Int32.ofNat z) :: r, m) else none
      | none => none
    | _ => none
  | .new c => some (ls, .ref m.1.length :: st, m.1 ++ [(c, e_nf c)], fun a b => if a = m.1.length then 0 else m.2.1 a b, m.2.2.1, fun a b => if a = m.1.length then 0 else m.2.2.2 a b)
  | .newarray a => match st with
    | .int i :: r => if i < 0 then none else match a with
      | .int => some (ls, .ref m.1.length :: r, m.1 ++ [(e_kI, i.toNatClampNeg)], fun a b => if a = m.1.length then 0 else m.2.1 a b, m.2.2.1, m.2.2.2)
      | .char => some (ls, .ref m.1.length :: r, m.1 ++ [(e_kC, i.toNatClampNeg)], fun a b => if a = m.1.length then 0 else m.2.1 a b, m.2.2.1, m.2.2.2)
      | .long => some (ls, .ref m.1.length :: r, m.1 ++ [(e_kJ, i.toNatClampNeg)], m.2.1, fun a b => if a = m.1.length then 0 else m.2.2.1 a b, m.2.2.2)
      | _ => none
    | _ => none
  -- System.arraycopy of ints
  | .dmul => match st with
    | .int n :: .int dp :: .ref d :: .int sp :: .ref o :: r => if decide (n < 0) || decide (dp < 0) || decide (sp < 0) || decide (e_ar m.1 o e_kI < sp.toNatClampNeg + n.toNatClampNeg) || decide (e_ar m.1 d e_kI < dp.toNatClampNeg + n.toNatClampNeg) || decide (r.length > 3) || decide (m.1.length ≤ o) || decide (m.1.length ≤ d) then none
        else some (ls, r, m.1, fun a b => if a = d then (if dp.toNatClampNeg ≤ b ∧ b < dp.toNatClampNeg + n.toNatClampNeg then m.2.1 o (sp.toNatClampNeg + (b - dp.toNatClampNeg)) else m.2.1 d b) else m.2.1 a b, m.2.2.1, m.2.2.2)
    | _ => none
  -- the script (1000), ABOVE (1001), the text of names (1002) and its bytes (1003), a formatter (1004)
  | .faload => match st with
    | .int i :: .ref o :: r => if decide (o = 1000) && e_in i X.1 then some (ls, .int (X.2 i.toNatClampNeg) :: r, m) else none
    | _ => none
  | .fadd => match st with
    | .ref o :: r => if o = 1000 then some (ls, .int (Int32.ofNat X.1) :: r, m) else none
    | _ => none
  | .daload => match st with
    | .int i :: .ref o :: r => if decide (o = 1001) && e_in i 6 then some (ls, .int (e_abv i.toNatClampNeg) :: r, m) else none
    | _ => none
  | .fsub => match st with
    | .ref o :: r => if o = 1001 then some (ls, .int 6 :: r, m) else none
    | _ => none
  | .fload n => match st with
    | .ref o :: r => if o = 1002 then (match n with
      | 0 => some (ls, .ref 1003 :: r, m)
      | 1 => some (ls, .int 0 :: r, m)
      | _ => none) else none
    | _ => none
  | .baload => match st with
    | .int i :: .ref o :: r => if decide (o = 1003) && e_in i 98 then some (ls, .int (e_nms.getD i.toNatClampNeg 0) :: r, m) else none
    | _ => none
  | .fmul => match st with
    | .ref o :: r => if o = 1003 then some (ls, .int 98 :: r, m) else none
    | _ => none
  | .getstatic n => match n with
    | 0 => some (ls, .ref 1001 :: st, m)
    | 1 => some (ls, .int 1 :: st, m)
    | 2 => some (ls, .ref 1004 :: st, m)
    | 3 => some (ls, .ref 1002 :: st, m)
    | _ => none
  | _ => none

/-- what may lie below a call's arguments -/
def e_lo (r : List Value) : Bool := decide (r.length ≤ 4)
def e_x (X : e_X) (S : Nat → List Value → e_M → e_R) (J : Nat → List Value → List Value → e_M → e_R) : List Instr → List Value → List Value → e_M → e_R
  | [], _, _, _ => none
  | i :: is, ls, st, m =>
    match i with
    | .goto t => J t.toNat ls st m
    | .jsr t => J t.toNat ls st m
    | .ifCond c t => match st with
      | .int x :: r => if e_c c x 0 then J t.toNat ls r m else e_x X S J is ls r m
      | _ => none
    | .if_icmp c t => match st with
      | .int y :: .int x :: r => if e_c c x y then J t.toNat ls r m else e_x X S J is ls r m
      | _ => none
    | .lookupswitch d ps => match st with
      | .int x :: r => e_sw (fun t => J t ls r m) d ps.toList x
      | _ => none
    | .ireturn => match st with
      | [.int x] => some ([.int x], m)
      | _ => none
    | .lreturn => match st with
      | [.long x] => some ([.long x], m)
      | _ => none
    | .return_ => match st with
      | [] => some ([], m)
      | _ => none
    | .invokeinterface c n => if decide (n ≤ st.length) && e_lo (st.drop n) then (match S c (st.take n).reverse m with
      | some (r, m') => e_x X S J is ls (r ++ st.drop n) m'
      | none => none) else none
    | i => match e_st X i ls st m with
      | some (ls', st', m') => e_x X S J is ls' st' m'
      | none => none
def e_ent (n : Nat) (as : List Value) : List Value :=
  let l := as.flatMap fun v => if v.category = 2 then [v, .retAddr 0] else [v]
  l ++ List.replicate (n - l.length) (.retAddr 0)
end
section
/-! RUNNING: blocks by fuel, its limit, calls by depth -/
section
variable (P : Nat → Nat → List Instr) (mx : Nat → Nat)
def e_run (X : e_X) (S : Nat → List Value → e_M → e_R) (c : Nat) : Nat → Nat → List Value → List Value → e_M → e_R
  | 0, _, _, _, _ => none
  | n + 1, lab, ls, st, m => e_x X S (e_run X S c n) (P c lab) ls st m
noncomputable def e_lim {α : Type} (f : Nat → Option α) : Option α := @dite _ (∃ n r, f n = some r) (Classical.propDecidable _) (fun h => f h.choose) (fun _ => none)
noncomputable def e_go (X : e_X) (S : Nat → List Value → e_M → e_R) (c lab : Nat) (ls st : List Value) (m : e_M) : e_R := e_lim fun n => e_run P X S c n lab ls st m
noncomputable def e_S (X : e_X) : Nat → Nat → List Value → e_M → e_R
  | 0, _, _, _ => none
  | d + 1, c, as, m => e_go P X (e_S X d) c 0 (e_ent (mx c) as) [] m
/-- the same with fuel, to be computed -/
def e_F (X : e_X) (N : Nat) : Nat → Nat → List Value → e_M → e_R
  | 0, _, _, _ => none
  | d + 1, c, as, m => e_run P X (e_F X N d) c N 0 (e_ent (mx c) as) [] m
end
/-- what a jump gives counts at one place at most -/
theorem e_sw_J {J : Nat → e_R} {d : Int} {x : Int32} : ∀ {ps : List (Int × Int)} {r}, e_sw J d ps x = some r → ∃ t, J t = some r ∧ ∀ J' : Nat → e_R, J' t = some r → e_sw J' d ps x = some r
  | [], r, h => ⟨d.toNat, h, fun _ h' => h'⟩
  | (a, t) :: ps, r, h => by
    unfold e_sw at h
    by_cases hc : x.toInt = a
    · rw [if_pos hc] at h
      exact ⟨t.toNat, h, fun J' h' => by unfold e_sw; rw [if_pos hc]; exact h'⟩
    · rw [if_neg hc] at h
      obtain ⟨t', h1, h2⟩ := e_sw_J h
      exact ⟨t', h1, fun J' h' => by unfold e_sw; rw [if_neg hc]; exact h2 J' h'⟩
theorem e_x_J {X : e_X} {S : Nat → List Value → e_M → e_R} {J : Nat → List Value → List Value → e_M → e_R} : ∀ (is : List Instr) (ls st : List Value) (m : e_M) (r : List Value × e_M), e_x X S J is ls st m = some r →
    (∃ t a b q, J t a b q = some r ∧ ∀ J' : Nat → List Value → List Value → e_M → e_R, J' t a b q = some r → e_x X S J' is ls st m = some r) ∨ ∀ J', e_x X S J' is ls st m = some r := by
  intro is
  induction is with
  | nil => intro ls st m r h; simp [e_x] at h
  | cons i is ih =>
    intro ls st m r h
    unfold e_x at h
    split at h
    · exact Or.inl ⟨_, _, _, _, h, fun J' h' => by unfold e_x; exact h'⟩
    · exact Or.inl ⟨_, _, _, _, h, fun J' h' => by unfold e_x; exact h'⟩
    · split at h
      · split at h
        · rename_i hc
          exact Or.inl ⟨_, _, _, _, h, fun J' h' => by unfold e_x; dsimp only; rw [if_pos hc]; exact h'⟩
        · rename_i hc
          rcases ih _ _ _ _ h with ⟨t, a, b, q, h1, h2⟩ | h2
          · exact Or.inl ⟨t, a, b, q, h1, fun J' h' => by unfold e_x; dsimp only; rw [if_neg hc]; exact h2 J' h'⟩
          · exact Or.inr fun J' => by unfold e_x; dsimp only; rw [if_neg hc]; exact h2 J'
      · cases h
    · split at h
      · split at h
        · rename_i hc
          exact Or.inl ⟨_, _, _, _, h, fun J' h' => by unfold e_x; dsimp only; rw [if_pos hc]; exact h'⟩
        · rename_i hc
          rcases ih _ _ _ _ h with ⟨t, a, b, q, h1, h2⟩ | h2
          · exact Or.inl ⟨t, a, b, q, h1, fun J' h' => by unfold e_x; dsimp only; rw [if_neg hc]; exact h2 J' h'⟩
          · exact Or.inr fun J' => by unfold e_x; dsimp only; rw [if_neg hc]; exact h2 J'
      · cases h
    · split at h
      · obtain ⟨t, h1, h2⟩ := e_sw_J h
        exact Or.inl ⟨t, _, _, _, h1, fun J' h' => by unfold e_x; exact h2 _ h'⟩
      · cases h
    · split at h
      · exact Or.inr fun J' => by unfold e_x; exact h
      · cases h
    · split at h
      · exact Or.inr fun J' => by unfold e_x; exact h
      · cases h
    · split at h
      · exact Or.inr fun J' => by unfold e_x; exact h
      · cases h
    · split at h
      · rename_i hc
        split at h
        · rename_i r' m' hs
          rcases ih _ _ _ _ h with ⟨t, a, b, q, h1, h2⟩ | h2
          · exact Or.inl ⟨t, a, b, q, h1, fun J' h' => by unfold e_x; dsimp only; rw [if_pos hc, hs]; exact h2 J' h'⟩
          · exact Or.inr fun J' => by unfold e_x; dsimp only; rw [if_pos hc, hs]; exact h2 J'
        · cases h
      · cases h
    · rename_i n1 n1b n2 n3 n4 n5 n6 n7 n8
      split at h
      · rename_i ls' st' m' hs
        have key : ∀ J', e_x X S J' (i :: is) ls st m = e_x X S J' is ls' st' m' := by
          intro J'
          conv => lhs; unfold e_x
          split
          · exact absurd rfl (n1 _)
          · exact absurd rfl (n1b _)
          · exact absurd rfl (n2 _ _)
          · exact absurd rfl (n3 _ _)
          · exact absurd rfl (n4 _ _)
          · exact absurd rfl n5
          · exact absurd rfl n6
          · exact absurd rfl n7
          · exact absurd rfl (n8 _ _)
          · rw [hs]
        rcases ih _ _ _ _ h with ⟨t, a, b, q, h1, h2⟩ | h2
        · exact Or.inl ⟨t, a, b, q, h1, fun J' h' => by rw [key]; exact h2 J' h'⟩
        · exact Or.inr fun J' => by rw [key]; exact h2 J'
      · cases h
section
variable {P : Nat → Nat → List Instr} {mx : Nat → Nat} {X : e_X}
theorem e_x_mono {S : Nat → List Value → e_M → e_R} {J J' : Nat → List Value → List Value → e_M → e_R} (hJ : ∀ t a b q r, J t a b q = some r → J' t a b q = some r) {is ls st m r} (h : e_x X S J is ls st m = some r) : e_x X S J' is ls st m = some r := by
  rcases e_x_J is ls st m r h with ⟨t, a, b, q, h1, h2⟩ | h2
  · exact h2 J' (hJ _ _ _ _ _ h1)
  · exact h2 J'
theorem e_run_mono {S : Nat → List Value → e_M → e_R} {c : Nat} : ∀ (n k lab : Nat) (ls st : List Value) (m : e_M) r, n ≤ k → e_run P X S c n lab ls st m = some r → e_run P X S c k lab ls st m = some r
  | 0, _, _, _, _, _, _, _, h => by cases h
  | n + 1, 0, _, _, _, _, _, hk, _ => by omega
  | n + 1, k + 1, lab, ls, st, m, r, hk, h => by
    unfold e_run at h ⊢
    exact e_x_mono (fun t a b q r' h' => e_run_mono n k t a b q r' (by omega) h') h
theorem e_lim_some {α : Type} {f : Nat → Option α} (hm : ∀ n k r, n ≤ k → f n = some r → f k = some r) {r : α} : e_lim f = some r ↔ ∃ n, f n = some r := by
  constructor
  · intro h
    unfold e_lim at h
    by_cases hc : ∃ n r, f n = some r
    · rw [dif_pos hc] at h
      exact ⟨_, h⟩
    · rw [dif_neg hc] at h
      cases h
  · intro ⟨n, h⟩
    have hc : ∃ n r, f n = some r := ⟨n, r, h⟩
    unfold e_lim
    rw [dif_pos hc]
    obtain ⟨r', hr'⟩ := hc.choose_spec
    rw [hr']
    have h1 := hm n (max n hc.choose) r (by omega) h
    have h2 := hm hc.choose (max n hc.choose) r' (by omega) hr'
    rw [h1] at h2
    exact h2.symm
theorem e_go_some {S : Nat → List Value → e_M → e_R} {c lab : Nat} {ls st : List Value} {m : e_M} {r} : e_go P X S c lab ls st m = some r ↔ ∃ n, e_run P X S c n lab ls st m = some r :=
  e_lim_some (fun n k r hk h => e_run_mono n k lab ls st m r hk h)
/-- a block, then what its jumps give -/
theorem e_go_eq (S : Nat → List Value → e_M → e_R) (c lab : Nat) (ls st : List Value) (m : e_M) : e_go P X S c lab ls st m = e_x X S (e_go P X S c) (P c lab) ls st m := by
  apply Option.ext
  intro r
  constructor
  · intro h
    obtain ⟨n, hn⟩ := e_go_some.mp h
    cases n with
    | zero => cases hn
    | succ n =>
      unfold e_run at hn
      exact e_x_mono (fun t a b q r' h' => e_go_some.mpr ⟨n, h'⟩) hn
  · intro h
    rcases e_x_J _ _ _ _ _ h with ⟨t, a, b, q, h1, h2⟩ | h2
    · obtain ⟨n, hn⟩ := e_go_some.mp h1
      exact e_go_some.mpr ⟨n + 1, by unfold e_run; exact h2 _ hn⟩
    · exact e_go_some.mpr ⟨1, by unfold e_run; exact h2 _⟩
end
end
section
/-! THE PROGRAM, resolved, by wip/whole/gen.py -/
/-- A.init -/
def g_c0 : List (Nat × List Instr) := [(0, [.aload 0, .pop2, .aload 0, .sipush 30, .newarray .int, .instanceof 0, .aload 0, .sipush 0, .putfield 1, .aload 0, .sipush 0, .putfield 2, .aload 0, .sipush 0, .putfield 3, .aload 0, .sipush 0, .putfield 4, .aload 0, .sipush 0, .putfield 5, .return_])]
/-- A.begin -/
def g_c1 : List (Nat × List Instr) := [(0, [.aload 0, .iload 1, .putfield 3, .aload 0, .iload 2, .putfield 4, .aload 0, .iload 3, .putfield 5, .aload 0, .sipush 0, .putfield 1, .aload 0, .sipush 0, .putfield 2, .return_])]
/-- A.perform -/
def g_c2 : List (Nat × List Instr) := [(0, [.sipush 0, .istore 3, .iload 1, .lookupswitch 55 #[(0, 28), (1, 37), (2, 46)]]),
  (28, [.aload 0, .iload 2, .invokeinterface 3 2, .istore 3, .goto 61]),
  (37, [.aload 0, .iload 2, .invokeinterface 5 2, .istore 3, .goto 61]),
  (46, [.aload 0, .iload 2, .invokeinterface 6 2, .istore 3, .goto 61]),
  (55, [.aload 0, .iload 2, .invokeinterface 7 2, .istore 3, .jsr 61]),
  (61, [.aload 0, .getfield 2, .ifCond .eq 73, .sipush (-15), .goto 74]),
  (73, [.iload 3, .jsr 74]),
  (74, [.ireturn])]
/-- A.lays -/
def g_c3 : List (Nat × List Instr) := [(0, [.aload 0, .getfield 3, .sipush 1, .if_icmp .ne 14, .aload 0, .sipush 20, .invokeinterface 4 2, .jsr 14]),
  (14, [.aload 0, .getfield 3, .sipush 3, .if_icmp .ne 28, .aload 0, .sipush 50, .invokeinterface 4 2, .jsr 28]),
  (28, [.aload 0, .sipush 10, .invokeinterface 4 2, .iload 1, .sipush 2, .imul, .aload 0, .getfield 4, .iadd, .istore 2, .aload 0, .getfield 3, .sipush 1, .if_icmp .ne 55, .iload 2, .sipush 3, .imul, .ireturn]),
  (55, [.aload 0, .getfield 3, .sipush 3, .if_icmp .ne 69, .iload 2, .sipush 4, .ixor, .goto 70]),
  (69, [.iload 2, .jsr 70]),
  (70, [.ireturn])]
/-- A.note -/
def g_c4 : List (Nat × List Instr) := [(0, [.aload 0, .getfield 2, .ifCond .ne 33, .aload 0, .getfield 1, .sipush 30, .if_icmp .ge 33, .aload 0, .checkcast 0, .aload 0, .dup, .getfield 1, .dup_x1, .sipush 1, .iadd, .putfield 1, .iload 1, .iastore, .jsr 33]),
  (33, [.return_])]
/-- A.tilts -/
def g_c5 : List (Nat × List Instr) := [(0, [.aload 0, .getfield 3, .sipush 2, .invokeinterface 112 2, .istore 2, .iload 2, .ifCond .eq 19, .aload 0, .sipush 30, .invokeinterface 4 2, .jsr 19]),
  (19, [.aload 0, .getfield 3, .sipush 5, .if_icmp .ne 33, .aload 0, .sipush 60, .invokeinterface 4 2, .jsr 33]),
  (33, [.aload 0, .sipush 11, .invokeinterface 4 2, .aload 0, .iload 2, .ifCond .eq 50, .iload 1, .sipush 1, .iadd, .goto 51]),
  (50, [.iload 1, .jsr 51]),
  (51, [.invokeinterface 3 2, .aload 0, .getfield 5, .isub, .istore 3, .aload 0, .getfield 3, .sipush 5, .if_icmp .ne 75, .iload 3, .sipush 60, .isub, .goto 76]),
  (75, [.iload 3, .jsr 76]),
  (76, [.ireturn])]
/-- A.breaks -/
def g_c6 : List (Nat × List Instr) := [(0, [.aload 0, .getfield 3, .sipush 4, .invokeinterface 112 2, .istore 2, .aload 0, .getfield 3, .sipush 5, .if_icmp .ne 23, .aload 0, .sipush 61, .invokeinterface 4 2, .jsr 23]),
  (23, [.iload 2, .ifCond .eq 33, .aload 0, .sipush 40, .invokeinterface 4 2, .jsr 33]),
  (33, [.aload 0, .sipush 12, .invokeinterface 4 2, .aload 0, .getfield 4, .aload 0, .getfield 5, .iadd, .sipush 3, .isub, .istore 3, .iload 3, .ifCond .ne 62, .aload 0, .sipush 1, .putfield 2, .sipush 0, .ireturn]),
  (62, [.iload 2, .ifCond .eq 74, .sipush 0, .iload 1, .iload 3, .irem, .isub, .goto 77]),
  (74, [.iload 1, .iload 3, .irem, .jsr 77]),
  (77, [.istore 4, .aload 0, .getfield 3, .sipush 5, .if_icmp .ne 101, .iload 4, .aload 0, .aload 0, .getfield 5, .invokeinterface 3 2, .ixor, .goto 103]),
  (101, [.iload 4, .jsr 103]),
  (103, [.ireturn])]
/-- A.shines -/
def g_c7 : List (Nat × List Instr) := [(0, [.aload 0, .getfield 3, .sipush 3, .if_icmp .ne 14, .aload 0, .sipush 51, .invokeinterface 4 2, .jsr 14]),
  (14, [.aload 0, .sipush 13, .invokeinterface 4 2, .aload 0, .iload 1, .invokeinterface 5 2, .istore 2, .iload 2, .aload 0, .iload 1, .invokeinterface 6 2, .ixor, .istore 3, .aload 0, .getfield 3, .sipush 3, .if_icmp .ne 55, .iload 3, .aload 0, .aload 0, .getfield 4, .invokeinterface 5 2, .iadd, .goto 56]),
  (55, [.iload 3, .jsr 56]),
  (56, [.ireturn])]
/-- L.init -/
def g_c8 : List (Nat × List Instr) := [(0, [.aload 0, .pop2, .aload 0, .sipush 8, .newarray .int, .instanceof 64, .aload 0, .sipush 8, .newarray .int, .instanceof 65, .aload 0, .sipush 8, .newarray .int, .instanceof 66, .aload 0, .sipush 200, .newarray .int, .instanceof 67, .aload 0, .sipush 5, .newarray .int, .instanceof 68, .aload 0, .sipush 0, .putfield 69, .aload 0, .sipush 0, .putfield 70, .return_])]
/-- L.tellTo -/
def g_c9 : List (Nat × List Instr) := [(0, [.sipush 0, .istore 2, .sipush 0, .istore 3, .jsr 4]),
  (4, [.iload 3, .aload 0, .getfield 69, .if_icmp .ge 59, .iload 1, .aload 0, .checkcast 64, .iload 3, .iaload, .invokeinterface 112 2, .ifCond .eq 46, .aload 0, .iload 2, .aload 0, .checkcast 66, .iload 3, .iaload, .invokeinterface 10 3, .ifCond .eq 46, .aload 0, .checkcast 65, .iload 3, .iaload, .ireturn]),
  (46, [.aload 0, .checkcast 66, .iload 3, .iaload, .istore 2, .iinc 3 1, .goto 4]),
  (59, [.sipush 0, .ireturn])]
/-- L.holds -/
def g_c10 : List (Nat × List Instr) := [(0, [.goto_w 1, .lstore 3, .iload 1, .istore 5, .jsr 5]),
  (5, [.iload 5, .iload 2, .if_icmp .ge 96, .aload 0, .checkcast 67, .iload 5, .iaload, .istore 6, .iload 6, .sipush (-1), .if_icmp .ne 33, .lload 3, .goto_w 1, .lxor, .lstore 3, .goto 90]),
  (33, [.iload 6, .sipush (-2), .if_icmp .ne 53, .lload 3, .sipush 1, .lushr, .lload 3, .goto_w (-2), .lor, .land, .lstore 3, .goto 90]),
  (53, [.iload 6, .sipush (-3), .if_icmp .ne 71, .lload 3, .sipush 1, .lushr, .lload 3, .goto_w 1, .land, .lor, .lstore 3, .goto 90]),
  (71, [.lload 3, .sipush 1, .lshl, .aload 0, .iload 6, .invokeinterface 11 2, .ifCond .eq 87, .goto_w 1, .goto 88]),
  (87, [.goto_w 0, .jsr 88]),
  (88, [.lor, .lstore 3, .jsr 90]),
  (90, [.iinc 5 1, .goto 5]),
  (96, [.lload 3, .goto_w 1, .land, .goto_w 1, .lcmp, .ifCond .ne 108, .sipush 1, .goto 109]),
  (108, [.sipush 0, .jsr 109]),
  (109, [.ireturn])]
/-- L.compares -/
def g_c11 : List (Nat × List Instr) := [(0, [.iload 1, .sipush 14, .ishr, .sipush 16383, .iand, .istore 2, .iload 1, .sipush 16383, .iand, .istore 3, .iload 2, .sipush 10000, .if_icmp .lt 40, .iload 2, .sipush 10005, .if_icmp .ge 40, .aload 0, .checkcast 68, .iload 2, .sipush 10000, .isub, .iaload, .istore 2, .jsr 40]),
  (40, [.iload 3, .sipush 10000, .if_icmp .lt 65, .iload 3, .sipush 10005, .if_icmp .ge 65, .aload 0, .checkcast 68, .iload 3, .sipush 10000, .isub, .iaload, .istore 3, .jsr 65]),
  (65, [.iload 1, .sipush 28, .ishr, .lookupswitch 118 #[(0, 96), (1, 107)]]),
  (96, [.iload 2, .iload 3, .if_icmp .ge 105, .sipush 1, .goto 106]),
  (105, [.sipush 0, .jsr 106]),
  (106, [.ireturn]),
  (107, [.iload 2, .iload 3, .if_icmp .ne 116, .sipush 1, .goto 117]),
  (116, [.sipush 0, .jsr 117]),
  (117, [.ireturn]),
  (118, [.iload 2, .iload 3, .if_icmp .le 127, .sipush 1, .goto 128]),
  (127, [.sipush 0, .jsr 128]),
  (128, [.ireturn])]
/-- L.empty -/
def g_c12 : List (Nat × List Instr) := [(0, [.aload 0, .sipush 0, .putfield 69, .aload 0, .sipush 0, .putfield 70, .return_])]
/-- L.comparison -/
def g_c13 : List (Nat × List Instr) := [(0, [.iload 1, .sipush 28, .ishl, .iload 0, .sipush 14, .ishl, .ior, .iload 2, .ior, .ireturn])]
/-- L.append -/
def g_c14 : List (Nat × List Instr) := [(0, [.aload 0, .getfield 70, .sipush 200, .if_icmp .ge 27, .aload 0, .checkcast 67, .aload 0, .dup, .getfield 70, .dup_x1, .sipush 1, .iadd, .putfield 70, .iload 1, .iastore, .jsr 27]),
  (27, [.return_])]
/-- L.close -/
def g_c15 : List (Nat × List Instr) := [(0, [.aload 0, .getfield 69, .sipush 8, .if_icmp .lt 10, .return_]),
  (10, [.aload 0, .checkcast 64, .aload 0, .getfield 69, .iload 1, .iastore, .aload 0, .checkcast 65, .aload 0, .getfield 69, .iload 2, .iastore, .aload 0, .checkcast 66, .aload 0, .getfield 69, .aload 0, .getfield 70, .iastore, .aload 0, .dup, .getfield 69, .sipush 1, .iadd, .putfield 69, .return_])]
/-- L.copyFrom -/
def g_c16 : List (Nat × List Instr) := [(0, [.aload 1, .checkcast 64, .sipush 0, .aload 0, .checkcast 64, .sipush 0, .sipush 8, .dmul, .aload 1, .checkcast 65, .sipush 0, .aload 0, .checkcast 65, .sipush 0, .sipush 8, .dmul, .aload 1, .checkcast 66, .sipush 0, .aload 0, .checkcast 66, .sipush 0, .sipush 8, .dmul, .aload 1, .checkcast 67, .sipush 0, .aload 0, .checkcast 67, .sipush 0, .sipush 200, .dmul, .aload 0, .aload 1, .getfield 69, .putfield 69, .aload 0, .aload 1, .getfield 70, .putfield 70, .return_])]
/-- P.init -/
def g_c17 : List (Nat × List Instr) := [(0, [.aload 0, .pop2, .aload 0, .sipush 4, .newarray .int, .instanceof 129, .aload 0, .sipush 4, .newarray .int, .instanceof 130, .aload 0, .sipush 0, .putfield 131, .aload 0, .sipush 0, .putfield 132, .aload 0, .sipush 0, .putfield 133, .aload 0, .sipush 0, .putfield 134, .aload 0, .sipush (-3), .putfield 135, .aload 0, .sipush 0, .putfield 136, .aload 0, .aload 1, .instanceof 128, .return_])]
/-- P.tryAll -/
def g_c18 : List (Nat × List Instr) := [(0, [.aload 0, .sipush 4, .aload 0, .checkcast 128, .iload 1, .invokeinterface 86 2, .dsub, .putfield 131, .aload 0, .iload 2, .putfield 132, .aload 0, .sipush 0, .putfield 133, .aload 0, .sipush 0, .putfield 134, .aload 0, .sipush (-3), .putfield 135, .aload 0, .sipush 0, .putfield 136, .aload 0, .sipush 0, .sipush 0, .sipush 0, .invokeinterface 19 4, .return_])]
/-- P.tryFrom -/
def g_c19 : List (Nat × List Instr) := [(0, [.iload 1, .aload 0, .getfield 131, .if_icmp .lt 15, .aload 0, .iload 2, .iload 3, .invokeinterface 20 3, .return_]),
  (15, [.aload 0, .checkcast 128, .invokeinterface 85 1, .istore 4, .sipush 0, .istore 5, .jsr 27]),
  (27, [.iload 5, .aload 0, .checkcast 128, .getfield 521, .if_icmp .gt 96, .aload 0, .checkcast 129, .iload 1, .iload 5, .iastore, .aload 0, .checkcast 128, .iload 5, .invokeinterface 79 2, .istore 6, .aload 0, .iload 1, .sipush 1, .iadd, .iload 2, .iload 6, .iadd, .iload 5, .ifCond .ne 75, .iload 3, .goto 78]),
  (75, [.iload 3, .sipush 1, .iadd, .jsr 78]),
  (78, [.invokeinterface 19 4, .aload 0, .checkcast 128, .iload 4, .invokeinterface 87 2, .iinc 5 1, .goto 27]),
  (96, [.return_])]
/-- P.weigh -/
def g_c20 : List (Nat × List Instr) := [(0, [.aload 0, .getfield 134, .ifCond .eq 15, .iload 1, .aload 0, .getfield 133, .if_icmp .le 39, .jsr 15]),
  (15, [.aload 0, .iload 1, .putfield 133, .aload 0, .sipush 0, .putfield 134, .aload 0, .checkcast 129, .sipush 0, .aload 0, .checkcast 130, .sipush 0, .sipush 4, .dmul, .jsr 39]),
  (39, [.iload 1, .aload 0, .getfield 133, .if_icmp .ne 57, .aload 0, .dup, .getfield 134, .sipush 1, .iadd, .putfield 134, .jsr 57]),
  (57, [.aload 0, .dup, .getfield 136, .aload 0, .checkcast 128, .getfield 522, .ior, .putfield 136, .aload 0, .checkcast 128, .getfield 522, .aload 0, .getfield 132, .iand, .aload 0, .getfield 132, .if_icmp .ne 96, .sipush 1, .goto 97]),
  (96, [.sipush 0, .jsr 97]),
  (97, [.istore 3, .iload 3, .ifCond .eq 124, .aload 0, .getfield 135, .sipush (-3), .if_icmp .eq 119, .iload 2, .aload 0, .getfield 135, .if_icmp .ge 124, .jsr 119]),
  (119, [.aload 0, .iload 2, .putfield 135, .jsr 124]),
  (124, [.return_])]
/-- P.valueOfGame -/
def g_c21 : List (Nat × List Instr) := [(0, [.iload 1, .ifCond .gt 6, .sipush 0, .ireturn]),
  (6, [.sipush 0, .istore 3, .sipush 0, .istore 4, .jsr 11]),
  (11, [.iload 4, .aload 0, .checkcast 128, .getfield 521, .if_icmp .gt 66, .aload 0, .iload 4, .iload 1, .iload 2, .invokeinterface 22 4, .istore 5, .iload 4, .ifCond .eq 57, .iload 2, .ifCond .eq 51, .iload 5, .iload 3, .if_icmp .le 60, .goto 57]),
  (51, [.iload 5, .iload 3, .if_icmp .ge 60, .jsr 57]),
  (57, [.iload 5, .istore 3, .jsr 60]),
  (60, [.iinc 4 1, .goto 11]),
  (66, [.iload 3, .ireturn])]
/-- P.valueOfAct -/
def g_c22 : List (Nat × List Instr) := [(0, [.aload 0, .checkcast 128, .invokeinterface 85 1, .istore 4, .aload 0, .checkcast 128, .iload 1, .invokeinterface 79 2, .istore 5, .iload 5, .aload 0, .iload 2, .sipush 1, .isub, .iload 3, .ifCond .ne 33, .sipush 1, .goto 34]),
  (33, [.sipush 0, .jsr 34]),
  (34, [.invokeinterface 21 3, .iadd, .istore 6, .aload 0, .checkcast 128, .iload 4, .invokeinterface 87 2, .iload 6, .ireturn])]
/-- P.leastGoodAct -/
def g_c23 : List (Nat × List Instr) := [(0, [.sipush 0, .istore 2, .aload 0, .sipush 0, .iload 1, .sipush 1, .invokeinterface 22 4, .istore 3, .sipush 1, .istore 4, .jsr 13]),
  (13, [.iload 4, .aload 0, .checkcast 128, .getfield 521, .if_icmp .gt 53, .aload 0, .iload 4, .iload 1, .sipush 1, .invokeinterface 22 4, .istore 5, .iload 5, .iload 3, .if_icmp .le 47, .iload 5, .istore 3, .iload 4, .istore 2, .jsr 47]),
  (47, [.iinc 4 1, .goto 13]),
  (53, [.iload 2, .ireturn])]
/-- R.init -/
def g_c24 : List (Nat × List Instr) := [(0, [.aload 0, .pop2, .aload 0, .new 1, .dup, .invokeinterface 8 1, .instanceof 192, .aload 0, .sipush 200, .newarray .int, .instanceof 193, .aload 0, .sipush 0, .putfield 194, .aload 0, .sipush 0, .putfield 195, .aload 0, .sipush 0, .putfield 196, .aload 0, .sipush 0, .putfield 197, .aload 0, .sipush 0, .putfield 198, .aload 0, .sipush 0, .putfield 199, .aload 0, .sipush 0, .putfield 200, .aload 0, .sipush 0, .putfield 201, .aload 0, .sipush 0, .putfield 202, .aload 0, .sipush 0, .putfield 203, .aload 0, .sipush 200, .newarray .int, .instanceof 204, .aload 0, .sipush 0, .putfield 205, .return_])]
/-- R.takeBytes -/
def g_c25 : List (Nat × List Instr) := [(0, [.sipush 0, .istore 4, .jsr 3]),
  (3, [.iload 4, .iload 3, .if_icmp .ge 53, .aload 0, .getfield 194, .sipush 200, .if_icmp .ge 53, .aload 0, .checkcast 193, .aload 0, .dup, .getfield 194, .dup_x1, .sipush 1, .iadd, .putfield 194, .lload 1, .sipush 8, .iload 4, .imul, .lushr, .goto_w 255, .land, .l2i, .iastore, .iinc 4 1, .goto 3]),
  (53, [.aload 0, .getfield 194, .ireturn])]
/-- R.readAll -/
def g_c26 : List (Nat × List Instr) := [(0, [.aload 0, .checkcast 192, .invokeinterface 12 1, .aload 0, .sipush 0, .putfield 195, .aload 0, .sipush 0, .putfield 198, .aload 0, .sipush 0, .putfield 203, .aload 0, .sipush 0, .putfield 205, .aload 0, .invokeinterface 27 1, .istore 1, .sipush 0, .istore 2, .jsr 34]),
  (34, [.iload 2, .sipush 200, .if_icmp .ge 66, .iload 1, .sipush 20, .if_icmp .eq 66, .aload 0, .iload 1, .invokeinterface 33 2, .ifCond .eq 66, .aload 0, .invokeinterface 27 1, .istore 1, .iinc 2 1, .goto 34]),
  (66, [.aload 0, .sipush 0, .putfield 194, .iload 1, .sipush 20, .if_icmp .ne 88, .aload 0, .getfield 198, .ifCond .ne 88, .sipush (-1), .goto 92]),
  (88, [.aload 0, .getfield 196, .jsr 92]),
  (92, [.ireturn])]
/-- R.nextWord -/
def g_c27 : List (Nat × List Instr) := [(0, [.aload 0, .getfield 195, .aload 0, .getfield 194, .if_icmp .ge 38, .aload 0, .checkcast 193, .aload 0, .getfield 195, .iaload, .sipush 32, .if_icmp .ne 38, .aload 0, .dup, .getfield 195, .sipush 1, .iadd, .putfield 195, .goto 0]),
  (38, [.aload 0, .aload 0, .getfield 195, .putfield 196, .aload 0, .getfield 195, .aload 0, .getfield 194, .if_icmp .lt 60, .sipush 20, .ireturn]),
  (60, [.aload 0, .checkcast 193, .aload 0, .getfield 195, .iaload, .istore 1, .iload 1, .invokeinterface 28 1, .ifCond .eq 82, .aload 0, .invokeinterface 29 1, .ireturn]),
  (82, [.iload 1, .invokeinterface 30 1, .ifCond .eq 94, .aload 0, .invokeinterface 31 1, .ireturn]),
  (94, [.aload 0, .dup, .getfield 195, .sipush 1, .iadd, .putfield 195, .iload 1, .invokeinterface 32 1, .ireturn])]
/-- R.isLetter -/
def g_c28 : List (Nat × List Instr) := [(0, [.iload 0, .sipush 97, .if_icmp .lt 16, .iload 0, .sipush 122, .if_icmp .gt 16, .sipush 1, .goto 17]),
  (16, [.sipush 0, .jsr 17]),
  (17, [.ireturn])]
/-- R.readName -/
def g_c29 : List (Nat × List Instr) := [(0, [.aload 0, .getfield 195, .aload 0, .getfield 194, .if_icmp .ge 39, .aload 0, .checkcast 193, .aload 0, .getfield 195, .iaload, .invokeinterface 28 1, .ifCond .eq 39, .aload 0, .dup, .getfield 195, .sipush 1, .iadd, .putfield 195, .goto 0]),
  (39, [.sipush 0, .istore 1, .aload 0, .getfield 196, .istore 2, .sipush 0, .istore 3, .jsr 48]),
  (48, [.iload 3, .getstatic 3, .invokeinterface 301 1, .if_icmp .ge 134, .getstatic 3, .iload 3, .invokeinterface 303 2, .istore 4, .iload 4, .sipush 44, .if_icmp .ne 93, .iload 2, .aload 0, .getfield 195, .if_icmp .ne 82, .iload 1, .ireturn]),
  (82, [.iinc 1 1, .aload 0, .getfield 196, .istore 2, .goto 128]),
  (93, [.iload 2, .aload 0, .getfield 196, .if_icmp .lt 126, .iload 2, .aload 0, .getfield 195, .if_icmp .ge 126, .aload 0, .checkcast 193, .iload 2, .iaload, .iload 4, .if_icmp .ne 126, .iinc 2 1, .goto 128]),
  (126, [.sipush (-1), .istore 2, .jsr 128]),
  (128, [.iinc 3 1, .goto 48]),
  (134, [.sipush 19, .ireturn])]
/-- R.isDigit -/
def g_c30 : List (Nat × List Instr) := [(0, [.iload 0, .sipush 48, .if_icmp .lt 16, .iload 0, .sipush 57, .if_icmp .gt 16, .sipush 1, .goto 17]),
  (16, [.sipush 0, .jsr 17]),
  (17, [.ireturn])]
/-- R.readNumber -/
def g_c31 : List (Nat × List Instr) := [(0, [.aload 0, .sipush 0, .putfield 197, .jsr 5]),
  (5, [.aload 0, .getfield 195, .aload 0, .getfield 194, .if_icmp .ge 81, .aload 0, .checkcast 193, .aload 0, .getfield 195, .iaload, .invokeinterface 30 1, .ifCond .eq 81, .aload 0, .getfield 195, .aload 0, .getfield 196, .isub, .sipush 4, .if_icmp .ge 68, .aload 0, .sipush 10, .aload 0, .getfield 197, .imul, .aload 0, .checkcast 193, .aload 0, .getfield 195, .iaload, .iadd, .sipush 48, .isub, .putfield 197, .jsr 68]),
  (68, [.aload 0, .dup, .getfield 195, .sipush 1, .iadd, .putfield 195, .goto 5]),
  (81, [.aload 0, .getfield 195, .aload 0, .getfield 196, .isub, .sipush 4, .if_icmp .le 99, .sipush 19, .goto 101]),
  (99, [.sipush 18, .jsr 101]),
  (101, [.ireturn])]
/-- R.signWord -/
def g_c32 : List (Nat × List Instr) := [(0, [.iload 0, .lookupswitch 78 #[(40, 69), (41, 72), (59, 75), (60, 60), (61, 63), (62, 66)]]),
  (60, [.sipush 21, .ireturn]),
  (63, [.sipush 22, .ireturn]),
  (66, [.sipush 23, .ireturn]),
  (69, [.sipush 24, .ireturn]),
  (72, [.sipush 25, .ireturn]),
  (75, [.sipush 26, .ireturn]),
  (78, [.sipush 19, .ireturn])]
/-- R.mayStand -/
def g_c33 : List (Nat × List Instr) := [(0, [.aload 0, .getfield 198, .lookupswitch 80 #[(0, 44), (1, 50), (2, 56), (3, 62), (4, 68), (5, 74)]]),
  (44, [.aload 0, .iload 1, .invokeinterface 34 2, .ireturn]),
  (50, [.aload 0, .iload 1, .invokeinterface 35 2, .ireturn]),
  (56, [.aload 0, .iload 1, .invokeinterface 37 2, .ireturn]),
  (62, [.aload 0, .iload 1, .invokeinterface 41 2, .ireturn]),
  (68, [.aload 0, .iload 1, .invokeinterface 42 2, .ireturn]),
  (74, [.aload 0, .iload 1, .invokeinterface 44 2, .ireturn]),
  (80, [.aload 0, .iload 1, .invokeinterface 47 2, .ireturn])]
/-- R.takeKind -/
def g_c34 : List (Nat × List Instr) := [(0, [.iload 1, .sipush 5, .if_icmp .gt 17, .aload 0, .checkcast 192, .getfield 69, .sipush 8, .if_icmp .lt 19, .jsr 17]),
  (17, [.sipush 0, .ireturn]),
  (19, [.aload 0, .iload 1, .putfield 199, .aload 0, .sipush 1, .putfield 198, .sipush 1, .ireturn])]
/-- R.takeTail -/
def g_c35 : List (Nat × List Instr) := [(0, [.iload 1, .sipush 9, .if_icmp .eq 12, .aload 0, .iload 1, .invokeinterface 36 2, .ireturn]),
  (12, [.aload 0, .sipush 2, .putfield 198, .sipush 1, .ireturn])]
/-- R.takeWill -/
def g_c36 : List (Nat × List Instr) := [(0, [.iload 1, .sipush 6, .sipush 8, .invokeinterface 109 3, .ifCond .eq 13, .sipush 0, .ireturn]),
  (13, [.aload 0, .iload 1, .sipush 6, .isub, .putfield 200, .aload 0, .sipush 6, .putfield 198, .sipush 1, .ireturn])]
/-- R.takeOne -/
def g_c37 : List (Nat × List Instr) := [(0, [.iload 1, .sipush 12, .if_icmp .ne 13, .aload 0, .sipush 12, .invokeinterface 38 2, .ireturn]),
  (13, [.iload 1, .sipush 24, .if_icmp .ne 52, .aload 0, .dup, .getfield 203, .sipush 1, .iadd, .putfield 203, .aload 0, .getfield 203, .sipush 3, .if_icmp .gt 50, .aload 0, .sipush 24, .invokeinterface 38 2, .ifCond .eq 50, .sipush 1, .goto 51]),
  (50, [.sipush 0, .jsr 51]),
  (51, [.ireturn]),
  (52, [.iload 1, .invokeinterface 39 1, .ifCond .ne 61, .sipush 0, .ireturn]),
  (61, [.aload 0, .aload 0, .iload 1, .invokeinterface 40 2, .putfield 201, .aload 0, .sipush 3, .putfield 198, .sipush 1, .ireturn])]
/-- R.waitWith -/
def g_c38 : List (Nat × List Instr) := [(0, [.aload 0, .getfield 205, .sipush 200, .if_icmp .lt 12, .sipush 0, .ireturn]),
  (12, [.aload 0, .checkcast 204, .aload 0, .dup, .getfield 205, .dup_x1, .sipush 1, .iadd, .putfield 205, .iload 1, .iastore, .sipush 1, .ireturn])]
/-- R.isValue -/
def g_c39 : List (Nat × List Instr) := [(0, [.iload 0, .sipush 18, .if_icmp .eq 17, .iload 0, .sipush 13, .sipush 17, .invokeinterface 109 3, .ifCond .ne 21, .jsr 17]),
  (17, [.sipush 1, .goto 22]),
  (21, [.sipush 0, .jsr 22]),
  (22, [.ireturn])]
/-- R.valueOf -/
def g_c40 : List (Nat × List Instr) := [(0, [.iload 1, .sipush 18, .if_icmp .ne 13, .aload 0, .getfield 197, .goto 21]),
  (13, [.sipush 10000, .iload 1, .iadd, .sipush 13, .isub, .jsr 21]),
  (21, [.ireturn])]
/-- R.takeSign -/
def g_c41 : List (Nat × List Instr) := [(0, [.iload 1, .sipush 21, .sipush 23, .invokeinterface 109 3, .ifCond .eq 13, .sipush 0, .ireturn]),
  (13, [.aload 0, .iload 1, .sipush 21, .isub, .putfield 202, .aload 0, .sipush 4, .putfield 198, .sipush 1, .ireturn])]
/-- R.takeRight -/
def g_c42 : List (Nat × List Instr) := [(0, [.iload 1, .invokeinterface 39 1, .ifCond .ne 9, .sipush 0, .ireturn]),
  (9, [.aload 0, .checkcast 192, .aload 0, .getfield 201, .aload 0, .getfield 202, .aload 0, .iload 1, .invokeinterface 40 2, .invokeinterface 13 3, .invokeinterface 14 2, .aload 0, .invokeinterface 43 1, .sipush 1, .ireturn])]
/-- R.endOne -/
def g_c43 : List (Nat × List Instr) := [(0, [.aload 0, .getfield 205, .ifCond .le 44, .aload 0, .checkcast 204, .aload 0, .getfield 205, .sipush 1, .isub, .iaload, .sipush 12, .if_icmp .ne 44, .aload 0, .checkcast 192, .sipush (-1), .invokeinterface 14 2, .aload 0, .dup, .getfield 205, .sipush 1, .isub, .putfield 205, .goto 0]),
  (44, [.aload 0, .sipush 5, .putfield 198, .return_])]
/-- R.takeJoint -/
def g_c44 : List (Nat × List Instr) := [(0, [.iload 1, .sipush 25, .if_icmp .ne 11, .aload 0, .invokeinterface 45 1, .ireturn]),
  (11, [.iload 1, .sipush 10, .if_icmp .eq 23, .iload 1, .sipush 11, .if_icmp .ne 39, .jsr 23]),
  (23, [.aload 0, .iload 1, .invokeinterface 46 2, .aload 0, .sipush 2, .putfield 198, .aload 0, .iload 1, .invokeinterface 38 2, .ireturn]),
  (39, [.aload 0, .getfield 203, .ifCond .le 48, .sipush 0, .ireturn]),
  (48, [.aload 0, .sipush 11, .invokeinterface 46 2, .aload 0, .iload 1, .invokeinterface 36 2, .ireturn])]
/-- R.takeClose -/
def g_c45 : List (Nat × List Instr) := [(0, [.aload 0, .getfield 203, .ifCond .ne 9, .sipush 0, .ireturn]),
  (9, [.aload 0, .dup, .getfield 203, .sipush 1, .isub, .putfield 203, .aload 0, .sipush 11, .invokeinterface 46 2, .aload 0, .getfield 205, .ifCond .le 42, .aload 0, .dup, .getfield 205, .sipush 1, .isub, .putfield 205, .jsr 42]),
  (42, [.aload 0, .invokeinterface 43 1, .sipush 1, .ireturn])]
/-- R.appendJoints -/
def g_c46 : List (Nat × List Instr) := [(0, [.aload 0, .getfield 205, .ifCond .le 81, .aload 0, .checkcast 204, .aload 0, .getfield 205, .sipush 1, .isub, .iaload, .sipush 10, .if_icmp .eq 38, .aload 0, .checkcast 204, .aload 0, .getfield 205, .sipush 1, .isub, .iaload, .iload 1, .if_icmp .ne 81, .jsr 38]),
  (38, [.aload 0, .checkcast 192, .aload 0, .checkcast 204, .aload 0, .getfield 205, .sipush 1, .isub, .iaload, .sipush 10, .if_icmp .ne 63, .sipush (-2), .goto 65]),
  (63, [.sipush (-3), .jsr 65]),
  (65, [.invokeinterface 14 2, .aload 0, .dup, .getfield 205, .sipush 1, .isub, .putfield 205, .goto 0]),
  (81, [.return_])]
/-- R.takeSemicolon -/
def g_c47 : List (Nat × List Instr) := [(0, [.iload 1, .sipush 26, .if_icmp .eq 8, .sipush 0, .ireturn]),
  (8, [.aload 0, .checkcast 192, .aload 0, .getfield 199, .aload 0, .getfield 200, .invokeinterface 15 3, .aload 0, .sipush 0, .putfield 198, .sipush 1, .ireturn])]
/-- Rp.init -/
def g_c48 : List (Nat × List Instr) := [(0, [.aload 0, .pop2, .aload 0, .sipush 6, .newarray .int, .instanceof 256, .aload 0, .sipush 6, .newarray .int, .instanceof 257, .aload 0, .sipush 6, .newarray .int, .instanceof 258, .aload 0, .sipush 6, .newarray .int, .instanceof 259, .aload 0, .sipush 0, .putfield 260, .return_])]
/-- Rp.add -/
def g_c49 : List (Nat × List Instr) := [(0, [.aload 0, .getfield 260, .sipush 6, .if_icmp .lt 12, .sipush (-2), .ireturn]),
  (12, [.aload 0, .checkcast 256, .aload 0, .getfield 260, .iload 1, .iastore, .aload 0, .checkcast 257, .aload 0, .getfield 260, .iload 2, .iastore, .aload 0, .checkcast 258, .aload 0, .getfield 260, .iload 3, .iastore, .aload 0, .checkcast 259, .aload 0, .getfield 260, .iload 4, .iastore, .aload 0, .dup, .getfield 260, .dup_x1, .sipush 1, .iadd, .putfield 260, .ireturn])]
/-- Rp.latest -/
def g_c50 : List (Nat × List Instr) := [(0, [.sipush 0, .istore 1, .sipush 0, .istore 2, .jsr 4]),
  (4, [.iload 2, .aload 0, .getfield 260, .if_icmp .ge 29, .iload 1, .aload 0, .checkcast 256, .iload 2, .iaload, .dadd, .istore 1, .iinc 2 1, .goto 4]),
  (29, [.iload 1, .ireturn])]
/-- Rp.wrongBehind -/
def g_c51 : List (Nat × List Instr) := [(0, [.sipush 0, .istore 4, .sipush 0, .istore 5, .jsr 6]),
  (6, [.iload 5, .aload 0, .getfield 260, .if_icmp .ge 76, .aload 0, .checkcast 256, .iload 5, .iaload, .iload 1, .if_icmp .ne 70, .aload 0, .checkcast 257, .iload 5, .iaload, .ifCond .ne 40, .iload 2, .goto 41]),
  (40, [.iload 3, .jsr 41]),
  (41, [.aload 0, .checkcast 258, .iload 5, .iaload, .aload 0, .checkcast 259, .iload 5, .iaload, .invokeinterface 109 3, .ifCond .eq 70, .iload 4, .sipush 1, .iload 5, .ishl, .ior, .istore 4, .jsr 70]),
  (70, [.iinc 5 1, .goto 6]),
  (76, [.iload 4, .ireturn])]
/-- Rp.copyFrom -/
def g_c52 : List (Nat × List Instr) := [(0, [.aload 1, .checkcast 256, .sipush 0, .aload 0, .checkcast 256, .sipush 0, .sipush 6, .dmul, .aload 1, .checkcast 257, .sipush 0, .aload 0, .checkcast 257, .sipush 0, .sipush 6, .dmul, .aload 1, .checkcast 258, .sipush 0, .aload 0, .checkcast 258, .sipush 0, .sipush 6, .dmul, .aload 1, .checkcast 259, .sipush 0, .aload 0, .checkcast 259, .sipush 0, .sipush 6, .dmul, .aload 0, .aload 1, .getfield 260, .putfield 260, .return_])]
/-- Rw.init -/
def g_c53 : List (Nat × List Instr) := [(0, [.aload 0, .pop2, .aload 0, .sipush 12, .newarray .int, .instanceof 321, .aload 0, .sipush 0, .putfield 322, .aload 0, .aload 1, .instanceof 320, .return_])]
/-- Rw.fill -/
def g_c54 : List (Nat × List Instr) := [(0, [.aload 0, .checkcast 320, .invokeinterface 85 1, .istore 3, .aload 0, .iload 2, .sipush 4, .dsub, .putfield 322, .sipush 0, .istore 4, .jsr 20]),
  (20, [.iload 4, .aload 0, .getfield 322, .if_icmp .ge 88, .aload 0, .checkcast 321, .sipush 3, .iload 4, .imul, .aload 1, .iload 4, .iaload, .iastore, .aload 0, .checkcast 321, .sipush 3, .iload 4, .imul, .sipush 1, .iadd, .aload 0, .checkcast 320, .aload 1, .iload 4, .iaload, .invokeinterface 79 2, .iastore, .aload 0, .checkcast 321, .sipush 3, .iload 4, .imul, .sipush 2, .iadd, .aload 0, .checkcast 320, .getfield 522, .iastore, .iinc 4 1, .goto 20]),
  (88, [.aload 0, .checkcast 320, .iload 3, .invokeinterface 87 2, .aload 0, .getfield 322, .ireturn])]
/-- Rw.has -/
def g_c55 : List (Nat × List Instr) := [(0, [.iload 1, .ifCond .lt 25, .iload 1, .aload 0, .getfield 322, .if_icmp .ge 25, .iload 2, .ifCond .lt 25, .iload 2, .sipush 3, .if_icmp .ge 25, .sipush 1, .goto 26]),
  (25, [.sipush 0, .jsr 26]),
  (26, [.ireturn])]
/-- Rw.firstWrong -/
def g_c56 : List (Nat × List Instr) := [(0, [.aload 0, .checkcast 320, .invokeinterface 85 1, .istore 1, .sipush 0, .istore 2, .sipush 0, .istore 3, .jsr 12]),
  (12, [.iload 3, .aload 0, .getfield 322, .if_icmp .ge 42, .iload 2, .ifCond .ne 42, .aload 0, .iload 3, .invokeinterface 57 2, .ifCond .ne 36, .iload 3, .sipush 1, .iadd, .istore 2, .jsr 36]),
  (36, [.iinc 3 1, .goto 12]),
  (42, [.aload 0, .checkcast 320, .iload 1, .invokeinterface 87 2, .iload 2, .ireturn])]
/-- Rw.isRight -/
def g_c57 : List (Nat × List Instr) := [(0, [.aload 0, .checkcast 321, .sipush 3, .iload 1, .imul, .iaload, .istore 2, .aload 0, .checkcast 320, .iload 2, .invokeinterface 105 2, .ifCond .eq 30, .aload 0, .checkcast 320, .invokeinterface 76 1, .ifCond .eq 32, .jsr 30]),
  (30, [.sipush 0, .ireturn]),
  (32, [.aload 0, .checkcast 320, .iload 2, .invokeinterface 79 2, .istore 3, .aload 0, .checkcast 321, .sipush 3, .iload 1, .imul, .sipush 1, .iadd, .iaload, .iload 3, .if_icmp .ne 79, .aload 0, .checkcast 321, .sipush 3, .iload 1, .imul, .sipush 2, .iadd, .iaload, .aload 0, .checkcast 320, .getfield 522, .if_icmp .ne 79, .sipush 1, .goto 80]),
  (79, [.sipush 0, .jsr 80]),
  (80, [.ireturn])]
/-- Sh.init -/
def g_c58 : List (Nat × List Instr) := [(0, [.aload 0, .pop2, .aload 0, .sipush 40, .newarray .long, .instanceof 384, .aload 0, .sipush (-1), .putfield 385, .aload 0, .sipush 0, .putfield 386, .return_])]
/-- Sh.become -/
def g_c59 : List (Nat × List Instr) := [(0, [.sipush 0, .istore 3, .jsr 2]),
  (2, [.iload 3, .sipush 40, .if_icmp .ge 21, .aload 0, .checkcast 384, .iload 3, .goto_w 0, .lastore, .iinc 3 1, .goto 2]),
  (21, [.aload 0, .iload 1, .putfield 385, .aload 0, .iload 2, .putfield 386, .return_])]
/-- Sh.hasItem -/
def g_c60 : List (Nat × List Instr) := [(0, [.iload 1, .ifCond .lt 22, .iload 1, .aload 0, .getfield 386, .if_icmp .ge 22, .iload 1, .sipush 40, .if_icmp .ge 22, .sipush 1, .goto 23]),
  (22, [.sipush 0, .jsr 23]),
  (23, [.ireturn])]
/-- Sh.putItem -/
def g_c61 : List (Nat × List Instr) := [(0, [.aload 0, .iload 1, .invokeinterface 60 2, .ifCond .eq 19, .aload 0, .checkcast 384, .iload 1, .aload 0, .iload 2, .invokeinterface 62 2, .lastore, .jsr 19]),
  (19, [.return_])]
/-- Sh.narrowed -/
def g_c62 : List (Nat × List Instr) := [(0, [.aload 0, .getfield 385, .lookupswitch 58 #[(0, 40), (1, 44), (2, 58), (3, 58), (4, 48)]]),
  (40, [.iload 1, .i2b, .i2l, .lreturn]),
  (44, [.iload 1, .i2s, .i2l, .lreturn]),
  (48, [.iload 1, .ifCond .eq 56, .goto_w 1, .goto 57]),
  (56, [.goto_w 0, .jsr 57]),
  (57, [.lreturn]),
  (58, [.iload 1, .i2l, .lreturn])]
/-- Sh.refusalAs -/
def g_c63 : List (Nat × List Instr) := [(0, [.aload 0, .getfield 385, .sipush (-1), .if_icmp .ne 11, .sipush (-11), .ireturn]),
  (11, [.aload 0, .getfield 385, .iload 1, .if_icmp .ne 23, .sipush 0, .goto 25]),
  (23, [.sipush (-13), .jsr 25]),
  (25, [.ireturn])]
/-- Sf.init -/
def g_c64 : List (Nat × List Instr) := [(0, [.aload 0, .pop2, .aload 0, .sipush 2, .putfield 448, .aload 0, .sipush 0, .putfield 449, .aload 0, .sipush (-1), .putfield 450, .aload 0, .sipush 0, .putfield 451, .return_])]
/-- Sf.holdRow -/
def g_c65 : List (Nat × List Instr) := [(0, [.aload 0, .iload 1, .sipush (-1), .if_icmp .ne 10, .sipush 2, .goto 11]),
  (10, [.sipush 1, .jsr 11]),
  (11, [.putfield 448, .aload 0, .iload 1, .putfield 450, .aload 0, .iload 2, .putfield 451, .return_])]
/-- Sf.hold -/
def g_c66 : List (Nat × List Instr) := [(0, [.aload 0, .iload 1, .putfield 448, .aload 0, .iload 2, .putfield 449, .return_])]
/-- T.init -/
def g_c67 : List (Nat × List Instr) := [(0, [.aload 0, .pop2, .aload 0, .sipush 6, .newarray .int, .instanceof 512, .aload 0, .sipush 6, .newarray .int, .instanceof 513, .aload 0, .sipush 6, .newarray .int, .instanceof 514, .aload 0, .sipush 6, .newarray .int, .instanceof 515, .aload 0, .sipush 6, .newarray .int, .instanceof 516, .aload 0, .sipush 6, .newarray .int, .instanceof 517, .aload 0, .sipush 16, .newarray .int, .instanceof 518, .aload 0, .new 1, .dup, .invokeinterface 8 1, .instanceof 519, .aload 0, .new 4, .dup, .invokeinterface 48 1, .instanceof 520, .aload 0, .sipush 0, .putfield 521, .aload 0, .sipush 0, .putfield 522, .aload 0, .sipush 0, .putfield 523, .aload 0, .sipush 12, .putfield 524, .aload 0, .sipush 0, .putfield 525, .aload 0, .sipush 5, .putfield 526, .aload 0, .sipush 0, .putfield 527, .aload 0, .sipush 1, .putfield 528, .sipush 0, .istore 1, .jsr 125]),
  (125, [.iload 1, .sipush 6, .if_icmp .ge 144, .aload 0, .checkcast 517, .iload 1, .sipush 3, .iastore, .iinc 1 1, .goto 125]),
  (144, [.sipush 0, .istore 1, .jsr 146]),
  (146, [.iload 1, .sipush 16, .if_icmp .ge 165, .aload 0, .checkcast 518, .iload 1, .sipush 4, .iastore, .iinc 1 1, .goto 146]),
  (165, [.return_])]
/-- T.addPiece -/
def g_c68 : List (Nat × List Instr) := [(0, [.aload 0, .getfield 521, .sipush 6, .if_icmp .lt 12, .sipush (-2), .ireturn]),
  (12, [.aload 0, .checkcast 512, .aload 0, .getfield 521, .iload 1, .iastore, .aload 0, .checkcast 513, .aload 0, .getfield 521, .iload 2, .iastore, .aload 0, .checkcast 514, .aload 0, .getfield 521, .iload 3, .iastore, .aload 0, .checkcast 515, .aload 0, .getfield 521, .iload 4, .iastore, .aload 0, .dup, .getfield 521, .dup_x1, .sipush 1, .iadd, .putfield 521, .ireturn])]
/-- T.hasPiece -/
def g_c69 : List (Nat × List Instr) := [(0, [.iload 1, .ifCond .lt 16, .iload 1, .aload 0, .getfield 521, .if_icmp .ge 16, .sipush 1, .goto 17]),
  (16, [.sipush 0, .jsr 17]),
  (17, [.ireturn])]
/-- T.isSeated -/
def g_c70 : List (Nat × List Instr) := [(0, [.aload 0, .getfield 522, .iload 1, .ishr, .sipush 1, .iand, .sipush 1, .if_icmp .ne 16, .sipush 1, .goto 17]),
  (16, [.sipush 0, .jsr 17]),
  (17, [.ireturn])]
/-- T.grudgeOf -/
def g_c71 : List (Nat × List Instr) := [(0, [.aload 0, .checkcast 516, .aload 0, .checkcast 515, .iload 1, .iaload, .iaload, .istore 2, .aload 0, .checkcast 512, .iload 1, .iaload, .lookupswitch 80 #[(1, 52), (2, 56), (3, 60), (4, 70), (5, 74)]]),
  (52, [.iload 2, .sipush 2, .iadd, .ireturn]),
  (56, [.iload 2, .iload 1, .iadd, .ireturn]),
  (60, [.sipush 0, .iload 2, .iload 1, .iadd, .sipush 3, .isub, .dadd, .ireturn]),
  (70, [.iload 2, .sipush 2, .idiv, .ireturn]),
  (74, [.iload 2, .sipush 2, .idiv, .sipush 2, .imul, .ireturn]),
  (80, [.iload 2, .ireturn])]
/-- T.wouldSit -/
def g_c72 : List (Nat × List Instr) := [(0, [.aload 0, .iload 1, .invokeinterface 70 2, .ifCond .ne 36, .aload 0, .iload 1, .invokeinterface 71 2, .aload 0, .getfield 526, .aload 0, .checkcast 517, .aload 0, .checkcast 515, .iload 1, .iaload, .iaload, .iadd, .if_icmp .gt 36, .sipush 1, .goto 37]),
  (36, [.sipush 0, .jsr 37]),
  (37, [.ireturn])]
/-- T.willOf -/
def g_c73 : List (Nat × List Instr) := [(0, [.aload 0, .checkcast 519, .checkcast 68, .sipush 0, .aload 0, .getfield 523, .iastore, .aload 0, .checkcast 519, .checkcast 68, .sipush 1, .aload 0, .checkcast 514, .iload 1, .iaload, .iastore, .aload 0, .checkcast 519, .checkcast 68, .sipush 2, .aload 0, .iload 1, .invokeinterface 71 2, .iastore, .aload 0, .checkcast 519, .checkcast 68, .sipush 3, .aload 0, .getfield 526, .iastore, .aload 0, .checkcast 519, .checkcast 68, .sipush 4, .iload 1, .iastore, .aload 0, .checkcast 519, .aload 0, .checkcast 512, .iload 1, .iaload, .invokeinterface 9 2, .ireturn])]
/-- T.putSeated -/
def g_c74 : List (Nat × List Instr) := [(0, [.aload 0, .getfield 522, .iload 1, .ishr, .sipush 1, .iand, .istore 3, .aload 0, .iload 2, .ifCond .eq 25, .aload 0, .getfield 522, .sipush 1, .iload 1, .ishl, .ior, .goto 35]),
  (25, [.aload 0, .getfield 522, .sipush 1, .iload 1, .ishl, .sipush (-1), .ixor, .iand, .jsr 35]),
  (35, [.putfield 522, .iload 3, .ireturn])]
/-- T.beginAnew -/
def g_c75 : List (Nat × List Instr) := [(0, [.aload 0, .sipush 0, .putfield 523, .aload 0, .sipush 0, .putfield 525, .aload 0, .sipush 5, .putfield 526, .aload 0, .sipush 0, .putfield 527, .aload 0, .sipush 0, .putfield 522, .return_])]
/-- T.isOver -/
def g_c76 : List (Nat × List Instr) := [(0, [.aload 0, .getfield 523, .aload 0, .getfield 524, .if_icmp .lt 15, .sipush 1, .goto 16]),
  (15, [.sipush 0, .jsr 16]),
  (16, [.ireturn])]
/-- T.newsIn -/
def g_c77 : List (Nat × List Instr) := [(0, [.iload 1, .sipush 0, .sipush 15, .invokeinterface 109 3, .ifCond .eq 14, .sipush 0, .goto 20]),
  (14, [.aload 0, .checkcast 518, .iload 1, .iaload, .jsr 20]),
  (20, [.ireturn])]
/-- T.passAndScore -/
def g_c78 : List (Nat × List Instr) := [(0, [.aload 0, .iload 1, .invokeinterface 79 2, .istore 2, .aload 0, .dup, .getfield 525, .iload 2, .iadd, .putfield 525, .iload 2, .ireturn])]
/-- T.passYear -/
def g_c79 : List (Nat × List Instr) := [(0, [.aload 0, .aload 0, .aload 0, .getfield 523, .invokeinterface 77 2, .aload 0, .getfield 526, .invokeinterface 126 2, .putfield 526, .iload 1, .sipush (-1), .if_icmp .ne 31, .aload 0, .invokeinterface 80 1, .goto 34]),
  (31, [.iload 1, .sipush 1, .isub, .jsr 34]),
  (34, [.istore 2, .aload 0, .iload 2, .invokeinterface 69 2, .ifCond .eq 51, .aload 0, .iload 2, .invokeinterface 73 2, .goto 52]),
  (51, [.sipush 1, .jsr 52]),
  (52, [.istore 3, .sipush 0, .istore 4, .iload 3, .ifCond .ne 70, .aload 0, .iload 2, .invokeinterface 81 2, .istore 4, .goto 80]),
  (70, [.iload 3, .sipush 2, .if_icmp .ne 80, .aload 0, .iload 2, .invokeinterface 82 2, .jsr 80]),
  (80, [.aload 0, .aload 0, .getfield 522, .invokeinterface 83 2, .aload 0, .getfield 527, .aload 0, .getfield 526, .invokeinterface 128 3, .istore 5, .aload 0, .dup, .getfield 527, .iload 5, .iadd, .putfield 527, .aload 0, .dup, .getfield 523, .sipush 1, .iadd, .putfield 523, .iload 4, .sipush 2, .iload 5, .imul, .iadd, .ireturn])]
/-- T.leastWilling -/
def g_c80 : List (Nat × List Instr) := [(0, [.sipush 0, .istore 1, .jsr 2]),
  (2, [.iload 1, .aload 0, .getfield 521, .if_icmp .ge 26, .aload 0, .iload 1, .invokeinterface 72 2, .ifCond .eq 20, .iload 1, .ireturn]),
  (20, [.iinc 1 1, .goto 2]),
  (26, [.sipush (-3), .ireturn])]
/-- T.sitDown -/
def g_c81 : List (Nat × List Instr) := [(0, [.aload 0, .iload 1, .invokeinterface 70 2, .ifCond .eq 10, .sipush 0, .ireturn]),
  (10, [.aload 0, .iload 1, .invokeinterface 72 2, .ifCond .ne 34, .aload 0, .sipush 0, .aload 0, .getfield 526, .sipush 1, .isub, .dadd, .putfield 526, .sipush 0, .ireturn]),
  (34, [.aload 0, .sipush 0, .aload 0, .getfield 526, .aload 0, .iload 1, .invokeinterface 71 2, .sipush 3, .idiv, .isub, .dadd, .putfield 526, .aload 0, .iload 1, .sipush 1, .invokeinterface 74 3, .pop, .sipush 1, .ireturn])]
/-- T.getUp -/
def g_c82 : List (Nat × List Instr) := [(0, [.aload 0, .iload 1, .invokeinterface 70 2, .ifCond .ne 9, .return_]),
  (9, [.aload 0, .iload 1, .sipush 0, .invokeinterface 74 3, .pop, .aload 0, .sipush 9, .aload 0, .getfield 526, .sipush 1, .iadd, .dsub, .putfield 526, .return_])]
/-- T.placesSpanned -/
def g_c83 : List (Nat × List Instr) := [(0, [.goto_w 0, .lstore 2, .sipush 0, .istore 4, .jsr 5]),
  (5, [.iload 4, .aload 0, .getfield 521, .if_icmp .ge 64, .iload 1, .iload 4, .ishr, .sipush 1, .iand, .sipush 1, .if_icmp .ne 58, .lload 2, .aload 0, .checkcast 513, .iload 4, .iaload, .aload 0, .checkcast 512, .iload 4, .iaload, .aload 0, .checkcast 514, .iload 4, .iaload, .aload 0, .getfield 523, .invokeinterface 111 3, .invokeinterface 127 2, .lor, .lstore 2, .jsr 58]),
  (58, [.iinc 4 1, .goto 5]),
  (64, [.lload 2, .lreturn])]
/-- T.restWorth -/
def g_c84 : List (Nat × List Instr) := [(0, [.aload 0, .invokeinterface 85 1, .istore 2, .aload 0, .iload 1, .invokeinterface 86 2, .istore 3, .sipush 0, .istore 4, .sipush 0, .istore 5, .jsr 17]),
  (17, [.iload 5, .iload 3, .if_icmp .ge 39, .iload 4, .aload 0, .sipush (-1), .invokeinterface 79 2, .iadd, .istore 4, .iinc 5 1, .goto 17]),
  (39, [.aload 0, .iload 2, .invokeinterface 87 2, .iload 4, .ireturn])]
/-- T.moment -/
def g_c85 : List (Nat × List Instr) := [(0, [.aload 0, .getfield 523, .aload 0, .getfield 526, .sipush 5, .ishl, .ior, .aload 0, .getfield 527, .sipush 9, .ishl, .ior, .aload 0, .getfield 522, .sipush 15, .ishl, .ior, .ireturn])]
/-- T.yearsYet -/
def g_c86 : List (Nat × List Instr) := [(0, [.sipush 0, .iload 1, .aload 0, .getfield 524, .aload 0, .getfield 523, .isub, .dsub, .dadd, .ireturn])]
/-- T.backTo -/
def g_c87 : List (Nat × List Instr) := [(0, [.aload 0, .iload 1, .sipush 31, .iand, .putfield 523, .aload 0, .iload 1, .sipush 5, .ishr, .sipush 15, .iand, .putfield 526, .aload 0, .iload 1, .sipush 9, .ishr, .sipush 63, .iand, .putfield 527, .aload 0, .iload 1, .sipush 15, .ishr, .sipush 63, .iand, .putfield 522, .return_])]
/-- T.restUntil -/
def g_c88 : List (Nat × List Instr) := [(0, [.aload 0, .invokeinterface 85 1, .istore 3, .aload 0, .sipush 16, .invokeinterface 86 2, .istore 4, .sipush (-3), .istore 5, .sipush 0, .istore 6, .jsr 20]),
  (20, [.iload 6, .iload 4, .if_icmp .ge 72, .iload 5, .sipush (-3), .if_icmp .ne 72, .aload 0, .sipush (-1), .invokeinterface 79 2, .pop, .aload 0, .getfield 522, .iload 1, .iand, .iload 1, .if_icmp .ne 66, .aload 0, .getfield 527, .iload 2, .if_icmp .lt 66, .aload 0, .getfield 523, .sipush 1, .isub, .istore 5, .jsr 66]),
  (66, [.iinc 6 1, .goto 20]),
  (72, [.aload 0, .iload 3, .invokeinterface 87 2, .iload 5, .ireturn])]
/-- T.bestValue -/
def g_c89 : List (Nat × List Instr) := [(0, [.aload 1, .iload 2, .iaload, .istore 4, .sipush 0, .istore 5, .sipush (-1), .istore 6, .sipush 0, .istore 7, .jsr 14]),
  (14, [.iload 7, .iload 3, .if_icmp .gt 54, .aload 1, .iload 2, .iload 7, .iastore, .aload 0, .sipush 16, .invokeinterface 84 2, .istore 8, .iload 8, .iload 6, .if_icmp .le 48, .iload 8, .istore 6, .iload 7, .istore 5, .jsr 48]),
  (48, [.iinc 7 1, .goto 14]),
  (54, [.aload 1, .iload 2, .iload 4, .iastore, .iload 5, .ireturn])]
/-- T.firstUnspanned -/
def g_c90 : List (Nat × List Instr) := [(0, [.aload 0, .aload 0, .invokeinterface 91 1, .invokeinterface 83 2, .lstore 1, .aload 0, .getfield 527, .istore 3, .jsr 14]),
  (14, [.iload 3, .sipush 39, .if_icmp .gt 38, .lload 1, .iload 3, .lushr, .goto_w 1, .land, .goto_w 0, .lcmp, .ifCond .ne 32, .iload 3, .ireturn]),
  (32, [.iinc 3 1, .goto 14]),
  (38, [.sipush (-3), .ireturn])]
/-- T.allPieces -/
def g_c91 : List (Nat × List Instr) := [(0, [.sipush 1, .aload 0, .getfield 521, .ishl, .sipush 1, .isub, .ireturn])]
/-- T.countNotThere -/
def g_c92 : List (Nat × List Instr) := [(0, [.aload 0, .aload 0, .getfield 522, .invokeinterface 83 2, .lstore 1, .sipush 0, .istore 3, .sipush 0, .istore 4, .jsr 14]),
  (14, [.iload 4, .sipush 39, .if_icmp .gt 41, .lload 1, .iload 4, .lushr, .goto_w 1, .land, .goto_w 0, .lcmp, .ifCond .ne 35, .iinc 3 1, .jsr 35]),
  (35, [.iinc 4 1, .goto 14]),
  (41, [.iload 3, .ireturn])]
/-- T.countBranches -/
def g_c93 : List (Nat × List Instr) := [(0, [.sipush 0, .istore 1, .sipush 0, .istore 2, .jsr 4]),
  (4, [.iload 2, .aload 0, .getfield 521, .if_icmp .ge 33, .aload 0, .iload 2, .invokeinterface 94 2, .invokeinterface 136 1, .iload 2, .if_icmp .ne 27, .iinc 1 1, .jsr 27]),
  (27, [.iinc 2 1, .goto 4]),
  (33, [.iload 1, .ireturn])]
/-- T.branchOf -/
def g_c94 : List (Nat × List Instr) := [(0, [.aload 0, .iload 1, .invokeinterface 70 2, .ifCond .eq 10, .sipush 0, .ireturn]),
  (10, [.sipush 1, .iload 1, .ishl, .istore 2, .sipush 0, .istore 3, .jsr 16]),
  (16, [.iload 3, .sipush 6, .if_icmp .ge 36, .iload 2, .aload 0, .iload 2, .invokeinterface 95 2, .ior, .istore 2, .iinc 3 1, .goto 16]),
  (36, [.iload 2, .ireturn])]
/-- T.closeTo -/
def g_c95 : List (Nat × List Instr) := [(0, [.sipush 0, .istore 2, .sipush 0, .istore 3, .jsr 4]),
  (4, [.iload 3, .aload 0, .getfield 521, .if_icmp .ge 62, .sipush 0, .istore 4, .jsr 15]),
  (15, [.iload 4, .aload 0, .getfield 521, .if_icmp .ge 56, .iload 1, .iload 4, .ishr, .sipush 1, .iand, .sipush 1, .if_icmp .ne 50, .aload 0, .iload 4, .iload 3, .invokeinterface 96 3, .ifCond .eq 50, .iload 2, .sipush 1, .iload 3, .ishl, .ior, .istore 2, .jsr 50]),
  (50, [.iinc 4 1, .goto 15]),
  (56, [.iinc 3 1, .goto 4]),
  (62, [.iload 2, .ireturn])]
/-- T.areClose -/
def g_c96 : List (Nat × List Instr) := [(0, [.aload 0, .iload 1, .invokeinterface 70 2, .ifCond .ne 16, .aload 0, .iload 2, .invokeinterface 70 2, .ifCond .eq 18, .jsr 16]),
  (16, [.sipush 0, .ireturn]),
  (18, [.aload 0, .checkcast 515, .iload 1, .iaload, .aload 0, .checkcast 515, .iload 2, .iaload, .if_icmp .eq 53, .aload 0, .checkcast 513, .iload 1, .iaload, .aload 0, .checkcast 513, .iload 2, .iaload, .isub, .dneg, .sipush 2, .if_icmp .gt 57, .jsr 53]),
  (53, [.sipush 1, .goto 58]),
  (57, [.sipush 0, .jsr 58]),
  (58, [.ireturn])]
/-- T.wayOver -/
def g_c97 : List (Nat × List Instr) := [(0, [.sipush 40, .istore 3, .sipush (-1), .istore 4, .sipush 0, .istore 5, .jsr 9]),
  (9, [.iload 5, .aload 0, .getfield 521, .if_icmp .ge 60, .iload 2, .iload 5, .ishr, .sipush 1, .iand, .sipush 1, .if_icmp .ne 54, .iload 3, .aload 0, .checkcast 513, .iload 5, .iaload, .dsub, .istore 3, .iload 4, .aload 0, .checkcast 513, .iload 5, .iaload, .dadd, .istore 4, .jsr 54]),
  (54, [.iinc 5 1, .goto 9]),
  (60, [.iload 4, .ifCond .ge 67, .sipush 0, .ireturn]),
  (67, [.iload 4, .iload 3, .isub, .iload 1, .iload 3, .isub, .dneg, .iload 1, .iload 4, .isub, .dneg, .dsub, .iadd, .ireturn])]
/-- T.firstFetched -/
def g_c98 : List (Nat × List Instr) := [(0, [.aload 0, .iload 1, .iload 2, .invokeinterface 97 3, .istore 3, .sipush 0, .istore 4, .jsr 10]),
  (10, [.iload 4, .aload 0, .getfield 521, .if_icmp .ge 78, .iload 2, .iload 4, .ishr, .sipush 1, .iand, .sipush 1, .if_icmp .ne 72, .iload 1, .aload 0, .checkcast 513, .iload 4, .iaload, .isub, .dneg, .aload 0, .aload 0, .checkcast 513, .iload 4, .iaload, .iload 2, .sipush 1, .iload 4, .ishl, .sipush (-1), .ixor, .iand, .invokeinterface 97 3, .iadd, .istore 5, .iload 5, .iload 3, .if_icmp .ne 72, .iload 4, .ireturn]),
  (72, [.iinc 4 1, .goto 10]),
  (78, [.sipush (-3), .ireturn])]
/-- T.countFitting -/
def g_c99 : List (Nat × List Instr) := [(0, [.sipush 0, .istore 1, .sipush 1, .istore 2, .jsr 4]),
  (4, [.iload 2, .sipush 5, .if_icmp .gt 59, .sipush 0, .istore 3, .jsr 11]),
  (11, [.iload 3, .sipush 9, .if_icmp .gt 53, .sipush 0, .istore 4, .jsr 20]),
  (20, [.iload 4, .sipush 9, .if_icmp .gt 47, .aload 0, .iload 2, .iload 3, .iload 4, .invokeinterface 100 4, .ifCond .ne 41, .iinc 1 1, .jsr 41]),
  (41, [.iinc 4 1, .goto 20]),
  (47, [.iinc 3 1, .goto 11]),
  (53, [.iinc 2 1, .goto 4]),
  (59, [.iload 1, .ireturn])]
/-- T.wrongBy -/
def g_c100 : List (Nat × List Instr) := [(0, [.aload 0, .checkcast 520, .invokeinterface 50 1, .istore 4, .iload 3, .istore 5, .sipush 0, .istore 6, .aload 0, .checkcast 520, .sipush 0, .iload 6, .iload 5, .invokeinterface 51 4, .istore 7, .sipush 0, .istore 8, .jsr 32]),
  (32, [.iload 8, .iload 4, .if_icmp .ge 101, .aload 0, .iload 8, .invokeinterface 77 2, .iload 5, .invokeinterface 126 2, .istore 5, .iload 6, .sipush 0, .iload 1, .iload 2, .iload 8, .invokeinterface 111 3, .invokeinterface 127 2, .iload 6, .iload 5, .invokeinterface 128 3, .iadd, .istore 6, .iload 7, .aload 0, .checkcast 520, .iload 8, .sipush 1, .iadd, .iload 6, .iload 5, .invokeinterface 51 4, .ior, .istore 7, .iinc 8 1, .goto 32]),
  (101, [.iload 7, .ireturn])]
/-- T.firstFitting -/
def g_c101 : List (Nat × List Instr) := [(0, [.sipush 1, .istore 2, .jsr 2]),
  (2, [.iload 2, .sipush 5, .if_icmp .gt 75, .sipush 0, .istore 3, .jsr 9]),
  (9, [.iload 3, .sipush 9, .if_icmp .gt 69, .sipush 0, .istore 4, .jsr 18]),
  (18, [.iload 4, .sipush 9, .if_icmp .gt 63, .aload 0, .iload 2, .iload 3, .iload 4, .invokeinterface 100 4, .ifCond .ne 57, .iload 1, .sipush 1, .if_icmp .ne 45, .iload 2, .goto 56]),
  (45, [.iload 1, .sipush 2, .if_icmp .ne 54, .iload 3, .goto 56]),
  (54, [.iload 4, .jsr 56]),
  (56, [.ireturn]),
  (57, [.iinc 4 1, .goto 18]),
  (63, [.iinc 3 1, .goto 9]),
  (69, [.iinc 2 1, .goto 2]),
  (75, [.sipush (-3), .ireturn])]
/-- T.leastLiar -/
def g_c102 : List (Nat × List Instr) := [(0, [.sipush 0, .istore 1, .sipush 1, .istore 2, .jsr 4]),
  (4, [.iload 2, .sipush 5, .if_icmp .gt 77, .sipush 0, .istore 3, .jsr 11]),
  (11, [.iload 3, .sipush 9, .if_icmp .gt 71, .sipush 0, .istore 4, .jsr 20]),
  (20, [.iload 4, .sipush 9, .if_icmp .gt 65, .aload 0, .iload 2, .iload 3, .iload 4, .invokeinterface 100 4, .istore 5, .iload 5, .ifCond .ne 45, .sipush (-3), .ireturn]),
  (45, [.iload 5, .invokeinterface 300 1, .sipush 1, .if_icmp .ne 59, .iload 1, .iload 5, .ior, .istore 1, .jsr 59]),
  (59, [.iinc 4 1, .goto 20]),
  (65, [.iinc 3 1, .goto 11]),
  (71, [.iinc 2 1, .goto 4]),
  (77, [.iload 1, .invokeinterface 136 1, .ireturn])]
/-- T.drawLot -/
def g_c103 : List (Nat × List Instr) := [(0, [.aload 0, .aload 0, .getfield 528, .sipush 1103515245, .imul, .sipush 12345, .iadd, .putfield 528, .aload 0, .getfield 528, .sipush 16, .iushr, .aload 0, .getfield 521, .sipush 1, .iadd, .irem, .ireturn])]
/-- T.worthByLot -/
def g_c104 : List (Nat × List Instr) := [(0, [.aload 0, .invokeinterface 85 1, .istore 1, .aload 0, .sipush 16, .invokeinterface 86 2, .istore 2, .sipush 0, .istore 3, .sipush 0, .istore 4, .jsr 17]),
  (17, [.iload 4, .iload 2, .if_icmp .ge 40, .iload 3, .aload 0, .aload 0, .invokeinterface 103 1, .invokeinterface 79 2, .iadd, .istore 3, .iinc 4 1, .goto 17]),
  (40, [.aload 0, .iload 1, .invokeinterface 87 2, .iload 3, .ireturn])]
/-- T.isAct -/
def g_c105 : List (Nat × List Instr) := [(0, [.iload 1, .ifCond .lt 16, .iload 1, .aload 0, .getfield 521, .if_icmp .gt 16, .sipush 1, .goto 17]),
  (16, [.sipush 0, .jsr 17]),
  (17, [.ireturn])]
/-- T.copyFrom -/
def g_c106 : List (Nat × List Instr) := [(0, [.aload 1, .checkcast 512, .sipush 0, .aload 0, .checkcast 512, .sipush 0, .sipush 6, .dmul, .aload 1, .checkcast 513, .sipush 0, .aload 0, .checkcast 513, .sipush 0, .sipush 6, .dmul, .aload 1, .checkcast 514, .sipush 0, .aload 0, .checkcast 514, .sipush 0, .sipush 6, .dmul, .aload 1, .checkcast 515, .sipush 0, .aload 0, .checkcast 515, .sipush 0, .sipush 6, .dmul, .aload 1, .checkcast 516, .sipush 0, .aload 0, .checkcast 516, .sipush 0, .sipush 6, .dmul, .aload 1, .checkcast 517, .sipush 0, .aload 0, .checkcast 517, .sipush 0, .sipush 6, .dmul, .aload 1, .checkcast 518, .sipush 0, .aload 0, .checkcast 518, .sipush 0, .sipush 16, .dmul, .aload 0, .checkcast 519, .aload 1, .checkcast 519, .invokeinterface 16 2, .aload 0, .checkcast 520, .aload 1, .checkcast 520, .invokeinterface 52 2, .aload 0, .aload 1, .getfield 521, .putfield 521, .aload 0, .aload 1, .getfield 522, .putfield 522, .aload 0, .aload 1, .getfield 523, .putfield 523, .aload 0, .aload 1, .getfield 524, .putfield 524, .aload 0, .aload 1, .getfield 525, .putfield 525, .aload 0, .aload 1, .getfield 526, .putfield 526, .aload 0, .aload 1, .getfield 527, .putfield 527, .aload 0, .aload 1, .getfield 528, .putfield 528, .return_])]
/-- B.init -/
def g_c107 : List (Nat × List Instr) := [(0, [.aload 0, .pop2, .aload 0, .new 8, .dup, .invokeinterface 67 1, .instanceof 576, .aload 0, .new 8, .dup, .invokeinterface 67 1, .instanceof 577, .aload 0, .sipush 0, .putfield 578, .aload 0, .new 3, .dup, .invokeinterface 24 1, .instanceof 579, .aload 0, .new 2, .dup, .aload 0, .checkcast 576, .invokeinterface 17 2, .instanceof 580, .aload 0, .new 5, .dup, .aload 0, .checkcast 576, .invokeinterface 53 2, .instanceof 581, .aload 0, .sipush 4, .anewarray 6, .instanceof 582, .aload 0, .sipush 4, .anewarray 7, .instanceof 583, .aload 0, .new 0, .dup, .invokeinterface 0 1, .instanceof 584, .sipush 0, .istore 1, .jsr 101]),
  (101, [.iload 1, .sipush 4, .if_icmp .ge 125, .aload 0, .checkcast 582, .iload 1, .new 6, .dup, .invokeinterface 58 1, .aastore, .iinc 1 1, .goto 101]),
  (125, [.sipush 0, .istore 1, .jsr 127]),
  (127, [.iload 1, .sipush 4, .if_icmp .ge 151, .aload 0, .checkcast 583, .iload 1, .new 7, .dup, .invokeinterface 64 1, .aastore, .iinc 1 1, .goto 127]),
  (151, [.return_])]
/-- B.plate -/
def g_c108 : List (Nat × List Instr) := [(0, [.iload 1, .sipush 1, .sipush 5, .invokeinterface 109 3, .ifCond .ne 19, .iload 2, .sipush 0, .sipush 39, .invokeinterface 109 3, .ifCond .eq 21, .jsr 19]),
  (19, [.sipush (-1), .ireturn]),
  (21, [.iload 3, .sipush 0, .sipush 9, .invokeinterface 109 3, .ifCond .ne 41, .iload 4, .sipush 0, .sipush 5, .invokeinterface 109 3, .ifCond .eq 43, .jsr 41]),
  (41, [.sipush (-1), .ireturn]),
  (43, [.aload 0, .checkcast 576, .getfield 521, .sipush 6, .if_icmp .lt 58, .sipush (-2), .ireturn]),
  (58, [.aload 0, .checkcast 576, .iload 1, .iload 2, .iload 3, .iload 4, .invokeinterface 68 5, .ireturn])]
/-- B.isOutside -/
def g_c109 : List (Nat × List Instr) := [(0, [.iload 0, .iload 1, .if_icmp .lt 10, .iload 0, .iload 2, .if_icmp .le 14, .jsr 10]),
  (10, [.sipush 1, .goto 15]),
  (14, [.sipush 0, .jsr 15]),
  (15, [.ireturn])]
/-- B.plateOf -/
def g_c110 : List (Nat × List Instr) := [(0, [.aload 0, .checkcast 576, .iload 1, .invokeinterface 69 2, .ifCond .ne 13, .sipush (-1), .ireturn]),
  (13, [.iload 2, .lookupswitch 185 #[(0, 64), (1, 74), (2, 84), (3, 94), (4, 104), (5, 121), (6, 150), (7, 159), (8, 176)]]),
  (64, [.aload 0, .checkcast 576, .checkcast 512, .iload 1, .iaload, .ireturn]),
  (74, [.aload 0, .checkcast 576, .checkcast 513, .iload 1, .iaload, .ireturn]),
  (84, [.aload 0, .checkcast 576, .checkcast 514, .iload 1, .iaload, .ireturn]),
  (94, [.aload 0, .checkcast 576, .checkcast 515, .iload 1, .iaload, .ireturn]),
  (104, [.aload 0, .checkcast 576, .iload 1, .invokeinterface 70 2, .ifCond .eq 119, .sipush 1, .goto 120]),
  (119, [.sipush 0, .jsr 120]),
  (120, [.ireturn]),
  (121, [.aload 0, .checkcast 576, .checkcast 512, .iload 1, .iaload, .aload 0, .checkcast 576, .checkcast 514, .iload 1, .iaload, .aload 0, .checkcast 576, .getfield 523, .invokeinterface 111 3, .ireturn]),
  (150, [.aload 0, .checkcast 576, .iload 1, .invokeinterface 71 2, .ireturn]),
  (159, [.aload 0, .checkcast 576, .iload 1, .invokeinterface 72 2, .ifCond .eq 174, .sipush 1, .goto 175]),
  (174, [.sipush 0, .jsr 175]),
  (175, [.ireturn]),
  (176, [.aload 0, .checkcast 576, .iload 1, .invokeinterface 73 2, .ireturn]),
  (185, [.sipush (-1), .ireturn])]
/-- B.spanOf -/
def g_c111 : List (Nat × List Instr) := [(0, [.sipush 1, .iload 1, .sipush 2, .idiv, .iadd, .istore 3, .iload 0, .lookupswitch 85 #[(1, 40), (2, 44), (3, 48), (4, 63), (5, 69)]]),
  (40, [.sipush 2, .iload 3, .imul, .ireturn]),
  (44, [.iload 3, .sipush 2, .iadd, .ireturn]),
  (48, [.iload 2, .sipush 2, .irem, .sipush 1, .if_icmp .ne 59, .sipush 1, .goto 62]),
  (59, [.iload 3, .sipush 2, .iadd, .jsr 62]),
  (62, [.ireturn]),
  (63, [.iload 3, .sipush 2, .dsub, .ireturn]),
  (69, [.iload 2, .sipush 3, .irem, .ifCond .ne 79, .sipush 0, .goto 84]),
  (79, [.iload 3, .sipush 2, .dsub, .jsr 84]),
  (84, [.ireturn]),
  (85, [.iload 3, .ireturn])]
/-- B.isUnder -/
def g_c112 : List (Nat × List Instr) := [(0, [.iload 0, .istore 2, .jsr 2]),
  (2, [.iload 2, .ifCond .lt 30, .iload 2, .getstatic 0, .fsub, .if_icmp .ge 30, .iload 2, .iload 1, .if_icmp .ne 21, .sipush 1, .ireturn]),
  (21, [.getstatic 0, .iload 2, .daload, .istore 2, .goto 2]),
  (30, [.sipush 0, .ireturn])]
/-- B.change -/
def g_c113 : List (Nat × List Instr) := [(0, [.aload 0, .checkcast 576, .iload 1, .invokeinterface 69 2, .ifCond .ne 13, .sipush (-1), .ireturn]),
  (13, [.iload 2, .lookupswitch 156 #[(1, 44), (2, 71), (3, 98), (4, 124)]]),
  (44, [.iload 3, .sipush 0, .sipush 39, .invokeinterface 109 3, .ifCond .eq 58, .sipush (-1), .goto 70]),
  (58, [.aload 0, .checkcast 576, .checkcast 513, .iload 1, .iload 3, .invokeinterface 114 3, .jsr 70]),
  (70, [.ireturn]),
  (71, [.iload 3, .sipush 0, .sipush 9, .invokeinterface 109 3, .ifCond .eq 85, .sipush (-1), .goto 97]),
  (85, [.aload 0, .checkcast 576, .checkcast 514, .iload 1, .iload 3, .invokeinterface 114 3, .jsr 97]),
  (97, [.ireturn]),
  (98, [.iload 3, .sipush 0, .sipush 5, .invokeinterface 109 3, .ifCond .eq 111, .sipush (-1), .goto 123]),
  (111, [.aload 0, .checkcast 576, .checkcast 515, .iload 1, .iload 3, .invokeinterface 114 3, .jsr 123]),
  (123, [.ireturn]),
  (124, [.iload 3, .sipush 0, .sipush 1, .invokeinterface 109 3, .ifCond .eq 137, .sipush (-1), .goto 155]),
  (137, [.aload 0, .checkcast 576, .iload 1, .iload 3, .sipush 1, .if_icmp .ne 151, .sipush 1, .goto 152]),
  (151, [.sipush 0, .jsr 152]),
  (152, [.invokeinterface 74 3, .jsr 155]),
  (155, [.ireturn]),
  (156, [.sipush (-1), .ireturn])]
/-- B.put -/
def g_c114 : List (Nat × List Instr) := [(0, [.iload 1, .sipush 0, .aload 0, .arraylength, .sipush 1, .isub, .invokeinterface 109 3, .ifCond .eq 14, .sipush (-1), .ireturn]),
  (14, [.aload 0, .iload 1, .iaload, .istore 3, .aload 0, .iload 1, .iload 2, .iastore, .iload 3, .ireturn])]
/-- B.remake -/
def g_c115 : List (Nat × List Instr) := [(0, [.aload 0, .checkcast 576, .iload 1, .invokeinterface 69 2, .ifCond .eq 20, .iload 2, .sipush 1, .sipush 5, .invokeinterface 109 3, .ifCond .eq 22, .jsr 20]),
  (20, [.sipush (-1), .ireturn]),
  (22, [.aload 0, .checkcast 576, .checkcast 512, .iload 1, .iload 2, .invokeinterface 114 3, .ireturn])]
/-- B.news -/
def g_c116 : List (Nat × List Instr) := [(0, [.iload 1, .sipush 0, .sipush 15, .invokeinterface 109 3, .ifCond .ne 20, .iload 2, .sipush 0, .sipush 15, .invokeinterface 109 3, .ifCond .eq 22, .jsr 20]),
  (20, [.sipush (-1), .ireturn]),
  (22, [.aload 0, .checkcast 576, .checkcast 518, .iload 1, .iload 2, .invokeinterface 114 3, .ireturn])]
/-- B.home -/
def g_c117 : List (Nat × List Instr) := [(0, [.iload 1, .sipush 0, .sipush 5, .invokeinterface 109 3, .ifCond .ne 28, .iload 2, .sipush 0, .sipush 1, .invokeinterface 109 3, .ifCond .ne 28, .iload 3, .sipush 0, .sipush 9, .invokeinterface 109 3, .ifCond .eq 30, .jsr 28]),
  (28, [.sipush (-1), .ireturn]),
  (30, [.iload 2, .ifCond .ne 44, .aload 0, .checkcast 576, .checkcast 516, .goto 51]),
  (44, [.aload 0, .checkcast 576, .checkcast 517, .jsr 51]),
  (51, [.iload 1, .iload 3, .invokeinterface 114 3, .ireturn])]
/-- B.homeOf -/
def g_c118 : List (Nat × List Instr) := [(0, [.iload 1, .sipush 0, .sipush 5, .invokeinterface 109 3, .ifCond .ne 18, .iload 2, .sipush 0, .sipush 1, .invokeinterface 109 3, .ifCond .eq 20, .jsr 18]),
  (18, [.sipush (-1), .ireturn]),
  (20, [.iload 2, .ifCond .ne 36, .aload 0, .checkcast 576, .checkcast 516, .iload 1, .iaload, .goto 45]),
  (36, [.aload 0, .checkcast 576, .checkcast 517, .iload 1, .iaload, .jsr 45]),
  (45, [.ireturn])]
/-- B.family -/
def g_c119 : List (Nat × List Instr) := [(0, [.iload 1, .sipush 0, .sipush 1, .invokeinterface 109 3, .ifCond .ne 28, .iload 2, .sipush 0, .iload 1, .ifCond .ne 20, .sipush 9, .goto 22]),
  (20, [.sipush 40, .jsr 22]),
  (22, [.invokeinterface 109 3, .ifCond .eq 30, .jsr 28]),
  (28, [.sipush (-1), .ireturn]),
  (30, [.iload 1, .ifCond .ne 44, .aload 0, .checkcast 576, .getfield 526, .goto 51]),
  (44, [.aload 0, .checkcast 576, .getfield 527, .jsr 51]),
  (51, [.istore 3, .iload 1, .ifCond .ne 67, .aload 0, .checkcast 576, .iload 2, .putfield 526, .goto 75]),
  (67, [.aload 0, .checkcast 576, .iload 2, .putfield 527, .jsr 75]),
  (75, [.iload 3, .ireturn])]
/-- B.ends -/
def g_c120 : List (Nat × List Instr) := [(0, [.iload 1, .sipush 1, .sipush 16, .invokeinterface 109 3, .ifCond .eq 12, .sipush (-1), .ireturn]),
  (12, [.iload 1, .aload 0, .checkcast 576, .getfield 523, .if_icmp .ge 26, .sipush (-4), .ireturn]),
  (26, [.aload 0, .checkcast 576, .getfield 524, .istore 2, .aload 0, .checkcast 576, .iload 1, .putfield 524, .iload 2, .ireturn])]
/-- B.anew -/
def g_c121 : List (Nat × List Instr) := [(0, [.aload 0, .checkcast 576, .getfield 523, .istore 1, .aload 0, .checkcast 576, .invokeinterface 75 1, .iload 1, .ireturn])]
/-- B.state -/
def g_c122 : List (Nat × List Instr) := [(0, [.iload 1, .lookupswitch 127 #[(0, 48), (1, 56), (2, 64), (3, 72), (4, 88), (5, 96), (6, 111), (7, 119)]]),
  (48, [.aload 0, .checkcast 576, .getfield 523, .ireturn]),
  (56, [.aload 0, .checkcast 576, .getfield 524, .ireturn]),
  (64, [.aload 0, .checkcast 576, .getfield 525, .ireturn]),
  (72, [.aload 0, .checkcast 576, .invokeinterface 76 1, .ifCond .eq 86, .sipush 1, .goto 87]),
  (86, [.sipush 0, .jsr 87]),
  (87, [.ireturn]),
  (88, [.aload 0, .checkcast 576, .getfield 522, .ireturn]),
  (96, [.aload 0, .checkcast 576, .aload 0, .checkcast 576, .getfield 523, .invokeinterface 77 2, .ireturn]),
  (111, [.aload 0, .checkcast 576, .getfield 526, .ireturn]),
  (119, [.aload 0, .checkcast 576, .getfield 527, .ireturn]),
  (127, [.sipush (-1), .ireturn])]
/-- B.feed -/
def g_c123 : List (Nat × List Instr) := [(0, [.iload 3, .sipush 1, .sipush 8, .invokeinterface 109 3, .ifCond .eq 12, .sipush (-1), .ireturn]),
  (12, [.aload 0, .checkcast 579, .getfield 194, .iload 3, .iadd, .sipush 200, .if_icmp .le 30, .sipush (-2), .ireturn]),
  (30, [.aload 0, .checkcast 579, .lload 1, .iload 3, .invokeinterface 25 3, .ireturn])]
/-- B.rules -/
def g_c124 : List (Nat × List Instr) := [(0, [.aload 0, .checkcast 579, .invokeinterface 26 1, .istore 1, .iload 1, .sipush (-1), .if_icmp .eq 18, .sipush (-100), .iload 1, .isub, .ireturn]),
  (18, [.aload 0, .checkcast 576, .checkcast 519, .aload 0, .checkcast 579, .checkcast 192, .invokeinterface 16 2, .aload 0, .checkcast 576, .checkcast 519, .getfield 69, .ireturn])]
/-- B.year -/
def g_c125 : List (Nat × List Instr) := [(0, [.aload 0, .checkcast 576, .invokeinterface 76 1, .ifCond .eq 13, .sipush (-4), .ireturn]),
  (13, [.aload 0, .checkcast 576, .sipush (-1), .invokeinterface 78 2, .ireturn])]
/-- B.moodBehind -/
def g_c126 : List (Nat × List Instr) := [(0, [.iload 0, .sipush 4, .idiv, .istore 2, .iload 0, .sipush 4, .irem, .lookupswitch 72 #[(0, 32), (1, 41), (2, 49)]]),
  (32, [.sipush 9, .iload 1, .iload 2, .iadd, .dsub, .ireturn]),
  (41, [.sipush 0, .iload 1, .iload 2, .isub, .dadd, .ireturn]),
  (49, [.iload 1, .sipush 5, .if_icmp .ge 64, .sipush 5, .iload 1, .iload 2, .iadd, .dsub, .goto 71]),
  (64, [.sipush 5, .iload 1, .iload 2, .isub, .dadd, .jsr 71]),
  (71, [.ireturn]),
  (72, [.iload 1, .ireturn])]
/-- B.placesOf -/
def g_c127 : List (Nat × List Instr) := [(0, [.goto_w 1, .iload 1, .lshl, .goto_w 1, .lsub, .iload 0, .lshl, .lreturn])]
/-- B.stepsOn -/
def g_c128 : List (Nat × List Instr) := [(0, [.sipush 0, .istore 4, .jsr 3]),
  (3, [.iload 4, .iload 3, .if_icmp .gt 37, .iload 2, .iload 4, .iadd, .sipush 40, .if_icmp .ge 37, .lload 0, .iload 2, .iload 4, .iadd, .lushr, .goto_w 1, .land, .goto_w 1, .lcmp, .ifCond .ne 37, .iinc 4 1, .goto 3]),
  (37, [.iload 4, .ireturn])]
/-- B.on -/
def g_c129 : List (Nat × List Instr) := [(0, [.iload 1, .sipush 0, .sipush 16, .invokeinterface 109 3, .ifCond .eq 12, .sipush (-1), .ireturn]),
  (12, [.aload 0, .checkcast 576, .iload 1, .invokeinterface 84 2, .ireturn])]
/-- B.when -/
def g_c130 : List (Nat × List Instr) := [(0, [.aload 0, .checkcast 576, .iload 1, .invokeinterface 69 2, .ifCond .ne 13, .sipush (-1), .ireturn]),
  (13, [.aload 0, .checkcast 576, .iload 1, .invokeinterface 70 2, .ifCond .eq 29, .sipush (-3), .goto 40]),
  (29, [.aload 0, .checkcast 576, .sipush 1, .iload 1, .ishl, .sipush 0, .invokeinterface 88 3, .jsr 40]),
  (40, [.ireturn])]
/-- B.widthFor -/
def g_c131 : List (Nat × List Instr) := [(0, [.aload 0, .checkcast 576, .iload 1, .invokeinterface 69 2, .ifCond .ne 13, .sipush (-1), .ireturn]),
  (13, [.aload 0, .checkcast 576, .aload 0, .checkcast 576, .checkcast 514, .iload 1, .sipush 9, .invokeinterface 89 4, .ireturn])]
/-- B.pieceFor -/
def g_c132 : List (Nat × List Instr) := [(0, [.aload 0, .checkcast 576, .iload 1, .invokeinterface 69 2, .ifCond .ne 13, .sipush (-1), .ireturn]),
  (13, [.aload 0, .checkcast 576, .aload 0, .checkcast 576, .checkcast 513, .iload 1, .sipush 39, .invokeinterface 89 4, .ireturn])]
/-- B.over -/
def g_c133 : List (Nat × List Instr) := [(0, [.iload 1, .sipush 0, .sipush 40, .invokeinterface 109 3, .ifCond .eq 12, .sipush (-1), .ireturn]),
  (12, [.aload 0, .checkcast 576, .sipush 0, .iload 1, .invokeinterface 88 3, .ireturn])]
/-- B.gap -/
def g_c134 : List (Nat × List Instr) := [(0, [.iload 1, .ifCond .ne 12, .aload 0, .checkcast 576, .invokeinterface 90 1, .ireturn]),
  (12, [.iload 1, .sipush 1, .if_icmp .ne 27, .aload 0, .checkcast 576, .invokeinterface 92 1, .goto 28]),
  (27, [.sipush (-1), .jsr 28]),
  (28, [.ireturn])]
/-- B.branches -/
def g_c135 : List (Nat × List Instr) := [(0, [.iload 1, .sipush (-1), .if_icmp .ne 13, .aload 0, .checkcast 576, .invokeinterface 93 1, .ireturn]),
  (13, [.aload 0, .checkcast 576, .iload 1, .invokeinterface 69 2, .ifCond .eq 35, .aload 0, .checkcast 576, .iload 1, .invokeinterface 94 2, .goto 36]),
  (35, [.sipush (-1), .jsr 36]),
  (36, [.ireturn])]
/-- B.leastOf -/
def g_c136 : List (Nat × List Instr) := [(0, [.sipush 0, .istore 1, .jsr 2]),
  (2, [.iload 1, .sipush 6, .if_icmp .ge 25, .iload 0, .iload 1, .ishr, .sipush 1, .iand, .sipush 1, .if_icmp .ne 19, .iload 1, .ireturn]),
  (19, [.iinc 1 1, .goto 2]),
  (25, [.sipush (-3), .ireturn])]
/-- B.fetch -/
def g_c137 : List (Nat × List Instr) := [(0, [.iload 1, .sipush 0, .sipush 40, .invokeinterface 109 3, .ifCond .ne 19, .iload 2, .sipush 0, .sipush 1, .invokeinterface 109 3, .ifCond .eq 21, .jsr 19]),
  (19, [.sipush (-1), .ireturn]),
  (21, [.aload 0, .checkcast 576, .invokeinterface 91 1, .aload 0, .checkcast 576, .getfield 522, .sipush (-1), .ixor, .iand, .istore 3, .iload 2, .ifCond .ne 53, .aload 0, .checkcast 576, .iload 1, .iload 3, .invokeinterface 97 3, .ireturn]),
  (53, [.aload 0, .checkcast 576, .iload 1, .iload 3, .invokeinterface 98 3, .ireturn])]
/-- B.best -/
def g_c138 : List (Nat × List Instr) := [(0, [.iload 1, .sipush 0, .sipush 4, .invokeinterface 109 3, .ifCond .eq 11, .sipush (-1), .ireturn]),
  (11, [.aload 0, .checkcast 580, .iload 1, .sipush 0, .invokeinterface 18 3, .aload 0, .checkcast 580, .getfield 133, .ireturn])]
/-- B.ith -/
def g_c139 : List (Nat × List Instr) := [(0, [.iload 1, .sipush 0, .sipush 4, .invokeinterface 109 3, .ifCond .ne 18, .iload 2, .sipush 0, .sipush 3, .invokeinterface 109 3, .ifCond .eq 20, .jsr 18]),
  (18, [.sipush (-1), .ireturn]),
  (20, [.aload 0, .checkcast 580, .iload 1, .sipush 0, .invokeinterface 18 3, .iload 2, .aload 0, .checkcast 580, .getfield 131, .if_icmp .ge 52, .aload 0, .checkcast 580, .checkcast 130, .iload 2, .iaload, .goto 54]),
  (52, [.sipush (-3), .jsr 54]),
  (54, [.ireturn])]
/-- B.ways -/
def g_c140 : List (Nat × List Instr) := [(0, [.iload 1, .sipush 0, .sipush 4, .invokeinterface 109 3, .ifCond .eq 11, .sipush (-1), .ireturn]),
  (11, [.aload 0, .checkcast 580, .iload 1, .sipush 0, .invokeinterface 18 3, .aload 0, .checkcast 580, .getfield 134, .ireturn])]
/-- B.supper -/
def g_c141 : List (Nat × List Instr) := [(0, [.iload 1, .sipush 0, .sipush 4, .invokeinterface 109 3, .ifCond .ne 24, .iload 2, .sipush 0, .aload 0, .checkcast 576, .invokeinterface 91 1, .invokeinterface 109 3, .ifCond .eq 26, .jsr 24]),
  (24, [.sipush (-1), .ireturn]),
  (26, [.aload 0, .checkcast 580, .iload 1, .iload 2, .invokeinterface 18 3, .aload 0, .checkcast 580, .getfield 135, .ireturn])]
/-- B.bars -/
def g_c142 : List (Nat × List Instr) := [(0, [.iload 1, .sipush 0, .sipush 4, .invokeinterface 109 3, .ifCond .ne 24, .iload 2, .sipush 0, .aload 0, .checkcast 576, .invokeinterface 91 1, .invokeinterface 109 3, .ifCond .eq 26, .jsr 24]),
  (24, [.sipush (-1), .ireturn]),
  (26, [.aload 0, .checkcast 580, .iload 1, .iload 2, .invokeinterface 18 3, .iload 2, .aload 0, .checkcast 580, .getfield 136, .sipush (-1), .ixor, .iand, .invokeinterface 136 1, .ireturn])]
/-- B.game -/
def g_c143 : List (Nat × List Instr) := [(0, [.iload 1, .sipush 1, .sipush 4, .invokeinterface 109 3, .ifCond .eq 11, .sipush (-1), .ireturn]),
  (11, [.aload 0, .checkcast 580, .aload 0, .checkcast 576, .iload 1, .invokeinterface 86 2, .sipush 1, .invokeinterface 21 3, .ireturn])]
/-- B.play -/
def g_c144 : List (Nat × List Instr) := [(0, [.iload 1, .sipush 1, .sipush 4, .invokeinterface 109 3, .ifCond .eq 11, .sipush (-1), .ireturn]),
  (11, [.aload 0, .checkcast 576, .invokeinterface 76 1, .ifCond .eq 26, .sipush (-3), .goto 41]),
  (26, [.aload 0, .checkcast 580, .aload 0, .checkcast 576, .iload 1, .invokeinterface 86 2, .invokeinterface 23 2, .jsr 41]),
  (41, [.ireturn])]
/-- B.report -/
def g_c145 : List (Nat × List Instr) := [(0, [.iload 1, .sipush 0, .sipush 15, .invokeinterface 109 3, .ifCond .ne 19, .iload 2, .sipush 0, .sipush 1, .invokeinterface 109 3, .ifCond .eq 21, .jsr 19]),
  (19, [.sipush (-1), .ireturn]),
  (21, [.iload 2, .ifCond .ne 30, .sipush 40, .goto 32]),
  (30, [.sipush 9, .jsr 32]),
  (32, [.istore 5, .iload 3, .sipush 0, .iload 5, .invokeinterface 109 3, .ifCond .ne 55, .iload 4, .iload 3, .iload 5, .invokeinterface 109 3, .ifCond .eq 57, .jsr 55]),
  (55, [.sipush (-1), .ireturn]),
  (57, [.aload 0, .checkcast 576, .checkcast 520, .getfield 260, .sipush 6, .if_icmp .lt 75, .sipush (-2), .ireturn]),
  (75, [.aload 0, .checkcast 576, .checkcast 520, .iload 1, .iload 2, .iload 3, .iload 4, .invokeinterface 49 5, .ireturn])]
/-- B.forget -/
def g_c146 : List (Nat × List Instr) := [(0, [.aload 0, .checkcast 576, .checkcast 520, .getfield 260, .istore 1, .aload 0, .checkcast 576, .checkcast 520, .sipush 0, .putfield 260, .iload 1, .ireturn])]
/-- B.lost -/
def g_c147 : List (Nat × List Instr) := [(0, [.iload 1, .sipush 0, .sipush 3, .invokeinterface 109 3, .ifCond .eq 11, .sipush (-1), .ireturn]),
  (11, [.iload 1, .ifCond .ne 25, .aload 0, .checkcast 576, .invokeinterface 99 1, .goto 33]),
  (25, [.aload 0, .checkcast 576, .iload 1, .invokeinterface 101 2, .jsr 33]),
  (33, [.ireturn])]
/-- B.liar -/
def g_c148 : List (Nat × List Instr) := [(0, [.aload 0, .checkcast 576, .invokeinterface 102 1, .ireturn])]
/-- B.seed -/
def g_c149 : List (Nat × List Instr) := [(0, [.aload 0, .checkcast 576, .getfield 528, .istore 2, .aload 0, .checkcast 576, .iload 1, .putfield 528, .iload 2, .ireturn])]
/-- B.lot -/
def g_c150 : List (Nat × List Instr) := [(0, [.aload 0, .checkcast 576, .invokeinterface 76 1, .ifCond .eq 13, .sipush (-4), .ireturn]),
  (13, [.aload 0, .checkcast 576, .aload 0, .checkcast 576, .invokeinterface 103 1, .invokeinterface 78 2, .ireturn])]
/-- B.times -/
def g_c151 : List (Nat × List Instr) := [(0, [.iload 1, .sipush 1, .sipush 40, .invokeinterface 109 3, .ifCond .ne 21, .iload 2, .sipush 0, .sipush 999, .invokeinterface 109 3, .ifCond .eq 23, .jsr 21]),
  (21, [.sipush (-1), .ireturn]),
  (23, [.aload 0, .checkcast 576, .getfield 528, .istore 3, .sipush 0, .istore 4, .sipush 0, .istore 5, .jsr 37]),
  (37, [.iload 5, .iload 1, .if_icmp .ge 63, .aload 0, .checkcast 576, .invokeinterface 104 1, .iload 2, .if_icmp .lt 57, .iinc 4 1, .jsr 57]),
  (57, [.iinc 5 1, .goto 37]),
  (63, [.aload 0, .checkcast 576, .iload 3, .putfield 528, .iload 4, .ireturn])]
/-- B.prove -/
def g_c152 : List (Nat × List Instr) := [(0, [.iload 1, .sipush 0, .sipush 4, .invokeinterface 109 3, .ifCond .eq 11, .sipush (-1), .ireturn]),
  (11, [.aload 0, .checkcast 580, .iload 1, .sipush 0, .invokeinterface 18 3, .aload 0, .checkcast 581, .aload 0, .checkcast 580, .checkcast 130, .aload 0, .checkcast 580, .getfield 131, .invokeinterface 54 3, .ireturn])]
/-- B.row -/
def g_c153 : List (Nat × List Instr) := [(0, [.aload 0, .checkcast 581, .iload 1, .iload 2, .invokeinterface 55 3, .ifCond .eq 28, .aload 0, .checkcast 581, .checkcast 321, .sipush 3, .iload 1, .imul, .iload 2, .iadd, .iaload, .goto 30]),
  (28, [.sipush (-9), .jsr 30]),
  (30, [.ireturn])]
/-- B.alterRow -/
def g_c154 : List (Nat × List Instr) := [(0, [.aload 0, .checkcast 581, .iload 1, .iload 2, .invokeinterface 55 3, .ifCond .eq 31, .aload 0, .checkcast 581, .checkcast 321, .sipush 3, .iload 1, .imul, .iload 2, .iadd, .iload 3, .invokeinterface 114 3, .goto 33]),
  (31, [.sipush (-9), .jsr 33]),
  (33, [.ireturn])]
/-- B.judge -/
def g_c155 : List (Nat × List Instr) := [(0, [.aload 0, .checkcast 581, .invokeinterface 56 1, .ireturn])]
/-- B.sheet -/
def g_c156 : List (Nat × List Instr) := [(0, [.iload 1, .sipush 0, .sipush 3, .invokeinterface 109 3, .ifCond .ne 18, .iload 2, .sipush (-1), .sipush 4, .invokeinterface 109 3, .ifCond .eq 20, .jsr 18]),
  (18, [.sipush (-1), .ireturn]),
  (20, [.iload 2, .sipush (-1), .if_icmp .eq 33, .iload 3, .sipush 40, .if_icmp .le 33, .sipush (-1), .ireturn]),
  (33, [.iload 2, .sipush (-1), .if_icmp .eq 45, .iload 3, .ifCond .ge 45, .sipush (-14), .ireturn]),
  (45, [.aload 0, .checkcast 582, .iload 1, .aaload, .iload 2, .iload 2, .sipush (-1), .if_icmp .ne 61, .sipush 0, .goto 62]),
  (61, [.iload 3, .jsr 62]),
  (62, [.invokeinterface 59 3, .sipush 1, .ireturn])]
/-- B.write -/
def g_c157 : List (Nat × List Instr) := [(0, [.iload 1, .sipush 0, .sipush 3, .invokeinterface 109 3, .ifCond .eq 11, .sipush (-1), .ireturn]),
  (11, [.aload 0, .checkcast 582, .iload 1, .aaload, .getfield 385, .sipush (-1), .if_icmp .ne 27, .sipush (-11), .ireturn]),
  (27, [.aload 0, .checkcast 582, .iload 1, .aaload, .iload 2, .invokeinterface 60 2, .ifCond .ne 43, .sipush (-12), .ireturn]),
  (43, [.aload 0, .checkcast 582, .iload 1, .aaload, .iload 2, .iload 3, .invokeinterface 61 3, .sipush 1, .ireturn])]
/-- B.item -/
def g_c158 : List (Nat × List Instr) := [(0, [.iload 1, .sipush 0, .sipush 3, .invokeinterface 109 3, .ifCond .ne 18, .iload 2, .sipush 0, .sipush 4, .invokeinterface 109 3, .ifCond .eq 20, .jsr 18]),
  (18, [.sipush (-1), .ireturn]),
  (20, [.aload 0, .checkcast 582, .iload 1, .aaload, .iload 2, .invokeinterface 63 2, .istore 4, .iload 4, .ifCond .eq 40, .iload 4, .ireturn]),
  (40, [.aload 0, .checkcast 582, .iload 1, .aaload, .iload 3, .invokeinterface 60 2, .ifCond .eq 68, .aload 0, .checkcast 582, .iload 1, .aaload, .checkcast 384, .iload 3, .laload, .l2i, .goto 70]),
  (68, [.sipush (-12), .jsr 70]),
  (70, [.ireturn])]
/-- B.goAll -/
def g_c159 : List (Nat × List Instr) := [(0, [.iload 1, .sipush 0, .sipush 3, .invokeinterface 109 3, .ifCond .ne 19, .iload 3, .sipush 0, .sipush 20, .invokeinterface 109 3, .ifCond .eq 21, .jsr 19]),
  (19, [.sipush (-1), .ireturn]),
  (21, [.aload 0, .checkcast 582, .iload 1, .aaload, .astore 4, .aload 4, .sipush 0, .invokeinterface 63 2, .istore 5, .iload 5, .ifCond .eq 45, .iload 5, .ireturn]),
  (45, [.sipush 0, .istore 6, .sipush 0, .istore 7, .jsr 51]),
  (51, [.iload 7, .iload 3, .if_icmp .ge 127, .aload 4, .iload 2, .iload 7, .iadd, .invokeinterface 60 2, .ifCond .ne 72, .sipush (-12), .ireturn]),
  (72, [.aload 4, .checkcast 384, .iload 2, .iload 7, .iadd, .laload, .l2i, .istore 8, .aload 0, .checkcast 576, .iload 8, .invokeinterface 105 2, .ifCond .eq 121, .aload 0, .checkcast 576, .invokeinterface 76 1, .ifCond .ne 121, .iload 6, .aload 0, .checkcast 576, .iload 8, .invokeinterface 78 2, .iadd, .istore 6, .jsr 121]),
  (121, [.iinc 7 1, .goto 51]),
  (127, [.iload 6, .ireturn])]
/-- B.wouldBe -/
def g_c160 : List (Nat × List Instr) := [(0, [.iload 1, .sipush 0, .sipush 3, .invokeinterface 109 3, .ifCond .ne 19, .iload 3, .sipush 0, .sipush 20, .invokeinterface 109 3, .ifCond .eq 21, .jsr 19]),
  (19, [.sipush (-1), .ireturn]),
  (21, [.aload 0, .checkcast 582, .iload 1, .aaload, .sipush 0, .invokeinterface 63 2, .istore 4, .iload 4, .ifCond .eq 41, .iload 4, .ireturn]),
  (41, [.aload 0, .checkcast 576, .invokeinterface 85 1, .istore 5, .aload 0, .aload 0, .checkcast 582, .iload 1, .aaload, .iload 2, .iload 3, .invokeinterface 161 4, .istore 6, .aload 0, .checkcast 576, .iload 5, .invokeinterface 87 2, .iload 6, .ireturn])]
/-- B.worthOfItems -/
def g_c161 : List (Nat × List Instr) := [(0, [.sipush 0, .istore 4, .sipush 0, .istore 5, .jsr 6]),
  (6, [.iload 5, .iload 3, .if_icmp .ge 83, .aload 1, .iload 2, .iload 5, .iadd, .invokeinterface 60 2, .ifCond .ne 26, .sipush (-12), .ireturn]),
  (26, [.aload 1, .checkcast 384, .iload 2, .iload 5, .iadd, .laload, .l2i, .istore 6, .aload 0, .checkcast 576, .iload 6, .invokeinterface 105 2, .ifCond .eq 60, .aload 0, .checkcast 576, .invokeinterface 76 1, .ifCond .eq 63, .jsr 60]),
  (60, [.sipush (-4), .ireturn]),
  (63, [.iload 4, .aload 0, .checkcast 576, .iload 6, .invokeinterface 79 2, .iadd, .istore 4, .iinc 5 1, .goto 6]),
  (83, [.iload 4, .ireturn])]
/-- B.shelf -/
def g_c162 : List (Nat × List Instr) := [(0, [.iload 1, .sipush 0, .sipush 3, .invokeinterface 109 3, .ifCond .ne 18, .iload 2, .sipush 0, .sipush 2, .invokeinterface 109 3, .ifCond .eq 20, .jsr 18]),
  (18, [.sipush (-1), .ireturn]),
  (20, [.iload 2, .ifCond .ne 37, .aload 0, .checkcast 576, .iload 3, .invokeinterface 69 2, .ifCond .ne 37, .sipush (-1), .ireturn]),
  (37, [.iload 2, .sipush 1, .if_icmp .ne 53, .iload 3, .sipush 0, .sipush 3, .invokeinterface 109 3, .ifCond .eq 53, .sipush (-1), .ireturn]),
  (53, [.iload 2, .sipush 1, .if_icmp .ne 88, .aload 0, .checkcast 583, .iload 1, .aaload, .aload 0, .checkcast 582, .iload 3, .aaload, .getfield 385, .aload 0, .checkcast 582, .iload 3, .aaload, .getfield 386, .invokeinterface 65 3, .goto 99]),
  (88, [.aload 0, .checkcast 583, .iload 1, .aaload, .iload 2, .iload 3, .invokeinterface 66 3, .jsr 99]),
  (99, [.sipush 1, .ireturn])]
/-- B.taken -/
def g_c163 : List (Nat × List Instr) := [(0, [.iload 2, .sipush 0, .sipush 5, .invokeinterface 109 3, .ifCond .ne 13, .sipush 1, .goto 14]),
  (13, [.sipush 0, .jsr 14]),
  (14, [.istore 3, .iload 2, .sipush 10, .sipush 14, .invokeinterface 109 3, .ifCond .ne 30, .sipush 1, .goto 31]),
  (30, [.sipush 0, .jsr 31]),
  (31, [.istore 4, .iload 1, .sipush 0, .sipush 3, .invokeinterface 109 3, .ifCond .ne 51, .iload 3, .ifCond .ne 53, .iload 4, .ifCond .ne 53, .jsr 51]),
  (51, [.sipush (-1), .ireturn]),
  (53, [.aload 0, .checkcast 583, .iload 1, .aaload, .astore 5, .aload 0, .aload 5, .invokeinterface 164 2, .istore 6, .iload 6, .sipush 2, .if_icmp .ne 78, .sipush (-11), .ireturn]),
  (78, [.iload 6, .sipush 1, .if_icmp .ne 112, .iload 4, .ifCond .eq 109, .aload 5, .getfield 450, .iload 2, .sipush 10, .isub, .if_icmp .ne 109, .aload 5, .getfield 451, .goto 111]),
  (109, [.sipush (-13), .jsr 111]),
  (111, [.ireturn]),
  (112, [.iload 3, .ifCond .eq 144, .aload 0, .checkcast 576, .checkcast 512, .aload 5, .getfield 449, .iaload, .iload 2, .invokeinterface 112 2, .ifCond .eq 144, .aload 5, .getfield 449, .goto 146]),
  (144, [.sipush (-13), .jsr 146]),
  (146, [.ireturn])]
/-- B.heldOn -/
def g_c164 : List (Nat × List Instr) := [(0, [.aload 1, .getfield 448, .ifCond .ne 23, .aload 0, .checkcast 576, .aload 1, .getfield 449, .invokeinterface 69 2, .ifCond .ne 23, .sipush 2, .ireturn]),
  (23, [.aload 1, .getfield 448, .ireturn])]
/-- B.act -/
def g_c165 : List (Nat × List Instr) := [(0, [.aload 0, .checkcast 584, .sipush 0, .putfield 1, .iload 1, .sipush 0, .sipush 3, .invokeinterface 109 3, .ifCond .ne 26, .iload 2, .sipush 0, .sipush 3, .invokeinterface 109 3, .ifCond .eq 28, .jsr 26]),
  (26, [.sipush 0, .ireturn]),
  (28, [.aload 0, .aload 0, .checkcast 583, .iload 1, .aaload, .invokeinterface 164 2, .ifCond .eq 43, .sipush 0, .ireturn]),
  (43, [.aload 0, .checkcast 583, .iload 1, .aaload, .getfield 449, .istore 4, .aload 0, .checkcast 584, .aload 0, .checkcast 576, .checkcast 512, .iload 4, .iaload, .iload 4, .aload 0, .checkcast 576, .checkcast 515, .iload 4, .iaload, .invokeinterface 1 4, .aload 0, .checkcast 584, .iload 2, .iload 3, .invokeinterface 2 3, .ireturn])]
/-- B.trace -/
def g_c166 : List (Nat × List Instr) := [(0, [.iload 1, .sipush 0, .aload 0, .checkcast 584, .getfield 1, .sipush 1, .isub, .invokeinterface 109 3, .ifCond .eq 22, .sipush (-3), .goto 31]),
  (22, [.aload 0, .checkcast 584, .checkcast 0, .iload 1, .iaload, .jsr 31]),
  (31, [.ireturn])]
/-- B.many -/
def g_c167 : List (Nat × List Instr) := [(0, [.iload 1, .lookupswitch 109 #[(0, 44), (1, 52), (2, 63), (3, 74), (4, 85), (5, 93), (6, 101)]]),
  (44, [.aload 0, .checkcast 576, .getfield 521, .ireturn]),
  (52, [.aload 0, .checkcast 576, .checkcast 519, .getfield 69, .ireturn]),
  (63, [.aload 0, .checkcast 576, .getfield 522, .invokeinterface 300 1, .ireturn]),
  (74, [.aload 0, .checkcast 576, .checkcast 520, .getfield 260, .ireturn]),
  (85, [.aload 0, .checkcast 581, .getfield 322, .ireturn]),
  (93, [.aload 0, .checkcast 579, .getfield 194, .ireturn]),
  (101, [.aload 0, .checkcast 584, .getfield 1, .ireturn]),
  (109, [.sipush (-1), .ireturn])]
/-- B.keep -/
def g_c168 : List (Nat × List Instr) := [(0, [.aload 0, .checkcast 577, .aload 0, .checkcast 576, .invokeinterface 106 2, .aload 0, .sipush 1, .putfield 578, .sipush 1, .ireturn])]
/-- B.again -/
def g_c169 : List (Nat × List Instr) := [(0, [.aload 0, .getfield 578, .ifCond .ne 10, .sipush (-3), .ireturn]),
  (10, [.aload 0, .checkcast 576, .aload 0, .checkcast 577, .invokeinterface 106 2, .aload 0, .checkcast 576, .getfield 521, .ireturn])]
/-- M.init -/
def g_c170 : List (Nat × List Instr) := [(0, [.aload 0, .pop2, .aload 0, .sipush 322, .newarray .int, .instanceof 640, .aload 0, .sipush 322, .newarray .int, .instanceof 641, .aload 0, .sipush 74, .newarray .int, .instanceof 642, .aload 0, .sipush 200, .newarray .int, .instanceof 644, .aload 0, .sipush 200, .newarray .int, .instanceof 645, .aload 0, .sipush 144, .newarray .char, .dup, .sipush 0, .sipush 112, .castore, .dup, .sipush 1, .sipush 108, .castore, .dup, .sipush 2, .sipush 97, .castore, .dup, .sipush 3, .sipush 116, .castore, .dup, .sipush 4, .sipush 101, .castore, .dup, .sipush 5, .sipush 32, .castore, .dup, .sipush 6, .sipush 32, .castore, .dup, .sipush 7, .sipush 32, .castore, .dup, .sipush 8, .sipush 100, .castore, .dup, .sipush 9, .sipush 105, .castore, .dup, .sipush 10, .sipush 115, .castore, .dup, .sipush 11, .sipush 104, .castore, .dup, .sipush 12, .sipush 32, .castore, .dup, .sipush 13, .sipush 32, .castore, .dup, .sipush 14, .sipush 32, .castore, .dup, .sipush 15, .sipush 32, .castore, .dup, .sipush 16, .sipush 116, .castore, .dup, .sipush 17, .sipush 117, .castore, .dup, .sipush 18, .sipush 114, .castore, .dup, .sipush 19, .sipush 101, .castore, .dup, .sipush 20, .sipush 101, .castore, .dup, .sipush 21, .sipush 110, .castore, .dup, .sipush 22, .sipush 32, .castore, .dup, .sipush 23, .sipush 32, .castore, .dup, .sipush 24, .sipush 98, .castore, .dup, .sipush 25, .sipush 111, .castore, .dup, .sipush 26, .sipush 97, .castore, .dup, .sipush 27, .sipush 116, .castore, .dup, .sipush 28, .sipush 32, .castore, .dup, .sipush 29, .sipush 32, .castore, .dup, .sipush 30, .sipush 32, .castore, .dup, .sipush 31, .sipush 32, .castore, .dup, .sipush 32, .sipush 115, .castore, .dup, .sipush 33, .sipush 97, .castore, .dup, .sipush 34, .sipush 117, .castore, .dup, .sipush 35, .sipush 99, .castore, .dup, .sipush 36, .sipush 101, .castore, .dup, .sipush 37, .sipush 114, .castore, .dup, .sipush 38, .sipush 32, .castore, .dup, .sipush 39, .sipush 32, .castore, .dup, .sipush 40, .sipush 99, .castore, .dup, .sipush 41, .sipush 114, .castore, .dup, .sipush 42, .sipush 97, .castore, .dup, .sipush 43, .sipush 99, .castore, .dup, .sipush 44, .sipush 107, .castore, .dup, .sipush 45, .sipush 101, .castore, .dup, .sipush 46, .sipush 100, .castore, .dup, .sipush 47, .sipush 32, .castore, .dup, .sipush 48, .sipush 115, .castore, .dup, .sipush 49, .sipush 105, .castore, .dup, .sipush 50, .sipush 116, .castore, .dup, .sipush 51, .sipush 32, .castore, .dup, .sipush 52, .sipush 32, .castore, .dup, .sipush 53, .sipush 32, .castore, .dup, .sipush 54, .sipush 32, .castore, .dup, .sipush 55, .sipush 32, .castore, .dup, .sipush 56, .sipush 115, .castore, .dup, .sipush 57, .sipush 116, .castore, .dup, .sipush 58, .sipush 97, .castore, .dup, .sipush 59, .sipush 110, .castore, .dup, .sipush 60, .sipush 100, .castore, .dup, .sipush 61, .sipush 32, .castore, .dup, .sipush 62, .sipush 32, .castore, .dup, .sipush 63, .sipush 32, .castore, .dup, .sipush 64, .sipush 108, .castore, .dup, .sipush 65, .sipush 101, .castore, .dup, .sipush 66, .sipush 97, .castore, .dup, .sipush 67, .sipush 118, .castore, .dup, .sipush 68, .sipush 101, .castore, .dup, .sipush 69, .sipush 32, .castore, .dup, .sipush 70, .sipush 32, .castore, .dup, .sipush 71, .sipush 32, .castore, .dup, .sipush 72, .sipush 105, .castore, .dup, .sipush 73, .sipush 102, .castore, .dup, .sipush 74, .sipush 32, .castore, .dup, .sipush 75, .sipush 32, .castore, .dup, .sipush 76, .sipush 32, .castore, .dup, .sipush 77, .sipush 32, .castore, .dup, .sipush 78, .sipush 32, .castore, .dup, .sipush 79, .sipush 32, .castore, .dup, .sipush 80, .sipush 110, .castore, .dup, .sipush 81, .sipush 111, .castore, .dup, .sipush 82, .sipush 116, .castore, .dup, .sipush 83, .sipush 32, .castore, .dup, .sipush 84, .sipush 32, .castore, .dup, .sipush 85, .sipush 32, .castore, .dup, .sipush 86, .sipush 32, .castore, .dup, .sipush 87, .sipush 32, .castore, .dup, .sipush 88, .sipush 97, .castore, .dup, .sipush 89, .sipush 110, .castore, .dup, .sipush 90, .sipush 100, .castore, .dup, .sipush 91, .sipush 32, .castore, .dup, .sipush 92, .sipush 32, .castore, .dup, .sipush 93, .sipush 32, .castore, .dup, .sipush 94, .sipush 32, .castore, .dup, .sipush 95, .sipush 32, .castore, .dup, .sipush 96, .sipush 111, .castore, .dup, .sipush 97, .sipush 114, .castore, .dup, .sipush 98, .sipush 32, .castore, .dup, .sipush 99, .sipush 32, .castore, .dup, .sipush 100, .sipush 32, .castore, .dup, .sipush 101, .sipush 32, .castore, .dup, .sipush 102, .sipush 32, .castore, .dup, .sipush 103, .sipush 32, .castore, .dup, .sipush 104, .sipush 121, .castore, .dup, .sipush 105, .sipush 101, .castore, .dup, .sipush 106, .sipush 97, .castore, .dup, .sipush 107, .sipush 114, .castore, .dup, .sipush 108, .sipush 32, .castore, .dup, .sipush 109, .sipush 32, .castore, .dup, .sipush 110, .sipush 32, .castore, .dup, .sipush 111, .sipush 32, .castore, .dup, .sipush 112, .sipush 119, .castore, .dup, .sipush 113, .sipush 105, .castore, .dup, .sipush 114, .sipush 100, .castore, .dup, .sipush 115, .sipush 116, .castore, .dup, .sipush 116, .sipush 104, .castore, .dup, .sipush 117, .sipush 32, .castore, .dup, .sipush 118, .sipush 32, .castore, .dup, .sipush 119, .sipush 32, .castore, .dup, .sipush 120, .sipush 103, .castore, .dup, .sipush 121, .sipush 114, .castore, .dup, .sipush 122, .sipush 117, .castore, .dup, .sipush 123, .sipush 100, .castore, .dup, .sipush 124, .sipush 103, .castore, .dup, .sipush 125, .sipush 101, .castore, .dup, .sipush 126, .sipush 32, .castore, .dup, .sipush 127, .sipush 32, .castore, .dup, .sipush 128, .sipush 109, .castore, .dup, .sipush 129, .sipush 111, .castore, .dup, .sipush 130, .sipush 111, .castore, .dup, .sipush 131, .sipush 100, .castore, .dup, .sipush 132, .sipush 32, .castore, .dup, .sipush 133, .sipush 32, .castore, .dup, .sipush 134, .sipush 32, .castore, .dup, .sipush 135, .sipush 32, .castore, .dup, .sipush 136, .sipush 110, .castore, .dup, .sipush 137, .sipush 117, .castore, .dup, .sipush 138, .sipush 109, .castore, .dup, .sipush 139, .sipush 98, .castore, .dup, .sipush 140, .sipush 101, .castore, .dup, .sipush 141, .sipush 114, .castore, .dup, .sipush 142, .sipush 32, .castore, .dup, .sipush 143, .sipush 32, .castore, .instanceof 647, .aload 0, .sipush 200, .newarray .int, .instanceof 654, .aload 0, .sipush 24, .newarray .int, .instanceof 655, .aload 0, .sipush 370, .newarray .int, .instanceof 658, .aload 0, .sipush 4, .newarray .int, .instanceof 659, .aload 0, .sipush 4, .newarray .int, .instanceof 660, .aload 0, .sipush 16, .newarray .int, .instanceof 665, .aload 0, .sipush 16, .newarray .int, .instanceof 666, .aload 0, .sipush 12, .newarray .int, .instanceof 668, .aload 0, .sipush 4, .newarray .int, .dup, .sipush 0, .sipush (-1), .iastore, .dup, .sipush 1, .sipush (-1), .iastore, .dup, .sipush 2, .sipush (-1), .iastore, .dup, .sipush 3, .sipush (-1), .iastore, .instanceof 670, .aload 0, .sipush 4, .newarray .int, .instanceof 671, .aload 0, .sipush 160, .newarray .int, .instanceof 672, .aload 0, .sipush 4, .newarray .int, .dup, .sipush 0, .sipush (-1), .iastore, .dup, .sipush 1, .sipush (-1), .iastore, .dup, .sipush 2, .sipush (-1), .iastore, .dup, .sipush 3, .sipush (-1), .iastore, .instanceof 673, .aload 0, .sipush 4, .newarray .int, .instanceof 674, .aload 0, .sipush 30, .newarray .int, .instanceof 675, .aload 0, .checkcast 640, .sipush 1, .sipush 12, .iastore, .aload 0, .checkcast 640, .sipush 3, .sipush 5, .iastore, .aload 0, .checkcast 640, .sipush 5, .sipush 1, .iastore, .sipush 0, .istore 1, .jsr 1096]),
  (1096, [.iload 1, .sipush 16, .if_icmp .ge 1118, .aload 0, .checkcast 640, .sipush 10, .iload 1, .iadd, .sipush 4, .iastore, .iinc 1 1, .goto 1096]),
  (1118, [.sipush 0, .istore 1, .jsr 1120]),
  (1120, [.iload 1, .sipush 6, .if_icmp .ge 1142, .aload 0, .checkcast 640, .sipush 32, .iload 1, .iadd, .sipush 3, .iastore, .iinc 1 1, .goto 1120]),
  (1142, [.return_])]
/-- M.feed -/
def g_c171 : List (Nat × List Instr) := [(0, [.iload 3, .sipush 1, .sipush 8, .invokeinterface 172 3, .ifCond .ne 12, .sipush (-1), .ireturn]),
  (12, [.aload 0, .getfield 646, .iload 3, .iadd, .sipush 200, .if_icmp .le 27, .sipush (-2), .ireturn]),
  (27, [.sipush 0, .istore 4, .jsr 30]),
  (30, [.iload 4, .iload 3, .if_icmp .ge 73, .aload 0, .checkcast 645, .aload 0, .getfield 646, .lload 1, .sipush 8, .iload 4, .imul, .lshr, .goto_w 255, .land, .l2i, .iastore, .aload 0, .dup, .getfield 646, .sipush 1, .iadd, .putfield 646, .iinc 4 1, .goto 30]),
  (73, [.aload 0, .getfield 646, .ireturn])]
/-- M.in1 -/
def g_c172 : List (Nat × List Instr) := [(0, [.iload 0, .iload 1, .if_icmp .lt 14, .iload 0, .iload 2, .if_icmp .gt 14, .sipush 1, .goto 15]),
  (14, [.sipush 0, .jsr 15]),
  (15, [.ireturn])]
/-- M.rules -/
def g_c173 : List (Nat × List Instr) := [(0, [.aload 0, .sipush 0, .putfield 648, .aload 0, .sipush 0, .putfield 653, .sipush 0, .istore 1, .aload 0, .invokeinterface 174 1, .sipush 1, .istore 2, .jsr 18]),
  (18, [.iload 2, .ifCond .eq 42, .aload 0, .getfield 650, .sipush (-1), .if_icmp .eq 42, .aload 0, .iload 1, .invokeinterface 179 2, .istore 2, .iinc 1 1, .goto 18]),
  (42, [.aload 0, .sipush 0, .putfield 646, .iload 2, .ifCond .ne 59, .sipush (-100), .aload 0, .getfield 649, .isub, .ireturn]),
  (59, [.aload 0, .checkcast 640, .sipush 7, .iload 1, .iastore, .sipush 0, .istore 3, .jsr 69]),
  (69, [.iload 3, .sipush 3, .iload 1, .imul, .if_icmp .ge 97, .aload 0, .checkcast 640, .sipush 98, .iload 3, .iadd, .aload 0, .checkcast 655, .iload 3, .iaload, .iastore, .iinc 3 1, .goto 69]),
  (97, [.sipush 0, .istore 3, .jsr 99]),
  (99, [.iload 3, .aload 0, .getfield 653, .if_icmp .ge 128, .aload 0, .checkcast 640, .sipush 122, .iload 3, .iadd, .aload 0, .checkcast 654, .iload 3, .iaload, .iastore, .iinc 3 1, .goto 99]),
  (128, [.iload 1, .ireturn])]
/-- M.next -/
def g_c174 : List (Nat × List Instr) := [(0, [.aload 0, .aload 0, .getfield 648, .invokeinterface 175 2, .sipush 32, .if_icmp .ne 26, .aload 0, .dup, .getfield 648, .sipush 1, .iadd, .putfield 648, .goto 0]),
  (26, [.aload 0, .aload 0, .getfield 648, .putfield 649, .aload 0, .aload 0, .getfield 648, .invokeinterface 175 2, .istore 1, .iload 1, .ifCond .ge 55, .aload 0, .sipush (-1), .putfield 650, .goto 110]),
  (55, [.iload 1, .sipush 97, .sipush 122, .invokeinterface 172 3, .ifCond .eq 73, .aload 0, .invokeinterface 176 1, .goto 110]),
  (73, [.iload 1, .sipush 48, .sipush 57, .invokeinterface 172 3, .ifCond .eq 91, .aload 0, .invokeinterface 178 1, .goto 110]),
  (91, [.aload 0, .sipush 200, .iload 1, .iadd, .putfield 650, .aload 0, .dup, .getfield 648, .sipush 1, .iadd, .putfield 648, .jsr 110]),
  (110, [.return_])]
/-- M.byteAt -/
def g_c175 : List (Nat × List Instr) := [(0, [.iload 1, .aload 0, .getfield 646, .if_icmp .ge 17, .aload 0, .checkcast 645, .iload 1, .iaload, .goto 18]),
  (17, [.sipush (-1), .jsr 18]),
  (18, [.ireturn])]
/-- M.readsName -/
def g_c176 : List (Nat × List Instr) := [(0, [.aload 0, .aload 0, .getfield 648, .invokeinterface 175 2, .sipush 97, .sipush 122, .invokeinterface 172 3, .ifCond .eq 31, .aload 0, .dup, .getfield 648, .sipush 1, .iadd, .putfield 648, .goto 0]),
  (31, [.aload 0, .sipush 101, .putfield 650, .sipush 0, .istore 1, .jsr 39]),
  (39, [.iload 1, .sipush 18, .if_icmp .ge 71, .aload 0, .aload 0, .iload 1, .invokeinterface 177 2, .ifCond .eq 58, .iload 1, .goto 62]),
  (58, [.aload 0, .getfield 650, .jsr 62]),
  (62, [.putfield 650, .iinc 1 1, .goto 39]),
  (71, [.return_])]
/-- M.isNameOf -/
def g_c177 : List (Nat × List Instr) := [(0, [.aload 0, .getfield 648, .aload 0, .getfield 649, .isub, .sipush 8, .if_icmp .gt 18, .sipush 1, .goto 19]),
  (18, [.sipush 0, .jsr 19]),
  (19, [.istore 2, .sipush 0, .istore 3, .jsr 22]),
  (22, [.iload 3, .sipush 8, .if_icmp .ge 86, .iload 2, .ifCond .eq 86, .aload 0, .checkcast 647, .sipush 8, .iload 1, .imul, .iload 3, .iadd, .caload, .aload 0, .getfield 649, .iload 3, .iadd, .aload 0, .getfield 648, .if_icmp .ge 69, .aload 0, .aload 0, .getfield 649, .iload 3, .iadd, .invokeinterface 175 2, .goto 71]),
  (69, [.sipush 32, .jsr 71]),
  (71, [.if_icmp .ne 78, .sipush 1, .goto 79]),
  (78, [.sipush 0, .jsr 79]),
  (79, [.istore 2, .iinc 3 1, .goto 22]),
  (86, [.iload 2, .ireturn])]
/-- M.readsNumber -/
def g_c178 : List (Nat × List Instr) := [(0, [.aload 0, .sipush 0, .putfield 651, .jsr 5]),
  (5, [.aload 0, .aload 0, .getfield 648, .invokeinterface 175 2, .sipush 48, .sipush 57, .invokeinterface 172 3, .ifCond .eq 79, .aload 0, .aload 0, .getfield 648, .aload 0, .getfield 649, .isub, .sipush 4, .if_icmp .ge 59, .sipush 10, .aload 0, .getfield 651, .imul, .aload 0, .aload 0, .getfield 648, .invokeinterface 175 2, .iadd, .sipush 48, .isub, .goto 63]),
  (59, [.aload 0, .getfield 651, .jsr 63]),
  (63, [.putfield 651, .aload 0, .dup, .getfield 648, .sipush 1, .iadd, .putfield 648, .goto 5]),
  (79, [.aload 0, .aload 0, .getfield 648, .aload 0, .getfield 649, .isub, .sipush 4, .if_icmp .le 98, .sipush 101, .goto 100]),
  (98, [.sipush 100, .jsr 100]),
  (100, [.putfield 650, .return_])]
/-- M.readsRule -/
def g_c179 : List (Nat × List Instr) := [(0, [.iload 1, .sipush 8, .if_icmp .eq 18, .aload 0, .getfield 650, .sipush 0, .sipush 5, .invokeinterface 172 3, .ifCond .ne 20, .jsr 18]),
  (18, [.sipush 0, .ireturn]),
  (20, [.aload 0, .checkcast 655, .sipush 3, .iload 1, .imul, .aload 0, .getfield 650, .iastore, .aload 0, .invokeinterface 174 1, .aload 0, .sipush 0, .putfield 652, .aload 0, .sipush 9, .invokeinterface 180 2, .ifCond .eq 59, .aload 0, .invokeinterface 181 1, .ifCond .ne 59, .sipush 0, .ireturn]),
  (59, [.aload 0, .getfield 650, .sipush 6, .sipush 8, .invokeinterface 172 3, .ifCond .ne 75, .sipush 0, .ireturn]),
  (75, [.aload 0, .checkcast 655, .sipush 3, .iload 1, .imul, .sipush 1, .iadd, .aload 0, .getfield 650, .sipush 6, .isub, .iastore, .aload 0, .checkcast 655, .sipush 3, .iload 1, .imul, .sipush 2, .iadd, .aload 0, .getfield 653, .iastore, .aload 0, .invokeinterface 174 1, .aload 0, .sipush 259, .invokeinterface 180 2, .ireturn])]
/-- M.takes -/
def g_c180 : List (Nat × List Instr) := [(0, [.aload 0, .getfield 650, .iload 1, .if_icmp .ne 12, .sipush 1, .goto 13]),
  (12, [.sipush 0, .jsr 13]),
  (13, [.istore 2, .iload 2, .ifCond .eq 22, .aload 0, .invokeinterface 174 1, .jsr 22]),
  (22, [.iload 2, .ireturn])]
/-- M.readsCondition -/
def g_c181 : List (Nat × List Instr) := [(0, [.aload 0, .invokeinterface 182 1, .istore 1, .jsr 5]),
  (5, [.iload 1, .ifCond .eq 37, .aload 0, .sipush 12, .invokeinterface 180 2, .ifCond .eq 37, .aload 0, .invokeinterface 182 1, .istore 1, .iload 1, .ifCond .eq 5, .aload 0, .sipush 10014, .invokeinterface 187 2, .goto 5]),
  (37, [.iload 1, .ireturn])]
/-- M.readsAll -/
def g_c182 : List (Nat × List Instr) := [(0, [.aload 0, .invokeinterface 183 1, .istore 1, .jsr 5]),
  (5, [.iload 1, .ifCond .eq 37, .aload 0, .sipush 11, .invokeinterface 180 2, .ifCond .eq 37, .aload 0, .invokeinterface 183 1, .istore 1, .iload 1, .ifCond .eq 5, .aload 0, .sipush 10013, .invokeinterface 187 2, .goto 5]),
  (37, [.iload 1, .ireturn])]
/-- M.readsOne -/
def g_c183 : List (Nat × List Instr) := [(0, [.sipush 0, .istore 1, .jsr 2]),
  (2, [.aload 0, .sipush 10, .invokeinterface 180 2, .ifCond .eq 17, .iinc 1 1, .goto 2]),
  (17, [.aload 0, .getfield 650, .sipush 240, .if_icmp .ne 34, .aload 0, .invokeinterface 184 1, .goto 38]),
  (34, [.aload 0, .invokeinterface 185 1, .jsr 38]),
  (38, [.istore 2, .sipush 0, .istore 3, .jsr 41]),
  (41, [.iload 3, .iload 1, .if_icmp .ge 63, .iload 2, .ifCond .eq 63, .aload 0, .sipush 10015, .invokeinterface 187 2, .iinc 3 1, .goto 41]),
  (63, [.iload 2, .ireturn])]
/-- M.readsWithin -/
def g_c184 : List (Nat × List Instr) := [(0, [.aload 0, .getfield 652, .sipush 3, .if_icmp .ne 10, .sipush 0, .ireturn]),
  (10, [.aload 0, .dup, .getfield 652, .sipush 1, .iadd, .putfield 652, .aload 0, .invokeinterface 174 1, .aload 0, .invokeinterface 181 1, .ifCond .eq 41, .aload 0, .sipush 241, .invokeinterface 180 2, .ifCond .ne 43, .jsr 41]),
  (41, [.sipush 0, .ireturn]),
  (43, [.aload 0, .dup, .getfield 652, .sipush 1, .isub, .putfield 652, .sipush 1, .ireturn])]
/-- M.readsLike -/
def g_c185 : List (Nat × List Instr) := [(0, [.aload 0, .invokeinterface 186 1, .ifCond .ne 9, .sipush 0, .ireturn]),
  (9, [.aload 0, .getfield 650, .sipush 260, .if_icmp .ne 25, .sipush 10010, .goto 58]),
  (25, [.aload 0, .getfield 650, .sipush 261, .if_icmp .ne 41, .sipush 10011, .goto 58]),
  (41, [.aload 0, .getfield 650, .sipush 262, .if_icmp .ne 57, .sipush 10012, .goto 58]),
  (57, [.sipush 0, .jsr 58]),
  (58, [.istore 1, .iload 1, .ifCond .ne 65, .sipush 0, .ireturn]),
  (65, [.aload 0, .invokeinterface 174 1, .aload 0, .invokeinterface 186 1, .ifCond .ne 78, .sipush 0, .ireturn]),
  (78, [.aload 0, .iload 1, .invokeinterface 187 2, .sipush 1, .ireturn])]
/-- M.readsValue -/
def g_c186 : List (Nat × List Instr) := [(0, [.aload 0, .getfield 650, .sipush 100, .if_icmp .eq 23, .aload 0, .getfield 650, .sipush 13, .sipush 17, .invokeinterface 172 3, .ifCond .eq 27, .jsr 23]),
  (23, [.sipush 1, .goto 28]),
  (27, [.sipush 0, .jsr 28]),
  (28, [.istore 1, .iload 1, .ifCond .eq 68, .aload 0, .aload 0, .getfield 650, .sipush 100, .if_icmp .ne 50, .aload 0, .getfield 651, .goto 61]),
  (50, [.sipush 10000, .aload 0, .getfield 650, .iadd, .sipush 13, .isub, .jsr 61]),
  (61, [.invokeinterface 187 2, .aload 0, .invokeinterface 174 1, .jsr 68]),
  (68, [.iload 1, .ireturn])]
/-- M.lays -/
def g_c187 : List (Nat × List Instr) := [(0, [.aload 0, .checkcast 654, .aload 0, .getfield 653, .iload 1, .iastore, .aload 0, .dup, .getfield 653, .sipush 1, .iadd, .putfield 653, .return_])]
/-- M.plate -/
def g_c188 : List (Nat × List Instr) := [(0, [.iload 1, .sipush 1, .sipush 5, .invokeinterface 172 3, .ifCond .eq 31, .iload 2, .invokeinterface 189 1, .ifCond .eq 31, .iload 3, .invokeinterface 190 1, .ifCond .eq 31, .iload 4, .invokeinterface 191 1, .ifCond .ne 33, .jsr 31]),
  (31, [.sipush (-1), .ireturn]),
  (33, [.aload 0, .checkcast 640, .sipush 6, .iaload, .sipush 6, .if_icmp .ne 48, .sipush (-2), .ireturn]),
  (48, [.aload 0, .checkcast 640, .sipush 6, .iaload, .istore 5, .aload 0, .iload 5, .sipush 0, .iload 1, .invokeinterface 192 4, .aload 0, .iload 5, .sipush 1, .iload 2, .invokeinterface 192 4, .aload 0, .iload 5, .sipush 2, .iload 3, .invokeinterface 192 4, .aload 0, .iload 5, .sipush 3, .iload 4, .invokeinterface 192 4, .aload 0, .iload 5, .sipush 4, .sipush 0, .invokeinterface 192 4, .aload 0, .checkcast 640, .sipush 6, .dup2, .iaload, .sipush 1, .iadd, .iastore, .iload 5, .ireturn])]
/-- M.isFirst -/
def g_c189 : List (Nat × List Instr) := [(0, [.iload 0, .sipush 0, .sipush 39, .invokeinterface 172 3, .ireturn])]
/-- M.isDigit -/
def g_c190 : List (Nat × List Instr) := [(0, [.iload 0, .sipush 0, .sipush 9, .invokeinterface 172 3, .ireturn])]
/-- M.isHome -/
def g_c191 : List (Nat × List Instr) := [(0, [.iload 0, .sipush 0, .sipush 5, .invokeinterface 172 3, .ireturn])]
/-- M.puts -/
def g_c192 : List (Nat × List Instr) := [(0, [.aload 0, .checkcast 640, .sipush 38, .sipush 6, .iload 1, .imul, .iadd, .iload 2, .iadd, .iload 3, .iastore, .return_])]
/-- M.plateOf -/
def g_c193 : List (Nat × List Instr) := [(0, [.aload 0, .iload 1, .invokeinterface 194 2, .ifCond .eq 18, .iload 2, .sipush 0, .sipush 8, .invokeinterface 172 3, .ifCond .ne 20, .jsr 18]),
  (18, [.sipush (-1), .ireturn]),
  (20, [.iload 2, .lookupswitch 84 #[(5, 52), (6, 58), (7, 64), (8, 78)]]),
  (52, [.aload 0, .iload 1, .invokeinterface 195 2, .ireturn]),
  (58, [.aload 0, .iload 1, .invokeinterface 198 2, .ireturn]),
  (64, [.aload 0, .iload 1, .invokeinterface 199 2, .ifCond .eq 76, .sipush 1, .goto 77]),
  (76, [.sipush 0, .jsr 77]),
  (77, [.ireturn]),
  (78, [.aload 0, .iload 1, .invokeinterface 200 2, .ireturn]),
  (84, [.aload 0, .iload 1, .iload 2, .invokeinterface 196 3, .ireturn])]
/-- M.isPiece -/
def g_c194 : List (Nat × List Instr) := [(0, [.iload 1, .sipush 0, .aload 0, .checkcast 640, .sipush 6, .iaload, .sipush 1, .isub, .invokeinterface 172 3, .ireturn])]
/-- M.spansOf -/
def g_c195 : List (Nat × List Instr) := [(0, [.aload 0, .iload 1, .sipush 0, .invokeinterface 196 3, .aload 0, .iload 1, .sipush 2, .invokeinterface 196 3, .aload 0, .checkcast 640, .sipush 0, .iaload, .invokeinterface 197 3, .ireturn])]
/-- M.get -/
def g_c196 : List (Nat × List Instr) := [(0, [.aload 0, .checkcast 640, .sipush 38, .sipush 6, .iload 1, .imul, .iadd, .iload 2, .iadd, .iaload, .ireturn])]
/-- M.spansBy -/
def g_c197 : List (Nat × List Instr) := [(0, [.sipush 1, .iload 1, .sipush 2, .idiv, .iadd, .istore 3, .iload 3, .sipush 2, .if_icmp .le 15, .sipush 2, .goto 16]),
  (15, [.iload 3, .jsr 16]),
  (16, [.istore 4, .iload 0, .lookupswitch 91 #[(1, 52), (2, 56), (3, 60), (4, 75), (5, 78)]]),
  (52, [.sipush 2, .iload 3, .imul, .ireturn]),
  (56, [.iload 3, .sipush 2, .iadd, .ireturn]),
  (60, [.iload 2, .sipush 2, .irem, .sipush 1, .if_icmp .ne 71, .sipush 1, .goto 74]),
  (71, [.iload 3, .sipush 2, .iadd, .jsr 74]),
  (74, [.ireturn]),
  (75, [.iload 4, .ireturn]),
  (78, [.iload 2, .sipush 3, .irem, .ifCond .ne 88, .sipush 0, .goto 90]),
  (88, [.iload 4, .jsr 90]),
  (90, [.ireturn]),
  (91, [.iload 3, .ireturn])]
/-- M.grudgeOf -/
def g_c198 : List (Nat × List Instr) := [(0, [.aload 0, .checkcast 640, .sipush 26, .aload 0, .iload 1, .sipush 3, .invokeinterface 196 3, .iadd, .iaload, .istore 2, .aload 0, .iload 1, .sipush 0, .invokeinterface 196 3, .lookupswitch 91 #[(1, 56), (2, 60), (3, 64), (4, 81), (5, 85)]]),
  (56, [.iload 2, .sipush 2, .iadd, .ireturn]),
  (60, [.iload 2, .iload 1, .iadd, .ireturn]),
  (64, [.iload 2, .iload 1, .iadd, .sipush 3, .if_icmp .ge 75, .sipush 0, .goto 80]),
  (75, [.iload 2, .iload 1, .iadd, .sipush 3, .isub, .jsr 80]),
  (80, [.ireturn]),
  (81, [.iload 2, .sipush 2, .idiv, .ireturn]),
  (85, [.iload 2, .sipush 2, .idiv, .sipush 2, .imul, .ireturn]),
  (91, [.iload 2, .ireturn])]
/-- M.wouldSit -/
def g_c199 : List (Nat × List Instr) := [(0, [.aload 0, .iload 1, .sipush 4, .invokeinterface 196 3, .ifCond .ne 42, .aload 0, .iload 1, .invokeinterface 198 2, .aload 0, .checkcast 640, .sipush 3, .iaload, .aload 0, .checkcast 640, .sipush 32, .aload 0, .iload 1, .sipush 3, .invokeinterface 196 3, .iadd, .iaload, .iadd, .if_icmp .gt 42, .sipush 1, .goto 43]),
  (42, [.sipush 0, .jsr 43]),
  (43, [.ireturn])]
/-- M.willOf -/
def g_c200 : List (Nat × List Instr) := [(0, [.sipush 0, .istore 2, .jsr 2]),
  (2, [.iload 2, .aload 0, .checkcast 640, .sipush 7, .iaload, .if_icmp .ge 53, .aload 0, .iload 1, .sipush 0, .invokeinterface 196 3, .aload 0, .iload 2, .sipush 0, .invokeinterface 201 3, .invokeinterface 202 2, .ifCond .eq 47, .aload 0, .iload 2, .iload 1, .invokeinterface 204 3, .ifCond .eq 47, .aload 0, .iload 2, .sipush 1, .invokeinterface 201 3, .ireturn]),
  (47, [.iinc 2 1, .goto 2]),
  (53, [.sipush 0, .ireturn])]
/-- M.ruleOf -/
def g_c201 : List (Nat × List Instr) := [(0, [.aload 0, .checkcast 640, .sipush 98, .sipush 3, .iload 1, .imul, .iadd, .iload 2, .iadd, .iaload, .ireturn])]
/-- M.isUnder -/
def g_c202 : List (Nat × List Instr) := [(0, [.iload 0, .istore 2, .jsr 2]),
  (2, [.iload 2, .iload 1, .if_icmp .eq 19, .iload 2, .ifCond .eq 19, .iload 2, .invokeinterface 203 1, .istore 2, .goto 2]),
  (19, [.iload 2, .iload 1, .if_icmp .ne 28, .sipush 1, .goto 29]),
  (28, [.sipush 0, .jsr 29]),
  (29, [.ireturn])]
/-- M.above -/
def g_c203 : List (Nat × List Instr) := [(0, [.iload 0, .sipush 3, .if_icmp .ne 9, .sipush 2, .goto 19]),
  (9, [.iload 0, .sipush 5, .if_icmp .ne 18, .sipush 4, .goto 19]),
  (18, [.sipush 0, .jsr 19]),
  (19, [.ireturn])]
/-- M.holdsFor -/
def g_c204 : List (Nat × List Instr) := [(0, [.sipush 0, .istore 3, .iload 1, .ifCond .ne 10, .sipush 0, .goto 18]),
  (10, [.aload 0, .iload 1, .sipush 1, .isub, .sipush 2, .invokeinterface 201 3, .jsr 18]),
  (18, [.istore 4, .jsr 20]),
  (20, [.iload 4, .aload 0, .iload 1, .sipush 2, .invokeinterface 201 3, .if_icmp .ge 152, .aload 0, .checkcast 640, .sipush 122, .iload 4, .iadd, .iaload, .istore 5, .iload 5, .sipush 10010, .if_icmp .ge 87, .aload 0, .checkcast 644, .iload 3, .iload 5, .sipush 10000, .if_icmp .ge 69, .iload 5, .goto 80]),
  (69, [.aload 0, .iload 5, .sipush 10000, .isub, .iload 2, .invokeinterface 205 3, .jsr 80]),
  (80, [.iastore, .iinc 3 1, .goto 146]),
  (87, [.iload 5, .sipush 10015, .if_icmp .ne 116, .aload 0, .checkcast 644, .iload 3, .sipush 1, .isub, .sipush 1, .aload 0, .checkcast 644, .iload 3, .sipush 1, .isub, .iaload, .isub, .iastore, .goto 146]),
  (116, [.iinc 3 (-1), .aload 0, .checkcast 644, .iload 3, .sipush 1, .isub, .iload 5, .aload 0, .checkcast 644, .iload 3, .sipush 1, .isub, .iaload, .aload 0, .checkcast 644, .iload 3, .iaload, .invokeinterface 206 3, .iastore, .jsr 146]),
  (146, [.iinc 4 1, .goto 20]),
  (152, [.iload 3, .ifCond .eq 165, .aload 0, .checkcast 644, .sipush 0, .iaload, .ifCond .eq 169, .jsr 165]),
  (165, [.sipush 1, .goto 170]),
  (169, [.sipush 0, .jsr 170]),
  (170, [.ireturn])]
/-- M.knownOf -/
def g_c205 : List (Nat × List Instr) := [(0, [.iload 1, .ifCond .ne 13, .aload 0, .checkcast 640, .sipush 0, .iaload, .goto 55]),
  (13, [.iload 1, .sipush 1, .if_icmp .ne 27, .aload 0, .iload 2, .sipush 2, .invokeinterface 196 3, .goto 55]),
  (27, [.iload 1, .sipush 2, .if_icmp .ne 40, .aload 0, .iload 2, .invokeinterface 198 2, .goto 55]),
  (40, [.iload 1, .sipush 3, .if_icmp .ne 54, .aload 0, .checkcast 640, .sipush 3, .iaload, .goto 55]),
  (54, [.iload 2, .jsr 55]),
  (55, [.ireturn])]
/-- M.joined -/
def g_c206 : List (Nat × List Instr) := [(0, [.iload 0, .lookupswitch 79 #[(10010, 32), (10011, 43), (10012, 54), (10013, 65)]]),
  (32, [.iload 1, .iload 2, .if_icmp .ge 41, .sipush 1, .goto 42]),
  (41, [.sipush 0, .jsr 42]),
  (42, [.ireturn]),
  (43, [.iload 1, .iload 2, .if_icmp .ne 52, .sipush 1, .goto 53]),
  (52, [.sipush 0, .jsr 53]),
  (53, [.ireturn]),
  (54, [.iload 1, .iload 2, .if_icmp .le 63, .sipush 1, .goto 64]),
  (63, [.sipush 0, .jsr 64]),
  (64, [.ireturn]),
  (65, [.iload 1, .ifCond .eq 77, .iload 2, .ifCond .eq 77, .sipush 1, .goto 78]),
  (77, [.sipush 0, .jsr 78]),
  (78, [.ireturn]),
  (79, [.iload 1, .ifCond .ne 87, .iload 2, .ifCond .eq 91, .jsr 87]),
  (87, [.sipush 1, .goto 92]),
  (91, [.sipush 0, .jsr 92]),
  (92, [.ireturn])]
/-- M.change -/
def g_c207 : List (Nat × List Instr) := [(0, [.iload 2, .sipush 1, .if_icmp .ne 10, .sipush 39, .goto 30]),
  (10, [.iload 2, .sipush 3, .if_icmp .ne 19, .sipush 5, .goto 30]),
  (19, [.iload 2, .sipush 4, .if_icmp .ne 28, .sipush 1, .goto 30]),
  (28, [.sipush 9, .jsr 30]),
  (30, [.istore 4, .aload 0, .iload 1, .invokeinterface 194 2, .ifCond .eq 76, .iload 2, .sipush 1, .sipush 4, .invokeinterface 172 3, .ifCond .eq 76, .iload 3, .sipush 0, .iload 4, .invokeinterface 172 3, .ifCond .eq 76, .aload 0, .sipush 38, .sipush 6, .iload 1, .imul, .iadd, .iload 2, .iadd, .iload 3, .invokeinterface 208 3, .goto 77]),
  (76, [.sipush (-1), .jsr 77]),
  (77, [.ireturn])]
/-- M.becomes -/
def g_c208 : List (Nat × List Instr) := [(0, [.aload 0, .checkcast 640, .iload 1, .iaload, .istore 3, .aload 0, .checkcast 640, .iload 1, .iload 2, .iastore, .iload 3, .ireturn])]
/-- M.remake -/
def g_c209 : List (Nat × List Instr) := [(0, [.aload 0, .iload 1, .invokeinterface 194 2, .ifCond .eq 32, .iload 2, .sipush 1, .sipush 5, .invokeinterface 172 3, .ifCond .eq 32, .aload 0, .sipush 38, .sipush 6, .iload 1, .imul, .iadd, .iload 2, .invokeinterface 208 3, .goto 33]),
  (32, [.sipush (-1), .jsr 33]),
  (33, [.ireturn])]
/-- M.news -/
def g_c210 : List (Nat × List Instr) := [(0, [.iload 1, .sipush 0, .sipush 15, .invokeinterface 172 3, .ifCond .eq 32, .iload 2, .sipush 0, .sipush 15, .invokeinterface 172 3, .ifCond .eq 32, .aload 0, .sipush 10, .iload 1, .iadd, .iload 2, .invokeinterface 208 3, .goto 33]),
  (32, [.sipush (-1), .jsr 33]),
  (33, [.ireturn])]
/-- M.home -/
def g_c211 : List (Nat × List Instr) := [(0, [.iload 1, .invokeinterface 191 1, .ifCond .eq 44, .iload 2, .sipush 0, .sipush 1, .invokeinterface 172 3, .ifCond .eq 44, .iload 3, .invokeinterface 190 1, .ifCond .eq 44, .aload 0, .iload 2, .ifCond .ne 33, .sipush 26, .goto 35]),
  (33, [.sipush 32, .jsr 35]),
  (35, [.iload 1, .iadd, .iload 3, .invokeinterface 208 3, .goto 45]),
  (44, [.sipush (-1), .jsr 45]),
  (45, [.ireturn])]
/-- M.homeOf -/
def g_c212 : List (Nat × List Instr) := [(0, [.iload 1, .invokeinterface 191 1, .ifCond .eq 37, .iload 2, .sipush 0, .sipush 1, .invokeinterface 172 3, .ifCond .eq 37, .aload 0, .checkcast 640, .iload 2, .ifCond .ne 29, .sipush 26, .goto 31]),
  (29, [.sipush 32, .jsr 31]),
  (31, [.iload 1, .iadd, .iaload, .goto 38]),
  (37, [.sipush (-1), .jsr 38]),
  (38, [.ireturn])]
/-- M.family -/
def g_c213 : List (Nat × List Instr) := [(0, [.iload 1, .sipush 0, .sipush 1, .invokeinterface 172 3, .ifCond .eq 39, .iload 2, .sipush 0, .iload 1, .ifCond .ne 20, .sipush 9, .goto 22]),
  (20, [.sipush 40, .jsr 22]),
  (22, [.invokeinterface 172 3, .ifCond .eq 39, .aload 0, .sipush 3, .iload 1, .iadd, .iload 2, .invokeinterface 208 3, .goto 40]),
  (39, [.sipush (-1), .jsr 40]),
  (40, [.ireturn])]
/-- M.ends -/
def g_c214 : List (Nat × List Instr) := [(0, [.iload 1, .sipush 1, .sipush 16, .invokeinterface 172 3, .ifCond .ne 14, .sipush (-1), .goto 35]),
  (14, [.iload 1, .aload 0, .checkcast 640, .sipush 0, .iaload, .if_icmp .ge 29, .sipush (-4), .goto 35]),
  (29, [.aload 0, .sipush 1, .iload 1, .invokeinterface 208 3, .jsr 35]),
  (35, [.ireturn])]
/-- M.anew -/
def g_c215 : List (Nat × List Instr) := [(0, [.aload 0, .checkcast 640, .sipush 2, .sipush 0, .iastore, .aload 0, .checkcast 640, .sipush 3, .sipush 5, .iastore, .aload 0, .checkcast 640, .sipush 4, .sipush 0, .iastore, .sipush 0, .istore 1, .jsr 23]),
  (23, [.iload 1, .aload 0, .checkcast 640, .sipush 6, .iaload, .if_icmp .ge 47, .aload 0, .iload 1, .sipush 4, .sipush 0, .invokeinterface 192 4, .iinc 1 1, .goto 23]),
  (47, [.aload 0, .sipush 0, .sipush 0, .invokeinterface 208 3, .ireturn])]
/-- M.state -/
def g_c216 : List (Nat × List Instr) := [(0, [.iload 1, .lookupswitch 132 #[(0, 48), (1, 55), (2, 62), (3, 69), (4, 82), (5, 88), (6, 118), (7, 125)]]),
  (48, [.aload 0, .checkcast 640, .sipush 0, .iaload, .ireturn]),
  (55, [.aload 0, .checkcast 640, .sipush 1, .iaload, .ireturn]),
  (62, [.aload 0, .checkcast 640, .sipush 2, .iaload, .ireturn]),
  (69, [.aload 0, .invokeinterface 217 1, .ifCond .eq 80, .sipush 1, .goto 81]),
  (80, [.sipush 0, .jsr 81]),
  (81, [.ireturn]),
  (82, [.aload 0, .sipush 4, .invokeinterface 218 2, .ireturn]),
  (88, [.aload 0, .checkcast 640, .sipush 0, .iaload, .sipush 16, .if_icmp .ge 116, .aload 0, .checkcast 640, .sipush 10, .aload 0, .checkcast 640, .sipush 0, .iaload, .iadd, .iaload, .goto 117]),
  (116, [.sipush 0, .jsr 117]),
  (117, [.ireturn]),
  (118, [.aload 0, .checkcast 640, .sipush 3, .iaload, .ireturn]),
  (125, [.aload 0, .checkcast 640, .sipush 4, .iaload, .ireturn]),
  (132, [.sipush (-1), .ireturn])]
/-- M.isOver -/
def g_c217 : List (Nat × List Instr) := [(0, [.aload 0, .checkcast 640, .sipush 0, .iaload, .aload 0, .checkcast 640, .sipush 1, .iaload, .if_icmp .lt 19, .sipush 1, .goto 20]),
  (19, [.sipush 0, .jsr 20]),
  (20, [.ireturn])]
/-- M.those -/
def g_c218 : List (Nat × List Instr) := [(0, [.sipush 0, .istore 2, .sipush 0, .istore 3, .jsr 4]),
  (4, [.iload 3, .aload 0, .checkcast 640, .sipush 6, .iaload, .if_icmp .ge 40, .iload 2, .aload 0, .iload 3, .iload 1, .invokeinterface 196 3, .ifCond .le 31, .sipush 1, .iload 3, .ishl, .goto 32]),
  (31, [.sipush 0, .jsr 32]),
  (32, [.ior, .istore 2, .iinc 3 1, .goto 4]),
  (40, [.iload 2, .ireturn])]
/-- M.year -/
def g_c219 : List (Nat × List Instr) := [(0, [.aload 0, .invokeinterface 217 1, .ifCond .eq 12, .sipush (-4), .goto 17]),
  (12, [.aload 0, .sipush (-1), .invokeinterface 220 2, .jsr 17]),
  (17, [.ireturn])]
/-- M.goesBy -/
def g_c220 : List (Nat × List Instr) := [(0, [.aload 0, .checkcast 640, .sipush 3, .aload 0, .checkcast 640, .sipush 0, .iaload, .sipush 16, .if_icmp .ge 42, .aload 0, .checkcast 640, .sipush 3, .iaload, .aload 0, .checkcast 640, .sipush 10, .aload 0, .checkcast 640, .sipush 0, .iaload, .iadd, .iaload, .invokeinterface 221 2, .goto 48]),
  (42, [.aload 0, .checkcast 640, .sipush 3, .iaload, .jsr 48]),
  (48, [.iastore, .iload 1, .ifCond .ge 60, .aload 0, .invokeinterface 223 1, .goto 63]),
  (60, [.iload 1, .sipush 1, .isub, .jsr 63]),
  (63, [.istore 2, .iload 2, .ifCond .lt 76, .aload 0, .iload 2, .invokeinterface 224 2, .goto 77]),
  (76, [.sipush 0, .jsr 77]),
  (77, [.istore 3, .iload 3, .aload 0, .invokeinterface 226 1, .iadd, .istore 3, .aload 0, .checkcast 640, .sipush 0, .dup2, .iaload, .sipush 1, .iadd, .iastore, .aload 0, .checkcast 640, .sipush 2, .dup2, .iaload, .iload 3, .iadd, .iastore, .iload 3, .ireturn])]
/-- M.moodBy -/
def g_c221 : List (Nat × List Instr) := [(0, [.iload 1, .sipush 4, .idiv, .istore 2, .iload 0, .sipush 5, .if_icmp .ge 15, .sipush 5, .iload 0, .isub, .goto 18]),
  (15, [.iload 0, .sipush 5, .isub, .jsr 18]),
  (18, [.istore 3, .iload 3, .iload 2, .if_icmp .ge 28, .iload 3, .goto 29]),
  (28, [.iload 2, .jsr 29]),
  (29, [.istore 4, .iload 1, .sipush 4, .irem, .lookupswitch 95 #[(0, 60), (1, 69), (2, 78)]]),
  (60, [.iload 0, .iload 2, .iadd, .sipush 9, .invokeinterface 222 2, .ireturn]),
  (69, [.iload 0, .iload 2, .isub, .sipush 9, .invokeinterface 222 2, .ireturn]),
  (78, [.iload 0, .sipush 5, .if_icmp .ge 90, .iload 0, .iload 4, .iadd, .goto 94]),
  (90, [.iload 0, .iload 4, .isub, .jsr 94]),
  (94, [.ireturn]),
  (95, [.iload 0, .ireturn])]
/-- M.held -/
def g_c222 : List (Nat × List Instr) := [(0, [.iload 0, .ifCond .ge 8, .sipush 0, .goto 18]),
  (8, [.iload 0, .iload 1, .if_icmp .le 17, .iload 1, .goto 18]),
  (17, [.iload 0, .jsr 18]),
  (18, [.ireturn])]
/-- M.restOne -/
def g_c223 : List (Nat × List Instr) := [(0, [.sipush 0, .istore 1, .jsr 2]),
  (2, [.iload 1, .aload 0, .checkcast 640, .sipush 6, .iaload, .if_icmp .ge 29, .aload 0, .iload 1, .invokeinterface 199 2, .ifCond .eq 23, .iload 1, .ireturn]),
  (23, [.iinc 1 1, .goto 2]),
  (29, [.sipush (-1), .ireturn])]
/-- M.meets -/
def g_c224 : List (Nat × List Instr) := [(0, [.aload 0, .iload 1, .invokeinterface 200 2, .istore 2, .iload 2, .ifCond .ne 16, .aload 0, .iload 1, .invokeinterface 225 2, .ireturn]),
  (16, [.iload 2, .sipush 2, .if_icmp .ne 57, .aload 0, .iload 1, .sipush 4, .invokeinterface 196 3, .sipush 1, .if_icmp .ne 57, .aload 0, .iload 1, .sipush 4, .sipush 0, .invokeinterface 192 4, .aload 0, .checkcast 640, .sipush 3, .aload 0, .checkcast 640, .sipush 3, .iaload, .sipush 1, .iadd, .sipush 9, .invokeinterface 222 2, .iastore, .jsr 57]),
  (57, [.sipush 0, .ireturn])]
/-- M.sits -/
def g_c225 : List (Nat × List Instr) := [(0, [.aload 0, .iload 1, .sipush 4, .invokeinterface 196 3, .sipush 1, .if_icmp .ne 12, .sipush 0, .ireturn]),
  (12, [.aload 0, .iload 1, .invokeinterface 199 2, .istore 2, .aload 0, .checkcast 640, .sipush 3, .aload 0, .checkcast 640, .sipush 3, .iaload, .iload 2, .ifCond .eq 43, .aload 0, .iload 1, .invokeinterface 198 2, .sipush 3, .idiv, .goto 44]),
  (43, [.sipush 1, .jsr 44]),
  (44, [.isub, .sipush 9, .invokeinterface 222 2, .iastore, .aload 0, .iload 1, .sipush 4, .iload 2, .ifCond .eq 62, .sipush 1, .goto 63]),
  (62, [.sipush 0, .jsr 63]),
  (63, [.invokeinterface 192 4, .iload 2, .ifCond .eq 74, .sipush 1, .goto 75]),
  (74, [.sipush 0, .jsr 75]),
  (75, [.ireturn])]
/-- M.walksOn -/
def g_c226 : List (Nat × List Instr) := [(0, [.aload 0, .checkcast 640, .sipush 3, .iaload, .sipush 1, .iadd, .istore 1, .sipush 0, .istore 2, .jsr 11]),
  (11, [.iload 2, .iload 1, .if_icmp .ge 56, .aload 0, .checkcast 640, .sipush 4, .iaload, .sipush 40, .if_icmp .ge 56, .aload 0, .aload 0, .checkcast 640, .sipush 4, .iaload, .invokeinterface 227 2, .ifCond .eq 56, .aload 0, .checkcast 640, .sipush 4, .dup2, .iaload, .sipush 1, .iadd, .iastore, .iinc 2 1, .goto 11]),
  (56, [.sipush 2, .iload 2, .imul, .ireturn])]
/-- M.isThere -/
def g_c227 : List (Nat × List Instr) := [(0, [.sipush 0, .istore 2, .sipush 0, .istore 3, .jsr 4]),
  (4, [.iload 3, .aload 0, .checkcast 640, .sipush 6, .iaload, .if_icmp .ge 50, .iload 2, .ifCond .ne 38, .aload 0, .iload 3, .sipush 4, .invokeinterface 196 3, .sipush 1, .if_icmp .ne 42, .aload 0, .iload 3, .iload 1, .invokeinterface 228 3, .ifCond .eq 42, .jsr 38]),
  (38, [.sipush 1, .goto 43]),
  (42, [.sipush 0, .jsr 43]),
  (43, [.istore 2, .iinc 3 1, .goto 4]),
  (50, [.iload 2, .ireturn])]
/-- M.isSpanned -/
def g_c228 : List (Nat × List Instr) := [(0, [.iload 2, .aload 0, .iload 1, .sipush 1, .invokeinterface 196 3, .aload 0, .iload 1, .sipush 1, .invokeinterface 196 3, .aload 0, .iload 1, .invokeinterface 195 2, .iadd, .sipush 1, .isub, .invokeinterface 172 3, .ireturn])]
/-- M.on -/
def g_c229 : List (Nat × List Instr) := [(0, [.iload 1, .sipush 0, .sipush 16, .invokeinterface 172 3, .ifCond .ne 12, .sipush (-1), .ireturn]),
  (12, [.aload 0, .invokeinterface 230 1, .aload 0, .iload 1, .invokeinterface 231 2, .istore 2, .aload 0, .invokeinterface 232 1, .iload 2, .ireturn])]
/-- M.layDown -/
def g_c230 : List (Nat × List Instr) := [(0, [.sipush 0, .istore 1, .jsr 2]),
  (2, [.iload 1, .sipush 74, .if_icmp .ge 26, .aload 0, .checkcast 642, .iload 1, .aload 0, .checkcast 640, .iload 1, .iaload, .iastore, .iinc 1 1, .goto 2]),
  (26, [.return_])]
/-- M.restOf -/
def g_c231 : List (Nat × List Instr) := [(0, [.sipush 0, .istore 2, .sipush 0, .istore 3, .jsr 4]),
  (4, [.iload 3, .iload 1, .if_icmp .ge 30, .aload 0, .invokeinterface 217 1, .ifCond .ne 30, .iload 2, .aload 0, .sipush (-1), .invokeinterface 220 2, .iadd, .istore 2, .iinc 3 1, .goto 4]),
  (30, [.iload 2, .ireturn])]
/-- M.layBack -/
def g_c232 : List (Nat × List Instr) := [(0, [.sipush 0, .istore 1, .jsr 2]),
  (2, [.iload 1, .sipush 74, .if_icmp .ge 26, .aload 0, .checkcast 640, .iload 1, .aload 0, .checkcast 642, .iload 1, .iaload, .iastore, .iinc 1 1, .goto 2]),
  (26, [.return_])]
/-- M.when -/
def g_c233 : List (Nat × List Instr) := [(0, [.aload 0, .iload 1, .invokeinterface 194 2, .ifCond .ne 10, .sipush (-1), .ireturn]),
  (10, [.aload 0, .invokeinterface 230 1, .sipush (-3), .istore 2, .aload 0, .iload 1, .sipush 4, .invokeinterface 196 3, .ifCond .ne 30, .sipush 1, .goto 31]),
  (30, [.sipush 0, .jsr 31]),
  (31, [.istore 3, .jsr 32]),
  (32, [.iload 3, .ifCond .eq 91, .aload 0, .invokeinterface 217 1, .ifCond .ne 91, .aload 0, .sipush (-1), .invokeinterface 220 2, .istore 4, .aload 0, .iload 1, .sipush 4, .invokeinterface 196 3, .ifCond .ne 63, .sipush 1, .goto 64]),
  (63, [.sipush 0, .jsr 64]),
  (64, [.istore 3, .iload 3, .ifCond .ne 74, .iload 4, .ifCond .ge 79, .jsr 74]),
  (74, [.sipush (-3), .goto 87]),
  (79, [.aload 0, .checkcast 640, .sipush 0, .iaload, .sipush 1, .isub, .jsr 87]),
  (87, [.istore 2, .goto 32]),
  (91, [.aload 0, .invokeinterface 232 1, .iload 2, .ireturn])]
/-- M.widthFor -/
def g_c234 : List (Nat × List Instr) := [(0, [.aload 0, .iload 1, .sipush 2, .sipush 9, .invokeinterface 235 4, .ireturn])]
/-- M.bestFor -/
def g_c235 : List (Nat × List Instr) := [(0, [.aload 0, .iload 1, .invokeinterface 194 2, .ifCond .ne 10, .sipush (-1), .ireturn]),
  (10, [.sipush 0, .istore 4, .sipush (-1), .istore 5, .aload 0, .invokeinterface 230 1, .sipush 0, .istore 6, .jsr 23]),
  (23, [.iload 6, .iload 3, .if_icmp .gt 87, .aload 0, .iload 1, .iload 2, .iload 6, .invokeinterface 192 4, .aload 0, .sipush 16, .invokeinterface 231 2, .istore 7, .iload 7, .iload 5, .if_icmp .le 57, .iload 6, .goto 59]),
  (57, [.iload 4, .jsr 59]),
  (59, [.istore 4, .iload 7, .iload 5, .if_icmp .le 73, .iload 7, .goto 75]),
  (73, [.iload 5, .jsr 75]),
  (75, [.istore 5, .aload 0, .invokeinterface 232 1, .iinc 6 1, .goto 23]),
  (87, [.iload 4, .ireturn])]
/-- M.pieceFor -/
def g_c236 : List (Nat × List Instr) := [(0, [.aload 0, .iload 1, .sipush 1, .sipush 39, .invokeinterface 235 4, .ireturn])]
/-- M.over -/
def g_c237 : List (Nat × List Instr) := [(0, [.iload 1, .sipush 0, .sipush 40, .invokeinterface 172 3, .ifCond .ne 12, .sipush (-1), .ireturn]),
  (12, [.aload 0, .invokeinterface 230 1, .sipush (-3), .istore 2, .jsr 19]),
  (19, [.iload 2, .sipush (-3), .if_icmp .ne 69, .aload 0, .invokeinterface 217 1, .ifCond .ne 69, .aload 0, .sipush (-1), .invokeinterface 220 2, .istore 3, .aload 0, .checkcast 640, .sipush 4, .iaload, .iload 1, .if_icmp .lt 63, .iload 3, .ifCond .lt 63, .aload 0, .checkcast 640, .sipush 0, .iaload, .sipush 1, .isub, .goto 65]),
  (63, [.sipush (-3), .jsr 65]),
  (65, [.istore 2, .goto 19]),
  (69, [.aload 0, .invokeinterface 232 1, .iload 2, .ireturn])]
/-- M.gap -/
def g_c238 : List (Nat × List Instr) := [(0, [.iload 1, .sipush 0, .sipush 1, .invokeinterface 172 3, .ifCond .ne 11, .sipush (-1), .ireturn]),
  (11, [.sipush 0, .istore 2, .sipush (-3), .istore 3, .sipush 39, .istore 4, .jsr 20]),
  (20, [.iload 4, .ifCond .lt 118, .sipush 0, .istore 5, .sipush 0, .istore 6, .jsr 31]),
  (31, [.iload 6, .aload 0, .checkcast 640, .sipush 6, .iaload, .if_icmp .ge 72, .iload 5, .ifCond .ne 59, .aload 0, .iload 6, .iload 4, .invokeinterface 228 3, .ifCond .eq 63, .jsr 59]),
  (59, [.sipush 1, .goto 64]),
  (63, [.sipush 0, .jsr 64]),
  (64, [.istore 5, .iinc 6 1, .goto 31]),
  (72, [.iload 2, .aload 0, .iload 4, .invokeinterface 227 2, .ifCond .eq 86, .sipush 0, .goto 87]),
  (86, [.sipush 1, .jsr 87]),
  (87, [.iadd, .istore 2, .iload 4, .aload 0, .checkcast 640, .sipush 4, .iaload, .if_icmp .lt 110, .iload 5, .ifCond .ne 110, .iload 4, .goto 111]),
  (110, [.iload 3, .jsr 111]),
  (111, [.istore 3, .iinc 4 (-1), .goto 20]),
  (118, [.iload 1, .ifCond .ne 126, .iload 3, .goto 127]),
  (126, [.iload 2, .jsr 127]),
  (127, [.ireturn])]
/-- M.branches -/
def g_c239 : List (Nat × List Instr) := [(0, [.iload 1, .sipush (-1), .if_icmp .eq 15, .aload 0, .iload 1, .invokeinterface 194 2, .ifCond .ne 15, .sipush (-1), .ireturn]),
  (15, [.iload 1, .ifCond .lt 25, .aload 0, .iload 1, .invokeinterface 240 2, .ireturn]),
  (25, [.sipush 0, .istore 2, .sipush 0, .istore 3, .jsr 29]),
  (29, [.iload 3, .aload 0, .checkcast 640, .sipush 6, .iaload, .if_icmp .ge 75, .aload 0, .iload 3, .invokeinterface 240 2, .istore 4, .iload 2, .iload 4, .ifCond .eq 66, .iload 4, .sipush 1, .iload 3, .ishl, .irem, .ifCond .ne 66, .sipush 1, .goto 67]),
  (66, [.sipush 0, .jsr 67]),
  (67, [.iadd, .istore 2, .iinc 3 1, .goto 29]),
  (75, [.iload 2, .ireturn])]
/-- M.branchOf -/
def g_c240 : List (Nat × List Instr) := [(0, [.sipush 1, .iload 1, .ishl, .istore 2, .sipush 0, .istore 3, .jsr 6]),
  (6, [.iload 3, .aload 0, .checkcast 640, .sipush 6, .iaload, .if_icmp .ge 97, .sipush 0, .istore 4, .jsr 20]),
  (20, [.iload 4, .aload 0, .checkcast 640, .sipush 6, .iaload, .if_icmp .ge 91, .sipush 0, .istore 5, .jsr 35]),
  (35, [.iload 5, .aload 0, .checkcast 640, .sipush 6, .iaload, .if_icmp .ge 85, .iload 2, .iload 2, .iload 4, .ishr, .sipush 1, .iand, .sipush 1, .if_icmp .ne 76, .aload 0, .iload 4, .iload 5, .invokeinterface 241 3, .ifCond .eq 76, .sipush 1, .iload 5, .ishl, .goto 77]),
  (76, [.sipush 0, .jsr 77]),
  (77, [.ior, .istore 2, .iinc 5 1, .goto 35]),
  (85, [.iinc 4 1, .goto 20]),
  (91, [.iinc 3 1, .goto 6]),
  (97, [.aload 0, .iload 1, .sipush 4, .invokeinterface 196 3, .sipush 1, .if_icmp .ne 111, .sipush 0, .goto 112]),
  (111, [.iload 2, .jsr 112]),
  (112, [.ireturn])]
/-- M.areClose -/
def g_c241 : List (Nat × List Instr) := [(0, [.aload 0, .iload 1, .sipush 1, .invokeinterface 196 3, .aload 0, .iload 2, .sipush 1, .invokeinterface 196 3, .isub, .istore 3, .aload 0, .iload 1, .sipush 4, .invokeinterface 196 3, .ifCond .ne 61, .aload 0, .iload 2, .sipush 4, .invokeinterface 196 3, .ifCond .ne 61, .aload 0, .iload 1, .sipush 3, .invokeinterface 196 3, .aload 0, .iload 2, .sipush 3, .invokeinterface 196 3, .if_icmp .eq 57, .iload 3, .sipush (-2), .sipush 2, .invokeinterface 172 3, .ifCond .eq 61, .jsr 57]),
  (57, [.sipush 1, .goto 62]),
  (61, [.sipush 0, .jsr 62]),
  (62, [.ireturn])]
/-- M.fetch -/
def g_c242 : List (Nat × List Instr) := [(0, [.iload 1, .sipush 0, .sipush 40, .invokeinterface 172 3, .ifCond .eq 19, .iload 2, .sipush 0, .sipush 1, .invokeinterface 172 3, .ifCond .ne 21, .jsr 19]),
  (19, [.sipush (-1), .ireturn]),
  (21, [.sipush 1, .aload 0, .checkcast 640, .sipush 6, .iaload, .ishl, .sipush 1, .isub, .aload 0, .sipush 4, .invokeinterface 218 2, .sipush (-1), .ixor, .iand, .istore 3, .aload 0, .sipush (-1), .putfield 656, .aload 0, .iload 3, .iload 1, .sipush 0, .sipush (-1), .invokeinterface 243 5, .iload 2, .ifCond .ne 65, .aload 0, .getfield 656, .goto 78]),
  (65, [.iload 3, .ifCond .ne 74, .sipush (-3), .goto 78]),
  (74, [.aload 0, .getfield 657, .jsr 78]),
  (78, [.ireturn])]
/-- M.goesRound -/
def g_c243 : List (Nat × List Instr) := [(0, [.iload 1, .ifCond .ne 31, .aload 0, .getfield 656, .ifCond .lt 19, .iload 3, .aload 0, .getfield 656, .if_icmp .ge 30, .jsr 19]),
  (19, [.aload 0, .iload 3, .putfield 656, .aload 0, .iload 4, .putfield 657, .jsr 30]),
  (30, [.return_]),
  (31, [.sipush 0, .istore 5, .jsr 34]),
  (34, [.iload 5, .aload 0, .checkcast 640, .sipush 6, .iaload, .if_icmp .ge 131, .iload 1, .iload 5, .ishr, .sipush 1, .iand, .sipush 1, .if_icmp .ne 125, .aload 0, .iload 5, .sipush 1, .invokeinterface 196 3, .iload 2, .if_icmp .ge 79, .iload 2, .aload 0, .iload 5, .sipush 1, .invokeinterface 196 3, .isub, .goto 88]),
  (79, [.aload 0, .iload 5, .sipush 1, .invokeinterface 196 3, .iload 2, .isub, .jsr 88]),
  (88, [.istore 6, .aload 0, .iload 1, .sipush 1, .iload 5, .ishl, .sipush (-1), .ixor, .iand, .aload 0, .iload 5, .sipush 1, .invokeinterface 196 3, .iload 3, .iload 6, .iadd, .iload 4, .ifCond .ge 120, .iload 5, .goto 122]),
  (120, [.iload 4, .jsr 122]),
  (122, [.invokeinterface 243 5, .jsr 125]),
  (125, [.iinc 5 1, .goto 34]),
  (131, [.return_])]
/-- M.best -/
def g_c244 : List (Nat × List Instr) := [(0, [.iload 1, .invokeinterface 245 1, .ifCond .ne 9, .sipush (-1), .ireturn]),
  (9, [.aload 0, .iload 1, .sipush 0, .invokeinterface 246 3, .aload 0, .getfield 661, .ireturn])]
/-- M.isPlan -/
def g_c245 : List (Nat × List Instr) := [(0, [.iload 0, .sipush 0, .sipush 4, .invokeinterface 172 3, .ireturn])]
/-- M.triesAll -/
def g_c246 : List (Nat × List Instr) := [(0, [.aload 0, .sipush (-1), .putfield 661, .aload 0, .sipush 0, .putfield 662, .aload 0, .sipush 5, .putfield 663, .aload 0, .sipush 0, .putfield 664, .aload 0, .sipush 0, .aload 0, .iload 1, .invokeinterface 247 2, .sipush 0, .sipush 0, .iload 2, .invokeinterface 248 6, .return_])]
/-- M.daysOf -/
def g_c247 : List (Nat × List Instr) := [(0, [.aload 0, .invokeinterface 217 1, .ifCond .eq 11, .sipush 0, .goto 24]),
  (11, [.aload 0, .checkcast 640, .sipush 1, .iaload, .aload 0, .checkcast 640, .sipush 0, .iaload, .isub, .jsr 24]),
  (24, [.istore 2, .iload 1, .iload 2, .if_icmp .ge 34, .iload 1, .goto 35]),
  (34, [.iload 2, .jsr 35]),
  (35, [.ireturn])]
/-- M.goesPlans -/
def g_c248 : List (Nat × List Instr) := [(0, [.iload 1, .iload 2, .if_icmp .ne 16, .aload 0, .iload 2, .iload 3, .iload 4, .iload 5, .invokeinterface 249 5, .return_]),
  (16, [.aload 0, .iload 1, .invokeinterface 250 2, .sipush 0, .istore 6, .jsr 24]),
  (24, [.iload 6, .aload 0, .checkcast 640, .sipush 6, .iaload, .if_icmp .gt 91, .aload 0, .checkcast 659, .iload 1, .iload 6, .iastore, .aload 0, .iload 6, .invokeinterface 220 2, .istore 7, .aload 0, .iload 1, .sipush 1, .iadd, .iload 2, .iload 3, .iload 7, .iadd, .iload 6, .ifCond .le 73, .iload 4, .sipush 1, .iadd, .goto 75]),
  (73, [.iload 4, .jsr 75]),
  (75, [.iload 5, .invokeinterface 248 6, .aload 0, .iload 1, .invokeinterface 251 2, .iinc 6 1, .goto 24]),
  (91, [.return_])]
/-- M.endsPlan -/
def g_c249 : List (Nat × List Instr) := [(0, [.iload 2, .aload 0, .getfield 661, .if_icmp .le 47, .aload 0, .sipush 0, .putfield 662, .aload 0, .iload 2, .putfield 661, .sipush 0, .istore 5, .jsr 21]),
  (21, [.iload 5, .iload 1, .if_icmp .ge 47, .aload 0, .checkcast 660, .iload 5, .aload 0, .checkcast 659, .iload 5, .iaload, .iastore, .iinc 5 1, .goto 21]),
  (47, [.aload 0, .dup, .getfield 662, .iload 2, .aload 0, .getfield 661, .if_icmp .ne 64, .sipush 1, .goto 65]),
  (64, [.sipush 0, .jsr 65]),
  (65, [.iadd, .putfield 662, .aload 0, .sipush 4, .invokeinterface 218 2, .istore 5, .aload 0, .iload 4, .iload 5, .sipush (-1), .ixor, .iand, .ifCond .ne 99, .iload 3, .aload 0, .getfield 663, .if_icmp .ge 99, .iload 3, .goto 103]),
  (99, [.aload 0, .getfield 663, .jsr 103]),
  (103, [.putfield 663, .aload 0, .dup, .getfield 664, .iload 5, .ior, .putfield 664, .return_])]
/-- M.saves -/
def g_c250 : List (Nat × List Instr) := [(0, [.sipush 0, .istore 2, .jsr 2]),
  (2, [.iload 2, .sipush 74, .if_icmp .ge 31, .aload 0, .checkcast 658, .sipush 74, .iload 1, .imul, .iload 2, .iadd, .aload 0, .checkcast 640, .iload 2, .iaload, .iastore, .iinc 2 1, .goto 2]),
  (31, [.return_])]
/-- M.restores -/
def g_c251 : List (Nat × List Instr) := [(0, [.sipush 0, .istore 2, .jsr 2]),
  (2, [.iload 2, .sipush 74, .if_icmp .ge 31, .aload 0, .checkcast 640, .iload 2, .aload 0, .checkcast 658, .sipush 74, .iload 1, .imul, .iload 2, .iadd, .iaload, .iastore, .iinc 2 1, .goto 2]),
  (31, [.return_])]
/-- M.ith -/
def g_c252 : List (Nat × List Instr) := [(0, [.iload 1, .invokeinterface 245 1, .ifCond .eq 16, .iload 2, .sipush 0, .sipush 3, .invokeinterface 172 3, .ifCond .ne 18, .jsr 16]),
  (16, [.sipush (-1), .ireturn]),
  (18, [.aload 0, .iload 1, .sipush 0, .invokeinterface 246 3, .iload 2, .aload 0, .iload 1, .invokeinterface 247 2, .if_icmp .ge 42, .aload 0, .checkcast 660, .iload 2, .iaload, .goto 44]),
  (42, [.sipush (-3), .jsr 44]),
  (44, [.ireturn])]
/-- M.ways -/
def g_c253 : List (Nat × List Instr) := [(0, [.iload 1, .invokeinterface 245 1, .ifCond .ne 9, .sipush (-1), .ireturn]),
  (9, [.aload 0, .iload 1, .sipush 0, .invokeinterface 246 3, .aload 0, .getfield 662, .ireturn])]
/-- M.supper -/
def g_c254 : List (Nat × List Instr) := [(0, [.iload 1, .invokeinterface 245 1, .ifCond .eq 15, .aload 0, .iload 2, .invokeinterface 255 2, .ifCond .ne 17, .jsr 15]),
  (15, [.sipush (-1), .ireturn]),
  (17, [.aload 0, .iload 1, .iload 2, .invokeinterface 246 3, .aload 0, .getfield 663, .sipush 4, .if_icmp .le 36, .sipush (-3), .goto 40]),
  (36, [.aload 0, .getfield 663, .jsr 40]),
  (40, [.ireturn])]
/-- M.isSet -/
def g_c255 : List (Nat × List Instr) := [(0, [.iload 1, .sipush 0, .sipush 1, .aload 0, .checkcast 640, .sipush 6, .iaload, .ishl, .sipush 1, .isub, .invokeinterface 172 3, .ireturn])]
/-- M.bars -/
def g_c256 : List (Nat × List Instr) := [(0, [.iload 1, .invokeinterface 245 1, .ifCond .eq 15, .aload 0, .iload 2, .invokeinterface 255 2, .ifCond .ne 17, .jsr 15]),
  (15, [.sipush (-1), .ireturn]),
  (17, [.aload 0, .iload 1, .iload 2, .invokeinterface 246 3, .iload 2, .aload 0, .getfield 664, .sipush (-1), .ixor, .iand, .istore 3, .sipush 0, .istore 4, .jsr 35]),
  (35, [.iload 4, .aload 0, .checkcast 640, .sipush 6, .iaload, .if_icmp .ge 62, .iload 3, .iload 4, .ishr, .sipush 1, .iand, .ifCond .ne 62, .iinc 4 1, .goto 35]),
  (62, [.iload 4, .aload 0, .checkcast 640, .sipush 6, .iaload, .if_icmp .ge 79, .iload 4, .goto 81]),
  (79, [.sipush (-3), .jsr 81]),
  (81, [.ireturn])]
/-- M.game -/
def g_c257 : List (Nat × List Instr) := [(0, [.iload 1, .sipush 1, .sipush 4, .invokeinterface 172 3, .ifCond .eq 22, .aload 0, .sipush 0, .aload 0, .iload 1, .invokeinterface 247 2, .invokeinterface 258 3, .goto 23]),
  (22, [.sipush (-1), .jsr 23]),
  (23, [.ireturn])]
/-- M.playedFrom -/
def g_c258 : List (Nat × List Instr) := [(0, [.iload 1, .iload 2, .if_icmp .ne 7, .sipush 0, .ireturn]),
  (7, [.aload 0, .iload 1, .invokeinterface 250 2, .sipush 0, .istore 3, .sipush (-1), .istore 4, .sipush 0, .istore 5, .jsr 20]),
  (20, [.iload 5, .aload 0, .checkcast 640, .sipush 6, .iaload, .if_icmp .gt 123, .aload 0, .iload 5, .invokeinterface 220 2, .istore 6, .iload 6, .aload 0, .iload 1, .sipush 1, .iadd, .iload 2, .invokeinterface 258 3, .iadd, .istore 7, .aload 0, .iload 1, .invokeinterface 251 2, .iload 4, .ifCond .lt 84, .iload 1, .sipush 2, .irem, .ifCond .ne 78, .iload 7, .iload 3, .if_icmp .le 88, .goto 84]),
  (78, [.iload 7, .iload 3, .if_icmp .ge 88, .jsr 84]),
  (84, [.sipush 1, .goto 89]),
  (88, [.sipush 0, .jsr 89]),
  (89, [.istore 8, .iload 8, .ifCond .eq 101, .iload 5, .goto 103]),
  (101, [.iload 4, .jsr 103]),
  (103, [.istore 4, .iload 8, .ifCond .eq 115, .iload 7, .goto 116]),
  (115, [.iload 3, .jsr 116]),
  (116, [.istore 3, .iinc 5 1, .goto 20]),
  (123, [.aload 0, .checkcast 659, .iload 1, .iload 4, .iastore, .iload 3, .ireturn])]
/-- M.play -/
def g_c259 : List (Nat × List Instr) := [(0, [.iload 1, .sipush 1, .sipush 4, .invokeinterface 172 3, .ifCond .ne 11, .sipush (-1), .ireturn]),
  (11, [.aload 0, .invokeinterface 217 1, .ifCond .eq 21, .sipush (-3), .ireturn]),
  (21, [.aload 0, .sipush 0, .aload 0, .iload 1, .invokeinterface 247 2, .invokeinterface 258 3, .istore 2, .iload 2, .ifCond .ge 41, .sipush (-3), .goto 47]),
  (41, [.aload 0, .checkcast 659, .sipush 0, .iaload, .jsr 47]),
  (47, [.ireturn])]
/-- M.report -/
def g_c260 : List (Nat × List Instr) := [(0, [.iload 2, .ifCond .ne 9, .sipush 40, .goto 11]),
  (9, [.sipush 9, .jsr 11]),
  (11, [.istore 5, .iload 1, .sipush 0, .sipush 15, .invokeinterface 172 3, .ifCond .eq 53, .iload 2, .sipush 0, .sipush 1, .invokeinterface 172 3, .ifCond .eq 53, .iload 3, .sipush 0, .iload 5, .invokeinterface 172 3, .ifCond .eq 53, .iload 4, .iload 3, .iload 5, .invokeinterface 172 3, .ifCond .ne 55, .jsr 53]),
  (53, [.sipush (-1), .ireturn]),
  (55, [.aload 0, .checkcast 640, .sipush 8, .iaload, .sipush 6, .if_icmp .ne 70, .sipush (-2), .ireturn]),
  (70, [.sipush 74, .sipush 4, .aload 0, .checkcast 640, .sipush 8, .iaload, .imul, .iadd, .istore 6, .aload 0, .checkcast 640, .iload 6, .iload 1, .iastore, .aload 0, .checkcast 640, .iload 6, .sipush 1, .iadd, .iload 2, .iastore, .aload 0, .checkcast 640, .iload 6, .sipush 2, .iadd, .iload 3, .iastore, .aload 0, .checkcast 640, .iload 6, .sipush 3, .iadd, .iload 4, .iastore, .aload 0, .checkcast 640, .sipush 8, .dup2, .iaload, .sipush 1, .iadd, .iastore, .aload 0, .checkcast 640, .sipush 8, .iaload, .sipush 1, .isub, .ireturn])]
/-- M.forget -/
def g_c261 : List (Nat × List Instr) := [(0, [.aload 0, .sipush 8, .sipush 0, .invokeinterface 208 3, .ireturn])]
/-- M.lost -/
def g_c262 : List (Nat × List Instr) := [(0, [.iload 1, .sipush 0, .sipush 3, .invokeinterface 172 3, .ifCond .ne 11, .sipush (-1), .ireturn]),
  (11, [.aload 0, .sipush (-1), .invokeinterface 263 2, .istore 2, .iload 1, .ifCond .le 28, .iload 2, .ifCond .ne 28, .sipush (-3), .ireturn]),
  (28, [.iload 1, .ifCond .ne 36, .iload 2, .goto 78]),
  (36, [.iload 1, .sipush 1, .if_icmp .ne 53, .sipush 1, .aload 0, .getfield 667, .sipush 100, .idiv, .iadd, .goto 78]),
  (53, [.iload 1, .sipush 2, .if_icmp .ne 71, .aload 0, .getfield 667, .sipush 10, .idiv, .sipush 10, .irem, .goto 78]),
  (71, [.aload 0, .getfield 667, .sipush 10, .irem, .jsr 78]),
  (78, [.ireturn])]
/-- M.fitting -/
def g_c263 : List (Nat × List Instr) := [(0, [.sipush 0, .istore 2, .aload 0, .sipush (-1), .putfield 667, .sipush 0, .istore 3, .jsr 9]),
  (9, [.iload 3, .sipush 500, .if_icmp .ge 131, .aload 0, .sipush 1, .iload 3, .sipush 100, .idiv, .iadd, .iload 3, .sipush 10, .idiv, .sipush 10, .irem, .iload 3, .sipush 10, .irem, .invokeinterface 264 4, .sipush 1, .istore 4, .sipush 0, .istore 5, .jsr 43]),
  (43, [.iload 5, .aload 0, .checkcast 640, .sipush 8, .iaload, .if_icmp .ge 88, .iload 4, .ifCond .eq 88, .iload 5, .iload 1, .if_icmp .eq 75, .aload 0, .iload 5, .invokeinterface 265 2, .ifCond .eq 79, .jsr 75]),
  (75, [.sipush 1, .goto 80]),
  (79, [.sipush 0, .jsr 80]),
  (80, [.istore 4, .iinc 5 1, .goto 43]),
  (88, [.iload 2, .iload 4, .ifCond .eq 98, .sipush 1, .goto 99]),
  (98, [.sipush 0, .jsr 99]),
  (99, [.iadd, .istore 2, .aload 0, .iload 4, .ifCond .eq 118, .aload 0, .getfield 667, .ifCond .ge 118, .iload 3, .goto 122]),
  (118, [.aload 0, .getfield 667, .jsr 122]),
  (122, [.putfield 667, .iinc 3 1, .goto 9]),
  (131, [.iload 2, .ireturn])]
/-- M.tellsStranger -/
def g_c264 : List (Nat × List Instr) := [(0, [.iload 3, .istore 4, .sipush 0, .istore 5, .sipush 0, .istore 6, .jsr 9]),
  (9, [.iload 6, .sipush 16, .if_icmp .ge 105, .aload 0, .checkcast 665, .iload 6, .iload 5, .iastore, .aload 0, .checkcast 666, .iload 6, .iload 4, .iastore, .iload 4, .aload 0, .checkcast 640, .sipush 10, .iload 6, .iadd, .iaload, .invokeinterface 221 2, .istore 4, .iload 1, .iload 2, .iload 6, .invokeinterface 197 3, .istore 7, .iload 7, .iload 5, .isub, .istore 8, .iload 5, .iload 8, .ifCond .gt 78, .sipush 0, .goto 96]),
  (78, [.iload 8, .iload 4, .sipush 1, .iadd, .if_icmp .le 94, .iload 4, .sipush 1, .iadd, .goto 96]),
  (94, [.iload 8, .jsr 96]),
  (96, [.iadd, .istore 5, .iinc 6 1, .goto 9]),
  (105, [.return_])]
/-- M.isSo -/
def g_c265 : List (Nat × List Instr) := [(0, [.sipush 74, .sipush 4, .iload 1, .imul, .iadd, .istore 2, .aload 0, .checkcast 640, .iload 2, .sipush 1, .iadd, .iaload, .ifCond .ne 32, .aload 0, .checkcast 665, .aload 0, .checkcast 640, .iload 2, .iaload, .iaload, .goto 43]),
  (32, [.aload 0, .checkcast 666, .aload 0, .checkcast 640, .iload 2, .iaload, .iaload, .jsr 43]),
  (43, [.istore 3, .iload 3, .aload 0, .checkcast 640, .iload 2, .sipush 2, .iadd, .iaload, .aload 0, .checkcast 640, .iload 2, .sipush 3, .iadd, .iaload, .invokeinterface 172 3, .ireturn])]
/-- M.liar -/
def g_c266 : List (Nat × List Instr) := [(0, [.aload 0, .sipush (-1), .invokeinterface 263 2, .ifCond .le 11, .sipush (-3), .ireturn]),
  (11, [.sipush 0, .istore 1, .jsr 13]),
  (13, [.iload 1, .aload 0, .checkcast 640, .sipush 8, .iaload, .if_icmp .ge 40, .aload 0, .iload 1, .invokeinterface 263 2, .ifCond .le 34, .iload 1, .ireturn]),
  (34, [.iinc 1 1, .goto 13]),
  (40, [.sipush (-3), .ireturn])]
/-- M.seed -/
def g_c267 : List (Nat × List Instr) := [(0, [.aload 0, .sipush 5, .iload 1, .invokeinterface 208 3, .ireturn])]
/-- M.lot -/
def g_c268 : List (Nat × List Instr) := [(0, [.aload 0, .invokeinterface 217 1, .ifCond .eq 12, .sipush (-4), .goto 16]),
  (12, [.aload 0, .invokeinterface 269 1, .jsr 16]),
  (16, [.ireturn])]
/-- M.byLot -/
def g_c269 : List (Nat × List Instr) := [(0, [.aload 0, .checkcast 640, .sipush 5, .aload 0, .checkcast 640, .sipush 5, .iaload, .sipush 1103515245, .imul, .sipush 12345, .iadd, .iastore, .aload 0, .aload 0, .checkcast 640, .sipush 5, .iaload, .sipush 16, .iushr, .aload 0, .checkcast 640, .sipush 6, .iaload, .sipush 1, .iadd, .irem, .invokeinterface 220 2, .ireturn])]
/-- M.times -/
def g_c270 : List (Nat × List Instr) := [(0, [.iload 1, .sipush 1, .sipush 40, .invokeinterface 172 3, .ifCond .eq 21, .iload 2, .sipush 0, .sipush 999, .invokeinterface 172 3, .ifCond .ne 23, .jsr 21]),
  (21, [.sipush (-1), .ireturn]),
  (23, [.aload 0, .invokeinterface 230 1, .sipush 0, .istore 3, .sipush 0, .istore 4, .jsr 32]),
  (32, [.iload 4, .iload 1, .if_icmp .ge 100, .sipush 0, .istore 5, .jsr 41]),
  (41, [.aload 0, .invokeinterface 217 1, .ifCond .ne 60, .iload 5, .aload 0, .invokeinterface 269 1, .iadd, .istore 5, .goto 41]),
  (60, [.iload 3, .iload 5, .iload 2, .if_icmp .lt 71, .sipush 1, .goto 72]),
  (71, [.sipush 0, .jsr 72]),
  (72, [.iadd, .istore 3, .aload 0, .checkcast 640, .sipush 5, .iaload, .istore 6, .aload 0, .invokeinterface 232 1, .aload 0, .checkcast 640, .sipush 5, .iload 6, .iastore, .iinc 4 1, .goto 32]),
  (100, [.aload 0, .invokeinterface 232 1, .iload 3, .ireturn])]
/-- M.prove -/
def g_c271 : List (Nat × List Instr) := [(0, [.iload 1, .invokeinterface 245 1, .ifCond .ne 9, .sipush (-1), .ireturn]),
  (9, [.aload 0, .iload 1, .sipush 0, .invokeinterface 246 3, .aload 0, .aload 0, .iload 1, .invokeinterface 247 2, .putfield 669, .aload 0, .invokeinterface 230 1, .sipush 0, .istore 2, .jsr 30]),
  (30, [.iload 2, .aload 0, .getfield 669, .if_icmp .ge 93, .aload 0, .checkcast 668, .sipush 3, .iload 2, .imul, .aload 0, .checkcast 660, .iload 2, .iaload, .iastore, .aload 0, .checkcast 668, .sipush 3, .iload 2, .imul, .sipush 1, .iadd, .aload 0, .aload 0, .checkcast 660, .iload 2, .iaload, .invokeinterface 220 2, .iastore, .aload 0, .checkcast 668, .sipush 3, .iload 2, .imul, .sipush 2, .iadd, .aload 0, .sipush 4, .invokeinterface 218 2, .iastore, .iinc 2 1, .goto 30]),
  (93, [.aload 0, .invokeinterface 232 1, .aload 0, .getfield 669, .ireturn])]
/-- M.row -/
def g_c272 : List (Nat × List Instr) := [(0, [.aload 0, .iload 1, .iload 2, .invokeinterface 273 3, .ifCond .eq 22, .aload 0, .checkcast 668, .sipush 3, .iload 1, .imul, .iload 2, .iadd, .iaload, .goto 24]),
  (22, [.sipush (-9), .jsr 24]),
  (24, [.ireturn])]
/-- M.isRow -/
def g_c273 : List (Nat × List Instr) := [(0, [.iload 1, .sipush 0, .aload 0, .getfield 669, .sipush 1, .isub, .invokeinterface 172 3, .ifCond .eq 27, .iload 2, .sipush 0, .sipush 2, .invokeinterface 172 3, .ifCond .eq 27, .sipush 1, .goto 28]),
  (27, [.sipush 0, .jsr 28]),
  (28, [.ireturn])]
/-- M.alterRow -/
def g_c274 : List (Nat × List Instr) := [(0, [.aload 0, .iload 1, .iload 2, .invokeinterface 273 3, .ifCond .ne 12, .sipush (-9), .ireturn]),
  (12, [.aload 0, .checkcast 668, .sipush 3, .iload 1, .imul, .iload 2, .iadd, .iaload, .istore 4, .aload 0, .checkcast 668, .sipush 3, .iload 1, .imul, .iload 2, .iadd, .iload 3, .iastore, .iload 4, .ireturn])]
/-- M.judge -/
def g_c275 : List (Nat × List Instr) := [(0, [.aload 0, .invokeinterface 230 1, .sipush 0, .istore 1, .sipush 0, .istore 2, .jsr 8]),
  (8, [.iload 2, .aload 0, .getfield 669, .if_icmp .ge 133, .iload 1, .ifCond .ne 133, .aload 0, .aload 0, .checkcast 668, .sipush 3, .iload 2, .imul, .iaload, .invokeinterface 276 2, .ifCond .eq 46, .aload 0, .invokeinterface 217 1, .ifCond .ne 46, .sipush 1, .goto 47]),
  (46, [.sipush 0, .jsr 47]),
  (47, [.istore 3, .iload 3, .ifCond .eq 67, .aload 0, .aload 0, .checkcast 668, .sipush 3, .iload 2, .imul, .iaload, .invokeinterface 220 2, .goto 68]),
  (67, [.sipush 0, .jsr 68]),
  (68, [.istore 4, .iload 3, .ifCond .eq 111, .iload 4, .aload 0, .checkcast 668, .sipush 3, .iload 2, .imul, .sipush 1, .iadd, .iaload, .if_icmp .ne 111, .aload 0, .sipush 4, .invokeinterface 218 2, .aload 0, .checkcast 668, .sipush 3, .iload 2, .imul, .sipush 2, .iadd, .iaload, .if_icmp .ne 111, .sipush 1, .goto 112]),
  (111, [.sipush 0, .jsr 112]),
  (112, [.istore 5, .iload 5, .ifCond .eq 123, .sipush 0, .goto 126]),
  (123, [.sipush 1, .iload 2, .iadd, .jsr 126]),
  (126, [.istore 1, .iinc 2 1, .goto 8]),
  (133, [.aload 0, .invokeinterface 232 1, .iload 1, .ireturn])]
/-- M.isAct -/
def g_c276 : List (Nat × List Instr) := [(0, [.iload 1, .sipush 0, .aload 0, .checkcast 640, .sipush 6, .iaload, .invokeinterface 172 3, .ireturn])]
/-- M.sheet -/
def g_c277 : List (Nat × List Instr) := [(0, [.iload 1, .invokeinterface 278 1, .ifCond .eq 26, .iload 2, .sipush (-1), .sipush 4, .invokeinterface 172 3, .ifCond .eq 26, .iload 2, .ifCond .lt 28, .iload 3, .sipush 40, .if_icmp .le 28, .jsr 26]),
  (26, [.sipush (-1), .ireturn]),
  (28, [.iload 2, .ifCond .lt 39, .iload 3, .ifCond .ge 39, .sipush (-14), .ireturn]),
  (39, [.aload 0, .checkcast 670, .iload 1, .iload 2, .iastore, .aload 0, .checkcast 671, .iload 1, .iload 2, .ifCond .ge 59, .sipush 0, .goto 60]),
  (59, [.iload 3, .jsr 60]),
  (60, [.iastore, .sipush 0, .istore 4, .jsr 64]),
  (64, [.iload 4, .sipush 40, .if_icmp .ge 90, .aload 0, .checkcast 672, .sipush 40, .iload 1, .imul, .iload 4, .iadd, .sipush 0, .iastore, .iinc 4 1, .goto 64]),
  (90, [.sipush 1, .ireturn])]
/-- M.isSheet -/
def g_c278 : List (Nat × List Instr) := [(0, [.iload 0, .sipush 0, .sipush 3, .invokeinterface 172 3, .ireturn])]
/-- M.write -/
def g_c279 : List (Nat × List Instr) := [(0, [.iload 1, .invokeinterface 278 1, .ifCond .ne 9, .sipush (-1), .ireturn]),
  (9, [.aload 0, .checkcast 670, .iload 1, .iaload, .ifCond .ge 21, .sipush (-11), .ireturn]),
  (21, [.iload 2, .sipush 0, .aload 0, .checkcast 671, .iload 1, .iaload, .sipush 1, .isub, .invokeinterface 172 3, .ifCond .ne 40, .sipush (-12), .ireturn]),
  (40, [.aload 0, .checkcast 672, .sipush 40, .iload 1, .imul, .iload 2, .iadd, .iload 3, .aload 0, .checkcast 670, .iload 1, .iaload, .invokeinterface 280 2, .iastore, .sipush 1, .ireturn])]
/-- M.narrowed -/
def g_c280 : List (Nat × List Instr) := [(0, [.iload 1, .ifCond .ne 9, .iload 0, .i2b, .goto 37]),
  (9, [.iload 1, .sipush 1, .if_icmp .ne 19, .iload 0, .i2s, .goto 37]),
  (19, [.iload 1, .sipush 4, .if_icmp .ne 36, .iload 0, .ifCond .eq 32, .sipush 1, .goto 37]),
  (32, [.sipush 0, .goto 37]),
  (36, [.iload 0, .jsr 37]),
  (37, [.ireturn])]
/-- M.item -/
def g_c281 : List (Nat × List Instr) := [(0, [.iload 1, .invokeinterface 278 1, .ifCond .eq 16, .iload 2, .sipush 0, .sipush 4, .invokeinterface 172 3, .ifCond .ne 18, .jsr 16]),
  (16, [.sipush (-1), .ireturn]),
  (18, [.aload 0, .iload 1, .iload 2, .invokeinterface 282 3, .istore 4, .iload 4, .ifCond .eq 36, .iload 4, .goto 68]),
  (36, [.iload 3, .sipush 0, .aload 0, .checkcast 671, .iload 1, .iaload, .sipush 1, .isub, .invokeinterface 172 3, .ifCond .eq 66, .aload 0, .checkcast 672, .sipush 40, .iload 1, .imul, .iload 3, .iadd, .iaload, .goto 68]),
  (66, [.sipush (-12), .jsr 68]),
  (68, [.ireturn])]
/-- M.lacks -/
def g_c282 : List (Nat × List Instr) := [(0, [.aload 0, .checkcast 670, .iload 1, .iaload, .ifCond .ge 14, .sipush (-11), .goto 30]),
  (14, [.aload 0, .checkcast 670, .iload 1, .iaload, .iload 2, .if_icmp .eq 29, .sipush (-13), .goto 30]),
  (29, [.sipush 0, .jsr 30]),
  (30, [.ireturn])]
/-- M.goAll -/
def g_c283 : List (Nat × List Instr) := [(0, [.iload 1, .invokeinterface 278 1, .ifCond .eq 17, .iload 3, .sipush 0, .sipush 20, .invokeinterface 172 3, .ifCond .ne 19, .jsr 17]),
  (17, [.sipush (-1), .ireturn]),
  (19, [.aload 0, .iload 1, .sipush 0, .invokeinterface 282 3, .istore 4, .iload 4, .ifCond .eq 35, .iload 4, .ireturn]),
  (35, [.sipush 0, .istore 5, .sipush 0, .istore 6, .jsr 41]),
  (41, [.iload 6, .iload 3, .if_icmp .ge 114, .aload 0, .iload 1, .iload 2, .iload 6, .invokeinterface 284 4, .ifCond .ne 61, .sipush (-12), .ireturn]),
  (61, [.aload 0, .checkcast 672, .sipush 40, .iload 1, .imul, .iload 2, .iadd, .iload 6, .iadd, .iaload, .istore 7, .iload 5, .aload 0, .iload 7, .invokeinterface 276 2, .ifCond .eq 104, .aload 0, .invokeinterface 217 1, .ifCond .ne 104, .aload 0, .iload 7, .invokeinterface 220 2, .goto 105]),
  (104, [.sipush 0, .jsr 105]),
  (105, [.iadd, .istore 5, .iinc 6 1, .goto 41]),
  (114, [.iload 5, .ireturn])]
/-- M.isItem -/
def g_c284 : List (Nat × List Instr) := [(0, [.iload 2, .ifCond .lt 20, .iload 2, .aload 0, .checkcast 671, .iload 1, .iaload, .iload 3, .isub, .if_icmp .ge 20, .sipush 1, .goto 21]),
  (20, [.sipush 0, .jsr 21]),
  (21, [.ireturn])]
/-- M.wouldBe -/
def g_c285 : List (Nat × List Instr) := [(0, [.iload 1, .invokeinterface 278 1, .ifCond .eq 17, .iload 3, .sipush 0, .sipush 20, .invokeinterface 172 3, .ifCond .ne 19, .jsr 17]),
  (17, [.sipush (-1), .ireturn]),
  (19, [.aload 0, .iload 1, .sipush 0, .invokeinterface 282 3, .istore 4, .sipush 0, .istore 5, .aload 0, .invokeinterface 230 1, .sipush 0, .istore 6, .jsr 37]),
  (37, [.iload 6, .iload 3, .if_icmp .ge 145, .iload 4, .ifCond .ne 145, .aload 0, .iload 1, .iload 2, .iload 6, .invokeinterface 284 4, .ifCond .eq 76, .aload 0, .checkcast 672, .sipush 40, .iload 1, .imul, .iload 2, .iadd, .iload 6, .iadd, .iaload, .goto 77]),
  (76, [.sipush (-1), .jsr 77]),
  (77, [.istore 7, .aload 0, .iload 1, .iload 2, .iload 6, .invokeinterface 284 4, .ifCond .ne 95, .sipush (-12), .goto 117]),
  (95, [.aload 0, .iload 7, .invokeinterface 276 2, .ifCond .eq 111, .aload 0, .invokeinterface 217 1, .ifCond .eq 116, .jsr 111]),
  (111, [.sipush (-4), .goto 117]),
  (116, [.sipush 0, .jsr 117]),
  (117, [.istore 4, .iload 5, .iload 4, .ifCond .ne 135, .aload 0, .iload 7, .invokeinterface 220 2, .goto 136]),
  (135, [.sipush 0, .jsr 136]),
  (136, [.iadd, .istore 5, .iinc 6 1, .goto 37]),
  (145, [.aload 0, .invokeinterface 232 1, .iload 4, .ifCond .eq 159, .iload 4, .goto 161]),
  (159, [.iload 5, .jsr 161]),
  (161, [.ireturn])]
/-- M.shelf -/
def g_c286 : List (Nat × List Instr) := [(0, [.iload 1, .invokeinterface 278 1, .ifCond .eq 40, .iload 2, .sipush 0, .sipush 2, .invokeinterface 172 3, .ifCond .eq 40, .iload 2, .ifCond .ne 28, .aload 0, .iload 3, .invokeinterface 194 2, .ifCond .eq 40, .jsr 28]),
  (28, [.iload 2, .sipush 1, .if_icmp .ne 42, .iload 3, .invokeinterface 278 1, .ifCond .ne 42, .jsr 40]),
  (40, [.sipush (-1), .ireturn]),
  (42, [.aload 0, .checkcast 673, .iload 1, .iload 2, .ifCond .ne 55, .sipush 0, .goto 82]),
  (55, [.iload 2, .sipush 1, .if_icmp .ne 81, .aload 0, .checkcast 670, .iload 3, .iaload, .ifCond .lt 81, .sipush 10, .aload 0, .checkcast 670, .iload 3, .iaload, .iadd, .goto 82]),
  (81, [.sipush (-1), .jsr 82]),
  (82, [.iastore, .aload 0, .checkcast 674, .iload 1, .iload 2, .ifCond .ne 96, .iload 3, .goto 111]),
  (96, [.iload 2, .sipush 1, .if_icmp .ne 110, .aload 0, .checkcast 671, .iload 3, .iaload, .goto 111]),
  (110, [.sipush 0, .jsr 111]),
  (111, [.iastore, .sipush 1, .ireturn])]
/-- M.taken -/
def g_c287 : List (Nat × List Instr) := [(0, [.iload 1, .invokeinterface 278 1, .ifCond .eq 27, .iload 2, .sipush 0, .sipush 5, .invokeinterface 172 3, .ifCond .ne 29, .iload 2, .sipush 10, .sipush 14, .invokeinterface 172 3, .ifCond .ne 29, .jsr 27]),
  (27, [.sipush (-1), .ireturn]),
  (29, [.aload 0, .iload 1, .invokeinterface 288 2, .istore 3, .iload 3, .ifCond .ge 42, .sipush (-11), .ireturn]),
  (42, [.iload 3, .ifCond .ne 78, .iload 2, .sipush 10, .if_icmp .ge 74, .aload 0, .aload 0, .checkcast 674, .iload 1, .iaload, .sipush 0, .invokeinterface 196 3, .iload 2, .invokeinterface 202 2, .ifCond .eq 74, .sipush 1, .goto 88]),
  (74, [.sipush 0, .goto 88]),
  (78, [.iload 3, .iload 2, .if_icmp .ne 87, .sipush 1, .goto 88]),
  (87, [.sipush 0, .jsr 88]),
  (88, [.istore 4, .iload 4, .ifCond .eq 104, .aload 0, .checkcast 674, .iload 1, .iaload, .goto 106]),
  (104, [.sipush (-13), .jsr 106]),
  (106, [.ireturn])]
/-- M.heldOn -/
def g_c288 : List (Nat × List Instr) := [(0, [.aload 0, .checkcast 673, .iload 1, .iaload, .ifCond .ne 26, .aload 0, .aload 0, .checkcast 674, .iload 1, .iaload, .invokeinterface 194 2, .ifCond .ne 26, .sipush (-1), .goto 32]),
  (26, [.aload 0, .checkcast 673, .iload 1, .iaload, .jsr 32]),
  (32, [.ireturn])]
/-- M.act -/
def g_c289 : List (Nat × List Instr) := [(0, [.aload 0, .sipush 0, .putfield 676, .iload 1, .invokeinterface 278 1, .ifCond .eq 29, .iload 2, .sipush 0, .sipush 3, .invokeinterface 172 3, .ifCond .eq 29, .aload 0, .iload 1, .invokeinterface 288 2, .ifCond .eq 31, .jsr 29]),
  (29, [.sipush 0, .ireturn]),
  (31, [.aload 0, .aload 0, .checkcast 674, .iload 1, .iaload, .putfield 677, .aload 0, .sipush 0, .putfield 678, .aload 0, .aload 0, .getfield 677, .sipush 0, .invokeinterface 196 3, .istore 4, .iload 2, .ifCond .ne 71, .aload 0, .iload 4, .iload 3, .invokeinterface 290 3, .goto 108]),
  (71, [.iload 2, .sipush 1, .if_icmp .ne 86, .aload 0, .iload 4, .iload 3, .invokeinterface 292 3, .goto 108]),
  (86, [.iload 2, .sipush 2, .if_icmp .ne 101, .aload 0, .iload 4, .iload 3, .invokeinterface 293 3, .goto 108]),
  (101, [.aload 0, .iload 4, .iload 3, .invokeinterface 294 3, .jsr 108]),
  (108, [.istore 5, .aload 0, .getfield 678, .ifCond .eq 122, .sipush (-15), .goto 124]),
  (122, [.iload 5, .jsr 124]),
  (124, [.ireturn])]
/-- M.laysAs -/
def g_c290 : List (Nat × List Instr) := [(0, [.iload 1, .sipush 1, .if_icmp .ne 20, .aload 0, .sipush 20, .invokeinterface 291 2, .aload 0, .sipush 0, .iload 2, .invokeinterface 290 3, .sipush 3, .imul, .ireturn]),
  (20, [.iload 1, .sipush 3, .if_icmp .ne 40, .aload 0, .sipush 50, .invokeinterface 291 2, .aload 0, .sipush 2, .iload 2, .invokeinterface 290 3, .sipush 4, .ixor, .ireturn]),
  (40, [.aload 0, .sipush 10, .invokeinterface 291 2, .iload 2, .sipush 2, .imul, .aload 0, .getfield 677, .iadd, .ireturn])]
/-- M.starts -/
def g_c291 : List (Nat × List Instr) := [(0, [.aload 0, .getfield 676, .sipush 30, .if_icmp .ge 29, .aload 0, .checkcast 675, .aload 0, .getfield 676, .iload 1, .iastore, .aload 0, .dup, .getfield 676, .sipush 1, .iadd, .putfield 676, .jsr 29]),
  (29, [.return_])]
/-- M.tiltsAs -/
def g_c292 : List (Nat × List Instr) := [(0, [.iload 1, .sipush 2, .if_icmp .eq 10, .iload 1, .sipush 3, .if_icmp .ne 25, .jsr 10]),
  (10, [.aload 0, .sipush 30, .invokeinterface 291 2, .aload 0, .sipush 0, .iload 2, .sipush 1, .iadd, .invokeinterface 292 3, .ireturn]),
  (25, [.iload 1, .sipush 5, .if_icmp .ne 46, .aload 0, .sipush 60, .invokeinterface 291 2, .aload 0, .sipush 4, .iload 2, .invokeinterface 292 3, .sipush 60, .isub, .ireturn]),
  (46, [.aload 0, .sipush 11, .invokeinterface 291 2, .aload 0, .aload 0, .aload 0, .getfield 677, .sipush 0, .invokeinterface 196 3, .iload 2, .invokeinterface 290 3, .aload 0, .aload 0, .getfield 677, .sipush 3, .invokeinterface 196 3, .isub, .ireturn])]
/-- M.breaksAs -/
def g_c293 : List (Nat × List Instr) := [(0, [.iload 1, .sipush 5, .if_icmp .ne 46, .aload 0, .sipush 61, .invokeinterface 291 2, .aload 0, .sipush 4, .iload 2, .invokeinterface 293 3, .istore 3, .aload 0, .getfield 678, .ifCond .eq 29, .sipush 0, .goto 45]),
  (29, [.iload 3, .aload 0, .sipush 5, .aload 0, .aload 0, .getfield 677, .sipush 3, .invokeinterface 196 3, .invokeinterface 290 3, .ixor, .jsr 45]),
  (45, [.ireturn]),
  (46, [.iload 1, .sipush 4, .if_icmp .ne 65, .aload 0, .sipush 40, .invokeinterface 291 2, .aload 0, .sipush 0, .iload 2, .invokeinterface 293 3, .ineg, .ireturn]),
  (65, [.aload 0, .sipush 12, .invokeinterface 291 2, .aload 0, .getfield 677, .aload 0, .aload 0, .getfield 677, .sipush 3, .invokeinterface 196 3, .iadd, .sipush 3, .isub, .istore 3, .aload 0, .aload 0, .getfield 678, .ifCond .ne 100, .iload 3, .ifCond .ne 104, .jsr 100]),
  (100, [.sipush 1, .goto 105]),
  (104, [.sipush 0, .jsr 105]),
  (105, [.putfield 678, .aload 0, .getfield 678, .ifCond .eq 119, .sipush 0, .goto 122]),
  (119, [.iload 2, .iload 3, .irem, .jsr 122]),
  (122, [.ireturn])]
/-- M.shinesAs -/
def g_c294 : List (Nat × List Instr) := [(0, [.iload 1, .sipush 3, .if_icmp .ne 41, .aload 0, .sipush 51, .invokeinterface 291 2, .aload 0, .sipush 2, .iload 2, .invokeinterface 294 3, .istore 3, .aload 0, .getfield 678, .ifCond .eq 29, .sipush 0, .goto 40]),
  (29, [.iload 3, .aload 0, .sipush 3, .aload 0, .getfield 677, .invokeinterface 292 3, .iadd, .jsr 40]),
  (40, [.ireturn]),
  (41, [.aload 0, .sipush 13, .invokeinterface 291 2, .aload 0, .aload 0, .aload 0, .getfield 677, .sipush 0, .invokeinterface 196 3, .iload 2, .invokeinterface 292 3, .istore 3, .iload 3, .aload 0, .aload 0, .aload 0, .getfield 677, .sipush 0, .invokeinterface 196 3, .iload 2, .invokeinterface 293 3, .ixor, .ireturn])]
/-- M.trace -/
def g_c295 : List (Nat × List Instr) := [(0, [.iload 1, .sipush 0, .aload 0, .getfield 676, .sipush 1, .isub, .invokeinterface 172 3, .ifCond .eq 23, .aload 0, .checkcast 675, .iload 1, .iaload, .goto 25]),
  (23, [.sipush (-3), .jsr 25]),
  (25, [.ireturn])]
/-- M.many -/
def g_c296 : List (Nat × List Instr) := [(0, [.iload 1, .lookupswitch 92 #[(0, 44), (1, 52), (2, 60), (3, 69), (4, 77), (5, 82), (6, 87)]]),
  (44, [.aload 0, .checkcast 640, .sipush 6, .iaload, .ireturn]),
  (52, [.aload 0, .checkcast 640, .sipush 7, .iaload, .ireturn]),
  (60, [.aload 0, .sipush 4, .invokeinterface 218 2, .invokeinterface 297 1, .ireturn]),
  (69, [.aload 0, .checkcast 640, .sipush 8, .iaload, .ireturn]),
  (77, [.aload 0, .getfield 669, .ireturn]),
  (82, [.aload 0, .getfield 646, .ireturn]),
  (87, [.aload 0, .getfield 676, .ireturn]),
  (92, [.sipush (-1), .ireturn])]
/-- M.ones -/
def g_c297 : List (Nat × List Instr) := [(0, [.sipush 0, .istore 1, .iload 0, .istore 2, .jsr 4]),
  (4, [.iload 2, .ifCond .eq 20, .iinc 1 1, .iload 2, .iload 2, .sipush 1, .isub, .iand, .istore 2, .goto 4]),
  (20, [.iload 1, .ireturn])]
/-- M.keep -/
def g_c298 : List (Nat × List Instr) := [(0, [.sipush 0, .istore 1, .jsr 2]),
  (2, [.iload 1, .sipush 322, .if_icmp .ge 27, .aload 0, .checkcast 641, .iload 1, .aload 0, .checkcast 640, .iload 1, .iaload, .iastore, .iinc 1 1, .goto 2]),
  (27, [.aload 0, .sipush 1, .putfield 643, .sipush 1, .ireturn])]
/-- M.again -/
def g_c299 : List (Nat × List Instr) := [(0, [.aload 0, .getfield 643, .ifCond .ne 10, .sipush (-3), .ireturn]),
  (10, [.sipush 0, .istore 1, .jsr 12]),
  (12, [.iload 1, .sipush 322, .if_icmp .ge 37, .aload 0, .checkcast 640, .iload 1, .aload 0, .checkcast 641, .iload 1, .iaload, .iastore, .iinc 1 1, .goto 12]),
  (37, [.aload 0, .checkcast 640, .sipush 6, .iaload, .ireturn])]
/-- J.bitCount -/
def g_c300 : List (Nat × List Instr) := [(0, [.iload 0, .iload 0, .sipush 1, .iushr, .sipush 1431655765, .iand, .isub, .istore 0, .iload 0, .sipush 858993459, .iand, .iload 0, .sipush 2, .iushr, .sipush 858993459, .iand, .iadd, .istore 0, .iload 0, .iload 0, .sipush 4, .iushr, .iadd, .sipush 252645135, .iand, .istore 0, .iload 0, .iload 0, .sipush 8, .iushr, .iadd, .istore 0, .iload 0, .iload 0, .sipush 16, .iushr, .iadd, .istore 0, .iload 0, .sipush 63, .iand, .ireturn])]
/-- J.length -/
def g_c301 : List (Nat × List Instr) := [(0, [.aload 0, .fload 0, .fmul, .aload 0, .invokeinterface 302 1, .ishr, .ireturn])]
/-- J.coder -/
def g_c302 : List (Nat × List Instr) := [(0, [.getstatic 1, .ifCond .eq 13, .aload 0, .fload 1, .goto 14]),
  (13, [.sipush 1, .jsr 14]),
  (14, [.ireturn])]
/-- J.charAt -/
def g_c303 : List (Nat × List Instr) := [(0, [.aload 0, .invokeinterface 304 1, .ifCond .eq 16, .aload 0, .fload 0, .iload 1, .invokeinterface 306 2, .ireturn]),
  (16, [.aload 0, .fload 0, .iload 1])]
/-- J.isLatin1 -/
def g_c304 : List (Nat × List Instr) := [(0, [.getstatic 1, .ifCond .eq 17, .aload 0, .fload 1, .ifCond .ne 17, .sipush 1, .goto 18]),
  (17, [.sipush 0, .jsr 18]),
  (18, [.ireturn])]
/-- J.checkIndex -/
def g_c305 : List (Nat × List Instr) := [(0, [.iload 0, .iload 1, .getstatic 2, .invokeinterface 307 3, .pop, .return_])]
/-- J.charAt_306 -/
def g_c306 : List (Nat × List Instr) := [(0, [.iload 1, .aload 0, .fmul, .invokeinterface 305 2, .aload 0, .iload 1, .baload, .sipush 255, .iand, .i2c, .ireturn])]
/-- J.checkIndex_307 -/
def g_c307 : List (Nat × List Instr) := [(0, [.iload 0, .ifCond .lt 9, .iload 0, .iload 1, .if_icmp .lt 16, .jsr 9]),
  (9, [.aload 2, .iload 0, .iload 1]),
  (16, [.iload 0, .ireturn])]
/-- LAW.law -/
def g_c308 : List (Nat × List Instr) := [(0, [.new 9, .dup, .invokeinterface 107 1, .astore 1, .new 10, .dup, .invokeinterface 170 1, .astore 2, .sipush 0, .istore 3, .jsr 18]),
  (18, [.iload 3, .aload 0, .fadd, .sipush 5, .isub, .if_icmp .gt 1788, .aload 0, .iload 3, .faload, .sipush 63, .iand, .lookupswitch 1782 #[(0, 256), (1, 309), (2, 342), (3, 385), (4, 418), (5, 451), (6, 494), (7, 527), (8, 560), (9, 583), (10, 596), (11, 619), (12, 682), (13, 695), (14, 708), (15, 731), (16, 754), (17, 777), (18, 800), (19, 823), (20, 846), (21, 869), (22, 902), (23, 925), (24, 958), (25, 981), (26, 1014), (27, 1047), (28, 1070), (29, 1093), (30, 1146), (31, 1159), (32, 1182), (33, 1195), (34, 1218), (35, 1231), (36, 1264), (37, 1287), (38, 1320), (39, 1363), (40, 1376), (41, 1419), (42, 1462), (43, 1505), (44, 1548), (45, 1591), (46, 1634), (47, 1667), (48, 1710), (49, 1733), (50, 1756), (51, 1769)]]),
  (256, [.aload 1, .aload 0, .iload 3, .sipush 1, .iadd, .faload, .aload 0, .iload 3, .sipush 2, .iadd, .faload, .aload 0, .iload 3, .sipush 3, .iadd, .faload, .aload 0, .iload 3, .sipush 4, .iadd, .faload, .invokeinterface 108 5, .aload 2, .aload 0, .iload 3, .sipush 1, .iadd, .faload, .aload 0, .iload 3, .sipush 2, .iadd, .faload, .aload 0, .iload 3, .sipush 3, .iadd, .faload, .aload 0, .iload 3, .sipush 4, .iadd, .faload, .invokeinterface 188 5, .if_icmp .eq 1782, .sipush 0, .ireturn]),
  (309, [.aload 1, .aload 0, .iload 3, .sipush 1, .iadd, .faload, .aload 0, .iload 3, .sipush 2, .iadd, .faload, .invokeinterface 110 3, .aload 2, .aload 0, .iload 3, .sipush 1, .iadd, .faload, .aload 0, .iload 3, .sipush 2, .iadd, .faload, .invokeinterface 193 3, .if_icmp .eq 1782, .sipush 0, .ireturn]),
  (342, [.aload 1, .aload 0, .iload 3, .sipush 1, .iadd, .faload, .aload 0, .iload 3, .sipush 2, .iadd, .faload, .aload 0, .iload 3, .sipush 3, .iadd, .faload, .invokeinterface 113 4, .aload 2, .aload 0, .iload 3, .sipush 1, .iadd, .faload, .aload 0, .iload 3, .sipush 2, .iadd, .faload, .aload 0, .iload 3, .sipush 3, .iadd, .faload, .invokeinterface 207 4, .if_icmp .eq 1782, .sipush 0, .ireturn]),
  (385, [.aload 1, .aload 0, .iload 3, .sipush 1, .iadd, .faload, .aload 0, .iload 3, .sipush 2, .iadd, .faload, .invokeinterface 115 3, .aload 2, .aload 0, .iload 3, .sipush 1, .iadd, .faload, .aload 0, .iload 3, .sipush 2, .iadd, .faload, .invokeinterface 209 3, .if_icmp .eq 1782, .sipush 0, .ireturn]),
  (418, [.aload 1, .aload 0, .iload 3, .sipush 1, .iadd, .faload, .aload 0, .iload 3, .sipush 2, .iadd, .faload, .invokeinterface 116 3, .aload 2, .aload 0, .iload 3, .sipush 1, .iadd, .faload, .aload 0, .iload 3, .sipush 2, .iadd, .faload, .invokeinterface 210 3, .if_icmp .eq 1782, .sipush 0, .ireturn]),
  (451, [.aload 1, .aload 0, .iload 3, .sipush 1, .iadd, .faload, .aload 0, .iload 3, .sipush 2, .iadd, .faload, .aload 0, .iload 3, .sipush 3, .iadd, .faload, .invokeinterface 117 4, .aload 2, .aload 0, .iload 3, .sipush 1, .iadd, .faload, .aload 0, .iload 3, .sipush 2, .iadd, .faload, .aload 0, .iload 3, .sipush 3, .iadd, .faload, .invokeinterface 211 4, .if_icmp .eq 1782, .sipush 0, .ireturn]),
  (494, [.aload 1, .aload 0, .iload 3, .sipush 1, .iadd, .faload, .aload 0, .iload 3, .sipush 2, .iadd, .faload, .invokeinterface 118 3, .aload 2, .aload 0, .iload 3, .sipush 1, .iadd, .faload, .aload 0, .iload 3, .sipush 2, .iadd, .faload, .invokeinterface 212 3, .if_icmp .eq 1782, .sipush 0, .ireturn]),
  (527, [.aload 1, .aload 0, .iload 3, .sipush 1, .iadd, .faload, .aload 0, .iload 3, .sipush 2, .iadd, .faload, .invokeinterface 119 3, .aload 2, .aload 0, .iload 3, .sipush 1, .iadd, .faload, .aload 0, .iload 3, .sipush 2, .iadd, .faload, .invokeinterface 213 3, .if_icmp .eq 1782, .sipush 0, .ireturn]),
  (560, [.aload 1, .aload 0, .iload 3, .sipush 1, .iadd, .faload, .invokeinterface 120 2, .aload 2, .aload 0, .iload 3, .sipush 1, .iadd, .faload, .invokeinterface 214 2, .if_icmp .eq 1782, .sipush 0, .ireturn]),
  (583, [.aload 1, .invokeinterface 121 1, .aload 2, .invokeinterface 215 1, .if_icmp .eq 1782, .sipush 0, .ireturn]),
  (596, [.aload 1, .aload 0, .iload 3, .sipush 1, .iadd, .faload, .invokeinterface 122 2, .aload 2, .aload 0, .iload 3, .sipush 1, .iadd, .faload, .invokeinterface 216 2, .if_icmp .eq 1782, .sipush 0, .ireturn]),
  (619, [.aload 1, .aload 0, .iload 3, .sipush 1, .iadd, .faload, .i2l, .sipush 32, .lshl, .aload 0, .iload 3, .sipush 2, .iadd, .faload, .i2l, .goto_w 4294967295, .land, .lor, .aload 0, .iload 3, .sipush 3, .iadd, .faload, .invokeinterface 123 3, .aload 2, .aload 0, .iload 3, .sipush 1, .iadd, .faload, .i2l, .sipush 32, .lshl, .aload 0, .iload 3, .sipush 2, .iadd, .faload, .i2l, .goto_w 4294967295, .land, .lor, .aload 0, .iload 3, .sipush 3, .iadd, .faload, .invokeinterface 171 3, .if_icmp .eq 1782, .sipush 0, .ireturn]),
  (682, [.aload 1, .invokeinterface 124 1, .aload 2, .invokeinterface 173 1, .if_icmp .eq 1782, .sipush 0, .ireturn]),
  (695, [.aload 1, .invokeinterface 125 1, .aload 2, .invokeinterface 219 1, .if_icmp .eq 1782, .sipush 0, .ireturn]),
  (708, [.aload 1, .aload 0, .iload 3, .sipush 1, .iadd, .faload, .invokeinterface 129 2, .aload 2, .aload 0, .iload 3, .sipush 1, .iadd, .faload, .invokeinterface 229 2, .if_icmp .eq 1782, .sipush 0, .ireturn]),
  (731, [.aload 1, .aload 0, .iload 3, .sipush 1, .iadd, .faload, .invokeinterface 130 2, .aload 2, .aload 0, .iload 3, .sipush 1, .iadd, .faload, .invokeinterface 233 2, .if_icmp .eq 1782, .sipush 0, .ireturn]),
  (754, [.aload 1, .aload 0, .iload 3, .sipush 1, .iadd, .faload, .invokeinterface 131 2, .aload 2, .aload 0, .iload 3, .sipush 1, .iadd, .faload, .invokeinterface 234 2, .if_icmp .eq 1782, .sipush 0, .ireturn]),
  (777, [.aload 1, .aload 0, .iload 3, .sipush 1, .iadd, .faload, .invokeinterface 132 2, .aload 2, .aload 0, .iload 3, .sipush 1, .iadd, .faload, .invokeinterface 236 2, .if_icmp .eq 1782, .sipush 0, .ireturn]),
  (800, [.aload 1, .aload 0, .iload 3, .sipush 1, .iadd, .faload, .invokeinterface 133 2, .aload 2, .aload 0, .iload 3, .sipush 1, .iadd, .faload, .invokeinterface 237 2, .if_icmp .eq 1782, .sipush 0, .ireturn]),
  (823, [.aload 1, .aload 0, .iload 3, .sipush 1, .iadd, .faload, .invokeinterface 134 2, .aload 2, .aload 0, .iload 3, .sipush 1, .iadd, .faload, .invokeinterface 238 2, .if_icmp .eq 1782, .sipush 0, .ireturn]),
  (846, [.aload 1, .aload 0, .iload 3, .sipush 1, .iadd, .faload, .invokeinterface 135 2, .aload 2, .aload 0, .iload 3, .sipush 1, .iadd, .faload, .invokeinterface 239 2, .if_icmp .eq 1782, .sipush 0, .ireturn]),
  (869, [.aload 1, .aload 0, .iload 3, .sipush 1, .iadd, .faload, .aload 0, .iload 3, .sipush 2, .iadd, .faload, .invokeinterface 137 3, .aload 2, .aload 0, .iload 3, .sipush 1, .iadd, .faload, .aload 0, .iload 3, .sipush 2, .iadd, .faload, .invokeinterface 242 3, .if_icmp .eq 1782, .sipush 0, .ireturn]),
  (902, [.aload 1, .aload 0, .iload 3, .sipush 1, .iadd, .faload, .invokeinterface 138 2, .aload 2, .aload 0, .iload 3, .sipush 1, .iadd, .faload, .invokeinterface 244 2, .if_icmp .eq 1782, .sipush 0, .ireturn]),
  (925, [.aload 1, .aload 0, .iload 3, .sipush 1, .iadd, .faload, .aload 0, .iload 3, .sipush 2, .iadd, .faload, .invokeinterface 139 3, .aload 2, .aload 0, .iload 3, .sipush 1, .iadd, .faload, .aload 0, .iload 3, .sipush 2, .iadd, .faload, .invokeinterface 252 3, .if_icmp .eq 1782, .sipush 0, .ireturn]),
  (958, [.aload 1, .aload 0, .iload 3, .sipush 1, .iadd, .faload, .invokeinterface 140 2, .aload 2, .aload 0, .iload 3, .sipush 1, .iadd, .faload, .invokeinterface 253 2, .if_icmp .eq 1782, .sipush 0, .ireturn]),
  (981, [.aload 1, .aload 0, .iload 3, .sipush 1, .iadd, .faload, .aload 0, .iload 3, .sipush 2, .iadd, .faload, .invokeinterface 141 3, .aload 2, .aload 0, .iload 3, .sipush 1, .iadd, .faload, .aload 0, .iload 3, .sipush 2, .iadd, .faload, .invokeinterface 254 3, .if_icmp .eq 1782, .sipush 0, .ireturn]),
  (1014, [.aload 1, .aload 0, .iload 3, .sipush 1, .iadd, .faload, .aload 0, .iload 3, .sipush 2, .iadd, .faload, .invokeinterface 142 3, .aload 2, .aload 0, .iload 3, .sipush 1, .iadd, .faload, .aload 0, .iload 3, .sipush 2, .iadd, .faload, .invokeinterface 256 3, .if_icmp .eq 1782, .sipush 0, .ireturn]),
  (1047, [.aload 1, .aload 0, .iload 3, .sipush 1, .iadd, .faload, .invokeinterface 143 2, .aload 2, .aload 0, .iload 3, .sipush 1, .iadd, .faload, .invokeinterface 257 2, .if_icmp .eq 1782, .sipush 0, .ireturn]),
  (1070, [.aload 1, .aload 0, .iload 3, .sipush 1, .iadd, .faload, .invokeinterface 144 2, .aload 2, .aload 0, .iload 3, .sipush 1, .iadd, .faload, .invokeinterface 259 2, .if_icmp .eq 1782, .sipush 0, .ireturn]),
  (1093, [.aload 1, .aload 0, .iload 3, .sipush 1, .iadd, .faload, .aload 0, .iload 3, .sipush 2, .iadd, .faload, .aload 0, .iload 3, .sipush 3, .iadd, .faload, .aload 0, .iload 3, .sipush 4, .iadd, .faload, .invokeinterface 145 5, .aload 2, .aload 0, .iload 3, .sipush 1, .iadd, .faload, .aload 0, .iload 3, .sipush 2, .iadd, .faload, .aload 0, .iload 3, .sipush 3, .iadd, .faload, .aload 0, .iload 3, .sipush 4, .iadd, .faload, .invokeinterface 260 5, .if_icmp .eq 1782, .sipush 0, .ireturn]),
  (1146, [.aload 1, .invokeinterface 146 1, .aload 2, .invokeinterface 261 1, .if_icmp .eq 1782, .sipush 0, .ireturn]),
  (1159, [.aload 1, .aload 0, .iload 3, .sipush 1, .iadd, .faload, .invokeinterface 147 2, .aload 2, .aload 0, .iload 3, .sipush 1, .iadd, .faload, .invokeinterface 262 2, .if_icmp .eq 1782, .sipush 0, .ireturn]),
  (1182, [.aload 1, .invokeinterface 148 1, .aload 2, .invokeinterface 266 1, .if_icmp .eq 1782, .sipush 0, .ireturn]),
  (1195, [.aload 1, .aload 0, .iload 3, .sipush 1, .iadd, .faload, .invokeinterface 149 2, .aload 2, .aload 0, .iload 3, .sipush 1, .iadd, .faload, .invokeinterface 267 2, .if_icmp .eq 1782, .sipush 0, .ireturn]),
  (1218, [.aload 1, .invokeinterface 150 1, .aload 2, .invokeinterface 268 1, .if_icmp .eq 1782, .sipush 0, .ireturn]),
  (1231, [.aload 1, .aload 0, .iload 3, .sipush 1, .iadd, .faload, .aload 0, .iload 3, .sipush 2, .iadd, .faload, .invokeinterface 151 3, .aload 2, .aload 0, .iload 3, .sipush 1, .iadd, .faload, .aload 0, .iload 3, .sipush 2, .iadd, .faload, .invokeinterface 270 3, .if_icmp .eq 1782, .sipush 0, .ireturn]),
  (1264, [.aload 1, .aload 0, .iload 3, .sipush 1, .iadd, .faload, .invokeinterface 152 2, .aload 2, .aload 0, .iload 3, .sipush 1, .iadd, .faload, .invokeinterface 271 2, .if_icmp .eq 1782, .sipush 0, .ireturn]),
  (1287, [.aload 1, .aload 0, .iload 3, .sipush 1, .iadd, .faload, .aload 0, .iload 3, .sipush 2, .iadd, .faload, .invokeinterface 153 3, .aload 2, .aload 0, .iload 3, .sipush 1, .iadd, .faload, .aload 0, .iload 3, .sipush 2, .iadd, .faload, .invokeinterface 272 3, .if_icmp .eq 1782, .sipush 0, .ireturn]),
  (1320, [.aload 1, .aload 0, .iload 3, .sipush 1, .iadd, .faload, .aload 0, .iload 3, .sipush 2, .iadd, .faload, .aload 0, .iload 3, .sipush 3, .iadd, .faload, .invokeinterface 154 4, .aload 2, .aload 0, .iload 3, .sipush 1, .iadd, .faload, .aload 0, .iload 3, .sipush 2, .iadd, .faload, .aload 0, .iload 3, .sipush 3, .iadd, .faload, .invokeinterface 274 4, .if_icmp .eq 1782, .sipush 0, .ireturn]),
  (1363, [.aload 1, .invokeinterface 155 1, .aload 2, .invokeinterface 275 1, .if_icmp .eq 1782, .sipush 0, .ireturn]),
  (1376, [.aload 1, .aload 0, .iload 3, .sipush 1, .iadd, .faload, .aload 0, .iload 3, .sipush 2, .iadd, .faload, .aload 0, .iload 3, .sipush 3, .iadd, .faload, .invokeinterface 156 4, .aload 2, .aload 0, .iload 3, .sipush 1, .iadd, .faload, .aload 0, .iload 3, .sipush 2, .iadd, .faload, .aload 0, .iload 3, .sipush 3, .iadd, .faload, .invokeinterface 277 4, .if_icmp .eq 1782, .sipush 0, .ireturn]),
  (1419, [.aload 1, .aload 0, .iload 3, .sipush 1, .iadd, .faload, .aload 0, .iload 3, .sipush 2, .iadd, .faload, .aload 0, .iload 3, .sipush 3, .iadd, .faload, .invokeinterface 157 4, .aload 2, .aload 0, .iload 3, .sipush 1, .iadd, .faload, .aload 0, .iload 3, .sipush 2, .iadd, .faload, .aload 0, .iload 3, .sipush 3, .iadd, .faload, .invokeinterface 279 4, .if_icmp .eq 1782, .sipush 0, .ireturn]),
  (1462, [.aload 1, .aload 0, .iload 3, .sipush 1, .iadd, .faload, .aload 0, .iload 3, .sipush 2, .iadd, .faload, .aload 0, .iload 3, .sipush 3, .iadd, .faload, .invokeinterface 158 4, .aload 2, .aload 0, .iload 3, .sipush 1, .iadd, .faload, .aload 0, .iload 3, .sipush 2, .iadd, .faload, .aload 0, .iload 3, .sipush 3, .iadd, .faload, .invokeinterface 281 4, .if_icmp .eq 1782, .sipush 0, .ireturn]),
  (1505, [.aload 1, .aload 0, .iload 3, .sipush 1, .iadd, .faload, .aload 0, .iload 3, .sipush 2, .iadd, .faload, .aload 0, .iload 3, .sipush 3, .iadd, .faload, .invokeinterface 159 4, .aload 2, .aload 0, .iload 3, .sipush 1, .iadd, .faload, .aload 0, .iload 3, .sipush 2, .iadd, .faload, .aload 0, .iload 3, .sipush 3, .iadd, .faload, .invokeinterface 283 4, .if_icmp .eq 1782, .sipush 0, .ireturn]),
  (1548, [.aload 1, .aload 0, .iload 3, .sipush 1, .iadd, .faload, .aload 0, .iload 3, .sipush 2, .iadd, .faload, .aload 0, .iload 3, .sipush 3, .iadd, .faload, .invokeinterface 160 4, .aload 2, .aload 0, .iload 3, .sipush 1, .iadd, .faload, .aload 0, .iload 3, .sipush 2, .iadd, .faload, .aload 0, .iload 3, .sipush 3, .iadd, .faload, .invokeinterface 285 4, .if_icmp .eq 1782, .sipush 0, .ireturn]),
  (1591, [.aload 1, .aload 0, .iload 3, .sipush 1, .iadd, .faload, .aload 0, .iload 3, .sipush 2, .iadd, .faload, .aload 0, .iload 3, .sipush 3, .iadd, .faload, .invokeinterface 162 4, .aload 2, .aload 0, .iload 3, .sipush 1, .iadd, .faload, .aload 0, .iload 3, .sipush 2, .iadd, .faload, .aload 0, .iload 3, .sipush 3, .iadd, .faload, .invokeinterface 286 4, .if_icmp .eq 1782, .sipush 0, .ireturn]),
  (1634, [.aload 1, .aload 0, .iload 3, .sipush 1, .iadd, .faload, .aload 0, .iload 3, .sipush 2, .iadd, .faload, .invokeinterface 163 3, .aload 2, .aload 0, .iload 3, .sipush 1, .iadd, .faload, .aload 0, .iload 3, .sipush 2, .iadd, .faload, .invokeinterface 287 3, .if_icmp .eq 1782, .sipush 0, .ireturn]),
  (1667, [.aload 1, .aload 0, .iload 3, .sipush 1, .iadd, .faload, .aload 0, .iload 3, .sipush 2, .iadd, .faload, .aload 0, .iload 3, .sipush 3, .iadd, .faload, .invokeinterface 165 4, .aload 2, .aload 0, .iload 3, .sipush 1, .iadd, .faload, .aload 0, .iload 3, .sipush 2, .iadd, .faload, .aload 0, .iload 3, .sipush 3, .iadd, .faload, .invokeinterface 289 4, .if_icmp .eq 1782, .sipush 0, .ireturn]),
  (1710, [.aload 1, .aload 0, .iload 3, .sipush 1, .iadd, .faload, .invokeinterface 166 2, .aload 2, .aload 0, .iload 3, .sipush 1, .iadd, .faload, .invokeinterface 295 2, .if_icmp .eq 1782, .sipush 0, .ireturn]),
  (1733, [.aload 1, .aload 0, .iload 3, .sipush 1, .iadd, .faload, .invokeinterface 167 2, .aload 2, .aload 0, .iload 3, .sipush 1, .iadd, .faload, .invokeinterface 296 2, .if_icmp .eq 1782, .sipush 0, .ireturn]),
  (1756, [.aload 1, .invokeinterface 168 1, .aload 2, .invokeinterface 298 1, .if_icmp .eq 1782, .sipush 0, .ireturn]),
  (1769, [.aload 1, .invokeinterface 169 1, .aload 2, .invokeinterface 299 1, .if_icmp .eq 1782, .sipush 0, .ireturn]),
  (1782, [.iinc 3 5, .goto 18]),
  (1788, [.sipush 1, .ireturn])]
def g_pr : List (List (Nat × List Instr)) := [g_c0, g_c1, g_c2, g_c3, g_c4, g_c5, g_c6, g_c7, g_c8, g_c9, g_c10, g_c11, g_c12, g_c13, g_c14, g_c15, g_c16, g_c17, g_c18, g_c19, g_c20, g_c21, g_c22, g_c23, g_c24, g_c25, g_c26, g_c27, g_c28, g_c29, g_c30, g_c31, g_c32, g_c33, g_c34, g_c35, g_c36, g_c37, g_c38, g_c39, g_c40, g_c41, g_c42, g_c43, g_c44, g_c45, g_c46, g_c47, g_c48, g_c49, g_c50, g_c51, g_c52, g_c53, g_c54, g_c55, g_c56, g_c57, g_c58, g_c59, g_c60, g_c61, g_c62, g_c63, g_c64, g_c65, g_c66, g_c67, g_c68, g_c69, g_c70, g_c71, g_c72, g_c73, g_c74, g_c75, g_c76, g_c77, g_c78, g_c79, g_c80, g_c81, g_c82, g_c83, g_c84, g_c85, g_c86, g_c87, g_c88, g_c89, g_c90, g_c91, g_c92, g_c93, g_c94, g_c95, g_c96, g_c97, g_c98, g_c99, g_c100, g_c101, g_c102, g_c103, g_c104, g_c105, g_c106, g_c107, g_c108, g_c109, g_c110, g_c111, g_c112, g_c113, g_c114, g_c115, g_c116, g_c117, g_c118, g_c119, g_c120, g_c121, g_c122, g_c123, g_c124, g_c125, g_c126, g_c127, g_c128, g_c129, g_c130, g_c131, g_c132, g_c133, g_c134, g_c135, g_c136, g_c137, g_c138, g_c139, g_c140, g_c141, g_c142, g_c143, g_c144, g_c145, g_c146, g_c147, g_c148, g_c149, g_c150, g_c151, g_c152, g_c153, g_c154, g_c155, g_c156, g_c157, g_c158, g_c159, g_c160, g_c161, g_c162, g_c163, g_c164, g_c165, g_c166, g_c167, g_c168, g_c169, g_c170, g_c171, g_c172, g_c173, g_c174, g_c175, g_c176, g_c177, g_c178, g_c179, g_c180, g_c181, g_c182, g_c183, g_c184, g_c185, g_c186, g_c187, g_c188, g_c189, g_c190, g_c191, g_c192, g_c193, g_c194, g_c195, g_c196, g_c197, g_c198, g_c199, g_c200, g_c201, g_c202, g_c203, g_c204, g_c205, g_c206, g_c207, g_c208, g_c209, g_c210, g_c211, g_c212, g_c213, g_c214, g_c215, g_c216, g_c217, g_c218, g_c219, g_c220, g_c221, g_c222, g_c223, g_c224, g_c225, g_c226, g_c227, g_c228, g_c229, g_c230, g_c231, g_c232, g_c233, g_c234, g_c235, g_c236, g_c237, g_c238, g_c239, g_c240, g_c241, g_c242, g_c243, g_c244, g_c245, g_c246, g_c247, g_c248, g_c249, g_c250, g_c251, g_c252, g_c253, g_c254, g_c255, g_c256, g_c257, g_c258, g_c259, g_c260, g_c261, g_c262, g_c263, g_c264, g_c265, g_c266, g_c267, g_c268, g_c269, g_c270, g_c271, g_c272, g_c273, g_c274, g_c275, g_c276, g_c277, g_c278, g_c279, g_c280, g_c281, g_c282, g_c283, g_c284, g_c285, g_c286, g_c287, g_c288, g_c289, g_c290, g_c291, g_c292, g_c293, g_c294, g_c295, g_c296, g_c297, g_c298, g_c299, g_c300, g_c301, g_c302, g_c303, g_c304, g_c305, g_c306, g_c307, g_c308]
def g_P (c l : Nat) : List Instr := ((g_pr.getD c []).lookup l).getD []
def g_mxs : List Nat := [1, 4, 4, 3, 2, 4, 5, 4, 1, 4, 7, 4, 1, 3, 2, 3, 2, 2, 3, 7, 4, 6, 7, 6, 1, 5, 3, 2, 1, 5, 1, 1, 1, 2, 2, 2, 2, 2, 2, 1, 2, 2, 2, 1, 2, 1, 2, 2, 1, 5, 3, 6, 2, 2, 5, 3, 4, 4, 1, 4, 2, 3, 2, 2, 1, 3, 3, 2, 5, 2, 2, 3, 2, 2, 4, 1, 1, 2, 3, 6, 2, 2, 2, 5, 6, 1, 2, 2, 7, 9, 4, 1, 5, 3, 4, 5, 3, 6, 6, 5, 9, 5, 6, 1, 5, 2, 2, 2, 5, 3, 3, 4, 3, 4, 4, 3, 3, 4, 3, 4, 3, 2, 2, 4, 2, 1, 3, 2, 5, 2, 2, 2, 2, 2, 2, 2, 2, 4, 2, 3, 2, 3, 3, 2, 2, 6, 2, 2, 1, 3, 1, 6, 2, 3, 4, 1, 4, 4, 5, 9, 7, 7, 4, 7, 2, 5, 2, 2, 1, 1, 2, 5, 3, 4, 2, 2, 2, 4, 1, 2, 3, 2, 2, 4, 1, 2, 2, 2, 6, 1, 1, 1, 4, 3, 2, 2, 3, 5, 3, 2, 3, 3, 3, 1, 6, 3, 3, 5, 4, 3, 3, 4, 3, 3, 2, 2, 2, 1, 4, 1, 4, 5, 2, 2, 3, 3, 3, 4, 3, 3, 2, 4, 2, 5, 2, 8, 2, 4, 7, 5, 6, 4, 4, 7, 2, 1, 3, 3, 8, 6, 3, 3, 3, 2, 3, 2, 5, 2, 9, 3, 7, 1, 3, 6, 9, 4, 2, 2, 1, 1, 7, 3, 3, 3, 5, 6, 2, 5, 1, 4, 2, 5, 3, 8, 4, 8, 4, 5, 2, 6, 3, 2, 3, 4, 4, 2, 2, 3, 2, 2, 1, 1, 1, 2, 1, 2, 2, 3, 4]
def g_mx (c : Nat) : Nat := g_mxs.getD c 0
end
section
/-! THE HEAP behind the two constructors: kinds and sizes, references -/
def h_K : List (Nat × Nat) := [(9, 9), (8, 17), (100, 6), (100, 6), (100, 6), (100, 6), (100, 6), (100, 6), (100, 16), (1, 7), (100, 8), (100, 8), (100, 8), (100, 200), (100, 5), (4, 5), (100, 6), (100, 6), (100, 6), (100, 6), (8, 17), (100, 6), (100, 6), (100, 6), (100, 6), (100, 6), (100, 6), (100, 16), (1, 7), (100, 8), (100, 8), (100, 8), (100, 200), (100, 5), (4, 5), (100, 6), (100, 6), (100, 6), (100, 6), (3, 14), (1, 7), (100, 8), (100, 8), (100, 8), (100, 200), (100, 5), (100, 200), (100, 200), (2, 9), (100, 4), (100, 4), (5, 3), (100, 12), (206, 4), (207, 4), (0, 6), (100, 30), (6, 3), (102, 40), (6, 3), (102, 40), (6, 3), (102, 40), (6, 3), (102, 40), (7, 4), (7, 4), (7, 4), (7, 4), (10, 39), (100, 322), (100, 322), (100, 74), (100, 200), (100, 200), (101, 144), (100, 200), (100, 24), (100, 370), (100, 4), (100, 4), (100, 16), (100, 16), (100, 12), (100, 4), (100, 4), (100, 160), (100, 4), (100, 4), (100, 30)]
def h_R : Nat → Nat → Nat
  | 0, 0 => 2
  | 0, 1 => 21
  | 0, 3 => 40
  | 0, 4 => 49
  | 0, 5 => 52
  | 0, 6 => 54
  | 0, 7 => 55
  | 0, 8 => 56
  | 1, 0 => 3
  | 1, 1 => 4
  | 1, 2 => 5
  | 1, 3 => 6
  | 1, 4 => 7
  | 1, 5 => 8
  | 1, 6 => 9
  | 1, 7 => 10
  | 1, 8 => 16
  | 9, 0 => 11
  | 9, 1 => 12
  | 9, 2 => 13
  | 9, 3 => 14
  | 9, 4 => 15
  | 15, 0 => 17
  | 15, 1 => 18
  | 15, 2 => 19
  | 15, 3 => 20
  | 20, 0 => 22
  | 20, 1 => 23
  | 20, 2 => 24
  | 20, 3 => 25
  | 20, 4 => 26
  | 20, 5 => 27
  | 20, 6 => 28
  | 20, 7 => 29
  | 20, 8 => 35
  | 28, 0 => 30
  | 28, 1 => 31
  | 28, 2 => 32
  | 28, 3 => 33
  | 28, 4 => 34
  | 34, 0 => 36
  | 34, 1 => 37
  | 34, 2 => 38
  | 34, 3 => 39
  | 39, 0 => 41
  | 39, 1 => 47
  | 39, 12 => 48
  | 40, 0 => 42
  | 40, 1 => 43
  | 40, 2 => 44
  | 40, 3 => 45
  | 40, 4 => 46
  | 48, 0 => 2
  | 48, 1 => 50
  | 48, 2 => 51
  | 51, 0 => 2
  | 51, 1 => 53
  | 53, 0 => 58
  | 53, 1 => 60
  | 53, 2 => 62
  | 53, 3 => 64
  | 54, 0 => 66
  | 54, 1 => 67
  | 54, 2 => 68
  | 54, 3 => 69
  | 55, 0 => 57
  | 57, 0 => 59
  | 59, 0 => 61
  | 61, 0 => 63
  | 63, 0 => 65
  | 69, 0 => 71
  | 69, 1 => 72
  | 69, 2 => 73
  | 69, 4 => 74
  | 69, 5 => 75
  | 69, 7 => 76
  | 69, 14 => 77
  | 69, 15 => 78
  | 69, 18 => 79
  | 69, 19 => 80
  | 69, 20 => 81
  | 69, 25 => 82
  | 69, 26 => 83
  | 69, 28 => 84
  | 69, 30 => 85
  | 69, 31 => 86
  | 69, 32 => 87
  | 69, 33 => 88
  | 69, 34 => 89
  | 69, 35 => 90
  | _, _ => 0
theorem o_0_576 : e_ob h_K 0 576 = true := by decide +kernel
theorem o_0_577 : e_ob h_K 0 577 = true := by decide +kernel
theorem o_0_578 : e_ob h_K 0 578 = true := by decide +kernel
theorem o_0_579 : e_ob h_K 0 579 = true := by decide +kernel
theorem o_0_580 : e_ob h_K 0 580 = true := by decide +kernel
theorem o_0_581 : e_ob h_K 0 581 = true := by decide +kernel
theorem o_0_582 : e_ob h_K 0 582 = true := by decide +kernel
theorem o_0_583 : e_ob h_K 0 583 = true := by decide +kernel
theorem o_0_584 : e_ob h_K 0 584 = true := by decide +kernel
theorem o_1_512 : e_ob h_K 1 512 = true := by decide +kernel
theorem o_1_513 : e_ob h_K 1 513 = true := by decide +kernel
theorem o_1_514 : e_ob h_K 1 514 = true := by decide +kernel
theorem o_1_515 : e_ob h_K 1 515 = true := by decide +kernel
theorem o_1_516 : e_ob h_K 1 516 = true := by decide +kernel
theorem o_1_517 : e_ob h_K 1 517 = true := by decide +kernel
theorem o_1_518 : e_ob h_K 1 518 = true := by decide +kernel
theorem o_1_519 : e_ob h_K 1 519 = true := by decide +kernel
theorem o_1_520 : e_ob h_K 1 520 = true := by decide +kernel
theorem o_1_521 : e_ob h_K 1 521 = true := by decide +kernel
theorem o_1_522 : e_ob h_K 1 522 = true := by decide +kernel
theorem o_1_523 : e_ob h_K 1 523 = true := by decide +kernel
theorem o_1_524 : e_ob h_K 1 524 = true := by decide +kernel
theorem o_1_525 : e_ob h_K 1 525 = true := by decide +kernel
theorem o_1_526 : e_ob h_K 1 526 = true := by decide +kernel
theorem o_1_527 : e_ob h_K 1 527 = true := by decide +kernel
theorem o_1_528 : e_ob h_K 1 528 = true := by decide +kernel
theorem a_2 : e_ar h_K 2 e_kI = 6 := by decide +kernel
theorem a_3 : e_ar h_K 3 e_kI = 6 := by decide +kernel
theorem a_4 : e_ar h_K 4 e_kI = 6 := by decide +kernel
theorem a_5 : e_ar h_K 5 e_kI = 6 := by decide +kernel
theorem a_6 : e_ar h_K 6 e_kI = 6 := by decide +kernel
theorem a_7 : e_ar h_K 7 e_kI = 6 := by decide +kernel
theorem a_8 : e_ar h_K 8 e_kI = 16 := by decide +kernel
theorem o_9_64 : e_ob h_K 9 64 = true := by decide +kernel
theorem o_9_65 : e_ob h_K 9 65 = true := by decide +kernel
theorem o_9_66 : e_ob h_K 9 66 = true := by decide +kernel
theorem o_9_67 : e_ob h_K 9 67 = true := by decide +kernel
theorem o_9_68 : e_ob h_K 9 68 = true := by decide +kernel
theorem o_9_69 : e_ob h_K 9 69 = true := by decide +kernel
theorem o_9_70 : e_ob h_K 9 70 = true := by decide +kernel
theorem a_10 : e_ar h_K 10 e_kI = 8 := by decide +kernel
theorem a_11 : e_ar h_K 11 e_kI = 8 := by decide +kernel
theorem a_12 : e_ar h_K 12 e_kI = 8 := by decide +kernel
theorem a_13 : e_ar h_K 13 e_kI = 200 := by decide +kernel
theorem a_14 : e_ar h_K 14 e_kI = 5 := by decide +kernel
theorem o_15_256 : e_ob h_K 15 256 = true := by decide +kernel
theorem o_15_257 : e_ob h_K 15 257 = true := by decide +kernel
theorem o_15_258 : e_ob h_K 15 258 = true := by decide +kernel
theorem o_15_259 : e_ob h_K 15 259 = true := by decide +kernel
theorem o_15_260 : e_ob h_K 15 260 = true := by decide +kernel
theorem a_16 : e_ar h_K 16 e_kI = 6 := by decide +kernel
theorem a_17 : e_ar h_K 17 e_kI = 6 := by decide +kernel
theorem a_18 : e_ar h_K 18 e_kI = 6 := by decide +kernel
theorem a_19 : e_ar h_K 19 e_kI = 6 := by decide +kernel
theorem o_20_512 : e_ob h_K 20 512 = true := by decide +kernel
theorem o_20_513 : e_ob h_K 20 513 = true := by decide +kernel
theorem o_20_514 : e_ob h_K 20 514 = true := by decide +kernel
theorem o_20_515 : e_ob h_K 20 515 = true := by decide +kernel
theorem o_20_516 : e_ob h_K 20 516 = true := by decide +kernel
theorem o_20_517 : e_ob h_K 20 517 = true := by decide +kernel
theorem o_20_518 : e_ob h_K 20 518 = true := by decide +kernel
theorem o_20_519 : e_ob h_K 20 519 = true := by decide +kernel
theorem o_20_520 : e_ob h_K 20 520 = true := by decide +kernel
theorem o_20_521 : e_ob h_K 20 521 = true := by decide +kernel
theorem o_20_522 : e_ob h_K 20 522 = true := by decide +kernel
theorem o_20_523 : e_ob h_K 20 523 = true := by decide +kernel
theorem o_20_524 : e_ob h_K 20 524 = true := by decide +kernel
theorem o_20_525 : e_ob h_K 20 525 = true := by decide +kernel
theorem o_20_526 : e_ob h_K 20 526 = true := by decide +kernel
theorem o_20_527 : e_ob h_K 20 527 = true := by decide +kernel
theorem o_20_528 : e_ob h_K 20 528 = true := by decide +kernel
theorem a_21 : e_ar h_K 21 e_kI = 6 := by decide +kernel
theorem a_22 : e_ar h_K 22 e_kI = 6 := by decide +kernel
theorem a_23 : e_ar h_K 23 e_kI = 6 := by decide +kernel
theorem a_24 : e_ar h_K 24 e_kI = 6 := by decide +kernel
theorem a_25 : e_ar h_K 25 e_kI = 6 := by decide +kernel
theorem a_26 : e_ar h_K 26 e_kI = 6 := by decide +kernel
theorem a_27 : e_ar h_K 27 e_kI = 16 := by decide +kernel
theorem o_28_64 : e_ob h_K 28 64 = true := by decide +kernel
theorem o_28_65 : e_ob h_K 28 65 = true := by decide +kernel
theorem o_28_66 : e_ob h_K 28 66 = true := by decide +kernel
theorem o_28_67 : e_ob h_K 28 67 = true := by decide +kernel
theorem o_28_68 : e_ob h_K 28 68 = true := by decide +kernel
theorem o_28_69 : e_ob h_K 28 69 = true := by decide +kernel
theorem o_28_70 : e_ob h_K 28 70 = true := by decide +kernel
theorem a_29 : e_ar h_K 29 e_kI = 8 := by decide +kernel
theorem a_30 : e_ar h_K 30 e_kI = 8 := by decide +kernel
theorem a_31 : e_ar h_K 31 e_kI = 8 := by decide +kernel
theorem a_32 : e_ar h_K 32 e_kI = 200 := by decide +kernel
theorem a_33 : e_ar h_K 33 e_kI = 5 := by decide +kernel
theorem o_34_256 : e_ob h_K 34 256 = true := by decide +kernel
theorem o_34_257 : e_ob h_K 34 257 = true := by decide +kernel
theorem o_34_258 : e_ob h_K 34 258 = true := by decide +kernel
theorem o_34_259 : e_ob h_K 34 259 = true := by decide +kernel
theorem o_34_260 : e_ob h_K 34 260 = true := by decide +kernel
theorem a_35 : e_ar h_K 35 e_kI = 6 := by decide +kernel
theorem a_36 : e_ar h_K 36 e_kI = 6 := by decide +kernel
theorem a_37 : e_ar h_K 37 e_kI = 6 := by decide +kernel
theorem a_38 : e_ar h_K 38 e_kI = 6 := by decide +kernel
theorem o_39_192 : e_ob h_K 39 192 = true := by decide +kernel
theorem o_39_193 : e_ob h_K 39 193 = true := by decide +kernel
theorem o_39_194 : e_ob h_K 39 194 = true := by decide +kernel
theorem o_39_195 : e_ob h_K 39 195 = true := by decide +kernel
theorem o_39_196 : e_ob h_K 39 196 = true := by decide +kernel
theorem o_39_197 : e_ob h_K 39 197 = true := by decide +kernel
theorem o_39_198 : e_ob h_K 39 198 = true := by decide +kernel
theorem o_39_199 : e_ob h_K 39 199 = true := by decide +kernel
theorem o_39_200 : e_ob h_K 39 200 = true := by decide +kernel
theorem o_39_201 : e_ob h_K 39 201 = true := by decide +kernel
theorem o_39_202 : e_ob h_K 39 202 = true := by decide +kernel
theorem o_39_203 : e_ob h_K 39 203 = true := by decide +kernel
theorem o_39_204 : e_ob h_K 39 204 = true := by decide +kernel
theorem o_39_205 : e_ob h_K 39 205 = true := by decide +kernel
theorem o_40_64 : e_ob h_K 40 64 = true := by decide +kernel
theorem o_40_65 : e_ob h_K 40 65 = true := by decide +kernel
theorem o_40_66 : e_ob h_K 40 66 = true := by decide +kernel
theorem o_40_67 : e_ob h_K 40 67 = true := by decide +kernel
theorem o_40_68 : e_ob h_K 40 68 = true := by decide +kernel
theorem o_40_69 : e_ob h_K 40 69 = true := by decide +kernel
theorem o_40_70 : e_ob h_K 40 70 = true := by decide +kernel
theorem a_41 : e_ar h_K 41 e_kI = 8 := by decide +kernel
theorem a_42 : e_ar h_K 42 e_kI = 8 := by decide +kernel
theorem a_43 : e_ar h_K 43 e_kI = 8 := by decide +kernel
theorem a_44 : e_ar h_K 44 e_kI = 200 := by decide +kernel
theorem a_45 : e_ar h_K 45 e_kI = 5 := by decide +kernel
theorem a_46 : e_ar h_K 46 e_kI = 200 := by decide +kernel
theorem a_47 : e_ar h_K 47 e_kI = 200 := by decide +kernel
theorem o_48_128 : e_ob h_K 48 128 = true := by decide +kernel
theorem o_48_129 : e_ob h_K 48 129 = true := by decide +kernel
theorem o_48_130 : e_ob h_K 48 130 = true := by decide +kernel
theorem o_48_131 : e_ob h_K 48 131 = true := by decide +kernel
theorem o_48_132 : e_ob h_K 48 132 = true := by decide +kernel
theorem o_48_133 : e_ob h_K 48 133 = true := by decide +kernel
theorem o_48_134 : e_ob h_K 48 134 = true := by decide +kernel
theorem o_48_135 : e_ob h_K 48 135 = true := by decide +kernel
theorem o_48_136 : e_ob h_K 48 136 = true := by decide +kernel
theorem a_49 : e_ar h_K 49 e_kI = 4 := by decide +kernel
theorem a_50 : e_ar h_K 50 e_kI = 4 := by decide +kernel
theorem o_51_320 : e_ob h_K 51 320 = true := by decide +kernel
theorem o_51_321 : e_ob h_K 51 321 = true := by decide +kernel
theorem o_51_322 : e_ob h_K 51 322 = true := by decide +kernel
theorem a_52 : e_ar h_K 52 e_kI = 12 := by decide +kernel
theorem a_53 : e_ar h_K 53 206 = 4 := by decide +kernel
theorem a_54 : e_ar h_K 54 207 = 4 := by decide +kernel
theorem o_55_0 : e_ob h_K 55 0 = true := by decide +kernel
theorem o_55_1 : e_ob h_K 55 1 = true := by decide +kernel
theorem o_55_2 : e_ob h_K 55 2 = true := by decide +kernel
theorem o_55_3 : e_ob h_K 55 3 = true := by decide +kernel
theorem o_55_4 : e_ob h_K 55 4 = true := by decide +kernel
theorem o_55_5 : e_ob h_K 55 5 = true := by decide +kernel
theorem a_56 : e_ar h_K 56 e_kI = 30 := by decide +kernel
theorem o_57_384 : e_ob h_K 57 384 = true := by decide +kernel
theorem o_57_385 : e_ob h_K 57 385 = true := by decide +kernel
theorem o_57_386 : e_ob h_K 57 386 = true := by decide +kernel
theorem a_58 : e_ar h_K 58 e_kJ = 40 := by decide +kernel
theorem o_59_384 : e_ob h_K 59 384 = true := by decide +kernel
theorem o_59_385 : e_ob h_K 59 385 = true := by decide +kernel
theorem o_59_386 : e_ob h_K 59 386 = true := by decide +kernel
theorem a_60 : e_ar h_K 60 e_kJ = 40 := by decide +kernel
theorem o_61_384 : e_ob h_K 61 384 = true := by decide +kernel
theorem o_61_385 : e_ob h_K 61 385 = true := by decide +kernel
theorem o_61_386 : e_ob h_K 61 386 = true := by decide +kernel
theorem a_62 : e_ar h_K 62 e_kJ = 40 := by decide +kernel
theorem o_63_384 : e_ob h_K 63 384 = true := by decide +kernel
theorem o_63_385 : e_ob h_K 63 385 = true := by decide +kernel
theorem o_63_386 : e_ob h_K 63 386 = true := by decide +kernel
theorem a_64 : e_ar h_K 64 e_kJ = 40 := by decide +kernel
theorem o_65_448 : e_ob h_K 65 448 = true := by decide +kernel
theorem o_65_449 : e_ob h_K 65 449 = true := by decide +kernel
theorem o_65_450 : e_ob h_K 65 450 = true := by decide +kernel
theorem o_65_451 : e_ob h_K 65 451 = true := by decide +kernel
theorem o_66_448 : e_ob h_K 66 448 = true := by decide +kernel
theorem o_66_449 : e_ob h_K 66 449 = true := by decide +kernel
theorem o_66_450 : e_ob h_K 66 450 = true := by decide +kernel
theorem o_66_451 : e_ob h_K 66 451 = true := by decide +kernel
theorem o_67_448 : e_ob h_K 67 448 = true := by decide +kernel
theorem o_67_449 : e_ob h_K 67 449 = true := by decide +kernel
theorem o_67_450 : e_ob h_K 67 450 = true := by decide +kernel
theorem o_67_451 : e_ob h_K 67 451 = true := by decide +kernel
theorem o_68_448 : e_ob h_K 68 448 = true := by decide +kernel
theorem o_68_449 : e_ob h_K 68 449 = true := by decide +kernel
theorem o_68_450 : e_ob h_K 68 450 = true := by decide +kernel
theorem o_68_451 : e_ob h_K 68 451 = true := by decide +kernel
theorem o_69_640 : e_ob h_K 69 640 = true := by decide +kernel
theorem o_69_641 : e_ob h_K 69 641 = true := by decide +kernel
theorem o_69_642 : e_ob h_K 69 642 = true := by decide +kernel
theorem o_69_643 : e_ob h_K 69 643 = true := by decide +kernel
theorem o_69_644 : e_ob h_K 69 644 = true := by decide +kernel
theorem o_69_645 : e_ob h_K 69 645 = true := by decide +kernel
theorem o_69_646 : e_ob h_K 69 646 = true := by decide +kernel
theorem o_69_647 : e_ob h_K 69 647 = true := by decide +kernel
theorem o_69_648 : e_ob h_K 69 648 = true := by decide +kernel
theorem o_69_649 : e_ob h_K 69 649 = true := by decide +kernel
theorem o_69_650 : e_ob h_K 69 650 = true := by decide +kernel
theorem o_69_651 : e_ob h_K 69 651 = true := by decide +kernel
theorem o_69_652 : e_ob h_K 69 652 = true := by decide +kernel
theorem o_69_653 : e_ob h_K 69 653 = true := by decide +kernel
theorem o_69_654 : e_ob h_K 69 654 = true := by decide +kernel
theorem o_69_655 : e_ob h_K 69 655 = true := by decide +kernel
theorem o_69_656 : e_ob h_K 69 656 = true := by decide +kernel
theorem o_69_657 : e_ob h_K 69 657 = true := by decide +kernel
theorem o_69_658 : e_ob h_K 69 658 = true := by decide +kernel
theorem o_69_659 : e_ob h_K 69 659 = true := by decide +kernel
theorem o_69_660 : e_ob h_K 69 660 = true := by decide +kernel
theorem o_69_661 : e_ob h_K 69 661 = true := by decide +kernel
theorem o_69_662 : e_ob h_K 69 662 = true := by decide +kernel
theorem o_69_663 : e_ob h_K 69 663 = true := by decide +kernel
theorem o_69_664 : e_ob h_K 69 664 = true := by decide +kernel
theorem o_69_665 : e_ob h_K 69 665 = true := by decide +kernel
theorem o_69_666 : e_ob h_K 69 666 = true := by decide +kernel
theorem o_69_667 : e_ob h_K 69 667 = true := by decide +kernel
theorem o_69_668 : e_ob h_K 69 668 = true := by decide +kernel
theorem o_69_669 : e_ob h_K 69 669 = true := by decide +kernel
theorem o_69_670 : e_ob h_K 69 670 = true := by decide +kernel
theorem o_69_671 : e_ob h_K 69 671 = true := by decide +kernel
theorem o_69_672 : e_ob h_K 69 672 = true := by decide +kernel
theorem o_69_673 : e_ob h_K 69 673 = true := by decide +kernel
theorem o_69_674 : e_ob h_K 69 674 = true := by decide +kernel
theorem o_69_675 : e_ob h_K 69 675 = true := by decide +kernel
theorem o_69_676 : e_ob h_K 69 676 = true := by decide +kernel
theorem o_69_677 : e_ob h_K 69 677 = true := by decide +kernel
theorem o_69_678 : e_ob h_K 69 678 = true := by decide +kernel
theorem a_70 : e_ar h_K 70 e_kI = 322 := by decide +kernel
theorem a_71 : e_ar h_K 71 e_kI = 322 := by decide +kernel
theorem a_72 : e_ar h_K 72 e_kI = 74 := by decide +kernel
theorem a_73 : e_ar h_K 73 e_kI = 200 := by decide +kernel
theorem a_74 : e_ar h_K 74 e_kI = 200 := by decide +kernel
theorem a_75 : e_ar h_K 75 e_kC = 144 := by decide +kernel
theorem a_76 : e_ar h_K 76 e_kI = 200 := by decide +kernel
theorem a_77 : e_ar h_K 77 e_kI = 24 := by decide +kernel
theorem a_78 : e_ar h_K 78 e_kI = 370 := by decide +kernel
theorem a_79 : e_ar h_K 79 e_kI = 4 := by decide +kernel
theorem a_80 : e_ar h_K 80 e_kI = 4 := by decide +kernel
theorem a_81 : e_ar h_K 81 e_kI = 16 := by decide +kernel
theorem a_82 : e_ar h_K 82 e_kI = 16 := by decide +kernel
theorem a_83 : e_ar h_K 83 e_kI = 12 := by decide +kernel
theorem a_84 : e_ar h_K 84 e_kI = 4 := by decide +kernel
theorem a_85 : e_ar h_K 85 e_kI = 4 := by decide +kernel
theorem a_86 : e_ar h_K 86 e_kI = 160 := by decide +kernel
theorem a_87 : e_ar h_K 87 e_kI = 4 := by decide +kernel
theorem a_88 : e_ar h_K 88 e_kI = 4 := by decide +kernel
theorem a_89 : e_ar h_K 89 e_kI = 30 := by decide +kernel
theorem r_0_0 : h_R 0 0 = 2 := by decide +kernel
theorem r_0_1 : h_R 0 1 = 21 := by decide +kernel
theorem r_0_3 : h_R 0 3 = 40 := by decide +kernel
theorem r_0_4 : h_R 0 4 = 49 := by decide +kernel
theorem r_0_5 : h_R 0 5 = 52 := by decide +kernel
theorem r_0_6 : h_R 0 6 = 54 := by decide +kernel
theorem r_0_7 : h_R 0 7 = 55 := by decide +kernel
theorem r_0_8 : h_R 0 8 = 56 := by decide +kernel
theorem r_1_0 : h_R 1 0 = 3 := by decide +kernel
theorem r_1_1 : h_R 1 1 = 4 := by decide +kernel
theorem r_1_2 : h_R 1 2 = 5 := by decide +kernel
theorem r_1_3 : h_R 1 3 = 6 := by decide +kernel
theorem r_1_4 : h_R 1 4 = 7 := by decide +kernel
theorem r_1_5 : h_R 1 5 = 8 := by decide +kernel
theorem r_1_6 : h_R 1 6 = 9 := by decide +kernel
theorem r_1_7 : h_R 1 7 = 10 := by decide +kernel
theorem r_1_8 : h_R 1 8 = 16 := by decide +kernel
theorem r_9_0 : h_R 9 0 = 11 := by decide +kernel
theorem r_9_1 : h_R 9 1 = 12 := by decide +kernel
theorem r_9_2 : h_R 9 2 = 13 := by decide +kernel
theorem r_9_3 : h_R 9 3 = 14 := by decide +kernel
theorem r_9_4 : h_R 9 4 = 15 := by decide +kernel
theorem r_15_0 : h_R 15 0 = 17 := by decide +kernel
theorem r_15_1 : h_R 15 1 = 18 := by decide +kernel
theorem r_15_2 : h_R 15 2 = 19 := by decide +kernel
theorem r_15_3 : h_R 15 3 = 20 := by decide +kernel
theorem r_20_0 : h_R 20 0 = 22 := by decide +kernel
theorem r_20_1 : h_R 20 1 = 23 := by decide +kernel
theorem r_20_2 : h_R 20 2 = 24 := by decide +kernel
theorem r_20_3 : h_R 20 3 = 25 := by decide +kernel
theorem r_20_4 : h_R 20 4 = 26 := by decide +kernel
theorem r_20_5 : h_R 20 5 = 27 := by decide +kernel
theorem r_20_6 : h_R 20 6 = 28 := by decide +kernel
theorem r_20_7 : h_R 20 7 = 29 := by decide +kernel
theorem r_20_8 : h_R 20 8 = 35 := by decide +kernel
theorem r_28_0 : h_R 28 0 = 30 := by decide +kernel
theorem r_28_1 : h_R 28 1 = 31 := by decide +kernel
theorem r_28_2 : h_R 28 2 = 32 := by decide +kernel
theorem r_28_3 : h_R 28 3 = 33 := by decide +kernel
theorem r_28_4 : h_R 28 4 = 34 := by decide +kernel
theorem r_34_0 : h_R 34 0 = 36 := by decide +kernel
theorem r_34_1 : h_R 34 1 = 37 := by decide +kernel
theorem r_34_2 : h_R 34 2 = 38 := by decide +kernel
theorem r_34_3 : h_R 34 3 = 39 := by decide +kernel
theorem r_39_0 : h_R 39 0 = 41 := by decide +kernel
theorem r_39_1 : h_R 39 1 = 47 := by decide +kernel
theorem r_39_12 : h_R 39 12 = 48 := by decide +kernel
theorem r_40_0 : h_R 40 0 = 42 := by decide +kernel
theorem r_40_1 : h_R 40 1 = 43 := by decide +kernel
theorem r_40_2 : h_R 40 2 = 44 := by decide +kernel
theorem r_40_3 : h_R 40 3 = 45 := by decide +kernel
theorem r_40_4 : h_R 40 4 = 46 := by decide +kernel
theorem r_48_0 : h_R 48 0 = 2 := by decide +kernel
theorem r_48_1 : h_R 48 1 = 50 := by decide +kernel
theorem r_48_2 : h_R 48 2 = 51 := by decide +kernel
theorem r_51_0 : h_R 51 0 = 2 := by decide +kernel
theorem r_51_1 : h_R 51 1 = 53 := by decide +kernel
theorem r_53_0 : h_R 53 0 = 58 := by decide +kernel
theorem r_53_1 : h_R 53 1 = 60 := by decide +kernel
theorem r_53_2 : h_R 53 2 = 62 := by decide +kernel
theorem r_53_3 : h_R 53 3 = 64 := by decide +kernel
theorem r_54_0 : h_R 54 0 = 66 := by decide +kernel
theorem r_54_1 : h_R 54 1 = 67 := by decide +kernel
theorem r_54_2 : h_R 54 2 = 68 := by decide +kernel
theorem r_54_3 : h_R 54 3 = 69 := by decide +kernel
theorem r_55_0 : h_R 55 0 = 57 := by decide +kernel
theorem r_57_0 : h_R 57 0 = 59 := by decide +kernel
theorem r_59_0 : h_R 59 0 = 61 := by decide +kernel
theorem r_61_0 : h_R 61 0 = 63 := by decide +kernel
theorem r_63_0 : h_R 63 0 = 65 := by decide +kernel
theorem r_69_0 : h_R 69 0 = 71 := by decide +kernel
theorem r_69_1 : h_R 69 1 = 72 := by decide +kernel
theorem r_69_2 : h_R 69 2 = 73 := by decide +kernel
theorem r_69_4 : h_R 69 4 = 74 := by decide +kernel
theorem r_69_5 : h_R 69 5 = 75 := by decide +kernel
theorem r_69_7 : h_R 69 7 = 76 := by decide +kernel
theorem r_69_14 : h_R 69 14 = 77 := by decide +kernel
theorem r_69_15 : h_R 69 15 = 78 := by decide +kernel
theorem r_69_18 : h_R 69 18 = 79 := by decide +kernel
theorem r_69_19 : h_R 69 19 = 80 := by decide +kernel
theorem r_69_20 : h_R 69 20 = 81 := by decide +kernel
theorem r_69_25 : h_R 69 25 = 82 := by decide +kernel
theorem r_69_26 : h_R 69 26 = 83 := by decide +kernel
theorem r_69_28 : h_R 69 28 = 84 := by decide +kernel
theorem r_69_30 : h_R 69 30 = 85 := by decide +kernel
theorem r_69_31 : h_R 69 31 = 86 := by decide +kernel
theorem r_69_32 : h_R 69 32 = 87 := by decide +kernel
theorem r_69_33 : h_R 69 33 = 88 := by decide +kernel
theorem r_69_34 : h_R 69 34 = 89 := by decide +kernel
theorem r_69_35 : h_R 69 35 = 90 := by decide +kernel
end
section
/-! STEPS of the evaluator over this program, as rows for simp -/
/-- an int by its value -/
def iI (z : Int) : Int32 := Int32.ofInt z
noncomputable def s_S (X : e_X) (d c : Nat) (as : List Value) (m : e_M) : e_R := e_S g_P g_mx X d c as m
noncomputable def s_g (X : e_X) (d c l : Nat) (ls st : List Value) (m : e_M) : e_R := e_go g_P X (s_S X d) c l ls st m
/-- a jump -/
noncomputable def s_j (X : e_X) (d c : Nat) (t : Int) (ls st : List Value) (m : e_M) : e_R := s_g X d c t.toNat ls st m
noncomputable def s_x (X : e_X) (d c : Nat) (is : List Instr) (ls st : List Value) (m : e_M) : e_R := e_x X (s_S X d) (s_g X d c) is ls st m
theorem s_g_eq {X : e_X} {d c l : Nat} {ls st : List Value} {m : e_M} : s_g X d c l ls st m = s_x X d c (g_P c l) ls st m := e_go_eq _ _ _ _ _ _
/-- not a long -/
def e_nl : Value → Bool
  | .long _ => false
  | _ => true
/-- behind a call -/
def e_k (r : e_R) (f : List Value → e_M → e_R) : e_R := match r with
  | some (v, m) => f v m
  | none => none
theorem e_k_s {v : List Value} {m : e_M} {f : List Value → e_M → e_R} : e_k (some (v, m)) f = f v m := rfl
theorem e_nl_i {x : Int32} : e_nl (.int x) = true := rfl
theorem e_nl_r {x : Nat} : e_nl (.ref x) = true := rfl
theorem e_nl_u {x : Nat} : e_nl (.retAddr x) = true := rfl
theorem e_sw_n {X : e_X} {d c : Nat} {ls st : List Value} {m : e_M} {e : Int} {x : Int32} : e_sw (fun t => s_g X d c t ls st m) e [] x = s_j X d c e ls st m := rfl
theorem e_sw_c {X : e_X} {d c : Nat} {ls st : List Value} {m : e_M} {e a t : Int} {r : List (Int × Int)} {x : Int32} : e_sw (fun t => s_g X d c t ls st m) e ((a, t) :: r) x = if x.toInt = a then s_j X d c t ls st m else e_sw (fun t => s_g X d c t ls st m) e r x := rfl
theorem e_rf_0 : e_rf 0 = .null := rfl
theorem e_rf_s {n : Nat} : e_rf (n + 1) = .ref n := rfl
section
variable {X : e_X} {d c : Nat} {is : List Instr} {ls l st r : List Value} {m : e_M}
theorem x_sipush {v : Int} : s_x X d c (.sipush v :: is) (ls) (st) m = s_x X d c is (ls) (.int (iI v) :: st) m := rfl
theorem x_lconst {v : Int} : s_x X d c (.goto_w v :: is) (ls) (st) m = s_x X d c is (ls) (.long (Int64.ofInt v) :: st) m := rfl
theorem x_iload0 {x : Int32} : s_x X d c (.iload 0 :: is) (.int x :: l) (st) m = s_x X d c is (.int x :: l) (.int x :: st) m := rfl
theorem x_aload0 {x : Nat} : s_x X d c (.aload 0 :: is) (.ref x :: l) (st) m = s_x X d c is (.ref x :: l) (.ref x :: st) m := rfl
theorem x_lload0 {x : Int64} : s_x X d c (.lload 0 :: is) (.long x :: l) (st) m = s_x X d c is (.long x :: l) (.long x :: st) m := rfl
theorem x_istore0 {x : Int32} {w : Value} : s_x X d c (.istore 0 :: is) (w :: l) (.int x :: st) m = s_x X d c is (.int x :: l) (st) m := rfl
theorem x_astore0 {x : Nat} {w : Value} : s_x X d c (.astore 0 :: is) (w :: l) (.ref x :: st) m = s_x X d c is (.ref x :: l) (st) m := rfl
theorem x_lstore0 {x : Int64} {w w2 : Value} : s_x X d c (.lstore 0 :: is) (w :: w2 :: l) (.long x :: st) m = s_x X d c is (.long x :: .retAddr 0 :: l) (st) m := rfl
theorem x_iinc0 {x : Int32} {v : Int} : s_x X d c (.iinc 0 v :: is) (.int x :: l) (st) m = s_x X d c is (.int (x + iI v) :: l) (st) m := rfl
theorem x_iload1 {b0 : Value} {x : Int32} : s_x X d c (.iload 1 :: is) (b0 :: .int x :: l) (st) m = s_x X d c is (b0 :: .int x :: l) (.int x :: st) m := rfl
theorem x_aload1 {b0 : Value} {x : Nat} : s_x X d c (.aload 1 :: is) (b0 :: .ref x :: l) (st) m = s_x X d c is (b0 :: .ref x :: l) (.ref x :: st) m := rfl
theorem x_lload1 {b0 : Value} {x : Int64} : s_x X d c (.lload 1 :: is) (b0 :: .long x :: l) (st) m = s_x X d c is (b0 :: .long x :: l) (.long x :: st) m := rfl
theorem x_istore1i {p : Int32} {x : Int32} {w : Value} : s_x X d c (.istore 1 :: is) (.int p :: w :: l) (.int x :: st) m = s_x X d c is (.int p :: .int x :: l) (st) m := rfl
theorem x_astore1i {p : Int32} {x : Nat} {w : Value} : s_x X d c (.astore 1 :: is) (.int p :: w :: l) (.ref x :: st) m = s_x X d c is (.int p :: .ref x :: l) (st) m := rfl
theorem x_lstore1i {p : Int32} {x : Int64} {w w2 : Value} : s_x X d c (.lstore 1 :: is) (.int p :: w :: w2 :: l) (.long x :: st) m = s_x X d c is (.int p :: .long x :: .retAddr 0 :: l) (st) m := rfl
theorem x_iinc1i {p : Int32} {x : Int32} {v : Int} : s_x X d c (.iinc 1 v :: is) (.int p :: .int x :: l) (st) m = s_x X d c is (.int p :: .int (x + iI v) :: l) (st) m := rfl
theorem x_istore1r {p : Nat} {x : Int32} {w : Value} : s_x X d c (.istore 1 :: is) (.ref p :: w :: l) (.int x :: st) m = s_x X d c is (.ref p :: .int x :: l) (st) m := rfl
theorem x_astore1r {p : Nat} {x : Nat} {w : Value} : s_x X d c (.astore 1 :: is) (.ref p :: w :: l) (.ref x :: st) m = s_x X d c is (.ref p :: .ref x :: l) (st) m := rfl
theorem x_lstore1r {p : Nat} {x : Int64} {w w2 : Value} : s_x X d c (.lstore 1 :: is) (.ref p :: w :: w2 :: l) (.long x :: st) m = s_x X d c is (.ref p :: .long x :: .retAddr 0 :: l) (st) m := rfl
theorem x_iinc1r {p : Nat} {x : Int32} {v : Int} : s_x X d c (.iinc 1 v :: is) (.ref p :: .int x :: l) (st) m = s_x X d c is (.ref p :: .int (x + iI v) :: l) (st) m := rfl
theorem x_istore1u {p : Nat} {x : Int32} {w : Value} : s_x X d c (.istore 1 :: is) (.retAddr p :: w :: l) (.int x :: st) m = s_x X d c is (.retAddr p :: .int x :: l) (st) m := rfl
theorem x_astore1u {p : Nat} {x : Nat} {w : Value} : s_x X d c (.astore 1 :: is) (.retAddr p :: w :: l) (.ref x :: st) m = s_x X d c is (.retAddr p :: .ref x :: l) (st) m := rfl
theorem x_lstore1u {p : Nat} {x : Int64} {w w2 : Value} : s_x X d c (.lstore 1 :: is) (.retAddr p :: w :: w2 :: l) (.long x :: st) m = s_x X d c is (.retAddr p :: .long x :: .retAddr 0 :: l) (st) m := rfl
theorem x_iinc1u {p : Nat} {x : Int32} {v : Int} : s_x X d c (.iinc 1 v :: is) (.retAddr p :: .int x :: l) (st) m = s_x X d c is (.retAddr p :: .int (x + iI v) :: l) (st) m := rfl
theorem x_iload2 {b0 b1 : Value} {x : Int32} : s_x X d c (.iload 2 :: is) (b0 :: b1 :: .int x :: l) (st) m = s_x X d c is (b0 :: b1 :: .int x :: l) (.int x :: st) m := rfl
theorem x_aload2 {b0 b1 : Value} {x : Nat} : s_x X d c (.aload 2 :: is) (b0 :: b1 :: .ref x :: l) (st) m = s_x X d c is (b0 :: b1 :: .ref x :: l) (.ref x :: st) m := rfl
theorem x_lload2 {b0 b1 : Value} {x : Int64} : s_x X d c (.lload 2 :: is) (b0 :: b1 :: .long x :: l) (st) m = s_x X d c is (b0 :: b1 :: .long x :: l) (.long x :: st) m := rfl
theorem x_istore2i {b0 : Value} {p : Int32} {x : Int32} {w : Value} : s_x X d c (.istore 2 :: is) (b0 :: .int p :: w :: l) (.int x :: st) m = s_x X d c is (b0 :: .int p :: .int x :: l) (st) m := rfl
theorem x_astore2i {b0 : Value} {p : Int32} {x : Nat} {w : Value} : s_x X d c (.astore 2 :: is) (b0 :: .int p :: w :: l) (.ref x :: st) m = s_x X d c is (b0 :: .int p :: .ref x :: l) (st) m := rfl
theorem x_lstore2i {b0 : Value} {p : Int32} {x : Int64} {w w2 : Value} : s_x X d c (.lstore 2 :: is) (b0 :: .int p :: w :: w2 :: l) (.long x :: st) m = s_x X d c is (b0 :: .int p :: .long x :: .retAddr 0 :: l) (st) m := rfl
theorem x_iinc2i {b0 : Value} {p : Int32} {x : Int32} {v : Int} : s_x X d c (.iinc 2 v :: is) (b0 :: .int p :: .int x :: l) (st) m = s_x X d c is (b0 :: .int p :: .int (x + iI v) :: l) (st) m := rfl
theorem x_istore2r {b0 : Value} {p : Nat} {x : Int32} {w : Value} : s_x X d c (.istore 2 :: is) (b0 :: .ref p :: w :: l) (.int x :: st) m = s_x X d c is (b0 :: .ref p :: .int x :: l) (st) m := rfl
theorem x_astore2r {b0 : Value} {p : Nat} {x : Nat} {w : Value} : s_x X d c (.astore 2 :: is) (b0 :: .ref p :: w :: l) (.ref x :: st) m = s_x X d c is (b0 :: .ref p :: .ref x :: l) (st) m := rfl
theorem x_lstore2r {b0 : Value} {p : Nat} {x : Int64} {w w2 : Value} : s_x X d c (.lstore 2 :: is) (b0 :: .ref p :: w :: w2 :: l) (.long x :: st) m = s_x X d c is (b0 :: .ref p :: .long x :: .retAddr 0 :: l) (st) m := rfl
theorem x_iinc2r {b0 : Value} {p : Nat} {x : Int32} {v : Int} : s_x X d c (.iinc 2 v :: is) (b0 :: .ref p :: .int x :: l) (st) m = s_x X d c is (b0 :: .ref p :: .int (x + iI v) :: l) (st) m := rfl
theorem x_istore2u {b0 : Value} {p : Nat} {x : Int32} {w : Value} : s_x X d c (.istore 2 :: is) (b0 :: .retAddr p :: w :: l) (.int x :: st) m = s_x X d c is (b0 :: .retAddr p :: .int x :: l) (st) m := rfl
theorem x_astore2u {b0 : Value} {p : Nat} {x : Nat} {w : Value} : s_x X d c (.astore 2 :: is) (b0 :: .retAddr p :: w :: l) (.ref x :: st) m = s_x X d c is (b0 :: .retAddr p :: .ref x :: l) (st) m := rfl
theorem x_lstore2u {b0 : Value} {p : Nat} {x : Int64} {w w2 : Value} : s_x X d c (.lstore 2 :: is) (b0 :: .retAddr p :: w :: w2 :: l) (.long x :: st) m = s_x X d c is (b0 :: .retAddr p :: .long x :: .retAddr 0 :: l) (st) m := rfl
theorem x_iinc2u {b0 : Value} {p : Nat} {x : Int32} {v : Int} : s_x X d c (.iinc 2 v :: is) (b0 :: .retAddr p :: .int x :: l) (st) m = s_x X d c is (b0 :: .retAddr p :: .int (x + iI v) :: l) (st) m := rfl
theorem x_iload3 {b0 b1 b2 : Value} {x : Int32} : s_x X d c (.iload 3 :: is) (b0 :: b1 :: b2 :: .int x :: l) (st) m = s_x X d c is (b0 :: b1 :: b2 :: .int x :: l) (.int x :: st) m := rfl
theorem x_aload3 {b0 b1 b2 : Value} {x : Nat} : s_x X d c (.aload 3 :: is) (b0 :: b1 :: b2 :: .ref x :: l) (st) m = s_x X d c is (b0 :: b1 :: b2 :: .ref x :: l) (.ref x :: st) m := rfl
theorem x_lload3 {b0 b1 b2 : Value} {x : Int64} : s_x X d c (.lload 3 :: is) (b0 :: b1 :: b2 :: .long x :: l) (st) m = s_x X d c is (b0 :: b1 :: b2 :: .long x :: l) (.long x :: st) m := rfl
theorem x_istore3i {b0 b1 : Value} {p : Int32} {x : Int32} {w : Value} : s_x X d c (.istore 3 :: is) (b0 :: b1 :: .int p :: w :: l) (.int x :: st) m = s_x X d c is (b0 :: b1 :: .int p :: .int x :: l) (st) m := rfl
theorem x_astore3i {b0 b1 : Value} {p : Int32} {x : Nat} {w : Value} : s_x X d c (.astore 3 :: is) (b0 :: b1 :: .int p :: w :: l) (.ref x :: st) m = s_x X d c is (b0 :: b1 :: .int p :: .ref x :: l) (st) m := rfl
theorem x_lstore3i {b0 b1 : Value} {p : Int32} {x : Int64} {w w2 : Value} : s_x X d c (.lstore 3 :: is) (b0 :: b1 :: .int p :: w :: w2 :: l) (.long x :: st) m = s_x X d c is (b0 :: b1 :: .int p :: .long x :: .retAddr 0 :: l) (st) m := rfl
theorem x_iinc3i {b0 b1 : Value} {p : Int32} {x : Int32} {v : Int} : s_x X d c (.iinc 3 v :: is) (b0 :: b1 :: .int p :: .int x :: l) (st) m = s_x X d c is (b0 :: b1 :: .int p :: .int (x + iI v) :: l) (st) m := rfl
theorem x_istore3r {b0 b1 : Value} {p : Nat} {x : Int32} {w : Value} : s_x X d c (.istore 3 :: is) (b0 :: b1 :: .ref p :: w :: l) (.int x :: st) m = s_x X d c is (b0 :: b1 :: .ref p :: .int x :: l) (st) m := rfl
theorem x_astore3r {b0 b1 : Value} {p : Nat} {x : Nat} {w : Value} : s_x X d c (.astore 3 :: is) (b0 :: b1 :: .ref p :: w :: l) (.ref x :: st) m = s_x X d c is (b0 :: b1 :: .ref p :: .ref x :: l) (st) m := rfl
theorem x_lstore3r {b0 b1 : Value} {p : Nat} {x : Int64} {w w2 : Value} : s_x X d c (.lstore 3 :: is) (b0 :: b1 :: .ref p :: w :: w2 :: l) (.long x :: st) m = s_x X d c is (b0 :: b1 :: .ref p :: .long x :: .retAddr 0 :: l) (st) m := rfl
theorem x_iinc3r {b0 b1 : Value} {p : Nat} {x : Int32} {v : Int} : s_x X d c (.iinc 3 v :: is) (b0 :: b1 :: .ref p :: .int x :: l) (st) m = s_x X d c is (b0 :: b1 :: .ref p :: .int (x + iI v) :: l) (st) m := rfl
theorem x_istore3u {b0 b1 : Value} {p : Nat} {x : Int32} {w : Value} : s_x X d c (.istore 3 :: is) (b0 :: b1 :: .retAddr p :: w :: l) (.int x :: st) m = s_x X d c is (b0 :: b1 :: .retAddr p :: .int x :: l) (st) m := rfl
theorem x_astore3u {b0 b1 : Value} {p : Nat} {x : Nat} {w : Value} : s_x X d c (.astore 3 :: is) (b0 :: b1 :: .retAddr p :: w :: l) (.ref x :: st) m = s_x X d c is (b0 :: b1 :: .retAddr p :: .ref x :: l) (st) m := rfl
theorem x_lstore3u {b0 b1 : Value} {p : Nat} {x : Int64} {w w2 : Value} : s_x X d c (.lstore 3 :: is) (b0 :: b1 :: .retAddr p :: w :: w2 :: l) (.long x :: st) m = s_x X d c is (b0 :: b1 :: .retAddr p :: .long x :: .retAddr 0 :: l) (st) m := rfl
theorem x_iinc3u {b0 b1 : Value} {p : Nat} {x : Int32} {v : Int} : s_x X d c (.iinc 3 v :: is) (b0 :: b1 :: .retAddr p :: .int x :: l) (st) m = s_x X d c is (b0 :: b1 :: .retAddr p :: .int (x + iI v) :: l) (st) m := rfl
theorem x_iload4 {b0 b1 b2 b3 : Value} {x : Int32} : s_x X d c (.iload 4 :: is) (b0 :: b1 :: b2 :: b3 :: .int x :: l) (st) m = s_x X d c is (b0 :: b1 :: b2 :: b3 :: .int x :: l) (.int x :: st) m := rfl
theorem x_aload4 {b0 b1 b2 b3 : Value} {x : Nat} : s_x X d c (.aload 4 :: is) (b0 :: b1 :: b2 :: b3 :: .ref x :: l) (st) m = s_x X d c is (b0 :: b1 :: b2 :: b3 :: .ref x :: l) (.ref x :: st) m := rfl
theorem x_lload4 {b0 b1 b2 b3 : Value} {x : Int64} : s_x X d c (.lload 4 :: is) (b0 :: b1 :: b2 :: b3 :: .long x :: l) (st) m = s_x X d c is (b0 :: b1 :: b2 :: b3 :: .long x :: l) (.long x :: st) m := rfl
theorem x_istore4i {b0 b1 b2 : Value} {p : Int32} {x : Int32} {w : Value} : s_x X d c (.istore 4 :: is) (b0 :: b1 :: b2 :: .int p :: w :: l) (.int x :: st) m = s_x X d c is (b0 :: b1 :: b2 :: .int p :: .int x :: l) (st) m := rfl
theorem x_astore4i {b0 b1 b2 : Value} {p : Int32} {x : Nat} {w : Value} : s_x X d c (.astore 4 :: is) (b0 :: b1 :: b2 :: .int p :: w :: l) (.ref x :: st) m = s_x X d c is (b0 :: b1 :: b2 :: .int p :: .ref x :: l) (st) m := rfl
theorem x_lstore4i {b0 b1 b2 : Value} {p : Int32} {x : Int64} {w w2 : Value} : s_x X d c (.lstore 4 :: is) (b0 :: b1 :: b2 :: .int p :: w :: w2 :: l) (.long x :: st) m = s_x X d c is (b0 :: b1 :: b2 :: .int p :: .long x :: .retAddr 0 :: l) (st) m := rfl
theorem x_iinc4i {b0 b1 b2 : Value} {p : Int32} {x : Int32} {v : Int} : s_x X d c (.iinc 4 v :: is) (b0 :: b1 :: b2 :: .int p :: .int x :: l) (st) m = s_x X d c is (b0 :: b1 :: b2 :: .int p :: .int (x + iI v) :: l) (st) m := rfl
theorem x_istore4r {b0 b1 b2 : Value} {p : Nat} {x : Int32} {w : Value} : s_x X d c (.istore 4 :: is) (b0 :: b1 :: b2 :: .ref p :: w :: l) (.int x :: st) m = s_x X d c is (b0 :: b1 :: b2 :: .ref p :: .int x :: l) (st) m := rfl
theorem x_astore4r {b0 b1 b2 : Value} {p : Nat} {x : Nat} {w : Value} : s_x X d c (.astore 4 :: is) (b0 :: b1 :: b2 :: .ref p :: w :: l) (.ref x :: st) m = s_x X d c is (b0 :: b1 :: b2 :: .ref p :: .ref x :: l) (st) m := rfl
theorem x_lstore4r {b0 b1 b2 : Value} {p : Nat} {x : Int64} {w w2 : Value} : s_x X d c (.lstore 4 :: is) (b0 :: b1 :: b2 :: .ref p :: w :: w2 :: l) (.long x :: st) m = s_x X d c is (b0 :: b1 :: b2 :: .ref p :: .long x :: .retAddr 0 :: l) (st) m := rfl
theorem x_iinc4r {b0 b1 b2 : Value} {p : Nat} {x : Int32} {v : Int} : s_x X d c (.iinc 4 v :: is) (b0 :: b1 :: b2 :: .ref p :: .int x :: l) (st) m = s_x X d c is (b0 :: b1 :: b2 :: .ref p :: .int (x + iI v) :: l) (st) m := rfl
theorem x_istore4u {b0 b1 b2 : Value} {p : Nat} {x : Int32} {w : Value} : s_x X d c (.istore 4 :: is) (b0 :: b1 :: b2 :: .retAddr p :: w :: l) (.int x :: st) m = s_x X d c is (b0 :: b1 :: b2 :: .retAddr p :: .int x :: l) (st) m := rfl
theorem x_astore4u {b0 b1 b2 : Value} {p : Nat} {x : Nat} {w : Value} : s_x X d c (.astore 4 :: is) (b0 :: b1 :: b2 :: .retAddr p :: w :: l) (.ref x :: st) m = s_x X d c is (b0 :: b1 :: b2 :: .retAddr p :: .ref x :: l) (st) m := rfl
theorem x_lstore4u {b0 b1 b2 : Value} {p : Nat} {x : Int64} {w w2 : Value} : s_x X d c (.lstore 4 :: is) (b0 :: b1 :: b2 :: .retAddr p :: w :: w2 :: l) (.long x :: st) m = s_x X d c is (b0 :: b1 :: b2 :: .retAddr p :: .long x :: .retAddr 0 :: l) (st) m := rfl
theorem x_iinc4u {b0 b1 b2 : Value} {p : Nat} {x : Int32} {v : Int} : s_x X d c (.iinc 4 v :: is) (b0 :: b1 :: b2 :: .retAddr p :: .int x :: l) (st) m = s_x X d c is (b0 :: b1 :: b2 :: .retAddr p :: .int (x + iI v) :: l) (st) m := rfl
theorem x_iload5 {b0 b1 b2 b3 b4 : Value} {x : Int32} : s_x X d c (.iload 5 :: is) (b0 :: b1 :: b2 :: b3 :: b4 :: .int x :: l) (st) m = s_x X d c is (b0 :: b1 :: b2 :: b3 :: b4 :: .int x :: l) (.int x :: st) m := rfl
theorem x_aload5 {b0 b1 b2 b3 b4 : Value} {x : Nat} : s_x X d c (.aload 5 :: is) (b0 :: b1 :: b2 :: b3 :: b4 :: .ref x :: l) (st) m = s_x X d c is (b0 :: b1 :: b2 :: b3 :: b4 :: .ref x :: l) (.ref x :: st) m := rfl
theorem x_lload5 {b0 b1 b2 b3 b4 : Value} {x : Int64} : s_x X d c (.lload 5 :: is) (b0 :: b1 :: b2 :: b3 :: b4 :: .long x :: l) (st) m = s_x X d c is (b0 :: b1 :: b2 :: b3 :: b4 :: .long x :: l) (.long x :: st) m := rfl
theorem x_istore5i {b0 b1 b2 b3 : Value} {p : Int32} {x : Int32} {w : Value} : s_x X d c (.istore 5 :: is) (b0 :: b1 :: b2 :: b3 :: .int p :: w :: l) (.int x :: st) m = s_x X d c is (b0 :: b1 :: b2 :: b3 :: .int p :: .int x :: l) (st) m := rfl
theorem x_astore5i {b0 b1 b2 b3 : Value} {p : Int32} {x : Nat} {w : Value} : s_x X d c (.astore 5 :: is) (b0 :: b1 :: b2 :: b3 :: .int p :: w :: l) (.ref x :: st) m = s_x X d c is (b0 :: b1 :: b2 :: b3 :: .int p :: .ref x :: l) (st) m := rfl
theorem x_lstore5i {b0 b1 b2 b3 : Value} {p : Int32} {x : Int64} {w w2 : Value} : s_x X d c (.lstore 5 :: is) (b0 :: b1 :: b2 :: b3 :: .int p :: w :: w2 :: l) (.long x :: st) m = s_x X d c is (b0 :: b1 :: b2 :: b3 :: .int p :: .long x :: .retAddr 0 :: l) (st) m := rfl
theorem x_iinc5i {b0 b1 b2 b3 : Value} {p : Int32} {x : Int32} {v : Int} : s_x X d c (.iinc 5 v :: is) (b0 :: b1 :: b2 :: b3 :: .int p :: .int x :: l) (st) m = s_x X d c is (b0 :: b1 :: b2 :: b3 :: .int p :: .int (x + iI v) :: l) (st) m := rfl
theorem x_istore5r {b0 b1 b2 b3 : Value} {p : Nat} {x : Int32} {w : Value} : s_x X d c (.istore 5 :: is) (b0 :: b1 :: b2 :: b3 :: .ref p :: w :: l) (.int x :: st) m = s_x X d c is (b0 :: b1 :: b2 :: b3 :: .ref p :: .int x :: l) (st) m := rfl
theorem x_astore5r {b0 b1 b2 b3 : Value} {p : Nat} {x : Nat} {w : Value} : s_x X d c (.astore 5 :: is) (b0 :: b1 :: b2 :: b3 :: .ref p :: w :: l) (.ref x :: st) m = s_x X d c is (b0 :: b1 :: b2 :: b3 :: .ref p :: .ref x :: l) (st) m := rfl
theorem x_lstore5r {b0 b1 b2 b3 : Value} {p : Nat} {x : Int64} {w w2 : Value} : s_x X d c (.lstore 5 :: is) (b0 :: b1 :: b2 :: b3 :: .ref p :: w :: w2 :: l) (.long x :: st) m = s_x X d c is (b0 :: b1 :: b2 :: b3 :: .ref p :: .long x :: .retAddr 0 :: l) (st) m := rfl
theorem x_iinc5r {b0 b1 b2 b3 : Value} {p : Nat} {x : Int32} {v : Int} : s_x X d c (.iinc 5 v :: is) (b0 :: b1 :: b2 :: b3 :: .ref p :: .int x :: l) (st) m = s_x X d c is (b0 :: b1 :: b2 :: b3 :: .ref p :: .int (x + iI v) :: l) (st) m := rfl
theorem x_istore5u {b0 b1 b2 b3 : Value} {p : Nat} {x : Int32} {w : Value} : s_x X d c (.istore 5 :: is) (b0 :: b1 :: b2 :: b3 :: .retAddr p :: w :: l) (.int x :: st) m = s_x X d c is (b0 :: b1 :: b2 :: b3 :: .retAddr p :: .int x :: l) (st) m := rfl
theorem x_astore5u {b0 b1 b2 b3 : Value} {p : Nat} {x : Nat} {w : Value} : s_x X d c (.astore 5 :: is) (b0 :: b1 :: b2 :: b3 :: .retAddr p :: w :: l) (.ref x :: st) m = s_x X d c is (b0 :: b1 :: b2 :: b3 :: .retAddr p :: .ref x :: l) (st) m := rfl
theorem x_lstore5u {b0 b1 b2 b3 : Value} {p : Nat} {x : Int64} {w w2 : Value} : s_x X d c (.lstore 5 :: is) (b0 :: b1 :: b2 :: b3 :: .retAddr p :: w :: w2 :: l) (.long x :: st) m = s_x X d c is (b0 :: b1 :: b2 :: b3 :: .retAddr p :: .long x :: .retAddr 0 :: l) (st) m := rfl
theorem x_iinc5u {b0 b1 b2 b3 : Value} {p : Nat} {x : Int32} {v : Int} : s_x X d c (.iinc 5 v :: is) (b0 :: b1 :: b2 :: b3 :: .retAddr p :: .int x :: l) (st) m = s_x X d c is (b0 :: b1 :: b2 :: b3 :: .retAddr p :: .int (x + iI v) :: l) (st) m := rfl
theorem x_iload6 {b0 b1 b2 b3 b4 b5 : Value} {x : Int32} : s_x X d c (.iload 6 :: is) (b0 :: b1 :: b2 :: b3 :: b4 :: b5 :: .int x :: l) (st) m = s_x X d c is (b0 :: b1 :: b2 :: b3 :: b4 :: b5 :: .int x :: l) (.int x :: st) m := rfl
theorem x_aload6 {b0 b1 b2 b3 b4 b5 : Value} {x : Nat} : s_x X d c (.aload 6 :: is) (b0 :: b1 :: b2 :: b3 :: b4 :: b5 :: .ref x :: l) (st) m = s_x X d c is (b0 :: b1 :: b2 :: b3 :: b4 :: b5 :: .ref x :: l) (.ref x :: st) m := rfl
theorem x_lload6 {b0 b1 b2 b3 b4 b5 : Value} {x : Int64} : s_x X d c (.lload 6 :: is) (b0 :: b1 :: b2 :: b3 :: b4 :: b5 :: .long x :: l) (st) m = s_x X d c is (b0 :: b1 :: b2 :: b3 :: b4 :: b5 :: .long x :: l) (.long x :: st) m := rfl
theorem x_istore6i {b0 b1 b2 b3 b4 : Value} {p : Int32} {x : Int32} {w : Value} : s_x X d c (.istore 6 :: is) (b0 :: b1 :: b2 :: b3 :: b4 :: .int p :: w :: l) (.int x :: st) m = s_x X d c is (b0 :: b1 :: b2 :: b3 :: b4 :: .int p :: .int x :: l) (st) m := rfl
theorem x_astore6i {b0 b1 b2 b3 b4 : Value} {p : Int32} {x : Nat} {w : Value} : s_x X d c (.astore 6 :: is) (b0 :: b1 :: b2 :: b3 :: b4 :: .int p :: w :: l) (.ref x :: st) m = s_x X d c is (b0 :: b1 :: b2 :: b3 :: b4 :: .int p :: .ref x :: l) (st) m := rfl
theorem x_lstore6i {b0 b1 b2 b3 b4 : Value} {p : Int32} {x : Int64} {w w2 : Value} : s_x X d c (.lstore 6 :: is) (b0 :: b1 :: b2 :: b3 :: b4 :: .int p :: w :: w2 :: l) (.long x :: st) m = s_x X d c is (b0 :: b1 :: b2 :: b3 :: b4 :: .int p :: .long x :: .retAddr 0 :: l) (st) m := rfl
theorem x_iinc6i {b0 b1 b2 b3 b4 : Value} {p : Int32} {x : Int32} {v : Int} : s_x X d c (.iinc 6 v :: is) (b0 :: b1 :: b2 :: b3 :: b4 :: .int p :: .int x :: l) (st) m = s_x X d c is (b0 :: b1 :: b2 :: b3 :: b4 :: .int p :: .int (x + iI v) :: l) (st) m := rfl
theorem x_istore6r {b0 b1 b2 b3 b4 : Value} {p : Nat} {x : Int32} {w : Value} : s_x X d c (.istore 6 :: is) (b0 :: b1 :: b2 :: b3 :: b4 :: .ref p :: w :: l) (.int x :: st) m = s_x X d c is (b0 :: b1 :: b2 :: b3 :: b4 :: .ref p :: .int x :: l) (st) m := rfl
theorem x_astore6r {b0 b1 b2 b3 b4 : Value} {p : Nat} {x : Nat} {w : Value} : s_x X d c (.astore 6 :: is) (b0 :: b1 :: b2 :: b3 :: b4 :: .ref p :: w :: l) (.ref x :: st) m = s_x X d c is (b0 :: b1 :: b2 :: b3 :: b4 :: .ref p :: .ref x :: l) (st) m := rfl
theorem x_lstore6r {b0 b1 b2 b3 b4 : Value} {p : Nat} {x : Int64} {w w2 : Value} : s_x X d c (.lstore 6 :: is) (b0 :: b1 :: b2 :: b3 :: b4 :: .ref p :: w :: w2 :: l) (.long x :: st) m = s_x X d c is (b0 :: b1 :: b2 :: b3 :: b4 :: .ref p :: .long x :: .retAddr 0 :: l) (st) m := rfl
theorem x_iinc6r {b0 b1 b2 b3 b4 : Value} {p : Nat} {x : Int32} {v : Int} : s_x X d c (.iinc 6 v :: is) (b0 :: b1 :: b2 :: b3 :: b4 :: .ref p :: .int x :: l) (st) m = s_x X d c is (b0 :: b1 :: b2 :: b3 :: b4 :: .ref p :: .int (x + iI v) :: l) (st) m := rfl
theorem x_istore6u {b0 b1 b2 b3 b4 : Value} {p : Nat} {x : Int32} {w : Value} : s_x X d c (.istore 6 :: is) (b0 :: b1 :: b2 :: b3 :: b4 :: .retAddr p :: w :: l) (.int x :: st) m = s_x X d c is (b0 :: b1 :: b2 :: b3 :: b4 :: .retAddr p :: .int x :: l) (st) m := rfl
theorem x_astore6u {b0 b1 b2 b3 b4 : Value} {p : Nat} {x : Nat} {w : Value} : s_x X d c (.astore 6 :: is) (b0 :: b1 :: b2 :: b3 :: b4 :: .retAddr p :: w :: l) (.ref x :: st) m = s_x X d c is (b0 :: b1 :: b2 :: b3 :: b4 :: .retAddr p :: .ref x :: l) (st) m := rfl
theorem x_lstore6u {b0 b1 b2 b3 b4 : Value} {p : Nat} {x : Int64} {w w2 : Value} : s_x X d c (.lstore 6 :: is) (b0 :: b1 :: b2 :: b3 :: b4 :: .retAddr p :: w :: w2 :: l) (.long x :: st) m = s_x X d c is (b0 :: b1 :: b2 :: b3 :: b4 :: .retAddr p :: .long x :: .retAddr 0 :: l) (st) m := rfl
theorem x_iinc6u {b0 b1 b2 b3 b4 : Value} {p : Nat} {x : Int32} {v : Int} : s_x X d c (.iinc 6 v :: is) (b0 :: b1 :: b2 :: b3 :: b4 :: .retAddr p :: .int x :: l) (st) m = s_x X d c is (b0 :: b1 :: b2 :: b3 :: b4 :: .retAddr p :: .int (x + iI v) :: l) (st) m := rfl
theorem x_iload7 {b0 b1 b2 b3 b4 b5 b6 : Value} {x : Int32} : s_x X d c (.iload 7 :: is) (b0 :: b1 :: b2 :: b3 :: b4 :: b5 :: b6 :: .int x :: l) (st) m = s_x X d c is (b0 :: b1 :: b2 :: b3 :: b4 :: b5 :: b6 :: .int x :: l) (.int x :: st) m := rfl
theorem x_aload7 {b0 b1 b2 b3 b4 b5 b6 : Value} {x : Nat} : s_x X d c (.aload 7 :: is) (b0 :: b1 :: b2 :: b3 :: b4 :: b5 :: b6 :: .ref x :: l) (st) m = s_x X d c is (b0 :: b1 :: b2 :: b3 :: b4 :: b5 :: b6 :: .ref x :: l) (.ref x :: st) m := rfl
theorem x_lload7 {b0 b1 b2 b3 b4 b5 b6 : Value} {x : Int64} : s_x X d c (.lload 7 :: is) (b0 :: b1 :: b2 :: b3 :: b4 :: b5 :: b6 :: .long x :: l) (st) m = s_x X d c is (b0 :: b1 :: b2 :: b3 :: b4 :: b5 :: b6 :: .long x :: l) (.long x :: st) m := rfl
theorem x_istore7i {b0 b1 b2 b3 b4 b5 : Value} {p : Int32} {x : Int32} {w : Value} : s_x X d c (.istore 7 :: is) (b0 :: b1 :: b2 :: b3 :: b4 :: b5 :: .int p :: w :: l) (.int x :: st) m = s_x X d c is (b0 :: b1 :: b2 :: b3 :: b4 :: b5 :: .int p :: .int x :: l) (st) m := rfl
theorem x_astore7i {b0 b1 b2 b3 b4 b5 : Value} {p : Int32} {x : Nat} {w : Value} : s_x X d c (.astore 7 :: is) (b0 :: b1 :: b2 :: b3 :: b4 :: b5 :: .int p :: w :: l) (.ref x :: st) m = s_x X d c is (b0 :: b1 :: b2 :: b3 :: b4 :: b5 :: .int p :: .ref x :: l) (st) m := rfl
theorem x_lstore7i {b0 b1 b2 b3 b4 b5 : Value} {p : Int32} {x : Int64} {w w2 : Value} : s_x X d c (.lstore 7 :: is) (b0 :: b1 :: b2 :: b3 :: b4 :: b5 :: .int p :: w :: w2 :: l) (.long x :: st) m = s_x X d c is (b0 :: b1 :: b2 :: b3 :: b4 :: b5 :: .int p :: .long x :: .retAddr 0 :: l) (st) m := rfl
theorem x_iinc7i {b0 b1 b2 b3 b4 b5 : Value} {p : Int32} {x : Int32} {v : Int} : s_x X d c (.iinc 7 v :: is) (b0 :: b1 :: b2 :: b3 :: b4 :: b5 :: .int p :: .int x :: l) (st) m = s_x X d c is (b0 :: b1 :: b2 :: b3 :: b4 :: b5 :: .int p :: .int (x + iI v) :: l) (st) m := rfl
theorem x_istore7r {b0 b1 b2 b3 b4 b5 : Value} {p : Nat} {x : Int32} {w : Value} : s_x X d c (.istore 7 :: is) (b0 :: b1 :: b2 :: b3 :: b4 :: b5 :: .ref p :: w :: l) (.int x :: st) m = s_x X d c is (b0 :: b1 :: b2 :: b3 :: b4 :: b5 :: .ref p :: .int x :: l) (st) m := rfl
theorem x_astore7r {b0 b1 b2 b3 b4 b5 : Value} {p : Nat} {x : Nat} {w : Value} : s_x X d c (.astore 7 :: is) (b0 :: b1 :: b2 :: b3 :: b4 :: b5 :: .ref p :: w :: l) (.ref x :: st) m = s_x X d c is (b0 :: b1 :: b2 :: b3 :: b4 :: b5 :: .ref p :: .ref x :: l) (st) m := rfl
theorem x_lstore7r {b0 b1 b2 b3 b4 b5 : Value} {p : Nat} {x : Int64} {w w2 : Value} : s_x X d c (.lstore 7 :: is) (b0 :: b1 :: b2 :: b3 :: b4 :: b5 :: .ref p :: w :: w2 :: l) (.long x :: st) m = s_x X d c is (b0 :: b1 :: b2 :: b3 :: b4 :: b5 :: .ref p :: .long x :: .retAddr 0 :: l) (st) m := rfl
theorem x_iinc7r {b0 b1 b2 b3 b4 b5 : Value} {p : Nat} {x : Int32} {v : Int} : s_x X d c (.iinc 7 v :: is) (b0 :: b1 :: b2 :: b3 :: b4 :: b5 :: .ref p :: .int x :: l) (st) m = s_x X d c is (b0 :: b1 :: b2 :: b3 :: b4 :: b5 :: .ref p :: .int (x + iI v) :: l) (st) m := rfl
theorem x_istore7u {b0 b1 b2 b3 b4 b5 : Value} {p : Nat} {x : Int32} {w : Value} : s_x X d c (.istore 7 :: is) (b0 :: b1 :: b2 :: b3 :: b4 :: b5 :: .retAddr p :: w :: l) (.int x :: st) m = s_x X d c is (b0 :: b1 :: b2 :: b3 :: b4 :: b5 :: .retAddr p :: .int x :: l) (st) m := rfl
theorem x_astore7u {b0 b1 b2 b3 b4 b5 : Value} {p : Nat} {x : Nat} {w : Value} : s_x X d c (.astore 7 :: is) (b0 :: b1 :: b2 :: b3 :: b4 :: b5 :: .retAddr p :: w :: l) (.ref x :: st) m = s_x X d c is (b0 :: b1 :: b2 :: b3 :: b4 :: b5 :: .retAddr p :: .ref x :: l) (st) m := rfl
theorem x_lstore7u {b0 b1 b2 b3 b4 b5 : Value} {p : Nat} {x : Int64} {w w2 : Value} : s_x X d c (.lstore 7 :: is) (b0 :: b1 :: b2 :: b3 :: b4 :: b5 :: .retAddr p :: w :: w2 :: l) (.long x :: st) m = s_x X d c is (b0 :: b1 :: b2 :: b3 :: b4 :: b5 :: .retAddr p :: .long x :: .retAddr 0 :: l) (st) m := rfl
theorem x_iinc7u {b0 b1 b2 b3 b4 b5 : Value} {p : Nat} {x : Int32} {v : Int} : s_x X d c (.iinc 7 v :: is) (b0 :: b1 :: b2 :: b3 :: b4 :: b5 :: .retAddr p :: .int x :: l) (st) m = s_x X d c is (b0 :: b1 :: b2 :: b3 :: b4 :: b5 :: .retAddr p :: .int (x + iI v) :: l) (st) m := rfl
theorem x_iload8 {b0 b1 b2 b3 b4 b5 b6 b7 : Value} {x : Int32} : s_x X d c (.iload 8 :: is) (b0 :: b1 :: b2 :: b3 :: b4 :: b5 :: b6 :: b7 :: .int x :: l) (st) m = s_x X d c is (b0 :: b1 :: b2 :: b3 :: b4 :: b5 :: b6 :: b7 :: .int x :: l) (.int x :: st) m := rfl
theorem x_aload8 {b0 b1 b2 b3 b4 b5 b6 b7 : Value} {x : Nat} : s_x X d c (.aload 8 :: is) (b0 :: b1 :: b2 :: b3 :: b4 :: b5 :: b6 :: b7 :: .ref x :: l) (st) m = s_x X d c is (b0 :: b1 :: b2 :: b3 :: b4 :: b5 :: b6 :: b7 :: .ref x :: l) (.ref x :: st) m := rfl
theorem x_lload8 {b0 b1 b2 b3 b4 b5 b6 b7 : Value} {x : Int64} : s_x X d c (.lload 8 :: is) (b0 :: b1 :: b2 :: b3 :: b4 :: b5 :: b6 :: b7 :: .long x :: l) (st) m = s_x X d c is (b0 :: b1 :: b2 :: b3 :: b4 :: b5 :: b6 :: b7 :: .long x :: l) (.long x :: st) m := rfl
theorem x_istore8i {b0 b1 b2 b3 b4 b5 b6 : Value} {p : Int32} {x : Int32} {w : Value} : s_x X d c (.istore 8 :: is) (b0 :: b1 :: b2 :: b3 :: b4 :: b5 :: b6 :: .int p :: w :: l) (.int x :: st) m = s_x X d c is (b0 :: b1 :: b2 :: b3 :: b4 :: b5 :: b6 :: .int p :: .int x :: l) (st) m := rfl
theorem x_astore8i {b0 b1 b2 b3 b4 b5 b6 : Value} {p : Int32} {x : Nat} {w : Value} : s_x X d c (.astore 8 :: is) (b0 :: b1 :: b2 :: b3 :: b4 :: b5 :: b6 :: .int p :: w :: l) (.ref x :: st) m = s_x X d c is (b0 :: b1 :: b2 :: b3 :: b4 :: b5 :: b6 :: .int p :: .ref x :: l) (st) m := rfl
theorem x_lstore8i {b0 b1 b2 b3 b4 b5 b6 : Value} {p : Int32} {x : Int64} {w w2 : Value} : s_x X d c (.lstore 8 :: is) (b0 :: b1 :: b2 :: b3 :: b4 :: b5 :: b6 :: .int p :: w :: w2 :: l) (.long x :: st) m = s_x X d c is (b0 :: b1 :: b2 :: b3 :: b4 :: b5 :: b6 :: .int p :: .long x :: .retAddr 0 :: l) (st) m := rfl
theorem x_iinc8i {b0 b1 b2 b3 b4 b5 b6 : Value} {p : Int32} {x : Int32} {v : Int} : s_x X d c (.iinc 8 v :: is) (b0 :: b1 :: b2 :: b3 :: b4 :: b5 :: b6 :: .int p :: .int x :: l) (st) m = s_x X d c is (b0 :: b1 :: b2 :: b3 :: b4 :: b5 :: b6 :: .int p :: .int (x + iI v) :: l) (st) m := rfl
theorem x_istore8r {b0 b1 b2 b3 b4 b5 b6 : Value} {p : Nat} {x : Int32} {w : Value} : s_x X d c (.istore 8 :: is) (b0 :: b1 :: b2 :: b3 :: b4 :: b5 :: b6 :: .ref p :: w :: l) (.int x :: st) m = s_x X d c is (b0 :: b1 :: b2 :: b3 :: b4 :: b5 :: b6 :: .ref p :: .int x :: l) (st) m := rfl
theorem x_astore8r {b0 b1 b2 b3 b4 b5 b6 : Value} {p : Nat} {x : Nat} {w : Value} : s_x X d c (.astore 8 :: is) (b0 :: b1 :: b2 :: b3 :: b4 :: b5 :: b6 :: .ref p :: w :: l) (.ref x :: st) m = s_x X d c is (b0 :: b1 :: b2 :: b3 :: b4 :: b5 :: b6 :: .ref p :: .ref x :: l) (st) m := rfl
theorem x_lstore8r {b0 b1 b2 b3 b4 b5 b6 : Value} {p : Nat} {x : Int64} {w w2 : Value} : s_x X d c (.lstore 8 :: is) (b0 :: b1 :: b2 :: b3 :: b4 :: b5 :: b6 :: .ref p :: w :: w2 :: l) (.long x :: st) m = s_x X d c is (b0 :: b1 :: b2 :: b3 :: b4 :: b5 :: b6 :: .ref p :: .long x :: .retAddr 0 :: l) (st) m := rfl
theorem x_iinc8r {b0 b1 b2 b3 b4 b5 b6 : Value} {p : Nat} {x : Int32} {v : Int} : s_x X d c (.iinc 8 v :: is) (b0 :: b1 :: b2 :: b3 :: b4 :: b5 :: b6 :: .ref p :: .int x :: l) (st) m = s_x X d c is (b0 :: b1 :: b2 :: b3 :: b4 :: b5 :: b6 :: .ref p :: .int (x + iI v) :: l) (st) m := rfl
theorem x_istore8u {b0 b1 b2 b3 b4 b5 b6 : Value} {p : Nat} {x : Int32} {w : Value} : s_x X d c (.istore 8 :: is) (b0 :: b1 :: b2 :: b3 :: b4 :: b5 :: b6 :: .retAddr p :: w :: l) (.int x :: st) m = s_x X d c is (b0 :: b1 :: b2 :: b3 :: b4 :: b5 :: b6 :: .retAddr p :: .int x :: l) (st) m := rfl
theorem x_astore8u {b0 b1 b2 b3 b4 b5 b6 : Value} {p : Nat} {x : Nat} {w : Value} : s_x X d c (.astore 8 :: is) (b0 :: b1 :: b2 :: b3 :: b4 :: b5 :: b6 :: .retAddr p :: w :: l) (.ref x :: st) m = s_x X d c is (b0 :: b1 :: b2 :: b3 :: b4 :: b5 :: b6 :: .retAddr p :: .ref x :: l) (st) m := rfl
theorem x_lstore8u {b0 b1 b2 b3 b4 b5 b6 : Value} {p : Nat} {x : Int64} {w w2 : Value} : s_x X d c (.lstore 8 :: is) (b0 :: b1 :: b2 :: b3 :: b4 :: b5 :: b6 :: .retAddr p :: w :: w2 :: l) (.long x :: st) m = s_x X d c is (b0 :: b1 :: b2 :: b3 :: b4 :: b5 :: b6 :: .retAddr p :: .long x :: .retAddr 0 :: l) (st) m := rfl
theorem x_iinc8u {b0 b1 b2 b3 b4 b5 b6 : Value} {p : Nat} {x : Int32} {v : Int} : s_x X d c (.iinc 8 v :: is) (b0 :: b1 :: b2 :: b3 :: b4 :: b5 :: b6 :: .retAddr p :: .int x :: l) (st) m = s_x X d c is (b0 :: b1 :: b2 :: b3 :: b4 :: b5 :: b6 :: .retAddr p :: .int (x + iI v) :: l) (st) m := rfl
theorem x_iload9 {b0 b1 b2 b3 b4 b5 b6 b7 b8 : Value} {x : Int32} : s_x X d c (.iload 9 :: is) (b0 :: b1 :: b2 :: b3 :: b4 :: b5 :: b6 :: b7 :: b8 :: .int x :: l) (st) m = s_x X d c is (b0 :: b1 :: b2 :: b3 :: b4 :: b5 :: b6 :: b7 :: b8 :: .int x :: l) (.int x :: st) m := rfl
theorem x_aload9 {b0 b1 b2 b3 b4 b5 b6 b7 b8 : Value} {x : Nat} : s_x X d c (.aload 9 :: is) (b0 :: b1 :: b2 :: b3 :: b4 :: b5 :: b6 :: b7 :: b8 :: .ref x :: l) (st) m = s_x X d c is (b0 :: b1 :: b2 :: b3 :: b4 :: b5 :: b6 :: b7 :: b8 :: .ref x :: l) (.ref x :: st) m := rfl
theorem x_lload9 {b0 b1 b2 b3 b4 b5 b6 b7 b8 : Value} {x : Int64} : s_x X d c (.lload 9 :: is) (b0 :: b1 :: b2 :: b3 :: b4 :: b5 :: b6 :: b7 :: b8 :: .long x :: l) (st) m = s_x X d c is (b0 :: b1 :: b2 :: b3 :: b4 :: b5 :: b6 :: b7 :: b8 :: .long x :: l) (.long x :: st) m := rfl
theorem x_istore9i {b0 b1 b2 b3 b4 b5 b6 b7 : Value} {p : Int32} {x : Int32} {w : Value} : s_x X d c (.istore 9 :: is) (b0 :: b1 :: b2 :: b3 :: b4 :: b5 :: b6 :: b7 :: .int p :: w :: l) (.int x :: st) m = s_x X d c is (b0 :: b1 :: b2 :: b3 :: b4 :: b5 :: b6 :: b7 :: .int p :: .int x :: l) (st) m := rfl
theorem x_astore9i {b0 b1 b2 b3 b4 b5 b6 b7 : Value} {p : Int32} {x : Nat} {w : Value} : s_x X d c (.astore 9 :: is) (b0 :: b1 :: b2 :: b3 :: b4 :: b5 :: b6 :: b7 :: .int p :: w :: l) (.ref x :: st) m = s_x X d c is (b0 :: b1 :: b2 :: b3 :: b4 :: b5 :: b6 :: b7 :: .int p :: .ref x :: l) (st) m := rfl
theorem x_lstore9i {b0 b1 b2 b3 b4 b5 b6 b7 : Value} {p : Int32} {x : Int64} {w w2 : Value} : s_x X d c (.lstore 9 :: is) (b0 :: b1 :: b2 :: b3 :: b4 :: b5 :: b6 :: b7 :: .int p :: w :: w2 :: l) (.long x :: st) m = s_x X d c is (b0 :: b1 :: b2 :: b3 :: b4 :: b5 :: b6 :: b7 :: .int p :: .long x :: .retAddr 0 :: l) (st) m := rfl
theorem x_iinc9i {b0 b1 b2 b3 b4 b5 b6 b7 : Value} {p : Int32} {x : Int32} {v : Int} : s_x X d c (.iinc 9 v :: is) (b0 :: b1 :: b2 :: b3 :: b4 :: b5 :: b6 :: b7 :: .int p :: .int x :: l) (st) m = s_x X d c is (b0 :: b1 :: b2 :: b3 :: b4 :: b5 :: b6 :: b7 :: .int p :: .int (x + iI v) :: l) (st) m := rfl
theorem x_istore9r {b0 b1 b2 b3 b4 b5 b6 b7 : Value} {p : Nat} {x : Int32} {w : Value} : s_x X d c (.istore 9 :: is) (b0 :: b1 :: b2 :: b3 :: b4 :: b5 :: b6 :: b7 :: .ref p :: w :: l) (.int x :: st) m = s_x X d c is (b0 :: b1 :: b2 :: b3 :: b4 :: b5 :: b6 :: b7 :: .ref p :: .int x :: l) (st) m := rfl
theorem x_astore9r {b0 b1 b2 b3 b4 b5 b6 b7 : Value} {p : Nat} {x : Nat} {w : Value} : s_x X d c (.astore 9 :: is) (b0 :: b1 :: b2 :: b3 :: b4 :: b5 :: b6 :: b7 :: .ref p :: w :: l) (.ref x :: st) m = s_x X d c is (b0 :: b1 :: b2 :: b3 :: b4 :: b5 :: b6 :: b7 :: .ref p :: .ref x :: l) (st) m := rfl
theorem x_lstore9r {b0 b1 b2 b3 b4 b5 b6 b7 : Value} {p : Nat} {x : Int64} {w w2 : Value} : s_x X d c (.lstore 9 :: is) (b0 :: b1 :: b2 :: b3 :: b4 :: b5 :: b6 :: b7 :: .ref p :: w :: w2 :: l) (.long x :: st) m = s_x X d c is (b0 :: b1 :: b2 :: b3 :: b4 :: b5 :: b6 :: b7 :: .ref p :: .long x :: .retAddr 0 :: l) (st) m := rfl
theorem x_iinc9r {b0 b1 b2 b3 b4 b5 b6 b7 : Value} {p : Nat} {x : Int32} {v : Int} : s_x X d c (.iinc 9 v :: is) (b0 :: b1 :: b2 :: b3 :: b4 :: b5 :: b6 :: b7 :: .ref p :: .int x :: l) (st) m = s_x X d c is (b0 :: b1 :: b2 :: b3 :: b4 :: b5 :: b6 :: b7 :: .ref p :: .int (x + iI v) :: l) (st) m := rfl
theorem x_istore9u {b0 b1 b2 b3 b4 b5 b6 b7 : Value} {p : Nat} {x : Int32} {w : Value} : s_x X d c (.istore 9 :: is) (b0 :: b1 :: b2 :: b3 :: b4 :: b5 :: b6 :: b7 :: .retAddr p :: w :: l) (.int x :: st) m = s_x X d c is (b0 :: b1 :: b2 :: b3 :: b4 :: b5 :: b6 :: b7 :: .retAddr p :: .int x :: l) (st) m := rfl
theorem x_astore9u {b0 b1 b2 b3 b4 b5 b6 b7 : Value} {p : Nat} {x : Nat} {w : Value} : s_x X d c (.astore 9 :: is) (b0 :: b1 :: b2 :: b3 :: b4 :: b5 :: b6 :: b7 :: .retAddr p :: w :: l) (.ref x :: st) m = s_x X d c is (b0 :: b1 :: b2 :: b3 :: b4 :: b5 :: b6 :: b7 :: .retAddr p :: .ref x :: l) (st) m := rfl
theorem x_lstore9u {b0 b1 b2 b3 b4 b5 b6 b7 : Value} {p : Nat} {x : Int64} {w w2 : Value} : s_x X d c (.lstore 9 :: is) (b0 :: b1 :: b2 :: b3 :: b4 :: b5 :: b6 :: b7 :: .retAddr p :: w :: w2 :: l) (.long x :: st) m = s_x X d c is (b0 :: b1 :: b2 :: b3 :: b4 :: b5 :: b6 :: b7 :: .retAddr p :: .long x :: .retAddr 0 :: l) (st) m := rfl
theorem x_iinc9u {b0 b1 b2 b3 b4 b5 b6 b7 : Value} {p : Nat} {x : Int32} {v : Int} : s_x X d c (.iinc 9 v :: is) (b0 :: b1 :: b2 :: b3 :: b4 :: b5 :: b6 :: b7 :: .retAddr p :: .int x :: l) (st) m = s_x X d c is (b0 :: b1 :: b2 :: b3 :: b4 :: b5 :: b6 :: b7 :: .retAddr p :: .int (x + iI v) :: l) (st) m := rfl
theorem x_iload10 {b0 b1 b2 b3 b4 b5 b6 b7 b8 b9 : Value} {x : Int32} : s_x X d c (.iload 10 :: is) (b0 :: b1 :: b2 :: b3 :: b4 :: b5 :: b6 :: b7 :: b8 :: b9 :: .int x :: l) (st) m = s_x X d c is (b0 :: b1 :: b2 :: b3 :: b4 :: b5 :: b6 :: b7 :: b8 :: b9 :: .int x :: l) (.int x :: st) m := rfl
theorem x_aload10 {b0 b1 b2 b3 b4 b5 b6 b7 b8 b9 : Value} {x : Nat} : s_x X d c (.aload 10 :: is) (b0 :: b1 :: b2 :: b3 :: b4 :: b5 :: b6 :: b7 :: b8 :: b9 :: .ref x :: l) (st) m = s_x X d c is (b0 :: b1 :: b2 :: b3 :: b4 :: b5 :: b6 :: b7 :: b8 :: b9 :: .ref x :: l) (.ref x :: st) m := rfl
theorem x_lload10 {b0 b1 b2 b3 b4 b5 b6 b7 b8 b9 : Value} {x : Int64} : s_x X d c (.lload 10 :: is) (b0 :: b1 :: b2 :: b3 :: b4 :: b5 :: b6 :: b7 :: b8 :: b9 :: .long x :: l) (st) m = s_x X d c is (b0 :: b1 :: b2 :: b3 :: b4 :: b5 :: b6 :: b7 :: b8 :: b9 :: .long x :: l) (.long x :: st) m := rfl
theorem x_istore10i {b0 b1 b2 b3 b4 b5 b6 b7 b8 : Value} {p : Int32} {x : Int32} {w : Value} : s_x X d c (.istore 10 :: is) (b0 :: b1 :: b2 :: b3 :: b4 :: b5 :: b6 :: b7 :: b8 :: .int p :: w :: l) (.int x :: st) m = s_x X d c is (b0 :: b1 :: b2 :: b3 :: b4 :: b5 :: b6 :: b7 :: b8 :: .int p :: .int x :: l) (st) m := rfl
theorem x_astore10i {b0 b1 b2 b3 b4 b5 b6 b7 b8 : Value} {p : Int32} {x : Nat} {w : Value} : s_x X d c (.astore 10 :: is) (b0 :: b1 :: b2 :: b3 :: b4 :: b5 :: b6 :: b7 :: b8 :: .int p :: w :: l) (.ref x :: st) m = s_x X d c is (b0 :: b1 :: b2 :: b3 :: b4 :: b5 :: b6 :: b7 :: b8 :: .int p :: .ref x :: l) (st) m := rfl
theorem x_lstore10i {b0 b1 b2 b3 b4 b5 b6 b7 b8 : Value} {p : Int32} {x : Int64} {w w2 : Value} : s_x X d c (.lstore 10 :: is) (b0 :: b1 :: b2 :: b3 :: b4 :: b5 :: b6 :: b7 :: b8 :: .int p :: w :: w2 :: l) (.long x :: st) m = s_x X d c is (b0 :: b1 :: b2 :: b3 :: b4 :: b5 :: b6 :: b7 :: b8 :: .int p :: .long x :: .retAddr 0 :: l) (st) m := rfl
theorem x_iinc10i {b0 b1 b2 b3 b4 b5 b6 b7 b8 : Value} {p : Int32} {x : Int32} {v : Int} : s_x X d c (.iinc 10 v :: is) (b0 :: b1 :: b2 :: b3 :: b4 :: b5 :: b6 :: b7 :: b8 :: .int p :: .int x :: l) (st) m = s_x X d c is (b0 :: b1 :: b2 :: b3 :: b4 :: b5 :: b6 :: b7 :: b8 :: .int p :: .int (x + iI v) :: l) (st) m := rfl
theorem x_istore10r {b0 b1 b2 b3 b4 b5 b6 b7 b8 : Value} {p : Nat} {x : Int32} {w : Value} : s_x X d c (.istore 10 :: is) (b0 :: b1 :: b2 :: b3 :: b4 :: b5 :: b6 :: b7 :: b8 :: .ref p :: w :: l) (.int x :: st) m = s_x X d c is (b0 :: b1 :: b2 :: b3 :: b4 :: b5 :: b6 :: b7 :: b8 :: .ref p :: .int x :: l) (st) m := rfl
theorem x_astore10r {b0 b1 b2 b3 b4 b5 b6 b7 b8 : Value} {p : Nat} {x : Nat} {w : Value} : s_x X d c (.astore 10 :: is) (b0 :: b1 :: b2 :: b3 :: b4 :: b5 :: b6 :: b7 :: b8 :: .ref p :: w :: l) (.ref x :: st) m = s_x X d c is (b0 :: b1 :: b2 :: b3 :: b4 :: b5 :: b6 :: b7 :: b8 :: .ref p :: .ref x :: l) (st) m := rfl
theorem x_lstore10r {b0 b1 b2 b3 b4 b5 b6 b7 b8 : Value} {p : Nat} {x : Int64} {w w2 : Value} : s_x X d c (.lstore 10 :: is) (b0 :: b1 :: b2 :: b3 :: b4 :: b5 :: b6 :: b7 :: b8 :: .ref p :: w :: w2 :: l) (.long x :: st) m = s_x X d c is (b0 :: b1 :: b2 :: b3 :: b4 :: b5 :: b6 :: b7 :: b8 :: .ref p :: .long x :: .retAddr 0 :: l) (st) m := rfl
theorem x_iinc10r {b0 b1 b2 b3 b4 b5 b6 b7 b8 : Value} {p : Nat} {x : Int32} {v : Int} : s_x X d c (.iinc 10 v :: is) (b0 :: b1 :: b2 :: b3 :: b4 :: b5 :: b6 :: b7 :: b8 :: .ref p :: .int x :: l) (st) m = s_x X d c is (b0 :: b1 :: b2 :: b3 :: b4 :: b5 :: b6 :: b7 :: b8 :: .ref p :: .int (x + iI v) :: l) (st) m := rfl
theorem x_istore10u {b0 b1 b2 b3 b4 b5 b6 b7 b8 : Value} {p : Nat} {x : Int32} {w : Value} : s_x X d c (.istore 10 :: is) (b0 :: b1 :: b2 :: b3 :: b4 :: b5 :: b6 :: b7 :: b8 :: .retAddr p :: w :: l) (.int x :: st) m = s_x X d c is (b0 :: b1 :: b2 :: b3 :: b4 :: b5 :: b6 :: b7 :: b8 :: .retAddr p :: .int x :: l) (st) m := rfl
theorem x_astore10u {b0 b1 b2 b3 b4 b5 b6 b7 b8 : Value} {p : Nat} {x : Nat} {w : Value} : s_x X d c (.astore 10 :: is) (b0 :: b1 :: b2 :: b3 :: b4 :: b5 :: b6 :: b7 :: b8 :: .retAddr p :: w :: l) (.ref x :: st) m = s_x X d c is (b0 :: b1 :: b2 :: b3 :: b4 :: b5 :: b6 :: b7 :: b8 :: .retAddr p :: .ref x :: l) (st) m := rfl
theorem x_lstore10u {b0 b1 b2 b3 b4 b5 b6 b7 b8 : Value} {p : Nat} {x : Int64} {w w2 : Value} : s_x X d c (.lstore 10 :: is) (b0 :: b1 :: b2 :: b3 :: b4 :: b5 :: b6 :: b7 :: b8 :: .retAddr p :: w :: w2 :: l) (.long x :: st) m = s_x X d c is (b0 :: b1 :: b2 :: b3 :: b4 :: b5 :: b6 :: b7 :: b8 :: .retAddr p :: .long x :: .retAddr 0 :: l) (st) m := rfl
theorem x_iinc10u {b0 b1 b2 b3 b4 b5 b6 b7 b8 : Value} {p : Nat} {x : Int32} {v : Int} : s_x X d c (.iinc 10 v :: is) (b0 :: b1 :: b2 :: b3 :: b4 :: b5 :: b6 :: b7 :: b8 :: .retAddr p :: .int x :: l) (st) m = s_x X d c is (b0 :: b1 :: b2 :: b3 :: b4 :: b5 :: b6 :: b7 :: b8 :: .retAddr p :: .int (x + iI v) :: l) (st) m := rfl
theorem x_iadd {x y : Int32} : s_x X d c (.iadd :: is) (ls) (.int y :: .int x :: st) m = s_x X d c is (ls) (.int (x + y) :: st) m := rfl
theorem x_isub {x y : Int32} : s_x X d c (.isub :: is) (ls) (.int y :: .int x :: st) m = s_x X d c is (ls) (.int (x - y) :: st) m := rfl
theorem x_imul {x y : Int32} : s_x X d c (.imul :: is) (ls) (.int y :: .int x :: st) m = s_x X d c is (ls) (.int (x * y) :: st) m := rfl
theorem x_iand {x y : Int32} : s_x X d c (.iand :: is) (ls) (.int y :: .int x :: st) m = s_x X d c is (ls) (.int (x &&& y) :: st) m := rfl
theorem x_ior {x y : Int32} : s_x X d c (.ior :: is) (ls) (.int y :: .int x :: st) m = s_x X d c is (ls) (.int (x ||| y) :: st) m := rfl
theorem x_ixor {x y : Int32} : s_x X d c (.ixor :: is) (ls) (.int y :: .int x :: st) m = s_x X d c is (ls) (.int (x ^^^ y) :: st) m := rfl
theorem x_ishl {x y : Int32} : s_x X d c (.ishl :: is) (ls) (.int y :: .int x :: st) m = s_x X d c is (ls) (.int (x <<< (y &&& 31)) :: st) m := rfl
theorem x_ishr {x y : Int32} : s_x X d c (.ishr :: is) (ls) (.int y :: .int x :: st) m = s_x X d c is (ls) (.int (x >>> (y &&& 31)) :: st) m := rfl
theorem x_iushr {x y : Int32} : s_x X d c (.iushr :: is) (ls) (.int y :: .int x :: st) m = s_x X d c is (ls) (.int ((x.toUInt32 >>> (y.toUInt32 &&& Int32.toUInt32 31)).toInt32) :: st) m := rfl
theorem x_dadd {x y : Int32} : s_x X d c (.dadd :: is) (ls) (.int y :: .int x :: st) m = s_x X d c is (ls) (.int (if x < y then y else x) :: st) m := rfl
theorem x_dsub {x y : Int32} : s_x X d c (.dsub :: is) (ls) (.int y :: .int x :: st) m = s_x X d c is (ls) (.int (if y < x then y else x) :: st) m := rfl
theorem x_idiv {x y : Int32} (h : ¬ y = 0) : s_x X d c (.idiv :: is) (ls) (.int y :: .int x :: st) m = s_x X d c is (ls) (.int (x / y) :: st) m := by
  simp only [s_x, e_x, e_st, e_id, if_neg h]
theorem x_irem {x y : Int32} (h : ¬ y = 0) : s_x X d c (.irem :: is) (ls) (.int y :: .int x :: st) m = s_x X d c is (ls) (.int (x % y) :: st) m := by
  simp only [s_x, e_x, e_st, e_id, if_neg h]
theorem x_ineg {x : Int32} : s_x X d c (.ineg :: is) (ls) (.int x :: st) m = s_x X d c is (ls) (.int (-x) :: st) m := rfl
theorem x_i2b {x : Int32} : s_x X d c (.i2b :: is) (ls) (.int x :: st) m = s_x X d c is (ls) (.int (x.toInt8.toInt32) :: st) m := rfl
theorem x_i2s {x : Int32} : s_x X d c (.i2s :: is) (ls) (.int x :: st) m = s_x X d c is (ls) (.int (x.toInt16.toInt32) :: st) m := rfl
theorem x_i2c {x : Int32} : s_x X d c (.i2c :: is) (ls) (.int x :: st) m = s_x X d c is (ls) (.int ((x.toUInt32 % 65536).toInt32) :: st) m := rfl
theorem x_dneg {x : Int32} : s_x X d c (.dneg :: is) (ls) (.int x :: st) m = s_x X d c is (ls) (.int (if 0 ≤ x then x else 0 - x) :: st) m := rfl
theorem x_ladd {x y : Int64} : s_x X d c (.ladd :: is) (ls) (.long y :: .long x :: st) m = s_x X d c is (ls) (.long (x + y) :: st) m := rfl
theorem x_lsub {x y : Int64} : s_x X d c (.lsub :: is) (ls) (.long y :: .long x :: st) m = s_x X d c is (ls) (.long (x - y) :: st) m := rfl
theorem x_land {x y : Int64} : s_x X d c (.land :: is) (ls) (.long y :: .long x :: st) m = s_x X d c is (ls) (.long (x &&& y) :: st) m := rfl
theorem x_lor {x y : Int64} : s_x X d c (.lor :: is) (ls) (.long y :: .long x :: st) m = s_x X d c is (ls) (.long (x ||| y) :: st) m := rfl
theorem x_lxor {x y : Int64} : s_x X d c (.lxor :: is) (ls) (.long y :: .long x :: st) m = s_x X d c is (ls) (.long (x ^^^ y) :: st) m := rfl
theorem x_lshl {x : Int64} {y : Int32} : s_x X d c (.lshl :: is) (ls) (.int y :: .long x :: st) m = s_x X d c is (ls) (.long (x <<< (y.toInt64 &&& 63)) :: st) m := rfl
theorem x_lshr {x : Int64} {y : Int32} : s_x X d c (.lshr :: is) (ls) (.int y :: .long x :: st) m = s_x X d c is (ls) (.long (x >>> (y.toInt64 &&& 63)) :: st) m := rfl
theorem x_lushr {x : Int64} {y : Int32} : s_x X d c (.lushr :: is) (ls) (.int y :: .long x :: st) m = s_x X d c is (ls) (.long ((x.toUInt64 >>> (y.toInt64.toUInt64 &&& Int64.toUInt64 63)).toInt64) :: st) m := rfl
theorem x_lcmp {x y : Int64} : s_x X d c (.lcmp :: is) (ls) (.long y :: .long x :: st) m = s_x X d c is (ls) (.int (lg_cmp x y) :: st) m := rfl
theorem x_i2l {x : Int32} : s_x X d c (.i2l :: is) (ls) (.int x :: st) m = s_x X d c is (ls) (.long x.toInt64 :: st) m := rfl
theorem x_l2i {x : Int64} : s_x X d c (.l2i :: is) (ls) (.long x :: st) m = s_x X d c is (ls) (.int x.toInt32 :: st) m := rfl
theorem x_dup_i {x : Int32} : s_x X d c (.dup :: is) (ls) (.int x :: st) m = s_x X d c is (ls) (.int x :: .int x :: st) m := rfl
theorem x_dup_r {x : Nat} : s_x X d c (.dup :: is) (ls) (.ref x :: st) m = s_x X d c is (ls) (.ref x :: .ref x :: st) m := rfl
theorem x_pop {x : Int32} : s_x X d c (.pop :: is) (ls) (.int x :: st) m = s_x X d c is (ls) (st) m := rfl
theorem x_pop2 {x : Nat} : s_x X d c (.pop2 :: is) (ls) (.ref x :: st) m = s_x X d c is (ls) (st) m := rfl
theorem x_dup_x1 {x : Int32} {y : Nat} : s_x X d c (.dup_x1 :: is) (ls) (.int x :: .ref y :: st) m = s_x X d c is (ls) (.int x :: .ref y :: .int x :: st) m := rfl
theorem x_dup2 {x : Int32} {y : Nat} : s_x X d c (.dup2 :: is) (ls) (.int x :: .ref y :: st) m = s_x X d c is (ls) (.int x :: .ref y :: .int x :: .ref y :: st) m := rfl
theorem x_ifCond_eq {x : Int32} {t : Int} : s_x X d c (.ifCond .eq t :: is) (ls) (.int x :: st) m = if x = 0 then s_j X d c t ls st m else s_x X d c is (ls) (st) m := by
  show (if e_c .eq x 0 = true then s_j X d c t ls st m else s_x X d c is ls st m) = _
  simp only [e_c, decide_eq_true_eq]
theorem x_if_icmp_eq {x y : Int32} {t : Int} : s_x X d c (.if_icmp .eq t :: is) (ls) (.int y :: .int x :: st) m = if x = y then s_j X d c t ls st m else s_x X d c is (ls) (st) m := by
  show (if e_c .eq x y = true then s_j X d c t ls st m else s_x X d c is ls st m) = _
  simp only [e_c, decide_eq_true_eq]
theorem x_ifCond_ne {x : Int32} {t : Int} : s_x X d c (.ifCond .ne t :: is) (ls) (.int x :: st) m = if x = 0 then s_x X d c is (ls) (st) m else s_j X d c t ls st m := by
  show (if e_c .ne x 0 = true then s_j X d c t ls st m else s_x X d c is ls st m) = _
  simp only [e_c, decide_eq_true_eq]
  by_cases h : x = 0
  · rw [if_pos h, if_neg (not_not_intro h)]
  · rw [if_neg h, if_pos h]
theorem x_if_icmp_ne {x y : Int32} {t : Int} : s_x X d c (.if_icmp .ne t :: is) (ls) (.int y :: .int x :: st) m = if x = y then s_x X d c is (ls) (st) m else s_j X d c t ls st m := by
  show (if e_c .ne x y = true then s_j X d c t ls st m else s_x X d c is ls st m) = _
  simp only [e_c, decide_eq_true_eq]
  by_cases h : x = y
  · rw [if_pos h, if_neg (not_not_intro h)]
  · rw [if_neg h, if_pos h]
theorem x_ifCond_lt {x : Int32} {t : Int} : s_x X d c (.ifCond .lt t :: is) (ls) (.int x :: st) m = if x < 0 then s_j X d c t ls st m else s_x X d c is (ls) (st) m := by
  show (if e_c .lt x 0 = true then s_j X d c t ls st m else s_x X d c is ls st m) = _
  simp only [e_c, decide_eq_true_eq]
theorem x_if_icmp_lt {x y : Int32} {t : Int} : s_x X d c (.if_icmp .lt t :: is) (ls) (.int y :: .int x :: st) m = if x < y then s_j X d c t ls st m else s_x X d c is (ls) (st) m := by
  show (if e_c .lt x y = true then s_j X d c t ls st m else s_x X d c is ls st m) = _
  simp only [e_c, decide_eq_true_eq]
theorem x_ifCond_ge {x : Int32} {t : Int} : s_x X d c (.ifCond .ge t :: is) (ls) (.int x :: st) m = if x < 0 then s_x X d c is (ls) (st) m else s_j X d c t ls st m := by
  show (if e_c .ge x 0 = true then s_j X d c t ls st m else s_x X d c is ls st m) = _
  simp only [e_c, decide_eq_true_eq]
  by_cases h : x < 0
  · rw [if_pos h, if_neg (Int32.not_le.mpr h)]
  · rw [if_neg h, if_pos (Int32.not_lt.mp h)]
theorem x_if_icmp_ge {x y : Int32} {t : Int} : s_x X d c (.if_icmp .ge t :: is) (ls) (.int y :: .int x :: st) m = if x < y then s_x X d c is (ls) (st) m else s_j X d c t ls st m := by
  show (if e_c .ge x y = true then s_j X d c t ls st m else s_x X d c is ls st m) = _
  simp only [e_c, decide_eq_true_eq]
  by_cases h : x < y
  · rw [if_pos h, if_neg (Int32.not_le.mpr h)]
  · rw [if_neg h, if_pos (Int32.not_lt.mp h)]
theorem x_ifCond_gt {x : Int32} {t : Int} : s_x X d c (.ifCond .gt t :: is) (ls) (.int x :: st) m = if 0 < x then s_j X d c t ls st m else s_x X d c is (ls) (st) m := by
  show (if e_c .gt x 0 = true then s_j X d c t ls st m else s_x X d c is ls st m) = _
  simp only [e_c, decide_eq_true_eq]
theorem x_if_icmp_gt {x y : Int32} {t : Int} : s_x X d c (.if_icmp .gt t :: is) (ls) (.int y :: .int x :: st) m = if y < x then s_j X d c t ls st m else s_x X d c is (ls) (st) m := by
  show (if e_c .gt x y = true then s_j X d c t ls st m else s_x X d c is ls st m) = _
  simp only [e_c, decide_eq_true_eq]
theorem x_ifCond_le {x : Int32} {t : Int} : s_x X d c (.ifCond .le t :: is) (ls) (.int x :: st) m = if 0 < x then s_x X d c is (ls) (st) m else s_j X d c t ls st m := by
  show (if e_c .le x 0 = true then s_j X d c t ls st m else s_x X d c is ls st m) = _
  simp only [e_c, decide_eq_true_eq]
  by_cases h : 0 < x
  · rw [if_pos h, if_neg (Int32.not_le.mpr h)]
  · rw [if_neg h, if_pos (Int32.not_lt.mp h)]
theorem x_if_icmp_le {x y : Int32} {t : Int} : s_x X d c (.if_icmp .le t :: is) (ls) (.int y :: .int x :: st) m = if y < x then s_x X d c is (ls) (st) m else s_j X d c t ls st m := by
  show (if e_c .le x y = true then s_j X d c t ls st m else s_x X d c is ls st m) = _
  simp only [e_c, decide_eq_true_eq]
  by_cases h : y < x
  · rw [if_pos h, if_neg (Int32.not_le.mpr h)]
  · rw [if_neg h, if_pos (Int32.not_lt.mp h)]
theorem x_goto {t : Int} : s_x X d c (.goto t :: is) (ls) (st) m = s_j X d c t ls st m := rfl
theorem x_jsr {t : Int} : s_x X d c (.jsr t :: is) (ls) (st) m = s_j X d c t ls st m := rfl
theorem x_switch {x : Int32} {e : Int} {ps : Array (Int × Int)} : s_x X d c (.lookupswitch e ps :: is) (ls) (.int x :: st) m = e_sw (fun t => s_g X d c t ls st m) e ps.toList x := rfl
theorem x_ireturn {x : Int32} : s_x X d c (.ireturn :: is) (ls) ([.int x]) m = some ([.int x], m) := rfl
theorem x_lreturn {x : Int64} : s_x X d c (.lreturn :: is) (ls) ([.long x]) m = some ([.long x], m) := rfl
theorem x_return : s_x X d c (.return_ :: is) (ls) ([]) m = some ([], m) := rfl
theorem x_call1_0 {e : Nat} {v0 : Value} : s_x X d c (.invokeinterface e 1 :: is) (ls) ([v0]) m = e_k (s_S X d e [v0] m) (fun r q => s_x X d c is ls (r ++ []) q) := rfl
theorem x_call1_1 {e : Nat} {v0 s0 : Value} : s_x X d c (.invokeinterface e 1 :: is) (ls) ([v0, s0]) m = e_k (s_S X d e [v0] m) (fun r q => s_x X d c is ls (r ++ [s0]) q) := rfl
theorem x_call1_2 {e : Nat} {v0 s0 s1 : Value} : s_x X d c (.invokeinterface e 1 :: is) (ls) ([v0, s0, s1]) m = e_k (s_S X d e [v0] m) (fun r q => s_x X d c is ls (r ++ [s0, s1]) q) := rfl
theorem x_call1_3 {e : Nat} {v0 s0 s1 s2 : Value} : s_x X d c (.invokeinterface e 1 :: is) (ls) ([v0, s0, s1, s2]) m = e_k (s_S X d e [v0] m) (fun r q => s_x X d c is ls (r ++ [s0, s1, s2]) q) := rfl
theorem x_call1_4 {e : Nat} {v0 s0 s1 s2 s3 : Value} : s_x X d c (.invokeinterface e 1 :: is) (ls) ([v0, s0, s1, s2, s3]) m = e_k (s_S X d e [v0] m) (fun r q => s_x X d c is ls (r ++ [s0, s1, s2, s3]) q) := rfl
theorem x_call2_0 {e : Nat} {v0 v1 : Value} : s_x X d c (.invokeinterface e 2 :: is) (ls) ([v1, v0]) m = e_k (s_S X d e [v0, v1] m) (fun r q => s_x X d c is ls (r ++ []) q) := rfl
theorem x_call2_1 {e : Nat} {v0 v1 s0 : Value} : s_x X d c (.invokeinterface e 2 :: is) (ls) ([v1, v0, s0]) m = e_k (s_S X d e [v0, v1] m) (fun r q => s_x X d c is ls (r ++ [s0]) q) := rfl
theorem x_call2_2 {e : Nat} {v0 v1 s0 s1 : Value} : s_x X d c (.invokeinterface e 2 :: is) (ls) ([v1, v0, s0, s1]) m = e_k (s_S X d e [v0, v1] m) (fun r q => s_x X d c is ls (r ++ [s0, s1]) q) := rfl
theorem x_call2_3 {e : Nat} {v0 v1 s0 s1 s2 : Value} : s_x X d c (.invokeinterface e 2 :: is) (ls) ([v1, v0, s0, s1, s2]) m = e_k (s_S X d e [v0, v1] m) (fun r q => s_x X d c is ls (r ++ [s0, s1, s2]) q) := rfl
theorem x_call2_4 {e : Nat} {v0 v1 s0 s1 s2 s3 : Value} : s_x X d c (.invokeinterface e 2 :: is) (ls) ([v1, v0, s0, s1, s2, s3]) m = e_k (s_S X d e [v0, v1] m) (fun r q => s_x X d c is ls (r ++ [s0, s1, s2, s3]) q) := rfl
theorem x_call3_0 {e : Nat} {v0 v1 v2 : Value} : s_x X d c (.invokeinterface e 3 :: is) (ls) ([v2, v1, v0]) m = e_k (s_S X d e [v0, v1, v2] m) (fun r q => s_x X d c is ls (r ++ []) q) := rfl
theorem x_call3_1 {e : Nat} {v0 v1 v2 s0 : Value} : s_x X d c (.invokeinterface e 3 :: is) (ls) ([v2, v1, v0, s0]) m = e_k (s_S X d e [v0, v1, v2] m) (fun r q => s_x X d c is ls (r ++ [s0]) q) := rfl
theorem x_call3_2 {e : Nat} {v0 v1 v2 s0 s1 : Value} : s_x X d c (.invokeinterface e 3 :: is) (ls) ([v2, v1, v0, s0, s1]) m = e_k (s_S X d e [v0, v1, v2] m) (fun r q => s_x X d c is ls (r ++ [s0, s1]) q) := rfl
theorem x_call3_3 {e : Nat} {v0 v1 v2 s0 s1 s2 : Value} : s_x X d c (.invokeinterface e 3 :: is) (ls) ([v2, v1, v0, s0, s1, s2]) m = e_k (s_S X d e [v0, v1, v2] m) (fun r q => s_x X d c is ls (r ++ [s0, s1, s2]) q) := rfl
theorem x_call3_4 {e : Nat} {v0 v1 v2 s0 s1 s2 s3 : Value} : s_x X d c (.invokeinterface e 3 :: is) (ls) ([v2, v1, v0, s0, s1, s2, s3]) m = e_k (s_S X d e [v0, v1, v2] m) (fun r q => s_x X d c is ls (r ++ [s0, s1, s2, s3]) q) := rfl
theorem x_call4_0 {e : Nat} {v0 v1 v2 v3 : Value} : s_x X d c (.invokeinterface e 4 :: is) (ls) ([v3, v2, v1, v0]) m = e_k (s_S X d e [v0, v1, v2, v3] m) (fun r q => s_x X d c is ls (r ++ []) q) := rfl
theorem x_call4_1 {e : Nat} {v0 v1 v2 v3 s0 : Value} : s_x X d c (.invokeinterface e 4 :: is) (ls) ([v3, v2, v1, v0, s0]) m = e_k (s_S X d e [v0, v1, v2, v3] m) (fun r q => s_x X d c is ls (r ++ [s0]) q) := rfl
theorem x_call4_2 {e : Nat} {v0 v1 v2 v3 s0 s1 : Value} : s_x X d c (.invokeinterface e 4 :: is) (ls) ([v3, v2, v1, v0, s0, s1]) m = e_k (s_S X d e [v0, v1, v2, v3] m) (fun r q => s_x X d c is ls (r ++ [s0, s1]) q) := rfl
theorem x_call4_3 {e : Nat} {v0 v1 v2 v3 s0 s1 s2 : Value} : s_x X d c (.invokeinterface e 4 :: is) (ls) ([v3, v2, v1, v0, s0, s1, s2]) m = e_k (s_S X d e [v0, v1, v2, v3] m) (fun r q => s_x X d c is ls (r ++ [s0, s1, s2]) q) := rfl
theorem x_call4_4 {e : Nat} {v0 v1 v2 v3 s0 s1 s2 s3 : Value} : s_x X d c (.invokeinterface e 4 :: is) (ls) ([v3, v2, v1, v0, s0, s1, s2, s3]) m = e_k (s_S X d e [v0, v1, v2, v3] m) (fun r q => s_x X d c is ls (r ++ [s0, s1, s2, s3]) q) := rfl
theorem x_call5_0 {e : Nat} {v0 v1 v2 v3 v4 : Value} : s_x X d c (.invokeinterface e 5 :: is) (ls) ([v4, v3, v2, v1, v0]) m = e_k (s_S X d e [v0, v1, v2, v3, v4] m) (fun r q => s_x X d c is ls (r ++ []) q) := rfl
theorem x_call5_1 {e : Nat} {v0 v1 v2 v3 v4 s0 : Value} : s_x X d c (.invokeinterface e 5 :: is) (ls) ([v4, v3, v2, v1, v0, s0]) m = e_k (s_S X d e [v0, v1, v2, v3, v4] m) (fun r q => s_x X d c is ls (r ++ [s0]) q) := rfl
theorem x_call5_2 {e : Nat} {v0 v1 v2 v3 v4 s0 s1 : Value} : s_x X d c (.invokeinterface e 5 :: is) (ls) ([v4, v3, v2, v1, v0, s0, s1]) m = e_k (s_S X d e [v0, v1, v2, v3, v4] m) (fun r q => s_x X d c is ls (r ++ [s0, s1]) q) := rfl
theorem x_call5_3 {e : Nat} {v0 v1 v2 v3 v4 s0 s1 s2 : Value} : s_x X d c (.invokeinterface e 5 :: is) (ls) ([v4, v3, v2, v1, v0, s0, s1, s2]) m = e_k (s_S X d e [v0, v1, v2, v3, v4] m) (fun r q => s_x X d c is ls (r ++ [s0, s1, s2]) q) := rfl
theorem x_call5_4 {e : Nat} {v0 v1 v2 v3 v4 s0 s1 s2 s3 : Value} : s_x X d c (.invokeinterface e 5 :: is) (ls) ([v4, v3, v2, v1, v0, s0, s1, s2, s3]) m = e_k (s_S X d e [v0, v1, v2, v3, v4] m) (fun r q => s_x X d c is ls (r ++ [s0, s1, s2, s3]) q) := rfl
theorem x_call6_0 {e : Nat} {v0 v1 v2 v3 v4 v5 : Value} : s_x X d c (.invokeinterface e 6 :: is) (ls) ([v5, v4, v3, v2, v1, v0]) m = e_k (s_S X d e [v0, v1, v2, v3, v4, v5] m) (fun r q => s_x X d c is ls (r ++ []) q) := rfl
theorem x_call6_1 {e : Nat} {v0 v1 v2 v3 v4 v5 s0 : Value} : s_x X d c (.invokeinterface e 6 :: is) (ls) ([v5, v4, v3, v2, v1, v0, s0]) m = e_k (s_S X d e [v0, v1, v2, v3, v4, v5] m) (fun r q => s_x X d c is ls (r ++ [s0]) q) := rfl
theorem x_call6_2 {e : Nat} {v0 v1 v2 v3 v4 v5 s0 s1 : Value} : s_x X d c (.invokeinterface e 6 :: is) (ls) ([v5, v4, v3, v2, v1, v0, s0, s1]) m = e_k (s_S X d e [v0, v1, v2, v3, v4, v5] m) (fun r q => s_x X d c is ls (r ++ [s0, s1]) q) := rfl
theorem x_call6_3 {e : Nat} {v0 v1 v2 v3 v4 v5 s0 s1 s2 : Value} : s_x X d c (.invokeinterface e 6 :: is) (ls) ([v5, v4, v3, v2, v1, v0, s0, s1, s2]) m = e_k (s_S X d e [v0, v1, v2, v3, v4, v5] m) (fun r q => s_x X d c is ls (r ++ [s0, s1, s2]) q) := rfl
theorem x_call6_4 {e : Nat} {v0 v1 v2 v3 v4 v5 s0 s1 s2 s3 : Value} : s_x X d c (.invokeinterface e 6 :: is) (ls) ([v5, v4, v3, v2, v1, v0, s0, s1, s2, s3]) m = e_k (s_S X d e [v0, v1, v2, v3, v4, v5] m) (fun r q => s_x X d c is ls (r ++ [s0, s1, s2, s3]) q) := rfl
variable {K : List (Nat × Nat)} {ci : Nat → Nat → Int32} {cj : Nat → Nat → Int64} {cr : Nat → Nat → Nat}
theorem x_getfield {o n : Nat} : s_x X d c (.getfield n :: is) (ls) (.ref o :: st) (K, ci, cj, cr) = if e_ob K o n = true then s_x X d c is (ls) (.int (ci o (n % 64)) :: st) (K, ci, cj, cr) else none := by
  show (match (if e_ob K o n = true then _ else none : e_T) with | some (a, b, q) => _ | none => _) = _
  by_cases h : e_ob K o n = true
  · rw [if_pos h, if_pos h]; rfl
  · rw [if_neg h, if_neg h]
theorem x_getref {o n : Nat} : s_x X d c (.checkcast n :: is) (ls) (.ref o :: st) (K, ci, cj, cr) = if e_ob K o n = true then s_x X d c is (ls) (e_rf (cr o (n % 64)) :: st) (K, ci, cj, cr) else none := by
  show (match (if e_ob K o n = true then _ else none : e_T) with | some (a, b, q) => _ | none => _) = _
  by_cases h : e_ob K o n = true
  · rw [if_pos h, if_pos h]; rfl
  · rw [if_neg h, if_neg h]
theorem x_putfield {o n : Nat} {v : Int32} : s_x X d c (.putfield n :: is) (ls) (.int v :: .ref o :: st) (K, ci, cj, cr) = if (e_ob K o n && (!(e_bool n) || decide (v = 0) || decide (v = 1))) = true then s_x X d c is (ls) (st) (K, e_up ci o (n % 64) v, cj, cr) else none := by
  show (match (if (e_ob K o n && (!(e_bool n) || decide (v = 0) || decide (v = 1))) = true then _ else none : e_T) with | some (a, b, q) => _ | none => _) = _
  by_cases h : (e_ob K o n && (!(e_bool n) || decide (v = 0) || decide (v = 1))) = true
  · rw [if_pos h, if_pos h]; rfl
  · rw [if_neg h, if_neg h]
theorem x_iaload {o : Nat} {i : Int32} : s_x X d c (.iaload :: is) (ls) (.int i :: .ref o :: st) (K, ci, cj, cr) = if e_in i (e_ar K o e_kI) = true then s_x X d c is (ls) (.int (ci o i.toNatClampNeg) :: st) (K, ci, cj, cr) else none := by
  show (match (if e_in i (e_ar K o e_kI) = true then _ else none : e_T) with | some (a, b, q) => _ | none => _) = _
  by_cases h : e_in i (e_ar K o e_kI) = true
  · rw [if_pos h, if_pos h]; rfl
  · rw [if_neg h, if_neg h]
theorem x_caload {o : Nat} {i : Int32} : s_x X d c (.caload :: is) (ls) (.int i :: .ref o :: st) (K, ci, cj, cr) = if e_in i (e_ar K o e_kC) = true then s_x X d c is (ls) (.int (ci o i.toNatClampNeg) :: st) (K, ci, cj, cr) else none := by
  show (match (if e_in i (e_ar K o e_kC) = true then _ else none : e_T) with | some (a, b, q) => _ | none => _) = _
  by_cases h : e_in i (e_ar K o e_kC) = true
  · rw [if_pos h, if_pos h]; rfl
  · rw [if_neg h, if_neg h]
theorem x_laload {o : Nat} {i : Int32} : s_x X d c (.laload :: is) (ls) (.int i :: .ref o :: st) (K, ci, cj, cr) = if e_in i (e_ar K o e_kJ) = true then s_x X d c is (ls) (.long (cj o i.toNatClampNeg) :: st) (K, ci, cj, cr) else none := by
  show (match (if e_in i (e_ar K o e_kJ) = true then _ else none : e_T) with | some (a, b, q) => _ | none => _) = _
  by_cases h : e_in i (e_ar K o e_kJ) = true
  · rw [if_pos h, if_pos h]; rfl
  · rw [if_neg h, if_neg h]
theorem x_iastore {o : Nat} {i v : Int32} : s_x X d c (.iastore :: is) (ls) (.int v :: .int i :: .ref o :: st) (K, ci, cj, cr) = if e_in i (e_ar K o e_kI) = true then s_x X d c is (ls) (st) (K, e_up ci o i.toNatClampNeg v, cj, cr) else none := by
  show (match (if e_in i (e_ar K o e_kI) = true then _ else none : e_T) with | some (a, b, q) => _ | none => _) = _
  by_cases h : e_in i (e_ar K o e_kI) = true
  · rw [if_pos h, if_pos h]; rfl
  · rw [if_neg h, if_neg h]
theorem x_lastore {o : Nat} {i : Int32} {v : Int64} : s_x X d c (.lastore :: is) (ls) (.long v :: .int i :: .ref o :: st) (K, ci, cj, cr) = if e_in i (e_ar K o e_kJ) = true then s_x X d c is (ls) (st) (K, ci, e_up cj o i.toNatClampNeg v, cr) else none := by
  show (match (if e_in i (e_ar K o e_kJ) = true then _ else none : e_T) with | some (a, b, q) => _ | none => _) = _
  by_cases h : e_in i (e_ar K o e_kJ) = true
  · rw [if_pos h, if_pos h]; rfl
  · rw [if_neg h, if_neg h]
theorem x_faload {o : Nat} {i : Int32} : s_x X d c (.faload :: is) (ls) (.int i :: .ref o :: st) (K, ci, cj, cr) = if (decide (o = 1000) && e_in i X.1) = true then s_x X d c is (ls) (.int (X.2 i.toNatClampNeg) :: st) (K, ci, cj, cr) else none := by
  show (match (if (decide (o = 1000) && e_in i X.1) = true then _ else none : e_T) with | some (a, b, q) => _ | none => _) = _
  by_cases h : (decide (o = 1000) && e_in i X.1) = true
  · rw [if_pos h, if_pos h]; rfl
  · rw [if_neg h, if_neg h]
theorem x_fadd {o : Nat} : s_x X d c (.fadd :: is) (ls) (.ref o :: st) (K, ci, cj, cr) = if o = 1000 then s_x X d c is (ls) (.int (Int32.ofNat X.1) :: st) (K, ci, cj, cr) else none := by
  show (match (if o = 1000 then _ else none : e_T) with | some (a, b, q) => _ | none => _) = _
  by_cases h : o = 1000
  · rw [if_pos h, if_pos h]; rfl
  · rw [if_neg h, if_neg h]
theorem x_daload {o : Nat} {i : Int32} : s_x X d c (.daload :: is) (ls) (.int i :: .ref o :: st) (K, ci, cj, cr) = if (decide (o = 1001) && e_in i 6) = true then s_x X d c is (ls) (.int (e_abv i.toNatClampNeg) :: st) (K, ci, cj, cr) else none := by
  show (match (if (decide (o = 1001) && e_in i 6) = true then _ else none : e_T) with | some (a, b, q) => _ | none => _) = _
  by_cases h : (decide (o = 1001) && e_in i 6) = true
  · rw [if_pos h, if_pos h]; rfl
  · rw [if_neg h, if_neg h]
theorem x_fsub {o : Nat} : s_x X d c (.fsub :: is) (ls) (.ref o :: st) (K, ci, cj, cr) = if o = 1001 then s_x X d c is (ls) (.int 6 :: st) (K, ci, cj, cr) else none := by
  show (match (if o = 1001 then _ else none : e_T) with | some (a, b, q) => _ | none => _) = _
  by_cases h : o = 1001
  · rw [if_pos h, if_pos h]; rfl
  · rw [if_neg h, if_neg h]
theorem x_baload {o : Nat} {i : Int32} : s_x X d c (.baload :: is) (ls) (.int i :: .ref o :: st) (K, ci, cj, cr) = if (decide (o = 1003) && e_in i 98) = true then s_x X d c is (ls) (.int (e_nms.getD i.toNatClampNeg 0) :: st) (K, ci, cj, cr) else none := by
  show (match (if (decide (o = 1003) && e_in i 98) = true then _ else none : e_T) with | some (a, b, q) => _ | none => _) = _
  by_cases h : (decide (o = 1003) && e_in i 98) = true
  · rw [if_pos h, if_pos h]; rfl
  · rw [if_neg h, if_neg h]
theorem x_fmul {o : Nat} : s_x X d c (.fmul :: is) (ls) (.ref o :: st) (K, ci, cj, cr) = if o = 1003 then s_x X d c is (ls) (.int 98 :: st) (K, ci, cj, cr) else none := by
  show (match (if o = 1003 then _ else none : e_T) with | some (a, b, q) => _ | none => _) = _
  by_cases h : o = 1003
  · rw [if_pos h, if_pos h]; rfl
  · rw [if_neg h, if_neg h]
theorem x_fload0 : s_x X d c (.fload 0 :: is) (ls) (.ref 1002 :: st) m = s_x X d c is (ls) (.ref 1003 :: st) m := rfl
theorem x_fload1 : s_x X d c (.fload 1 :: is) (ls) (.ref 1002 :: st) m = s_x X d c is (ls) (.int 0 :: st) m := rfl
theorem x_gets0 : s_x X d c (.getstatic 0 :: is) (ls) (st) m = s_x X d c is (ls) (.ref 1001 :: st) m := rfl
theorem x_gets1 : s_x X d c (.getstatic 1 :: is) (ls) (st) m = s_x X d c is (ls) (.int 1 :: st) m := rfl
theorem x_gets2 : s_x X d c (.getstatic 2 :: is) (ls) (st) m = s_x X d c is (ls) (.ref 1004 :: st) m := rfl
theorem x_gets3 : s_x X d c (.getstatic 3 :: is) (ls) (st) m = s_x X d c is (ls) (.ref 1002 :: st) m := rfl
theorem x_alen {o z : Nat} (h : K[o]? = some (e_kI, z)) : s_x X d c (.arraylength :: is) ls (.ref o :: st) (K, ci, cj, cr) = s_x X d c is ls (.int (Int32.ofNat z) :: st) (K, ci, cj, cr) := by
  show (match (match K[o]? with | some (c, z) => if decide (c = e_kI) then some (ls, Value.int (Int32.ofNat z) :: st, (K, ci, cj, cr)) else none | none => none : e_T) with | some (a, b, q) => _ | none => _) = _
  rw [h]; rfl
theorem x_aaload {o k z : Nat} {i : Int32} (h : K[o]? = some (k, z)) (hk : e_kO ≤ k) (hi : e_in i z = true) : s_x X d c (.aaload :: is) ls (.int i :: .ref o :: st) (K, ci, cj, cr) = s_x X d c is ls (e_rf (cr o i.toNatClampNeg) :: st) (K, ci, cj, cr) := by
  show (match (match K[o]? with | some (c, z) => if decide (e_kO ≤ c) && e_in i z then some (ls, e_rf (cr o i.toNatClampNeg) :: st, (K, ci, cj, cr)) else none | none => none : e_T) with | some (a, b, q) => _ | none => _) = _
  rw [h]
  simp only [hk, hi, decide_true, Bool.and_self, if_true]
  rfl
theorem x_copy {o a : Nat} {n dp sp : Int32} (h : (decide (n < 0) || decide (dp < 0) || decide (sp < 0) || decide (e_ar K o e_kI < sp.toNatClampNeg + n.toNatClampNeg) || decide (e_ar K a e_kI < dp.toNatClampNeg + n.toNatClampNeg) || decide (st.length > 3) || decide (K.length ≤ o) || decide (K.length ≤ a)) = false) :
    s_x X d c (.dmul :: is) ls (.int n :: .int dp :: .ref a :: .int sp :: .ref o :: st) (K, ci, cj, cr) = s_x X d c is ls st (K, fun x b => if x = a then (if dp.toNatClampNeg ≤ b ∧ b < dp.toNatClampNeg + n.toNatClampNeg then ci o (sp.toNatClampNeg + (b - dp.toNatClampNeg)) else ci a b) else ci x b, cj, cr) := by
  show (match (if _ then none else _ : e_T) with | some (a, b, q) => _ | none => _) = _
  rw [if_neg (by rw [h]; decide)]
  rfl
end
end
section
/-- A.begin -/
theorem g_l1 (l : Nat) : g_P 1 l = (g_c1.lookup l).getD [] := rfl
theorem v_1 {X : e_X} {d : Nat} (a0 : Nat) (a1 : Int32) (a2 : Int32) (a3 : Int32) {m : e_M} : s_S X (d + 1) 1 [.ref a0, .int a1, .int a2, .int a3] m = s_j X d 1 0 [.ref a0, .int a1, .int a2, .int a3] [] m := rfl
theorem u_1_0 {X : e_X} {d : Nat} {ls st : List Value} {m : e_M} : s_j X d 1 0 ls st m = s_x X d 1 [.aload 0, .iload 1, .putfield 3, .aload 0, .iload 2, .putfield 4, .aload 0, .iload 3, .putfield 5, .aload 0, .sipush 0, .putfield 1, .aload 0, .sipush 0, .putfield 2, .return_] ls st m := by
  rw [s_j, s_g_eq, g_l1]; rfl
/-- A.perform -/
theorem g_l2 (l : Nat) : g_P 2 l = (g_c2.lookup l).getD [] := rfl
theorem v_2 {X : e_X} {d : Nat} (a0 : Nat) (a1 : Int32) (a2 : Int32) {m : e_M} : s_S X (d + 1) 2 [.ref a0, .int a1, .int a2] m = s_j X d 2 0 [.ref a0, .int a1, .int a2, .retAddr 0] [] m := rfl
theorem u_2_0 {X : e_X} {d : Nat} {ls st : List Value} {m : e_M} : s_j X d 2 0 ls st m = s_x X d 2 [.sipush 0, .istore 3, .iload 1, .lookupswitch 55 #[(0, 28), (1, 37), (2, 46)]] ls st m := by
  rw [s_j, s_g_eq, g_l2]; rfl
theorem u_2_28 {X : e_X} {d : Nat} {ls st : List Value} {m : e_M} : s_j X d 2 28 ls st m = s_x X d 2 [.aload 0, .iload 2, .invokeinterface 3 2, .istore 3, .goto 61] ls st m := by
  rw [s_j, s_g_eq, g_l2]; rfl
theorem u_2_37 {X : e_X} {d : Nat} {ls st : List Value} {m : e_M} : s_j X d 2 37 ls st m = s_x X d 2 [.aload 0, .iload 2, .invokeinterface 5 2, .istore 3, .goto 61] ls st m := by
  rw [s_j, s_g_eq, g_l2]; rfl
theorem u_2_46 {X : e_X} {d : Nat} {ls st : List Value} {m : e_M} : s_j X d 2 46 ls st m = s_x X d 2 [.aload 0, .iload 2, .invokeinterface 6 2, .istore 3, .goto 61] ls st m := by
  rw [s_j, s_g_eq, g_l2]; rfl
theorem u_2_55 {X : e_X} {d : Nat} {ls st : List Value} {m : e_M} : s_j X d 2 55 ls st m = s_x X d 2 [.aload 0, .iload 2, .invokeinterface 7 2, .istore 3, .jsr 61] ls st m := by
  rw [s_j, s_g_eq, g_l2]; rfl
theorem u_2_61 {X : e_X} {d : Nat} {ls st : List Value} {m : e_M} : s_j X d 2 61 ls st m = s_x X d 2 [.aload 0, .getfield 2, .ifCond .eq 73, .sipush (-15), .goto 74] ls st m := by
  rw [s_j, s_g_eq, g_l2]; rfl
theorem u_2_73 {X : e_X} {d : Nat} {ls st : List Value} {m : e_M} : s_j X d 2 73 ls st m = s_x X d 2 [.iload 3, .jsr 74] ls st m := by
  rw [s_j, s_g_eq, g_l2]; rfl
theorem u_2_74 {X : e_X} {d : Nat} {ls st : List Value} {m : e_M} : s_j X d 2 74 ls st m = s_x X d 2 [.ireturn] ls st m := by
  rw [s_j, s_g_eq, g_l2]; rfl
/-- A.lays -/
theorem g_l3 (l : Nat) : g_P 3 l = (g_c3.lookup l).getD [] := rfl
theorem v_3 {X : e_X} {d : Nat} (a0 : Nat) (a1 : Int32) {m : e_M} : s_S X (d + 1) 3 [.ref a0, .int a1] m = s_j X d 3 0 [.ref a0, .int a1, .retAddr 0] [] m := rfl
theorem u_3_0 {X : e_X} {d : Nat} {ls st : List Value} {m : e_M} : s_j X d 3 0 ls st m = s_x X d 3 [.aload 0, .getfield 3, .sipush 1, .if_icmp .ne 14, .aload 0, .sipush 20, .invokeinterface 4 2, .jsr 14] ls st m := by
  rw [s_j, s_g_eq, g_l3]; rfl
theorem u_3_14 {X : e_X} {d : Nat} {ls st : List Value} {m : e_M} : s_j X d 3 14 ls st m = s_x X d 3 [.aload 0, .getfield 3, .sipush 3, .if_icmp .ne 28, .aload 0, .sipush 50, .invokeinterface 4 2, .jsr 28] ls st m := by
  rw [s_j, s_g_eq, g_l3]; rfl
theorem u_3_28 {X : e_X} {d : Nat} {ls st : List Value} {m : e_M} : s_j X d 3 28 ls st m = s_x X d 3 [.aload 0, .sipush 10, .invokeinterface 4 2, .iload 1, .sipush 2, .imul, .aload 0, .getfield 4, .iadd, .istore 2, .aload 0, .getfield 3, .sipush 1, .if_icmp .ne 55, .iload 2, .sipush 3, .imul, .ireturn] ls st m := by
  rw [s_j, s_g_eq, g_l3]; rfl
theorem u_3_55 {X : e_X} {d : Nat} {ls st : List Value} {m : e_M} : s_j X d 3 55 ls st m = s_x X d 3 [.aload 0, .getfield 3, .sipush 3, .if_icmp .ne 69, .iload 2, .sipush 4, .ixor, .goto 70] ls st m := by
  rw [s_j, s_g_eq, g_l3]; rfl
theorem u_3_69 {X : e_X} {d : Nat} {ls st : List Value} {m : e_M} : s_j X d 3 69 ls st m = s_x X d 3 [.iload 2, .jsr 70] ls st m := by
  rw [s_j, s_g_eq, g_l3]; rfl
theorem u_3_70 {X : e_X} {d : Nat} {ls st : List Value} {m : e_M} : s_j X d 3 70 ls st m = s_x X d 3 [.ireturn] ls st m := by
  rw [s_j, s_g_eq, g_l3]; rfl
/-- A.note -/
theorem g_l4 (l : Nat) : g_P 4 l = (g_c4.lookup l).getD [] := rfl
theorem v_4 {X : e_X} {d : Nat} (a0 : Nat) (a1 : Int32) {m : e_M} : s_S X (d + 1) 4 [.ref a0, .int a1] m = s_j X d 4 0 [.ref a0, .int a1] [] m := rfl
theorem u_4_0 {X : e_X} {d : Nat} {ls st : List Value} {m : e_M} : s_j X d 4 0 ls st m = s_x X d 4 [.aload 0, .getfield 2, .ifCond .ne 33, .aload 0, .getfield 1, .sipush 30, .if_icmp .ge 33, .aload 0, .checkcast 0, .aload 0, .dup, .getfield 1, .dup_x1, .sipush 1, .iadd, .putfield 1, .iload 1, .iastore, .jsr 33] ls st m := by
  rw [s_j, s_g_eq, g_l4]; rfl
theorem u_4_33 {X : e_X} {d : Nat} {ls st : List Value} {m : e_M} : s_j X d 4 33 ls st m = s_x X d 4 [.return_] ls st m := by
  rw [s_j, s_g_eq, g_l4]; rfl
/-- A.tilts -/
theorem g_l5 (l : Nat) : g_P 5 l = (g_c5.lookup l).getD [] := rfl
theorem v_5 {X : e_X} {d : Nat} (a0 : Nat) (a1 : Int32) {m : e_M} : s_S X (d + 1) 5 [.ref a0, .int a1] m = s_j X d 5 0 [.ref a0, .int a1, .retAddr 0, .retAddr 0] [] m := rfl
theorem u_5_0 {X : e_X} {d : Nat} {ls st : List Value} {m : e_M} : s_j X d 5 0 ls st m = s_x X d 5 [.aload 0, .getfield 3, .sipush 2, .invokeinterface 112 2, .istore 2, .iload 2, .ifCond .eq 19, .aload 0, .sipush 30, .invokeinterface 4 2, .jsr 19] ls st m := by
  rw [s_j, s_g_eq, g_l5]; rfl
theorem u_5_19 {X : e_X} {d : Nat} {ls st : List Value} {m : e_M} : s_j X d 5 19 ls st m = s_x X d 5 [.aload 0, .getfield 3, .sipush 5, .if_icmp .ne 33, .aload 0, .sipush 60, .invokeinterface 4 2, .jsr 33] ls st m := by
  rw [s_j, s_g_eq, g_l5]; rfl
theorem u_5_33 {X : e_X} {d : Nat} {ls st : List Value} {m : e_M} : s_j X d 5 33 ls st m = s_x X d 5 [.aload 0, .sipush 11, .invokeinterface 4 2, .aload 0, .iload 2, .ifCond .eq 50, .iload 1, .sipush 1, .iadd, .goto 51] ls st m := by
  rw [s_j, s_g_eq, g_l5]; rfl
theorem u_5_50 {X : e_X} {d : Nat} {ls st : List Value} {m : e_M} : s_j X d 5 50 ls st m = s_x X d 5 [.iload 1, .jsr 51] ls st m := by
  rw [s_j, s_g_eq, g_l5]; rfl
theorem u_5_51 {X : e_X} {d : Nat} {ls st : List Value} {m : e_M} : s_j X d 5 51 ls st m = s_x X d 5 [.invokeinterface 3 2, .aload 0, .getfield 5, .isub, .istore 3, .aload 0, .getfield 3, .sipush 5, .if_icmp .ne 75, .iload 3, .sipush 60, .isub, .goto 76] ls st m := by
  rw [s_j, s_g_eq, g_l5]; rfl
theorem u_5_75 {X : e_X} {d : Nat} {ls st : List Value} {m : e_M} : s_j X d 5 75 ls st m = s_x X d 5 [.iload 3, .jsr 76] ls st m := by
  rw [s_j, s_g_eq, g_l5]; rfl
theorem u_5_76 {X : e_X} {d : Nat} {ls st : List Value} {m : e_M} : s_j X d 5 76 ls st m = s_x X d 5 [.ireturn] ls st m := by
  rw [s_j, s_g_eq, g_l5]; rfl
/-- A.breaks -/
theorem g_l6 (l : Nat) : g_P 6 l = (g_c6.lookup l).getD [] := rfl
theorem v_6 {X : e_X} {d : Nat} (a0 : Nat) (a1 : Int32) {m : e_M} : s_S X (d + 1) 6 [.ref a0, .int a1] m = s_j X d 6 0 [.ref a0, .int a1, .retAddr 0, .retAddr 0, .retAddr 0] [] m := rfl
theorem u_6_0 {X : e_X} {d : Nat} {ls st : List Value} {m : e_M} : s_j X d 6 0 ls st m = s_x X d 6 [.aload 0, .getfield 3, .sipush 4, .invokeinterface 112 2, .istore 2, .aload 0, .getfield 3, .sipush 5, .if_icmp .ne 23, .aload 0, .sipush 61, .invokeinterface 4 2, .jsr 23] ls st m := by
  rw [s_j, s_g_eq, g_l6]; rfl
theorem u_6_23 {X : e_X} {d : Nat} {ls st : List Value} {m : e_M} : s_j X d 6 23 ls st m = s_x X d 6 [.iload 2, .ifCond .eq 33, .aload 0, .sipush 40, .invokeinterface 4 2, .jsr 33] ls st m := by
  rw [s_j, s_g_eq, g_l6]; rfl
theorem u_6_33 {X : e_X} {d : Nat} {ls st : List Value} {m : e_M} : s_j X d 6 33 ls st m = s_x X d 6 [.aload 0, .sipush 12, .invokeinterface 4 2, .aload 0, .getfield 4, .aload 0, .getfield 5, .iadd, .sipush 3, .isub, .istore 3, .iload 3, .ifCond .ne 62, .aload 0, .sipush 1, .putfield 2, .sipush 0, .ireturn] ls st m := by
  rw [s_j, s_g_eq, g_l6]; rfl
theorem u_6_62 {X : e_X} {d : Nat} {ls st : List Value} {m : e_M} : s_j X d 6 62 ls st m = s_x X d 6 [.iload 2, .ifCond .eq 74, .sipush 0, .iload 1, .iload 3, .irem, .isub, .goto 77] ls st m := by
  rw [s_j, s_g_eq, g_l6]; rfl
theorem u_6_74 {X : e_X} {d : Nat} {ls st : List Value} {m : e_M} : s_j X d 6 74 ls st m = s_x X d 6 [.iload 1, .iload 3, .irem, .jsr 77] ls st m := by
  rw [s_j, s_g_eq, g_l6]; rfl
theorem u_6_77 {X : e_X} {d : Nat} {ls st : List Value} {m : e_M} : s_j X d 6 77 ls st m = s_x X d 6 [.istore 4, .aload 0, .getfield 3, .sipush 5, .if_icmp .ne 101, .iload 4, .aload 0, .aload 0, .getfield 5, .invokeinterface 3 2, .ixor, .goto 103] ls st m := by
  rw [s_j, s_g_eq, g_l6]; rfl
theorem u_6_101 {X : e_X} {d : Nat} {ls st : List Value} {m : e_M} : s_j X d 6 101 ls st m = s_x X d 6 [.iload 4, .jsr 103] ls st m := by
  rw [s_j, s_g_eq, g_l6]; rfl
theorem u_6_103 {X : e_X} {d : Nat} {ls st : List Value} {m : e_M} : s_j X d 6 103 ls st m = s_x X d 6 [.ireturn] ls st m := by
  rw [s_j, s_g_eq, g_l6]; rfl
/-- A.shines -/
theorem g_l7 (l : Nat) : g_P 7 l = (g_c7.lookup l).getD [] := rfl
theorem v_7 {X : e_X} {d : Nat} (a0 : Nat) (a1 : Int32) {m : e_M} : s_S X (d + 1) 7 [.ref a0, .int a1] m = s_j X d 7 0 [.ref a0, .int a1, .retAddr 0, .retAddr 0] [] m := rfl
theorem u_7_0 {X : e_X} {d : Nat} {ls st : List Value} {m : e_M} : s_j X d 7 0 ls st m = s_x X d 7 [.aload 0, .getfield 3, .sipush 3, .if_icmp .ne 14, .aload 0, .sipush 51, .invokeinterface 4 2, .jsr 14] ls st m := by
  rw [s_j, s_g_eq, g_l7]; rfl
theorem u_7_14 {X : e_X} {d : Nat} {ls st : List Value} {m : e_M} : s_j X d 7 14 ls st m = s_x X d 7 [.aload 0, .sipush 13, .invokeinterface 4 2, .aload 0, .iload 1, .invokeinterface 5 2, .istore 2, .iload 2, .aload 0, .iload 1, .invokeinterface 6 2, .ixor, .istore 3, .aload 0, .getfield 3, .sipush 3, .if_icmp .ne 55, .iload 3, .aload 0, .aload 0, .getfield 4, .invokeinterface 5 2, .iadd, .goto 56] ls st m := by
  rw [s_j, s_g_eq, g_l7]; rfl
theorem u_7_55 {X : e_X} {d : Nat} {ls st : List Value} {m : e_M} : s_j X d 7 55 ls st m = s_x X d 7 [.iload 3, .jsr 56] ls st m := by
  rw [s_j, s_g_eq, g_l7]; rfl
theorem u_7_56 {X : e_X} {d : Nat} {ls st : List Value} {m : e_M} : s_j X d 7 56 ls st m = s_x X d 7 [.ireturn] ls st m := by
  rw [s_j, s_g_eq, g_l7]; rfl
/-- L.tellTo -/
theorem g_l9 (l : Nat) : g_P 9 l = (g_c9.lookup l).getD [] := rfl
theorem v_9 {X : e_X} {d : Nat} (a0 : Nat) (a1 : Int32) {m : e_M} : s_S X (d + 1) 9 [.ref a0, .int a1] m = s_j X d 9 0 [.ref a0, .int a1, .retAddr 0, .retAddr 0] [] m := rfl
theorem u_9_0 {X : e_X} {d : Nat} {ls st : List Value} {m : e_M} : s_j X d 9 0 ls st m = s_x X d 9 [.sipush 0, .istore 2, .sipush 0, .istore 3, .jsr 4] ls st m := by
  rw [s_j, s_g_eq, g_l9]; rfl
theorem u_9_4 {X : e_X} {d : Nat} {ls st : List Value} {m : e_M} : s_j X d 9 4 ls st m = s_x X d 9 [.iload 3, .aload 0, .getfield 69, .if_icmp .ge 59, .iload 1, .aload 0, .checkcast 64, .iload 3, .iaload, .invokeinterface 112 2, .ifCond .eq 46, .aload 0, .iload 2, .aload 0, .checkcast 66, .iload 3, .iaload, .invokeinterface 10 3, .ifCond .eq 46, .aload 0, .checkcast 65, .iload 3, .iaload, .ireturn] ls st m := by
  rw [s_j, s_g_eq, g_l9]; rfl
theorem u_9_46 {X : e_X} {d : Nat} {ls st : List Value} {m : e_M} : s_j X d 9 46 ls st m = s_x X d 9 [.aload 0, .checkcast 66, .iload 3, .iaload, .istore 2, .iinc 3 1, .goto 4] ls st m := by
  rw [s_j, s_g_eq, g_l9]; rfl
theorem u_9_59 {X : e_X} {d : Nat} {ls st : List Value} {m : e_M} : s_j X d 9 59 ls st m = s_x X d 9 [.sipush 0, .ireturn] ls st m := by
  rw [s_j, s_g_eq, g_l9]; rfl
/-- L.holds -/
theorem g_l10 (l : Nat) : g_P 10 l = (g_c10.lookup l).getD [] := rfl
theorem v_10 {X : e_X} {d : Nat} (a0 : Nat) (a1 : Int32) (a2 : Int32) {m : e_M} : s_S X (d + 1) 10 [.ref a0, .int a1, .int a2] m = s_j X d 10 0 [.ref a0, .int a1, .int a2, .retAddr 0, .retAddr 0, .retAddr 0, .retAddr 0] [] m := rfl
theorem u_10_0 {X : e_X} {d : Nat} {ls st : List Value} {m : e_M} : s_j X d 10 0 ls st m = s_x X d 10 [.goto_w 1, .lstore 3, .iload 1, .istore 5, .jsr 5] ls st m := by
  rw [s_j, s_g_eq, g_l10]; rfl
theorem u_10_5 {X : e_X} {d : Nat} {ls st : List Value} {m : e_M} : s_j X d 10 5 ls st m = s_x X d 10 [.iload 5, .iload 2, .if_icmp .ge 96, .aload 0, .checkcast 67, .iload 5, .iaload, .istore 6, .iload 6, .sipush (-1), .if_icmp .ne 33, .lload 3, .goto_w 1, .lxor, .lstore 3, .goto 90] ls st m := by
  rw [s_j, s_g_eq, g_l10]; rfl
theorem u_10_33 {X : e_X} {d : Nat} {ls st : List Value} {m : e_M} : s_j X d 10 33 ls st m = s_x X d 10 [.iload 6, .sipush (-2), .if_icmp .ne 53, .lload 3, .sipush 1, .lushr, .lload 3, .goto_w (-2), .lor, .land, .lstore 3, .goto 90] ls st m := by
  rw [s_j, s_g_eq, g_l10]; rfl
theorem u_10_53 {X : e_X} {d : Nat} {ls st : List Value} {m : e_M} : s_j X d 10 53 ls st m = s_x X d 10 [.iload 6, .sipush (-3), .if_icmp .ne 71, .lload 3, .sipush 1, .lushr, .lload 3, .goto_w 1, .land, .lor, .lstore 3, .goto 90] ls st m := by
  rw [s_j, s_g_eq, g_l10]; rfl
theorem u_10_71 {X : e_X} {d : Nat} {ls st : List Value} {m : e_M} : s_j X d 10 71 ls st m = s_x X d 10 [.lload 3, .sipush 1, .lshl, .aload 0, .iload 6, .invokeinterface 11 2, .ifCond .eq 87, .goto_w 1, .goto 88] ls st m := by
  rw [s_j, s_g_eq, g_l10]; rfl
theorem u_10_87 {X : e_X} {d : Nat} {ls st : List Value} {m : e_M} : s_j X d 10 87 ls st m = s_x X d 10 [.goto_w 0, .jsr 88] ls st m := by
  rw [s_j, s_g_eq, g_l10]; rfl
theorem u_10_88 {X : e_X} {d : Nat} {ls st : List Value} {m : e_M} : s_j X d 10 88 ls st m = s_x X d 10 [.lor, .lstore 3, .jsr 90] ls st m := by
  rw [s_j, s_g_eq, g_l10]; rfl
theorem u_10_90 {X : e_X} {d : Nat} {ls st : List Value} {m : e_M} : s_j X d 10 90 ls st m = s_x X d 10 [.iinc 5 1, .goto 5] ls st m := by
  rw [s_j, s_g_eq, g_l10]; rfl
theorem u_10_96 {X : e_X} {d : Nat} {ls st : List Value} {m : e_M} : s_j X d 10 96 ls st m = s_x X d 10 [.lload 3, .goto_w 1, .land, .goto_w 1, .lcmp, .ifCond .ne 108, .sipush 1, .goto 109] ls st m := by
  rw [s_j, s_g_eq, g_l10]; rfl
theorem u_10_108 {X : e_X} {d : Nat} {ls st : List Value} {m : e_M} : s_j X d 10 108 ls st m = s_x X d 10 [.sipush 0, .jsr 109] ls st m := by
  rw [s_j, s_g_eq, g_l10]; rfl
theorem u_10_109 {X : e_X} {d : Nat} {ls st : List Value} {m : e_M} : s_j X d 10 109 ls st m = s_x X d 10 [.ireturn] ls st m := by
  rw [s_j, s_g_eq, g_l10]; rfl
/-- L.compares -/
theorem g_l11 (l : Nat) : g_P 11 l = (g_c11.lookup l).getD [] := rfl
theorem v_11 {X : e_X} {d : Nat} (a0 : Nat) (a1 : Int32) {m : e_M} : s_S X (d + 1) 11 [.ref a0, .int a1] m = s_j X d 11 0 [.ref a0, .int a1, .retAddr 0, .retAddr 0] [] m := rfl
theorem u_11_0 {X : e_X} {d : Nat} {ls st : List Value} {m : e_M} : s_j X d 11 0 ls st m = s_x X d 11 [.iload 1, .sipush 14, .ishr, .sipush 16383, .iand, .istore 2, .iload 1, .sipush 16383, .iand, .istore 3, .iload 2, .sipush 10000, .if_icmp .lt 40, .iload 2, .sipush 10005, .if_icmp .ge 40, .aload 0, .checkcast 68, .iload 2, .sipush 10000, .isub, .iaload, .istore 2, .jsr 40] ls st m := by
  rw [s_j, s_g_eq, g_l11]; rfl
theorem u_11_40 {X : e_X} {d : Nat} {ls st : List Value} {m : e_M} : s_j X d 11 40 ls st m = s_x X d 11 [.iload 3, .sipush 10000, .if_icmp .lt 65, .iload 3, .sipush 10005, .if_icmp .ge 65, .aload 0, .checkcast 68, .iload 3, .sipush 10000, .isub, .iaload, .istore 3, .jsr 65] ls st m := by
  rw [s_j, s_g_eq, g_l11]; rfl
theorem u_11_65 {X : e_X} {d : Nat} {ls st : List Value} {m : e_M} : s_j X d 11 65 ls st m = s_x X d 11 [.iload 1, .sipush 28, .ishr, .lookupswitch 118 #[(0, 96), (1, 107)]] ls st m := by
  rw [s_j, s_g_eq, g_l11]; rfl
theorem u_11_96 {X : e_X} {d : Nat} {ls st : List Value} {m : e_M} : s_j X d 11 96 ls st m = s_x X d 11 [.iload 2, .iload 3, .if_icmp .ge 105, .sipush 1, .goto 106] ls st m := by
  rw [s_j, s_g_eq, g_l11]; rfl
theorem u_11_105 {X : e_X} {d : Nat} {ls st : List Value} {m : e_M} : s_j X d 11 105 ls st m = s_x X d 11 [.sipush 0, .jsr 106] ls st m := by
  rw [s_j, s_g_eq, g_l11]; rfl
theorem u_11_106 {X : e_X} {d : Nat} {ls st : List Value} {m : e_M} : s_j X d 11 106 ls st m = s_x X d 11 [.ireturn] ls st m := by
  rw [s_j, s_g_eq, g_l11]; rfl
theorem u_11_107 {X : e_X} {d : Nat} {ls st : List Value} {m : e_M} : s_j X d 11 107 ls st m = s_x X d 11 [.iload 2, .iload 3, .if_icmp .ne 116, .sipush 1, .goto 117] ls st m := by
  rw [s_j, s_g_eq, g_l11]; rfl
theorem u_11_116 {X : e_X} {d : Nat} {ls st : List Value} {m : e_M} : s_j X d 11 116 ls st m = s_x X d 11 [.sipush 0, .jsr 117] ls st m := by
  rw [s_j, s_g_eq, g_l11]; rfl
theorem u_11_117 {X : e_X} {d : Nat} {ls st : List Value} {m : e_M} : s_j X d 11 117 ls st m = s_x X d 11 [.ireturn] ls st m := by
  rw [s_j, s_g_eq, g_l11]; rfl
theorem u_11_118 {X : e_X} {d : Nat} {ls st : List Value} {m : e_M} : s_j X d 11 118 ls st m = s_x X d 11 [.iload 2, .iload 3, .if_icmp .le 127, .sipush 1, .goto 128] ls st m := by
  rw [s_j, s_g_eq, g_l11]; rfl
theorem u_11_127 {X : e_X} {d : Nat} {ls st : List Value} {m : e_M} : s_j X d 11 127 ls st m = s_x X d 11 [.sipush 0, .jsr 128] ls st m := by
  rw [s_j, s_g_eq, g_l11]; rfl
theorem u_11_128 {X : e_X} {d : Nat} {ls st : List Value} {m : e_M} : s_j X d 11 128 ls st m = s_x X d 11 [.ireturn] ls st m := by
  rw [s_j, s_g_eq, g_l11]; rfl
/-- L.empty -/
theorem g_l12 (l : Nat) : g_P 12 l = (g_c12.lookup l).getD [] := rfl
theorem v_12 {X : e_X} {d : Nat} (a0 : Nat) {m : e_M} : s_S X (d + 1) 12 [.ref a0] m = s_j X d 12 0 [.ref a0] [] m := rfl
theorem u_12_0 {X : e_X} {d : Nat} {ls st : List Value} {m : e_M} : s_j X d 12 0 ls st m = s_x X d 12 [.aload 0, .sipush 0, .putfield 69, .aload 0, .sipush 0, .putfield 70, .return_] ls st m := by
  rw [s_j, s_g_eq, g_l12]; rfl
/-- L.comparison -/
theorem g_l13 (l : Nat) : g_P 13 l = (g_c13.lookup l).getD [] := rfl
theorem v_13 {X : e_X} {d : Nat} (a0 : Int32) (a1 : Int32) (a2 : Int32) {m : e_M} : s_S X (d + 1) 13 [.int a0, .int a1, .int a2] m = s_j X d 13 0 [.int a0, .int a1, .int a2] [] m := rfl
theorem u_13_0 {X : e_X} {d : Nat} {ls st : List Value} {m : e_M} : s_j X d 13 0 ls st m = s_x X d 13 [.iload 1, .sipush 28, .ishl, .iload 0, .sipush 14, .ishl, .ior, .iload 2, .ior, .ireturn] ls st m := by
  rw [s_j, s_g_eq, g_l13]; rfl
/-- L.append -/
theorem g_l14 (l : Nat) : g_P 14 l = (g_c14.lookup l).getD [] := rfl
theorem v_14 {X : e_X} {d : Nat} (a0 : Nat) (a1 : Int32) {m : e_M} : s_S X (d + 1) 14 [.ref a0, .int a1] m = s_j X d 14 0 [.ref a0, .int a1] [] m := rfl
theorem u_14_0 {X : e_X} {d : Nat} {ls st : List Value} {m : e_M} : s_j X d 14 0 ls st m = s_x X d 14 [.aload 0, .getfield 70, .sipush 200, .if_icmp .ge 27, .aload 0, .checkcast 67, .aload 0, .dup, .getfield 70, .dup_x1, .sipush 1, .iadd, .putfield 70, .iload 1, .iastore, .jsr 27] ls st m := by
  rw [s_j, s_g_eq, g_l14]; rfl
theorem u_14_27 {X : e_X} {d : Nat} {ls st : List Value} {m : e_M} : s_j X d 14 27 ls st m = s_x X d 14 [.return_] ls st m := by
  rw [s_j, s_g_eq, g_l14]; rfl
/-- L.close -/
theorem g_l15 (l : Nat) : g_P 15 l = (g_c15.lookup l).getD [] := rfl
theorem v_15 {X : e_X} {d : Nat} (a0 : Nat) (a1 : Int32) (a2 : Int32) {m : e_M} : s_S X (d + 1) 15 [.ref a0, .int a1, .int a2] m = s_j X d 15 0 [.ref a0, .int a1, .int a2] [] m := rfl
theorem u_15_0 {X : e_X} {d : Nat} {ls st : List Value} {m : e_M} : s_j X d 15 0 ls st m = s_x X d 15 [.aload 0, .getfield 69, .sipush 8, .if_icmp .lt 10, .return_] ls st m := by
  rw [s_j, s_g_eq, g_l15]; rfl
theorem u_15_10 {X : e_X} {d : Nat} {ls st : List Value} {m : e_M} : s_j X d 15 10 ls st m = s_x X d 15 [.aload 0, .checkcast 64, .aload 0, .getfield 69, .iload 1, .iastore, .aload 0, .checkcast 65, .aload 0, .getfield 69, .iload 2, .iastore, .aload 0, .checkcast 66, .aload 0, .getfield 69, .aload 0, .getfield 70, .iastore, .aload 0, .dup, .getfield 69, .sipush 1, .iadd, .putfield 69, .return_] ls st m := by
  rw [s_j, s_g_eq, g_l15]; rfl
/-- L.copyFrom -/
theorem g_l16 (l : Nat) : g_P 16 l = (g_c16.lookup l).getD [] := rfl
theorem v_16 {X : e_X} {d : Nat} (a0 : Nat) (a1 : Nat) {m : e_M} : s_S X (d + 1) 16 [.ref a0, .ref a1] m = s_j X d 16 0 [.ref a0, .ref a1] [] m := rfl
theorem u_16_0 {X : e_X} {d : Nat} {ls st : List Value} {m : e_M} : s_j X d 16 0 ls st m = s_x X d 16 [.aload 1, .checkcast 64, .sipush 0, .aload 0, .checkcast 64, .sipush 0, .sipush 8, .dmul, .aload 1, .checkcast 65, .sipush 0, .aload 0, .checkcast 65, .sipush 0, .sipush 8, .dmul, .aload 1, .checkcast 66, .sipush 0, .aload 0, .checkcast 66, .sipush 0, .sipush 8, .dmul, .aload 1, .checkcast 67, .sipush 0, .aload 0, .checkcast 67, .sipush 0, .sipush 200, .dmul, .aload 0, .aload 1, .getfield 69, .putfield 69, .aload 0, .aload 1, .getfield 70, .putfield 70, .return_] ls st m := by
  rw [s_j, s_g_eq, g_l16]; rfl
/-- P.tryAll -/
theorem g_l18 (l : Nat) : g_P 18 l = (g_c18.lookup l).getD [] := rfl
theorem v_18 {X : e_X} {d : Nat} (a0 : Nat) (a1 : Int32) (a2 : Int32) {m : e_M} : s_S X (d + 1) 18 [.ref a0, .int a1, .int a2] m = s_j X d 18 0 [.ref a0, .int a1, .int a2] [] m := rfl
theorem u_18_0 {X : e_X} {d : Nat} {ls st : List Value} {m : e_M} : s_j X d 18 0 ls st m = s_x X d 18 [.aload 0, .sipush 4, .aload 0, .checkcast 128, .iload 1, .invokeinterface 86 2, .dsub, .putfield 131, .aload 0, .iload 2, .putfield 132, .aload 0, .sipush 0, .putfield 133, .aload 0, .sipush 0, .putfield 134, .aload 0, .sipush (-3), .putfield 135, .aload 0, .sipush 0, .putfield 136, .aload 0, .sipush 0, .sipush 0, .sipush 0, .invokeinterface 19 4, .return_] ls st m := by
  rw [s_j, s_g_eq, g_l18]; rfl
/-- P.tryFrom -/
theorem g_l19 (l : Nat) : g_P 19 l = (g_c19.lookup l).getD [] := rfl
theorem v_19 {X : e_X} {d : Nat} (a0 : Nat) (a1 : Int32) (a2 : Int32) (a3 : Int32) {m : e_M} : s_S X (d + 1) 19 [.ref a0, .int a1, .int a2, .int a3] m = s_j X d 19 0 [.ref a0, .int a1, .int a2, .int a3, .retAddr 0, .retAddr 0, .retAddr 0] [] m := rfl
theorem u_19_0 {X : e_X} {d : Nat} {ls st : List Value} {m : e_M} : s_j X d 19 0 ls st m = s_x X d 19 [.iload 1, .aload 0, .getfield 131, .if_icmp .lt 15, .aload 0, .iload 2, .iload 3, .invokeinterface 20 3, .return_] ls st m := by
  rw [s_j, s_g_eq, g_l19]; rfl
theorem u_19_15 {X : e_X} {d : Nat} {ls st : List Value} {m : e_M} : s_j X d 19 15 ls st m = s_x X d 19 [.aload 0, .checkcast 128, .invokeinterface 85 1, .istore 4, .sipush 0, .istore 5, .jsr 27] ls st m := by
  rw [s_j, s_g_eq, g_l19]; rfl
theorem u_19_27 {X : e_X} {d : Nat} {ls st : List Value} {m : e_M} : s_j X d 19 27 ls st m = s_x X d 19 [.iload 5, .aload 0, .checkcast 128, .getfield 521, .if_icmp .gt 96, .aload 0, .checkcast 129, .iload 1, .iload 5, .iastore, .aload 0, .checkcast 128, .iload 5, .invokeinterface 79 2, .istore 6, .aload 0, .iload 1, .sipush 1, .iadd, .iload 2, .iload 6, .iadd, .iload 5, .ifCond .ne 75, .iload 3, .goto 78] ls st m := by
  rw [s_j, s_g_eq, g_l19]; rfl
theorem u_19_75 {X : e_X} {d : Nat} {ls st : List Value} {m : e_M} : s_j X d 19 75 ls st m = s_x X d 19 [.iload 3, .sipush 1, .iadd, .jsr 78] ls st m := by
  rw [s_j, s_g_eq, g_l19]; rfl
theorem u_19_78 {X : e_X} {d : Nat} {ls st : List Value} {m : e_M} : s_j X d 19 78 ls st m = s_x X d 19 [.invokeinterface 19 4, .aload 0, .checkcast 128, .iload 4, .invokeinterface 87 2, .iinc 5 1, .goto 27] ls st m := by
  rw [s_j, s_g_eq, g_l19]; rfl
theorem u_19_96 {X : e_X} {d : Nat} {ls st : List Value} {m : e_M} : s_j X d 19 96 ls st m = s_x X d 19 [.return_] ls st m := by
  rw [s_j, s_g_eq, g_l19]; rfl
/-- P.weigh -/
theorem g_l20 (l : Nat) : g_P 20 l = (g_c20.lookup l).getD [] := rfl
theorem v_20 {X : e_X} {d : Nat} (a0 : Nat) (a1 : Int32) (a2 : Int32) {m : e_M} : s_S X (d + 1) 20 [.ref a0, .int a1, .int a2] m = s_j X d 20 0 [.ref a0, .int a1, .int a2, .retAddr 0] [] m := rfl
theorem u_20_0 {X : e_X} {d : Nat} {ls st : List Value} {m : e_M} : s_j X d 20 0 ls st m = s_x X d 20 [.aload 0, .getfield 134, .ifCond .eq 15, .iload 1, .aload 0, .getfield 133, .if_icmp .le 39, .jsr 15] ls st m := by
  rw [s_j, s_g_eq, g_l20]; rfl
theorem u_20_15 {X : e_X} {d : Nat} {ls st : List Value} {m : e_M} : s_j X d 20 15 ls st m = s_x X d 20 [.aload 0, .iload 1, .putfield 133, .aload 0, .sipush 0, .putfield 134, .aload 0, .checkcast 129, .sipush 0, .aload 0, .checkcast 130, .sipush 0, .sipush 4, .dmul, .jsr 39] ls st m := by
  rw [s_j, s_g_eq, g_l20]; rfl
theorem u_20_39 {X : e_X} {d : Nat} {ls st : List Value} {m : e_M} : s_j X d 20 39 ls st m = s_x X d 20 [.iload 1, .aload 0, .getfield 133, .if_icmp .ne 57, .aload 0, .dup, .getfield 134, .sipush 1, .iadd, .putfield 134, .jsr 57] ls st m := by
  rw [s_j, s_g_eq, g_l20]; rfl
theorem u_20_57 {X : e_X} {d : Nat} {ls st : List Value} {m : e_M} : s_j X d 20 57 ls st m = s_x X d 20 [.aload 0, .dup, .getfield 136, .aload 0, .checkcast 128, .getfield 522, .ior, .putfield 136, .aload 0, .checkcast 128, .getfield 522, .aload 0, .getfield 132, .iand, .aload 0, .getfield 132, .if_icmp .ne 96, .sipush 1, .goto 97] ls st m := by
  rw [s_j, s_g_eq, g_l20]; rfl
theorem u_20_96 {X : e_X} {d : Nat} {ls st : List Value} {m : e_M} : s_j X d 20 96 ls st m = s_x X d 20 [.sipush 0, .jsr 97] ls st m := by
  rw [s_j, s_g_eq, g_l20]; rfl
theorem u_20_97 {X : e_X} {d : Nat} {ls st : List Value} {m : e_M} : s_j X d 20 97 ls st m = s_x X d 20 [.istore 3, .iload 3, .ifCond .eq 124, .aload 0, .getfield 135, .sipush (-3), .if_icmp .eq 119, .iload 2, .aload 0, .getfield 135, .if_icmp .ge 124, .jsr 119] ls st m := by
  rw [s_j, s_g_eq, g_l20]; rfl
theorem u_20_119 {X : e_X} {d : Nat} {ls st : List Value} {m : e_M} : s_j X d 20 119 ls st m = s_x X d 20 [.aload 0, .iload 2, .putfield 135, .jsr 124] ls st m := by
  rw [s_j, s_g_eq, g_l20]; rfl
theorem u_20_124 {X : e_X} {d : Nat} {ls st : List Value} {m : e_M} : s_j X d 20 124 ls st m = s_x X d 20 [.return_] ls st m := by
  rw [s_j, s_g_eq, g_l20]; rfl
/-- P.valueOfGame -/
theorem g_l21 (l : Nat) : g_P 21 l = (g_c21.lookup l).getD [] := rfl
theorem v_21 {X : e_X} {d : Nat} (a0 : Nat) (a1 : Int32) (a2 : Int32) {m : e_M} : s_S X (d + 1) 21 [.ref a0, .int a1, .int a2] m = s_j X d 21 0 [.ref a0, .int a1, .int a2, .retAddr 0, .retAddr 0, .retAddr 0] [] m := rfl
theorem u_21_0 {X : e_X} {d : Nat} {ls st : List Value} {m : e_M} : s_j X d 21 0 ls st m = s_x X d 21 [.iload 1, .ifCond .gt 6, .sipush 0, .ireturn] ls st m := by
  rw [s_j, s_g_eq, g_l21]; rfl
theorem u_21_6 {X : e_X} {d : Nat} {ls st : List Value} {m : e_M} : s_j X d 21 6 ls st m = s_x X d 21 [.sipush 0, .istore 3, .sipush 0, .istore 4, .jsr 11] ls st m := by
  rw [s_j, s_g_eq, g_l21]; rfl
theorem u_21_11 {X : e_X} {d : Nat} {ls st : List Value} {m : e_M} : s_j X d 21 11 ls st m = s_x X d 21 [.iload 4, .aload 0, .checkcast 128, .getfield 521, .if_icmp .gt 66, .aload 0, .iload 4, .iload 1, .iload 2, .invokeinterface 22 4, .istore 5, .iload 4, .ifCond .eq 57, .iload 2, .ifCond .eq 51, .iload 5, .iload 3, .if_icmp .le 60, .goto 57] ls st m := by
  rw [s_j, s_g_eq, g_l21]; rfl
theorem u_21_51 {X : e_X} {d : Nat} {ls st : List Value} {m : e_M} : s_j X d 21 51 ls st m = s_x X d 21 [.iload 5, .iload 3, .if_icmp .ge 60, .jsr 57] ls st m := by
  rw [s_j, s_g_eq, g_l21]; rfl
theorem u_21_57 {X : e_X} {d : Nat} {ls st : List Value} {m : e_M} : s_j X d 21 57 ls st m = s_x X d 21 [.iload 5, .istore 3, .jsr 60] ls st m := by
  rw [s_j, s_g_eq, g_l21]; rfl
theorem u_21_60 {X : e_X} {d : Nat} {ls st : List Value} {m : e_M} : s_j X d 21 60 ls st m = s_x X d 21 [.iinc 4 1, .goto 11] ls st m := by
  rw [s_j, s_g_eq, g_l21]; rfl
theorem u_21_66 {X : e_X} {d : Nat} {ls st : List Value} {m : e_M} : s_j X d 21 66 ls st m = s_x X d 21 [.iload 3, .ireturn] ls st m := by
  rw [s_j, s_g_eq, g_l21]; rfl
/-- P.valueOfAct -/
theorem g_l22 (l : Nat) : g_P 22 l = (g_c22.lookup l).getD [] := rfl
theorem v_22 {X : e_X} {d : Nat} (a0 : Nat) (a1 : Int32) (a2 : Int32) (a3 : Int32) {m : e_M} : s_S X (d + 1) 22 [.ref a0, .int a1, .int a2, .int a3] m = s_j X d 22 0 [.ref a0, .int a1, .int a2, .int a3, .retAddr 0, .retAddr 0, .retAddr 0] [] m := rfl
theorem u_22_0 {X : e_X} {d : Nat} {ls st : List Value} {m : e_M} : s_j X d 22 0 ls st m = s_x X d 22 [.aload 0, .checkcast 128, .invokeinterface 85 1, .istore 4, .aload 0, .checkcast 128, .iload 1, .invokeinterface 79 2, .istore 5, .iload 5, .aload 0, .iload 2, .sipush 1, .isub, .iload 3, .ifCond .ne 33, .sipush 1, .goto 34] ls st m := by
  rw [s_j, s_g_eq, g_l22]; rfl
theorem u_22_33 {X : e_X} {d : Nat} {ls st : List Value} {m : e_M} : s_j X d 22 33 ls st m = s_x X d 22 [.sipush 0, .jsr 34] ls st m := by
  rw [s_j, s_g_eq, g_l22]; rfl
theorem u_22_34 {X : e_X} {d : Nat} {ls st : List Value} {m : e_M} : s_j X d 22 34 ls st m = s_x X d 22 [.invokeinterface 21 3, .iadd, .istore 6, .aload 0, .checkcast 128, .iload 4, .invokeinterface 87 2, .iload 6, .ireturn] ls st m := by
  rw [s_j, s_g_eq, g_l22]; rfl
/-- P.leastGoodAct -/
theorem g_l23 (l : Nat) : g_P 23 l = (g_c23.lookup l).getD [] := rfl
theorem v_23 {X : e_X} {d : Nat} (a0 : Nat) (a1 : Int32) {m : e_M} : s_S X (d + 1) 23 [.ref a0, .int a1] m = s_j X d 23 0 [.ref a0, .int a1, .retAddr 0, .retAddr 0, .retAddr 0, .retAddr 0] [] m := rfl
theorem u_23_0 {X : e_X} {d : Nat} {ls st : List Value} {m : e_M} : s_j X d 23 0 ls st m = s_x X d 23 [.sipush 0, .istore 2, .aload 0, .sipush 0, .iload 1, .sipush 1, .invokeinterface 22 4, .istore 3, .sipush 1, .istore 4, .jsr 13] ls st m := by
  rw [s_j, s_g_eq, g_l23]; rfl
theorem u_23_13 {X : e_X} {d : Nat} {ls st : List Value} {m : e_M} : s_j X d 23 13 ls st m = s_x X d 23 [.iload 4, .aload 0, .checkcast 128, .getfield 521, .if_icmp .gt 53, .aload 0, .iload 4, .iload 1, .sipush 1, .invokeinterface 22 4, .istore 5, .iload 5, .iload 3, .if_icmp .le 47, .iload 5, .istore 3, .iload 4, .istore 2, .jsr 47] ls st m := by
  rw [s_j, s_g_eq, g_l23]; rfl
theorem u_23_47 {X : e_X} {d : Nat} {ls st : List Value} {m : e_M} : s_j X d 23 47 ls st m = s_x X d 23 [.iinc 4 1, .goto 13] ls st m := by
  rw [s_j, s_g_eq, g_l23]; rfl
theorem u_23_53 {X : e_X} {d : Nat} {ls st : List Value} {m : e_M} : s_j X d 23 53 ls st m = s_x X d 23 [.iload 2, .ireturn] ls st m := by
  rw [s_j, s_g_eq, g_l23]; rfl
/-- R.takeBytes -/
theorem g_l25 (l : Nat) : g_P 25 l = (g_c25.lookup l).getD [] := rfl
theorem v_25 {X : e_X} {d : Nat} (a0 : Nat) (a1 : Int64) (a2 : Int32) {m : e_M} : s_S X (d + 1) 25 [.ref a0, .long a1, .int a2] m = s_j X d 25 0 [.ref a0, .long a1, .retAddr 0, .int a2, .retAddr 0] [] m := rfl
theorem u_25_0 {X : e_X} {d : Nat} {ls st : List Value} {m : e_M} : s_j X d 25 0 ls st m = s_x X d 25 [.sipush 0, .istore 4, .jsr 3] ls st m := by
  rw [s_j, s_g_eq, g_l25]; rfl
theorem u_25_3 {X : e_X} {d : Nat} {ls st : List Value} {m : e_M} : s_j X d 25 3 ls st m = s_x X d 25 [.iload 4, .iload 3, .if_icmp .ge 53, .aload 0, .getfield 194, .sipush 200, .if_icmp .ge 53, .aload 0, .checkcast 193, .aload 0, .dup, .getfield 194, .dup_x1, .sipush 1, .iadd, .putfield 194, .lload 1, .sipush 8, .iload 4, .imul, .lushr, .goto_w 255, .land, .l2i, .iastore, .iinc 4 1, .goto 3] ls st m := by
  rw [s_j, s_g_eq, g_l25]; rfl
theorem u_25_53 {X : e_X} {d : Nat} {ls st : List Value} {m : e_M} : s_j X d 25 53 ls st m = s_x X d 25 [.aload 0, .getfield 194, .ireturn] ls st m := by
  rw [s_j, s_g_eq, g_l25]; rfl
/-- R.readAll -/
theorem g_l26 (l : Nat) : g_P 26 l = (g_c26.lookup l).getD [] := rfl
theorem v_26 {X : e_X} {d : Nat} (a0 : Nat) {m : e_M} : s_S X (d + 1) 26 [.ref a0] m = s_j X d 26 0 [.ref a0, .retAddr 0, .retAddr 0] [] m := rfl
theorem u_26_0 {X : e_X} {d : Nat} {ls st : List Value} {m : e_M} : s_j X d 26 0 ls st m = s_x X d 26 [.aload 0, .checkcast 192, .invokeinterface 12 1, .aload 0, .sipush 0, .putfield 195, .aload 0, .sipush 0, .putfield 198, .aload 0, .sipush 0, .putfield 203, .aload 0, .sipush 0, .putfield 205, .aload 0, .invokeinterface 27 1, .istore 1, .sipush 0, .istore 2, .jsr 34] ls st m := by
  rw [s_j, s_g_eq, g_l26]; rfl
theorem u_26_34 {X : e_X} {d : Nat} {ls st : List Value} {m : e_M} : s_j X d 26 34 ls st m = s_x X d 26 [.iload 2, .sipush 200, .if_icmp .ge 66, .iload 1, .sipush 20, .if_icmp .eq 66, .aload 0, .iload 1, .invokeinterface 33 2, .ifCond .eq 66, .aload 0, .invokeinterface 27 1, .istore 1, .iinc 2 1, .goto 34] ls st m := by
  rw [s_j, s_g_eq, g_l26]; rfl
theorem u_26_66 {X : e_X} {d : Nat} {ls st : List Value} {m : e_M} : s_j X d 26 66 ls st m = s_x X d 26 [.aload 0, .sipush 0, .putfield 194, .iload 1, .sipush 20, .if_icmp .ne 88, .aload 0, .getfield 198, .ifCond .ne 88, .sipush (-1), .goto 92] ls st m := by
  rw [s_j, s_g_eq, g_l26]; rfl
theorem u_26_88 {X : e_X} {d : Nat} {ls st : List Value} {m : e_M} : s_j X d 26 88 ls st m = s_x X d 26 [.aload 0, .getfield 196, .jsr 92] ls st m := by
  rw [s_j, s_g_eq, g_l26]; rfl
theorem u_26_92 {X : e_X} {d : Nat} {ls st : List Value} {m : e_M} : s_j X d 26 92 ls st m = s_x X d 26 [.ireturn] ls st m := by
  rw [s_j, s_g_eq, g_l26]; rfl
/-- R.nextWord -/
theorem g_l27 (l : Nat) : g_P 27 l = (g_c27.lookup l).getD [] := rfl
theorem v_27 {X : e_X} {d : Nat} (a0 : Nat) {m : e_M} : s_S X (d + 1) 27 [.ref a0] m = s_j X d 27 0 [.ref a0, .retAddr 0] [] m := rfl
theorem u_27_0 {X : e_X} {d : Nat} {ls st : List Value} {m : e_M} : s_j X d 27 0 ls st m = s_x X d 27 [.aload 0, .getfield 195, .aload 0, .getfield 194, .if_icmp .ge 38, .aload 0, .checkcast 193, .aload 0, .getfield 195, .iaload, .sipush 32, .if_icmp .ne 38, .aload 0, .dup, .getfield 195, .sipush 1, .iadd, .putfield 195, .goto 0] ls st m := by
  rw [s_j, s_g_eq, g_l27]; rfl
theorem u_27_38 {X : e_X} {d : Nat} {ls st : List Value} {m : e_M} : s_j X d 27 38 ls st m = s_x X d 27 [.aload 0, .aload 0, .getfield 195, .putfield 196, .aload 0, .getfield 195, .aload 0, .getfield 194, .if_icmp .lt 60, .sipush 20, .ireturn] ls st m := by
  rw [s_j, s_g_eq, g_l27]; rfl
theorem u_27_60 {X : e_X} {d : Nat} {ls st : List Value} {m : e_M} : s_j X d 27 60 ls st m = s_x X d 27 [.aload 0, .checkcast 193, .aload 0, .getfield 195, .iaload, .istore 1, .iload 1, .invokeinterface 28 1, .ifCond .eq 82, .aload 0, .invokeinterface 29 1, .ireturn] ls st m := by
  rw [s_j, s_g_eq, g_l27]; rfl
theorem u_27_82 {X : e_X} {d : Nat} {ls st : List Value} {m : e_M} : s_j X d 27 82 ls st m = s_x X d 27 [.iload 1, .invokeinterface 30 1, .ifCond .eq 94, .aload 0, .invokeinterface 31 1, .ireturn] ls st m := by
  rw [s_j, s_g_eq, g_l27]; rfl
theorem u_27_94 {X : e_X} {d : Nat} {ls st : List Value} {m : e_M} : s_j X d 27 94 ls st m = s_x X d 27 [.aload 0, .dup, .getfield 195, .sipush 1, .iadd, .putfield 195, .iload 1, .invokeinterface 32 1, .ireturn] ls st m := by
  rw [s_j, s_g_eq, g_l27]; rfl
/-- R.isLetter -/
theorem g_l28 (l : Nat) : g_P 28 l = (g_c28.lookup l).getD [] := rfl
theorem v_28 {X : e_X} {d : Nat} (a0 : Int32) {m : e_M} : s_S X (d + 1) 28 [.int a0] m = s_j X d 28 0 [.int a0] [] m := rfl
theorem u_28_0 {X : e_X} {d : Nat} {ls st : List Value} {m : e_M} : s_j X d 28 0 ls st m = s_x X d 28 [.iload 0, .sipush 97, .if_icmp .lt 16, .iload 0, .sipush 122, .if_icmp .gt 16, .sipush 1, .goto 17] ls st m := by
  rw [s_j, s_g_eq, g_l28]; rfl
theorem u_28_16 {X : e_X} {d : Nat} {ls st : List Value} {m : e_M} : s_j X d 28 16 ls st m = s_x X d 28 [.sipush 0, .jsr 17] ls st m := by
  rw [s_j, s_g_eq, g_l28]; rfl
theorem u_28_17 {X : e_X} {d : Nat} {ls st : List Value} {m : e_M} : s_j X d 28 17 ls st m = s_x X d 28 [.ireturn] ls st m := by
  rw [s_j, s_g_eq, g_l28]; rfl
/-- R.readName -/
theorem g_l29 (l : Nat) : g_P 29 l = (g_c29.lookup l).getD [] := rfl
theorem v_29 {X : e_X} {d : Nat} (a0 : Nat) {m : e_M} : s_S X (d + 1) 29 [.ref a0] m = s_j X d 29 0 [.ref a0, .retAddr 0, .retAddr 0, .retAddr 0, .retAddr 0] [] m := rfl
theorem u_29_0 {X : e_X} {d : Nat} {ls st : List Value} {m : e_M} : s_j X d 29 0 ls st m = s_x X d 29 [.aload 0, .getfield 195, .aload 0, .getfield 194, .if_icmp .ge 39, .aload 0, .checkcast 193, .aload 0, .getfield 195, .iaload, .invokeinterface 28 1, .ifCond .eq 39, .aload 0, .dup, .getfield 195, .sipush 1, .iadd, .putfield 195, .goto 0] ls st m := by
  rw [s_j, s_g_eq, g_l29]; rfl
theorem u_29_39 {X : e_X} {d : Nat} {ls st : List Value} {m : e_M} : s_j X d 29 39 ls st m = s_x X d 29 [.sipush 0, .istore 1, .aload 0, .getfield 196, .istore 2, .sipush 0, .istore 3, .jsr 48] ls st m := by
  rw [s_j, s_g_eq, g_l29]; rfl
theorem u_29_48 {X : e_X} {d : Nat} {ls st : List Value} {m : e_M} : s_j X d 29 48 ls st m = s_x X d 29 [.iload 3, .getstatic 3, .invokeinterface 301 1, .if_icmp .ge 134, .getstatic 3, .iload 3, .invokeinterface 303 2, .istore 4, .iload 4, .sipush 44, .if_icmp .ne 93, .iload 2, .aload 0, .getfield 195, .if_icmp .ne 82, .iload 1, .ireturn] ls st m := by
  rw [s_j, s_g_eq, g_l29]; rfl
theorem u_29_82 {X : e_X} {d : Nat} {ls st : List Value} {m : e_M} : s_j X d 29 82 ls st m = s_x X d 29 [.iinc 1 1, .aload 0, .getfield 196, .istore 2, .goto 128] ls st m := by
  rw [s_j, s_g_eq, g_l29]; rfl
theorem u_29_93 {X : e_X} {d : Nat} {ls st : List Value} {m : e_M} : s_j X d 29 93 ls st m = s_x X d 29 [.iload 2, .aload 0, .getfield 196, .if_icmp .lt 126, .iload 2, .aload 0, .getfield 195, .if_icmp .ge 126, .aload 0, .checkcast 193, .iload 2, .iaload, .iload 4, .if_icmp .ne 126, .iinc 2 1, .goto 128] ls st m := by
  rw [s_j, s_g_eq, g_l29]; rfl
theorem u_29_126 {X : e_X} {d : Nat} {ls st : List Value} {m : e_M} : s_j X d 29 126 ls st m = s_x X d 29 [.sipush (-1), .istore 2, .jsr 128] ls st m := by
  rw [s_j, s_g_eq, g_l29]; rfl
theorem u_29_128 {X : e_X} {d : Nat} {ls st : List Value} {m : e_M} : s_j X d 29 128 ls st m = s_x X d 29 [.iinc 3 1, .goto 48] ls st m := by
  rw [s_j, s_g_eq, g_l29]; rfl
theorem u_29_134 {X : e_X} {d : Nat} {ls st : List Value} {m : e_M} : s_j X d 29 134 ls st m = s_x X d 29 [.sipush 19, .ireturn] ls st m := by
  rw [s_j, s_g_eq, g_l29]; rfl
/-- R.isDigit -/
theorem g_l30 (l : Nat) : g_P 30 l = (g_c30.lookup l).getD [] := rfl
theorem v_30 {X : e_X} {d : Nat} (a0 : Int32) {m : e_M} : s_S X (d + 1) 30 [.int a0] m = s_j X d 30 0 [.int a0] [] m := rfl
theorem u_30_0 {X : e_X} {d : Nat} {ls st : List Value} {m : e_M} : s_j X d 30 0 ls st m = s_x X d 30 [.iload 0, .sipush 48, .if_icmp .lt 16, .iload 0, .sipush 57, .if_icmp .gt 16, .sipush 1, .goto 17] ls st m := by
  rw [s_j, s_g_eq, g_l30]; rfl
theorem u_30_16 {X : e_X} {d : Nat} {ls st : List Value} {m : e_M} : s_j X d 30 16 ls st m = s_x X d 30 [.sipush 0, .jsr 17] ls st m := by
  rw [s_j, s_g_eq, g_l30]; rfl
theorem u_30_17 {X : e_X} {d : Nat} {ls st : List Value} {m : e_M} : s_j X d 30 17 ls st m = s_x X d 30 [.ireturn] ls st m := by
  rw [s_j, s_g_eq, g_l30]; rfl
/-- R.readNumber -/
theorem g_l31 (l : Nat) : g_P 31 l = (g_c31.lookup l).getD [] := rfl
theorem v_31 {X : e_X} {d : Nat} (a0 : Nat) {m : e_M} : s_S X (d + 1) 31 [.ref a0] m = s_j X d 31 0 [.ref a0] [] m := rfl
theorem u_31_0 {X : e_X} {d : Nat} {ls st : List Value} {m : e_M} : s_j X d 31 0 ls st m = s_x X d 31 [.aload 0, .sipush 0, .putfield 197, .jsr 5] ls st m := by
  rw [s_j, s_g_eq, g_l31]; rfl
theorem u_31_5 {X : e_X} {d : Nat} {ls st : List Value} {m : e_M} : s_j X d 31 5 ls st m = s_x X d 31 [.aload 0, .getfield 195, .aload 0, .getfield 194, .if_icmp .ge 81, .aload 0, .checkcast 193, .aload 0, .getfield 195, .iaload, .invokeinterface 30 1, .ifCond .eq 81, .aload 0, .getfield 195, .aload 0, .getfield 196, .isub, .sipush 4, .if_icmp .ge 68, .aload 0, .sipush 10, .aload 0, .getfield 197, .imul, .aload 0, .checkcast 193, .aload 0, .getfield 195, .iaload, .iadd, .sipush 48, .isub, .putfield 197, .jsr 68] ls st m := by
  rw [s_j, s_g_eq, g_l31]; rfl
theorem u_31_68 {X : e_X} {d : Nat} {ls st : List Value} {m : e_M} : s_j X d 31 68 ls st m = s_x X d 31 [.aload 0, .dup, .getfield 195, .sipush 1, .iadd, .putfield 195, .goto 5] ls st m := by
  rw [s_j, s_g_eq, g_l31]; rfl
theorem u_31_81 {X : e_X} {d : Nat} {ls st : List Value} {m : e_M} : s_j X d 31 81 ls st m = s_x X d 31 [.aload 0, .getfield 195, .aload 0, .getfield 196, .isub, .sipush 4, .if_icmp .le 99, .sipush 19, .goto 101] ls st m := by
  rw [s_j, s_g_eq, g_l31]; rfl
theorem u_31_99 {X : e_X} {d : Nat} {ls st : List Value} {m : e_M} : s_j X d 31 99 ls st m = s_x X d 31 [.sipush 18, .jsr 101] ls st m := by
  rw [s_j, s_g_eq, g_l31]; rfl
theorem u_31_101 {X : e_X} {d : Nat} {ls st : List Value} {m : e_M} : s_j X d 31 101 ls st m = s_x X d 31 [.ireturn] ls st m := by
  rw [s_j, s_g_eq, g_l31]; rfl
/-- R.signWord -/
theorem g_l32 (l : Nat) : g_P 32 l = (g_c32.lookup l).getD [] := rfl
theorem v_32 {X : e_X} {d : Nat} (a0 : Int32) {m : e_M} : s_S X (d + 1) 32 [.int a0] m = s_j X d 32 0 [.int a0] [] m := rfl
theorem u_32_0 {X : e_X} {d : Nat} {ls st : List Value} {m : e_M} : s_j X d 32 0 ls st m = s_x X d 32 [.iload 0, .lookupswitch 78 #[(40, 69), (41, 72), (59, 75), (60, 60), (61, 63), (62, 66)]] ls st m := by
  rw [s_j, s_g_eq, g_l32]; rfl
theorem u_32_60 {X : e_X} {d : Nat} {ls st : List Value} {m : e_M} : s_j X d 32 60 ls st m = s_x X d 32 [.sipush 21, .ireturn] ls st m := by
  rw [s_j, s_g_eq, g_l32]; rfl
theorem u_32_63 {X : e_X} {d : Nat} {ls st : List Value} {m : e_M} : s_j X d 32 63 ls st m = s_x X d 32 [.sipush 22, .ireturn] ls st m := by
  rw [s_j, s_g_eq, g_l32]; rfl
theorem u_32_66 {X : e_X} {d : Nat} {ls st : List Value} {m : e_M} : s_j X d 32 66 ls st m = s_x X d 32 [.sipush 23, .ireturn] ls st m := by
  rw [s_j, s_g_eq, g_l32]; rfl
theorem u_32_69 {X : e_X} {d : Nat} {ls st : List Value} {m : e_M} : s_j X d 32 69 ls st m = s_x X d 32 [.sipush 24, .ireturn] ls st m := by
  rw [s_j, s_g_eq, g_l32]; rfl
theorem u_32_72 {X : e_X} {d : Nat} {ls st : List Value} {m : e_M} : s_j X d 32 72 ls st m = s_x X d 32 [.sipush 25, .ireturn] ls st m := by
  rw [s_j, s_g_eq, g_l32]; rfl
theorem u_32_75 {X : e_X} {d : Nat} {ls st : List Value} {m : e_M} : s_j X d 32 75 ls st m = s_x X d 32 [.sipush 26, .ireturn] ls st m := by
  rw [s_j, s_g_eq, g_l32]; rfl
theorem u_32_78 {X : e_X} {d : Nat} {ls st : List Value} {m : e_M} : s_j X d 32 78 ls st m = s_x X d 32 [.sipush 19, .ireturn] ls st m := by
  rw [s_j, s_g_eq, g_l32]; rfl
/-- R.mayStand -/
theorem g_l33 (l : Nat) : g_P 33 l = (g_c33.lookup l).getD [] := rfl
theorem v_33 {X : e_X} {d : Nat} (a0 : Nat) (a1 : Int32) {m : e_M} : s_S X (d + 1) 33 [.ref a0, .int a1] m = s_j X d 33 0 [.ref a0, .int a1] [] m := rfl
theorem u_33_0 {X : e_X} {d : Nat} {ls st : List Value} {m : e_M} : s_j X d 33 0 ls st m = s_x X d 33 [.aload 0, .getfield 198, .lookupswitch 80 #[(0, 44), (1, 50), (2, 56), (3, 62), (4, 68), (5, 74)]] ls st m := by
  rw [s_j, s_g_eq, g_l33]; rfl
theorem u_33_44 {X : e_X} {d : Nat} {ls st : List Value} {m : e_M} : s_j X d 33 44 ls st m = s_x X d 33 [.aload 0, .iload 1, .invokeinterface 34 2, .ireturn] ls st m := by
  rw [s_j, s_g_eq, g_l33]; rfl
theorem u_33_50 {X : e_X} {d : Nat} {ls st : List Value} {m : e_M} : s_j X d 33 50 ls st m = s_x X d 33 [.aload 0, .iload 1, .invokeinterface 35 2, .ireturn] ls st m := by
  rw [s_j, s_g_eq, g_l33]; rfl
theorem u_33_56 {X : e_X} {d : Nat} {ls st : List Value} {m : e_M} : s_j X d 33 56 ls st m = s_x X d 33 [.aload 0, .iload 1, .invokeinterface 37 2, .ireturn] ls st m := by
  rw [s_j, s_g_eq, g_l33]; rfl
theorem u_33_62 {X : e_X} {d : Nat} {ls st : List Value} {m : e_M} : s_j X d 33 62 ls st m = s_x X d 33 [.aload 0, .iload 1, .invokeinterface 41 2, .ireturn] ls st m := by
  rw [s_j, s_g_eq, g_l33]; rfl
theorem u_33_68 {X : e_X} {d : Nat} {ls st : List Value} {m : e_M} : s_j X d 33 68 ls st m = s_x X d 33 [.aload 0, .iload 1, .invokeinterface 42 2, .ireturn] ls st m := by
  rw [s_j, s_g_eq, g_l33]; rfl
theorem u_33_74 {X : e_X} {d : Nat} {ls st : List Value} {m : e_M} : s_j X d 33 74 ls st m = s_x X d 33 [.aload 0, .iload 1, .invokeinterface 44 2, .ireturn] ls st m := by
  rw [s_j, s_g_eq, g_l33]; rfl
theorem u_33_80 {X : e_X} {d : Nat} {ls st : List Value} {m : e_M} : s_j X d 33 80 ls st m = s_x X d 33 [.aload 0, .iload 1, .invokeinterface 47 2, .ireturn] ls st m := by
  rw [s_j, s_g_eq, g_l33]; rfl
/-- R.takeKind -/
theorem g_l34 (l : Nat) : g_P 34 l = (g_c34.lookup l).getD [] := rfl
theorem v_34 {X : e_X} {d : Nat} (a0 : Nat) (a1 : Int32) {m : e_M} : s_S X (d + 1) 34 [.ref a0, .int a1] m = s_j X d 34 0 [.ref a0, .int a1] [] m := rfl
theorem u_34_0 {X : e_X} {d : Nat} {ls st : List Value} {m : e_M} : s_j X d 34 0 ls st m = s_x X d 34 [.iload 1, .sipush 5, .if_icmp .gt 17, .aload 0, .checkcast 192, .getfield 69, .sipush 8, .if_icmp .lt 19, .jsr 17] ls st m := by
  rw [s_j, s_g_eq, g_l34]; rfl
theorem u_34_17 {X : e_X} {d : Nat} {ls st : List Value} {m : e_M} : s_j X d 34 17 ls st m = s_x X d 34 [.sipush 0, .ireturn] ls st m := by
  rw [s_j, s_g_eq, g_l34]; rfl
theorem u_34_19 {X : e_X} {d : Nat} {ls st : List Value} {m : e_M} : s_j X d 34 19 ls st m = s_x X d 34 [.aload 0, .iload 1, .putfield 199, .aload 0, .sipush 1, .putfield 198, .sipush 1, .ireturn] ls st m := by
  rw [s_j, s_g_eq, g_l34]; rfl
/-- R.takeTail -/
theorem g_l35 (l : Nat) : g_P 35 l = (g_c35.lookup l).getD [] := rfl
theorem v_35 {X : e_X} {d : Nat} (a0 : Nat) (a1 : Int32) {m : e_M} : s_S X (d + 1) 35 [.ref a0, .int a1] m = s_j X d 35 0 [.ref a0, .int a1] [] m := rfl
theorem u_35_0 {X : e_X} {d : Nat} {ls st : List Value} {m : e_M} : s_j X d 35 0 ls st m = s_x X d 35 [.iload 1, .sipush 9, .if_icmp .eq 12, .aload 0, .iload 1, .invokeinterface 36 2, .ireturn] ls st m := by
  rw [s_j, s_g_eq, g_l35]; rfl
theorem u_35_12 {X : e_X} {d : Nat} {ls st : List Value} {m : e_M} : s_j X d 35 12 ls st m = s_x X d 35 [.aload 0, .sipush 2, .putfield 198, .sipush 1, .ireturn] ls st m := by
  rw [s_j, s_g_eq, g_l35]; rfl
/-- R.takeWill -/
theorem g_l36 (l : Nat) : g_P 36 l = (g_c36.lookup l).getD [] := rfl
theorem v_36 {X : e_X} {d : Nat} (a0 : Nat) (a1 : Int32) {m : e_M} : s_S X (d + 1) 36 [.ref a0, .int a1] m = s_j X d 36 0 [.ref a0, .int a1] [] m := rfl
theorem u_36_0 {X : e_X} {d : Nat} {ls st : List Value} {m : e_M} : s_j X d 36 0 ls st m = s_x X d 36 [.iload 1, .sipush 6, .sipush 8, .invokeinterface 109 3, .ifCond .eq 13, .sipush 0, .ireturn] ls st m := by
  rw [s_j, s_g_eq, g_l36]; rfl
theorem u_36_13 {X : e_X} {d : Nat} {ls st : List Value} {m : e_M} : s_j X d 36 13 ls st m = s_x X d 36 [.aload 0, .iload 1, .sipush 6, .isub, .putfield 200, .aload 0, .sipush 6, .putfield 198, .sipush 1, .ireturn] ls st m := by
  rw [s_j, s_g_eq, g_l36]; rfl
/-- R.takeOne -/
theorem g_l37 (l : Nat) : g_P 37 l = (g_c37.lookup l).getD [] := rfl
theorem v_37 {X : e_X} {d : Nat} (a0 : Nat) (a1 : Int32) {m : e_M} : s_S X (d + 1) 37 [.ref a0, .int a1] m = s_j X d 37 0 [.ref a0, .int a1] [] m := rfl
theorem u_37_0 {X : e_X} {d : Nat} {ls st : List Value} {m : e_M} : s_j X d 37 0 ls st m = s_x X d 37 [.iload 1, .sipush 12, .if_icmp .ne 13, .aload 0, .sipush 12, .invokeinterface 38 2, .ireturn] ls st m := by
  rw [s_j, s_g_eq, g_l37]; rfl
theorem u_37_13 {X : e_X} {d : Nat} {ls st : List Value} {m : e_M} : s_j X d 37 13 ls st m = s_x X d 37 [.iload 1, .sipush 24, .if_icmp .ne 52, .aload 0, .dup, .getfield 203, .sipush 1, .iadd, .putfield 203, .aload 0, .getfield 203, .sipush 3, .if_icmp .gt 50, .aload 0, .sipush 24, .invokeinterface 38 2, .ifCond .eq 50, .sipush 1, .goto 51] ls st m := by
  rw [s_j, s_g_eq, g_l37]; rfl
theorem u_37_50 {X : e_X} {d : Nat} {ls st : List Value} {m : e_M} : s_j X d 37 50 ls st m = s_x X d 37 [.sipush 0, .jsr 51] ls st m := by
  rw [s_j, s_g_eq, g_l37]; rfl
theorem u_37_51 {X : e_X} {d : Nat} {ls st : List Value} {m : e_M} : s_j X d 37 51 ls st m = s_x X d 37 [.ireturn] ls st m := by
  rw [s_j, s_g_eq, g_l37]; rfl
theorem u_37_52 {X : e_X} {d : Nat} {ls st : List Value} {m : e_M} : s_j X d 37 52 ls st m = s_x X d 37 [.iload 1, .invokeinterface 39 1, .ifCond .ne 61, .sipush 0, .ireturn] ls st m := by
  rw [s_j, s_g_eq, g_l37]; rfl
theorem u_37_61 {X : e_X} {d : Nat} {ls st : List Value} {m : e_M} : s_j X d 37 61 ls st m = s_x X d 37 [.aload 0, .aload 0, .iload 1, .invokeinterface 40 2, .putfield 201, .aload 0, .sipush 3, .putfield 198, .sipush 1, .ireturn] ls st m := by
  rw [s_j, s_g_eq, g_l37]; rfl
/-- R.waitWith -/
theorem g_l38 (l : Nat) : g_P 38 l = (g_c38.lookup l).getD [] := rfl
theorem v_38 {X : e_X} {d : Nat} (a0 : Nat) (a1 : Int32) {m : e_M} : s_S X (d + 1) 38 [.ref a0, .int a1] m = s_j X d 38 0 [.ref a0, .int a1] [] m := rfl
theorem u_38_0 {X : e_X} {d : Nat} {ls st : List Value} {m : e_M} : s_j X d 38 0 ls st m = s_x X d 38 [.aload 0, .getfield 205, .sipush 200, .if_icmp .lt 12, .sipush 0, .ireturn] ls st m := by
  rw [s_j, s_g_eq, g_l38]; rfl
theorem u_38_12 {X : e_X} {d : Nat} {ls st : List Value} {m : e_M} : s_j X d 38 12 ls st m = s_x X d 38 [.aload 0, .checkcast 204, .aload 0, .dup, .getfield 205, .dup_x1, .sipush 1, .iadd, .putfield 205, .iload 1, .iastore, .sipush 1, .ireturn] ls st m := by
  rw [s_j, s_g_eq, g_l38]; rfl
/-- R.isValue -/
theorem g_l39 (l : Nat) : g_P 39 l = (g_c39.lookup l).getD [] := rfl
theorem v_39 {X : e_X} {d : Nat} (a0 : Int32) {m : e_M} : s_S X (d + 1) 39 [.int a0] m = s_j X d 39 0 [.int a0] [] m := rfl
theorem u_39_0 {X : e_X} {d : Nat} {ls st : List Value} {m : e_M} : s_j X d 39 0 ls st m = s_x X d 39 [.iload 0, .sipush 18, .if_icmp .eq 17, .iload 0, .sipush 13, .sipush 17, .invokeinterface 109 3, .ifCond .ne 21, .jsr 17] ls st m := by
  rw [s_j, s_g_eq, g_l39]; rfl
theorem u_39_17 {X : e_X} {d : Nat} {ls st : List Value} {m : e_M} : s_j X d 39 17 ls st m = s_x X d 39 [.sipush 1, .goto 22] ls st m := by
  rw [s_j, s_g_eq, g_l39]; rfl
theorem u_39_21 {X : e_X} {d : Nat} {ls st : List Value} {m : e_M} : s_j X d 39 21 ls st m = s_x X d 39 [.sipush 0, .jsr 22] ls st m := by
  rw [s_j, s_g_eq, g_l39]; rfl
theorem u_39_22 {X : e_X} {d : Nat} {ls st : List Value} {m : e_M} : s_j X d 39 22 ls st m = s_x X d 39 [.ireturn] ls st m := by
  rw [s_j, s_g_eq, g_l39]; rfl
/-- R.valueOf -/
theorem g_l40 (l : Nat) : g_P 40 l = (g_c40.lookup l).getD [] := rfl
theorem v_40 {X : e_X} {d : Nat} (a0 : Nat) (a1 : Int32) {m : e_M} : s_S X (d + 1) 40 [.ref a0, .int a1] m = s_j X d 40 0 [.ref a0, .int a1] [] m := rfl
theorem u_40_0 {X : e_X} {d : Nat} {ls st : List Value} {m : e_M} : s_j X d 40 0 ls st m = s_x X d 40 [.iload 1, .sipush 18, .if_icmp .ne 13, .aload 0, .getfield 197, .goto 21] ls st m := by
  rw [s_j, s_g_eq, g_l40]; rfl
theorem u_40_13 {X : e_X} {d : Nat} {ls st : List Value} {m : e_M} : s_j X d 40 13 ls st m = s_x X d 40 [.sipush 10000, .iload 1, .iadd, .sipush 13, .isub, .jsr 21] ls st m := by
  rw [s_j, s_g_eq, g_l40]; rfl
theorem u_40_21 {X : e_X} {d : Nat} {ls st : List Value} {m : e_M} : s_j X d 40 21 ls st m = s_x X d 40 [.ireturn] ls st m := by
  rw [s_j, s_g_eq, g_l40]; rfl
/-- R.takeSign -/
theorem g_l41 (l : Nat) : g_P 41 l = (g_c41.lookup l).getD [] := rfl
theorem v_41 {X : e_X} {d : Nat} (a0 : Nat) (a1 : Int32) {m : e_M} : s_S X (d + 1) 41 [.ref a0, .int a1] m = s_j X d 41 0 [.ref a0, .int a1] [] m := rfl
theorem u_41_0 {X : e_X} {d : Nat} {ls st : List Value} {m : e_M} : s_j X d 41 0 ls st m = s_x X d 41 [.iload 1, .sipush 21, .sipush 23, .invokeinterface 109 3, .ifCond .eq 13, .sipush 0, .ireturn] ls st m := by
  rw [s_j, s_g_eq, g_l41]; rfl
theorem u_41_13 {X : e_X} {d : Nat} {ls st : List Value} {m : e_M} : s_j X d 41 13 ls st m = s_x X d 41 [.aload 0, .iload 1, .sipush 21, .isub, .putfield 202, .aload 0, .sipush 4, .putfield 198, .sipush 1, .ireturn] ls st m := by
  rw [s_j, s_g_eq, g_l41]; rfl
/-- R.takeRight -/
theorem g_l42 (l : Nat) : g_P 42 l = (g_c42.lookup l).getD [] := rfl
theorem v_42 {X : e_X} {d : Nat} (a0 : Nat) (a1 : Int32) {m : e_M} : s_S X (d + 1) 42 [.ref a0, .int a1] m = s_j X d 42 0 [.ref a0, .int a1] [] m := rfl
theorem u_42_0 {X : e_X} {d : Nat} {ls st : List Value} {m : e_M} : s_j X d 42 0 ls st m = s_x X d 42 [.iload 1, .invokeinterface 39 1, .ifCond .ne 9, .sipush 0, .ireturn] ls st m := by
  rw [s_j, s_g_eq, g_l42]; rfl
theorem u_42_9 {X : e_X} {d : Nat} {ls st : List Value} {m : e_M} : s_j X d 42 9 ls st m = s_x X d 42 [.aload 0, .checkcast 192, .aload 0, .getfield 201, .aload 0, .getfield 202, .aload 0, .iload 1, .invokeinterface 40 2, .invokeinterface 13 3, .invokeinterface 14 2, .aload 0, .invokeinterface 43 1, .sipush 1, .ireturn] ls st m := by
  rw [s_j, s_g_eq, g_l42]; rfl
/-- R.endOne -/
theorem g_l43 (l : Nat) : g_P 43 l = (g_c43.lookup l).getD [] := rfl
theorem v_43 {X : e_X} {d : Nat} (a0 : Nat) {m : e_M} : s_S X (d + 1) 43 [.ref a0] m = s_j X d 43 0 [.ref a0] [] m := rfl
theorem u_43_0 {X : e_X} {d : Nat} {ls st : List Value} {m : e_M} : s_j X d 43 0 ls st m = s_x X d 43 [.aload 0, .getfield 205, .ifCond .le 44, .aload 0, .checkcast 204, .aload 0, .getfield 205, .sipush 1, .isub, .iaload, .sipush 12, .if_icmp .ne 44, .aload 0, .checkcast 192, .sipush (-1), .invokeinterface 14 2, .aload 0, .dup, .getfield 205, .sipush 1, .isub, .putfield 205, .goto 0] ls st m := by
  rw [s_j, s_g_eq, g_l43]; rfl
theorem u_43_44 {X : e_X} {d : Nat} {ls st : List Value} {m : e_M} : s_j X d 43 44 ls st m = s_x X d 43 [.aload 0, .sipush 5, .putfield 198, .return_] ls st m := by
  rw [s_j, s_g_eq, g_l43]; rfl
/-- R.takeJoint -/
theorem g_l44 (l : Nat) : g_P 44 l = (g_c44.lookup l).getD [] := rfl
theorem v_44 {X : e_X} {d : Nat} (a0 : Nat) (a1 : Int32) {m : e_M} : s_S X (d + 1) 44 [.ref a0, .int a1] m = s_j X d 44 0 [.ref a0, .int a1] [] m := rfl
theorem u_44_0 {X : e_X} {d : Nat} {ls st : List Value} {m : e_M} : s_j X d 44 0 ls st m = s_x X d 44 [.iload 1, .sipush 25, .if_icmp .ne 11, .aload 0, .invokeinterface 45 1, .ireturn] ls st m := by
  rw [s_j, s_g_eq, g_l44]; rfl
theorem u_44_11 {X : e_X} {d : Nat} {ls st : List Value} {m : e_M} : s_j X d 44 11 ls st m = s_x X d 44 [.iload 1, .sipush 10, .if_icmp .eq 23, .iload 1, .sipush 11, .if_icmp .ne 39, .jsr 23] ls st m := by
  rw [s_j, s_g_eq, g_l44]; rfl
theorem u_44_23 {X : e_X} {d : Nat} {ls st : List Value} {m : e_M} : s_j X d 44 23 ls st m = s_x X d 44 [.aload 0, .iload 1, .invokeinterface 46 2, .aload 0, .sipush 2, .putfield 198, .aload 0, .iload 1, .invokeinterface 38 2, .ireturn] ls st m := by
  rw [s_j, s_g_eq, g_l44]; rfl
theorem u_44_39 {X : e_X} {d : Nat} {ls st : List Value} {m : e_M} : s_j X d 44 39 ls st m = s_x X d 44 [.aload 0, .getfield 203, .ifCond .le 48, .sipush 0, .ireturn] ls st m := by
  rw [s_j, s_g_eq, g_l44]; rfl
theorem u_44_48 {X : e_X} {d : Nat} {ls st : List Value} {m : e_M} : s_j X d 44 48 ls st m = s_x X d 44 [.aload 0, .sipush 11, .invokeinterface 46 2, .aload 0, .iload 1, .invokeinterface 36 2, .ireturn] ls st m := by
  rw [s_j, s_g_eq, g_l44]; rfl
/-- R.takeClose -/
theorem g_l45 (l : Nat) : g_P 45 l = (g_c45.lookup l).getD [] := rfl
theorem v_45 {X : e_X} {d : Nat} (a0 : Nat) {m : e_M} : s_S X (d + 1) 45 [.ref a0] m = s_j X d 45 0 [.ref a0] [] m := rfl
theorem u_45_0 {X : e_X} {d : Nat} {ls st : List Value} {m : e_M} : s_j X d 45 0 ls st m = s_x X d 45 [.aload 0, .getfield 203, .ifCond .ne 9, .sipush 0, .ireturn] ls st m := by
  rw [s_j, s_g_eq, g_l45]; rfl
theorem u_45_9 {X : e_X} {d : Nat} {ls st : List Value} {m : e_M} : s_j X d 45 9 ls st m = s_x X d 45 [.aload 0, .dup, .getfield 203, .sipush 1, .isub, .putfield 203, .aload 0, .sipush 11, .invokeinterface 46 2, .aload 0, .getfield 205, .ifCond .le 42, .aload 0, .dup, .getfield 205, .sipush 1, .isub, .putfield 205, .jsr 42] ls st m := by
  rw [s_j, s_g_eq, g_l45]; rfl
theorem u_45_42 {X : e_X} {d : Nat} {ls st : List Value} {m : e_M} : s_j X d 45 42 ls st m = s_x X d 45 [.aload 0, .invokeinterface 43 1, .sipush 1, .ireturn] ls st m := by
  rw [s_j, s_g_eq, g_l45]; rfl
/-- R.appendJoints -/
theorem g_l46 (l : Nat) : g_P 46 l = (g_c46.lookup l).getD [] := rfl
theorem v_46 {X : e_X} {d : Nat} (a0 : Nat) (a1 : Int32) {m : e_M} : s_S X (d + 1) 46 [.ref a0, .int a1] m = s_j X d 46 0 [.ref a0, .int a1] [] m := rfl
theorem u_46_0 {X : e_X} {d : Nat} {ls st : List Value} {m : e_M} : s_j X d 46 0 ls st m = s_x X d 46 [.aload 0, .getfield 205, .ifCond .le 81, .aload 0, .checkcast 204, .aload 0, .getfield 205, .sipush 1, .isub, .iaload, .sipush 10, .if_icmp .eq 38, .aload 0, .checkcast 204, .aload 0, .getfield 205, .sipush 1, .isub, .iaload, .iload 1, .if_icmp .ne 81, .jsr 38] ls st m := by
  rw [s_j, s_g_eq, g_l46]; rfl
theorem u_46_38 {X : e_X} {d : Nat} {ls st : List Value} {m : e_M} : s_j X d 46 38 ls st m = s_x X d 46 [.aload 0, .checkcast 192, .aload 0, .checkcast 204, .aload 0, .getfield 205, .sipush 1, .isub, .iaload, .sipush 10, .if_icmp .ne 63, .sipush (-2), .goto 65] ls st m := by
  rw [s_j, s_g_eq, g_l46]; rfl
theorem u_46_63 {X : e_X} {d : Nat} {ls st : List Value} {m : e_M} : s_j X d 46 63 ls st m = s_x X d 46 [.sipush (-3), .jsr 65] ls st m := by
  rw [s_j, s_g_eq, g_l46]; rfl
theorem u_46_65 {X : e_X} {d : Nat} {ls st : List Value} {m : e_M} : s_j X d 46 65 ls st m = s_x X d 46 [.invokeinterface 14 2, .aload 0, .dup, .getfield 205, .sipush 1, .isub, .putfield 205, .goto 0] ls st m := by
  rw [s_j, s_g_eq, g_l46]; rfl
theorem u_46_81 {X : e_X} {d : Nat} {ls st : List Value} {m : e_M} : s_j X d 46 81 ls st m = s_x X d 46 [.return_] ls st m := by
  rw [s_j, s_g_eq, g_l46]; rfl
/-- R.takeSemicolon -/
theorem g_l47 (l : Nat) : g_P 47 l = (g_c47.lookup l).getD [] := rfl
theorem v_47 {X : e_X} {d : Nat} (a0 : Nat) (a1 : Int32) {m : e_M} : s_S X (d + 1) 47 [.ref a0, .int a1] m = s_j X d 47 0 [.ref a0, .int a1] [] m := rfl
theorem u_47_0 {X : e_X} {d : Nat} {ls st : List Value} {m : e_M} : s_j X d 47 0 ls st m = s_x X d 47 [.iload 1, .sipush 26, .if_icmp .eq 8, .sipush 0, .ireturn] ls st m := by
  rw [s_j, s_g_eq, g_l47]; rfl
theorem u_47_8 {X : e_X} {d : Nat} {ls st : List Value} {m : e_M} : s_j X d 47 8 ls st m = s_x X d 47 [.aload 0, .checkcast 192, .aload 0, .getfield 199, .aload 0, .getfield 200, .invokeinterface 15 3, .aload 0, .sipush 0, .putfield 198, .sipush 1, .ireturn] ls st m := by
  rw [s_j, s_g_eq, g_l47]; rfl
/-- Rp.add -/
theorem g_l49 (l : Nat) : g_P 49 l = (g_c49.lookup l).getD [] := rfl
theorem v_49 {X : e_X} {d : Nat} (a0 : Nat) (a1 : Int32) (a2 : Int32) (a3 : Int32) (a4 : Int32) {m : e_M} : s_S X (d + 1) 49 [.ref a0, .int a1, .int a2, .int a3, .int a4] m = s_j X d 49 0 [.ref a0, .int a1, .int a2, .int a3, .int a4] [] m := rfl
theorem u_49_0 {X : e_X} {d : Nat} {ls st : List Value} {m : e_M} : s_j X d 49 0 ls st m = s_x X d 49 [.aload 0, .getfield 260, .sipush 6, .if_icmp .lt 12, .sipush (-2), .ireturn] ls st m := by
  rw [s_j, s_g_eq, g_l49]; rfl
theorem u_49_12 {X : e_X} {d : Nat} {ls st : List Value} {m : e_M} : s_j X d 49 12 ls st m = s_x X d 49 [.aload 0, .checkcast 256, .aload 0, .getfield 260, .iload 1, .iastore, .aload 0, .checkcast 257, .aload 0, .getfield 260, .iload 2, .iastore, .aload 0, .checkcast 258, .aload 0, .getfield 260, .iload 3, .iastore, .aload 0, .checkcast 259, .aload 0, .getfield 260, .iload 4, .iastore, .aload 0, .dup, .getfield 260, .dup_x1, .sipush 1, .iadd, .putfield 260, .ireturn] ls st m := by
  rw [s_j, s_g_eq, g_l49]; rfl
/-- Rp.latest -/
theorem g_l50 (l : Nat) : g_P 50 l = (g_c50.lookup l).getD [] := rfl
theorem v_50 {X : e_X} {d : Nat} (a0 : Nat) {m : e_M} : s_S X (d + 1) 50 [.ref a0] m = s_j X d 50 0 [.ref a0, .retAddr 0, .retAddr 0] [] m := rfl
theorem u_50_0 {X : e_X} {d : Nat} {ls st : List Value} {m : e_M} : s_j X d 50 0 ls st m = s_x X d 50 [.sipush 0, .istore 1, .sipush 0, .istore 2, .jsr 4] ls st m := by
  rw [s_j, s_g_eq, g_l50]; rfl
theorem u_50_4 {X : e_X} {d : Nat} {ls st : List Value} {m : e_M} : s_j X d 50 4 ls st m = s_x X d 50 [.iload 2, .aload 0, .getfield 260, .if_icmp .ge 29, .iload 1, .aload 0, .checkcast 256, .iload 2, .iaload, .dadd, .istore 1, .iinc 2 1, .goto 4] ls st m := by
  rw [s_j, s_g_eq, g_l50]; rfl
theorem u_50_29 {X : e_X} {d : Nat} {ls st : List Value} {m : e_M} : s_j X d 50 29 ls st m = s_x X d 50 [.iload 1, .ireturn] ls st m := by
  rw [s_j, s_g_eq, g_l50]; rfl
/-- Rp.wrongBehind -/
theorem g_l51 (l : Nat) : g_P 51 l = (g_c51.lookup l).getD [] := rfl
theorem v_51 {X : e_X} {d : Nat} (a0 : Nat) (a1 : Int32) (a2 : Int32) (a3 : Int32) {m : e_M} : s_S X (d + 1) 51 [.ref a0, .int a1, .int a2, .int a3] m = s_j X d 51 0 [.ref a0, .int a1, .int a2, .int a3, .retAddr 0, .retAddr 0] [] m := rfl
theorem u_51_0 {X : e_X} {d : Nat} {ls st : List Value} {m : e_M} : s_j X d 51 0 ls st m = s_x X d 51 [.sipush 0, .istore 4, .sipush 0, .istore 5, .jsr 6] ls st m := by
  rw [s_j, s_g_eq, g_l51]; rfl
theorem u_51_6 {X : e_X} {d : Nat} {ls st : List Value} {m : e_M} : s_j X d 51 6 ls st m = s_x X d 51 [.iload 5, .aload 0, .getfield 260, .if_icmp .ge 76, .aload 0, .checkcast 256, .iload 5, .iaload, .iload 1, .if_icmp .ne 70, .aload 0, .checkcast 257, .iload 5, .iaload, .ifCond .ne 40, .iload 2, .goto 41] ls st m := by
  rw [s_j, s_g_eq, g_l51]; rfl
theorem u_51_40 {X : e_X} {d : Nat} {ls st : List Value} {m : e_M} : s_j X d 51 40 ls st m = s_x X d 51 [.iload 3, .jsr 41] ls st m := by
  rw [s_j, s_g_eq, g_l51]; rfl
theorem u_51_41 {X : e_X} {d : Nat} {ls st : List Value} {m : e_M} : s_j X d 51 41 ls st m = s_x X d 51 [.aload 0, .checkcast 258, .iload 5, .iaload, .aload 0, .checkcast 259, .iload 5, .iaload, .invokeinterface 109 3, .ifCond .eq 70, .iload 4, .sipush 1, .iload 5, .ishl, .ior, .istore 4, .jsr 70] ls st m := by
  rw [s_j, s_g_eq, g_l51]; rfl
theorem u_51_70 {X : e_X} {d : Nat} {ls st : List Value} {m : e_M} : s_j X d 51 70 ls st m = s_x X d 51 [.iinc 5 1, .goto 6] ls st m := by
  rw [s_j, s_g_eq, g_l51]; rfl
theorem u_51_76 {X : e_X} {d : Nat} {ls st : List Value} {m : e_M} : s_j X d 51 76 ls st m = s_x X d 51 [.iload 4, .ireturn] ls st m := by
  rw [s_j, s_g_eq, g_l51]; rfl
/-- Rp.copyFrom -/
theorem g_l52 (l : Nat) : g_P 52 l = (g_c52.lookup l).getD [] := rfl
theorem v_52 {X : e_X} {d : Nat} (a0 : Nat) (a1 : Nat) {m : e_M} : s_S X (d + 1) 52 [.ref a0, .ref a1] m = s_j X d 52 0 [.ref a0, .ref a1] [] m := rfl
theorem u_52_0 {X : e_X} {d : Nat} {ls st : List Value} {m : e_M} : s_j X d 52 0 ls st m = s_x X d 52 [.aload 1, .checkcast 256, .sipush 0, .aload 0, .checkcast 256, .sipush 0, .sipush 6, .dmul, .aload 1, .checkcast 257, .sipush 0, .aload 0, .checkcast 257, .sipush 0, .sipush 6, .dmul, .aload 1, .checkcast 258, .sipush 0, .aload 0, .checkcast 258, .sipush 0, .sipush 6, .dmul, .aload 1, .checkcast 259, .sipush 0, .aload 0, .checkcast 259, .sipush 0, .sipush 6, .dmul, .aload 0, .aload 1, .getfield 260, .putfield 260, .return_] ls st m := by
  rw [s_j, s_g_eq, g_l52]; rfl
/-- Rw.fill -/
theorem g_l54 (l : Nat) : g_P 54 l = (g_c54.lookup l).getD [] := rfl
theorem v_54 {X : e_X} {d : Nat} (a0 : Nat) (a1 : Nat) (a2 : Int32) {m : e_M} : s_S X (d + 1) 54 [.ref a0, .ref a1, .int a2] m = s_j X d 54 0 [.ref a0, .ref a1, .int a2, .retAddr 0, .retAddr 0] [] m := rfl
theorem u_54_0 {X : e_X} {d : Nat} {ls st : List Value} {m : e_M} : s_j X d 54 0 ls st m = s_x X d 54 [.aload 0, .checkcast 320, .invokeinterface 85 1, .istore 3, .aload 0, .iload 2, .sipush 4, .dsub, .putfield 322, .sipush 0, .istore 4, .jsr 20] ls st m := by
  rw [s_j, s_g_eq, g_l54]; rfl
theorem u_54_20 {X : e_X} {d : Nat} {ls st : List Value} {m : e_M} : s_j X d 54 20 ls st m = s_x X d 54 [.iload 4, .aload 0, .getfield 322, .if_icmp .ge 88, .aload 0, .checkcast 321, .sipush 3, .iload 4, .imul, .aload 1, .iload 4, .iaload, .iastore, .aload 0, .checkcast 321, .sipush 3, .iload 4, .imul, .sipush 1, .iadd, .aload 0, .checkcast 320, .aload 1, .iload 4, .iaload, .invokeinterface 79 2, .iastore, .aload 0, .checkcast 321, .sipush 3, .iload 4, .imul, .sipush 2, .iadd, .aload 0, .checkcast 320, .getfield 522, .iastore, .iinc 4 1, .goto 20] ls st m := by
  rw [s_j, s_g_eq, g_l54]; rfl
theorem u_54_88 {X : e_X} {d : Nat} {ls st : List Value} {m : e_M} : s_j X d 54 88 ls st m = s_x X d 54 [.aload 0, .checkcast 320, .iload 3, .invokeinterface 87 2, .aload 0, .getfield 322, .ireturn] ls st m := by
  rw [s_j, s_g_eq, g_l54]; rfl
/-- Rw.has -/
theorem g_l55 (l : Nat) : g_P 55 l = (g_c55.lookup l).getD [] := rfl
theorem v_55 {X : e_X} {d : Nat} (a0 : Nat) (a1 : Int32) (a2 : Int32) {m : e_M} : s_S X (d + 1) 55 [.ref a0, .int a1, .int a2] m = s_j X d 55 0 [.ref a0, .int a1, .int a2] [] m := rfl
theorem u_55_0 {X : e_X} {d : Nat} {ls st : List Value} {m : e_M} : s_j X d 55 0 ls st m = s_x X d 55 [.iload 1, .ifCond .lt 25, .iload 1, .aload 0, .getfield 322, .if_icmp .ge 25, .iload 2, .ifCond .lt 25, .iload 2, .sipush 3, .if_icmp .ge 25, .sipush 1, .goto 26] ls st m := by
  rw [s_j, s_g_eq, g_l55]; rfl
theorem u_55_25 {X : e_X} {d : Nat} {ls st : List Value} {m : e_M} : s_j X d 55 25 ls st m = s_x X d 55 [.sipush 0, .jsr 26] ls st m := by
  rw [s_j, s_g_eq, g_l55]; rfl
theorem u_55_26 {X : e_X} {d : Nat} {ls st : List Value} {m : e_M} : s_j X d 55 26 ls st m = s_x X d 55 [.ireturn] ls st m := by
  rw [s_j, s_g_eq, g_l55]; rfl
/-- Rw.firstWrong -/
theorem g_l56 (l : Nat) : g_P 56 l = (g_c56.lookup l).getD [] := rfl
theorem v_56 {X : e_X} {d : Nat} (a0 : Nat) {m : e_M} : s_S X (d + 1) 56 [.ref a0] m = s_j X d 56 0 [.ref a0, .retAddr 0, .retAddr 0, .retAddr 0] [] m := rfl
theorem u_56_0 {X : e_X} {d : Nat} {ls st : List Value} {m : e_M} : s_j X d 56 0 ls st m = s_x X d 56 [.aload 0, .checkcast 320, .invokeinterface 85 1, .istore 1, .sipush 0, .istore 2, .sipush 0, .istore 3, .jsr 12] ls st m := by
  rw [s_j, s_g_eq, g_l56]; rfl
theorem u_56_12 {X : e_X} {d : Nat} {ls st : List Value} {m : e_M} : s_j X d 56 12 ls st m = s_x X d 56 [.iload 3, .aload 0, .getfield 322, .if_icmp .ge 42, .iload 2, .ifCond .ne 42, .aload 0, .iload 3, .invokeinterface 57 2, .ifCond .ne 36, .iload 3, .sipush 1, .iadd, .istore 2, .jsr 36] ls st m := by
  rw [s_j, s_g_eq, g_l56]; rfl
theorem u_56_36 {X : e_X} {d : Nat} {ls st : List Value} {m : e_M} : s_j X d 56 36 ls st m = s_x X d 56 [.iinc 3 1, .goto 12] ls st m := by
  rw [s_j, s_g_eq, g_l56]; rfl
theorem u_56_42 {X : e_X} {d : Nat} {ls st : List Value} {m : e_M} : s_j X d 56 42 ls st m = s_x X d 56 [.aload 0, .checkcast 320, .iload 1, .invokeinterface 87 2, .iload 2, .ireturn] ls st m := by
  rw [s_j, s_g_eq, g_l56]; rfl
/-- Rw.isRight -/
theorem g_l57 (l : Nat) : g_P 57 l = (g_c57.lookup l).getD [] := rfl
theorem v_57 {X : e_X} {d : Nat} (a0 : Nat) (a1 : Int32) {m : e_M} : s_S X (d + 1) 57 [.ref a0, .int a1] m = s_j X d 57 0 [.ref a0, .int a1, .retAddr 0, .retAddr 0] [] m := rfl
theorem u_57_0 {X : e_X} {d : Nat} {ls st : List Value} {m : e_M} : s_j X d 57 0 ls st m = s_x X d 57 [.aload 0, .checkcast 321, .sipush 3, .iload 1, .imul, .iaload, .istore 2, .aload 0, .checkcast 320, .iload 2, .invokeinterface 105 2, .ifCond .eq 30, .aload 0, .checkcast 320, .invokeinterface 76 1, .ifCond .eq 32, .jsr 30] ls st m := by
  rw [s_j, s_g_eq, g_l57]; rfl
theorem u_57_30 {X : e_X} {d : Nat} {ls st : List Value} {m : e_M} : s_j X d 57 30 ls st m = s_x X d 57 [.sipush 0, .ireturn] ls st m := by
  rw [s_j, s_g_eq, g_l57]; rfl
theorem u_57_32 {X : e_X} {d : Nat} {ls st : List Value} {m : e_M} : s_j X d 57 32 ls st m = s_x X d 57 [.aload 0, .checkcast 320, .iload 2, .invokeinterface 79 2, .istore 3, .aload 0, .checkcast 321, .sipush 3, .iload 1, .imul, .sipush 1, .iadd, .iaload, .iload 3, .if_icmp .ne 79, .aload 0, .checkcast 321, .sipush 3, .iload 1, .imul, .sipush 2, .iadd, .iaload, .aload 0, .checkcast 320, .getfield 522, .if_icmp .ne 79, .sipush 1, .goto 80] ls st m := by
  rw [s_j, s_g_eq, g_l57]; rfl
theorem u_57_79 {X : e_X} {d : Nat} {ls st : List Value} {m : e_M} : s_j X d 57 79 ls st m = s_x X d 57 [.sipush 0, .jsr 80] ls st m := by
  rw [s_j, s_g_eq, g_l57]; rfl
theorem u_57_80 {X : e_X} {d : Nat} {ls st : List Value} {m : e_M} : s_j X d 57 80 ls st m = s_x X d 57 [.ireturn] ls st m := by
  rw [s_j, s_g_eq, g_l57]; rfl
/-- Sh.become -/
theorem g_l59 (l : Nat) : g_P 59 l = (g_c59.lookup l).getD [] := rfl
theorem v_59 {X : e_X} {d : Nat} (a0 : Nat) (a1 : Int32) (a2 : Int32) {m : e_M} : s_S X (d + 1) 59 [.ref a0, .int a1, .int a2] m = s_j X d 59 0 [.ref a0, .int a1, .int a2, .retAddr 0] [] m := rfl
theorem u_59_0 {X : e_X} {d : Nat} {ls st : List Value} {m : e_M} : s_j X d 59 0 ls st m = s_x X d 59 [.sipush 0, .istore 3, .jsr 2] ls st m := by
  rw [s_j, s_g_eq, g_l59]; rfl
theorem u_59_2 {X : e_X} {d : Nat} {ls st : List Value} {m : e_M} : s_j X d 59 2 ls st m = s_x X d 59 [.iload 3, .sipush 40, .if_icmp .ge 21, .aload 0, .checkcast 384, .iload 3, .goto_w 0, .lastore, .iinc 3 1, .goto 2] ls st m := by
  rw [s_j, s_g_eq, g_l59]; rfl
theorem u_59_21 {X : e_X} {d : Nat} {ls st : List Value} {m : e_M} : s_j X d 59 21 ls st m = s_x X d 59 [.aload 0, .iload 1, .putfield 385, .aload 0, .iload 2, .putfield 386, .return_] ls st m := by
  rw [s_j, s_g_eq, g_l59]; rfl
/-- Sh.hasItem -/
theorem g_l60 (l : Nat) : g_P 60 l = (g_c60.lookup l).getD [] := rfl
theorem v_60 {X : e_X} {d : Nat} (a0 : Nat) (a1 : Int32) {m : e_M} : s_S X (d + 1) 60 [.ref a0, .int a1] m = s_j X d 60 0 [.ref a0, .int a1] [] m := rfl
theorem u_60_0 {X : e_X} {d : Nat} {ls st : List Value} {m : e_M} : s_j X d 60 0 ls st m = s_x X d 60 [.iload 1, .ifCond .lt 22, .iload 1, .aload 0, .getfield 386, .if_icmp .ge 22, .iload 1, .sipush 40, .if_icmp .ge 22, .sipush 1, .goto 23] ls st m := by
  rw [s_j, s_g_eq, g_l60]; rfl
theorem u_60_22 {X : e_X} {d : Nat} {ls st : List Value} {m : e_M} : s_j X d 60 22 ls st m = s_x X d 60 [.sipush 0, .jsr 23] ls st m := by
  rw [s_j, s_g_eq, g_l60]; rfl
theorem u_60_23 {X : e_X} {d : Nat} {ls st : List Value} {m : e_M} : s_j X d 60 23 ls st m = s_x X d 60 [.ireturn] ls st m := by
  rw [s_j, s_g_eq, g_l60]; rfl
/-- Sh.putItem -/
theorem g_l61 (l : Nat) : g_P 61 l = (g_c61.lookup l).getD [] := rfl
theorem v_61 {X : e_X} {d : Nat} (a0 : Nat) (a1 : Int32) (a2 : Int32) {m : e_M} : s_S X (d + 1) 61 [.ref a0, .int a1, .int a2] m = s_j X d 61 0 [.ref a0, .int a1, .int a2] [] m := rfl
theorem u_61_0 {X : e_X} {d : Nat} {ls st : List Value} {m : e_M} : s_j X d 61 0 ls st m = s_x X d 61 [.aload 0, .iload 1, .invokeinterface 60 2, .ifCond .eq 19, .aload 0, .checkcast 384, .iload 1, .aload 0, .iload 2, .invokeinterface 62 2, .lastore, .jsr 19] ls st m := by
  rw [s_j, s_g_eq, g_l61]; rfl
theorem u_61_19 {X : e_X} {d : Nat} {ls st : List Value} {m : e_M} : s_j X d 61 19 ls st m = s_x X d 61 [.return_] ls st m := by
  rw [s_j, s_g_eq, g_l61]; rfl
/-- Sh.narrowed -/
theorem g_l62 (l : Nat) : g_P 62 l = (g_c62.lookup l).getD [] := rfl
theorem v_62 {X : e_X} {d : Nat} (a0 : Nat) (a1 : Int32) {m : e_M} : s_S X (d + 1) 62 [.ref a0, .int a1] m = s_j X d 62 0 [.ref a0, .int a1] [] m := rfl
theorem u_62_0 {X : e_X} {d : Nat} {ls st : List Value} {m : e_M} : s_j X d 62 0 ls st m = s_x X d 62 [.aload 0, .getfield 385, .lookupswitch 58 #[(0, 40), (1, 44), (2, 58), (3, 58), (4, 48)]] ls st m := by
  rw [s_j, s_g_eq, g_l62]; rfl
theorem u_62_40 {X : e_X} {d : Nat} {ls st : List Value} {m : e_M} : s_j X d 62 40 ls st m = s_x X d 62 [.iload 1, .i2b, .i2l, .lreturn] ls st m := by
  rw [s_j, s_g_eq, g_l62]; rfl
theorem u_62_44 {X : e_X} {d : Nat} {ls st : List Value} {m : e_M} : s_j X d 62 44 ls st m = s_x X d 62 [.iload 1, .i2s, .i2l, .lreturn] ls st m := by
  rw [s_j, s_g_eq, g_l62]; rfl
theorem u_62_48 {X : e_X} {d : Nat} {ls st : List Value} {m : e_M} : s_j X d 62 48 ls st m = s_x X d 62 [.iload 1, .ifCond .eq 56, .goto_w 1, .goto 57] ls st m := by
  rw [s_j, s_g_eq, g_l62]; rfl
theorem u_62_56 {X : e_X} {d : Nat} {ls st : List Value} {m : e_M} : s_j X d 62 56 ls st m = s_x X d 62 [.goto_w 0, .jsr 57] ls st m := by
  rw [s_j, s_g_eq, g_l62]; rfl
theorem u_62_57 {X : e_X} {d : Nat} {ls st : List Value} {m : e_M} : s_j X d 62 57 ls st m = s_x X d 62 [.lreturn] ls st m := by
  rw [s_j, s_g_eq, g_l62]; rfl
theorem u_62_58 {X : e_X} {d : Nat} {ls st : List Value} {m : e_M} : s_j X d 62 58 ls st m = s_x X d 62 [.iload 1, .i2l, .lreturn] ls st m := by
  rw [s_j, s_g_eq, g_l62]; rfl
/-- Sh.refusalAs -/
theorem g_l63 (l : Nat) : g_P 63 l = (g_c63.lookup l).getD [] := rfl
theorem v_63 {X : e_X} {d : Nat} (a0 : Nat) (a1 : Int32) {m : e_M} : s_S X (d + 1) 63 [.ref a0, .int a1] m = s_j X d 63 0 [.ref a0, .int a1] [] m := rfl
theorem u_63_0 {X : e_X} {d : Nat} {ls st : List Value} {m : e_M} : s_j X d 63 0 ls st m = s_x X d 63 [.aload 0, .getfield 385, .sipush (-1), .if_icmp .ne 11, .sipush (-11), .ireturn] ls st m := by
  rw [s_j, s_g_eq, g_l63]; rfl
theorem u_63_11 {X : e_X} {d : Nat} {ls st : List Value} {m : e_M} : s_j X d 63 11 ls st m = s_x X d 63 [.aload 0, .getfield 385, .iload 1, .if_icmp .ne 23, .sipush 0, .goto 25] ls st m := by
  rw [s_j, s_g_eq, g_l63]; rfl
theorem u_63_23 {X : e_X} {d : Nat} {ls st : List Value} {m : e_M} : s_j X d 63 23 ls st m = s_x X d 63 [.sipush (-13), .jsr 25] ls st m := by
  rw [s_j, s_g_eq, g_l63]; rfl
theorem u_63_25 {X : e_X} {d : Nat} {ls st : List Value} {m : e_M} : s_j X d 63 25 ls st m = s_x X d 63 [.ireturn] ls st m := by
  rw [s_j, s_g_eq, g_l63]; rfl
/-- Sf.holdRow -/
theorem g_l65 (l : Nat) : g_P 65 l = (g_c65.lookup l).getD [] := rfl
theorem v_65 {X : e_X} {d : Nat} (a0 : Nat) (a1 : Int32) (a2 : Int32) {m : e_M} : s_S X (d + 1) 65 [.ref a0, .int a1, .int a2] m = s_j X d 65 0 [.ref a0, .int a1, .int a2] [] m := rfl
theorem u_65_0 {X : e_X} {d : Nat} {ls st : List Value} {m : e_M} : s_j X d 65 0 ls st m = s_x X d 65 [.aload 0, .iload 1, .sipush (-1), .if_icmp .ne 10, .sipush 2, .goto 11] ls st m := by
  rw [s_j, s_g_eq, g_l65]; rfl
theorem u_65_10 {X : e_X} {d : Nat} {ls st : List Value} {m : e_M} : s_j X d 65 10 ls st m = s_x X d 65 [.sipush 1, .jsr 11] ls st m := by
  rw [s_j, s_g_eq, g_l65]; rfl
theorem u_65_11 {X : e_X} {d : Nat} {ls st : List Value} {m : e_M} : s_j X d 65 11 ls st m = s_x X d 65 [.putfield 448, .aload 0, .iload 1, .putfield 450, .aload 0, .iload 2, .putfield 451, .return_] ls st m := by
  rw [s_j, s_g_eq, g_l65]; rfl
/-- Sf.hold -/
theorem g_l66 (l : Nat) : g_P 66 l = (g_c66.lookup l).getD [] := rfl
theorem v_66 {X : e_X} {d : Nat} (a0 : Nat) (a1 : Int32) (a2 : Int32) {m : e_M} : s_S X (d + 1) 66 [.ref a0, .int a1, .int a2] m = s_j X d 66 0 [.ref a0, .int a1, .int a2] [] m := rfl
theorem u_66_0 {X : e_X} {d : Nat} {ls st : List Value} {m : e_M} : s_j X d 66 0 ls st m = s_x X d 66 [.aload 0, .iload 1, .putfield 448, .aload 0, .iload 2, .putfield 449, .return_] ls st m := by
  rw [s_j, s_g_eq, g_l66]; rfl
/-- T.addPiece -/
theorem g_l68 (l : Nat) : g_P 68 l = (g_c68.lookup l).getD [] := rfl
theorem v_68 {X : e_X} {d : Nat} (a0 : Nat) (a1 : Int32) (a2 : Int32) (a3 : Int32) (a4 : Int32) {m : e_M} : s_S X (d + 1) 68 [.ref a0, .int a1, .int a2, .int a3, .int a4] m = s_j X d 68 0 [.ref a0, .int a1, .int a2, .int a3, .int a4] [] m := rfl
theorem u_68_0 {X : e_X} {d : Nat} {ls st : List Value} {m : e_M} : s_j X d 68 0 ls st m = s_x X d 68 [.aload 0, .getfield 521, .sipush 6, .if_icmp .lt 12, .sipush (-2), .ireturn] ls st m := by
  rw [s_j, s_g_eq, g_l68]; rfl
theorem u_68_12 {X : e_X} {d : Nat} {ls st : List Value} {m : e_M} : s_j X d 68 12 ls st m = s_x X d 68 [.aload 0, .checkcast 512, .aload 0, .getfield 521, .iload 1, .iastore, .aload 0, .checkcast 513, .aload 0, .getfield 521, .iload 2, .iastore, .aload 0, .checkcast 514, .aload 0, .getfield 521, .iload 3, .iastore, .aload 0, .checkcast 515, .aload 0, .getfield 521, .iload 4, .iastore, .aload 0, .dup, .getfield 521, .dup_x1, .sipush 1, .iadd, .putfield 521, .ireturn] ls st m := by
  rw [s_j, s_g_eq, g_l68]; rfl
/-- T.hasPiece -/
theorem g_l69 (l : Nat) : g_P 69 l = (g_c69.lookup l).getD [] := rfl
theorem v_69 {X : e_X} {d : Nat} (a0 : Nat) (a1 : Int32) {m : e_M} : s_S X (d + 1) 69 [.ref a0, .int a1] m = s_j X d 69 0 [.ref a0, .int a1] [] m := rfl
theorem u_69_0 {X : e_X} {d : Nat} {ls st : List Value} {m : e_M} : s_j X d 69 0 ls st m = s_x X d 69 [.iload 1, .ifCond .lt 16, .iload 1, .aload 0, .getfield 521, .if_icmp .ge 16, .sipush 1, .goto 17] ls st m := by
  rw [s_j, s_g_eq, g_l69]; rfl
theorem u_69_16 {X : e_X} {d : Nat} {ls st : List Value} {m : e_M} : s_j X d 69 16 ls st m = s_x X d 69 [.sipush 0, .jsr 17] ls st m := by
  rw [s_j, s_g_eq, g_l69]; rfl
theorem u_69_17 {X : e_X} {d : Nat} {ls st : List Value} {m : e_M} : s_j X d 69 17 ls st m = s_x X d 69 [.ireturn] ls st m := by
  rw [s_j, s_g_eq, g_l69]; rfl
/-- T.isSeated -/
theorem g_l70 (l : Nat) : g_P 70 l = (g_c70.lookup l).getD [] := rfl
theorem v_70 {X : e_X} {d : Nat} (a0 : Nat) (a1 : Int32) {m : e_M} : s_S X (d + 1) 70 [.ref a0, .int a1] m = s_j X d 70 0 [.ref a0, .int a1] [] m := rfl
theorem u_70_0 {X : e_X} {d : Nat} {ls st : List Value} {m : e_M} : s_j X d 70 0 ls st m = s_x X d 70 [.aload 0, .getfield 522, .iload 1, .ishr, .sipush 1, .iand, .sipush 1, .if_icmp .ne 16, .sipush 1, .goto 17] ls st m := by
  rw [s_j, s_g_eq, g_l70]; rfl
theorem u_70_16 {X : e_X} {d : Nat} {ls st : List Value} {m : e_M} : s_j X d 70 16 ls st m = s_x X d 70 [.sipush 0, .jsr 17] ls st m := by
  rw [s_j, s_g_eq, g_l70]; rfl
theorem u_70_17 {X : e_X} {d : Nat} {ls st : List Value} {m : e_M} : s_j X d 70 17 ls st m = s_x X d 70 [.ireturn] ls st m := by
  rw [s_j, s_g_eq, g_l70]; rfl
/-- T.grudgeOf -/
theorem g_l71 (l : Nat) : g_P 71 l = (g_c71.lookup l).getD [] := rfl
theorem v_71 {X : e_X} {d : Nat} (a0 : Nat) (a1 : Int32) {m : e_M} : s_S X (d + 1) 71 [.ref a0, .int a1] m = s_j X d 71 0 [.ref a0, .int a1, .retAddr 0] [] m := rfl
theorem u_71_0 {X : e_X} {d : Nat} {ls st : List Value} {m : e_M} : s_j X d 71 0 ls st m = s_x X d 71 [.aload 0, .checkcast 516, .aload 0, .checkcast 515, .iload 1, .iaload, .iaload, .istore 2, .aload 0, .checkcast 512, .iload 1, .iaload, .lookupswitch 80 #[(1, 52), (2, 56), (3, 60), (4, 70), (5, 74)]] ls st m := by
  rw [s_j, s_g_eq, g_l71]; rfl
theorem u_71_52 {X : e_X} {d : Nat} {ls st : List Value} {m : e_M} : s_j X d 71 52 ls st m = s_x X d 71 [.iload 2, .sipush 2, .iadd, .ireturn] ls st m := by
  rw [s_j, s_g_eq, g_l71]; rfl
theorem u_71_56 {X : e_X} {d : Nat} {ls st : List Value} {m : e_M} : s_j X d 71 56 ls st m = s_x X d 71 [.iload 2, .iload 1, .iadd, .ireturn] ls st m := by
  rw [s_j, s_g_eq, g_l71]; rfl
theorem u_71_60 {X : e_X} {d : Nat} {ls st : List Value} {m : e_M} : s_j X d 71 60 ls st m = s_x X d 71 [.sipush 0, .iload 2, .iload 1, .iadd, .sipush 3, .isub, .dadd, .ireturn] ls st m := by
  rw [s_j, s_g_eq, g_l71]; rfl
theorem u_71_70 {X : e_X} {d : Nat} {ls st : List Value} {m : e_M} : s_j X d 71 70 ls st m = s_x X d 71 [.iload 2, .sipush 2, .idiv, .ireturn] ls st m := by
  rw [s_j, s_g_eq, g_l71]; rfl
theorem u_71_74 {X : e_X} {d : Nat} {ls st : List Value} {m : e_M} : s_j X d 71 74 ls st m = s_x X d 71 [.iload 2, .sipush 2, .idiv, .sipush 2, .imul, .ireturn] ls st m := by
  rw [s_j, s_g_eq, g_l71]; rfl
theorem u_71_80 {X : e_X} {d : Nat} {ls st : List Value} {m : e_M} : s_j X d 71 80 ls st m = s_x X d 71 [.iload 2, .ireturn] ls st m := by
  rw [s_j, s_g_eq, g_l71]; rfl
/-- T.wouldSit -/
theorem g_l72 (l : Nat) : g_P 72 l = (g_c72.lookup l).getD [] := rfl
theorem v_72 {X : e_X} {d : Nat} (a0 : Nat) (a1 : Int32) {m : e_M} : s_S X (d + 1) 72 [.ref a0, .int a1] m = s_j X d 72 0 [.ref a0, .int a1] [] m := rfl
theorem u_72_0 {X : e_X} {d : Nat} {ls st : List Value} {m : e_M} : s_j X d 72 0 ls st m = s_x X d 72 [.aload 0, .iload 1, .invokeinterface 70 2, .ifCond .ne 36, .aload 0, .iload 1, .invokeinterface 71 2, .aload 0, .getfield 526, .aload 0, .checkcast 517, .aload 0, .checkcast 515, .iload 1, .iaload, .iaload, .iadd, .if_icmp .gt 36, .sipush 1, .goto 37] ls st m := by
  rw [s_j, s_g_eq, g_l72]; rfl
theorem u_72_36 {X : e_X} {d : Nat} {ls st : List Value} {m : e_M} : s_j X d 72 36 ls st m = s_x X d 72 [.sipush 0, .jsr 37] ls st m := by
  rw [s_j, s_g_eq, g_l72]; rfl
theorem u_72_37 {X : e_X} {d : Nat} {ls st : List Value} {m : e_M} : s_j X d 72 37 ls st m = s_x X d 72 [.ireturn] ls st m := by
  rw [s_j, s_g_eq, g_l72]; rfl
/-- T.willOf -/
theorem g_l73 (l : Nat) : g_P 73 l = (g_c73.lookup l).getD [] := rfl
theorem v_73 {X : e_X} {d : Nat} (a0 : Nat) (a1 : Int32) {m : e_M} : s_S X (d + 1) 73 [.ref a0, .int a1] m = s_j X d 73 0 [.ref a0, .int a1] [] m := rfl
theorem u_73_0 {X : e_X} {d : Nat} {ls st : List Value} {m : e_M} : s_j X d 73 0 ls st m = s_x X d 73 [.aload 0, .checkcast 519, .checkcast 68, .sipush 0, .aload 0, .getfield 523, .iastore, .aload 0, .checkcast 519, .checkcast 68, .sipush 1, .aload 0, .checkcast 514, .iload 1, .iaload, .iastore, .aload 0, .checkcast 519, .checkcast 68, .sipush 2, .aload 0, .iload 1, .invokeinterface 71 2, .iastore, .aload 0, .checkcast 519, .checkcast 68, .sipush 3, .aload 0, .getfield 526, .iastore, .aload 0, .checkcast 519, .checkcast 68, .sipush 4, .iload 1, .iastore, .aload 0, .checkcast 519, .aload 0, .checkcast 512, .iload 1, .iaload, .invokeinterface 9 2, .ireturn] ls st m := by
  rw [s_j, s_g_eq, g_l73]; rfl
/-- T.putSeated -/
theorem g_l74 (l : Nat) : g_P 74 l = (g_c74.lookup l).getD [] := rfl
theorem v_74 {X : e_X} {d : Nat} (a0 : Nat) (a1 : Int32) (a2 : Int32) {m : e_M} : s_S X (d + 1) 74 [.ref a0, .int a1, .int a2] m = s_j X d 74 0 [.ref a0, .int a1, .int a2, .retAddr 0] [] m := rfl
theorem u_74_0 {X : e_X} {d : Nat} {ls st : List Value} {m : e_M} : s_j X d 74 0 ls st m = s_x X d 74 [.aload 0, .getfield 522, .iload 1, .ishr, .sipush 1, .iand, .istore 3, .aload 0, .iload 2, .ifCond .eq 25, .aload 0, .getfield 522, .sipush 1, .iload 1, .ishl, .ior, .goto 35] ls st m := by
  rw [s_j, s_g_eq, g_l74]; rfl
theorem u_74_25 {X : e_X} {d : Nat} {ls st : List Value} {m : e_M} : s_j X d 74 25 ls st m = s_x X d 74 [.aload 0, .getfield 522, .sipush 1, .iload 1, .ishl, .sipush (-1), .ixor, .iand, .jsr 35] ls st m := by
  rw [s_j, s_g_eq, g_l74]; rfl
theorem u_74_35 {X : e_X} {d : Nat} {ls st : List Value} {m : e_M} : s_j X d 74 35 ls st m = s_x X d 74 [.putfield 522, .iload 3, .ireturn] ls st m := by
  rw [s_j, s_g_eq, g_l74]; rfl
/-- T.beginAnew -/
theorem g_l75 (l : Nat) : g_P 75 l = (g_c75.lookup l).getD [] := rfl
theorem v_75 {X : e_X} {d : Nat} (a0 : Nat) {m : e_M} : s_S X (d + 1) 75 [.ref a0] m = s_j X d 75 0 [.ref a0] [] m := rfl
theorem u_75_0 {X : e_X} {d : Nat} {ls st : List Value} {m : e_M} : s_j X d 75 0 ls st m = s_x X d 75 [.aload 0, .sipush 0, .putfield 523, .aload 0, .sipush 0, .putfield 525, .aload 0, .sipush 5, .putfield 526, .aload 0, .sipush 0, .putfield 527, .aload 0, .sipush 0, .putfield 522, .return_] ls st m := by
  rw [s_j, s_g_eq, g_l75]; rfl
/-- T.isOver -/
theorem g_l76 (l : Nat) : g_P 76 l = (g_c76.lookup l).getD [] := rfl
theorem v_76 {X : e_X} {d : Nat} (a0 : Nat) {m : e_M} : s_S X (d + 1) 76 [.ref a0] m = s_j X d 76 0 [.ref a0] [] m := rfl
theorem u_76_0 {X : e_X} {d : Nat} {ls st : List Value} {m : e_M} : s_j X d 76 0 ls st m = s_x X d 76 [.aload 0, .getfield 523, .aload 0, .getfield 524, .if_icmp .lt 15, .sipush 1, .goto 16] ls st m := by
  rw [s_j, s_g_eq, g_l76]; rfl
theorem u_76_15 {X : e_X} {d : Nat} {ls st : List Value} {m : e_M} : s_j X d 76 15 ls st m = s_x X d 76 [.sipush 0, .jsr 16] ls st m := by
  rw [s_j, s_g_eq, g_l76]; rfl
theorem u_76_16 {X : e_X} {d : Nat} {ls st : List Value} {m : e_M} : s_j X d 76 16 ls st m = s_x X d 76 [.ireturn] ls st m := by
  rw [s_j, s_g_eq, g_l76]; rfl
/-- T.newsIn -/
theorem g_l77 (l : Nat) : g_P 77 l = (g_c77.lookup l).getD [] := rfl
theorem v_77 {X : e_X} {d : Nat} (a0 : Nat) (a1 : Int32) {m : e_M} : s_S X (d + 1) 77 [.ref a0, .int a1] m = s_j X d 77 0 [.ref a0, .int a1] [] m := rfl
theorem u_77_0 {X : e_X} {d : Nat} {ls st : List Value} {m : e_M} : s_j X d 77 0 ls st m = s_x X d 77 [.iload 1, .sipush 0, .sipush 15, .invokeinterface 109 3, .ifCond .eq 14, .sipush 0, .goto 20] ls st m := by
  rw [s_j, s_g_eq, g_l77]; rfl
theorem u_77_14 {X : e_X} {d : Nat} {ls st : List Value} {m : e_M} : s_j X d 77 14 ls st m = s_x X d 77 [.aload 0, .checkcast 518, .iload 1, .iaload, .jsr 20] ls st m := by
  rw [s_j, s_g_eq, g_l77]; rfl
theorem u_77_20 {X : e_X} {d : Nat} {ls st : List Value} {m : e_M} : s_j X d 77 20 ls st m = s_x X d 77 [.ireturn] ls st m := by
  rw [s_j, s_g_eq, g_l77]; rfl
/-- T.passAndScore -/
theorem g_l78 (l : Nat) : g_P 78 l = (g_c78.lookup l).getD [] := rfl
theorem v_78 {X : e_X} {d : Nat} (a0 : Nat) (a1 : Int32) {m : e_M} : s_S X (d + 1) 78 [.ref a0, .int a1] m = s_j X d 78 0 [.ref a0, .int a1, .retAddr 0] [] m := rfl
theorem u_78_0 {X : e_X} {d : Nat} {ls st : List Value} {m : e_M} : s_j X d 78 0 ls st m = s_x X d 78 [.aload 0, .iload 1, .invokeinterface 79 2, .istore 2, .aload 0, .dup, .getfield 525, .iload 2, .iadd, .putfield 525, .iload 2, .ireturn] ls st m := by
  rw [s_j, s_g_eq, g_l78]; rfl
/-- T.passYear -/
theorem g_l79 (l : Nat) : g_P 79 l = (g_c79.lookup l).getD [] := rfl
theorem v_79 {X : e_X} {d : Nat} (a0 : Nat) (a1 : Int32) {m : e_M} : s_S X (d + 1) 79 [.ref a0, .int a1] m = s_j X d 79 0 [.ref a0, .int a1, .retAddr 0, .retAddr 0, .retAddr 0, .retAddr 0] [] m := rfl
theorem u_79_0 {X : e_X} {d : Nat} {ls st : List Value} {m : e_M} : s_j X d 79 0 ls st m = s_x X d 79 [.aload 0, .aload 0, .aload 0, .getfield 523, .invokeinterface 77 2, .aload 0, .getfield 526, .invokeinterface 126 2, .putfield 526, .iload 1, .sipush (-1), .if_icmp .ne 31, .aload 0, .invokeinterface 80 1, .goto 34] ls st m := by
  rw [s_j, s_g_eq, g_l79]; rfl
theorem u_79_31 {X : e_X} {d : Nat} {ls st : List Value} {m : e_M} : s_j X d 79 31 ls st m = s_x X d 79 [.iload 1, .sipush 1, .isub, .jsr 34] ls st m := by
  rw [s_j, s_g_eq, g_l79]; rfl
theorem u_79_34 {X : e_X} {d : Nat} {ls st : List Value} {m : e_M} : s_j X d 79 34 ls st m = s_x X d 79 [.istore 2, .aload 0, .iload 2, .invokeinterface 69 2, .ifCond .eq 51, .aload 0, .iload 2, .invokeinterface 73 2, .goto 52] ls st m := by
  rw [s_j, s_g_eq, g_l79]; rfl
theorem u_79_51 {X : e_X} {d : Nat} {ls st : List Value} {m : e_M} : s_j X d 79 51 ls st m = s_x X d 79 [.sipush 1, .jsr 52] ls st m := by
  rw [s_j, s_g_eq, g_l79]; rfl
theorem u_79_52 {X : e_X} {d : Nat} {ls st : List Value} {m : e_M} : s_j X d 79 52 ls st m = s_x X d 79 [.istore 3, .sipush 0, .istore 4, .iload 3, .ifCond .ne 70, .aload 0, .iload 2, .invokeinterface 81 2, .istore 4, .goto 80] ls st m := by
  rw [s_j, s_g_eq, g_l79]; rfl
theorem u_79_70 {X : e_X} {d : Nat} {ls st : List Value} {m : e_M} : s_j X d 79 70 ls st m = s_x X d 79 [.iload 3, .sipush 2, .if_icmp .ne 80, .aload 0, .iload 2, .invokeinterface 82 2, .jsr 80] ls st m := by
  rw [s_j, s_g_eq, g_l79]; rfl
theorem u_79_80 {X : e_X} {d : Nat} {ls st : List Value} {m : e_M} : s_j X d 79 80 ls st m = s_x X d 79 [.aload 0, .aload 0, .getfield 522, .invokeinterface 83 2, .aload 0, .getfield 527, .aload 0, .getfield 526, .invokeinterface 128 3, .istore 5, .aload 0, .dup, .getfield 527, .iload 5, .iadd, .putfield 527, .aload 0, .dup, .getfield 523, .sipush 1, .iadd, .putfield 523, .iload 4, .sipush 2, .iload 5, .imul, .iadd, .ireturn] ls st m := by
  rw [s_j, s_g_eq, g_l79]; rfl
/-- T.leastWilling -/
theorem g_l80 (l : Nat) : g_P 80 l = (g_c80.lookup l).getD [] := rfl
theorem v_80 {X : e_X} {d : Nat} (a0 : Nat) {m : e_M} : s_S X (d + 1) 80 [.ref a0] m = s_j X d 80 0 [.ref a0, .retAddr 0] [] m := rfl
theorem u_80_0 {X : e_X} {d : Nat} {ls st : List Value} {m : e_M} : s_j X d 80 0 ls st m = s_x X d 80 [.sipush 0, .istore 1, .jsr 2] ls st m := by
  rw [s_j, s_g_eq, g_l80]; rfl
theorem u_80_2 {X : e_X} {d : Nat} {ls st : List Value} {m : e_M} : s_j X d 80 2 ls st m = s_x X d 80 [.iload 1, .aload 0, .getfield 521, .if_icmp .ge 26, .aload 0, .iload 1, .invokeinterface 72 2, .ifCond .eq 20, .iload 1, .ireturn] ls st m := by
  rw [s_j, s_g_eq, g_l80]; rfl
theorem u_80_20 {X : e_X} {d : Nat} {ls st : List Value} {m : e_M} : s_j X d 80 20 ls st m = s_x X d 80 [.iinc 1 1, .goto 2] ls st m := by
  rw [s_j, s_g_eq, g_l80]; rfl
theorem u_80_26 {X : e_X} {d : Nat} {ls st : List Value} {m : e_M} : s_j X d 80 26 ls st m = s_x X d 80 [.sipush (-3), .ireturn] ls st m := by
  rw [s_j, s_g_eq, g_l80]; rfl
/-- T.sitDown -/
theorem g_l81 (l : Nat) : g_P 81 l = (g_c81.lookup l).getD [] := rfl
theorem v_81 {X : e_X} {d : Nat} (a0 : Nat) (a1 : Int32) {m : e_M} : s_S X (d + 1) 81 [.ref a0, .int a1] m = s_j X d 81 0 [.ref a0, .int a1] [] m := rfl
theorem u_81_0 {X : e_X} {d : Nat} {ls st : List Value} {m : e_M} : s_j X d 81 0 ls st m = s_x X d 81 [.aload 0, .iload 1, .invokeinterface 70 2, .ifCond .eq 10, .sipush 0, .ireturn] ls st m := by
  rw [s_j, s_g_eq, g_l81]; rfl
theorem u_81_10 {X : e_X} {d : Nat} {ls st : List Value} {m : e_M} : s_j X d 81 10 ls st m = s_x X d 81 [.aload 0, .iload 1, .invokeinterface 72 2, .ifCond .ne 34, .aload 0, .sipush 0, .aload 0, .getfield 526, .sipush 1, .isub, .dadd, .putfield 526, .sipush 0, .ireturn] ls st m := by
  rw [s_j, s_g_eq, g_l81]; rfl
theorem u_81_34 {X : e_X} {d : Nat} {ls st : List Value} {m : e_M} : s_j X d 81 34 ls st m = s_x X d 81 [.aload 0, .sipush 0, .aload 0, .getfield 526, .aload 0, .iload 1, .invokeinterface 71 2, .sipush 3, .idiv, .isub, .dadd, .putfield 526, .aload 0, .iload 1, .sipush 1, .invokeinterface 74 3, .pop, .sipush 1, .ireturn] ls st m := by
  rw [s_j, s_g_eq, g_l81]; rfl
/-- T.getUp -/
theorem g_l82 (l : Nat) : g_P 82 l = (g_c82.lookup l).getD [] := rfl
theorem v_82 {X : e_X} {d : Nat} (a0 : Nat) (a1 : Int32) {m : e_M} : s_S X (d + 1) 82 [.ref a0, .int a1] m = s_j X d 82 0 [.ref a0, .int a1] [] m := rfl
theorem u_82_0 {X : e_X} {d : Nat} {ls st : List Value} {m : e_M} : s_j X d 82 0 ls st m = s_x X d 82 [.aload 0, .iload 1, .invokeinterface 70 2, .ifCond .ne 9, .return_] ls st m := by
  rw [s_j, s_g_eq, g_l82]; rfl
theorem u_82_9 {X : e_X} {d : Nat} {ls st : List Value} {m : e_M} : s_j X d 82 9 ls st m = s_x X d 82 [.aload 0, .iload 1, .sipush 0, .invokeinterface 74 3, .pop, .aload 0, .sipush 9, .aload 0, .getfield 526, .sipush 1, .iadd, .dsub, .putfield 526, .return_] ls st m := by
  rw [s_j, s_g_eq, g_l82]; rfl
/-- T.placesSpanned -/
theorem g_l83 (l : Nat) : g_P 83 l = (g_c83.lookup l).getD [] := rfl
theorem v_83 {X : e_X} {d : Nat} (a0 : Nat) (a1 : Int32) {m : e_M} : s_S X (d + 1) 83 [.ref a0, .int a1] m = s_j X d 83 0 [.ref a0, .int a1, .retAddr 0, .retAddr 0, .retAddr 0] [] m := rfl
theorem u_83_0 {X : e_X} {d : Nat} {ls st : List Value} {m : e_M} : s_j X d 83 0 ls st m = s_x X d 83 [.goto_w 0, .lstore 2, .sipush 0, .istore 4, .jsr 5] ls st m := by
  rw [s_j, s_g_eq, g_l83]; rfl
theorem u_83_5 {X : e_X} {d : Nat} {ls st : List Value} {m : e_M} : s_j X d 83 5 ls st m = s_x X d 83 [.iload 4, .aload 0, .getfield 521, .if_icmp .ge 64, .iload 1, .iload 4, .ishr, .sipush 1, .iand, .sipush 1, .if_icmp .ne 58, .lload 2, .aload 0, .checkcast 513, .iload 4, .iaload, .aload 0, .checkcast 512, .iload 4, .iaload, .aload 0, .checkcast 514, .iload 4, .iaload, .aload 0, .getfield 523, .invokeinterface 111 3, .invokeinterface 127 2, .lor, .lstore 2, .jsr 58] ls st m := by
  rw [s_j, s_g_eq, g_l83]; rfl
theorem u_83_58 {X : e_X} {d : Nat} {ls st : List Value} {m : e_M} : s_j X d 83 58 ls st m = s_x X d 83 [.iinc 4 1, .goto 5] ls st m := by
  rw [s_j, s_g_eq, g_l83]; rfl
theorem u_83_64 {X : e_X} {d : Nat} {ls st : List Value} {m : e_M} : s_j X d 83 64 ls st m = s_x X d 83 [.lload 2, .lreturn] ls st m := by
  rw [s_j, s_g_eq, g_l83]; rfl
/-- T.restWorth -/
theorem g_l84 (l : Nat) : g_P 84 l = (g_c84.lookup l).getD [] := rfl
theorem v_84 {X : e_X} {d : Nat} (a0 : Nat) (a1 : Int32) {m : e_M} : s_S X (d + 1) 84 [.ref a0, .int a1] m = s_j X d 84 0 [.ref a0, .int a1, .retAddr 0, .retAddr 0, .retAddr 0, .retAddr 0] [] m := rfl
theorem u_84_0 {X : e_X} {d : Nat} {ls st : List Value} {m : e_M} : s_j X d 84 0 ls st m = s_x X d 84 [.aload 0, .invokeinterface 85 1, .istore 2, .aload 0, .iload 1, .invokeinterface 86 2, .istore 3, .sipush 0, .istore 4, .sipush 0, .istore 5, .jsr 17] ls st m := by
  rw [s_j, s_g_eq, g_l84]; rfl
theorem u_84_17 {X : e_X} {d : Nat} {ls st : List Value} {m : e_M} : s_j X d 84 17 ls st m = s_x X d 84 [.iload 5, .iload 3, .if_icmp .ge 39, .iload 4, .aload 0, .sipush (-1), .invokeinterface 79 2, .iadd, .istore 4, .iinc 5 1, .goto 17] ls st m := by
  rw [s_j, s_g_eq, g_l84]; rfl
theorem u_84_39 {X : e_X} {d : Nat} {ls st : List Value} {m : e_M} : s_j X d 84 39 ls st m = s_x X d 84 [.aload 0, .iload 2, .invokeinterface 87 2, .iload 4, .ireturn] ls st m := by
  rw [s_j, s_g_eq, g_l84]; rfl
/-- T.moment -/
theorem g_l85 (l : Nat) : g_P 85 l = (g_c85.lookup l).getD [] := rfl
theorem v_85 {X : e_X} {d : Nat} (a0 : Nat) {m : e_M} : s_S X (d + 1) 85 [.ref a0] m = s_j X d 85 0 [.ref a0] [] m := rfl
theorem u_85_0 {X : e_X} {d : Nat} {ls st : List Value} {m : e_M} : s_j X d 85 0 ls st m = s_x X d 85 [.aload 0, .getfield 523, .aload 0, .getfield 526, .sipush 5, .ishl, .ior, .aload 0, .getfield 527, .sipush 9, .ishl, .ior, .aload 0, .getfield 522, .sipush 15, .ishl, .ior, .ireturn] ls st m := by
  rw [s_j, s_g_eq, g_l85]; rfl
/-- T.yearsYet -/
theorem g_l86 (l : Nat) : g_P 86 l = (g_c86.lookup l).getD [] := rfl
theorem v_86 {X : e_X} {d : Nat} (a0 : Nat) (a1 : Int32) {m : e_M} : s_S X (d + 1) 86 [.ref a0, .int a1] m = s_j X d 86 0 [.ref a0, .int a1] [] m := rfl
theorem u_86_0 {X : e_X} {d : Nat} {ls st : List Value} {m : e_M} : s_j X d 86 0 ls st m = s_x X d 86 [.sipush 0, .iload 1, .aload 0, .getfield 524, .aload 0, .getfield 523, .isub, .dsub, .dadd, .ireturn] ls st m := by
  rw [s_j, s_g_eq, g_l86]; rfl
/-- T.backTo -/
theorem g_l87 (l : Nat) : g_P 87 l = (g_c87.lookup l).getD [] := rfl
theorem v_87 {X : e_X} {d : Nat} (a0 : Nat) (a1 : Int32) {m : e_M} : s_S X (d + 1) 87 [.ref a0, .int a1] m = s_j X d 87 0 [.ref a0, .int a1] [] m := rfl
theorem u_87_0 {X : e_X} {d : Nat} {ls st : List Value} {m : e_M} : s_j X d 87 0 ls st m = s_x X d 87 [.aload 0, .iload 1, .sipush 31, .iand, .putfield 523, .aload 0, .iload 1, .sipush 5, .ishr, .sipush 15, .iand, .putfield 526, .aload 0, .iload 1, .sipush 9, .ishr, .sipush 63, .iand, .putfield 527, .aload 0, .iload 1, .sipush 15, .ishr, .sipush 63, .iand, .putfield 522, .return_] ls st m := by
  rw [s_j, s_g_eq, g_l87]; rfl
/-- T.restUntil -/
theorem g_l88 (l : Nat) : g_P 88 l = (g_c88.lookup l).getD [] := rfl
theorem v_88 {X : e_X} {d : Nat} (a0 : Nat) (a1 : Int32) (a2 : Int32) {m : e_M} : s_S X (d + 1) 88 [.ref a0, .int a1, .int a2] m = s_j X d 88 0 [.ref a0, .int a1, .int a2, .retAddr 0, .retAddr 0, .retAddr 0, .retAddr 0] [] m := rfl
theorem u_88_0 {X : e_X} {d : Nat} {ls st : List Value} {m : e_M} : s_j X d 88 0 ls st m = s_x X d 88 [.aload 0, .invokeinterface 85 1, .istore 3, .aload 0, .sipush 16, .invokeinterface 86 2, .istore 4, .sipush (-3), .istore 5, .sipush 0, .istore 6, .jsr 20] ls st m := by
  rw [s_j, s_g_eq, g_l88]; rfl
theorem u_88_20 {X : e_X} {d : Nat} {ls st : List Value} {m : e_M} : s_j X d 88 20 ls st m = s_x X d 88 [.iload 6, .iload 4, .if_icmp .ge 72, .iload 5, .sipush (-3), .if_icmp .ne 72, .aload 0, .sipush (-1), .invokeinterface 79 2, .pop, .aload 0, .getfield 522, .iload 1, .iand, .iload 1, .if_icmp .ne 66, .aload 0, .getfield 527, .iload 2, .if_icmp .lt 66, .aload 0, .getfield 523, .sipush 1, .isub, .istore 5, .jsr 66] ls st m := by
  rw [s_j, s_g_eq, g_l88]; rfl
theorem u_88_66 {X : e_X} {d : Nat} {ls st : List Value} {m : e_M} : s_j X d 88 66 ls st m = s_x X d 88 [.iinc 6 1, .goto 20] ls st m := by
  rw [s_j, s_g_eq, g_l88]; rfl
theorem u_88_72 {X : e_X} {d : Nat} {ls st : List Value} {m : e_M} : s_j X d 88 72 ls st m = s_x X d 88 [.aload 0, .iload 3, .invokeinterface 87 2, .iload 5, .ireturn] ls st m := by
  rw [s_j, s_g_eq, g_l88]; rfl
/-- T.bestValue -/
theorem g_l89 (l : Nat) : g_P 89 l = (g_c89.lookup l).getD [] := rfl
theorem v_89 {X : e_X} {d : Nat} (a0 : Nat) (a1 : Nat) (a2 : Int32) (a3 : Int32) {m : e_M} : s_S X (d + 1) 89 [.ref a0, .ref a1, .int a2, .int a3] m = s_j X d 89 0 [.ref a0, .ref a1, .int a2, .int a3, .retAddr 0, .retAddr 0, .retAddr 0, .retAddr 0, .retAddr 0] [] m := rfl
theorem u_89_0 {X : e_X} {d : Nat} {ls st : List Value} {m : e_M} : s_j X d 89 0 ls st m = s_x X d 89 [.aload 1, .iload 2, .iaload, .istore 4, .sipush 0, .istore 5, .sipush (-1), .istore 6, .sipush 0, .istore 7, .jsr 14] ls st m := by
  rw [s_j, s_g_eq, g_l89]; rfl
theorem u_89_14 {X : e_X} {d : Nat} {ls st : List Value} {m : e_M} : s_j X d 89 14 ls st m = s_x X d 89 [.iload 7, .iload 3, .if_icmp .gt 54, .aload 1, .iload 2, .iload 7, .iastore, .aload 0, .sipush 16, .invokeinterface 84 2, .istore 8, .iload 8, .iload 6, .if_icmp .le 48, .iload 8, .istore 6, .iload 7, .istore 5, .jsr 48] ls st m := by
  rw [s_j, s_g_eq, g_l89]; rfl
theorem u_89_48 {X : e_X} {d : Nat} {ls st : List Value} {m : e_M} : s_j X d 89 48 ls st m = s_x X d 89 [.iinc 7 1, .goto 14] ls st m := by
  rw [s_j, s_g_eq, g_l89]; rfl
theorem u_89_54 {X : e_X} {d : Nat} {ls st : List Value} {m : e_M} : s_j X d 89 54 ls st m = s_x X d 89 [.aload 1, .iload 2, .iload 4, .iastore, .iload 5, .ireturn] ls st m := by
  rw [s_j, s_g_eq, g_l89]; rfl
/-- T.firstUnspanned -/
theorem g_l90 (l : Nat) : g_P 90 l = (g_c90.lookup l).getD [] := rfl
theorem v_90 {X : e_X} {d : Nat} (a0 : Nat) {m : e_M} : s_S X (d + 1) 90 [.ref a0] m = s_j X d 90 0 [.ref a0, .retAddr 0, .retAddr 0, .retAddr 0] [] m := rfl
theorem u_90_0 {X : e_X} {d : Nat} {ls st : List Value} {m : e_M} : s_j X d 90 0 ls st m = s_x X d 90 [.aload 0, .aload 0, .invokeinterface 91 1, .invokeinterface 83 2, .lstore 1, .aload 0, .getfield 527, .istore 3, .jsr 14] ls st m := by
  rw [s_j, s_g_eq, g_l90]; rfl
theorem u_90_14 {X : e_X} {d : Nat} {ls st : List Value} {m : e_M} : s_j X d 90 14 ls st m = s_x X d 90 [.iload 3, .sipush 39, .if_icmp .gt 38, .lload 1, .iload 3, .lushr, .goto_w 1, .land, .goto_w 0, .lcmp, .ifCond .ne 32, .iload 3, .ireturn] ls st m := by
  rw [s_j, s_g_eq, g_l90]; rfl
theorem u_90_32 {X : e_X} {d : Nat} {ls st : List Value} {m : e_M} : s_j X d 90 32 ls st m = s_x X d 90 [.iinc 3 1, .goto 14] ls st m := by
  rw [s_j, s_g_eq, g_l90]; rfl
theorem u_90_38 {X : e_X} {d : Nat} {ls st : List Value} {m : e_M} : s_j X d 90 38 ls st m = s_x X d 90 [.sipush (-3), .ireturn] ls st m := by
  rw [s_j, s_g_eq, g_l90]; rfl
/-- T.allPieces -/
theorem g_l91 (l : Nat) : g_P 91 l = (g_c91.lookup l).getD [] := rfl
theorem v_91 {X : e_X} {d : Nat} (a0 : Nat) {m : e_M} : s_S X (d + 1) 91 [.ref a0] m = s_j X d 91 0 [.ref a0] [] m := rfl
theorem u_91_0 {X : e_X} {d : Nat} {ls st : List Value} {m : e_M} : s_j X d 91 0 ls st m = s_x X d 91 [.sipush 1, .aload 0, .getfield 521, .ishl, .sipush 1, .isub, .ireturn] ls st m := by
  rw [s_j, s_g_eq, g_l91]; rfl
/-- T.countNotThere -/
theorem g_l92 (l : Nat) : g_P 92 l = (g_c92.lookup l).getD [] := rfl
theorem v_92 {X : e_X} {d : Nat} (a0 : Nat) {m : e_M} : s_S X (d + 1) 92 [.ref a0] m = s_j X d 92 0 [.ref a0, .retAddr 0, .retAddr 0, .retAddr 0, .retAddr 0] [] m := rfl
theorem u_92_0 {X : e_X} {d : Nat} {ls st : List Value} {m : e_M} : s_j X d 92 0 ls st m = s_x X d 92 [.aload 0, .aload 0, .getfield 522, .invokeinterface 83 2, .lstore 1, .sipush 0, .istore 3, .sipush 0, .istore 4, .jsr 14] ls st m := by
  rw [s_j, s_g_eq, g_l92]; rfl
theorem u_92_14 {X : e_X} {d : Nat} {ls st : List Value} {m : e_M} : s_j X d 92 14 ls st m = s_x X d 92 [.iload 4, .sipush 39, .if_icmp .gt 41, .lload 1, .iload 4, .lushr, .goto_w 1, .land, .goto_w 0, .lcmp, .ifCond .ne 35, .iinc 3 1, .jsr 35] ls st m := by
  rw [s_j, s_g_eq, g_l92]; rfl
theorem u_92_35 {X : e_X} {d : Nat} {ls st : List Value} {m : e_M} : s_j X d 92 35 ls st m = s_x X d 92 [.iinc 4 1, .goto 14] ls st m := by
  rw [s_j, s_g_eq, g_l92]; rfl
theorem u_92_41 {X : e_X} {d : Nat} {ls st : List Value} {m : e_M} : s_j X d 92 41 ls st m = s_x X d 92 [.iload 3, .ireturn] ls st m := by
  rw [s_j, s_g_eq, g_l92]; rfl
/-- T.countBranches -/
theorem g_l93 (l : Nat) : g_P 93 l = (g_c93.lookup l).getD [] := rfl
theorem v_93 {X : e_X} {d : Nat} (a0 : Nat) {m : e_M} : s_S X (d + 1) 93 [.ref a0] m = s_j X d 93 0 [.ref a0, .retAddr 0, .retAddr 0] [] m := rfl
theorem u_93_0 {X : e_X} {d : Nat} {ls st : List Value} {m : e_M} : s_j X d 93 0 ls st m = s_x X d 93 [.sipush 0, .istore 1, .sipush 0, .istore 2, .jsr 4] ls st m := by
  rw [s_j, s_g_eq, g_l93]; rfl
theorem u_93_4 {X : e_X} {d : Nat} {ls st : List Value} {m : e_M} : s_j X d 93 4 ls st m = s_x X d 93 [.iload 2, .aload 0, .getfield 521, .if_icmp .ge 33, .aload 0, .iload 2, .invokeinterface 94 2, .invokeinterface 136 1, .iload 2, .if_icmp .ne 27, .iinc 1 1, .jsr 27] ls st m := by
  rw [s_j, s_g_eq, g_l93]; rfl
theorem u_93_27 {X : e_X} {d : Nat} {ls st : List Value} {m : e_M} : s_j X d 93 27 ls st m = s_x X d 93 [.iinc 2 1, .goto 4] ls st m := by
  rw [s_j, s_g_eq, g_l93]; rfl
theorem u_93_33 {X : e_X} {d : Nat} {ls st : List Value} {m : e_M} : s_j X d 93 33 ls st m = s_x X d 93 [.iload 1, .ireturn] ls st m := by
  rw [s_j, s_g_eq, g_l93]; rfl
/-- T.branchOf -/
theorem g_l94 (l : Nat) : g_P 94 l = (g_c94.lookup l).getD [] := rfl
theorem v_94 {X : e_X} {d : Nat} (a0 : Nat) (a1 : Int32) {m : e_M} : s_S X (d + 1) 94 [.ref a0, .int a1] m = s_j X d 94 0 [.ref a0, .int a1, .retAddr 0, .retAddr 0] [] m := rfl
theorem u_94_0 {X : e_X} {d : Nat} {ls st : List Value} {m : e_M} : s_j X d 94 0 ls st m = s_x X d 94 [.aload 0, .iload 1, .invokeinterface 70 2, .ifCond .eq 10, .sipush 0, .ireturn] ls st m := by
  rw [s_j, s_g_eq, g_l94]; rfl
theorem u_94_10 {X : e_X} {d : Nat} {ls st : List Value} {m : e_M} : s_j X d 94 10 ls st m = s_x X d 94 [.sipush 1, .iload 1, .ishl, .istore 2, .sipush 0, .istore 3, .jsr 16] ls st m := by
  rw [s_j, s_g_eq, g_l94]; rfl
theorem u_94_16 {X : e_X} {d : Nat} {ls st : List Value} {m : e_M} : s_j X d 94 16 ls st m = s_x X d 94 [.iload 3, .sipush 6, .if_icmp .ge 36, .iload 2, .aload 0, .iload 2, .invokeinterface 95 2, .ior, .istore 2, .iinc 3 1, .goto 16] ls st m := by
  rw [s_j, s_g_eq, g_l94]; rfl
theorem u_94_36 {X : e_X} {d : Nat} {ls st : List Value} {m : e_M} : s_j X d 94 36 ls st m = s_x X d 94 [.iload 2, .ireturn] ls st m := by
  rw [s_j, s_g_eq, g_l94]; rfl
/-- T.closeTo -/
theorem g_l95 (l : Nat) : g_P 95 l = (g_c95.lookup l).getD [] := rfl
theorem v_95 {X : e_X} {d : Nat} (a0 : Nat) (a1 : Int32) {m : e_M} : s_S X (d + 1) 95 [.ref a0, .int a1] m = s_j X d 95 0 [.ref a0, .int a1, .retAddr 0, .retAddr 0, .retAddr 0] [] m := rfl
theorem u_95_0 {X : e_X} {d : Nat} {ls st : List Value} {m : e_M} : s_j X d 95 0 ls st m = s_x X d 95 [.sipush 0, .istore 2, .sipush 0, .istore 3, .jsr 4] ls st m := by
  rw [s_j, s_g_eq, g_l95]; rfl
theorem u_95_4 {X : e_X} {d : Nat} {ls st : List Value} {m : e_M} : s_j X d 95 4 ls st m = s_x X d 95 [.iload 3, .aload 0, .getfield 521, .if_icmp .ge 62, .sipush 0, .istore 4, .jsr 15] ls st m := by
  rw [s_j, s_g_eq, g_l95]; rfl
theorem u_95_15 {X : e_X} {d : Nat} {ls st : List Value} {m : e_M} : s_j X d 95 15 ls st m = s_x X d 95 [.iload 4, .aload 0, .getfield 521, .if_icmp .ge 56, .iload 1, .iload 4, .ishr, .sipush 1, .iand, .sipush 1, .if_icmp .ne 50, .aload 0, .iload 4, .iload 3, .invokeinterface 96 3, .ifCond .eq 50, .iload 2, .sipush 1, .iload 3, .ishl, .ior, .istore 2, .jsr 50] ls st m := by
  rw [s_j, s_g_eq, g_l95]; rfl
theorem u_95_50 {X : e_X} {d : Nat} {ls st : List Value} {m : e_M} : s_j X d 95 50 ls st m = s_x X d 95 [.iinc 4 1, .goto 15] ls st m := by
  rw [s_j, s_g_eq, g_l95]; rfl
theorem u_95_56 {X : e_X} {d : Nat} {ls st : List Value} {m : e_M} : s_j X d 95 56 ls st m = s_x X d 95 [.iinc 3 1, .goto 4] ls st m := by
  rw [s_j, s_g_eq, g_l95]; rfl
theorem u_95_62 {X : e_X} {d : Nat} {ls st : List Value} {m : e_M} : s_j X d 95 62 ls st m = s_x X d 95 [.iload 2, .ireturn] ls st m := by
  rw [s_j, s_g_eq, g_l95]; rfl
/-- T.areClose -/
theorem g_l96 (l : Nat) : g_P 96 l = (g_c96.lookup l).getD [] := rfl
theorem v_96 {X : e_X} {d : Nat} (a0 : Nat) (a1 : Int32) (a2 : Int32) {m : e_M} : s_S X (d + 1) 96 [.ref a0, .int a1, .int a2] m = s_j X d 96 0 [.ref a0, .int a1, .int a2] [] m := rfl
theorem u_96_0 {X : e_X} {d : Nat} {ls st : List Value} {m : e_M} : s_j X d 96 0 ls st m = s_x X d 96 [.aload 0, .iload 1, .invokeinterface 70 2, .ifCond .ne 16, .aload 0, .iload 2, .invokeinterface 70 2, .ifCond .eq 18, .jsr 16] ls st m := by
  rw [s_j, s_g_eq, g_l96]; rfl
theorem u_96_16 {X : e_X} {d : Nat} {ls st : List Value} {m : e_M} : s_j X d 96 16 ls st m = s_x X d 96 [.sipush 0, .ireturn] ls st m := by
  rw [s_j, s_g_eq, g_l96]; rfl
theorem u_96_18 {X : e_X} {d : Nat} {ls st : List Value} {m : e_M} : s_j X d 96 18 ls st m = s_x X d 96 [.aload 0, .checkcast 515, .iload 1, .iaload, .aload 0, .checkcast 515, .iload 2, .iaload, .if_icmp .eq 53, .aload 0, .checkcast 513, .iload 1, .iaload, .aload 0, .checkcast 513, .iload 2, .iaload, .isub, .dneg, .sipush 2, .if_icmp .gt 57, .jsr 53] ls st m := by
  rw [s_j, s_g_eq, g_l96]; rfl
theorem u_96_53 {X : e_X} {d : Nat} {ls st : List Value} {m : e_M} : s_j X d 96 53 ls st m = s_x X d 96 [.sipush 1, .goto 58] ls st m := by
  rw [s_j, s_g_eq, g_l96]; rfl
theorem u_96_57 {X : e_X} {d : Nat} {ls st : List Value} {m : e_M} : s_j X d 96 57 ls st m = s_x X d 96 [.sipush 0, .jsr 58] ls st m := by
  rw [s_j, s_g_eq, g_l96]; rfl
theorem u_96_58 {X : e_X} {d : Nat} {ls st : List Value} {m : e_M} : s_j X d 96 58 ls st m = s_x X d 96 [.ireturn] ls st m := by
  rw [s_j, s_g_eq, g_l96]; rfl
/-- T.wayOver -/
theorem g_l97 (l : Nat) : g_P 97 l = (g_c97.lookup l).getD [] := rfl
theorem v_97 {X : e_X} {d : Nat} (a0 : Nat) (a1 : Int32) (a2 : Int32) {m : e_M} : s_S X (d + 1) 97 [.ref a0, .int a1, .int a2] m = s_j X d 97 0 [.ref a0, .int a1, .int a2, .retAddr 0, .retAddr 0, .retAddr 0] [] m := rfl
theorem u_97_0 {X : e_X} {d : Nat} {ls st : List Value} {m : e_M} : s_j X d 97 0 ls st m = s_x X d 97 [.sipush 40, .istore 3, .sipush (-1), .istore 4, .sipush 0, .istore 5, .jsr 9] ls st m := by
  rw [s_j, s_g_eq, g_l97]; rfl
theorem u_97_9 {X : e_X} {d : Nat} {ls st : List Value} {m : e_M} : s_j X d 97 9 ls st m = s_x X d 97 [.iload 5, .aload 0, .getfield 521, .if_icmp .ge 60, .iload 2, .iload 5, .ishr, .sipush 1, .iand, .sipush 1, .if_icmp .ne 54, .iload 3, .aload 0, .checkcast 513, .iload 5, .iaload, .dsub, .istore 3, .iload 4, .aload 0, .checkcast 513, .iload 5, .iaload, .dadd, .istore 4, .jsr 54] ls st m := by
  rw [s_j, s_g_eq, g_l97]; rfl
theorem u_97_54 {X : e_X} {d : Nat} {ls st : List Value} {m : e_M} : s_j X d 97 54 ls st m = s_x X d 97 [.iinc 5 1, .goto 9] ls st m := by
  rw [s_j, s_g_eq, g_l97]; rfl
theorem u_97_60 {X : e_X} {d : Nat} {ls st : List Value} {m : e_M} : s_j X d 97 60 ls st m = s_x X d 97 [.iload 4, .ifCond .ge 67, .sipush 0, .ireturn] ls st m := by
  rw [s_j, s_g_eq, g_l97]; rfl
theorem u_97_67 {X : e_X} {d : Nat} {ls st : List Value} {m : e_M} : s_j X d 97 67 ls st m = s_x X d 97 [.iload 4, .iload 3, .isub, .iload 1, .iload 3, .isub, .dneg, .iload 1, .iload 4, .isub, .dneg, .dsub, .iadd, .ireturn] ls st m := by
  rw [s_j, s_g_eq, g_l97]; rfl
/-- T.firstFetched -/
theorem g_l98 (l : Nat) : g_P 98 l = (g_c98.lookup l).getD [] := rfl
theorem v_98 {X : e_X} {d : Nat} (a0 : Nat) (a1 : Int32) (a2 : Int32) {m : e_M} : s_S X (d + 1) 98 [.ref a0, .int a1, .int a2] m = s_j X d 98 0 [.ref a0, .int a1, .int a2, .retAddr 0, .retAddr 0, .retAddr 0] [] m := rfl
theorem u_98_0 {X : e_X} {d : Nat} {ls st : List Value} {m : e_M} : s_j X d 98 0 ls st m = s_x X d 98 [.aload 0, .iload 1, .iload 2, .invokeinterface 97 3, .istore 3, .sipush 0, .istore 4, .jsr 10] ls st m := by
  rw [s_j, s_g_eq, g_l98]; rfl
theorem u_98_10 {X : e_X} {d : Nat} {ls st : List Value} {m : e_M} : s_j X d 98 10 ls st m = s_x X d 98 [.iload 4, .aload 0, .getfield 521, .if_icmp .ge 78, .iload 2, .iload 4, .ishr, .sipush 1, .iand, .sipush 1, .if_icmp .ne 72, .iload 1, .aload 0, .checkcast 513, .iload 4, .iaload, .isub, .dneg, .aload 0, .aload 0, .checkcast 513, .iload 4, .iaload, .iload 2, .sipush 1, .iload 4, .ishl, .sipush (-1), .ixor, .iand, .invokeinterface 97 3, .iadd, .istore 5, .iload 5, .iload 3, .if_icmp .ne 72, .iload 4, .ireturn] ls st m := by
  rw [s_j, s_g_eq, g_l98]; rfl
theorem u_98_72 {X : e_X} {d : Nat} {ls st : List Value} {m : e_M} : s_j X d 98 72 ls st m = s_x X d 98 [.iinc 4 1, .goto 10] ls st m := by
  rw [s_j, s_g_eq, g_l98]; rfl
theorem u_98_78 {X : e_X} {d : Nat} {ls st : List Value} {m : e_M} : s_j X d 98 78 ls st m = s_x X d 98 [.sipush (-3), .ireturn] ls st m := by
  rw [s_j, s_g_eq, g_l98]; rfl
/-- T.countFitting -/
theorem g_l99 (l : Nat) : g_P 99 l = (g_c99.lookup l).getD [] := rfl
theorem v_99 {X : e_X} {d : Nat} (a0 : Nat) {m : e_M} : s_S X (d + 1) 99 [.ref a0] m = s_j X d 99 0 [.ref a0, .retAddr 0, .retAddr 0, .retAddr 0, .retAddr 0] [] m := rfl
theorem u_99_0 {X : e_X} {d : Nat} {ls st : List Value} {m : e_M} : s_j X d 99 0 ls st m = s_x X d 99 [.sipush 0, .istore 1, .sipush 1, .istore 2, .jsr 4] ls st m := by
  rw [s_j, s_g_eq, g_l99]; rfl
theorem u_99_4 {X : e_X} {d : Nat} {ls st : List Value} {m : e_M} : s_j X d 99 4 ls st m = s_x X d 99 [.iload 2, .sipush 5, .if_icmp .gt 59, .sipush 0, .istore 3, .jsr 11] ls st m := by
  rw [s_j, s_g_eq, g_l99]; rfl
theorem u_99_11 {X : e_X} {d : Nat} {ls st : List Value} {m : e_M} : s_j X d 99 11 ls st m = s_x X d 99 [.iload 3, .sipush 9, .if_icmp .gt 53, .sipush 0, .istore 4, .jsr 20] ls st m := by
  rw [s_j, s_g_eq, g_l99]; rfl
theorem u_99_20 {X : e_X} {d : Nat} {ls st : List Value} {m : e_M} : s_j X d 99 20 ls st m = s_x X d 99 [.iload 4, .sipush 9, .if_icmp .gt 47, .aload 0, .iload 2, .iload 3, .iload 4, .invokeinterface 100 4, .ifCond .ne 41, .iinc 1 1, .jsr 41] ls st m := by
  rw [s_j, s_g_eq, g_l99]; rfl
theorem u_99_41 {X : e_X} {d : Nat} {ls st : List Value} {m : e_M} : s_j X d 99 41 ls st m = s_x X d 99 [.iinc 4 1, .goto 20] ls st m := by
  rw [s_j, s_g_eq, g_l99]; rfl
theorem u_99_47 {X : e_X} {d : Nat} {ls st : List Value} {m : e_M} : s_j X d 99 47 ls st m = s_x X d 99 [.iinc 3 1, .goto 11] ls st m := by
  rw [s_j, s_g_eq, g_l99]; rfl
theorem u_99_53 {X : e_X} {d : Nat} {ls st : List Value} {m : e_M} : s_j X d 99 53 ls st m = s_x X d 99 [.iinc 2 1, .goto 4] ls st m := by
  rw [s_j, s_g_eq, g_l99]; rfl
theorem u_99_59 {X : e_X} {d : Nat} {ls st : List Value} {m : e_M} : s_j X d 99 59 ls st m = s_x X d 99 [.iload 1, .ireturn] ls st m := by
  rw [s_j, s_g_eq, g_l99]; rfl
/-- T.wrongBy -/
theorem g_l100 (l : Nat) : g_P 100 l = (g_c100.lookup l).getD [] := rfl
theorem v_100 {X : e_X} {d : Nat} (a0 : Nat) (a1 : Int32) (a2 : Int32) (a3 : Int32) {m : e_M} : s_S X (d + 1) 100 [.ref a0, .int a1, .int a2, .int a3] m = s_j X d 100 0 [.ref a0, .int a1, .int a2, .int a3, .retAddr 0, .retAddr 0, .retAddr 0, .retAddr 0, .retAddr 0] [] m := rfl
theorem u_100_0 {X : e_X} {d : Nat} {ls st : List Value} {m : e_M} : s_j X d 100 0 ls st m = s_x X d 100 [.aload 0, .checkcast 520, .invokeinterface 50 1, .istore 4, .iload 3, .istore 5, .sipush 0, .istore 6, .aload 0, .checkcast 520, .sipush 0, .iload 6, .iload 5, .invokeinterface 51 4, .istore 7, .sipush 0, .istore 8, .jsr 32] ls st m := by
  rw [s_j, s_g_eq, g_l100]; rfl
theorem u_100_32 {X : e_X} {d : Nat} {ls st : List Value} {m : e_M} : s_j X d 100 32 ls st m = s_x X d 100 [.iload 8, .iload 4, .if_icmp .ge 101, .aload 0, .iload 8, .invokeinterface 77 2, .iload 5, .invokeinterface 126 2, .istore 5, .iload 6, .sipush 0, .iload 1, .iload 2, .iload 8, .invokeinterface 111 3, .invokeinterface 127 2, .iload 6, .iload 5, .invokeinterface 128 3, .iadd, .istore 6, .iload 7, .aload 0, .checkcast 520, .iload 8, .sipush 1, .iadd, .iload 6, .iload 5, .invokeinterface 51 4, .ior, .istore 7, .iinc 8 1, .goto 32] ls st m := by
  rw [s_j, s_g_eq, g_l100]; rfl
theorem u_100_101 {X : e_X} {d : Nat} {ls st : List Value} {m : e_M} : s_j X d 100 101 ls st m = s_x X d 100 [.iload 7, .ireturn] ls st m := by
  rw [s_j, s_g_eq, g_l100]; rfl
/-- T.firstFitting -/
theorem g_l101 (l : Nat) : g_P 101 l = (g_c101.lookup l).getD [] := rfl
theorem v_101 {X : e_X} {d : Nat} (a0 : Nat) (a1 : Int32) {m : e_M} : s_S X (d + 1) 101 [.ref a0, .int a1] m = s_j X d 101 0 [.ref a0, .int a1, .retAddr 0, .retAddr 0, .retAddr 0] [] m := rfl
theorem u_101_0 {X : e_X} {d : Nat} {ls st : List Value} {m : e_M} : s_j X d 101 0 ls st m = s_x X d 101 [.sipush 1, .istore 2, .jsr 2] ls st m := by
  rw [s_j, s_g_eq, g_l101]; rfl
theorem u_101_2 {X : e_X} {d : Nat} {ls st : List Value} {m : e_M} : s_j X d 101 2 ls st m = s_x X d 101 [.iload 2, .sipush 5, .if_icmp .gt 75, .sipush 0, .istore 3, .jsr 9] ls st m := by
  rw [s_j, s_g_eq, g_l101]; rfl
theorem u_101_9 {X : e_X} {d : Nat} {ls st : List Value} {m : e_M} : s_j X d 101 9 ls st m = s_x X d 101 [.iload 3, .sipush 9, .if_icmp .gt 69, .sipush 0, .istore 4, .jsr 18] ls st m := by
  rw [s_j, s_g_eq, g_l101]; rfl
theorem u_101_18 {X : e_X} {d : Nat} {ls st : List Value} {m : e_M} : s_j X d 101 18 ls st m = s_x X d 101 [.iload 4, .sipush 9, .if_icmp .gt 63, .aload 0, .iload 2, .iload 3, .iload 4, .invokeinterface 100 4, .ifCond .ne 57, .iload 1, .sipush 1, .if_icmp .ne 45, .iload 2, .goto 56] ls st m := by
  rw [s_j, s_g_eq, g_l101]; rfl
theorem u_101_45 {X : e_X} {d : Nat} {ls st : List Value} {m : e_M} : s_j X d 101 45 ls st m = s_x X d 101 [.iload 1, .sipush 2, .if_icmp .ne 54, .iload 3, .goto 56] ls st m := by
  rw [s_j, s_g_eq, g_l101]; rfl
theorem u_101_54 {X : e_X} {d : Nat} {ls st : List Value} {m : e_M} : s_j X d 101 54 ls st m = s_x X d 101 [.iload 4, .jsr 56] ls st m := by
  rw [s_j, s_g_eq, g_l101]; rfl
theorem u_101_56 {X : e_X} {d : Nat} {ls st : List Value} {m : e_M} : s_j X d 101 56 ls st m = s_x X d 101 [.ireturn] ls st m := by
  rw [s_j, s_g_eq, g_l101]; rfl
theorem u_101_57 {X : e_X} {d : Nat} {ls st : List Value} {m : e_M} : s_j X d 101 57 ls st m = s_x X d 101 [.iinc 4 1, .goto 18] ls st m := by
  rw [s_j, s_g_eq, g_l101]; rfl
theorem u_101_63 {X : e_X} {d : Nat} {ls st : List Value} {m : e_M} : s_j X d 101 63 ls st m = s_x X d 101 [.iinc 3 1, .goto 9] ls st m := by
  rw [s_j, s_g_eq, g_l101]; rfl
theorem u_101_69 {X : e_X} {d : Nat} {ls st : List Value} {m : e_M} : s_j X d 101 69 ls st m = s_x X d 101 [.iinc 2 1, .goto 2] ls st m := by
  rw [s_j, s_g_eq, g_l101]; rfl
theorem u_101_75 {X : e_X} {d : Nat} {ls st : List Value} {m : e_M} : s_j X d 101 75 ls st m = s_x X d 101 [.sipush (-3), .ireturn] ls st m := by
  rw [s_j, s_g_eq, g_l101]; rfl
/-- T.leastLiar -/
theorem g_l102 (l : Nat) : g_P 102 l = (g_c102.lookup l).getD [] := rfl
theorem v_102 {X : e_X} {d : Nat} (a0 : Nat) {m : e_M} : s_S X (d + 1) 102 [.ref a0] m = s_j X d 102 0 [.ref a0, .retAddr 0, .retAddr 0, .retAddr 0, .retAddr 0, .retAddr 0] [] m := rfl
theorem u_102_0 {X : e_X} {d : Nat} {ls st : List Value} {m : e_M} : s_j X d 102 0 ls st m = s_x X d 102 [.sipush 0, .istore 1, .sipush 1, .istore 2, .jsr 4] ls st m := by
  rw [s_j, s_g_eq, g_l102]; rfl
theorem u_102_4 {X : e_X} {d : Nat} {ls st : List Value} {m : e_M} : s_j X d 102 4 ls st m = s_x X d 102 [.iload 2, .sipush 5, .if_icmp .gt 77, .sipush 0, .istore 3, .jsr 11] ls st m := by
  rw [s_j, s_g_eq, g_l102]; rfl
theorem u_102_11 {X : e_X} {d : Nat} {ls st : List Value} {m : e_M} : s_j X d 102 11 ls st m = s_x X d 102 [.iload 3, .sipush 9, .if_icmp .gt 71, .sipush 0, .istore 4, .jsr 20] ls st m := by
  rw [s_j, s_g_eq, g_l102]; rfl
theorem u_102_20 {X : e_X} {d : Nat} {ls st : List Value} {m : e_M} : s_j X d 102 20 ls st m = s_x X d 102 [.iload 4, .sipush 9, .if_icmp .gt 65, .aload 0, .iload 2, .iload 3, .iload 4, .invokeinterface 100 4, .istore 5, .iload 5, .ifCond .ne 45, .sipush (-3), .ireturn] ls st m := by
  rw [s_j, s_g_eq, g_l102]; rfl
theorem u_102_45 {X : e_X} {d : Nat} {ls st : List Value} {m : e_M} : s_j X d 102 45 ls st m = s_x X d 102 [.iload 5, .invokeinterface 300 1, .sipush 1, .if_icmp .ne 59, .iload 1, .iload 5, .ior, .istore 1, .jsr 59] ls st m := by
  rw [s_j, s_g_eq, g_l102]; rfl
theorem u_102_59 {X : e_X} {d : Nat} {ls st : List Value} {m : e_M} : s_j X d 102 59 ls st m = s_x X d 102 [.iinc 4 1, .goto 20] ls st m := by
  rw [s_j, s_g_eq, g_l102]; rfl
theorem u_102_65 {X : e_X} {d : Nat} {ls st : List Value} {m : e_M} : s_j X d 102 65 ls st m = s_x X d 102 [.iinc 3 1, .goto 11] ls st m := by
  rw [s_j, s_g_eq, g_l102]; rfl
theorem u_102_71 {X : e_X} {d : Nat} {ls st : List Value} {m : e_M} : s_j X d 102 71 ls st m = s_x X d 102 [.iinc 2 1, .goto 4] ls st m := by
  rw [s_j, s_g_eq, g_l102]; rfl
theorem u_102_77 {X : e_X} {d : Nat} {ls st : List Value} {m : e_M} : s_j X d 102 77 ls st m = s_x X d 102 [.iload 1, .invokeinterface 136 1, .ireturn] ls st m := by
  rw [s_j, s_g_eq, g_l102]; rfl
/-- T.drawLot -/
theorem g_l103 (l : Nat) : g_P 103 l = (g_c103.lookup l).getD [] := rfl
theorem v_103 {X : e_X} {d : Nat} (a0 : Nat) {m : e_M} : s_S X (d + 1) 103 [.ref a0] m = s_j X d 103 0 [.ref a0] [] m := rfl
theorem u_103_0 {X : e_X} {d : Nat} {ls st : List Value} {m : e_M} : s_j X d 103 0 ls st m = s_x X d 103 [.aload 0, .aload 0, .getfield 528, .sipush 1103515245, .imul, .sipush 12345, .iadd, .putfield 528, .aload 0, .getfield 528, .sipush 16, .iushr, .aload 0, .getfield 521, .sipush 1, .iadd, .irem, .ireturn] ls st m := by
  rw [s_j, s_g_eq, g_l103]; rfl
/-- T.worthByLot -/
theorem g_l104 (l : Nat) : g_P 104 l = (g_c104.lookup l).getD [] := rfl
theorem v_104 {X : e_X} {d : Nat} (a0 : Nat) {m : e_M} : s_S X (d + 1) 104 [.ref a0] m = s_j X d 104 0 [.ref a0, .retAddr 0, .retAddr 0, .retAddr 0, .retAddr 0] [] m := rfl
theorem u_104_0 {X : e_X} {d : Nat} {ls st : List Value} {m : e_M} : s_j X d 104 0 ls st m = s_x X d 104 [.aload 0, .invokeinterface 85 1, .istore 1, .aload 0, .sipush 16, .invokeinterface 86 2, .istore 2, .sipush 0, .istore 3, .sipush 0, .istore 4, .jsr 17] ls st m := by
  rw [s_j, s_g_eq, g_l104]; rfl
theorem u_104_17 {X : e_X} {d : Nat} {ls st : List Value} {m : e_M} : s_j X d 104 17 ls st m = s_x X d 104 [.iload 4, .iload 2, .if_icmp .ge 40, .iload 3, .aload 0, .aload 0, .invokeinterface 103 1, .invokeinterface 79 2, .iadd, .istore 3, .iinc 4 1, .goto 17] ls st m := by
  rw [s_j, s_g_eq, g_l104]; rfl
theorem u_104_40 {X : e_X} {d : Nat} {ls st : List Value} {m : e_M} : s_j X d 104 40 ls st m = s_x X d 104 [.aload 0, .iload 1, .invokeinterface 87 2, .iload 3, .ireturn] ls st m := by
  rw [s_j, s_g_eq, g_l104]; rfl
/-- T.isAct -/
theorem g_l105 (l : Nat) : g_P 105 l = (g_c105.lookup l).getD [] := rfl
theorem v_105 {X : e_X} {d : Nat} (a0 : Nat) (a1 : Int32) {m : e_M} : s_S X (d + 1) 105 [.ref a0, .int a1] m = s_j X d 105 0 [.ref a0, .int a1] [] m := rfl
theorem u_105_0 {X : e_X} {d : Nat} {ls st : List Value} {m : e_M} : s_j X d 105 0 ls st m = s_x X d 105 [.iload 1, .ifCond .lt 16, .iload 1, .aload 0, .getfield 521, .if_icmp .gt 16, .sipush 1, .goto 17] ls st m := by
  rw [s_j, s_g_eq, g_l105]; rfl
theorem u_105_16 {X : e_X} {d : Nat} {ls st : List Value} {m : e_M} : s_j X d 105 16 ls st m = s_x X d 105 [.sipush 0, .jsr 17] ls st m := by
  rw [s_j, s_g_eq, g_l105]; rfl
theorem u_105_17 {X : e_X} {d : Nat} {ls st : List Value} {m : e_M} : s_j X d 105 17 ls st m = s_x X d 105 [.ireturn] ls st m := by
  rw [s_j, s_g_eq, g_l105]; rfl
/-- T.copyFrom -/
theorem g_l106 (l : Nat) : g_P 106 l = (g_c106.lookup l).getD [] := rfl
theorem v_106 {X : e_X} {d : Nat} (a0 : Nat) (a1 : Nat) {m : e_M} : s_S X (d + 1) 106 [.ref a0, .ref a1] m = s_j X d 106 0 [.ref a0, .ref a1] [] m := rfl
theorem u_106_0 {X : e_X} {d : Nat} {ls st : List Value} {m : e_M} : s_j X d 106 0 ls st m = s_x X d 106 [.aload 1, .checkcast 512, .sipush 0, .aload 0, .checkcast 512, .sipush 0, .sipush 6, .dmul, .aload 1, .checkcast 513, .sipush 0, .aload 0, .checkcast 513, .sipush 0, .sipush 6, .dmul, .aload 1, .checkcast 514, .sipush 0, .aload 0, .checkcast 514, .sipush 0, .sipush 6, .dmul, .aload 1, .checkcast 515, .sipush 0, .aload 0, .checkcast 515, .sipush 0, .sipush 6, .dmul, .aload 1, .checkcast 516, .sipush 0, .aload 0, .checkcast 516, .sipush 0, .sipush 6, .dmul, .aload 1, .checkcast 517, .sipush 0, .aload 0, .checkcast 517, .sipush 0, .sipush 6, .dmul, .aload 1, .checkcast 518, .sipush 0, .aload 0, .checkcast 518, .sipush 0, .sipush 16, .dmul, .aload 0, .checkcast 519, .aload 1, .checkcast 519, .invokeinterface 16 2, .aload 0, .checkcast 520, .aload 1, .checkcast 520, .invokeinterface 52 2, .aload 0, .aload 1, .getfield 521, .putfield 521, .aload 0, .aload 1, .getfield 522, .putfield 522, .aload 0, .aload 1, .getfield 523, .putfield 523, .aload 0, .aload 1, .getfield 524, .putfield 524, .aload 0, .aload 1, .getfield 525, .putfield 525, .aload 0, .aload 1, .getfield 526, .putfield 526, .aload 0, .aload 1, .getfield 527, .putfield 527, .aload 0, .aload 1, .getfield 528, .putfield 528, .return_] ls st m := by
  rw [s_j, s_g_eq, g_l106]; rfl
/-- B.plate -/
theorem g_l108 (l : Nat) : g_P 108 l = (g_c108.lookup l).getD [] := rfl
theorem v_108 {X : e_X} {d : Nat} (a0 : Nat) (a1 : Int32) (a2 : Int32) (a3 : Int32) (a4 : Int32) {m : e_M} : s_S X (d + 1) 108 [.ref a0, .int a1, .int a2, .int a3, .int a4] m = s_j X d 108 0 [.ref a0, .int a1, .int a2, .int a3, .int a4] [] m := rfl
theorem u_108_0 {X : e_X} {d : Nat} {ls st : List Value} {m : e_M} : s_j X d 108 0 ls st m = s_x X d 108 [.iload 1, .sipush 1, .sipush 5, .invokeinterface 109 3, .ifCond .ne 19, .iload 2, .sipush 0, .sipush 39, .invokeinterface 109 3, .ifCond .eq 21, .jsr 19] ls st m := by
  rw [s_j, s_g_eq, g_l108]; rfl
theorem u_108_19 {X : e_X} {d : Nat} {ls st : List Value} {m : e_M} : s_j X d 108 19 ls st m = s_x X d 108 [.sipush (-1), .ireturn] ls st m := by
  rw [s_j, s_g_eq, g_l108]; rfl
theorem u_108_21 {X : e_X} {d : Nat} {ls st : List Value} {m : e_M} : s_j X d 108 21 ls st m = s_x X d 108 [.iload 3, .sipush 0, .sipush 9, .invokeinterface 109 3, .ifCond .ne 41, .iload 4, .sipush 0, .sipush 5, .invokeinterface 109 3, .ifCond .eq 43, .jsr 41] ls st m := by
  rw [s_j, s_g_eq, g_l108]; rfl
theorem u_108_41 {X : e_X} {d : Nat} {ls st : List Value} {m : e_M} : s_j X d 108 41 ls st m = s_x X d 108 [.sipush (-1), .ireturn] ls st m := by
  rw [s_j, s_g_eq, g_l108]; rfl
theorem u_108_43 {X : e_X} {d : Nat} {ls st : List Value} {m : e_M} : s_j X d 108 43 ls st m = s_x X d 108 [.aload 0, .checkcast 576, .getfield 521, .sipush 6, .if_icmp .lt 58, .sipush (-2), .ireturn] ls st m := by
  rw [s_j, s_g_eq, g_l108]; rfl
theorem u_108_58 {X : e_X} {d : Nat} {ls st : List Value} {m : e_M} : s_j X d 108 58 ls st m = s_x X d 108 [.aload 0, .checkcast 576, .iload 1, .iload 2, .iload 3, .iload 4, .invokeinterface 68 5, .ireturn] ls st m := by
  rw [s_j, s_g_eq, g_l108]; rfl
/-- B.isOutside -/
theorem g_l109 (l : Nat) : g_P 109 l = (g_c109.lookup l).getD [] := rfl
theorem v_109 {X : e_X} {d : Nat} (a0 : Int32) (a1 : Int32) (a2 : Int32) {m : e_M} : s_S X (d + 1) 109 [.int a0, .int a1, .int a2] m = s_j X d 109 0 [.int a0, .int a1, .int a2] [] m := rfl
theorem u_109_0 {X : e_X} {d : Nat} {ls st : List Value} {m : e_M} : s_j X d 109 0 ls st m = s_x X d 109 [.iload 0, .iload 1, .if_icmp .lt 10, .iload 0, .iload 2, .if_icmp .le 14, .jsr 10] ls st m := by
  rw [s_j, s_g_eq, g_l109]; rfl
theorem u_109_10 {X : e_X} {d : Nat} {ls st : List Value} {m : e_M} : s_j X d 109 10 ls st m = s_x X d 109 [.sipush 1, .goto 15] ls st m := by
  rw [s_j, s_g_eq, g_l109]; rfl
theorem u_109_14 {X : e_X} {d : Nat} {ls st : List Value} {m : e_M} : s_j X d 109 14 ls st m = s_x X d 109 [.sipush 0, .jsr 15] ls st m := by
  rw [s_j, s_g_eq, g_l109]; rfl
theorem u_109_15 {X : e_X} {d : Nat} {ls st : List Value} {m : e_M} : s_j X d 109 15 ls st m = s_x X d 109 [.ireturn] ls st m := by
  rw [s_j, s_g_eq, g_l109]; rfl
/-- B.plateOf -/
theorem g_l110 (l : Nat) : g_P 110 l = (g_c110.lookup l).getD [] := rfl
theorem v_110 {X : e_X} {d : Nat} (a0 : Nat) (a1 : Int32) (a2 : Int32) {m : e_M} : s_S X (d + 1) 110 [.ref a0, .int a1, .int a2] m = s_j X d 110 0 [.ref a0, .int a1, .int a2] [] m := rfl
theorem u_110_0 {X : e_X} {d : Nat} {ls st : List Value} {m : e_M} : s_j X d 110 0 ls st m = s_x X d 110 [.aload 0, .checkcast 576, .iload 1, .invokeinterface 69 2, .ifCond .ne 13, .sipush (-1), .ireturn] ls st m := by
  rw [s_j, s_g_eq, g_l110]; rfl
theorem u_110_13 {X : e_X} {d : Nat} {ls st : List Value} {m : e_M} : s_j X d 110 13 ls st m = s_x X d 110 [.iload 2, .lookupswitch 185 #[(0, 64), (1, 74), (2, 84), (3, 94), (4, 104), (5, 121), (6, 150), (7, 159), (8, 176)]] ls st m := by
  rw [s_j, s_g_eq, g_l110]; rfl
theorem u_110_64 {X : e_X} {d : Nat} {ls st : List Value} {m : e_M} : s_j X d 110 64 ls st m = s_x X d 110 [.aload 0, .checkcast 576, .checkcast 512, .iload 1, .iaload, .ireturn] ls st m := by
  rw [s_j, s_g_eq, g_l110]; rfl
theorem u_110_74 {X : e_X} {d : Nat} {ls st : List Value} {m : e_M} : s_j X d 110 74 ls st m = s_x X d 110 [.aload 0, .checkcast 576, .checkcast 513, .iload 1, .iaload, .ireturn] ls st m := by
  rw [s_j, s_g_eq, g_l110]; rfl
theorem u_110_84 {X : e_X} {d : Nat} {ls st : List Value} {m : e_M} : s_j X d 110 84 ls st m = s_x X d 110 [.aload 0, .checkcast 576, .checkcast 514, .iload 1, .iaload, .ireturn] ls st m := by
  rw [s_j, s_g_eq, g_l110]; rfl
theorem u_110_94 {X : e_X} {d : Nat} {ls st : List Value} {m : e_M} : s_j X d 110 94 ls st m = s_x X d 110 [.aload 0, .checkcast 576, .checkcast 515, .iload 1, .iaload, .ireturn] ls st m := by
  rw [s_j, s_g_eq, g_l110]; rfl
theorem u_110_104 {X : e_X} {d : Nat} {ls st : List Value} {m : e_M} : s_j X d 110 104 ls st m = s_x X d 110 [.aload 0, .checkcast 576, .iload 1, .invokeinterface 70 2, .ifCond .eq 119, .sipush 1, .goto 120] ls st m := by
  rw [s_j, s_g_eq, g_l110]; rfl
theorem u_110_119 {X : e_X} {d : Nat} {ls st : List Value} {m : e_M} : s_j X d 110 119 ls st m = s_x X d 110 [.sipush 0, .jsr 120] ls st m := by
  rw [s_j, s_g_eq, g_l110]; rfl
theorem u_110_120 {X : e_X} {d : Nat} {ls st : List Value} {m : e_M} : s_j X d 110 120 ls st m = s_x X d 110 [.ireturn] ls st m := by
  rw [s_j, s_g_eq, g_l110]; rfl
theorem u_110_121 {X : e_X} {d : Nat} {ls st : List Value} {m : e_M} : s_j X d 110 121 ls st m = s_x X d 110 [.aload 0, .checkcast 576, .checkcast 512, .iload 1, .iaload, .aload 0, .checkcast 576, .checkcast 514, .iload 1, .iaload, .aload 0, .checkcast 576, .getfield 523, .invokeinterface 111 3, .ireturn] ls st m := by
  rw [s_j, s_g_eq, g_l110]; rfl
theorem u_110_150 {X : e_X} {d : Nat} {ls st : List Value} {m : e_M} : s_j X d 110 150 ls st m = s_x X d 110 [.aload 0, .checkcast 576, .iload 1, .invokeinterface 71 2, .ireturn] ls st m := by
  rw [s_j, s_g_eq, g_l110]; rfl
theorem u_110_159 {X : e_X} {d : Nat} {ls st : List Value} {m : e_M} : s_j X d 110 159 ls st m = s_x X d 110 [.aload 0, .checkcast 576, .iload 1, .invokeinterface 72 2, .ifCond .eq 174, .sipush 1, .goto 175] ls st m := by
  rw [s_j, s_g_eq, g_l110]; rfl
theorem u_110_174 {X : e_X} {d : Nat} {ls st : List Value} {m : e_M} : s_j X d 110 174 ls st m = s_x X d 110 [.sipush 0, .jsr 175] ls st m := by
  rw [s_j, s_g_eq, g_l110]; rfl
theorem u_110_175 {X : e_X} {d : Nat} {ls st : List Value} {m : e_M} : s_j X d 110 175 ls st m = s_x X d 110 [.ireturn] ls st m := by
  rw [s_j, s_g_eq, g_l110]; rfl
theorem u_110_176 {X : e_X} {d : Nat} {ls st : List Value} {m : e_M} : s_j X d 110 176 ls st m = s_x X d 110 [.aload 0, .checkcast 576, .iload 1, .invokeinterface 73 2, .ireturn] ls st m := by
  rw [s_j, s_g_eq, g_l110]; rfl
theorem u_110_185 {X : e_X} {d : Nat} {ls st : List Value} {m : e_M} : s_j X d 110 185 ls st m = s_x X d 110 [.sipush (-1), .ireturn] ls st m := by
  rw [s_j, s_g_eq, g_l110]; rfl
/-- B.spanOf -/
theorem g_l111 (l : Nat) : g_P 111 l = (g_c111.lookup l).getD [] := rfl
theorem v_111 {X : e_X} {d : Nat} (a0 : Int32) (a1 : Int32) (a2 : Int32) {m : e_M} : s_S X (d + 1) 111 [.int a0, .int a1, .int a2] m = s_j X d 111 0 [.int a0, .int a1, .int a2, .retAddr 0] [] m := rfl
theorem u_111_0 {X : e_X} {d : Nat} {ls st : List Value} {m : e_M} : s_j X d 111 0 ls st m = s_x X d 111 [.sipush 1, .iload 1, .sipush 2, .idiv, .iadd, .istore 3, .iload 0, .lookupswitch 85 #[(1, 40), (2, 44), (3, 48), (4, 63), (5, 69)]] ls st m := by
  rw [s_j, s_g_eq, g_l111]; rfl
theorem u_111_40 {X : e_X} {d : Nat} {ls st : List Value} {m : e_M} : s_j X d 111 40 ls st m = s_x X d 111 [.sipush 2, .iload 3, .imul, .ireturn] ls st m := by
  rw [s_j, s_g_eq, g_l111]; rfl
theorem u_111_44 {X : e_X} {d : Nat} {ls st : List Value} {m : e_M} : s_j X d 111 44 ls st m = s_x X d 111 [.iload 3, .sipush 2, .iadd, .ireturn] ls st m := by
  rw [s_j, s_g_eq, g_l111]; rfl
theorem u_111_48 {X : e_X} {d : Nat} {ls st : List Value} {m : e_M} : s_j X d 111 48 ls st m = s_x X d 111 [.iload 2, .sipush 2, .irem, .sipush 1, .if_icmp .ne 59, .sipush 1, .goto 62] ls st m := by
  rw [s_j, s_g_eq, g_l111]; rfl
theorem u_111_59 {X : e_X} {d : Nat} {ls st : List Value} {m : e_M} : s_j X d 111 59 ls st m = s_x X d 111 [.iload 3, .sipush 2, .iadd, .jsr 62] ls st m := by
  rw [s_j, s_g_eq, g_l111]; rfl
theorem u_111_62 {X : e_X} {d : Nat} {ls st : List Value} {m : e_M} : s_j X d 111 62 ls st m = s_x X d 111 [.ireturn] ls st m := by
  rw [s_j, s_g_eq, g_l111]; rfl
theorem u_111_63 {X : e_X} {d : Nat} {ls st : List Value} {m : e_M} : s_j X d 111 63 ls st m = s_x X d 111 [.iload 3, .sipush 2, .dsub, .ireturn] ls st m := by
  rw [s_j, s_g_eq, g_l111]; rfl
theorem u_111_69 {X : e_X} {d : Nat} {ls st : List Value} {m : e_M} : s_j X d 111 69 ls st m = s_x X d 111 [.iload 2, .sipush 3, .irem, .ifCond .ne 79, .sipush 0, .goto 84] ls st m := by
  rw [s_j, s_g_eq, g_l111]; rfl
theorem u_111_79 {X : e_X} {d : Nat} {ls st : List Value} {m : e_M} : s_j X d 111 79 ls st m = s_x X d 111 [.iload 3, .sipush 2, .dsub, .jsr 84] ls st m := by
  rw [s_j, s_g_eq, g_l111]; rfl
theorem u_111_84 {X : e_X} {d : Nat} {ls st : List Value} {m : e_M} : s_j X d 111 84 ls st m = s_x X d 111 [.ireturn] ls st m := by
  rw [s_j, s_g_eq, g_l111]; rfl
theorem u_111_85 {X : e_X} {d : Nat} {ls st : List Value} {m : e_M} : s_j X d 111 85 ls st m = s_x X d 111 [.iload 3, .ireturn] ls st m := by
  rw [s_j, s_g_eq, g_l111]; rfl
/-- B.isUnder -/
theorem g_l112 (l : Nat) : g_P 112 l = (g_c112.lookup l).getD [] := rfl
theorem v_112 {X : e_X} {d : Nat} (a0 : Int32) (a1 : Int32) {m : e_M} : s_S X (d + 1) 112 [.int a0, .int a1] m = s_j X d 112 0 [.int a0, .int a1, .retAddr 0] [] m := rfl
theorem u_112_0 {X : e_X} {d : Nat} {ls st : List Value} {m : e_M} : s_j X d 112 0 ls st m = s_x X d 112 [.iload 0, .istore 2, .jsr 2] ls st m := by
  rw [s_j, s_g_eq, g_l112]; rfl
theorem u_112_2 {X : e_X} {d : Nat} {ls st : List Value} {m : e_M} : s_j X d 112 2 ls st m = s_x X d 112 [.iload 2, .ifCond .lt 30, .iload 2, .getstatic 0, .fsub, .if_icmp .ge 30, .iload 2, .iload 1, .if_icmp .ne 21, .sipush 1, .ireturn] ls st m := by
  rw [s_j, s_g_eq, g_l112]; rfl
theorem u_112_21 {X : e_X} {d : Nat} {ls st : List Value} {m : e_M} : s_j X d 112 21 ls st m = s_x X d 112 [.getstatic 0, .iload 2, .daload, .istore 2, .goto 2] ls st m := by
  rw [s_j, s_g_eq, g_l112]; rfl
theorem u_112_30 {X : e_X} {d : Nat} {ls st : List Value} {m : e_M} : s_j X d 112 30 ls st m = s_x X d 112 [.sipush 0, .ireturn] ls st m := by
  rw [s_j, s_g_eq, g_l112]; rfl
/-- B.change -/
theorem g_l113 (l : Nat) : g_P 113 l = (g_c113.lookup l).getD [] := rfl
theorem v_113 {X : e_X} {d : Nat} (a0 : Nat) (a1 : Int32) (a2 : Int32) (a3 : Int32) {m : e_M} : s_S X (d + 1) 113 [.ref a0, .int a1, .int a2, .int a3] m = s_j X d 113 0 [.ref a0, .int a1, .int a2, .int a3] [] m := rfl
theorem u_113_0 {X : e_X} {d : Nat} {ls st : List Value} {m : e_M} : s_j X d 113 0 ls st m = s_x X d 113 [.aload 0, .checkcast 576, .iload 1, .invokeinterface 69 2, .ifCond .ne 13, .sipush (-1), .ireturn] ls st m := by
  rw [s_j, s_g_eq, g_l113]; rfl
theorem u_113_13 {X : e_X} {d : Nat} {ls st : List Value} {m : e_M} : s_j X d 113 13 ls st m = s_x X d 113 [.iload 2, .lookupswitch 156 #[(1, 44), (2, 71), (3, 98), (4, 124)]] ls st m := by
  rw [s_j, s_g_eq, g_l113]; rfl
theorem u_113_44 {X : e_X} {d : Nat} {ls st : List Value} {m : e_M} : s_j X d 113 44 ls st m = s_x X d 113 [.iload 3, .sipush 0, .sipush 39, .invokeinterface 109 3, .ifCond .eq 58, .sipush (-1), .goto 70] ls st m := by
  rw [s_j, s_g_eq, g_l113]; rfl
theorem u_113_58 {X : e_X} {d : Nat} {ls st : List Value} {m : e_M} : s_j X d 113 58 ls st m = s_x X d 113 [.aload 0, .checkcast 576, .checkcast 513, .iload 1, .iload 3, .invokeinterface 114 3, .jsr 70] ls st m := by
  rw [s_j, s_g_eq, g_l113]; rfl
theorem u_113_70 {X : e_X} {d : Nat} {ls st : List Value} {m : e_M} : s_j X d 113 70 ls st m = s_x X d 113 [.ireturn] ls st m := by
  rw [s_j, s_g_eq, g_l113]; rfl
theorem u_113_71 {X : e_X} {d : Nat} {ls st : List Value} {m : e_M} : s_j X d 113 71 ls st m = s_x X d 113 [.iload 3, .sipush 0, .sipush 9, .invokeinterface 109 3, .ifCond .eq 85, .sipush (-1), .goto 97] ls st m := by
  rw [s_j, s_g_eq, g_l113]; rfl
theorem u_113_85 {X : e_X} {d : Nat} {ls st : List Value} {m : e_M} : s_j X d 113 85 ls st m = s_x X d 113 [.aload 0, .checkcast 576, .checkcast 514, .iload 1, .iload 3, .invokeinterface 114 3, .jsr 97] ls st m := by
  rw [s_j, s_g_eq, g_l113]; rfl
theorem u_113_97 {X : e_X} {d : Nat} {ls st : List Value} {m : e_M} : s_j X d 113 97 ls st m = s_x X d 113 [.ireturn] ls st m := by
  rw [s_j, s_g_eq, g_l113]; rfl
theorem u_113_98 {X : e_X} {d : Nat} {ls st : List Value} {m : e_M} : s_j X d 113 98 ls st m = s_x X d 113 [.iload 3, .sipush 0, .sipush 5, .invokeinterface 109 3, .ifCond .eq 111, .sipush (-1), .goto 123] ls st m := by
  rw [s_j, s_g_eq, g_l113]; rfl
theorem u_113_111 {X : e_X} {d : Nat} {ls st : List Value} {m : e_M} : s_j X d 113 111 ls st m = s_x X d 113 [.aload 0, .checkcast 576, .checkcast 515, .iload 1, .iload 3, .invokeinterface 114 3, .jsr 123] ls st m := by
  rw [s_j, s_g_eq, g_l113]; rfl
theorem u_113_123 {X : e_X} {d : Nat} {ls st : List Value} {m : e_M} : s_j X d 113 123 ls st m = s_x X d 113 [.ireturn] ls st m := by
  rw [s_j, s_g_eq, g_l113]; rfl
theorem u_113_124 {X : e_X} {d : Nat} {ls st : List Value} {m : e_M} : s_j X d 113 124 ls st m = s_x X d 113 [.iload 3, .sipush 0, .sipush 1, .invokeinterface 109 3, .ifCond .eq 137, .sipush (-1), .goto 155] ls st m := by
  rw [s_j, s_g_eq, g_l113]; rfl
theorem u_113_137 {X : e_X} {d : Nat} {ls st : List Value} {m : e_M} : s_j X d 113 137 ls st m = s_x X d 113 [.aload 0, .checkcast 576, .iload 1, .iload 3, .sipush 1, .if_icmp .ne 151, .sipush 1, .goto 152] ls st m := by
  rw [s_j, s_g_eq, g_l113]; rfl
theorem u_113_151 {X : e_X} {d : Nat} {ls st : List Value} {m : e_M} : s_j X d 113 151 ls st m = s_x X d 113 [.sipush 0, .jsr 152] ls st m := by
  rw [s_j, s_g_eq, g_l113]; rfl
theorem u_113_152 {X : e_X} {d : Nat} {ls st : List Value} {m : e_M} : s_j X d 113 152 ls st m = s_x X d 113 [.invokeinterface 74 3, .jsr 155] ls st m := by
  rw [s_j, s_g_eq, g_l113]; rfl
theorem u_113_155 {X : e_X} {d : Nat} {ls st : List Value} {m : e_M} : s_j X d 113 155 ls st m = s_x X d 113 [.ireturn] ls st m := by
  rw [s_j, s_g_eq, g_l113]; rfl
theorem u_113_156 {X : e_X} {d : Nat} {ls st : List Value} {m : e_M} : s_j X d 113 156 ls st m = s_x X d 113 [.sipush (-1), .ireturn] ls st m := by
  rw [s_j, s_g_eq, g_l113]; rfl
/-- B.put -/
theorem g_l114 (l : Nat) : g_P 114 l = (g_c114.lookup l).getD [] := rfl
theorem v_114 {X : e_X} {d : Nat} (a0 : Nat) (a1 : Int32) (a2 : Int32) {m : e_M} : s_S X (d + 1) 114 [.ref a0, .int a1, .int a2] m = s_j X d 114 0 [.ref a0, .int a1, .int a2, .retAddr 0] [] m := rfl
theorem u_114_0 {X : e_X} {d : Nat} {ls st : List Value} {m : e_M} : s_j X d 114 0 ls st m = s_x X d 114 [.iload 1, .sipush 0, .aload 0, .arraylength, .sipush 1, .isub, .invokeinterface 109 3, .ifCond .eq 14, .sipush (-1), .ireturn] ls st m := by
  rw [s_j, s_g_eq, g_l114]; rfl
theorem u_114_14 {X : e_X} {d : Nat} {ls st : List Value} {m : e_M} : s_j X d 114 14 ls st m = s_x X d 114 [.aload 0, .iload 1, .iaload, .istore 3, .aload 0, .iload 1, .iload 2, .iastore, .iload 3, .ireturn] ls st m := by
  rw [s_j, s_g_eq, g_l114]; rfl
/-- B.remake -/
theorem g_l115 (l : Nat) : g_P 115 l = (g_c115.lookup l).getD [] := rfl
theorem v_115 {X : e_X} {d : Nat} (a0 : Nat) (a1 : Int32) (a2 : Int32) {m : e_M} : s_S X (d + 1) 115 [.ref a0, .int a1, .int a2] m = s_j X d 115 0 [.ref a0, .int a1, .int a2] [] m := rfl
theorem u_115_0 {X : e_X} {d : Nat} {ls st : List Value} {m : e_M} : s_j X d 115 0 ls st m = s_x X d 115 [.aload 0, .checkcast 576, .iload 1, .invokeinterface 69 2, .ifCond .eq 20, .iload 2, .sipush 1, .sipush 5, .invokeinterface 109 3, .ifCond .eq 22, .jsr 20] ls st m := by
  rw [s_j, s_g_eq, g_l115]; rfl
theorem u_115_20 {X : e_X} {d : Nat} {ls st : List Value} {m : e_M} : s_j X d 115 20 ls st m = s_x X d 115 [.sipush (-1), .ireturn] ls st m := by
  rw [s_j, s_g_eq, g_l115]; rfl
theorem u_115_22 {X : e_X} {d : Nat} {ls st : List Value} {m : e_M} : s_j X d 115 22 ls st m = s_x X d 115 [.aload 0, .checkcast 576, .checkcast 512, .iload 1, .iload 2, .invokeinterface 114 3, .ireturn] ls st m := by
  rw [s_j, s_g_eq, g_l115]; rfl
/-- B.news -/
theorem g_l116 (l : Nat) : g_P 116 l = (g_c116.lookup l).getD [] := rfl
theorem v_116 {X : e_X} {d : Nat} (a0 : Nat) (a1 : Int32) (a2 : Int32) {m : e_M} : s_S X (d + 1) 116 [.ref a0, .int a1, .int a2] m = s_j X d 116 0 [.ref a0, .int a1, .int a2] [] m := rfl
theorem u_116_0 {X : e_X} {d : Nat} {ls st : List Value} {m : e_M} : s_j X d 116 0 ls st m = s_x X d 116 [.iload 1, .sipush 0, .sipush 15, .invokeinterface 109 3, .ifCond .ne 20, .iload 2, .sipush 0, .sipush 15, .invokeinterface 109 3, .ifCond .eq 22, .jsr 20] ls st m := by
  rw [s_j, s_g_eq, g_l116]; rfl
theorem u_116_20 {X : e_X} {d : Nat} {ls st : List Value} {m : e_M} : s_j X d 116 20 ls st m = s_x X d 116 [.sipush (-1), .ireturn] ls st m := by
  rw [s_j, s_g_eq, g_l116]; rfl
theorem u_116_22 {X : e_X} {d : Nat} {ls st : List Value} {m : e_M} : s_j X d 116 22 ls st m = s_x X d 116 [.aload 0, .checkcast 576, .checkcast 518, .iload 1, .iload 2, .invokeinterface 114 3, .ireturn] ls st m := by
  rw [s_j, s_g_eq, g_l116]; rfl
/-- B.home -/
theorem g_l117 (l : Nat) : g_P 117 l = (g_c117.lookup l).getD [] := rfl
theorem v_117 {X : e_X} {d : Nat} (a0 : Nat) (a1 : Int32) (a2 : Int32) (a3 : Int32) {m : e_M} : s_S X (d + 1) 117 [.ref a0, .int a1, .int a2, .int a3] m = s_j X d 117 0 [.ref a0, .int a1, .int a2, .int a3] [] m := rfl
theorem u_117_0 {X : e_X} {d : Nat} {ls st : List Value} {m : e_M} : s_j X d 117 0 ls st m = s_x X d 117 [.iload 1, .sipush 0, .sipush 5, .invokeinterface 109 3, .ifCond .ne 28, .iload 2, .sipush 0, .sipush 1, .invokeinterface 109 3, .ifCond .ne 28, .iload 3, .sipush 0, .sipush 9, .invokeinterface 109 3, .ifCond .eq 30, .jsr 28] ls st m := by
  rw [s_j, s_g_eq, g_l117]; rfl
theorem u_117_28 {X : e_X} {d : Nat} {ls st : List Value} {m : e_M} : s_j X d 117 28 ls st m = s_x X d 117 [.sipush (-1), .ireturn] ls st m := by
  rw [s_j, s_g_eq, g_l117]; rfl
theorem u_117_30 {X : e_X} {d : Nat} {ls st : List Value} {m : e_M} : s_j X d 117 30 ls st m = s_x X d 117 [.iload 2, .ifCond .ne 44, .aload 0, .checkcast 576, .checkcast 516, .goto 51] ls st m := by
  rw [s_j, s_g_eq, g_l117]; rfl
theorem u_117_44 {X : e_X} {d : Nat} {ls st : List Value} {m : e_M} : s_j X d 117 44 ls st m = s_x X d 117 [.aload 0, .checkcast 576, .checkcast 517, .jsr 51] ls st m := by
  rw [s_j, s_g_eq, g_l117]; rfl
theorem u_117_51 {X : e_X} {d : Nat} {ls st : List Value} {m : e_M} : s_j X d 117 51 ls st m = s_x X d 117 [.iload 1, .iload 3, .invokeinterface 114 3, .ireturn] ls st m := by
  rw [s_j, s_g_eq, g_l117]; rfl
/-- B.homeOf -/
theorem g_l118 (l : Nat) : g_P 118 l = (g_c118.lookup l).getD [] := rfl
theorem v_118 {X : e_X} {d : Nat} (a0 : Nat) (a1 : Int32) (a2 : Int32) {m : e_M} : s_S X (d + 1) 118 [.ref a0, .int a1, .int a2] m = s_j X d 118 0 [.ref a0, .int a1, .int a2] [] m := rfl
theorem u_118_0 {X : e_X} {d : Nat} {ls st : List Value} {m : e_M} : s_j X d 118 0 ls st m = s_x X d 118 [.iload 1, .sipush 0, .sipush 5, .invokeinterface 109 3, .ifCond .ne 18, .iload 2, .sipush 0, .sipush 1, .invokeinterface 109 3, .ifCond .eq 20, .jsr 18] ls st m := by
  rw [s_j, s_g_eq, g_l118]; rfl
theorem u_118_18 {X : e_X} {d : Nat} {ls st : List Value} {m : e_M} : s_j X d 118 18 ls st m = s_x X d 118 [.sipush (-1), .ireturn] ls st m := by
  rw [s_j, s_g_eq, g_l118]; rfl
theorem u_118_20 {X : e_X} {d : Nat} {ls st : List Value} {m : e_M} : s_j X d 118 20 ls st m = s_x X d 118 [.iload 2, .ifCond .ne 36, .aload 0, .checkcast 576, .checkcast 516, .iload 1, .iaload, .goto 45] ls st m := by
  rw [s_j, s_g_eq, g_l118]; rfl
theorem u_118_36 {X : e_X} {d : Nat} {ls st : List Value} {m : e_M} : s_j X d 118 36 ls st m = s_x X d 118 [.aload 0, .checkcast 576, .checkcast 517, .iload 1, .iaload, .jsr 45] ls st m := by
  rw [s_j, s_g_eq, g_l118]; rfl
theorem u_118_45 {X : e_X} {d : Nat} {ls st : List Value} {m : e_M} : s_j X d 118 45 ls st m = s_x X d 118 [.ireturn] ls st m := by
  rw [s_j, s_g_eq, g_l118]; rfl
/-- B.family -/
theorem g_l119 (l : Nat) : g_P 119 l = (g_c119.lookup l).getD [] := rfl
theorem v_119 {X : e_X} {d : Nat} (a0 : Nat) (a1 : Int32) (a2 : Int32) {m : e_M} : s_S X (d + 1) 119 [.ref a0, .int a1, .int a2] m = s_j X d 119 0 [.ref a0, .int a1, .int a2, .retAddr 0] [] m := rfl
theorem u_119_0 {X : e_X} {d : Nat} {ls st : List Value} {m : e_M} : s_j X d 119 0 ls st m = s_x X d 119 [.iload 1, .sipush 0, .sipush 1, .invokeinterface 109 3, .ifCond .ne 28, .iload 2, .sipush 0, .iload 1, .ifCond .ne 20, .sipush 9, .goto 22] ls st m := by
  rw [s_j, s_g_eq, g_l119]; rfl
theorem u_119_20 {X : e_X} {d : Nat} {ls st : List Value} {m : e_M} : s_j X d 119 20 ls st m = s_x X d 119 [.sipush 40, .jsr 22] ls st m := by
  rw [s_j, s_g_eq, g_l119]; rfl
theorem u_119_22 {X : e_X} {d : Nat} {ls st : List Value} {m : e_M} : s_j X d 119 22 ls st m = s_x X d 119 [.invokeinterface 109 3, .ifCond .eq 30, .jsr 28] ls st m := by
  rw [s_j, s_g_eq, g_l119]; rfl
theorem u_119_28 {X : e_X} {d : Nat} {ls st : List Value} {m : e_M} : s_j X d 119 28 ls st m = s_x X d 119 [.sipush (-1), .ireturn] ls st m := by
  rw [s_j, s_g_eq, g_l119]; rfl
theorem u_119_30 {X : e_X} {d : Nat} {ls st : List Value} {m : e_M} : s_j X d 119 30 ls st m = s_x X d 119 [.iload 1, .ifCond .ne 44, .aload 0, .checkcast 576, .getfield 526, .goto 51] ls st m := by
  rw [s_j, s_g_eq, g_l119]; rfl
theorem u_119_44 {X : e_X} {d : Nat} {ls st : List Value} {m : e_M} : s_j X d 119 44 ls st m = s_x X d 119 [.aload 0, .checkcast 576, .getfield 527, .jsr 51] ls st m := by
  rw [s_j, s_g_eq, g_l119]; rfl
theorem u_119_51 {X : e_X} {d : Nat} {ls st : List Value} {m : e_M} : s_j X d 119 51 ls st m = s_x X d 119 [.istore 3, .iload 1, .ifCond .ne 67, .aload 0, .checkcast 576, .iload 2, .putfield 526, .goto 75] ls st m := by
  rw [s_j, s_g_eq, g_l119]; rfl
theorem u_119_67 {X : e_X} {d : Nat} {ls st : List Value} {m : e_M} : s_j X d 119 67 ls st m = s_x X d 119 [.aload 0, .checkcast 576, .iload 2, .putfield 527, .jsr 75] ls st m := by
  rw [s_j, s_g_eq, g_l119]; rfl
theorem u_119_75 {X : e_X} {d : Nat} {ls st : List Value} {m : e_M} : s_j X d 119 75 ls st m = s_x X d 119 [.iload 3, .ireturn] ls st m := by
  rw [s_j, s_g_eq, g_l119]; rfl
/-- B.ends -/
theorem g_l120 (l : Nat) : g_P 120 l = (g_c120.lookup l).getD [] := rfl
theorem v_120 {X : e_X} {d : Nat} (a0 : Nat) (a1 : Int32) {m : e_M} : s_S X (d + 1) 120 [.ref a0, .int a1] m = s_j X d 120 0 [.ref a0, .int a1, .retAddr 0] [] m := rfl
theorem u_120_0 {X : e_X} {d : Nat} {ls st : List Value} {m : e_M} : s_j X d 120 0 ls st m = s_x X d 120 [.iload 1, .sipush 1, .sipush 16, .invokeinterface 109 3, .ifCond .eq 12, .sipush (-1), .ireturn] ls st m := by
  rw [s_j, s_g_eq, g_l120]; rfl
theorem u_120_12 {X : e_X} {d : Nat} {ls st : List Value} {m : e_M} : s_j X d 120 12 ls st m = s_x X d 120 [.iload 1, .aload 0, .checkcast 576, .getfield 523, .if_icmp .ge 26, .sipush (-4), .ireturn] ls st m := by
  rw [s_j, s_g_eq, g_l120]; rfl
theorem u_120_26 {X : e_X} {d : Nat} {ls st : List Value} {m : e_M} : s_j X d 120 26 ls st m = s_x X d 120 [.aload 0, .checkcast 576, .getfield 524, .istore 2, .aload 0, .checkcast 576, .iload 1, .putfield 524, .iload 2, .ireturn] ls st m := by
  rw [s_j, s_g_eq, g_l120]; rfl
/-- B.anew -/
theorem g_l121 (l : Nat) : g_P 121 l = (g_c121.lookup l).getD [] := rfl
theorem v_121 {X : e_X} {d : Nat} (a0 : Nat) {m : e_M} : s_S X (d + 1) 121 [.ref a0] m = s_j X d 121 0 [.ref a0, .retAddr 0] [] m := rfl
theorem u_121_0 {X : e_X} {d : Nat} {ls st : List Value} {m : e_M} : s_j X d 121 0 ls st m = s_x X d 121 [.aload 0, .checkcast 576, .getfield 523, .istore 1, .aload 0, .checkcast 576, .invokeinterface 75 1, .iload 1, .ireturn] ls st m := by
  rw [s_j, s_g_eq, g_l121]; rfl
/-- B.state -/
theorem g_l122 (l : Nat) : g_P 122 l = (g_c122.lookup l).getD [] := rfl
theorem v_122 {X : e_X} {d : Nat} (a0 : Nat) (a1 : Int32) {m : e_M} : s_S X (d + 1) 122 [.ref a0, .int a1] m = s_j X d 122 0 [.ref a0, .int a1] [] m := rfl
theorem u_122_0 {X : e_X} {d : Nat} {ls st : List Value} {m : e_M} : s_j X d 122 0 ls st m = s_x X d 122 [.iload 1, .lookupswitch 127 #[(0, 48), (1, 56), (2, 64), (3, 72), (4, 88), (5, 96), (6, 111), (7, 119)]] ls st m := by
  rw [s_j, s_g_eq, g_l122]; rfl
theorem u_122_48 {X : e_X} {d : Nat} {ls st : List Value} {m : e_M} : s_j X d 122 48 ls st m = s_x X d 122 [.aload 0, .checkcast 576, .getfield 523, .ireturn] ls st m := by
  rw [s_j, s_g_eq, g_l122]; rfl
theorem u_122_56 {X : e_X} {d : Nat} {ls st : List Value} {m : e_M} : s_j X d 122 56 ls st m = s_x X d 122 [.aload 0, .checkcast 576, .getfield 524, .ireturn] ls st m := by
  rw [s_j, s_g_eq, g_l122]; rfl
theorem u_122_64 {X : e_X} {d : Nat} {ls st : List Value} {m : e_M} : s_j X d 122 64 ls st m = s_x X d 122 [.aload 0, .checkcast 576, .getfield 525, .ireturn] ls st m := by
  rw [s_j, s_g_eq, g_l122]; rfl
theorem u_122_72 {X : e_X} {d : Nat} {ls st : List Value} {m : e_M} : s_j X d 122 72 ls st m = s_x X d 122 [.aload 0, .checkcast 576, .invokeinterface 76 1, .ifCond .eq 86, .sipush 1, .goto 87] ls st m := by
  rw [s_j, s_g_eq, g_l122]; rfl
theorem u_122_86 {X : e_X} {d : Nat} {ls st : List Value} {m : e_M} : s_j X d 122 86 ls st m = s_x X d 122 [.sipush 0, .jsr 87] ls st m := by
  rw [s_j, s_g_eq, g_l122]; rfl
theorem u_122_87 {X : e_X} {d : Nat} {ls st : List Value} {m : e_M} : s_j X d 122 87 ls st m = s_x X d 122 [.ireturn] ls st m := by
  rw [s_j, s_g_eq, g_l122]; rfl
theorem u_122_88 {X : e_X} {d : Nat} {ls st : List Value} {m : e_M} : s_j X d 122 88 ls st m = s_x X d 122 [.aload 0, .checkcast 576, .getfield 522, .ireturn] ls st m := by
  rw [s_j, s_g_eq, g_l122]; rfl
theorem u_122_96 {X : e_X} {d : Nat} {ls st : List Value} {m : e_M} : s_j X d 122 96 ls st m = s_x X d 122 [.aload 0, .checkcast 576, .aload 0, .checkcast 576, .getfield 523, .invokeinterface 77 2, .ireturn] ls st m := by
  rw [s_j, s_g_eq, g_l122]; rfl
theorem u_122_111 {X : e_X} {d : Nat} {ls st : List Value} {m : e_M} : s_j X d 122 111 ls st m = s_x X d 122 [.aload 0, .checkcast 576, .getfield 526, .ireturn] ls st m := by
  rw [s_j, s_g_eq, g_l122]; rfl
theorem u_122_119 {X : e_X} {d : Nat} {ls st : List Value} {m : e_M} : s_j X d 122 119 ls st m = s_x X d 122 [.aload 0, .checkcast 576, .getfield 527, .ireturn] ls st m := by
  rw [s_j, s_g_eq, g_l122]; rfl
theorem u_122_127 {X : e_X} {d : Nat} {ls st : List Value} {m : e_M} : s_j X d 122 127 ls st m = s_x X d 122 [.sipush (-1), .ireturn] ls st m := by
  rw [s_j, s_g_eq, g_l122]; rfl
/-- B.feed -/
theorem g_l123 (l : Nat) : g_P 123 l = (g_c123.lookup l).getD [] := rfl
theorem v_123 {X : e_X} {d : Nat} (a0 : Nat) (a1 : Int64) (a2 : Int32) {m : e_M} : s_S X (d + 1) 123 [.ref a0, .long a1, .int a2] m = s_j X d 123 0 [.ref a0, .long a1, .retAddr 0, .int a2] [] m := rfl
theorem u_123_0 {X : e_X} {d : Nat} {ls st : List Value} {m : e_M} : s_j X d 123 0 ls st m = s_x X d 123 [.iload 3, .sipush 1, .sipush 8, .invokeinterface 109 3, .ifCond .eq 12, .sipush (-1), .ireturn] ls st m := by
  rw [s_j, s_g_eq, g_l123]; rfl
theorem u_123_12 {X : e_X} {d : Nat} {ls st : List Value} {m : e_M} : s_j X d 123 12 ls st m = s_x X d 123 [.aload 0, .checkcast 579, .getfield 194, .iload 3, .iadd, .sipush 200, .if_icmp .le 30, .sipush (-2), .ireturn] ls st m := by
  rw [s_j, s_g_eq, g_l123]; rfl
theorem u_123_30 {X : e_X} {d : Nat} {ls st : List Value} {m : e_M} : s_j X d 123 30 ls st m = s_x X d 123 [.aload 0, .checkcast 579, .lload 1, .iload 3, .invokeinterface 25 3, .ireturn] ls st m := by
  rw [s_j, s_g_eq, g_l123]; rfl
/-- B.rules -/
theorem g_l124 (l : Nat) : g_P 124 l = (g_c124.lookup l).getD [] := rfl
theorem v_124 {X : e_X} {d : Nat} (a0 : Nat) {m : e_M} : s_S X (d + 1) 124 [.ref a0] m = s_j X d 124 0 [.ref a0, .retAddr 0] [] m := rfl
theorem u_124_0 {X : e_X} {d : Nat} {ls st : List Value} {m : e_M} : s_j X d 124 0 ls st m = s_x X d 124 [.aload 0, .checkcast 579, .invokeinterface 26 1, .istore 1, .iload 1, .sipush (-1), .if_icmp .eq 18, .sipush (-100), .iload 1, .isub, .ireturn] ls st m := by
  rw [s_j, s_g_eq, g_l124]; rfl
theorem u_124_18 {X : e_X} {d : Nat} {ls st : List Value} {m : e_M} : s_j X d 124 18 ls st m = s_x X d 124 [.aload 0, .checkcast 576, .checkcast 519, .aload 0, .checkcast 579, .checkcast 192, .invokeinterface 16 2, .aload 0, .checkcast 576, .checkcast 519, .getfield 69, .ireturn] ls st m := by
  rw [s_j, s_g_eq, g_l124]; rfl
/-- B.year -/
theorem g_l125 (l : Nat) : g_P 125 l = (g_c125.lookup l).getD [] := rfl
theorem v_125 {X : e_X} {d : Nat} (a0 : Nat) {m : e_M} : s_S X (d + 1) 125 [.ref a0] m = s_j X d 125 0 [.ref a0] [] m := rfl
theorem u_125_0 {X : e_X} {d : Nat} {ls st : List Value} {m : e_M} : s_j X d 125 0 ls st m = s_x X d 125 [.aload 0, .checkcast 576, .invokeinterface 76 1, .ifCond .eq 13, .sipush (-4), .ireturn] ls st m := by
  rw [s_j, s_g_eq, g_l125]; rfl
theorem u_125_13 {X : e_X} {d : Nat} {ls st : List Value} {m : e_M} : s_j X d 125 13 ls st m = s_x X d 125 [.aload 0, .checkcast 576, .sipush (-1), .invokeinterface 78 2, .ireturn] ls st m := by
  rw [s_j, s_g_eq, g_l125]; rfl
/-- B.moodBehind -/
theorem g_l126 (l : Nat) : g_P 126 l = (g_c126.lookup l).getD [] := rfl
theorem v_126 {X : e_X} {d : Nat} (a0 : Int32) (a1 : Int32) {m : e_M} : s_S X (d + 1) 126 [.int a0, .int a1] m = s_j X d 126 0 [.int a0, .int a1, .retAddr 0] [] m := rfl
theorem u_126_0 {X : e_X} {d : Nat} {ls st : List Value} {m : e_M} : s_j X d 126 0 ls st m = s_x X d 126 [.iload 0, .sipush 4, .idiv, .istore 2, .iload 0, .sipush 4, .irem, .lookupswitch 72 #[(0, 32), (1, 41), (2, 49)]] ls st m := by
  rw [s_j, s_g_eq, g_l126]; rfl
theorem u_126_32 {X : e_X} {d : Nat} {ls st : List Value} {m : e_M} : s_j X d 126 32 ls st m = s_x X d 126 [.sipush 9, .iload 1, .iload 2, .iadd, .dsub, .ireturn] ls st m := by
  rw [s_j, s_g_eq, g_l126]; rfl
theorem u_126_41 {X : e_X} {d : Nat} {ls st : List Value} {m : e_M} : s_j X d 126 41 ls st m = s_x X d 126 [.sipush 0, .iload 1, .iload 2, .isub, .dadd, .ireturn] ls st m := by
  rw [s_j, s_g_eq, g_l126]; rfl
theorem u_126_49 {X : e_X} {d : Nat} {ls st : List Value} {m : e_M} : s_j X d 126 49 ls st m = s_x X d 126 [.iload 1, .sipush 5, .if_icmp .ge 64, .sipush 5, .iload 1, .iload 2, .iadd, .dsub, .goto 71] ls st m := by
  rw [s_j, s_g_eq, g_l126]; rfl
theorem u_126_64 {X : e_X} {d : Nat} {ls st : List Value} {m : e_M} : s_j X d 126 64 ls st m = s_x X d 126 [.sipush 5, .iload 1, .iload 2, .isub, .dadd, .jsr 71] ls st m := by
  rw [s_j, s_g_eq, g_l126]; rfl
theorem u_126_71 {X : e_X} {d : Nat} {ls st : List Value} {m : e_M} : s_j X d 126 71 ls st m = s_x X d 126 [.ireturn] ls st m := by
  rw [s_j, s_g_eq, g_l126]; rfl
theorem u_126_72 {X : e_X} {d : Nat} {ls st : List Value} {m : e_M} : s_j X d 126 72 ls st m = s_x X d 126 [.iload 1, .ireturn] ls st m := by
  rw [s_j, s_g_eq, g_l126]; rfl
/-- B.placesOf -/
theorem g_l127 (l : Nat) : g_P 127 l = (g_c127.lookup l).getD [] := rfl
theorem v_127 {X : e_X} {d : Nat} (a0 : Int32) (a1 : Int32) {m : e_M} : s_S X (d + 1) 127 [.int a0, .int a1] m = s_j X d 127 0 [.int a0, .int a1] [] m := rfl
theorem u_127_0 {X : e_X} {d : Nat} {ls st : List Value} {m : e_M} : s_j X d 127 0 ls st m = s_x X d 127 [.goto_w 1, .iload 1, .lshl, .goto_w 1, .lsub, .iload 0, .lshl, .lreturn] ls st m := by
  rw [s_j, s_g_eq, g_l127]; rfl
/-- B.stepsOn -/
theorem g_l128 (l : Nat) : g_P 128 l = (g_c128.lookup l).getD [] := rfl
theorem v_128 {X : e_X} {d : Nat} (a0 : Int64) (a1 : Int32) (a2 : Int32) {m : e_M} : s_S X (d + 1) 128 [.long a0, .int a1, .int a2] m = s_j X d 128 0 [.long a0, .retAddr 0, .int a1, .int a2, .retAddr 0] [] m := rfl
theorem u_128_0 {X : e_X} {d : Nat} {ls st : List Value} {m : e_M} : s_j X d 128 0 ls st m = s_x X d 128 [.sipush 0, .istore 4, .jsr 3] ls st m := by
  rw [s_j, s_g_eq, g_l128]; rfl
theorem u_128_3 {X : e_X} {d : Nat} {ls st : List Value} {m : e_M} : s_j X d 128 3 ls st m = s_x X d 128 [.iload 4, .iload 3, .if_icmp .gt 37, .iload 2, .iload 4, .iadd, .sipush 40, .if_icmp .ge 37, .lload 0, .iload 2, .iload 4, .iadd, .lushr, .goto_w 1, .land, .goto_w 1, .lcmp, .ifCond .ne 37, .iinc 4 1, .goto 3] ls st m := by
  rw [s_j, s_g_eq, g_l128]; rfl
theorem u_128_37 {X : e_X} {d : Nat} {ls st : List Value} {m : e_M} : s_j X d 128 37 ls st m = s_x X d 128 [.iload 4, .ireturn] ls st m := by
  rw [s_j, s_g_eq, g_l128]; rfl
/-- B.on -/
theorem g_l129 (l : Nat) : g_P 129 l = (g_c129.lookup l).getD [] := rfl
theorem v_129 {X : e_X} {d : Nat} (a0 : Nat) (a1 : Int32) {m : e_M} : s_S X (d + 1) 129 [.ref a0, .int a1] m = s_j X d 129 0 [.ref a0, .int a1] [] m := rfl
theorem u_129_0 {X : e_X} {d : Nat} {ls st : List Value} {m : e_M} : s_j X d 129 0 ls st m = s_x X d 129 [.iload 1, .sipush 0, .sipush 16, .invokeinterface 109 3, .ifCond .eq 12, .sipush (-1), .ireturn] ls st m := by
  rw [s_j, s_g_eq, g_l129]; rfl
theorem u_129_12 {X : e_X} {d : Nat} {ls st : List Value} {m : e_M} : s_j X d 129 12 ls st m = s_x X d 129 [.aload 0, .checkcast 576, .iload 1, .invokeinterface 84 2, .ireturn] ls st m := by
  rw [s_j, s_g_eq, g_l129]; rfl
/-- B.when -/
theorem g_l130 (l : Nat) : g_P 130 l = (g_c130.lookup l).getD [] := rfl
theorem v_130 {X : e_X} {d : Nat} (a0 : Nat) (a1 : Int32) {m : e_M} : s_S X (d + 1) 130 [.ref a0, .int a1] m = s_j X d 130 0 [.ref a0, .int a1] [] m := rfl
theorem u_130_0 {X : e_X} {d : Nat} {ls st : List Value} {m : e_M} : s_j X d 130 0 ls st m = s_x X d 130 [.aload 0, .checkcast 576, .iload 1, .invokeinterface 69 2, .ifCond .ne 13, .sipush (-1), .ireturn] ls st m := by
  rw [s_j, s_g_eq, g_l130]; rfl
theorem u_130_13 {X : e_X} {d : Nat} {ls st : List Value} {m : e_M} : s_j X d 130 13 ls st m = s_x X d 130 [.aload 0, .checkcast 576, .iload 1, .invokeinterface 70 2, .ifCond .eq 29, .sipush (-3), .goto 40] ls st m := by
  rw [s_j, s_g_eq, g_l130]; rfl
theorem u_130_29 {X : e_X} {d : Nat} {ls st : List Value} {m : e_M} : s_j X d 130 29 ls st m = s_x X d 130 [.aload 0, .checkcast 576, .sipush 1, .iload 1, .ishl, .sipush 0, .invokeinterface 88 3, .jsr 40] ls st m := by
  rw [s_j, s_g_eq, g_l130]; rfl
theorem u_130_40 {X : e_X} {d : Nat} {ls st : List Value} {m : e_M} : s_j X d 130 40 ls st m = s_x X d 130 [.ireturn] ls st m := by
  rw [s_j, s_g_eq, g_l130]; rfl
/-- B.widthFor -/
theorem g_l131 (l : Nat) : g_P 131 l = (g_c131.lookup l).getD [] := rfl
theorem v_131 {X : e_X} {d : Nat} (a0 : Nat) (a1 : Int32) {m : e_M} : s_S X (d + 1) 131 [.ref a0, .int a1] m = s_j X d 131 0 [.ref a0, .int a1] [] m := rfl
theorem u_131_0 {X : e_X} {d : Nat} {ls st : List Value} {m : e_M} : s_j X d 131 0 ls st m = s_x X d 131 [.aload 0, .checkcast 576, .iload 1, .invokeinterface 69 2, .ifCond .ne 13, .sipush (-1), .ireturn] ls st m := by
  rw [s_j, s_g_eq, g_l131]; rfl
theorem u_131_13 {X : e_X} {d : Nat} {ls st : List Value} {m : e_M} : s_j X d 131 13 ls st m = s_x X d 131 [.aload 0, .checkcast 576, .aload 0, .checkcast 576, .checkcast 514, .iload 1, .sipush 9, .invokeinterface 89 4, .ireturn] ls st m := by
  rw [s_j, s_g_eq, g_l131]; rfl
/-- B.pieceFor -/
theorem g_l132 (l : Nat) : g_P 132 l = (g_c132.lookup l).getD [] := rfl
theorem v_132 {X : e_X} {d : Nat} (a0 : Nat) (a1 : Int32) {m : e_M} : s_S X (d + 1) 132 [.ref a0, .int a1] m = s_j X d 132 0 [.ref a0, .int a1] [] m := rfl
theorem u_132_0 {X : e_X} {d : Nat} {ls st : List Value} {m : e_M} : s_j X d 132 0 ls st m = s_x X d 132 [.aload 0, .checkcast 576, .iload 1, .invokeinterface 69 2, .ifCond .ne 13, .sipush (-1), .ireturn] ls st m := by
  rw [s_j, s_g_eq, g_l132]; rfl
theorem u_132_13 {X : e_X} {d : Nat} {ls st : List Value} {m : e_M} : s_j X d 132 13 ls st m = s_x X d 132 [.aload 0, .checkcast 576, .aload 0, .checkcast 576, .checkcast 513, .iload 1, .sipush 39, .invokeinterface 89 4, .ireturn] ls st m := by
  rw [s_j, s_g_eq, g_l132]; rfl
/-- B.over -/
theorem g_l133 (l : Nat) : g_P 133 l = (g_c133.lookup l).getD [] := rfl
theorem v_133 {X : e_X} {d : Nat} (a0 : Nat) (a1 : Int32) {m : e_M} : s_S X (d + 1) 133 [.ref a0, .int a1] m = s_j X d 133 0 [.ref a0, .int a1] [] m := rfl
theorem u_133_0 {X : e_X} {d : Nat} {ls st : List Value} {m : e_M} : s_j X d 133 0 ls st m = s_x X d 133 [.iload 1, .sipush 0, .sipush 40, .invokeinterface 109 3, .ifCond .eq 12, .sipush (-1), .ireturn] ls st m := by
  rw [s_j, s_g_eq, g_l133]; rfl
theorem u_133_12 {X : e_X} {d : Nat} {ls st : List Value} {m : e_M} : s_j X d 133 12 ls st m = s_x X d 133 [.aload 0, .checkcast 576, .sipush 0, .iload 1, .invokeinterface 88 3, .ireturn] ls st m := by
  rw [s_j, s_g_eq, g_l133]; rfl
/-- B.gap -/
theorem g_l134 (l : Nat) : g_P 134 l = (g_c134.lookup l).getD [] := rfl
theorem v_134 {X : e_X} {d : Nat} (a0 : Nat) (a1 : Int32) {m : e_M} : s_S X (d + 1) 134 [.ref a0, .int a1] m = s_j X d 134 0 [.ref a0, .int a1] [] m := rfl
theorem u_134_0 {X : e_X} {d : Nat} {ls st : List Value} {m : e_M} : s_j X d 134 0 ls st m = s_x X d 134 [.iload 1, .ifCond .ne 12, .aload 0, .checkcast 576, .invokeinterface 90 1, .ireturn] ls st m := by
  rw [s_j, s_g_eq, g_l134]; rfl
theorem u_134_12 {X : e_X} {d : Nat} {ls st : List Value} {m : e_M} : s_j X d 134 12 ls st m = s_x X d 134 [.iload 1, .sipush 1, .if_icmp .ne 27, .aload 0, .checkcast 576, .invokeinterface 92 1, .goto 28] ls st m := by
  rw [s_j, s_g_eq, g_l134]; rfl
theorem u_134_27 {X : e_X} {d : Nat} {ls st : List Value} {m : e_M} : s_j X d 134 27 ls st m = s_x X d 134 [.sipush (-1), .jsr 28] ls st m := by
  rw [s_j, s_g_eq, g_l134]; rfl
theorem u_134_28 {X : e_X} {d : Nat} {ls st : List Value} {m : e_M} : s_j X d 134 28 ls st m = s_x X d 134 [.ireturn] ls st m := by
  rw [s_j, s_g_eq, g_l134]; rfl
/-- B.branches -/
theorem g_l135 (l : Nat) : g_P 135 l = (g_c135.lookup l).getD [] := rfl
theorem v_135 {X : e_X} {d : Nat} (a0 : Nat) (a1 : Int32) {m : e_M} : s_S X (d + 1) 135 [.ref a0, .int a1] m = s_j X d 135 0 [.ref a0, .int a1] [] m := rfl
theorem u_135_0 {X : e_X} {d : Nat} {ls st : List Value} {m : e_M} : s_j X d 135 0 ls st m = s_x X d 135 [.iload 1, .sipush (-1), .if_icmp .ne 13, .aload 0, .checkcast 576, .invokeinterface 93 1, .ireturn] ls st m := by
  rw [s_j, s_g_eq, g_l135]; rfl
theorem u_135_13 {X : e_X} {d : Nat} {ls st : List Value} {m : e_M} : s_j X d 135 13 ls st m = s_x X d 135 [.aload 0, .checkcast 576, .iload 1, .invokeinterface 69 2, .ifCond .eq 35, .aload 0, .checkcast 576, .iload 1, .invokeinterface 94 2, .goto 36] ls st m := by
  rw [s_j, s_g_eq, g_l135]; rfl
theorem u_135_35 {X : e_X} {d : Nat} {ls st : List Value} {m : e_M} : s_j X d 135 35 ls st m = s_x X d 135 [.sipush (-1), .jsr 36] ls st m := by
  rw [s_j, s_g_eq, g_l135]; rfl
theorem u_135_36 {X : e_X} {d : Nat} {ls st : List Value} {m : e_M} : s_j X d 135 36 ls st m = s_x X d 135 [.ireturn] ls st m := by
  rw [s_j, s_g_eq, g_l135]; rfl
/-- B.leastOf -/
theorem g_l136 (l : Nat) : g_P 136 l = (g_c136.lookup l).getD [] := rfl
theorem v_136 {X : e_X} {d : Nat} (a0 : Int32) {m : e_M} : s_S X (d + 1) 136 [.int a0] m = s_j X d 136 0 [.int a0, .retAddr 0] [] m := rfl
theorem u_136_0 {X : e_X} {d : Nat} {ls st : List Value} {m : e_M} : s_j X d 136 0 ls st m = s_x X d 136 [.sipush 0, .istore 1, .jsr 2] ls st m := by
  rw [s_j, s_g_eq, g_l136]; rfl
theorem u_136_2 {X : e_X} {d : Nat} {ls st : List Value} {m : e_M} : s_j X d 136 2 ls st m = s_x X d 136 [.iload 1, .sipush 6, .if_icmp .ge 25, .iload 0, .iload 1, .ishr, .sipush 1, .iand, .sipush 1, .if_icmp .ne 19, .iload 1, .ireturn] ls st m := by
  rw [s_j, s_g_eq, g_l136]; rfl
theorem u_136_19 {X : e_X} {d : Nat} {ls st : List Value} {m : e_M} : s_j X d 136 19 ls st m = s_x X d 136 [.iinc 1 1, .goto 2] ls st m := by
  rw [s_j, s_g_eq, g_l136]; rfl
theorem u_136_25 {X : e_X} {d : Nat} {ls st : List Value} {m : e_M} : s_j X d 136 25 ls st m = s_x X d 136 [.sipush (-3), .ireturn] ls st m := by
  rw [s_j, s_g_eq, g_l136]; rfl
/-- B.fetch -/
theorem g_l137 (l : Nat) : g_P 137 l = (g_c137.lookup l).getD [] := rfl
theorem v_137 {X : e_X} {d : Nat} (a0 : Nat) (a1 : Int32) (a2 : Int32) {m : e_M} : s_S X (d + 1) 137 [.ref a0, .int a1, .int a2] m = s_j X d 137 0 [.ref a0, .int a1, .int a2, .retAddr 0] [] m := rfl
theorem u_137_0 {X : e_X} {d : Nat} {ls st : List Value} {m : e_M} : s_j X d 137 0 ls st m = s_x X d 137 [.iload 1, .sipush 0, .sipush 40, .invokeinterface 109 3, .ifCond .ne 19, .iload 2, .sipush 0, .sipush 1, .invokeinterface 109 3, .ifCond .eq 21, .jsr 19] ls st m := by
  rw [s_j, s_g_eq, g_l137]; rfl
theorem u_137_19 {X : e_X} {d : Nat} {ls st : List Value} {m : e_M} : s_j X d 137 19 ls st m = s_x X d 137 [.sipush (-1), .ireturn] ls st m := by
  rw [s_j, s_g_eq, g_l137]; rfl
theorem u_137_21 {X : e_X} {d : Nat} {ls st : List Value} {m : e_M} : s_j X d 137 21 ls st m = s_x X d 137 [.aload 0, .checkcast 576, .invokeinterface 91 1, .aload 0, .checkcast 576, .getfield 522, .sipush (-1), .ixor, .iand, .istore 3, .iload 2, .ifCond .ne 53, .aload 0, .checkcast 576, .iload 1, .iload 3, .invokeinterface 97 3, .ireturn] ls st m := by
  rw [s_j, s_g_eq, g_l137]; rfl
theorem u_137_53 {X : e_X} {d : Nat} {ls st : List Value} {m : e_M} : s_j X d 137 53 ls st m = s_x X d 137 [.aload 0, .checkcast 576, .iload 1, .iload 3, .invokeinterface 98 3, .ireturn] ls st m := by
  rw [s_j, s_g_eq, g_l137]; rfl
/-- B.best -/
theorem g_l138 (l : Nat) : g_P 138 l = (g_c138.lookup l).getD [] := rfl
theorem v_138 {X : e_X} {d : Nat} (a0 : Nat) (a1 : Int32) {m : e_M} : s_S X (d + 1) 138 [.ref a0, .int a1] m = s_j X d 138 0 [.ref a0, .int a1] [] m := rfl
theorem u_138_0 {X : e_X} {d : Nat} {ls st : List Value} {m : e_M} : s_j X d 138 0 ls st m = s_x X d 138 [.iload 1, .sipush 0, .sipush 4, .invokeinterface 109 3, .ifCond .eq 11, .sipush (-1), .ireturn] ls st m := by
  rw [s_j, s_g_eq, g_l138]; rfl
theorem u_138_11 {X : e_X} {d : Nat} {ls st : List Value} {m : e_M} : s_j X d 138 11 ls st m = s_x X d 138 [.aload 0, .checkcast 580, .iload 1, .sipush 0, .invokeinterface 18 3, .aload 0, .checkcast 580, .getfield 133, .ireturn] ls st m := by
  rw [s_j, s_g_eq, g_l138]; rfl
/-- B.ith -/
theorem g_l139 (l : Nat) : g_P 139 l = (g_c139.lookup l).getD [] := rfl
theorem v_139 {X : e_X} {d : Nat} (a0 : Nat) (a1 : Int32) (a2 : Int32) {m : e_M} : s_S X (d + 1) 139 [.ref a0, .int a1, .int a2] m = s_j X d 139 0 [.ref a0, .int a1, .int a2] [] m := rfl
theorem u_139_0 {X : e_X} {d : Nat} {ls st : List Value} {m : e_M} : s_j X d 139 0 ls st m = s_x X d 139 [.iload 1, .sipush 0, .sipush 4, .invokeinterface 109 3, .ifCond .ne 18, .iload 2, .sipush 0, .sipush 3, .invokeinterface 109 3, .ifCond .eq 20, .jsr 18] ls st m := by
  rw [s_j, s_g_eq, g_l139]; rfl
theorem u_139_18 {X : e_X} {d : Nat} {ls st : List Value} {m : e_M} : s_j X d 139 18 ls st m = s_x X d 139 [.sipush (-1), .ireturn] ls st m := by
  rw [s_j, s_g_eq, g_l139]; rfl
theorem u_139_20 {X : e_X} {d : Nat} {ls st : List Value} {m : e_M} : s_j X d 139 20 ls st m = s_x X d 139 [.aload 0, .checkcast 580, .iload 1, .sipush 0, .invokeinterface 18 3, .iload 2, .aload 0, .checkcast 580, .getfield 131, .if_icmp .ge 52, .aload 0, .checkcast 580, .checkcast 130, .iload 2, .iaload, .goto 54] ls st m := by
  rw [s_j, s_g_eq, g_l139]; rfl
theorem u_139_52 {X : e_X} {d : Nat} {ls st : List Value} {m : e_M} : s_j X d 139 52 ls st m = s_x X d 139 [.sipush (-3), .jsr 54] ls st m := by
  rw [s_j, s_g_eq, g_l139]; rfl
theorem u_139_54 {X : e_X} {d : Nat} {ls st : List Value} {m : e_M} : s_j X d 139 54 ls st m = s_x X d 139 [.ireturn] ls st m := by
  rw [s_j, s_g_eq, g_l139]; rfl
/-- B.ways -/
theorem g_l140 (l : Nat) : g_P 140 l = (g_c140.lookup l).getD [] := rfl
theorem v_140 {X : e_X} {d : Nat} (a0 : Nat) (a1 : Int32) {m : e_M} : s_S X (d + 1) 140 [.ref a0, .int a1] m = s_j X d 140 0 [.ref a0, .int a1] [] m := rfl
theorem u_140_0 {X : e_X} {d : Nat} {ls st : List Value} {m : e_M} : s_j X d 140 0 ls st m = s_x X d 140 [.iload 1, .sipush 0, .sipush 4, .invokeinterface 109 3, .ifCond .eq 11, .sipush (-1), .ireturn] ls st m := by
  rw [s_j, s_g_eq, g_l140]; rfl
theorem u_140_11 {X : e_X} {d : Nat} {ls st : List Value} {m : e_M} : s_j X d 140 11 ls st m = s_x X d 140 [.aload 0, .checkcast 580, .iload 1, .sipush 0, .invokeinterface 18 3, .aload 0, .checkcast 580, .getfield 134, .ireturn] ls st m := by
  rw [s_j, s_g_eq, g_l140]; rfl
/-- B.supper -/
theorem g_l141 (l : Nat) : g_P 141 l = (g_c141.lookup l).getD [] := rfl
theorem v_141 {X : e_X} {d : Nat} (a0 : Nat) (a1 : Int32) (a2 : Int32) {m : e_M} : s_S X (d + 1) 141 [.ref a0, .int a1, .int a2] m = s_j X d 141 0 [.ref a0, .int a1, .int a2] [] m := rfl
theorem u_141_0 {X : e_X} {d : Nat} {ls st : List Value} {m : e_M} : s_j X d 141 0 ls st m = s_x X d 141 [.iload 1, .sipush 0, .sipush 4, .invokeinterface 109 3, .ifCond .ne 24, .iload 2, .sipush 0, .aload 0, .checkcast 576, .invokeinterface 91 1, .invokeinterface 109 3, .ifCond .eq 26, .jsr 24] ls st m := by
  rw [s_j, s_g_eq, g_l141]; rfl
theorem u_141_24 {X : e_X} {d : Nat} {ls st : List Value} {m : e_M} : s_j X d 141 24 ls st m = s_x X d 141 [.sipush (-1), .ireturn] ls st m := by
  rw [s_j, s_g_eq, g_l141]; rfl
theorem u_141_26 {X : e_X} {d : Nat} {ls st : List Value} {m : e_M} : s_j X d 141 26 ls st m = s_x X d 141 [.aload 0, .checkcast 580, .iload 1, .iload 2, .invokeinterface 18 3, .aload 0, .checkcast 580, .getfield 135, .ireturn] ls st m := by
  rw [s_j, s_g_eq, g_l141]; rfl
/-- B.bars -/
theorem g_l142 (l : Nat) : g_P 142 l = (g_c142.lookup l).getD [] := rfl
theorem v_142 {X : e_X} {d : Nat} (a0 : Nat) (a1 : Int32) (a2 : Int32) {m : e_M} : s_S X (d + 1) 142 [.ref a0, .int a1, .int a2] m = s_j X d 142 0 [.ref a0, .int a1, .int a2] [] m := rfl
theorem u_142_0 {X : e_X} {d : Nat} {ls st : List Value} {m : e_M} : s_j X d 142 0 ls st m = s_x X d 142 [.iload 1, .sipush 0, .sipush 4, .invokeinterface 109 3, .ifCond .ne 24, .iload 2, .sipush 0, .aload 0, .checkcast 576, .invokeinterface 91 1, .invokeinterface 109 3, .ifCond .eq 26, .jsr 24] ls st m := by
  rw [s_j, s_g_eq, g_l142]; rfl
theorem u_142_24 {X : e_X} {d : Nat} {ls st : List Value} {m : e_M} : s_j X d 142 24 ls st m = s_x X d 142 [.sipush (-1), .ireturn] ls st m := by
  rw [s_j, s_g_eq, g_l142]; rfl
theorem u_142_26 {X : e_X} {d : Nat} {ls st : List Value} {m : e_M} : s_j X d 142 26 ls st m = s_x X d 142 [.aload 0, .checkcast 580, .iload 1, .iload 2, .invokeinterface 18 3, .iload 2, .aload 0, .checkcast 580, .getfield 136, .sipush (-1), .ixor, .iand, .invokeinterface 136 1, .ireturn] ls st m := by
  rw [s_j, s_g_eq, g_l142]; rfl
/-- B.game -/
theorem g_l143 (l : Nat) : g_P 143 l = (g_c143.lookup l).getD [] := rfl
theorem v_143 {X : e_X} {d : Nat} (a0 : Nat) (a1 : Int32) {m : e_M} : s_S X (d + 1) 143 [.ref a0, .int a1] m = s_j X d 143 0 [.ref a0, .int a1] [] m := rfl
theorem u_143_0 {X : e_X} {d : Nat} {ls st : List Value} {m : e_M} : s_j X d 143 0 ls st m = s_x X d 143 [.iload 1, .sipush 1, .sipush 4, .invokeinterface 109 3, .ifCond .eq 11, .sipush (-1), .ireturn] ls st m := by
  rw [s_j, s_g_eq, g_l143]; rfl
theorem u_143_11 {X : e_X} {d : Nat} {ls st : List Value} {m : e_M} : s_j X d 143 11 ls st m = s_x X d 143 [.aload 0, .checkcast 580, .aload 0, .checkcast 576, .iload 1, .invokeinterface 86 2, .sipush 1, .invokeinterface 21 3, .ireturn] ls st m := by
  rw [s_j, s_g_eq, g_l143]; rfl
/-- B.play -/
theorem g_l144 (l : Nat) : g_P 144 l = (g_c144.lookup l).getD [] := rfl
theorem v_144 {X : e_X} {d : Nat} (a0 : Nat) (a1 : Int32) {m : e_M} : s_S X (d + 1) 144 [.ref a0, .int a1] m = s_j X d 144 0 [.ref a0, .int a1] [] m := rfl
theorem u_144_0 {X : e_X} {d : Nat} {ls st : List Value} {m : e_M} : s_j X d 144 0 ls st m = s_x X d 144 [.iload 1, .sipush 1, .sipush 4, .invokeinterface 109 3, .ifCond .eq 11, .sipush (-1), .ireturn] ls st m := by
  rw [s_j, s_g_eq, g_l144]; rfl
theorem u_144_11 {X : e_X} {d : Nat} {ls st : List Value} {m : e_M} : s_j X d 144 11 ls st m = s_x X d 144 [.aload 0, .checkcast 576, .invokeinterface 76 1, .ifCond .eq 26, .sipush (-3), .goto 41] ls st m := by
  rw [s_j, s_g_eq, g_l144]; rfl
theorem u_144_26 {X : e_X} {d : Nat} {ls st : List Value} {m : e_M} : s_j X d 144 26 ls st m = s_x X d 144 [.aload 0, .checkcast 580, .aload 0, .checkcast 576, .iload 1, .invokeinterface 86 2, .invokeinterface 23 2, .jsr 41] ls st m := by
  rw [s_j, s_g_eq, g_l144]; rfl
theorem u_144_41 {X : e_X} {d : Nat} {ls st : List Value} {m : e_M} : s_j X d 144 41 ls st m = s_x X d 144 [.ireturn] ls st m := by
  rw [s_j, s_g_eq, g_l144]; rfl
/-- B.report -/
theorem g_l145 (l : Nat) : g_P 145 l = (g_c145.lookup l).getD [] := rfl
theorem v_145 {X : e_X} {d : Nat} (a0 : Nat) (a1 : Int32) (a2 : Int32) (a3 : Int32) (a4 : Int32) {m : e_M} : s_S X (d + 1) 145 [.ref a0, .int a1, .int a2, .int a3, .int a4] m = s_j X d 145 0 [.ref a0, .int a1, .int a2, .int a3, .int a4, .retAddr 0] [] m := rfl
theorem u_145_0 {X : e_X} {d : Nat} {ls st : List Value} {m : e_M} : s_j X d 145 0 ls st m = s_x X d 145 [.iload 1, .sipush 0, .sipush 15, .invokeinterface 109 3, .ifCond .ne 19, .iload 2, .sipush 0, .sipush 1, .invokeinterface 109 3, .ifCond .eq 21, .jsr 19] ls st m := by
  rw [s_j, s_g_eq, g_l145]; rfl
theorem u_145_19 {X : e_X} {d : Nat} {ls st : List Value} {m : e_M} : s_j X d 145 19 ls st m = s_x X d 145 [.sipush (-1), .ireturn] ls st m := by
  rw [s_j, s_g_eq, g_l145]; rfl
theorem u_145_21 {X : e_X} {d : Nat} {ls st : List Value} {m : e_M} : s_j X d 145 21 ls st m = s_x X d 145 [.iload 2, .ifCond .ne 30, .sipush 40, .goto 32] ls st m := by
  rw [s_j, s_g_eq, g_l145]; rfl
theorem u_145_30 {X : e_X} {d : Nat} {ls st : List Value} {m : e_M} : s_j X d 145 30 ls st m = s_x X d 145 [.sipush 9, .jsr 32] ls st m := by
  rw [s_j, s_g_eq, g_l145]; rfl
theorem u_145_32 {X : e_X} {d : Nat} {ls st : List Value} {m : e_M} : s_j X d 145 32 ls st m = s_x X d 145 [.istore 5, .iload 3, .sipush 0, .iload 5, .invokeinterface 109 3, .ifCond .ne 55, .iload 4, .iload 3, .iload 5, .invokeinterface 109 3, .ifCond .eq 57, .jsr 55] ls st m := by
  rw [s_j, s_g_eq, g_l145]; rfl
theorem u_145_55 {X : e_X} {d : Nat} {ls st : List Value} {m : e_M} : s_j X d 145 55 ls st m = s_x X d 145 [.sipush (-1), .ireturn] ls st m := by
  rw [s_j, s_g_eq, g_l145]; rfl
theorem u_145_57 {X : e_X} {d : Nat} {ls st : List Value} {m : e_M} : s_j X d 145 57 ls st m = s_x X d 145 [.aload 0, .checkcast 576, .checkcast 520, .getfield 260, .sipush 6, .if_icmp .lt 75, .sipush (-2), .ireturn] ls st m := by
  rw [s_j, s_g_eq, g_l145]; rfl
theorem u_145_75 {X : e_X} {d : Nat} {ls st : List Value} {m : e_M} : s_j X d 145 75 ls st m = s_x X d 145 [.aload 0, .checkcast 576, .checkcast 520, .iload 1, .iload 2, .iload 3, .iload 4, .invokeinterface 49 5, .ireturn] ls st m := by
  rw [s_j, s_g_eq, g_l145]; rfl
/-- B.forget -/
theorem g_l146 (l : Nat) : g_P 146 l = (g_c146.lookup l).getD [] := rfl
theorem v_146 {X : e_X} {d : Nat} (a0 : Nat) {m : e_M} : s_S X (d + 1) 146 [.ref a0] m = s_j X d 146 0 [.ref a0, .retAddr 0] [] m := rfl
theorem u_146_0 {X : e_X} {d : Nat} {ls st : List Value} {m : e_M} : s_j X d 146 0 ls st m = s_x X d 146 [.aload 0, .checkcast 576, .checkcast 520, .getfield 260, .istore 1, .aload 0, .checkcast 576, .checkcast 520, .sipush 0, .putfield 260, .iload 1, .ireturn] ls st m := by
  rw [s_j, s_g_eq, g_l146]; rfl
/-- B.lost -/
theorem g_l147 (l : Nat) : g_P 147 l = (g_c147.lookup l).getD [] := rfl
theorem v_147 {X : e_X} {d : Nat} (a0 : Nat) (a1 : Int32) {m : e_M} : s_S X (d + 1) 147 [.ref a0, .int a1] m = s_j X d 147 0 [.ref a0, .int a1] [] m := rfl
theorem u_147_0 {X : e_X} {d : Nat} {ls st : List Value} {m : e_M} : s_j X d 147 0 ls st m = s_x X d 147 [.iload 1, .sipush 0, .sipush 3, .invokeinterface 109 3, .ifCond .eq 11, .sipush (-1), .ireturn] ls st m := by
  rw [s_j, s_g_eq, g_l147]; rfl
theorem u_147_11 {X : e_X} {d : Nat} {ls st : List Value} {m : e_M} : s_j X d 147 11 ls st m = s_x X d 147 [.iload 1, .ifCond .ne 25, .aload 0, .checkcast 576, .invokeinterface 99 1, .goto 33] ls st m := by
  rw [s_j, s_g_eq, g_l147]; rfl
theorem u_147_25 {X : e_X} {d : Nat} {ls st : List Value} {m : e_M} : s_j X d 147 25 ls st m = s_x X d 147 [.aload 0, .checkcast 576, .iload 1, .invokeinterface 101 2, .jsr 33] ls st m := by
  rw [s_j, s_g_eq, g_l147]; rfl
theorem u_147_33 {X : e_X} {d : Nat} {ls st : List Value} {m : e_M} : s_j X d 147 33 ls st m = s_x X d 147 [.ireturn] ls st m := by
  rw [s_j, s_g_eq, g_l147]; rfl
/-- B.liar -/
theorem g_l148 (l : Nat) : g_P 148 l = (g_c148.lookup l).getD [] := rfl
theorem v_148 {X : e_X} {d : Nat} (a0 : Nat) {m : e_M} : s_S X (d + 1) 148 [.ref a0] m = s_j X d 148 0 [.ref a0] [] m := rfl
theorem u_148_0 {X : e_X} {d : Nat} {ls st : List Value} {m : e_M} : s_j X d 148 0 ls st m = s_x X d 148 [.aload 0, .checkcast 576, .invokeinterface 102 1, .ireturn] ls st m := by
  rw [s_j, s_g_eq, g_l148]; rfl
/-- B.seed -/
theorem g_l149 (l : Nat) : g_P 149 l = (g_c149.lookup l).getD [] := rfl
theorem v_149 {X : e_X} {d : Nat} (a0 : Nat) (a1 : Int32) {m : e_M} : s_S X (d + 1) 149 [.ref a0, .int a1] m = s_j X d 149 0 [.ref a0, .int a1, .retAddr 0] [] m := rfl
theorem u_149_0 {X : e_X} {d : Nat} {ls st : List Value} {m : e_M} : s_j X d 149 0 ls st m = s_x X d 149 [.aload 0, .checkcast 576, .getfield 528, .istore 2, .aload 0, .checkcast 576, .iload 1, .putfield 528, .iload 2, .ireturn] ls st m := by
  rw [s_j, s_g_eq, g_l149]; rfl
/-- B.lot -/
theorem g_l150 (l : Nat) : g_P 150 l = (g_c150.lookup l).getD [] := rfl
theorem v_150 {X : e_X} {d : Nat} (a0 : Nat) {m : e_M} : s_S X (d + 1) 150 [.ref a0] m = s_j X d 150 0 [.ref a0] [] m := rfl
theorem u_150_0 {X : e_X} {d : Nat} {ls st : List Value} {m : e_M} : s_j X d 150 0 ls st m = s_x X d 150 [.aload 0, .checkcast 576, .invokeinterface 76 1, .ifCond .eq 13, .sipush (-4), .ireturn] ls st m := by
  rw [s_j, s_g_eq, g_l150]; rfl
theorem u_150_13 {X : e_X} {d : Nat} {ls st : List Value} {m : e_M} : s_j X d 150 13 ls st m = s_x X d 150 [.aload 0, .checkcast 576, .aload 0, .checkcast 576, .invokeinterface 103 1, .invokeinterface 78 2, .ireturn] ls st m := by
  rw [s_j, s_g_eq, g_l150]; rfl
/-- B.times -/
theorem g_l151 (l : Nat) : g_P 151 l = (g_c151.lookup l).getD [] := rfl
theorem v_151 {X : e_X} {d : Nat} (a0 : Nat) (a1 : Int32) (a2 : Int32) {m : e_M} : s_S X (d + 1) 151 [.ref a0, .int a1, .int a2] m = s_j X d 151 0 [.ref a0, .int a1, .int a2, .retAddr 0, .retAddr 0, .retAddr 0] [] m := rfl
theorem u_151_0 {X : e_X} {d : Nat} {ls st : List Value} {m : e_M} : s_j X d 151 0 ls st m = s_x X d 151 [.iload 1, .sipush 1, .sipush 40, .invokeinterface 109 3, .ifCond .ne 21, .iload 2, .sipush 0, .sipush 999, .invokeinterface 109 3, .ifCond .eq 23, .jsr 21] ls st m := by
  rw [s_j, s_g_eq, g_l151]; rfl
theorem u_151_21 {X : e_X} {d : Nat} {ls st : List Value} {m : e_M} : s_j X d 151 21 ls st m = s_x X d 151 [.sipush (-1), .ireturn] ls st m := by
  rw [s_j, s_g_eq, g_l151]; rfl
theorem u_151_23 {X : e_X} {d : Nat} {ls st : List Value} {m : e_M} : s_j X d 151 23 ls st m = s_x X d 151 [.aload 0, .checkcast 576, .getfield 528, .istore 3, .sipush 0, .istore 4, .sipush 0, .istore 5, .jsr 37] ls st m := by
  rw [s_j, s_g_eq, g_l151]; rfl
theorem u_151_37 {X : e_X} {d : Nat} {ls st : List Value} {m : e_M} : s_j X d 151 37 ls st m = s_x X d 151 [.iload 5, .iload 1, .if_icmp .ge 63, .aload 0, .checkcast 576, .invokeinterface 104 1, .iload 2, .if_icmp .lt 57, .iinc 4 1, .jsr 57] ls st m := by
  rw [s_j, s_g_eq, g_l151]; rfl
theorem u_151_57 {X : e_X} {d : Nat} {ls st : List Value} {m : e_M} : s_j X d 151 57 ls st m = s_x X d 151 [.iinc 5 1, .goto 37] ls st m := by
  rw [s_j, s_g_eq, g_l151]; rfl
theorem u_151_63 {X : e_X} {d : Nat} {ls st : List Value} {m : e_M} : s_j X d 151 63 ls st m = s_x X d 151 [.aload 0, .checkcast 576, .iload 3, .putfield 528, .iload 4, .ireturn] ls st m := by
  rw [s_j, s_g_eq, g_l151]; rfl
/-- B.prove -/
theorem g_l152 (l : Nat) : g_P 152 l = (g_c152.lookup l).getD [] := rfl
theorem v_152 {X : e_X} {d : Nat} (a0 : Nat) (a1 : Int32) {m : e_M} : s_S X (d + 1) 152 [.ref a0, .int a1] m = s_j X d 152 0 [.ref a0, .int a1] [] m := rfl
theorem u_152_0 {X : e_X} {d : Nat} {ls st : List Value} {m : e_M} : s_j X d 152 0 ls st m = s_x X d 152 [.iload 1, .sipush 0, .sipush 4, .invokeinterface 109 3, .ifCond .eq 11, .sipush (-1), .ireturn] ls st m := by
  rw [s_j, s_g_eq, g_l152]; rfl
theorem u_152_11 {X : e_X} {d : Nat} {ls st : List Value} {m : e_M} : s_j X d 152 11 ls st m = s_x X d 152 [.aload 0, .checkcast 580, .iload 1, .sipush 0, .invokeinterface 18 3, .aload 0, .checkcast 581, .aload 0, .checkcast 580, .checkcast 130, .aload 0, .checkcast 580, .getfield 131, .invokeinterface 54 3, .ireturn] ls st m := by
  rw [s_j, s_g_eq, g_l152]; rfl
/-- B.row -/
theorem g_l153 (l : Nat) : g_P 153 l = (g_c153.lookup l).getD [] := rfl
theorem v_153 {X : e_X} {d : Nat} (a0 : Nat) (a1 : Int32) (a2 : Int32) {m : e_M} : s_S X (d + 1) 153 [.ref a0, .int a1, .int a2] m = s_j X d 153 0 [.ref a0, .int a1, .int a2] [] m := rfl
theorem u_153_0 {X : e_X} {d : Nat} {ls st : List Value} {m : e_M} : s_j X d 153 0 ls st m = s_x X d 153 [.aload 0, .checkcast 581, .iload 1, .iload 2, .invokeinterface 55 3, .ifCond .eq 28, .aload 0, .checkcast 581, .checkcast 321, .sipush 3, .iload 1, .imul, .iload 2, .iadd, .iaload, .goto 30] ls st m := by
  rw [s_j, s_g_eq, g_l153]; rfl
theorem u_153_28 {X : e_X} {d : Nat} {ls st : List Value} {m : e_M} : s_j X d 153 28 ls st m = s_x X d 153 [.sipush (-9), .jsr 30] ls st m := by
  rw [s_j, s_g_eq, g_l153]; rfl
theorem u_153_30 {X : e_X} {d : Nat} {ls st : List Value} {m : e_M} : s_j X d 153 30 ls st m = s_x X d 153 [.ireturn] ls st m := by
  rw [s_j, s_g_eq, g_l153]; rfl
/-- B.alterRow -/
theorem g_l154 (l : Nat) : g_P 154 l = (g_c154.lookup l).getD [] := rfl
theorem v_154 {X : e_X} {d : Nat} (a0 : Nat) (a1 : Int32) (a2 : Int32) (a3 : Int32) {m : e_M} : s_S X (d + 1) 154 [.ref a0, .int a1, .int a2, .int a3] m = s_j X d 154 0 [.ref a0, .int a1, .int a2, .int a3] [] m := rfl
theorem u_154_0 {X : e_X} {d : Nat} {ls st : List Value} {m : e_M} : s_j X d 154 0 ls st m = s_x X d 154 [.aload 0, .checkcast 581, .iload 1, .iload 2, .invokeinterface 55 3, .ifCond .eq 31, .aload 0, .checkcast 581, .checkcast 321, .sipush 3, .iload 1, .imul, .iload 2, .iadd, .iload 3, .invokeinterface 114 3, .goto 33] ls st m := by
  rw [s_j, s_g_eq, g_l154]; rfl
theorem u_154_31 {X : e_X} {d : Nat} {ls st : List Value} {m : e_M} : s_j X d 154 31 ls st m = s_x X d 154 [.sipush (-9), .jsr 33] ls st m := by
  rw [s_j, s_g_eq, g_l154]; rfl
theorem u_154_33 {X : e_X} {d : Nat} {ls st : List Value} {m : e_M} : s_j X d 154 33 ls st m = s_x X d 154 [.ireturn] ls st m := by
  rw [s_j, s_g_eq, g_l154]; rfl
/-- B.judge -/
theorem g_l155 (l : Nat) : g_P 155 l = (g_c155.lookup l).getD [] := rfl
theorem v_155 {X : e_X} {d : Nat} (a0 : Nat) {m : e_M} : s_S X (d + 1) 155 [.ref a0] m = s_j X d 155 0 [.ref a0] [] m := rfl
theorem u_155_0 {X : e_X} {d : Nat} {ls st : List Value} {m : e_M} : s_j X d 155 0 ls st m = s_x X d 155 [.aload 0, .checkcast 581, .invokeinterface 56 1, .ireturn] ls st m := by
  rw [s_j, s_g_eq, g_l155]; rfl
/-- B.sheet -/
theorem g_l156 (l : Nat) : g_P 156 l = (g_c156.lookup l).getD [] := rfl
theorem v_156 {X : e_X} {d : Nat} (a0 : Nat) (a1 : Int32) (a2 : Int32) (a3 : Int32) {m : e_M} : s_S X (d + 1) 156 [.ref a0, .int a1, .int a2, .int a3] m = s_j X d 156 0 [.ref a0, .int a1, .int a2, .int a3] [] m := rfl
theorem u_156_0 {X : e_X} {d : Nat} {ls st : List Value} {m : e_M} : s_j X d 156 0 ls st m = s_x X d 156 [.iload 1, .sipush 0, .sipush 3, .invokeinterface 109 3, .ifCond .ne 18, .iload 2, .sipush (-1), .sipush 4, .invokeinterface 109 3, .ifCond .eq 20, .jsr 18] ls st m := by
  rw [s_j, s_g_eq, g_l156]; rfl
theorem u_156_18 {X : e_X} {d : Nat} {ls st : List Value} {m : e_M} : s_j X d 156 18 ls st m = s_x X d 156 [.sipush (-1), .ireturn] ls st m := by
  rw [s_j, s_g_eq, g_l156]; rfl
theorem u_156_20 {X : e_X} {d : Nat} {ls st : List Value} {m : e_M} : s_j X d 156 20 ls st m = s_x X d 156 [.iload 2, .sipush (-1), .if_icmp .eq 33, .iload 3, .sipush 40, .if_icmp .le 33, .sipush (-1), .ireturn] ls st m := by
  rw [s_j, s_g_eq, g_l156]; rfl
theorem u_156_33 {X : e_X} {d : Nat} {ls st : List Value} {m : e_M} : s_j X d 156 33 ls st m = s_x X d 156 [.iload 2, .sipush (-1), .if_icmp .eq 45, .iload 3, .ifCond .ge 45, .sipush (-14), .ireturn] ls st m := by
  rw [s_j, s_g_eq, g_l156]; rfl
theorem u_156_45 {X : e_X} {d : Nat} {ls st : List Value} {m : e_M} : s_j X d 156 45 ls st m = s_x X d 156 [.aload 0, .checkcast 582, .iload 1, .aaload, .iload 2, .iload 2, .sipush (-1), .if_icmp .ne 61, .sipush 0, .goto 62] ls st m := by
  rw [s_j, s_g_eq, g_l156]; rfl
theorem u_156_61 {X : e_X} {d : Nat} {ls st : List Value} {m : e_M} : s_j X d 156 61 ls st m = s_x X d 156 [.iload 3, .jsr 62] ls st m := by
  rw [s_j, s_g_eq, g_l156]; rfl
theorem u_156_62 {X : e_X} {d : Nat} {ls st : List Value} {m : e_M} : s_j X d 156 62 ls st m = s_x X d 156 [.invokeinterface 59 3, .sipush 1, .ireturn] ls st m := by
  rw [s_j, s_g_eq, g_l156]; rfl
/-- B.write -/
theorem g_l157 (l : Nat) : g_P 157 l = (g_c157.lookup l).getD [] := rfl
theorem v_157 {X : e_X} {d : Nat} (a0 : Nat) (a1 : Int32) (a2 : Int32) (a3 : Int32) {m : e_M} : s_S X (d + 1) 157 [.ref a0, .int a1, .int a2, .int a3] m = s_j X d 157 0 [.ref a0, .int a1, .int a2, .int a3] [] m := rfl
theorem u_157_0 {X : e_X} {d : Nat} {ls st : List Value} {m : e_M} : s_j X d 157 0 ls st m = s_x X d 157 [.iload 1, .sipush 0, .sipush 3, .invokeinterface 109 3, .ifCond .eq 11, .sipush (-1), .ireturn] ls st m := by
  rw [s_j, s_g_eq, g_l157]; rfl
theorem u_157_11 {X : e_X} {d : Nat} {ls st : List Value} {m : e_M} : s_j X d 157 11 ls st m = s_x X d 157 [.aload 0, .checkcast 582, .iload 1, .aaload, .getfield 385, .sipush (-1), .if_icmp .ne 27, .sipush (-11), .ireturn] ls st m := by
  rw [s_j, s_g_eq, g_l157]; rfl
theorem u_157_27 {X : e_X} {d : Nat} {ls st : List Value} {m : e_M} : s_j X d 157 27 ls st m = s_x X d 157 [.aload 0, .checkcast 582, .iload 1, .aaload, .iload 2, .invokeinterface 60 2, .ifCond .ne 43, .sipush (-12), .ireturn] ls st m := by
  rw [s_j, s_g_eq, g_l157]; rfl
theorem u_157_43 {X : e_X} {d : Nat} {ls st : List Value} {m : e_M} : s_j X d 157 43 ls st m = s_x X d 157 [.aload 0, .checkcast 582, .iload 1, .aaload, .iload 2, .iload 3, .invokeinterface 61 3, .sipush 1, .ireturn] ls st m := by
  rw [s_j, s_g_eq, g_l157]; rfl
/-- B.item -/
theorem g_l158 (l : Nat) : g_P 158 l = (g_c158.lookup l).getD [] := rfl
theorem v_158 {X : e_X} {d : Nat} (a0 : Nat) (a1 : Int32) (a2 : Int32) (a3 : Int32) {m : e_M} : s_S X (d + 1) 158 [.ref a0, .int a1, .int a2, .int a3] m = s_j X d 158 0 [.ref a0, .int a1, .int a2, .int a3, .retAddr 0] [] m := rfl
theorem u_158_0 {X : e_X} {d : Nat} {ls st : List Value} {m : e_M} : s_j X d 158 0 ls st m = s_x X d 158 [.iload 1, .sipush 0, .sipush 3, .invokeinterface 109 3, .ifCond .ne 18, .iload 2, .sipush 0, .sipush 4, .invokeinterface 109 3, .ifCond .eq 20, .jsr 18] ls st m := by
  rw [s_j, s_g_eq, g_l158]; rfl
theorem u_158_18 {X : e_X} {d : Nat} {ls st : List Value} {m : e_M} : s_j X d 158 18 ls st m = s_x X d 158 [.sipush (-1), .ireturn] ls st m := by
  rw [s_j, s_g_eq, g_l158]; rfl
theorem u_158_20 {X : e_X} {d : Nat} {ls st : List Value} {m : e_M} : s_j X d 158 20 ls st m = s_x X d 158 [.aload 0, .checkcast 582, .iload 1, .aaload, .iload 2, .invokeinterface 63 2, .istore 4, .iload 4, .ifCond .eq 40, .iload 4, .ireturn] ls st m := by
  rw [s_j, s_g_eq, g_l158]; rfl
theorem u_158_40 {X : e_X} {d : Nat} {ls st : List Value} {m : e_M} : s_j X d 158 40 ls st m = s_x X d 158 [.aload 0, .checkcast 582, .iload 1, .aaload, .iload 3, .invokeinterface 60 2, .ifCond .eq 68, .aload 0, .checkcast 582, .iload 1, .aaload, .checkcast 384, .iload 3, .laload, .l2i, .goto 70] ls st m := by
  rw [s_j, s_g_eq, g_l158]; rfl
theorem u_158_68 {X : e_X} {d : Nat} {ls st : List Value} {m : e_M} : s_j X d 158 68 ls st m = s_x X d 158 [.sipush (-12), .jsr 70] ls st m := by
  rw [s_j, s_g_eq, g_l158]; rfl
theorem u_158_70 {X : e_X} {d : Nat} {ls st : List Value} {m : e_M} : s_j X d 158 70 ls st m = s_x X d 158 [.ireturn] ls st m := by
  rw [s_j, s_g_eq, g_l158]; rfl
/-- B.goAll -/
theorem g_l159 (l : Nat) : g_P 159 l = (g_c159.lookup l).getD [] := rfl
theorem v_159 {X : e_X} {d : Nat} (a0 : Nat) (a1 : Int32) (a2 : Int32) (a3 : Int32) {m : e_M} : s_S X (d + 1) 159 [.ref a0, .int a1, .int a2, .int a3] m = s_j X d 159 0 [.ref a0, .int a1, .int a2, .int a3, .retAddr 0, .retAddr 0, .retAddr 0, .retAddr 0, .retAddr 0] [] m := rfl
theorem u_159_0 {X : e_X} {d : Nat} {ls st : List Value} {m : e_M} : s_j X d 159 0 ls st m = s_x X d 159 [.iload 1, .sipush 0, .sipush 3, .invokeinterface 109 3, .ifCond .ne 19, .iload 3, .sipush 0, .sipush 20, .invokeinterface 109 3, .ifCond .eq 21, .jsr 19] ls st m := by
  rw [s_j, s_g_eq, g_l159]; rfl
theorem u_159_19 {X : e_X} {d : Nat} {ls st : List Value} {m : e_M} : s_j X d 159 19 ls st m = s_x X d 159 [.sipush (-1), .ireturn] ls st m := by
  rw [s_j, s_g_eq, g_l159]; rfl
theorem u_159_21 {X : e_X} {d : Nat} {ls st : List Value} {m : e_M} : s_j X d 159 21 ls st m = s_x X d 159 [.aload 0, .checkcast 582, .iload 1, .aaload, .astore 4, .aload 4, .sipush 0, .invokeinterface 63 2, .istore 5, .iload 5, .ifCond .eq 45, .iload 5, .ireturn] ls st m := by
  rw [s_j, s_g_eq, g_l159]; rfl
theorem u_159_45 {X : e_X} {d : Nat} {ls st : List Value} {m : e_M} : s_j X d 159 45 ls st m = s_x X d 159 [.sipush 0, .istore 6, .sipush 0, .istore 7, .jsr 51] ls st m := by
  rw [s_j, s_g_eq, g_l159]; rfl
theorem u_159_51 {X : e_X} {d : Nat} {ls st : List Value} {m : e_M} : s_j X d 159 51 ls st m = s_x X d 159 [.iload 7, .iload 3, .if_icmp .ge 127, .aload 4, .iload 2, .iload 7, .iadd, .invokeinterface 60 2, .ifCond .ne 72, .sipush (-12), .ireturn] ls st m := by
  rw [s_j, s_g_eq, g_l159]; rfl
theorem u_159_72 {X : e_X} {d : Nat} {ls st : List Value} {m : e_M} : s_j X d 159 72 ls st m = s_x X d 159 [.aload 4, .checkcast 384, .iload 2, .iload 7, .iadd, .laload, .l2i, .istore 8, .aload 0, .checkcast 576, .iload 8, .invokeinterface 105 2, .ifCond .eq 121, .aload 0, .checkcast 576, .invokeinterface 76 1, .ifCond .ne 121, .iload 6, .aload 0, .checkcast 576, .iload 8, .invokeinterface 78 2, .iadd, .istore 6, .jsr 121] ls st m := by
  rw [s_j, s_g_eq, g_l159]; rfl
theorem u_159_121 {X : e_X} {d : Nat} {ls st : List Value} {m : e_M} : s_j X d 159 121 ls st m = s_x X d 159 [.iinc 7 1, .goto 51] ls st m := by
  rw [s_j, s_g_eq, g_l159]; rfl
theorem u_159_127 {X : e_X} {d : Nat} {ls st : List Value} {m : e_M} : s_j X d 159 127 ls st m = s_x X d 159 [.iload 6, .ireturn] ls st m := by
  rw [s_j, s_g_eq, g_l159]; rfl
/-- B.wouldBe -/
theorem g_l160 (l : Nat) : g_P 160 l = (g_c160.lookup l).getD [] := rfl
theorem v_160 {X : e_X} {d : Nat} (a0 : Nat) (a1 : Int32) (a2 : Int32) (a3 : Int32) {m : e_M} : s_S X (d + 1) 160 [.ref a0, .int a1, .int a2, .int a3] m = s_j X d 160 0 [.ref a0, .int a1, .int a2, .int a3, .retAddr 0, .retAddr 0, .retAddr 0] [] m := rfl
theorem u_160_0 {X : e_X} {d : Nat} {ls st : List Value} {m : e_M} : s_j X d 160 0 ls st m = s_x X d 160 [.iload 1, .sipush 0, .sipush 3, .invokeinterface 109 3, .ifCond .ne 19, .iload 3, .sipush 0, .sipush 20, .invokeinterface 109 3, .ifCond .eq 21, .jsr 19] ls st m := by
  rw [s_j, s_g_eq, g_l160]; rfl
theorem u_160_19 {X : e_X} {d : Nat} {ls st : List Value} {m : e_M} : s_j X d 160 19 ls st m = s_x X d 160 [.sipush (-1), .ireturn] ls st m := by
  rw [s_j, s_g_eq, g_l160]; rfl
theorem u_160_21 {X : e_X} {d : Nat} {ls st : List Value} {m : e_M} : s_j X d 160 21 ls st m = s_x X d 160 [.aload 0, .checkcast 582, .iload 1, .aaload, .sipush 0, .invokeinterface 63 2, .istore 4, .iload 4, .ifCond .eq 41, .iload 4, .ireturn] ls st m := by
  rw [s_j, s_g_eq, g_l160]; rfl
theorem u_160_41 {X : e_X} {d : Nat} {ls st : List Value} {m : e_M} : s_j X d 160 41 ls st m = s_x X d 160 [.aload 0, .checkcast 576, .invokeinterface 85 1, .istore 5, .aload 0, .aload 0, .checkcast 582, .iload 1, .aaload, .iload 2, .iload 3, .invokeinterface 161 4, .istore 6, .aload 0, .checkcast 576, .iload 5, .invokeinterface 87 2, .iload 6, .ireturn] ls st m := by
  rw [s_j, s_g_eq, g_l160]; rfl
/-- B.worthOfItems -/
theorem g_l161 (l : Nat) : g_P 161 l = (g_c161.lookup l).getD [] := rfl
theorem v_161 {X : e_X} {d : Nat} (a0 : Nat) (a1 : Nat) (a2 : Int32) (a3 : Int32) {m : e_M} : s_S X (d + 1) 161 [.ref a0, .ref a1, .int a2, .int a3] m = s_j X d 161 0 [.ref a0, .ref a1, .int a2, .int a3, .retAddr 0, .retAddr 0, .retAddr 0] [] m := rfl
theorem u_161_0 {X : e_X} {d : Nat} {ls st : List Value} {m : e_M} : s_j X d 161 0 ls st m = s_x X d 161 [.sipush 0, .istore 4, .sipush 0, .istore 5, .jsr 6] ls st m := by
  rw [s_j, s_g_eq, g_l161]; rfl
theorem u_161_6 {X : e_X} {d : Nat} {ls st : List Value} {m : e_M} : s_j X d 161 6 ls st m = s_x X d 161 [.iload 5, .iload 3, .if_icmp .ge 83, .aload 1, .iload 2, .iload 5, .iadd, .invokeinterface 60 2, .ifCond .ne 26, .sipush (-12), .ireturn] ls st m := by
  rw [s_j, s_g_eq, g_l161]; rfl
theorem u_161_26 {X : e_X} {d : Nat} {ls st : List Value} {m : e_M} : s_j X d 161 26 ls st m = s_x X d 161 [.aload 1, .checkcast 384, .iload 2, .iload 5, .iadd, .laload, .l2i, .istore 6, .aload 0, .checkcast 576, .iload 6, .invokeinterface 105 2, .ifCond .eq 60, .aload 0, .checkcast 576, .invokeinterface 76 1, .ifCond .eq 63, .jsr 60] ls st m := by
  rw [s_j, s_g_eq, g_l161]; rfl
theorem u_161_60 {X : e_X} {d : Nat} {ls st : List Value} {m : e_M} : s_j X d 161 60 ls st m = s_x X d 161 [.sipush (-4), .ireturn] ls st m := by
  rw [s_j, s_g_eq, g_l161]; rfl
theorem u_161_63 {X : e_X} {d : Nat} {ls st : List Value} {m : e_M} : s_j X d 161 63 ls st m = s_x X d 161 [.iload 4, .aload 0, .checkcast 576, .iload 6, .invokeinterface 79 2, .iadd, .istore 4, .iinc 5 1, .goto 6] ls st m := by
  rw [s_j, s_g_eq, g_l161]; rfl
theorem u_161_83 {X : e_X} {d : Nat} {ls st : List Value} {m : e_M} : s_j X d 161 83 ls st m = s_x X d 161 [.iload 4, .ireturn] ls st m := by
  rw [s_j, s_g_eq, g_l161]; rfl
/-- B.shelf -/
theorem g_l162 (l : Nat) : g_P 162 l = (g_c162.lookup l).getD [] := rfl
theorem v_162 {X : e_X} {d : Nat} (a0 : Nat) (a1 : Int32) (a2 : Int32) (a3 : Int32) {m : e_M} : s_S X (d + 1) 162 [.ref a0, .int a1, .int a2, .int a3] m = s_j X d 162 0 [.ref a0, .int a1, .int a2, .int a3] [] m := rfl
theorem u_162_0 {X : e_X} {d : Nat} {ls st : List Value} {m : e_M} : s_j X d 162 0 ls st m = s_x X d 162 [.iload 1, .sipush 0, .sipush 3, .invokeinterface 109 3, .ifCond .ne 18, .iload 2, .sipush 0, .sipush 2, .invokeinterface 109 3, .ifCond .eq 20, .jsr 18] ls st m := by
  rw [s_j, s_g_eq, g_l162]; rfl
theorem u_162_18 {X : e_X} {d : Nat} {ls st : List Value} {m : e_M} : s_j X d 162 18 ls st m = s_x X d 162 [.sipush (-1), .ireturn] ls st m := by
  rw [s_j, s_g_eq, g_l162]; rfl
theorem u_162_20 {X : e_X} {d : Nat} {ls st : List Value} {m : e_M} : s_j X d 162 20 ls st m = s_x X d 162 [.iload 2, .ifCond .ne 37, .aload 0, .checkcast 576, .iload 3, .invokeinterface 69 2, .ifCond .ne 37, .sipush (-1), .ireturn] ls st m := by
  rw [s_j, s_g_eq, g_l162]; rfl
theorem u_162_37 {X : e_X} {d : Nat} {ls st : List Value} {m : e_M} : s_j X d 162 37 ls st m = s_x X d 162 [.iload 2, .sipush 1, .if_icmp .ne 53, .iload 3, .sipush 0, .sipush 3, .invokeinterface 109 3, .ifCond .eq 53, .sipush (-1), .ireturn] ls st m := by
  rw [s_j, s_g_eq, g_l162]; rfl
theorem u_162_53 {X : e_X} {d : Nat} {ls st : List Value} {m : e_M} : s_j X d 162 53 ls st m = s_x X d 162 [.iload 2, .sipush 1, .if_icmp .ne 88, .aload 0, .checkcast 583, .iload 1, .aaload, .aload 0, .checkcast 582, .iload 3, .aaload, .getfield 385, .aload 0, .checkcast 582, .iload 3, .aaload, .getfield 386, .invokeinterface 65 3, .goto 99] ls st m := by
  rw [s_j, s_g_eq, g_l162]; rfl
theorem u_162_88 {X : e_X} {d : Nat} {ls st : List Value} {m : e_M} : s_j X d 162 88 ls st m = s_x X d 162 [.aload 0, .checkcast 583, .iload 1, .aaload, .iload 2, .iload 3, .invokeinterface 66 3, .jsr 99] ls st m := by
  rw [s_j, s_g_eq, g_l162]; rfl
theorem u_162_99 {X : e_X} {d : Nat} {ls st : List Value} {m : e_M} : s_j X d 162 99 ls st m = s_x X d 162 [.sipush 1, .ireturn] ls st m := by
  rw [s_j, s_g_eq, g_l162]; rfl
/-- B.taken -/
theorem g_l163 (l : Nat) : g_P 163 l = (g_c163.lookup l).getD [] := rfl
theorem v_163 {X : e_X} {d : Nat} (a0 : Nat) (a1 : Int32) (a2 : Int32) {m : e_M} : s_S X (d + 1) 163 [.ref a0, .int a1, .int a2] m = s_j X d 163 0 [.ref a0, .int a1, .int a2, .retAddr 0, .retAddr 0, .retAddr 0, .retAddr 0] [] m := rfl
theorem u_163_0 {X : e_X} {d : Nat} {ls st : List Value} {m : e_M} : s_j X d 163 0 ls st m = s_x X d 163 [.iload 2, .sipush 0, .sipush 5, .invokeinterface 109 3, .ifCond .ne 13, .sipush 1, .goto 14] ls st m := by
  rw [s_j, s_g_eq, g_l163]; rfl
theorem u_163_13 {X : e_X} {d : Nat} {ls st : List Value} {m : e_M} : s_j X d 163 13 ls st m = s_x X d 163 [.sipush 0, .jsr 14] ls st m := by
  rw [s_j, s_g_eq, g_l163]; rfl
theorem u_163_14 {X : e_X} {d : Nat} {ls st : List Value} {m : e_M} : s_j X d 163 14 ls st m = s_x X d 163 [.istore 3, .iload 2, .sipush 10, .sipush 14, .invokeinterface 109 3, .ifCond .ne 30, .sipush 1, .goto 31] ls st m := by
  rw [s_j, s_g_eq, g_l163]; rfl
theorem u_163_30 {X : e_X} {d : Nat} {ls st : List Value} {m : e_M} : s_j X d 163 30 ls st m = s_x X d 163 [.sipush 0, .jsr 31] ls st m := by
  rw [s_j, s_g_eq, g_l163]; rfl
theorem u_163_31 {X : e_X} {d : Nat} {ls st : List Value} {m : e_M} : s_j X d 163 31 ls st m = s_x X d 163 [.istore 4, .iload 1, .sipush 0, .sipush 3, .invokeinterface 109 3, .ifCond .ne 51, .iload 3, .ifCond .ne 53, .iload 4, .ifCond .ne 53, .jsr 51] ls st m := by
  rw [s_j, s_g_eq, g_l163]; rfl
theorem u_163_51 {X : e_X} {d : Nat} {ls st : List Value} {m : e_M} : s_j X d 163 51 ls st m = s_x X d 163 [.sipush (-1), .ireturn] ls st m := by
  rw [s_j, s_g_eq, g_l163]; rfl
theorem u_163_53 {X : e_X} {d : Nat} {ls st : List Value} {m : e_M} : s_j X d 163 53 ls st m = s_x X d 163 [.aload 0, .checkcast 583, .iload 1, .aaload, .astore 5, .aload 0, .aload 5, .invokeinterface 164 2, .istore 6, .iload 6, .sipush 2, .if_icmp .ne 78, .sipush (-11), .ireturn] ls st m := by
  rw [s_j, s_g_eq, g_l163]; rfl
theorem u_163_78 {X : e_X} {d : Nat} {ls st : List Value} {m : e_M} : s_j X d 163 78 ls st m = s_x X d 163 [.iload 6, .sipush 1, .if_icmp .ne 112, .iload 4, .ifCond .eq 109, .aload 5, .getfield 450, .iload 2, .sipush 10, .isub, .if_icmp .ne 109, .aload 5, .getfield 451, .goto 111] ls st m := by
  rw [s_j, s_g_eq, g_l163]; rfl
theorem u_163_109 {X : e_X} {d : Nat} {ls st : List Value} {m : e_M} : s_j X d 163 109 ls st m = s_x X d 163 [.sipush (-13), .jsr 111] ls st m := by
  rw [s_j, s_g_eq, g_l163]; rfl
theorem u_163_111 {X : e_X} {d : Nat} {ls st : List Value} {m : e_M} : s_j X d 163 111 ls st m = s_x X d 163 [.ireturn] ls st m := by
  rw [s_j, s_g_eq, g_l163]; rfl
theorem u_163_112 {X : e_X} {d : Nat} {ls st : List Value} {m : e_M} : s_j X d 163 112 ls st m = s_x X d 163 [.iload 3, .ifCond .eq 144, .aload 0, .checkcast 576, .checkcast 512, .aload 5, .getfield 449, .iaload, .iload 2, .invokeinterface 112 2, .ifCond .eq 144, .aload 5, .getfield 449, .goto 146] ls st m := by
  rw [s_j, s_g_eq, g_l163]; rfl
theorem u_163_144 {X : e_X} {d : Nat} {ls st : List Value} {m : e_M} : s_j X d 163 144 ls st m = s_x X d 163 [.sipush (-13), .jsr 146] ls st m := by
  rw [s_j, s_g_eq, g_l163]; rfl
theorem u_163_146 {X : e_X} {d : Nat} {ls st : List Value} {m : e_M} : s_j X d 163 146 ls st m = s_x X d 163 [.ireturn] ls st m := by
  rw [s_j, s_g_eq, g_l163]; rfl
/-- B.heldOn -/
theorem g_l164 (l : Nat) : g_P 164 l = (g_c164.lookup l).getD [] := rfl
theorem v_164 {X : e_X} {d : Nat} (a0 : Nat) (a1 : Nat) {m : e_M} : s_S X (d + 1) 164 [.ref a0, .ref a1] m = s_j X d 164 0 [.ref a0, .ref a1] [] m := rfl
theorem u_164_0 {X : e_X} {d : Nat} {ls st : List Value} {m : e_M} : s_j X d 164 0 ls st m = s_x X d 164 [.aload 1, .getfield 448, .ifCond .ne 23, .aload 0, .checkcast 576, .aload 1, .getfield 449, .invokeinterface 69 2, .ifCond .ne 23, .sipush 2, .ireturn] ls st m := by
  rw [s_j, s_g_eq, g_l164]; rfl
theorem u_164_23 {X : e_X} {d : Nat} {ls st : List Value} {m : e_M} : s_j X d 164 23 ls st m = s_x X d 164 [.aload 1, .getfield 448, .ireturn] ls st m := by
  rw [s_j, s_g_eq, g_l164]; rfl
/-- B.act -/
theorem g_l165 (l : Nat) : g_P 165 l = (g_c165.lookup l).getD [] := rfl
theorem v_165 {X : e_X} {d : Nat} (a0 : Nat) (a1 : Int32) (a2 : Int32) (a3 : Int32) {m : e_M} : s_S X (d + 1) 165 [.ref a0, .int a1, .int a2, .int a3] m = s_j X d 165 0 [.ref a0, .int a1, .int a2, .int a3, .retAddr 0] [] m := rfl
theorem u_165_0 {X : e_X} {d : Nat} {ls st : List Value} {m : e_M} : s_j X d 165 0 ls st m = s_x X d 165 [.aload 0, .checkcast 584, .sipush 0, .putfield 1, .iload 1, .sipush 0, .sipush 3, .invokeinterface 109 3, .ifCond .ne 26, .iload 2, .sipush 0, .sipush 3, .invokeinterface 109 3, .ifCond .eq 28, .jsr 26] ls st m := by
  rw [s_j, s_g_eq, g_l165]; rfl
theorem u_165_26 {X : e_X} {d : Nat} {ls st : List Value} {m : e_M} : s_j X d 165 26 ls st m = s_x X d 165 [.sipush 0, .ireturn] ls st m := by
  rw [s_j, s_g_eq, g_l165]; rfl
theorem u_165_28 {X : e_X} {d : Nat} {ls st : List Value} {m : e_M} : s_j X d 165 28 ls st m = s_x X d 165 [.aload 0, .aload 0, .checkcast 583, .iload 1, .aaload, .invokeinterface 164 2, .ifCond .eq 43, .sipush 0, .ireturn] ls st m := by
  rw [s_j, s_g_eq, g_l165]; rfl
theorem u_165_43 {X : e_X} {d : Nat} {ls st : List Value} {m : e_M} : s_j X d 165 43 ls st m = s_x X d 165 [.aload 0, .checkcast 583, .iload 1, .aaload, .getfield 449, .istore 4, .aload 0, .checkcast 584, .aload 0, .checkcast 576, .checkcast 512, .iload 4, .iaload, .iload 4, .aload 0, .checkcast 576, .checkcast 515, .iload 4, .iaload, .invokeinterface 1 4, .aload 0, .checkcast 584, .iload 2, .iload 3, .invokeinterface 2 3, .ireturn] ls st m := by
  rw [s_j, s_g_eq, g_l165]; rfl
/-- B.trace -/
theorem g_l166 (l : Nat) : g_P 166 l = (g_c166.lookup l).getD [] := rfl
theorem v_166 {X : e_X} {d : Nat} (a0 : Nat) (a1 : Int32) {m : e_M} : s_S X (d + 1) 166 [.ref a0, .int a1] m = s_j X d 166 0 [.ref a0, .int a1] [] m := rfl
theorem u_166_0 {X : e_X} {d : Nat} {ls st : List Value} {m : e_M} : s_j X d 166 0 ls st m = s_x X d 166 [.iload 1, .sipush 0, .aload 0, .checkcast 584, .getfield 1, .sipush 1, .isub, .invokeinterface 109 3, .ifCond .eq 22, .sipush (-3), .goto 31] ls st m := by
  rw [s_j, s_g_eq, g_l166]; rfl
theorem u_166_22 {X : e_X} {d : Nat} {ls st : List Value} {m : e_M} : s_j X d 166 22 ls st m = s_x X d 166 [.aload 0, .checkcast 584, .checkcast 0, .iload 1, .iaload, .jsr 31] ls st m := by
  rw [s_j, s_g_eq, g_l166]; rfl
theorem u_166_31 {X : e_X} {d : Nat} {ls st : List Value} {m : e_M} : s_j X d 166 31 ls st m = s_x X d 166 [.ireturn] ls st m := by
  rw [s_j, s_g_eq, g_l166]; rfl
/-- B.many -/
theorem g_l167 (l : Nat) : g_P 167 l = (g_c167.lookup l).getD [] := rfl
theorem v_167 {X : e_X} {d : Nat} (a0 : Nat) (a1 : Int32) {m : e_M} : s_S X (d + 1) 167 [.ref a0, .int a1] m = s_j X d 167 0 [.ref a0, .int a1] [] m := rfl
theorem u_167_0 {X : e_X} {d : Nat} {ls st : List Value} {m : e_M} : s_j X d 167 0 ls st m = s_x X d 167 [.iload 1, .lookupswitch 109 #[(0, 44), (1, 52), (2, 63), (3, 74), (4, 85), (5, 93), (6, 101)]] ls st m := by
  rw [s_j, s_g_eq, g_l167]; rfl
theorem u_167_44 {X : e_X} {d : Nat} {ls st : List Value} {m : e_M} : s_j X d 167 44 ls st m = s_x X d 167 [.aload 0, .checkcast 576, .getfield 521, .ireturn] ls st m := by
  rw [s_j, s_g_eq, g_l167]; rfl
theorem u_167_52 {X : e_X} {d : Nat} {ls st : List Value} {m : e_M} : s_j X d 167 52 ls st m = s_x X d 167 [.aload 0, .checkcast 576, .checkcast 519, .getfield 69, .ireturn] ls st m := by
  rw [s_j, s_g_eq, g_l167]; rfl
theorem u_167_63 {X : e_X} {d : Nat} {ls st : List Value} {m : e_M} : s_j X d 167 63 ls st m = s_x X d 167 [.aload 0, .checkcast 576, .getfield 522, .invokeinterface 300 1, .ireturn] ls st m := by
  rw [s_j, s_g_eq, g_l167]; rfl
theorem u_167_74 {X : e_X} {d : Nat} {ls st : List Value} {m : e_M} : s_j X d 167 74 ls st m = s_x X d 167 [.aload 0, .checkcast 576, .checkcast 520, .getfield 260, .ireturn] ls st m := by
  rw [s_j, s_g_eq, g_l167]; rfl
theorem u_167_85 {X : e_X} {d : Nat} {ls st : List Value} {m : e_M} : s_j X d 167 85 ls st m = s_x X d 167 [.aload 0, .checkcast 581, .getfield 322, .ireturn] ls st m := by
  rw [s_j, s_g_eq, g_l167]; rfl
theorem u_167_93 {X : e_X} {d : Nat} {ls st : List Value} {m : e_M} : s_j X d 167 93 ls st m = s_x X d 167 [.aload 0, .checkcast 579, .getfield 194, .ireturn] ls st m := by
  rw [s_j, s_g_eq, g_l167]; rfl
theorem u_167_101 {X : e_X} {d : Nat} {ls st : List Value} {m : e_M} : s_j X d 167 101 ls st m = s_x X d 167 [.aload 0, .checkcast 584, .getfield 1, .ireturn] ls st m := by
  rw [s_j, s_g_eq, g_l167]; rfl
theorem u_167_109 {X : e_X} {d : Nat} {ls st : List Value} {m : e_M} : s_j X d 167 109 ls st m = s_x X d 167 [.sipush (-1), .ireturn] ls st m := by
  rw [s_j, s_g_eq, g_l167]; rfl
/-- B.keep -/
theorem g_l168 (l : Nat) : g_P 168 l = (g_c168.lookup l).getD [] := rfl
theorem v_168 {X : e_X} {d : Nat} (a0 : Nat) {m : e_M} : s_S X (d + 1) 168 [.ref a0] m = s_j X d 168 0 [.ref a0] [] m := rfl
theorem u_168_0 {X : e_X} {d : Nat} {ls st : List Value} {m : e_M} : s_j X d 168 0 ls st m = s_x X d 168 [.aload 0, .checkcast 577, .aload 0, .checkcast 576, .invokeinterface 106 2, .aload 0, .sipush 1, .putfield 578, .sipush 1, .ireturn] ls st m := by
  rw [s_j, s_g_eq, g_l168]; rfl
/-- B.again -/
theorem g_l169 (l : Nat) : g_P 169 l = (g_c169.lookup l).getD [] := rfl
theorem v_169 {X : e_X} {d : Nat} (a0 : Nat) {m : e_M} : s_S X (d + 1) 169 [.ref a0] m = s_j X d 169 0 [.ref a0] [] m := rfl
theorem u_169_0 {X : e_X} {d : Nat} {ls st : List Value} {m : e_M} : s_j X d 169 0 ls st m = s_x X d 169 [.aload 0, .getfield 578, .ifCond .ne 10, .sipush (-3), .ireturn] ls st m := by
  rw [s_j, s_g_eq, g_l169]; rfl
theorem u_169_10 {X : e_X} {d : Nat} {ls st : List Value} {m : e_M} : s_j X d 169 10 ls st m = s_x X d 169 [.aload 0, .checkcast 576, .aload 0, .checkcast 577, .invokeinterface 106 2, .aload 0, .checkcast 576, .getfield 521, .ireturn] ls st m := by
  rw [s_j, s_g_eq, g_l169]; rfl
/-- M.feed -/
theorem g_l171 (l : Nat) : g_P 171 l = (g_c171.lookup l).getD [] := rfl
theorem v_171 {X : e_X} {d : Nat} (a0 : Nat) (a1 : Int64) (a2 : Int32) {m : e_M} : s_S X (d + 1) 171 [.ref a0, .long a1, .int a2] m = s_j X d 171 0 [.ref a0, .long a1, .retAddr 0, .int a2, .retAddr 0] [] m := rfl
theorem u_171_0 {X : e_X} {d : Nat} {ls st : List Value} {m : e_M} : s_j X d 171 0 ls st m = s_x X d 171 [.iload 3, .sipush 1, .sipush 8, .invokeinterface 172 3, .ifCond .ne 12, .sipush (-1), .ireturn] ls st m := by
  rw [s_j, s_g_eq, g_l171]; rfl
theorem u_171_12 {X : e_X} {d : Nat} {ls st : List Value} {m : e_M} : s_j X d 171 12 ls st m = s_x X d 171 [.aload 0, .getfield 646, .iload 3, .iadd, .sipush 200, .if_icmp .le 27, .sipush (-2), .ireturn] ls st m := by
  rw [s_j, s_g_eq, g_l171]; rfl
theorem u_171_27 {X : e_X} {d : Nat} {ls st : List Value} {m : e_M} : s_j X d 171 27 ls st m = s_x X d 171 [.sipush 0, .istore 4, .jsr 30] ls st m := by
  rw [s_j, s_g_eq, g_l171]; rfl
theorem u_171_30 {X : e_X} {d : Nat} {ls st : List Value} {m : e_M} : s_j X d 171 30 ls st m = s_x X d 171 [.iload 4, .iload 3, .if_icmp .ge 73, .aload 0, .checkcast 645, .aload 0, .getfield 646, .lload 1, .sipush 8, .iload 4, .imul, .lshr, .goto_w 255, .land, .l2i, .iastore, .aload 0, .dup, .getfield 646, .sipush 1, .iadd, .putfield 646, .iinc 4 1, .goto 30] ls st m := by
  rw [s_j, s_g_eq, g_l171]; rfl
theorem u_171_73 {X : e_X} {d : Nat} {ls st : List Value} {m : e_M} : s_j X d 171 73 ls st m = s_x X d 171 [.aload 0, .getfield 646, .ireturn] ls st m := by
  rw [s_j, s_g_eq, g_l171]; rfl
/-- M.in1 -/
theorem g_l172 (l : Nat) : g_P 172 l = (g_c172.lookup l).getD [] := rfl
theorem v_172 {X : e_X} {d : Nat} (a0 : Int32) (a1 : Int32) (a2 : Int32) {m : e_M} : s_S X (d + 1) 172 [.int a0, .int a1, .int a2] m = s_j X d 172 0 [.int a0, .int a1, .int a2] [] m := rfl
theorem u_172_0 {X : e_X} {d : Nat} {ls st : List Value} {m : e_M} : s_j X d 172 0 ls st m = s_x X d 172 [.iload 0, .iload 1, .if_icmp .lt 14, .iload 0, .iload 2, .if_icmp .gt 14, .sipush 1, .goto 15] ls st m := by
  rw [s_j, s_g_eq, g_l172]; rfl
theorem u_172_14 {X : e_X} {d : Nat} {ls st : List Value} {m : e_M} : s_j X d 172 14 ls st m = s_x X d 172 [.sipush 0, .jsr 15] ls st m := by
  rw [s_j, s_g_eq, g_l172]; rfl
theorem u_172_15 {X : e_X} {d : Nat} {ls st : List Value} {m : e_M} : s_j X d 172 15 ls st m = s_x X d 172 [.ireturn] ls st m := by
  rw [s_j, s_g_eq, g_l172]; rfl
/-- M.rules -/
theorem g_l173 (l : Nat) : g_P 173 l = (g_c173.lookup l).getD [] := rfl
theorem v_173 {X : e_X} {d : Nat} (a0 : Nat) {m : e_M} : s_S X (d + 1) 173 [.ref a0] m = s_j X d 173 0 [.ref a0, .retAddr 0, .retAddr 0, .retAddr 0] [] m := rfl
theorem u_173_0 {X : e_X} {d : Nat} {ls st : List Value} {m : e_M} : s_j X d 173 0 ls st m = s_x X d 173 [.aload 0, .sipush 0, .putfield 648, .aload 0, .sipush 0, .putfield 653, .sipush 0, .istore 1, .aload 0, .invokeinterface 174 1, .sipush 1, .istore 2, .jsr 18] ls st m := by
  rw [s_j, s_g_eq, g_l173]; rfl
theorem u_173_18 {X : e_X} {d : Nat} {ls st : List Value} {m : e_M} : s_j X d 173 18 ls st m = s_x X d 173 [.iload 2, .ifCond .eq 42, .aload 0, .getfield 650, .sipush (-1), .if_icmp .eq 42, .aload 0, .iload 1, .invokeinterface 179 2, .istore 2, .iinc 1 1, .goto 18] ls st m := by
  rw [s_j, s_g_eq, g_l173]; rfl
theorem u_173_42 {X : e_X} {d : Nat} {ls st : List Value} {m : e_M} : s_j X d 173 42 ls st m = s_x X d 173 [.aload 0, .sipush 0, .putfield 646, .iload 2, .ifCond .ne 59, .sipush (-100), .aload 0, .getfield 649, .isub, .ireturn] ls st m := by
  rw [s_j, s_g_eq, g_l173]; rfl
theorem u_173_59 {X : e_X} {d : Nat} {ls st : List Value} {m : e_M} : s_j X d 173 59 ls st m = s_x X d 173 [.aload 0, .checkcast 640, .sipush 7, .iload 1, .iastore, .sipush 0, .istore 3, .jsr 69] ls st m := by
  rw [s_j, s_g_eq, g_l173]; rfl
theorem u_173_69 {X : e_X} {d : Nat} {ls st : List Value} {m : e_M} : s_j X d 173 69 ls st m = s_x X d 173 [.iload 3, .sipush 3, .iload 1, .imul, .if_icmp .ge 97, .aload 0, .checkcast 640, .sipush 98, .iload 3, .iadd, .aload 0, .checkcast 655, .iload 3, .iaload, .iastore, .iinc 3 1, .goto 69] ls st m := by
  rw [s_j, s_g_eq, g_l173]; rfl
theorem u_173_97 {X : e_X} {d : Nat} {ls st : List Value} {m : e_M} : s_j X d 173 97 ls st m = s_x X d 173 [.sipush 0, .istore 3, .jsr 99] ls st m := by
  rw [s_j, s_g_eq, g_l173]; rfl
theorem u_173_99 {X : e_X} {d : Nat} {ls st : List Value} {m : e_M} : s_j X d 173 99 ls st m = s_x X d 173 [.iload 3, .aload 0, .getfield 653, .if_icmp .ge 128, .aload 0, .checkcast 640, .sipush 122, .iload 3, .iadd, .aload 0, .checkcast 654, .iload 3, .iaload, .iastore, .iinc 3 1, .goto 99] ls st m := by
  rw [s_j, s_g_eq, g_l173]; rfl
theorem u_173_128 {X : e_X} {d : Nat} {ls st : List Value} {m : e_M} : s_j X d 173 128 ls st m = s_x X d 173 [.iload 1, .ireturn] ls st m := by
  rw [s_j, s_g_eq, g_l173]; rfl
/-- M.next -/
theorem g_l174 (l : Nat) : g_P 174 l = (g_c174.lookup l).getD [] := rfl
theorem v_174 {X : e_X} {d : Nat} (a0 : Nat) {m : e_M} : s_S X (d + 1) 174 [.ref a0] m = s_j X d 174 0 [.ref a0, .retAddr 0] [] m := rfl
theorem u_174_0 {X : e_X} {d : Nat} {ls st : List Value} {m : e_M} : s_j X d 174 0 ls st m = s_x X d 174 [.aload 0, .aload 0, .getfield 648, .invokeinterface 175 2, .sipush 32, .if_icmp .ne 26, .aload 0, .dup, .getfield 648, .sipush 1, .iadd, .putfield 648, .goto 0] ls st m := by
  rw [s_j, s_g_eq, g_l174]; rfl
theorem u_174_26 {X : e_X} {d : Nat} {ls st : List Value} {m : e_M} : s_j X d 174 26 ls st m = s_x X d 174 [.aload 0, .aload 0, .getfield 648, .putfield 649, .aload 0, .aload 0, .getfield 648, .invokeinterface 175 2, .istore 1, .iload 1, .ifCond .ge 55, .aload 0, .sipush (-1), .putfield 650, .goto 110] ls st m := by
  rw [s_j, s_g_eq, g_l174]; rfl
theorem u_174_55 {X : e_X} {d : Nat} {ls st : List Value} {m : e_M} : s_j X d 174 55 ls st m = s_x X d 174 [.iload 1, .sipush 97, .sipush 122, .invokeinterface 172 3, .ifCond .eq 73, .aload 0, .invokeinterface 176 1, .goto 110] ls st m := by
  rw [s_j, s_g_eq, g_l174]; rfl
theorem u_174_73 {X : e_X} {d : Nat} {ls st : List Value} {m : e_M} : s_j X d 174 73 ls st m = s_x X d 174 [.iload 1, .sipush 48, .sipush 57, .invokeinterface 172 3, .ifCond .eq 91, .aload 0, .invokeinterface 178 1, .goto 110] ls st m := by
  rw [s_j, s_g_eq, g_l174]; rfl
theorem u_174_91 {X : e_X} {d : Nat} {ls st : List Value} {m : e_M} : s_j X d 174 91 ls st m = s_x X d 174 [.aload 0, .sipush 200, .iload 1, .iadd, .putfield 650, .aload 0, .dup, .getfield 648, .sipush 1, .iadd, .putfield 648, .jsr 110] ls st m := by
  rw [s_j, s_g_eq, g_l174]; rfl
theorem u_174_110 {X : e_X} {d : Nat} {ls st : List Value} {m : e_M} : s_j X d 174 110 ls st m = s_x X d 174 [.return_] ls st m := by
  rw [s_j, s_g_eq, g_l174]; rfl
/-- M.byteAt -/
theorem g_l175 (l : Nat) : g_P 175 l = (g_c175.lookup l).getD [] := rfl
theorem v_175 {X : e_X} {d : Nat} (a0 : Nat) (a1 : Int32) {m : e_M} : s_S X (d + 1) 175 [.ref a0, .int a1] m = s_j X d 175 0 [.ref a0, .int a1] [] m := rfl
theorem u_175_0 {X : e_X} {d : Nat} {ls st : List Value} {m : e_M} : s_j X d 175 0 ls st m = s_x X d 175 [.iload 1, .aload 0, .getfield 646, .if_icmp .ge 17, .aload 0, .checkcast 645, .iload 1, .iaload, .goto 18] ls st m := by
  rw [s_j, s_g_eq, g_l175]; rfl
theorem u_175_17 {X : e_X} {d : Nat} {ls st : List Value} {m : e_M} : s_j X d 175 17 ls st m = s_x X d 175 [.sipush (-1), .jsr 18] ls st m := by
  rw [s_j, s_g_eq, g_l175]; rfl
theorem u_175_18 {X : e_X} {d : Nat} {ls st : List Value} {m : e_M} : s_j X d 175 18 ls st m = s_x X d 175 [.ireturn] ls st m := by
  rw [s_j, s_g_eq, g_l175]; rfl
/-- M.readsName -/
theorem g_l176 (l : Nat) : g_P 176 l = (g_c176.lookup l).getD [] := rfl
theorem v_176 {X : e_X} {d : Nat} (a0 : Nat) {m : e_M} : s_S X (d + 1) 176 [.ref a0] m = s_j X d 176 0 [.ref a0, .retAddr 0] [] m := rfl
theorem u_176_0 {X : e_X} {d : Nat} {ls st : List Value} {m : e_M} : s_j X d 176 0 ls st m = s_x X d 176 [.aload 0, .aload 0, .getfield 648, .invokeinterface 175 2, .sipush 97, .sipush 122, .invokeinterface 172 3, .ifCond .eq 31, .aload 0, .dup, .getfield 648, .sipush 1, .iadd, .putfield 648, .goto 0] ls st m := by
  rw [s_j, s_g_eq, g_l176]; rfl
theorem u_176_31 {X : e_X} {d : Nat} {ls st : List Value} {m : e_M} : s_j X d 176 31 ls st m = s_x X d 176 [.aload 0, .sipush 101, .putfield 650, .sipush 0, .istore 1, .jsr 39] ls st m := by
  rw [s_j, s_g_eq, g_l176]; rfl
theorem u_176_39 {X : e_X} {d : Nat} {ls st : List Value} {m : e_M} : s_j X d 176 39 ls st m = s_x X d 176 [.iload 1, .sipush 18, .if_icmp .ge 71, .aload 0, .aload 0, .iload 1, .invokeinterface 177 2, .ifCond .eq 58, .iload 1, .goto 62] ls st m := by
  rw [s_j, s_g_eq, g_l176]; rfl
theorem u_176_58 {X : e_X} {d : Nat} {ls st : List Value} {m : e_M} : s_j X d 176 58 ls st m = s_x X d 176 [.aload 0, .getfield 650, .jsr 62] ls st m := by
  rw [s_j, s_g_eq, g_l176]; rfl
theorem u_176_62 {X : e_X} {d : Nat} {ls st : List Value} {m : e_M} : s_j X d 176 62 ls st m = s_x X d 176 [.putfield 650, .iinc 1 1, .goto 39] ls st m := by
  rw [s_j, s_g_eq, g_l176]; rfl
theorem u_176_71 {X : e_X} {d : Nat} {ls st : List Value} {m : e_M} : s_j X d 176 71 ls st m = s_x X d 176 [.return_] ls st m := by
  rw [s_j, s_g_eq, g_l176]; rfl
/-- M.isNameOf -/
theorem g_l177 (l : Nat) : g_P 177 l = (g_c177.lookup l).getD [] := rfl
theorem v_177 {X : e_X} {d : Nat} (a0 : Nat) (a1 : Int32) {m : e_M} : s_S X (d + 1) 177 [.ref a0, .int a1] m = s_j X d 177 0 [.ref a0, .int a1, .retAddr 0, .retAddr 0] [] m := rfl
theorem u_177_0 {X : e_X} {d : Nat} {ls st : List Value} {m : e_M} : s_j X d 177 0 ls st m = s_x X d 177 [.aload 0, .getfield 648, .aload 0, .getfield 649, .isub, .sipush 8, .if_icmp .gt 18, .sipush 1, .goto 19] ls st m := by
  rw [s_j, s_g_eq, g_l177]; rfl
theorem u_177_18 {X : e_X} {d : Nat} {ls st : List Value} {m : e_M} : s_j X d 177 18 ls st m = s_x X d 177 [.sipush 0, .jsr 19] ls st m := by
  rw [s_j, s_g_eq, g_l177]; rfl
theorem u_177_19 {X : e_X} {d : Nat} {ls st : List Value} {m : e_M} : s_j X d 177 19 ls st m = s_x X d 177 [.istore 2, .sipush 0, .istore 3, .jsr 22] ls st m := by
  rw [s_j, s_g_eq, g_l177]; rfl
theorem u_177_22 {X : e_X} {d : Nat} {ls st : List Value} {m : e_M} : s_j X d 177 22 ls st m = s_x X d 177 [.iload 3, .sipush 8, .if_icmp .ge 86, .iload 2, .ifCond .eq 86, .aload 0, .checkcast 647, .sipush 8, .iload 1, .imul, .iload 3, .iadd, .caload, .aload 0, .getfield 649, .iload 3, .iadd, .aload 0, .getfield 648, .if_icmp .ge 69, .aload 0, .aload 0, .getfield 649, .iload 3, .iadd, .invokeinterface 175 2, .goto 71] ls st m := by
  rw [s_j, s_g_eq, g_l177]; rfl
theorem u_177_69 {X : e_X} {d : Nat} {ls st : List Value} {m : e_M} : s_j X d 177 69 ls st m = s_x X d 177 [.sipush 32, .jsr 71] ls st m := by
  rw [s_j, s_g_eq, g_l177]; rfl
theorem u_177_71 {X : e_X} {d : Nat} {ls st : List Value} {m : e_M} : s_j X d 177 71 ls st m = s_x X d 177 [.if_icmp .ne 78, .sipush 1, .goto 79] ls st m := by
  rw [s_j, s_g_eq, g_l177]; rfl
theorem u_177_78 {X : e_X} {d : Nat} {ls st : List Value} {m : e_M} : s_j X d 177 78 ls st m = s_x X d 177 [.sipush 0, .jsr 79] ls st m := by
  rw [s_j, s_g_eq, g_l177]; rfl
theorem u_177_79 {X : e_X} {d : Nat} {ls st : List Value} {m : e_M} : s_j X d 177 79 ls st m = s_x X d 177 [.istore 2, .iinc 3 1, .goto 22] ls st m := by
  rw [s_j, s_g_eq, g_l177]; rfl
theorem u_177_86 {X : e_X} {d : Nat} {ls st : List Value} {m : e_M} : s_j X d 177 86 ls st m = s_x X d 177 [.iload 2, .ireturn] ls st m := by
  rw [s_j, s_g_eq, g_l177]; rfl
/-- M.readsNumber -/
theorem g_l178 (l : Nat) : g_P 178 l = (g_c178.lookup l).getD [] := rfl
theorem v_178 {X : e_X} {d : Nat} (a0 : Nat) {m : e_M} : s_S X (d + 1) 178 [.ref a0] m = s_j X d 178 0 [.ref a0] [] m := rfl
theorem u_178_0 {X : e_X} {d : Nat} {ls st : List Value} {m : e_M} : s_j X d 178 0 ls st m = s_x X d 178 [.aload 0, .sipush 0, .putfield 651, .jsr 5] ls st m := by
  rw [s_j, s_g_eq, g_l178]; rfl
theorem u_178_5 {X : e_X} {d : Nat} {ls st : List Value} {m : e_M} : s_j X d 178 5 ls st m = s_x X d 178 [.aload 0, .aload 0, .getfield 648, .invokeinterface 175 2, .sipush 48, .sipush 57, .invokeinterface 172 3, .ifCond .eq 79, .aload 0, .aload 0, .getfield 648, .aload 0, .getfield 649, .isub, .sipush 4, .if_icmp .ge 59, .sipush 10, .aload 0, .getfield 651, .imul, .aload 0, .aload 0, .getfield 648, .invokeinterface 175 2, .iadd, .sipush 48, .isub, .goto 63] ls st m := by
  rw [s_j, s_g_eq, g_l178]; rfl
theorem u_178_59 {X : e_X} {d : Nat} {ls st : List Value} {m : e_M} : s_j X d 178 59 ls st m = s_x X d 178 [.aload 0, .getfield 651, .jsr 63] ls st m := by
  rw [s_j, s_g_eq, g_l178]; rfl
theorem u_178_63 {X : e_X} {d : Nat} {ls st : List Value} {m : e_M} : s_j X d 178 63 ls st m = s_x X d 178 [.putfield 651, .aload 0, .dup, .getfield 648, .sipush 1, .iadd, .putfield 648, .goto 5] ls st m := by
  rw [s_j, s_g_eq, g_l178]; rfl
theorem u_178_79 {X : e_X} {d : Nat} {ls st : List Value} {m : e_M} : s_j X d 178 79 ls st m = s_x X d 178 [.aload 0, .aload 0, .getfield 648, .aload 0, .getfield 649, .isub, .sipush 4, .if_icmp .le 98, .sipush 101, .goto 100] ls st m := by
  rw [s_j, s_g_eq, g_l178]; rfl
theorem u_178_98 {X : e_X} {d : Nat} {ls st : List Value} {m : e_M} : s_j X d 178 98 ls st m = s_x X d 178 [.sipush 100, .jsr 100] ls st m := by
  rw [s_j, s_g_eq, g_l178]; rfl
theorem u_178_100 {X : e_X} {d : Nat} {ls st : List Value} {m : e_M} : s_j X d 178 100 ls st m = s_x X d 178 [.putfield 650, .return_] ls st m := by
  rw [s_j, s_g_eq, g_l178]; rfl
/-- M.readsRule -/
theorem g_l179 (l : Nat) : g_P 179 l = (g_c179.lookup l).getD [] := rfl
theorem v_179 {X : e_X} {d : Nat} (a0 : Nat) (a1 : Int32) {m : e_M} : s_S X (d + 1) 179 [.ref a0, .int a1] m = s_j X d 179 0 [.ref a0, .int a1] [] m := rfl
theorem u_179_0 {X : e_X} {d : Nat} {ls st : List Value} {m : e_M} : s_j X d 179 0 ls st m = s_x X d 179 [.iload 1, .sipush 8, .if_icmp .eq 18, .aload 0, .getfield 650, .sipush 0, .sipush 5, .invokeinterface 172 3, .ifCond .ne 20, .jsr 18] ls st m := by
  rw [s_j, s_g_eq, g_l179]; rfl
theorem u_179_18 {X : e_X} {d : Nat} {ls st : List Value} {m : e_M} : s_j X d 179 18 ls st m = s_x X d 179 [.sipush 0, .ireturn] ls st m := by
  rw [s_j, s_g_eq, g_l179]; rfl
theorem u_179_20 {X : e_X} {d : Nat} {ls st : List Value} {m : e_M} : s_j X d 179 20 ls st m = s_x X d 179 [.aload 0, .checkcast 655, .sipush 3, .iload 1, .imul, .aload 0, .getfield 650, .iastore, .aload 0, .invokeinterface 174 1, .aload 0, .sipush 0, .putfield 652, .aload 0, .sipush 9, .invokeinterface 180 2, .ifCond .eq 59, .aload 0, .invokeinterface 181 1, .ifCond .ne 59, .sipush 0, .ireturn] ls st m := by
  rw [s_j, s_g_eq, g_l179]; rfl
theorem u_179_59 {X : e_X} {d : Nat} {ls st : List Value} {m : e_M} : s_j X d 179 59 ls st m = s_x X d 179 [.aload 0, .getfield 650, .sipush 6, .sipush 8, .invokeinterface 172 3, .ifCond .ne 75, .sipush 0, .ireturn] ls st m := by
  rw [s_j, s_g_eq, g_l179]; rfl
theorem u_179_75 {X : e_X} {d : Nat} {ls st : List Value} {m : e_M} : s_j X d 179 75 ls st m = s_x X d 179 [.aload 0, .checkcast 655, .sipush 3, .iload 1, .imul, .sipush 1, .iadd, .aload 0, .getfield 650, .sipush 6, .isub, .iastore, .aload 0, .checkcast 655, .sipush 3, .iload 1, .imul, .sipush 2, .iadd, .aload 0, .getfield 653, .iastore, .aload 0, .invokeinterface 174 1, .aload 0, .sipush 259, .invokeinterface 180 2, .ireturn] ls st m := by
  rw [s_j, s_g_eq, g_l179]; rfl
/-- M.takes -/
theorem g_l180 (l : Nat) : g_P 180 l = (g_c180.lookup l).getD [] := rfl
theorem v_180 {X : e_X} {d : Nat} (a0 : Nat) (a1 : Int32) {m : e_M} : s_S X (d + 1) 180 [.ref a0, .int a1] m = s_j X d 180 0 [.ref a0, .int a1, .retAddr 0] [] m := rfl
theorem u_180_0 {X : e_X} {d : Nat} {ls st : List Value} {m : e_M} : s_j X d 180 0 ls st m = s_x X d 180 [.aload 0, .getfield 650, .iload 1, .if_icmp .ne 12, .sipush 1, .goto 13] ls st m := by
  rw [s_j, s_g_eq, g_l180]; rfl
theorem u_180_12 {X : e_X} {d : Nat} {ls st : List Value} {m : e_M} : s_j X d 180 12 ls st m = s_x X d 180 [.sipush 0, .jsr 13] ls st m := by
  rw [s_j, s_g_eq, g_l180]; rfl
theorem u_180_13 {X : e_X} {d : Nat} {ls st : List Value} {m : e_M} : s_j X d 180 13 ls st m = s_x X d 180 [.istore 2, .iload 2, .ifCond .eq 22, .aload 0, .invokeinterface 174 1, .jsr 22] ls st m := by
  rw [s_j, s_g_eq, g_l180]; rfl
theorem u_180_22 {X : e_X} {d : Nat} {ls st : List Value} {m : e_M} : s_j X d 180 22 ls st m = s_x X d 180 [.iload 2, .ireturn] ls st m := by
  rw [s_j, s_g_eq, g_l180]; rfl
/-- M.readsCondition -/
theorem g_l181 (l : Nat) : g_P 181 l = (g_c181.lookup l).getD [] := rfl
theorem v_181 {X : e_X} {d : Nat} (a0 : Nat) {m : e_M} : s_S X (d + 1) 181 [.ref a0] m = s_j X d 181 0 [.ref a0, .retAddr 0] [] m := rfl
theorem u_181_0 {X : e_X} {d : Nat} {ls st : List Value} {m : e_M} : s_j X d 181 0 ls st m = s_x X d 181 [.aload 0, .invokeinterface 182 1, .istore 1, .jsr 5] ls st m := by
  rw [s_j, s_g_eq, g_l181]; rfl
theorem u_181_5 {X : e_X} {d : Nat} {ls st : List Value} {m : e_M} : s_j X d 181 5 ls st m = s_x X d 181 [.iload 1, .ifCond .eq 37, .aload 0, .sipush 12, .invokeinterface 180 2, .ifCond .eq 37, .aload 0, .invokeinterface 182 1, .istore 1, .iload 1, .ifCond .eq 5, .aload 0, .sipush 10014, .invokeinterface 187 2, .goto 5] ls st m := by
  rw [s_j, s_g_eq, g_l181]; rfl
theorem u_181_37 {X : e_X} {d : Nat} {ls st : List Value} {m : e_M} : s_j X d 181 37 ls st m = s_x X d 181 [.iload 1, .ireturn] ls st m := by
  rw [s_j, s_g_eq, g_l181]; rfl
/-- M.readsAll -/
theorem g_l182 (l : Nat) : g_P 182 l = (g_c182.lookup l).getD [] := rfl
theorem v_182 {X : e_X} {d : Nat} (a0 : Nat) {m : e_M} : s_S X (d + 1) 182 [.ref a0] m = s_j X d 182 0 [.ref a0, .retAddr 0] [] m := rfl
theorem u_182_0 {X : e_X} {d : Nat} {ls st : List Value} {m : e_M} : s_j X d 182 0 ls st m = s_x X d 182 [.aload 0, .invokeinterface 183 1, .istore 1, .jsr 5] ls st m := by
  rw [s_j, s_g_eq, g_l182]; rfl
theorem u_182_5 {X : e_X} {d : Nat} {ls st : List Value} {m : e_M} : s_j X d 182 5 ls st m = s_x X d 182 [.iload 1, .ifCond .eq 37, .aload 0, .sipush 11, .invokeinterface 180 2, .ifCond .eq 37, .aload 0, .invokeinterface 183 1, .istore 1, .iload 1, .ifCond .eq 5, .aload 0, .sipush 10013, .invokeinterface 187 2, .goto 5] ls st m := by
  rw [s_j, s_g_eq, g_l182]; rfl
theorem u_182_37 {X : e_X} {d : Nat} {ls st : List Value} {m : e_M} : s_j X d 182 37 ls st m = s_x X d 182 [.iload 1, .ireturn] ls st m := by
  rw [s_j, s_g_eq, g_l182]; rfl
/-- M.readsOne -/
theorem g_l183 (l : Nat) : g_P 183 l = (g_c183.lookup l).getD [] := rfl
theorem v_183 {X : e_X} {d : Nat} (a0 : Nat) {m : e_M} : s_S X (d + 1) 183 [.ref a0] m = s_j X d 183 0 [.ref a0, .retAddr 0, .retAddr 0, .retAddr 0] [] m := rfl
theorem u_183_0 {X : e_X} {d : Nat} {ls st : List Value} {m : e_M} : s_j X d 183 0 ls st m = s_x X d 183 [.sipush 0, .istore 1, .jsr 2] ls st m := by
  rw [s_j, s_g_eq, g_l183]; rfl
theorem u_183_2 {X : e_X} {d : Nat} {ls st : List Value} {m : e_M} : s_j X d 183 2 ls st m = s_x X d 183 [.aload 0, .sipush 10, .invokeinterface 180 2, .ifCond .eq 17, .iinc 1 1, .goto 2] ls st m := by
  rw [s_j, s_g_eq, g_l183]; rfl
theorem u_183_17 {X : e_X} {d : Nat} {ls st : List Value} {m : e_M} : s_j X d 183 17 ls st m = s_x X d 183 [.aload 0, .getfield 650, .sipush 240, .if_icmp .ne 34, .aload 0, .invokeinterface 184 1, .goto 38] ls st m := by
  rw [s_j, s_g_eq, g_l183]; rfl
theorem u_183_34 {X : e_X} {d : Nat} {ls st : List Value} {m : e_M} : s_j X d 183 34 ls st m = s_x X d 183 [.aload 0, .invokeinterface 185 1, .jsr 38] ls st m := by
  rw [s_j, s_g_eq, g_l183]; rfl
theorem u_183_38 {X : e_X} {d : Nat} {ls st : List Value} {m : e_M} : s_j X d 183 38 ls st m = s_x X d 183 [.istore 2, .sipush 0, .istore 3, .jsr 41] ls st m := by
  rw [s_j, s_g_eq, g_l183]; rfl
theorem u_183_41 {X : e_X} {d : Nat} {ls st : List Value} {m : e_M} : s_j X d 183 41 ls st m = s_x X d 183 [.iload 3, .iload 1, .if_icmp .ge 63, .iload 2, .ifCond .eq 63, .aload 0, .sipush 10015, .invokeinterface 187 2, .iinc 3 1, .goto 41] ls st m := by
  rw [s_j, s_g_eq, g_l183]; rfl
theorem u_183_63 {X : e_X} {d : Nat} {ls st : List Value} {m : e_M} : s_j X d 183 63 ls st m = s_x X d 183 [.iload 2, .ireturn] ls st m := by
  rw [s_j, s_g_eq, g_l183]; rfl
/-- M.readsWithin -/
theorem g_l184 (l : Nat) : g_P 184 l = (g_c184.lookup l).getD [] := rfl
theorem v_184 {X : e_X} {d : Nat} (a0 : Nat) {m : e_M} : s_S X (d + 1) 184 [.ref a0] m = s_j X d 184 0 [.ref a0] [] m := rfl
theorem u_184_0 {X : e_X} {d : Nat} {ls st : List Value} {m : e_M} : s_j X d 184 0 ls st m = s_x X d 184 [.aload 0, .getfield 652, .sipush 3, .if_icmp .ne 10, .sipush 0, .ireturn] ls st m := by
  rw [s_j, s_g_eq, g_l184]; rfl
theorem u_184_10 {X : e_X} {d : Nat} {ls st : List Value} {m : e_M} : s_j X d 184 10 ls st m = s_x X d 184 [.aload 0, .dup, .getfield 652, .sipush 1, .iadd, .putfield 652, .aload 0, .invokeinterface 174 1, .aload 0, .invokeinterface 181 1, .ifCond .eq 41, .aload 0, .sipush 241, .invokeinterface 180 2, .ifCond .ne 43, .jsr 41] ls st m := by
  rw [s_j, s_g_eq, g_l184]; rfl
theorem u_184_41 {X : e_X} {d : Nat} {ls st : List Value} {m : e_M} : s_j X d 184 41 ls st m = s_x X d 184 [.sipush 0, .ireturn] ls st m := by
  rw [s_j, s_g_eq, g_l184]; rfl
theorem u_184_43 {X : e_X} {d : Nat} {ls st : List Value} {m : e_M} : s_j X d 184 43 ls st m = s_x X d 184 [.aload 0, .dup, .getfield 652, .sipush 1, .isub, .putfield 652, .sipush 1, .ireturn] ls st m := by
  rw [s_j, s_g_eq, g_l184]; rfl
/-- M.readsLike -/
theorem g_l185 (l : Nat) : g_P 185 l = (g_c185.lookup l).getD [] := rfl
theorem v_185 {X : e_X} {d : Nat} (a0 : Nat) {m : e_M} : s_S X (d + 1) 185 [.ref a0] m = s_j X d 185 0 [.ref a0, .retAddr 0] [] m := rfl
theorem u_185_0 {X : e_X} {d : Nat} {ls st : List Value} {m : e_M} : s_j X d 185 0 ls st m = s_x X d 185 [.aload 0, .invokeinterface 186 1, .ifCond .ne 9, .sipush 0, .ireturn] ls st m := by
  rw [s_j, s_g_eq, g_l185]; rfl
theorem u_185_9 {X : e_X} {d : Nat} {ls st : List Value} {m : e_M} : s_j X d 185 9 ls st m = s_x X d 185 [.aload 0, .getfield 650, .sipush 260, .if_icmp .ne 25, .sipush 10010, .goto 58] ls st m := by
  rw [s_j, s_g_eq, g_l185]; rfl
theorem u_185_25 {X : e_X} {d : Nat} {ls st : List Value} {m : e_M} : s_j X d 185 25 ls st m = s_x X d 185 [.aload 0, .getfield 650, .sipush 261, .if_icmp .ne 41, .sipush 10011, .goto 58] ls st m := by
  rw [s_j, s_g_eq, g_l185]; rfl
theorem u_185_41 {X : e_X} {d : Nat} {ls st : List Value} {m : e_M} : s_j X d 185 41 ls st m = s_x X d 185 [.aload 0, .getfield 650, .sipush 262, .if_icmp .ne 57, .sipush 10012, .goto 58] ls st m := by
  rw [s_j, s_g_eq, g_l185]; rfl
theorem u_185_57 {X : e_X} {d : Nat} {ls st : List Value} {m : e_M} : s_j X d 185 57 ls st m = s_x X d 185 [.sipush 0, .jsr 58] ls st m := by
  rw [s_j, s_g_eq, g_l185]; rfl
theorem u_185_58 {X : e_X} {d : Nat} {ls st : List Value} {m : e_M} : s_j X d 185 58 ls st m = s_x X d 185 [.istore 1, .iload 1, .ifCond .ne 65, .sipush 0, .ireturn] ls st m := by
  rw [s_j, s_g_eq, g_l185]; rfl
theorem u_185_65 {X : e_X} {d : Nat} {ls st : List Value} {m : e_M} : s_j X d 185 65 ls st m = s_x X d 185 [.aload 0, .invokeinterface 174 1, .aload 0, .invokeinterface 186 1, .ifCond .ne 78, .sipush 0, .ireturn] ls st m := by
  rw [s_j, s_g_eq, g_l185]; rfl
theorem u_185_78 {X : e_X} {d : Nat} {ls st : List Value} {m : e_M} : s_j X d 185 78 ls st m = s_x X d 185 [.aload 0, .iload 1, .invokeinterface 187 2, .sipush 1, .ireturn] ls st m := by
  rw [s_j, s_g_eq, g_l185]; rfl
/-- M.readsValue -/
theorem g_l186 (l : Nat) : g_P 186 l = (g_c186.lookup l).getD [] := rfl
theorem v_186 {X : e_X} {d : Nat} (a0 : Nat) {m : e_M} : s_S X (d + 1) 186 [.ref a0] m = s_j X d 186 0 [.ref a0, .retAddr 0] [] m := rfl
theorem u_186_0 {X : e_X} {d : Nat} {ls st : List Value} {m : e_M} : s_j X d 186 0 ls st m = s_x X d 186 [.aload 0, .getfield 650, .sipush 100, .if_icmp .eq 23, .aload 0, .getfield 650, .sipush 13, .sipush 17, .invokeinterface 172 3, .ifCond .eq 27, .jsr 23] ls st m := by
  rw [s_j, s_g_eq, g_l186]; rfl
theorem u_186_23 {X : e_X} {d : Nat} {ls st : List Value} {m : e_M} : s_j X d 186 23 ls st m = s_x X d 186 [.sipush 1, .goto 28] ls st m := by
  rw [s_j, s_g_eq, g_l186]; rfl
theorem u_186_27 {X : e_X} {d : Nat} {ls st : List Value} {m : e_M} : s_j X d 186 27 ls st m = s_x X d 186 [.sipush 0, .jsr 28] ls st m := by
  rw [s_j, s_g_eq, g_l186]; rfl
theorem u_186_28 {X : e_X} {d : Nat} {ls st : List Value} {m : e_M} : s_j X d 186 28 ls st m = s_x X d 186 [.istore 1, .iload 1, .ifCond .eq 68, .aload 0, .aload 0, .getfield 650, .sipush 100, .if_icmp .ne 50, .aload 0, .getfield 651, .goto 61] ls st m := by
  rw [s_j, s_g_eq, g_l186]; rfl
theorem u_186_50 {X : e_X} {d : Nat} {ls st : List Value} {m : e_M} : s_j X d 186 50 ls st m = s_x X d 186 [.sipush 10000, .aload 0, .getfield 650, .iadd, .sipush 13, .isub, .jsr 61] ls st m := by
  rw [s_j, s_g_eq, g_l186]; rfl
theorem u_186_61 {X : e_X} {d : Nat} {ls st : List Value} {m : e_M} : s_j X d 186 61 ls st m = s_x X d 186 [.invokeinterface 187 2, .aload 0, .invokeinterface 174 1, .jsr 68] ls st m := by
  rw [s_j, s_g_eq, g_l186]; rfl
theorem u_186_68 {X : e_X} {d : Nat} {ls st : List Value} {m : e_M} : s_j X d 186 68 ls st m = s_x X d 186 [.iload 1, .ireturn] ls st m := by
  rw [s_j, s_g_eq, g_l186]; rfl
/-- M.lays -/
theorem g_l187 (l : Nat) : g_P 187 l = (g_c187.lookup l).getD [] := rfl
theorem v_187 {X : e_X} {d : Nat} (a0 : Nat) (a1 : Int32) {m : e_M} : s_S X (d + 1) 187 [.ref a0, .int a1] m = s_j X d 187 0 [.ref a0, .int a1] [] m := rfl
theorem u_187_0 {X : e_X} {d : Nat} {ls st : List Value} {m : e_M} : s_j X d 187 0 ls st m = s_x X d 187 [.aload 0, .checkcast 654, .aload 0, .getfield 653, .iload 1, .iastore, .aload 0, .dup, .getfield 653, .sipush 1, .iadd, .putfield 653, .return_] ls st m := by
  rw [s_j, s_g_eq, g_l187]; rfl
/-- M.plate -/
theorem g_l188 (l : Nat) : g_P 188 l = (g_c188.lookup l).getD [] := rfl
theorem v_188 {X : e_X} {d : Nat} (a0 : Nat) (a1 : Int32) (a2 : Int32) (a3 : Int32) (a4 : Int32) {m : e_M} : s_S X (d + 1) 188 [.ref a0, .int a1, .int a2, .int a3, .int a4] m = s_j X d 188 0 [.ref a0, .int a1, .int a2, .int a3, .int a4, .retAddr 0] [] m := rfl
theorem u_188_0 {X : e_X} {d : Nat} {ls st : List Value} {m : e_M} : s_j X d 188 0 ls st m = s_x X d 188 [.iload 1, .sipush 1, .sipush 5, .invokeinterface 172 3, .ifCond .eq 31, .iload 2, .invokeinterface 189 1, .ifCond .eq 31, .iload 3, .invokeinterface 190 1, .ifCond .eq 31, .iload 4, .invokeinterface 191 1, .ifCond .ne 33, .jsr 31] ls st m := by
  rw [s_j, s_g_eq, g_l188]; rfl
theorem u_188_31 {X : e_X} {d : Nat} {ls st : List Value} {m : e_M} : s_j X d 188 31 ls st m = s_x X d 188 [.sipush (-1), .ireturn] ls st m := by
  rw [s_j, s_g_eq, g_l188]; rfl
theorem u_188_33 {X : e_X} {d : Nat} {ls st : List Value} {m : e_M} : s_j X d 188 33 ls st m = s_x X d 188 [.aload 0, .checkcast 640, .sipush 6, .iaload, .sipush 6, .if_icmp .ne 48, .sipush (-2), .ireturn] ls st m := by
  rw [s_j, s_g_eq, g_l188]; rfl
theorem u_188_48 {X : e_X} {d : Nat} {ls st : List Value} {m : e_M} : s_j X d 188 48 ls st m = s_x X d 188 [.aload 0, .checkcast 640, .sipush 6, .iaload, .istore 5, .aload 0, .iload 5, .sipush 0, .iload 1, .invokeinterface 192 4, .aload 0, .iload 5, .sipush 1, .iload 2, .invokeinterface 192 4, .aload 0, .iload 5, .sipush 2, .iload 3, .invokeinterface 192 4, .aload 0, .iload 5, .sipush 3, .iload 4, .invokeinterface 192 4, .aload 0, .iload 5, .sipush 4, .sipush 0, .invokeinterface 192 4, .aload 0, .checkcast 640, .sipush 6, .dup2, .iaload, .sipush 1, .iadd, .iastore, .iload 5, .ireturn] ls st m := by
  rw [s_j, s_g_eq, g_l188]; rfl
/-- M.isFirst -/
theorem g_l189 (l : Nat) : g_P 189 l = (g_c189.lookup l).getD [] := rfl
theorem v_189 {X : e_X} {d : Nat} (a0 : Int32) {m : e_M} : s_S X (d + 1) 189 [.int a0] m = s_j X d 189 0 [.int a0] [] m := rfl
theorem u_189_0 {X : e_X} {d : Nat} {ls st : List Value} {m : e_M} : s_j X d 189 0 ls st m = s_x X d 189 [.iload 0, .sipush 0, .sipush 39, .invokeinterface 172 3, .ireturn] ls st m := by
  rw [s_j, s_g_eq, g_l189]; rfl
/-- M.isDigit -/
theorem g_l190 (l : Nat) : g_P 190 l = (g_c190.lookup l).getD [] := rfl
theorem v_190 {X : e_X} {d : Nat} (a0 : Int32) {m : e_M} : s_S X (d + 1) 190 [.int a0] m = s_j X d 190 0 [.int a0] [] m := rfl
theorem u_190_0 {X : e_X} {d : Nat} {ls st : List Value} {m : e_M} : s_j X d 190 0 ls st m = s_x X d 190 [.iload 0, .sipush 0, .sipush 9, .invokeinterface 172 3, .ireturn] ls st m := by
  rw [s_j, s_g_eq, g_l190]; rfl
/-- M.isHome -/
theorem g_l191 (l : Nat) : g_P 191 l = (g_c191.lookup l).getD [] := rfl
theorem v_191 {X : e_X} {d : Nat} (a0 : Int32) {m : e_M} : s_S X (d + 1) 191 [.int a0] m = s_j X d 191 0 [.int a0] [] m := rfl
theorem u_191_0 {X : e_X} {d : Nat} {ls st : List Value} {m : e_M} : s_j X d 191 0 ls st m = s_x X d 191 [.iload 0, .sipush 0, .sipush 5, .invokeinterface 172 3, .ireturn] ls st m := by
  rw [s_j, s_g_eq, g_l191]; rfl
/-- M.puts -/
theorem g_l192 (l : Nat) : g_P 192 l = (g_c192.lookup l).getD [] := rfl
theorem v_192 {X : e_X} {d : Nat} (a0 : Nat) (a1 : Int32) (a2 : Int32) (a3 : Int32) {m : e_M} : s_S X (d + 1) 192 [.ref a0, .int a1, .int a2, .int a3] m = s_j X d 192 0 [.ref a0, .int a1, .int a2, .int a3] [] m := rfl
theorem u_192_0 {X : e_X} {d : Nat} {ls st : List Value} {m : e_M} : s_j X d 192 0 ls st m = s_x X d 192 [.aload 0, .checkcast 640, .sipush 38, .sipush 6, .iload 1, .imul, .iadd, .iload 2, .iadd, .iload 3, .iastore, .return_] ls st m := by
  rw [s_j, s_g_eq, g_l192]; rfl
/-- M.plateOf -/
theorem g_l193 (l : Nat) : g_P 193 l = (g_c193.lookup l).getD [] := rfl
theorem v_193 {X : e_X} {d : Nat} (a0 : Nat) (a1 : Int32) (a2 : Int32) {m : e_M} : s_S X (d + 1) 193 [.ref a0, .int a1, .int a2] m = s_j X d 193 0 [.ref a0, .int a1, .int a2] [] m := rfl
theorem u_193_0 {X : e_X} {d : Nat} {ls st : List Value} {m : e_M} : s_j X d 193 0 ls st m = s_x X d 193 [.aload 0, .iload 1, .invokeinterface 194 2, .ifCond .eq 18, .iload 2, .sipush 0, .sipush 8, .invokeinterface 172 3, .ifCond .ne 20, .jsr 18] ls st m := by
  rw [s_j, s_g_eq, g_l193]; rfl
theorem u_193_18 {X : e_X} {d : Nat} {ls st : List Value} {m : e_M} : s_j X d 193 18 ls st m = s_x X d 193 [.sipush (-1), .ireturn] ls st m := by
  rw [s_j, s_g_eq, g_l193]; rfl
theorem u_193_20 {X : e_X} {d : Nat} {ls st : List Value} {m : e_M} : s_j X d 193 20 ls st m = s_x X d 193 [.iload 2, .lookupswitch 84 #[(5, 52), (6, 58), (7, 64), (8, 78)]] ls st m := by
  rw [s_j, s_g_eq, g_l193]; rfl
theorem u_193_52 {X : e_X} {d : Nat} {ls st : List Value} {m : e_M} : s_j X d 193 52 ls st m = s_x X d 193 [.aload 0, .iload 1, .invokeinterface 195 2, .ireturn] ls st m := by
  rw [s_j, s_g_eq, g_l193]; rfl
theorem u_193_58 {X : e_X} {d : Nat} {ls st : List Value} {m : e_M} : s_j X d 193 58 ls st m = s_x X d 193 [.aload 0, .iload 1, .invokeinterface 198 2, .ireturn] ls st m := by
  rw [s_j, s_g_eq, g_l193]; rfl
theorem u_193_64 {X : e_X} {d : Nat} {ls st : List Value} {m : e_M} : s_j X d 193 64 ls st m = s_x X d 193 [.aload 0, .iload 1, .invokeinterface 199 2, .ifCond .eq 76, .sipush 1, .goto 77] ls st m := by
  rw [s_j, s_g_eq, g_l193]; rfl
theorem u_193_76 {X : e_X} {d : Nat} {ls st : List Value} {m : e_M} : s_j X d 193 76 ls st m = s_x X d 193 [.sipush 0, .jsr 77] ls st m := by
  rw [s_j, s_g_eq, g_l193]; rfl
theorem u_193_77 {X : e_X} {d : Nat} {ls st : List Value} {m : e_M} : s_j X d 193 77 ls st m = s_x X d 193 [.ireturn] ls st m := by
  rw [s_j, s_g_eq, g_l193]; rfl
theorem u_193_78 {X : e_X} {d : Nat} {ls st : List Value} {m : e_M} : s_j X d 193 78 ls st m = s_x X d 193 [.aload 0, .iload 1, .invokeinterface 200 2, .ireturn] ls st m := by
  rw [s_j, s_g_eq, g_l193]; rfl
theorem u_193_84 {X : e_X} {d : Nat} {ls st : List Value} {m : e_M} : s_j X d 193 84 ls st m = s_x X d 193 [.aload 0, .iload 1, .iload 2, .invokeinterface 196 3, .ireturn] ls st m := by
  rw [s_j, s_g_eq, g_l193]; rfl
/-- M.isPiece -/
theorem g_l194 (l : Nat) : g_P 194 l = (g_c194.lookup l).getD [] := rfl
theorem v_194 {X : e_X} {d : Nat} (a0 : Nat) (a1 : Int32) {m : e_M} : s_S X (d + 1) 194 [.ref a0, .int a1] m = s_j X d 194 0 [.ref a0, .int a1] [] m := rfl
theorem u_194_0 {X : e_X} {d : Nat} {ls st : List Value} {m : e_M} : s_j X d 194 0 ls st m = s_x X d 194 [.iload 1, .sipush 0, .aload 0, .checkcast 640, .sipush 6, .iaload, .sipush 1, .isub, .invokeinterface 172 3, .ireturn] ls st m := by
  rw [s_j, s_g_eq, g_l194]; rfl
/-- M.spansOf -/
theorem g_l195 (l : Nat) : g_P 195 l = (g_c195.lookup l).getD [] := rfl
theorem v_195 {X : e_X} {d : Nat} (a0 : Nat) (a1 : Int32) {m : e_M} : s_S X (d + 1) 195 [.ref a0, .int a1] m = s_j X d 195 0 [.ref a0, .int a1] [] m := rfl
theorem u_195_0 {X : e_X} {d : Nat} {ls st : List Value} {m : e_M} : s_j X d 195 0 ls st m = s_x X d 195 [.aload 0, .iload 1, .sipush 0, .invokeinterface 196 3, .aload 0, .iload 1, .sipush 2, .invokeinterface 196 3, .aload 0, .checkcast 640, .sipush 0, .iaload, .invokeinterface 197 3, .ireturn] ls st m := by
  rw [s_j, s_g_eq, g_l195]; rfl
/-- M.get -/
theorem g_l196 (l : Nat) : g_P 196 l = (g_c196.lookup l).getD [] := rfl
theorem v_196 {X : e_X} {d : Nat} (a0 : Nat) (a1 : Int32) (a2 : Int32) {m : e_M} : s_S X (d + 1) 196 [.ref a0, .int a1, .int a2] m = s_j X d 196 0 [.ref a0, .int a1, .int a2] [] m := rfl
theorem u_196_0 {X : e_X} {d : Nat} {ls st : List Value} {m : e_M} : s_j X d 196 0 ls st m = s_x X d 196 [.aload 0, .checkcast 640, .sipush 38, .sipush 6, .iload 1, .imul, .iadd, .iload 2, .iadd, .iaload, .ireturn] ls st m := by
  rw [s_j, s_g_eq, g_l196]; rfl
/-- M.spansBy -/
theorem g_l197 (l : Nat) : g_P 197 l = (g_c197.lookup l).getD [] := rfl
theorem v_197 {X : e_X} {d : Nat} (a0 : Int32) (a1 : Int32) (a2 : Int32) {m : e_M} : s_S X (d + 1) 197 [.int a0, .int a1, .int a2] m = s_j X d 197 0 [.int a0, .int a1, .int a2, .retAddr 0, .retAddr 0] [] m := rfl
theorem u_197_0 {X : e_X} {d : Nat} {ls st : List Value} {m : e_M} : s_j X d 197 0 ls st m = s_x X d 197 [.sipush 1, .iload 1, .sipush 2, .idiv, .iadd, .istore 3, .iload 3, .sipush 2, .if_icmp .le 15, .sipush 2, .goto 16] ls st m := by
  rw [s_j, s_g_eq, g_l197]; rfl
theorem u_197_15 {X : e_X} {d : Nat} {ls st : List Value} {m : e_M} : s_j X d 197 15 ls st m = s_x X d 197 [.iload 3, .jsr 16] ls st m := by
  rw [s_j, s_g_eq, g_l197]; rfl
theorem u_197_16 {X : e_X} {d : Nat} {ls st : List Value} {m : e_M} : s_j X d 197 16 ls st m = s_x X d 197 [.istore 4, .iload 0, .lookupswitch 91 #[(1, 52), (2, 56), (3, 60), (4, 75), (5, 78)]] ls st m := by
  rw [s_j, s_g_eq, g_l197]; rfl
theorem u_197_52 {X : e_X} {d : Nat} {ls st : List Value} {m : e_M} : s_j X d 197 52 ls st m = s_x X d 197 [.sipush 2, .iload 3, .imul, .ireturn] ls st m := by
  rw [s_j, s_g_eq, g_l197]; rfl
theorem u_197_56 {X : e_X} {d : Nat} {ls st : List Value} {m : e_M} : s_j X d 197 56 ls st m = s_x X d 197 [.iload 3, .sipush 2, .iadd, .ireturn] ls st m := by
  rw [s_j, s_g_eq, g_l197]; rfl
theorem u_197_60 {X : e_X} {d : Nat} {ls st : List Value} {m : e_M} : s_j X d 197 60 ls st m = s_x X d 197 [.iload 2, .sipush 2, .irem, .sipush 1, .if_icmp .ne 71, .sipush 1, .goto 74] ls st m := by
  rw [s_j, s_g_eq, g_l197]; rfl
theorem u_197_71 {X : e_X} {d : Nat} {ls st : List Value} {m : e_M} : s_j X d 197 71 ls st m = s_x X d 197 [.iload 3, .sipush 2, .iadd, .jsr 74] ls st m := by
  rw [s_j, s_g_eq, g_l197]; rfl
theorem u_197_74 {X : e_X} {d : Nat} {ls st : List Value} {m : e_M} : s_j X d 197 74 ls st m = s_x X d 197 [.ireturn] ls st m := by
  rw [s_j, s_g_eq, g_l197]; rfl
theorem u_197_75 {X : e_X} {d : Nat} {ls st : List Value} {m : e_M} : s_j X d 197 75 ls st m = s_x X d 197 [.iload 4, .ireturn] ls st m := by
  rw [s_j, s_g_eq, g_l197]; rfl
theorem u_197_78 {X : e_X} {d : Nat} {ls st : List Value} {m : e_M} : s_j X d 197 78 ls st m = s_x X d 197 [.iload 2, .sipush 3, .irem, .ifCond .ne 88, .sipush 0, .goto 90] ls st m := by
  rw [s_j, s_g_eq, g_l197]; rfl
theorem u_197_88 {X : e_X} {d : Nat} {ls st : List Value} {m : e_M} : s_j X d 197 88 ls st m = s_x X d 197 [.iload 4, .jsr 90] ls st m := by
  rw [s_j, s_g_eq, g_l197]; rfl
theorem u_197_90 {X : e_X} {d : Nat} {ls st : List Value} {m : e_M} : s_j X d 197 90 ls st m = s_x X d 197 [.ireturn] ls st m := by
  rw [s_j, s_g_eq, g_l197]; rfl
theorem u_197_91 {X : e_X} {d : Nat} {ls st : List Value} {m : e_M} : s_j X d 197 91 ls st m = s_x X d 197 [.iload 3, .ireturn] ls st m := by
  rw [s_j, s_g_eq, g_l197]; rfl
/-- M.grudgeOf -/
theorem g_l198 (l : Nat) : g_P 198 l = (g_c198.lookup l).getD [] := rfl
theorem v_198 {X : e_X} {d : Nat} (a0 : Nat) (a1 : Int32) {m : e_M} : s_S X (d + 1) 198 [.ref a0, .int a1] m = s_j X d 198 0 [.ref a0, .int a1, .retAddr 0] [] m := rfl
theorem u_198_0 {X : e_X} {d : Nat} {ls st : List Value} {m : e_M} : s_j X d 198 0 ls st m = s_x X d 198 [.aload 0, .checkcast 640, .sipush 26, .aload 0, .iload 1, .sipush 3, .invokeinterface 196 3, .iadd, .iaload, .istore 2, .aload 0, .iload 1, .sipush 0, .invokeinterface 196 3, .lookupswitch 91 #[(1, 56), (2, 60), (3, 64), (4, 81), (5, 85)]] ls st m := by
  rw [s_j, s_g_eq, g_l198]; rfl
theorem u_198_56 {X : e_X} {d : Nat} {ls st : List Value} {m : e_M} : s_j X d 198 56 ls st m = s_x X d 198 [.iload 2, .sipush 2, .iadd, .ireturn] ls st m := by
  rw [s_j, s_g_eq, g_l198]; rfl
theorem u_198_60 {X : e_X} {d : Nat} {ls st : List Value} {m : e_M} : s_j X d 198 60 ls st m = s_x X d 198 [.iload 2, .iload 1, .iadd, .ireturn] ls st m := by
  rw [s_j, s_g_eq, g_l198]; rfl
theorem u_198_64 {X : e_X} {d : Nat} {ls st : List Value} {m : e_M} : s_j X d 198 64 ls st m = s_x X d 198 [.iload 2, .iload 1, .iadd, .sipush 3, .if_icmp .ge 75, .sipush 0, .goto 80] ls st m := by
  rw [s_j, s_g_eq, g_l198]; rfl
theorem u_198_75 {X : e_X} {d : Nat} {ls st : List Value} {m : e_M} : s_j X d 198 75 ls st m = s_x X d 198 [.iload 2, .iload 1, .iadd, .sipush 3, .isub, .jsr 80] ls st m := by
  rw [s_j, s_g_eq, g_l198]; rfl
theorem u_198_80 {X : e_X} {d : Nat} {ls st : List Value} {m : e_M} : s_j X d 198 80 ls st m = s_x X d 198 [.ireturn] ls st m := by
  rw [s_j, s_g_eq, g_l198]; rfl
theorem u_198_81 {X : e_X} {d : Nat} {ls st : List Value} {m : e_M} : s_j X d 198 81 ls st m = s_x X d 198 [.iload 2, .sipush 2, .idiv, .ireturn] ls st m := by
  rw [s_j, s_g_eq, g_l198]; rfl
theorem u_198_85 {X : e_X} {d : Nat} {ls st : List Value} {m : e_M} : s_j X d 198 85 ls st m = s_x X d 198 [.iload 2, .sipush 2, .idiv, .sipush 2, .imul, .ireturn] ls st m := by
  rw [s_j, s_g_eq, g_l198]; rfl
theorem u_198_91 {X : e_X} {d : Nat} {ls st : List Value} {m : e_M} : s_j X d 198 91 ls st m = s_x X d 198 [.iload 2, .ireturn] ls st m := by
  rw [s_j, s_g_eq, g_l198]; rfl
/-- M.wouldSit -/
theorem g_l199 (l : Nat) : g_P 199 l = (g_c199.lookup l).getD [] := rfl
theorem v_199 {X : e_X} {d : Nat} (a0 : Nat) (a1 : Int32) {m : e_M} : s_S X (d + 1) 199 [.ref a0, .int a1] m = s_j X d 199 0 [.ref a0, .int a1] [] m := rfl
theorem u_199_0 {X : e_X} {d : Nat} {ls st : List Value} {m : e_M} : s_j X d 199 0 ls st m = s_x X d 199 [.aload 0, .iload 1, .sipush 4, .invokeinterface 196 3, .ifCond .ne 42, .aload 0, .iload 1, .invokeinterface 198 2, .aload 0, .checkcast 640, .sipush 3, .iaload, .aload 0, .checkcast 640, .sipush 32, .aload 0, .iload 1, .sipush 3, .invokeinterface 196 3, .iadd, .iaload, .iadd, .if_icmp .gt 42, .sipush 1, .goto 43] ls st m := by
  rw [s_j, s_g_eq, g_l199]; rfl
theorem u_199_42 {X : e_X} {d : Nat} {ls st : List Value} {m : e_M} : s_j X d 199 42 ls st m = s_x X d 199 [.sipush 0, .jsr 43] ls st m := by
  rw [s_j, s_g_eq, g_l199]; rfl
theorem u_199_43 {X : e_X} {d : Nat} {ls st : List Value} {m : e_M} : s_j X d 199 43 ls st m = s_x X d 199 [.ireturn] ls st m := by
  rw [s_j, s_g_eq, g_l199]; rfl
/-- M.willOf -/
theorem g_l200 (l : Nat) : g_P 200 l = (g_c200.lookup l).getD [] := rfl
theorem v_200 {X : e_X} {d : Nat} (a0 : Nat) (a1 : Int32) {m : e_M} : s_S X (d + 1) 200 [.ref a0, .int a1] m = s_j X d 200 0 [.ref a0, .int a1, .retAddr 0] [] m := rfl
theorem u_200_0 {X : e_X} {d : Nat} {ls st : List Value} {m : e_M} : s_j X d 200 0 ls st m = s_x X d 200 [.sipush 0, .istore 2, .jsr 2] ls st m := by
  rw [s_j, s_g_eq, g_l200]; rfl
theorem u_200_2 {X : e_X} {d : Nat} {ls st : List Value} {m : e_M} : s_j X d 200 2 ls st m = s_x X d 200 [.iload 2, .aload 0, .checkcast 640, .sipush 7, .iaload, .if_icmp .ge 53, .aload 0, .iload 1, .sipush 0, .invokeinterface 196 3, .aload 0, .iload 2, .sipush 0, .invokeinterface 201 3, .invokeinterface 202 2, .ifCond .eq 47, .aload 0, .iload 2, .iload 1, .invokeinterface 204 3, .ifCond .eq 47, .aload 0, .iload 2, .sipush 1, .invokeinterface 201 3, .ireturn] ls st m := by
  rw [s_j, s_g_eq, g_l200]; rfl
theorem u_200_47 {X : e_X} {d : Nat} {ls st : List Value} {m : e_M} : s_j X d 200 47 ls st m = s_x X d 200 [.iinc 2 1, .goto 2] ls st m := by
  rw [s_j, s_g_eq, g_l200]; rfl
theorem u_200_53 {X : e_X} {d : Nat} {ls st : List Value} {m : e_M} : s_j X d 200 53 ls st m = s_x X d 200 [.sipush 0, .ireturn] ls st m := by
  rw [s_j, s_g_eq, g_l200]; rfl
/-- M.ruleOf -/
theorem g_l201 (l : Nat) : g_P 201 l = (g_c201.lookup l).getD [] := rfl
theorem v_201 {X : e_X} {d : Nat} (a0 : Nat) (a1 : Int32) (a2 : Int32) {m : e_M} : s_S X (d + 1) 201 [.ref a0, .int a1, .int a2] m = s_j X d 201 0 [.ref a0, .int a1, .int a2] [] m := rfl
theorem u_201_0 {X : e_X} {d : Nat} {ls st : List Value} {m : e_M} : s_j X d 201 0 ls st m = s_x X d 201 [.aload 0, .checkcast 640, .sipush 98, .sipush 3, .iload 1, .imul, .iadd, .iload 2, .iadd, .iaload, .ireturn] ls st m := by
  rw [s_j, s_g_eq, g_l201]; rfl
/-- M.isUnder -/
theorem g_l202 (l : Nat) : g_P 202 l = (g_c202.lookup l).getD [] := rfl
theorem v_202 {X : e_X} {d : Nat} (a0 : Int32) (a1 : Int32) {m : e_M} : s_S X (d + 1) 202 [.int a0, .int a1] m = s_j X d 202 0 [.int a0, .int a1, .retAddr 0] [] m := rfl
theorem u_202_0 {X : e_X} {d : Nat} {ls st : List Value} {m : e_M} : s_j X d 202 0 ls st m = s_x X d 202 [.iload 0, .istore 2, .jsr 2] ls st m := by
  rw [s_j, s_g_eq, g_l202]; rfl
theorem u_202_2 {X : e_X} {d : Nat} {ls st : List Value} {m : e_M} : s_j X d 202 2 ls st m = s_x X d 202 [.iload 2, .iload 1, .if_icmp .eq 19, .iload 2, .ifCond .eq 19, .iload 2, .invokeinterface 203 1, .istore 2, .goto 2] ls st m := by
  rw [s_j, s_g_eq, g_l202]; rfl
theorem u_202_19 {X : e_X} {d : Nat} {ls st : List Value} {m : e_M} : s_j X d 202 19 ls st m = s_x X d 202 [.iload 2, .iload 1, .if_icmp .ne 28, .sipush 1, .goto 29] ls st m := by
  rw [s_j, s_g_eq, g_l202]; rfl
theorem u_202_28 {X : e_X} {d : Nat} {ls st : List Value} {m : e_M} : s_j X d 202 28 ls st m = s_x X d 202 [.sipush 0, .jsr 29] ls st m := by
  rw [s_j, s_g_eq, g_l202]; rfl
theorem u_202_29 {X : e_X} {d : Nat} {ls st : List Value} {m : e_M} : s_j X d 202 29 ls st m = s_x X d 202 [.ireturn] ls st m := by
  rw [s_j, s_g_eq, g_l202]; rfl
/-- M.above -/
theorem g_l203 (l : Nat) : g_P 203 l = (g_c203.lookup l).getD [] := rfl
theorem v_203 {X : e_X} {d : Nat} (a0 : Int32) {m : e_M} : s_S X (d + 1) 203 [.int a0] m = s_j X d 203 0 [.int a0] [] m := rfl
theorem u_203_0 {X : e_X} {d : Nat} {ls st : List Value} {m : e_M} : s_j X d 203 0 ls st m = s_x X d 203 [.iload 0, .sipush 3, .if_icmp .ne 9, .sipush 2, .goto 19] ls st m := by
  rw [s_j, s_g_eq, g_l203]; rfl
theorem u_203_9 {X : e_X} {d : Nat} {ls st : List Value} {m : e_M} : s_j X d 203 9 ls st m = s_x X d 203 [.iload 0, .sipush 5, .if_icmp .ne 18, .sipush 4, .goto 19] ls st m := by
  rw [s_j, s_g_eq, g_l203]; rfl
theorem u_203_18 {X : e_X} {d : Nat} {ls st : List Value} {m : e_M} : s_j X d 203 18 ls st m = s_x X d 203 [.sipush 0, .jsr 19] ls st m := by
  rw [s_j, s_g_eq, g_l203]; rfl
theorem u_203_19 {X : e_X} {d : Nat} {ls st : List Value} {m : e_M} : s_j X d 203 19 ls st m = s_x X d 203 [.ireturn] ls st m := by
  rw [s_j, s_g_eq, g_l203]; rfl
/-- M.holdsFor -/
theorem g_l204 (l : Nat) : g_P 204 l = (g_c204.lookup l).getD [] := rfl
theorem v_204 {X : e_X} {d : Nat} (a0 : Nat) (a1 : Int32) (a2 : Int32) {m : e_M} : s_S X (d + 1) 204 [.ref a0, .int a1, .int a2] m = s_j X d 204 0 [.ref a0, .int a1, .int a2, .retAddr 0, .retAddr 0, .retAddr 0] [] m := rfl
theorem u_204_0 {X : e_X} {d : Nat} {ls st : List Value} {m : e_M} : s_j X d 204 0 ls st m = s_x X d 204 [.sipush 0, .istore 3, .iload 1, .ifCond .ne 10, .sipush 0, .goto 18] ls st m := by
  rw [s_j, s_g_eq, g_l204]; rfl
theorem u_204_10 {X : e_X} {d : Nat} {ls st : List Value} {m : e_M} : s_j X d 204 10 ls st m = s_x X d 204 [.aload 0, .iload 1, .sipush 1, .isub, .sipush 2, .invokeinterface 201 3, .jsr 18] ls st m := by
  rw [s_j, s_g_eq, g_l204]; rfl
theorem u_204_18 {X : e_X} {d : Nat} {ls st : List Value} {m : e_M} : s_j X d 204 18 ls st m = s_x X d 204 [.istore 4, .jsr 20] ls st m := by
  rw [s_j, s_g_eq, g_l204]; rfl
theorem u_204_20 {X : e_X} {d : Nat} {ls st : List Value} {m : e_M} : s_j X d 204 20 ls st m = s_x X d 204 [.iload 4, .aload 0, .iload 1, .sipush 2, .invokeinterface 201 3, .if_icmp .ge 152, .aload 0, .checkcast 640, .sipush 122, .iload 4, .iadd, .iaload, .istore 5, .iload 5, .sipush 10010, .if_icmp .ge 87, .aload 0, .checkcast 644, .iload 3, .iload 5, .sipush 10000, .if_icmp .ge 69, .iload 5, .goto 80] ls st m := by
  rw [s_j, s_g_eq, g_l204]; rfl
theorem u_204_69 {X : e_X} {d : Nat} {ls st : List Value} {m : e_M} : s_j X d 204 69 ls st m = s_x X d 204 [.aload 0, .iload 5, .sipush 10000, .isub, .iload 2, .invokeinterface 205 3, .jsr 80] ls st m := by
  rw [s_j, s_g_eq, g_l204]; rfl
theorem u_204_80 {X : e_X} {d : Nat} {ls st : List Value} {m : e_M} : s_j X d 204 80 ls st m = s_x X d 204 [.iastore, .iinc 3 1, .goto 146] ls st m := by
  rw [s_j, s_g_eq, g_l204]; rfl
theorem u_204_87 {X : e_X} {d : Nat} {ls st : List Value} {m : e_M} : s_j X d 204 87 ls st m = s_x X d 204 [.iload 5, .sipush 10015, .if_icmp .ne 116, .aload 0, .checkcast 644, .iload 3, .sipush 1, .isub, .sipush 1, .aload 0, .checkcast 644, .iload 3, .sipush 1, .isub, .iaload, .isub, .iastore, .goto 146] ls st m := by
  rw [s_j, s_g_eq, g_l204]; rfl
theorem u_204_116 {X : e_X} {d : Nat} {ls st : List Value} {m : e_M} : s_j X d 204 116 ls st m = s_x X d 204 [.iinc 3 (-1), .aload 0, .checkcast 644, .iload 3, .sipush 1, .isub, .iload 5, .aload 0, .checkcast 644, .iload 3, .sipush 1, .isub, .iaload, .aload 0, .checkcast 644, .iload 3, .iaload, .invokeinterface 206 3, .iastore, .jsr 146] ls st m := by
  rw [s_j, s_g_eq, g_l204]; rfl
theorem u_204_146 {X : e_X} {d : Nat} {ls st : List Value} {m : e_M} : s_j X d 204 146 ls st m = s_x X d 204 [.iinc 4 1, .goto 20] ls st m := by
  rw [s_j, s_g_eq, g_l204]; rfl
theorem u_204_152 {X : e_X} {d : Nat} {ls st : List Value} {m : e_M} : s_j X d 204 152 ls st m = s_x X d 204 [.iload 3, .ifCond .eq 165, .aload 0, .checkcast 644, .sipush 0, .iaload, .ifCond .eq 169, .jsr 165] ls st m := by
  rw [s_j, s_g_eq, g_l204]; rfl
theorem u_204_165 {X : e_X} {d : Nat} {ls st : List Value} {m : e_M} : s_j X d 204 165 ls st m = s_x X d 204 [.sipush 1, .goto 170] ls st m := by
  rw [s_j, s_g_eq, g_l204]; rfl
theorem u_204_169 {X : e_X} {d : Nat} {ls st : List Value} {m : e_M} : s_j X d 204 169 ls st m = s_x X d 204 [.sipush 0, .jsr 170] ls st m := by
  rw [s_j, s_g_eq, g_l204]; rfl
theorem u_204_170 {X : e_X} {d : Nat} {ls st : List Value} {m : e_M} : s_j X d 204 170 ls st m = s_x X d 204 [.ireturn] ls st m := by
  rw [s_j, s_g_eq, g_l204]; rfl
/-- M.knownOf -/
theorem g_l205 (l : Nat) : g_P 205 l = (g_c205.lookup l).getD [] := rfl
theorem v_205 {X : e_X} {d : Nat} (a0 : Nat) (a1 : Int32) (a2 : Int32) {m : e_M} : s_S X (d + 1) 205 [.ref a0, .int a1, .int a2] m = s_j X d 205 0 [.ref a0, .int a1, .int a2] [] m := rfl
theorem u_205_0 {X : e_X} {d : Nat} {ls st : List Value} {m : e_M} : s_j X d 205 0 ls st m = s_x X d 205 [.iload 1, .ifCond .ne 13, .aload 0, .checkcast 640, .sipush 0, .iaload, .goto 55] ls st m := by
  rw [s_j, s_g_eq, g_l205]; rfl
theorem u_205_13 {X : e_X} {d : Nat} {ls st : List Value} {m : e_M} : s_j X d 205 13 ls st m = s_x X d 205 [.iload 1, .sipush 1, .if_icmp .ne 27, .aload 0, .iload 2, .sipush 2, .invokeinterface 196 3, .goto 55] ls st m := by
  rw [s_j, s_g_eq, g_l205]; rfl
theorem u_205_27 {X : e_X} {d : Nat} {ls st : List Value} {m : e_M} : s_j X d 205 27 ls st m = s_x X d 205 [.iload 1, .sipush 2, .if_icmp .ne 40, .aload 0, .iload 2, .invokeinterface 198 2, .goto 55] ls st m := by
  rw [s_j, s_g_eq, g_l205]; rfl
theorem u_205_40 {X : e_X} {d : Nat} {ls st : List Value} {m : e_M} : s_j X d 205 40 ls st m = s_x X d 205 [.iload 1, .sipush 3, .if_icmp .ne 54, .aload 0, .checkcast 640, .sipush 3, .iaload, .goto 55] ls st m := by
  rw [s_j, s_g_eq, g_l205]; rfl
theorem u_205_54 {X : e_X} {d : Nat} {ls st : List Value} {m : e_M} : s_j X d 205 54 ls st m = s_x X d 205 [.iload 2, .jsr 55] ls st m := by
  rw [s_j, s_g_eq, g_l205]; rfl
theorem u_205_55 {X : e_X} {d : Nat} {ls st : List Value} {m : e_M} : s_j X d 205 55 ls st m = s_x X d 205 [.ireturn] ls st m := by
  rw [s_j, s_g_eq, g_l205]; rfl
/-- M.joined -/
theorem g_l206 (l : Nat) : g_P 206 l = (g_c206.lookup l).getD [] := rfl
theorem v_206 {X : e_X} {d : Nat} (a0 : Int32) (a1 : Int32) (a2 : Int32) {m : e_M} : s_S X (d + 1) 206 [.int a0, .int a1, .int a2] m = s_j X d 206 0 [.int a0, .int a1, .int a2] [] m := rfl
theorem u_206_0 {X : e_X} {d : Nat} {ls st : List Value} {m : e_M} : s_j X d 206 0 ls st m = s_x X d 206 [.iload 0, .lookupswitch 79 #[(10010, 32), (10011, 43), (10012, 54), (10013, 65)]] ls st m := by
  rw [s_j, s_g_eq, g_l206]; rfl
theorem u_206_32 {X : e_X} {d : Nat} {ls st : List Value} {m : e_M} : s_j X d 206 32 ls st m = s_x X d 206 [.iload 1, .iload 2, .if_icmp .ge 41, .sipush 1, .goto 42] ls st m := by
  rw [s_j, s_g_eq, g_l206]; rfl
theorem u_206_41 {X : e_X} {d : Nat} {ls st : List Value} {m : e_M} : s_j X d 206 41 ls st m = s_x X d 206 [.sipush 0, .jsr 42] ls st m := by
  rw [s_j, s_g_eq, g_l206]; rfl
theorem u_206_42 {X : e_X} {d : Nat} {ls st : List Value} {m : e_M} : s_j X d 206 42 ls st m = s_x X d 206 [.ireturn] ls st m := by
  rw [s_j, s_g_eq, g_l206]; rfl
theorem u_206_43 {X : e_X} {d : Nat} {ls st : List Value} {m : e_M} : s_j X d 206 43 ls st m = s_x X d 206 [.iload 1, .iload 2, .if_icmp .ne 52, .sipush 1, .goto 53] ls st m := by
  rw [s_j, s_g_eq, g_l206]; rfl
theorem u_206_52 {X : e_X} {d : Nat} {ls st : List Value} {m : e_M} : s_j X d 206 52 ls st m = s_x X d 206 [.sipush 0, .jsr 53] ls st m := by
  rw [s_j, s_g_eq, g_l206]; rfl
theorem u_206_53 {X : e_X} {d : Nat} {ls st : List Value} {m : e_M} : s_j X d 206 53 ls st m = s_x X d 206 [.ireturn] ls st m := by
  rw [s_j, s_g_eq, g_l206]; rfl
theorem u_206_54 {X : e_X} {d : Nat} {ls st : List Value} {m : e_M} : s_j X d 206 54 ls st m = s_x X d 206 [.iload 1, .iload 2, .if_icmp .le 63, .sipush 1, .goto 64] ls st m := by
  rw [s_j, s_g_eq, g_l206]; rfl
theorem u_206_63 {X : e_X} {d : Nat} {ls st : List Value} {m : e_M} : s_j X d 206 63 ls st m = s_x X d 206 [.sipush 0, .jsr 64] ls st m := by
  rw [s_j, s_g_eq, g_l206]; rfl
theorem u_206_64 {X : e_X} {d : Nat} {ls st : List Value} {m : e_M} : s_j X d 206 64 ls st m = s_x X d 206 [.ireturn] ls st m := by
  rw [s_j, s_g_eq, g_l206]; rfl
theorem u_206_65 {X : e_X} {d : Nat} {ls st : List Value} {m : e_M} : s_j X d 206 65 ls st m = s_x X d 206 [.iload 1, .ifCond .eq 77, .iload 2, .ifCond .eq 77, .sipush 1, .goto 78] ls st m := by
  rw [s_j, s_g_eq, g_l206]; rfl
theorem u_206_77 {X : e_X} {d : Nat} {ls st : List Value} {m : e_M} : s_j X d 206 77 ls st m = s_x X d 206 [.sipush 0, .jsr 78] ls st m := by
  rw [s_j, s_g_eq, g_l206]; rfl
theorem u_206_78 {X : e_X} {d : Nat} {ls st : List Value} {m : e_M} : s_j X d 206 78 ls st m = s_x X d 206 [.ireturn] ls st m := by
  rw [s_j, s_g_eq, g_l206]; rfl
theorem u_206_79 {X : e_X} {d : Nat} {ls st : List Value} {m : e_M} : s_j X d 206 79 ls st m = s_x X d 206 [.iload 1, .ifCond .ne 87, .iload 2, .ifCond .eq 91, .jsr 87] ls st m := by
  rw [s_j, s_g_eq, g_l206]; rfl
theorem u_206_87 {X : e_X} {d : Nat} {ls st : List Value} {m : e_M} : s_j X d 206 87 ls st m = s_x X d 206 [.sipush 1, .goto 92] ls st m := by
  rw [s_j, s_g_eq, g_l206]; rfl
theorem u_206_91 {X : e_X} {d : Nat} {ls st : List Value} {m : e_M} : s_j X d 206 91 ls st m = s_x X d 206 [.sipush 0, .jsr 92] ls st m := by
  rw [s_j, s_g_eq, g_l206]; rfl
theorem u_206_92 {X : e_X} {d : Nat} {ls st : List Value} {m : e_M} : s_j X d 206 92 ls st m = s_x X d 206 [.ireturn] ls st m := by
  rw [s_j, s_g_eq, g_l206]; rfl
/-- M.change -/
theorem g_l207 (l : Nat) : g_P 207 l = (g_c207.lookup l).getD [] := rfl
theorem v_207 {X : e_X} {d : Nat} (a0 : Nat) (a1 : Int32) (a2 : Int32) (a3 : Int32) {m : e_M} : s_S X (d + 1) 207 [.ref a0, .int a1, .int a2, .int a3] m = s_j X d 207 0 [.ref a0, .int a1, .int a2, .int a3, .retAddr 0] [] m := rfl
theorem u_207_0 {X : e_X} {d : Nat} {ls st : List Value} {m : e_M} : s_j X d 207 0 ls st m = s_x X d 207 [.iload 2, .sipush 1, .if_icmp .ne 10, .sipush 39, .goto 30] ls st m := by
  rw [s_j, s_g_eq, g_l207]; rfl
theorem u_207_10 {X : e_X} {d : Nat} {ls st : List Value} {m : e_M} : s_j X d 207 10 ls st m = s_x X d 207 [.iload 2, .sipush 3, .if_icmp .ne 19, .sipush 5, .goto 30] ls st m := by
  rw [s_j, s_g_eq, g_l207]; rfl
theorem u_207_19 {X : e_X} {d : Nat} {ls st : List Value} {m : e_M} : s_j X d 207 19 ls st m = s_x X d 207 [.iload 2, .sipush 4, .if_icmp .ne 28, .sipush 1, .goto 30] ls st m := by
  rw [s_j, s_g_eq, g_l207]; rfl
theorem u_207_28 {X : e_X} {d : Nat} {ls st : List Value} {m : e_M} : s_j X d 207 28 ls st m = s_x X d 207 [.sipush 9, .jsr 30] ls st m := by
  rw [s_j, s_g_eq, g_l207]; rfl
theorem u_207_30 {X : e_X} {d : Nat} {ls st : List Value} {m : e_M} : s_j X d 207 30 ls st m = s_x X d 207 [.istore 4, .aload 0, .iload 1, .invokeinterface 194 2, .ifCond .eq 76, .iload 2, .sipush 1, .sipush 4, .invokeinterface 172 3, .ifCond .eq 76, .iload 3, .sipush 0, .iload 4, .invokeinterface 172 3, .ifCond .eq 76, .aload 0, .sipush 38, .sipush 6, .iload 1, .imul, .iadd, .iload 2, .iadd, .iload 3, .invokeinterface 208 3, .goto 77] ls st m := by
  rw [s_j, s_g_eq, g_l207]; rfl
theorem u_207_76 {X : e_X} {d : Nat} {ls st : List Value} {m : e_M} : s_j X d 207 76 ls st m = s_x X d 207 [.sipush (-1), .jsr 77] ls st m := by
  rw [s_j, s_g_eq, g_l207]; rfl
theorem u_207_77 {X : e_X} {d : Nat} {ls st : List Value} {m : e_M} : s_j X d 207 77 ls st m = s_x X d 207 [.ireturn] ls st m := by
  rw [s_j, s_g_eq, g_l207]; rfl
/-- M.becomes -/
theorem g_l208 (l : Nat) : g_P 208 l = (g_c208.lookup l).getD [] := rfl
theorem v_208 {X : e_X} {d : Nat} (a0 : Nat) (a1 : Int32) (a2 : Int32) {m : e_M} : s_S X (d + 1) 208 [.ref a0, .int a1, .int a2] m = s_j X d 208 0 [.ref a0, .int a1, .int a2, .retAddr 0] [] m := rfl
theorem u_208_0 {X : e_X} {d : Nat} {ls st : List Value} {m : e_M} : s_j X d 208 0 ls st m = s_x X d 208 [.aload 0, .checkcast 640, .iload 1, .iaload, .istore 3, .aload 0, .checkcast 640, .iload 1, .iload 2, .iastore, .iload 3, .ireturn] ls st m := by
  rw [s_j, s_g_eq, g_l208]; rfl
/-- M.remake -/
theorem g_l209 (l : Nat) : g_P 209 l = (g_c209.lookup l).getD [] := rfl
theorem v_209 {X : e_X} {d : Nat} (a0 : Nat) (a1 : Int32) (a2 : Int32) {m : e_M} : s_S X (d + 1) 209 [.ref a0, .int a1, .int a2] m = s_j X d 209 0 [.ref a0, .int a1, .int a2] [] m := rfl
theorem u_209_0 {X : e_X} {d : Nat} {ls st : List Value} {m : e_M} : s_j X d 209 0 ls st m = s_x X d 209 [.aload 0, .iload 1, .invokeinterface 194 2, .ifCond .eq 32, .iload 2, .sipush 1, .sipush 5, .invokeinterface 172 3, .ifCond .eq 32, .aload 0, .sipush 38, .sipush 6, .iload 1, .imul, .iadd, .iload 2, .invokeinterface 208 3, .goto 33] ls st m := by
  rw [s_j, s_g_eq, g_l209]; rfl
theorem u_209_32 {X : e_X} {d : Nat} {ls st : List Value} {m : e_M} : s_j X d 209 32 ls st m = s_x X d 209 [.sipush (-1), .jsr 33] ls st m := by
  rw [s_j, s_g_eq, g_l209]; rfl
theorem u_209_33 {X : e_X} {d : Nat} {ls st : List Value} {m : e_M} : s_j X d 209 33 ls st m = s_x X d 209 [.ireturn] ls st m := by
  rw [s_j, s_g_eq, g_l209]; rfl
/-- M.news -/
theorem g_l210 (l : Nat) : g_P 210 l = (g_c210.lookup l).getD [] := rfl
theorem v_210 {X : e_X} {d : Nat} (a0 : Nat) (a1 : Int32) (a2 : Int32) {m : e_M} : s_S X (d + 1) 210 [.ref a0, .int a1, .int a2] m = s_j X d 210 0 [.ref a0, .int a1, .int a2] [] m := rfl
theorem u_210_0 {X : e_X} {d : Nat} {ls st : List Value} {m : e_M} : s_j X d 210 0 ls st m = s_x X d 210 [.iload 1, .sipush 0, .sipush 15, .invokeinterface 172 3, .ifCond .eq 32, .iload 2, .sipush 0, .sipush 15, .invokeinterface 172 3, .ifCond .eq 32, .aload 0, .sipush 10, .iload 1, .iadd, .iload 2, .invokeinterface 208 3, .goto 33] ls st m := by
  rw [s_j, s_g_eq, g_l210]; rfl
theorem u_210_32 {X : e_X} {d : Nat} {ls st : List Value} {m : e_M} : s_j X d 210 32 ls st m = s_x X d 210 [.sipush (-1), .jsr 33] ls st m := by
  rw [s_j, s_g_eq, g_l210]; rfl
theorem u_210_33 {X : e_X} {d : Nat} {ls st : List Value} {m : e_M} : s_j X d 210 33 ls st m = s_x X d 210 [.ireturn] ls st m := by
  rw [s_j, s_g_eq, g_l210]; rfl
/-- M.home -/
theorem g_l211 (l : Nat) : g_P 211 l = (g_c211.lookup l).getD [] := rfl
theorem v_211 {X : e_X} {d : Nat} (a0 : Nat) (a1 : Int32) (a2 : Int32) (a3 : Int32) {m : e_M} : s_S X (d + 1) 211 [.ref a0, .int a1, .int a2, .int a3] m = s_j X d 211 0 [.ref a0, .int a1, .int a2, .int a3] [] m := rfl
theorem u_211_0 {X : e_X} {d : Nat} {ls st : List Value} {m : e_M} : s_j X d 211 0 ls st m = s_x X d 211 [.iload 1, .invokeinterface 191 1, .ifCond .eq 44, .iload 2, .sipush 0, .sipush 1, .invokeinterface 172 3, .ifCond .eq 44, .iload 3, .invokeinterface 190 1, .ifCond .eq 44, .aload 0, .iload 2, .ifCond .ne 33, .sipush 26, .goto 35] ls st m := by
  rw [s_j, s_g_eq, g_l211]; rfl
theorem u_211_33 {X : e_X} {d : Nat} {ls st : List Value} {m : e_M} : s_j X d 211 33 ls st m = s_x X d 211 [.sipush 32, .jsr 35] ls st m := by
  rw [s_j, s_g_eq, g_l211]; rfl
theorem u_211_35 {X : e_X} {d : Nat} {ls st : List Value} {m : e_M} : s_j X d 211 35 ls st m = s_x X d 211 [.iload 1, .iadd, .iload 3, .invokeinterface 208 3, .goto 45] ls st m := by
  rw [s_j, s_g_eq, g_l211]; rfl
theorem u_211_44 {X : e_X} {d : Nat} {ls st : List Value} {m : e_M} : s_j X d 211 44 ls st m = s_x X d 211 [.sipush (-1), .jsr 45] ls st m := by
  rw [s_j, s_g_eq, g_l211]; rfl
theorem u_211_45 {X : e_X} {d : Nat} {ls st : List Value} {m : e_M} : s_j X d 211 45 ls st m = s_x X d 211 [.ireturn] ls st m := by
  rw [s_j, s_g_eq, g_l211]; rfl
/-- M.homeOf -/
theorem g_l212 (l : Nat) : g_P 212 l = (g_c212.lookup l).getD [] := rfl
theorem v_212 {X : e_X} {d : Nat} (a0 : Nat) (a1 : Int32) (a2 : Int32) {m : e_M} : s_S X (d + 1) 212 [.ref a0, .int a1, .int a2] m = s_j X d 212 0 [.ref a0, .int a1, .int a2] [] m := rfl
theorem u_212_0 {X : e_X} {d : Nat} {ls st : List Value} {m : e_M} : s_j X d 212 0 ls st m = s_x X d 212 [.iload 1, .invokeinterface 191 1, .ifCond .eq 37, .iload 2, .sipush 0, .sipush 1, .invokeinterface 172 3, .ifCond .eq 37, .aload 0, .checkcast 640, .iload 2, .ifCond .ne 29, .sipush 26, .goto 31] ls st m := by
  rw [s_j, s_g_eq, g_l212]; rfl
theorem u_212_29 {X : e_X} {d : Nat} {ls st : List Value} {m : e_M} : s_j X d 212 29 ls st m = s_x X d 212 [.sipush 32, .jsr 31] ls st m := by
  rw [s_j, s_g_eq, g_l212]; rfl
theorem u_212_31 {X : e_X} {d : Nat} {ls st : List Value} {m : e_M} : s_j X d 212 31 ls st m = s_x X d 212 [.iload 1, .iadd, .iaload, .goto 38] ls st m := by
  rw [s_j, s_g_eq, g_l212]; rfl
theorem u_212_37 {X : e_X} {d : Nat} {ls st : List Value} {m : e_M} : s_j X d 212 37 ls st m = s_x X d 212 [.sipush (-1), .jsr 38] ls st m := by
  rw [s_j, s_g_eq, g_l212]; rfl
theorem u_212_38 {X : e_X} {d : Nat} {ls st : List Value} {m : e_M} : s_j X d 212 38 ls st m = s_x X d 212 [.ireturn] ls st m := by
  rw [s_j, s_g_eq, g_l212]; rfl
/-- M.family -/
theorem g_l213 (l : Nat) : g_P 213 l = (g_c213.lookup l).getD [] := rfl
theorem v_213 {X : e_X} {d : Nat} (a0 : Nat) (a1 : Int32) (a2 : Int32) {m : e_M} : s_S X (d + 1) 213 [.ref a0, .int a1, .int a2] m = s_j X d 213 0 [.ref a0, .int a1, .int a2] [] m := rfl
theorem u_213_0 {X : e_X} {d : Nat} {ls st : List Value} {m : e_M} : s_j X d 213 0 ls st m = s_x X d 213 [.iload 1, .sipush 0, .sipush 1, .invokeinterface 172 3, .ifCond .eq 39, .iload 2, .sipush 0, .iload 1, .ifCond .ne 20, .sipush 9, .goto 22] ls st m := by
  rw [s_j, s_g_eq, g_l213]; rfl
theorem u_213_20 {X : e_X} {d : Nat} {ls st : List Value} {m : e_M} : s_j X d 213 20 ls st m = s_x X d 213 [.sipush 40, .jsr 22] ls st m := by
  rw [s_j, s_g_eq, g_l213]; rfl
theorem u_213_22 {X : e_X} {d : Nat} {ls st : List Value} {m : e_M} : s_j X d 213 22 ls st m = s_x X d 213 [.invokeinterface 172 3, .ifCond .eq 39, .aload 0, .sipush 3, .iload 1, .iadd, .iload 2, .invokeinterface 208 3, .goto 40] ls st m := by
  rw [s_j, s_g_eq, g_l213]; rfl
theorem u_213_39 {X : e_X} {d : Nat} {ls st : List Value} {m : e_M} : s_j X d 213 39 ls st m = s_x X d 213 [.sipush (-1), .jsr 40] ls st m := by
  rw [s_j, s_g_eq, g_l213]; rfl
theorem u_213_40 {X : e_X} {d : Nat} {ls st : List Value} {m : e_M} : s_j X d 213 40 ls st m = s_x X d 213 [.ireturn] ls st m := by
  rw [s_j, s_g_eq, g_l213]; rfl
/-- M.ends -/
theorem g_l214 (l : Nat) : g_P 214 l = (g_c214.lookup l).getD [] := rfl
theorem v_214 {X : e_X} {d : Nat} (a0 : Nat) (a1 : Int32) {m : e_M} : s_S X (d + 1) 214 [.ref a0, .int a1] m = s_j X d 214 0 [.ref a0, .int a1] [] m := rfl
theorem u_214_0 {X : e_X} {d : Nat} {ls st : List Value} {m : e_M} : s_j X d 214 0 ls st m = s_x X d 214 [.iload 1, .sipush 1, .sipush 16, .invokeinterface 172 3, .ifCond .ne 14, .sipush (-1), .goto 35] ls st m := by
  rw [s_j, s_g_eq, g_l214]; rfl
theorem u_214_14 {X : e_X} {d : Nat} {ls st : List Value} {m : e_M} : s_j X d 214 14 ls st m = s_x X d 214 [.iload 1, .aload 0, .checkcast 640, .sipush 0, .iaload, .if_icmp .ge 29, .sipush (-4), .goto 35] ls st m := by
  rw [s_j, s_g_eq, g_l214]; rfl
theorem u_214_29 {X : e_X} {d : Nat} {ls st : List Value} {m : e_M} : s_j X d 214 29 ls st m = s_x X d 214 [.aload 0, .sipush 1, .iload 1, .invokeinterface 208 3, .jsr 35] ls st m := by
  rw [s_j, s_g_eq, g_l214]; rfl
theorem u_214_35 {X : e_X} {d : Nat} {ls st : List Value} {m : e_M} : s_j X d 214 35 ls st m = s_x X d 214 [.ireturn] ls st m := by
  rw [s_j, s_g_eq, g_l214]; rfl
/-- M.anew -/
theorem g_l215 (l : Nat) : g_P 215 l = (g_c215.lookup l).getD [] := rfl
theorem v_215 {X : e_X} {d : Nat} (a0 : Nat) {m : e_M} : s_S X (d + 1) 215 [.ref a0] m = s_j X d 215 0 [.ref a0, .retAddr 0] [] m := rfl
theorem u_215_0 {X : e_X} {d : Nat} {ls st : List Value} {m : e_M} : s_j X d 215 0 ls st m = s_x X d 215 [.aload 0, .checkcast 640, .sipush 2, .sipush 0, .iastore, .aload 0, .checkcast 640, .sipush 3, .sipush 5, .iastore, .aload 0, .checkcast 640, .sipush 4, .sipush 0, .iastore, .sipush 0, .istore 1, .jsr 23] ls st m := by
  rw [s_j, s_g_eq, g_l215]; rfl
theorem u_215_23 {X : e_X} {d : Nat} {ls st : List Value} {m : e_M} : s_j X d 215 23 ls st m = s_x X d 215 [.iload 1, .aload 0, .checkcast 640, .sipush 6, .iaload, .if_icmp .ge 47, .aload 0, .iload 1, .sipush 4, .sipush 0, .invokeinterface 192 4, .iinc 1 1, .goto 23] ls st m := by
  rw [s_j, s_g_eq, g_l215]; rfl
theorem u_215_47 {X : e_X} {d : Nat} {ls st : List Value} {m : e_M} : s_j X d 215 47 ls st m = s_x X d 215 [.aload 0, .sipush 0, .sipush 0, .invokeinterface 208 3, .ireturn] ls st m := by
  rw [s_j, s_g_eq, g_l215]; rfl
/-- M.state -/
theorem g_l216 (l : Nat) : g_P 216 l = (g_c216.lookup l).getD [] := rfl
theorem v_216 {X : e_X} {d : Nat} (a0 : Nat) (a1 : Int32) {m : e_M} : s_S X (d + 1) 216 [.ref a0, .int a1] m = s_j X d 216 0 [.ref a0, .int a1] [] m := rfl
theorem u_216_0 {X : e_X} {d : Nat} {ls st : List Value} {m : e_M} : s_j X d 216 0 ls st m = s_x X d 216 [.iload 1, .lookupswitch 132 #[(0, 48), (1, 55), (2, 62), (3, 69), (4, 82), (5, 88), (6, 118), (7, 125)]] ls st m := by
  rw [s_j, s_g_eq, g_l216]; rfl
theorem u_216_48 {X : e_X} {d : Nat} {ls st : List Value} {m : e_M} : s_j X d 216 48 ls st m = s_x X d 216 [.aload 0, .checkcast 640, .sipush 0, .iaload, .ireturn] ls st m := by
  rw [s_j, s_g_eq, g_l216]; rfl
theorem u_216_55 {X : e_X} {d : Nat} {ls st : List Value} {m : e_M} : s_j X d 216 55 ls st m = s_x X d 216 [.aload 0, .checkcast 640, .sipush 1, .iaload, .ireturn] ls st m := by
  rw [s_j, s_g_eq, g_l216]; rfl
theorem u_216_62 {X : e_X} {d : Nat} {ls st : List Value} {m : e_M} : s_j X d 216 62 ls st m = s_x X d 216 [.aload 0, .checkcast 640, .sipush 2, .iaload, .ireturn] ls st m := by
  rw [s_j, s_g_eq, g_l216]; rfl
theorem u_216_69 {X : e_X} {d : Nat} {ls st : List Value} {m : e_M} : s_j X d 216 69 ls st m = s_x X d 216 [.aload 0, .invokeinterface 217 1, .ifCond .eq 80, .sipush 1, .goto 81] ls st m := by
  rw [s_j, s_g_eq, g_l216]; rfl
theorem u_216_80 {X : e_X} {d : Nat} {ls st : List Value} {m : e_M} : s_j X d 216 80 ls st m = s_x X d 216 [.sipush 0, .jsr 81] ls st m := by
  rw [s_j, s_g_eq, g_l216]; rfl
theorem u_216_81 {X : e_X} {d : Nat} {ls st : List Value} {m : e_M} : s_j X d 216 81 ls st m = s_x X d 216 [.ireturn] ls st m := by
  rw [s_j, s_g_eq, g_l216]; rfl
theorem u_216_82 {X : e_X} {d : Nat} {ls st : List Value} {m : e_M} : s_j X d 216 82 ls st m = s_x X d 216 [.aload 0, .sipush 4, .invokeinterface 218 2, .ireturn] ls st m := by
  rw [s_j, s_g_eq, g_l216]; rfl
theorem u_216_88 {X : e_X} {d : Nat} {ls st : List Value} {m : e_M} : s_j X d 216 88 ls st m = s_x X d 216 [.aload 0, .checkcast 640, .sipush 0, .iaload, .sipush 16, .if_icmp .ge 116, .aload 0, .checkcast 640, .sipush 10, .aload 0, .checkcast 640, .sipush 0, .iaload, .iadd, .iaload, .goto 117] ls st m := by
  rw [s_j, s_g_eq, g_l216]; rfl
theorem u_216_116 {X : e_X} {d : Nat} {ls st : List Value} {m : e_M} : s_j X d 216 116 ls st m = s_x X d 216 [.sipush 0, .jsr 117] ls st m := by
  rw [s_j, s_g_eq, g_l216]; rfl
theorem u_216_117 {X : e_X} {d : Nat} {ls st : List Value} {m : e_M} : s_j X d 216 117 ls st m = s_x X d 216 [.ireturn] ls st m := by
  rw [s_j, s_g_eq, g_l216]; rfl
theorem u_216_118 {X : e_X} {d : Nat} {ls st : List Value} {m : e_M} : s_j X d 216 118 ls st m = s_x X d 216 [.aload 0, .checkcast 640, .sipush 3, .iaload, .ireturn] ls st m := by
  rw [s_j, s_g_eq, g_l216]; rfl
theorem u_216_125 {X : e_X} {d : Nat} {ls st : List Value} {m : e_M} : s_j X d 216 125 ls st m = s_x X d 216 [.aload 0, .checkcast 640, .sipush 4, .iaload, .ireturn] ls st m := by
  rw [s_j, s_g_eq, g_l216]; rfl
theorem u_216_132 {X : e_X} {d : Nat} {ls st : List Value} {m : e_M} : s_j X d 216 132 ls st m = s_x X d 216 [.sipush (-1), .ireturn] ls st m := by
  rw [s_j, s_g_eq, g_l216]; rfl
/-- M.isOver -/
theorem g_l217 (l : Nat) : g_P 217 l = (g_c217.lookup l).getD [] := rfl
theorem v_217 {X : e_X} {d : Nat} (a0 : Nat) {m : e_M} : s_S X (d + 1) 217 [.ref a0] m = s_j X d 217 0 [.ref a0] [] m := rfl
theorem u_217_0 {X : e_X} {d : Nat} {ls st : List Value} {m : e_M} : s_j X d 217 0 ls st m = s_x X d 217 [.aload 0, .checkcast 640, .sipush 0, .iaload, .aload 0, .checkcast 640, .sipush 1, .iaload, .if_icmp .lt 19, .sipush 1, .goto 20] ls st m := by
  rw [s_j, s_g_eq, g_l217]; rfl
theorem u_217_19 {X : e_X} {d : Nat} {ls st : List Value} {m : e_M} : s_j X d 217 19 ls st m = s_x X d 217 [.sipush 0, .jsr 20] ls st m := by
  rw [s_j, s_g_eq, g_l217]; rfl
theorem u_217_20 {X : e_X} {d : Nat} {ls st : List Value} {m : e_M} : s_j X d 217 20 ls st m = s_x X d 217 [.ireturn] ls st m := by
  rw [s_j, s_g_eq, g_l217]; rfl
/-- M.those -/
theorem g_l218 (l : Nat) : g_P 218 l = (g_c218.lookup l).getD [] := rfl
theorem v_218 {X : e_X} {d : Nat} (a0 : Nat) (a1 : Int32) {m : e_M} : s_S X (d + 1) 218 [.ref a0, .int a1] m = s_j X d 218 0 [.ref a0, .int a1, .retAddr 0, .retAddr 0] [] m := rfl
theorem u_218_0 {X : e_X} {d : Nat} {ls st : List Value} {m : e_M} : s_j X d 218 0 ls st m = s_x X d 218 [.sipush 0, .istore 2, .sipush 0, .istore 3, .jsr 4] ls st m := by
  rw [s_j, s_g_eq, g_l218]; rfl
theorem u_218_4 {X : e_X} {d : Nat} {ls st : List Value} {m : e_M} : s_j X d 218 4 ls st m = s_x X d 218 [.iload 3, .aload 0, .checkcast 640, .sipush 6, .iaload, .if_icmp .ge 40, .iload 2, .aload 0, .iload 3, .iload 1, .invokeinterface 196 3, .ifCond .le 31, .sipush 1, .iload 3, .ishl, .goto 32] ls st m := by
  rw [s_j, s_g_eq, g_l218]; rfl
theorem u_218_31 {X : e_X} {d : Nat} {ls st : List Value} {m : e_M} : s_j X d 218 31 ls st m = s_x X d 218 [.sipush 0, .jsr 32] ls st m := by
  rw [s_j, s_g_eq, g_l218]; rfl
theorem u_218_32 {X : e_X} {d : Nat} {ls st : List Value} {m : e_M} : s_j X d 218 32 ls st m = s_x X d 218 [.ior, .istore 2, .iinc 3 1, .goto 4] ls st m := by
  rw [s_j, s_g_eq, g_l218]; rfl
theorem u_218_40 {X : e_X} {d : Nat} {ls st : List Value} {m : e_M} : s_j X d 218 40 ls st m = s_x X d 218 [.iload 2, .ireturn] ls st m := by
  rw [s_j, s_g_eq, g_l218]; rfl
/-- M.year -/
theorem g_l219 (l : Nat) : g_P 219 l = (g_c219.lookup l).getD [] := rfl
theorem v_219 {X : e_X} {d : Nat} (a0 : Nat) {m : e_M} : s_S X (d + 1) 219 [.ref a0] m = s_j X d 219 0 [.ref a0] [] m := rfl
theorem u_219_0 {X : e_X} {d : Nat} {ls st : List Value} {m : e_M} : s_j X d 219 0 ls st m = s_x X d 219 [.aload 0, .invokeinterface 217 1, .ifCond .eq 12, .sipush (-4), .goto 17] ls st m := by
  rw [s_j, s_g_eq, g_l219]; rfl
theorem u_219_12 {X : e_X} {d : Nat} {ls st : List Value} {m : e_M} : s_j X d 219 12 ls st m = s_x X d 219 [.aload 0, .sipush (-1), .invokeinterface 220 2, .jsr 17] ls st m := by
  rw [s_j, s_g_eq, g_l219]; rfl
theorem u_219_17 {X : e_X} {d : Nat} {ls st : List Value} {m : e_M} : s_j X d 219 17 ls st m = s_x X d 219 [.ireturn] ls st m := by
  rw [s_j, s_g_eq, g_l219]; rfl
/-- M.goesBy -/
theorem g_l220 (l : Nat) : g_P 220 l = (g_c220.lookup l).getD [] := rfl
theorem v_220 {X : e_X} {d : Nat} (a0 : Nat) (a1 : Int32) {m : e_M} : s_S X (d + 1) 220 [.ref a0, .int a1] m = s_j X d 220 0 [.ref a0, .int a1, .retAddr 0, .retAddr 0] [] m := rfl
theorem u_220_0 {X : e_X} {d : Nat} {ls st : List Value} {m : e_M} : s_j X d 220 0 ls st m = s_x X d 220 [.aload 0, .checkcast 640, .sipush 3, .aload 0, .checkcast 640, .sipush 0, .iaload, .sipush 16, .if_icmp .ge 42, .aload 0, .checkcast 640, .sipush 3, .iaload, .aload 0, .checkcast 640, .sipush 10, .aload 0, .checkcast 640, .sipush 0, .iaload, .iadd, .iaload, .invokeinterface 221 2, .goto 48] ls st m := by
  rw [s_j, s_g_eq, g_l220]; rfl
theorem u_220_42 {X : e_X} {d : Nat} {ls st : List Value} {m : e_M} : s_j X d 220 42 ls st m = s_x X d 220 [.aload 0, .checkcast 640, .sipush 3, .iaload, .jsr 48] ls st m := by
  rw [s_j, s_g_eq, g_l220]; rfl
theorem u_220_48 {X : e_X} {d : Nat} {ls st : List Value} {m : e_M} : s_j X d 220 48 ls st m = s_x X d 220 [.iastore, .iload 1, .ifCond .ge 60, .aload 0, .invokeinterface 223 1, .goto 63] ls st m := by
  rw [s_j, s_g_eq, g_l220]; rfl
theorem u_220_60 {X : e_X} {d : Nat} {ls st : List Value} {m : e_M} : s_j X d 220 60 ls st m = s_x X d 220 [.iload 1, .sipush 1, .isub, .jsr 63] ls st m := by
  rw [s_j, s_g_eq, g_l220]; rfl
theorem u_220_63 {X : e_X} {d : Nat} {ls st : List Value} {m : e_M} : s_j X d 220 63 ls st m = s_x X d 220 [.istore 2, .iload 2, .ifCond .lt 76, .aload 0, .iload 2, .invokeinterface 224 2, .goto 77] ls st m := by
  rw [s_j, s_g_eq, g_l220]; rfl
theorem u_220_76 {X : e_X} {d : Nat} {ls st : List Value} {m : e_M} : s_j X d 220 76 ls st m = s_x X d 220 [.sipush 0, .jsr 77] ls st m := by
  rw [s_j, s_g_eq, g_l220]; rfl
theorem u_220_77 {X : e_X} {d : Nat} {ls st : List Value} {m : e_M} : s_j X d 220 77 ls st m = s_x X d 220 [.istore 3, .iload 3, .aload 0, .invokeinterface 226 1, .iadd, .istore 3, .aload 0, .checkcast 640, .sipush 0, .dup2, .iaload, .sipush 1, .iadd, .iastore, .aload 0, .checkcast 640, .sipush 2, .dup2, .iaload, .iload 3, .iadd, .iastore, .iload 3, .ireturn] ls st m := by
  rw [s_j, s_g_eq, g_l220]; rfl
/-- M.moodBy -/
theorem g_l221 (l : Nat) : g_P 221 l = (g_c221.lookup l).getD [] := rfl
theorem v_221 {X : e_X} {d : Nat} (a0 : Int32) (a1 : Int32) {m : e_M} : s_S X (d + 1) 221 [.int a0, .int a1] m = s_j X d 221 0 [.int a0, .int a1, .retAddr 0, .retAddr 0, .retAddr 0] [] m := rfl
theorem u_221_0 {X : e_X} {d : Nat} {ls st : List Value} {m : e_M} : s_j X d 221 0 ls st m = s_x X d 221 [.iload 1, .sipush 4, .idiv, .istore 2, .iload 0, .sipush 5, .if_icmp .ge 15, .sipush 5, .iload 0, .isub, .goto 18] ls st m := by
  rw [s_j, s_g_eq, g_l221]; rfl
theorem u_221_15 {X : e_X} {d : Nat} {ls st : List Value} {m : e_M} : s_j X d 221 15 ls st m = s_x X d 221 [.iload 0, .sipush 5, .isub, .jsr 18] ls st m := by
  rw [s_j, s_g_eq, g_l221]; rfl
theorem u_221_18 {X : e_X} {d : Nat} {ls st : List Value} {m : e_M} : s_j X d 221 18 ls st m = s_x X d 221 [.istore 3, .iload 3, .iload 2, .if_icmp .ge 28, .iload 3, .goto 29] ls st m := by
  rw [s_j, s_g_eq, g_l221]; rfl
theorem u_221_28 {X : e_X} {d : Nat} {ls st : List Value} {m : e_M} : s_j X d 221 28 ls st m = s_x X d 221 [.iload 2, .jsr 29] ls st m := by
  rw [s_j, s_g_eq, g_l221]; rfl
theorem u_221_29 {X : e_X} {d : Nat} {ls st : List Value} {m : e_M} : s_j X d 221 29 ls st m = s_x X d 221 [.istore 4, .iload 1, .sipush 4, .irem, .lookupswitch 95 #[(0, 60), (1, 69), (2, 78)]] ls st m := by
  rw [s_j, s_g_eq, g_l221]; rfl
theorem u_221_60 {X : e_X} {d : Nat} {ls st : List Value} {m : e_M} : s_j X d 221 60 ls st m = s_x X d 221 [.iload 0, .iload 2, .iadd, .sipush 9, .invokeinterface 222 2, .ireturn] ls st m := by
  rw [s_j, s_g_eq, g_l221]; rfl
theorem u_221_69 {X : e_X} {d : Nat} {ls st : List Value} {m : e_M} : s_j X d 221 69 ls st m = s_x X d 221 [.iload 0, .iload 2, .isub, .sipush 9, .invokeinterface 222 2, .ireturn] ls st m := by
  rw [s_j, s_g_eq, g_l221]; rfl
theorem u_221_78 {X : e_X} {d : Nat} {ls st : List Value} {m : e_M} : s_j X d 221 78 ls st m = s_x X d 221 [.iload 0, .sipush 5, .if_icmp .ge 90, .iload 0, .iload 4, .iadd, .goto 94] ls st m := by
  rw [s_j, s_g_eq, g_l221]; rfl
theorem u_221_90 {X : e_X} {d : Nat} {ls st : List Value} {m : e_M} : s_j X d 221 90 ls st m = s_x X d 221 [.iload 0, .iload 4, .isub, .jsr 94] ls st m := by
  rw [s_j, s_g_eq, g_l221]; rfl
theorem u_221_94 {X : e_X} {d : Nat} {ls st : List Value} {m : e_M} : s_j X d 221 94 ls st m = s_x X d 221 [.ireturn] ls st m := by
  rw [s_j, s_g_eq, g_l221]; rfl
theorem u_221_95 {X : e_X} {d : Nat} {ls st : List Value} {m : e_M} : s_j X d 221 95 ls st m = s_x X d 221 [.iload 0, .ireturn] ls st m := by
  rw [s_j, s_g_eq, g_l221]; rfl
/-- M.held -/
theorem g_l222 (l : Nat) : g_P 222 l = (g_c222.lookup l).getD [] := rfl
theorem v_222 {X : e_X} {d : Nat} (a0 : Int32) (a1 : Int32) {m : e_M} : s_S X (d + 1) 222 [.int a0, .int a1] m = s_j X d 222 0 [.int a0, .int a1] [] m := rfl
theorem u_222_0 {X : e_X} {d : Nat} {ls st : List Value} {m : e_M} : s_j X d 222 0 ls st m = s_x X d 222 [.iload 0, .ifCond .ge 8, .sipush 0, .goto 18] ls st m := by
  rw [s_j, s_g_eq, g_l222]; rfl
theorem u_222_8 {X : e_X} {d : Nat} {ls st : List Value} {m : e_M} : s_j X d 222 8 ls st m = s_x X d 222 [.iload 0, .iload 1, .if_icmp .le 17, .iload 1, .goto 18] ls st m := by
  rw [s_j, s_g_eq, g_l222]; rfl
theorem u_222_17 {X : e_X} {d : Nat} {ls st : List Value} {m : e_M} : s_j X d 222 17 ls st m = s_x X d 222 [.iload 0, .jsr 18] ls st m := by
  rw [s_j, s_g_eq, g_l222]; rfl
theorem u_222_18 {X : e_X} {d : Nat} {ls st : List Value} {m : e_M} : s_j X d 222 18 ls st m = s_x X d 222 [.ireturn] ls st m := by
  rw [s_j, s_g_eq, g_l222]; rfl
/-- M.restOne -/
theorem g_l223 (l : Nat) : g_P 223 l = (g_c223.lookup l).getD [] := rfl
theorem v_223 {X : e_X} {d : Nat} (a0 : Nat) {m : e_M} : s_S X (d + 1) 223 [.ref a0] m = s_j X d 223 0 [.ref a0, .retAddr 0] [] m := rfl
theorem u_223_0 {X : e_X} {d : Nat} {ls st : List Value} {m : e_M} : s_j X d 223 0 ls st m = s_x X d 223 [.sipush 0, .istore 1, .jsr 2] ls st m := by
  rw [s_j, s_g_eq, g_l223]; rfl
theorem u_223_2 {X : e_X} {d : Nat} {ls st : List Value} {m : e_M} : s_j X d 223 2 ls st m = s_x X d 223 [.iload 1, .aload 0, .checkcast 640, .sipush 6, .iaload, .if_icmp .ge 29, .aload 0, .iload 1, .invokeinterface 199 2, .ifCond .eq 23, .iload 1, .ireturn] ls st m := by
  rw [s_j, s_g_eq, g_l223]; rfl
theorem u_223_23 {X : e_X} {d : Nat} {ls st : List Value} {m : e_M} : s_j X d 223 23 ls st m = s_x X d 223 [.iinc 1 1, .goto 2] ls st m := by
  rw [s_j, s_g_eq, g_l223]; rfl
theorem u_223_29 {X : e_X} {d : Nat} {ls st : List Value} {m : e_M} : s_j X d 223 29 ls st m = s_x X d 223 [.sipush (-1), .ireturn] ls st m := by
  rw [s_j, s_g_eq, g_l223]; rfl
/-- M.meets -/
theorem g_l224 (l : Nat) : g_P 224 l = (g_c224.lookup l).getD [] := rfl
theorem v_224 {X : e_X} {d : Nat} (a0 : Nat) (a1 : Int32) {m : e_M} : s_S X (d + 1) 224 [.ref a0, .int a1] m = s_j X d 224 0 [.ref a0, .int a1, .retAddr 0] [] m := rfl
theorem u_224_0 {X : e_X} {d : Nat} {ls st : List Value} {m : e_M} : s_j X d 224 0 ls st m = s_x X d 224 [.aload 0, .iload 1, .invokeinterface 200 2, .istore 2, .iload 2, .ifCond .ne 16, .aload 0, .iload 1, .invokeinterface 225 2, .ireturn] ls st m := by
  rw [s_j, s_g_eq, g_l224]; rfl
theorem u_224_16 {X : e_X} {d : Nat} {ls st : List Value} {m : e_M} : s_j X d 224 16 ls st m = s_x X d 224 [.iload 2, .sipush 2, .if_icmp .ne 57, .aload 0, .iload 1, .sipush 4, .invokeinterface 196 3, .sipush 1, .if_icmp .ne 57, .aload 0, .iload 1, .sipush 4, .sipush 0, .invokeinterface 192 4, .aload 0, .checkcast 640, .sipush 3, .aload 0, .checkcast 640, .sipush 3, .iaload, .sipush 1, .iadd, .sipush 9, .invokeinterface 222 2, .iastore, .jsr 57] ls st m := by
  rw [s_j, s_g_eq, g_l224]; rfl
theorem u_224_57 {X : e_X} {d : Nat} {ls st : List Value} {m : e_M} : s_j X d 224 57 ls st m = s_x X d 224 [.sipush 0, .ireturn] ls st m := by
  rw [s_j, s_g_eq, g_l224]; rfl
/-- M.sits -/
theorem g_l225 (l : Nat) : g_P 225 l = (g_c225.lookup l).getD [] := rfl
theorem v_225 {X : e_X} {d : Nat} (a0 : Nat) (a1 : Int32) {m : e_M} : s_S X (d + 1) 225 [.ref a0, .int a1] m = s_j X d 225 0 [.ref a0, .int a1, .retAddr 0] [] m := rfl
theorem u_225_0 {X : e_X} {d : Nat} {ls st : List Value} {m : e_M} : s_j X d 225 0 ls st m = s_x X d 225 [.aload 0, .iload 1, .sipush 4, .invokeinterface 196 3, .sipush 1, .if_icmp .ne 12, .sipush 0, .ireturn] ls st m := by
  rw [s_j, s_g_eq, g_l225]; rfl
theorem u_225_12 {X : e_X} {d : Nat} {ls st : List Value} {m : e_M} : s_j X d 225 12 ls st m = s_x X d 225 [.aload 0, .iload 1, .invokeinterface 199 2, .istore 2, .aload 0, .checkcast 640, .sipush 3, .aload 0, .checkcast 640, .sipush 3, .iaload, .iload 2, .ifCond .eq 43, .aload 0, .iload 1, .invokeinterface 198 2, .sipush 3, .idiv, .goto 44] ls st m := by
  rw [s_j, s_g_eq, g_l225]; rfl
theorem u_225_43 {X : e_X} {d : Nat} {ls st : List Value} {m : e_M} : s_j X d 225 43 ls st m = s_x X d 225 [.sipush 1, .jsr 44] ls st m := by
  rw [s_j, s_g_eq, g_l225]; rfl
theorem u_225_44 {X : e_X} {d : Nat} {ls st : List Value} {m : e_M} : s_j X d 225 44 ls st m = s_x X d 225 [.isub, .sipush 9, .invokeinterface 222 2, .iastore, .aload 0, .iload 1, .sipush 4, .iload 2, .ifCond .eq 62, .sipush 1, .goto 63] ls st m := by
  rw [s_j, s_g_eq, g_l225]; rfl
theorem u_225_62 {X : e_X} {d : Nat} {ls st : List Value} {m : e_M} : s_j X d 225 62 ls st m = s_x X d 225 [.sipush 0, .jsr 63] ls st m := by
  rw [s_j, s_g_eq, g_l225]; rfl
theorem u_225_63 {X : e_X} {d : Nat} {ls st : List Value} {m : e_M} : s_j X d 225 63 ls st m = s_x X d 225 [.invokeinterface 192 4, .iload 2, .ifCond .eq 74, .sipush 1, .goto 75] ls st m := by
  rw [s_j, s_g_eq, g_l225]; rfl
theorem u_225_74 {X : e_X} {d : Nat} {ls st : List Value} {m : e_M} : s_j X d 225 74 ls st m = s_x X d 225 [.sipush 0, .jsr 75] ls st m := by
  rw [s_j, s_g_eq, g_l225]; rfl
theorem u_225_75 {X : e_X} {d : Nat} {ls st : List Value} {m : e_M} : s_j X d 225 75 ls st m = s_x X d 225 [.ireturn] ls st m := by
  rw [s_j, s_g_eq, g_l225]; rfl
/-- M.walksOn -/
theorem g_l226 (l : Nat) : g_P 226 l = (g_c226.lookup l).getD [] := rfl
theorem v_226 {X : e_X} {d : Nat} (a0 : Nat) {m : e_M} : s_S X (d + 1) 226 [.ref a0] m = s_j X d 226 0 [.ref a0, .retAddr 0, .retAddr 0] [] m := rfl
theorem u_226_0 {X : e_X} {d : Nat} {ls st : List Value} {m : e_M} : s_j X d 226 0 ls st m = s_x X d 226 [.aload 0, .checkcast 640, .sipush 3, .iaload, .sipush 1, .iadd, .istore 1, .sipush 0, .istore 2, .jsr 11] ls st m := by
  rw [s_j, s_g_eq, g_l226]; rfl
theorem u_226_11 {X : e_X} {d : Nat} {ls st : List Value} {m : e_M} : s_j X d 226 11 ls st m = s_x X d 226 [.iload 2, .iload 1, .if_icmp .ge 56, .aload 0, .checkcast 640, .sipush 4, .iaload, .sipush 40, .if_icmp .ge 56, .aload 0, .aload 0, .checkcast 640, .sipush 4, .iaload, .invokeinterface 227 2, .ifCond .eq 56, .aload 0, .checkcast 640, .sipush 4, .dup2, .iaload, .sipush 1, .iadd, .iastore, .iinc 2 1, .goto 11] ls st m := by
  rw [s_j, s_g_eq, g_l226]; rfl
theorem u_226_56 {X : e_X} {d : Nat} {ls st : List Value} {m : e_M} : s_j X d 226 56 ls st m = s_x X d 226 [.sipush 2, .iload 2, .imul, .ireturn] ls st m := by
  rw [s_j, s_g_eq, g_l226]; rfl
/-- M.isThere -/
theorem g_l227 (l : Nat) : g_P 227 l = (g_c227.lookup l).getD [] := rfl
theorem v_227 {X : e_X} {d : Nat} (a0 : Nat) (a1 : Int32) {m : e_M} : s_S X (d + 1) 227 [.ref a0, .int a1] m = s_j X d 227 0 [.ref a0, .int a1, .retAddr 0, .retAddr 0] [] m := rfl
theorem u_227_0 {X : e_X} {d : Nat} {ls st : List Value} {m : e_M} : s_j X d 227 0 ls st m = s_x X d 227 [.sipush 0, .istore 2, .sipush 0, .istore 3, .jsr 4] ls st m := by
  rw [s_j, s_g_eq, g_l227]; rfl
theorem u_227_4 {X : e_X} {d : Nat} {ls st : List Value} {m : e_M} : s_j X d 227 4 ls st m = s_x X d 227 [.iload 3, .aload 0, .checkcast 640, .sipush 6, .iaload, .if_icmp .ge 50, .iload 2, .ifCond .ne 38, .aload 0, .iload 3, .sipush 4, .invokeinterface 196 3, .sipush 1, .if_icmp .ne 42, .aload 0, .iload 3, .iload 1, .invokeinterface 228 3, .ifCond .eq 42, .jsr 38] ls st m := by
  rw [s_j, s_g_eq, g_l227]; rfl
theorem u_227_38 {X : e_X} {d : Nat} {ls st : List Value} {m : e_M} : s_j X d 227 38 ls st m = s_x X d 227 [.sipush 1, .goto 43] ls st m := by
  rw [s_j, s_g_eq, g_l227]; rfl
theorem u_227_42 {X : e_X} {d : Nat} {ls st : List Value} {m : e_M} : s_j X d 227 42 ls st m = s_x X d 227 [.sipush 0, .jsr 43] ls st m := by
  rw [s_j, s_g_eq, g_l227]; rfl
theorem u_227_43 {X : e_X} {d : Nat} {ls st : List Value} {m : e_M} : s_j X d 227 43 ls st m = s_x X d 227 [.istore 2, .iinc 3 1, .goto 4] ls st m := by
  rw [s_j, s_g_eq, g_l227]; rfl
theorem u_227_50 {X : e_X} {d : Nat} {ls st : List Value} {m : e_M} : s_j X d 227 50 ls st m = s_x X d 227 [.iload 2, .ireturn] ls st m := by
  rw [s_j, s_g_eq, g_l227]; rfl
/-- M.isSpanned -/
theorem g_l228 (l : Nat) : g_P 228 l = (g_c228.lookup l).getD [] := rfl
theorem v_228 {X : e_X} {d : Nat} (a0 : Nat) (a1 : Int32) (a2 : Int32) {m : e_M} : s_S X (d + 1) 228 [.ref a0, .int a1, .int a2] m = s_j X d 228 0 [.ref a0, .int a1, .int a2] [] m := rfl
theorem u_228_0 {X : e_X} {d : Nat} {ls st : List Value} {m : e_M} : s_j X d 228 0 ls st m = s_x X d 228 [.iload 2, .aload 0, .iload 1, .sipush 1, .invokeinterface 196 3, .aload 0, .iload 1, .sipush 1, .invokeinterface 196 3, .aload 0, .iload 1, .invokeinterface 195 2, .iadd, .sipush 1, .isub, .invokeinterface 172 3, .ireturn] ls st m := by
  rw [s_j, s_g_eq, g_l228]; rfl
/-- M.on -/
theorem g_l229 (l : Nat) : g_P 229 l = (g_c229.lookup l).getD [] := rfl
theorem v_229 {X : e_X} {d : Nat} (a0 : Nat) (a1 : Int32) {m : e_M} : s_S X (d + 1) 229 [.ref a0, .int a1] m = s_j X d 229 0 [.ref a0, .int a1, .retAddr 0] [] m := rfl
theorem u_229_0 {X : e_X} {d : Nat} {ls st : List Value} {m : e_M} : s_j X d 229 0 ls st m = s_x X d 229 [.iload 1, .sipush 0, .sipush 16, .invokeinterface 172 3, .ifCond .ne 12, .sipush (-1), .ireturn] ls st m := by
  rw [s_j, s_g_eq, g_l229]; rfl
theorem u_229_12 {X : e_X} {d : Nat} {ls st : List Value} {m : e_M} : s_j X d 229 12 ls st m = s_x X d 229 [.aload 0, .invokeinterface 230 1, .aload 0, .iload 1, .invokeinterface 231 2, .istore 2, .aload 0, .invokeinterface 232 1, .iload 2, .ireturn] ls st m := by
  rw [s_j, s_g_eq, g_l229]; rfl
/-- M.layDown -/
theorem g_l230 (l : Nat) : g_P 230 l = (g_c230.lookup l).getD [] := rfl
theorem v_230 {X : e_X} {d : Nat} (a0 : Nat) {m : e_M} : s_S X (d + 1) 230 [.ref a0] m = s_j X d 230 0 [.ref a0, .retAddr 0] [] m := rfl
theorem u_230_0 {X : e_X} {d : Nat} {ls st : List Value} {m : e_M} : s_j X d 230 0 ls st m = s_x X d 230 [.sipush 0, .istore 1, .jsr 2] ls st m := by
  rw [s_j, s_g_eq, g_l230]; rfl
theorem u_230_2 {X : e_X} {d : Nat} {ls st : List Value} {m : e_M} : s_j X d 230 2 ls st m = s_x X d 230 [.iload 1, .sipush 74, .if_icmp .ge 26, .aload 0, .checkcast 642, .iload 1, .aload 0, .checkcast 640, .iload 1, .iaload, .iastore, .iinc 1 1, .goto 2] ls st m := by
  rw [s_j, s_g_eq, g_l230]; rfl
theorem u_230_26 {X : e_X} {d : Nat} {ls st : List Value} {m : e_M} : s_j X d 230 26 ls st m = s_x X d 230 [.return_] ls st m := by
  rw [s_j, s_g_eq, g_l230]; rfl
/-- M.restOf -/
theorem g_l231 (l : Nat) : g_P 231 l = (g_c231.lookup l).getD [] := rfl
theorem v_231 {X : e_X} {d : Nat} (a0 : Nat) (a1 : Int32) {m : e_M} : s_S X (d + 1) 231 [.ref a0, .int a1] m = s_j X d 231 0 [.ref a0, .int a1, .retAddr 0, .retAddr 0] [] m := rfl
theorem u_231_0 {X : e_X} {d : Nat} {ls st : List Value} {m : e_M} : s_j X d 231 0 ls st m = s_x X d 231 [.sipush 0, .istore 2, .sipush 0, .istore 3, .jsr 4] ls st m := by
  rw [s_j, s_g_eq, g_l231]; rfl
theorem u_231_4 {X : e_X} {d : Nat} {ls st : List Value} {m : e_M} : s_j X d 231 4 ls st m = s_x X d 231 [.iload 3, .iload 1, .if_icmp .ge 30, .aload 0, .invokeinterface 217 1, .ifCond .ne 30, .iload 2, .aload 0, .sipush (-1), .invokeinterface 220 2, .iadd, .istore 2, .iinc 3 1, .goto 4] ls st m := by
  rw [s_j, s_g_eq, g_l231]; rfl
theorem u_231_30 {X : e_X} {d : Nat} {ls st : List Value} {m : e_M} : s_j X d 231 30 ls st m = s_x X d 231 [.iload 2, .ireturn] ls st m := by
  rw [s_j, s_g_eq, g_l231]; rfl
/-- M.layBack -/
theorem g_l232 (l : Nat) : g_P 232 l = (g_c232.lookup l).getD [] := rfl
theorem v_232 {X : e_X} {d : Nat} (a0 : Nat) {m : e_M} : s_S X (d + 1) 232 [.ref a0] m = s_j X d 232 0 [.ref a0, .retAddr 0] [] m := rfl
theorem u_232_0 {X : e_X} {d : Nat} {ls st : List Value} {m : e_M} : s_j X d 232 0 ls st m = s_x X d 232 [.sipush 0, .istore 1, .jsr 2] ls st m := by
  rw [s_j, s_g_eq, g_l232]; rfl
theorem u_232_2 {X : e_X} {d : Nat} {ls st : List Value} {m : e_M} : s_j X d 232 2 ls st m = s_x X d 232 [.iload 1, .sipush 74, .if_icmp .ge 26, .aload 0, .checkcast 640, .iload 1, .aload 0, .checkcast 642, .iload 1, .iaload, .iastore, .iinc 1 1, .goto 2] ls st m := by
  rw [s_j, s_g_eq, g_l232]; rfl
theorem u_232_26 {X : e_X} {d : Nat} {ls st : List Value} {m : e_M} : s_j X d 232 26 ls st m = s_x X d 232 [.return_] ls st m := by
  rw [s_j, s_g_eq, g_l232]; rfl
/-- M.when -/
theorem g_l233 (l : Nat) : g_P 233 l = (g_c233.lookup l).getD [] := rfl
theorem v_233 {X : e_X} {d : Nat} (a0 : Nat) (a1 : Int32) {m : e_M} : s_S X (d + 1) 233 [.ref a0, .int a1] m = s_j X d 233 0 [.ref a0, .int a1, .retAddr 0, .retAddr 0, .retAddr 0] [] m := rfl
theorem u_233_0 {X : e_X} {d : Nat} {ls st : List Value} {m : e_M} : s_j X d 233 0 ls st m = s_x X d 233 [.aload 0, .iload 1, .invokeinterface 194 2, .ifCond .ne 10, .sipush (-1), .ireturn] ls st m := by
  rw [s_j, s_g_eq, g_l233]; rfl
theorem u_233_10 {X : e_X} {d : Nat} {ls st : List Value} {m : e_M} : s_j X d 233 10 ls st m = s_x X d 233 [.aload 0, .invokeinterface 230 1, .sipush (-3), .istore 2, .aload 0, .iload 1, .sipush 4, .invokeinterface 196 3, .ifCond .ne 30, .sipush 1, .goto 31] ls st m := by
  rw [s_j, s_g_eq, g_l233]; rfl
theorem u_233_30 {X : e_X} {d : Nat} {ls st : List Value} {m : e_M} : s_j X d 233 30 ls st m = s_x X d 233 [.sipush 0, .jsr 31] ls st m := by
  rw [s_j, s_g_eq, g_l233]; rfl
theorem u_233_31 {X : e_X} {d : Nat} {ls st : List Value} {m : e_M} : s_j X d 233 31 ls st m = s_x X d 233 [.istore 3, .jsr 32] ls st m := by
  rw [s_j, s_g_eq, g_l233]; rfl
theorem u_233_32 {X : e_X} {d : Nat} {ls st : List Value} {m : e_M} : s_j X d 233 32 ls st m = s_x X d 233 [.iload 3, .ifCond .eq 91, .aload 0, .invokeinterface 217 1, .ifCond .ne 91, .aload 0, .sipush (-1), .invokeinterface 220 2, .istore 4, .aload 0, .iload 1, .sipush 4, .invokeinterface 196 3, .ifCond .ne 63, .sipush 1, .goto 64] ls st m := by
  rw [s_j, s_g_eq, g_l233]; rfl
theorem u_233_63 {X : e_X} {d : Nat} {ls st : List Value} {m : e_M} : s_j X d 233 63 ls st m = s_x X d 233 [.sipush 0, .jsr 64] ls st m := by
  rw [s_j, s_g_eq, g_l233]; rfl
theorem u_233_64 {X : e_X} {d : Nat} {ls st : List Value} {m : e_M} : s_j X d 233 64 ls st m = s_x X d 233 [.istore 3, .iload 3, .ifCond .ne 74, .iload 4, .ifCond .ge 79, .jsr 74] ls st m := by
  rw [s_j, s_g_eq, g_l233]; rfl
theorem u_233_74 {X : e_X} {d : Nat} {ls st : List Value} {m : e_M} : s_j X d 233 74 ls st m = s_x X d 233 [.sipush (-3), .goto 87] ls st m := by
  rw [s_j, s_g_eq, g_l233]; rfl
theorem u_233_79 {X : e_X} {d : Nat} {ls st : List Value} {m : e_M} : s_j X d 233 79 ls st m = s_x X d 233 [.aload 0, .checkcast 640, .sipush 0, .iaload, .sipush 1, .isub, .jsr 87] ls st m := by
  rw [s_j, s_g_eq, g_l233]; rfl
theorem u_233_87 {X : e_X} {d : Nat} {ls st : List Value} {m : e_M} : s_j X d 233 87 ls st m = s_x X d 233 [.istore 2, .goto 32] ls st m := by
  rw [s_j, s_g_eq, g_l233]; rfl
theorem u_233_91 {X : e_X} {d : Nat} {ls st : List Value} {m : e_M} : s_j X d 233 91 ls st m = s_x X d 233 [.aload 0, .invokeinterface 232 1, .iload 2, .ireturn] ls st m := by
  rw [s_j, s_g_eq, g_l233]; rfl
/-- M.widthFor -/
theorem g_l234 (l : Nat) : g_P 234 l = (g_c234.lookup l).getD [] := rfl
theorem v_234 {X : e_X} {d : Nat} (a0 : Nat) (a1 : Int32) {m : e_M} : s_S X (d + 1) 234 [.ref a0, .int a1] m = s_j X d 234 0 [.ref a0, .int a1] [] m := rfl
theorem u_234_0 {X : e_X} {d : Nat} {ls st : List Value} {m : e_M} : s_j X d 234 0 ls st m = s_x X d 234 [.aload 0, .iload 1, .sipush 2, .sipush 9, .invokeinterface 235 4, .ireturn] ls st m := by
  rw [s_j, s_g_eq, g_l234]; rfl
/-- M.bestFor -/
theorem g_l235 (l : Nat) : g_P 235 l = (g_c235.lookup l).getD [] := rfl
theorem v_235 {X : e_X} {d : Nat} (a0 : Nat) (a1 : Int32) (a2 : Int32) (a3 : Int32) {m : e_M} : s_S X (d + 1) 235 [.ref a0, .int a1, .int a2, .int a3] m = s_j X d 235 0 [.ref a0, .int a1, .int a2, .int a3, .retAddr 0, .retAddr 0, .retAddr 0, .retAddr 0] [] m := rfl
theorem u_235_0 {X : e_X} {d : Nat} {ls st : List Value} {m : e_M} : s_j X d 235 0 ls st m = s_x X d 235 [.aload 0, .iload 1, .invokeinterface 194 2, .ifCond .ne 10, .sipush (-1), .ireturn] ls st m := by
  rw [s_j, s_g_eq, g_l235]; rfl
theorem u_235_10 {X : e_X} {d : Nat} {ls st : List Value} {m : e_M} : s_j X d 235 10 ls st m = s_x X d 235 [.sipush 0, .istore 4, .sipush (-1), .istore 5, .aload 0, .invokeinterface 230 1, .sipush 0, .istore 6, .jsr 23] ls st m := by
  rw [s_j, s_g_eq, g_l235]; rfl
theorem u_235_23 {X : e_X} {d : Nat} {ls st : List Value} {m : e_M} : s_j X d 235 23 ls st m = s_x X d 235 [.iload 6, .iload 3, .if_icmp .gt 87, .aload 0, .iload 1, .iload 2, .iload 6, .invokeinterface 192 4, .aload 0, .sipush 16, .invokeinterface 231 2, .istore 7, .iload 7, .iload 5, .if_icmp .le 57, .iload 6, .goto 59] ls st m := by
  rw [s_j, s_g_eq, g_l235]; rfl
theorem u_235_57 {X : e_X} {d : Nat} {ls st : List Value} {m : e_M} : s_j X d 235 57 ls st m = s_x X d 235 [.iload 4, .jsr 59] ls st m := by
  rw [s_j, s_g_eq, g_l235]; rfl
theorem u_235_59 {X : e_X} {d : Nat} {ls st : List Value} {m : e_M} : s_j X d 235 59 ls st m = s_x X d 235 [.istore 4, .iload 7, .iload 5, .if_icmp .le 73, .iload 7, .goto 75] ls st m := by
  rw [s_j, s_g_eq, g_l235]; rfl
theorem u_235_73 {X : e_X} {d : Nat} {ls st : List Value} {m : e_M} : s_j X d 235 73 ls st m = s_x X d 235 [.iload 5, .jsr 75] ls st m := by
  rw [s_j, s_g_eq, g_l235]; rfl
theorem u_235_75 {X : e_X} {d : Nat} {ls st : List Value} {m : e_M} : s_j X d 235 75 ls st m = s_x X d 235 [.istore 5, .aload 0, .invokeinterface 232 1, .iinc 6 1, .goto 23] ls st m := by
  rw [s_j, s_g_eq, g_l235]; rfl
theorem u_235_87 {X : e_X} {d : Nat} {ls st : List Value} {m : e_M} : s_j X d 235 87 ls st m = s_x X d 235 [.iload 4, .ireturn] ls st m := by
  rw [s_j, s_g_eq, g_l235]; rfl
/-- M.pieceFor -/
theorem g_l236 (l : Nat) : g_P 236 l = (g_c236.lookup l).getD [] := rfl
theorem v_236 {X : e_X} {d : Nat} (a0 : Nat) (a1 : Int32) {m : e_M} : s_S X (d + 1) 236 [.ref a0, .int a1] m = s_j X d 236 0 [.ref a0, .int a1] [] m := rfl
theorem u_236_0 {X : e_X} {d : Nat} {ls st : List Value} {m : e_M} : s_j X d 236 0 ls st m = s_x X d 236 [.aload 0, .iload 1, .sipush 1, .sipush 39, .invokeinterface 235 4, .ireturn] ls st m := by
  rw [s_j, s_g_eq, g_l236]; rfl
/-- M.over -/
theorem g_l237 (l : Nat) : g_P 237 l = (g_c237.lookup l).getD [] := rfl
theorem v_237 {X : e_X} {d : Nat} (a0 : Nat) (a1 : Int32) {m : e_M} : s_S X (d + 1) 237 [.ref a0, .int a1] m = s_j X d 237 0 [.ref a0, .int a1, .retAddr 0, .retAddr 0] [] m := rfl
theorem u_237_0 {X : e_X} {d : Nat} {ls st : List Value} {m : e_M} : s_j X d 237 0 ls st m = s_x X d 237 [.iload 1, .sipush 0, .sipush 40, .invokeinterface 172 3, .ifCond .ne 12, .sipush (-1), .ireturn] ls st m := by
  rw [s_j, s_g_eq, g_l237]; rfl
theorem u_237_12 {X : e_X} {d : Nat} {ls st : List Value} {m : e_M} : s_j X d 237 12 ls st m = s_x X d 237 [.aload 0, .invokeinterface 230 1, .sipush (-3), .istore 2, .jsr 19] ls st m := by
  rw [s_j, s_g_eq, g_l237]; rfl
theorem u_237_19 {X : e_X} {d : Nat} {ls st : List Value} {m : e_M} : s_j X d 237 19 ls st m = s_x X d 237 [.iload 2, .sipush (-3), .if_icmp .ne 69, .aload 0, .invokeinterface 217 1, .ifCond .ne 69, .aload 0, .sipush (-1), .invokeinterface 220 2, .istore 3, .aload 0, .checkcast 640, .sipush 4, .iaload, .iload 1, .if_icmp .lt 63, .iload 3, .ifCond .lt 63, .aload 0, .checkcast 640, .sipush 0, .iaload, .sipush 1, .isub, .goto 65] ls st m := by
  rw [s_j, s_g_eq, g_l237]; rfl
theorem u_237_63 {X : e_X} {d : Nat} {ls st : List Value} {m : e_M} : s_j X d 237 63 ls st m = s_x X d 237 [.sipush (-3), .jsr 65] ls st m := by
  rw [s_j, s_g_eq, g_l237]; rfl
theorem u_237_65 {X : e_X} {d : Nat} {ls st : List Value} {m : e_M} : s_j X d 237 65 ls st m = s_x X d 237 [.istore 2, .goto 19] ls st m := by
  rw [s_j, s_g_eq, g_l237]; rfl
theorem u_237_69 {X : e_X} {d : Nat} {ls st : List Value} {m : e_M} : s_j X d 237 69 ls st m = s_x X d 237 [.aload 0, .invokeinterface 232 1, .iload 2, .ireturn] ls st m := by
  rw [s_j, s_g_eq, g_l237]; rfl
/-- M.gap -/
theorem g_l238 (l : Nat) : g_P 238 l = (g_c238.lookup l).getD [] := rfl
theorem v_238 {X : e_X} {d : Nat} (a0 : Nat) (a1 : Int32) {m : e_M} : s_S X (d + 1) 238 [.ref a0, .int a1] m = s_j X d 238 0 [.ref a0, .int a1, .retAddr 0, .retAddr 0, .retAddr 0, .retAddr 0, .retAddr 0] [] m := rfl
theorem u_238_0 {X : e_X} {d : Nat} {ls st : List Value} {m : e_M} : s_j X d 238 0 ls st m = s_x X d 238 [.iload 1, .sipush 0, .sipush 1, .invokeinterface 172 3, .ifCond .ne 11, .sipush (-1), .ireturn] ls st m := by
  rw [s_j, s_g_eq, g_l238]; rfl
theorem u_238_11 {X : e_X} {d : Nat} {ls st : List Value} {m : e_M} : s_j X d 238 11 ls st m = s_x X d 238 [.sipush 0, .istore 2, .sipush (-3), .istore 3, .sipush 39, .istore 4, .jsr 20] ls st m := by
  rw [s_j, s_g_eq, g_l238]; rfl
theorem u_238_20 {X : e_X} {d : Nat} {ls st : List Value} {m : e_M} : s_j X d 238 20 ls st m = s_x X d 238 [.iload 4, .ifCond .lt 118, .sipush 0, .istore 5, .sipush 0, .istore 6, .jsr 31] ls st m := by
  rw [s_j, s_g_eq, g_l238]; rfl
theorem u_238_31 {X : e_X} {d : Nat} {ls st : List Value} {m : e_M} : s_j X d 238 31 ls st m = s_x X d 238 [.iload 6, .aload 0, .checkcast 640, .sipush 6, .iaload, .if_icmp .ge 72, .iload 5, .ifCond .ne 59, .aload 0, .iload 6, .iload 4, .invokeinterface 228 3, .ifCond .eq 63, .jsr 59] ls st m := by
  rw [s_j, s_g_eq, g_l238]; rfl
theorem u_238_59 {X : e_X} {d : Nat} {ls st : List Value} {m : e_M} : s_j X d 238 59 ls st m = s_x X d 238 [.sipush 1, .goto 64] ls st m := by
  rw [s_j, s_g_eq, g_l238]; rfl
theorem u_238_63 {X : e_X} {d : Nat} {ls st : List Value} {m : e_M} : s_j X d 238 63 ls st m = s_x X d 238 [.sipush 0, .jsr 64] ls st m := by
  rw [s_j, s_g_eq, g_l238]; rfl
theorem u_238_64 {X : e_X} {d : Nat} {ls st : List Value} {m : e_M} : s_j X d 238 64 ls st m = s_x X d 238 [.istore 5, .iinc 6 1, .goto 31] ls st m := by
  rw [s_j, s_g_eq, g_l238]; rfl
theorem u_238_72 {X : e_X} {d : Nat} {ls st : List Value} {m : e_M} : s_j X d 238 72 ls st m = s_x X d 238 [.iload 2, .aload 0, .iload 4, .invokeinterface 227 2, .ifCond .eq 86, .sipush 0, .goto 87] ls st m := by
  rw [s_j, s_g_eq, g_l238]; rfl
theorem u_238_86 {X : e_X} {d : Nat} {ls st : List Value} {m : e_M} : s_j X d 238 86 ls st m = s_x X d 238 [.sipush 1, .jsr 87] ls st m := by
  rw [s_j, s_g_eq, g_l238]; rfl
theorem u_238_87 {X : e_X} {d : Nat} {ls st : List Value} {m : e_M} : s_j X d 238 87 ls st m = s_x X d 238 [.iadd, .istore 2, .iload 4, .aload 0, .checkcast 640, .sipush 4, .iaload, .if_icmp .lt 110, .iload 5, .ifCond .ne 110, .iload 4, .goto 111] ls st m := by
  rw [s_j, s_g_eq, g_l238]; rfl
theorem u_238_110 {X : e_X} {d : Nat} {ls st : List Value} {m : e_M} : s_j X d 238 110 ls st m = s_x X d 238 [.iload 3, .jsr 111] ls st m := by
  rw [s_j, s_g_eq, g_l238]; rfl
theorem u_238_111 {X : e_X} {d : Nat} {ls st : List Value} {m : e_M} : s_j X d 238 111 ls st m = s_x X d 238 [.istore 3, .iinc 4 (-1), .goto 20] ls st m := by
  rw [s_j, s_g_eq, g_l238]; rfl
theorem u_238_118 {X : e_X} {d : Nat} {ls st : List Value} {m : e_M} : s_j X d 238 118 ls st m = s_x X d 238 [.iload 1, .ifCond .ne 126, .iload 3, .goto 127] ls st m := by
  rw [s_j, s_g_eq, g_l238]; rfl
theorem u_238_126 {X : e_X} {d : Nat} {ls st : List Value} {m : e_M} : s_j X d 238 126 ls st m = s_x X d 238 [.iload 2, .jsr 127] ls st m := by
  rw [s_j, s_g_eq, g_l238]; rfl
theorem u_238_127 {X : e_X} {d : Nat} {ls st : List Value} {m : e_M} : s_j X d 238 127 ls st m = s_x X d 238 [.ireturn] ls st m := by
  rw [s_j, s_g_eq, g_l238]; rfl
/-- M.branches -/
theorem g_l239 (l : Nat) : g_P 239 l = (g_c239.lookup l).getD [] := rfl
theorem v_239 {X : e_X} {d : Nat} (a0 : Nat) (a1 : Int32) {m : e_M} : s_S X (d + 1) 239 [.ref a0, .int a1] m = s_j X d 239 0 [.ref a0, .int a1, .retAddr 0, .retAddr 0, .retAddr 0] [] m := rfl
theorem u_239_0 {X : e_X} {d : Nat} {ls st : List Value} {m : e_M} : s_j X d 239 0 ls st m = s_x X d 239 [.iload 1, .sipush (-1), .if_icmp .eq 15, .aload 0, .iload 1, .invokeinterface 194 2, .ifCond .ne 15, .sipush (-1), .ireturn] ls st m := by
  rw [s_j, s_g_eq, g_l239]; rfl
theorem u_239_15 {X : e_X} {d : Nat} {ls st : List Value} {m : e_M} : s_j X d 239 15 ls st m = s_x X d 239 [.iload 1, .ifCond .lt 25, .aload 0, .iload 1, .invokeinterface 240 2, .ireturn] ls st m := by
  rw [s_j, s_g_eq, g_l239]; rfl
theorem u_239_25 {X : e_X} {d : Nat} {ls st : List Value} {m : e_M} : s_j X d 239 25 ls st m = s_x X d 239 [.sipush 0, .istore 2, .sipush 0, .istore 3, .jsr 29] ls st m := by
  rw [s_j, s_g_eq, g_l239]; rfl
theorem u_239_29 {X : e_X} {d : Nat} {ls st : List Value} {m : e_M} : s_j X d 239 29 ls st m = s_x X d 239 [.iload 3, .aload 0, .checkcast 640, .sipush 6, .iaload, .if_icmp .ge 75, .aload 0, .iload 3, .invokeinterface 240 2, .istore 4, .iload 2, .iload 4, .ifCond .eq 66, .iload 4, .sipush 1, .iload 3, .ishl, .irem, .ifCond .ne 66, .sipush 1, .goto 67] ls st m := by
  rw [s_j, s_g_eq, g_l239]; rfl
theorem u_239_66 {X : e_X} {d : Nat} {ls st : List Value} {m : e_M} : s_j X d 239 66 ls st m = s_x X d 239 [.sipush 0, .jsr 67] ls st m := by
  rw [s_j, s_g_eq, g_l239]; rfl
theorem u_239_67 {X : e_X} {d : Nat} {ls st : List Value} {m : e_M} : s_j X d 239 67 ls st m = s_x X d 239 [.iadd, .istore 2, .iinc 3 1, .goto 29] ls st m := by
  rw [s_j, s_g_eq, g_l239]; rfl
theorem u_239_75 {X : e_X} {d : Nat} {ls st : List Value} {m : e_M} : s_j X d 239 75 ls st m = s_x X d 239 [.iload 2, .ireturn] ls st m := by
  rw [s_j, s_g_eq, g_l239]; rfl
/-- M.branchOf -/
theorem g_l240 (l : Nat) : g_P 240 l = (g_c240.lookup l).getD [] := rfl
theorem v_240 {X : e_X} {d : Nat} (a0 : Nat) (a1 : Int32) {m : e_M} : s_S X (d + 1) 240 [.ref a0, .int a1] m = s_j X d 240 0 [.ref a0, .int a1, .retAddr 0, .retAddr 0, .retAddr 0, .retAddr 0] [] m := rfl
theorem u_240_0 {X : e_X} {d : Nat} {ls st : List Value} {m : e_M} : s_j X d 240 0 ls st m = s_x X d 240 [.sipush 1, .iload 1, .ishl, .istore 2, .sipush 0, .istore 3, .jsr 6] ls st m := by
  rw [s_j, s_g_eq, g_l240]; rfl
theorem u_240_6 {X : e_X} {d : Nat} {ls st : List Value} {m : e_M} : s_j X d 240 6 ls st m = s_x X d 240 [.iload 3, .aload 0, .checkcast 640, .sipush 6, .iaload, .if_icmp .ge 97, .sipush 0, .istore 4, .jsr 20] ls st m := by
  rw [s_j, s_g_eq, g_l240]; rfl
theorem u_240_20 {X : e_X} {d : Nat} {ls st : List Value} {m : e_M} : s_j X d 240 20 ls st m = s_x X d 240 [.iload 4, .aload 0, .checkcast 640, .sipush 6, .iaload, .if_icmp .ge 91, .sipush 0, .istore 5, .jsr 35] ls st m := by
  rw [s_j, s_g_eq, g_l240]; rfl
theorem u_240_35 {X : e_X} {d : Nat} {ls st : List Value} {m : e_M} : s_j X d 240 35 ls st m = s_x X d 240 [.iload 5, .aload 0, .checkcast 640, .sipush 6, .iaload, .if_icmp .ge 85, .iload 2, .iload 2, .iload 4, .ishr, .sipush 1, .iand, .sipush 1, .if_icmp .ne 76, .aload 0, .iload 4, .iload 5, .invokeinterface 241 3, .ifCond .eq 76, .sipush 1, .iload 5, .ishl, .goto 77] ls st m := by
  rw [s_j, s_g_eq, g_l240]; rfl
theorem u_240_76 {X : e_X} {d : Nat} {ls st : List Value} {m : e_M} : s_j X d 240 76 ls st m = s_x X d 240 [.sipush 0, .jsr 77] ls st m := by
  rw [s_j, s_g_eq, g_l240]; rfl
theorem u_240_77 {X : e_X} {d : Nat} {ls st : List Value} {m : e_M} : s_j X d 240 77 ls st m = s_x X d 240 [.ior, .istore 2, .iinc 5 1, .goto 35] ls st m := by
  rw [s_j, s_g_eq, g_l240]; rfl
theorem u_240_85 {X : e_X} {d : Nat} {ls st : List Value} {m : e_M} : s_j X d 240 85 ls st m = s_x X d 240 [.iinc 4 1, .goto 20] ls st m := by
  rw [s_j, s_g_eq, g_l240]; rfl
theorem u_240_91 {X : e_X} {d : Nat} {ls st : List Value} {m : e_M} : s_j X d 240 91 ls st m = s_x X d 240 [.iinc 3 1, .goto 6] ls st m := by
  rw [s_j, s_g_eq, g_l240]; rfl
theorem u_240_97 {X : e_X} {d : Nat} {ls st : List Value} {m : e_M} : s_j X d 240 97 ls st m = s_x X d 240 [.aload 0, .iload 1, .sipush 4, .invokeinterface 196 3, .sipush 1, .if_icmp .ne 111, .sipush 0, .goto 112] ls st m := by
  rw [s_j, s_g_eq, g_l240]; rfl
theorem u_240_111 {X : e_X} {d : Nat} {ls st : List Value} {m : e_M} : s_j X d 240 111 ls st m = s_x X d 240 [.iload 2, .jsr 112] ls st m := by
  rw [s_j, s_g_eq, g_l240]; rfl
theorem u_240_112 {X : e_X} {d : Nat} {ls st : List Value} {m : e_M} : s_j X d 240 112 ls st m = s_x X d 240 [.ireturn] ls st m := by
  rw [s_j, s_g_eq, g_l240]; rfl
/-- M.areClose -/
theorem g_l241 (l : Nat) : g_P 241 l = (g_c241.lookup l).getD [] := rfl
theorem v_241 {X : e_X} {d : Nat} (a0 : Nat) (a1 : Int32) (a2 : Int32) {m : e_M} : s_S X (d + 1) 241 [.ref a0, .int a1, .int a2] m = s_j X d 241 0 [.ref a0, .int a1, .int a2, .retAddr 0] [] m := rfl
theorem u_241_0 {X : e_X} {d : Nat} {ls st : List Value} {m : e_M} : s_j X d 241 0 ls st m = s_x X d 241 [.aload 0, .iload 1, .sipush 1, .invokeinterface 196 3, .aload 0, .iload 2, .sipush 1, .invokeinterface 196 3, .isub, .istore 3, .aload 0, .iload 1, .sipush 4, .invokeinterface 196 3, .ifCond .ne 61, .aload 0, .iload 2, .sipush 4, .invokeinterface 196 3, .ifCond .ne 61, .aload 0, .iload 1, .sipush 3, .invokeinterface 196 3, .aload 0, .iload 2, .sipush 3, .invokeinterface 196 3, .if_icmp .eq 57, .iload 3, .sipush (-2), .sipush 2, .invokeinterface 172 3, .ifCond .eq 61, .jsr 57] ls st m := by
  rw [s_j, s_g_eq, g_l241]; rfl
theorem u_241_57 {X : e_X} {d : Nat} {ls st : List Value} {m : e_M} : s_j X d 241 57 ls st m = s_x X d 241 [.sipush 1, .goto 62] ls st m := by
  rw [s_j, s_g_eq, g_l241]; rfl
theorem u_241_61 {X : e_X} {d : Nat} {ls st : List Value} {m : e_M} : s_j X d 241 61 ls st m = s_x X d 241 [.sipush 0, .jsr 62] ls st m := by
  rw [s_j, s_g_eq, g_l241]; rfl
theorem u_241_62 {X : e_X} {d : Nat} {ls st : List Value} {m : e_M} : s_j X d 241 62 ls st m = s_x X d 241 [.ireturn] ls st m := by
  rw [s_j, s_g_eq, g_l241]; rfl
/-- M.fetch -/
theorem g_l242 (l : Nat) : g_P 242 l = (g_c242.lookup l).getD [] := rfl
theorem v_242 {X : e_X} {d : Nat} (a0 : Nat) (a1 : Int32) (a2 : Int32) {m : e_M} : s_S X (d + 1) 242 [.ref a0, .int a1, .int a2] m = s_j X d 242 0 [.ref a0, .int a1, .int a2, .retAddr 0] [] m := rfl
theorem u_242_0 {X : e_X} {d : Nat} {ls st : List Value} {m : e_M} : s_j X d 242 0 ls st m = s_x X d 242 [.iload 1, .sipush 0, .sipush 40, .invokeinterface 172 3, .ifCond .eq 19, .iload 2, .sipush 0, .sipush 1, .invokeinterface 172 3, .ifCond .ne 21, .jsr 19] ls st m := by
  rw [s_j, s_g_eq, g_l242]; rfl
theorem u_242_19 {X : e_X} {d : Nat} {ls st : List Value} {m : e_M} : s_j X d 242 19 ls st m = s_x X d 242 [.sipush (-1), .ireturn] ls st m := by
  rw [s_j, s_g_eq, g_l242]; rfl
theorem u_242_21 {X : e_X} {d : Nat} {ls st : List Value} {m : e_M} : s_j X d 242 21 ls st m = s_x X d 242 [.sipush 1, .aload 0, .checkcast 640, .sipush 6, .iaload, .ishl, .sipush 1, .isub, .aload 0, .sipush 4, .invokeinterface 218 2, .sipush (-1), .ixor, .iand, .istore 3, .aload 0, .sipush (-1), .putfield 656, .aload 0, .iload 3, .iload 1, .sipush 0, .sipush (-1), .invokeinterface 243 5, .iload 2, .ifCond .ne 65, .aload 0, .getfield 656, .goto 78] ls st m := by
  rw [s_j, s_g_eq, g_l242]; rfl
theorem u_242_65 {X : e_X} {d : Nat} {ls st : List Value} {m : e_M} : s_j X d 242 65 ls st m = s_x X d 242 [.iload 3, .ifCond .ne 74, .sipush (-3), .goto 78] ls st m := by
  rw [s_j, s_g_eq, g_l242]; rfl
theorem u_242_74 {X : e_X} {d : Nat} {ls st : List Value} {m : e_M} : s_j X d 242 74 ls st m = s_x X d 242 [.aload 0, .getfield 657, .jsr 78] ls st m := by
  rw [s_j, s_g_eq, g_l242]; rfl
theorem u_242_78 {X : e_X} {d : Nat} {ls st : List Value} {m : e_M} : s_j X d 242 78 ls st m = s_x X d 242 [.ireturn] ls st m := by
  rw [s_j, s_g_eq, g_l242]; rfl
/-- M.goesRound -/
theorem g_l243 (l : Nat) : g_P 243 l = (g_c243.lookup l).getD [] := rfl
theorem v_243 {X : e_X} {d : Nat} (a0 : Nat) (a1 : Int32) (a2 : Int32) (a3 : Int32) (a4 : Int32) {m : e_M} : s_S X (d + 1) 243 [.ref a0, .int a1, .int a2, .int a3, .int a4] m = s_j X d 243 0 [.ref a0, .int a1, .int a2, .int a3, .int a4, .retAddr 0, .retAddr 0] [] m := rfl
theorem u_243_0 {X : e_X} {d : Nat} {ls st : List Value} {m : e_M} : s_j X d 243 0 ls st m = s_x X d 243 [.iload 1, .ifCond .ne 31, .aload 0, .getfield 656, .ifCond .lt 19, .iload 3, .aload 0, .getfield 656, .if_icmp .ge 30, .jsr 19] ls st m := by
  rw [s_j, s_g_eq, g_l243]; rfl
theorem u_243_19 {X : e_X} {d : Nat} {ls st : List Value} {m : e_M} : s_j X d 243 19 ls st m = s_x X d 243 [.aload 0, .iload 3, .putfield 656, .aload 0, .iload 4, .putfield 657, .jsr 30] ls st m := by
  rw [s_j, s_g_eq, g_l243]; rfl
theorem u_243_30 {X : e_X} {d : Nat} {ls st : List Value} {m : e_M} : s_j X d 243 30 ls st m = s_x X d 243 [.return_] ls st m := by
  rw [s_j, s_g_eq, g_l243]; rfl
theorem u_243_31 {X : e_X} {d : Nat} {ls st : List Value} {m : e_M} : s_j X d 243 31 ls st m = s_x X d 243 [.sipush 0, .istore 5, .jsr 34] ls st m := by
  rw [s_j, s_g_eq, g_l243]; rfl
theorem u_243_34 {X : e_X} {d : Nat} {ls st : List Value} {m : e_M} : s_j X d 243 34 ls st m = s_x X d 243 [.iload 5, .aload 0, .checkcast 640, .sipush 6, .iaload, .if_icmp .ge 131, .iload 1, .iload 5, .ishr, .sipush 1, .iand, .sipush 1, .if_icmp .ne 125, .aload 0, .iload 5, .sipush 1, .invokeinterface 196 3, .iload 2, .if_icmp .ge 79, .iload 2, .aload 0, .iload 5, .sipush 1, .invokeinterface 196 3, .isub, .goto 88] ls st m := by
  rw [s_j, s_g_eq, g_l243]; rfl
theorem u_243_79 {X : e_X} {d : Nat} {ls st : List Value} {m : e_M} : s_j X d 243 79 ls st m = s_x X d 243 [.aload 0, .iload 5, .sipush 1, .invokeinterface 196 3, .iload 2, .isub, .jsr 88] ls st m := by
  rw [s_j, s_g_eq, g_l243]; rfl
theorem u_243_88 {X : e_X} {d : Nat} {ls st : List Value} {m : e_M} : s_j X d 243 88 ls st m = s_x X d 243 [.istore 6, .aload 0, .iload 1, .sipush 1, .iload 5, .ishl, .sipush (-1), .ixor, .iand, .aload 0, .iload 5, .sipush 1, .invokeinterface 196 3, .iload 3, .iload 6, .iadd, .iload 4, .ifCond .ge 120, .iload 5, .goto 122] ls st m := by
  rw [s_j, s_g_eq, g_l243]; rfl
theorem u_243_120 {X : e_X} {d : Nat} {ls st : List Value} {m : e_M} : s_j X d 243 120 ls st m = s_x X d 243 [.iload 4, .jsr 122] ls st m := by
  rw [s_j, s_g_eq, g_l243]; rfl
theorem u_243_122 {X : e_X} {d : Nat} {ls st : List Value} {m : e_M} : s_j X d 243 122 ls st m = s_x X d 243 [.invokeinterface 243 5, .jsr 125] ls st m := by
  rw [s_j, s_g_eq, g_l243]; rfl
theorem u_243_125 {X : e_X} {d : Nat} {ls st : List Value} {m : e_M} : s_j X d 243 125 ls st m = s_x X d 243 [.iinc 5 1, .goto 34] ls st m := by
  rw [s_j, s_g_eq, g_l243]; rfl
theorem u_243_131 {X : e_X} {d : Nat} {ls st : List Value} {m : e_M} : s_j X d 243 131 ls st m = s_x X d 243 [.return_] ls st m := by
  rw [s_j, s_g_eq, g_l243]; rfl
/-- M.best -/
theorem g_l244 (l : Nat) : g_P 244 l = (g_c244.lookup l).getD [] := rfl
theorem v_244 {X : e_X} {d : Nat} (a0 : Nat) (a1 : Int32) {m : e_M} : s_S X (d + 1) 244 [.ref a0, .int a1] m = s_j X d 244 0 [.ref a0, .int a1] [] m := rfl
theorem u_244_0 {X : e_X} {d : Nat} {ls st : List Value} {m : e_M} : s_j X d 244 0 ls st m = s_x X d 244 [.iload 1, .invokeinterface 245 1, .ifCond .ne 9, .sipush (-1), .ireturn] ls st m := by
  rw [s_j, s_g_eq, g_l244]; rfl
theorem u_244_9 {X : e_X} {d : Nat} {ls st : List Value} {m : e_M} : s_j X d 244 9 ls st m = s_x X d 244 [.aload 0, .iload 1, .sipush 0, .invokeinterface 246 3, .aload 0, .getfield 661, .ireturn] ls st m := by
  rw [s_j, s_g_eq, g_l244]; rfl
/-- M.isPlan -/
theorem g_l245 (l : Nat) : g_P 245 l = (g_c245.lookup l).getD [] := rfl
theorem v_245 {X : e_X} {d : Nat} (a0 : Int32) {m : e_M} : s_S X (d + 1) 245 [.int a0] m = s_j X d 245 0 [.int a0] [] m := rfl
theorem u_245_0 {X : e_X} {d : Nat} {ls st : List Value} {m : e_M} : s_j X d 245 0 ls st m = s_x X d 245 [.iload 0, .sipush 0, .sipush 4, .invokeinterface 172 3, .ireturn] ls st m := by
  rw [s_j, s_g_eq, g_l245]; rfl
/-- M.triesAll -/
theorem g_l246 (l : Nat) : g_P 246 l = (g_c246.lookup l).getD [] := rfl
theorem v_246 {X : e_X} {d : Nat} (a0 : Nat) (a1 : Int32) (a2 : Int32) {m : e_M} : s_S X (d + 1) 246 [.ref a0, .int a1, .int a2] m = s_j X d 246 0 [.ref a0, .int a1, .int a2] [] m := rfl
theorem u_246_0 {X : e_X} {d : Nat} {ls st : List Value} {m : e_M} : s_j X d 246 0 ls st m = s_x X d 246 [.aload 0, .sipush (-1), .putfield 661, .aload 0, .sipush 0, .putfield 662, .aload 0, .sipush 5, .putfield 663, .aload 0, .sipush 0, .putfield 664, .aload 0, .sipush 0, .aload 0, .iload 1, .invokeinterface 247 2, .sipush 0, .sipush 0, .iload 2, .invokeinterface 248 6, .return_] ls st m := by
  rw [s_j, s_g_eq, g_l246]; rfl
/-- M.daysOf -/
theorem g_l247 (l : Nat) : g_P 247 l = (g_c247.lookup l).getD [] := rfl
theorem v_247 {X : e_X} {d : Nat} (a0 : Nat) (a1 : Int32) {m : e_M} : s_S X (d + 1) 247 [.ref a0, .int a1] m = s_j X d 247 0 [.ref a0, .int a1, .retAddr 0] [] m := rfl
theorem u_247_0 {X : e_X} {d : Nat} {ls st : List Value} {m : e_M} : s_j X d 247 0 ls st m = s_x X d 247 [.aload 0, .invokeinterface 217 1, .ifCond .eq 11, .sipush 0, .goto 24] ls st m := by
  rw [s_j, s_g_eq, g_l247]; rfl
theorem u_247_11 {X : e_X} {d : Nat} {ls st : List Value} {m : e_M} : s_j X d 247 11 ls st m = s_x X d 247 [.aload 0, .checkcast 640, .sipush 1, .iaload, .aload 0, .checkcast 640, .sipush 0, .iaload, .isub, .jsr 24] ls st m := by
  rw [s_j, s_g_eq, g_l247]; rfl
theorem u_247_24 {X : e_X} {d : Nat} {ls st : List Value} {m : e_M} : s_j X d 247 24 ls st m = s_x X d 247 [.istore 2, .iload 1, .iload 2, .if_icmp .ge 34, .iload 1, .goto 35] ls st m := by
  rw [s_j, s_g_eq, g_l247]; rfl
theorem u_247_34 {X : e_X} {d : Nat} {ls st : List Value} {m : e_M} : s_j X d 247 34 ls st m = s_x X d 247 [.iload 2, .jsr 35] ls st m := by
  rw [s_j, s_g_eq, g_l247]; rfl
theorem u_247_35 {X : e_X} {d : Nat} {ls st : List Value} {m : e_M} : s_j X d 247 35 ls st m = s_x X d 247 [.ireturn] ls st m := by
  rw [s_j, s_g_eq, g_l247]; rfl
/-- M.goesPlans -/
theorem g_l248 (l : Nat) : g_P 248 l = (g_c248.lookup l).getD [] := rfl
theorem v_248 {X : e_X} {d : Nat} (a0 : Nat) (a1 : Int32) (a2 : Int32) (a3 : Int32) (a4 : Int32) (a5 : Int32) {m : e_M} : s_S X (d + 1) 248 [.ref a0, .int a1, .int a2, .int a3, .int a4, .int a5] m = s_j X d 248 0 [.ref a0, .int a1, .int a2, .int a3, .int a4, .int a5, .retAddr 0, .retAddr 0] [] m := rfl
theorem u_248_0 {X : e_X} {d : Nat} {ls st : List Value} {m : e_M} : s_j X d 248 0 ls st m = s_x X d 248 [.iload 1, .iload 2, .if_icmp .ne 16, .aload 0, .iload 2, .iload 3, .iload 4, .iload 5, .invokeinterface 249 5, .return_] ls st m := by
  rw [s_j, s_g_eq, g_l248]; rfl
theorem u_248_16 {X : e_X} {d : Nat} {ls st : List Value} {m : e_M} : s_j X d 248 16 ls st m = s_x X d 248 [.aload 0, .iload 1, .invokeinterface 250 2, .sipush 0, .istore 6, .jsr 24] ls st m := by
  rw [s_j, s_g_eq, g_l248]; rfl
theorem u_248_24 {X : e_X} {d : Nat} {ls st : List Value} {m : e_M} : s_j X d 248 24 ls st m = s_x X d 248 [.iload 6, .aload 0, .checkcast 640, .sipush 6, .iaload, .if_icmp .gt 91, .aload 0, .checkcast 659, .iload 1, .iload 6, .iastore, .aload 0, .iload 6, .invokeinterface 220 2, .istore 7, .aload 0, .iload 1, .sipush 1, .iadd, .iload 2, .iload 3, .iload 7, .iadd, .iload 6, .ifCond .le 73, .iload 4, .sipush 1, .iadd, .goto 75] ls st m := by
  rw [s_j, s_g_eq, g_l248]; rfl
theorem u_248_73 {X : e_X} {d : Nat} {ls st : List Value} {m : e_M} : s_j X d 248 73 ls st m = s_x X d 248 [.iload 4, .jsr 75] ls st m := by
  rw [s_j, s_g_eq, g_l248]; rfl
theorem u_248_75 {X : e_X} {d : Nat} {ls st : List Value} {m : e_M} : s_j X d 248 75 ls st m = s_x X d 248 [.iload 5, .invokeinterface 248 6, .aload 0, .iload 1, .invokeinterface 251 2, .iinc 6 1, .goto 24] ls st m := by
  rw [s_j, s_g_eq, g_l248]; rfl
theorem u_248_91 {X : e_X} {d : Nat} {ls st : List Value} {m : e_M} : s_j X d 248 91 ls st m = s_x X d 248 [.return_] ls st m := by
  rw [s_j, s_g_eq, g_l248]; rfl
/-- M.endsPlan -/
theorem g_l249 (l : Nat) : g_P 249 l = (g_c249.lookup l).getD [] := rfl
theorem v_249 {X : e_X} {d : Nat} (a0 : Nat) (a1 : Int32) (a2 : Int32) (a3 : Int32) (a4 : Int32) {m : e_M} : s_S X (d + 1) 249 [.ref a0, .int a1, .int a2, .int a3, .int a4] m = s_j X d 249 0 [.ref a0, .int a1, .int a2, .int a3, .int a4, .retAddr 0] [] m := rfl
theorem u_249_0 {X : e_X} {d : Nat} {ls st : List Value} {m : e_M} : s_j X d 249 0 ls st m = s_x X d 249 [.iload 2, .aload 0, .getfield 661, .if_icmp .le 47, .aload 0, .sipush 0, .putfield 662, .aload 0, .iload 2, .putfield 661, .sipush 0, .istore 5, .jsr 21] ls st m := by
  rw [s_j, s_g_eq, g_l249]; rfl
theorem u_249_21 {X : e_X} {d : Nat} {ls st : List Value} {m : e_M} : s_j X d 249 21 ls st m = s_x X d 249 [.iload 5, .iload 1, .if_icmp .ge 47, .aload 0, .checkcast 660, .iload 5, .aload 0, .checkcast 659, .iload 5, .iaload, .iastore, .iinc 5 1, .goto 21] ls st m := by
  rw [s_j, s_g_eq, g_l249]; rfl
theorem u_249_47 {X : e_X} {d : Nat} {ls st : List Value} {m : e_M} : s_j X d 249 47 ls st m = s_x X d 249 [.aload 0, .dup, .getfield 662, .iload 2, .aload 0, .getfield 661, .if_icmp .ne 64, .sipush 1, .goto 65] ls st m := by
  rw [s_j, s_g_eq, g_l249]; rfl
theorem u_249_64 {X : e_X} {d : Nat} {ls st : List Value} {m : e_M} : s_j X d 249 64 ls st m = s_x X d 249 [.sipush 0, .jsr 65] ls st m := by
  rw [s_j, s_g_eq, g_l249]; rfl
theorem u_249_65 {X : e_X} {d : Nat} {ls st : List Value} {m : e_M} : s_j X d 249 65 ls st m = s_x X d 249 [.iadd, .putfield 662, .aload 0, .sipush 4, .invokeinterface 218 2, .istore 5, .aload 0, .iload 4, .iload 5, .sipush (-1), .ixor, .iand, .ifCond .ne 99, .iload 3, .aload 0, .getfield 663, .if_icmp .ge 99, .iload 3, .goto 103] ls st m := by
  rw [s_j, s_g_eq, g_l249]; rfl
theorem u_249_99 {X : e_X} {d : Nat} {ls st : List Value} {m : e_M} : s_j X d 249 99 ls st m = s_x X d 249 [.aload 0, .getfield 663, .jsr 103] ls st m := by
  rw [s_j, s_g_eq, g_l249]; rfl
theorem u_249_103 {X : e_X} {d : Nat} {ls st : List Value} {m : e_M} : s_j X d 249 103 ls st m = s_x X d 249 [.putfield 663, .aload 0, .dup, .getfield 664, .iload 5, .ior, .putfield 664, .return_] ls st m := by
  rw [s_j, s_g_eq, g_l249]; rfl
/-- M.saves -/
theorem g_l250 (l : Nat) : g_P 250 l = (g_c250.lookup l).getD [] := rfl
theorem v_250 {X : e_X} {d : Nat} (a0 : Nat) (a1 : Int32) {m : e_M} : s_S X (d + 1) 250 [.ref a0, .int a1] m = s_j X d 250 0 [.ref a0, .int a1, .retAddr 0] [] m := rfl
theorem u_250_0 {X : e_X} {d : Nat} {ls st : List Value} {m : e_M} : s_j X d 250 0 ls st m = s_x X d 250 [.sipush 0, .istore 2, .jsr 2] ls st m := by
  rw [s_j, s_g_eq, g_l250]; rfl
theorem u_250_2 {X : e_X} {d : Nat} {ls st : List Value} {m : e_M} : s_j X d 250 2 ls st m = s_x X d 250 [.iload 2, .sipush 74, .if_icmp .ge 31, .aload 0, .checkcast 658, .sipush 74, .iload 1, .imul, .iload 2, .iadd, .aload 0, .checkcast 640, .iload 2, .iaload, .iastore, .iinc 2 1, .goto 2] ls st m := by
  rw [s_j, s_g_eq, g_l250]; rfl
theorem u_250_31 {X : e_X} {d : Nat} {ls st : List Value} {m : e_M} : s_j X d 250 31 ls st m = s_x X d 250 [.return_] ls st m := by
  rw [s_j, s_g_eq, g_l250]; rfl
/-- M.restores -/
theorem g_l251 (l : Nat) : g_P 251 l = (g_c251.lookup l).getD [] := rfl
theorem v_251 {X : e_X} {d : Nat} (a0 : Nat) (a1 : Int32) {m : e_M} : s_S X (d + 1) 251 [.ref a0, .int a1] m = s_j X d 251 0 [.ref a0, .int a1, .retAddr 0] [] m := rfl
theorem u_251_0 {X : e_X} {d : Nat} {ls st : List Value} {m : e_M} : s_j X d 251 0 ls st m = s_x X d 251 [.sipush 0, .istore 2, .jsr 2] ls st m := by
  rw [s_j, s_g_eq, g_l251]; rfl
theorem u_251_2 {X : e_X} {d : Nat} {ls st : List Value} {m : e_M} : s_j X d 251 2 ls st m = s_x X d 251 [.iload 2, .sipush 74, .if_icmp .ge 31, .aload 0, .checkcast 640, .iload 2, .aload 0, .checkcast 658, .sipush 74, .iload 1, .imul, .iload 2, .iadd, .iaload, .iastore, .iinc 2 1, .goto 2] ls st m := by
  rw [s_j, s_g_eq, g_l251]; rfl
theorem u_251_31 {X : e_X} {d : Nat} {ls st : List Value} {m : e_M} : s_j X d 251 31 ls st m = s_x X d 251 [.return_] ls st m := by
  rw [s_j, s_g_eq, g_l251]; rfl
/-- M.ith -/
theorem g_l252 (l : Nat) : g_P 252 l = (g_c252.lookup l).getD [] := rfl
theorem v_252 {X : e_X} {d : Nat} (a0 : Nat) (a1 : Int32) (a2 : Int32) {m : e_M} : s_S X (d + 1) 252 [.ref a0, .int a1, .int a2] m = s_j X d 252 0 [.ref a0, .int a1, .int a2] [] m := rfl
theorem u_252_0 {X : e_X} {d : Nat} {ls st : List Value} {m : e_M} : s_j X d 252 0 ls st m = s_x X d 252 [.iload 1, .invokeinterface 245 1, .ifCond .eq 16, .iload 2, .sipush 0, .sipush 3, .invokeinterface 172 3, .ifCond .ne 18, .jsr 16] ls st m := by
  rw [s_j, s_g_eq, g_l252]; rfl
theorem u_252_16 {X : e_X} {d : Nat} {ls st : List Value} {m : e_M} : s_j X d 252 16 ls st m = s_x X d 252 [.sipush (-1), .ireturn] ls st m := by
  rw [s_j, s_g_eq, g_l252]; rfl
theorem u_252_18 {X : e_X} {d : Nat} {ls st : List Value} {m : e_M} : s_j X d 252 18 ls st m = s_x X d 252 [.aload 0, .iload 1, .sipush 0, .invokeinterface 246 3, .iload 2, .aload 0, .iload 1, .invokeinterface 247 2, .if_icmp .ge 42, .aload 0, .checkcast 660, .iload 2, .iaload, .goto 44] ls st m := by
  rw [s_j, s_g_eq, g_l252]; rfl
theorem u_252_42 {X : e_X} {d : Nat} {ls st : List Value} {m : e_M} : s_j X d 252 42 ls st m = s_x X d 252 [.sipush (-3), .jsr 44] ls st m := by
  rw [s_j, s_g_eq, g_l252]; rfl
theorem u_252_44 {X : e_X} {d : Nat} {ls st : List Value} {m : e_M} : s_j X d 252 44 ls st m = s_x X d 252 [.ireturn] ls st m := by
  rw [s_j, s_g_eq, g_l252]; rfl
/-- M.ways -/
theorem g_l253 (l : Nat) : g_P 253 l = (g_c253.lookup l).getD [] := rfl
theorem v_253 {X : e_X} {d : Nat} (a0 : Nat) (a1 : Int32) {m : e_M} : s_S X (d + 1) 253 [.ref a0, .int a1] m = s_j X d 253 0 [.ref a0, .int a1] [] m := rfl
theorem u_253_0 {X : e_X} {d : Nat} {ls st : List Value} {m : e_M} : s_j X d 253 0 ls st m = s_x X d 253 [.iload 1, .invokeinterface 245 1, .ifCond .ne 9, .sipush (-1), .ireturn] ls st m := by
  rw [s_j, s_g_eq, g_l253]; rfl
theorem u_253_9 {X : e_X} {d : Nat} {ls st : List Value} {m : e_M} : s_j X d 253 9 ls st m = s_x X d 253 [.aload 0, .iload 1, .sipush 0, .invokeinterface 246 3, .aload 0, .getfield 662, .ireturn] ls st m := by
  rw [s_j, s_g_eq, g_l253]; rfl
/-- M.supper -/
theorem g_l254 (l : Nat) : g_P 254 l = (g_c254.lookup l).getD [] := rfl
theorem v_254 {X : e_X} {d : Nat} (a0 : Nat) (a1 : Int32) (a2 : Int32) {m : e_M} : s_S X (d + 1) 254 [.ref a0, .int a1, .int a2] m = s_j X d 254 0 [.ref a0, .int a1, .int a2] [] m := rfl
theorem u_254_0 {X : e_X} {d : Nat} {ls st : List Value} {m : e_M} : s_j X d 254 0 ls st m = s_x X d 254 [.iload 1, .invokeinterface 245 1, .ifCond .eq 15, .aload 0, .iload 2, .invokeinterface 255 2, .ifCond .ne 17, .jsr 15] ls st m := by
  rw [s_j, s_g_eq, g_l254]; rfl
theorem u_254_15 {X : e_X} {d : Nat} {ls st : List Value} {m : e_M} : s_j X d 254 15 ls st m = s_x X d 254 [.sipush (-1), .ireturn] ls st m := by
  rw [s_j, s_g_eq, g_l254]; rfl
theorem u_254_17 {X : e_X} {d : Nat} {ls st : List Value} {m : e_M} : s_j X d 254 17 ls st m = s_x X d 254 [.aload 0, .iload 1, .iload 2, .invokeinterface 246 3, .aload 0, .getfield 663, .sipush 4, .if_icmp .le 36, .sipush (-3), .goto 40] ls st m := by
  rw [s_j, s_g_eq, g_l254]; rfl
theorem u_254_36 {X : e_X} {d : Nat} {ls st : List Value} {m : e_M} : s_j X d 254 36 ls st m = s_x X d 254 [.aload 0, .getfield 663, .jsr 40] ls st m := by
  rw [s_j, s_g_eq, g_l254]; rfl
theorem u_254_40 {X : e_X} {d : Nat} {ls st : List Value} {m : e_M} : s_j X d 254 40 ls st m = s_x X d 254 [.ireturn] ls st m := by
  rw [s_j, s_g_eq, g_l254]; rfl
/-- M.isSet -/
theorem g_l255 (l : Nat) : g_P 255 l = (g_c255.lookup l).getD [] := rfl
theorem v_255 {X : e_X} {d : Nat} (a0 : Nat) (a1 : Int32) {m : e_M} : s_S X (d + 1) 255 [.ref a0, .int a1] m = s_j X d 255 0 [.ref a0, .int a1] [] m := rfl
theorem u_255_0 {X : e_X} {d : Nat} {ls st : List Value} {m : e_M} : s_j X d 255 0 ls st m = s_x X d 255 [.iload 1, .sipush 0, .sipush 1, .aload 0, .checkcast 640, .sipush 6, .iaload, .ishl, .sipush 1, .isub, .invokeinterface 172 3, .ireturn] ls st m := by
  rw [s_j, s_g_eq, g_l255]; rfl
/-- M.bars -/
theorem g_l256 (l : Nat) : g_P 256 l = (g_c256.lookup l).getD [] := rfl
theorem v_256 {X : e_X} {d : Nat} (a0 : Nat) (a1 : Int32) (a2 : Int32) {m : e_M} : s_S X (d + 1) 256 [.ref a0, .int a1, .int a2] m = s_j X d 256 0 [.ref a0, .int a1, .int a2, .retAddr 0, .retAddr 0] [] m := rfl
theorem u_256_0 {X : e_X} {d : Nat} {ls st : List Value} {m : e_M} : s_j X d 256 0 ls st m = s_x X d 256 [.iload 1, .invokeinterface 245 1, .ifCond .eq 15, .aload 0, .iload 2, .invokeinterface 255 2, .ifCond .ne 17, .jsr 15] ls st m := by
  rw [s_j, s_g_eq, g_l256]; rfl
theorem u_256_15 {X : e_X} {d : Nat} {ls st : List Value} {m : e_M} : s_j X d 256 15 ls st m = s_x X d 256 [.sipush (-1), .ireturn] ls st m := by
  rw [s_j, s_g_eq, g_l256]; rfl
theorem u_256_17 {X : e_X} {d : Nat} {ls st : List Value} {m : e_M} : s_j X d 256 17 ls st m = s_x X d 256 [.aload 0, .iload 1, .iload 2, .invokeinterface 246 3, .iload 2, .aload 0, .getfield 664, .sipush (-1), .ixor, .iand, .istore 3, .sipush 0, .istore 4, .jsr 35] ls st m := by
  rw [s_j, s_g_eq, g_l256]; rfl
theorem u_256_35 {X : e_X} {d : Nat} {ls st : List Value} {m : e_M} : s_j X d 256 35 ls st m = s_x X d 256 [.iload 4, .aload 0, .checkcast 640, .sipush 6, .iaload, .if_icmp .ge 62, .iload 3, .iload 4, .ishr, .sipush 1, .iand, .ifCond .ne 62, .iinc 4 1, .goto 35] ls st m := by
  rw [s_j, s_g_eq, g_l256]; rfl
theorem u_256_62 {X : e_X} {d : Nat} {ls st : List Value} {m : e_M} : s_j X d 256 62 ls st m = s_x X d 256 [.iload 4, .aload 0, .checkcast 640, .sipush 6, .iaload, .if_icmp .ge 79, .iload 4, .goto 81] ls st m := by
  rw [s_j, s_g_eq, g_l256]; rfl
theorem u_256_79 {X : e_X} {d : Nat} {ls st : List Value} {m : e_M} : s_j X d 256 79 ls st m = s_x X d 256 [.sipush (-3), .jsr 81] ls st m := by
  rw [s_j, s_g_eq, g_l256]; rfl
theorem u_256_81 {X : e_X} {d : Nat} {ls st : List Value} {m : e_M} : s_j X d 256 81 ls st m = s_x X d 256 [.ireturn] ls st m := by
  rw [s_j, s_g_eq, g_l256]; rfl
/-- M.game -/
theorem g_l257 (l : Nat) : g_P 257 l = (g_c257.lookup l).getD [] := rfl
theorem v_257 {X : e_X} {d : Nat} (a0 : Nat) (a1 : Int32) {m : e_M} : s_S X (d + 1) 257 [.ref a0, .int a1] m = s_j X d 257 0 [.ref a0, .int a1] [] m := rfl
theorem u_257_0 {X : e_X} {d : Nat} {ls st : List Value} {m : e_M} : s_j X d 257 0 ls st m = s_x X d 257 [.iload 1, .sipush 1, .sipush 4, .invokeinterface 172 3, .ifCond .eq 22, .aload 0, .sipush 0, .aload 0, .iload 1, .invokeinterface 247 2, .invokeinterface 258 3, .goto 23] ls st m := by
  rw [s_j, s_g_eq, g_l257]; rfl
theorem u_257_22 {X : e_X} {d : Nat} {ls st : List Value} {m : e_M} : s_j X d 257 22 ls st m = s_x X d 257 [.sipush (-1), .jsr 23] ls st m := by
  rw [s_j, s_g_eq, g_l257]; rfl
theorem u_257_23 {X : e_X} {d : Nat} {ls st : List Value} {m : e_M} : s_j X d 257 23 ls st m = s_x X d 257 [.ireturn] ls st m := by
  rw [s_j, s_g_eq, g_l257]; rfl
/-- M.playedFrom -/
theorem g_l258 (l : Nat) : g_P 258 l = (g_c258.lookup l).getD [] := rfl
theorem v_258 {X : e_X} {d : Nat} (a0 : Nat) (a1 : Int32) (a2 : Int32) {m : e_M} : s_S X (d + 1) 258 [.ref a0, .int a1, .int a2] m = s_j X d 258 0 [.ref a0, .int a1, .int a2, .retAddr 0, .retAddr 0, .retAddr 0, .retAddr 0, .retAddr 0, .retAddr 0] [] m := rfl
theorem u_258_0 {X : e_X} {d : Nat} {ls st : List Value} {m : e_M} : s_j X d 258 0 ls st m = s_x X d 258 [.iload 1, .iload 2, .if_icmp .ne 7, .sipush 0, .ireturn] ls st m := by
  rw [s_j, s_g_eq, g_l258]; rfl
theorem u_258_7 {X : e_X} {d : Nat} {ls st : List Value} {m : e_M} : s_j X d 258 7 ls st m = s_x X d 258 [.aload 0, .iload 1, .invokeinterface 250 2, .sipush 0, .istore 3, .sipush (-1), .istore 4, .sipush 0, .istore 5, .jsr 20] ls st m := by
  rw [s_j, s_g_eq, g_l258]; rfl
theorem u_258_20 {X : e_X} {d : Nat} {ls st : List Value} {m : e_M} : s_j X d 258 20 ls st m = s_x X d 258 [.iload 5, .aload 0, .checkcast 640, .sipush 6, .iaload, .if_icmp .gt 123, .aload 0, .iload 5, .invokeinterface 220 2, .istore 6, .iload 6, .aload 0, .iload 1, .sipush 1, .iadd, .iload 2, .invokeinterface 258 3, .iadd, .istore 7, .aload 0, .iload 1, .invokeinterface 251 2, .iload 4, .ifCond .lt 84, .iload 1, .sipush 2, .irem, .ifCond .ne 78, .iload 7, .iload 3, .if_icmp .le 88, .goto 84] ls st m := by
  rw [s_j, s_g_eq, g_l258]; rfl
theorem u_258_78 {X : e_X} {d : Nat} {ls st : List Value} {m : e_M} : s_j X d 258 78 ls st m = s_x X d 258 [.iload 7, .iload 3, .if_icmp .ge 88, .jsr 84] ls st m := by
  rw [s_j, s_g_eq, g_l258]; rfl
theorem u_258_84 {X : e_X} {d : Nat} {ls st : List Value} {m : e_M} : s_j X d 258 84 ls st m = s_x X d 258 [.sipush 1, .goto 89] ls st m := by
  rw [s_j, s_g_eq, g_l258]; rfl
theorem u_258_88 {X : e_X} {d : Nat} {ls st : List Value} {m : e_M} : s_j X d 258 88 ls st m = s_x X d 258 [.sipush 0, .jsr 89] ls st m := by
  rw [s_j, s_g_eq, g_l258]; rfl
theorem u_258_89 {X : e_X} {d : Nat} {ls st : List Value} {m : e_M} : s_j X d 258 89 ls st m = s_x X d 258 [.istore 8, .iload 8, .ifCond .eq 101, .iload 5, .goto 103] ls st m := by
  rw [s_j, s_g_eq, g_l258]; rfl
theorem u_258_101 {X : e_X} {d : Nat} {ls st : List Value} {m : e_M} : s_j X d 258 101 ls st m = s_x X d 258 [.iload 4, .jsr 103] ls st m := by
  rw [s_j, s_g_eq, g_l258]; rfl
theorem u_258_103 {X : e_X} {d : Nat} {ls st : List Value} {m : e_M} : s_j X d 258 103 ls st m = s_x X d 258 [.istore 4, .iload 8, .ifCond .eq 115, .iload 7, .goto 116] ls st m := by
  rw [s_j, s_g_eq, g_l258]; rfl
theorem u_258_115 {X : e_X} {d : Nat} {ls st : List Value} {m : e_M} : s_j X d 258 115 ls st m = s_x X d 258 [.iload 3, .jsr 116] ls st m := by
  rw [s_j, s_g_eq, g_l258]; rfl
theorem u_258_116 {X : e_X} {d : Nat} {ls st : List Value} {m : e_M} : s_j X d 258 116 ls st m = s_x X d 258 [.istore 3, .iinc 5 1, .goto 20] ls st m := by
  rw [s_j, s_g_eq, g_l258]; rfl
theorem u_258_123 {X : e_X} {d : Nat} {ls st : List Value} {m : e_M} : s_j X d 258 123 ls st m = s_x X d 258 [.aload 0, .checkcast 659, .iload 1, .iload 4, .iastore, .iload 3, .ireturn] ls st m := by
  rw [s_j, s_g_eq, g_l258]; rfl
/-- M.play -/
theorem g_l259 (l : Nat) : g_P 259 l = (g_c259.lookup l).getD [] := rfl
theorem v_259 {X : e_X} {d : Nat} (a0 : Nat) (a1 : Int32) {m : e_M} : s_S X (d + 1) 259 [.ref a0, .int a1] m = s_j X d 259 0 [.ref a0, .int a1, .retAddr 0] [] m := rfl
theorem u_259_0 {X : e_X} {d : Nat} {ls st : List Value} {m : e_M} : s_j X d 259 0 ls st m = s_x X d 259 [.iload 1, .sipush 1, .sipush 4, .invokeinterface 172 3, .ifCond .ne 11, .sipush (-1), .ireturn] ls st m := by
  rw [s_j, s_g_eq, g_l259]; rfl
theorem u_259_11 {X : e_X} {d : Nat} {ls st : List Value} {m : e_M} : s_j X d 259 11 ls st m = s_x X d 259 [.aload 0, .invokeinterface 217 1, .ifCond .eq 21, .sipush (-3), .ireturn] ls st m := by
  rw [s_j, s_g_eq, g_l259]; rfl
theorem u_259_21 {X : e_X} {d : Nat} {ls st : List Value} {m : e_M} : s_j X d 259 21 ls st m = s_x X d 259 [.aload 0, .sipush 0, .aload 0, .iload 1, .invokeinterface 247 2, .invokeinterface 258 3, .istore 2, .iload 2, .ifCond .ge 41, .sipush (-3), .goto 47] ls st m := by
  rw [s_j, s_g_eq, g_l259]; rfl
theorem u_259_41 {X : e_X} {d : Nat} {ls st : List Value} {m : e_M} : s_j X d 259 41 ls st m = s_x X d 259 [.aload 0, .checkcast 659, .sipush 0, .iaload, .jsr 47] ls st m := by
  rw [s_j, s_g_eq, g_l259]; rfl
theorem u_259_47 {X : e_X} {d : Nat} {ls st : List Value} {m : e_M} : s_j X d 259 47 ls st m = s_x X d 259 [.ireturn] ls st m := by
  rw [s_j, s_g_eq, g_l259]; rfl
/-- M.report -/
theorem g_l260 (l : Nat) : g_P 260 l = (g_c260.lookup l).getD [] := rfl
theorem v_260 {X : e_X} {d : Nat} (a0 : Nat) (a1 : Int32) (a2 : Int32) (a3 : Int32) (a4 : Int32) {m : e_M} : s_S X (d + 1) 260 [.ref a0, .int a1, .int a2, .int a3, .int a4] m = s_j X d 260 0 [.ref a0, .int a1, .int a2, .int a3, .int a4, .retAddr 0, .retAddr 0] [] m := rfl
theorem u_260_0 {X : e_X} {d : Nat} {ls st : List Value} {m : e_M} : s_j X d 260 0 ls st m = s_x X d 260 [.iload 2, .ifCond .ne 9, .sipush 40, .goto 11] ls st m := by
  rw [s_j, s_g_eq, g_l260]; rfl
theorem u_260_9 {X : e_X} {d : Nat} {ls st : List Value} {m : e_M} : s_j X d 260 9 ls st m = s_x X d 260 [.sipush 9, .jsr 11] ls st m := by
  rw [s_j, s_g_eq, g_l260]; rfl
theorem u_260_11 {X : e_X} {d : Nat} {ls st : List Value} {m : e_M} : s_j X d 260 11 ls st m = s_x X d 260 [.istore 5, .iload 1, .sipush 0, .sipush 15, .invokeinterface 172 3, .ifCond .eq 53, .iload 2, .sipush 0, .sipush 1, .invokeinterface 172 3, .ifCond .eq 53, .iload 3, .sipush 0, .iload 5, .invokeinterface 172 3, .ifCond .eq 53, .iload 4, .iload 3, .iload 5, .invokeinterface 172 3, .ifCond .ne 55, .jsr 53] ls st m := by
  rw [s_j, s_g_eq, g_l260]; rfl
theorem u_260_53 {X : e_X} {d : Nat} {ls st : List Value} {m : e_M} : s_j X d 260 53 ls st m = s_x X d 260 [.sipush (-1), .ireturn] ls st m := by
  rw [s_j, s_g_eq, g_l260]; rfl
theorem u_260_55 {X : e_X} {d : Nat} {ls st : List Value} {m : e_M} : s_j X d 260 55 ls st m = s_x X d 260 [.aload 0, .checkcast 640, .sipush 8, .iaload, .sipush 6, .if_icmp .ne 70, .sipush (-2), .ireturn] ls st m := by
  rw [s_j, s_g_eq, g_l260]; rfl
theorem u_260_70 {X : e_X} {d : Nat} {ls st : List Value} {m : e_M} : s_j X d 260 70 ls st m = s_x X d 260 [.sipush 74, .sipush 4, .aload 0, .checkcast 640, .sipush 8, .iaload, .imul, .iadd, .istore 6, .aload 0, .checkcast 640, .iload 6, .iload 1, .iastore, .aload 0, .checkcast 640, .iload 6, .sipush 1, .iadd, .iload 2, .iastore, .aload 0, .checkcast 640, .iload 6, .sipush 2, .iadd, .iload 3, .iastore, .aload 0, .checkcast 640, .iload 6, .sipush 3, .iadd, .iload 4, .iastore, .aload 0, .checkcast 640, .sipush 8, .dup2, .iaload, .sipush 1, .iadd, .iastore, .aload 0, .checkcast 640, .sipush 8, .iaload, .sipush 1, .isub, .ireturn] ls st m := by
  rw [s_j, s_g_eq, g_l260]; rfl
/-- M.forget -/
theorem g_l261 (l : Nat) : g_P 261 l = (g_c261.lookup l).getD [] := rfl
theorem v_261 {X : e_X} {d : Nat} (a0 : Nat) {m : e_M} : s_S X (d + 1) 261 [.ref a0] m = s_j X d 261 0 [.ref a0] [] m := rfl
theorem u_261_0 {X : e_X} {d : Nat} {ls st : List Value} {m : e_M} : s_j X d 261 0 ls st m = s_x X d 261 [.aload 0, .sipush 8, .sipush 0, .invokeinterface 208 3, .ireturn] ls st m := by
  rw [s_j, s_g_eq, g_l261]; rfl
/-- M.lost -/
theorem g_l262 (l : Nat) : g_P 262 l = (g_c262.lookup l).getD [] := rfl
theorem v_262 {X : e_X} {d : Nat} (a0 : Nat) (a1 : Int32) {m : e_M} : s_S X (d + 1) 262 [.ref a0, .int a1] m = s_j X d 262 0 [.ref a0, .int a1, .retAddr 0] [] m := rfl
theorem u_262_0 {X : e_X} {d : Nat} {ls st : List Value} {m : e_M} : s_j X d 262 0 ls st m = s_x X d 262 [.iload 1, .sipush 0, .sipush 3, .invokeinterface 172 3, .ifCond .ne 11, .sipush (-1), .ireturn] ls st m := by
  rw [s_j, s_g_eq, g_l262]; rfl
theorem u_262_11 {X : e_X} {d : Nat} {ls st : List Value} {m : e_M} : s_j X d 262 11 ls st m = s_x X d 262 [.aload 0, .sipush (-1), .invokeinterface 263 2, .istore 2, .iload 1, .ifCond .le 28, .iload 2, .ifCond .ne 28, .sipush (-3), .ireturn] ls st m := by
  rw [s_j, s_g_eq, g_l262]; rfl
theorem u_262_28 {X : e_X} {d : Nat} {ls st : List Value} {m : e_M} : s_j X d 262 28 ls st m = s_x X d 262 [.iload 1, .ifCond .ne 36, .iload 2, .goto 78] ls st m := by
  rw [s_j, s_g_eq, g_l262]; rfl
theorem u_262_36 {X : e_X} {d : Nat} {ls st : List Value} {m : e_M} : s_j X d 262 36 ls st m = s_x X d 262 [.iload 1, .sipush 1, .if_icmp .ne 53, .sipush 1, .aload 0, .getfield 667, .sipush 100, .idiv, .iadd, .goto 78] ls st m := by
  rw [s_j, s_g_eq, g_l262]; rfl
theorem u_262_53 {X : e_X} {d : Nat} {ls st : List Value} {m : e_M} : s_j X d 262 53 ls st m = s_x X d 262 [.iload 1, .sipush 2, .if_icmp .ne 71, .aload 0, .getfield 667, .sipush 10, .idiv, .sipush 10, .irem, .goto 78] ls st m := by
  rw [s_j, s_g_eq, g_l262]; rfl
theorem u_262_71 {X : e_X} {d : Nat} {ls st : List Value} {m : e_M} : s_j X d 262 71 ls st m = s_x X d 262 [.aload 0, .getfield 667, .sipush 10, .irem, .jsr 78] ls st m := by
  rw [s_j, s_g_eq, g_l262]; rfl
theorem u_262_78 {X : e_X} {d : Nat} {ls st : List Value} {m : e_M} : s_j X d 262 78 ls st m = s_x X d 262 [.ireturn] ls st m := by
  rw [s_j, s_g_eq, g_l262]; rfl
/-- M.fitting -/
theorem g_l263 (l : Nat) : g_P 263 l = (g_c263.lookup l).getD [] := rfl
theorem v_263 {X : e_X} {d : Nat} (a0 : Nat) (a1 : Int32) {m : e_M} : s_S X (d + 1) 263 [.ref a0, .int a1] m = s_j X d 263 0 [.ref a0, .int a1, .retAddr 0, .retAddr 0, .retAddr 0, .retAddr 0] [] m := rfl
theorem u_263_0 {X : e_X} {d : Nat} {ls st : List Value} {m : e_M} : s_j X d 263 0 ls st m = s_x X d 263 [.sipush 0, .istore 2, .aload 0, .sipush (-1), .putfield 667, .sipush 0, .istore 3, .jsr 9] ls st m := by
  rw [s_j, s_g_eq, g_l263]; rfl
theorem u_263_9 {X : e_X} {d : Nat} {ls st : List Value} {m : e_M} : s_j X d 263 9 ls st m = s_x X d 263 [.iload 3, .sipush 500, .if_icmp .ge 131, .aload 0, .sipush 1, .iload 3, .sipush 100, .idiv, .iadd, .iload 3, .sipush 10, .idiv, .sipush 10, .irem, .iload 3, .sipush 10, .irem, .invokeinterface 264 4, .sipush 1, .istore 4, .sipush 0, .istore 5, .jsr 43] ls st m := by
  rw [s_j, s_g_eq, g_l263]; rfl
theorem u_263_43 {X : e_X} {d : Nat} {ls st : List Value} {m : e_M} : s_j X d 263 43 ls st m = s_x X d 263 [.iload 5, .aload 0, .checkcast 640, .sipush 8, .iaload, .if_icmp .ge 88, .iload 4, .ifCond .eq 88, .iload 5, .iload 1, .if_icmp .eq 75, .aload 0, .iload 5, .invokeinterface 265 2, .ifCond .eq 79, .jsr 75] ls st m := by
  rw [s_j, s_g_eq, g_l263]; rfl
theorem u_263_75 {X : e_X} {d : Nat} {ls st : List Value} {m : e_M} : s_j X d 263 75 ls st m = s_x X d 263 [.sipush 1, .goto 80] ls st m := by
  rw [s_j, s_g_eq, g_l263]; rfl
theorem u_263_79 {X : e_X} {d : Nat} {ls st : List Value} {m : e_M} : s_j X d 263 79 ls st m = s_x X d 263 [.sipush 0, .jsr 80] ls st m := by
  rw [s_j, s_g_eq, g_l263]; rfl
theorem u_263_80 {X : e_X} {d : Nat} {ls st : List Value} {m : e_M} : s_j X d 263 80 ls st m = s_x X d 263 [.istore 4, .iinc 5 1, .goto 43] ls st m := by
  rw [s_j, s_g_eq, g_l263]; rfl
theorem u_263_88 {X : e_X} {d : Nat} {ls st : List Value} {m : e_M} : s_j X d 263 88 ls st m = s_x X d 263 [.iload 2, .iload 4, .ifCond .eq 98, .sipush 1, .goto 99] ls st m := by
  rw [s_j, s_g_eq, g_l263]; rfl
theorem u_263_98 {X : e_X} {d : Nat} {ls st : List Value} {m : e_M} : s_j X d 263 98 ls st m = s_x X d 263 [.sipush 0, .jsr 99] ls st m := by
  rw [s_j, s_g_eq, g_l263]; rfl
theorem u_263_99 {X : e_X} {d : Nat} {ls st : List Value} {m : e_M} : s_j X d 263 99 ls st m = s_x X d 263 [.iadd, .istore 2, .aload 0, .iload 4, .ifCond .eq 118, .aload 0, .getfield 667, .ifCond .ge 118, .iload 3, .goto 122] ls st m := by
  rw [s_j, s_g_eq, g_l263]; rfl
theorem u_263_118 {X : e_X} {d : Nat} {ls st : List Value} {m : e_M} : s_j X d 263 118 ls st m = s_x X d 263 [.aload 0, .getfield 667, .jsr 122] ls st m := by
  rw [s_j, s_g_eq, g_l263]; rfl
theorem u_263_122 {X : e_X} {d : Nat} {ls st : List Value} {m : e_M} : s_j X d 263 122 ls st m = s_x X d 263 [.putfield 667, .iinc 3 1, .goto 9] ls st m := by
  rw [s_j, s_g_eq, g_l263]; rfl
theorem u_263_131 {X : e_X} {d : Nat} {ls st : List Value} {m : e_M} : s_j X d 263 131 ls st m = s_x X d 263 [.iload 2, .ireturn] ls st m := by
  rw [s_j, s_g_eq, g_l263]; rfl
/-- M.tellsStranger -/
theorem g_l264 (l : Nat) : g_P 264 l = (g_c264.lookup l).getD [] := rfl
theorem v_264 {X : e_X} {d : Nat} (a0 : Nat) (a1 : Int32) (a2 : Int32) (a3 : Int32) {m : e_M} : s_S X (d + 1) 264 [.ref a0, .int a1, .int a2, .int a3] m = s_j X d 264 0 [.ref a0, .int a1, .int a2, .int a3, .retAddr 0, .retAddr 0, .retAddr 0, .retAddr 0, .retAddr 0] [] m := rfl
theorem u_264_0 {X : e_X} {d : Nat} {ls st : List Value} {m : e_M} : s_j X d 264 0 ls st m = s_x X d 264 [.iload 3, .istore 4, .sipush 0, .istore 5, .sipush 0, .istore 6, .jsr 9] ls st m := by
  rw [s_j, s_g_eq, g_l264]; rfl
theorem u_264_9 {X : e_X} {d : Nat} {ls st : List Value} {m : e_M} : s_j X d 264 9 ls st m = s_x X d 264 [.iload 6, .sipush 16, .if_icmp .ge 105, .aload 0, .checkcast 665, .iload 6, .iload 5, .iastore, .aload 0, .checkcast 666, .iload 6, .iload 4, .iastore, .iload 4, .aload 0, .checkcast 640, .sipush 10, .iload 6, .iadd, .iaload, .invokeinterface 221 2, .istore 4, .iload 1, .iload 2, .iload 6, .invokeinterface 197 3, .istore 7, .iload 7, .iload 5, .isub, .istore 8, .iload 5, .iload 8, .ifCond .gt 78, .sipush 0, .goto 96] ls st m := by
  rw [s_j, s_g_eq, g_l264]; rfl
theorem u_264_78 {X : e_X} {d : Nat} {ls st : List Value} {m : e_M} : s_j X d 264 78 ls st m = s_x X d 264 [.iload 8, .iload 4, .sipush 1, .iadd, .if_icmp .le 94, .iload 4, .sipush 1, .iadd, .goto 96] ls st m := by
  rw [s_j, s_g_eq, g_l264]; rfl
theorem u_264_94 {X : e_X} {d : Nat} {ls st : List Value} {m : e_M} : s_j X d 264 94 ls st m = s_x X d 264 [.iload 8, .jsr 96] ls st m := by
  rw [s_j, s_g_eq, g_l264]; rfl
theorem u_264_96 {X : e_X} {d : Nat} {ls st : List Value} {m : e_M} : s_j X d 264 96 ls st m = s_x X d 264 [.iadd, .istore 5, .iinc 6 1, .goto 9] ls st m := by
  rw [s_j, s_g_eq, g_l264]; rfl
theorem u_264_105 {X : e_X} {d : Nat} {ls st : List Value} {m : e_M} : s_j X d 264 105 ls st m = s_x X d 264 [.return_] ls st m := by
  rw [s_j, s_g_eq, g_l264]; rfl
/-- M.isSo -/
theorem g_l265 (l : Nat) : g_P 265 l = (g_c265.lookup l).getD [] := rfl
theorem v_265 {X : e_X} {d : Nat} (a0 : Nat) (a1 : Int32) {m : e_M} : s_S X (d + 1) 265 [.ref a0, .int a1] m = s_j X d 265 0 [.ref a0, .int a1, .retAddr 0, .retAddr 0] [] m := rfl
theorem u_265_0 {X : e_X} {d : Nat} {ls st : List Value} {m : e_M} : s_j X d 265 0 ls st m = s_x X d 265 [.sipush 74, .sipush 4, .iload 1, .imul, .iadd, .istore 2, .aload 0, .checkcast 640, .iload 2, .sipush 1, .iadd, .iaload, .ifCond .ne 32, .aload 0, .checkcast 665, .aload 0, .checkcast 640, .iload 2, .iaload, .iaload, .goto 43] ls st m := by
  rw [s_j, s_g_eq, g_l265]; rfl
theorem u_265_32 {X : e_X} {d : Nat} {ls st : List Value} {m : e_M} : s_j X d 265 32 ls st m = s_x X d 265 [.aload 0, .checkcast 666, .aload 0, .checkcast 640, .iload 2, .iaload, .iaload, .jsr 43] ls st m := by
  rw [s_j, s_g_eq, g_l265]; rfl
theorem u_265_43 {X : e_X} {d : Nat} {ls st : List Value} {m : e_M} : s_j X d 265 43 ls st m = s_x X d 265 [.istore 3, .iload 3, .aload 0, .checkcast 640, .iload 2, .sipush 2, .iadd, .iaload, .aload 0, .checkcast 640, .iload 2, .sipush 3, .iadd, .iaload, .invokeinterface 172 3, .ireturn] ls st m := by
  rw [s_j, s_g_eq, g_l265]; rfl
/-- M.liar -/
theorem g_l266 (l : Nat) : g_P 266 l = (g_c266.lookup l).getD [] := rfl
theorem v_266 {X : e_X} {d : Nat} (a0 : Nat) {m : e_M} : s_S X (d + 1) 266 [.ref a0] m = s_j X d 266 0 [.ref a0, .retAddr 0] [] m := rfl
theorem u_266_0 {X : e_X} {d : Nat} {ls st : List Value} {m : e_M} : s_j X d 266 0 ls st m = s_x X d 266 [.aload 0, .sipush (-1), .invokeinterface 263 2, .ifCond .le 11, .sipush (-3), .ireturn] ls st m := by
  rw [s_j, s_g_eq, g_l266]; rfl
theorem u_266_11 {X : e_X} {d : Nat} {ls st : List Value} {m : e_M} : s_j X d 266 11 ls st m = s_x X d 266 [.sipush 0, .istore 1, .jsr 13] ls st m := by
  rw [s_j, s_g_eq, g_l266]; rfl
theorem u_266_13 {X : e_X} {d : Nat} {ls st : List Value} {m : e_M} : s_j X d 266 13 ls st m = s_x X d 266 [.iload 1, .aload 0, .checkcast 640, .sipush 8, .iaload, .if_icmp .ge 40, .aload 0, .iload 1, .invokeinterface 263 2, .ifCond .le 34, .iload 1, .ireturn] ls st m := by
  rw [s_j, s_g_eq, g_l266]; rfl
theorem u_266_34 {X : e_X} {d : Nat} {ls st : List Value} {m : e_M} : s_j X d 266 34 ls st m = s_x X d 266 [.iinc 1 1, .goto 13] ls st m := by
  rw [s_j, s_g_eq, g_l266]; rfl
theorem u_266_40 {X : e_X} {d : Nat} {ls st : List Value} {m : e_M} : s_j X d 266 40 ls st m = s_x X d 266 [.sipush (-3), .ireturn] ls st m := by
  rw [s_j, s_g_eq, g_l266]; rfl
/-- M.seed -/
theorem g_l267 (l : Nat) : g_P 267 l = (g_c267.lookup l).getD [] := rfl
theorem v_267 {X : e_X} {d : Nat} (a0 : Nat) (a1 : Int32) {m : e_M} : s_S X (d + 1) 267 [.ref a0, .int a1] m = s_j X d 267 0 [.ref a0, .int a1] [] m := rfl
theorem u_267_0 {X : e_X} {d : Nat} {ls st : List Value} {m : e_M} : s_j X d 267 0 ls st m = s_x X d 267 [.aload 0, .sipush 5, .iload 1, .invokeinterface 208 3, .ireturn] ls st m := by
  rw [s_j, s_g_eq, g_l267]; rfl
/-- M.lot -/
theorem g_l268 (l : Nat) : g_P 268 l = (g_c268.lookup l).getD [] := rfl
theorem v_268 {X : e_X} {d : Nat} (a0 : Nat) {m : e_M} : s_S X (d + 1) 268 [.ref a0] m = s_j X d 268 0 [.ref a0] [] m := rfl
theorem u_268_0 {X : e_X} {d : Nat} {ls st : List Value} {m : e_M} : s_j X d 268 0 ls st m = s_x X d 268 [.aload 0, .invokeinterface 217 1, .ifCond .eq 12, .sipush (-4), .goto 16] ls st m := by
  rw [s_j, s_g_eq, g_l268]; rfl
theorem u_268_12 {X : e_X} {d : Nat} {ls st : List Value} {m : e_M} : s_j X d 268 12 ls st m = s_x X d 268 [.aload 0, .invokeinterface 269 1, .jsr 16] ls st m := by
  rw [s_j, s_g_eq, g_l268]; rfl
theorem u_268_16 {X : e_X} {d : Nat} {ls st : List Value} {m : e_M} : s_j X d 268 16 ls st m = s_x X d 268 [.ireturn] ls st m := by
  rw [s_j, s_g_eq, g_l268]; rfl
/-- M.byLot -/
theorem g_l269 (l : Nat) : g_P 269 l = (g_c269.lookup l).getD [] := rfl
theorem v_269 {X : e_X} {d : Nat} (a0 : Nat) {m : e_M} : s_S X (d + 1) 269 [.ref a0] m = s_j X d 269 0 [.ref a0] [] m := rfl
theorem u_269_0 {X : e_X} {d : Nat} {ls st : List Value} {m : e_M} : s_j X d 269 0 ls st m = s_x X d 269 [.aload 0, .checkcast 640, .sipush 5, .aload 0, .checkcast 640, .sipush 5, .iaload, .sipush 1103515245, .imul, .sipush 12345, .iadd, .iastore, .aload 0, .aload 0, .checkcast 640, .sipush 5, .iaload, .sipush 16, .iushr, .aload 0, .checkcast 640, .sipush 6, .iaload, .sipush 1, .iadd, .irem, .invokeinterface 220 2, .ireturn] ls st m := by
  rw [s_j, s_g_eq, g_l269]; rfl
/-- M.times -/
theorem g_l270 (l : Nat) : g_P 270 l = (g_c270.lookup l).getD [] := rfl
theorem v_270 {X : e_X} {d : Nat} (a0 : Nat) (a1 : Int32) (a2 : Int32) {m : e_M} : s_S X (d + 1) 270 [.ref a0, .int a1, .int a2] m = s_j X d 270 0 [.ref a0, .int a1, .int a2, .retAddr 0, .retAddr 0, .retAddr 0, .retAddr 0] [] m := rfl
theorem u_270_0 {X : e_X} {d : Nat} {ls st : List Value} {m : e_M} : s_j X d 270 0 ls st m = s_x X d 270 [.iload 1, .sipush 1, .sipush 40, .invokeinterface 172 3, .ifCond .eq 21, .iload 2, .sipush 0, .sipush 999, .invokeinterface 172 3, .ifCond .ne 23, .jsr 21] ls st m := by
  rw [s_j, s_g_eq, g_l270]; rfl
theorem u_270_21 {X : e_X} {d : Nat} {ls st : List Value} {m : e_M} : s_j X d 270 21 ls st m = s_x X d 270 [.sipush (-1), .ireturn] ls st m := by
  rw [s_j, s_g_eq, g_l270]; rfl
theorem u_270_23 {X : e_X} {d : Nat} {ls st : List Value} {m : e_M} : s_j X d 270 23 ls st m = s_x X d 270 [.aload 0, .invokeinterface 230 1, .sipush 0, .istore 3, .sipush 0, .istore 4, .jsr 32] ls st m := by
  rw [s_j, s_g_eq, g_l270]; rfl
theorem u_270_32 {X : e_X} {d : Nat} {ls st : List Value} {m : e_M} : s_j X d 270 32 ls st m = s_x X d 270 [.iload 4, .iload 1, .if_icmp .ge 100, .sipush 0, .istore 5, .jsr 41] ls st m := by
  rw [s_j, s_g_eq, g_l270]; rfl
theorem u_270_41 {X : e_X} {d : Nat} {ls st : List Value} {m : e_M} : s_j X d 270 41 ls st m = s_x X d 270 [.aload 0, .invokeinterface 217 1, .ifCond .ne 60, .iload 5, .aload 0, .invokeinterface 269 1, .iadd, .istore 5, .goto 41] ls st m := by
  rw [s_j, s_g_eq, g_l270]; rfl
theorem u_270_60 {X : e_X} {d : Nat} {ls st : List Value} {m : e_M} : s_j X d 270 60 ls st m = s_x X d 270 [.iload 3, .iload 5, .iload 2, .if_icmp .lt 71, .sipush 1, .goto 72] ls st m := by
  rw [s_j, s_g_eq, g_l270]; rfl
theorem u_270_71 {X : e_X} {d : Nat} {ls st : List Value} {m : e_M} : s_j X d 270 71 ls st m = s_x X d 270 [.sipush 0, .jsr 72] ls st m := by
  rw [s_j, s_g_eq, g_l270]; rfl
theorem u_270_72 {X : e_X} {d : Nat} {ls st : List Value} {m : e_M} : s_j X d 270 72 ls st m = s_x X d 270 [.iadd, .istore 3, .aload 0, .checkcast 640, .sipush 5, .iaload, .istore 6, .aload 0, .invokeinterface 232 1, .aload 0, .checkcast 640, .sipush 5, .iload 6, .iastore, .iinc 4 1, .goto 32] ls st m := by
  rw [s_j, s_g_eq, g_l270]; rfl
theorem u_270_100 {X : e_X} {d : Nat} {ls st : List Value} {m : e_M} : s_j X d 270 100 ls st m = s_x X d 270 [.aload 0, .invokeinterface 232 1, .iload 3, .ireturn] ls st m := by
  rw [s_j, s_g_eq, g_l270]; rfl
/-- M.prove -/
theorem g_l271 (l : Nat) : g_P 271 l = (g_c271.lookup l).getD [] := rfl
theorem v_271 {X : e_X} {d : Nat} (a0 : Nat) (a1 : Int32) {m : e_M} : s_S X (d + 1) 271 [.ref a0, .int a1] m = s_j X d 271 0 [.ref a0, .int a1, .retAddr 0] [] m := rfl
theorem u_271_0 {X : e_X} {d : Nat} {ls st : List Value} {m : e_M} : s_j X d 271 0 ls st m = s_x X d 271 [.iload 1, .invokeinterface 245 1, .ifCond .ne 9, .sipush (-1), .ireturn] ls st m := by
  rw [s_j, s_g_eq, g_l271]; rfl
theorem u_271_9 {X : e_X} {d : Nat} {ls st : List Value} {m : e_M} : s_j X d 271 9 ls st m = s_x X d 271 [.aload 0, .iload 1, .sipush 0, .invokeinterface 246 3, .aload 0, .aload 0, .iload 1, .invokeinterface 247 2, .putfield 669, .aload 0, .invokeinterface 230 1, .sipush 0, .istore 2, .jsr 30] ls st m := by
  rw [s_j, s_g_eq, g_l271]; rfl
theorem u_271_30 {X : e_X} {d : Nat} {ls st : List Value} {m : e_M} : s_j X d 271 30 ls st m = s_x X d 271 [.iload 2, .aload 0, .getfield 669, .if_icmp .ge 93, .aload 0, .checkcast 668, .sipush 3, .iload 2, .imul, .aload 0, .checkcast 660, .iload 2, .iaload, .iastore, .aload 0, .checkcast 668, .sipush 3, .iload 2, .imul, .sipush 1, .iadd, .aload 0, .aload 0, .checkcast 660, .iload 2, .iaload, .invokeinterface 220 2, .iastore, .aload 0, .checkcast 668, .sipush 3, .iload 2, .imul, .sipush 2, .iadd, .aload 0, .sipush 4, .invokeinterface 218 2, .iastore, .iinc 2 1, .goto 30] ls st m := by
  rw [s_j, s_g_eq, g_l271]; rfl
theorem u_271_93 {X : e_X} {d : Nat} {ls st : List Value} {m : e_M} : s_j X d 271 93 ls st m = s_x X d 271 [.aload 0, .invokeinterface 232 1, .aload 0, .getfield 669, .ireturn] ls st m := by
  rw [s_j, s_g_eq, g_l271]; rfl
/-- M.row -/
theorem g_l272 (l : Nat) : g_P 272 l = (g_c272.lookup l).getD [] := rfl
theorem v_272 {X : e_X} {d : Nat} (a0 : Nat) (a1 : Int32) (a2 : Int32) {m : e_M} : s_S X (d + 1) 272 [.ref a0, .int a1, .int a2] m = s_j X d 272 0 [.ref a0, .int a1, .int a2] [] m := rfl
theorem u_272_0 {X : e_X} {d : Nat} {ls st : List Value} {m : e_M} : s_j X d 272 0 ls st m = s_x X d 272 [.aload 0, .iload 1, .iload 2, .invokeinterface 273 3, .ifCond .eq 22, .aload 0, .checkcast 668, .sipush 3, .iload 1, .imul, .iload 2, .iadd, .iaload, .goto 24] ls st m := by
  rw [s_j, s_g_eq, g_l272]; rfl
theorem u_272_22 {X : e_X} {d : Nat} {ls st : List Value} {m : e_M} : s_j X d 272 22 ls st m = s_x X d 272 [.sipush (-9), .jsr 24] ls st m := by
  rw [s_j, s_g_eq, g_l272]; rfl
theorem u_272_24 {X : e_X} {d : Nat} {ls st : List Value} {m : e_M} : s_j X d 272 24 ls st m = s_x X d 272 [.ireturn] ls st m := by
  rw [s_j, s_g_eq, g_l272]; rfl
/-- M.isRow -/
theorem g_l273 (l : Nat) : g_P 273 l = (g_c273.lookup l).getD [] := rfl
theorem v_273 {X : e_X} {d : Nat} (a0 : Nat) (a1 : Int32) (a2 : Int32) {m : e_M} : s_S X (d + 1) 273 [.ref a0, .int a1, .int a2] m = s_j X d 273 0 [.ref a0, .int a1, .int a2] [] m := rfl
theorem u_273_0 {X : e_X} {d : Nat} {ls st : List Value} {m : e_M} : s_j X d 273 0 ls st m = s_x X d 273 [.iload 1, .sipush 0, .aload 0, .getfield 669, .sipush 1, .isub, .invokeinterface 172 3, .ifCond .eq 27, .iload 2, .sipush 0, .sipush 2, .invokeinterface 172 3, .ifCond .eq 27, .sipush 1, .goto 28] ls st m := by
  rw [s_j, s_g_eq, g_l273]; rfl
theorem u_273_27 {X : e_X} {d : Nat} {ls st : List Value} {m : e_M} : s_j X d 273 27 ls st m = s_x X d 273 [.sipush 0, .jsr 28] ls st m := by
  rw [s_j, s_g_eq, g_l273]; rfl
theorem u_273_28 {X : e_X} {d : Nat} {ls st : List Value} {m : e_M} : s_j X d 273 28 ls st m = s_x X d 273 [.ireturn] ls st m := by
  rw [s_j, s_g_eq, g_l273]; rfl
/-- M.alterRow -/
theorem g_l274 (l : Nat) : g_P 274 l = (g_c274.lookup l).getD [] := rfl
theorem v_274 {X : e_X} {d : Nat} (a0 : Nat) (a1 : Int32) (a2 : Int32) (a3 : Int32) {m : e_M} : s_S X (d + 1) 274 [.ref a0, .int a1, .int a2, .int a3] m = s_j X d 274 0 [.ref a0, .int a1, .int a2, .int a3, .retAddr 0] [] m := rfl
theorem u_274_0 {X : e_X} {d : Nat} {ls st : List Value} {m : e_M} : s_j X d 274 0 ls st m = s_x X d 274 [.aload 0, .iload 1, .iload 2, .invokeinterface 273 3, .ifCond .ne 12, .sipush (-9), .ireturn] ls st m := by
  rw [s_j, s_g_eq, g_l274]; rfl
theorem u_274_12 {X : e_X} {d : Nat} {ls st : List Value} {m : e_M} : s_j X d 274 12 ls st m = s_x X d 274 [.aload 0, .checkcast 668, .sipush 3, .iload 1, .imul, .iload 2, .iadd, .iaload, .istore 4, .aload 0, .checkcast 668, .sipush 3, .iload 1, .imul, .iload 2, .iadd, .iload 3, .iastore, .iload 4, .ireturn] ls st m := by
  rw [s_j, s_g_eq, g_l274]; rfl
/-- M.judge -/
theorem g_l275 (l : Nat) : g_P 275 l = (g_c275.lookup l).getD [] := rfl
theorem v_275 {X : e_X} {d : Nat} (a0 : Nat) {m : e_M} : s_S X (d + 1) 275 [.ref a0] m = s_j X d 275 0 [.ref a0, .retAddr 0, .retAddr 0, .retAddr 0, .retAddr 0, .retAddr 0] [] m := rfl
theorem u_275_0 {X : e_X} {d : Nat} {ls st : List Value} {m : e_M} : s_j X d 275 0 ls st m = s_x X d 275 [.aload 0, .invokeinterface 230 1, .sipush 0, .istore 1, .sipush 0, .istore 2, .jsr 8] ls st m := by
  rw [s_j, s_g_eq, g_l275]; rfl
theorem u_275_8 {X : e_X} {d : Nat} {ls st : List Value} {m : e_M} : s_j X d 275 8 ls st m = s_x X d 275 [.iload 2, .aload 0, .getfield 669, .if_icmp .ge 133, .iload 1, .ifCond .ne 133, .aload 0, .aload 0, .checkcast 668, .sipush 3, .iload 2, .imul, .iaload, .invokeinterface 276 2, .ifCond .eq 46, .aload 0, .invokeinterface 217 1, .ifCond .ne 46, .sipush 1, .goto 47] ls st m := by
  rw [s_j, s_g_eq, g_l275]; rfl
theorem u_275_46 {X : e_X} {d : Nat} {ls st : List Value} {m : e_M} : s_j X d 275 46 ls st m = s_x X d 275 [.sipush 0, .jsr 47] ls st m := by
  rw [s_j, s_g_eq, g_l275]; rfl
theorem u_275_47 {X : e_X} {d : Nat} {ls st : List Value} {m : e_M} : s_j X d 275 47 ls st m = s_x X d 275 [.istore 3, .iload 3, .ifCond .eq 67, .aload 0, .aload 0, .checkcast 668, .sipush 3, .iload 2, .imul, .iaload, .invokeinterface 220 2, .goto 68] ls st m := by
  rw [s_j, s_g_eq, g_l275]; rfl
theorem u_275_67 {X : e_X} {d : Nat} {ls st : List Value} {m : e_M} : s_j X d 275 67 ls st m = s_x X d 275 [.sipush 0, .jsr 68] ls st m := by
  rw [s_j, s_g_eq, g_l275]; rfl
theorem u_275_68 {X : e_X} {d : Nat} {ls st : List Value} {m : e_M} : s_j X d 275 68 ls st m = s_x X d 275 [.istore 4, .iload 3, .ifCond .eq 111, .iload 4, .aload 0, .checkcast 668, .sipush 3, .iload 2, .imul, .sipush 1, .iadd, .iaload, .if_icmp .ne 111, .aload 0, .sipush 4, .invokeinterface 218 2, .aload 0, .checkcast 668, .sipush 3, .iload 2, .imul, .sipush 2, .iadd, .iaload, .if_icmp .ne 111, .sipush 1, .goto 112] ls st m := by
  rw [s_j, s_g_eq, g_l275]; rfl
theorem u_275_111 {X : e_X} {d : Nat} {ls st : List Value} {m : e_M} : s_j X d 275 111 ls st m = s_x X d 275 [.sipush 0, .jsr 112] ls st m := by
  rw [s_j, s_g_eq, g_l275]; rfl
theorem u_275_112 {X : e_X} {d : Nat} {ls st : List Value} {m : e_M} : s_j X d 275 112 ls st m = s_x X d 275 [.istore 5, .iload 5, .ifCond .eq 123, .sipush 0, .goto 126] ls st m := by
  rw [s_j, s_g_eq, g_l275]; rfl
theorem u_275_123 {X : e_X} {d : Nat} {ls st : List Value} {m : e_M} : s_j X d 275 123 ls st m = s_x X d 275 [.sipush 1, .iload 2, .iadd, .jsr 126] ls st m := by
  rw [s_j, s_g_eq, g_l275]; rfl
theorem u_275_126 {X : e_X} {d : Nat} {ls st : List Value} {m : e_M} : s_j X d 275 126 ls st m = s_x X d 275 [.istore 1, .iinc 2 1, .goto 8] ls st m := by
  rw [s_j, s_g_eq, g_l275]; rfl
theorem u_275_133 {X : e_X} {d : Nat} {ls st : List Value} {m : e_M} : s_j X d 275 133 ls st m = s_x X d 275 [.aload 0, .invokeinterface 232 1, .iload 1, .ireturn] ls st m := by
  rw [s_j, s_g_eq, g_l275]; rfl
/-- M.isAct -/
theorem g_l276 (l : Nat) : g_P 276 l = (g_c276.lookup l).getD [] := rfl
theorem v_276 {X : e_X} {d : Nat} (a0 : Nat) (a1 : Int32) {m : e_M} : s_S X (d + 1) 276 [.ref a0, .int a1] m = s_j X d 276 0 [.ref a0, .int a1] [] m := rfl
theorem u_276_0 {X : e_X} {d : Nat} {ls st : List Value} {m : e_M} : s_j X d 276 0 ls st m = s_x X d 276 [.iload 1, .sipush 0, .aload 0, .checkcast 640, .sipush 6, .iaload, .invokeinterface 172 3, .ireturn] ls st m := by
  rw [s_j, s_g_eq, g_l276]; rfl
/-- M.sheet -/
theorem g_l277 (l : Nat) : g_P 277 l = (g_c277.lookup l).getD [] := rfl
theorem v_277 {X : e_X} {d : Nat} (a0 : Nat) (a1 : Int32) (a2 : Int32) (a3 : Int32) {m : e_M} : s_S X (d + 1) 277 [.ref a0, .int a1, .int a2, .int a3] m = s_j X d 277 0 [.ref a0, .int a1, .int a2, .int a3, .retAddr 0] [] m := rfl
theorem u_277_0 {X : e_X} {d : Nat} {ls st : List Value} {m : e_M} : s_j X d 277 0 ls st m = s_x X d 277 [.iload 1, .invokeinterface 278 1, .ifCond .eq 26, .iload 2, .sipush (-1), .sipush 4, .invokeinterface 172 3, .ifCond .eq 26, .iload 2, .ifCond .lt 28, .iload 3, .sipush 40, .if_icmp .le 28, .jsr 26] ls st m := by
  rw [s_j, s_g_eq, g_l277]; rfl
theorem u_277_26 {X : e_X} {d : Nat} {ls st : List Value} {m : e_M} : s_j X d 277 26 ls st m = s_x X d 277 [.sipush (-1), .ireturn] ls st m := by
  rw [s_j, s_g_eq, g_l277]; rfl
theorem u_277_28 {X : e_X} {d : Nat} {ls st : List Value} {m : e_M} : s_j X d 277 28 ls st m = s_x X d 277 [.iload 2, .ifCond .lt 39, .iload 3, .ifCond .ge 39, .sipush (-14), .ireturn] ls st m := by
  rw [s_j, s_g_eq, g_l277]; rfl
theorem u_277_39 {X : e_X} {d : Nat} {ls st : List Value} {m : e_M} : s_j X d 277 39 ls st m = s_x X d 277 [.aload 0, .checkcast 670, .iload 1, .iload 2, .iastore, .aload 0, .checkcast 671, .iload 1, .iload 2, .ifCond .ge 59, .sipush 0, .goto 60] ls st m := by
  rw [s_j, s_g_eq, g_l277]; rfl
theorem u_277_59 {X : e_X} {d : Nat} {ls st : List Value} {m : e_M} : s_j X d 277 59 ls st m = s_x X d 277 [.iload 3, .jsr 60] ls st m := by
  rw [s_j, s_g_eq, g_l277]; rfl
theorem u_277_60 {X : e_X} {d : Nat} {ls st : List Value} {m : e_M} : s_j X d 277 60 ls st m = s_x X d 277 [.iastore, .sipush 0, .istore 4, .jsr 64] ls st m := by
  rw [s_j, s_g_eq, g_l277]; rfl
theorem u_277_64 {X : e_X} {d : Nat} {ls st : List Value} {m : e_M} : s_j X d 277 64 ls st m = s_x X d 277 [.iload 4, .sipush 40, .if_icmp .ge 90, .aload 0, .checkcast 672, .sipush 40, .iload 1, .imul, .iload 4, .iadd, .sipush 0, .iastore, .iinc 4 1, .goto 64] ls st m := by
  rw [s_j, s_g_eq, g_l277]; rfl
theorem u_277_90 {X : e_X} {d : Nat} {ls st : List Value} {m : e_M} : s_j X d 277 90 ls st m = s_x X d 277 [.sipush 1, .ireturn] ls st m := by
  rw [s_j, s_g_eq, g_l277]; rfl
/-- M.isSheet -/
theorem g_l278 (l : Nat) : g_P 278 l = (g_c278.lookup l).getD [] := rfl
theorem v_278 {X : e_X} {d : Nat} (a0 : Int32) {m : e_M} : s_S X (d + 1) 278 [.int a0] m = s_j X d 278 0 [.int a0] [] m := rfl
theorem u_278_0 {X : e_X} {d : Nat} {ls st : List Value} {m : e_M} : s_j X d 278 0 ls st m = s_x X d 278 [.iload 0, .sipush 0, .sipush 3, .invokeinterface 172 3, .ireturn] ls st m := by
  rw [s_j, s_g_eq, g_l278]; rfl
/-- M.write -/
theorem g_l279 (l : Nat) : g_P 279 l = (g_c279.lookup l).getD [] := rfl
theorem v_279 {X : e_X} {d : Nat} (a0 : Nat) (a1 : Int32) (a2 : Int32) (a3 : Int32) {m : e_M} : s_S X (d + 1) 279 [.ref a0, .int a1, .int a2, .int a3] m = s_j X d 279 0 [.ref a0, .int a1, .int a2, .int a3] [] m := rfl
theorem u_279_0 {X : e_X} {d : Nat} {ls st : List Value} {m : e_M} : s_j X d 279 0 ls st m = s_x X d 279 [.iload 1, .invokeinterface 278 1, .ifCond .ne 9, .sipush (-1), .ireturn] ls st m := by
  rw [s_j, s_g_eq, g_l279]; rfl
theorem u_279_9 {X : e_X} {d : Nat} {ls st : List Value} {m : e_M} : s_j X d 279 9 ls st m = s_x X d 279 [.aload 0, .checkcast 670, .iload 1, .iaload, .ifCond .ge 21, .sipush (-11), .ireturn] ls st m := by
  rw [s_j, s_g_eq, g_l279]; rfl
theorem u_279_21 {X : e_X} {d : Nat} {ls st : List Value} {m : e_M} : s_j X d 279 21 ls st m = s_x X d 279 [.iload 2, .sipush 0, .aload 0, .checkcast 671, .iload 1, .iaload, .sipush 1, .isub, .invokeinterface 172 3, .ifCond .ne 40, .sipush (-12), .ireturn] ls st m := by
  rw [s_j, s_g_eq, g_l279]; rfl
theorem u_279_40 {X : e_X} {d : Nat} {ls st : List Value} {m : e_M} : s_j X d 279 40 ls st m = s_x X d 279 [.aload 0, .checkcast 672, .sipush 40, .iload 1, .imul, .iload 2, .iadd, .iload 3, .aload 0, .checkcast 670, .iload 1, .iaload, .invokeinterface 280 2, .iastore, .sipush 1, .ireturn] ls st m := by
  rw [s_j, s_g_eq, g_l279]; rfl
/-- M.narrowed -/
theorem g_l280 (l : Nat) : g_P 280 l = (g_c280.lookup l).getD [] := rfl
theorem v_280 {X : e_X} {d : Nat} (a0 : Int32) (a1 : Int32) {m : e_M} : s_S X (d + 1) 280 [.int a0, .int a1] m = s_j X d 280 0 [.int a0, .int a1] [] m := rfl
theorem u_280_0 {X : e_X} {d : Nat} {ls st : List Value} {m : e_M} : s_j X d 280 0 ls st m = s_x X d 280 [.iload 1, .ifCond .ne 9, .iload 0, .i2b, .goto 37] ls st m := by
  rw [s_j, s_g_eq, g_l280]; rfl
theorem u_280_9 {X : e_X} {d : Nat} {ls st : List Value} {m : e_M} : s_j X d 280 9 ls st m = s_x X d 280 [.iload 1, .sipush 1, .if_icmp .ne 19, .iload 0, .i2s, .goto 37] ls st m := by
  rw [s_j, s_g_eq, g_l280]; rfl
theorem u_280_19 {X : e_X} {d : Nat} {ls st : List Value} {m : e_M} : s_j X d 280 19 ls st m = s_x X d 280 [.iload 1, .sipush 4, .if_icmp .ne 36, .iload 0, .ifCond .eq 32, .sipush 1, .goto 37] ls st m := by
  rw [s_j, s_g_eq, g_l280]; rfl
theorem u_280_32 {X : e_X} {d : Nat} {ls st : List Value} {m : e_M} : s_j X d 280 32 ls st m = s_x X d 280 [.sipush 0, .goto 37] ls st m := by
  rw [s_j, s_g_eq, g_l280]; rfl
theorem u_280_36 {X : e_X} {d : Nat} {ls st : List Value} {m : e_M} : s_j X d 280 36 ls st m = s_x X d 280 [.iload 0, .jsr 37] ls st m := by
  rw [s_j, s_g_eq, g_l280]; rfl
theorem u_280_37 {X : e_X} {d : Nat} {ls st : List Value} {m : e_M} : s_j X d 280 37 ls st m = s_x X d 280 [.ireturn] ls st m := by
  rw [s_j, s_g_eq, g_l280]; rfl
/-- M.item -/
theorem g_l281 (l : Nat) : g_P 281 l = (g_c281.lookup l).getD [] := rfl
theorem v_281 {X : e_X} {d : Nat} (a0 : Nat) (a1 : Int32) (a2 : Int32) (a3 : Int32) {m : e_M} : s_S X (d + 1) 281 [.ref a0, .int a1, .int a2, .int a3] m = s_j X d 281 0 [.ref a0, .int a1, .int a2, .int a3, .retAddr 0] [] m := rfl
theorem u_281_0 {X : e_X} {d : Nat} {ls st : List Value} {m : e_M} : s_j X d 281 0 ls st m = s_x X d 281 [.iload 1, .invokeinterface 278 1, .ifCond .eq 16, .iload 2, .sipush 0, .sipush 4, .invokeinterface 172 3, .ifCond .ne 18, .jsr 16] ls st m := by
  rw [s_j, s_g_eq, g_l281]; rfl
theorem u_281_16 {X : e_X} {d : Nat} {ls st : List Value} {m : e_M} : s_j X d 281 16 ls st m = s_x X d 281 [.sipush (-1), .ireturn] ls st m := by
  rw [s_j, s_g_eq, g_l281]; rfl
theorem u_281_18 {X : e_X} {d : Nat} {ls st : List Value} {m : e_M} : s_j X d 281 18 ls st m = s_x X d 281 [.aload 0, .iload 1, .iload 2, .invokeinterface 282 3, .istore 4, .iload 4, .ifCond .eq 36, .iload 4, .goto 68] ls st m := by
  rw [s_j, s_g_eq, g_l281]; rfl
theorem u_281_36 {X : e_X} {d : Nat} {ls st : List Value} {m : e_M} : s_j X d 281 36 ls st m = s_x X d 281 [.iload 3, .sipush 0, .aload 0, .checkcast 671, .iload 1, .iaload, .sipush 1, .isub, .invokeinterface 172 3, .ifCond .eq 66, .aload 0, .checkcast 672, .sipush 40, .iload 1, .imul, .iload 3, .iadd, .iaload, .goto 68] ls st m := by
  rw [s_j, s_g_eq, g_l281]; rfl
theorem u_281_66 {X : e_X} {d : Nat} {ls st : List Value} {m : e_M} : s_j X d 281 66 ls st m = s_x X d 281 [.sipush (-12), .jsr 68] ls st m := by
  rw [s_j, s_g_eq, g_l281]; rfl
theorem u_281_68 {X : e_X} {d : Nat} {ls st : List Value} {m : e_M} : s_j X d 281 68 ls st m = s_x X d 281 [.ireturn] ls st m := by
  rw [s_j, s_g_eq, g_l281]; rfl
/-- M.lacks -/
theorem g_l282 (l : Nat) : g_P 282 l = (g_c282.lookup l).getD [] := rfl
theorem v_282 {X : e_X} {d : Nat} (a0 : Nat) (a1 : Int32) (a2 : Int32) {m : e_M} : s_S X (d + 1) 282 [.ref a0, .int a1, .int a2] m = s_j X d 282 0 [.ref a0, .int a1, .int a2] [] m := rfl
theorem u_282_0 {X : e_X} {d : Nat} {ls st : List Value} {m : e_M} : s_j X d 282 0 ls st m = s_x X d 282 [.aload 0, .checkcast 670, .iload 1, .iaload, .ifCond .ge 14, .sipush (-11), .goto 30] ls st m := by
  rw [s_j, s_g_eq, g_l282]; rfl
theorem u_282_14 {X : e_X} {d : Nat} {ls st : List Value} {m : e_M} : s_j X d 282 14 ls st m = s_x X d 282 [.aload 0, .checkcast 670, .iload 1, .iaload, .iload 2, .if_icmp .eq 29, .sipush (-13), .goto 30] ls st m := by
  rw [s_j, s_g_eq, g_l282]; rfl
theorem u_282_29 {X : e_X} {d : Nat} {ls st : List Value} {m : e_M} : s_j X d 282 29 ls st m = s_x X d 282 [.sipush 0, .jsr 30] ls st m := by
  rw [s_j, s_g_eq, g_l282]; rfl
theorem u_282_30 {X : e_X} {d : Nat} {ls st : List Value} {m : e_M} : s_j X d 282 30 ls st m = s_x X d 282 [.ireturn] ls st m := by
  rw [s_j, s_g_eq, g_l282]; rfl
/-- M.goAll -/
theorem g_l283 (l : Nat) : g_P 283 l = (g_c283.lookup l).getD [] := rfl
theorem v_283 {X : e_X} {d : Nat} (a0 : Nat) (a1 : Int32) (a2 : Int32) (a3 : Int32) {m : e_M} : s_S X (d + 1) 283 [.ref a0, .int a1, .int a2, .int a3] m = s_j X d 283 0 [.ref a0, .int a1, .int a2, .int a3, .retAddr 0, .retAddr 0, .retAddr 0, .retAddr 0] [] m := rfl
theorem u_283_0 {X : e_X} {d : Nat} {ls st : List Value} {m : e_M} : s_j X d 283 0 ls st m = s_x X d 283 [.iload 1, .invokeinterface 278 1, .ifCond .eq 17, .iload 3, .sipush 0, .sipush 20, .invokeinterface 172 3, .ifCond .ne 19, .jsr 17] ls st m := by
  rw [s_j, s_g_eq, g_l283]; rfl
theorem u_283_17 {X : e_X} {d : Nat} {ls st : List Value} {m : e_M} : s_j X d 283 17 ls st m = s_x X d 283 [.sipush (-1), .ireturn] ls st m := by
  rw [s_j, s_g_eq, g_l283]; rfl
theorem u_283_19 {X : e_X} {d : Nat} {ls st : List Value} {m : e_M} : s_j X d 283 19 ls st m = s_x X d 283 [.aload 0, .iload 1, .sipush 0, .invokeinterface 282 3, .istore 4, .iload 4, .ifCond .eq 35, .iload 4, .ireturn] ls st m := by
  rw [s_j, s_g_eq, g_l283]; rfl
theorem u_283_35 {X : e_X} {d : Nat} {ls st : List Value} {m : e_M} : s_j X d 283 35 ls st m = s_x X d 283 [.sipush 0, .istore 5, .sipush 0, .istore 6, .jsr 41] ls st m := by
  rw [s_j, s_g_eq, g_l283]; rfl
theorem u_283_41 {X : e_X} {d : Nat} {ls st : List Value} {m : e_M} : s_j X d 283 41 ls st m = s_x X d 283 [.iload 6, .iload 3, .if_icmp .ge 114, .aload 0, .iload 1, .iload 2, .iload 6, .invokeinterface 284 4, .ifCond .ne 61, .sipush (-12), .ireturn] ls st m := by
  rw [s_j, s_g_eq, g_l283]; rfl
theorem u_283_61 {X : e_X} {d : Nat} {ls st : List Value} {m : e_M} : s_j X d 283 61 ls st m = s_x X d 283 [.aload 0, .checkcast 672, .sipush 40, .iload 1, .imul, .iload 2, .iadd, .iload 6, .iadd, .iaload, .istore 7, .iload 5, .aload 0, .iload 7, .invokeinterface 276 2, .ifCond .eq 104, .aload 0, .invokeinterface 217 1, .ifCond .ne 104, .aload 0, .iload 7, .invokeinterface 220 2, .goto 105] ls st m := by
  rw [s_j, s_g_eq, g_l283]; rfl
theorem u_283_104 {X : e_X} {d : Nat} {ls st : List Value} {m : e_M} : s_j X d 283 104 ls st m = s_x X d 283 [.sipush 0, .jsr 105] ls st m := by
  rw [s_j, s_g_eq, g_l283]; rfl
theorem u_283_105 {X : e_X} {d : Nat} {ls st : List Value} {m : e_M} : s_j X d 283 105 ls st m = s_x X d 283 [.iadd, .istore 5, .iinc 6 1, .goto 41] ls st m := by
  rw [s_j, s_g_eq, g_l283]; rfl
theorem u_283_114 {X : e_X} {d : Nat} {ls st : List Value} {m : e_M} : s_j X d 283 114 ls st m = s_x X d 283 [.iload 5, .ireturn] ls st m := by
  rw [s_j, s_g_eq, g_l283]; rfl
/-- M.isItem -/
theorem g_l284 (l : Nat) : g_P 284 l = (g_c284.lookup l).getD [] := rfl
theorem v_284 {X : e_X} {d : Nat} (a0 : Nat) (a1 : Int32) (a2 : Int32) (a3 : Int32) {m : e_M} : s_S X (d + 1) 284 [.ref a0, .int a1, .int a2, .int a3] m = s_j X d 284 0 [.ref a0, .int a1, .int a2, .int a3] [] m := rfl
theorem u_284_0 {X : e_X} {d : Nat} {ls st : List Value} {m : e_M} : s_j X d 284 0 ls st m = s_x X d 284 [.iload 2, .ifCond .lt 20, .iload 2, .aload 0, .checkcast 671, .iload 1, .iaload, .iload 3, .isub, .if_icmp .ge 20, .sipush 1, .goto 21] ls st m := by
  rw [s_j, s_g_eq, g_l284]; rfl
theorem u_284_20 {X : e_X} {d : Nat} {ls st : List Value} {m : e_M} : s_j X d 284 20 ls st m = s_x X d 284 [.sipush 0, .jsr 21] ls st m := by
  rw [s_j, s_g_eq, g_l284]; rfl
theorem u_284_21 {X : e_X} {d : Nat} {ls st : List Value} {m : e_M} : s_j X d 284 21 ls st m = s_x X d 284 [.ireturn] ls st m := by
  rw [s_j, s_g_eq, g_l284]; rfl
/-- M.wouldBe -/
theorem g_l285 (l : Nat) : g_P 285 l = (g_c285.lookup l).getD [] := rfl
theorem v_285 {X : e_X} {d : Nat} (a0 : Nat) (a1 : Int32) (a2 : Int32) (a3 : Int32) {m : e_M} : s_S X (d + 1) 285 [.ref a0, .int a1, .int a2, .int a3] m = s_j X d 285 0 [.ref a0, .int a1, .int a2, .int a3, .retAddr 0, .retAddr 0, .retAddr 0, .retAddr 0] [] m := rfl
theorem u_285_0 {X : e_X} {d : Nat} {ls st : List Value} {m : e_M} : s_j X d 285 0 ls st m = s_x X d 285 [.iload 1, .invokeinterface 278 1, .ifCond .eq 17, .iload 3, .sipush 0, .sipush 20, .invokeinterface 172 3, .ifCond .ne 19, .jsr 17] ls st m := by
  rw [s_j, s_g_eq, g_l285]; rfl
theorem u_285_17 {X : e_X} {d : Nat} {ls st : List Value} {m : e_M} : s_j X d 285 17 ls st m = s_x X d 285 [.sipush (-1), .ireturn] ls st m := by
  rw [s_j, s_g_eq, g_l285]; rfl
theorem u_285_19 {X : e_X} {d : Nat} {ls st : List Value} {m : e_M} : s_j X d 285 19 ls st m = s_x X d 285 [.aload 0, .iload 1, .sipush 0, .invokeinterface 282 3, .istore 4, .sipush 0, .istore 5, .aload 0, .invokeinterface 230 1, .sipush 0, .istore 6, .jsr 37] ls st m := by
  rw [s_j, s_g_eq, g_l285]; rfl
theorem u_285_37 {X : e_X} {d : Nat} {ls st : List Value} {m : e_M} : s_j X d 285 37 ls st m = s_x X d 285 [.iload 6, .iload 3, .if_icmp .ge 145, .iload 4, .ifCond .ne 145, .aload 0, .iload 1, .iload 2, .iload 6, .invokeinterface 284 4, .ifCond .eq 76, .aload 0, .checkcast 672, .sipush 40, .iload 1, .imul, .iload 2, .iadd, .iload 6, .iadd, .iaload, .goto 77] ls st m := by
  rw [s_j, s_g_eq, g_l285]; rfl
theorem u_285_76 {X : e_X} {d : Nat} {ls st : List Value} {m : e_M} : s_j X d 285 76 ls st m = s_x X d 285 [.sipush (-1), .jsr 77] ls st m := by
  rw [s_j, s_g_eq, g_l285]; rfl
theorem u_285_77 {X : e_X} {d : Nat} {ls st : List Value} {m : e_M} : s_j X d 285 77 ls st m = s_x X d 285 [.istore 7, .aload 0, .iload 1, .iload 2, .iload 6, .invokeinterface 284 4, .ifCond .ne 95, .sipush (-12), .goto 117] ls st m := by
  rw [s_j, s_g_eq, g_l285]; rfl
theorem u_285_95 {X : e_X} {d : Nat} {ls st : List Value} {m : e_M} : s_j X d 285 95 ls st m = s_x X d 285 [.aload 0, .iload 7, .invokeinterface 276 2, .ifCond .eq 111, .aload 0, .invokeinterface 217 1, .ifCond .eq 116, .jsr 111] ls st m := by
  rw [s_j, s_g_eq, g_l285]; rfl
theorem u_285_111 {X : e_X} {d : Nat} {ls st : List Value} {m : e_M} : s_j X d 285 111 ls st m = s_x X d 285 [.sipush (-4), .goto 117] ls st m := by
  rw [s_j, s_g_eq, g_l285]; rfl
theorem u_285_116 {X : e_X} {d : Nat} {ls st : List Value} {m : e_M} : s_j X d 285 116 ls st m = s_x X d 285 [.sipush 0, .jsr 117] ls st m := by
  rw [s_j, s_g_eq, g_l285]; rfl
theorem u_285_117 {X : e_X} {d : Nat} {ls st : List Value} {m : e_M} : s_j X d 285 117 ls st m = s_x X d 285 [.istore 4, .iload 5, .iload 4, .ifCond .ne 135, .aload 0, .iload 7, .invokeinterface 220 2, .goto 136] ls st m := by
  rw [s_j, s_g_eq, g_l285]; rfl
theorem u_285_135 {X : e_X} {d : Nat} {ls st : List Value} {m : e_M} : s_j X d 285 135 ls st m = s_x X d 285 [.sipush 0, .jsr 136] ls st m := by
  rw [s_j, s_g_eq, g_l285]; rfl
theorem u_285_136 {X : e_X} {d : Nat} {ls st : List Value} {m : e_M} : s_j X d 285 136 ls st m = s_x X d 285 [.iadd, .istore 5, .iinc 6 1, .goto 37] ls st m := by
  rw [s_j, s_g_eq, g_l285]; rfl
theorem u_285_145 {X : e_X} {d : Nat} {ls st : List Value} {m : e_M} : s_j X d 285 145 ls st m = s_x X d 285 [.aload 0, .invokeinterface 232 1, .iload 4, .ifCond .eq 159, .iload 4, .goto 161] ls st m := by
  rw [s_j, s_g_eq, g_l285]; rfl
theorem u_285_159 {X : e_X} {d : Nat} {ls st : List Value} {m : e_M} : s_j X d 285 159 ls st m = s_x X d 285 [.iload 5, .jsr 161] ls st m := by
  rw [s_j, s_g_eq, g_l285]; rfl
theorem u_285_161 {X : e_X} {d : Nat} {ls st : List Value} {m : e_M} : s_j X d 285 161 ls st m = s_x X d 285 [.ireturn] ls st m := by
  rw [s_j, s_g_eq, g_l285]; rfl
/-- M.shelf -/
theorem g_l286 (l : Nat) : g_P 286 l = (g_c286.lookup l).getD [] := rfl
theorem v_286 {X : e_X} {d : Nat} (a0 : Nat) (a1 : Int32) (a2 : Int32) (a3 : Int32) {m : e_M} : s_S X (d + 1) 286 [.ref a0, .int a1, .int a2, .int a3] m = s_j X d 286 0 [.ref a0, .int a1, .int a2, .int a3] [] m := rfl
theorem u_286_0 {X : e_X} {d : Nat} {ls st : List Value} {m : e_M} : s_j X d 286 0 ls st m = s_x X d 286 [.iload 1, .invokeinterface 278 1, .ifCond .eq 40, .iload 2, .sipush 0, .sipush 2, .invokeinterface 172 3, .ifCond .eq 40, .iload 2, .ifCond .ne 28, .aload 0, .iload 3, .invokeinterface 194 2, .ifCond .eq 40, .jsr 28] ls st m := by
  rw [s_j, s_g_eq, g_l286]; rfl
theorem u_286_28 {X : e_X} {d : Nat} {ls st : List Value} {m : e_M} : s_j X d 286 28 ls st m = s_x X d 286 [.iload 2, .sipush 1, .if_icmp .ne 42, .iload 3, .invokeinterface 278 1, .ifCond .ne 42, .jsr 40] ls st m := by
  rw [s_j, s_g_eq, g_l286]; rfl
theorem u_286_40 {X : e_X} {d : Nat} {ls st : List Value} {m : e_M} : s_j X d 286 40 ls st m = s_x X d 286 [.sipush (-1), .ireturn] ls st m := by
  rw [s_j, s_g_eq, g_l286]; rfl
theorem u_286_42 {X : e_X} {d : Nat} {ls st : List Value} {m : e_M} : s_j X d 286 42 ls st m = s_x X d 286 [.aload 0, .checkcast 673, .iload 1, .iload 2, .ifCond .ne 55, .sipush 0, .goto 82] ls st m := by
  rw [s_j, s_g_eq, g_l286]; rfl
theorem u_286_55 {X : e_X} {d : Nat} {ls st : List Value} {m : e_M} : s_j X d 286 55 ls st m = s_x X d 286 [.iload 2, .sipush 1, .if_icmp .ne 81, .aload 0, .checkcast 670, .iload 3, .iaload, .ifCond .lt 81, .sipush 10, .aload 0, .checkcast 670, .iload 3, .iaload, .iadd, .goto 82] ls st m := by
  rw [s_j, s_g_eq, g_l286]; rfl
theorem u_286_81 {X : e_X} {d : Nat} {ls st : List Value} {m : e_M} : s_j X d 286 81 ls st m = s_x X d 286 [.sipush (-1), .jsr 82] ls st m := by
  rw [s_j, s_g_eq, g_l286]; rfl
theorem u_286_82 {X : e_X} {d : Nat} {ls st : List Value} {m : e_M} : s_j X d 286 82 ls st m = s_x X d 286 [.iastore, .aload 0, .checkcast 674, .iload 1, .iload 2, .ifCond .ne 96, .iload 3, .goto 111] ls st m := by
  rw [s_j, s_g_eq, g_l286]; rfl
theorem u_286_96 {X : e_X} {d : Nat} {ls st : List Value} {m : e_M} : s_j X d 286 96 ls st m = s_x X d 286 [.iload 2, .sipush 1, .if_icmp .ne 110, .aload 0, .checkcast 671, .iload 3, .iaload, .goto 111] ls st m := by
  rw [s_j, s_g_eq, g_l286]; rfl
theorem u_286_110 {X : e_X} {d : Nat} {ls st : List Value} {m : e_M} : s_j X d 286 110 ls st m = s_x X d 286 [.sipush 0, .jsr 111] ls st m := by
  rw [s_j, s_g_eq, g_l286]; rfl
theorem u_286_111 {X : e_X} {d : Nat} {ls st : List Value} {m : e_M} : s_j X d 286 111 ls st m = s_x X d 286 [.iastore, .sipush 1, .ireturn] ls st m := by
  rw [s_j, s_g_eq, g_l286]; rfl
/-- M.taken -/
theorem g_l287 (l : Nat) : g_P 287 l = (g_c287.lookup l).getD [] := rfl
theorem v_287 {X : e_X} {d : Nat} (a0 : Nat) (a1 : Int32) (a2 : Int32) {m : e_M} : s_S X (d + 1) 287 [.ref a0, .int a1, .int a2] m = s_j X d 287 0 [.ref a0, .int a1, .int a2, .retAddr 0, .retAddr 0] [] m := rfl
theorem u_287_0 {X : e_X} {d : Nat} {ls st : List Value} {m : e_M} : s_j X d 287 0 ls st m = s_x X d 287 [.iload 1, .invokeinterface 278 1, .ifCond .eq 27, .iload 2, .sipush 0, .sipush 5, .invokeinterface 172 3, .ifCond .ne 29, .iload 2, .sipush 10, .sipush 14, .invokeinterface 172 3, .ifCond .ne 29, .jsr 27] ls st m := by
  rw [s_j, s_g_eq, g_l287]; rfl
theorem u_287_27 {X : e_X} {d : Nat} {ls st : List Value} {m : e_M} : s_j X d 287 27 ls st m = s_x X d 287 [.sipush (-1), .ireturn] ls st m := by
  rw [s_j, s_g_eq, g_l287]; rfl
theorem u_287_29 {X : e_X} {d : Nat} {ls st : List Value} {m : e_M} : s_j X d 287 29 ls st m = s_x X d 287 [.aload 0, .iload 1, .invokeinterface 288 2, .istore 3, .iload 3, .ifCond .ge 42, .sipush (-11), .ireturn] ls st m := by
  rw [s_j, s_g_eq, g_l287]; rfl
theorem u_287_42 {X : e_X} {d : Nat} {ls st : List Value} {m : e_M} : s_j X d 287 42 ls st m = s_x X d 287 [.iload 3, .ifCond .ne 78, .iload 2, .sipush 10, .if_icmp .ge 74, .aload 0, .aload 0, .checkcast 674, .iload 1, .iaload, .sipush 0, .invokeinterface 196 3, .iload 2, .invokeinterface 202 2, .ifCond .eq 74, .sipush 1, .goto 88] ls st m := by
  rw [s_j, s_g_eq, g_l287]; rfl
theorem u_287_74 {X : e_X} {d : Nat} {ls st : List Value} {m : e_M} : s_j X d 287 74 ls st m = s_x X d 287 [.sipush 0, .goto 88] ls st m := by
  rw [s_j, s_g_eq, g_l287]; rfl
theorem u_287_78 {X : e_X} {d : Nat} {ls st : List Value} {m : e_M} : s_j X d 287 78 ls st m = s_x X d 287 [.iload 3, .iload 2, .if_icmp .ne 87, .sipush 1, .goto 88] ls st m := by
  rw [s_j, s_g_eq, g_l287]; rfl
theorem u_287_87 {X : e_X} {d : Nat} {ls st : List Value} {m : e_M} : s_j X d 287 87 ls st m = s_x X d 287 [.sipush 0, .jsr 88] ls st m := by
  rw [s_j, s_g_eq, g_l287]; rfl
theorem u_287_88 {X : e_X} {d : Nat} {ls st : List Value} {m : e_M} : s_j X d 287 88 ls st m = s_x X d 287 [.istore 4, .iload 4, .ifCond .eq 104, .aload 0, .checkcast 674, .iload 1, .iaload, .goto 106] ls st m := by
  rw [s_j, s_g_eq, g_l287]; rfl
theorem u_287_104 {X : e_X} {d : Nat} {ls st : List Value} {m : e_M} : s_j X d 287 104 ls st m = s_x X d 287 [.sipush (-13), .jsr 106] ls st m := by
  rw [s_j, s_g_eq, g_l287]; rfl
theorem u_287_106 {X : e_X} {d : Nat} {ls st : List Value} {m : e_M} : s_j X d 287 106 ls st m = s_x X d 287 [.ireturn] ls st m := by
  rw [s_j, s_g_eq, g_l287]; rfl
/-- M.heldOn -/
theorem g_l288 (l : Nat) : g_P 288 l = (g_c288.lookup l).getD [] := rfl
theorem v_288 {X : e_X} {d : Nat} (a0 : Nat) (a1 : Int32) {m : e_M} : s_S X (d + 1) 288 [.ref a0, .int a1] m = s_j X d 288 0 [.ref a0, .int a1] [] m := rfl
theorem u_288_0 {X : e_X} {d : Nat} {ls st : List Value} {m : e_M} : s_j X d 288 0 ls st m = s_x X d 288 [.aload 0, .checkcast 673, .iload 1, .iaload, .ifCond .ne 26, .aload 0, .aload 0, .checkcast 674, .iload 1, .iaload, .invokeinterface 194 2, .ifCond .ne 26, .sipush (-1), .goto 32] ls st m := by
  rw [s_j, s_g_eq, g_l288]; rfl
theorem u_288_26 {X : e_X} {d : Nat} {ls st : List Value} {m : e_M} : s_j X d 288 26 ls st m = s_x X d 288 [.aload 0, .checkcast 673, .iload 1, .iaload, .jsr 32] ls st m := by
  rw [s_j, s_g_eq, g_l288]; rfl
theorem u_288_32 {X : e_X} {d : Nat} {ls st : List Value} {m : e_M} : s_j X d 288 32 ls st m = s_x X d 288 [.ireturn] ls st m := by
  rw [s_j, s_g_eq, g_l288]; rfl
/-- M.act -/
theorem g_l289 (l : Nat) : g_P 289 l = (g_c289.lookup l).getD [] := rfl
theorem v_289 {X : e_X} {d : Nat} (a0 : Nat) (a1 : Int32) (a2 : Int32) (a3 : Int32) {m : e_M} : s_S X (d + 1) 289 [.ref a0, .int a1, .int a2, .int a3] m = s_j X d 289 0 [.ref a0, .int a1, .int a2, .int a3, .retAddr 0, .retAddr 0] [] m := rfl
theorem u_289_0 {X : e_X} {d : Nat} {ls st : List Value} {m : e_M} : s_j X d 289 0 ls st m = s_x X d 289 [.aload 0, .sipush 0, .putfield 676, .iload 1, .invokeinterface 278 1, .ifCond .eq 29, .iload 2, .sipush 0, .sipush 3, .invokeinterface 172 3, .ifCond .eq 29, .aload 0, .iload 1, .invokeinterface 288 2, .ifCond .eq 31, .jsr 29] ls st m := by
  rw [s_j, s_g_eq, g_l289]; rfl
theorem u_289_29 {X : e_X} {d : Nat} {ls st : List Value} {m : e_M} : s_j X d 289 29 ls st m = s_x X d 289 [.sipush 0, .ireturn] ls st m := by
  rw [s_j, s_g_eq, g_l289]; rfl
theorem u_289_31 {X : e_X} {d : Nat} {ls st : List Value} {m : e_M} : s_j X d 289 31 ls st m = s_x X d 289 [.aload 0, .aload 0, .checkcast 674, .iload 1, .iaload, .putfield 677, .aload 0, .sipush 0, .putfield 678, .aload 0, .aload 0, .getfield 677, .sipush 0, .invokeinterface 196 3, .istore 4, .iload 2, .ifCond .ne 71, .aload 0, .iload 4, .iload 3, .invokeinterface 290 3, .goto 108] ls st m := by
  rw [s_j, s_g_eq, g_l289]; rfl
theorem u_289_71 {X : e_X} {d : Nat} {ls st : List Value} {m : e_M} : s_j X d 289 71 ls st m = s_x X d 289 [.iload 2, .sipush 1, .if_icmp .ne 86, .aload 0, .iload 4, .iload 3, .invokeinterface 292 3, .goto 108] ls st m := by
  rw [s_j, s_g_eq, g_l289]; rfl
theorem u_289_86 {X : e_X} {d : Nat} {ls st : List Value} {m : e_M} : s_j X d 289 86 ls st m = s_x X d 289 [.iload 2, .sipush 2, .if_icmp .ne 101, .aload 0, .iload 4, .iload 3, .invokeinterface 293 3, .goto 108] ls st m := by
  rw [s_j, s_g_eq, g_l289]; rfl
theorem u_289_101 {X : e_X} {d : Nat} {ls st : List Value} {m : e_M} : s_j X d 289 101 ls st m = s_x X d 289 [.aload 0, .iload 4, .iload 3, .invokeinterface 294 3, .jsr 108] ls st m := by
  rw [s_j, s_g_eq, g_l289]; rfl
theorem u_289_108 {X : e_X} {d : Nat} {ls st : List Value} {m : e_M} : s_j X d 289 108 ls st m = s_x X d 289 [.istore 5, .aload 0, .getfield 678, .ifCond .eq 122, .sipush (-15), .goto 124] ls st m := by
  rw [s_j, s_g_eq, g_l289]; rfl
theorem u_289_122 {X : e_X} {d : Nat} {ls st : List Value} {m : e_M} : s_j X d 289 122 ls st m = s_x X d 289 [.iload 5, .jsr 124] ls st m := by
  rw [s_j, s_g_eq, g_l289]; rfl
theorem u_289_124 {X : e_X} {d : Nat} {ls st : List Value} {m : e_M} : s_j X d 289 124 ls st m = s_x X d 289 [.ireturn] ls st m := by
  rw [s_j, s_g_eq, g_l289]; rfl
/-- M.laysAs -/
theorem g_l290 (l : Nat) : g_P 290 l = (g_c290.lookup l).getD [] := rfl
theorem v_290 {X : e_X} {d : Nat} (a0 : Nat) (a1 : Int32) (a2 : Int32) {m : e_M} : s_S X (d + 1) 290 [.ref a0, .int a1, .int a2] m = s_j X d 290 0 [.ref a0, .int a1, .int a2] [] m := rfl
theorem u_290_0 {X : e_X} {d : Nat} {ls st : List Value} {m : e_M} : s_j X d 290 0 ls st m = s_x X d 290 [.iload 1, .sipush 1, .if_icmp .ne 20, .aload 0, .sipush 20, .invokeinterface 291 2, .aload 0, .sipush 0, .iload 2, .invokeinterface 290 3, .sipush 3, .imul, .ireturn] ls st m := by
  rw [s_j, s_g_eq, g_l290]; rfl
theorem u_290_20 {X : e_X} {d : Nat} {ls st : List Value} {m : e_M} : s_j X d 290 20 ls st m = s_x X d 290 [.iload 1, .sipush 3, .if_icmp .ne 40, .aload 0, .sipush 50, .invokeinterface 291 2, .aload 0, .sipush 2, .iload 2, .invokeinterface 290 3, .sipush 4, .ixor, .ireturn] ls st m := by
  rw [s_j, s_g_eq, g_l290]; rfl
theorem u_290_40 {X : e_X} {d : Nat} {ls st : List Value} {m : e_M} : s_j X d 290 40 ls st m = s_x X d 290 [.aload 0, .sipush 10, .invokeinterface 291 2, .iload 2, .sipush 2, .imul, .aload 0, .getfield 677, .iadd, .ireturn] ls st m := by
  rw [s_j, s_g_eq, g_l290]; rfl
/-- M.starts -/
theorem g_l291 (l : Nat) : g_P 291 l = (g_c291.lookup l).getD [] := rfl
theorem v_291 {X : e_X} {d : Nat} (a0 : Nat) (a1 : Int32) {m : e_M} : s_S X (d + 1) 291 [.ref a0, .int a1] m = s_j X d 291 0 [.ref a0, .int a1] [] m := rfl
theorem u_291_0 {X : e_X} {d : Nat} {ls st : List Value} {m : e_M} : s_j X d 291 0 ls st m = s_x X d 291 [.aload 0, .getfield 676, .sipush 30, .if_icmp .ge 29, .aload 0, .checkcast 675, .aload 0, .getfield 676, .iload 1, .iastore, .aload 0, .dup, .getfield 676, .sipush 1, .iadd, .putfield 676, .jsr 29] ls st m := by
  rw [s_j, s_g_eq, g_l291]; rfl
theorem u_291_29 {X : e_X} {d : Nat} {ls st : List Value} {m : e_M} : s_j X d 291 29 ls st m = s_x X d 291 [.return_] ls st m := by
  rw [s_j, s_g_eq, g_l291]; rfl
/-- M.tiltsAs -/
theorem g_l292 (l : Nat) : g_P 292 l = (g_c292.lookup l).getD [] := rfl
theorem v_292 {X : e_X} {d : Nat} (a0 : Nat) (a1 : Int32) (a2 : Int32) {m : e_M} : s_S X (d + 1) 292 [.ref a0, .int a1, .int a2] m = s_j X d 292 0 [.ref a0, .int a1, .int a2] [] m := rfl
theorem u_292_0 {X : e_X} {d : Nat} {ls st : List Value} {m : e_M} : s_j X d 292 0 ls st m = s_x X d 292 [.iload 1, .sipush 2, .if_icmp .eq 10, .iload 1, .sipush 3, .if_icmp .ne 25, .jsr 10] ls st m := by
  rw [s_j, s_g_eq, g_l292]; rfl
theorem u_292_10 {X : e_X} {d : Nat} {ls st : List Value} {m : e_M} : s_j X d 292 10 ls st m = s_x X d 292 [.aload 0, .sipush 30, .invokeinterface 291 2, .aload 0, .sipush 0, .iload 2, .sipush 1, .iadd, .invokeinterface 292 3, .ireturn] ls st m := by
  rw [s_j, s_g_eq, g_l292]; rfl
theorem u_292_25 {X : e_X} {d : Nat} {ls st : List Value} {m : e_M} : s_j X d 292 25 ls st m = s_x X d 292 [.iload 1, .sipush 5, .if_icmp .ne 46, .aload 0, .sipush 60, .invokeinterface 291 2, .aload 0, .sipush 4, .iload 2, .invokeinterface 292 3, .sipush 60, .isub, .ireturn] ls st m := by
  rw [s_j, s_g_eq, g_l292]; rfl
theorem u_292_46 {X : e_X} {d : Nat} {ls st : List Value} {m : e_M} : s_j X d 292 46 ls st m = s_x X d 292 [.aload 0, .sipush 11, .invokeinterface 291 2, .aload 0, .aload 0, .aload 0, .getfield 677, .sipush 0, .invokeinterface 196 3, .iload 2, .invokeinterface 290 3, .aload 0, .aload 0, .getfield 677, .sipush 3, .invokeinterface 196 3, .isub, .ireturn] ls st m := by
  rw [s_j, s_g_eq, g_l292]; rfl
/-- M.breaksAs -/
theorem g_l293 (l : Nat) : g_P 293 l = (g_c293.lookup l).getD [] := rfl
theorem v_293 {X : e_X} {d : Nat} (a0 : Nat) (a1 : Int32) (a2 : Int32) {m : e_M} : s_S X (d + 1) 293 [.ref a0, .int a1, .int a2] m = s_j X d 293 0 [.ref a0, .int a1, .int a2, .retAddr 0] [] m := rfl
theorem u_293_0 {X : e_X} {d : Nat} {ls st : List Value} {m : e_M} : s_j X d 293 0 ls st m = s_x X d 293 [.iload 1, .sipush 5, .if_icmp .ne 46, .aload 0, .sipush 61, .invokeinterface 291 2, .aload 0, .sipush 4, .iload 2, .invokeinterface 293 3, .istore 3, .aload 0, .getfield 678, .ifCond .eq 29, .sipush 0, .goto 45] ls st m := by
  rw [s_j, s_g_eq, g_l293]; rfl
theorem u_293_29 {X : e_X} {d : Nat} {ls st : List Value} {m : e_M} : s_j X d 293 29 ls st m = s_x X d 293 [.iload 3, .aload 0, .sipush 5, .aload 0, .aload 0, .getfield 677, .sipush 3, .invokeinterface 196 3, .invokeinterface 290 3, .ixor, .jsr 45] ls st m := by
  rw [s_j, s_g_eq, g_l293]; rfl
theorem u_293_45 {X : e_X} {d : Nat} {ls st : List Value} {m : e_M} : s_j X d 293 45 ls st m = s_x X d 293 [.ireturn] ls st m := by
  rw [s_j, s_g_eq, g_l293]; rfl
theorem u_293_46 {X : e_X} {d : Nat} {ls st : List Value} {m : e_M} : s_j X d 293 46 ls st m = s_x X d 293 [.iload 1, .sipush 4, .if_icmp .ne 65, .aload 0, .sipush 40, .invokeinterface 291 2, .aload 0, .sipush 0, .iload 2, .invokeinterface 293 3, .ineg, .ireturn] ls st m := by
  rw [s_j, s_g_eq, g_l293]; rfl
theorem u_293_65 {X : e_X} {d : Nat} {ls st : List Value} {m : e_M} : s_j X d 293 65 ls st m = s_x X d 293 [.aload 0, .sipush 12, .invokeinterface 291 2, .aload 0, .getfield 677, .aload 0, .aload 0, .getfield 677, .sipush 3, .invokeinterface 196 3, .iadd, .sipush 3, .isub, .istore 3, .aload 0, .aload 0, .getfield 678, .ifCond .ne 100, .iload 3, .ifCond .ne 104, .jsr 100] ls st m := by
  rw [s_j, s_g_eq, g_l293]; rfl
theorem u_293_100 {X : e_X} {d : Nat} {ls st : List Value} {m : e_M} : s_j X d 293 100 ls st m = s_x X d 293 [.sipush 1, .goto 105] ls st m := by
  rw [s_j, s_g_eq, g_l293]; rfl
theorem u_293_104 {X : e_X} {d : Nat} {ls st : List Value} {m : e_M} : s_j X d 293 104 ls st m = s_x X d 293 [.sipush 0, .jsr 105] ls st m := by
  rw [s_j, s_g_eq, g_l293]; rfl
theorem u_293_105 {X : e_X} {d : Nat} {ls st : List Value} {m : e_M} : s_j X d 293 105 ls st m = s_x X d 293 [.putfield 678, .aload 0, .getfield 678, .ifCond .eq 119, .sipush 0, .goto 122] ls st m := by
  rw [s_j, s_g_eq, g_l293]; rfl
theorem u_293_119 {X : e_X} {d : Nat} {ls st : List Value} {m : e_M} : s_j X d 293 119 ls st m = s_x X d 293 [.iload 2, .iload 3, .irem, .jsr 122] ls st m := by
  rw [s_j, s_g_eq, g_l293]; rfl
theorem u_293_122 {X : e_X} {d : Nat} {ls st : List Value} {m : e_M} : s_j X d 293 122 ls st m = s_x X d 293 [.ireturn] ls st m := by
  rw [s_j, s_g_eq, g_l293]; rfl
/-- M.shinesAs -/
theorem g_l294 (l : Nat) : g_P 294 l = (g_c294.lookup l).getD [] := rfl
theorem v_294 {X : e_X} {d : Nat} (a0 : Nat) (a1 : Int32) (a2 : Int32) {m : e_M} : s_S X (d + 1) 294 [.ref a0, .int a1, .int a2] m = s_j X d 294 0 [.ref a0, .int a1, .int a2, .retAddr 0] [] m := rfl
theorem u_294_0 {X : e_X} {d : Nat} {ls st : List Value} {m : e_M} : s_j X d 294 0 ls st m = s_x X d 294 [.iload 1, .sipush 3, .if_icmp .ne 41, .aload 0, .sipush 51, .invokeinterface 291 2, .aload 0, .sipush 2, .iload 2, .invokeinterface 294 3, .istore 3, .aload 0, .getfield 678, .ifCond .eq 29, .sipush 0, .goto 40] ls st m := by
  rw [s_j, s_g_eq, g_l294]; rfl
theorem u_294_29 {X : e_X} {d : Nat} {ls st : List Value} {m : e_M} : s_j X d 294 29 ls st m = s_x X d 294 [.iload 3, .aload 0, .sipush 3, .aload 0, .getfield 677, .invokeinterface 292 3, .iadd, .jsr 40] ls st m := by
  rw [s_j, s_g_eq, g_l294]; rfl
theorem u_294_40 {X : e_X} {d : Nat} {ls st : List Value} {m : e_M} : s_j X d 294 40 ls st m = s_x X d 294 [.ireturn] ls st m := by
  rw [s_j, s_g_eq, g_l294]; rfl
theorem u_294_41 {X : e_X} {d : Nat} {ls st : List Value} {m : e_M} : s_j X d 294 41 ls st m = s_x X d 294 [.aload 0, .sipush 13, .invokeinterface 291 2, .aload 0, .aload 0, .aload 0, .getfield 677, .sipush 0, .invokeinterface 196 3, .iload 2, .invokeinterface 292 3, .istore 3, .iload 3, .aload 0, .aload 0, .aload 0, .getfield 677, .sipush 0, .invokeinterface 196 3, .iload 2, .invokeinterface 293 3, .ixor, .ireturn] ls st m := by
  rw [s_j, s_g_eq, g_l294]; rfl
/-- M.trace -/
theorem g_l295 (l : Nat) : g_P 295 l = (g_c295.lookup l).getD [] := rfl
theorem v_295 {X : e_X} {d : Nat} (a0 : Nat) (a1 : Int32) {m : e_M} : s_S X (d + 1) 295 [.ref a0, .int a1] m = s_j X d 295 0 [.ref a0, .int a1] [] m := rfl
theorem u_295_0 {X : e_X} {d : Nat} {ls st : List Value} {m : e_M} : s_j X d 295 0 ls st m = s_x X d 295 [.iload 1, .sipush 0, .aload 0, .getfield 676, .sipush 1, .isub, .invokeinterface 172 3, .ifCond .eq 23, .aload 0, .checkcast 675, .iload 1, .iaload, .goto 25] ls st m := by
  rw [s_j, s_g_eq, g_l295]; rfl
theorem u_295_23 {X : e_X} {d : Nat} {ls st : List Value} {m : e_M} : s_j X d 295 23 ls st m = s_x X d 295 [.sipush (-3), .jsr 25] ls st m := by
  rw [s_j, s_g_eq, g_l295]; rfl
theorem u_295_25 {X : e_X} {d : Nat} {ls st : List Value} {m : e_M} : s_j X d 295 25 ls st m = s_x X d 295 [.ireturn] ls st m := by
  rw [s_j, s_g_eq, g_l295]; rfl
/-- M.many -/
theorem g_l296 (l : Nat) : g_P 296 l = (g_c296.lookup l).getD [] := rfl
theorem v_296 {X : e_X} {d : Nat} (a0 : Nat) (a1 : Int32) {m : e_M} : s_S X (d + 1) 296 [.ref a0, .int a1] m = s_j X d 296 0 [.ref a0, .int a1] [] m := rfl
theorem u_296_0 {X : e_X} {d : Nat} {ls st : List Value} {m : e_M} : s_j X d 296 0 ls st m = s_x X d 296 [.iload 1, .lookupswitch 92 #[(0, 44), (1, 52), (2, 60), (3, 69), (4, 77), (5, 82), (6, 87)]] ls st m := by
  rw [s_j, s_g_eq, g_l296]; rfl
theorem u_296_44 {X : e_X} {d : Nat} {ls st : List Value} {m : e_M} : s_j X d 296 44 ls st m = s_x X d 296 [.aload 0, .checkcast 640, .sipush 6, .iaload, .ireturn] ls st m := by
  rw [s_j, s_g_eq, g_l296]; rfl
theorem u_296_52 {X : e_X} {d : Nat} {ls st : List Value} {m : e_M} : s_j X d 296 52 ls st m = s_x X d 296 [.aload 0, .checkcast 640, .sipush 7, .iaload, .ireturn] ls st m := by
  rw [s_j, s_g_eq, g_l296]; rfl
theorem u_296_60 {X : e_X} {d : Nat} {ls st : List Value} {m : e_M} : s_j X d 296 60 ls st m = s_x X d 296 [.aload 0, .sipush 4, .invokeinterface 218 2, .invokeinterface 297 1, .ireturn] ls st m := by
  rw [s_j, s_g_eq, g_l296]; rfl
theorem u_296_69 {X : e_X} {d : Nat} {ls st : List Value} {m : e_M} : s_j X d 296 69 ls st m = s_x X d 296 [.aload 0, .checkcast 640, .sipush 8, .iaload, .ireturn] ls st m := by
  rw [s_j, s_g_eq, g_l296]; rfl
theorem u_296_77 {X : e_X} {d : Nat} {ls st : List Value} {m : e_M} : s_j X d 296 77 ls st m = s_x X d 296 [.aload 0, .getfield 669, .ireturn] ls st m := by
  rw [s_j, s_g_eq, g_l296]; rfl
theorem u_296_82 {X : e_X} {d : Nat} {ls st : List Value} {m : e_M} : s_j X d 296 82 ls st m = s_x X d 296 [.aload 0, .getfield 646, .ireturn] ls st m := by
  rw [s_j, s_g_eq, g_l296]; rfl
theorem u_296_87 {X : e_X} {d : Nat} {ls st : List Value} {m : e_M} : s_j X d 296 87 ls st m = s_x X d 296 [.aload 0, .getfield 676, .ireturn] ls st m := by
  rw [s_j, s_g_eq, g_l296]; rfl
theorem u_296_92 {X : e_X} {d : Nat} {ls st : List Value} {m : e_M} : s_j X d 296 92 ls st m = s_x X d 296 [.sipush (-1), .ireturn] ls st m := by
  rw [s_j, s_g_eq, g_l296]; rfl
/-- M.ones -/
theorem g_l297 (l : Nat) : g_P 297 l = (g_c297.lookup l).getD [] := rfl
theorem v_297 {X : e_X} {d : Nat} (a0 : Int32) {m : e_M} : s_S X (d + 1) 297 [.int a0] m = s_j X d 297 0 [.int a0, .retAddr 0, .retAddr 0] [] m := rfl
theorem u_297_0 {X : e_X} {d : Nat} {ls st : List Value} {m : e_M} : s_j X d 297 0 ls st m = s_x X d 297 [.sipush 0, .istore 1, .iload 0, .istore 2, .jsr 4] ls st m := by
  rw [s_j, s_g_eq, g_l297]; rfl
theorem u_297_4 {X : e_X} {d : Nat} {ls st : List Value} {m : e_M} : s_j X d 297 4 ls st m = s_x X d 297 [.iload 2, .ifCond .eq 20, .iinc 1 1, .iload 2, .iload 2, .sipush 1, .isub, .iand, .istore 2, .goto 4] ls st m := by
  rw [s_j, s_g_eq, g_l297]; rfl
theorem u_297_20 {X : e_X} {d : Nat} {ls st : List Value} {m : e_M} : s_j X d 297 20 ls st m = s_x X d 297 [.iload 1, .ireturn] ls st m := by
  rw [s_j, s_g_eq, g_l297]; rfl
/-- M.keep -/
theorem g_l298 (l : Nat) : g_P 298 l = (g_c298.lookup l).getD [] := rfl
theorem v_298 {X : e_X} {d : Nat} (a0 : Nat) {m : e_M} : s_S X (d + 1) 298 [.ref a0] m = s_j X d 298 0 [.ref a0, .retAddr 0] [] m := rfl
theorem u_298_0 {X : e_X} {d : Nat} {ls st : List Value} {m : e_M} : s_j X d 298 0 ls st m = s_x X d 298 [.sipush 0, .istore 1, .jsr 2] ls st m := by
  rw [s_j, s_g_eq, g_l298]; rfl
theorem u_298_2 {X : e_X} {d : Nat} {ls st : List Value} {m : e_M} : s_j X d 298 2 ls st m = s_x X d 298 [.iload 1, .sipush 322, .if_icmp .ge 27, .aload 0, .checkcast 641, .iload 1, .aload 0, .checkcast 640, .iload 1, .iaload, .iastore, .iinc 1 1, .goto 2] ls st m := by
  rw [s_j, s_g_eq, g_l298]; rfl
theorem u_298_27 {X : e_X} {d : Nat} {ls st : List Value} {m : e_M} : s_j X d 298 27 ls st m = s_x X d 298 [.aload 0, .sipush 1, .putfield 643, .sipush 1, .ireturn] ls st m := by
  rw [s_j, s_g_eq, g_l298]; rfl
/-- M.again -/
theorem g_l299 (l : Nat) : g_P 299 l = (g_c299.lookup l).getD [] := rfl
theorem v_299 {X : e_X} {d : Nat} (a0 : Nat) {m : e_M} : s_S X (d + 1) 299 [.ref a0] m = s_j X d 299 0 [.ref a0, .retAddr 0] [] m := rfl
theorem u_299_0 {X : e_X} {d : Nat} {ls st : List Value} {m : e_M} : s_j X d 299 0 ls st m = s_x X d 299 [.aload 0, .getfield 643, .ifCond .ne 10, .sipush (-3), .ireturn] ls st m := by
  rw [s_j, s_g_eq, g_l299]; rfl
theorem u_299_10 {X : e_X} {d : Nat} {ls st : List Value} {m : e_M} : s_j X d 299 10 ls st m = s_x X d 299 [.sipush 0, .istore 1, .jsr 12] ls st m := by
  rw [s_j, s_g_eq, g_l299]; rfl
theorem u_299_12 {X : e_X} {d : Nat} {ls st : List Value} {m : e_M} : s_j X d 299 12 ls st m = s_x X d 299 [.iload 1, .sipush 322, .if_icmp .ge 37, .aload 0, .checkcast 640, .iload 1, .aload 0, .checkcast 641, .iload 1, .iaload, .iastore, .iinc 1 1, .goto 12] ls st m := by
  rw [s_j, s_g_eq, g_l299]; rfl
theorem u_299_37 {X : e_X} {d : Nat} {ls st : List Value} {m : e_M} : s_j X d 299 37 ls st m = s_x X d 299 [.aload 0, .checkcast 640, .sipush 6, .iaload, .ireturn] ls st m := by
  rw [s_j, s_g_eq, g_l299]; rfl
/-- J.bitCount -/
theorem g_l300 (l : Nat) : g_P 300 l = (g_c300.lookup l).getD [] := rfl
theorem v_300 {X : e_X} {d : Nat} (a0 : Int32) {m : e_M} : s_S X (d + 1) 300 [.int a0] m = s_j X d 300 0 [.int a0] [] m := rfl
theorem u_300_0 {X : e_X} {d : Nat} {ls st : List Value} {m : e_M} : s_j X d 300 0 ls st m = s_x X d 300 [.iload 0, .iload 0, .sipush 1, .iushr, .sipush 1431655765, .iand, .isub, .istore 0, .iload 0, .sipush 858993459, .iand, .iload 0, .sipush 2, .iushr, .sipush 858993459, .iand, .iadd, .istore 0, .iload 0, .iload 0, .sipush 4, .iushr, .iadd, .sipush 252645135, .iand, .istore 0, .iload 0, .iload 0, .sipush 8, .iushr, .iadd, .istore 0, .iload 0, .iload 0, .sipush 16, .iushr, .iadd, .istore 0, .iload 0, .sipush 63, .iand, .ireturn] ls st m := by
  rw [s_j, s_g_eq, g_l300]; rfl
/-- J.length -/
theorem g_l301 (l : Nat) : g_P 301 l = (g_c301.lookup l).getD [] := rfl
theorem v_301 {X : e_X} {d : Nat} (a0 : Nat) {m : e_M} : s_S X (d + 1) 301 [.ref a0] m = s_j X d 301 0 [.ref a0] [] m := rfl
theorem u_301_0 {X : e_X} {d : Nat} {ls st : List Value} {m : e_M} : s_j X d 301 0 ls st m = s_x X d 301 [.aload 0, .fload 0, .fmul, .aload 0, .invokeinterface 302 1, .ishr, .ireturn] ls st m := by
  rw [s_j, s_g_eq, g_l301]; rfl
/-- J.coder -/
theorem g_l302 (l : Nat) : g_P 302 l = (g_c302.lookup l).getD [] := rfl
theorem v_302 {X : e_X} {d : Nat} (a0 : Nat) {m : e_M} : s_S X (d + 1) 302 [.ref a0] m = s_j X d 302 0 [.ref a0] [] m := rfl
theorem u_302_0 {X : e_X} {d : Nat} {ls st : List Value} {m : e_M} : s_j X d 302 0 ls st m = s_x X d 302 [.getstatic 1, .ifCond .eq 13, .aload 0, .fload 1, .goto 14] ls st m := by
  rw [s_j, s_g_eq, g_l302]; rfl
theorem u_302_13 {X : e_X} {d : Nat} {ls st : List Value} {m : e_M} : s_j X d 302 13 ls st m = s_x X d 302 [.sipush 1, .jsr 14] ls st m := by
  rw [s_j, s_g_eq, g_l302]; rfl
theorem u_302_14 {X : e_X} {d : Nat} {ls st : List Value} {m : e_M} : s_j X d 302 14 ls st m = s_x X d 302 [.ireturn] ls st m := by
  rw [s_j, s_g_eq, g_l302]; rfl
/-- J.charAt -/
theorem g_l303 (l : Nat) : g_P 303 l = (g_c303.lookup l).getD [] := rfl
theorem v_303 {X : e_X} {d : Nat} (a0 : Nat) (a1 : Int32) {m : e_M} : s_S X (d + 1) 303 [.ref a0, .int a1] m = s_j X d 303 0 [.ref a0, .int a1] [] m := rfl
theorem u_303_0 {X : e_X} {d : Nat} {ls st : List Value} {m : e_M} : s_j X d 303 0 ls st m = s_x X d 303 [.aload 0, .invokeinterface 304 1, .ifCond .eq 16, .aload 0, .fload 0, .iload 1, .invokeinterface 306 2, .ireturn] ls st m := by
  rw [s_j, s_g_eq, g_l303]; rfl
theorem u_303_16 {X : e_X} {d : Nat} {ls st : List Value} {m : e_M} : s_j X d 303 16 ls st m = s_x X d 303 [.aload 0, .fload 0, .iload 1] ls st m := by
  rw [s_j, s_g_eq, g_l303]; rfl
/-- J.isLatin1 -/
theorem g_l304 (l : Nat) : g_P 304 l = (g_c304.lookup l).getD [] := rfl
theorem v_304 {X : e_X} {d : Nat} (a0 : Nat) {m : e_M} : s_S X (d + 1) 304 [.ref a0] m = s_j X d 304 0 [.ref a0] [] m := rfl
theorem u_304_0 {X : e_X} {d : Nat} {ls st : List Value} {m : e_M} : s_j X d 304 0 ls st m = s_x X d 304 [.getstatic 1, .ifCond .eq 17, .aload 0, .fload 1, .ifCond .ne 17, .sipush 1, .goto 18] ls st m := by
  rw [s_j, s_g_eq, g_l304]; rfl
theorem u_304_17 {X : e_X} {d : Nat} {ls st : List Value} {m : e_M} : s_j X d 304 17 ls st m = s_x X d 304 [.sipush 0, .jsr 18] ls st m := by
  rw [s_j, s_g_eq, g_l304]; rfl
theorem u_304_18 {X : e_X} {d : Nat} {ls st : List Value} {m : e_M} : s_j X d 304 18 ls st m = s_x X d 304 [.ireturn] ls st m := by
  rw [s_j, s_g_eq, g_l304]; rfl
/-- J.checkIndex -/
theorem g_l305 (l : Nat) : g_P 305 l = (g_c305.lookup l).getD [] := rfl
theorem v_305 {X : e_X} {d : Nat} (a0 : Int32) (a1 : Int32) {m : e_M} : s_S X (d + 1) 305 [.int a0, .int a1] m = s_j X d 305 0 [.int a0, .int a1] [] m := rfl
theorem u_305_0 {X : e_X} {d : Nat} {ls st : List Value} {m : e_M} : s_j X d 305 0 ls st m = s_x X d 305 [.iload 0, .iload 1, .getstatic 2, .invokeinterface 307 3, .pop, .return_] ls st m := by
  rw [s_j, s_g_eq, g_l305]; rfl
/-- J.charAt_306 -/
theorem g_l306 (l : Nat) : g_P 306 l = (g_c306.lookup l).getD [] := rfl
theorem v_306 {X : e_X} {d : Nat} (a0 : Nat) (a1 : Int32) {m : e_M} : s_S X (d + 1) 306 [.ref a0, .int a1] m = s_j X d 306 0 [.ref a0, .int a1] [] m := rfl
theorem u_306_0 {X : e_X} {d : Nat} {ls st : List Value} {m : e_M} : s_j X d 306 0 ls st m = s_x X d 306 [.iload 1, .aload 0, .fmul, .invokeinterface 305 2, .aload 0, .iload 1, .baload, .sipush 255, .iand, .i2c, .ireturn] ls st m := by
  rw [s_j, s_g_eq, g_l306]; rfl
/-- J.checkIndex_307 -/
theorem g_l307 (l : Nat) : g_P 307 l = (g_c307.lookup l).getD [] := rfl
theorem v_307 {X : e_X} {d : Nat} (a0 : Int32) (a1 : Int32) (a2 : Nat) {m : e_M} : s_S X (d + 1) 307 [.int a0, .int a1, .ref a2] m = s_j X d 307 0 [.int a0, .int a1, .ref a2] [] m := rfl
theorem u_307_0 {X : e_X} {d : Nat} {ls st : List Value} {m : e_M} : s_j X d 307 0 ls st m = s_x X d 307 [.iload 0, .ifCond .lt 9, .iload 0, .iload 1, .if_icmp .lt 16, .jsr 9] ls st m := by
  rw [s_j, s_g_eq, g_l307]; rfl
theorem u_307_9 {X : e_X} {d : Nat} {ls st : List Value} {m : e_M} : s_j X d 307 9 ls st m = s_x X d 307 [.aload 2, .iload 0, .iload 1] ls st m := by
  rw [s_j, s_g_eq, g_l307]; rfl
theorem u_307_16 {X : e_X} {d : Nat} {ls st : List Value} {m : e_M} : s_j X d 307 16 ls st m = s_x X d 307 [.iload 0, .ireturn] ls st m := by
  rw [s_j, s_g_eq, g_l307]; rfl
/-- LAW.law -/
theorem g_l308 (l : Nat) : g_P 308 l = (g_c308.lookup l).getD [] := rfl
theorem v_308 {X : e_X} {d : Nat} (a0 : Nat) {m : e_M} : s_S X (d + 1) 308 [.ref a0] m = s_j X d 308 0 [.ref a0, .retAddr 0, .retAddr 0, .retAddr 0] [] m := rfl
theorem u_308_0 {X : e_X} {d : Nat} {ls st : List Value} {m : e_M} : s_j X d 308 0 ls st m = s_x X d 308 [.new 9, .dup, .invokeinterface 107 1, .astore 1, .new 10, .dup, .invokeinterface 170 1, .astore 2, .sipush 0, .istore 3, .jsr 18] ls st m := by
  rw [s_j, s_g_eq, g_l308]; rfl
theorem u_308_18 {X : e_X} {d : Nat} {ls st : List Value} {m : e_M} : s_j X d 308 18 ls st m = s_x X d 308 [.iload 3, .aload 0, .fadd, .sipush 5, .isub, .if_icmp .gt 1788, .aload 0, .iload 3, .faload, .sipush 63, .iand, .lookupswitch 1782 #[(0, 256), (1, 309), (2, 342), (3, 385), (4, 418), (5, 451), (6, 494), (7, 527), (8, 560), (9, 583), (10, 596), (11, 619), (12, 682), (13, 695), (14, 708), (15, 731), (16, 754), (17, 777), (18, 800), (19, 823), (20, 846), (21, 869), (22, 902), (23, 925), (24, 958), (25, 981), (26, 1014), (27, 1047), (28, 1070), (29, 1093), (30, 1146), (31, 1159), (32, 1182), (33, 1195), (34, 1218), (35, 1231), (36, 1264), (37, 1287), (38, 1320), (39, 1363), (40, 1376), (41, 1419), (42, 1462), (43, 1505), (44, 1548), (45, 1591), (46, 1634), (47, 1667), (48, 1710), (49, 1733), (50, 1756), (51, 1769)]] ls st m := by
  rw [s_j, s_g_eq, g_l308]; rfl
theorem u_308_256 {X : e_X} {d : Nat} {ls st : List Value} {m : e_M} : s_j X d 308 256 ls st m = s_x X d 308 [.aload 1, .aload 0, .iload 3, .sipush 1, .iadd, .faload, .aload 0, .iload 3, .sipush 2, .iadd, .faload, .aload 0, .iload 3, .sipush 3, .iadd, .faload, .aload 0, .iload 3, .sipush 4, .iadd, .faload, .invokeinterface 108 5, .aload 2, .aload 0, .iload 3, .sipush 1, .iadd, .faload, .aload 0, .iload 3, .sipush 2, .iadd, .faload, .aload 0, .iload 3, .sipush 3, .iadd, .faload, .aload 0, .iload 3, .sipush 4, .iadd, .faload, .invokeinterface 188 5, .if_icmp .eq 1782, .sipush 0, .ireturn] ls st m := by
  rw [s_j, s_g_eq, g_l308]; rfl
theorem u_308_309 {X : e_X} {d : Nat} {ls st : List Value} {m : e_M} : s_j X d 308 309 ls st m = s_x X d 308 [.aload 1, .aload 0, .iload 3, .sipush 1, .iadd, .faload, .aload 0, .iload 3, .sipush 2, .iadd, .faload, .invokeinterface 110 3, .aload 2, .aload 0, .iload 3, .sipush 1, .iadd, .faload, .aload 0, .iload 3, .sipush 2, .iadd, .faload, .invokeinterface 193 3, .if_icmp .eq 1782, .sipush 0, .ireturn] ls st m := by
  rw [s_j, s_g_eq, g_l308]; rfl
theorem u_308_342 {X : e_X} {d : Nat} {ls st : List Value} {m : e_M} : s_j X d 308 342 ls st m = s_x X d 308 [.aload 1, .aload 0, .iload 3, .sipush 1, .iadd, .faload, .aload 0, .iload 3, .sipush 2, .iadd, .faload, .aload 0, .iload 3, .sipush 3, .iadd, .faload, .invokeinterface 113 4, .aload 2, .aload 0, .iload 3, .sipush 1, .iadd, .faload, .aload 0, .iload 3, .sipush 2, .iadd, .faload, .aload 0, .iload 3, .sipush 3, .iadd, .faload, .invokeinterface 207 4, .if_icmp .eq 1782, .sipush 0, .ireturn] ls st m := by
  rw [s_j, s_g_eq, g_l308]; rfl
theorem u_308_385 {X : e_X} {d : Nat} {ls st : List Value} {m : e_M} : s_j X d 308 385 ls st m = s_x X d 308 [.aload 1, .aload 0, .iload 3, .sipush 1, .iadd, .faload, .aload 0, .iload 3, .sipush 2, .iadd, .faload, .invokeinterface 115 3, .aload 2, .aload 0, .iload 3, .sipush 1, .iadd, .faload, .aload 0, .iload 3, .sipush 2, .iadd, .faload, .invokeinterface 209 3, .if_icmp .eq 1782, .sipush 0, .ireturn] ls st m := by
  rw [s_j, s_g_eq, g_l308]; rfl
theorem u_308_418 {X : e_X} {d : Nat} {ls st : List Value} {m : e_M} : s_j X d 308 418 ls st m = s_x X d 308 [.aload 1, .aload 0, .iload 3, .sipush 1, .iadd, .faload, .aload 0, .iload 3, .sipush 2, .iadd, .faload, .invokeinterface 116 3, .aload 2, .aload 0, .iload 3, .sipush 1, .iadd, .faload, .aload 0, .iload 3, .sipush 2, .iadd, .faload, .invokeinterface 210 3, .if_icmp .eq 1782, .sipush 0, .ireturn] ls st m := by
  rw [s_j, s_g_eq, g_l308]; rfl
theorem u_308_451 {X : e_X} {d : Nat} {ls st : List Value} {m : e_M} : s_j X d 308 451 ls st m = s_x X d 308 [.aload 1, .aload 0, .iload 3, .sipush 1, .iadd, .faload, .aload 0, .iload 3, .sipush 2, .iadd, .faload, .aload 0, .iload 3, .sipush 3, .iadd, .faload, .invokeinterface 117 4, .aload 2, .aload 0, .iload 3, .sipush 1, .iadd, .faload, .aload 0, .iload 3, .sipush 2, .iadd, .faload, .aload 0, .iload 3, .sipush 3, .iadd, .faload, .invokeinterface 211 4, .if_icmp .eq 1782, .sipush 0, .ireturn] ls st m := by
  rw [s_j, s_g_eq, g_l308]; rfl
theorem u_308_494 {X : e_X} {d : Nat} {ls st : List Value} {m : e_M} : s_j X d 308 494 ls st m = s_x X d 308 [.aload 1, .aload 0, .iload 3, .sipush 1, .iadd, .faload, .aload 0, .iload 3, .sipush 2, .iadd, .faload, .invokeinterface 118 3, .aload 2, .aload 0, .iload 3, .sipush 1, .iadd, .faload, .aload 0, .iload 3, .sipush 2, .iadd, .faload, .invokeinterface 212 3, .if_icmp .eq 1782, .sipush 0, .ireturn] ls st m := by
  rw [s_j, s_g_eq, g_l308]; rfl
theorem u_308_527 {X : e_X} {d : Nat} {ls st : List Value} {m : e_M} : s_j X d 308 527 ls st m = s_x X d 308 [.aload 1, .aload 0, .iload 3, .sipush 1, .iadd, .faload, .aload 0, .iload 3, .sipush 2, .iadd, .faload, .invokeinterface 119 3, .aload 2, .aload 0, .iload 3, .sipush 1, .iadd, .faload, .aload 0, .iload 3, .sipush 2, .iadd, .faload, .invokeinterface 213 3, .if_icmp .eq 1782, .sipush 0, .ireturn] ls st m := by
  rw [s_j, s_g_eq, g_l308]; rfl
theorem u_308_560 {X : e_X} {d : Nat} {ls st : List Value} {m : e_M} : s_j X d 308 560 ls st m = s_x X d 308 [.aload 1, .aload 0, .iload 3, .sipush 1, .iadd, .faload, .invokeinterface 120 2, .aload 2, .aload 0, .iload 3, .sipush 1, .iadd, .faload, .invokeinterface 214 2, .if_icmp .eq 1782, .sipush 0, .ireturn] ls st m := by
  rw [s_j, s_g_eq, g_l308]; rfl
theorem u_308_583 {X : e_X} {d : Nat} {ls st : List Value} {m : e_M} : s_j X d 308 583 ls st m = s_x X d 308 [.aload 1, .invokeinterface 121 1, .aload 2, .invokeinterface 215 1, .if_icmp .eq 1782, .sipush 0, .ireturn] ls st m := by
  rw [s_j, s_g_eq, g_l308]; rfl
theorem u_308_596 {X : e_X} {d : Nat} {ls st : List Value} {m : e_M} : s_j X d 308 596 ls st m = s_x X d 308 [.aload 1, .aload 0, .iload 3, .sipush 1, .iadd, .faload, .invokeinterface 122 2, .aload 2, .aload 0, .iload 3, .sipush 1, .iadd, .faload, .invokeinterface 216 2, .if_icmp .eq 1782, .sipush 0, .ireturn] ls st m := by
  rw [s_j, s_g_eq, g_l308]; rfl
theorem u_308_619 {X : e_X} {d : Nat} {ls st : List Value} {m : e_M} : s_j X d 308 619 ls st m = s_x X d 308 [.aload 1, .aload 0, .iload 3, .sipush 1, .iadd, .faload, .i2l, .sipush 32, .lshl, .aload 0, .iload 3, .sipush 2, .iadd, .faload, .i2l, .goto_w 4294967295, .land, .lor, .aload 0, .iload 3, .sipush 3, .iadd, .faload, .invokeinterface 123 3, .aload 2, .aload 0, .iload 3, .sipush 1, .iadd, .faload, .i2l, .sipush 32, .lshl, .aload 0, .iload 3, .sipush 2, .iadd, .faload, .i2l, .goto_w 4294967295, .land, .lor, .aload 0, .iload 3, .sipush 3, .iadd, .faload, .invokeinterface 171 3, .if_icmp .eq 1782, .sipush 0, .ireturn] ls st m := by
  rw [s_j, s_g_eq, g_l308]; rfl
theorem u_308_682 {X : e_X} {d : Nat} {ls st : List Value} {m : e_M} : s_j X d 308 682 ls st m = s_x X d 308 [.aload 1, .invokeinterface 124 1, .aload 2, .invokeinterface 173 1, .if_icmp .eq 1782, .sipush 0, .ireturn] ls st m := by
  rw [s_j, s_g_eq, g_l308]; rfl
theorem u_308_695 {X : e_X} {d : Nat} {ls st : List Value} {m : e_M} : s_j X d 308 695 ls st m = s_x X d 308 [.aload 1, .invokeinterface 125 1, .aload 2, .invokeinterface 219 1, .if_icmp .eq 1782, .sipush 0, .ireturn] ls st m := by
  rw [s_j, s_g_eq, g_l308]; rfl
theorem u_308_708 {X : e_X} {d : Nat} {ls st : List Value} {m : e_M} : s_j X d 308 708 ls st m = s_x X d 308 [.aload 1, .aload 0, .iload 3, .sipush 1, .iadd, .faload, .invokeinterface 129 2, .aload 2, .aload 0, .iload 3, .sipush 1, .iadd, .faload, .invokeinterface 229 2, .if_icmp .eq 1782, .sipush 0, .ireturn] ls st m := by
  rw [s_j, s_g_eq, g_l308]; rfl
theorem u_308_731 {X : e_X} {d : Nat} {ls st : List Value} {m : e_M} : s_j X d 308 731 ls st m = s_x X d 308 [.aload 1, .aload 0, .iload 3, .sipush 1, .iadd, .faload, .invokeinterface 130 2, .aload 2, .aload 0, .iload 3, .sipush 1, .iadd, .faload, .invokeinterface 233 2, .if_icmp .eq 1782, .sipush 0, .ireturn] ls st m := by
  rw [s_j, s_g_eq, g_l308]; rfl
theorem u_308_754 {X : e_X} {d : Nat} {ls st : List Value} {m : e_M} : s_j X d 308 754 ls st m = s_x X d 308 [.aload 1, .aload 0, .iload 3, .sipush 1, .iadd, .faload, .invokeinterface 131 2, .aload 2, .aload 0, .iload 3, .sipush 1, .iadd, .faload, .invokeinterface 234 2, .if_icmp .eq 1782, .sipush 0, .ireturn] ls st m := by
  rw [s_j, s_g_eq, g_l308]; rfl
theorem u_308_777 {X : e_X} {d : Nat} {ls st : List Value} {m : e_M} : s_j X d 308 777 ls st m = s_x X d 308 [.aload 1, .aload 0, .iload 3, .sipush 1, .iadd, .faload, .invokeinterface 132 2, .aload 2, .aload 0, .iload 3, .sipush 1, .iadd, .faload, .invokeinterface 236 2, .if_icmp .eq 1782, .sipush 0, .ireturn] ls st m := by
  rw [s_j, s_g_eq, g_l308]; rfl
theorem u_308_800 {X : e_X} {d : Nat} {ls st : List Value} {m : e_M} : s_j X d 308 800 ls st m = s_x X d 308 [.aload 1, .aload 0, .iload 3, .sipush 1, .iadd, .faload, .invokeinterface 133 2, .aload 2, .aload 0, .iload 3, .sipush 1, .iadd, .faload, .invokeinterface 237 2, .if_icmp .eq 1782, .sipush 0, .ireturn] ls st m := by
  rw [s_j, s_g_eq, g_l308]; rfl
theorem u_308_823 {X : e_X} {d : Nat} {ls st : List Value} {m : e_M} : s_j X d 308 823 ls st m = s_x X d 308 [.aload 1, .aload 0, .iload 3, .sipush 1, .iadd, .faload, .invokeinterface 134 2, .aload 2, .aload 0, .iload 3, .sipush 1, .iadd, .faload, .invokeinterface 238 2, .if_icmp .eq 1782, .sipush 0, .ireturn] ls st m := by
  rw [s_j, s_g_eq, g_l308]; rfl
theorem u_308_846 {X : e_X} {d : Nat} {ls st : List Value} {m : e_M} : s_j X d 308 846 ls st m = s_x X d 308 [.aload 1, .aload 0, .iload 3, .sipush 1, .iadd, .faload, .invokeinterface 135 2, .aload 2, .aload 0, .iload 3, .sipush 1, .iadd, .faload, .invokeinterface 239 2, .if_icmp .eq 1782, .sipush 0, .ireturn] ls st m := by
  rw [s_j, s_g_eq, g_l308]; rfl
theorem u_308_869 {X : e_X} {d : Nat} {ls st : List Value} {m : e_M} : s_j X d 308 869 ls st m = s_x X d 308 [.aload 1, .aload 0, .iload 3, .sipush 1, .iadd, .faload, .aload 0, .iload 3, .sipush 2, .iadd, .faload, .invokeinterface 137 3, .aload 2, .aload 0, .iload 3, .sipush 1, .iadd, .faload, .aload 0, .iload 3, .sipush 2, .iadd, .faload, .invokeinterface 242 3, .if_icmp .eq 1782, .sipush 0, .ireturn] ls st m := by
  rw [s_j, s_g_eq, g_l308]; rfl
theorem u_308_902 {X : e_X} {d : Nat} {ls st : List Value} {m : e_M} : s_j X d 308 902 ls st m = s_x X d 308 [.aload 1, .aload 0, .iload 3, .sipush 1, .iadd, .faload, .invokeinterface 138 2, .aload 2, .aload 0, .iload 3, .sipush 1, .iadd, .faload, .invokeinterface 244 2, .if_icmp .eq 1782, .sipush 0, .ireturn] ls st m := by
  rw [s_j, s_g_eq, g_l308]; rfl
theorem u_308_925 {X : e_X} {d : Nat} {ls st : List Value} {m : e_M} : s_j X d 308 925 ls st m = s_x X d 308 [.aload 1, .aload 0, .iload 3, .sipush 1, .iadd, .faload, .aload 0, .iload 3, .sipush 2, .iadd, .faload, .invokeinterface 139 3, .aload 2, .aload 0, .iload 3, .sipush 1, .iadd, .faload, .aload 0, .iload 3, .sipush 2, .iadd, .faload, .invokeinterface 252 3, .if_icmp .eq 1782, .sipush 0, .ireturn] ls st m := by
  rw [s_j, s_g_eq, g_l308]; rfl
theorem u_308_958 {X : e_X} {d : Nat} {ls st : List Value} {m : e_M} : s_j X d 308 958 ls st m = s_x X d 308 [.aload 1, .aload 0, .iload 3, .sipush 1, .iadd, .faload, .invokeinterface 140 2, .aload 2, .aload 0, .iload 3, .sipush 1, .iadd, .faload, .invokeinterface 253 2, .if_icmp .eq 1782, .sipush 0, .ireturn] ls st m := by
  rw [s_j, s_g_eq, g_l308]; rfl
theorem u_308_981 {X : e_X} {d : Nat} {ls st : List Value} {m : e_M} : s_j X d 308 981 ls st m = s_x X d 308 [.aload 1, .aload 0, .iload 3, .sipush 1, .iadd, .faload, .aload 0, .iload 3, .sipush 2, .iadd, .faload, .invokeinterface 141 3, .aload 2, .aload 0, .iload 3, .sipush 1, .iadd, .faload, .aload 0, .iload 3, .sipush 2, .iadd, .faload, .invokeinterface 254 3, .if_icmp .eq 1782, .sipush 0, .ireturn] ls st m := by
  rw [s_j, s_g_eq, g_l308]; rfl
theorem u_308_1014 {X : e_X} {d : Nat} {ls st : List Value} {m : e_M} : s_j X d 308 1014 ls st m = s_x X d 308 [.aload 1, .aload 0, .iload 3, .sipush 1, .iadd, .faload, .aload 0, .iload 3, .sipush 2, .iadd, .faload, .invokeinterface 142 3, .aload 2, .aload 0, .iload 3, .sipush 1, .iadd, .faload, .aload 0, .iload 3, .sipush 2, .iadd, .faload, .invokeinterface 256 3, .if_icmp .eq 1782, .sipush 0, .ireturn] ls st m := by
  rw [s_j, s_g_eq, g_l308]; rfl
theorem u_308_1047 {X : e_X} {d : Nat} {ls st : List Value} {m : e_M} : s_j X d 308 1047 ls st m = s_x X d 308 [.aload 1, .aload 0, .iload 3, .sipush 1, .iadd, .faload, .invokeinterface 143 2, .aload 2, .aload 0, .iload 3, .sipush 1, .iadd, .faload, .invokeinterface 257 2, .if_icmp .eq 1782, .sipush 0, .ireturn] ls st m := by
  rw [s_j, s_g_eq, g_l308]; rfl
theorem u_308_1070 {X : e_X} {d : Nat} {ls st : List Value} {m : e_M} : s_j X d 308 1070 ls st m = s_x X d 308 [.aload 1, .aload 0, .iload 3, .sipush 1, .iadd, .faload, .invokeinterface 144 2, .aload 2, .aload 0, .iload 3, .sipush 1, .iadd, .faload, .invokeinterface 259 2, .if_icmp .eq 1782, .sipush 0, .ireturn] ls st m := by
  rw [s_j, s_g_eq, g_l308]; rfl
theorem u_308_1093 {X : e_X} {d : Nat} {ls st : List Value} {m : e_M} : s_j X d 308 1093 ls st m = s_x X d 308 [.aload 1, .aload 0, .iload 3, .sipush 1, .iadd, .faload, .aload 0, .iload 3, .sipush 2, .iadd, .faload, .aload 0, .iload 3, .sipush 3, .iadd, .faload, .aload 0, .iload 3, .sipush 4, .iadd, .faload, .invokeinterface 145 5, .aload 2, .aload 0, .iload 3, .sipush 1, .iadd, .faload, .aload 0, .iload 3, .sipush 2, .iadd, .faload, .aload 0, .iload 3, .sipush 3, .iadd, .faload, .aload 0, .iload 3, .sipush 4, .iadd, .faload, .invokeinterface 260 5, .if_icmp .eq 1782, .sipush 0, .ireturn] ls st m := by
  rw [s_j, s_g_eq, g_l308]; rfl
theorem u_308_1146 {X : e_X} {d : Nat} {ls st : List Value} {m : e_M} : s_j X d 308 1146 ls st m = s_x X d 308 [.aload 1, .invokeinterface 146 1, .aload 2, .invokeinterface 261 1, .if_icmp .eq 1782, .sipush 0, .ireturn] ls st m := by
  rw [s_j, s_g_eq, g_l308]; rfl
theorem u_308_1159 {X : e_X} {d : Nat} {ls st : List Value} {m : e_M} : s_j X d 308 1159 ls st m = s_x X d 308 [.aload 1, .aload 0, .iload 3, .sipush 1, .iadd, .faload, .invokeinterface 147 2, .aload 2, .aload 0, .iload 3, .sipush 1, .iadd, .faload, .invokeinterface 262 2, .if_icmp .eq 1782, .sipush 0, .ireturn] ls st m := by
  rw [s_j, s_g_eq, g_l308]; rfl
theorem u_308_1182 {X : e_X} {d : Nat} {ls st : List Value} {m : e_M} : s_j X d 308 1182 ls st m = s_x X d 308 [.aload 1, .invokeinterface 148 1, .aload 2, .invokeinterface 266 1, .if_icmp .eq 1782, .sipush 0, .ireturn] ls st m := by
  rw [s_j, s_g_eq, g_l308]; rfl
theorem u_308_1195 {X : e_X} {d : Nat} {ls st : List Value} {m : e_M} : s_j X d 308 1195 ls st m = s_x X d 308 [.aload 1, .aload 0, .iload 3, .sipush 1, .iadd, .faload, .invokeinterface 149 2, .aload 2, .aload 0, .iload 3, .sipush 1, .iadd, .faload, .invokeinterface 267 2, .if_icmp .eq 1782, .sipush 0, .ireturn] ls st m := by
  rw [s_j, s_g_eq, g_l308]; rfl
theorem u_308_1218 {X : e_X} {d : Nat} {ls st : List Value} {m : e_M} : s_j X d 308 1218 ls st m = s_x X d 308 [.aload 1, .invokeinterface 150 1, .aload 2, .invokeinterface 268 1, .if_icmp .eq 1782, .sipush 0, .ireturn] ls st m := by
  rw [s_j, s_g_eq, g_l308]; rfl
theorem u_308_1231 {X : e_X} {d : Nat} {ls st : List Value} {m : e_M} : s_j X d 308 1231 ls st m = s_x X d 308 [.aload 1, .aload 0, .iload 3, .sipush 1, .iadd, .faload, .aload 0, .iload 3, .sipush 2, .iadd, .faload, .invokeinterface 151 3, .aload 2, .aload 0, .iload 3, .sipush 1, .iadd, .faload, .aload 0, .iload 3, .sipush 2, .iadd, .faload, .invokeinterface 270 3, .if_icmp .eq 1782, .sipush 0, .ireturn] ls st m := by
  rw [s_j, s_g_eq, g_l308]; rfl
theorem u_308_1264 {X : e_X} {d : Nat} {ls st : List Value} {m : e_M} : s_j X d 308 1264 ls st m = s_x X d 308 [.aload 1, .aload 0, .iload 3, .sipush 1, .iadd, .faload, .invokeinterface 152 2, .aload 2, .aload 0, .iload 3, .sipush 1, .iadd, .faload, .invokeinterface 271 2, .if_icmp .eq 1782, .sipush 0, .ireturn] ls st m := by
  rw [s_j, s_g_eq, g_l308]; rfl
theorem u_308_1287 {X : e_X} {d : Nat} {ls st : List Value} {m : e_M} : s_j X d 308 1287 ls st m = s_x X d 308 [.aload 1, .aload 0, .iload 3, .sipush 1, .iadd, .faload, .aload 0, .iload 3, .sipush 2, .iadd, .faload, .invokeinterface 153 3, .aload 2, .aload 0, .iload 3, .sipush 1, .iadd, .faload, .aload 0, .iload 3, .sipush 2, .iadd, .faload, .invokeinterface 272 3, .if_icmp .eq 1782, .sipush 0, .ireturn] ls st m := by
  rw [s_j, s_g_eq, g_l308]; rfl
theorem u_308_1320 {X : e_X} {d : Nat} {ls st : List Value} {m : e_M} : s_j X d 308 1320 ls st m = s_x X d 308 [.aload 1, .aload 0, .iload 3, .sipush 1, .iadd, .faload, .aload 0, .iload 3, .sipush 2, .iadd, .faload, .aload 0, .iload 3, .sipush 3, .iadd, .faload, .invokeinterface 154 4, .aload 2, .aload 0, .iload 3, .sipush 1, .iadd, .faload, .aload 0, .iload 3, .sipush 2, .iadd, .faload, .aload 0, .iload 3, .sipush 3, .iadd, .faload, .invokeinterface 274 4, .if_icmp .eq 1782, .sipush 0, .ireturn] ls st m := by
  rw [s_j, s_g_eq, g_l308]; rfl
theorem u_308_1363 {X : e_X} {d : Nat} {ls st : List Value} {m : e_M} : s_j X d 308 1363 ls st m = s_x X d 308 [.aload 1, .invokeinterface 155 1, .aload 2, .invokeinterface 275 1, .if_icmp .eq 1782, .sipush 0, .ireturn] ls st m := by
  rw [s_j, s_g_eq, g_l308]; rfl
theorem u_308_1376 {X : e_X} {d : Nat} {ls st : List Value} {m : e_M} : s_j X d 308 1376 ls st m = s_x X d 308 [.aload 1, .aload 0, .iload 3, .sipush 1, .iadd, .faload, .aload 0, .iload 3, .sipush 2, .iadd, .faload, .aload 0, .iload 3, .sipush 3, .iadd, .faload, .invokeinterface 156 4, .aload 2, .aload 0, .iload 3, .sipush 1, .iadd, .faload, .aload 0, .iload 3, .sipush 2, .iadd, .faload, .aload 0, .iload 3, .sipush 3, .iadd, .faload, .invokeinterface 277 4, .if_icmp .eq 1782, .sipush 0, .ireturn] ls st m := by
  rw [s_j, s_g_eq, g_l308]; rfl
theorem u_308_1419 {X : e_X} {d : Nat} {ls st : List Value} {m : e_M} : s_j X d 308 1419 ls st m = s_x X d 308 [.aload 1, .aload 0, .iload 3, .sipush 1, .iadd, .faload, .aload 0, .iload 3, .sipush 2, .iadd, .faload, .aload 0, .iload 3, .sipush 3, .iadd, .faload, .invokeinterface 157 4, .aload 2, .aload 0, .iload 3, .sipush 1, .iadd, .faload, .aload 0, .iload 3, .sipush 2, .iadd, .faload, .aload 0, .iload 3, .sipush 3, .iadd, .faload, .invokeinterface 279 4, .if_icmp .eq 1782, .sipush 0, .ireturn] ls st m := by
  rw [s_j, s_g_eq, g_l308]; rfl
theorem u_308_1462 {X : e_X} {d : Nat} {ls st : List Value} {m : e_M} : s_j X d 308 1462 ls st m = s_x X d 308 [.aload 1, .aload 0, .iload 3, .sipush 1, .iadd, .faload, .aload 0, .iload 3, .sipush 2, .iadd, .faload, .aload 0, .iload 3, .sipush 3, .iadd, .faload, .invokeinterface 158 4, .aload 2, .aload 0, .iload 3, .sipush 1, .iadd, .faload, .aload 0, .iload 3, .sipush 2, .iadd, .faload, .aload 0, .iload 3, .sipush 3, .iadd, .faload, .invokeinterface 281 4, .if_icmp .eq 1782, .sipush 0, .ireturn] ls st m := by
  rw [s_j, s_g_eq, g_l308]; rfl
theorem u_308_1505 {X : e_X} {d : Nat} {ls st : List Value} {m : e_M} : s_j X d 308 1505 ls st m = s_x X d 308 [.aload 1, .aload 0, .iload 3, .sipush 1, .iadd, .faload, .aload 0, .iload 3, .sipush 2, .iadd, .faload, .aload 0, .iload 3, .sipush 3, .iadd, .faload, .invokeinterface 159 4, .aload 2, .aload 0, .iload 3, .sipush 1, .iadd, .faload, .aload 0, .iload 3, .sipush 2, .iadd, .faload, .aload 0, .iload 3, .sipush 3, .iadd, .faload, .invokeinterface 283 4, .if_icmp .eq 1782, .sipush 0, .ireturn] ls st m := by
  rw [s_j, s_g_eq, g_l308]; rfl
theorem u_308_1548 {X : e_X} {d : Nat} {ls st : List Value} {m : e_M} : s_j X d 308 1548 ls st m = s_x X d 308 [.aload 1, .aload 0, .iload 3, .sipush 1, .iadd, .faload, .aload 0, .iload 3, .sipush 2, .iadd, .faload, .aload 0, .iload 3, .sipush 3, .iadd, .faload, .invokeinterface 160 4, .aload 2, .aload 0, .iload 3, .sipush 1, .iadd, .faload, .aload 0, .iload 3, .sipush 2, .iadd, .faload, .aload 0, .iload 3, .sipush 3, .iadd, .faload, .invokeinterface 285 4, .if_icmp .eq 1782, .sipush 0, .ireturn] ls st m := by
  rw [s_j, s_g_eq, g_l308]; rfl
theorem u_308_1591 {X : e_X} {d : Nat} {ls st : List Value} {m : e_M} : s_j X d 308 1591 ls st m = s_x X d 308 [.aload 1, .aload 0, .iload 3, .sipush 1, .iadd, .faload, .aload 0, .iload 3, .sipush 2, .iadd, .faload, .aload 0, .iload 3, .sipush 3, .iadd, .faload, .invokeinterface 162 4, .aload 2, .aload 0, .iload 3, .sipush 1, .iadd, .faload, .aload 0, .iload 3, .sipush 2, .iadd, .faload, .aload 0, .iload 3, .sipush 3, .iadd, .faload, .invokeinterface 286 4, .if_icmp .eq 1782, .sipush 0, .ireturn] ls st m := by
  rw [s_j, s_g_eq, g_l308]; rfl
theorem u_308_1634 {X : e_X} {d : Nat} {ls st : List Value} {m : e_M} : s_j X d 308 1634 ls st m = s_x X d 308 [.aload 1, .aload 0, .iload 3, .sipush 1, .iadd, .faload, .aload 0, .iload 3, .sipush 2, .iadd, .faload, .invokeinterface 163 3, .aload 2, .aload 0, .iload 3, .sipush 1, .iadd, .faload, .aload 0, .iload 3, .sipush 2, .iadd, .faload, .invokeinterface 287 3, .if_icmp .eq 1782, .sipush 0, .ireturn] ls st m := by
  rw [s_j, s_g_eq, g_l308]; rfl
theorem u_308_1667 {X : e_X} {d : Nat} {ls st : List Value} {m : e_M} : s_j X d 308 1667 ls st m = s_x X d 308 [.aload 1, .aload 0, .iload 3, .sipush 1, .iadd, .faload, .aload 0, .iload 3, .sipush 2, .iadd, .faload, .aload 0, .iload 3, .sipush 3, .iadd, .faload, .invokeinterface 165 4, .aload 2, .aload 0, .iload 3, .sipush 1, .iadd, .faload, .aload 0, .iload 3, .sipush 2, .iadd, .faload, .aload 0, .iload 3, .sipush 3, .iadd, .faload, .invokeinterface 289 4, .if_icmp .eq 1782, .sipush 0, .ireturn] ls st m := by
  rw [s_j, s_g_eq, g_l308]; rfl
theorem u_308_1710 {X : e_X} {d : Nat} {ls st : List Value} {m : e_M} : s_j X d 308 1710 ls st m = s_x X d 308 [.aload 1, .aload 0, .iload 3, .sipush 1, .iadd, .faload, .invokeinterface 166 2, .aload 2, .aload 0, .iload 3, .sipush 1, .iadd, .faload, .invokeinterface 295 2, .if_icmp .eq 1782, .sipush 0, .ireturn] ls st m := by
  rw [s_j, s_g_eq, g_l308]; rfl
theorem u_308_1733 {X : e_X} {d : Nat} {ls st : List Value} {m : e_M} : s_j X d 308 1733 ls st m = s_x X d 308 [.aload 1, .aload 0, .iload 3, .sipush 1, .iadd, .faload, .invokeinterface 167 2, .aload 2, .aload 0, .iload 3, .sipush 1, .iadd, .faload, .invokeinterface 296 2, .if_icmp .eq 1782, .sipush 0, .ireturn] ls st m := by
  rw [s_j, s_g_eq, g_l308]; rfl
theorem u_308_1756 {X : e_X} {d : Nat} {ls st : List Value} {m : e_M} : s_j X d 308 1756 ls st m = s_x X d 308 [.aload 1, .invokeinterface 168 1, .aload 2, .invokeinterface 298 1, .if_icmp .eq 1782, .sipush 0, .ireturn] ls st m := by
  rw [s_j, s_g_eq, g_l308]; rfl
theorem u_308_1769 {X : e_X} {d : Nat} {ls st : List Value} {m : e_M} : s_j X d 308 1769 ls st m = s_x X d 308 [.aload 1, .invokeinterface 169 1, .aload 2, .invokeinterface 299 1, .if_icmp .eq 1782, .sipush 0, .ireturn] ls st m := by
  rw [s_j, s_g_eq, g_l308]; rfl
theorem u_308_1782 {X : e_X} {d : Nat} {ls st : List Value} {m : e_M} : s_j X d 308 1782 ls st m = s_x X d 308 [.iinc 3 5, .goto 18] ls st m := by
  rw [s_j, s_g_eq, g_l308]; rfl
theorem u_308_1788 {X : e_X} {d : Nat} {ls st : List Value} {m : e_M} : s_j X d 308 1788 ls st m = s_x X d 308 [.sipush 1, .ireturn] ls st m := by
  rw [s_j, s_g_eq, g_l308]; rfl
end
section
theorem iI_cl {z : Int} (h : 0 ≤ z ∧ z < 2147483648) : (iI z).toNatClampNeg = z.toNat := by
  obtain ⟨n, rfl⟩ := Int.eq_ofNat_of_zero_le h.1
  show (nI n).toNatClampNeg = _
  rw [nI_clamp (by omega)]
  simp
theorem iI_toInt {z : Int} (h : -2147483648 ≤ z ∧ z < 2147483648) : (iI z).toInt = z := Int32.toInt_ofInt_of_le (by simpa using h.1) (by simpa using h.2)
theorem iI_add (a b : Int) : iI a + iI b = iI (a + b) := (Int32.ofInt_add a b).symm
theorem iI_lt {a b : Int} (h : -2147483648 ≤ a ∧ a < 2147483648 ∧ -2147483648 ≤ b ∧ b < 2147483648) : (iI a < iI b) = (a < b) := by
  rw [Int32.lt_iff_toInt_lt, iI_toInt (by omega), iI_toInt (by omega)]
theorem e_in_iI {z : Int} {n : Nat} (h : 0 ≤ z ∧ z < n ∧ n < 2147483648) : e_in (iI z) n = true := by
  have := iI_cl (z := z) (by omega)
  simp only [e_in, this, Bool.not_eq_true', Bool.or_eq_false_iff, decide_eq_false_iff_not]
  refine ⟨?_, by omega⟩
  show ¬ iI z < iI 0
  rw [iI_lt (by omega)]
  omega
set_option maxHeartbeats 400000 in
theorem sp_grudge {X : e_X} {d : Nat} {ci cj} {k hm an kd : Nat} (hk : k < 6) (h0 : ci 2 k = iI kd) (hkd : kd < 6) (h1 : ci 5 k = iI hm) (hm6 : hm < 6) (h2 : ci 6 hm = iI an) (han : an < 10) :
   s_S X (d + 1) 71 [.ref 1, .int (iI k)] (h_K, ci, cj, h_R) = some ([.int (iI (if kd = 1 then an + 2 else an))], (h_K, ci, cj, h_R)) := by
  simp (disch := omega) only [v_71, u_71_0, x_aload0, x_getref, x_iload1, x_iaload, x_istore2i, x_switch, o_1_512, o_1_515, o_1_516, if_true, Nat.reduceMod, r_1_0, r_1_3, r_1_4, e_rf_s, a_2, a_5, a_6, e_in_iI, iI_cl, Int.toNat_natCast, h0, h1, h2, e_sw_c, e_sw_n, iI_toInt]
  trace_state
  sorry
end
