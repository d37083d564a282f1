section
-- ===== PART A: goes FIRST, ahead of the names: the tables' words, and 'selects' of the private methods out of them =====
/-- a private method of a class that the tables say can be made, by its rows of tables_1 -/
def lw_okq (q : MethodName × Nat) : Prop := (q.1.cls ≠ "java/lang/invoke/MethodHandle" ∧ q.1.cls ≠ "java/lang/invoke/VarHandle") ∧ Cond.instantiable q.1.cls q.2 ∈ tables_1 ∧ Cond.privateMethod q.1 ∈ tables_1 ∧ Cond.instanceMethod q.1 ∈ tables_1
theorem lw_p0 : lw_okq (⟨"BridgeService$Laws", "holds", "(II)Z"⟩, 7) := ⟨⟨by decide +kernel, by decide +kernel⟩, List.mem_of_getElem? (i := 34) (by decide +kernel), List.mem_of_getElem? (i := 427) (by decide +kernel), List.mem_of_getElem? (i := 428) (by decide +kernel)⟩
theorem lw_p1 : lw_okq (⟨"BridgeService$Laws", "compares", "(I)Z"⟩, 7) := ⟨⟨by decide +kernel, by decide +kernel⟩, List.mem_of_getElem? (i := 34) (by decide +kernel), List.mem_of_getElem? (i := 432) (by decide +kernel), List.mem_of_getElem? (i := 433) (by decide +kernel)⟩
theorem lw_p2 : lw_okq (⟨"BridgeService$Reader", "nextWord", "()I"⟩, 14) := ⟨⟨by decide +kernel, by decide +kernel⟩, List.mem_of_getElem? (i := 161) (by decide +kernel), List.mem_of_getElem? (i := 513) (by decide +kernel), List.mem_of_getElem? (i := 514) (by decide +kernel)⟩
theorem lw_p3 : lw_okq (⟨"BridgeService$Reader", "readName", "()I"⟩, 14) := ⟨⟨by decide +kernel, by decide +kernel⟩, List.mem_of_getElem? (i := 161) (by decide +kernel), List.mem_of_getElem? (i := 520) (by decide +kernel), List.mem_of_getElem? (i := 521) (by decide +kernel)⟩
theorem lw_p4 : lw_okq (⟨"BridgeService$Reader", "readNumber", "()I"⟩, 14) := ⟨⟨by decide +kernel, by decide +kernel⟩, List.mem_of_getElem? (i := 161) (by decide +kernel), List.mem_of_getElem? (i := 576) (by decide +kernel), List.mem_of_getElem? (i := 577) (by decide +kernel)⟩
theorem lw_p5 : lw_okq (⟨"BridgeService$Reader", "mayStand", "(I)Z"⟩, 14) := ⟨⟨by decide +kernel, by decide +kernel⟩, List.mem_of_getElem? (i := 161) (by decide +kernel), List.mem_of_getElem? (i := 583) (by decide +kernel), List.mem_of_getElem? (i := 584) (by decide +kernel)⟩
theorem lw_p6 : lw_okq (⟨"BridgeService$Reader", "takeKind", "(I)Z"⟩, 14) := ⟨⟨by decide +kernel, by decide +kernel⟩, List.mem_of_getElem? (i := 161) (by decide +kernel), List.mem_of_getElem? (i := 587) (by decide +kernel), List.mem_of_getElem? (i := 588) (by decide +kernel)⟩
theorem lw_p7 : lw_okq (⟨"BridgeService$Reader", "takeTail", "(I)Z"⟩, 14) := ⟨⟨by decide +kernel, by decide +kernel⟩, List.mem_of_getElem? (i := 161) (by decide +kernel), List.mem_of_getElem? (i := 591) (by decide +kernel), List.mem_of_getElem? (i := 592) (by decide +kernel)⟩
theorem lw_p8 : lw_okq (⟨"BridgeService$Reader", "takeWill", "(I)Z"⟩, 14) := ⟨⟨by decide +kernel, by decide +kernel⟩, List.mem_of_getElem? (i := 161) (by decide +kernel), List.mem_of_getElem? (i := 595) (by decide +kernel), List.mem_of_getElem? (i := 596) (by decide +kernel)⟩
theorem lw_p9 : lw_okq (⟨"BridgeService$Reader", "takeOne", "(I)Z"⟩, 14) := ⟨⟨by decide +kernel, by decide +kernel⟩, List.mem_of_getElem? (i := 161) (by decide +kernel), List.mem_of_getElem? (i := 600) (by decide +kernel), List.mem_of_getElem? (i := 601) (by decide +kernel)⟩
theorem lw_p10 : lw_okq (⟨"BridgeService$Reader", "waitWith", "(I)Z"⟩, 14) := ⟨⟨by decide +kernel, by decide +kernel⟩, List.mem_of_getElem? (i := 161) (by decide +kernel), List.mem_of_getElem? (i := 604) (by decide +kernel), List.mem_of_getElem? (i := 605) (by decide +kernel)⟩
theorem lw_p11 : lw_okq (⟨"BridgeService$Reader", "valueOf", "(I)I"⟩, 14) := ⟨⟨by decide +kernel, by decide +kernel⟩, List.mem_of_getElem? (i := 161) (by decide +kernel), List.mem_of_getElem? (i := 611) (by decide +kernel), List.mem_of_getElem? (i := 612) (by decide +kernel)⟩
theorem lw_p12 : lw_okq (⟨"BridgeService$Reader", "takeSign", "(I)Z"⟩, 14) := ⟨⟨by decide +kernel, by decide +kernel⟩, List.mem_of_getElem? (i := 161) (by decide +kernel), List.mem_of_getElem? (i := 615) (by decide +kernel), List.mem_of_getElem? (i := 616) (by decide +kernel)⟩
theorem lw_p13 : lw_okq (⟨"BridgeService$Reader", "takeRight", "(I)Z"⟩, 14) := ⟨⟨by decide +kernel, by decide +kernel⟩, List.mem_of_getElem? (i := 161) (by decide +kernel), List.mem_of_getElem? (i := 619) (by decide +kernel), List.mem_of_getElem? (i := 620) (by decide +kernel)⟩
theorem lw_p14 : lw_okq (⟨"BridgeService$Reader", "endOne", "()V"⟩, 14) := ⟨⟨by decide +kernel, by decide +kernel⟩, List.mem_of_getElem? (i := 161) (by decide +kernel), List.mem_of_getElem? (i := 630) (by decide +kernel), List.mem_of_getElem? (i := 631) (by decide +kernel)⟩
theorem lw_p15 : lw_okq (⟨"BridgeService$Reader", "takeJoint", "(I)Z"⟩, 14) := ⟨⟨by decide +kernel, by decide +kernel⟩, List.mem_of_getElem? (i := 161) (by decide +kernel), List.mem_of_getElem? (i := 634) (by decide +kernel), List.mem_of_getElem? (i := 635) (by decide +kernel)⟩
def lw_privs_1 : List (MethodName × Nat) := [(⟨"BridgeService$Laws", "holds", "(II)Z"⟩, 7), (⟨"BridgeService$Laws", "compares", "(I)Z"⟩, 7), (⟨"BridgeService$Reader", "nextWord", "()I"⟩, 14), (⟨"BridgeService$Reader", "readName", "()I"⟩, 14), (⟨"BridgeService$Reader", "readNumber", "()I"⟩, 14), (⟨"BridgeService$Reader", "mayStand", "(I)Z"⟩, 14), (⟨"BridgeService$Reader", "takeKind", "(I)Z"⟩, 14), (⟨"BridgeService$Reader", "takeTail", "(I)Z"⟩, 14), (⟨"BridgeService$Reader", "takeWill", "(I)Z"⟩, 14), (⟨"BridgeService$Reader", "takeOne", "(I)Z"⟩, 14), (⟨"BridgeService$Reader", "waitWith", "(I)Z"⟩, 14), (⟨"BridgeService$Reader", "valueOf", "(I)I"⟩, 14), (⟨"BridgeService$Reader", "takeSign", "(I)Z"⟩, 14), (⟨"BridgeService$Reader", "takeRight", "(I)Z"⟩, 14), (⟨"BridgeService$Reader", "endOne", "()V"⟩, 14), (⟨"BridgeService$Reader", "takeJoint", "(I)Z"⟩, 14)]
theorem lw_r1 : ∀ q ∈ lw_privs_1, lw_okq q := List.forall_mem_cons.mpr ⟨lw_p0, List.forall_mem_cons.mpr ⟨lw_p1, List.forall_mem_cons.mpr ⟨lw_p2, List.forall_mem_cons.mpr ⟨lw_p3, List.forall_mem_cons.mpr ⟨lw_p4, List.forall_mem_cons.mpr ⟨lw_p5, List.forall_mem_cons.mpr ⟨lw_p6, List.forall_mem_cons.mpr ⟨lw_p7, List.forall_mem_cons.mpr ⟨lw_p8, List.forall_mem_cons.mpr ⟨lw_p9, List.forall_mem_cons.mpr ⟨lw_p10, List.forall_mem_cons.mpr ⟨lw_p11, List.forall_mem_cons.mpr ⟨lw_p12, List.forall_mem_cons.mpr ⟨lw_p13, List.forall_mem_cons.mpr ⟨lw_p14, List.forall_mem_cons.mpr ⟨lw_p15, fun _ h => absurd h List.not_mem_nil⟩⟩⟩⟩⟩⟩⟩⟩⟩⟩⟩⟩⟩⟩⟩⟩
theorem lw_p16 : lw_okq (⟨"BridgeService$Reader", "takeClose", "()Z"⟩, 14) := ⟨⟨by decide +kernel, by decide +kernel⟩, List.mem_of_getElem? (i := 161) (by decide +kernel), List.mem_of_getElem? (i := 638) (by decide +kernel), List.mem_of_getElem? (i := 639) (by decide +kernel)⟩
theorem lw_p17 : lw_okq (⟨"BridgeService$Reader", "appendJoints", "(I)V"⟩, 14) := ⟨⟨by decide +kernel, by decide +kernel⟩, List.mem_of_getElem? (i := 161) (by decide +kernel), List.mem_of_getElem? (i := 642) (by decide +kernel), List.mem_of_getElem? (i := 643) (by decide +kernel)⟩
theorem lw_p18 : lw_okq (⟨"BridgeService$Reader", "takeSemicolon", "(I)Z"⟩, 14) := ⟨⟨by decide +kernel, by decide +kernel⟩, List.mem_of_getElem? (i := 161) (by decide +kernel), List.mem_of_getElem? (i := 646) (by decide +kernel), List.mem_of_getElem? (i := 647) (by decide +kernel)⟩
theorem lw_p19 : lw_okq (⟨"BridgeService$Table", "leastWilling", "()I"⟩, 17) := ⟨⟨by decide +kernel, by decide +kernel⟩, List.mem_of_getElem? (i := 28) (by decide +kernel), List.mem_of_getElem? (i := 679) (by decide +kernel), List.mem_of_getElem? (i := 680) (by decide +kernel)⟩
theorem lw_p20 : lw_okq (⟨"BridgeService$Table", "sitDown", "(I)I"⟩, 17) := ⟨⟨by decide +kernel, by decide +kernel⟩, List.mem_of_getElem? (i := 28) (by decide +kernel), List.mem_of_getElem? (i := 686) (by decide +kernel), List.mem_of_getElem? (i := 687) (by decide +kernel)⟩
theorem lw_p21 : lw_okq (⟨"BridgeService$Table", "getUp", "(I)V"⟩, 17) := ⟨⟨by decide +kernel, by decide +kernel⟩, List.mem_of_getElem? (i := 28) (by decide +kernel), List.mem_of_getElem? (i := 691) (by decide +kernel), List.mem_of_getElem? (i := 692) (by decide +kernel)⟩
theorem lw_p22 : lw_okq (⟨"BridgeService$Table", "placesSpanned", "(I)J"⟩, 17) := ⟨⟨by decide +kernel, by decide +kernel⟩, List.mem_of_getElem? (i := 28) (by decide +kernel), List.mem_of_getElem? (i := 696) (by decide +kernel), List.mem_of_getElem? (i := 697) (by decide +kernel)⟩
theorem lw_p23 : lw_okq (⟨"BridgeService$Table", "closeTo", "(I)I"⟩, 17) := ⟨⟨by decide +kernel, by decide +kernel⟩, List.mem_of_getElem? (i := 28) (by decide +kernel), List.mem_of_getElem? (i := 780) (by decide +kernel), List.mem_of_getElem? (i := 781) (by decide +kernel)⟩
theorem lw_p24 : lw_okq (⟨"BridgeService$Table", "areClose", "(II)Z"⟩, 17) := ⟨⟨by decide +kernel, by decide +kernel⟩, List.mem_of_getElem? (i := 28) (by decide +kernel), List.mem_of_getElem? (i := 784) (by decide +kernel), List.mem_of_getElem? (i := 785) (by decide +kernel)⟩
theorem lw_p25 : lw_okq (⟨"BridgeService$Plans", "tryFrom", "(III)V"⟩, 9) := ⟨⟨by decide +kernel, by decide +kernel⟩, List.mem_of_getElem? (i := 214) (by decide +kernel), List.mem_of_getElem? (i := 819) (by decide +kernel), List.mem_of_getElem? (i := 820) (by decide +kernel)⟩
theorem lw_p26 : lw_okq (⟨"BridgeService$Plans", "weigh", "(II)V"⟩, 9) := ⟨⟨by decide +kernel, by decide +kernel⟩, List.mem_of_getElem? (i := 214) (by decide +kernel), List.mem_of_getElem? (i := 823) (by decide +kernel), List.mem_of_getElem? (i := 824) (by decide +kernel)⟩
theorem lw_p27 : lw_okq (⟨"BridgeService$Plans", "valueOfGame", "(IZ)I"⟩, 9) := ⟨⟨by decide +kernel, by decide +kernel⟩, List.mem_of_getElem? (i := 214) (by decide +kernel), List.mem_of_getElem? (i := 853) (by decide +kernel), List.mem_of_getElem? (i := 854) (by decide +kernel)⟩
theorem lw_p28 : lw_okq (⟨"BridgeService$Plans", "valueOfAct", "(IIZ)I"⟩, 9) := ⟨⟨by decide +kernel, by decide +kernel⟩, List.mem_of_getElem? (i := 214) (by decide +kernel), List.mem_of_getElem? (i := 857) (by decide +kernel), List.mem_of_getElem? (i := 858) (by decide +kernel)⟩
theorem lw_p29 : lw_okq (⟨"BridgeService$Table", "wrongBy", "(III)I"⟩, 17) := ⟨⟨by decide +kernel, by decide +kernel⟩, List.mem_of_getElem? (i := 28) (by decide +kernel), List.mem_of_getElem? (i := 890) (by decide +kernel), List.mem_of_getElem? (i := 891) (by decide +kernel)⟩
theorem lw_p30 : lw_okq (⟨"BridgeService$Rows", "isRight", "(I)Z"⟩, 3) := ⟨⟨by decide +kernel, by decide +kernel⟩, List.mem_of_getElem? (i := 254) (by decide +kernel), List.mem_of_getElem? (i := 976) (by decide +kernel), List.mem_of_getElem? (i := 977) (by decide +kernel)⟩
theorem lw_p31 : lw_okq (⟨"BridgeService$Sheet", "narrowed", "(I)J"⟩, 3) := ⟨⟨by decide +kernel, by decide +kernel⟩, List.mem_of_getElem? (i := 302) (by decide +kernel), List.mem_of_getElem? (i := 1006) (by decide +kernel), List.mem_of_getElem? (i := 1007) (by decide +kernel)⟩
def lw_privs_2 : List (MethodName × Nat) := [(⟨"BridgeService$Reader", "takeClose", "()Z"⟩, 14), (⟨"BridgeService$Reader", "appendJoints", "(I)V"⟩, 14), (⟨"BridgeService$Reader", "takeSemicolon", "(I)Z"⟩, 14), (⟨"BridgeService$Table", "leastWilling", "()I"⟩, 17), (⟨"BridgeService$Table", "sitDown", "(I)I"⟩, 17), (⟨"BridgeService$Table", "getUp", "(I)V"⟩, 17), (⟨"BridgeService$Table", "placesSpanned", "(I)J"⟩, 17), (⟨"BridgeService$Table", "closeTo", "(I)I"⟩, 17), (⟨"BridgeService$Table", "areClose", "(II)Z"⟩, 17), (⟨"BridgeService$Plans", "tryFrom", "(III)V"⟩, 9), (⟨"BridgeService$Plans", "weigh", "(II)V"⟩, 9), (⟨"BridgeService$Plans", "valueOfGame", "(IZ)I"⟩, 9), (⟨"BridgeService$Plans", "valueOfAct", "(IIZ)I"⟩, 9), (⟨"BridgeService$Table", "wrongBy", "(III)I"⟩, 17), (⟨"BridgeService$Rows", "isRight", "(I)Z"⟩, 3), (⟨"BridgeService$Sheet", "narrowed", "(I)J"⟩, 3)]
theorem lw_r2 : ∀ q ∈ lw_privs_2, lw_okq q := List.forall_mem_cons.mpr ⟨lw_p16, List.forall_mem_cons.mpr ⟨lw_p17, List.forall_mem_cons.mpr ⟨lw_p18, List.forall_mem_cons.mpr ⟨lw_p19, List.forall_mem_cons.mpr ⟨lw_p20, List.forall_mem_cons.mpr ⟨lw_p21, List.forall_mem_cons.mpr ⟨lw_p22, List.forall_mem_cons.mpr ⟨lw_p23, List.forall_mem_cons.mpr ⟨lw_p24, List.forall_mem_cons.mpr ⟨lw_p25, List.forall_mem_cons.mpr ⟨lw_p26, List.forall_mem_cons.mpr ⟨lw_p27, List.forall_mem_cons.mpr ⟨lw_p28, List.forall_mem_cons.mpr ⟨lw_p29, List.forall_mem_cons.mpr ⟨lw_p30, List.forall_mem_cons.mpr ⟨lw_p31, fun _ h => absurd h List.not_mem_nil⟩⟩⟩⟩⟩⟩⟩⟩⟩⟩⟩⟩⟩⟩⟩⟩
theorem lw_p32 : lw_okq (⟨"BridgeService", "worthOfItems", "(LBridgeService$Sheet;II)I"⟩, 9) := ⟨⟨by decide +kernel, by decide +kernel⟩, List.mem_of_getElem? (i := 20) (by decide +kernel), List.mem_of_getElem? (i := 1028) (by decide +kernel), List.mem_of_getElem? (i := 1029) (by decide +kernel)⟩
theorem lw_p33 : lw_okq (⟨"BridgeService", "heldOn", "(LBridgeService$Shelf;)I"⟩, 9) := ⟨⟨by decide +kernel, by decide +kernel⟩, List.mem_of_getElem? (i := 20) (by decide +kernel), List.mem_of_getElem? (i := 1050) (by decide +kernel), List.mem_of_getElem? (i := 1051) (by decide +kernel)⟩
theorem lw_p34 : lw_okq (⟨"BridgeService$Acting", "lays", "(I)I"⟩, 6) := ⟨⟨by decide +kernel, by decide +kernel⟩, List.mem_of_getElem? (i := 276) (by decide +kernel), List.mem_of_getElem? (i := 1067) (by decide +kernel), List.mem_of_getElem? (i := 1068) (by decide +kernel)⟩
theorem lw_p35 : lw_okq (⟨"BridgeService$Acting", "note", "(I)V"⟩, 6) := ⟨⟨by decide +kernel, by decide +kernel⟩, List.mem_of_getElem? (i := 276) (by decide +kernel), List.mem_of_getElem? (i := 1071) (by decide +kernel), List.mem_of_getElem? (i := 1072) (by decide +kernel)⟩
theorem lw_p36 : lw_okq (⟨"BridgeService$Acting", "tilts", "(I)I"⟩, 6) := ⟨⟨by decide +kernel, by decide +kernel⟩, List.mem_of_getElem? (i := 276) (by decide +kernel), List.mem_of_getElem? (i := 1075) (by decide +kernel), List.mem_of_getElem? (i := 1076) (by decide +kernel)⟩
theorem lw_p37 : lw_okq (⟨"BridgeService$Acting", "breaks", "(I)I"⟩, 6) := ⟨⟨by decide +kernel, by decide +kernel⟩, List.mem_of_getElem? (i := 276) (by decide +kernel), List.mem_of_getElem? (i := 1080) (by decide +kernel), List.mem_of_getElem? (i := 1081) (by decide +kernel)⟩
theorem lw_p38 : lw_okq (⟨"BridgeService$Acting", "shines", "(I)I"⟩, 6) := ⟨⟨by decide +kernel, by decide +kernel⟩, List.mem_of_getElem? (i := 276) (by decide +kernel), List.mem_of_getElem? (i := 1084) (by decide +kernel), List.mem_of_getElem? (i := 1085) (by decide +kernel)⟩
theorem lw_p39 : lw_okq (⟨"BridgeServiceModel", "next", "()V"⟩, 39) := ⟨⟨by decide +kernel, by decide +kernel⟩, List.mem_of_getElem? (i := 1116) (by decide +kernel), List.mem_of_getElem? (i := 1253) (by decide +kernel), List.mem_of_getElem? (i := 1254) (by decide +kernel)⟩
theorem lw_p40 : lw_okq (⟨"BridgeServiceModel", "byteAt", "(I)I"⟩, 39) := ⟨⟨by decide +kernel, by decide +kernel⟩, List.mem_of_getElem? (i := 1116) (by decide +kernel), List.mem_of_getElem? (i := 1257) (by decide +kernel), List.mem_of_getElem? (i := 1258) (by decide +kernel)⟩
theorem lw_p41 : lw_okq (⟨"BridgeServiceModel", "readsName", "()V"⟩, 39) := ⟨⟨by decide +kernel, by decide +kernel⟩, List.mem_of_getElem? (i := 1116) (by decide +kernel), List.mem_of_getElem? (i := 1261) (by decide +kernel), List.mem_of_getElem? (i := 1262) (by decide +kernel)⟩
theorem lw_p42 : lw_okq (⟨"BridgeServiceModel", "isNameOf", "(I)Z"⟩, 39) := ⟨⟨by decide +kernel, by decide +kernel⟩, List.mem_of_getElem? (i := 1116) (by decide +kernel), List.mem_of_getElem? (i := 1265) (by decide +kernel), List.mem_of_getElem? (i := 1266) (by decide +kernel)⟩
theorem lw_p43 : lw_okq (⟨"BridgeServiceModel", "readsNumber", "()V"⟩, 39) := ⟨⟨by decide +kernel, by decide +kernel⟩, List.mem_of_getElem? (i := 1116) (by decide +kernel), List.mem_of_getElem? (i := 1269) (by decide +kernel), List.mem_of_getElem? (i := 1270) (by decide +kernel)⟩
theorem lw_p44 : lw_okq (⟨"BridgeServiceModel", "readsRule", "(I)Z"⟩, 39) := ⟨⟨by decide +kernel, by decide +kernel⟩, List.mem_of_getElem? (i := 1116) (by decide +kernel), List.mem_of_getElem? (i := 1273) (by decide +kernel), List.mem_of_getElem? (i := 1274) (by decide +kernel)⟩
theorem lw_p45 : lw_okq (⟨"BridgeServiceModel", "takes", "(I)Z"⟩, 39) := ⟨⟨by decide +kernel, by decide +kernel⟩, List.mem_of_getElem? (i := 1116) (by decide +kernel), List.mem_of_getElem? (i := 1277) (by decide +kernel), List.mem_of_getElem? (i := 1278) (by decide +kernel)⟩
theorem lw_p46 : lw_okq (⟨"BridgeServiceModel", "readsCondition", "()Z"⟩, 39) := ⟨⟨by decide +kernel, by decide +kernel⟩, List.mem_of_getElem? (i := 1116) (by decide +kernel), List.mem_of_getElem? (i := 1281) (by decide +kernel), List.mem_of_getElem? (i := 1282) (by decide +kernel)⟩
theorem lw_p47 : lw_okq (⟨"BridgeServiceModel", "readsAll", "()Z"⟩, 39) := ⟨⟨by decide +kernel, by decide +kernel⟩, List.mem_of_getElem? (i := 1116) (by decide +kernel), List.mem_of_getElem? (i := 1285) (by decide +kernel), List.mem_of_getElem? (i := 1286) (by decide +kernel)⟩
def lw_privs_3 : List (MethodName × Nat) := [(⟨"BridgeService", "worthOfItems", "(LBridgeService$Sheet;II)I"⟩, 9), (⟨"BridgeService", "heldOn", "(LBridgeService$Shelf;)I"⟩, 9), (⟨"BridgeService$Acting", "lays", "(I)I"⟩, 6), (⟨"BridgeService$Acting", "note", "(I)V"⟩, 6), (⟨"BridgeService$Acting", "tilts", "(I)I"⟩, 6), (⟨"BridgeService$Acting", "breaks", "(I)I"⟩, 6), (⟨"BridgeService$Acting", "shines", "(I)I"⟩, 6), (⟨"BridgeServiceModel", "next", "()V"⟩, 39), (⟨"BridgeServiceModel", "byteAt", "(I)I"⟩, 39), (⟨"BridgeServiceModel", "readsName", "()V"⟩, 39), (⟨"BridgeServiceModel", "isNameOf", "(I)Z"⟩, 39), (⟨"BridgeServiceModel", "readsNumber", "()V"⟩, 39), (⟨"BridgeServiceModel", "readsRule", "(I)Z"⟩, 39), (⟨"BridgeServiceModel", "takes", "(I)Z"⟩, 39), (⟨"BridgeServiceModel", "readsCondition", "()Z"⟩, 39), (⟨"BridgeServiceModel", "readsAll", "()Z"⟩, 39)]
theorem lw_r3 : ∀ q ∈ lw_privs_3, lw_okq q := List.forall_mem_cons.mpr ⟨lw_p32, List.forall_mem_cons.mpr ⟨lw_p33, List.forall_mem_cons.mpr ⟨lw_p34, List.forall_mem_cons.mpr ⟨lw_p35, List.forall_mem_cons.mpr ⟨lw_p36, List.forall_mem_cons.mpr ⟨lw_p37, List.forall_mem_cons.mpr ⟨lw_p38, List.forall_mem_cons.mpr ⟨lw_p39, List.forall_mem_cons.mpr ⟨lw_p40, List.forall_mem_cons.mpr ⟨lw_p41, List.forall_mem_cons.mpr ⟨lw_p42, List.forall_mem_cons.mpr ⟨lw_p43, List.forall_mem_cons.mpr ⟨lw_p44, List.forall_mem_cons.mpr ⟨lw_p45, List.forall_mem_cons.mpr ⟨lw_p46, List.forall_mem_cons.mpr ⟨lw_p47, fun _ h => absurd h List.not_mem_nil⟩⟩⟩⟩⟩⟩⟩⟩⟩⟩⟩⟩⟩⟩⟩⟩
theorem lw_p48 : lw_okq (⟨"BridgeServiceModel", "readsOne", "()Z"⟩, 39) := ⟨⟨by decide +kernel, by decide +kernel⟩, List.mem_of_getElem? (i := 1116) (by decide +kernel), List.mem_of_getElem? (i := 1289) (by decide +kernel), List.mem_of_getElem? (i := 1290) (by decide +kernel)⟩
theorem lw_p49 : lw_okq (⟨"BridgeServiceModel", "readsWithin", "()Z"⟩, 39) := ⟨⟨by decide +kernel, by decide +kernel⟩, List.mem_of_getElem? (i := 1116) (by decide +kernel), List.mem_of_getElem? (i := 1293) (by decide +kernel), List.mem_of_getElem? (i := 1294) (by decide +kernel)⟩
theorem lw_p50 : lw_okq (⟨"BridgeServiceModel", "readsLike", "()Z"⟩, 39) := ⟨⟨by decide +kernel, by decide +kernel⟩, List.mem_of_getElem? (i := 1116) (by decide +kernel), List.mem_of_getElem? (i := 1297) (by decide +kernel), List.mem_of_getElem? (i := 1298) (by decide +kernel)⟩
theorem lw_p51 : lw_okq (⟨"BridgeServiceModel", "readsValue", "()Z"⟩, 39) := ⟨⟨by decide +kernel, by decide +kernel⟩, List.mem_of_getElem? (i := 1116) (by decide +kernel), List.mem_of_getElem? (i := 1301) (by decide +kernel), List.mem_of_getElem? (i := 1302) (by decide +kernel)⟩
theorem lw_p52 : lw_okq (⟨"BridgeServiceModel", "lays", "(I)V"⟩, 39) := ⟨⟨by decide +kernel, by decide +kernel⟩, List.mem_of_getElem? (i := 1116) (by decide +kernel), List.mem_of_getElem? (i := 1305) (by decide +kernel), List.mem_of_getElem? (i := 1306) (by decide +kernel)⟩
theorem lw_p53 : lw_okq (⟨"BridgeServiceModel", "puts", "(III)V"⟩, 39) := ⟨⟨by decide +kernel, by decide +kernel⟩, List.mem_of_getElem? (i := 1116) (by decide +kernel), List.mem_of_getElem? (i := 1322) (by decide +kernel), List.mem_of_getElem? (i := 1323) (by decide +kernel)⟩
theorem lw_p54 : lw_okq (⟨"BridgeServiceModel", "isPiece", "(I)Z"⟩, 39) := ⟨⟨by decide +kernel, by decide +kernel⟩, List.mem_of_getElem? (i := 1116) (by decide +kernel), List.mem_of_getElem? (i := 1330) (by decide +kernel), List.mem_of_getElem? (i := 1331) (by decide +kernel)⟩
theorem lw_p55 : lw_okq (⟨"BridgeServiceModel", "spansOf", "(I)I"⟩, 39) := ⟨⟨by decide +kernel, by decide +kernel⟩, List.mem_of_getElem? (i := 1116) (by decide +kernel), List.mem_of_getElem? (i := 1334) (by decide +kernel), List.mem_of_getElem? (i := 1335) (by decide +kernel)⟩
theorem lw_p56 : lw_okq (⟨"BridgeServiceModel", "get", "(II)I"⟩, 39) := ⟨⟨by decide +kernel, by decide +kernel⟩, List.mem_of_getElem? (i := 1116) (by decide +kernel), List.mem_of_getElem? (i := 1338) (by decide +kernel), List.mem_of_getElem? (i := 1339) (by decide +kernel)⟩
theorem lw_p57 : lw_okq (⟨"BridgeServiceModel", "grudgeOf", "(I)I"⟩, 39) := ⟨⟨by decide +kernel, by decide +kernel⟩, List.mem_of_getElem? (i := 1116) (by decide +kernel), List.mem_of_getElem? (i := 1345) (by decide +kernel), List.mem_of_getElem? (i := 1346) (by decide +kernel)⟩
theorem lw_p58 : lw_okq (⟨"BridgeServiceModel", "wouldSit", "(I)Z"⟩, 39) := ⟨⟨by decide +kernel, by decide +kernel⟩, List.mem_of_getElem? (i := 1116) (by decide +kernel), List.mem_of_getElem? (i := 1349) (by decide +kernel), List.mem_of_getElem? (i := 1350) (by decide +kernel)⟩
theorem lw_p59 : lw_okq (⟨"BridgeServiceModel", "willOf", "(I)I"⟩, 39) := ⟨⟨by decide +kernel, by decide +kernel⟩, List.mem_of_getElem? (i := 1116) (by decide +kernel), List.mem_of_getElem? (i := 1353) (by decide +kernel), List.mem_of_getElem? (i := 1354) (by decide +kernel)⟩
theorem lw_p60 : lw_okq (⟨"BridgeServiceModel", "ruleOf", "(II)I"⟩, 39) := ⟨⟨by decide +kernel, by decide +kernel⟩, List.mem_of_getElem? (i := 1116) (by decide +kernel), List.mem_of_getElem? (i := 1357) (by decide +kernel), List.mem_of_getElem? (i := 1358) (by decide +kernel)⟩
theorem lw_p61 : lw_okq (⟨"BridgeServiceModel", "holdsFor", "(II)Z"⟩, 39) := ⟨⟨by decide +kernel, by decide +kernel⟩, List.mem_of_getElem? (i := 1116) (by decide +kernel), List.mem_of_getElem? (i := 1367) (by decide +kernel), List.mem_of_getElem? (i := 1368) (by decide +kernel)⟩
theorem lw_p62 : lw_okq (⟨"BridgeServiceModel", "knownOf", "(II)I"⟩, 39) := ⟨⟨by decide +kernel, by decide +kernel⟩, List.mem_of_getElem? (i := 1116) (by decide +kernel), List.mem_of_getElem? (i := 1371) (by decide +kernel), List.mem_of_getElem? (i := 1372) (by decide +kernel)⟩
theorem lw_p63 : lw_okq (⟨"BridgeServiceModel", "becomes", "(II)I"⟩, 39) := ⟨⟨by decide +kernel, by decide +kernel⟩, List.mem_of_getElem? (i := 1116) (by decide +kernel), List.mem_of_getElem? (i := 1382) (by decide +kernel), List.mem_of_getElem? (i := 1383) (by decide +kernel)⟩
def lw_privs_4 : List (MethodName × Nat) := [(⟨"BridgeServiceModel", "readsOne", "()Z"⟩, 39), (⟨"BridgeServiceModel", "readsWithin", "()Z"⟩, 39), (⟨"BridgeServiceModel", "readsLike", "()Z"⟩, 39), (⟨"BridgeServiceModel", "readsValue", "()Z"⟩, 39), (⟨"BridgeServiceModel", "lays", "(I)V"⟩, 39), (⟨"BridgeServiceModel", "puts", "(III)V"⟩, 39), (⟨"BridgeServiceModel", "isPiece", "(I)Z"⟩, 39), (⟨"BridgeServiceModel", "spansOf", "(I)I"⟩, 39), (⟨"BridgeServiceModel", "get", "(II)I"⟩, 39), (⟨"BridgeServiceModel", "grudgeOf", "(I)I"⟩, 39), (⟨"BridgeServiceModel", "wouldSit", "(I)Z"⟩, 39), (⟨"BridgeServiceModel", "willOf", "(I)I"⟩, 39), (⟨"BridgeServiceModel", "ruleOf", "(II)I"⟩, 39), (⟨"BridgeServiceModel", "holdsFor", "(II)Z"⟩, 39), (⟨"BridgeServiceModel", "knownOf", "(II)I"⟩, 39), (⟨"BridgeServiceModel", "becomes", "(II)I"⟩, 39)]
theorem lw_r4 : ∀ q ∈ lw_privs_4, lw_okq q := List.forall_mem_cons.mpr ⟨lw_p48, List.forall_mem_cons.mpr ⟨lw_p49, List.forall_mem_cons.mpr ⟨lw_p50, List.forall_mem_cons.mpr ⟨lw_p51, List.forall_mem_cons.mpr ⟨lw_p52, List.forall_mem_cons.mpr ⟨lw_p53, List.forall_mem_cons.mpr ⟨lw_p54, List.forall_mem_cons.mpr ⟨lw_p55, List.forall_mem_cons.mpr ⟨lw_p56, List.forall_mem_cons.mpr ⟨lw_p57, List.forall_mem_cons.mpr ⟨lw_p58, List.forall_mem_cons.mpr ⟨lw_p59, List.forall_mem_cons.mpr ⟨lw_p60, List.forall_mem_cons.mpr ⟨lw_p61, List.forall_mem_cons.mpr ⟨lw_p62, List.forall_mem_cons.mpr ⟨lw_p63, fun _ h => absurd h List.not_mem_nil⟩⟩⟩⟩⟩⟩⟩⟩⟩⟩⟩⟩⟩⟩⟩⟩
theorem lw_p64 : lw_okq (⟨"BridgeServiceModel", "isOver", "()Z"⟩, 39) := ⟨⟨by decide +kernel, by decide +kernel⟩, List.mem_of_getElem? (i := 1116) (by decide +kernel), List.mem_of_getElem? (i := 1418) (by decide +kernel), List.mem_of_getElem? (i := 1419) (by decide +kernel)⟩
theorem lw_p65 : lw_okq (⟨"BridgeServiceModel", "those", "(I)I"⟩, 39) := ⟨⟨by decide +kernel, by decide +kernel⟩, List.mem_of_getElem? (i := 1116) (by decide +kernel), List.mem_of_getElem? (i := 1422) (by decide +kernel), List.mem_of_getElem? (i := 1423) (by decide +kernel)⟩
theorem lw_p66 : lw_okq (⟨"BridgeServiceModel", "goesBy", "(I)I"⟩, 39) := ⟨⟨by decide +kernel, by decide +kernel⟩, List.mem_of_getElem? (i := 1116) (by decide +kernel), List.mem_of_getElem? (i := 1430) (by decide +kernel), List.mem_of_getElem? (i := 1431) (by decide +kernel)⟩
theorem lw_p67 : lw_okq (⟨"BridgeServiceModel", "restOne", "()I"⟩, 39) := ⟨⟨by decide +kernel, by decide +kernel⟩, List.mem_of_getElem? (i := 1116) (by decide +kernel), List.mem_of_getElem? (i := 1440) (by decide +kernel), List.mem_of_getElem? (i := 1441) (by decide +kernel)⟩
theorem lw_p68 : lw_okq (⟨"BridgeServiceModel", "meets", "(I)I"⟩, 39) := ⟨⟨by decide +kernel, by decide +kernel⟩, List.mem_of_getElem? (i := 1116) (by decide +kernel), List.mem_of_getElem? (i := 1444) (by decide +kernel), List.mem_of_getElem? (i := 1445) (by decide +kernel)⟩
theorem lw_p69 : lw_okq (⟨"BridgeServiceModel", "sits", "(I)I"⟩, 39) := ⟨⟨by decide +kernel, by decide +kernel⟩, List.mem_of_getElem? (i := 1116) (by decide +kernel), List.mem_of_getElem? (i := 1448) (by decide +kernel), List.mem_of_getElem? (i := 1449) (by decide +kernel)⟩
theorem lw_p70 : lw_okq (⟨"BridgeServiceModel", "walksOn", "()I"⟩, 39) := ⟨⟨by decide +kernel, by decide +kernel⟩, List.mem_of_getElem? (i := 1116) (by decide +kernel), List.mem_of_getElem? (i := 1452) (by decide +kernel), List.mem_of_getElem? (i := 1453) (by decide +kernel)⟩
theorem lw_p71 : lw_okq (⟨"BridgeServiceModel", "isThere", "(I)Z"⟩, 39) := ⟨⟨by decide +kernel, by decide +kernel⟩, List.mem_of_getElem? (i := 1116) (by decide +kernel), List.mem_of_getElem? (i := 1456) (by decide +kernel), List.mem_of_getElem? (i := 1457) (by decide +kernel)⟩
theorem lw_p72 : lw_okq (⟨"BridgeServiceModel", "isSpanned", "(II)Z"⟩, 39) := ⟨⟨by decide +kernel, by decide +kernel⟩, List.mem_of_getElem? (i := 1116) (by decide +kernel), List.mem_of_getElem? (i := 1460) (by decide +kernel), List.mem_of_getElem? (i := 1461) (by decide +kernel)⟩
theorem lw_p73 : lw_okq (⟨"BridgeServiceModel", "layDown", "()V"⟩, 39) := ⟨⟨by decide +kernel, by decide +kernel⟩, List.mem_of_getElem? (i := 1116) (by decide +kernel), List.mem_of_getElem? (i := 1468) (by decide +kernel), List.mem_of_getElem? (i := 1469) (by decide +kernel)⟩
theorem lw_p74 : lw_okq (⟨"BridgeServiceModel", "restOf", "(I)I"⟩, 39) := ⟨⟨by decide +kernel, by decide +kernel⟩, List.mem_of_getElem? (i := 1116) (by decide +kernel), List.mem_of_getElem? (i := 1472) (by decide +kernel), List.mem_of_getElem? (i := 1473) (by decide +kernel)⟩
theorem lw_p75 : lw_okq (⟨"BridgeServiceModel", "layBack", "()V"⟩, 39) := ⟨⟨by decide +kernel, by decide +kernel⟩, List.mem_of_getElem? (i := 1116) (by decide +kernel), List.mem_of_getElem? (i := 1476) (by decide +kernel), List.mem_of_getElem? (i := 1477) (by decide +kernel)⟩
theorem lw_p76 : lw_okq (⟨"BridgeServiceModel", "bestFor", "(III)I"⟩, 39) := ⟨⟨by decide +kernel, by decide +kernel⟩, List.mem_of_getElem? (i := 1116) (by decide +kernel), List.mem_of_getElem? (i := 1488) (by decide +kernel), List.mem_of_getElem? (i := 1489) (by decide +kernel)⟩
theorem lw_p77 : lw_okq (⟨"BridgeServiceModel", "branchOf", "(I)I"⟩, 39) := ⟨⟨by decide +kernel, by decide +kernel⟩, List.mem_of_getElem? (i := 1116) (by decide +kernel), List.mem_of_getElem? (i := 1508) (by decide +kernel), List.mem_of_getElem? (i := 1509) (by decide +kernel)⟩
theorem lw_p78 : lw_okq (⟨"BridgeServiceModel", "areClose", "(II)Z"⟩, 39) := ⟨⟨by decide +kernel, by decide +kernel⟩, List.mem_of_getElem? (i := 1116) (by decide +kernel), List.mem_of_getElem? (i := 1512) (by decide +kernel), List.mem_of_getElem? (i := 1513) (by decide +kernel)⟩
theorem lw_p79 : lw_okq (⟨"BridgeServiceModel", "goesRound", "(IIII)V"⟩, 39) := ⟨⟨by decide +kernel, by decide +kernel⟩, List.mem_of_getElem? (i := 1116) (by decide +kernel), List.mem_of_getElem? (i := 1520) (by decide +kernel), List.mem_of_getElem? (i := 1521) (by decide +kernel)⟩
def lw_privs_5 : List (MethodName × Nat) := [(⟨"BridgeServiceModel", "isOver", "()Z"⟩, 39), (⟨"BridgeServiceModel", "those", "(I)I"⟩, 39), (⟨"BridgeServiceModel", "goesBy", "(I)I"⟩, 39), (⟨"BridgeServiceModel", "restOne", "()I"⟩, 39), (⟨"BridgeServiceModel", "meets", "(I)I"⟩, 39), (⟨"BridgeServiceModel", "sits", "(I)I"⟩, 39), (⟨"BridgeServiceModel", "walksOn", "()I"⟩, 39), (⟨"BridgeServiceModel", "isThere", "(I)Z"⟩, 39), (⟨"BridgeServiceModel", "isSpanned", "(II)Z"⟩, 39), (⟨"BridgeServiceModel", "layDown", "()V"⟩, 39), (⟨"BridgeServiceModel", "restOf", "(I)I"⟩, 39), (⟨"BridgeServiceModel", "layBack", "()V"⟩, 39), (⟨"BridgeServiceModel", "bestFor", "(III)I"⟩, 39), (⟨"BridgeServiceModel", "branchOf", "(I)I"⟩, 39), (⟨"BridgeServiceModel", "areClose", "(II)Z"⟩, 39), (⟨"BridgeServiceModel", "goesRound", "(IIII)V"⟩, 39)]
theorem lw_r5 : ∀ q ∈ lw_privs_5, lw_okq q := List.forall_mem_cons.mpr ⟨lw_p64, List.forall_mem_cons.mpr ⟨lw_p65, List.forall_mem_cons.mpr ⟨lw_p66, List.forall_mem_cons.mpr ⟨lw_p67, List.forall_mem_cons.mpr ⟨lw_p68, List.forall_mem_cons.mpr ⟨lw_p69, List.forall_mem_cons.mpr ⟨lw_p70, List.forall_mem_cons.mpr ⟨lw_p71, List.forall_mem_cons.mpr ⟨lw_p72, List.forall_mem_cons.mpr ⟨lw_p73, List.forall_mem_cons.mpr ⟨lw_p74, List.forall_mem_cons.mpr ⟨lw_p75, List.forall_mem_cons.mpr ⟨lw_p76, List.forall_mem_cons.mpr ⟨lw_p77, List.forall_mem_cons.mpr ⟨lw_p78, List.forall_mem_cons.mpr ⟨lw_p79, fun _ h => absurd h List.not_mem_nil⟩⟩⟩⟩⟩⟩⟩⟩⟩⟩⟩⟩⟩⟩⟩⟩
theorem lw_p80 : lw_okq (⟨"BridgeServiceModel", "triesAll", "(II)V"⟩, 39) := ⟨⟨by decide +kernel, by decide +kernel⟩, List.mem_of_getElem? (i := 1116) (by decide +kernel), List.mem_of_getElem? (i := 1531) (by decide +kernel), List.mem_of_getElem? (i := 1532) (by decide +kernel)⟩
theorem lw_p81 : lw_okq (⟨"BridgeServiceModel", "daysOf", "(I)I"⟩, 39) := ⟨⟨by decide +kernel, by decide +kernel⟩, List.mem_of_getElem? (i := 1116) (by decide +kernel), List.mem_of_getElem? (i := 1535) (by decide +kernel), List.mem_of_getElem? (i := 1536) (by decide +kernel)⟩
theorem lw_p82 : lw_okq (⟨"BridgeServiceModel", "goesPlans", "(IIIII)V"⟩, 39) := ⟨⟨by decide +kernel, by decide +kernel⟩, List.mem_of_getElem? (i := 1116) (by decide +kernel), List.mem_of_getElem? (i := 1539) (by decide +kernel), List.mem_of_getElem? (i := 1540) (by decide +kernel)⟩
theorem lw_p83 : lw_okq (⟨"BridgeServiceModel", "endsPlan", "(IIII)V"⟩, 39) := ⟨⟨by decide +kernel, by decide +kernel⟩, List.mem_of_getElem? (i := 1116) (by decide +kernel), List.mem_of_getElem? (i := 1543) (by decide +kernel), List.mem_of_getElem? (i := 1544) (by decide +kernel)⟩
theorem lw_p84 : lw_okq (⟨"BridgeServiceModel", "saves", "(I)V"⟩, 39) := ⟨⟨by decide +kernel, by decide +kernel⟩, List.mem_of_getElem? (i := 1116) (by decide +kernel), List.mem_of_getElem? (i := 1547) (by decide +kernel), List.mem_of_getElem? (i := 1548) (by decide +kernel)⟩
theorem lw_p85 : lw_okq (⟨"BridgeServiceModel", "restores", "(I)V"⟩, 39) := ⟨⟨by decide +kernel, by decide +kernel⟩, List.mem_of_getElem? (i := 1116) (by decide +kernel), List.mem_of_getElem? (i := 1551) (by decide +kernel), List.mem_of_getElem? (i := 1552) (by decide +kernel)⟩
theorem lw_p86 : lw_okq (⟨"BridgeServiceModel", "isSet", "(I)Z"⟩, 39) := ⟨⟨by decide +kernel, by decide +kernel⟩, List.mem_of_getElem? (i := 1116) (by decide +kernel), List.mem_of_getElem? (i := 1567) (by decide +kernel), List.mem_of_getElem? (i := 1568) (by decide +kernel)⟩
theorem lw_p87 : lw_okq (⟨"BridgeServiceModel", "playedFrom", "(II)I"⟩, 39) := ⟨⟨by decide +kernel, by decide +kernel⟩, List.mem_of_getElem? (i := 1116) (by decide +kernel), List.mem_of_getElem? (i := 1579) (by decide +kernel), List.mem_of_getElem? (i := 1580) (by decide +kernel)⟩
theorem lw_p88 : lw_okq (⟨"BridgeServiceModel", "fitting", "(I)I"⟩, 39) := ⟨⟨by decide +kernel, by decide +kernel⟩, List.mem_of_getElem? (i := 1116) (by decide +kernel), List.mem_of_getElem? (i := 1599) (by decide +kernel), List.mem_of_getElem? (i := 1600) (by decide +kernel)⟩
theorem lw_p89 : lw_okq (⟨"BridgeServiceModel", "tellsStranger", "(III)V"⟩, 39) := ⟨⟨by decide +kernel, by decide +kernel⟩, List.mem_of_getElem? (i := 1116) (by decide +kernel), List.mem_of_getElem? (i := 1603) (by decide +kernel), List.mem_of_getElem? (i := 1604) (by decide +kernel)⟩
theorem lw_p90 : lw_okq (⟨"BridgeServiceModel", "isSo", "(I)Z"⟩, 39) := ⟨⟨by decide +kernel, by decide +kernel⟩, List.mem_of_getElem? (i := 1116) (by decide +kernel), List.mem_of_getElem? (i := 1607) (by decide +kernel), List.mem_of_getElem? (i := 1608) (by decide +kernel)⟩
theorem lw_p91 : lw_okq (⟨"BridgeServiceModel", "byLot", "()I"⟩, 39) := ⟨⟨by decide +kernel, by decide +kernel⟩, List.mem_of_getElem? (i := 1116) (by decide +kernel), List.mem_of_getElem? (i := 1623) (by decide +kernel), List.mem_of_getElem? (i := 1624) (by decide +kernel)⟩
theorem lw_p92 : lw_okq (⟨"BridgeServiceModel", "isRow", "(II)Z"⟩, 39) := ⟨⟨by decide +kernel, by decide +kernel⟩, List.mem_of_getElem? (i := 1116) (by decide +kernel), List.mem_of_getElem? (i := 1640) (by decide +kernel), List.mem_of_getElem? (i := 1641) (by decide +kernel)⟩
theorem lw_p93 : lw_okq (⟨"BridgeServiceModel", "isAct", "(I)Z"⟩, 39) := ⟨⟨by decide +kernel, by decide +kernel⟩, List.mem_of_getElem? (i := 1116) (by decide +kernel), List.mem_of_getElem? (i := 1652) (by decide +kernel), List.mem_of_getElem? (i := 1653) (by decide +kernel)⟩
theorem lw_p94 : lw_okq (⟨"BridgeServiceModel", "lacks", "(II)I"⟩, 39) := ⟨⟨by decide +kernel, by decide +kernel⟩, List.mem_of_getElem? (i := 1116) (by decide +kernel), List.mem_of_getElem? (i := 1674) (by decide +kernel), List.mem_of_getElem? (i := 1675) (by decide +kernel)⟩
theorem lw_p95 : lw_okq (⟨"BridgeServiceModel", "isItem", "(III)Z"⟩, 39) := ⟨⟨by decide +kernel, by decide +kernel⟩, List.mem_of_getElem? (i := 1116) (by decide +kernel), List.mem_of_getElem? (i := 1682) (by decide +kernel), List.mem_of_getElem? (i := 1683) (by decide +kernel)⟩
def lw_privs_6 : List (MethodName × Nat) := [(⟨"BridgeServiceModel", "triesAll", "(II)V"⟩, 39), (⟨"BridgeServiceModel", "daysOf", "(I)I"⟩, 39), (⟨"BridgeServiceModel", "goesPlans", "(IIIII)V"⟩, 39), (⟨"BridgeServiceModel", "endsPlan", "(IIII)V"⟩, 39), (⟨"BridgeServiceModel", "saves", "(I)V"⟩, 39), (⟨"BridgeServiceModel", "restores", "(I)V"⟩, 39), (⟨"BridgeServiceModel", "isSet", "(I)Z"⟩, 39), (⟨"BridgeServiceModel", "playedFrom", "(II)I"⟩, 39), (⟨"BridgeServiceModel", "fitting", "(I)I"⟩, 39), (⟨"BridgeServiceModel", "tellsStranger", "(III)V"⟩, 39), (⟨"BridgeServiceModel", "isSo", "(I)Z"⟩, 39), (⟨"BridgeServiceModel", "byLot", "()I"⟩, 39), (⟨"BridgeServiceModel", "isRow", "(II)Z"⟩, 39), (⟨"BridgeServiceModel", "isAct", "(I)Z"⟩, 39), (⟨"BridgeServiceModel", "lacks", "(II)I"⟩, 39), (⟨"BridgeServiceModel", "isItem", "(III)Z"⟩, 39)]
theorem lw_r6 : ∀ q ∈ lw_privs_6, lw_okq q := List.forall_mem_cons.mpr ⟨lw_p80, List.forall_mem_cons.mpr ⟨lw_p81, List.forall_mem_cons.mpr ⟨lw_p82, List.forall_mem_cons.mpr ⟨lw_p83, List.forall_mem_cons.mpr ⟨lw_p84, List.forall_mem_cons.mpr ⟨lw_p85, List.forall_mem_cons.mpr ⟨lw_p86, List.forall_mem_cons.mpr ⟨lw_p87, List.forall_mem_cons.mpr ⟨lw_p88, List.forall_mem_cons.mpr ⟨lw_p89, List.forall_mem_cons.mpr ⟨lw_p90, List.forall_mem_cons.mpr ⟨lw_p91, List.forall_mem_cons.mpr ⟨lw_p92, List.forall_mem_cons.mpr ⟨lw_p93, List.forall_mem_cons.mpr ⟨lw_p94, List.forall_mem_cons.mpr ⟨lw_p95, fun _ h => absurd h List.not_mem_nil⟩⟩⟩⟩⟩⟩⟩⟩⟩⟩⟩⟩⟩⟩⟩⟩
theorem lw_p96 : lw_okq (⟨"BridgeServiceModel", "heldOn", "(I)I"⟩, 39) := ⟨⟨by decide +kernel, by decide +kernel⟩, List.mem_of_getElem? (i := 1116) (by decide +kernel), List.mem_of_getElem? (i := 1698) (by decide +kernel), List.mem_of_getElem? (i := 1699) (by decide +kernel)⟩
theorem lw_p97 : lw_okq (⟨"BridgeServiceModel", "laysAs", "(II)I"⟩, 39) := ⟨⟨by decide +kernel, by decide +kernel⟩, List.mem_of_getElem? (i := 1116) (by decide +kernel), List.mem_of_getElem? (i := 1706) (by decide +kernel), List.mem_of_getElem? (i := 1707) (by decide +kernel)⟩
theorem lw_p98 : lw_okq (⟨"BridgeServiceModel", "starts", "(I)V"⟩, 39) := ⟨⟨by decide +kernel, by decide +kernel⟩, List.mem_of_getElem? (i := 1116) (by decide +kernel), List.mem_of_getElem? (i := 1710) (by decide +kernel), List.mem_of_getElem? (i := 1711) (by decide +kernel)⟩
theorem lw_p99 : lw_okq (⟨"BridgeServiceModel", "tiltsAs", "(II)I"⟩, 39) := ⟨⟨by decide +kernel, by decide +kernel⟩, List.mem_of_getElem? (i := 1116) (by decide +kernel), List.mem_of_getElem? (i := 1714) (by decide +kernel), List.mem_of_getElem? (i := 1715) (by decide +kernel)⟩
theorem lw_p100 : lw_okq (⟨"BridgeServiceModel", "breaksAs", "(II)I"⟩, 39) := ⟨⟨by decide +kernel, by decide +kernel⟩, List.mem_of_getElem? (i := 1116) (by decide +kernel), List.mem_of_getElem? (i := 1718) (by decide +kernel), List.mem_of_getElem? (i := 1719) (by decide +kernel)⟩
theorem lw_p101 : lw_okq (⟨"BridgeServiceModel", "shinesAs", "(II)I"⟩, 39) := ⟨⟨by decide +kernel, by decide +kernel⟩, List.mem_of_getElem? (i := 1116) (by decide +kernel), List.mem_of_getElem? (i := 1722) (by decide +kernel), List.mem_of_getElem? (i := 1723) (by decide +kernel)⟩
def lw_privs_7 : List (MethodName × Nat) := [(⟨"BridgeServiceModel", "heldOn", "(I)I"⟩, 39), (⟨"BridgeServiceModel", "laysAs", "(II)I"⟩, 39), (⟨"BridgeServiceModel", "starts", "(I)V"⟩, 39), (⟨"BridgeServiceModel", "tiltsAs", "(II)I"⟩, 39), (⟨"BridgeServiceModel", "breaksAs", "(II)I"⟩, 39), (⟨"BridgeServiceModel", "shinesAs", "(II)I"⟩, 39)]
theorem lw_r7 : ∀ q ∈ lw_privs_7, lw_okq q := List.forall_mem_cons.mpr ⟨lw_p96, List.forall_mem_cons.mpr ⟨lw_p97, List.forall_mem_cons.mpr ⟨lw_p98, List.forall_mem_cons.mpr ⟨lw_p99, List.forall_mem_cons.mpr ⟨lw_p100, List.forall_mem_cons.mpr ⟨lw_p101, fun _ h => absurd h List.not_mem_nil⟩⟩⟩⟩⟩⟩
def lw_privs : List (MethodName × Nat) := lw_privs_1 ++ (lw_privs_2 ++ (lw_privs_3 ++ (lw_privs_4 ++ (lw_privs_5 ++ (lw_privs_6 ++ (lw_privs_7))))))
def lw_tbl : List Cond := k2_sels lw_privs ++ tables_1
theorem lw_privs_ok : ∀ q ∈ lw_privs, lw_okq q := by
  show ∀ q ∈ lw_privs_1 ++ (lw_privs_2 ++ (lw_privs_3 ++ (lw_privs_4 ++ (lw_privs_5 ++ (lw_privs_6 ++ (lw_privs_7)))))), lw_okq q
  exact List.forall_mem_append.mpr ⟨lw_r1, List.forall_mem_append.mpr ⟨lw_r2, List.forall_mem_append.mpr ⟨lw_r3, List.forall_mem_append.mpr ⟨lw_r4, List.forall_mem_append.mpr ⟨lw_r5, List.forall_mem_append.mpr ⟨lw_r6, lw_r7⟩⟩⟩⟩⟩⟩
-- ===== end of PART A; then your names; then what follows =====
end
section
/-- fields of type boolean, by number of the class * 64 + place -/
def e_bools : List Nat := [2, 578, 643, 678]
/-- how many fields the classes have -/
def e_nf (c : Nat) : Nat := ([6, 7, 9, 14, 5, 3, 3, 4, 17, 9, 39] : List Nat).getD c 0
/-- the bytes of the text of names -/
def e_nms : List Int32 := [112, 108, 97, 116, 101, 44, 100, 105, 115, 104, 44, 116, 117, 114, 101, 101, 110, 44, 98, 111, 97, 116, 44, 115, 97, 117, 99, 101, 114, 44, 99, 114, 97, 99, 107, 101, 100, 44, 115, 105, 116, 44, 115, 116, 97, 110, 100, 44, 108, 101, 97, 118, 101, 44, 105, 102, 44, 97, 110, 100, 44, 111, 114, 44, 110, 111, 116, 44, 121, 101, 97, 114, 44, 119, 105, 100, 116, 104, 44, 103, 114, 117, 100, 103, 101, 44, 109, 111, 111, 100, 44, 110, 117, 109, 98, 101, 114, 44]
end
section
/-! AN EVALUATOR of resolved code, over an abstract memory: kinds and sizes of the cells by their number; ints, longs and references (0: null, n + 1: cell n) by cell and place -/
abbrev e_M : Type := List (Nat × Nat) × (Nat → Nat → Int32) × (Nat → Nat → Int64) × (Nat → Nat → Nat)
/-- the script: how many, which -/
abbrev e_X : Type := Nat × (Nat → Int32)
abbrev e_R : Type := Option (List Value × e_M)
abbrev e_T : Type := Option (List Value × List Value × e_M)
def e_rf : Nat → Value
  | 0 => .null
  | n + 1 => .ref n
def e_up {α : Type} (f : Nat → Nat → α) (o k : Nat) (v : α) : Nat → Nat → α := fun a b => if a = o ∧ b = k then v else f a b
def e_in (i : Int32) (n : Nat) : Bool := !(decide (i < 0) || decide (n ≤ i.toNatClampNeg))
theorem e_in_iff {i : Int32} {n : Nat} : e_in i n = true ↔ vp_in i n := by
  simp [e_in, vp_in]
def e_abv (i : Nat) : Int32 := ([-1, 0, 0, 2, 0, 4] : List Int32).getD i 0
/-- kinds of arrays behind those of classes -/
def e_kI : Nat := 100
def e_kC : Nat := 101
def e_kJ : Nat := 102
def e_kO : Nat := 200
def e_c (c : Jvm.ClassFile.Cond) (x y : Int32) : Bool := match c with
  | .eq => decide (x = y)
  | .ne => decide (¬ x = y)
  | .lt => decide (x < y)
  | .ge => decide (y ≤ x)
  | .gt => decide (y < x)
  | .le => decide (x ≤ y)
def e_sw (J : Nat → e_R) (d : Int) (ps : List (Int × Int)) (x : Int32) : e_R := match ps with
  | [] => J d.toNat
  | (a, t) :: r => if x.toInt = a then J t.toNat else e_sw J d r x
def e_ii (f : Int32 → Int32 → Int32) (ls st : List Value) (m : e_M) : e_T := match st with
  | .int y :: .int x :: r => some (ls, .int (f x y) :: r, m)
  | _ => none
def e_i1 (f : Int32 → Int32) (ls st : List Value) (m : e_M) : e_T := match st with
  | .int x :: r => some (ls, .int (f x) :: r, m)
  | _ => none
def e_id (f : Int32 → Int32 → Int32) (ls st : List Value) (m : e_M) : e_T := match st with
  | .int y :: .int x :: r => if y = 0 then none else some (ls, .int (f x y) :: r, m)
  | _ => none
def e_jj (f : Int64 → Int64 → Int64) (ls st : List Value) (m : e_M) : e_T := match st with
  | .long y :: .long x :: r => some (ls, .long (f x y) :: r, m)
  | _ => none
def e_ji (f : Int64 → Int32 → Int64) (ls st : List Value) (m : e_M) : e_T := match st with
  | .int y :: .long x :: r => some (ls, .long (f x y) :: r, m)
  | _ => none
def e_st1 (i : Nat) (ls : List Value) (v : Value) : Option (List Value) :=
  if i < ls.length then (match i with
    | 0 => some (ls.set i v)
    | j + 1 => match ls[j]? with
      | some (.long _) => none
      | _ => some (ls.set (j + 1) v)) else none
def e_st2 (i : Nat) (ls : List Value) (v : Value) : Option (List Value) :=
  if i + 1 < ls.length then (match i with
    | 0 => some ((ls.set 0 v).set 1 (.retAddr 0))
    | j + 1 => match ls[j]? with
      | some (.long _) => none
      | _ => some ((ls.set (j + 1) v).set (j + 2) (.retAddr 0))) else none
/-- an object o of class n / 64, its place n % 64 -/
def e_ob (K : List (Nat × Nat)) (o n : Nat) : Bool := match K[o]? with
  | some (c, z) => decide (c = n / 64) && decide (n % 64 < z)
  | none => false
/-- an array o of a kind: how long -/
def e_ar (K : List (Nat × Nat)) (o k : Nat) : Nat := match K[o]? with
  | some (c, z) => if c = k then z else 0
  | none => 0
/-- fields of type boolean, by class * 64 + place: what they hold is 0 or 1 -/
def e_bool (n : Nat) : Bool := decide (n ∈ e_bools)
def e_st (X : e_X) (i : Instr) (ls st : List Value) (m : e_M) : e_T := match i with
  | .sipush v => some (ls, .int (Int32.ofInt v) :: st, m)
  | .goto_w v => some (ls, .long (Int64.ofInt v) :: st, m)
  | .iload i => match ls[i]? with
    | some (.int x) => some (ls, .int x :: st, m)
    | _ => none
  | .lload i => match ls[i]? with
    | some (.long x) => some (ls, .long x :: st, m)
    | _ => none
  | .aload i => match ls[i]? with
    | some (.ref x) => some (ls, .ref x :: st, m)
    | _ => none
  | .istore i => match st with
    | .int x :: r => (e_st1 i ls (.int x)).map fun l => (l, r, m)
    | _ => none
  | .astore i => match st with
    | .ref x :: r => (e_st1 i ls (.ref x)).map fun l => (l, r, m)
    | _ => none
  | .lstore i => match st with
    | .long x :: r => (e_st2 i ls (.long x)).map fun l => (l, r, m)
    | _ => none
  | .iinc i n => match ls[i]? with
    | some (.int x) => (e_st1 i ls (.int (x + Int32.ofInt n))).map fun l => (l, st, m)
    | _ => none
  | .iadd => e_ii (fun x y => x + y) ls st m
  | .isub => e_ii (fun x y => x - y) ls st m
  | .imul => e_ii (fun x y => x * y) ls st m
  | .idiv => e_id (fun x y => x / y) ls st m
  | .irem => e_id (fun x y => x % y) ls st m
  | .iand => e_ii (fun x y => x &&& y) ls st m
  | .ior => e_ii (fun x y => x ||| y) ls st m
  | .ixor => e_ii (fun x y => x ^^^ y) ls st m
  | .ishl => e_ii (fun x y => x <<< (y &&& 31)) ls st m
  | .ishr => e_ii (fun x y => x >>> (y &&& 31)) ls st m
  | .iushr => e_ii (fun x y => (x.toUInt32 >>> (y.toUInt32 &&& Int32.toUInt32 31)).toInt32) ls st m
  | .ineg => e_i1 (fun x => -x) ls st m
  | .i2b => e_i1 (fun x => x.toInt8.toInt32) ls st m
  | .i2s => e_i1 (fun x => x.toInt16.toInt32) ls st m
  | .i2c => e_i1 (fun x => (x.toUInt32 % 65536).toInt32) ls st m
  | .ladd => e_jj (fun x y => x + y) ls st m
  | .lsub => e_jj (fun x y => x - y) ls st m
  | .land => e_jj (fun x y => x &&& y) ls st m
  | .lor => e_jj (fun x y => x ||| y) ls st m
  | .lxor => e_jj (fun x y => x ^^^ y) ls st m
  | .lshl => e_ji (fun x y => x <<< (y.toInt64 &&& 63)) ls st m
  | .lshr => e_ji (fun x y => x >>> (y.toInt64 &&& 63)) ls st m
  | .lushr => e_ji (fun x y => (x.toUInt64 >>> (y.toInt64.toUInt64 &&& Int64.toUInt64 63)).toInt64) ls st m
  | .lcmp => match st with
    | .long y :: .long x :: r => some (ls, .int (lg_cmp x y) :: r, m)
    | _ => none
  | .i2l => match st with
    | .int x :: r => some (ls, .long x.toInt64 :: r, m)
    | _ => none
  | .l2i => match st with
    | .long x :: r => some (ls, .int x.toInt32 :: r, m)
    | _ => none
  | .dup => match st with
    | .int x :: r => some (ls, .int x :: .int x :: r, m)
    | .ref x :: r => some (ls, .ref x :: .ref x :: r, m)
    | _ => none
  | .pop => match st with
    | .int _ :: r => some (ls, r, m)
    | _ => none
  | .pop2 => match st with
    | .ref _ :: r => some (ls, r, m)
    | _ => none
  | .dup_x1 => match st with
    | .int x :: .ref y :: r => some (ls, .int x :: .ref y :: .int x :: r, m)
    | _ => none
  | .dup2 => match st with
    | .int x :: .ref y :: r => some (ls, .int x :: .ref y :: .int x :: .ref y :: r, m)
    | _ => none
  -- Math.max, min, abs
  | .dadd => e_ii (fun x y => if x < y then y else x) ls st m
  | .dsub => e_ii (fun x y => if y < x then y else x) ls st m
  | .dneg => e_i1 (fun x => if 0 ≤ x then x else 0 - x) ls st m
  -- fields
  | .getfield n => match st with
    | .ref o :: r => if e_ob m.1 o n then some (ls, .int (m.2.1 o (n % 64)) :: r, m) else none
    | _ => none
  | .checkcast n => match st with
    | .ref o :: r => if e_ob m.1 o n then some (ls, e_rf (m.2.2.2 o (n % 64)) :: r, m) else none
    | _ => none
  | .putfield n => match st with
    | .int v :: .ref o :: r => if e_ob m.1 o n && (!(e_bool n) || decide (v = 0) || decide (v = 1)) then some (ls, r, m.1, e_up m.2.1 o (n % 64) v, m.2.2.1, m.2.2.2) else none
    | _ => none
  | .instanceof n => match st with
    | .ref v :: .ref o :: r => if e_ob m.1 o n && decide (v < m.1.length) then some (ls, r, m.1, m.2.1, m.2.2.1, e_up m.2.2.2 o (n % 64) (v + 1)) else none
    | _ => none
  -- arrays
  | .iaload => match st with
    | .int i :: .ref o :: r => if e_in i (e_ar m.1 o e_kI) then some (ls, .int (m.2.1 o i.toNatClampNeg) :: r, m) else none
    | _ => none
  | .caload => match st with
    | .int i :: .ref o :: r => if e_in i (e_ar m.1 o e_kC) then some (ls, .int (m.2.1 o i.toNatClampNeg) :: r, m) else none
    | _ => none
  | .laload => match st with
    | .int i :: .ref o :: r => if e_in i (e_ar m.1 o e_kJ) then some (ls, .long (m.2.2.1 o i.toNatClampNeg) :: r, m) else none
    | _ => none
  | .anewarray n => match st with
    | .int i :: r => if i < 0 then none else some (ls, .ref m.1.length :: r, m.1 ++ [(e_kO + n, i.toNatClampNeg)], m.2.1, m.2.2.1, fun a b => if a = m.1.length then 0 else m.2.2.2 a b)
    | _ => none
  | .aaload => match st with
    | .int i :: .ref o :: r => match m.1[o]? with
      | some (c, z) => if decide (e_kO ≤ c) && e_in i z then some (ls, e_rf (m.2.2.2 o i.toNatClampNeg) :: r, m) else none
      | none => none
    | _ => none
  | .aastore => match st with
    | .ref v :: .int i :: .ref o :: r => match m.1[o]?, m.1[v]? with
      | some (c, z), some (d, _) => if decide (d < e_kI) && decide (c = e_kO + d) && e_in i z then some (ls, r, m.1, m.2.1, m.2.2.1, e_up m.2.2.2 o i.toNatClampNeg (v + 1)) else none
      | _, _ => none
    | _ => none
  | .iastore => match st with
    | .int v :: .int i :: .ref o :: r => if e_in i (e_ar m.1 o e_kI) then some (ls, r, m.1, e_up m.2.1 o i.toNatClampNeg v, m.2.2.1, m.2.2.2) else none
    | _ => none
  | .castore => match st with
    | .int v :: .int i :: .ref o :: r => if e_in i (e_ar m.1 o e_kC) && decide ((v.toUInt32 % 65536).toInt32 = v) then some (ls, r, m.1, e_up m.2.1 o i.toNatClampNeg v, m.2.2.1, m.2.2.2) else none
    | _ => none
  | .lastore => match st with
    | .long v :: .int i :: .ref o :: r => if e_in i (e_ar m.1 o e_kJ) then some (ls, r, m.1, m.2.1, e_up m.2.2.1 o i.toNatClampNeg v, m.2.2.2) else none
    | _ => none
  | .arraylength => match st with
    | .ref o :: r => match m.1[o]? with
      | some (c, z) => if decide (c = e_kI) then some (ls, .int (Int32.ofNat z) :: r, m) else none
      | none => none
    | _ => none
  | .new c => some (ls, .ref m.1.length :: st, m.1 ++ [(c, e_nf c)], fun a b => if a = m.1.length then 0 else m.2.1 a b, m.2.2.1, fun a b => if a = m.1.length then 0 else m.2.2.2 a b)
  | .newarray a => match st with
    | .int i :: r => if i < 0 then none else match a with
      | .int => some (ls, .ref m.1.length :: r, m.1 ++ [(e_kI, i.toNatClampNeg)], fun a b => if a = m.1.length then 0 else m.2.1 a b, m.2.2.1, m.2.2.2)
      | .char => some (ls, .ref m.1.length :: r, m.1 ++ [(e_kC, i.toNatClampNeg)], fun a b => if a = m.1.length then 0 else m.2.1 a b, m.2.2.1, m.2.2.2)
      | .long => some (ls, .ref m.1.length :: r, m.1 ++ [(e_kJ, i.toNatClampNeg)], m.2.1, fun a b => if a = m.1.length then 0 else m.2.2.1 a b, m.2.2.2)
      | _ => none
    | _ => none
  -- System.arraycopy of ints
  | .dmul => match st with
    | .int n :: .int dp :: .ref d :: .int sp :: .ref o :: r => if decide (n < 0) || decide (dp < 0) || decide (sp < 0) || decide (e_ar m.1 o e_kI < sp.toNatClampNeg + n.toNatClampNeg) || decide (e_ar m.1 d e_kI < dp.toNatClampNeg + n.toNatClampNeg) || decide (r.length > 3) || decide (m.1.length ≤ o) || decide (m.1.length ≤ d) then none
        else some (ls, r, m.1, fun a b => if a = d then (if dp.toNatClampNeg ≤ b ∧ b < dp.toNatClampNeg + n.toNatClampNeg then m.2.1 o (sp.toNatClampNeg + (b - dp.toNatClampNeg)) else m.2.1 d b) else m.2.1 a b, m.2.2.1, m.2.2.2)
    | _ => none
  -- the script (1000), ABOVE (1001), the text of names (1002) and its bytes (1003), a formatter (1004)
  | .faload => match st with
    | .int i :: .ref o :: r => if decide (o = 1000) && e_in i X.1 then some (ls, .int (X.2 i.toNatClampNeg) :: r, m) else none
    | _ => none
  | .fadd => match st with
    | .ref o :: r => if o = 1000 then some (ls, .int (Int32.ofNat X.1) :: r, m) else none
    | _ => none
  | .daload => match st with
    | .int i :: .ref o :: r => if decide (o = 1001) && e_in i 6 then some (ls, .int (e_abv i.toNatClampNeg) :: r, m) else none
    | _ => none
  | .fsub => match st with
    | .ref o :: r => if o = 1001 then some (ls, .int 6 :: r, m) else none
    | _ => none
  | .fload n => match st with
    | .ref o :: r => if o = 1002 then (match n with
      | 0 => some (ls, .ref 1003 :: r, m)
      | 1 => some (ls, .int 0 :: r, m)
      | _ => none) else none
    | _ => none
  | .baload => match st with
    | .int i :: .ref o :: r => if decide (o = 1003) && e_in i 98 then some (ls, .int (e_nms.getD i.toNatClampNeg 0) :: r, m) else none
    | _ => none
  | .fmul => match st with
    | .ref o :: r => if o = 1003 then some (ls, .int 98 :: r, m) else none
    | _ => none
  | .getstatic n => match n with
    | 0 => some (ls, .ref 1001 :: st, m)
    | 1 => some (ls, .int 1 :: st, m)
    | 2 => some (ls, .ref 1004 :: st, m)
    | 3 => some (ls, .ref 1002 :: st, m)
    | _ => none
  | _ => none

/-- what may lie below a call's arguments -/
def e_lo (r : List Value) : Bool := decide (r.length ≤ 4)
def e_x (X : e_X) (S : Nat → List Value → e_M → e_R) (J : Nat → List Value → List Value → e_M → e_R) : List Instr → List Value → List Value → e_M → e_R
  | [], _, _, _ => none
  | i :: is, ls, st, m =>
    match i with
    | .goto t => J t.toNat ls st m
    | .jsr t => J t.toNat ls st m
    | .ifCond c t => match st with
      | .int x :: r => if e_c c x 0 then J t.toNat ls r m else e_x X S J is ls r m
      | _ => none
    | .if_icmp c t => match st with
      | .int y :: .int x :: r => if e_c c x y then J t.toNat ls r m else e_x X S J is ls r m
      | _ => none
    | .lookupswitch d ps => match st with
      | .int x :: r => e_sw (fun t => J t ls r m) d ps.toList x
      | _ => none
    | .ireturn => match st with
      | [.int x] => some ([.int x], m)
      | _ => none
    | .lreturn => match st with
      | [.long x] => some ([.long x], m)
      | _ => none
    | .return_ => match st with
      | [] => some ([], m)
      | _ => none
    | .invokeinterface c n => if decide (n ≤ st.length) && e_lo (st.drop n) then (match S c (st.take n).reverse m with
      | some (r, m') => e_x X S J is ls (r ++ st.drop n) m'
      | none => none) else none
    | i => match e_st X i ls st m with
      | some (ls', st', m') => e_x X S J is ls' st' m'
      | none => none
def e_ent (n : Nat) (as : List Value) : List Value :=
  let l := as.flatMap fun v => if v.category = 2 then [v, .retAddr 0] else [v]
  l ++ List.replicate (n - l.length) (.retAddr 0)
end
section
/-! RUNNING: blocks by fuel, its limit, calls by depth -/
section
variable (P : Nat → Nat → List Instr) (mx : Nat → Nat)
def e_run (X : e_X) (S : Nat → List Value → e_M → e_R) (c : Nat) : Nat → Nat → List Value → List Value → e_M → e_R
  | 0, _, _, _, _ => none
  | n + 1, lab, ls, st, m => e_x X S (e_run X S c n) (P c lab) ls st m
noncomputable def e_lim {α : Type} (f : Nat → Option α) : Option α := @dite _ (∃ n r, f n = some r) (Classical.propDecidable _) (fun h => f h.choose) (fun _ => none)
noncomputable def e_go (X : e_X) (S : Nat → List Value → e_M → e_R) (c lab : Nat) (ls st : List Value) (m : e_M) : e_R := e_lim fun n => e_run P X S c n lab ls st m
noncomputable def e_S (X : e_X) : Nat → Nat → List Value → e_M → e_R
  | 0, _, _, _ => none
  | d + 1, c, as, m => e_go P X (e_S X d) c 0 (e_ent (mx c) as) [] m
/-- the same with fuel, to be computed -/
def e_F (X : e_X) (N : Nat) : Nat → Nat → List Value → e_M → e_R
  | 0, _, _, _ => none
  | d + 1, c, as, m => e_run P X (e_F X N d) c N 0 (e_ent (mx c) as) [] m
end
/-- what a jump gives counts at one place at most -/
theorem e_sw_J {J : Nat → e_R} {d : Int} {x : Int32} : ∀ {ps : List (Int × Int)} {r}, e_sw J d ps x = some r → ∃ t, J t = some r ∧ ∀ J' : Nat → e_R, J' t = some r → e_sw J' d ps x = some r
  | [], r, h => ⟨d.toNat, h, fun _ h' => h'⟩
  | (a, t) :: ps, r, h => by
    unfold e_sw at h
    by_cases hc : x.toInt = a
    · rw [if_pos hc] at h
      exact ⟨t.toNat, h, fun J' h' => by unfold e_sw; rw [if_pos hc]; exact h'⟩
    · rw [if_neg hc] at h
      obtain ⟨t', h1, h2⟩ := e_sw_J h
      exact ⟨t', h1, fun J' h' => by unfold e_sw; rw [if_neg hc]; exact h2 J' h'⟩
theorem e_x_J {X : e_X} {S : Nat → List Value → e_M → e_R} {J : Nat → List Value → List Value → e_M → e_R} : ∀ (is : List Instr) (ls st : List Value) (m : e_M) (r : List Value × e_M), e_x X S J is ls st m = some r →
    (∃ t a b q, J t a b q = some r ∧ ∀ J' : Nat → List Value → List Value → e_M → e_R, J' t a b q = some r → e_x X S J' is ls st m = some r) ∨ ∀ J', e_x X S J' is ls st m = some r := by
  intro is
  induction is with
  | nil => intro ls st m r h; simp [e_x] at h
  | cons i is ih =>
    intro ls st m r h
    unfold e_x at h
    split at h
    · exact Or.inl ⟨_, _, _, _, h, fun J' h' => by unfold e_x; exact h'⟩
    · exact Or.inl ⟨_, _, _, _, h, fun J' h' => by unfold e_x; exact h'⟩
    · split at h
      · split at h
        · rename_i hc
          exact Or.inl ⟨_, _, _, _, h, fun J' h' => by unfold e_x; dsimp only; rw [if_pos hc]; exact h'⟩
        · rename_i hc
          rcases ih _ _ _ _ h with ⟨t, a, b, q, h1, h2⟩ | h2
          · exact Or.inl ⟨t, a, b, q, h1, fun J' h' => by unfold e_x; dsimp only; rw [if_neg hc]; exact h2 J' h'⟩
          · exact Or.inr fun J' => by unfold e_x; dsimp only; rw [if_neg hc]; exact h2 J'
      · cases h
    · split at h
      · split at h
        · rename_i hc
          exact Or.inl ⟨_, _, _, _, h, fun J' h' => by unfold e_x; dsimp only; rw [if_pos hc]; exact h'⟩
        · rename_i hc
          rcases ih _ _ _ _ h with ⟨t, a, b, q, h1, h2⟩ | h2
          · exact Or.inl ⟨t, a, b, q, h1, fun J' h' => by unfold e_x; dsimp only; rw [if_neg hc]; exact h2 J' h'⟩
          · exact Or.inr fun J' => by unfold e_x; dsimp only; rw [if_neg hc]; exact h2 J'
      · cases h
    · split at h
      · obtain ⟨t, h1, h2⟩ := e_sw_J h
        exact Or.inl ⟨t, _, _, _, h1, fun J' h' => by unfold e_x; exact h2 _ h'⟩
      · cases h
    · split at h
      · exact Or.inr fun J' => by unfold e_x; exact h
      · cases h
    · split at h
      · exact Or.inr fun J' => by unfold e_x; exact h
      · cases h
    · split at h
      · exact Or.inr fun J' => by unfold e_x; exact h
      · cases h
    · split at h
      · rename_i hc
        split at h
        · rename_i r' m' hs
          rcases ih _ _ _ _ h with ⟨t, a, b, q, h1, h2⟩ | h2
          · exact Or.inl ⟨t, a, b, q, h1, fun J' h' => by unfold e_x; dsimp only; rw [if_pos hc, hs]; exact h2 J' h'⟩
          · exact Or.inr fun J' => by unfold e_x; dsimp only; rw [if_pos hc, hs]; exact h2 J'
        · cases h
      · cases h
    · rename_i n1 n1b n2 n3 n4 n5 n6 n7 n8
      split at h
      · rename_i ls' st' m' hs
        have key : ∀ J', e_x X S J' (i :: is) ls st m = e_x X S J' is ls' st' m' := by
          intro J'
          conv => lhs; unfold e_x
          split
          · exact absurd rfl (n1 _)
          · exact absurd rfl (n1b _)
          · exact absurd rfl (n2 _ _)
          · exact absurd rfl (n3 _ _)
          · exact absurd rfl (n4 _ _)
          · exact absurd rfl n5
          · exact absurd rfl n6
          · exact absurd rfl n7
          · exact absurd rfl (n8 _ _)
          · rw [hs]
        rcases ih _ _ _ _ h with ⟨t, a, b, q, h1, h2⟩ | h2
        · exact Or.inl ⟨t, a, b, q, h1, fun J' h' => by rw [key]; exact h2 J' h'⟩
        · exact Or.inr fun J' => by rw [key]; exact h2 J'
      · cases h
section
variable {P : Nat → Nat → List Instr} {mx : Nat → Nat} {X : e_X}
theorem e_x_mono {S : Nat → List Value → e_M → e_R} {J J' : Nat → List Value → List Value → e_M → e_R} (hJ : ∀ t a b q r, J t a b q = some r → J' t a b q = some r) {is ls st m r} (h : e_x X S J is ls st m = some r) : e_x X S J' is ls st m = some r := by
  rcases e_x_J is ls st m r h with ⟨t, a, b, q, h1, h2⟩ | h2
  · exact h2 J' (hJ _ _ _ _ _ h1)
  · exact h2 J'
theorem e_run_mono {S : Nat → List Value → e_M → e_R} {c : Nat} : ∀ (n k lab : Nat) (ls st : List Value) (m : e_M) r, n ≤ k → e_run P X S c n lab ls st m = some r → e_run P X S c k lab ls st m = some r
  | 0, _, _, _, _, _, _, _, h => by cases h
  | n + 1, 0, _, _, _, _, _, hk, _ => by omega
  | n + 1, k + 1, lab, ls, st, m, r, hk, h => by
    unfold e_run at h ⊢
    exact e_x_mono (fun t a b q r' h' => e_run_mono n k t a b q r' (by omega) h') h
theorem e_lim_some {α : Type} {f : Nat → Option α} (hm : ∀ n k r, n ≤ k → f n = some r → f k = some r) {r : α} : e_lim f = some r ↔ ∃ n, f n = some r := by
  constructor
  · intro h
    unfold e_lim at h
    by_cases hc : ∃ n r, f n = some r
    · rw [dif_pos hc] at h
      exact ⟨_, h⟩
    · rw [dif_neg hc] at h
      cases h
  · intro ⟨n, h⟩
    have hc : ∃ n r, f n = some r := ⟨n, r, h⟩
    unfold e_lim
    rw [dif_pos hc]
    obtain ⟨r', hr'⟩ := hc.choose_spec
    rw [hr']
    have h1 := hm n (max n hc.choose) r (by omega) h
    have h2 := hm hc.choose (max n hc.choose) r' (by omega) hr'
    rw [h1] at h2
    exact h2.symm
theorem e_go_some {S : Nat → List Value → e_M → e_R} {c lab : Nat} {ls st : List Value} {m : e_M} {r} : e_go P X S c lab ls st m = some r ↔ ∃ n, e_run P X S c n lab ls st m = some r :=
  e_lim_some (fun n k r hk h => e_run_mono n k lab ls st m r hk h)
/-- a block, then what its jumps give -/
theorem e_go_eq (S : Nat → List Value → e_M → e_R) (c lab : Nat) (ls st : List Value) (m : e_M) : e_go P X S c lab ls st m = e_x X S (e_go P X S c) (P c lab) ls st m := by
  apply Option.ext
  intro r
  constructor
  · intro h
    obtain ⟨n, hn⟩ := e_go_some.mp h
    cases n with
    | zero => cases hn
    | succ n =>
      unfold e_run at hn
      exact e_x_mono (fun t a b q r' h' => e_go_some.mpr ⟨n, h'⟩) hn
  · intro h
    rcases e_x_J _ _ _ _ _ h with ⟨t, a, b, q, h1, h2⟩ | h2
    · obtain ⟨n, hn⟩ := e_go_some.mp h1
      exact e_go_some.mpr ⟨n + 1, by unfold e_run; exact h2 _ hn⟩
    · exact e_go_some.mpr ⟨1, by unfold e_run; exact h2 _⟩
end
end
section
/-! THE PROGRAM, resolved, by wip/whole/gen.py -/
/-- A.init -/
def g_c0 : List (Nat × List Instr) := [(0, [.aload 0, .pop2, .aload 0, .sipush 30, .newarray .int, .instanceof 0, .aload 0, .sipush 0, .putfield 1, .aload 0, .sipush 0, .putfield 2, .aload 0, .sipush 0, .putfield 3, .aload 0, .sipush 0, .putfield 4, .aload 0, .sipush 0, .putfield 5, .return_])]
/-- A.begin -/
def g_c1 : List (Nat × List Instr) := [(0, [.aload 0, .iload 1, .putfield 3, .aload 0, .iload 2, .putfield 4, .aload 0, .iload 3, .putfield 5, .aload 0, .sipush 0, .putfield 1, .aload 0, .sipush 0, .putfield 2, .return_])]
/-- A.perform -/
def g_c2 : List (Nat × List Instr) := [(0, [.sipush 0, .istore 3, .iload 1, .lookupswitch 55 #[(0, 28), (1, 37), (2, 46)]]),
  (28, [.aload 0, .iload 2, .invokeinterface 3 2, .istore 3, .goto 61]),
  (37, [.aload 0, .iload 2, .invokeinterface 5 2, .istore 3, .goto 61]),
  (46, [.aload 0, .iload 2, .invokeinterface 6 2, .istore 3, .goto 61]),
  (55, [.aload 0, .iload 2, .invokeinterface 7 2, .istore 3, .jsr 61]),
  (61, [.aload 0, .getfield 2, .ifCond .eq 73, .sipush (-15), .goto 74]),
  (73, [.iload 3, .jsr 74]),
  (74, [.ireturn])]
/-- A.lays -/
def g_c3 : List (Nat × List Instr) := [(0, [.aload 0, .getfield 3, .sipush 1, .if_icmp .ne 14, .aload 0, .sipush 20, .invokeinterface 4 2, .jsr 14]),
  (14, [.aload 0, .getfield 3, .sipush 3, .if_icmp .ne 28, .aload 0, .sipush 50, .invokeinterface 4 2, .jsr 28]),
  (28, [.aload 0, .sipush 10, .invokeinterface 4 2, .iload 1, .sipush 2, .imul, .aload 0, .getfield 4, .iadd, .istore 2, .aload 0, .getfield 3, .sipush 1, .if_icmp .ne 55, .iload 2, .sipush 3, .imul, .ireturn]),
  (55, [.aload 0, .getfield 3, .sipush 3, .if_icmp .ne 69, .iload 2, .sipush 4, .ixor, .goto 70]),
  (69, [.iload 2, .jsr 70]),
  (70, [.ireturn])]
/-- A.note -/
def g_c4 : List (Nat × List Instr) := [(0, [.aload 0, .getfield 2, .ifCond .ne 33, .aload 0, .getfield 1, .sipush 30, .if_icmp .ge 33, .aload 0, .checkcast 0, .aload 0, .dup, .getfield 1, .dup_x1, .sipush 1, .iadd, .putfield 1, .iload 1, .iastore, .jsr 33]),
  (33, [.return_])]
/-- A.tilts -/
def g_c5 : List (Nat × List Instr) := [(0, [.aload 0, .getfield 3, .sipush 2, .invokeinterface 112 2, .istore 2, .iload 2, .ifCond .eq 19, .aload 0, .sipush 30, .invokeinterface 4 2, .jsr 19]),
  (19, [.aload 0, .getfield 3, .sipush 5, .if_icmp .ne 33, .aload 0, .sipush 60, .invokeinterface 4 2, .jsr 33]),
  (33, [.aload 0, .sipush 11, .invokeinterface 4 2, .aload 0, .iload 2, .ifCond .eq 50, .iload 1, .sipush 1, .iadd, .goto 51]),
  (50, [.iload 1, .jsr 51]),
  (51, [.invokeinterface 3 2, .aload 0, .getfield 5, .isub, .istore 3, .aload 0, .getfield 3, .sipush 5, .if_icmp .ne 75, .iload 3, .sipush 60, .isub, .goto 76]),
  (75, [.iload 3, .jsr 76]),
  (76, [.ireturn])]
/-- A.breaks -/
def g_c6 : List (Nat × List Instr) := [(0, [.aload 0, .getfield 3, .sipush 4, .invokeinterface 112 2, .istore 2, .aload 0, .getfield 3, .sipush 5, .if_icmp .ne 23, .aload 0, .sipush 61, .invokeinterface 4 2, .jsr 23]),
  (23, [.iload 2, .ifCond .eq 33, .aload 0, .sipush 40, .invokeinterface 4 2, .jsr 33]),
  (33, [.aload 0, .sipush 12, .invokeinterface 4 2, .aload 0, .getfield 4, .aload 0, .getfield 5, .iadd, .sipush 3, .isub, .istore 3, .iload 3, .ifCond .ne 62, .aload 0, .sipush 1, .putfield 2, .sipush 0, .ireturn]),
  (62, [.iload 2, .ifCond .eq 74, .sipush 0, .iload 1, .iload 3, .irem, .isub, .goto 77]),
  (74, [.iload 1, .iload 3, .irem, .jsr 77]),
  (77, [.istore 4, .aload 0, .getfield 3, .sipush 5, .if_icmp .ne 101, .iload 4, .aload 0, .aload 0, .getfield 5, .invokeinterface 3 2, .ixor, .goto 103]),
  (101, [.iload 4, .jsr 103]),
  (103, [.ireturn])]
/-- A.shines -/
def g_c7 : List (Nat × List Instr) := [(0, [.aload 0, .getfield 3, .sipush 3, .if_icmp .ne 14, .aload 0, .sipush 51, .invokeinterface 4 2, .jsr 14]),
  (14, [.aload 0, .sipush 13, .invokeinterface 4 2, .aload 0, .iload 1, .invokeinterface 5 2, .istore 2, .iload 2, .aload 0, .iload 1, .invokeinterface 6 2, .ixor, .istore 3, .aload 0, .getfield 3, .sipush 3, .if_icmp .ne 55, .iload 3, .aload 0, .aload 0, .getfield 4, .invokeinterface 5 2, .iadd, .goto 56]),
  (55, [.iload 3, .jsr 56]),
  (56, [.ireturn])]
/-- L.init -/
def g_c8 : List (Nat × List Instr) := [(0, [.aload 0, .pop2, .aload 0, .sipush 8, .newarray .int, .instanceof 64, .aload 0, .sipush 8, .newarray .int, .instanceof 65, .aload 0, .sipush 8, .newarray .int, .instanceof 66, .aload 0, .sipush 200, .newarray .int, .instanceof 67, .aload 0, .sipush 5, .newarray .int, .instanceof 68, .aload 0, .sipush 0, .putfield 69, .aload 0, .sipush 0, .putfield 70, .return_])]
/-- L.tellTo -/
def g_c9 : List (Nat × List Instr) := [(0, [.sipush 0, .istore 2, .sipush 0, .istore 3, .jsr 4]),
  (4, [.iload 3, .aload 0, .getfield 69, .if_icmp .ge 59, .iload 1, .aload 0, .checkcast 64, .iload 3, .iaload, .invokeinterface 112 2, .ifCond .eq 46, .aload 0, .iload 2, .aload 0, .checkcast 66, .iload 3, .iaload, .invokeinterface 10 3, .ifCond .eq 46, .aload 0, .checkcast 65, .iload 3, .iaload, .ireturn]),
  (46, [.aload 0, .checkcast 66, .iload 3, .iaload, .istore 2, .iinc 3 1, .goto 4]),
  (59, [.sipush 0, .ireturn])]
/-- L.holds -/
def g_c10 : List (Nat × List Instr) := [(0, [.goto_w 1, .lstore 3, .iload 1, .istore 5, .jsr 5]),
  (5, [.iload 5, .iload 2, .if_icmp .ge 96, .aload 0, .checkcast 67, .iload 5, .iaload, .istore 6, .iload 6, .sipush (-1), .if_icmp .ne 33, .lload 3, .goto_w 1, .lxor, .lstore 3, .goto 90]),
  (33, [.iload 6, .sipush (-2), .if_icmp .ne 53, .lload 3, .sipush 1, .lushr, .lload 3, .goto_w (-2), .lor, .land, .lstore 3, .goto 90]),
  (53, [.iload 6, .sipush (-3), .if_icmp .ne 71, .lload 3, .sipush 1, .lushr, .lload 3, .goto_w 1, .land, .lor, .lstore 3, .goto 90]),
  (71, [.lload 3, .sipush 1, .lshl, .aload 0, .iload 6, .invokeinterface 11 2, .ifCond .eq 87, .goto_w 1, .goto 88]),
  (87, [.goto_w 0, .jsr 88]),
  (88, [.lor, .lstore 3, .jsr 90]),
  (90, [.iinc 5 1, .goto 5]),
  (96, [.lload 3, .goto_w 1, .land, .goto_w 1, .lcmp, .ifCond .ne 108, .sipush 1, .goto 109]),
  (108, [.sipush 0, .jsr 109]),
  (109, [.ireturn])]
/-- L.compares -/
def g_c11 : List (Nat × List Instr) := [(0, [.iload 1, .sipush 14, .ishr, .sipush 16383, .iand, .istore 2, .iload 1, .sipush 16383, .iand, .istore 3, .iload 2, .sipush 10000, .if_icmp .lt 40, .iload 2, .sipush 10005, .if_icmp .ge 40, .aload 0, .checkcast 68, .iload 2, .sipush 10000, .isub, .iaload, .istore 2, .jsr 40]),
  (40, [.iload 3, .sipush 10000, .if_icmp .lt 65, .iload 3, .sipush 10005, .if_icmp .ge 65, .aload 0, .checkcast 68, .iload 3, .sipush 10000, .isub, .iaload, .istore 3, .jsr 65]),
  (65, [.iload 1, .sipush 28, .ishr, .lookupswitch 118 #[(0, 96), (1, 107)]]),
  (96, [.iload 2, .iload 3, .if_icmp .ge 105, .sipush 1, .goto 106]),
  (105, [.sipush 0, .jsr 106]),
  (106, [.ireturn]),
  (107, [.iload 2, .iload 3, .if_icmp .ne 116, .sipush 1, .goto 117]),
  (116, [.sipush 0, .jsr 117]),
  (117, [.ireturn]),
  (118, [.iload 2, .iload 3, .if_icmp .le 127, .sipush 1, .goto 128]),
  (127, [.sipush 0, .jsr 128]),
  (128, [.ireturn])]
/-- L.empty -/
def g_c12 : List (Nat × List Instr) := [(0, [.aload 0, .sipush 0, .putfield 69, .aload 0, .sipush 0, .putfield 70, .return_])]
/-- L.comparison -/
def g_c13 : List (Nat × List Instr) := [(0, [.iload 1, .sipush 28, .ishl, .iload 0, .sipush 14, .ishl, .ior, .iload 2, .ior, .ireturn])]
/-- L.append -/
def g_c14 : List (Nat × List Instr) := [(0, [.aload 0, .getfield 70, .sipush 200, .if_icmp .ge 27, .aload 0, .checkcast 67, .aload 0, .dup, .getfield 70, .dup_x1, .sipush 1, .iadd, .putfield 70, .iload 1, .iastore, .jsr 27]),
  (27, [.return_])]
/-- L.close -/
def g_c15 : List (Nat × List Instr) := [(0, [.aload 0, .getfield 69, .sipush 8, .if_icmp .lt 10, .return_]),
  (10, [.aload 0, .checkcast 64, .aload 0, .getfield 69, .iload 1, .iastore, .aload 0, .checkcast 65, .aload 0, .getfield 69, .iload 2, .iastore, .aload 0, .checkcast 66, .aload 0, .getfield 69, .aload 0, .getfield 70, .iastore, .aload 0, .dup, .getfield 69, .sipush 1, .iadd, .putfield 69, .return_])]
/-- L.copyFrom -/
def g_c16 : List (Nat × List Instr) := [(0, [.aload 1, .checkcast 64, .sipush 0, .aload 0, .checkcast 64, .sipush 0, .sipush 8, .dmul, .aload 1, .checkcast 65, .sipush 0, .aload 0, .checkcast 65, .sipush 0, .sipush 8, .dmul, .aload 1, .checkcast 66, .sipush 0, .aload 0, .checkcast 66, .sipush 0, .sipush 8, .dmul, .aload 1, .checkcast 67, .sipush 0, .aload 0, .checkcast 67, .sipush 0, .sipush 200, .dmul, .aload 0, .aload 1, .getfield 69, .putfield 69, .aload 0, .aload 1, .getfield 70, .putfield 70, .return_])]
/-- P.init -/
def g_c17 : List (Nat × List Instr) := [(0, [.aload 0, .pop2, .aload 0, .sipush 4, .newarray .int, .instanceof 129, .aload 0, .sipush 4, .newarray .int, .instanceof 130, .aload 0, .sipush 0, .putfield 131, .aload 0, .sipush 0, .putfield 132, .aload 0, .sipush 0, .putfield 133, .aload 0, .sipush 0, .putfield 134, .aload 0, .sipush (-3), .putfield 135, .aload 0, .sipush 0, .putfield 136, .aload 0, .aload 1, .instanceof 128, .return_])]
/-- P.tryAll -/
def g_c18 : List (Nat × List Instr) := [(0, [.aload 0, .sipush 4, .aload 0, .checkcast 128, .iload 1, .invokeinterface 86 2, .dsub, .putfield 131, .aload 0, .iload 2, .putfield 132, .aload 0, .sipush 0, .putfield 133, .aload 0, .sipush 0, .putfield 134, .aload 0, .sipush (-3), .putfield 135, .aload 0, .sipush 0, .putfield 136, .aload 0, .sipush 0, .sipush 0, .sipush 0, .invokeinterface 19 4, .return_])]
/-- P.tryFrom -/
def g_c19 : List (Nat × List Instr) := [(0, [.iload 1, .aload 0, .getfield 131, .if_icmp .lt 15, .aload 0, .iload 2, .iload 3, .invokeinterface 20 3, .return_]),
  (15, [.aload 0, .checkcast 128, .invokeinterface 85 1, .istore 4, .sipush 0, .istore 5, .jsr 27]),
  (27, [.iload 5, .aload 0, .checkcast 128, .getfield 521, .if_icmp .gt 96, .aload 0, .checkcast 129, .iload 1, .iload 5, .iastore, .aload 0, .checkcast 128, .iload 5, .invokeinterface 79 2, .istore 6, .aload 0, .iload 1, .sipush 1, .iadd, .iload 2, .iload 6, .iadd, .iload 5, .ifCond .ne 75, .iload 3, .goto 78]),
  (75, [.iload 3, .sipush 1, .iadd, .jsr 78]),
  (78, [.invokeinterface 19 4, .aload 0, .checkcast 128, .iload 4, .invokeinterface 87 2, .iinc 5 1, .goto 27]),
  (96, [.return_])]
/-- P.weigh -/
def g_c20 : List (Nat × List Instr) := [(0, [.aload 0, .getfield 134, .ifCond .eq 15, .iload 1, .aload 0, .getfield 133, .if_icmp .le 39, .jsr 15]),
  (15, [.aload 0, .iload 1, .putfield 133, .aload 0, .sipush 0, .putfield 134, .aload 0, .checkcast 129, .sipush 0, .aload 0, .checkcast 130, .sipush 0, .sipush 4, .dmul, .jsr 39]),
  (39, [.iload 1, .aload 0, .getfield 133, .if_icmp .ne 57, .aload 0, .dup, .getfield 134, .sipush 1, .iadd, .putfield 134, .jsr 57]),
  (57, [.aload 0, .dup, .getfield 136, .aload 0, .checkcast 128, .getfield 522, .ior, .putfield 136, .aload 0, .checkcast 128, .getfield 522, .aload 0, .getfield 132, .iand, .aload 0, .getfield 132, .if_icmp .ne 96, .sipush 1, .goto 97]),
  (96, [.sipush 0, .jsr 97]),
  (97, [.istore 3, .iload 3, .ifCond .eq 124, .aload 0, .getfield 135, .sipush (-3), .if_icmp .eq 119, .iload 2, .aload 0, .getfield 135, .if_icmp .ge 124, .jsr 119]),
  (119, [.aload 0, .iload 2, .putfield 135, .jsr 124]),
  (124, [.return_])]
/-- P.valueOfGame -/
def g_c21 : List (Nat × List Instr) := [(0, [.iload 1, .ifCond .gt 6, .sipush 0, .ireturn]),
  (6, [.sipush 0, .istore 3, .sipush 0, .istore 4, .jsr 11]),
  (11, [.iload 4, .aload 0, .checkcast 128, .getfield 521, .if_icmp .gt 66, .aload 0, .iload 4, .iload 1, .iload 2, .invokeinterface 22 4, .istore 5, .iload 4, .ifCond .eq 57, .iload 2, .ifCond .eq 51, .iload 5, .iload 3, .if_icmp .le 60, .goto 57]),
  (51, [.iload 5, .iload 3, .if_icmp .ge 60, .jsr 57]),
  (57, [.iload 5, .istore 3, .jsr 60]),
  (60, [.iinc 4 1, .goto 11]),
  (66, [.iload 3, .ireturn])]
/-- P.valueOfAct -/
def g_c22 : List (Nat × List Instr) := [(0, [.aload 0, .checkcast 128, .invokeinterface 85 1, .istore 4, .aload 0, .checkcast 128, .iload 1, .invokeinterface 79 2, .istore 5, .iload 5, .aload 0, .iload 2, .sipush 1, .isub, .iload 3, .ifCond .ne 33, .sipush 1, .goto 34]),
  (33, [.sipush 0, .jsr 34]),
  (34, [.invokeinterface 21 3, .iadd, .istore 6, .aload 0, .checkcast 128, .iload 4, .invokeinterface 87 2, .iload 6, .ireturn])]
/-- P.leastGoodAct -/
def g_c23 : List (Nat × List Instr) := [(0, [.sipush 0, .istore 2, .aload 0, .sipush 0, .iload 1, .sipush 1, .invokeinterface 22 4, .istore 3, .sipush 1, .istore 4, .jsr 13]),
  (13, [.iload 4, .aload 0, .checkcast 128, .getfield 521, .if_icmp .gt 53, .aload 0, .iload 4, .iload 1, .sipush 1, .invokeinterface 22 4, .istore 5, .iload 5, .iload 3, .if_icmp .le 47, .iload 5, .istore 3, .iload 4, .istore 2, .jsr 47]),
  (47, [.iinc 4 1, .goto 13]),
  (53, [.iload 2, .ireturn])]
/-- R.init -/
def g_c24 : List (Nat × List Instr) := [(0, [.aload 0, .pop2, .aload 0, .new 1, .dup, .invokeinterface 8 1, .instanceof 192, .aload 0, .sipush 200, .newarray .int, .instanceof 193, .aload 0, .sipush 0, .putfield 194, .aload 0, .sipush 0, .putfield 195, .aload 0, .sipush 0, .putfield 196, .aload 0, .sipush 0, .putfield 197, .aload 0, .sipush 0, .putfield 198, .aload 0, .sipush 0, .putfield 199, .aload 0, .sipush 0, .putfield 200, .aload 0, .sipush 0, .putfield 201, .aload 0, .sipush 0, .putfield 202, .aload 0, .sipush 0, .putfield 203, .aload 0, .sipush 200, .newarray .int, .instanceof 204, .aload 0, .sipush 0, .putfield 205, .return_])]
/-- R.takeBytes -/
def g_c25 : List (Nat × List Instr) := [(0, [.sipush 0, .istore 4, .jsr 3]),
  (3, [.iload 4, .iload 3, .if_icmp .ge 53, .aload 0, .getfield 194, .sipush 200, .if_icmp .ge 53, .aload 0, .checkcast 193, .aload 0, .dup, .getfield 194, .dup_x1, .sipush 1, .iadd, .putfield 194, .lload 1, .sipush 8, .iload 4, .imul, .lushr, .goto_w 255, .land, .l2i, .iastore, .iinc 4 1, .goto 3]),
  (53, [.aload 0, .getfield 194, .ireturn])]
/-- R.readAll -/
def g_c26 : List (Nat × List Instr) := [(0, [.aload 0, .checkcast 192, .invokeinterface 12 1, .aload 0, .sipush 0, .putfield 195, .aload 0, .sipush 0, .putfield 198, .aload 0, .sipush 0, .putfield 203, .aload 0, .sipush 0, .putfield 205, .aload 0, .invokeinterface 27 1, .istore 1, .sipush 0, .istore 2, .jsr 34]),
  (34, [.iload 2, .sipush 200, .if_icmp .ge 66, .iload 1, .sipush 20, .if_icmp .eq 66, .aload 0, .iload 1, .invokeinterface 33 2, .ifCond .eq 66, .aload 0, .invokeinterface 27 1, .istore 1, .iinc 2 1, .goto 34]),
  (66, [.aload 0, .sipush 0, .putfield 194, .iload 1, .sipush 20, .if_icmp .ne 88, .aload 0, .getfield 198, .ifCond .ne 88, .sipush (-1), .goto 92]),
  (88, [.aload 0, .getfield 196, .jsr 92]),
  (92, [.ireturn])]
/-- R.nextWord -/
def g_c27 : List (Nat × List Instr) := [(0, [.aload 0, .getfield 195, .aload 0, .getfield 194, .if_icmp .ge 38, .aload 0, .checkcast 193, .aload 0, .getfield 195, .iaload, .sipush 32, .if_icmp .ne 38, .aload 0, .dup, .getfield 195, .sipush 1, .iadd, .putfield 195, .goto 0]),
  (38, [.aload 0, .aload 0, .getfield 195, .putfield 196, .aload 0, .getfield 195, .aload 0, .getfield 194, .if_icmp .lt 60, .sipush 20, .ireturn]),
  (60, [.aload 0, .checkcast 193, .aload 0, .getfield 195, .iaload, .istore 1, .iload 1, .invokeinterface 28 1, .ifCond .eq 82, .aload 0, .invokeinterface 29 1, .ireturn]),
  (82, [.iload 1, .invokeinterface 30 1, .ifCond .eq 94, .aload 0, .invokeinterface 31 1, .ireturn]),
  (94, [.aload 0, .dup, .getfield 195, .sipush 1, .iadd, .putfield 195, .iload 1, .invokeinterface 32 1, .ireturn])]
/-- R.isLetter -/
def g_c28 : List (Nat × List Instr) := [(0, [.iload 0, .sipush 97, .if_icmp .lt 16, .iload 0, .sipush 122, .if_icmp .gt 16, .sipush 1, .goto 17]),
  (16, [.sipush 0, .jsr 17]),
  (17, [.ireturn])]
/-- R.readName -/
def g_c29 : List (Nat × List Instr) := [(0, [.aload 0, .getfield 195, .aload 0, .getfield 194, .if_icmp .ge 39, .aload 0, .checkcast 193, .aload 0, .getfield 195, .iaload, .invokeinterface 28 1, .ifCond .eq 39, .aload 0, .dup, .getfield 195, .sipush 1, .iadd, .putfield 195, .goto 0]),
  (39, [.sipush 0, .istore 1, .aload 0, .getfield 196, .istore 2, .sipush 0, .istore 3, .jsr 48]),
  (48, [.iload 3, .getstatic 3, .invokeinterface 301 1, .if_icmp .ge 134, .getstatic 3, .iload 3, .invokeinterface 303 2, .istore 4, .iload 4, .sipush 44, .if_icmp .ne 93, .iload 2, .aload 0, .getfield 195, .if_icmp .ne 82, .iload 1, .ireturn]),
  (82, [.iinc 1 1, .aload 0, .getfield 196, .istore 2, .goto 128]),
  (93, [.iload 2, .aload 0, .getfield 196, .if_icmp .lt 126, .iload 2, .aload 0, .getfield 195, .if_icmp .ge 126, .aload 0, .checkcast 193, .iload 2, .iaload, .iload 4, .if_icmp .ne 126, .iinc 2 1, .goto 128]),
  (126, [.sipush (-1), .istore 2, .jsr 128]),
  (128, [.iinc 3 1, .goto 48]),
  (134, [.sipush 19, .ireturn])]
/-- R.isDigit -/
def g_c30 : List (Nat × List Instr) := [(0, [.iload 0, .sipush 48, .if_icmp .lt 16, .iload 0, .sipush 57, .if_icmp .gt 16, .sipush 1, .goto 17]),
  (16, [.sipush 0, .jsr 17]),
  (17, [.ireturn])]
/-- R.readNumber -/
def g_c31 : List (Nat × List Instr) := [(0, [.aload 0, .sipush 0, .putfield 197, .jsr 5]),
  (5, [.aload 0, .getfield 195, .aload 0, .getfield 194, .if_icmp .ge 81, .aload 0, .checkcast 193, .aload 0, .getfield 195, .iaload, .invokeinterface 30 1, .ifCond .eq 81, .aload 0, .getfield 195, .aload 0, .getfield 196, .isub, .sipush 4, .if_icmp .ge 68, .aload 0, .sipush 10, .aload 0, .getfield 197, .imul, .aload 0, .checkcast 193, .aload 0, .getfield 195, .iaload, .iadd, .sipush 48, .isub, .putfield 197, .jsr 68]),
  (68, [.aload 0, .dup, .getfield 195, .sipush 1, .iadd, .putfield 195, .goto 5]),
  (81, [.aload 0, .getfield 195, .aload 0, .getfield 196, .isub, .sipush 4, .if_icmp .le 99, .sipush 19, .goto 101]),
  (99, [.sipush 18, .jsr 101]),
  (101, [.ireturn])]
/-- R.signWord -/
def g_c32 : List (Nat × List Instr) := [(0, [.iload 0, .lookupswitch 78 #[(40, 69), (41, 72), (59, 75), (60, 60), (61, 63), (62, 66)]]),
  (60, [.sipush 21, .ireturn]),
  (63, [.sipush 22, .ireturn]),
  (66, [.sipush 23, .ireturn]),
  (69, [.sipush 24, .ireturn]),
  (72, [.sipush 25, .ireturn]),
  (75, [.sipush 26, .ireturn]),
  (78, [.sipush 19, .ireturn])]
/-- R.mayStand -/
def g_c33 : List (Nat × List Instr) := [(0, [.aload 0, .getfield 198, .lookupswitch 80 #[(0, 44), (1, 50), (2, 56), (3, 62), (4, 68), (5, 74)]]),
  (44, [.aload 0, .iload 1, .invokeinterface 34 2, .ireturn]),
  (50, [.aload 0, .iload 1, .invokeinterface 35 2, .ireturn]),
  (56, [.aload 0, .iload 1, .invokeinterface 37 2, .ireturn]),
  (62, [.aload 0, .iload 1, .invokeinterface 41 2, .ireturn]),
  (68, [.aload 0, .iload 1, .invokeinterface 42 2, .ireturn]),
  (74, [.aload 0, .iload 1, .invokeinterface 44 2, .ireturn]),
  (80, [.aload 0, .iload 1, .invokeinterface 47 2, .ireturn])]
/-- R.takeKind -/
def g_c34 : List (Nat × List Instr) := [(0, [.iload 1, .sipush 5, .if_icmp .gt 17, .aload 0, .checkcast 192, .getfield 69, .sipush 8, .if_icmp .lt 19, .jsr 17]),
  (17, [.sipush 0, .ireturn]),
  (19, [.aload 0, .iload 1, .putfield 199, .aload 0, .sipush 1, .putfield 198, .sipush 1, .ireturn])]
/-- R.takeTail -/
def g_c35 : List (Nat × List Instr) := [(0, [.iload 1, .sipush 9, .if_icmp .eq 12, .aload 0, .iload 1, .invokeinterface 36 2, .ireturn]),
  (12, [.aload 0, .sipush 2, .putfield 198, .sipush 1, .ireturn])]
/-- R.takeWill -/
def g_c36 : List (Nat × List Instr) := [(0, [.iload 1, .sipush 6, .sipush 8, .invokeinterface 109 3, .ifCond .eq 13, .sipush 0, .ireturn]),
  (13, [.aload 0, .iload 1, .sipush 6, .isub, .putfield 200, .aload 0, .sipush 6, .putfield 198, .sipush 1, .ireturn])]
/-- R.takeOne -/
def g_c37 : List (Nat × List Instr) := [(0, [.iload 1, .sipush 12, .if_icmp .ne 13, .aload 0, .sipush 12, .invokeinterface 38 2, .ireturn]),
  (13, [.iload 1, .sipush 24, .if_icmp .ne 52, .aload 0, .dup, .getfield 203, .sipush 1, .iadd, .putfield 203, .aload 0, .getfield 203, .sipush 3, .if_icmp .gt 50, .aload 0, .sipush 24, .invokeinterface 38 2, .ifCond .eq 50, .sipush 1, .goto 51]),
  (50, [.sipush 0, .jsr 51]),
  (51, [.ireturn]),
  (52, [.iload 1, .invokeinterface 39 1, .ifCond .ne 61, .sipush 0, .ireturn]),
  (61, [.aload 0, .aload 0, .iload 1, .invokeinterface 40 2, .putfield 201, .aload 0, .sipush 3, .putfield 198, .sipush 1, .ireturn])]
/-- R.waitWith -/
def g_c38 : List (Nat × List Instr) := [(0, [.aload 0, .getfield 205, .sipush 200, .if_icmp .lt 12, .sipush 0, .ireturn]),
  (12, [.aload 0, .checkcast 204, .aload 0, .dup, .getfield 205, .dup_x1, .sipush 1, .iadd, .putfield 205, .iload 1, .iastore, .sipush 1, .ireturn])]
/-- R.isValue -/
def g_c39 : List (Nat × List Instr) := [(0, [.iload 0, .sipush 18, .if_icmp .eq 17, .iload 0, .sipush 13, .sipush 17, .invokeinterface 109 3, .ifCond .ne 21, .jsr 17]),
  (17, [.sipush 1, .goto 22]),
  (21, [.sipush 0, .jsr 22]),
  (22, [.ireturn])]
/-- R.valueOf -/
def g_c40 : List (Nat × List Instr) := [(0, [.iload 1, .sipush 18, .if_icmp .ne 13, .aload 0, .getfield 197, .goto 21]),
  (13, [.sipush 10000, .iload 1, .iadd, .sipush 13, .isub, .jsr 21]),
  (21, [.ireturn])]
/-- R.takeSign -/
def g_c41 : List (Nat × List Instr) := [(0, [.iload 1, .sipush 21, .sipush 23, .invokeinterface 109 3, .ifCond .eq 13, .sipush 0, .ireturn]),
  (13, [.aload 0, .iload 1, .sipush 21, .isub, .putfield 202, .aload 0, .sipush 4, .putfield 198, .sipush 1, .ireturn])]
/-- R.takeRight -/
def g_c42 : List (Nat × List Instr) := [(0, [.iload 1, .invokeinterface 39 1, .ifCond .ne 9, .sipush 0, .ireturn]),
  (9, [.aload 0, .checkcast 192, .aload 0, .getfield 201, .aload 0, .getfield 202, .aload 0, .iload 1, .invokeinterface 40 2, .invokeinterface 13 3, .invokeinterface 14 2, .aload 0, .invokeinterface 43 1, .sipush 1, .ireturn])]
/-- R.endOne -/
def g_c43 : List (Nat × List Instr) := [(0, [.aload 0, .getfield 205, .ifCond .le 44, .aload 0, .checkcast 204, .aload 0, .getfield 205, .sipush 1, .isub, .iaload, .sipush 12, .if_icmp .ne 44, .aload 0, .checkcast 192, .sipush (-1), .invokeinterface 14 2, .aload 0, .dup, .getfield 205, .sipush 1, .isub, .putfield 205, .goto 0]),
  (44, [.aload 0, .sipush 5, .putfield 198, .return_])]
/-- R.takeJoint -/
def g_c44 : List (Nat × List Instr) := [(0, [.iload 1, .sipush 25, .if_icmp .ne 11, .aload 0, .invokeinterface 45 1, .ireturn]),
  (11, [.iload 1, .sipush 10, .if_icmp .eq 23, .iload 1, .sipush 11, .if_icmp .ne 39, .jsr 23]),
  (23, [.aload 0, .iload 1, .invokeinterface 46 2, .aload 0, .sipush 2, .putfield 198, .aload 0, .iload 1, .invokeinterface 38 2, .ireturn]),
  (39, [.aload 0, .getfield 203, .ifCond .le 48, .sipush 0, .ireturn]),
  (48, [.aload 0, .sipush 11, .invokeinterface 46 2, .aload 0, .iload 1, .invokeinterface 36 2, .ireturn])]
/-- R.takeClose -/
def g_c45 : List (Nat × List Instr) := [(0, [.aload 0, .getfield 203, .ifCond .ne 9, .sipush 0, .ireturn]),
  (9, [.aload 0, .dup, .getfield 203, .sipush 1, .isub, .putfield 203, .aload 0, .sipush 11, .invokeinterface 46 2, .aload 0, .getfield 205, .ifCond .le 42, .aload 0, .dup, .getfield 205, .sipush 1, .isub, .putfield 205, .jsr 42]),
  (42, [.aload 0, .invokeinterface 43 1, .sipush 1, .ireturn])]
/-- R.appendJoints -/
def g_c46 : List (Nat × List Instr) := [(0, [.aload 0, .getfield 205, .ifCond .le 81, .aload 0, .checkcast 204, .aload 0, .getfield 205, .sipush 1, .isub, .iaload, .sipush 10, .if_icmp .eq 38, .aload 0, .checkcast 204, .aload 0, .getfield 205, .sipush 1, .isub, .iaload, .iload 1, .if_icmp .ne 81, .jsr 38]),
  (38, [.aload 0, .checkcast 192, .aload 0, .checkcast 204, .aload 0, .getfield 205, .sipush 1, .isub, .iaload, .sipush 10, .if_icmp .ne 63, .sipush (-2), .goto 65]),
  (63, [.sipush (-3), .jsr 65]),
  (65, [.invokeinterface 14 2, .aload 0, .dup, .getfield 205, .sipush 1, .isub, .putfield 205, .goto 0]),
  (81, [.return_])]
/-- R.takeSemicolon -/
def g_c47 : List (Nat × List Instr) := [(0, [.iload 1, .sipush 26, .if_icmp .eq 8, .sipush 0, .ireturn]),
  (8, [.aload 0, .checkcast 192, .aload 0, .getfield 199, .aload 0, .getfield 200, .invokeinterface 15 3, .aload 0, .sipush 0, .putfield 198, .sipush 1, .ireturn])]
/-- Rp.init -/
def g_c48 : List (Nat × List Instr) := [(0, [.aload 0, .pop2, .aload 0, .sipush 6, .newarray .int, .instanceof 256, .aload 0, .sipush 6, .newarray .int, .instanceof 257, .aload 0, .sipush 6, .newarray .int, .instanceof 258, .aload 0, .sipush 6, .newarray .int, .instanceof 259, .aload 0, .sipush 0, .putfield 260, .return_])]
/-- Rp.add -/
def g_c49 : List (Nat × List Instr) := [(0, [.aload 0, .getfield 260, .sipush 6, .if_icmp .lt 12, .sipush (-2), .ireturn]),
  (12, [.aload 0, .checkcast 256, .aload 0, .getfield 260, .iload 1, .iastore, .aload 0, .checkcast 257, .aload 0, .getfield 260, .iload 2, .iastore, .aload 0, .checkcast 258, .aload 0, .getfield 260, .iload 3, .iastore, .aload 0, .checkcast 259, .aload 0, .getfield 260, .iload 4, .iastore, .aload 0, .dup, .getfield 260, .dup_x1, .sipush 1, .iadd, .putfield 260, .ireturn])]
/-- Rp.latest -/
def g_c50 : List (Nat × List Instr) := [(0, [.sipush 0, .istore 1, .sipush 0, .istore 2, .jsr 4]),
  (4, [.iload 2, .aload 0, .getfield 260, .if_icmp .ge 29, .iload 1, .aload 0, .checkcast 256, .iload 2, .iaload, .dadd, .istore 1, .iinc 2 1, .goto 4]),
  (29, [.iload 1, .ireturn])]
/-- Rp.wrongBehind -/
def g_c51 : List (Nat × List Instr) := [(0, [.sipush 0, .istore 4, .sipush 0, .istore 5, .jsr 6]),
  (6, [.iload 5, .aload 0, .getfield 260, .if_icmp .ge 76, .aload 0, .checkcast 256, .iload 5, .iaload, .iload 1, .if_icmp .ne 70, .aload 0, .checkcast 257, .iload 5, .iaload, .ifCond .ne 40, .iload 2, .goto 41]),
  (40, [.iload 3, .jsr 41]),
  (41, [.aload 0, .checkcast 258, .iload 5, .iaload, .aload 0, .checkcast 259, .iload 5, .iaload, .invokeinterface 109 3, .ifCond .eq 70, .iload 4, .sipush 1, .iload 5, .ishl, .ior, .istore 4, .jsr 70]),
  (70, [.iinc 5 1, .goto 6]),
  (76, [.iload 4, .ireturn])]
/-- Rp.copyFrom -/
def g_c52 : List (Nat × List Instr) := [(0, [.aload 1, .checkcast 256, .sipush 0, .aload 0, .checkcast 256, .sipush 0, .sipush 6, .dmul, .aload 1, .checkcast 257, .sipush 0, .aload 0, .checkcast 257, .sipush 0, .sipush 6, .dmul, .aload 1, .checkcast 258, .sipush 0, .aload 0, .checkcast 258, .sipush 0, .sipush 6, .dmul, .aload 1, .checkcast 259, .sipush 0, .aload 0, .checkcast 259, .sipush 0, .sipush 6, .dmul, .aload 0, .aload 1, .getfield 260, .putfield 260, .return_])]
/-- Rw.init -/
def g_c53 : List (Nat × List Instr) := [(0, [.aload 0, .pop2, .aload 0, .sipush 12, .newarray .int, .instanceof 321, .aload 0, .sipush 0, .putfield 322, .aload 0, .aload 1, .instanceof 320, .return_])]
/-- Rw.fill -/
def g_c54 : List (Nat × List Instr) := [(0, [.aload 0, .checkcast 320, .invokeinterface 85 1, .istore 3, .aload 0, .iload 2, .sipush 4, .dsub, .putfield 322, .sipush 0, .istore 4, .jsr 20]),
  (20, [.iload 4, .aload 0, .getfield 322, .if_icmp .ge 88, .aload 0, .checkcast 321, .sipush 3, .iload 4, .imul, .aload 1, .iload 4, .iaload, .iastore, .aload 0, .checkcast 321, .sipush 3, .iload 4, .imul, .sipush 1, .iadd, .aload 0, .checkcast 320, .aload 1, .iload 4, .iaload, .invokeinterface 79 2, .iastore, .aload 0, .checkcast 321, .sipush 3, .iload 4, .imul, .sipush 2, .iadd, .aload 0, .checkcast 320, .getfield 522, .iastore, .iinc 4 1, .goto 20]),
  (88, [.aload 0, .checkcast 320, .iload 3, .invokeinterface 87 2, .aload 0, .getfield 322, .ireturn])]
/-- Rw.has -/
def g_c55 : List (Nat × List Instr) := [(0, [.iload 1, .ifCond .lt 25, .iload 1, .aload 0, .getfield 322, .if_icmp .ge 25, .iload 2, .ifCond .lt 25, .iload 2, .sipush 3, .if_icmp .ge 25, .sipush 1, .goto 26]),
  (25, [.sipush 0, .jsr 26]),
  (26, [.ireturn])]
/-- Rw.firstWrong -/
def g_c56 : List (Nat × List Instr) := [(0, [.aload 0, .checkcast 320, .invokeinterface 85 1, .istore 1, .sipush 0, .istore 2, .sipush 0, .istore 3, .jsr 12]),
  (12, [.iload 3, .aload 0, .getfield 322, .if_icmp .ge 42, .iload 2, .ifCond .ne 42, .aload 0, .iload 3, .invokeinterface 57 2, .ifCond .ne 36, .iload 3, .sipush 1, .iadd, .istore 2, .jsr 36]),
  (36, [.iinc 3 1, .goto 12]),
  (42, [.aload 0, .checkcast 320, .iload 1, .invokeinterface 87 2, .iload 2, .ireturn])]
/-- Rw.isRight -/
def g_c57 : List (Nat × List Instr) := [(0, [.aload 0, .checkcast 321, .sipush 3, .iload 1, .imul, .iaload, .istore 2, .aload 0, .checkcast 320, .iload 2, .invokeinterface 105 2, .ifCond .eq 30, .aload 0, .checkcast 320, .invokeinterface 76 1, .ifCond .eq 32, .jsr 30]),
  (30, [.sipush 0, .ireturn]),
  (32, [.aload 0, .checkcast 320, .iload 2, .invokeinterface 79 2, .istore 3, .aload 0, .checkcast 321, .sipush 3, .iload 1, .imul, .sipush 1, .iadd, .iaload, .iload 3, .if_icmp .ne 79, .aload 0, .checkcast 321, .sipush 3, .iload 1, .imul, .sipush 2, .iadd, .iaload, .aload 0, .checkcast 320, .getfield 522, .if_icmp .ne 79, .sipush 1, .goto 80]),
  (79, [.sipush 0, .jsr 80]),
  (80, [.ireturn])]
/-- Sh.init -/
def g_c58 : List (Nat × List Instr) := [(0, [.aload 0, .pop2, .aload 0, .sipush 40, .newarray .long, .instanceof 384, .aload 0, .sipush (-1), .putfield 385, .aload 0, .sipush 0, .putfield 386, .return_])]
/-- Sh.become -/
def g_c59 : List (Nat × List Instr) := [(0, [.sipush 0, .istore 3, .jsr 2]),
  (2, [.iload 3, .sipush 40, .if_icmp .ge 21, .aload 0, .checkcast 384, .iload 3, .goto_w 0, .lastore, .iinc 3 1, .goto 2]),
  (21, [.aload 0, .iload 1, .putfield 385, .aload 0, .iload 2, .putfield 386, .return_])]
/-- Sh.hasItem -/
def g_c60 : List (Nat × List Instr) := [(0, [.iload 1, .ifCond .lt 22, .iload 1, .aload 0, .getfield 386, .if_icmp .ge 22, .iload 1, .sipush 40, .if_icmp .ge 22, .sipush 1, .goto 23]),
  (22, [.sipush 0, .jsr 23]),
  (23, [.ireturn])]
/-- Sh.putItem -/
def g_c61 : List (Nat × List Instr) := [(0, [.aload 0, .iload 1, .invokeinterface 60 2, .ifCond .eq 19, .aload 0, .checkcast 384, .iload 1, .aload 0, .iload 2, .invokeinterface 62 2, .lastore, .jsr 19]),
  (19, [.return_])]
/-- Sh.narrowed -/
def g_c62 : List (Nat × List Instr) := [(0, [.aload 0, .getfield 385, .lookupswitch 58 #[(0, 40), (1, 44), (2, 58), (3, 58), (4, 48)]]),
  (40, [.iload 1, .i2b, .i2l, .lreturn]),
  (44, [.iload 1, .i2s, .i2l, .lreturn]),
  (48, [.iload 1, .ifCond .eq 56, .goto_w 1, .goto 57]),
  (56, [.goto_w 0, .jsr 57]),
  (57, [.lreturn]),
  (58, [.iload 1, .i2l, .lreturn])]
/-- Sh.refusalAs -/
def g_c63 : List (Nat × List Instr) := [(0, [.aload 0, .getfield 385, .sipush (-1), .if_icmp .ne 11, .sipush (-11), .ireturn]),
  (11, [.aload 0, .getfield 385, .iload 1, .if_icmp .ne 23, .sipush 0, .goto 25]),
  (23, [.sipush (-13), .jsr 25]),
  (25, [.ireturn])]
/-- Sf.init -/
def g_c64 : List (Nat × List Instr) := [(0, [.aload 0, .pop2, .aload 0, .sipush 2, .putfield 448, .aload 0, .sipush 0, .putfield 449, .aload 0, .sipush (-1), .putfield 450, .aload 0, .sipush 0, .putfield 451, .return_])]
/-- Sf.holdRow -/
def g_c65 : List (Nat × List Instr) := [(0, [.aload 0, .iload 1, .sipush (-1), .if_icmp .ne 10, .sipush 2, .goto 11]),
  (10, [.sipush 1, .jsr 11]),
  (11, [.putfield 448, .aload 0, .iload 1, .putfield 450, .aload 0, .iload 2, .putfield 451, .return_])]
/-- Sf.hold -/
def g_c66 : List (Nat × List Instr) := [(0, [.aload 0, .iload 1, .putfield 448, .aload 0, .iload 2, .putfield 449, .return_])]
/-- T.init -/
def g_c67 : List (Nat × List Instr) := [(0, [.aload 0, .pop2, .aload 0, .sipush 6, .newarray .int, .instanceof 512, .aload 0, .sipush 6, .newarray .int, .instanceof 513, .aload 0, .sipush 6, .newarray .int, .instanceof 514, .aload 0, .sipush 6, .newarray .int, .instanceof 515, .aload 0, .sipush 6, .newarray .int, .instanceof 516, .aload 0, .sipush 6, .newarray .int, .instanceof 517, .aload 0, .sipush 16, .newarray .int, .instanceof 518, .aload 0, .new 1, .dup, .invokeinterface 8 1, .instanceof 519, .aload 0, .new 4, .dup, .invokeinterface 48 1, .instanceof 520, .aload 0, .sipush 0, .putfield 521, .aload 0, .sipush 0, .putfield 522, .aload 0, .sipush 0, .putfield 523, .aload 0, .sipush 12, .putfield 524, .aload 0, .sipush 0, .putfield 525, .aload 0, .sipush 5, .putfield 526, .aload 0, .sipush 0, .putfield 527, .aload 0, .sipush 1, .putfield 528, .sipush 0, .istore 1, .jsr 125]),
  (125, [.iload 1, .sipush 6, .if_icmp .ge 144, .aload 0, .checkcast 517, .iload 1, .sipush 3, .iastore, .iinc 1 1, .goto 125]),
  (144, [.sipush 0, .istore 1, .jsr 146]),
  (146, [.iload 1, .sipush 16, .if_icmp .ge 165, .aload 0, .checkcast 518, .iload 1, .sipush 4, .iastore, .iinc 1 1, .goto 146]),
  (165, [.return_])]
/-- T.addPiece -/
def g_c68 : List (Nat × List Instr) := [(0, [.aload 0, .getfield 521, .sipush 6, .if_icmp .lt 12, .sipush (-2), .ireturn]),
  (12, [.aload 0, .checkcast 512, .aload 0, .getfield 521, .iload 1, .iastore, .aload 0, .checkcast 513, .aload 0, .getfield 521, .iload 2, .iastore, .aload 0, .checkcast 514, .aload 0, .getfield 521, .iload 3, .iastore, .aload 0, .checkcast 515, .aload 0, .getfield 521, .iload 4, .iastore, .aload 0, .dup, .getfield 521, .dup_x1, .sipush 1, .iadd, .putfield 521, .ireturn])]
/-- T.hasPiece -/
def g_c69 : List (Nat × List Instr) := [(0, [.iload 1, .ifCond .lt 16, .iload 1, .aload 0, .getfield 521, .if_icmp .ge 16, .sipush 1, .goto 17]),
  (16, [.sipush 0, .jsr 17]),
  (17, [.ireturn])]
/-- T.isSeated -/
def g_c70 : List (Nat × List Instr) := [(0, [.aload 0, .getfield 522, .iload 1, .ishr, .sipush 1, .iand, .sipush 1, .if_icmp .ne 16, .sipush 1, .goto 17]),
  (16, [.sipush 0, .jsr 17]),
  (17, [.ireturn])]
/-- T.grudgeOf -/
def g_c71 : List (Nat × List Instr) := [(0, [.aload 0, .checkcast 516, .aload 0, .checkcast 515, .iload 1, .iaload, .iaload, .istore 2, .aload 0, .checkcast 512, .iload 1, .iaload, .lookupswitch 80 #[(1, 52), (2, 56), (3, 60), (4, 70), (5, 74)]]),
  (52, [.iload 2, .sipush 2, .iadd, .ireturn]),
  (56, [.iload 2, .iload 1, .iadd, .ireturn]),
  (60, [.sipush 0, .iload 2, .iload 1, .iadd, .sipush 3, .isub, .dadd, .ireturn]),
  (70, [.iload 2, .sipush 2, .idiv, .ireturn]),
  (74, [.iload 2, .sipush 2, .idiv, .sipush 2, .imul, .ireturn]),
  (80, [.iload 2, .ireturn])]
/-- T.wouldSit -/
def g_c72 : List (Nat × List Instr) := [(0, [.aload 0, .iload 1, .invokeinterface 70 2, .ifCond .ne 36, .aload 0, .iload 1, .invokeinterface 71 2, .aload 0, .getfield 526, .aload 0, .checkcast 517, .aload 0, .checkcast 515, .iload 1, .iaload, .iaload, .iadd, .if_icmp .gt 36, .sipush 1, .goto 37]),
  (36, [.sipush 0, .jsr 37]),
  (37, [.ireturn])]
/-- T.willOf -/
def g_c73 : List (Nat × List Instr) := [(0, [.aload 0, .checkcast 519, .checkcast 68, .sipush 0, .aload 0, .getfield 523, .iastore, .aload 0, .checkcast 519, .checkcast 68, .sipush 1, .aload 0, .checkcast 514, .iload 1, .iaload, .iastore, .aload 0, .checkcast 519, .checkcast 68, .sipush 2, .aload 0, .iload 1, .invokeinterface 71 2, .iastore, .aload 0, .checkcast 519, .checkcast 68, .sipush 3, .aload 0, .getfield 526, .iastore, .aload 0, .checkcast 519, .checkcast 68, .sipush 4, .iload 1, .iastore, .aload 0, .checkcast 519, .aload 0, .checkcast 512, .iload 1, .iaload, .invokeinterface 9 2, .ireturn])]
/-- T.putSeated -/
def g_c74 : List (Nat × List Instr) := [(0, [.aload 0, .getfield 522, .iload 1, .ishr, .sipush 1, .iand, .istore 3, .aload 0, .iload 2, .ifCond .eq 25, .aload 0, .getfield 522, .sipush 1, .iload 1, .ishl, .ior, .goto 35]),
  (25, [.aload 0, .getfield 522, .sipush 1, .iload 1, .ishl, .sipush (-1), .ixor, .iand, .jsr 35]),
  (35, [.putfield 522, .iload 3, .ireturn])]
/-- T.beginAnew -/
def g_c75 : List (Nat × List Instr) := [(0, [.aload 0, .sipush 0, .putfield 523, .aload 0, .sipush 0, .putfield 525, .aload 0, .sipush 5, .putfield 526, .aload 0, .sipush 0, .putfield 527, .aload 0, .sipush 0, .putfield 522, .return_])]
/-- T.isOver -/
def g_c76 : List (Nat × List Instr) := [(0, [.aload 0, .getfield 523, .aload 0, .getfield 524, .if_icmp .lt 15, .sipush 1, .goto 16]),
  (15, [.sipush 0, .jsr 16]),
  (16, [.ireturn])]
/-- T.newsIn -/
def g_c77 : List (Nat × List Instr) := [(0, [.iload 1, .sipush 0, .sipush 15, .invokeinterface 109 3, .ifCond .eq 14, .sipush 0, .goto 20]),
  (14, [.aload 0, .checkcast 518, .iload 1, .iaload, .jsr 20]),
  (20, [.ireturn])]
/-- T.passAndScore -/
def g_c78 : List (Nat × List Instr) := [(0, [.aload 0, .iload 1, .invokeinterface 79 2, .istore 2, .aload 0, .dup, .getfield 525, .iload 2, .iadd, .putfield 525, .iload 2, .ireturn])]
/-- T.passYear -/
def g_c79 : List (Nat × List Instr) := [(0, [.aload 0, .aload 0, .aload 0, .getfield 523, .invokeinterface 77 2, .aload 0, .getfield 526, .invokeinterface 126 2, .putfield 526, .iload 1, .sipush (-1), .if_icmp .ne 31, .aload 0, .invokeinterface 80 1, .goto 34]),
  (31, [.iload 1, .sipush 1, .isub, .jsr 34]),
  (34, [.istore 2, .aload 0, .iload 2, .invokeinterface 69 2, .ifCond .eq 51, .aload 0, .iload 2, .invokeinterface 73 2, .goto 52]),
  (51, [.sipush 1, .jsr 52]),
  (52, [.istore 3, .sipush 0, .istore 4, .iload 3, .ifCond .ne 70, .aload 0, .iload 2, .invokeinterface 81 2, .istore 4, .goto 80]),
  (70, [.iload 3, .sipush 2, .if_icmp .ne 80, .aload 0, .iload 2, .invokeinterface 82 2, .jsr 80]),
  (80, [.aload 0, .aload 0, .getfield 522, .invokeinterface 83 2, .aload 0, .getfield 527, .aload 0, .getfield 526, .invokeinterface 128 3, .istore 5, .aload 0, .dup, .getfield 527, .iload 5, .iadd, .putfield 527, .aload 0, .dup, .getfield 523, .sipush 1, .iadd, .putfield 523, .iload 4, .sipush 2, .iload 5, .imul, .iadd, .ireturn])]
/-- T.leastWilling -/
def g_c80 : List (Nat × List Instr) := [(0, [.sipush 0, .istore 1, .jsr 2]),
  (2, [.iload 1, .aload 0, .getfield 521, .if_icmp .ge 26, .aload 0, .iload 1, .invokeinterface 72 2, .ifCond .eq 20, .iload 1, .ireturn]),
  (20, [.iinc 1 1, .goto 2]),
  (26, [.sipush (-3), .ireturn])]
/-- T.sitDown -/
def g_c81 : List (Nat × List Instr) := [(0, [.aload 0, .iload 1, .invokeinterface 70 2, .ifCond .eq 10, .sipush 0, .ireturn]),
  (10, [.aload 0, .iload 1, .invokeinterface 72 2, .ifCond .ne 34, .aload 0, .sipush 0, .aload 0, .getfield 526, .sipush 1, .isub, .dadd, .putfield 526, .sipush 0, .ireturn]),
  (34, [.aload 0, .sipush 0, .aload 0, .getfield 526, .aload 0, .iload 1, .invokeinterface 71 2, .sipush 3, .idiv, .isub, .dadd, .putfield 526, .aload 0, .iload 1, .sipush 1, .invokeinterface 74 3, .pop, .sipush 1, .ireturn])]
/-- T.getUp -/
def g_c82 : List (Nat × List Instr) := [(0, [.aload 0, .iload 1, .invokeinterface 70 2, .ifCond .ne 9, .return_]),
  (9, [.aload 0, .iload 1, .sipush 0, .invokeinterface 74 3, .pop, .aload 0, .sipush 9, .aload 0, .getfield 526, .sipush 1, .iadd, .dsub, .putfield 526, .return_])]
/-- T.placesSpanned -/
def g_c83 : List (Nat × List Instr) := [(0, [.goto_w 0, .lstore 2, .sipush 0, .istore 4, .jsr 5]),
  (5, [.iload 4, .aload 0, .getfield 521, .if_icmp .ge 64, .iload 1, .iload 4, .ishr, .sipush 1, .iand, .sipush 1, .if_icmp .ne 58, .lload 2, .aload 0, .checkcast 513, .iload 4, .iaload, .aload 0, .checkcast 512, .iload 4, .iaload, .aload 0, .checkcast 514, .iload 4, .iaload, .aload 0, .getfield 523, .invokeinterface 111 3, .invokeinterface 127 2, .lor, .lstore 2, .jsr 58]),
  (58, [.iinc 4 1, .goto 5]),
  (64, [.lload 2, .lreturn])]
/-- T.restWorth -/
def g_c84 : List (Nat × List Instr) := [(0, [.aload 0, .invokeinterface 85 1, .istore 2, .aload 0, .iload 1, .invokeinterface 86 2, .istore 3, .sipush 0, .istore 4, .sipush 0, .istore 5, .jsr 17]),
  (17, [.iload 5, .iload 3, .if_icmp .ge 39, .iload 4, .aload 0, .sipush (-1), .invokeinterface 79 2, .iadd, .istore 4, .iinc 5 1, .goto 17]),
  (39, [.aload 0, .iload 2, .invokeinterface 87 2, .iload 4, .ireturn])]
/-- T.moment -/
def g_c85 : List (Nat × List Instr) := [(0, [.aload 0, .getfield 523, .aload 0, .getfield 526, .sipush 5, .ishl, .ior, .aload 0, .getfield 527, .sipush 9, .ishl, .ior, .aload 0, .getfield 522, .sipush 15, .ishl, .ior, .ireturn])]
/-- T.yearsYet -/
def g_c86 : List (Nat × List Instr) := [(0, [.sipush 0, .iload 1, .aload 0, .getfield 524, .aload 0, .getfield 523, .isub, .dsub, .dadd, .ireturn])]
/-- T.backTo -/
def g_c87 : List (Nat × List Instr) := [(0, [.aload 0, .iload 1, .sipush 31, .iand, .putfield 523, .aload 0, .iload 1, .sipush 5, .ishr, .sipush 15, .iand, .putfield 526, .aload 0, .iload 1, .sipush 9, .ishr, .sipush 63, .iand, .putfield 527, .aload 0, .iload 1, .sipush 15, .ishr, .sipush 63, .iand, .putfield 522, .return_])]
/-- T.restUntil -/
def g_c88 : List (Nat × List Instr) := [(0, [.aload 0, .invokeinterface 85 1, .istore 3, .aload 0, .sipush 16, .invokeinterface 86 2, .istore 4, .sipush (-3), .istore 5, .sipush 0, .istore 6, .jsr 20]),
  (20, [.iload 6, .iload 4, .if_icmp .ge 72, .iload 5, .sipush (-3), .if_icmp .ne 72, .aload 0, .sipush (-1), .invokeinterface 79 2, .pop, .aload 0, .getfield 522, .iload 1, .iand, .iload 1, .if_icmp .ne 66, .aload 0, .getfield 527, .iload 2, .if_icmp .lt 66, .aload 0, .getfield 523, .sipush 1, .isub, .istore 5, .jsr 66]),
  (66, [.iinc 6 1, .goto 20]),
  (72, [.aload 0, .iload 3, .invokeinterface 87 2, .iload 5, .ireturn])]
/-- T.bestValue -/
def g_c89 : List (Nat × List Instr) := [(0, [.aload 1, .iload 2, .iaload, .istore 4, .sipush 0, .istore 5, .sipush (-1), .istore 6, .sipush 0, .istore 7, .jsr 14]),
  (14, [.iload 7, .iload 3, .if_icmp .gt 54, .aload 1, .iload 2, .iload 7, .iastore, .aload 0, .sipush 16, .invokeinterface 84 2, .istore 8, .iload 8, .iload 6, .if_icmp .le 48, .iload 8, .istore 6, .iload 7, .istore 5, .jsr 48]),
  (48, [.iinc 7 1, .goto 14]),
  (54, [.aload 1, .iload 2, .iload 4, .iastore, .iload 5, .ireturn])]
/-- T.firstUnspanned -/
def g_c90 : List (Nat × List Instr) := [(0, [.aload 0, .aload 0, .invokeinterface 91 1, .invokeinterface 83 2, .lstore 1, .aload 0, .getfield 527, .istore 3, .jsr 14]),
  (14, [.iload 3, .sipush 39, .if_icmp .gt 38, .lload 1, .iload 3, .lushr, .goto_w 1, .land, .goto_w 0, .lcmp, .ifCond .ne 32, .iload 3, .ireturn]),
  (32, [.iinc 3 1, .goto 14]),
  (38, [.sipush (-3), .ireturn])]
/-- T.allPieces -/
def g_c91 : List (Nat × List Instr) := [(0, [.sipush 1, .aload 0, .getfield 521, .ishl, .sipush 1, .isub, .ireturn])]
/-- T.countNotThere -/
def g_c92 : List (Nat × List Instr) := [(0, [.aload 0, .aload 0, .getfield 522, .invokeinterface 83 2, .lstore 1, .sipush 0, .istore 3, .sipush 0, .istore 4, .jsr 14]),
  (14, [.iload 4, .sipush 39, .if_icmp .gt 41, .lload 1, .iload 4, .lushr, .goto_w 1, .land, .goto_w 0, .lcmp, .ifCond .ne 35, .iinc 3 1, .jsr 35]),
  (35, [.iinc 4 1, .goto 14]),
  (41, [.iload 3, .ireturn])]
/-- T.countBranches -/
def g_c93 : List (Nat × List Instr) := [(0, [.sipush 0, .istore 1, .sipush 0, .istore 2, .jsr 4]),
  (4, [.iload 2, .aload 0, .getfield 521, .if_icmp .ge 33, .aload 0, .iload 2, .invokeinterface 94 2, .invokeinterface 136 1, .iload 2, .if_icmp .ne 27, .iinc 1 1, .jsr 27]),
  (27, [.iinc 2 1, .goto 4]),
  (33, [.iload 1, .ireturn])]
/-- T.branchOf -/
def g_c94 : List (Nat × List Instr) := [(0, [.aload 0, .iload 1, .invokeinterface 70 2, .ifCond .eq 10, .sipush 0, .ireturn]),
  (10, [.sipush 1, .iload 1, .ishl, .istore 2, .sipush 0, .istore 3, .jsr 16]),
  (16, [.iload 3, .sipush 6, .if_icmp .ge 36, .iload 2, .aload 0, .iload 2, .invokeinterface 95 2, .ior, .istore 2, .iinc 3 1, .goto 16]),
  (36, [.iload 2, .ireturn])]
/-- T.closeTo -/
def g_c95 : List (Nat × List Instr) := [(0, [.sipush 0, .istore 2, .sipush 0, .istore 3, .jsr 4]),
  (4, [.iload 3, .aload 0, .getfield 521, .if_icmp .ge 62, .sipush 0, .istore 4, .jsr 15]),
  (15, [.iload 4, .aload 0, .getfield 521, .if_icmp .ge 56, .iload 1, .iload 4, .ishr, .sipush 1, .iand, .sipush 1, .if_icmp .ne 50, .aload 0, .iload 4, .iload 3, .invokeinterface 96 3, .ifCond .eq 50, .iload 2, .sipush 1, .iload 3, .ishl, .ior, .istore 2, .jsr 50]),
  (50, [.iinc 4 1, .goto 15]),
  (56, [.iinc 3 1, .goto 4]),
  (62, [.iload 2, .ireturn])]
/-- T.areClose -/
def g_c96 : List (Nat × List Instr) := [(0, [.aload 0, .iload 1, .invokeinterface 70 2, .ifCond .ne 16, .aload 0, .iload 2, .invokeinterface 70 2, .ifCond .eq 18, .jsr 16]),
  (16, [.sipush 0, .ireturn]),
  (18, [.aload 0, .checkcast 515, .iload 1, .iaload, .aload 0, .checkcast 515, .iload 2, .iaload, .if_icmp .eq 53, .aload 0, .checkcast 513, .iload 1, .iaload, .aload 0, .checkcast 513, .iload 2, .iaload, .isub, .dneg, .sipush 2, .if_icmp .gt 57, .jsr 53]),
  (53, [.sipush 1, .goto 58]),
  (57, [.sipush 0, .jsr 58]),
  (58, [.ireturn])]
/-- T.wayOver -/
def g_c97 : List (Nat × List Instr) := [(0, [.sipush 40, .istore 3, .sipush (-1), .istore 4, .sipush 0, .istore 5, .jsr 9]),
  (9, [.iload 5, .aload 0, .getfield 521, .if_icmp .ge 60, .iload 2, .iload 5, .ishr, .sipush 1, .iand, .sipush 1, .if_icmp .ne 54, .iload 3, .aload 0, .checkcast 513, .iload 5, .iaload, .dsub, .istore 3, .iload 4, .aload 0, .checkcast 513, .iload 5, .iaload, .dadd, .istore 4, .jsr 54]),
  (54, [.iinc 5 1, .goto 9]),
  (60, [.iload 4, .ifCond .ge 67, .sipush 0, .ireturn]),
  (67, [.iload 4, .iload 3, .isub, .iload 1, .iload 3, .isub, .dneg, .iload 1, .iload 4, .isub, .dneg, .dsub, .iadd, .ireturn])]
/-- T.firstFetched -/
def g_c98 : List (Nat × List Instr) := [(0, [.aload 0, .iload 1, .iload 2, .invokeinterface 97 3, .istore 3, .sipush 0, .istore 4, .jsr 10]),
  (10, [.iload 4, .aload 0, .getfield 521, .if_icmp .ge 78, .iload 2, .iload 4, .ishr, .sipush 1, .iand, .sipush 1, .if_icmp .ne 72, .iload 1, .aload 0, .checkcast 513, .iload 4, .iaload, .isub, .dneg, .aload 0, .aload 0, .checkcast 513, .iload 4, .iaload, .iload 2, .sipush 1, .iload 4, .ishl, .sipush (-1), .ixor, .iand, .invokeinterface 97 3, .iadd, .istore 5, .iload 5, .iload 3, .if_icmp .ne 72, .iload 4, .ireturn]),
  (72, [.iinc 4 1, .goto 10]),
  (78, [.sipush (-3), .ireturn])]
/-- T.countFitting -/
def g_c99 : List (Nat × List Instr) := [(0, [.sipush 0, .istore 1, .sipush 1, .istore 2, .jsr 4]),
  (4, [.iload 2, .sipush 5, .if_icmp .gt 59, .sipush 0, .istore 3, .jsr 11]),
  (11, [.iload 3, .sipush 9, .if_icmp .gt 53, .sipush 0, .istore 4, .jsr 20]),
  (20, [.iload 4, .sipush 9, .if_icmp .gt 47, .aload 0, .iload 2, .iload 3, .iload 4, .invokeinterface 100 4, .ifCond .ne 41, .iinc 1 1, .jsr 41]),
  (41, [.iinc 4 1, .goto 20]),
  (47, [.iinc 3 1, .goto 11]),
  (53, [.iinc 2 1, .goto 4]),
  (59, [.iload 1, .ireturn])]
/-- T.wrongBy -/
def g_c100 : List (Nat × List Instr) := [(0, [.aload 0, .checkcast 520, .invokeinterface 50 1, .istore 4, .iload 3, .istore 5, .sipush 0, .istore 6, .aload 0, .checkcast 520, .sipush 0, .iload 6, .iload 5, .invokeinterface 51 4, .istore 7, .sipush 0, .istore 8, .jsr 32]),
  (32, [.iload 8, .iload 4, .if_icmp .ge 101, .aload 0, .iload 8, .invokeinterface 77 2, .iload 5, .invokeinterface 126 2, .istore 5, .iload 6, .sipush 0, .iload 1, .iload 2, .iload 8, .invokeinterface 111 3, .invokeinterface 127 2, .iload 6, .iload 5, .invokeinterface 128 3, .iadd, .istore 6, .iload 7, .aload 0, .checkcast 520, .iload 8, .sipush 1, .iadd, .iload 6, .iload 5, .invokeinterface 51 4, .ior, .istore 7, .iinc 8 1, .goto 32]),
  (101, [.iload 7, .ireturn])]
/-- T.firstFitting -/
def g_c101 : List (Nat × List Instr) := [(0, [.sipush 1, .istore 2, .jsr 2]),
  (2, [.iload 2, .sipush 5, .if_icmp .gt 75, .sipush 0, .istore 3, .jsr 9]),
  (9, [.iload 3, .sipush 9, .if_icmp .gt 69, .sipush 0, .istore 4, .jsr 18]),
  (18, [.iload 4, .sipush 9, .if_icmp .gt 63, .aload 0, .iload 2, .iload 3, .iload 4, .invokeinterface 100 4, .ifCond .ne 57, .iload 1, .sipush 1, .if_icmp .ne 45, .iload 2, .goto 56]),
  (45, [.iload 1, .sipush 2, .if_icmp .ne 54, .iload 3, .goto 56]),
  (54, [.iload 4, .jsr 56]),
  (56, [.ireturn]),
  (57, [.iinc 4 1, .goto 18]),
  (63, [.iinc 3 1, .goto 9]),
  (69, [.iinc 2 1, .goto 2]),
  (75, [.sipush (-3), .ireturn])]
/-- T.leastLiar -/
def g_c102 : List (Nat × List Instr) := [(0, [.sipush 0, .istore 1, .sipush 1, .istore 2, .jsr 4]),
  (4, [.iload 2, .sipush 5, .if_icmp .gt 77, .sipush 0, .istore 3, .jsr 11]),
  (11, [.iload 3, .sipush 9, .if_icmp .gt 71, .sipush 0, .istore 4, .jsr 20]),
  (20, [.iload 4, .sipush 9, .if_icmp .gt 65, .aload 0, .iload 2, .iload 3, .iload 4, .invokeinterface 100 4, .istore 5, .iload 5, .ifCond .ne 45, .sipush (-3), .ireturn]),
  (45, [.iload 5, .invokeinterface 300 1, .sipush 1, .if_icmp .ne 59, .iload 1, .iload 5, .ior, .istore 1, .jsr 59]),
  (59, [.iinc 4 1, .goto 20]),
  (65, [.iinc 3 1, .goto 11]),
  (71, [.iinc 2 1, .goto 4]),
  (77, [.iload 1, .invokeinterface 136 1, .ireturn])]
/-- T.drawLot -/
def g_c103 : List (Nat × List Instr) := [(0, [.aload 0, .aload 0, .getfield 528, .sipush 1103515245, .imul, .sipush 12345, .iadd, .putfield 528, .aload 0, .getfield 528, .sipush 16, .iushr, .aload 0, .getfield 521, .sipush 1, .iadd, .irem, .ireturn])]
/-- T.worthByLot -/
def g_c104 : List (Nat × List Instr) := [(0, [.aload 0, .invokeinterface 85 1, .istore 1, .aload 0, .sipush 16, .invokeinterface 86 2, .istore 2, .sipush 0, .istore 3, .sipush 0, .istore 4, .jsr 17]),
  (17, [.iload 4, .iload 2, .if_icmp .ge 40, .iload 3, .aload 0, .aload 0, .invokeinterface 103 1, .invokeinterface 79 2, .iadd, .istore 3, .iinc 4 1, .goto 17]),
  (40, [.aload 0, .iload 1, .invokeinterface 87 2, .iload 3, .ireturn])]
/-- T.isAct -/
def g_c105 : List (Nat × List Instr) := [(0, [.iload 1, .ifCond .lt 16, .iload 1, .aload 0, .getfield 521, .if_icmp .gt 16, .sipush 1, .goto 17]),
  (16, [.sipush 0, .jsr 17]),
  (17, [.ireturn])]
/-- T.copyFrom -/
def g_c106 : List (Nat × List Instr) := [(0, [.aload 1, .checkcast 512, .sipush 0, .aload 0, .checkcast 512, .sipush 0, .sipush 6, .dmul, .aload 1, .checkcast 513, .sipush 0, .aload 0, .checkcast 513, .sipush 0, .sipush 6, .dmul, .aload 1, .checkcast 514, .sipush 0, .aload 0, .checkcast 514, .sipush 0, .sipush 6, .dmul, .aload 1, .checkcast 515, .sipush 0, .aload 0, .checkcast 515, .sipush 0, .sipush 6, .dmul, .aload 1, .checkcast 516, .sipush 0, .aload 0, .checkcast 516, .sipush 0, .sipush 6, .dmul, .aload 1, .checkcast 517, .sipush 0, .aload 0, .checkcast 517, .sipush 0, .sipush 6, .dmul, .aload 1, .checkcast 518, .sipush 0, .aload 0, .checkcast 518, .sipush 0, .sipush 16, .dmul, .aload 0, .checkcast 519, .aload 1, .checkcast 519, .invokeinterface 16 2, .aload 0, .checkcast 520, .aload 1, .checkcast 520, .invokeinterface 52 2, .aload 0, .aload 1, .getfield 521, .putfield 521, .aload 0, .aload 1, .getfield 522, .putfield 522, .aload 0, .aload 1, .getfield 523, .putfield 523, .aload 0, .aload 1, .getfield 524, .putfield 524, .aload 0, .aload 1, .getfield 525, .putfield 525, .aload 0, .aload 1, .getfield 526, .putfield 526, .aload 0, .aload 1, .getfield 527, .putfield 527, .aload 0, .aload 1, .getfield 528, .putfield 528, .return_])]
/-- B.init -/
def g_c107 : List (Nat × List Instr) := [(0, [.aload 0, .pop2, .aload 0, .new 8, .dup, .invokeinterface 67 1, .instanceof 576, .aload 0, .new 8, .dup, .invokeinterface 67 1, .instanceof 577, .aload 0, .sipush 0, .putfield 578, .aload 0, .new 3, .dup, .invokeinterface 24 1, .instanceof 579, .aload 0, .new 2, .dup, .aload 0, .checkcast 576, .invokeinterface 17 2, .instanceof 580, .aload 0, .new 5, .dup, .aload 0, .checkcast 576, .invokeinterface 53 2, .instanceof 581, .aload 0, .sipush 4, .anewarray 6, .instanceof 582, .aload 0, .sipush 4, .anewarray 7, .instanceof 583, .aload 0, .new 0, .dup, .invokeinterface 0 1, .instanceof 584, .sipush 0, .istore 1, .jsr 101]),
  (101, [.iload 1, .sipush 4, .if_icmp .ge 125, .aload 0, .checkcast 582, .iload 1, .new 6, .dup, .invokeinterface 58 1, .aastore, .iinc 1 1, .goto 101]),
  (125, [.sipush 0, .istore 1, .jsr 127]),
  (127, [.iload 1, .sipush 4, .if_icmp .ge 151, .aload 0, .checkcast 583, .iload 1, .new 7, .dup, .invokeinterface 64 1, .aastore, .iinc 1 1, .goto 127]),
  (151, [.return_])]
/-- B.plate -/
def g_c108 : List (Nat × List Instr) := [(0, [.iload 1, .sipush 1, .sipush 5, .invokeinterface 109 3, .ifCond .ne 19, .iload 2, .sipush 0, .sipush 39, .invokeinterface 109 3, .ifCond .eq 21, .jsr 19]),
  (19, [.sipush (-1), .ireturn]),
  (21, [.iload 3, .sipush 0, .sipush 9, .invokeinterface 109 3, .ifCond .ne 41, .iload 4, .sipush 0, .sipush 5, .invokeinterface 109 3, .ifCond .eq 43, .jsr 41]),
  (41, [.sipush (-1), .ireturn]),
  (43, [.aload 0, .checkcast 576, .getfield 521, .sipush 6, .if_icmp .lt 58, .sipush (-2), .ireturn]),
  (58, [.aload 0, .checkcast 576, .iload 1, .iload 2, .iload 3, .iload 4, .invokeinterface 68 5, .ireturn])]
/-- B.isOutside -/
def g_c109 : List (Nat × List Instr) := [(0, [.iload 0, .iload 1, .if_icmp .lt 10, .iload 0, .iload 2, .if_icmp .le 14, .jsr 10]),
  (10, [.sipush 1, .goto 15]),
  (14, [.sipush 0, .jsr 15]),
  (15, [.ireturn])]
/-- B.plateOf -/
def g_c110 : List (Nat × List Instr) := [(0, [.aload 0, .checkcast 576, .iload 1, .invokeinterface 69 2, .ifCond .ne 13, .sipush (-1), .ireturn]),
  (13, [.iload 2, .lookupswitch 185 #[(0, 64), (1, 74), (2, 84), (3, 94), (4, 104), (5, 121), (6, 150), (7, 159), (8, 176)]]),
  (64, [.aload 0, .checkcast 576, .checkcast 512, .iload 1, .iaload, .ireturn]),
  (74, [.aload 0, .checkcast 576, .checkcast 513, .iload 1, .iaload, .ireturn]),
  (84, [.aload 0, .checkcast 576, .checkcast 514, .iload 1, .iaload, .ireturn]),
  (94, [.aload 0, .checkcast 576, .checkcast 515, .iload 1, .iaload, .ireturn]),
  (104, [.aload 0, .checkcast 576, .iload 1, .invokeinterface 70 2, .ifCond .eq 119, .sipush 1, .goto 120]),
  (119, [.sipush 0, .jsr 120]),
  (120, [.ireturn]),
  (121, [.aload 0, .checkcast 576, .checkcast 512, .iload 1, .iaload, .aload 0, .checkcast 576, .checkcast 514, .iload 1, .iaload, .aload 0, .checkcast 576, .getfield 523, .invokeinterface 111 3, .ireturn]),
  (150, [.aload 0, .checkcast 576, .iload 1, .invokeinterface 71 2, .ireturn]),
  (159, [.aload 0, .checkcast 576, .iload 1, .invokeinterface 72 2, .ifCond .eq 174, .sipush 1, .goto 175]),
  (174, [.sipush 0, .jsr 175]),
  (175, [.ireturn]),
  (176, [.aload 0, .checkcast 576, .iload 1, .invokeinterface 73 2, .ireturn]),
  (185, [.sipush (-1), .ireturn])]
/-- B.spanOf -/
def g_c111 : List (Nat × List Instr) := [(0, [.sipush 1, .iload 1, .sipush 2, .idiv, .iadd, .istore 3, .iload 0, .lookupswitch 85 #[(1, 40), (2, 44), (3, 48), (4, 63), (5, 69)]]),
  (40, [.sipush 2, .iload 3, .imul, .ireturn]),
  (44, [.iload 3, .sipush 2, .iadd, .ireturn]),
  (48, [.iload 2, .sipush 2, .irem, .sipush 1, .if_icmp .ne 59, .sipush 1, .goto 62]),
  (59, [.iload 3, .sipush 2, .iadd, .jsr 62]),
  (62, [.ireturn]),
  (63, [.iload 3, .sipush 2, .dsub, .ireturn]),
  (69, [.iload 2, .sipush 3, .irem, .ifCond .ne 79, .sipush 0, .goto 84]),
  (79, [.iload 3, .sipush 2, .dsub, .jsr 84]),
  (84, [.ireturn]),
  (85, [.iload 3, .ireturn])]
/-- B.isUnder -/
def g_c112 : List (Nat × List Instr) := [(0, [.iload 0, .istore 2, .jsr 2]),
  (2, [.iload 2, .ifCond .lt 30, .iload 2, .getstatic 0, .fsub, .if_icmp .ge 30, .iload 2, .iload 1, .if_icmp .ne 21, .sipush 1, .ireturn]),
  (21, [.getstatic 0, .iload 2, .daload, .istore 2, .goto 2]),
  (30, [.sipush 0, .ireturn])]
/-- B.change -/
def g_c113 : List (Nat × List Instr) := [(0, [.aload 0, .checkcast 576, .iload 1, .invokeinterface 69 2, .ifCond .ne 13, .sipush (-1), .ireturn]),
  (13, [.iload 2, .lookupswitch 156 #[(1, 44), (2, 71), (3, 98), (4, 124)]]),
  (44, [.iload 3, .sipush 0, .sipush 39, .invokeinterface 109 3, .ifCond .eq 58, .sipush (-1), .goto 70]),
  (58, [.aload 0, .checkcast 576, .checkcast 513, .iload 1, .iload 3, .invokeinterface 114 3, .jsr 70]),
  (70, [.ireturn]),
  (71, [.iload 3, .sipush 0, .sipush 9, .invokeinterface 109 3, .ifCond .eq 85, .sipush (-1), .goto 97]),
  (85, [.aload 0, .checkcast 576, .checkcast 514, .iload 1, .iload 3, .invokeinterface 114 3, .jsr 97]),
  (97, [.ireturn]),
  (98, [.iload 3, .sipush 0, .sipush 5, .invokeinterface 109 3, .ifCond .eq 111, .sipush (-1), .goto 123]),
  (111, [.aload 0, .checkcast 576, .checkcast 515, .iload 1, .iload 3, .invokeinterface 114 3, .jsr 123]),
  (123, [.ireturn]),
  (124, [.iload 3, .sipush 0, .sipush 1, .invokeinterface 109 3, .ifCond .eq 137, .sipush (-1), .goto 155]),
  (137, [.aload 0, .checkcast 576, .iload 1, .iload 3, .sipush 1, .if_icmp .ne 151, .sipush 1, .goto 152]),
  (151, [.sipush 0, .jsr 152]),
  (152, [.invokeinterface 74 3, .jsr 155]),
  (155, [.ireturn]),
  (156, [.sipush (-1), .ireturn])]
/-- B.put -/
def g_c114 : List (Nat × List Instr) := [(0, [.iload 1, .sipush 0, .aload 0, .arraylength, .sipush 1, .isub, .invokeinterface 109 3, .ifCond .eq 14, .sipush (-1), .ireturn]),
  (14, [.aload 0, .iload 1, .iaload, .istore 3, .aload 0, .iload 1, .iload 2, .iastore, .iload 3, .ireturn])]
/-- B.remake -/
def g_c115 : List (Nat × List Instr) := [(0, [.aload 0, .checkcast 576, .iload 1, .invokeinterface 69 2, .ifCond .eq 20, .iload 2, .sipush 1, .sipush 5, .invokeinterface 109 3, .ifCond .eq 22, .jsr 20]),
  (20, [.sipush (-1), .ireturn]),
  (22, [.aload 0, .checkcast 576, .checkcast 512, .iload 1, .iload 2, .invokeinterface 114 3, .ireturn])]
/-- B.news -/
def g_c116 : List (Nat × List Instr) := [(0, [.iload 1, .sipush 0, .sipush 15, .invokeinterface 109 3, .ifCond .ne 20, .iload 2, .sipush 0, .sipush 15, .invokeinterface 109 3, .ifCond .eq 22, .jsr 20]),
  (20, [.sipush (-1), .ireturn]),
  (22, [.aload 0, .checkcast 576, .checkcast 518, .iload 1, .iload 2, .invokeinterface 114 3, .ireturn])]
/-- B.home -/
def g_c117 : List (Nat × List Instr) := [(0, [.iload 1, .sipush 0, .sipush 5, .invokeinterface 109 3, .ifCond .ne 28, .iload 2, .sipush 0, .sipush 1, .invokeinterface 109 3, .ifCond .ne 28, .iload 3, .sipush 0, .sipush 9, .invokeinterface 109 3, .ifCond .eq 30, .jsr 28]),
  (28, [.sipush (-1), .ireturn]),
  (30, [.iload 2, .ifCond .ne 44, .aload 0, .checkcast 576, .checkcast 516, .goto 51]),
  (44, [.aload 0, .checkcast 576, .checkcast 517, .jsr 51]),
  (51, [.iload 1, .iload 3, .invokeinterface 114 3, .ireturn])]
/-- B.homeOf -/
def g_c118 : List (Nat × List Instr) := [(0, [.iload 1, .sipush 0, .sipush 5, .invokeinterface 109 3, .ifCond .ne 18, .iload 2, .sipush 0, .sipush 1, .invokeinterface 109 3, .ifCond .eq 20, .jsr 18]),
  (18, [.sipush (-1), .ireturn]),
  (20, [.iload 2, .ifCond .ne 36, .aload 0, .checkcast 576, .checkcast 516, .iload 1, .iaload, .goto 45]),
  (36, [.aload 0, .checkcast 576, .checkcast 517, .iload 1, .iaload, .jsr 45]),
  (45, [.ireturn])]
/-- B.family -/
def g_c119 : List (Nat × List Instr) := [(0, [.iload 1, .sipush 0, .sipush 1, .invokeinterface 109 3, .ifCond .ne 28, .iload 2, .sipush 0, .iload 1, .ifCond .ne 20, .sipush 9, .goto 22]),
  (20, [.sipush 40, .jsr 22]),
  (22, [.invokeinterface 109 3, .ifCond .eq 30, .jsr 28]),
  (28, [.sipush (-1), .ireturn]),
  (30, [.iload 1, .ifCond .ne 44, .aload 0, .checkcast 576, .getfield 526, .goto 51]),
  (44, [.aload 0, .checkcast 576, .getfield 527, .jsr 51]),
  (51, [.istore 3, .iload 1, .ifCond .ne 67, .aload 0, .checkcast 576, .iload 2, .putfield 526, .goto 75]),
  (67, [.aload 0, .checkcast 576, .iload 2, .putfield 527, .jsr 75]),
  (75, [.iload 3, .ireturn])]
/-- B.ends -/
def g_c120 : List (Nat × List Instr) := [(0, [.iload 1, .sipush 1, .sipush 16, .invokeinterface 109 3, .ifCond .eq 12, .sipush (-1), .ireturn]),
  (12, [.iload 1, .aload 0, .checkcast 576, .getfield 523, .if_icmp .ge 26, .sipush (-4), .ireturn]),
  (26, [.aload 0, .checkcast 576, .getfield 524, .istore 2, .aload 0, .checkcast 576, .iload 1, .putfield 524, .iload 2, .ireturn])]
/-- B.anew -/
def g_c121 : List (Nat × List Instr) := [(0, [.aload 0, .checkcast 576, .getfield 523, .istore 1, .aload 0, .checkcast 576, .invokeinterface 75 1, .iload 1, .ireturn])]
/-- B.state -/
def g_c122 : List (Nat × List Instr) := [(0, [.iload 1, .lookupswitch 127 #[(0, 48), (1, 56), (2, 64), (3, 72), (4, 88), (5, 96), (6, 111), (7, 119)]]),
  (48, [.aload 0, .checkcast 576, .getfield 523, .ireturn]),
  (56, [.aload 0, .checkcast 576, .getfield 524, .ireturn]),
  (64, [.aload 0, .checkcast 576, .getfield 525, .ireturn]),
  (72, [.aload 0, .checkcast 576, .invokeinterface 76 1, .ifCond .eq 86, .sipush 1, .goto 87]),
  (86, [.sipush 0, .jsr 87]),
  (87, [.ireturn]),
  (88, [.aload 0, .checkcast 576, .getfield 522, .ireturn]),
  (96, [.aload 0, .checkcast 576, .aload 0, .checkcast 576, .getfield 523, .invokeinterface 77 2, .ireturn]),
  (111, [.aload 0, .checkcast 576, .getfield 526, .ireturn]),
  (119, [.aload 0, .checkcast 576, .getfield 527, .ireturn]),
  (127, [.sipush (-1), .ireturn])]
/-- B.feed -/
def g_c123 : List (Nat × List Instr) := [(0, [.iload 3, .sipush 1, .sipush 8, .invokeinterface 109 3, .ifCond .eq 12, .sipush (-1), .ireturn]),
  (12, [.aload 0, .checkcast 579, .getfield 194, .iload 3, .iadd, .sipush 200, .if_icmp .le 30, .sipush (-2), .ireturn]),
  (30, [.aload 0, .checkcast 579, .lload 1, .iload 3, .invokeinterface 25 3, .ireturn])]
/-- B.rules -/
def g_c124 : List (Nat × List Instr) := [(0, [.aload 0, .checkcast 579, .invokeinterface 26 1, .istore 1, .iload 1, .sipush (-1), .if_icmp .eq 18, .sipush (-100), .iload 1, .isub, .ireturn]),
  (18, [.aload 0, .checkcast 576, .checkcast 519, .aload 0, .checkcast 579, .checkcast 192, .invokeinterface 16 2, .aload 0, .checkcast 576, .checkcast 519, .getfield 69, .ireturn])]
/-- B.year -/
def g_c125 : List (Nat × List Instr) := [(0, [.aload 0, .checkcast 576, .invokeinterface 76 1, .ifCond .eq 13, .sipush (-4), .ireturn]),
  (13, [.aload 0, .checkcast 576, .sipush (-1), .invokeinterface 78 2, .ireturn])]
/-- B.moodBehind -/
def g_c126 : List (Nat × List Instr) := [(0, [.iload 0, .sipush 4, .idiv, .istore 2, .iload 0, .sipush 4, .irem, .lookupswitch 72 #[(0, 32), (1, 41), (2, 49)]]),
  (32, [.sipush 9, .iload 1, .iload 2, .iadd, .dsub, .ireturn]),
  (41, [.sipush 0, .iload 1, .iload 2, .isub, .dadd, .ireturn]),
  (49, [.iload 1, .sipush 5, .if_icmp .ge 64, .sipush 5, .iload 1, .iload 2, .iadd, .dsub, .goto 71]),
  (64, [.sipush 5, .iload 1, .iload 2, .isub, .dadd, .jsr 71]),
  (71, [.ireturn]),
  (72, [.iload 1, .ireturn])]
/-- B.placesOf -/
def g_c127 : List (Nat × List Instr) := [(0, [.goto_w 1, .iload 1, .lshl, .goto_w 1, .lsub, .iload 0, .lshl, .lreturn])]
/-- B.stepsOn -/
def g_c128 : List (Nat × List Instr) := [(0, [.sipush 0, .istore 4, .jsr 3]),
  (3, [.iload 4, .iload 3, .if_icmp .gt 37, .iload 2, .iload 4, .iadd, .sipush 40, .if_icmp .ge 37, .lload 0, .iload 2, .iload 4, .iadd, .lushr, .goto_w 1, .land, .goto_w 1, .lcmp, .ifCond .ne 37, .iinc 4 1, .goto 3]),
  (37, [.iload 4, .ireturn])]
/-- B.on -/
def g_c129 : List (Nat × List Instr) := [(0, [.iload 1, .sipush 0, .sipush 16, .invokeinterface 109 3, .ifCond .eq 12, .sipush (-1), .ireturn]),
  (12, [.aload 0, .checkcast 576, .iload 1, .invokeinterface 84 2, .ireturn])]
/-- B.when -/
def g_c130 : List (Nat × List Instr) := [(0, [.aload 0, .checkcast 576, .iload 1, .invokeinterface 69 2, .ifCond .ne 13, .sipush (-1), .ireturn]),
  (13, [.aload 0, .checkcast 576, .iload 1, .invokeinterface 70 2, .ifCond .eq 29, .sipush (-3), .goto 40]),
  (29, [.aload 0, .checkcast 576, .sipush 1, .iload 1, .ishl, .sipush 0, .invokeinterface 88 3, .jsr 40]),
  (40, [.ireturn])]
/-- B.widthFor -/
def g_c131 : List (Nat × List Instr) := [(0, [.aload 0, .checkcast 576, .iload 1, .invokeinterface 69 2, .ifCond .ne 13, .sipush (-1), .ireturn]),
  (13, [.aload 0, .checkcast 576, .aload 0, .checkcast 576, .checkcast 514, .iload 1, .sipush 9, .invokeinterface 89 4, .ireturn])]
/-- B.pieceFor -/
def g_c132 : List (Nat × List Instr) := [(0, [.aload 0, .checkcast 576, .iload 1, .invokeinterface 69 2, .ifCond .ne 13, .sipush (-1), .ireturn]),
  (13, [.aload 0, .checkcast 576, .aload 0, .checkcast 576, .checkcast 513, .iload 1, .sipush 39, .invokeinterface 89 4, .ireturn])]
/-- B.over -/
def g_c133 : List (Nat × List Instr) := [(0, [.iload 1, .sipush 0, .sipush 40, .invokeinterface 109 3, .ifCond .eq 12, .sipush (-1), .ireturn]),
  (12, [.aload 0, .checkcast 576, .sipush 0, .iload 1, .invokeinterface 88 3, .ireturn])]
/-- B.gap -/
def g_c134 : List (Nat × List Instr) := [(0, [.iload 1, .ifCond .ne 12, .aload 0, .checkcast 576, .invokeinterface 90 1, .ireturn]),
  (12, [.iload 1, .sipush 1, .if_icmp .ne 27, .aload 0, .checkcast 576, .invokeinterface 92 1, .goto 28]),
  (27, [.sipush (-1), .jsr 28]),
  (28, [.ireturn])]
/-- B.branches -/
def g_c135 : List (Nat × List Instr) := [(0, [.iload 1, .sipush (-1), .if_icmp .ne 13, .aload 0, .checkcast 576, .invokeinterface 93 1, .ireturn]),
  (13, [.aload 0, .checkcast 576, .iload 1, .invokeinterface 69 2, .ifCond .eq 35, .aload 0, .checkcast 576, .iload 1, .invokeinterface 94 2, .goto 36]),
  (35, [.sipush (-1), .jsr 36]),
  (36, [.ireturn])]
/-- B.leastOf -/
def g_c136 : List (Nat × List Instr) := [(0, [.sipush 0, .istore 1, .jsr 2]),
  (2, [.iload 1, .sipush 6, .if_icmp .ge 25, .iload 0, .iload 1, .ishr, .sipush 1, .iand, .sipush 1, .if_icmp .ne 19, .iload 1, .ireturn]),
  (19, [.iinc 1 1, .goto 2]),
  (25, [.sipush (-3), .ireturn])]
/-- B.fetch -/
def g_c137 : List (Nat × List Instr) := [(0, [.iload 1, .sipush 0, .sipush 40, .invokeinterface 109 3, .ifCond .ne 19, .iload 2, .sipush 0, .sipush 1, .invokeinterface 109 3, .ifCond .eq 21, .jsr 19]),
  (19, [.sipush (-1), .ireturn]),
  (21, [.aload 0, .checkcast 576, .invokeinterface 91 1, .aload 0, .checkcast 576, .getfield 522, .sipush (-1), .ixor, .iand, .istore 3, .iload 2, .ifCond .ne 53, .aload 0, .checkcast 576, .iload 1, .iload 3, .invokeinterface 97 3, .ireturn]),
  (53, [.aload 0, .checkcast 576, .iload 1, .iload 3, .invokeinterface 98 3, .ireturn])]
/-- B.best -/
def g_c138 : List (Nat × List Instr) := [(0, [.iload 1, .sipush 0, .sipush 4, .invokeinterface 109 3, .ifCond .eq 11, .sipush (-1), .ireturn]),
  (11, [.aload 0, .checkcast 580, .iload 1, .sipush 0, .invokeinterface 18 3, .aload 0, .checkcast 580, .getfield 133, .ireturn])]
/-- B.ith -/
def g_c139 : List (Nat × List Instr) := [(0, [.iload 1, .sipush 0, .sipush 4, .invokeinterface 109 3, .ifCond .ne 18, .iload 2, .sipush 0, .sipush 3, .invokeinterface 109 3, .ifCond .eq 20, .jsr 18]),
  (18, [.sipush (-1), .ireturn]),
  (20, [.aload 0, .checkcast 580, .iload 1, .sipush 0, .invokeinterface 18 3, .iload 2, .aload 0, .checkcast 580, .getfield 131, .if_icmp .ge 52, .aload 0, .checkcast 580, .checkcast 130, .iload 2, .iaload, .goto 54]),
  (52, [.sipush (-3), .jsr 54]),
  (54, [.ireturn])]
/-- B.ways -/
def g_c140 : List (Nat × List Instr) := [(0, [.iload 1, .sipush 0, .sipush 4, .invokeinterface 109 3, .ifCond .eq 11, .sipush (-1), .ireturn]),
  (11, [.aload 0, .checkcast 580, .iload 1, .sipush 0, .invokeinterface 18 3, .aload 0, .checkcast 580, .getfield 134, .ireturn])]
/-- B.supper -/
def g_c141 : List (Nat × List Instr) := [(0, [.iload 1, .sipush 0, .sipush 4, .invokeinterface 109 3, .ifCond .ne 24, .iload 2, .sipush 0, .aload 0, .checkcast 576, .invokeinterface 91 1, .invokeinterface 109 3, .ifCond .eq 26, .jsr 24]),
  (24, [.sipush (-1), .ireturn]),
  (26, [.aload 0, .checkcast 580, .iload 1, .iload 2, .invokeinterface 18 3, .aload 0, .checkcast 580, .getfield 135, .ireturn])]
/-- B.bars -/
def g_c142 : List (Nat × List Instr) := [(0, [.iload 1, .sipush 0, .sipush 4, .invokeinterface 109 3, .ifCond .ne 24, .iload 2, .sipush 0, .aload 0, .checkcast 576, .invokeinterface 91 1, .invokeinterface 109 3, .ifCond .eq 26, .jsr 24]),
  (24, [.sipush (-1), .ireturn]),
  (26, [.aload 0, .checkcast 580, .iload 1, .iload 2, .invokeinterface 18 3, .iload 2, .aload 0, .checkcast 580, .getfield 136, .sipush (-1), .ixor, .iand, .invokeinterface 136 1, .ireturn])]
/-- B.game -/
def g_c143 : List (Nat × List Instr) := [(0, [.iload 1, .sipush 1, .sipush 4, .invokeinterface 109 3, .ifCond .eq 11, .sipush (-1), .ireturn]),
  (11, [.aload 0, .checkcast 580, .aload 0, .checkcast 576, .iload 1, .invokeinterface 86 2, .sipush 1, .invokeinterface 21 3, .ireturn])]
/-- B.play -/
def g_c144 : List (Nat × List Instr) := [(0, [.iload 1, .sipush 1, .sipush 4, .invokeinterface 109 3, .ifCond .eq 11, .sipush (-1), .ireturn]),
  (11, [.aload 0, .checkcast 576, .invokeinterface 76 1, .ifCond .eq 26, .sipush (-3), .goto 41]),
  (26, [.aload 0, .checkcast 580, .aload 0, .checkcast 576, .iload 1, .invokeinterface 86 2, .invokeinterface 23 2, .jsr 41]),
  (41, [.ireturn])]
/-- B.report -/
def g_c145 : List (Nat × List Instr) := [(0, [.iload 1, .sipush 0, .sipush 15, .invokeinterface 109 3, .ifCond .ne 19, .iload 2, .sipush 0, .sipush 1, .invokeinterface 109 3, .ifCond .eq 21, .jsr 19]),
  (19, [.sipush (-1), .ireturn]),
  (21, [.iload 2, .ifCond .ne 30, .sipush 40, .goto 32]),
  (30, [.sipush 9, .jsr 32]),
  (32, [.istore 5, .iload 3, .sipush 0, .iload 5, .invokeinterface 109 3, .ifCond .ne 55, .iload 4, .iload 3, .iload 5, .invokeinterface 109 3, .ifCond .eq 57, .jsr 55]),
  (55, [.sipush (-1), .ireturn]),
  (57, [.aload 0, .checkcast 576, .checkcast 520, .getfield 260, .sipush 6, .if_icmp .lt 75, .sipush (-2), .ireturn]),
  (75, [.aload 0, .checkcast 576, .checkcast 520, .iload 1, .iload 2, .iload 3, .iload 4, .invokeinterface 49 5, .ireturn])]
/-- B.forget -/
def g_c146 : List (Nat × List Instr) := [(0, [.aload 0, .checkcast 576, .checkcast 520, .getfield 260, .istore 1, .aload 0, .checkcast 576, .checkcast 520, .sipush 0, .putfield 260, .iload 1, .ireturn])]
/-- B.lost -/
def g_c147 : List (Nat × List Instr) := [(0, [.iload 1, .sipush 0, .sipush 3, .invokeinterface 109 3, .ifCond .eq 11, .sipush (-1), .ireturn]),
  (11, [.iload 1, .ifCond .ne 25, .aload 0, .checkcast 576, .invokeinterface 99 1, .goto 33]),
  (25, [.aload 0, .checkcast 576, .iload 1, .invokeinterface 101 2, .jsr 33]),
  (33, [.ireturn])]
/-- B.liar -/
def g_c148 : List (Nat × List Instr) := [(0, [.aload 0, .checkcast 576, .invokeinterface 102 1, .ireturn])]
/-- B.seed -/
def g_c149 : List (Nat × List Instr) := [(0, [.aload 0, .checkcast 576, .getfield 528, .istore 2, .aload 0, .checkcast 576, .iload 1, .putfield 528, .iload 2, .ireturn])]
/-- B.lot -/
def g_c150 : List (Nat × List Instr) := [(0, [.aload 0, .checkcast 576, .invokeinterface 76 1, .ifCond .eq 13, .sipush (-4), .ireturn]),
  (13, [.aload 0, .checkcast 576, .aload 0, .checkcast 576, .invokeinterface 103 1, .invokeinterface 78 2, .ireturn])]
/-- B.times -/
def g_c151 : List (Nat × List Instr) := [(0, [.iload 1, .sipush 1, .sipush 40, .invokeinterface 109 3, .ifCond .ne 21, .iload 2, .sipush 0, .sipush 999, .invokeinterface 109 3, .ifCond .eq 23, .jsr 21]),
  (21, [.sipush (-1), .ireturn]),
  (23, [.aload 0, .checkcast 576, .getfield 528, .istore 3, .sipush 0, .istore 4, .sipush 0, .istore 5, .jsr 37]),
  (37, [.iload 5, .iload 1, .if_icmp .ge 63, .aload 0, .checkcast 576, .invokeinterface 104 1, .iload 2, .if_icmp .lt 57, .iinc 4 1, .jsr 57]),
  (57, [.iinc 5 1, .goto 37]),
  (63, [.aload 0, .checkcast 576, .iload 3, .putfield 528, .iload 4, .ireturn])]
/-- B.prove -/
def g_c152 : List (Nat × List Instr) := [(0, [.iload 1, .sipush 0, .sipush 4, .invokeinterface 109 3, .ifCond .eq 11, .sipush (-1), .ireturn]),
  (11, [.aload 0, .checkcast 580, .iload 1, .sipush 0, .invokeinterface 18 3, .aload 0, .checkcast 581, .aload 0, .checkcast 580, .checkcast 130, .aload 0, .checkcast 580, .getfield 131, .invokeinterface 54 3, .ireturn])]
/-- B.row -/
def g_c153 : List (Nat × List Instr) := [(0, [.aload 0, .checkcast 581, .iload 1, .iload 2, .invokeinterface 55 3, .ifCond .eq 28, .aload 0, .checkcast 581, .checkcast 321, .sipush 3, .iload 1, .imul, .iload 2, .iadd, .iaload, .goto 30]),
  (28, [.sipush (-9), .jsr 30]),
  (30, [.ireturn])]
/-- B.alterRow -/
def g_c154 : List (Nat × List Instr) := [(0, [.aload 0, .checkcast 581, .iload 1, .iload 2, .invokeinterface 55 3, .ifCond .eq 31, .aload 0, .checkcast 581, .checkcast 321, .sipush 3, .iload 1, .imul, .iload 2, .iadd, .iload 3, .invokeinterface 114 3, .goto 33]),
  (31, [.sipush (-9), .jsr 33]),
  (33, [.ireturn])]
/-- B.judge -/
def g_c155 : List (Nat × List Instr) := [(0, [.aload 0, .checkcast 581, .invokeinterface 56 1, .ireturn])]
/-- B.sheet -/
def g_c156 : List (Nat × List Instr) := [(0, [.iload 1, .sipush 0, .sipush 3, .invokeinterface 109 3, .ifCond .ne 18, .iload 2, .sipush (-1), .sipush 4, .invokeinterface 109 3, .ifCond .eq 20, .jsr 18]),
  (18, [.sipush (-1), .ireturn]),
  (20, [.iload 2, .sipush (-1), .if_icmp .eq 33, .iload 3, .sipush 40, .if_icmp .le 33, .sipush (-1), .ireturn]),
  (33, [.iload 2, .sipush (-1), .if_icmp .eq 45, .iload 3, .ifCond .ge 45, .sipush (-14), .ireturn]),
  (45, [.aload 0, .checkcast 582, .iload 1, .aaload, .iload 2, .iload 2, .sipush (-1), .if_icmp .ne 61, .sipush 0, .goto 62]),
  (61, [.iload 3, .jsr 62]),
  (62, [.invokeinterface 59 3, .sipush 1, .ireturn])]
/-- B.write -/
def g_c157 : List (Nat × List Instr) := [(0, [.iload 1, .sipush 0, .sipush 3, .invokeinterface 109 3, .ifCond .eq 11, .sipush (-1), .ireturn]),
  (11, [.aload 0, .checkcast 582, .iload 1, .aaload, .getfield 385, .sipush (-1), .if_icmp .ne 27, .sipush (-11), .ireturn]),
  (27, [.aload 0, .checkcast 582, .iload 1, .aaload, .iload 2, .invokeinterface 60 2, .ifCond .ne 43, .sipush (-12), .ireturn]),
  (43, [.aload 0, .checkcast 582, .iload 1, .aaload, .iload 2, .iload 3, .invokeinterface 61 3, .sipush 1, .ireturn])]
/-- B.item -/
def g_c158 : List (Nat × List Instr) := [(0, [.iload 1, .sipush 0, .sipush 3, .invokeinterface 109 3, .ifCond .ne 18, .iload 2, .sipush 0, .sipush 4, .invokeinterface 109 3, .ifCond .eq 20, .jsr 18]),
  (18, [.sipush (-1), .ireturn]),
  (20, [.aload 0, .checkcast 582, .iload 1, .aaload, .iload 2, .invokeinterface 63 2, .istore 4, .iload 4, .ifCond .eq 40, .iload 4, .ireturn]),
  (40, [.aload 0, .checkcast 582, .iload 1, .aaload, .iload 3, .invokeinterface 60 2, .ifCond .eq 68, .aload 0, .checkcast 582, .iload 1, .aaload, .checkcast 384, .iload 3, .laload, .l2i, .goto 70]),
  (68, [.sipush (-12), .jsr 70]),
  (70, [.ireturn])]
/-- B.goAll -/
def g_c159 : List (Nat × List Instr) := [(0, [.iload 1, .sipush 0, .sipush 3, .invokeinterface 109 3, .ifCond .ne 19, .iload 3, .sipush 0, .sipush 20, .invokeinterface 109 3, .ifCond .eq 21, .jsr 19]),
  (19, [.sipush (-1), .ireturn]),
  (21, [.aload 0, .checkcast 582, .iload 1, .aaload, .astore 4, .aload 4, .sipush 0, .invokeinterface 63 2, .istore 5, .iload 5, .ifCond .eq 45, .iload 5, .ireturn]),
  (45, [.sipush 0, .istore 6, .sipush 0, .istore 7, .jsr 51]),
  (51, [.iload 7, .iload 3, .if_icmp .ge 127, .aload 4, .iload 2, .iload 7, .iadd, .invokeinterface 60 2, .ifCond .ne 72, .sipush (-12), .ireturn]),
  (72, [.aload 4, .checkcast 384, .iload 2, .iload 7, .iadd, .laload, .l2i, .istore 8, .aload 0, .checkcast 576, .iload 8, .invokeinterface 105 2, .ifCond .eq 121, .aload 0, .checkcast 576, .invokeinterface 76 1, .ifCond .ne 121, .iload 6, .aload 0, .checkcast 576, .iload 8, .invokeinterface 78 2, .iadd, .istore 6, .jsr 121]),
  (121, [.iinc 7 1, .goto 51]),
  (127, [.iload 6, .ireturn])]
/-- B.wouldBe -/
def g_c160 : List (Nat × List Instr) := [(0, [.iload 1, .sipush 0, .sipush 3, .invokeinterface 109 3, .ifCond .ne 19, .iload 3, .sipush 0, .sipush 20, .invokeinterface 109 3, .ifCond .eq 21, .jsr 19]),
  (19, [.sipush (-1), .ireturn]),
  (21, [.aload 0, .checkcast 582, .iload 1, .aaload, .sipush 0, .invokeinterface 63 2, .istore 4, .iload 4, .ifCond .eq 41, .iload 4, .ireturn]),
  (41, [.aload 0, .checkcast 576, .invokeinterface 85 1, .istore 5, .aload 0, .aload 0, .checkcast 582, .iload 1, .aaload, .iload 2, .iload 3, .invokeinterface 161 4, .istore 6, .aload 0, .checkcast 576, .iload 5, .invokeinterface 87 2, .iload 6, .ireturn])]
/-- B.worthOfItems -/
def g_c161 : List (Nat × List Instr) := [(0, [.sipush 0, .istore 4, .sipush 0, .istore 5, .jsr 6]),
  (6, [.iload 5, .iload 3, .if_icmp .ge 83, .aload 1, .iload 2, .iload 5, .iadd, .invokeinterface 60 2, .ifCond .ne 26, .sipush (-12), .ireturn]),
  (26, [.aload 1, .checkcast 384, .iload 2, .iload 5, .iadd, .laload, .l2i, .istore 6, .aload 0, .checkcast 576, .iload 6, .invokeinterface 105 2, .ifCond .eq 60, .aload 0, .checkcast 576, .invokeinterface 76 1, .ifCond .eq 63, .jsr 60]),
  (60, [.sipush (-4), .ireturn]),
  (63, [.iload 4, .aload 0, .checkcast 576, .iload 6, .invokeinterface 79 2, .iadd, .istore 4, .iinc 5 1, .goto 6]),
  (83, [.iload 4, .ireturn])]
/-- B.shelf -/
def g_c162 : List (Nat × List Instr) := [(0, [.iload 1, .sipush 0, .sipush 3, .invokeinterface 109 3, .ifCond .ne 18, .iload 2, .sipush 0, .sipush 2, .invokeinterface 109 3, .ifCond .eq 20, .jsr 18]),
  (18, [.sipush (-1), .ireturn]),
  (20, [.iload 2, .ifCond .ne 37, .aload 0, .checkcast 576, .iload 3, .invokeinterface 69 2, .ifCond .ne 37, .sipush (-1), .ireturn]),
  (37, [.iload 2, .sipush 1, .if_icmp .ne 53, .iload 3, .sipush 0, .sipush 3, .invokeinterface 109 3, .ifCond .eq 53, .sipush (-1), .ireturn]),
  (53, [.iload 2, .sipush 1, .if_icmp .ne 88, .aload 0, .checkcast 583, .iload 1, .aaload, .aload 0, .checkcast 582, .iload 3, .aaload, .getfield 385, .aload 0, .checkcast 582, .iload 3, .aaload, .getfield 386, .invokeinterface 65 3, .goto 99]),
  (88, [.aload 0, .checkcast 583, .iload 1, .aaload, .iload 2, .iload 3, .invokeinterface 66 3, .jsr 99]),
  (99, [.sipush 1, .ireturn])]
/-- B.taken -/
def g_c163 : List (Nat × List Instr) := [(0, [.iload 2, .sipush 0, .sipush 5, .invokeinterface 109 3, .ifCond .ne 13, .sipush 1, .goto 14]),
  (13, [.sipush 0, .jsr 14]),
  (14, [.istore 3, .iload 2, .sipush 10, .sipush 14, .invokeinterface 109 3, .ifCond .ne 30, .sipush 1, .goto 31]),
  (30, [.sipush 0, .jsr 31]),
  (31, [.istore 4, .iload 1, .sipush 0, .sipush 3, .invokeinterface 109 3, .ifCond .ne 51, .iload 3, .ifCond .ne 53, .iload 4, .ifCond .ne 53, .jsr 51]),
  (51, [.sipush (-1), .ireturn]),
  (53, [.aload 0, .checkcast 583, .iload 1, .aaload, .astore 5, .aload 0, .aload 5, .invokeinterface 164 2, .istore 6, .iload 6, .sipush 2, .if_icmp .ne 78, .sipush (-11), .ireturn]),
  (78, [.iload 6, .sipush 1, .if_icmp .ne 112, .iload 4, .ifCond .eq 109, .aload 5, .getfield 450, .iload 2, .sipush 10, .isub, .if_icmp .ne 109, .aload 5, .getfield 451, .goto 111]),
  (109, [.sipush (-13), .jsr 111]),
  (111, [.ireturn]),
  (112, [.iload 3, .ifCond .eq 144, .aload 0, .checkcast 576, .checkcast 512, .aload 5, .getfield 449, .iaload, .iload 2, .invokeinterface 112 2, .ifCond .eq 144, .aload 5, .getfield 449, .goto 146]),
  (144, [.sipush (-13), .jsr 146]),
  (146, [.ireturn])]
/-- B.heldOn -/
def g_c164 : List (Nat × List Instr) := [(0, [.aload 1, .getfield 448, .ifCond .ne 23, .aload 0, .checkcast 576, .aload 1, .getfield 449, .invokeinterface 69 2, .ifCond .ne 23, .sipush 2, .ireturn]),
  (23, [.aload 1, .getfield 448, .ireturn])]
/-- B.act -/
def g_c165 : List (Nat × List Instr) := [(0, [.aload 0, .checkcast 584, .sipush 0, .putfield 1, .iload 1, .sipush 0, .sipush 3, .invokeinterface 109 3, .ifCond .ne 26, .iload 2, .sipush 0, .sipush 3, .invokeinterface 109 3, .ifCond .eq 28, .jsr 26]),
  (26, [.sipush 0, .ireturn]),
  (28, [.aload 0, .aload 0, .checkcast 583, .iload 1, .aaload, .invokeinterface 164 2, .ifCond .eq 43, .sipush 0, .ireturn]),
  (43, [.aload 0, .checkcast 583, .iload 1, .aaload, .getfield 449, .istore 4, .aload 0, .checkcast 584, .aload 0, .checkcast 576, .checkcast 512, .iload 4, .iaload, .iload 4, .aload 0, .checkcast 576, .checkcast 515, .iload 4, .iaload, .invokeinterface 1 4, .aload 0, .checkcast 584, .iload 2, .iload 3, .invokeinterface 2 3, .ireturn])]
/-- B.trace -/
def g_c166 : List (Nat × List Instr) := [(0, [.iload 1, .sipush 0, .aload 0, .checkcast 584, .getfield 1, .sipush 1, .isub, .invokeinterface 109 3, .ifCond .eq 22, .sipush (-3), .goto 31]),
  (22, [.aload 0, .checkcast 584, .checkcast 0, .iload 1, .iaload, .jsr 31]),
  (31, [.ireturn])]
/-- B.many -/
def g_c167 : List (Nat × List Instr) := [(0, [.iload 1, .lookupswitch 109 #[(0, 44), (1, 52), (2, 63), (3, 74), (4, 85), (5, 93), (6, 101)]]),
  (44, [.aload 0, .checkcast 576, .getfield 521, .ireturn]),
  (52, [.aload 0, .checkcast 576, .checkcast 519, .getfield 69, .ireturn]),
  (63, [.aload 0, .checkcast 576, .getfield 522, .invokeinterface 300 1, .ireturn]),
  (74, [.aload 0, .checkcast 576, .checkcast 520, .getfield 260, .ireturn]),
  (85, [.aload 0, .checkcast 581, .getfield 322, .ireturn]),
  (93, [.aload 0, .checkcast 579, .getfield 194, .ireturn]),
  (101, [.aload 0, .checkcast 584, .getfield 1, .ireturn]),
  (109, [.sipush (-1), .ireturn])]
/-- B.keep -/
def g_c168 : List (Nat × List Instr) := [(0, [.aload 0, .checkcast 577, .aload 0, .checkcast 576, .invokeinterface 106 2, .aload 0, .sipush 1, .putfield 578, .sipush 1, .ireturn])]
/-- B.again -/
def g_c169 : List (Nat × List Instr) := [(0, [.aload 0, .getfield 578, .ifCond .ne 10, .sipush (-3), .ireturn]),
  (10, [.aload 0, .checkcast 576, .aload 0, .checkcast 577, .invokeinterface 106 2, .aload 0, .checkcast 576, .getfield 521, .ireturn])]
/-- M.init -/
def g_c170 : List (Nat × List Instr) := [(0, [.aload 0, .pop2, .aload 0, .sipush 322, .newarray .int, .instanceof 640, .aload 0, .sipush 322, .newarray .int, .instanceof 641, .aload 0, .sipush 74, .newarray .int, .instanceof 642, .aload 0, .sipush 200, .newarray .int, .instanceof 644, .aload 0, .sipush 200, .newarray .int, .instanceof 645, .aload 0, .sipush 144, .newarray .char, .dup, .sipush 0, .sipush 112, .castore, .dup, .sipush 1, .sipush 108, .castore, .dup, .sipush 2, .sipush 97, .castore, .dup, .sipush 3, .sipush 116, .castore, .dup, .sipush 4, .sipush 101, .castore, .dup, .sipush 5, .sipush 32, .castore, .dup, .sipush 6, .sipush 32, .castore, .dup, .sipush 7, .sipush 32, .castore, .dup, .sipush 8, .sipush 100, .castore, .dup, .sipush 9, .sipush 105, .castore, .dup, .sipush 10, .sipush 115, .castore, .dup, .sipush 11, .sipush 104, .castore, .dup, .sipush 12, .sipush 32, .castore, .dup, .sipush 13, .sipush 32, .castore, .dup, .sipush 14, .sipush 32, .castore, .dup, .sipush 15, .sipush 32, .castore, .dup, .sipush 16, .sipush 116, .castore, .dup, .sipush 17, .sipush 117, .castore, .dup, .sipush 18, .sipush 114, .castore, .dup, .sipush 19, .sipush 101, .castore, .dup, .sipush 20, .sipush 101, .castore, .dup, .sipush 21, .sipush 110, .castore, .dup, .sipush 22, .sipush 32, .castore, .dup, .sipush 23, .sipush 32, .castore, .dup, .sipush 24, .sipush 98, .castore, .dup, .sipush 25, .sipush 111, .castore, .dup, .sipush 26, .sipush 97, .castore, .dup, .sipush 27, .sipush 116, .castore, .dup, .sipush 28, .sipush 32, .castore, .dup, .sipush 29, .sipush 32, .castore, .dup, .sipush 30, .sipush 32, .castore, .dup, .sipush 31, .sipush 32, .castore, .dup, .sipush 32, .sipush 115, .castore, .dup, .sipush 33, .sipush 97, .castore, .dup, .sipush 34, .sipush 117, .castore, .dup, .sipush 35, .sipush 99, .castore, .dup, .sipush 36, .sipush 101, .castore, .dup, .sipush 37, .sipush 114, .castore, .dup, .sipush 38, .sipush 32, .castore, .dup, .sipush 39, .sipush 32, .castore, .dup, .sipush 40, .sipush 99, .castore, .dup, .sipush 41, .sipush 114, .castore, .dup, .sipush 42, .sipush 97, .castore, .dup, .sipush 43, .sipush 99, .castore, .dup, .sipush 44, .sipush 107, .castore, .dup, .sipush 45, .sipush 101, .castore, .dup, .sipush 46, .sipush 100, .castore, .dup, .sipush 47, .sipush 32, .castore, .dup, .sipush 48, .sipush 115, .castore, .dup, .sipush 49, .sipush 105, .castore, .dup, .sipush 50, .sipush 116, .castore, .dup, .sipush 51, .sipush 32, .castore, .dup, .sipush 52, .sipush 32, .castore, .dup, .sipush 53, .sipush 32, .castore, .dup, .sipush 54, .sipush 32, .castore, .dup, .sipush 55, .sipush 32, .castore, .dup, .sipush 56, .sipush 115, .castore, .dup, .sipush 57, .sipush 116, .castore, .dup, .sipush 58, .sipush 97, .castore, .dup, .sipush 59, .sipush 110, .castore, .dup, .sipush 60, .sipush 100, .castore, .dup, .sipush 61, .sipush 32, .castore, .dup, .sipush 62, .sipush 32, .castore, .dup, .sipush 63, .sipush 32, .castore, .dup, .sipush 64, .sipush 108, .castore, .dup, .sipush 65, .sipush 101, .castore, .dup, .sipush 66, .sipush 97, .castore, .dup, .sipush 67, .sipush 118, .castore, .dup, .sipush 68, .sipush 101, .castore, .dup, .sipush 69, .sipush 32, .castore, .dup, .sipush 70, .sipush 32, .castore, .dup, .sipush 71, .sipush 32, .castore, .dup, .sipush 72, .sipush 105, .castore, .dup, .sipush 73, .sipush 102, .castore, .dup, .sipush 74, .sipush 32, .castore, .dup, .sipush 75, .sipush 32, .castore, .dup, .sipush 76, .sipush 32, .castore, .dup, .sipush 77, .sipush 32, .castore, .dup, .sipush 78, .sipush 32, .castore, .dup, .sipush 79, .sipush 32, .castore, .dup, .sipush 80, .sipush 110, .castore, .dup, .sipush 81, .sipush 111, .castore, .dup, .sipush 82, .sipush 116, .castore, .dup, .sipush 83, .sipush 32, .castore, .dup, .sipush 84, .sipush 32, .castore, .dup, .sipush 85, .sipush 32, .castore, .dup, .sipush 86, .sipush 32, .castore, .dup, .sipush 87, .sipush 32, .castore, .dup, .sipush 88, .sipush 97, .castore, .dup, .sipush 89, .sipush 110, .castore, .dup, .sipush 90, .sipush 100, .castore, .dup, .sipush 91, .sipush 32, .castore, .dup, .sipush 92, .sipush 32, .castore, .dup, .sipush 93, .sipush 32, .castore, .dup, .sipush 94, .sipush 32, .castore, .dup, .sipush 95, .sipush 32, .castore, .dup, .sipush 96, .sipush 111, .castore, .dup, .sipush 97, .sipush 114, .castore, .dup, .sipush 98, .sipush 32, .castore, .dup, .sipush 99, .sipush 32, .castore, .dup, .sipush 100, .sipush 32, .castore, .dup, .sipush 101, .sipush 32, .castore, .dup, .sipush 102, .sipush 32, .castore, .dup, .sipush 103, .sipush 32, .castore, .dup, .sipush 104, .sipush 121, .castore, .dup, .sipush 105, .sipush 101, .castore, .dup, .sipush 106, .sipush 97, .castore, .dup, .sipush 107, .sipush 114, .castore, .dup, .sipush 108, .sipush 32, .castore, .dup, .sipush 109, .sipush 32, .castore, .dup, .sipush 110, .sipush 32, .castore, .dup, .sipush 111, .sipush 32, .castore, .dup, .sipush 112, .sipush 119, .castore, .dup, .sipush 113, .sipush 105, .castore, .dup, .sipush 114, .sipush 100, .castore, .dup, .sipush 115, .sipush 116, .castore, .dup, .sipush 116, .sipush 104, .castore, .dup, .sipush 117, .sipush 32, .castore, .dup, .sipush 118, .sipush 32, .castore, .dup, .sipush 119, .sipush 32, .castore, .dup, .sipush 120, .sipush 103, .castore, .dup, .sipush 121, .sipush 114, .castore, .dup, .sipush 122, .sipush 117, .castore, .dup, .sipush 123, .sipush 100, .castore, .dup, .sipush 124, .sipush 103, .castore, .dup, .sipush 125, .sipush 101, .castore, .dup, .sipush 126, .sipush 32, .castore, .dup, .sipush 127, .sipush 32, .castore, .dup, .sipush 128, .sipush 109, .castore, .dup, .sipush 129, .sipush 111, .castore, .dup, .sipush 130, .sipush 111, .castore, .dup, .sipush 131, .sipush 100, .castore, .dup, .sipush 132, .sipush 32, .castore, .dup, .sipush 133, .sipush 32, .castore, .dup, .sipush 134, .sipush 32, .castore, .dup, .sipush 135, .sipush 32, .castore, .dup, .sipush 136, .sipush 110, .castore, .dup, .sipush 137, .sipush 117, .castore, .dup, .sipush 138, .sipush 109, .castore, .dup, .sipush 139, .sipush 98, .castore, .dup, .sipush 140, .sipush 101, .castore, .dup, .sipush 141, .sipush 114, .castore, .dup, .sipush 142, .sipush 32, .castore, .dup, .sipush 143, .sipush 32, .castore, .instanceof 647, .aload 0, .sipush 200, .newarray .int, .instanceof 654, .aload 0, .sipush 24, .newarray .int, .instanceof 655, .aload 0, .sipush 370, .newarray .int, .instanceof 658, .aload 0, .sipush 4, .newarray .int, .instanceof 659, .aload 0, .sipush 4, .newarray .int, .instanceof 660, .aload 0, .sipush 16, .newarray .int, .instanceof 665, .aload 0, .sipush 16, .newarray .int, .instanceof 666, .aload 0, .sipush 12, .newarray .int, .instanceof 668, .aload 0, .sipush 4, .newarray .int, .dup, .sipush 0, .sipush (-1), .iastore, .dup, .sipush 1, .sipush (-1), .iastore, .dup, .sipush 2, .sipush (-1), .iastore, .dup, .sipush 3, .sipush (-1), .iastore, .instanceof 670, .aload 0, .sipush 4, .newarray .int, .instanceof 671, .aload 0, .sipush 160, .newarray .int, .instanceof 672, .aload 0, .sipush 4, .newarray .int, .dup, .sipush 0, .sipush (-1), .iastore, .dup, .sipush 1, .sipush (-1), .iastore, .dup, .sipush 2, .sipush (-1), .iastore, .dup, .sipush 3, .sipush (-1), .iastore, .instanceof 673, .aload 0, .sipush 4, .newarray .int, .instanceof 674, .aload 0, .sipush 30, .newarray .int, .instanceof 675, .aload 0, .checkcast 640, .sipush 1, .sipush 12, .iastore, .aload 0, .checkcast 640, .sipush 3, .sipush 5, .iastore, .aload 0, .checkcast 640, .sipush 5, .sipush 1, .iastore, .sipush 0, .istore 1, .jsr 1096]),
  (1096, [.iload 1, .sipush 16, .if_icmp .ge 1118, .aload 0, .checkcast 640, .sipush 10, .iload 1, .iadd, .sipush 4, .iastore, .iinc 1 1, .goto 1096]),
  (1118, [.sipush 0, .istore 1, .jsr 1120]),
  (1120, [.iload 1, .sipush 6, .if_icmp .ge 1142, .aload 0, .checkcast 640, .sipush 32, .iload 1, .iadd, .sipush 3, .iastore, .iinc 1 1, .goto 1120]),
  (1142, [.return_])]
/-- M.feed -/
def g_c171 : List (Nat × List Instr) := [(0, [.iload 3, .sipush 1, .sipush 8, .invokeinterface 172 3, .ifCond .ne 12, .sipush (-1), .ireturn]),
  (12, [.aload 0, .getfield 646, .iload 3, .iadd, .sipush 200, .if_icmp .le 27, .sipush (-2), .ireturn]),
  (27, [.sipush 0, .istore 4, .jsr 30]),
  (30, [.iload 4, .iload 3, .if_icmp .ge 73, .aload 0, .checkcast 645, .aload 0, .getfield 646, .lload 1, .sipush 8, .iload 4, .imul, .lshr, .goto_w 255, .land, .l2i, .iastore, .aload 0, .dup, .getfield 646, .sipush 1, .iadd, .putfield 646, .iinc 4 1, .goto 30]),
  (73, [.aload 0, .getfield 646, .ireturn])]
/-- M.in1 -/
def g_c172 : List (Nat × List Instr) := [(0, [.iload 0, .iload 1, .if_icmp .lt 14, .iload 0, .iload 2, .if_icmp .gt 14, .sipush 1, .goto 15]),
  (14, [.sipush 0, .jsr 15]),
  (15, [.ireturn])]
/-- M.rules -/
def g_c173 : List (Nat × List Instr) := [(0, [.aload 0, .sipush 0, .putfield 648, .aload 0, .sipush 0, .putfield 653, .sipush 0, .istore 1, .aload 0, .invokeinterface 174 1, .sipush 1, .istore 2, .jsr 18]),
  (18, [.iload 2, .ifCond .eq 42, .aload 0, .getfield 650, .sipush (-1), .if_icmp .eq 42, .aload 0, .iload 1, .invokeinterface 179 2, .istore 2, .iinc 1 1, .goto 18]),
  (42, [.aload 0, .sipush 0, .putfield 646, .iload 2, .ifCond .ne 59, .sipush (-100), .aload 0, .getfield 649, .isub, .ireturn]),
  (59, [.aload 0, .checkcast 640, .sipush 7, .iload 1, .iastore, .sipush 0, .istore 3, .jsr 69]),
  (69, [.iload 3, .sipush 3, .iload 1, .imul, .if_icmp .ge 97, .aload 0, .checkcast 640, .sipush 98, .iload 3, .iadd, .aload 0, .checkcast 655, .iload 3, .iaload, .iastore, .iinc 3 1, .goto 69]),
  (97, [.sipush 0, .istore 3, .jsr 99]),
  (99, [.iload 3, .aload 0, .getfield 653, .if_icmp .ge 128, .aload 0, .checkcast 640, .sipush 122, .iload 3, .iadd, .aload 0, .checkcast 654, .iload 3, .iaload, .iastore, .iinc 3 1, .goto 99]),
  (128, [.iload 1, .ireturn])]
/-- M.next -/
def g_c174 : List (Nat × List Instr) := [(0, [.aload 0, .aload 0, .getfield 648, .invokeinterface 175 2, .sipush 32, .if_icmp .ne 26, .aload 0, .dup, .getfield 648, .sipush 1, .iadd, .putfield 648, .goto 0]),
  (26, [.aload 0, .aload 0, .getfield 648, .putfield 649, .aload 0, .aload 0, .getfield 648, .invokeinterface 175 2, .istore 1, .iload 1, .ifCond .ge 55, .aload 0, .sipush (-1), .putfield 650, .goto 110]),
  (55, [.iload 1, .sipush 97, .sipush 122, .invokeinterface 172 3, .ifCond .eq 73, .aload 0, .invokeinterface 176 1, .goto 110]),
  (73, [.iload 1, .sipush 48, .sipush 57, .invokeinterface 172 3, .ifCond .eq 91, .aload 0, .invokeinterface 178 1, .goto 110]),
  (91, [.aload 0, .sipush 200, .iload 1, .iadd, .putfield 650, .aload 0, .dup, .getfield 648, .sipush 1, .iadd, .putfield 648, .jsr 110]),
  (110, [.return_])]
/-- M.byteAt -/
def g_c175 : List (Nat × List Instr) := [(0, [.iload 1, .aload 0, .getfield 646, .if_icmp .ge 17, .aload 0, .checkcast 645, .iload 1, .iaload, .goto 18]),
  (17, [.sipush (-1), .jsr 18]),
  (18, [.ireturn])]
/-- M.readsName -/
def g_c176 : List (Nat × List Instr) := [(0, [.aload 0, .aload 0, .getfield 648, .invokeinterface 175 2, .sipush 97, .sipush 122, .invokeinterface 172 3, .ifCond .eq 31, .aload 0, .dup, .getfield 648, .sipush 1, .iadd, .putfield 648, .goto 0]),
  (31, [.aload 0, .sipush 101, .putfield 650, .sipush 0, .istore 1, .jsr 39]),
  (39, [.iload 1, .sipush 18, .if_icmp .ge 71, .aload 0, .aload 0, .iload 1, .invokeinterface 177 2, .ifCond .eq 58, .iload 1, .goto 62]),
  (58, [.aload 0, .getfield 650, .jsr 62]),
  (62, [.putfield 650, .iinc 1 1, .goto 39]),
  (71, [.return_])]
/-- M.isNameOf -/
def g_c177 : List (Nat × List Instr) := [(0, [.aload 0, .getfield 648, .aload 0, .getfield 649, .isub, .sipush 8, .if_icmp .gt 18, .sipush 1, .goto 19]),
  (18, [.sipush 0, .jsr 19]),
  (19, [.istore 2, .sipush 0, .istore 3, .jsr 22]),
  (22, [.iload 3, .sipush 8, .if_icmp .ge 86, .iload 2, .ifCond .eq 86, .aload 0, .checkcast 647, .sipush 8, .iload 1, .imul, .iload 3, .iadd, .caload, .aload 0, .getfield 649, .iload 3, .iadd, .aload 0, .getfield 648, .if_icmp .ge 69, .aload 0, .aload 0, .getfield 649, .iload 3, .iadd, .invokeinterface 175 2, .goto 71]),
  (69, [.sipush 32, .jsr 71]),
  (71, [.if_icmp .ne 78, .sipush 1, .goto 79]),
  (78, [.sipush 0, .jsr 79]),
  (79, [.istore 2, .iinc 3 1, .goto 22]),
  (86, [.iload 2, .ireturn])]
/-- M.readsNumber -/
def g_c178 : List (Nat × List Instr) := [(0, [.aload 0, .sipush 0, .putfield 651, .jsr 5]),
  (5, [.aload 0, .aload 0, .getfield 648, .invokeinterface 175 2, .sipush 48, .sipush 57, .invokeinterface 172 3, .ifCond .eq 79, .aload 0, .aload 0, .getfield 648, .aload 0, .getfield 649, .isub, .sipush 4, .if_icmp .ge 59, .sipush 10, .aload 0, .getfield 651, .imul, .aload 0, .aload 0, .getfield 648, .invokeinterface 175 2, .iadd, .sipush 48, .isub, .goto 63]),
  (59, [.aload 0, .getfield 651, .jsr 63]),
  (63, [.putfield 651, .aload 0, .dup, .getfield 648, .sipush 1, .iadd, .putfield 648, .goto 5]),
  (79, [.aload 0, .aload 0, .getfield 648, .aload 0, .getfield 649, .isub, .sipush 4, .if_icmp .le 98, .sipush 101, .goto 100]),
  (98, [.sipush 100, .jsr 100]),
  (100, [.putfield 650, .return_])]
/-- M.readsRule -/
def g_c179 : List (Nat × List Instr) := [(0, [.iload 1, .sipush 8, .if_icmp .eq 18, .aload 0, .getfield 650, .sipush 0, .sipush 5, .invokeinterface 172 3, .ifCond .ne 20, .jsr 18]),
  (18, [.sipush 0, .ireturn]),
  (20, [.aload 0, .checkcast 655, .sipush 3, .iload 1, .imul, .aload 0, .getfield 650, .iastore, .aload 0, .invokeinterface 174 1, .aload 0, .sipush 0, .putfield 652, .aload 0, .sipush 9, .invokeinterface 180 2, .ifCond .eq 59, .aload 0, .invokeinterface 181 1, .ifCond .ne 59, .sipush 0, .ireturn]),
  (59, [.aload 0, .getfield 650, .sipush 6, .sipush 8, .invokeinterface 172 3, .ifCond .ne 75, .sipush 0, .ireturn]),
  (75, [.aload 0, .checkcast 655, .sipush 3, .iload 1, .imul, .sipush 1, .iadd, .aload 0, .getfield 650, .sipush 6, .isub, .iastore, .aload 0, .checkcast 655, .sipush 3, .iload 1, .imul, .sipush 2, .iadd, .aload 0, .getfield 653, .iastore, .aload 0, .invokeinterface 174 1, .aload 0, .sipush 259, .invokeinterface 180 2, .ireturn])]
/-- M.takes -/
def g_c180 : List (Nat × List Instr) := [(0, [.aload 0, .getfield 650, .iload 1, .if_icmp .ne 12, .sipush 1, .goto 13]),
  (12, [.sipush 0, .jsr 13]),
  (13, [.istore 2, .iload 2, .ifCond .eq 22, .aload 0, .invokeinterface 174 1, .jsr 22]),
  (22, [.iload 2, .ireturn])]
/-- M.readsCondition -/
def g_c181 : List (Nat × List Instr) := [(0, [.aload 0, .invokeinterface 182 1, .istore 1, .jsr 5]),
  (5, [.iload 1, .ifCond .eq 37, .aload 0, .sipush 12, .invokeinterface 180 2, .ifCond .eq 37, .aload 0, .invokeinterface 182 1, .istore 1, .iload 1, .ifCond .eq 5, .aload 0, .sipush 10014, .invokeinterface 187 2, .goto 5]),
  (37, [.iload 1, .ireturn])]
/-- M.readsAll -/
def g_c182 : List (Nat × List Instr) := [(0, [.aload 0, .invokeinterface 183 1, .istore 1, .jsr 5]),
  (5, [.iload 1, .ifCond .eq 37, .aload 0, .sipush 11, .invokeinterface 180 2, .ifCond .eq 37, .aload 0, .invokeinterface 183 1, .istore 1, .iload 1, .ifCond .eq 5, .aload 0, .sipush 10013, .invokeinterface 187 2, .goto 5]),
  (37, [.iload 1, .ireturn])]
/-- M.readsOne -/
def g_c183 : List (Nat × List Instr) := [(0, [.sipush 0, .istore 1, .jsr 2]),
  (2, [.aload 0, .sipush 10, .invokeinterface 180 2, .ifCond .eq 17, .iinc 1 1, .goto 2]),
  (17, [.aload 0, .getfield 650, .sipush 240, .if_icmp .ne 34, .aload 0, .invokeinterface 184 1, .goto 38]),
  (34, [.aload 0, .invokeinterface 185 1, .jsr 38]),
  (38, [.istore 2, .sipush 0, .istore 3, .jsr 41]),
  (41, [.iload 3, .iload 1, .if_icmp .ge 63, .iload 2, .ifCond .eq 63, .aload 0, .sipush 10015, .invokeinterface 187 2, .iinc 3 1, .goto 41]),
  (63, [.iload 2, .ireturn])]
/-- M.readsWithin -/
def g_c184 : List (Nat × List Instr) := [(0, [.aload 0, .getfield 652, .sipush 3, .if_icmp .ne 10, .sipush 0, .ireturn]),
  (10, [.aload 0, .dup, .getfield 652, .sipush 1, .iadd, .putfield 652, .aload 0, .invokeinterface 174 1, .aload 0, .invokeinterface 181 1, .ifCond .eq 41, .aload 0, .sipush 241, .invokeinterface 180 2, .ifCond .ne 43, .jsr 41]),
  (41, [.sipush 0, .ireturn]),
  (43, [.aload 0, .dup, .getfield 652, .sipush 1, .isub, .putfield 652, .sipush 1, .ireturn])]
/-- M.readsLike -/
def g_c185 : List (Nat × List Instr) := [(0, [.aload 0, .invokeinterface 186 1, .ifCond .ne 9, .sipush 0, .ireturn]),
  (9, [.aload 0, .getfield 650, .sipush 260, .if_icmp .ne 25, .sipush 10010, .goto 58]),
  (25, [.aload 0, .getfield 650, .sipush 261, .if_icmp .ne 41, .sipush 10011, .goto 58]),
  (41, [.aload 0, .getfield 650, .sipush 262, .if_icmp .ne 57, .sipush 10012, .goto 58]),
  (57, [.sipush 0, .jsr 58]),
  (58, [.istore 1, .iload 1, .ifCond .ne 65, .sipush 0, .ireturn]),
  (65, [.aload 0, .invokeinterface 174 1, .aload 0, .invokeinterface 186 1, .ifCond .ne 78, .sipush 0, .ireturn]),
  (78, [.aload 0, .iload 1, .invokeinterface 187 2, .sipush 1, .ireturn])]
/-- M.readsValue -/
def g_c186 : List (Nat × List Instr) := [(0, [.aload 0, .getfield 650, .sipush 100, .if_icmp .eq 23, .aload 0, .getfield 650, .sipush 13, .sipush 17, .invokeinterface 172 3, .ifCond .eq 27, .jsr 23]),
  (23, [.sipush 1, .goto 28]),
  (27, [.sipush 0, .jsr 28]),
  (28, [.istore 1, .iload 1, .ifCond .eq 68, .aload 0, .aload 0, .getfield 650, .sipush 100, .if_icmp .ne 50, .aload 0, .getfield 651, .goto 61]),
  (50, [.sipush 10000, .aload 0, .getfield 650, .iadd, .sipush 13, .isub, .jsr 61]),
  (61, [.invokeinterface 187 2, .aload 0, .invokeinterface 174 1, .jsr 68]),
  (68, [.iload 1, .ireturn])]
/-- M.lays -/
def g_c187 : List (Nat × List Instr) := [(0, [.aload 0, .checkcast 654, .aload 0, .getfield 653, .iload 1, .iastore, .aload 0, .dup, .getfield 653, .sipush 1, .iadd, .putfield 653, .return_])]
/-- M.plate -/
def g_c188 : List (Nat × List Instr) := [(0, [.iload 1, .sipush 1, .sipush 5, .invokeinterface 172 3, .ifCond .eq 31, .iload 2, .invokeinterface 189 1, .ifCond .eq 31, .iload 3, .invokeinterface 190 1, .ifCond .eq 31, .iload 4, .invokeinterface 191 1, .ifCond .ne 33, .jsr 31]),
  (31, [.sipush (-1), .ireturn]),
  (33, [.aload 0, .checkcast 640, .sipush 6, .iaload, .sipush 6, .if_icmp .ne 48, .sipush (-2), .ireturn]),
  (48, [.aload 0, .checkcast 640, .sipush 6, .iaload, .istore 5, .aload 0, .iload 5, .sipush 0, .iload 1, .invokeinterface 192 4, .aload 0, .iload 5, .sipush 1, .iload 2, .invokeinterface 192 4, .aload 0, .iload 5, .sipush 2, .iload 3, .invokeinterface 192 4, .aload 0, .iload 5, .sipush 3, .iload 4, .invokeinterface 192 4, .aload 0, .iload 5, .sipush 4, .sipush 0, .invokeinterface 192 4, .aload 0, .checkcast 640, .sipush 6, .dup2, .iaload, .sipush 1, .iadd, .iastore, .iload 5, .ireturn])]
/-- M.isFirst -/
def g_c189 : List (Nat × List Instr) := [(0, [.iload 0, .sipush 0, .sipush 39, .invokeinterface 172 3, .ireturn])]
/-- M.isDigit -/
def g_c190 : List (Nat × List Instr) := [(0, [.iload 0, .sipush 0, .sipush 9, .invokeinterface 172 3, .ireturn])]
/-- M.isHome -/
def g_c191 : List (Nat × List Instr) := [(0, [.iload 0, .sipush 0, .sipush 5, .invokeinterface 172 3, .ireturn])]
/-- M.puts -/
def g_c192 : List (Nat × List Instr) := [(0, [.aload 0, .checkcast 640, .sipush 38, .sipush 6, .iload 1, .imul, .iadd, .iload 2, .iadd, .iload 3, .iastore, .return_])]
/-- M.plateOf -/
def g_c193 : List (Nat × List Instr) := [(0, [.aload 0, .iload 1, .invokeinterface 194 2, .ifCond .eq 18, .iload 2, .sipush 0, .sipush 8, .invokeinterface 172 3, .ifCond .ne 20, .jsr 18]),
  (18, [.sipush (-1), .ireturn]),
  (20, [.iload 2, .lookupswitch 84 #[(5, 52), (6, 58), (7, 64), (8, 78)]]),
  (52, [.aload 0, .iload 1, .invokeinterface 195 2, .ireturn]),
  (58, [.aload 0, .iload 1, .invokeinterface 198 2, .ireturn]),
  (64, [.aload 0, .iload 1, .invokeinterface 199 2, .ifCond .eq 76, .sipush 1, .goto 77]),
  (76, [.sipush 0, .jsr 77]),
  (77, [.ireturn]),
  (78, [.aload 0, .iload 1, .invokeinterface 200 2, .ireturn]),
  (84, [.aload 0, .iload 1, .iload 2, .invokeinterface 196 3, .ireturn])]
/-- M.isPiece -/
def g_c194 : List (Nat × List Instr) := [(0, [.iload 1, .sipush 0, .aload 0, .checkcast 640, .sipush 6, .iaload, .sipush 1, .isub, .invokeinterface 172 3, .ireturn])]
/-- M.spansOf -/
def g_c195 : List (Nat × List Instr) := [(0, [.aload 0, .iload 1, .sipush 0, .invokeinterface 196 3, .aload 0, .iload 1, .sipush 2, .invokeinterface 196 3, .aload 0, .checkcast 640, .sipush 0, .iaload, .invokeinterface 197 3, .ireturn])]
/-- M.get -/
def g_c196 : List (Nat × List Instr) := [(0, [.aload 0, .checkcast 640, .sipush 38, .sipush 6, .iload 1, .imul, .iadd, .iload 2, .iadd, .iaload, .ireturn])]
/-- M.spansBy -/
def g_c197 : List (Nat × List Instr) := [(0, [.sipush 1, .iload 1, .sipush 2, .idiv, .iadd, .istore 3, .iload 3, .sipush 2, .if_icmp .le 15, .sipush 2, .goto 16]),
  (15, [.iload 3, .jsr 16]),
  (16, [.istore 4, .iload 0, .lookupswitch 91 #[(1, 52), (2, 56), (3, 60), (4, 75), (5, 78)]]),
  (52, [.sipush 2, .iload 3, .imul, .ireturn]),
  (56, [.iload 3, .sipush 2, .iadd, .ireturn]),
  (60, [.iload 2, .sipush 2, .irem, .sipush 1, .if_icmp .ne 71, .sipush 1, .goto 74]),
  (71, [.iload 3, .sipush 2, .iadd, .jsr 74]),
  (74, [.ireturn]),
  (75, [.iload 4, .ireturn]),
  (78, [.iload 2, .sipush 3, .irem, .ifCond .ne 88, .sipush 0, .goto 90]),
  (88, [.iload 4, .jsr 90]),
  (90, [.ireturn]),
  (91, [.iload 3, .ireturn])]
/-- M.grudgeOf -/
def g_c198 : List (Nat × List Instr) := [(0, [.aload 0, .checkcast 640, .sipush 26, .aload 0, .iload 1, .sipush 3, .invokeinterface 196 3, .iadd, .iaload, .istore 2, .aload 0, .iload 1, .sipush 0, .invokeinterface 196 3, .lookupswitch 91 #[(1, 56), (2, 60), (3, 64), (4, 81), (5, 85)]]),
  (56, [.iload 2, .sipush 2, .iadd, .ireturn]),
  (60, [.iload 2, .iload 1, .iadd, .ireturn]),
  (64, [.iload 2, .iload 1, .iadd, .sipush 3, .if_icmp .ge 75, .sipush 0, .goto 80]),
  (75, [.iload 2, .iload 1, .iadd, .sipush 3, .isub, .jsr 80]),
  (80, [.ireturn]),
  (81, [.iload 2, .sipush 2, .idiv, .ireturn]),
  (85, [.iload 2, .sipush 2, .idiv, .sipush 2, .imul, .ireturn]),
  (91, [.iload 2, .ireturn])]
/-- M.wouldSit -/
def g_c199 : List (Nat × List Instr) := [(0, [.aload 0, .iload 1, .sipush 4, .invokeinterface 196 3, .ifCond .ne 42, .aload 0, .iload 1, .invokeinterface 198 2, .aload 0, .checkcast 640, .sipush 3, .iaload, .aload 0, .checkcast 640, .sipush 32, .aload 0, .iload 1, .sipush 3, .invokeinterface 196 3, .iadd, .iaload, .iadd, .if_icmp .gt 42, .sipush 1, .goto 43]),
  (42, [.sipush 0, .jsr 43]),
  (43, [.ireturn])]
/-- M.willOf -/
def g_c200 : List (Nat × List Instr) := [(0, [.sipush 0, .istore 2, .jsr 2]),
  (2, [.iload 2, .aload 0, .checkcast 640, .sipush 7, .iaload, .if_icmp .ge 53, .aload 0, .iload 1, .sipush 0, .invokeinterface 196 3, .aload 0, .iload 2, .sipush 0, .invokeinterface 201 3, .invokeinterface 202 2, .ifCond .eq 47, .aload 0, .iload 2, .iload 1, .invokeinterface 204 3, .ifCond .eq 47, .aload 0, .iload 2, .sipush 1, .invokeinterface 201 3, .ireturn]),
  (47, [.iinc 2 1, .goto 2]),
  (53, [.sipush 0, .ireturn])]
/-- M.ruleOf -/
def g_c201 : List (Nat × List Instr) := [(0, [.aload 0, .checkcast 640, .sipush 98, .sipush 3, .iload 1, .imul, .iadd, .iload 2, .iadd, .iaload, .ireturn])]
/-- M.isUnder -/
def g_c202 : List (Nat × List Instr) := [(0, [.iload 0, .istore 2, .jsr 2]),
  (2, [.iload 2, .iload 1, .if_icmp .eq 19, .iload 2, .ifCond .eq 19, .iload 2, .invokeinterface 203 1, .istore 2, .goto 2]),
  (19, [.iload 2, .iload 1, .if_icmp .ne 28, .sipush 1, .goto 29]),
  (28, [.sipush 0, .jsr 29]),
  (29, [.ireturn])]
/-- M.above -/
def g_c203 : List (Nat × List Instr) := [(0, [.iload 0, .sipush 3, .if_icmp .ne 9, .sipush 2, .goto 19]),
  (9, [.iload 0, .sipush 5, .if_icmp .ne 18, .sipush 4, .goto 19]),
  (18, [.sipush 0, .jsr 19]),
  (19, [.ireturn])]
/-- M.holdsFor -/
def g_c204 : List (Nat × List Instr) := [(0, [.sipush 0, .istore 3, .iload 1, .ifCond .ne 10, .sipush 0, .goto 18]),
  (10, [.aload 0, .iload 1, .sipush 1, .isub, .sipush 2, .invokeinterface 201 3, .jsr 18]),
  (18, [.istore 4, .jsr 20]),
  (20, [.iload 4, .aload 0, .iload 1, .sipush 2, .invokeinterface 201 3, .if_icmp .ge 152, .aload 0, .checkcast 640, .sipush 122, .iload 4, .iadd, .iaload, .istore 5, .iload 5, .sipush 10010, .if_icmp .ge 87, .aload 0, .checkcast 644, .iload 3, .iload 5, .sipush 10000, .if_icmp .ge 69, .iload 5, .goto 80]),
  (69, [.aload 0, .iload 5, .sipush 10000, .isub, .iload 2, .invokeinterface 205 3, .jsr 80]),
  (80, [.iastore, .iinc 3 1, .goto 146]),
  (87, [.iload 5, .sipush 10015, .if_icmp .ne 116, .aload 0, .checkcast 644, .iload 3, .sipush 1, .isub, .sipush 1, .aload 0, .checkcast 644, .iload 3, .sipush 1, .isub, .iaload, .isub, .iastore, .goto 146]),
  (116, [.iinc 3 (-1), .aload 0, .checkcast 644, .iload 3, .sipush 1, .isub, .iload 5, .aload 0, .checkcast 644, .iload 3, .sipush 1, .isub, .iaload, .aload 0, .checkcast 644, .iload 3, .iaload, .invokeinterface 206 3, .iastore, .jsr 146]),
  (146, [.iinc 4 1, .goto 20]),
  (152, [.iload 3, .ifCond .eq 165, .aload 0, .checkcast 644, .sipush 0, .iaload, .ifCond .eq 169, .jsr 165]),
  (165, [.sipush 1, .goto 170]),
  (169, [.sipush 0, .jsr 170]),
  (170, [.ireturn])]
/-- M.knownOf -/
def g_c205 : List (Nat × List Instr) := [(0, [.iload 1, .ifCond .ne 13, .aload 0, .checkcast 640, .sipush 0, .iaload, .goto 55]),
  (13, [.iload 1, .sipush 1, .if_icmp .ne 27, .aload 0, .iload 2, .sipush 2, .invokeinterface 196 3, .goto 55]),
  (27, [.iload 1, .sipush 2, .if_icmp .ne 40, .aload 0, .iload 2, .invokeinterface 198 2, .goto 55]),
  (40, [.iload 1, .sipush 3, .if_icmp .ne 54, .aload 0, .checkcast 640, .sipush 3, .iaload, .goto 55]),
  (54, [.iload 2, .jsr 55]),
  (55, [.ireturn])]
/-- M.joined -/
def g_c206 : List (Nat × List Instr) := [(0, [.iload 0, .lookupswitch 79 #[(10010, 32), (10011, 43), (10012, 54), (10013, 65)]]),
  (32, [.iload 1, .iload 2, .if_icmp .ge 41, .sipush 1, .goto 42]),
  (41, [.sipush 0, .jsr 42]),
  (42, [.ireturn]),
  (43, [.iload 1, .iload 2, .if_icmp .ne 52, .sipush 1, .goto 53]),
  (52, [.sipush 0, .jsr 53]),
  (53, [.ireturn]),
  (54, [.iload 1, .iload 2, .if_icmp .le 63, .sipush 1, .goto 64]),
  (63, [.sipush 0, .jsr 64]),
  (64, [.ireturn]),
  (65, [.iload 1, .ifCond .eq 77, .iload 2, .ifCond .eq 77, .sipush 1, .goto 78]),
  (77, [.sipush 0, .jsr 78]),
  (78, [.ireturn]),
  (79, [.iload 1, .ifCond .ne 87, .iload 2, .ifCond .eq 91, .jsr 87]),
  (87, [.sipush 1, .goto 92]),
  (91, [.sipush 0, .jsr 92]),
  (92, [.ireturn])]
/-- M.change -/
def g_c207 : List (Nat × List Instr) := [(0, [.iload 2, .sipush 1, .if_icmp .ne 10, .sipush 39, .goto 30]),
  (10, [.iload 2, .sipush 3, .if_icmp .ne 19, .sipush 5, .goto 30]),
  (19, [.iload 2, .sipush 4, .if_icmp .ne 28, .sipush 1, .goto 30]),
  (28, [.sipush 9, .jsr 30]),
  (30, [.istore 4, .aload 0, .iload 1, .invokeinterface 194 2, .ifCond .eq 76, .iload 2, .sipush 1, .sipush 4, .invokeinterface 172 3, .ifCond .eq 76, .iload 3, .sipush 0, .iload 4, .invokeinterface 172 3, .ifCond .eq 76, .aload 0, .sipush 38, .sipush 6, .iload 1, .imul, .iadd, .iload 2, .iadd, .iload 3, .invokeinterface 208 3, .goto 77]),
  (76, [.sipush (-1), .jsr 77]),
  (77, [.ireturn])]
/-- M.becomes -/
def g_c208 : List (Nat × List Instr) := [(0, [.aload 0, .checkcast 640, .iload 1, .iaload, .istore 3, .aload 0, .checkcast 640, .iload 1, .iload 2, .iastore, .iload 3, .ireturn])]
/-- M.remake -/
def g_c209 : List (Nat × List Instr) := [(0, [.aload 0, .iload 1, .invokeinterface 194 2, .ifCond .eq 32, .iload 2, .sipush 1, .sipush 5, .invokeinterface 172 3, .ifCond .eq 32, .aload 0, .sipush 38, .sipush 6, .iload 1, .imul, .iadd, .iload 2, .invokeinterface 208 3, .goto 33]),
  (32, [.sipush (-1), .jsr 33]),
  (33, [.ireturn])]
/-- M.news -/
def g_c210 : List (Nat × List Instr) := [(0, [.iload 1, .sipush 0, .sipush 15, .invokeinterface 172 3, .ifCond .eq 32, .iload 2, .sipush 0, .sipush 15, .invokeinterface 172 3, .ifCond .eq 32, .aload 0, .sipush 10, .iload 1, .iadd, .iload 2, .invokeinterface 208 3, .goto 33]),
  (32, [.sipush (-1), .jsr 33]),
  (33, [.ireturn])]
/-- M.home -/
def g_c211 : List (Nat × List Instr) := [(0, [.iload 1, .invokeinterface 191 1, .ifCond .eq 44, .iload 2, .sipush 0, .sipush 1, .invokeinterface 172 3, .ifCond .eq 44, .iload 3, .invokeinterface 190 1, .ifCond .eq 44, .aload 0, .iload 2, .ifCond .ne 33, .sipush 26, .goto 35]),
  (33, [.sipush 32, .jsr 35]),
  (35, [.iload 1, .iadd, .iload 3, .invokeinterface 208 3, .goto 45]),
  (44, [.sipush (-1), .jsr 45]),
  (45, [.ireturn])]
/-- M.homeOf -/
def g_c212 : List (Nat × List Instr) := [(0, [.iload 1, .invokeinterface 191 1, .ifCond .eq 37, .iload 2, .sipush 0, .sipush 1, .invokeinterface 172 3, .ifCond .eq 37, .aload 0, .checkcast 640, .iload 2, .ifCond .ne 29, .sipush 26, .goto 31]),
  (29, [.sipush 32, .jsr 31]),
  (31, [.iload 1, .iadd, .iaload, .goto 38]),
  (37, [.sipush (-1), .jsr 38]),
  (38, [.ireturn])]
/-- M.family -/
def g_c213 : List (Nat × List Instr) := [(0, [.iload 1, .sipush 0, .sipush 1, .invokeinterface 172 3, .ifCond .eq 39, .iload 2, .sipush 0, .iload 1, .ifCond .ne 20, .sipush 9, .goto 22]),
  (20, [.sipush 40, .jsr 22]),
  (22, [.invokeinterface 172 3, .ifCond .eq 39, .aload 0, .sipush 3, .iload 1, .iadd, .iload 2, .invokeinterface 208 3, .goto 40]),
  (39, [.sipush (-1), .jsr 40]),
  (40, [.ireturn])]
/-- M.ends -/
def g_c214 : List (Nat × List Instr) := [(0, [.iload 1, .sipush 1, .sipush 16, .invokeinterface 172 3, .ifCond .ne 14, .sipush (-1), .goto 35]),
  (14, [.iload 1, .aload 0, .checkcast 640, .sipush 0, .iaload, .if_icmp .ge 29, .sipush (-4), .goto 35]),
  (29, [.aload 0, .sipush 1, .iload 1, .invokeinterface 208 3, .jsr 35]),
  (35, [.ireturn])]
/-- M.anew -/
def g_c215 : List (Nat × List Instr) := [(0, [.aload 0, .checkcast 640, .sipush 2, .sipush 0, .iastore, .aload 0, .checkcast 640, .sipush 3, .sipush 5, .iastore, .aload 0, .checkcast 640, .sipush 4, .sipush 0, .iastore, .sipush 0, .istore 1, .jsr 23]),
  (23, [.iload 1, .aload 0, .checkcast 640, .sipush 6, .iaload, .if_icmp .ge 47, .aload 0, .iload 1, .sipush 4, .sipush 0, .invokeinterface 192 4, .iinc 1 1, .goto 23]),
  (47, [.aload 0, .sipush 0, .sipush 0, .invokeinterface 208 3, .ireturn])]
/-- M.state -/
def g_c216 : List (Nat × List Instr) := [(0, [.iload 1, .lookupswitch 132 #[(0, 48), (1, 55), (2, 62), (3, 69), (4, 82), (5, 88), (6, 118), (7, 125)]]),
  (48, [.aload 0, .checkcast 640, .sipush 0, .iaload, .ireturn]),
  (55, [.aload 0, .checkcast 640, .sipush 1, .iaload, .ireturn]),
  (62, [.aload 0, .checkcast 640, .sipush 2, .iaload, .ireturn]),
  (69, [.aload 0, .invokeinterface 217 1, .ifCond .eq 80, .sipush 1, .goto 81]),
  (80, [.sipush 0, .jsr 81]),
  (81, [.ireturn]),
  (82, [.aload 0, .sipush 4, .invokeinterface 218 2, .ireturn]),
  (88, [.aload 0, .checkcast 640, .sipush 0, .iaload, .sipush 16, .if_icmp .ge 116, .aload 0, .checkcast 640, .sipush 10, .aload 0, .checkcast 640, .sipush 0, .iaload, .iadd, .iaload, .goto 117]),
  (116, [.sipush 0, .jsr 117]),
  (117, [.ireturn]),
  (118, [.aload 0, .checkcast 640, .sipush 3, .iaload, .ireturn]),
  (125, [.aload 0, .checkcast 640, .sipush 4, .iaload, .ireturn]),
  (132, [.sipush (-1), .ireturn])]
/-- M.isOver -/
def g_c217 : List (Nat × List Instr) := [(0, [.aload 0, .checkcast 640, .sipush 0, .iaload, .aload 0, .checkcast 640, .sipush 1, .iaload, .if_icmp .lt 19, .sipush 1, .goto 20]),
  (19, [.sipush 0, .jsr 20]),
  (20, [.ireturn])]
/-- M.those -/
def g_c218 : List (Nat × List Instr) := [(0, [.sipush 0, .istore 2, .sipush 0, .istore 3, .jsr 4]),
  (4, [.iload 3, .aload 0, .checkcast 640, .sipush 6, .iaload, .if_icmp .ge 40, .iload 2, .aload 0, .iload 3, .iload 1, .invokeinterface 196 3, .ifCond .le 31, .sipush 1, .iload 3, .ishl, .goto 32]),
  (31, [.sipush 0, .jsr 32]),
  (32, [.ior, .istore 2, .iinc 3 1, .goto 4]),
  (40, [.iload 2, .ireturn])]
/-- M.year -/
def g_c219 : List (Nat × List Instr) := [(0, [.aload 0, .invokeinterface 217 1, .ifCond .eq 12, .sipush (-4), .goto 17]),
  (12, [.aload 0, .sipush (-1), .invokeinterface 220 2, .jsr 17]),
  (17, [.ireturn])]
/-- M.goesBy -/
def g_c220 : List (Nat × List Instr) := [(0, [.aload 0, .checkcast 640, .sipush 3, .aload 0, .checkcast 640, .sipush 0, .iaload, .sipush 16, .if_icmp .ge 42, .aload 0, .checkcast 640, .sipush 3, .iaload, .aload 0, .checkcast 640, .sipush 10, .aload 0, .checkcast 640, .sipush 0, .iaload, .iadd, .iaload, .invokeinterface 221 2, .goto 48]),
  (42, [.aload 0, .checkcast 640, .sipush 3, .iaload, .jsr 48]),
  (48, [.iastore, .iload 1, .ifCond .ge 60, .aload 0, .invokeinterface 223 1, .goto 63]),
  (60, [.iload 1, .sipush 1, .isub, .jsr 63]),
  (63, [.istore 2, .iload 2, .ifCond .lt 76, .aload 0, .iload 2, .invokeinterface 224 2, .goto 77]),
  (76, [.sipush 0, .jsr 77]),
  (77, [.istore 3, .iload 3, .aload 0, .invokeinterface 226 1, .iadd, .istore 3, .aload 0, .checkcast 640, .sipush 0, .dup2, .iaload, .sipush 1, .iadd, .iastore, .aload 0, .checkcast 640, .sipush 2, .dup2, .iaload, .iload 3, .iadd, .iastore, .iload 3, .ireturn])]
/-- M.moodBy -/
def g_c221 : List (Nat × List Instr) := [(0, [.iload 1, .sipush 4, .idiv, .istore 2, .iload 0, .sipush 5, .if_icmp .ge 15, .sipush 5, .iload 0, .isub, .goto 18]),
  (15, [.iload 0, .sipush 5, .isub, .jsr 18]),
  (18, [.istore 3, .iload 3, .iload 2, .if_icmp .ge 28, .iload 3, .goto 29]),
  (28, [.iload 2, .jsr 29]),
  (29, [.istore 4, .iload 1, .sipush 4, .irem, .lookupswitch 95 #[(0, 60), (1, 69), (2, 78)]]),
  (60, [.iload 0, .iload 2, .iadd, .sipush 9, .invokeinterface 222 2, .ireturn]),
  (69, [.iload 0, .iload 2, .isub, .sipush 9, .invokeinterface 222 2, .ireturn]),
  (78, [.iload 0, .sipush 5, .if_icmp .ge 90, .iload 0, .iload 4, .iadd, .goto 94]),
  (90, [.iload 0, .iload 4, .isub, .jsr 94]),
  (94, [.ireturn]),
  (95, [.iload 0, .ireturn])]
/-- M.held -/
def g_c222 : List (Nat × List Instr) := [(0, [.iload 0, .ifCond .ge 8, .sipush 0, .goto 18]),
  (8, [.iload 0, .iload 1, .if_icmp .le 17, .iload 1, .goto 18]),
  (17, [.iload 0, .jsr 18]),
  (18, [.ireturn])]
/-- M.restOne -/
def g_c223 : List (Nat × List Instr) := [(0, [.sipush 0, .istore 1, .jsr 2]),
  (2, [.iload 1, .aload 0, .checkcast 640, .sipush 6, .iaload, .if_icmp .ge 29, .aload 0, .iload 1, .invokeinterface 199 2, .ifCond .eq 23, .iload 1, .ireturn]),
  (23, [.iinc 1 1, .goto 2]),
  (29, [.sipush (-1), .ireturn])]
/-- M.meets -/
def g_c224 : List (Nat × List Instr) := [(0, [.aload 0, .iload 1, .invokeinterface 200 2, .istore 2, .iload 2, .ifCond .ne 16, .aload 0, .iload 1, .invokeinterface 225 2, .ireturn]),
  (16, [.iload 2, .sipush 2, .if_icmp .ne 57, .aload 0, .iload 1, .sipush 4, .invokeinterface 196 3, .sipush 1, .if_icmp .ne 57, .aload 0, .iload 1, .sipush 4, .sipush 0, .invokeinterface 192 4, .aload 0, .checkcast 640, .sipush 3, .aload 0, .checkcast 640, .sipush 3, .iaload, .sipush 1, .iadd, .sipush 9, .invokeinterface 222 2, .iastore, .jsr 57]),
  (57, [.sipush 0, .ireturn])]
/-- M.sits -/
def g_c225 : List (Nat × List Instr) := [(0, [.aload 0, .iload 1, .sipush 4, .invokeinterface 196 3, .sipush 1, .if_icmp .ne 12, .sipush 0, .ireturn]),
  (12, [.aload 0, .iload 1, .invokeinterface 199 2, .istore 2, .aload 0, .checkcast 640, .sipush 3, .aload 0, .checkcast 640, .sipush 3, .iaload, .iload 2, .ifCond .eq 43, .aload 0, .iload 1, .invokeinterface 198 2, .sipush 3, .idiv, .goto 44]),
  (43, [.sipush 1, .jsr 44]),
  (44, [.isub, .sipush 9, .invokeinterface 222 2, .iastore, .aload 0, .iload 1, .sipush 4, .iload 2, .ifCond .eq 62, .sipush 1, .goto 63]),
  (62, [.sipush 0, .jsr 63]),
  (63, [.invokeinterface 192 4, .iload 2, .ifCond .eq 74, .sipush 1, .goto 75]),
  (74, [.sipush 0, .jsr 75]),
  (75, [.ireturn])]
/-- M.walksOn -/
def g_c226 : List (Nat × List Instr) := [(0, [.aload 0, .checkcast 640, .sipush 3, .iaload, .sipush 1, .iadd, .istore 1, .sipush 0, .istore 2, .jsr 11]),
  (11, [.iload 2, .iload 1, .if_icmp .ge 56, .aload 0, .checkcast 640, .sipush 4, .iaload, .sipush 40, .if_icmp .ge 56, .aload 0, .aload 0, .checkcast 640, .sipush 4, .iaload, .invokeinterface 227 2, .ifCond .eq 56, .aload 0, .checkcast 640, .sipush 4, .dup2, .iaload, .sipush 1, .iadd, .iastore, .iinc 2 1, .goto 11]),
  (56, [.sipush 2, .iload 2, .imul, .ireturn])]
/-- M.isThere -/
def g_c227 : List (Nat × List Instr) := [(0, [.sipush 0, .istore 2, .sipush 0, .istore 3, .jsr 4]),
  (4, [.iload 3, .aload 0, .checkcast 640, .sipush 6, .iaload, .if_icmp .ge 50, .iload 2, .ifCond .ne 38, .aload 0, .iload 3, .sipush 4, .invokeinterface 196 3, .sipush 1, .if_icmp .ne 42, .aload 0, .iload 3, .iload 1, .invokeinterface 228 3, .ifCond .eq 42, .jsr 38]),
  (38, [.sipush 1, .goto 43]),
  (42, [.sipush 0, .jsr 43]),
  (43, [.istore 2, .iinc 3 1, .goto 4]),
  (50, [.iload 2, .ireturn])]
/-- M.isSpanned -/
def g_c228 : List (Nat × List Instr) := [(0, [.iload 2, .aload 0, .iload 1, .sipush 1, .invokeinterface 196 3, .aload 0, .iload 1, .sipush 1, .invokeinterface 196 3, .aload 0, .iload 1, .invokeinterface 195 2, .iadd, .sipush 1, .isub, .invokeinterface 172 3, .ireturn])]
/-- M.on -/
def g_c229 : List (Nat × List Instr) := [(0, [.iload 1, .sipush 0, .sipush 16, .invokeinterface 172 3, .ifCond .ne 12, .sipush (-1), .ireturn]),
  (12, [.aload 0, .invokeinterface 230 1, .aload 0, .iload 1, .invokeinterface 231 2, .istore 2, .aload 0, .invokeinterface 232 1, .iload 2, .ireturn])]
/-- M.layDown -/
def g_c230 : List (Nat × List Instr) := [(0, [.sipush 0, .istore 1, .jsr 2]),
  (2, [.iload 1, .sipush 74, .if_icmp .ge 26, .aload 0, .checkcast 642, .iload 1, .aload 0, .checkcast 640, .iload 1, .iaload, .iastore, .iinc 1 1, .goto 2]),
  (26, [.return_])]
/-- M.restOf -/
def g_c231 : List (Nat × List Instr) := [(0, [.sipush 0, .istore 2, .sipush 0, .istore 3, .jsr 4]),
  (4, [.iload 3, .iload 1, .if_icmp .ge 30, .aload 0, .invokeinterface 217 1, .ifCond .ne 30, .iload 2, .aload 0, .sipush (-1), .invokeinterface 220 2, .iadd, .istore 2, .iinc 3 1, .goto 4]),
  (30, [.iload 2, .ireturn])]
/-- M.layBack -/
def g_c232 : List (Nat × List Instr) := [(0, [.sipush 0, .istore 1, .jsr 2]),
  (2, [.iload 1, .sipush 74, .if_icmp .ge 26, .aload 0, .checkcast 640, .iload 1, .aload 0, .checkcast 642, .iload 1, .iaload, .iastore, .iinc 1 1, .goto 2]),
  (26, [.return_])]
/-- M.when -/
def g_c233 : List (Nat × List Instr) := [(0, [.aload 0, .iload 1, .invokeinterface 194 2, .ifCond .ne 10, .sipush (-1), .ireturn]),
  (10, [.aload 0, .invokeinterface 230 1, .sipush (-3), .istore 2, .aload 0, .iload 1, .sipush 4, .invokeinterface 196 3, .ifCond .ne 30, .sipush 1, .goto 31]),
  (30, [.sipush 0, .jsr 31]),
  (31, [.istore 3, .jsr 32]),
  (32, [.iload 3, .ifCond .eq 91, .aload 0, .invokeinterface 217 1, .ifCond .ne 91, .aload 0, .sipush (-1), .invokeinterface 220 2, .istore 4, .aload 0, .iload 1, .sipush 4, .invokeinterface 196 3, .ifCond .ne 63, .sipush 1, .goto 64]),
  (63, [.sipush 0, .jsr 64]),
  (64, [.istore 3, .iload 3, .ifCond .ne 74, .iload 4, .ifCond .ge 79, .jsr 74]),
  (74, [.sipush (-3), .goto 87]),
  (79, [.aload 0, .checkcast 640, .sipush 0, .iaload, .sipush 1, .isub, .jsr 87]),
  (87, [.istore 2, .goto 32]),
  (91, [.aload 0, .invokeinterface 232 1, .iload 2, .ireturn])]
/-- M.widthFor -/
def g_c234 : List (Nat × List Instr) := [(0, [.aload 0, .iload 1, .sipush 2, .sipush 9, .invokeinterface 235 4, .ireturn])]
/-- M.bestFor -/
def g_c235 : List (Nat × List Instr) := [(0, [.aload 0, .iload 1, .invokeinterface 194 2, .ifCond .ne 10, .sipush (-1), .ireturn]),
  (10, [.sipush 0, .istore 4, .sipush (-1), .istore 5, .aload 0, .invokeinterface 230 1, .sipush 0, .istore 6, .jsr 23]),
  (23, [.iload 6, .iload 3, .if_icmp .gt 87, .aload 0, .iload 1, .iload 2, .iload 6, .invokeinterface 192 4, .aload 0, .sipush 16, .invokeinterface 231 2, .istore 7, .iload 7, .iload 5, .if_icmp .le 57, .iload 6, .goto 59]),
  (57, [.iload 4, .jsr 59]),
  (59, [.istore 4, .iload 7, .iload 5, .if_icmp .le 73, .iload 7, .goto 75]),
  (73, [.iload 5, .jsr 75]),
  (75, [.istore 5, .aload 0, .invokeinterface 232 1, .iinc 6 1, .goto 23]),
  (87, [.iload 4, .ireturn])]
/-- M.pieceFor -/
def g_c236 : List (Nat × List Instr) := [(0, [.aload 0, .iload 1, .sipush 1, .sipush 39, .invokeinterface 235 4, .ireturn])]
/-- M.over -/
def g_c237 : List (Nat × List Instr) := [(0, [.iload 1, .sipush 0, .sipush 40, .invokeinterface 172 3, .ifCond .ne 12, .sipush (-1), .ireturn]),
  (12, [.aload 0, .invokeinterface 230 1, .sipush (-3), .istore 2, .jsr 19]),
  (19, [.iload 2, .sipush (-3), .if_icmp .ne 69, .aload 0, .invokeinterface 217 1, .ifCond .ne 69, .aload 0, .sipush (-1), .invokeinterface 220 2, .istore 3, .aload 0, .checkcast 640, .sipush 4, .iaload, .iload 1, .if_icmp .lt 63, .iload 3, .ifCond .lt 63, .aload 0, .checkcast 640, .sipush 0, .iaload, .sipush 1, .isub, .goto 65]),
  (63, [.sipush (-3), .jsr 65]),
  (65, [.istore 2, .goto 19]),
  (69, [.aload 0, .invokeinterface 232 1, .iload 2, .ireturn])]
/-- M.gap -/
def g_c238 : List (Nat × List Instr) := [(0, [.iload 1, .sipush 0, .sipush 1, .invokeinterface 172 3, .ifCond .ne 11, .sipush (-1), .ireturn]),
  (11, [.sipush 0, .istore 2, .sipush (-3), .istore 3, .sipush 39, .istore 4, .jsr 20]),
  (20, [.iload 4, .ifCond .lt 118, .sipush 0, .istore 5, .sipush 0, .istore 6, .jsr 31]),
  (31, [.iload 6, .aload 0, .checkcast 640, .sipush 6, .iaload, .if_icmp .ge 72, .iload 5, .ifCond .ne 59, .aload 0, .iload 6, .iload 4, .invokeinterface 228 3, .ifCond .eq 63, .jsr 59]),
  (59, [.sipush 1, .goto 64]),
  (63, [.sipush 0, .jsr 64]),
  (64, [.istore 5, .iinc 6 1, .goto 31]),
  (72, [.iload 2, .aload 0, .iload 4, .invokeinterface 227 2, .ifCond .eq 86, .sipush 0, .goto 87]),
  (86, [.sipush 1, .jsr 87]),
  (87, [.iadd, .istore 2, .iload 4, .aload 0, .checkcast 640, .sipush 4, .iaload, .if_icmp .lt 110, .iload 5, .ifCond .ne 110, .iload 4, .goto 111]),
  (110, [.iload 3, .jsr 111]),
  (111, [.istore 3, .iinc 4 (-1), .goto 20]),
  (118, [.iload 1, .ifCond .ne 126, .iload 3, .goto 127]),
  (126, [.iload 2, .jsr 127]),
  (127, [.ireturn])]
/-- M.branches -/
def g_c239 : List (Nat × List Instr) := [(0, [.iload 1, .sipush (-1), .if_icmp .eq 15, .aload 0, .iload 1, .invokeinterface 194 2, .ifCond .ne 15, .sipush (-1), .ireturn]),
  (15, [.iload 1, .ifCond .lt 25, .aload 0, .iload 1, .invokeinterface 240 2, .ireturn]),
  (25, [.sipush 0, .istore 2, .sipush 0, .istore 3, .jsr 29]),
  (29, [.iload 3, .aload 0, .checkcast 640, .sipush 6, .iaload, .if_icmp .ge 75, .aload 0, .iload 3, .invokeinterface 240 2, .istore 4, .iload 2, .iload 4, .ifCond .eq 66, .iload 4, .sipush 1, .iload 3, .ishl, .irem, .ifCond .ne 66, .sipush 1, .goto 67]),
  (66, [.sipush 0, .jsr 67]),
  (67, [.iadd, .istore 2, .iinc 3 1, .goto 29]),
  (75, [.iload 2, .ireturn])]
/-- M.branchOf -/
def g_c240 : List (Nat × List Instr) := [(0, [.sipush 1, .iload 1, .ishl, .istore 2, .sipush 0, .istore 3, .jsr 6]),
  (6, [.iload 3, .aload 0, .checkcast 640, .sipush 6, .iaload, .if_icmp .ge 97, .sipush 0, .istore 4, .jsr 20]),
  (20, [.iload 4, .aload 0, .checkcast 640, .sipush 6, .iaload, .if_icmp .ge 91, .sipush 0, .istore 5, .jsr 35]),
  (35, [.iload 5, .aload 0, .checkcast 640, .sipush 6, .iaload, .if_icmp .ge 85, .iload 2, .iload 2, .iload 4, .ishr, .sipush 1, .iand, .sipush 1, .if_icmp .ne 76, .aload 0, .iload 4, .iload 5, .invokeinterface 241 3, .ifCond .eq 76, .sipush 1, .iload 5, .ishl, .goto 77]),
  (76, [.sipush 0, .jsr 77]),
  (77, [.ior, .istore 2, .iinc 5 1, .goto 35]),
  (85, [.iinc 4 1, .goto 20]),
  (91, [.iinc 3 1, .goto 6]),
  (97, [.aload 0, .iload 1, .sipush 4, .invokeinterface 196 3, .sipush 1, .if_icmp .ne 111, .sipush 0, .goto 112]),
  (111, [.iload 2, .jsr 112]),
  (112, [.ireturn])]
/-- M.areClose -/
def g_c241 : List (Nat × List Instr) := [(0, [.aload 0, .iload 1, .sipush 1, .invokeinterface 196 3, .aload 0, .iload 2, .sipush 1, .invokeinterface 196 3, .isub, .istore 3, .aload 0, .iload 1, .sipush 4, .invokeinterface 196 3, .ifCond .ne 61, .aload 0, .iload 2, .sipush 4, .invokeinterface 196 3, .ifCond .ne 61, .aload 0, .iload 1, .sipush 3, .invokeinterface 196 3, .aload 0, .iload 2, .sipush 3, .invokeinterface 196 3, .if_icmp .eq 57, .iload 3, .sipush (-2), .sipush 2, .invokeinterface 172 3, .ifCond .eq 61, .jsr 57]),
  (57, [.sipush 1, .goto 62]),
  (61, [.sipush 0, .jsr 62]),
  (62, [.ireturn])]
/-- M.fetch -/
def g_c242 : List (Nat × List Instr) := [(0, [.iload 1, .sipush 0, .sipush 40, .invokeinterface 172 3, .ifCond .eq 19, .iload 2, .sipush 0, .sipush 1, .invokeinterface 172 3, .ifCond .ne 21, .jsr 19]),
  (19, [.sipush (-1), .ireturn]),
  (21, [.sipush 1, .aload 0, .checkcast 640, .sipush 6, .iaload, .ishl, .sipush 1, .isub, .aload 0, .sipush 4, .invokeinterface 218 2, .sipush (-1), .ixor, .iand, .istore 3, .aload 0, .sipush (-1), .putfield 656, .aload 0, .iload 3, .iload 1, .sipush 0, .sipush (-1), .invokeinterface 243 5, .iload 2, .ifCond .ne 65, .aload 0, .getfield 656, .goto 78]),
  (65, [.iload 3, .ifCond .ne 74, .sipush (-3), .goto 78]),
  (74, [.aload 0, .getfield 657, .jsr 78]),
  (78, [.ireturn])]
/-- M.goesRound -/
def g_c243 : List (Nat × List Instr) := [(0, [.iload 1, .ifCond .ne 31, .aload 0, .getfield 656, .ifCond .lt 19, .iload 3, .aload 0, .getfield 656, .if_icmp .ge 30, .jsr 19]),
  (19, [.aload 0, .iload 3, .putfield 656, .aload 0, .iload 4, .putfield 657, .jsr 30]),
  (30, [.return_]),
  (31, [.sipush 0, .istore 5, .jsr 34]),
  (34, [.iload 5, .aload 0, .checkcast 640, .sipush 6, .iaload, .if_icmp .ge 131, .iload 1, .iload 5, .ishr, .sipush 1, .iand, .sipush 1, .if_icmp .ne 125, .aload 0, .iload 5, .sipush 1, .invokeinterface 196 3, .iload 2, .if_icmp .ge 79, .iload 2, .aload 0, .iload 5, .sipush 1, .invokeinterface 196 3, .isub, .goto 88]),
  (79, [.aload 0, .iload 5, .sipush 1, .invokeinterface 196 3, .iload 2, .isub, .jsr 88]),
  (88, [.istore 6, .aload 0, .iload 1, .sipush 1, .iload 5, .ishl, .sipush (-1), .ixor, .iand, .aload 0, .iload 5, .sipush 1, .invokeinterface 196 3, .iload 3, .iload 6, .iadd, .iload 4, .ifCond .ge 120, .iload 5, .goto 122]),
  (120, [.iload 4, .jsr 122]),
  (122, [.invokeinterface 243 5, .jsr 125]),
  (125, [.iinc 5 1, .goto 34]),
  (131, [.return_])]
/-- M.best -/
def g_c244 : List (Nat × List Instr) := [(0, [.iload 1, .invokeinterface 245 1, .ifCond .ne 9, .sipush (-1), .ireturn]),
  (9, [.aload 0, .iload 1, .sipush 0, .invokeinterface 246 3, .aload 0, .getfield 661, .ireturn])]
/-- M.isPlan -/
def g_c245 : List (Nat × List Instr) := [(0, [.iload 0, .sipush 0, .sipush 4, .invokeinterface 172 3, .ireturn])]
/-- M.triesAll -/
def g_c246 : List (Nat × List Instr) := [(0, [.aload 0, .sipush (-1), .putfield 661, .aload 0, .sipush 0, .putfield 662, .aload 0, .sipush 5, .putfield 663, .aload 0, .sipush 0, .putfield 664, .aload 0, .sipush 0, .aload 0, .iload 1, .invokeinterface 247 2, .sipush 0, .sipush 0, .iload 2, .invokeinterface 248 6, .return_])]
/-- M.daysOf -/
def g_c247 : List (Nat × List Instr) := [(0, [.aload 0, .invokeinterface 217 1, .ifCond .eq 11, .sipush 0, .goto 24]),
  (11, [.aload 0, .checkcast 640, .sipush 1, .iaload, .aload 0, .checkcast 640, .sipush 0, .iaload, .isub, .jsr 24]),
  (24, [.istore 2, .iload 1, .iload 2, .if_icmp .ge 34, .iload 1, .goto 35]),
  (34, [.iload 2, .jsr 35]),
  (35, [.ireturn])]
/-- M.goesPlans -/
def g_c248 : List (Nat × List Instr) := [(0, [.iload 1, .iload 2, .if_icmp .ne 16, .aload 0, .iload 2, .iload 3, .iload 4, .iload 5, .invokeinterface 249 5, .return_]),
  (16, [.aload 0, .iload 1, .invokeinterface 250 2, .sipush 0, .istore 6, .jsr 24]),
  (24, [.iload 6, .aload 0, .checkcast 640, .sipush 6, .iaload, .if_icmp .gt 91, .aload 0, .checkcast 659, .iload 1, .iload 6, .iastore, .aload 0, .iload 6, .invokeinterface 220 2, .istore 7, .aload 0, .iload 1, .sipush 1, .iadd, .iload 2, .iload 3, .iload 7, .iadd, .iload 6, .ifCond .le 73, .iload 4, .sipush 1, .iadd, .goto 75]),
  (73, [.iload 4, .jsr 75]),
  (75, [.iload 5, .invokeinterface 248 6, .aload 0, .iload 1, .invokeinterface 251 2, .iinc 6 1, .goto 24]),
  (91, [.return_])]
/-- M.endsPlan -/
def g_c249 : List (Nat × List Instr) := [(0, [.iload 2, .aload 0, .getfield 661, .if_icmp .le 47, .aload 0, .sipush 0, .putfield 662, .aload 0, .iload 2, .putfield 661, .sipush 0, .istore 5, .jsr 21]),
  (21, [.iload 5, .iload 1, .if_icmp .ge 47, .aload 0, .checkcast 660, .iload 5, .aload 0, .checkcast 659, .iload 5, .iaload, .iastore, .iinc 5 1, .goto 21]),
  (47, [.aload 0, .dup, .getfield 662, .iload 2, .aload 0, .getfield 661, .if_icmp .ne 64, .sipush 1, .goto 65]),
  (64, [.sipush 0, .jsr 65]),
  (65, [.iadd, .putfield 662, .aload 0, .sipush 4, .invokeinterface 218 2, .istore 5, .aload 0, .iload 4, .iload 5, .sipush (-1), .ixor, .iand, .ifCond .ne 99, .iload 3, .aload 0, .getfield 663, .if_icmp .ge 99, .iload 3, .goto 103]),
  (99, [.aload 0, .getfield 663, .jsr 103]),
  (103, [.putfield 663, .aload 0, .dup, .getfield 664, .iload 5, .ior, .putfield 664, .return_])]
/-- M.saves -/
def g_c250 : List (Nat × List Instr) := [(0, [.sipush 0, .istore 2, .jsr 2]),
  (2, [.iload 2, .sipush 74, .if_icmp .ge 31, .aload 0, .checkcast 658, .sipush 74, .iload 1, .imul, .iload 2, .iadd, .aload 0, .checkcast 640, .iload 2, .iaload, .iastore, .iinc 2 1, .goto 2]),
  (31, [.return_])]
/-- M.restores -/
def g_c251 : List (Nat × List Instr) := [(0, [.sipush 0, .istore 2, .jsr 2]),
  (2, [.iload 2, .sipush 74, .if_icmp .ge 31, .aload 0, .checkcast 640, .iload 2, .aload 0, .checkcast 658, .sipush 74, .iload 1, .imul, .iload 2, .iadd, .iaload, .iastore, .iinc 2 1, .goto 2]),
  (31, [.return_])]
/-- M.ith -/
def g_c252 : List (Nat × List Instr) := [(0, [.iload 1, .invokeinterface 245 1, .ifCond .eq 16, .iload 2, .sipush 0, .sipush 3, .invokeinterface 172 3, .ifCond .ne 18, .jsr 16]),
  (16, [.sipush (-1), .ireturn]),
  (18, [.aload 0, .iload 1, .sipush 0, .invokeinterface 246 3, .iload 2, .aload 0, .iload 1, .invokeinterface 247 2, .if_icmp .ge 42, .aload 0, .checkcast 660, .iload 2, .iaload, .goto 44]),
  (42, [.sipush (-3), .jsr 44]),
  (44, [.ireturn])]
/-- M.ways -/
def g_c253 : List (Nat × List Instr) := [(0, [.iload 1, .invokeinterface 245 1, .ifCond .ne 9, .sipush (-1), .ireturn]),
  (9, [.aload 0, .iload 1, .sipush 0, .invokeinterface 246 3, .aload 0, .getfield 662, .ireturn])]
/-- M.supper -/
def g_c254 : List (Nat × List Instr) := [(0, [.iload 1, .invokeinterface 245 1, .ifCond .eq 15, .aload 0, .iload 2, .invokeinterface 255 2, .ifCond .ne 17, .jsr 15]),
  (15, [.sipush (-1), .ireturn]),
  (17, [.aload 0, .iload 1, .iload 2, .invokeinterface 246 3, .aload 0, .getfield 663, .sipush 4, .if_icmp .le 36, .sipush (-3), .goto 40]),
  (36, [.aload 0, .getfield 663, .jsr 40]),
  (40, [.ireturn])]
/-- M.isSet -/
def g_c255 : List (Nat × List Instr) := [(0, [.iload 1, .sipush 0, .sipush 1, .aload 0, .checkcast 640, .sipush 6, .iaload, .ishl, .sipush 1, .isub, .invokeinterface 172 3, .ireturn])]
/-- M.bars -/
def g_c256 : List (Nat × List Instr) := [(0, [.iload 1, .invokeinterface 245 1, .ifCond .eq 15, .aload 0, .iload 2, .invokeinterface 255 2, .ifCond .ne 17, .jsr 15]),
  (15, [.sipush (-1), .ireturn]),
  (17, [.aload 0, .iload 1, .iload 2, .invokeinterface 246 3, .iload 2, .aload 0, .getfield 664, .sipush (-1), .ixor, .iand, .istore 3, .sipush 0, .istore 4, .jsr 35]),
  (35, [.iload 4, .aload 0, .checkcast 640, .sipush 6, .iaload, .if_icmp .ge 62, .iload 3, .iload 4, .ishr, .sipush 1, .iand, .ifCond .ne 62, .iinc 4 1, .goto 35]),
  (62, [.iload 4, .aload 0, .checkcast 640, .sipush 6, .iaload, .if_icmp .ge 79, .iload 4, .goto 81]),
  (79, [.sipush (-3), .jsr 81]),
  (81, [.ireturn])]
/-- M.game -/
def g_c257 : List (Nat × List Instr) := [(0, [.iload 1, .sipush 1, .sipush 4, .invokeinterface 172 3, .ifCond .eq 22, .aload 0, .sipush 0, .aload 0, .iload 1, .invokeinterface 247 2, .invokeinterface 258 3, .goto 23]),
  (22, [.sipush (-1), .jsr 23]),
  (23, [.ireturn])]
/-- M.playedFrom -/
def g_c258 : List (Nat × List Instr) := [(0, [.iload 1, .iload 2, .if_icmp .ne 7, .sipush 0, .ireturn]),
  (7, [.aload 0, .iload 1, .invokeinterface 250 2, .sipush 0, .istore 3, .sipush (-1), .istore 4, .sipush 0, .istore 5, .jsr 20]),
  (20, [.iload 5, .aload 0, .checkcast 640, .sipush 6, .iaload, .if_icmp .gt 123, .aload 0, .iload 5, .invokeinterface 220 2, .istore 6, .iload 6, .aload 0, .iload 1, .sipush 1, .iadd, .iload 2, .invokeinterface 258 3, .iadd, .istore 7, .aload 0, .iload 1, .invokeinterface 251 2, .iload 4, .ifCond .lt 84, .iload 1, .sipush 2, .irem, .ifCond .ne 78, .iload 7, .iload 3, .if_icmp .le 88, .goto 84]),
  (78, [.iload 7, .iload 3, .if_icmp .ge 88, .jsr 84]),
  (84, [.sipush 1, .goto 89]),
  (88, [.sipush 0, .jsr 89]),
  (89, [.istore 8, .iload 8, .ifCond .eq 101, .iload 5, .goto 103]),
  (101, [.iload 4, .jsr 103]),
  (103, [.istore 4, .iload 8, .ifCond .eq 115, .iload 7, .goto 116]),
  (115, [.iload 3, .jsr 116]),
  (116, [.istore 3, .iinc 5 1, .goto 20]),
  (123, [.aload 0, .checkcast 659, .iload 1, .iload 4, .iastore, .iload 3, .ireturn])]
/-- M.play -/
def g_c259 : List (Nat × List Instr) := [(0, [.iload 1, .sipush 1, .sipush 4, .invokeinterface 172 3, .ifCond .ne 11, .sipush (-1), .ireturn]),
  (11, [.aload 0, .invokeinterface 217 1, .ifCond .eq 21, .sipush (-3), .ireturn]),
  (21, [.aload 0, .sipush 0, .aload 0, .iload 1, .invokeinterface 247 2, .invokeinterface 258 3, .istore 2, .iload 2, .ifCond .ge 41, .sipush (-3), .goto 47]),
  (41, [.aload 0, .checkcast 659, .sipush 0, .iaload, .jsr 47]),
  (47, [.ireturn])]
/-- M.report -/
def g_c260 : List (Nat × List Instr) := [(0, [.iload 2, .ifCond .ne 9, .sipush 40, .goto 11]),
  (9, [.sipush 9, .jsr 11]),
  (11, [.istore 5, .iload 1, .sipush 0, .sipush 15, .invokeinterface 172 3, .ifCond .eq 53, .iload 2, .sipush 0, .sipush 1, .invokeinterface 172 3, .ifCond .eq 53, .iload 3, .sipush 0, .iload 5, .invokeinterface 172 3, .ifCond .eq 53, .iload 4, .iload 3, .iload 5, .invokeinterface 172 3, .ifCond .ne 55, .jsr 53]),
  (53, [.sipush (-1), .ireturn]),
  (55, [.aload 0, .checkcast 640, .sipush 8, .iaload, .sipush 6, .if_icmp .ne 70, .sipush (-2), .ireturn]),
  (70, [.sipush 74, .sipush 4, .aload 0, .checkcast 640, .sipush 8, .iaload, .imul, .iadd, .istore 6, .aload 0, .checkcast 640, .iload 6, .iload 1, .iastore, .aload 0, .checkcast 640, .iload 6, .sipush 1, .iadd, .iload 2, .iastore, .aload 0, .checkcast 640, .iload 6, .sipush 2, .iadd, .iload 3, .iastore, .aload 0, .checkcast 640, .iload 6, .sipush 3, .iadd, .iload 4, .iastore, .aload 0, .checkcast 640, .sipush 8, .dup2, .iaload, .sipush 1, .iadd, .iastore, .aload 0, .checkcast 640, .sipush 8, .iaload, .sipush 1, .isub, .ireturn])]
/-- M.forget -/
def g_c261 : List (Nat × List Instr) := [(0, [.aload 0, .sipush 8, .sipush 0, .invokeinterface 208 3, .ireturn])]
/-- M.lost -/
def g_c262 : List (Nat × List Instr) := [(0, [.iload 1, .sipush 0, .sipush 3, .invokeinterface 172 3, .ifCond .ne 11, .sipush (-1), .ireturn]),
  (11, [.aload 0, .sipush (-1), .invokeinterface 263 2, .istore 2, .iload 1, .ifCond .le 28, .iload 2, .ifCond .ne 28, .sipush (-3), .ireturn]),
  (28, [.iload 1, .ifCond .ne 36, .iload 2, .goto 78]),
  (36, [.iload 1, .sipush 1, .if_icmp .ne 53, .sipush 1, .aload 0, .getfield 667, .sipush 100, .idiv, .iadd, .goto 78]),
  (53, [.iload 1, .sipush 2, .if_icmp .ne 71, .aload 0, .getfield 667, .sipush 10, .idiv, .sipush 10, .irem, .goto 78]),
  (71, [.aload 0, .getfield 667, .sipush 10, .irem, .jsr 78]),
  (78, [.ireturn])]
/-- M.fitting -/
def g_c263 : List (Nat × List Instr) := [(0, [.sipush 0, .istore 2, .aload 0, .sipush (-1), .putfield 667, .sipush 0, .istore 3, .jsr 9]),
  (9, [.iload 3, .sipush 500, .if_icmp .ge 131, .aload 0, .sipush 1, .iload 3, .sipush 100, .idiv, .iadd, .iload 3, .sipush 10, .idiv, .sipush 10, .irem, .iload 3, .sipush 10, .irem, .invokeinterface 264 4, .sipush 1, .istore 4, .sipush 0, .istore 5, .jsr 43]),
  (43, [.iload 5, .aload 0, .checkcast 640, .sipush 8, .iaload, .if_icmp .ge 88, .iload 4, .ifCond .eq 88, .iload 5, .iload 1, .if_icmp .eq 75, .aload 0, .iload 5, .invokeinterface 265 2, .ifCond .eq 79, .jsr 75]),
  (75, [.sipush 1, .goto 80]),
  (79, [.sipush 0, .jsr 80]),
  (80, [.istore 4, .iinc 5 1, .goto 43]),
  (88, [.iload 2, .iload 4, .ifCond .eq 98, .sipush 1, .goto 99]),
  (98, [.sipush 0, .jsr 99]),
  (99, [.iadd, .istore 2, .aload 0, .iload 4, .ifCond .eq 118, .aload 0, .getfield 667, .ifCond .ge 118, .iload 3, .goto 122]),
  (118, [.aload 0, .getfield 667, .jsr 122]),
  (122, [.putfield 667, .iinc 3 1, .goto 9]),
  (131, [.iload 2, .ireturn])]
/-- M.tellsStranger -/
def g_c264 : List (Nat × List Instr) := [(0, [.iload 3, .istore 4, .sipush 0, .istore 5, .sipush 0, .istore 6, .jsr 9]),
  (9, [.iload 6, .sipush 16, .if_icmp .ge 105, .aload 0, .checkcast 665, .iload 6, .iload 5, .iastore, .aload 0, .checkcast 666, .iload 6, .iload 4, .iastore, .iload 4, .aload 0, .checkcast 640, .sipush 10, .iload 6, .iadd, .iaload, .invokeinterface 221 2, .istore 4, .iload 1, .iload 2, .iload 6, .invokeinterface 197 3, .istore 7, .iload 7, .iload 5, .isub, .istore 8, .iload 5, .iload 8, .ifCond .gt 78, .sipush 0, .goto 96]),
  (78, [.iload 8, .iload 4, .sipush 1, .iadd, .if_icmp .le 94, .iload 4, .sipush 1, .iadd, .goto 96]),
  (94, [.iload 8, .jsr 96]),
  (96, [.iadd, .istore 5, .iinc 6 1, .goto 9]),
  (105, [.return_])]
/-- M.isSo -/
def g_c265 : List (Nat × List Instr) := [(0, [.sipush 74, .sipush 4, .iload 1, .imul, .iadd, .istore 2, .aload 0, .checkcast 640, .iload 2, .sipush 1, .iadd, .iaload, .ifCond .ne 32, .aload 0, .checkcast 665, .aload 0, .checkcast 640, .iload 2, .iaload, .iaload, .goto 43]),
  (32, [.aload 0, .checkcast 666, .aload 0, .checkcast 640, .iload 2, .iaload, .iaload, .jsr 43]),
  (43, [.istore 3, .iload 3, .aload 0, .checkcast 640, .iload 2, .sipush 2, .iadd, .iaload, .aload 0, .checkcast 640, .iload 2, .sipush 3, .iadd, .iaload, .invokeinterface 172 3, .ireturn])]
/-- M.liar -/
def g_c266 : List (Nat × List Instr) := [(0, [.aload 0, .sipush (-1), .invokeinterface 263 2, .ifCond .le 11, .sipush (-3), .ireturn]),
  (11, [.sipush 0, .istore 1, .jsr 13]),
  (13, [.iload 1, .aload 0, .checkcast 640, .sipush 8, .iaload, .if_icmp .ge 40, .aload 0, .iload 1, .invokeinterface 263 2, .ifCond .le 34, .iload 1, .ireturn]),
  (34, [.iinc 1 1, .goto 13]),
  (40, [.sipush (-3), .ireturn])]
/-- M.seed -/
def g_c267 : List (Nat × List Instr) := [(0, [.aload 0, .sipush 5, .iload 1, .invokeinterface 208 3, .ireturn])]
/-- M.lot -/
def g_c268 : List (Nat × List Instr) := [(0, [.aload 0, .invokeinterface 217 1, .ifCond .eq 12, .sipush (-4), .goto 16]),
  (12, [.aload 0, .invokeinterface 269 1, .jsr 16]),
  (16, [.ireturn])]
/-- M.byLot -/
def g_c269 : List (Nat × List Instr) := [(0, [.aload 0, .checkcast 640, .sipush 5, .aload 0, .checkcast 640, .sipush 5, .iaload, .sipush 1103515245, .imul, .sipush 12345, .iadd, .iastore, .aload 0, .aload 0, .checkcast 640, .sipush 5, .iaload, .sipush 16, .iushr, .aload 0, .checkcast 640, .sipush 6, .iaload, .sipush 1, .iadd, .irem, .invokeinterface 220 2, .ireturn])]
/-- M.times -/
def g_c270 : List (Nat × List Instr) := [(0, [.iload 1, .sipush 1, .sipush 40, .invokeinterface 172 3, .ifCond .eq 21, .iload 2, .sipush 0, .sipush 999, .invokeinterface 172 3, .ifCond .ne 23, .jsr 21]),
  (21, [.sipush (-1), .ireturn]),
  (23, [.aload 0, .invokeinterface 230 1, .sipush 0, .istore 3, .sipush 0, .istore 4, .jsr 32]),
  (32, [.iload 4, .iload 1, .if_icmp .ge 100, .sipush 0, .istore 5, .jsr 41]),
  (41, [.aload 0, .invokeinterface 217 1, .ifCond .ne 60, .iload 5, .aload 0, .invokeinterface 269 1, .iadd, .istore 5, .goto 41]),
  (60, [.iload 3, .iload 5, .iload 2, .if_icmp .lt 71, .sipush 1, .goto 72]),
  (71, [.sipush 0, .jsr 72]),
  (72, [.iadd, .istore 3, .aload 0, .checkcast 640, .sipush 5, .iaload, .istore 6, .aload 0, .invokeinterface 232 1, .aload 0, .checkcast 640, .sipush 5, .iload 6, .iastore, .iinc 4 1, .goto 32]),
  (100, [.aload 0, .invokeinterface 232 1, .iload 3, .ireturn])]
/-- M.prove -/
def g_c271 : List (Nat × List Instr) := [(0, [.iload 1, .invokeinterface 245 1, .ifCond .ne 9, .sipush (-1), .ireturn]),
  (9, [.aload 0, .iload 1, .sipush 0, .invokeinterface 246 3, .aload 0, .aload 0, .iload 1, .invokeinterface 247 2, .putfield 669, .aload 0, .invokeinterface 230 1, .sipush 0, .istore 2, .jsr 30]),
  (30, [.iload 2, .aload 0, .getfield 669, .if_icmp .ge 93, .aload 0, .checkcast 668, .sipush 3, .iload 2, .imul, .aload 0, .checkcast 660, .iload 2, .iaload, .iastore, .aload 0, .checkcast 668, .sipush 3, .iload 2, .imul, .sipush 1, .iadd, .aload 0, .aload 0, .checkcast 660, .iload 2, .iaload, .invokeinterface 220 2, .iastore, .aload 0, .checkcast 668, .sipush 3, .iload 2, .imul, .sipush 2, .iadd, .aload 0, .sipush 4, .invokeinterface 218 2, .iastore, .iinc 2 1, .goto 30]),
  (93, [.aload 0, .invokeinterface 232 1, .aload 0, .getfield 669, .ireturn])]
/-- M.row -/
def g_c272 : List (Nat × List Instr) := [(0, [.aload 0, .iload 1, .iload 2, .invokeinterface 273 3, .ifCond .eq 22, .aload 0, .checkcast 668, .sipush 3, .iload 1, .imul, .iload 2, .iadd, .iaload, .goto 24]),
  (22, [.sipush (-9), .jsr 24]),
  (24, [.ireturn])]
/-- M.isRow -/
def g_c273 : List (Nat × List Instr) := [(0, [.iload 1, .sipush 0, .aload 0, .getfield 669, .sipush 1, .isub, .invokeinterface 172 3, .ifCond .eq 27, .iload 2, .sipush 0, .sipush 2, .invokeinterface 172 3, .ifCond .eq 27, .sipush 1, .goto 28]),
  (27, [.sipush 0, .jsr 28]),
  (28, [.ireturn])]
/-- M.alterRow -/
def g_c274 : List (Nat × List Instr) := [(0, [.aload 0, .iload 1, .iload 2, .invokeinterface 273 3, .ifCond .ne 12, .sipush (-9), .ireturn]),
  (12, [.aload 0, .checkcast 668, .sipush 3, .iload 1, .imul, .iload 2, .iadd, .iaload, .istore 4, .aload 0, .checkcast 668, .sipush 3, .iload 1, .imul, .iload 2, .iadd, .iload 3, .iastore, .iload 4, .ireturn])]
/-- M.judge -/
def g_c275 : List (Nat × List Instr) := [(0, [.aload 0, .invokeinterface 230 1, .sipush 0, .istore 1, .sipush 0, .istore 2, .jsr 8]),
  (8, [.iload 2, .aload 0, .getfield 669, .if_icmp .ge 133, .iload 1, .ifCond .ne 133, .aload 0, .aload 0, .checkcast 668, .sipush 3, .iload 2, .imul, .iaload, .invokeinterface 276 2, .ifCond .eq 46, .aload 0, .invokeinterface 217 1, .ifCond .ne 46, .sipush 1, .goto 47]),
  (46, [.sipush 0, .jsr 47]),
  (47, [.istore 3, .iload 3, .ifCond .eq 67, .aload 0, .aload 0, .checkcast 668, .sipush 3, .iload 2, .imul, .iaload, .invokeinterface 220 2, .goto 68]),
  (67, [.sipush 0, .jsr 68]),
  (68, [.istore 4, .iload 3, .ifCond .eq 111, .iload 4, .aload 0, .checkcast 668, .sipush 3, .iload 2, .imul, .sipush 1, .iadd, .iaload, .if_icmp .ne 111, .aload 0, .sipush 4, .invokeinterface 218 2, .aload 0, .checkcast 668, .sipush 3, .iload 2, .imul, .sipush 2, .iadd, .iaload, .if_icmp .ne 111, .sipush 1, .goto 112]),
  (111, [.sipush 0, .jsr 112]),
  (112, [.istore 5, .iload 5, .ifCond .eq 123, .sipush 0, .goto 126]),
  (123, [.sipush 1, .iload 2, .iadd, .jsr 126]),
  (126, [.istore 1, .iinc 2 1, .goto 8]),
  (133, [.aload 0, .invokeinterface 232 1, .iload 1, .ireturn])]
/-- M.isAct -/
def g_c276 : List (Nat × List Instr) := [(0, [.iload 1, .sipush 0, .aload 0, .checkcast 640, .sipush 6, .iaload, .invokeinterface 172 3, .ireturn])]
/-- M.sheet -/
def g_c277 : List (Nat × List Instr) := [(0, [.iload 1, .invokeinterface 278 1, .ifCond .eq 26, .iload 2, .sipush (-1), .sipush 4, .invokeinterface 172 3, .ifCond .eq 26, .iload 2, .ifCond .lt 28, .iload 3, .sipush 40, .if_icmp .le 28, .jsr 26]),
  (26, [.sipush (-1), .ireturn]),
  (28, [.iload 2, .ifCond .lt 39, .iload 3, .ifCond .ge 39, .sipush (-14), .ireturn]),
  (39, [.aload 0, .checkcast 670, .iload 1, .iload 2, .iastore, .aload 0, .checkcast 671, .iload 1, .iload 2, .ifCond .ge 59, .sipush 0, .goto 60]),
  (59, [.iload 3, .jsr 60]),
  (60, [.iastore, .sipush 0, .istore 4, .jsr 64]),
  (64, [.iload 4, .sipush 40, .if_icmp .ge 90, .aload 0, .checkcast 672, .sipush 40, .iload 1, .imul, .iload 4, .iadd, .sipush 0, .iastore, .iinc 4 1, .goto 64]),
  (90, [.sipush 1, .ireturn])]
/-- M.isSheet -/
def g_c278 : List (Nat × List Instr) := [(0, [.iload 0, .sipush 0, .sipush 3, .invokeinterface 172 3, .ireturn])]
/-- M.write -/
def g_c279 : List (Nat × List Instr) := [(0, [.iload 1, .invokeinterface 278 1, .ifCond .ne 9, .sipush (-1), .ireturn]),
  (9, [.aload 0, .checkcast 670, .iload 1, .iaload, .ifCond .ge 21, .sipush (-11), .ireturn]),
  (21, [.iload 2, .sipush 0, .aload 0, .checkcast 671, .iload 1, .iaload, .sipush 1, .isub, .invokeinterface 172 3, .ifCond .ne 40, .sipush (-12), .ireturn]),
  (40, [.aload 0, .checkcast 672, .sipush 40, .iload 1, .imul, .iload 2, .iadd, .iload 3, .aload 0, .checkcast 670, .iload 1, .iaload, .invokeinterface 280 2, .iastore, .sipush 1, .ireturn])]
/-- M.narrowed -/
def g_c280 : List (Nat × List Instr) := [(0, [.iload 1, .ifCond .ne 9, .iload 0, .i2b, .goto 37]),
  (9, [.iload 1, .sipush 1, .if_icmp .ne 19, .iload 0, .i2s, .goto 37]),
  (19, [.iload 1, .sipush 4, .if_icmp .ne 36, .iload 0, .ifCond .eq 32, .sipush 1, .goto 37]),
  (32, [.sipush 0, .goto 37]),
  (36, [.iload 0, .jsr 37]),
  (37, [.ireturn])]
/-- M.item -/
def g_c281 : List (Nat × List Instr) := [(0, [.iload 1, .invokeinterface 278 1, .ifCond .eq 16, .iload 2, .sipush 0, .sipush 4, .invokeinterface 172 3, .ifCond .ne 18, .jsr 16]),
  (16, [.sipush (-1), .ireturn]),
  (18, [.aload 0, .iload 1, .iload 2, .invokeinterface 282 3, .istore 4, .iload 4, .ifCond .eq 36, .iload 4, .goto 68]),
  (36, [.iload 3, .sipush 0, .aload 0, .checkcast 671, .iload 1, .iaload, .sipush 1, .isub, .invokeinterface 172 3, .ifCond .eq 66, .aload 0, .checkcast 672, .sipush 40, .iload 1, .imul, .iload 3, .iadd, .iaload, .goto 68]),
  (66, [.sipush (-12), .jsr 68]),
  (68, [.ireturn])]
/-- M.lacks -/
def g_c282 : List (Nat × List Instr) := [(0, [.aload 0, .checkcast 670, .iload 1, .iaload, .ifCond .ge 14, .sipush (-11), .goto 30]),
  (14, [.aload 0, .checkcast 670, .iload 1, .iaload, .iload 2, .if_icmp .eq 29, .sipush (-13), .goto 30]),
  (29, [.sipush 0, .jsr 30]),
  (30, [.ireturn])]
/-- M.goAll -/
def g_c283 : List (Nat × List Instr) := [(0, [.iload 1, .invokeinterface 278 1, .ifCond .eq 17, .iload 3, .sipush 0, .sipush 20, .invokeinterface 172 3, .ifCond .ne 19, .jsr 17]),
  (17, [.sipush (-1), .ireturn]),
  (19, [.aload 0, .iload 1, .sipush 0, .invokeinterface 282 3, .istore 4, .iload 4, .ifCond .eq 35, .iload 4, .ireturn]),
  (35, [.sipush 0, .istore 5, .sipush 0, .istore 6, .jsr 41]),
  (41, [.iload 6, .iload 3, .if_icmp .ge 114, .aload 0, .iload 1, .iload 2, .iload 6, .invokeinterface 284 4, .ifCond .ne 61, .sipush (-12), .ireturn]),
  (61, [.aload 0, .checkcast 672, .sipush 40, .iload 1, .imul, .iload 2, .iadd, .iload 6, .iadd, .iaload, .istore 7, .iload 5, .aload 0, .iload 7, .invokeinterface 276 2, .ifCond .eq 104, .aload 0, .invokeinterface 217 1, .ifCond .ne 104, .aload 0, .iload 7, .invokeinterface 220 2, .goto 105]),
  (104, [.sipush 0, .jsr 105]),
  (105, [.iadd, .istore 5, .iinc 6 1, .goto 41]),
  (114, [.iload 5, .ireturn])]
/-- M.isItem -/
def g_c284 : List (Nat × List Instr) := [(0, [.iload 2, .ifCond .lt 20, .iload 2, .aload 0, .checkcast 671, .iload 1, .iaload, .iload 3, .isub, .if_icmp .ge 20, .sipush 1, .goto 21]),
  (20, [.sipush 0, .jsr 21]),
  (21, [.ireturn])]
/-- M.wouldBe -/
def g_c285 : List (Nat × List Instr) := [(0, [.iload 1, .invokeinterface 278 1, .ifCond .eq 17, .iload 3, .sipush 0, .sipush 20, .invokeinterface 172 3, .ifCond .ne 19, .jsr 17]),
  (17, [.sipush (-1), .ireturn]),
  (19, [.aload 0, .iload 1, .sipush 0, .invokeinterface 282 3, .istore 4, .sipush 0, .istore 5, .aload 0, .invokeinterface 230 1, .sipush 0, .istore 6, .jsr 37]),
  (37, [.iload 6, .iload 3, .if_icmp .ge 145, .iload 4, .ifCond .ne 145, .aload 0, .iload 1, .iload 2, .iload 6, .invokeinterface 284 4, .ifCond .eq 76, .aload 0, .checkcast 672, .sipush 40, .iload 1, .imul, .iload 2, .iadd, .iload 6, .iadd, .iaload, .goto 77]),
  (76, [.sipush (-1), .jsr 77]),
  (77, [.istore 7, .aload 0, .iload 1, .iload 2, .iload 6, .invokeinterface 284 4, .ifCond .ne 95, .sipush (-12), .goto 117]),
  (95, [.aload 0, .iload 7, .invokeinterface 276 2, .ifCond .eq 111, .aload 0, .invokeinterface 217 1, .ifCond .eq 116, .jsr 111]),
  (111, [.sipush (-4), .goto 117]),
  (116, [.sipush 0, .jsr 117]),
  (117, [.istore 4, .iload 5, .iload 4, .ifCond .ne 135, .aload 0, .iload 7, .invokeinterface 220 2, .goto 136]),
  (135, [.sipush 0, .jsr 136]),
  (136, [.iadd, .istore 5, .iinc 6 1, .goto 37]),
  (145, [.aload 0, .invokeinterface 232 1, .iload 4, .ifCond .eq 159, .iload 4, .goto 161]),
  (159, [.iload 5, .jsr 161]),
  (161, [.ireturn])]
/-- M.shelf -/
def g_c286 : List (Nat × List Instr) := [(0, [.iload 1, .invokeinterface 278 1, .ifCond .eq 40, .iload 2, .sipush 0, .sipush 2, .invokeinterface 172 3, .ifCond .eq 40, .iload 2, .ifCond .ne 28, .aload 0, .iload 3, .invokeinterface 194 2, .ifCond .eq 40, .jsr 28]),
  (28, [.iload 2, .sipush 1, .if_icmp .ne 42, .iload 3, .invokeinterface 278 1, .ifCond .ne 42, .jsr 40]),
  (40, [.sipush (-1), .ireturn]),
  (42, [.aload 0, .checkcast 673, .iload 1, .iload 2, .ifCond .ne 55, .sipush 0, .goto 82]),
  (55, [.iload 2, .sipush 1, .if_icmp .ne 81, .aload 0, .checkcast 670, .iload 3, .iaload, .ifCond .lt 81, .sipush 10, .aload 0, .checkcast 670, .iload 3, .iaload, .iadd, .goto 82]),
  (81, [.sipush (-1), .jsr 82]),
  (82, [.iastore, .aload 0, .checkcast 674, .iload 1, .iload 2, .ifCond .ne 96, .iload 3, .goto 111]),
  (96, [.iload 2, .sipush 1, .if_icmp .ne 110, .aload 0, .checkcast 671, .iload 3, .iaload, .goto 111]),
  (110, [.sipush 0, .jsr 111]),
  (111, [.iastore, .sipush 1, .ireturn])]
/-- M.taken -/
def g_c287 : List (Nat × List Instr) := [(0, [.iload 1, .invokeinterface 278 1, .ifCond .eq 27, .iload 2, .sipush 0, .sipush 5, .invokeinterface 172 3, .ifCond .ne 29, .iload 2, .sipush 10, .sipush 14, .invokeinterface 172 3, .ifCond .ne 29, .jsr 27]),
  (27, [.sipush (-1), .ireturn]),
  (29, [.aload 0, .iload 1, .invokeinterface 288 2, .istore 3, .iload 3, .ifCond .ge 42, .sipush (-11), .ireturn]),
  (42, [.iload 3, .ifCond .ne 78, .iload 2, .sipush 10, .if_icmp .ge 74, .aload 0, .aload 0, .checkcast 674, .iload 1, .iaload, .sipush 0, .invokeinterface 196 3, .iload 2, .invokeinterface 202 2, .ifCond .eq 74, .sipush 1, .goto 88]),
  (74, [.sipush 0, .goto 88]),
  (78, [.iload 3, .iload 2, .if_icmp .ne 87, .sipush 1, .goto 88]),
  (87, [.sipush 0, .jsr 88]),
  (88, [.istore 4, .iload 4, .ifCond .eq 104, .aload 0, .checkcast 674, .iload 1, .iaload, .goto 106]),
  (104, [.sipush (-13), .jsr 106]),
  (106, [.ireturn])]
/-- M.heldOn -/
def g_c288 : List (Nat × List Instr) := [(0, [.aload 0, .checkcast 673, .iload 1, .iaload, .ifCond .ne 26, .aload 0, .aload 0, .checkcast 674, .iload 1, .iaload, .invokeinterface 194 2, .ifCond .ne 26, .sipush (-1), .goto 32]),
  (26, [.aload 0, .checkcast 673, .iload 1, .iaload, .jsr 32]),
  (32, [.ireturn])]
/-- M.act -/
def g_c289 : List (Nat × List Instr) := [(0, [.aload 0, .sipush 0, .putfield 676, .iload 1, .invokeinterface 278 1, .ifCond .eq 29, .iload 2, .sipush 0, .sipush 3, .invokeinterface 172 3, .ifCond .eq 29, .aload 0, .iload 1, .invokeinterface 288 2, .ifCond .eq 31, .jsr 29]),
  (29, [.sipush 0, .ireturn]),
  (31, [.aload 0, .aload 0, .checkcast 674, .iload 1, .iaload, .putfield 677, .aload 0, .sipush 0, .putfield 678, .aload 0, .aload 0, .getfield 677, .sipush 0, .invokeinterface 196 3, .istore 4, .iload 2, .ifCond .ne 71, .aload 0, .iload 4, .iload 3, .invokeinterface 290 3, .goto 108]),
  (71, [.iload 2, .sipush 1, .if_icmp .ne 86, .aload 0, .iload 4, .iload 3, .invokeinterface 292 3, .goto 108]),
  (86, [.iload 2, .sipush 2, .if_icmp .ne 101, .aload 0, .iload 4, .iload 3, .invokeinterface 293 3, .goto 108]),
  (101, [.aload 0, .iload 4, .iload 3, .invokeinterface 294 3, .jsr 108]),
  (108, [.istore 5, .aload 0, .getfield 678, .ifCond .eq 122, .sipush (-15), .goto 124]),
  (122, [.iload 5, .jsr 124]),
  (124, [.ireturn])]
/-- M.laysAs -/
def g_c290 : List (Nat × List Instr) := [(0, [.iload 1, .sipush 1, .if_icmp .ne 20, .aload 0, .sipush 20, .invokeinterface 291 2, .aload 0, .sipush 0, .iload 2, .invokeinterface 290 3, .sipush 3, .imul, .ireturn]),
  (20, [.iload 1, .sipush 3, .if_icmp .ne 40, .aload 0, .sipush 50, .invokeinterface 291 2, .aload 0, .sipush 2, .iload 2, .invokeinterface 290 3, .sipush 4, .ixor, .ireturn]),
  (40, [.aload 0, .sipush 10, .invokeinterface 291 2, .iload 2, .sipush 2, .imul, .aload 0, .getfield 677, .iadd, .ireturn])]
/-- M.starts -/
def g_c291 : List (Nat × List Instr) := [(0, [.aload 0, .getfield 676, .sipush 30, .if_icmp .ge 29, .aload 0, .checkcast 675, .aload 0, .getfield 676, .iload 1, .iastore, .aload 0, .dup, .getfield 676, .sipush 1, .iadd, .putfield 676, .jsr 29]),
  (29, [.return_])]
/-- M.tiltsAs -/
def g_c292 : List (Nat × List Instr) := [(0, [.iload 1, .sipush 2, .if_icmp .eq 10, .iload 1, .sipush 3, .if_icmp .ne 25, .jsr 10]),
  (10, [.aload 0, .sipush 30, .invokeinterface 291 2, .aload 0, .sipush 0, .iload 2, .sipush 1, .iadd, .invokeinterface 292 3, .ireturn]),
  (25, [.iload 1, .sipush 5, .if_icmp .ne 46, .aload 0, .sipush 60, .invokeinterface 291 2, .aload 0, .sipush 4, .iload 2, .invokeinterface 292 3, .sipush 60, .isub, .ireturn]),
  (46, [.aload 0, .sipush 11, .invokeinterface 291 2, .aload 0, .aload 0, .aload 0, .getfield 677, .sipush 0, .invokeinterface 196 3, .iload 2, .invokeinterface 290 3, .aload 0, .aload 0, .getfield 677, .sipush 3, .invokeinterface 196 3, .isub, .ireturn])]
/-- M.breaksAs -/
def g_c293 : List (Nat × List Instr) := [(0, [.iload 1, .sipush 5, .if_icmp .ne 46, .aload 0, .sipush 61, .invokeinterface 291 2, .aload 0, .sipush 4, .iload 2, .invokeinterface 293 3, .istore 3, .aload 0, .getfield 678, .ifCond .eq 29, .sipush 0, .goto 45]),
  (29, [.iload 3, .aload 0, .sipush 5, .aload 0, .aload 0, .getfield 677, .sipush 3, .invokeinterface 196 3, .invokeinterface 290 3, .ixor, .jsr 45]),
  (45, [.ireturn]),
  (46, [.iload 1, .sipush 4, .if_icmp .ne 65, .aload 0, .sipush 40, .invokeinterface 291 2, .aload 0, .sipush 0, .iload 2, .invokeinterface 293 3, .ineg, .ireturn]),
  (65, [.aload 0, .sipush 12, .invokeinterface 291 2, .aload 0, .getfield 677, .aload 0, .aload 0, .getfield 677, .sipush 3, .invokeinterface 196 3, .iadd, .sipush 3, .isub, .istore 3, .aload 0, .aload 0, .getfield 678, .ifCond .ne 100, .iload 3, .ifCond .ne 104, .jsr 100]),
  (100, [.sipush 1, .goto 105]),
  (104, [.sipush 0, .jsr 105]),
  (105, [.putfield 678, .aload 0, .getfield 678, .ifCond .eq 119, .sipush 0, .goto 122]),
  (119, [.iload 2, .iload 3, .irem, .jsr 122]),
  (122, [.ireturn])]
/-- M.shinesAs -/
def g_c294 : List (Nat × List Instr) := [(0, [.iload 1, .sipush 3, .if_icmp .ne 41, .aload 0, .sipush 51, .invokeinterface 291 2, .aload 0, .sipush 2, .iload 2, .invokeinterface 294 3, .istore 3, .aload 0, .getfield 678, .ifCond .eq 29, .sipush 0, .goto 40]),
  (29, [.iload 3, .aload 0, .sipush 3, .aload 0, .getfield 677, .invokeinterface 292 3, .iadd, .jsr 40]),
  (40, [.ireturn]),
  (41, [.aload 0, .sipush 13, .invokeinterface 291 2, .aload 0, .aload 0, .aload 0, .getfield 677, .sipush 0, .invokeinterface 196 3, .iload 2, .invokeinterface 292 3, .istore 3, .iload 3, .aload 0, .aload 0, .aload 0, .getfield 677, .sipush 0, .invokeinterface 196 3, .iload 2, .invokeinterface 293 3, .ixor, .ireturn])]
/-- M.trace -/
def g_c295 : List (Nat × List Instr) := [(0, [.iload 1, .sipush 0, .aload 0, .getfield 676, .sipush 1, .isub, .invokeinterface 172 3, .ifCond .eq 23, .aload 0, .checkcast 675, .iload 1, .iaload, .goto 25]),
  (23, [.sipush (-3), .jsr 25]),
  (25, [.ireturn])]
/-- M.many -/
def g_c296 : List (Nat × List Instr) := [(0, [.iload 1, .lookupswitch 92 #[(0, 44), (1, 52), (2, 60), (3, 69), (4, 77), (5, 82), (6, 87)]]),
  (44, [.aload 0, .checkcast 640, .sipush 6, .iaload, .ireturn]),
  (52, [.aload 0, .checkcast 640, .sipush 7, .iaload, .ireturn]),
  (60, [.aload 0, .sipush 4, .invokeinterface 218 2, .invokeinterface 297 1, .ireturn]),
  (69, [.aload 0, .checkcast 640, .sipush 8, .iaload, .ireturn]),
  (77, [.aload 0, .getfield 669, .ireturn]),
  (82, [.aload 0, .getfield 646, .ireturn]),
  (87, [.aload 0, .getfield 676, .ireturn]),
  (92, [.sipush (-1), .ireturn])]
/-- M.ones -/
def g_c297 : List (Nat × List Instr) := [(0, [.sipush 0, .istore 1, .iload 0, .istore 2, .jsr 4]),
  (4, [.iload 2, .ifCond .eq 20, .iinc 1 1, .iload 2, .iload 2, .sipush 1, .isub, .iand, .istore 2, .goto 4]),
  (20, [.iload 1, .ireturn])]
/-- M.keep -/
def g_c298 : List (Nat × List Instr) := [(0, [.sipush 0, .istore 1, .jsr 2]),
  (2, [.iload 1, .sipush 322, .if_icmp .ge 27, .aload 0, .checkcast 641, .iload 1, .aload 0, .checkcast 640, .iload 1, .iaload, .iastore, .iinc 1 1, .goto 2]),
  (27, [.aload 0, .sipush 1, .putfield 643, .sipush 1, .ireturn])]
/-- M.again -/
def g_c299 : List (Nat × List Instr) := [(0, [.aload 0, .getfield 643, .ifCond .ne 10, .sipush (-3), .ireturn]),
  (10, [.sipush 0, .istore 1, .jsr 12]),
  (12, [.iload 1, .sipush 322, .if_icmp .ge 37, .aload 0, .checkcast 640, .iload 1, .aload 0, .checkcast 641, .iload 1, .iaload, .iastore, .iinc 1 1, .goto 12]),
  (37, [.aload 0, .checkcast 640, .sipush 6, .iaload, .ireturn])]
/-- J.bitCount -/
def g_c300 : List (Nat × List Instr) := [(0, [.iload 0, .iload 0, .sipush 1, .iushr, .sipush 1431655765, .iand, .isub, .istore 0, .iload 0, .sipush 858993459, .iand, .iload 0, .sipush 2, .iushr, .sipush 858993459, .iand, .iadd, .istore 0, .iload 0, .iload 0, .sipush 4, .iushr, .iadd, .sipush 252645135, .iand, .istore 0, .iload 0, .iload 0, .sipush 8, .iushr, .iadd, .istore 0, .iload 0, .iload 0, .sipush 16, .iushr, .iadd, .istore 0, .iload 0, .sipush 63, .iand, .ireturn])]
/-- J.length -/
def g_c301 : List (Nat × List Instr) := [(0, [.aload 0, .fload 0, .fmul, .aload 0, .invokeinterface 302 1, .ishr, .ireturn])]
/-- J.coder -/
def g_c302 : List (Nat × List Instr) := [(0, [.getstatic 1, .ifCond .eq 13, .aload 0, .fload 1, .goto 14]),
  (13, [.sipush 1, .jsr 14]),
  (14, [.ireturn])]
/-- J.charAt -/
def g_c303 : List (Nat × List Instr) := [(0, [.aload 0, .invokeinterface 304 1, .ifCond .eq 16, .aload 0, .fload 0, .iload 1, .invokeinterface 306 2, .ireturn]),
  (16, [.aload 0, .fload 0, .iload 1])]
/-- J.isLatin1 -/
def g_c304 : List (Nat × List Instr) := [(0, [.getstatic 1, .ifCond .eq 17, .aload 0, .fload 1, .ifCond .ne 17, .sipush 1, .goto 18]),
  (17, [.sipush 0, .jsr 18]),
  (18, [.ireturn])]
/-- J.checkIndex -/
def g_c305 : List (Nat × List Instr) := [(0, [.iload 0, .iload 1, .getstatic 2, .invokeinterface 307 3, .pop, .return_])]
/-- J.charAt_306 -/
def g_c306 : List (Nat × List Instr) := [(0, [.iload 1, .aload 0, .fmul, .invokeinterface 305 2, .aload 0, .iload 1, .baload, .sipush 255, .iand, .i2c, .ireturn])]
/-- J.checkIndex_307 -/
def g_c307 : List (Nat × List Instr) := [(0, [.iload 0, .ifCond .lt 9, .iload 0, .iload 1, .if_icmp .lt 16, .jsr 9]),
  (9, [.aload 2, .iload 0, .iload 1]),
  (16, [.iload 0, .ireturn])]
/-- LAW.law -/
def g_c308 : List (Nat × List Instr) := [(0, [.new 9, .dup, .invokeinterface 107 1, .astore 1, .new 10, .dup, .invokeinterface 170 1, .astore 2, .sipush 0, .istore 3, .jsr 18]),
  (18, [.iload 3, .aload 0, .fadd, .sipush 5, .isub, .if_icmp .gt 1788, .aload 0, .iload 3, .faload, .sipush 63, .iand, .lookupswitch 1782 #[(0, 256), (1, 309), (2, 342), (3, 385), (4, 418), (5, 451), (6, 494), (7, 527), (8, 560), (9, 583), (10, 596), (11, 619), (12, 682), (13, 695), (14, 708), (15, 731), (16, 754), (17, 777), (18, 800), (19, 823), (20, 846), (21, 869), (22, 902), (23, 925), (24, 958), (25, 981), (26, 1014), (27, 1047), (28, 1070), (29, 1093), (30, 1146), (31, 1159), (32, 1182), (33, 1195), (34, 1218), (35, 1231), (36, 1264), (37, 1287), (38, 1320), (39, 1363), (40, 1376), (41, 1419), (42, 1462), (43, 1505), (44, 1548), (45, 1591), (46, 1634), (47, 1667), (48, 1710), (49, 1733), (50, 1756), (51, 1769)]]),
  (256, [.aload 1, .aload 0, .iload 3, .sipush 1, .iadd, .faload, .aload 0, .iload 3, .sipush 2, .iadd, .faload, .aload 0, .iload 3, .sipush 3, .iadd, .faload, .aload 0, .iload 3, .sipush 4, .iadd, .faload, .invokeinterface 108 5, .aload 2, .aload 0, .iload 3, .sipush 1, .iadd, .faload, .aload 0, .iload 3, .sipush 2, .iadd, .faload, .aload 0, .iload 3, .sipush 3, .iadd, .faload, .aload 0, .iload 3, .sipush 4, .iadd, .faload, .invokeinterface 188 5, .if_icmp .eq 1782, .sipush 0, .ireturn]),
  (309, [.aload 1, .aload 0, .iload 3, .sipush 1, .iadd, .faload, .aload 0, .iload 3, .sipush 2, .iadd, .faload, .invokeinterface 110 3, .aload 2, .aload 0, .iload 3, .sipush 1, .iadd, .faload, .aload 0, .iload 3, .sipush 2, .iadd, .faload, .invokeinterface 193 3, .if_icmp .eq 1782, .sipush 0, .ireturn]),
  (342, [.aload 1, .aload 0, .iload 3, .sipush 1, .iadd, .faload, .aload 0, .iload 3, .sipush 2, .iadd, .faload, .aload 0, .iload 3, .sipush 3, .iadd, .faload, .invokeinterface 113 4, .aload 2, .aload 0, .iload 3, .sipush 1, .iadd, .faload, .aload 0, .iload 3, .sipush 2, .iadd, .faload, .aload 0, .iload 3, .sipush 3, .iadd, .faload, .invokeinterface 207 4, .if_icmp .eq 1782, .sipush 0, .ireturn]),
  (385, [.aload 1, .aload 0, .iload 3, .sipush 1, .iadd, .faload, .aload 0, .iload 3, .sipush 2, .iadd, .faload, .invokeinterface 115 3, .aload 2, .aload 0, .iload 3, .sipush 1, .iadd, .faload, .aload 0, .iload 3, .sipush 2, .iadd, .faload, .invokeinterface 209 3, .if_icmp .eq 1782, .sipush 0, .ireturn]),
  (418, [.aload 1, .aload 0, .iload 3, .sipush 1, .iadd, .faload, .aload 0, .iload 3, .sipush 2, .iadd, .faload, .invokeinterface 116 3, .aload 2, .aload 0, .iload 3, .sipush 1, .iadd, .faload, .aload 0, .iload 3, .sipush 2, .iadd, .faload, .invokeinterface 210 3, .if_icmp .eq 1782, .sipush 0, .ireturn]),
  (451, [.aload 1, .aload 0, .iload 3, .sipush 1, .iadd, .faload, .aload 0, .iload 3, .sipush 2, .iadd, .faload, .aload 0, .iload 3, .sipush 3, .iadd, .faload, .invokeinterface 117 4, .aload 2, .aload 0, .iload 3, .sipush 1, .iadd, .faload, .aload 0, .iload 3, .sipush 2, .iadd, .faload, .aload 0, .iload 3, .sipush 3, .iadd, .faload, .invokeinterface 211 4, .if_icmp .eq 1782, .sipush 0, .ireturn]),
  (494, [.aload 1, .aload 0, .iload 3, .sipush 1, .iadd, .faload, .aload 0, .iload 3, .sipush 2, .iadd, .faload, .invokeinterface 118 3, .aload 2, .aload 0, .iload 3, .sipush 1, .iadd, .faload, .aload 0, .iload 3, .sipush 2, .iadd, .faload, .invokeinterface 212 3, .if_icmp .eq 1782, .sipush 0, .ireturn]),
  (527, [.aload 1, .aload 0, .iload 3, .sipush 1, .iadd, .faload, .aload 0, .iload 3, .sipush 2, .iadd, .faload, .invokeinterface 119 3, .aload 2, .aload 0, .iload 3, .sipush 1, .iadd, .faload, .aload 0, .iload 3, .sipush 2, .iadd, .faload, .invokeinterface 213 3, .if_icmp .eq 1782, .sipush 0, .ireturn]),
  (560, [.aload 1, .aload 0, .iload 3, .sipush 1, .iadd, .faload, .invokeinterface 120 2, .aload 2, .aload 0, .iload 3, .sipush 1, .iadd, .faload, .invokeinterface 214 2, .if_icmp .eq 1782, .sipush 0, .ireturn]),
  (583, [.aload 1, .invokeinterface 121 1, .aload 2, .invokeinterface 215 1, .if_icmp .eq 1782, .sipush 0, .ireturn]),
  (596, [.aload 1, .aload 0, .iload 3, .sipush 1, .iadd, .faload, .invokeinterface 122 2, .aload 2, .aload 0, .iload 3, .sipush 1, .iadd, .faload, .invokeinterface 216 2, .if_icmp .eq 1782, .sipush 0, .ireturn]),
  (619, [.aload 1, .aload 0, .iload 3, .sipush 1, .iadd, .faload, .i2l, .sipush 32, .lshl, .aload 0, .iload 3, .sipush 2, .iadd, .faload, .i2l, .goto_w 4294967295, .land, .lor, .aload 0, .iload 3, .sipush 3, .iadd, .faload, .invokeinterface 123 3, .aload 2, .aload 0, .iload 3, .sipush 1, .iadd, .faload, .i2l, .sipush 32, .lshl, .aload 0, .iload 3, .sipush 2, .iadd, .faload, .i2l, .goto_w 4294967295, .land, .lor, .aload 0, .iload 3, .sipush 3, .iadd, .faload, .invokeinterface 171 3, .if_icmp .eq 1782, .sipush 0, .ireturn]),
  (682, [.aload 1, .invokeinterface 124 1, .aload 2, .invokeinterface 173 1, .if_icmp .eq 1782, .sipush 0, .ireturn]),
  (695, [.aload 1, .invokeinterface 125 1, .aload 2, .invokeinterface 219 1, .if_icmp .eq 1782, .sipush 0, .ireturn]),
  (708, [.aload 1, .aload 0, .iload 3, .sipush 1, .iadd, .faload, .invokeinterface 129 2, .aload 2, .aload 0, .iload 3, .sipush 1, .iadd, .faload, .invokeinterface 229 2, .if_icmp .eq 1782, .sipush 0, .ireturn]),
  (731, [.aload 1, .aload 0, .iload 3, .sipush 1, .iadd, .faload, .invokeinterface 130 2, .aload 2, .aload 0, .iload 3, .sipush 1, .iadd, .faload, .invokeinterface 233 2, .if_icmp .eq 1782, .sipush 0, .ireturn]),
  (754, [.aload 1, .aload 0, .iload 3, .sipush 1, .iadd, .faload, .invokeinterface 131 2, .aload 2, .aload 0, .iload 3, .sipush 1, .iadd, .faload, .invokeinterface 234 2, .if_icmp .eq 1782, .sipush 0, .ireturn]),
  (777, [.aload 1, .aload 0, .iload 3, .sipush 1, .iadd, .faload, .invokeinterface 132 2, .aload 2, .aload 0, .iload 3, .sipush 1, .iadd, .faload, .invokeinterface 236 2, .if_icmp .eq 1782, .sipush 0, .ireturn]),
  (800, [.aload 1, .aload 0, .iload 3, .sipush 1, .iadd, .faload, .invokeinterface 133 2, .aload 2, .aload 0, .iload 3, .sipush 1, .iadd, .faload, .invokeinterface 237 2, .if_icmp .eq 1782, .sipush 0, .ireturn]),
  (823, [.aload 1, .aload 0, .iload 3, .sipush 1, .iadd, .faload, .invokeinterface 134 2, .aload 2, .aload 0, .iload 3, .sipush 1, .iadd, .faload, .invokeinterface 238 2, .if_icmp .eq 1782, .sipush 0, .ireturn]),
  (846, [.aload 1, .aload 0, .iload 3, .sipush 1, .iadd, .faload, .invokeinterface 135 2, .aload 2, .aload 0, .iload 3, .sipush 1, .iadd, .faload, .invokeinterface 239 2, .if_icmp .eq 1782, .sipush 0, .ireturn]),
  (869, [.aload 1, .aload 0, .iload 3, .sipush 1, .iadd, .faload, .aload 0, .iload 3, .sipush 2, .iadd, .faload, .invokeinterface 137 3, .aload 2, .aload 0, .iload 3, .sipush 1, .iadd, .faload, .aload 0, .iload 3, .sipush 2, .iadd, .faload, .invokeinterface 242 3, .if_icmp .eq 1782, .sipush 0, .ireturn]),
  (902, [.aload 1, .aload 0, .iload 3, .sipush 1, .iadd, .faload, .invokeinterface 138 2, .aload 2, .aload 0, .iload 3, .sipush 1, .iadd, .faload, .invokeinterface 244 2, .if_icmp .eq 1782, .sipush 0, .ireturn]),
  (925, [.aload 1, .aload 0, .iload 3, .sipush 1, .iadd, .faload, .aload 0, .iload 3, .sipush 2, .iadd, .faload, .invokeinterface 139 3, .aload 2, .aload 0, .iload 3, .sipush 1, .iadd, .faload, .aload 0, .iload 3, .sipush 2, .iadd, .faload, .invokeinterface 252 3, .if_icmp .eq 1782, .sipush 0, .ireturn]),
  (958, [.aload 1, .aload 0, .iload 3, .sipush 1, .iadd, .faload, .invokeinterface 140 2, .aload 2, .aload 0, .iload 3, .sipush 1, .iadd, .faload, .invokeinterface 253 2, .if_icmp .eq 1782, .sipush 0, .ireturn]),
  (981, [.aload 1, .aload 0, .iload 3, .sipush 1, .iadd, .faload, .aload 0, .iload 3, .sipush 2, .iadd, .faload, .invokeinterface 141 3, .aload 2, .aload 0, .iload 3, .sipush 1, .iadd, .faload, .aload 0, .iload 3, .sipush 2, .iadd, .faload, .invokeinterface 254 3, .if_icmp .eq 1782, .sipush 0, .ireturn]),
  (1014, [.aload 1, .aload 0, .iload 3, .sipush 1, .iadd, .faload, .aload 0, .iload 3, .sipush 2, .iadd, .faload, .invokeinterface 142 3, .aload 2, .aload 0, .iload 3, .sipush 1, .iadd, .faload, .aload 0, .iload 3, .sipush 2, .iadd, .faload, .invokeinterface 256 3, .if_icmp .eq 1782, .sipush 0, .ireturn]),
  (1047, [.aload 1, .aload 0, .iload 3, .sipush 1, .iadd, .faload, .invokeinterface 143 2, .aload 2, .aload 0, .iload 3, .sipush 1, .iadd, .faload, .invokeinterface 257 2, .if_icmp .eq 1782, .sipush 0, .ireturn]),
  (1070, [.aload 1, .aload 0, .iload 3, .sipush 1, .iadd, .faload, .invokeinterface 144 2, .aload 2, .aload 0, .iload 3, .sipush 1, .iadd, .faload, .invokeinterface 259 2, .if_icmp .eq 1782, .sipush 0, .ireturn]),
  (1093, [.aload 1, .aload 0, .iload 3, .sipush 1, .iadd, .faload, .aload 0, .iload 3, .sipush 2, .iadd, .faload, .aload 0, .iload 3, .sipush 3, .iadd, .faload, .aload 0, .iload 3, .sipush 4, .iadd, .faload, .invokeinterface 145 5, .aload 2, .aload 0, .iload 3, .sipush 1, .iadd, .faload, .aload 0, .iload 3, .sipush 2, .iadd, .faload, .aload 0, .iload 3, .sipush 3, .iadd, .faload, .aload 0, .iload 3, .sipush 4, .iadd, .faload, .invokeinterface 260 5, .if_icmp .eq 1782, .sipush 0, .ireturn]),
  (1146, [.aload 1, .invokeinterface 146 1, .aload 2, .invokeinterface 261 1, .if_icmp .eq 1782, .sipush 0, .ireturn]),
  (1159, [.aload 1, .aload 0, .iload 3, .sipush 1, .iadd, .faload, .invokeinterface 147 2, .aload 2, .aload 0, .iload 3, .sipush 1, .iadd, .faload, .invokeinterface 262 2, .if_icmp .eq 1782, .sipush 0, .ireturn]),
  (1182, [.aload 1, .invokeinterface 148 1, .aload 2, .invokeinterface 266 1, .if_icmp .eq 1782, .sipush 0, .ireturn]),
  (1195, [.aload 1, .aload 0, .iload 3, .sipush 1, .iadd, .faload, .invokeinterface 149 2, .aload 2, .aload 0, .iload 3, .sipush 1, .iadd, .faload, .invokeinterface 267 2, .if_icmp .eq 1782, .sipush 0, .ireturn]),
  (1218, [.aload 1, .invokeinterface 150 1, .aload 2, .invokeinterface 268 1, .if_icmp .eq 1782, .sipush 0, .ireturn]),
  (1231, [.aload 1, .aload 0, .iload 3, .sipush 1, .iadd, .faload, .aload 0, .iload 3, .sipush 2, .iadd, .faload, .invokeinterface 151 3, .aload 2, .aload 0, .iload 3, .sipush 1, .iadd, .faload, .aload 0, .iload 3, .sipush 2, .iadd, .faload, .invokeinterface 270 3, .if_icmp .eq 1782, .sipush 0, .ireturn]),
  (1264, [.aload 1, .aload 0, .iload 3, .sipush 1, .iadd, .faload, .invokeinterface 152 2, .aload 2, .aload 0, .iload 3, .sipush 1, .iadd, .faload, .invokeinterface 271 2, .if_icmp .eq 1782, .sipush 0, .ireturn]),
  (1287, [.aload 1, .aload 0, .iload 3, .sipush 1, .iadd, .faload, .aload 0, .iload 3, .sipush 2, .iadd, .faload, .invokeinterface 153 3, .aload 2, .aload 0, .iload 3, .sipush 1, .iadd, .faload, .aload 0, .iload 3, .sipush 2, .iadd, .faload, .invokeinterface 272 3, .if_icmp .eq 1782, .sipush 0, .ireturn]),
  (1320, [.aload 1, .aload 0, .iload 3, .sipush 1, .iadd, .faload, .aload 0, .iload 3, .sipush 2, .iadd, .faload, .aload 0, .iload 3, .sipush 3, .iadd, .faload, .invokeinterface 154 4, .aload 2, .aload 0, .iload 3, .sipush 1, .iadd, .faload, .aload 0, .iload 3, .sipush 2, .iadd, .faload, .aload 0, .iload 3, .sipush 3, .iadd, .faload, .invokeinterface 274 4, .if_icmp .eq 1782, .sipush 0, .ireturn]),
  (1363, [.aload 1, .invokeinterface 155 1, .aload 2, .invokeinterface 275 1, .if_icmp .eq 1782, .sipush 0, .ireturn]),
  (1376, [.aload 1, .aload 0, .iload 3, .sipush 1, .iadd, .faload, .aload 0, .iload 3, .sipush 2, .iadd, .faload, .aload 0, .iload 3, .sipush 3, .iadd, .faload, .invokeinterface 156 4, .aload 2, .aload 0, .iload 3, .sipush 1, .iadd, .faload, .aload 0, .iload 3, .sipush 2, .iadd, .faload, .aload 0, .iload 3, .sipush 3, .iadd, .faload, .invokeinterface 277 4, .if_icmp .eq 1782, .sipush 0, .ireturn]),
  (1419, [.aload 1, .aload 0, .iload 3, .sipush 1, .iadd, .faload, .aload 0, .iload 3, .sipush 2, .iadd, .faload, .aload 0, .iload 3, .sipush 3, .iadd, .faload, .invokeinterface 157 4, .aload 2, .aload 0, .iload 3, .sipush 1, .iadd, .faload, .aload 0, .iload 3, .sipush 2, .iadd, .faload, .aload 0, .iload 3, .sipush 3, .iadd, .faload, .invokeinterface 279 4, .if_icmp .eq 1782, .sipush 0, .ireturn]),
  (1462, [.aload 1, .aload 0, .iload 3, .sipush 1, .iadd, .faload, .aload 0, .iload 3, .sipush 2, .iadd, .faload, .aload 0, .iload 3, .sipush 3, .iadd, .faload, .invokeinterface 158 4, .aload 2, .aload 0, .iload 3, .sipush 1, .iadd, .faload, .aload 0, .iload 3, .sipush 2, .iadd, .faload, .aload 0, .iload 3, .sipush 3, .iadd, .faload, .invokeinterface 281 4, .if_icmp .eq 1782, .sipush 0, .ireturn]),
  (1505, [.aload 1, .aload 0, .iload 3, .sipush 1, .iadd, .faload, .aload 0, .iload 3, .sipush 2, .iadd, .faload, .aload 0, .iload 3, .sipush 3, .iadd, .faload, .invokeinterface 159 4, .aload 2, .aload 0, .iload 3, .sipush 1, .iadd, .faload, .aload 0, .iload 3, .sipush 2, .iadd, .faload, .aload 0, .iload 3, .sipush 3, .iadd, .faload, .invokeinterface 283 4, .if_icmp .eq 1782, .sipush 0, .ireturn]),
  (1548, [.aload 1, .aload 0, .iload 3, .sipush 1, .iadd, .faload, .aload 0, .iload 3, .sipush 2, .iadd, .faload, .aload 0, .iload 3, .sipush 3, .iadd, .faload, .invokeinterface 160 4, .aload 2, .aload 0, .iload 3, .sipush 1, .iadd, .faload, .aload 0, .iload 3, .sipush 2, .iadd, .faload, .aload 0, .iload 3, .sipush 3, .iadd, .faload, .invokeinterface 285 4, .if_icmp .eq 1782, .sipush 0, .ireturn]),
  (1591, [.aload 1, .aload 0, .iload 3, .sipush 1, .iadd, .faload, .aload 0, .iload 3, .sipush 2, .iadd, .faload, .aload 0, .iload 3, .sipush 3, .iadd, .faload, .invokeinterface 162 4, .aload 2, .aload 0, .iload 3, .sipush 1, .iadd, .faload, .aload 0, .iload 3, .sipush 2, .iadd, .faload, .aload 0, .iload 3, .sipush 3, .iadd, .faload, .invokeinterface 286 4, .if_icmp .eq 1782, .sipush 0, .ireturn]),
  (1634, [.aload 1, .aload 0, .iload 3, .sipush 1, .iadd, .faload, .aload 0, .iload 3, .sipush 2, .iadd, .faload, .invokeinterface 163 3, .aload 2, .aload 0, .iload 3, .sipush 1, .iadd, .faload, .aload 0, .iload 3, .sipush 2, .iadd, .faload, .invokeinterface 287 3, .if_icmp .eq 1782, .sipush 0, .ireturn]),
  (1667, [.aload 1, .aload 0, .iload 3, .sipush 1, .iadd, .faload, .aload 0, .iload 3, .sipush 2, .iadd, .faload, .aload 0, .iload 3, .sipush 3, .iadd, .faload, .invokeinterface 165 4, .aload 2, .aload 0, .iload 3, .sipush 1, .iadd, .faload, .aload 0, .iload 3, .sipush 2, .iadd, .faload, .aload 0, .iload 3, .sipush 3, .iadd, .faload, .invokeinterface 289 4, .if_icmp .eq 1782, .sipush 0, .ireturn]),
  (1710, [.aload 1, .aload 0, .iload 3, .sipush 1, .iadd, .faload, .invokeinterface 166 2, .aload 2, .aload 0, .iload 3, .sipush 1, .iadd, .faload, .invokeinterface 295 2, .if_icmp .eq 1782, .sipush 0, .ireturn]),
  (1733, [.aload 1, .aload 0, .iload 3, .sipush 1, .iadd, .faload, .invokeinterface 167 2, .aload 2, .aload 0, .iload 3, .sipush 1, .iadd, .faload, .invokeinterface 296 2, .if_icmp .eq 1782, .sipush 0, .ireturn]),
  (1756, [.aload 1, .invokeinterface 168 1, .aload 2, .invokeinterface 298 1, .if_icmp .eq 1782, .sipush 0, .ireturn]),
  (1769, [.aload 1, .invokeinterface 169 1, .aload 2, .invokeinterface 299 1, .if_icmp .eq 1782, .sipush 0, .ireturn]),
  (1782, [.iinc 3 5, .goto 18]),
  (1788, [.sipush 1, .ireturn])]
def g_pr : List (List (Nat × List Instr)) := [g_c0, g_c1, g_c2, g_c3, g_c4, g_c5, g_c6, g_c7, g_c8, g_c9, g_c10, g_c11, g_c12, g_c13, g_c14, g_c15, g_c16, g_c17, g_c18, g_c19, g_c20, g_c21, g_c22, g_c23, g_c24, g_c25, g_c26, g_c27, g_c28, g_c29, g_c30, g_c31, g_c32, g_c33, g_c34, g_c35, g_c36, g_c37, g_c38, g_c39, g_c40, g_c41, g_c42, g_c43, g_c44, g_c45, g_c46, g_c47, g_c48, g_c49, g_c50, g_c51, g_c52, g_c53, g_c54, g_c55, g_c56, g_c57, g_c58, g_c59, g_c60, g_c61, g_c62, g_c63, g_c64, g_c65, g_c66, g_c67, g_c68, g_c69, g_c70, g_c71, g_c72, g_c73, g_c74, g_c75, g_c76, g_c77, g_c78, g_c79, g_c80, g_c81, g_c82, g_c83, g_c84, g_c85, g_c86, g_c87, g_c88, g_c89, g_c90, g_c91, g_c92, g_c93, g_c94, g_c95, g_c96, g_c97, g_c98, g_c99, g_c100, g_c101, g_c102, g_c103, g_c104, g_c105, g_c106, g_c107, g_c108, g_c109, g_c110, g_c111, g_c112, g_c113, g_c114, g_c115, g_c116, g_c117, g_c118, g_c119, g_c120, g_c121, g_c122, g_c123, g_c124, g_c125, g_c126, g_c127, g_c128, g_c129, g_c130, g_c131, g_c132, g_c133, g_c134, g_c135, g_c136, g_c137, g_c138, g_c139, g_c140, g_c141, g_c142, g_c143, g_c144, g_c145, g_c146, g_c147, g_c148, g_c149, g_c150, g_c151, g_c152, g_c153, g_c154, g_c155, g_c156, g_c157, g_c158, g_c159, g_c160, g_c161, g_c162, g_c163, g_c164, g_c165, g_c166, g_c167, g_c168, g_c169, g_c170, g_c171, g_c172, g_c173, g_c174, g_c175, g_c176, g_c177, g_c178, g_c179, g_c180, g_c181, g_c182, g_c183, g_c184, g_c185, g_c186, g_c187, g_c188, g_c189, g_c190, g_c191, g_c192, g_c193, g_c194, g_c195, g_c196, g_c197, g_c198, g_c199, g_c200, g_c201, g_c202, g_c203, g_c204, g_c205, g_c206, g_c207, g_c208, g_c209, g_c210, g_c211, g_c212, g_c213, g_c214, g_c215, g_c216, g_c217, g_c218, g_c219, g_c220, g_c221, g_c222, g_c223, g_c224, g_c225, g_c226, g_c227, g_c228, g_c229, g_c230, g_c231, g_c232, g_c233, g_c234, g_c235, g_c236, g_c237, g_c238, g_c239, g_c240, g_c241, g_c242, g_c243, g_c244, g_c245, g_c246, g_c247, g_c248, g_c249, g_c250, g_c251, g_c252, g_c253, g_c254, g_c255, g_c256, g_c257, g_c258, g_c259, g_c260, g_c261, g_c262, g_c263, g_c264, g_c265, g_c266, g_c267, g_c268, g_c269, g_c270, g_c271, g_c272, g_c273, g_c274, g_c275, g_c276, g_c277, g_c278, g_c279, g_c280, g_c281, g_c282, g_c283, g_c284, g_c285, g_c286, g_c287, g_c288, g_c289, g_c290, g_c291, g_c292, g_c293, g_c294, g_c295, g_c296, g_c297, g_c298, g_c299, g_c300, g_c301, g_c302, g_c303, g_c304, g_c305, g_c306, g_c307, g_c308]
def g_P (c l : Nat) : List Instr := ((g_pr.getD c []).lookup l).getD []
def g_mxs : List Nat := [1, 4, 4, 3, 2, 4, 5, 4, 1, 4, 7, 4, 1, 3, 2, 3, 2, 2, 3, 7, 4, 6, 7, 6, 1, 5, 3, 2, 1, 5, 1, 1, 1, 2, 2, 2, 2, 2, 2, 1, 2, 2, 2, 1, 2, 1, 2, 2, 1, 5, 3, 6, 2, 2, 5, 3, 4, 4, 1, 4, 2, 3, 2, 2, 1, 3, 3, 2, 5, 2, 2, 3, 2, 2, 4, 1, 1, 2, 3, 6, 2, 2, 2, 5, 6, 1, 2, 2, 7, 9, 4, 1, 5, 3, 4, 5, 3, 6, 6, 5, 9, 5, 6, 1, 5, 2, 2, 2, 5, 3, 3, 4, 3, 4, 4, 3, 3, 4, 3, 4, 3, 2, 2, 4, 2, 1, 3, 2, 5, 2, 2, 2, 2, 2, 2, 2, 2, 4, 2, 3, 2, 3, 3, 2, 2, 6, 2, 2, 1, 3, 1, 6, 2, 3, 4, 1, 4, 4, 5, 9, 7, 7, 4, 7, 2, 5, 2, 2, 1, 1, 2, 5, 3, 4, 2, 2, 2, 4, 1, 2, 3, 2, 2, 4, 1, 2, 2, 2, 6, 1, 1, 1, 4, 3, 2, 2, 3, 5, 3, 2, 3, 3, 3, 1, 6, 3, 3, 5, 4, 3, 3, 4, 3, 3, 2, 2, 2, 1, 4, 1, 4, 5, 2, 2, 3, 3, 3, 4, 3, 3, 2, 4, 2, 5, 2, 8, 2, 4, 7, 5, 6, 4, 4, 7, 2, 1, 3, 3, 8, 6, 3, 3, 3, 2, 3, 2, 5, 2, 9, 3, 7, 1, 3, 6, 9, 4, 2, 2, 1, 1, 7, 3, 3, 3, 5, 6, 2, 5, 1, 4, 2, 5, 3, 8, 4, 8, 4, 5, 2, 6, 3, 2, 3, 4, 4, 2, 2, 3, 2, 2, 1, 1, 1, 2, 1, 2, 2, 3, 4]
def g_mx (c : Nat) : Nat := g_mxs.getD c 0
end
section
/-! STEPS of the evaluator over this program, as rows for simp -/
/-- an int by its value -/
def iI (z : Int) : Int32 := Int32.ofInt z
noncomputable def s_S (X : e_X) (d c : Nat) (as : List Value) (m : e_M) : e_R := e_S g_P g_mx X d c as m
noncomputable def s_g (X : e_X) (d c l : Nat) (ls st : List Value) (m : e_M) : e_R := e_go g_P X (s_S X d) c l ls st m
noncomputable def s_x (X : e_X) (d c : Nat) (is : List Instr) (ls st : List Value) (m : e_M) : e_R := e_x X (s_S X d) (s_g X d c) is ls st m
theorem s_g_eq {X : e_X} {d c l : Nat} {ls st : List Value} {m : e_M} : s_g X d c l ls st m = s_x X d c (g_P c l) ls st m := e_go_eq _ _ _ _ _ _
/-- not a long -/
def e_nl : Value → Bool
  | .long _ => false
  | _ => true
/-- behind a call -/
def e_k (r : e_R) (f : List Value → e_M → e_R) : e_R := match r with
  | some (v, m) => f v m
  | none => none
theorem e_k_s {v : List Value} {m : e_M} {f : List Value → e_M → e_R} : e_k (some (v, m)) f = f v m := rfl
theorem e_nl_i {x : Int32} : e_nl (.int x) = true := rfl
theorem e_nl_r {x : Nat} : e_nl (.ref x) = true := rfl
theorem e_nl_u {x : Nat} : e_nl (.retAddr x) = true := rfl
theorem e_sw_n {J : Nat → e_R} {d : Int} {x : Int32} : e_sw J d [] x = J d.toNat := rfl
theorem e_sw_c {J : Nat → e_R} {d a t : Int} {r : List (Int × Int)} {x : Int32} : e_sw J d ((a, t) :: r) x = if x.toInt = a then J t.toNat else e_sw J d r x := rfl
theorem e_rf_0 : e_rf 0 = .null := rfl
theorem e_rf_s {n : Nat} : e_rf (n + 1) = .ref n := rfl
section
variable {X : e_X} {d c : Nat} {is : List Instr} {ls l st r : List Value} {m : e_M}
theorem x_sipush {v : Int} : s_x X d c (.sipush v :: is) (ls) (st) m = s_x X d c is (ls) (.int (iI v) :: st) m := rfl
theorem x_lconst {v : Int} : s_x X d c (.goto_w v :: is) (ls) (st) m = s_x X d c is (ls) (.long (Int64.ofInt v) :: st) m := rfl
theorem x_iload0 {x : Int32} : s_x X d c (.iload 0 :: is) (.int x :: l) (st) m = s_x X d c is (.int x :: l) (.int x :: st) m := rfl
theorem x_aload0 {x : Nat} : s_x X d c (.aload 0 :: is) (.ref x :: l) (st) m = s_x X d c is (.ref x :: l) (.ref x :: st) m := rfl
theorem x_lload0 {x : Int64} : s_x X d c (.lload 0 :: is) (.long x :: l) (st) m = s_x X d c is (.long x :: l) (.long x :: st) m := rfl
theorem x_istore0 {x : Int32} {w : Value} : s_x X d c (.istore 0 :: is) (w :: l) (.int x :: st) m = s_x X d c is (.int x :: l) (st) m := rfl
theorem x_astore0 {x : Nat} {w : Value} : s_x X d c (.astore 0 :: is) (w :: l) (.ref x :: st) m = s_x X d c is (.ref x :: l) (st) m := rfl
theorem x_lstore0 {x : Int64} {w w2 : Value} : s_x X d c (.lstore 0 :: is) (w :: w2 :: l) (.long x :: st) m = s_x X d c is (.long x :: .retAddr 0 :: l) (st) m := rfl
theorem x_iinc0 {x : Int32} {v : Int} : s_x X d c (.iinc 0 v :: is) (.int x :: l) (st) m = s_x X d c is (.int (x + iI v) :: l) (st) m := rfl
theorem x_iload1 {b0 : Value} {x : Int32} : s_x X d c (.iload 1 :: is) (b0 :: .int x :: l) (st) m = s_x X d c is (b0 :: .int x :: l) (.int x :: st) m := rfl
theorem x_aload1 {b0 : Value} {x : Nat} : s_x X d c (.aload 1 :: is) (b0 :: .ref x :: l) (st) m = s_x X d c is (b0 :: .ref x :: l) (.ref x :: st) m := rfl
theorem x_lload1 {b0 : Value} {x : Int64} : s_x X d c (.lload 1 :: is) (b0 :: .long x :: l) (st) m = s_x X d c is (b0 :: .long x :: l) (.long x :: st) m := rfl
theorem x_istore1 {b0 : Value} {x : Int32} {w : Value} (h : e_nl b0 = true) : s_x X d c (.istore 1 :: is) (b0 :: w :: l) (.int x :: st) m = s_x X d c is (b0 :: .int x :: l) (st) m := by cases b0 <;> first | (cases h; done) | rfl
theorem x_astore1 {b0 : Value} {x : Nat} {w : Value} (h : e_nl b0 = true) : s_x X d c (.astore 1 :: is) (b0 :: w :: l) (.ref x :: st) m = s_x X d c is (b0 :: .ref x :: l) (st) m := by cases b0 <;> first | (cases h; done) | rfl
theorem x_lstore1 {b0 : Value} {x : Int64} {w w2 : Value} (h : e_nl b0 = true) : s_x X d c (.lstore 1 :: is) (b0 :: w :: w2 :: l) (.long x :: st) m = s_x X d c is (b0 :: .long x :: .retAddr 0 :: l) (st) m := by cases b0 <;> first | (cases h; done) | rfl
theorem x_iinc1 {b0 : Value} {x : Int32} {v : Int} (h : e_nl b0 = true) : s_x X d c (.iinc 1 v :: is) (b0 :: .int x :: l) (st) m = s_x X d c is (b0 :: .int (x + iI v) :: l) (st) m := by cases b0 <;> first | (cases h; done) | rfl
theorem x_iload2 {b0 b1 : Value} {x : Int32} : s_x X d c (.iload 2 :: is) (b0 :: b1 :: .int x :: l) (st) m = s_x X d c is (b0 :: b1 :: .int x :: l) (.int x :: st) m := rfl
theorem x_aload2 {b0 b1 : Value} {x : Nat} : s_x X d c (.aload 2 :: is) (b0 :: b1 :: .ref x :: l) (st) m = s_x X d c is (b0 :: b1 :: .ref x :: l) (.ref x :: st) m := rfl
theorem x_lload2 {b0 b1 : Value} {x : Int64} : s_x X d c (.lload 2 :: is) (b0 :: b1 :: .long x :: l) (st) m = s_x X d c is (b0 :: b1 :: .long x :: l) (.long x :: st) m := rfl
theorem x_istore2 {b0 b1 : Value} {x : Int32} {w : Value} (h : e_nl b1 = true) : s_x X d c (.istore 2 :: is) (b0 :: b1 :: w :: l) (.int x :: st) m = s_x X d c is (b0 :: b1 :: .int x :: l) (st) m := by cases b1 <;> first | (cases h; done) | rfl
theorem x_astore2 {b0 b1 : Value} {x : Nat} {w : Value} (h : e_nl b1 = true) : s_x X d c (.astore 2 :: is) (b0 :: b1 :: w :: l) (.ref x :: st) m = s_x X d c is (b0 :: b1 :: .ref x :: l) (st) m := by cases b1 <;> first | (cases h; done) | rfl
theorem x_lstore2 {b0 b1 : Value} {x : Int64} {w w2 : Value} (h : e_nl b1 = true) : s_x X d c (.lstore 2 :: is) (b0 :: b1 :: w :: w2 :: l) (.long x :: st) m = s_x X d c is (b0 :: b1 :: .long x :: .retAddr 0 :: l) (st) m := by cases b1 <;> first | (cases h; done) | rfl
theorem x_iinc2 {b0 b1 : Value} {x : Int32} {v : Int} (h : e_nl b1 = true) : s_x X d c (.iinc 2 v :: is) (b0 :: b1 :: .int x :: l) (st) m = s_x X d c is (b0 :: b1 :: .int (x + iI v) :: l) (st) m := by cases b1 <;> first | (cases h; done) | rfl
theorem x_iload3 {b0 b1 b2 : Value} {x : Int32} : s_x X d c (.iload 3 :: is) (b0 :: b1 :: b2 :: .int x :: l) (st) m = s_x X d c is (b0 :: b1 :: b2 :: .int x :: l) (.int x :: st) m := rfl
theorem x_aload3 {b0 b1 b2 : Value} {x : Nat} : s_x X d c (.aload 3 :: is) (b0 :: b1 :: b2 :: .ref x :: l) (st) m = s_x X d c is (b0 :: b1 :: b2 :: .ref x :: l) (.ref x :: st) m := rfl
theorem x_lload3 {b0 b1 b2 : Value} {x : Int64} : s_x X d c (.lload 3 :: is) (b0 :: b1 :: b2 :: .long x :: l) (st) m = s_x X d c is (b0 :: b1 :: b2 :: .long x :: l) (.long x :: st) m := rfl
theorem x_istore3 {b0 b1 b2 : Value} {x : Int32} {w : Value} (h : e_nl b2 = true) : s_x X d c (.istore 3 :: is) (b0 :: b1 :: b2 :: w :: l) (.int x :: st) m = s_x X d c is (b0 :: b1 :: b2 :: .int x :: l) (st) m := by cases b2 <;> first | (cases h; done) | rfl
theorem x_astore3 {b0 b1 b2 : Value} {x : Nat} {w : Value} (h : e_nl b2 = true) : s_x X d c (.astore 3 :: is) (b0 :: b1 :: b2 :: w :: l) (.ref x :: st) m = s_x X d c is (b0 :: b1 :: b2 :: .ref x :: l) (st) m := by cases b2 <;> first | (cases h; done) | rfl
theorem x_lstore3 {b0 b1 b2 : Value} {x : Int64} {w w2 : Value} (h : e_nl b2 = true) : s_x X d c (.lstore 3 :: is) (b0 :: b1 :: b2 :: w :: w2 :: l) (.long x :: st) m = s_x X d c is (b0 :: b1 :: b2 :: .long x :: .retAddr 0 :: l) (st) m := by cases b2 <;> first | (cases h; done) | rfl
theorem x_iinc3 {b0 b1 b2 : Value} {x : Int32} {v : Int} (h : e_nl b2 = true) : s_x X d c (.iinc 3 v :: is) (b0 :: b1 :: b2 :: .int x :: l) (st) m = s_x X d c is (b0 :: b1 :: b2 :: .int (x + iI v) :: l) (st) m := by cases b2 <;> first | (cases h; done) | rfl
theorem x_iload4 {b0 b1 b2 b3 : Value} {x : Int32} : s_x X d c (.iload 4 :: is) (b0 :: b1 :: b2 :: b3 :: .int x :: l) (st) m = s_x X d c is (b0 :: b1 :: b2 :: b3 :: .int x :: l) (.int x :: st) m := rfl
theorem x_aload4 {b0 b1 b2 b3 : Value} {x : Nat} : s_x X d c (.aload 4 :: is) (b0 :: b1 :: b2 :: b3 :: .ref x :: l) (st) m = s_x X d c is (b0 :: b1 :: b2 :: b3 :: .ref x :: l) (.ref x :: st) m := rfl
theorem x_lload4 {b0 b1 b2 b3 : Value} {x : Int64} : s_x X d c (.lload 4 :: is) (b0 :: b1 :: b2 :: b3 :: .long x :: l) (st) m = s_x X d c is (b0 :: b1 :: b2 :: b3 :: .long x :: l) (.long x :: st) m := rfl
theorem x_istore4 {b0 b1 b2 b3 : Value} {x : Int32} {w : Value} (h : e_nl b3 = true) : s_x X d c (.istore 4 :: is) (b0 :: b1 :: b2 :: b3 :: w :: l) (.int x :: st) m = s_x X d c is (b0 :: b1 :: b2 :: b3 :: .int x :: l) (st) m := by cases b3 <;> first | (cases h; done) | rfl
theorem x_astore4 {b0 b1 b2 b3 : Value} {x : Nat} {w : Value} (h : e_nl b3 = true) : s_x X d c (.astore 4 :: is) (b0 :: b1 :: b2 :: b3 :: w :: l) (.ref x :: st) m = s_x X d c is (b0 :: b1 :: b2 :: b3 :: .ref x :: l) (st) m := by cases b3 <;> first | (cases h; done) | rfl
theorem x_lstore4 {b0 b1 b2 b3 : Value} {x : Int64} {w w2 : Value} (h : e_nl b3 = true) : s_x X d c (.lstore 4 :: is) (b0 :: b1 :: b2 :: b3 :: w :: w2 :: l) (.long x :: st) m = s_x X d c is (b0 :: b1 :: b2 :: b3 :: .long x :: .retAddr 0 :: l) (st) m := by cases b3 <;> first | (cases h; done) | rfl
theorem x_iinc4 {b0 b1 b2 b3 : Value} {x : Int32} {v : Int} (h : e_nl b3 = true) : s_x X d c (.iinc 4 v :: is) (b0 :: b1 :: b2 :: b3 :: .int x :: l) (st) m = s_x X d c is (b0 :: b1 :: b2 :: b3 :: .int (x + iI v) :: l) (st) m := by cases b3 <;> first | (cases h; done) | rfl
theorem x_iload5 {b0 b1 b2 b3 b4 : Value} {x : Int32} : s_x X d c (.iload 5 :: is) (b0 :: b1 :: b2 :: b3 :: b4 :: .int x :: l) (st) m = s_x X d c is (b0 :: b1 :: b2 :: b3 :: b4 :: .int x :: l) (.int x :: st) m := rfl
theorem x_aload5 {b0 b1 b2 b3 b4 : Value} {x : Nat} : s_x X d c (.aload 5 :: is) (b0 :: b1 :: b2 :: b3 :: b4 :: .ref x :: l) (st) m = s_x X d c is (b0 :: b1 :: b2 :: b3 :: b4 :: .ref x :: l) (.ref x :: st) m := rfl
theorem x_lload5 {b0 b1 b2 b3 b4 : Value} {x : Int64} : s_x X d c (.lload 5 :: is) (b0 :: b1 :: b2 :: b3 :: b4 :: .long x :: l) (st) m = s_x X d c is (b0 :: b1 :: b2 :: b3 :: b4 :: .long x :: l) (.long x :: st) m := rfl
theorem x_istore5 {b0 b1 b2 b3 b4 : Value} {x : Int32} {w : Value} (h : e_nl b4 = true) : s_x X d c (.istore 5 :: is) (b0 :: b1 :: b2 :: b3 :: b4 :: w :: l) (.int x :: st) m = s_x X d c is (b0 :: b1 :: b2 :: b3 :: b4 :: .int x :: l) (st) m := by cases b4 <;> first | (cases h; done) | rfl
theorem x_astore5 {b0 b1 b2 b3 b4 : Value} {x : Nat} {w : Value} (h : e_nl b4 = true) : s_x X d c (.astore 5 :: is) (b0 :: b1 :: b2 :: b3 :: b4 :: w :: l) (.ref x :: st) m = s_x X d c is (b0 :: b1 :: b2 :: b3 :: b4 :: .ref x :: l) (st) m := by cases b4 <;> first | (cases h; done) | rfl
theorem x_lstore5 {b0 b1 b2 b3 b4 : Value} {x : Int64} {w w2 : Value} (h : e_nl b4 = true) : s_x X d c (.lstore 5 :: is) (b0 :: b1 :: b2 :: b3 :: b4 :: w :: w2 :: l) (.long x :: st) m = s_x X d c is (b0 :: b1 :: b2 :: b3 :: b4 :: .long x :: .retAddr 0 :: l) (st) m := by cases b4 <;> first | (cases h; done) | rfl
theorem x_iinc5 {b0 b1 b2 b3 b4 : Value} {x : Int32} {v : Int} (h : e_nl b4 = true) : s_x X d c (.iinc 5 v :: is) (b0 :: b1 :: b2 :: b3 :: b4 :: .int x :: l) (st) m = s_x X d c is (b0 :: b1 :: b2 :: b3 :: b4 :: .int (x + iI v) :: l) (st) m := by cases b4 <;> first | (cases h; done) | rfl
theorem x_iload6 {b0 b1 b2 b3 b4 b5 : Value} {x : Int32} : s_x X d c (.iload 6 :: is) (b0 :: b1 :: b2 :: b3 :: b4 :: b5 :: .int x :: l) (st) m = s_x X d c is (b0 :: b1 :: b2 :: b3 :: b4 :: b5 :: .int x :: l) (.int x :: st) m := rfl
theorem x_aload6 {b0 b1 b2 b3 b4 b5 : Value} {x : Nat} : s_x X d c (.aload 6 :: is) (b0 :: b1 :: b2 :: b3 :: b4 :: b5 :: .ref x :: l) (st) m = s_x X d c is (b0 :: b1 :: b2 :: b3 :: b4 :: b5 :: .ref x :: l) (.ref x :: st) m := rfl
theorem x_lload6 {b0 b1 b2 b3 b4 b5 : Value} {x : Int64} : s_x X d c (.lload 6 :: is) (b0 :: b1 :: b2 :: b3 :: b4 :: b5 :: .long x :: l) (st) m = s_x X d c is (b0 :: b1 :: b2 :: b3 :: b4 :: b5 :: .long x :: l) (.long x :: st) m := rfl
theorem x_istore6 {b0 b1 b2 b3 b4 b5 : Value} {x : Int32} {w : Value} (h : e_nl b5 = true) : s_x X d c (.istore 6 :: is) (b0 :: b1 :: b2 :: b3 :: b4 :: b5 :: w :: l) (.int x :: st) m = s_x X d c is (b0 :: b1 :: b2 :: b3 :: b4 :: b5 :: .int x :: l) (st) m := by cases b5 <;> first | (cases h; done) | rfl
theorem x_astore6 {b0 b1 b2 b3 b4 b5 : Value} {x : Nat} {w : Value} (h : e_nl b5 = true) : s_x X d c (.astore 6 :: is) (b0 :: b1 :: b2 :: b3 :: b4 :: b5 :: w :: l) (.ref x :: st) m = s_x X d c is (b0 :: b1 :: b2 :: b3 :: b4 :: b5 :: .ref x :: l) (st) m := by cases b5 <;> first | (cases h; done) | rfl
theorem x_lstore6 {b0 b1 b2 b3 b4 b5 : Value} {x : Int64} {w w2 : Value} (h : e_nl b5 = true) : s_x X d c (.lstore 6 :: is) (b0 :: b1 :: b2 :: b3 :: b4 :: b5 :: w :: w2 :: l) (.long x :: st) m = s_x X d c is (b0 :: b1 :: b2 :: b3 :: b4 :: b5 :: .long x :: .retAddr 0 :: l) (st) m := by cases b5 <;> first | (cases h; done) | rfl
theorem x_iinc6 {b0 b1 b2 b3 b4 b5 : Value} {x : Int32} {v : Int} (h : e_nl b5 = true) : s_x X d c (.iinc 6 v :: is) (b0 :: b1 :: b2 :: b3 :: b4 :: b5 :: .int x :: l) (st) m = s_x X d c is (b0 :: b1 :: b2 :: b3 :: b4 :: b5 :: .int (x + iI v) :: l) (st) m := by cases b5 <;> first | (cases h; done) | rfl
theorem x_iload7 {b0 b1 b2 b3 b4 b5 b6 : Value} {x : Int32} : s_x X d c (.iload 7 :: is) (b0 :: b1 :: b2 :: b3 :: b4 :: b5 :: b6 :: .int x :: l) (st) m = s_x X d c is (b0 :: b1 :: b2 :: b3 :: b4 :: b5 :: b6 :: .int x :: l) (.int x :: st) m := rfl
theorem x_aload7 {b0 b1 b2 b3 b4 b5 b6 : Value} {x : Nat} : s_x X d c (.aload 7 :: is) (b0 :: b1 :: b2 :: b3 :: b4 :: b5 :: b6 :: .ref x :: l) (st) m = s_x X d c is (b0 :: b1 :: b2 :: b3 :: b4 :: b5 :: b6 :: .ref x :: l) (.ref x :: st) m := rfl
theorem x_lload7 {b0 b1 b2 b3 b4 b5 b6 : Value} {x : Int64} : s_x X d c (.lload 7 :: is) (b0 :: b1 :: b2 :: b3 :: b4 :: b5 :: b6 :: .long x :: l) (st) m = s_x X d c is (b0 :: b1 :: b2 :: b3 :: b4 :: b5 :: b6 :: .long x :: l) (.long x :: st) m := rfl
theorem x_istore7 {b0 b1 b2 b3 b4 b5 b6 : Value} {x : Int32} {w : Value} (h : e_nl b6 = true) : s_x X d c (.istore 7 :: is) (b0 :: b1 :: b2 :: b3 :: b4 :: b5 :: b6 :: w :: l) (.int x :: st) m = s_x X d c is (b0 :: b1 :: b2 :: b3 :: b4 :: b5 :: b6 :: .int x :: l) (st) m := by cases b6 <;> first | (cases h; done) | rfl
theorem x_astore7 {b0 b1 b2 b3 b4 b5 b6 : Value} {x : Nat} {w : Value} (h : e_nl b6 = true) : s_x X d c (.astore 7 :: is) (b0 :: b1 :: b2 :: b3 :: b4 :: b5 :: b6 :: w :: l) (.ref x :: st) m = s_x X d c is (b0 :: b1 :: b2 :: b3 :: b4 :: b5 :: b6 :: .ref x :: l) (st) m := by cases b6 <;> first | (cases h; done) | rfl
theorem x_lstore7 {b0 b1 b2 b3 b4 b5 b6 : Value} {x : Int64} {w w2 : Value} (h : e_nl b6 = true) : s_x X d c (.lstore 7 :: is) (b0 :: b1 :: b2 :: b3 :: b4 :: b5 :: b6 :: w :: w2 :: l) (.long x :: st) m = s_x X d c is (b0 :: b1 :: b2 :: b3 :: b4 :: b5 :: b6 :: .long x :: .retAddr 0 :: l) (st) m := by cases b6 <;> first | (cases h; done) | rfl
theorem x_iinc7 {b0 b1 b2 b3 b4 b5 b6 : Value} {x : Int32} {v : Int} (h : e_nl b6 = true) : s_x X d c (.iinc 7 v :: is) (b0 :: b1 :: b2 :: b3 :: b4 :: b5 :: b6 :: .int x :: l) (st) m = s_x X d c is (b0 :: b1 :: b2 :: b3 :: b4 :: b5 :: b6 :: .int (x + iI v) :: l) (st) m := by cases b6 <;> first | (cases h; done) | rfl
theorem x_iload8 {b0 b1 b2 b3 b4 b5 b6 b7 : Value} {x : Int32} : s_x X d c (.iload 8 :: is) (b0 :: b1 :: b2 :: b3 :: b4 :: b5 :: b6 :: b7 :: .int x :: l) (st) m = s_x X d c is (b0 :: b1 :: b2 :: b3 :: b4 :: b5 :: b6 :: b7 :: .int x :: l) (.int x :: st) m := rfl
theorem x_aload8 {b0 b1 b2 b3 b4 b5 b6 b7 : Value} {x : Nat} : s_x X d c (.aload 8 :: is) (b0 :: b1 :: b2 :: b3 :: b4 :: b5 :: b6 :: b7 :: .ref x :: l) (st) m = s_x X d c is (b0 :: b1 :: b2 :: b3 :: b4 :: b5 :: b6 :: b7 :: .ref x :: l) (.ref x :: st) m := rfl
theorem x_lload8 {b0 b1 b2 b3 b4 b5 b6 b7 : Value} {x : Int64} : s_x X d c (.lload 8 :: is) (b0 :: b1 :: b2 :: b3 :: b4 :: b5 :: b6 :: b7 :: .long x :: l) (st) m = s_x X d c is (b0 :: b1 :: b2 :: b3 :: b4 :: b5 :: b6 :: b7 :: .long x :: l) (.long x :: st) m := rfl
theorem x_istore8 {b0 b1 b2 b3 b4 b5 b6 b7 : Value} {x : Int32} {w : Value} (h : e_nl b7 = true) : s_x X d c (.istore 8 :: is) (b0 :: b1 :: b2 :: b3 :: b4 :: b5 :: b6 :: b7 :: w :: l) (.int x :: st) m = s_x X d c is (b0 :: b1 :: b2 :: b3 :: b4 :: b5 :: b6 :: b7 :: .int x :: l) (st) m := by cases b7 <;> first | (cases h; done) | rfl
theorem x_astore8 {b0 b1 b2 b3 b4 b5 b6 b7 : Value} {x : Nat} {w : Value} (h : e_nl b7 = true) : s_x X d c (.astore 8 :: is) (b0 :: b1 :: b2 :: b3 :: b4 :: b5 :: b6 :: b7 :: w :: l) (.ref x :: st) m = s_x X d c is (b0 :: b1 :: b2 :: b3 :: b4 :: b5 :: b6 :: b7 :: .ref x :: l) (st) m := by cases b7 <;> first | (cases h; done) | rfl
theorem x_lstore8 {b0 b1 b2 b3 b4 b5 b6 b7 : Value} {x : Int64} {w w2 : Value} (h : e_nl b7 = true) : s_x X d c (.lstore 8 :: is) (b0 :: b1 :: b2 :: b3 :: b4 :: b5 :: b6 :: b7 :: w :: w2 :: l) (.long x :: st) m = s_x X d c is (b0 :: b1 :: b2 :: b3 :: b4 :: b5 :: b6 :: b7 :: .long x :: .retAddr 0 :: l) (st) m := by cases b7 <;> first | (cases h; done) | rfl
theorem x_iinc8 {b0 b1 b2 b3 b4 b5 b6 b7 : Value} {x : Int32} {v : Int} (h : e_nl b7 = true) : s_x X d c (.iinc 8 v :: is) (b0 :: b1 :: b2 :: b3 :: b4 :: b5 :: b6 :: b7 :: .int x :: l) (st) m = s_x X d c is (b0 :: b1 :: b2 :: b3 :: b4 :: b5 :: b6 :: b7 :: .int (x + iI v) :: l) (st) m := by cases b7 <;> first | (cases h; done) | rfl
theorem x_iload9 {b0 b1 b2 b3 b4 b5 b6 b7 b8 : Value} {x : Int32} : s_x X d c (.iload 9 :: is) (b0 :: b1 :: b2 :: b3 :: b4 :: b5 :: b6 :: b7 :: b8 :: .int x :: l) (st) m = s_x X d c is (b0 :: b1 :: b2 :: b3 :: b4 :: b5 :: b6 :: b7 :: b8 :: .int x :: l) (.int x :: st) m := rfl
theorem x_aload9 {b0 b1 b2 b3 b4 b5 b6 b7 b8 : Value} {x : Nat} : s_x X d c (.aload 9 :: is) (b0 :: b1 :: b2 :: b3 :: b4 :: b5 :: b6 :: b7 :: b8 :: .ref x :: l) (st) m = s_x X d c is (b0 :: b1 :: b2 :: b3 :: b4 :: b5 :: b6 :: b7 :: b8 :: .ref x :: l) (.ref x :: st) m := rfl
theorem x_lload9 {b0 b1 b2 b3 b4 b5 b6 b7 b8 : Value} {x : Int64} : s_x X d c (.lload 9 :: is) (b0 :: b1 :: b2 :: b3 :: b4 :: b5 :: b6 :: b7 :: b8 :: .long x :: l) (st) m = s_x X d c is (b0 :: b1 :: b2 :: b3 :: b4 :: b5 :: b6 :: b7 :: b8 :: .long x :: l) (.long x :: st) m := rfl
theorem x_istore9 {b0 b1 b2 b3 b4 b5 b6 b7 b8 : Value} {x : Int32} {w : Value} (h : e_nl b8 = true) : s_x X d c (.istore 9 :: is) (b0 :: b1 :: b2 :: b3 :: b4 :: b5 :: b6 :: b7 :: b8 :: w :: l) (.int x :: st) m = s_x X d c is (b0 :: b1 :: b2 :: b3 :: b4 :: b5 :: b6 :: b7 :: b8 :: .int x :: l) (st) m := by cases b8 <;> first | (cases h; done) | rfl
theorem x_astore9 {b0 b1 b2 b3 b4 b5 b6 b7 b8 : Value} {x : Nat} {w : Value} (h : e_nl b8 = true) : s_x X d c (.astore 9 :: is) (b0 :: b1 :: b2 :: b3 :: b4 :: b5 :: b6 :: b7 :: b8 :: w :: l) (.ref x :: st) m = s_x X d c is (b0 :: b1 :: b2 :: b3 :: b4 :: b5 :: b6 :: b7 :: b8 :: .ref x :: l) (st) m := by cases b8 <;> first | (cases h; done) | rfl
theorem x_lstore9 {b0 b1 b2 b3 b4 b5 b6 b7 b8 : Value} {x : Int64} {w w2 : Value} (h : e_nl b8 = true) : s_x X d c (.lstore 9 :: is) (b0 :: b1 :: b2 :: b3 :: b4 :: b5 :: b6 :: b7 :: b8 :: w :: w2 :: l) (.long x :: st) m = s_x X d c is (b0 :: b1 :: b2 :: b3 :: b4 :: b5 :: b6 :: b7 :: b8 :: .long x :: .retAddr 0 :: l) (st) m := by cases b8 <;> first | (cases h; done) | rfl
theorem x_iinc9 {b0 b1 b2 b3 b4 b5 b6 b7 b8 : Value} {x : Int32} {v : Int} (h : e_nl b8 = true) : s_x X d c (.iinc 9 v :: is) (b0 :: b1 :: b2 :: b3 :: b4 :: b5 :: b6 :: b7 :: b8 :: .int x :: l) (st) m = s_x X d c is (b0 :: b1 :: b2 :: b3 :: b4 :: b5 :: b6 :: b7 :: b8 :: .int (x + iI v) :: l) (st) m := by cases b8 <;> first | (cases h; done) | rfl
theorem x_iload10 {b0 b1 b2 b3 b4 b5 b6 b7 b8 b9 : Value} {x : Int32} : s_x X d c (.iload 10 :: is) (b0 :: b1 :: b2 :: b3 :: b4 :: b5 :: b6 :: b7 :: b8 :: b9 :: .int x :: l) (st) m = s_x X d c is (b0 :: b1 :: b2 :: b3 :: b4 :: b5 :: b6 :: b7 :: b8 :: b9 :: .int x :: l) (.int x :: st) m := rfl
theorem x_aload10 {b0 b1 b2 b3 b4 b5 b6 b7 b8 b9 : Value} {x : Nat} : s_x X d c (.aload 10 :: is) (b0 :: b1 :: b2 :: b3 :: b4 :: b5 :: b6 :: b7 :: b8 :: b9 :: .ref x :: l) (st) m = s_x X d c is (b0 :: b1 :: b2 :: b3 :: b4 :: b5 :: b6 :: b7 :: b8 :: b9 :: .ref x :: l) (.ref x :: st) m := rfl
theorem x_lload10 {b0 b1 b2 b3 b4 b5 b6 b7 b8 b9 : Value} {x : Int64} : s_x X d c (.lload 10 :: is) (b0 :: b1 :: b2 :: b3 :: b4 :: b5 :: b6 :: b7 :: b8 :: b9 :: .long x :: l) (st) m = s_x X d c is (b0 :: b1 :: b2 :: b3 :: b4 :: b5 :: b6 :: b7 :: b8 :: b9 :: .long x :: l) (.long x :: st) m := rfl
theorem x_istore10 {b0 b1 b2 b3 b4 b5 b6 b7 b8 b9 : Value} {x : Int32} {w : Value} (h : e_nl b9 = true) : s_x X d c (.istore 10 :: is) (b0 :: b1 :: b2 :: b3 :: b4 :: b5 :: b6 :: b7 :: b8 :: b9 :: w :: l) (.int x :: st) m = s_x X d c is (b0 :: b1 :: b2 :: b3 :: b4 :: b5 :: b6 :: b7 :: b8 :: b9 :: .int x :: l) (st) m := by cases b9 <;> first | (cases h; done) | rfl
theorem x_astore10 {b0 b1 b2 b3 b4 b5 b6 b7 b8 b9 : Value} {x : Nat} {w : Value} (h : e_nl b9 = true) : s_x X d c (.astore 10 :: is) (b0 :: b1 :: b2 :: b3 :: b4 :: b5 :: b6 :: b7 :: b8 :: b9 :: w :: l) (.ref x :: st) m = s_x X d c is (b0 :: b1 :: b2 :: b3 :: b4 :: b5 :: b6 :: b7 :: b8 :: b9 :: .ref x :: l) (st) m := by cases b9 <;> first | (cases h; done) | rfl
theorem x_lstore10 {b0 b1 b2 b3 b4 b5 b6 b7 b8 b9 : Value} {x : Int64} {w w2 : Value} (h : e_nl b9 = true) : s_x X d c (.lstore 10 :: is) (b0 :: b1 :: b2 :: b3 :: b4 :: b5 :: b6 :: b7 :: b8 :: b9 :: w :: w2 :: l) (.long x :: st) m = s_x X d c is (b0 :: b1 :: b2 :: b3 :: b4 :: b5 :: b6 :: b7 :: b8 :: b9 :: .long x :: .retAddr 0 :: l) (st) m := by cases b9 <;> first | (cases h; done) | rfl
theorem x_iinc10 {b0 b1 b2 b3 b4 b5 b6 b7 b8 b9 : Value} {x : Int32} {v : Int} (h : e_nl b9 = true) : s_x X d c (.iinc 10 v :: is) (b0 :: b1 :: b2 :: b3 :: b4 :: b5 :: b6 :: b7 :: b8 :: b9 :: .int x :: l) (st) m = s_x X d c is (b0 :: b1 :: b2 :: b3 :: b4 :: b5 :: b6 :: b7 :: b8 :: b9 :: .int (x + iI v) :: l) (st) m := by cases b9 <;> first | (cases h; done) | rfl
theorem x_iadd {x y : Int32} : s_x X d c (.iadd :: is) (ls) (.int y :: .int x :: st) m = s_x X d c is (ls) (.int (x + y) :: st) m := rfl
theorem x_isub {x y : Int32} : s_x X d c (.isub :: is) (ls) (.int y :: .int x :: st) m = s_x X d c is (ls) (.int (x - y) :: st) m := rfl
theorem x_imul {x y : Int32} : s_x X d c (.imul :: is) (ls) (.int y :: .int x :: st) m = s_x X d c is (ls) (.int (x * y) :: st) m := rfl
theorem x_iand {x y : Int32} : s_x X d c (.iand :: is) (ls) (.int y :: .int x :: st) m = s_x X d c is (ls) (.int (x &&& y) :: st) m := rfl
theorem x_ior {x y : Int32} : s_x X d c (.ior :: is) (ls) (.int y :: .int x :: st) m = s_x X d c is (ls) (.int (x ||| y) :: st) m := rfl
theorem x_ixor {x y : Int32} : s_x X d c (.ixor :: is) (ls) (.int y :: .int x :: st) m = s_x X d c is (ls) (.int (x ^^^ y) :: st) m := rfl
theorem x_ishl {x y : Int32} : s_x X d c (.ishl :: is) (ls) (.int y :: .int x :: st) m = s_x X d c is (ls) (.int (x <<< (y &&& 31)) :: st) m := rfl
theorem x_ishr {x y : Int32} : s_x X d c (.ishr :: is) (ls) (.int y :: .int x :: st) m = s_x X d c is (ls) (.int (x >>> (y &&& 31)) :: st) m := rfl
theorem x_iushr {x y : Int32} : s_x X d c (.iushr :: is) (ls) (.int y :: .int x :: st) m = s_x X d c is (ls) (.int ((x.toUInt32 >>> (y.toUInt32 &&& Int32.toUInt32 31)).toInt32) :: st) m := rfl
theorem x_dadd {x y : Int32} : s_x X d c (.dadd :: is) (ls) (.int y :: .int x :: st) m = s_x X d c is (ls) (.int (if x < y then y else x) :: st) m := rfl
theorem x_dsub {x y : Int32} : s_x X d c (.dsub :: is) (ls) (.int y :: .int x :: st) m = s_x X d c is (ls) (.int (if y < x then y else x) :: st) m := rfl
theorem x_idiv {x y : Int32} (h : ¬ y = 0) : s_x X d c (.idiv :: is) (ls) (.int y :: .int x :: st) m = s_x X d c is (ls) (.int (x / y) :: st) m := by
  simp only [s_x, e_x, e_st, e_id, if_neg h]
theorem x_irem {x y : Int32} (h : ¬ y = 0) : s_x X d c (.irem :: is) (ls) (.int y :: .int x :: st) m = s_x X d c is (ls) (.int (x % y) :: st) m := by
  simp only [s_x, e_x, e_st, e_id, if_neg h]
theorem x_ineg {x : Int32} : s_x X d c (.ineg :: is) (ls) (.int x :: st) m = s_x X d c is (ls) (.int (-x) :: st) m := rfl
theorem x_i2b {x : Int32} : s_x X d c (.i2b :: is) (ls) (.int x :: st) m = s_x X d c is (ls) (.int (x.toInt8.toInt32) :: st) m := rfl
theorem x_i2s {x : Int32} : s_x X d c (.i2s :: is) (ls) (.int x :: st) m = s_x X d c is (ls) (.int (x.toInt16.toInt32) :: st) m := rfl
theorem x_i2c {x : Int32} : s_x X d c (.i2c :: is) (ls) (.int x :: st) m = s_x X d c is (ls) (.int ((x.toUInt32 % 65536).toInt32) :: st) m := rfl
theorem x_dneg {x : Int32} : s_x X d c (.dneg :: is) (ls) (.int x :: st) m = s_x X d c is (ls) (.int (if 0 ≤ x then x else 0 - x) :: st) m := rfl
theorem x_ladd {x y : Int64} : s_x X d c (.ladd :: is) (ls) (.long y :: .long x :: st) m = s_x X d c is (ls) (.long (x + y) :: st) m := rfl
theorem x_lsub {x y : Int64} : s_x X d c (.lsub :: is) (ls) (.long y :: .long x :: st) m = s_x X d c is (ls) (.long (x - y) :: st) m := rfl
theorem x_land {x y : Int64} : s_x X d c (.land :: is) (ls) (.long y :: .long x :: st) m = s_x X d c is (ls) (.long (x &&& y) :: st) m := rfl
theorem x_lor {x y : Int64} : s_x X d c (.lor :: is) (ls) (.long y :: .long x :: st) m = s_x X d c is (ls) (.long (x ||| y) :: st) m := rfl
theorem x_lxor {x y : Int64} : s_x X d c (.lxor :: is) (ls) (.long y :: .long x :: st) m = s_x X d c is (ls) (.long (x ^^^ y) :: st) m := rfl
theorem x_lshl {x : Int64} {y : Int32} : s_x X d c (.lshl :: is) (ls) (.int y :: .long x :: st) m = s_x X d c is (ls) (.long (x <<< (y.toInt64 &&& 63)) :: st) m := rfl
theorem x_lshr {x : Int64} {y : Int32} : s_x X d c (.lshr :: is) (ls) (.int y :: .long x :: st) m = s_x X d c is (ls) (.long (x >>> (y.toInt64 &&& 63)) :: st) m := rfl
theorem x_lushr {x : Int64} {y : Int32} : s_x X d c (.lushr :: is) (ls) (.int y :: .long x :: st) m = s_x X d c is (ls) (.long ((x.toUInt64 >>> (y.toInt64.toUInt64 &&& Int64.toUInt64 63)).toInt64) :: st) m := rfl
theorem x_lcmp {x y : Int64} : s_x X d c (.lcmp :: is) (ls) (.long y :: .long x :: st) m = s_x X d c is (ls) (.int (lg_cmp x y) :: st) m := rfl
theorem x_i2l {x : Int32} : s_x X d c (.i2l :: is) (ls) (.int x :: st) m = s_x X d c is (ls) (.long x.toInt64 :: st) m := rfl
theorem x_l2i {x : Int64} : s_x X d c (.l2i :: is) (ls) (.long x :: st) m = s_x X d c is (ls) (.int x.toInt32 :: st) m := rfl
theorem x_dup_i {x : Int32} : s_x X d c (.dup :: is) (ls) (.int x :: st) m = s_x X d c is (ls) (.int x :: .int x :: st) m := rfl
theorem x_dup_r {x : Nat} : s_x X d c (.dup :: is) (ls) (.ref x :: st) m = s_x X d c is (ls) (.ref x :: .ref x :: st) m := rfl
theorem x_pop {x : Int32} : s_x X d c (.pop :: is) (ls) (.int x :: st) m = s_x X d c is (ls) (st) m := rfl
theorem x_pop2 {x : Nat} : s_x X d c (.pop2 :: is) (ls) (.ref x :: st) m = s_x X d c is (ls) (st) m := rfl
theorem x_dup_x1 {x : Int32} {y : Nat} : s_x X d c (.dup_x1 :: is) (ls) (.int x :: .ref y :: st) m = s_x X d c is (ls) (.int x :: .ref y :: .int x :: st) m := rfl
theorem x_dup2 {x : Int32} {y : Nat} : s_x X d c (.dup2 :: is) (ls) (.int x :: .ref y :: st) m = s_x X d c is (ls) (.int x :: .ref y :: .int x :: .ref y :: st) m := rfl
theorem x_ifCond_eq {x : Int32} {t : Int} : s_x X d c (.ifCond .eq t :: is) (ls) (.int x :: st) m = if x = 0 then s_g X d c t.toNat ls st m else s_x X d c is (ls) (st) m := by
  show (if e_c .eq x 0 = true then s_g X d c t.toNat ls st m else s_x X d c is ls st m) = _
  simp only [e_c, decide_eq_true_eq]
theorem x_if_icmp_eq {x y : Int32} {t : Int} : s_x X d c (.if_icmp .eq t :: is) (ls) (.int y :: .int x :: st) m = if x = y then s_g X d c t.toNat ls st m else s_x X d c is (ls) (st) m := by
  show (if e_c .eq x y = true then s_g X d c t.toNat ls st m else s_x X d c is ls st m) = _
  simp only [e_c, decide_eq_true_eq]
theorem x_ifCond_ne {x : Int32} {t : Int} : s_x X d c (.ifCond .ne t :: is) (ls) (.int x :: st) m = if x = 0 then s_x X d c is (ls) (st) m else s_g X d c t.toNat ls st m := by
  show (if e_c .ne x 0 = true then s_g X d c t.toNat ls st m else s_x X d c is ls st m) = _
  simp only [e_c, decide_eq_true_eq]
  by_cases h : x = 0
  · rw [if_pos h, if_neg (not_not_intro h)]
  · rw [if_neg h, if_pos h]
theorem x_if_icmp_ne {x y : Int32} {t : Int} : s_x X d c (.if_icmp .ne t :: is) (ls) (.int y :: .int x :: st) m = if x = y then s_x X d c is (ls) (st) m else s_g X d c t.toNat ls st m := by
  show (if e_c .ne x y = true then s_g X d c t.toNat ls st m else s_x X d c is ls st m) = _
  simp only [e_c, decide_eq_true_eq]
  by_cases h : x = y
  · rw [if_pos h, if_neg (not_not_intro h)]
  · rw [if_neg h, if_pos h]
theorem x_ifCond_lt {x : Int32} {t : Int} : s_x X d c (.ifCond .lt t :: is) (ls) (.int x :: st) m = if x < 0 then s_g X d c t.toNat ls st m else s_x X d c is (ls) (st) m := by
  show (if e_c .lt x 0 = true then s_g X d c t.toNat ls st m else s_x X d c is ls st m) = _
  simp only [e_c, decide_eq_true_eq]
theorem x_if_icmp_lt {x y : Int32} {t : Int} : s_x X d c (.if_icmp .lt t :: is) (ls) (.int y :: .int x :: st) m = if x < y then s_g X d c t.toNat ls st m else s_x X d c is (ls) (st) m := by
  show (if e_c .lt x y = true then s_g X d c t.toNat ls st m else s_x X d c is ls st m) = _
  simp only [e_c, decide_eq_true_eq]
theorem x_ifCond_ge {x : Int32} {t : Int} : s_x X d c (.ifCond .ge t :: is) (ls) (.int x :: st) m = if x < 0 then s_x X d c is (ls) (st) m else s_g X d c t.toNat ls st m := by
  show (if e_c .ge x 0 = true then s_g X d c t.toNat ls st m else s_x X d c is ls st m) = _
  simp only [e_c, decide_eq_true_eq]
  by_cases h : x < 0
  · rw [if_pos h, if_neg (Int32.not_le.mpr h)]
  · rw [if_neg h, if_pos (Int32.not_lt.mp h)]
theorem x_if_icmp_ge {x y : Int32} {t : Int} : s_x X d c (.if_icmp .ge t :: is) (ls) (.int y :: .int x :: st) m = if x < y then s_x X d c is (ls) (st) m else s_g X d c t.toNat ls st m := by
  show (if e_c .ge x y = true then s_g X d c t.toNat ls st m else s_x X d c is ls st m) = _
  simp only [e_c, decide_eq_true_eq]
  by_cases h : x < y
  · rw [if_pos h, if_neg (Int32.not_le.mpr h)]
  · rw [if_neg h, if_pos (Int32.not_lt.mp h)]
theorem x_ifCond_gt {x : Int32} {t : Int} : s_x X d c (.ifCond .gt t :: is) (ls) (.int x :: st) m = if 0 < x then s_g X d c t.toNat ls st m else s_x X d c is (ls) (st) m := by
  show (if e_c .gt x 0 = true then s_g X d c t.toNat ls st m else s_x X d c is ls st m) = _
  simp only [e_c, decide_eq_true_eq]
theorem x_if_icmp_gt {x y : Int32} {t : Int} : s_x X d c (.if_icmp .gt t :: is) (ls) (.int y :: .int x :: st) m = if y < x then s_g X d c t.toNat ls st m else s_x X d c is (ls) (st) m := by
  show (if e_c .gt x y = true then s_g X d c t.toNat ls st m else s_x X d c is ls st m) = _
  simp only [e_c, decide_eq_true_eq]
theorem x_ifCond_le {x : Int32} {t : Int} : s_x X d c (.ifCond .le t :: is) (ls) (.int x :: st) m = if 0 < x then s_x X d c is (ls) (st) m else s_g X d c t.toNat ls st m := by
  show (if e_c .le x 0 = true then s_g X d c t.toNat ls st m else s_x X d c is ls st m) = _
  simp only [e_c, decide_eq_true_eq]
  by_cases h : 0 < x
  · rw [if_pos h, if_neg (Int32.not_le.mpr h)]
  · rw [if_neg h, if_pos (Int32.not_lt.mp h)]
theorem x_if_icmp_le {x y : Int32} {t : Int} : s_x X d c (.if_icmp .le t :: is) (ls) (.int y :: .int x :: st) m = if y < x then s_x X d c is (ls) (st) m else s_g X d c t.toNat ls st m := by
  show (if e_c .le x y = true then s_g X d c t.toNat ls st m else s_x X d c is ls st m) = _
  simp only [e_c, decide_eq_true_eq]
  by_cases h : y < x
  · rw [if_pos h, if_neg (Int32.not_le.mpr h)]
  · rw [if_neg h, if_pos (Int32.not_lt.mp h)]
theorem x_goto {t : Int} : s_x X d c (.goto t :: is) (ls) (st) m = s_g X d c t.toNat ls st m := rfl
theorem x_jsr {t : Int} : s_x X d c (.jsr t :: is) (ls) (st) m = s_g X d c t.toNat ls st m := rfl
theorem x_switch {x : Int32} {e : Int} {ps : Array (Int × Int)} : s_x X d c (.lookupswitch e ps :: is) (ls) (.int x :: st) m = e_sw (fun t => s_g X d c t ls st m) e ps.toList x := rfl
theorem x_ireturn {x : Int32} : s_x X d c (.ireturn :: is) (ls) ([.int x]) m = some ([.int x], m) := rfl
theorem x_lreturn {x : Int64} : s_x X d c (.lreturn :: is) (ls) ([.long x]) m = some ([.long x], m) := rfl
theorem x_return : s_x X d c (.return_ :: is) (ls) ([]) m = some ([], m) := rfl
theorem x_call1 {e : Nat} {v0 : Value} (h : e_lo st = true) : s_x X d c (.invokeinterface e 1 :: is) (ls) (v0 :: st) m = e_k (s_S X d e [v0] m) (fun r q => s_x X d c is ls (r ++ st) q) := by
  show (if (decide (1 ≤ (v0 :: st).length) && e_lo st) = true then _ else _) = _
  rw [if_pos (by rw [h]; simp [List.length_cons])]
  rfl
theorem x_call2 {e : Nat} {v0 v1 : Value} (h : e_lo st = true) : s_x X d c (.invokeinterface e 2 :: is) (ls) (v1 :: v0 :: st) m = e_k (s_S X d e [v0, v1] m) (fun r q => s_x X d c is ls (r ++ st) q) := by
  show (if (decide (2 ≤ (v1 :: v0 :: st).length) && e_lo st) = true then _ else _) = _
  rw [if_pos (by rw [h]; simp [List.length_cons])]
  rfl
theorem x_call3 {e : Nat} {v0 v1 v2 : Value} (h : e_lo st = true) : s_x X d c (.invokeinterface e 3 :: is) (ls) (v2 :: v1 :: v0 :: st) m = e_k (s_S X d e [v0, v1, v2] m) (fun r q => s_x X d c is ls (r ++ st) q) := by
  show (if (decide (3 ≤ (v2 :: v1 :: v0 :: st).length) && e_lo st) = true then _ else _) = _
  rw [if_pos (by rw [h]; simp [List.length_cons])]
  rfl
theorem x_call4 {e : Nat} {v0 v1 v2 v3 : Value} (h : e_lo st = true) : s_x X d c (.invokeinterface e 4 :: is) (ls) (v3 :: v2 :: v1 :: v0 :: st) m = e_k (s_S X d e [v0, v1, v2, v3] m) (fun r q => s_x X d c is ls (r ++ st) q) := by
  show (if (decide (4 ≤ (v3 :: v2 :: v1 :: v0 :: st).length) && e_lo st) = true then _ else _) = _
  rw [if_pos (by rw [h]; simp [List.length_cons])]
  rfl
theorem x_call5 {e : Nat} {v0 v1 v2 v3 v4 : Value} (h : e_lo st = true) : s_x X d c (.invokeinterface e 5 :: is) (ls) (v4 :: v3 :: v2 :: v1 :: v0 :: st) m = e_k (s_S X d e [v0, v1, v2, v3, v4] m) (fun r q => s_x X d c is ls (r ++ st) q) := by
  show (if (decide (5 ≤ (v4 :: v3 :: v2 :: v1 :: v0 :: st).length) && e_lo st) = true then _ else _) = _
  rw [if_pos (by rw [h]; simp [List.length_cons])]
  rfl
theorem x_call6 {e : Nat} {v0 v1 v2 v3 v4 v5 : Value} (h : e_lo st = true) : s_x X d c (.invokeinterface e 6 :: is) (ls) (v5 :: v4 :: v3 :: v2 :: v1 :: v0 :: st) m = e_k (s_S X d e [v0, v1, v2, v3, v4, v5] m) (fun r q => s_x X d c is ls (r ++ st) q) := by
  show (if (decide (6 ≤ (v5 :: v4 :: v3 :: v2 :: v1 :: v0 :: st).length) && e_lo st) = true then _ else _) = _
  rw [if_pos (by rw [h]; simp [List.length_cons])]
  rfl
theorem e_lo_0 : e_lo [] = true := rfl
theorem e_lo_1 {a : Value} : e_lo [a] = true := rfl
theorem e_lo_2 {a b : Value} : e_lo [a, b] = true := rfl
theorem e_lo_3 {a b e : Value} : e_lo [a, b, e] = true := rfl
theorem e_lo_4 {a b e f : Value} : e_lo [a, b, e, f] = true := rfl
variable {K : List (Nat × Nat)} {ci : Nat → Nat → Int32} {cj : Nat → Nat → Int64} {cr : Nat → Nat → Nat}
theorem x_getfield {o n : Nat} : s_x X d c (.getfield n :: is) (ls) (.ref o :: st) (K, ci, cj, cr) = if e_ob K o n = true then s_x X d c is (ls) (.int (ci o (n % 64)) :: st) (K, ci, cj, cr) else none := by
  show (match (if e_ob K o n = true then _ else none : e_T) with | some (a, b, q) => _ | none => _) = _
  by_cases h : e_ob K o n = true
  · rw [if_pos h, if_pos h]; rfl
  · rw [if_neg h, if_neg h]
theorem x_getref {o n : Nat} : s_x X d c (.checkcast n :: is) (ls) (.ref o :: st) (K, ci, cj, cr) = if e_ob K o n = true then s_x X d c is (ls) (e_rf (cr o (n % 64)) :: st) (K, ci, cj, cr) else none := by
  show (match (if e_ob K o n = true then _ else none : e_T) with | some (a, b, q) => _ | none => _) = _
  by_cases h : e_ob K o n = true
  · rw [if_pos h, if_pos h]; rfl
  · rw [if_neg h, if_neg h]
theorem x_putfield {o n : Nat} {v : Int32} : s_x X d c (.putfield n :: is) (ls) (.int v :: .ref o :: st) (K, ci, cj, cr) = if (e_ob K o n && (!(e_bool n) || decide (v = 0) || decide (v = 1))) = true then s_x X d c is (ls) (st) (K, e_up ci o (n % 64) v, cj, cr) else none := by
  show (match (if (e_ob K o n && (!(e_bool n) || decide (v = 0) || decide (v = 1))) = true then _ else none : e_T) with | some (a, b, q) => _ | none => _) = _
  by_cases h : (e_ob K o n && (!(e_bool n) || decide (v = 0) || decide (v = 1))) = true
  · rw [if_pos h, if_pos h]; rfl
  · rw [if_neg h, if_neg h]
theorem x_iaload {o : Nat} {i : Int32} : s_x X d c (.iaload :: is) (ls) (.int i :: .ref o :: st) (K, ci, cj, cr) = if e_in i (e_ar K o e_kI) = true then s_x X d c is (ls) (.int (ci o i.toNatClampNeg) :: st) (K, ci, cj, cr) else none := by
  show (match (if e_in i (e_ar K o e_kI) = true then _ else none : e_T) with | some (a, b, q) => _ | none => _) = _
  by_cases h : e_in i (e_ar K o e_kI) = true
  · rw [if_pos h, if_pos h]; rfl
  · rw [if_neg h, if_neg h]
theorem x_caload {o : Nat} {i : Int32} : s_x X d c (.caload :: is) (ls) (.int i :: .ref o :: st) (K, ci, cj, cr) = if e_in i (e_ar K o e_kC) = true then s_x X d c is (ls) (.int (ci o i.toNatClampNeg) :: st) (K, ci, cj, cr) else none := by
  show (match (if e_in i (e_ar K o e_kC) = true then _ else none : e_T) with | some (a, b, q) => _ | none => _) = _
  by_cases h : e_in i (e_ar K o e_kC) = true
  · rw [if_pos h, if_pos h]; rfl
  · rw [if_neg h, if_neg h]
theorem x_laload {o : Nat} {i : Int32} : s_x X d c (.laload :: is) (ls) (.int i :: .ref o :: st) (K, ci, cj, cr) = if e_in i (e_ar K o e_kJ) = true then s_x X d c is (ls) (.long (cj o i.toNatClampNeg) :: st) (K, ci, cj, cr) else none := by
  show (match (if e_in i (e_ar K o e_kJ) = true then _ else none : e_T) with | some (a, b, q) => _ | none => _) = _
  by_cases h : e_in i (e_ar K o e_kJ) = true
  · rw [if_pos h, if_pos h]; rfl
  · rw [if_neg h, if_neg h]
theorem x_iastore {o : Nat} {i v : Int32} : s_x X d c (.iastore :: is) (ls) (.int v :: .int i :: .ref o :: st) (K, ci, cj, cr) = if e_in i (e_ar K o e_kI) = true then s_x X d c is (ls) (st) (K, e_up ci o i.toNatClampNeg v, cj, cr) else none := by
  show (match (if e_in i (e_ar K o e_kI) = true then _ else none : e_T) with | some (a, b, q) => _ | none => _) = _
  by_cases h : e_in i (e_ar K o e_kI) = true
  · rw [if_pos h, if_pos h]; rfl
  · rw [if_neg h, if_neg h]
theorem x_lastore {o : Nat} {i : Int32} {v : Int64} : s_x X d c (.lastore :: is) (ls) (.long v :: .int i :: .ref o :: st) (K, ci, cj, cr) = if e_in i (e_ar K o e_kJ) = true then s_x X d c is (ls) (st) (K, ci, e_up cj o i.toNatClampNeg v, cr) else none := by
  show (match (if e_in i (e_ar K o e_kJ) = true then _ else none : e_T) with | some (a, b, q) => _ | none => _) = _
  by_cases h : e_in i (e_ar K o e_kJ) = true
  · rw [if_pos h, if_pos h]; rfl
  · rw [if_neg h, if_neg h]
theorem x_faload {o : Nat} {i : Int32} : s_x X d c (.faload :: is) (ls) (.int i :: .ref o :: st) (K, ci, cj, cr) = if (decide (o = 1000) && e_in i X.1) = true then s_x X d c is (ls) (.int (X.2 i.toNatClampNeg) :: st) (K, ci, cj, cr) else none := by
  show (match (if (decide (o = 1000) && e_in i X.1) = true then _ else none : e_T) with | some (a, b, q) => _ | none => _) = _
  by_cases h : (decide (o = 1000) && e_in i X.1) = true
  · rw [if_pos h, if_pos h]; rfl
  · rw [if_neg h, if_neg h]
theorem x_fadd {o : Nat} : s_x X d c (.fadd :: is) (ls) (.ref o :: st) (K, ci, cj, cr) = if o = 1000 then s_x X d c is (ls) (.int (Int32.ofNat X.1) :: st) (K, ci, cj, cr) else none := by
  show (match (if o = 1000 then _ else none : e_T) with | some (a, b, q) => _ | none => _) = _
  by_cases h : o = 1000
  · rw [if_pos h, if_pos h]; rfl
  · rw [if_neg h, if_neg h]
theorem x_daload {o : Nat} {i : Int32} : s_x X d c (.daload :: is) (ls) (.int i :: .ref o :: st) (K, ci, cj, cr) = if (decide (o = 1001) && e_in i 6) = true then s_x X d c is (ls) (.int (e_abv i.toNatClampNeg) :: st) (K, ci, cj, cr) else none := by
  show (match (if (decide (o = 1001) && e_in i 6) = true then _ else none : e_T) with | some (a, b, q) => _ | none => _) = _
  by_cases h : (decide (o = 1001) && e_in i 6) = true
  · rw [if_pos h, if_pos h]; rfl
  · rw [if_neg h, if_neg h]
theorem x_fsub {o : Nat} : s_x X d c (.fsub :: is) (ls) (.ref o :: st) (K, ci, cj, cr) = if o = 1001 then s_x X d c is (ls) (.int 6 :: st) (K, ci, cj, cr) else none := by
  show (match (if o = 1001 then _ else none : e_T) with | some (a, b, q) => _ | none => _) = _
  by_cases h : o = 1001
  · rw [if_pos h, if_pos h]; rfl
  · rw [if_neg h, if_neg h]
theorem x_baload {o : Nat} {i : Int32} : s_x X d c (.baload :: is) (ls) (.int i :: .ref o :: st) (K, ci, cj, cr) = if (decide (o = 1003) && e_in i 98) = true then s_x X d c is (ls) (.int (e_nms.getD i.toNatClampNeg 0) :: st) (K, ci, cj, cr) else none := by
  show (match (if (decide (o = 1003) && e_in i 98) = true then _ else none : e_T) with | some (a, b, q) => _ | none => _) = _
  by_cases h : (decide (o = 1003) && e_in i 98) = true
  · rw [if_pos h, if_pos h]; rfl
  · rw [if_neg h, if_neg h]
theorem x_fmul {o : Nat} : s_x X d c (.fmul :: is) (ls) (.ref o :: st) (K, ci, cj, cr) = if o = 1003 then s_x X d c is (ls) (.int 98 :: st) (K, ci, cj, cr) else none := by
  show (match (if o = 1003 then _ else none : e_T) with | some (a, b, q) => _ | none => _) = _
  by_cases h : o = 1003
  · rw [if_pos h, if_pos h]; rfl
  · rw [if_neg h, if_neg h]
theorem x_fload0 : s_x X d c (.fload 0 :: is) (ls) (.ref 1002 :: st) m = s_x X d c is (ls) (.ref 1003 :: st) m := rfl
theorem x_fload1 : s_x X d c (.fload 1 :: is) (ls) (.ref 1002 :: st) m = s_x X d c is (ls) (.int 0 :: st) m := rfl
theorem x_gets0 : s_x X d c (.getstatic 0 :: is) (ls) (st) m = s_x X d c is (ls) (.ref 1001 :: st) m := rfl
theorem x_gets1 : s_x X d c (.getstatic 1 :: is) (ls) (st) m = s_x X d c is (ls) (.int 1 :: st) m := rfl
theorem x_gets2 : s_x X d c (.getstatic 2 :: is) (ls) (st) m = s_x X d c is (ls) (.ref 1004 :: st) m := rfl
theorem x_gets3 : s_x X d c (.getstatic 3 :: is) (ls) (st) m = s_x X d c is (ls) (.ref 1002 :: st) m := rfl
theorem x_alen {o z : Nat} (h : K[o]? = some (e_kI, z)) : s_x X d c (.arraylength :: is) ls (.ref o :: st) (K, ci, cj, cr) = s_x X d c is ls (.int (Int32.ofNat z) :: st) (K, ci, cj, cr) := by
  show (match (match K[o]? with | some (c, z) => if decide (c = e_kI) then some (ls, Value.int (Int32.ofNat z) :: st, (K, ci, cj, cr)) else none | none => none : e_T) with | some (a, b, q) => _ | none => _) = _
  rw [h]; rfl
theorem x_aaload {o k z : Nat} {i : Int32} (h : K[o]? = some (k, z)) (hk : e_kO ≤ k) (hi : e_in i z = true) : s_x X d c (.aaload :: is) ls (.int i :: .ref o :: st) (K, ci, cj, cr) = s_x X d c is ls (e_rf (cr o i.toNatClampNeg) :: st) (K, ci, cj, cr) := by
  show (match (match K[o]? with | some (c, z) => if decide (e_kO ≤ c) && e_in i z then some (ls, e_rf (cr o i.toNatClampNeg) :: st, (K, ci, cj, cr)) else none | none => none : e_T) with | some (a, b, q) => _ | none => _) = _
  rw [h]
  simp only [hk, hi, decide_true, Bool.and_self, if_true]
  rfl
theorem x_copy {o a : Nat} {n dp sp : Int32} (h : (decide (n < 0) || decide (dp < 0) || decide (sp < 0) || decide (e_ar K o e_kI < sp.toNatClampNeg + n.toNatClampNeg) || decide (e_ar K a e_kI < dp.toNatClampNeg + n.toNatClampNeg) || decide (st.length > 3) || decide (K.length ≤ o) || decide (K.length ≤ a)) = false) :
    s_x X d c (.dmul :: is) ls (.int n :: .int dp :: .ref a :: .int sp :: .ref o :: st) (K, ci, cj, cr) = s_x X d c is ls st (K, fun x b => if x = a then (if dp.toNatClampNeg ≤ b ∧ b < dp.toNatClampNeg + n.toNatClampNeg then ci o (sp.toNatClampNeg + (b - dp.toNatClampNeg)) else ci a b) else ci x b, cj, cr) := by
  show (match (if _ then none else _ : e_T) with | some (a, b, q) => _ | none => _) = _
  rw [if_neg (by rw [h]; decide)]
  rfl
end
end
