-- ===== PART A: goes FIRST, ahead of the names: the tables' words, and 'selects' of the private methods out of them =====
/-- a private method of a class that the tables say can be made, by its rows of tables_1 -/
def lw_okq (q : MethodName × Nat) : Prop := (q.1.cls ≠ "java/lang/invoke/MethodHandle" ∧ q.1.cls ≠ "java/lang/invoke/VarHandle") ∧ Cond.instantiable q.1.cls q.2 ∈ tables_1 ∧ Cond.privateMethod q.1 ∈ tables_1 ∧ Cond.instanceMethod q.1 ∈ tables_1
theorem lw_p0 : lw_okq (⟨"PushSaidDoor$TextReader", "letterAt", "(I)C"⟩, 6) := ⟨⟨by decide +kernel, by decide +kernel⟩, List.mem_of_getElem? (i := 28) (by decide +kernel), List.mem_of_getElem? (i := 336) (by decide +kernel), List.mem_of_getElem? (i := 337) (by decide +kernel)⟩
theorem lw_p1 : lw_okq (⟨"PushSaidDoor$TextReader", "readItem", "(C)Z"⟩, 6) := ⟨⟨by decide +kernel, by decide +kernel⟩, List.mem_of_getElem? (i := 28) (by decide +kernel), List.mem_of_getElem? (i := 340) (by decide +kernel), List.mem_of_getElem? (i := 341) (by decide +kernel)⟩
theorem lw_p2 : lw_okq (⟨"PushSaidDoor$TextReader", "readNumbers", "(I)Z"⟩, 6) := ⟨⟨by decide +kernel, by decide +kernel⟩, List.mem_of_getElem? (i := 28) (by decide +kernel), List.mem_of_getElem? (i := 344) (by decide +kernel), List.mem_of_getElem? (i := 345) (by decide +kernel)⟩
theorem lw_p3 : lw_okq (⟨"PushSaidDoor$TextReader", "readNumber", "()I"⟩, 6) := ⟨⟨by decide +kernel, by decide +kernel⟩, List.mem_of_getElem? (i := 28) (by decide +kernel), List.mem_of_getElem? (i := 348) (by decide +kernel), List.mem_of_getElem? (i := 349) (by decide +kernel)⟩
theorem lw_p4 : lw_okq (⟨"PushSaidDoor$TextReader", "figureAt", "(I)I"⟩, 6) := ⟨⟨by decide +kernel, by decide +kernel⟩, List.mem_of_getElem? (i := 28) (by decide +kernel), List.mem_of_getElem? (i := 352) (by decide +kernel), List.mem_of_getElem? (i := 353) (by decide +kernel)⟩
theorem lw_p5 : lw_okq (⟨"PushSaidDoor$TextReader", "acceptRooms", "()Z"⟩, 6) := ⟨⟨by decide +kernel, by decide +kernel⟩, List.mem_of_getElem? (i := 28) (by decide +kernel), List.mem_of_getElem? (i := 357) (by decide +kernel), List.mem_of_getElem? (i := 358) (by decide +kernel)⟩
theorem lw_p6 : lw_okq (⟨"PushSaidDoor$TextReader", "number", "(I)I"⟩, 6) := ⟨⟨by decide +kernel, by decide +kernel⟩, List.mem_of_getElem? (i := 28) (by decide +kernel), List.mem_of_getElem? (i := 361) (by decide +kernel), List.mem_of_getElem? (i := 362) (by decide +kernel)⟩
theorem lw_p7 : lw_okq (⟨"PushSaidDoor$TextReader", "acceptDoor", "()Z"⟩, 6) := ⟨⟨by decide +kernel, by decide +kernel⟩, List.mem_of_getElem? (i := 28) (by decide +kernel), List.mem_of_getElem? (i := 371) (by decide +kernel), List.mem_of_getElem? (i := 372) (by decide +kernel)⟩
theorem lw_p8 : lw_okq (⟨"PushSaidDoor$TextReader", "acceptSigns", "()Z"⟩, 6) := ⟨⟨by decide +kernel, by decide +kernel⟩, List.mem_of_getElem? (i := 28) (by decide +kernel), List.mem_of_getElem? (i := 387) (by decide +kernel), List.mem_of_getElem? (i := 388) (by decide +kernel)⟩
theorem lw_p9 : lw_okq (⟨"PushSaidDoor$TextReader", "acceptDoings", "()Z"⟩, 6) := ⟨⟨by decide +kernel, by decide +kernel⟩, List.mem_of_getElem? (i := 28) (by decide +kernel), List.mem_of_getElem? (i := 396) (by decide +kernel), List.mem_of_getElem? (i := 397) (by decide +kernel)⟩
theorem lw_p10 : lw_okq (⟨"PushSaidDoor$TextReader", "acceptCost", "()Z"⟩, 6) := ⟨⟨by decide +kernel, by decide +kernel⟩, List.mem_of_getElem? (i := 28) (by decide +kernel), List.mem_of_getElem? (i := 401) (by decide +kernel), List.mem_of_getElem? (i := 402) (by decide +kernel)⟩
theorem lw_p11 : lw_okq (⟨"PushSaidDoor$TextReader", "acceptPerson", "()Z"⟩, 6) := ⟨⟨by decide +kernel, by decide +kernel⟩, List.mem_of_getElem? (i := 28) (by decide +kernel), List.mem_of_getElem? (i := 405) (by decide +kernel), List.mem_of_getElem? (i := 406) (by decide +kernel)⟩
theorem lw_p12 : lw_okq (⟨"PushSaidDoor", "isPersonAt", "(III)Z"⟩, 14) := ⟨⟨by decide +kernel, by decide +kernel⟩, List.mem_of_getElem? (i := 20) (by decide +kernel), List.mem_of_getElem? (i := 537) (by decide +kernel), List.mem_of_getElem? (i := 538) (by decide +kernel)⟩
theorem lw_p13 : lw_okq (⟨"PushSaidDoor", "isSide", "(II)Z"⟩, 14) := ⟨⟨by decide +kernel, by decide +kernel⟩, List.mem_of_getElem? (i := 20) (by decide +kernel), List.mem_of_getElem? (i := 541) (by decide +kernel), List.mem_of_getElem? (i := 542) (by decide +kernel)⟩
theorem lw_p14 : lw_okq (⟨"PushSaidDoor$Scale", "add", "(II)V"⟩, 4) := ⟨⟨by decide +kernel, by decide +kernel⟩, List.mem_of_getElem? (i := 161) (by decide +kernel), List.mem_of_getElem? (i := 582) (by decide +kernel), List.mem_of_getElem? (i := 583) (by decide +kernel)⟩
theorem lw_p15 : lw_okq (⟨"PushSaidDoor$Scale", "addWords", "(II)V"⟩, 4) := ⟨⟨by decide +kernel, by decide +kernel⟩, List.mem_of_getElem? (i := 161) (by decide +kernel), List.mem_of_getElem? (i := 586) (by decide +kernel), List.mem_of_getElem? (i := 587) (by decide +kernel)⟩
def lw_privs_1 : List (MethodName × Nat) := [(⟨"PushSaidDoor$TextReader", "letterAt", "(I)C"⟩, 6), (⟨"PushSaidDoor$TextReader", "readItem", "(C)Z"⟩, 6), (⟨"PushSaidDoor$TextReader", "readNumbers", "(I)Z"⟩, 6), (⟨"PushSaidDoor$TextReader", "readNumber", "()I"⟩, 6), (⟨"PushSaidDoor$TextReader", "figureAt", "(I)I"⟩, 6), (⟨"PushSaidDoor$TextReader", "acceptRooms", "()Z"⟩, 6), (⟨"PushSaidDoor$TextReader", "number", "(I)I"⟩, 6), (⟨"PushSaidDoor$TextReader", "acceptDoor", "()Z"⟩, 6), (⟨"PushSaidDoor$TextReader", "acceptSigns", "()Z"⟩, 6), (⟨"PushSaidDoor$TextReader", "acceptDoings", "()Z"⟩, 6), (⟨"PushSaidDoor$TextReader", "acceptCost", "()Z"⟩, 6), (⟨"PushSaidDoor$TextReader", "acceptPerson", "()Z"⟩, 6), (⟨"PushSaidDoor", "isPersonAt", "(III)Z"⟩, 14), (⟨"PushSaidDoor", "isSide", "(II)Z"⟩, 14), (⟨"PushSaidDoor$Scale", "add", "(II)V"⟩, 4), (⟨"PushSaidDoor$Scale", "addWords", "(II)V"⟩, 4)]
theorem lw_r1 : ∀ q ∈ lw_privs_1, lw_okq q := List.forall_mem_cons.mpr ⟨lw_p0, List.forall_mem_cons.mpr ⟨lw_p1, List.forall_mem_cons.mpr ⟨lw_p2, List.forall_mem_cons.mpr ⟨lw_p3, List.forall_mem_cons.mpr ⟨lw_p4, List.forall_mem_cons.mpr ⟨lw_p5, List.forall_mem_cons.mpr ⟨lw_p6, List.forall_mem_cons.mpr ⟨lw_p7, List.forall_mem_cons.mpr ⟨lw_p8, List.forall_mem_cons.mpr ⟨lw_p9, List.forall_mem_cons.mpr ⟨lw_p10, List.forall_mem_cons.mpr ⟨lw_p11, List.forall_mem_cons.mpr ⟨lw_p12, List.forall_mem_cons.mpr ⟨lw_p13, List.forall_mem_cons.mpr ⟨lw_p14, List.forall_mem_cons.mpr ⟨lw_p15, fun _ h => absurd h List.not_mem_nil⟩⟩⟩⟩⟩⟩⟩⟩⟩⟩⟩⟩⟩⟩⟩⟩
theorem lw_p16 : lw_okq (⟨"PushSaidDoor$Scale", "againstWant", "(I)I"⟩, 4) := ⟨⟨by decide +kernel, by decide +kernel⟩, List.mem_of_getElem? (i := 161) (by decide +kernel), List.mem_of_getElem? (i := 609) (by decide +kernel), List.mem_of_getElem? (i := 610) (by decide +kernel)⟩
theorem lw_p17 : lw_okq (⟨"PushSaidDoor$Scale", "commonDivisor", "()I"⟩, 4) := ⟨⟨by decide +kernel, by decide +kernel⟩, List.mem_of_getElem? (i := 161) (by decide +kernel), List.mem_of_getElem? (i := 617) (by decide +kernel), List.mem_of_getElem? (i := 618) (by decide +kernel)⟩
theorem lw_p18 : lw_okq (⟨"PushSaidDoor$Changes", "step", "()V"⟩, 3) := ⟨⟨by decide +kernel, by decide +kernel⟩, List.mem_of_getElem? (i := 96) (by decide +kernel), List.mem_of_getElem? (i := 640) (by decide +kernel), List.mem_of_getElem? (i := 641) (by decide +kernel)⟩
theorem lw_p19 : lw_okq (⟨"PushSaidDoor$WayFinder", "oneDoorMore", "(LPushSaidDoor$House;LPushSaidDoor$Walker;)V"⟩, 6) := ⟨⟨by decide +kernel, by decide +kernel⟩, List.mem_of_getElem? (i := 188) (by decide +kernel), List.mem_of_getElem? (i := 726) (by decide +kernel), List.mem_of_getElem? (i := 727) (by decide +kernel)⟩
theorem lw_p20 : lw_okq (⟨"PushSaidDoor$WayFinder", "partsBy", "(LPushSaidDoor$House;II)I"⟩, 6) := ⟨⟨by decide +kernel, by decide +kernel⟩, List.mem_of_getElem? (i := 188) (by decide +kernel), List.mem_of_getElem? (i := 733) (by decide +kernel), List.mem_of_getElem? (i := 734) (by decide +kernel)⟩
theorem lw_p21 : lw_okq (⟨"PushSaidDoor$WayFinder", "chooseFirst", "(LPushSaidDoor$House;LPushSaidDoor$Walker;)V"⟩, 6) := ⟨⟨by decide +kernel, by decide +kernel⟩, List.mem_of_getElem? (i := 188) (by decide +kernel), List.mem_of_getElem? (i := 740) (by decide +kernel), List.mem_of_getElem? (i := 741) (by decide +kernel)⟩
theorem lw_p22 : lw_okq (⟨"PushSaidDoor", "oneDoorOnWithTray", "(I)I"⟩, 14) := ⟨⟨by decide +kernel, by decide +kernel⟩, List.mem_of_getElem? (i := 20) (by decide +kernel), List.mem_of_getElem? (i := 761) (by decide +kernel), List.mem_of_getElem? (i := 762) (by decide +kernel)⟩
theorem lw_p23 : lw_okq (⟨"PushSaidDoor$Stranger", "judgeSigns", "(LPushSaidDoor$House;IIII)V"⟩, 5) := ⟨⟨by decide +kernel, by decide +kernel⟩, List.mem_of_getElem? (i := 218) (by decide +kernel), List.mem_of_getElem? (i := 776) (by decide +kernel), List.mem_of_getElem? (i := 777) (by decide +kernel)⟩
theorem lw_p24 : lw_okq (⟨"PushSaidDoor$Stranger", "partsAt", "(LPushSaidDoor$House;III)I"⟩, 5) := ⟨⟨by decide +kernel, by decide +kernel⟩, List.mem_of_getElem? (i := 218) (by decide +kernel), List.mem_of_getElem? (i := 805) (by decide +kernel), List.mem_of_getElem? (i := 806) (by decide +kernel)⟩
theorem lw_p25 : lw_okq (⟨"PushSaidDoor$Crowds", "outBy", "(II)I"⟩, 4) := ⟨⟨by decide +kernel, by decide +kernel⟩, List.mem_of_getElem? (i := 246) (by decide +kernel), List.mem_of_getElem? (i := 859) (by decide +kernel), List.mem_of_getElem? (i := 860) (by decide +kernel)⟩
theorem lw_p26 : lw_okq (⟨"PushSaidDoorModel", "faults", "()I"⟩, 20) := ⟨⟨by decide +kernel, by decide +kernel⟩, List.mem_of_getElem? (i := 922) (by decide +kernel), List.mem_of_getElem? (i := 1012) (by decide +kernel), List.mem_of_getElem? (i := 1013) (by decide +kernel)⟩
theorem lw_p27 : lw_okq (⟨"PushSaidDoorModel", "readsRoom", "()Z"⟩, 20) := ⟨⟨by decide +kernel, by decide +kernel⟩, List.mem_of_getElem? (i := 922) (by decide +kernel), List.mem_of_getElem? (i := 1016) (by decide +kernel), List.mem_of_getElem? (i := 1017) (by decide +kernel)⟩
theorem lw_p28 : lw_okq (⟨"PushSaidDoorModel", "readsNumbers", "(I)Z"⟩, 20) := ⟨⟨by decide +kernel, by decide +kernel⟩, List.mem_of_getElem? (i := 922) (by decide +kernel), List.mem_of_getElem? (i := 1020) (by decide +kernel), List.mem_of_getElem? (i := 1021) (by decide +kernel)⟩
theorem lw_p29 : lw_okq (⟨"PushSaidDoorModel", "isFigure", "(I)Z"⟩, 20) := ⟨⟨by decide +kernel, by decide +kernel⟩, List.mem_of_getElem? (i := 922) (by decide +kernel), List.mem_of_getElem? (i := 1024) (by decide +kernel), List.mem_of_getElem? (i := 1025) (by decide +kernel)⟩
theorem lw_p30 : lw_okq (⟨"PushSaidDoorModel", "readsDoor", "()Z"⟩, 20) := ⟨⟨by decide +kernel, by decide +kernel⟩, List.mem_of_getElem? (i := 922) (by decide +kernel), List.mem_of_getElem? (i := 1032) (by decide +kernel), List.mem_of_getElem? (i := 1033) (by decide +kernel)⟩
theorem lw_p31 : lw_okq (⟨"PushSaidDoorModel", "readsSigns", "()Z"⟩, 20) := ⟨⟨by decide +kernel, by decide +kernel⟩, List.mem_of_getElem? (i := 922) (by decide +kernel), List.mem_of_getElem? (i := 1036) (by decide +kernel), List.mem_of_getElem? (i := 1037) (by decide +kernel)⟩
def lw_privs_2 : List (MethodName × Nat) := [(⟨"PushSaidDoor$Scale", "againstWant", "(I)I"⟩, 4), (⟨"PushSaidDoor$Scale", "commonDivisor", "()I"⟩, 4), (⟨"PushSaidDoor$Changes", "step", "()V"⟩, 3), (⟨"PushSaidDoor$WayFinder", "oneDoorMore", "(LPushSaidDoor$House;LPushSaidDoor$Walker;)V"⟩, 6), (⟨"PushSaidDoor$WayFinder", "partsBy", "(LPushSaidDoor$House;II)I"⟩, 6), (⟨"PushSaidDoor$WayFinder", "chooseFirst", "(LPushSaidDoor$House;LPushSaidDoor$Walker;)V"⟩, 6), (⟨"PushSaidDoor", "oneDoorOnWithTray", "(I)I"⟩, 14), (⟨"PushSaidDoor$Stranger", "judgeSigns", "(LPushSaidDoor$House;IIII)V"⟩, 5), (⟨"PushSaidDoor$Stranger", "partsAt", "(LPushSaidDoor$House;III)I"⟩, 5), (⟨"PushSaidDoor$Crowds", "outBy", "(II)I"⟩, 4), (⟨"PushSaidDoorModel", "faults", "()I"⟩, 20), (⟨"PushSaidDoorModel", "readsRoom", "()Z"⟩, 20), (⟨"PushSaidDoorModel", "readsNumbers", "(I)Z"⟩, 20), (⟨"PushSaidDoorModel", "isFigure", "(I)Z"⟩, 20), (⟨"PushSaidDoorModel", "readsDoor", "()Z"⟩, 20), (⟨"PushSaidDoorModel", "readsSigns", "()Z"⟩, 20)]
theorem lw_r2 : ∀ q ∈ lw_privs_2, lw_okq q := List.forall_mem_cons.mpr ⟨lw_p16, List.forall_mem_cons.mpr ⟨lw_p17, List.forall_mem_cons.mpr ⟨lw_p18, List.forall_mem_cons.mpr ⟨lw_p19, List.forall_mem_cons.mpr ⟨lw_p20, List.forall_mem_cons.mpr ⟨lw_p21, List.forall_mem_cons.mpr ⟨lw_p22, List.forall_mem_cons.mpr ⟨lw_p23, List.forall_mem_cons.mpr ⟨lw_p24, List.forall_mem_cons.mpr ⟨lw_p25, List.forall_mem_cons.mpr ⟨lw_p26, List.forall_mem_cons.mpr ⟨lw_p27, List.forall_mem_cons.mpr ⟨lw_p28, List.forall_mem_cons.mpr ⟨lw_p29, List.forall_mem_cons.mpr ⟨lw_p30, List.forall_mem_cons.mpr ⟨lw_p31, fun _ h => absurd h List.not_mem_nil⟩⟩⟩⟩⟩⟩⟩⟩⟩⟩⟩⟩⟩⟩⟩⟩
theorem lw_p32 : lw_okq (⟨"PushSaidDoorModel", "readsDoes", "()Z"⟩, 20) := ⟨⟨by decide +kernel, by decide +kernel⟩, List.mem_of_getElem? (i := 922) (by decide +kernel), List.mem_of_getElem? (i := 1040) (by decide +kernel), List.mem_of_getElem? (i := 1041) (by decide +kernel)⟩
theorem lw_p33 : lw_okq (⟨"PushSaidDoorModel", "readsCost", "()Z"⟩, 20) := ⟨⟨by decide +kernel, by decide +kernel⟩, List.mem_of_getElem? (i := 922) (by decide +kernel), List.mem_of_getElem? (i := 1044) (by decide +kernel), List.mem_of_getElem? (i := 1045) (by decide +kernel)⟩
theorem lw_p34 : lw_okq (⟨"PushSaidDoorModel", "readsPerson", "()Z"⟩, 20) := ⟨⟨by decide +kernel, by decide +kernel⟩, List.mem_of_getElem? (i := 922) (by decide +kernel), List.mem_of_getElem? (i := 1048) (by decide +kernel), List.mem_of_getElem? (i := 1049) (by decide +kernel)⟩
theorem lw_p35 : lw_okq (⟨"PushSaidDoorModel", "isDoor", "(I)Z"⟩, 20) := ⟨⟨by decide +kernel, by decide +kernel⟩, List.mem_of_getElem? (i := 922) (by decide +kernel), List.mem_of_getElem? (i := 1060) (by decide +kernel), List.mem_of_getElem? (i := 1061) (by decide +kernel)⟩
theorem lw_p36 : lw_okq (⟨"PushSaidDoorModel", "wants", "(II)I"⟩, 20) := ⟨⟨by decide +kernel, by decide +kernel⟩, List.mem_of_getElem? (i := 922) (by decide +kernel), List.mem_of_getElem? (i := 1065) (by decide +kernel), List.mem_of_getElem? (i := 1066) (by decide +kernel)⟩
theorem lw_p37 : lw_okq (⟨"PushSaidDoorModel", "isPerson", "(I)Z"⟩, 20) := ⟨⟨by decide +kernel, by decide +kernel⟩, List.mem_of_getElem? (i := 922) (by decide +kernel), List.mem_of_getElem? (i := 1073) (by decide +kernel), List.mem_of_getElem? (i := 1074) (by decide +kernel)⟩
theorem lw_p38 : lw_okq (⟨"PushSaidDoorModel", "weighsAll", "(IIII)V"⟩, 20) := ⟨⟨by decide +kernel, by decide +kernel⟩, List.mem_of_getElem? (i := 922) (by decide +kernel), List.mem_of_getElem? (i := 1096) (by decide +kernel), List.mem_of_getElem? (i := 1097) (by decide +kernel)⟩
theorem lw_p39 : lw_okq (⟨"PushSaidDoorModel", "signsDo", "(II)V"⟩, 20) := ⟨⟨by decide +kernel, by decide +kernel⟩, List.mem_of_getElem? (i := 922) (by decide +kernel), List.mem_of_getElem? (i := 1100) (by decide +kernel), List.mem_of_getElem? (i := 1101) (by decide +kernel)⟩
theorem lw_p40 : lw_okq (⟨"PushSaidDoorModel", "signsOf", "(II)I"⟩, 20) := ⟨⟨by decide +kernel, by decide +kernel⟩, List.mem_of_getElem? (i := 922) (by decide +kernel), List.mem_of_getElem? (i := 1104) (by decide +kernel), List.mem_of_getElem? (i := 1105) (by decide +kernel)⟩
theorem lw_p41 : lw_okq (⟨"PushSaidDoorModel", "can", "(III)Z"⟩, 20) := ⟨⟨by decide +kernel, by decide +kernel⟩, List.mem_of_getElem? (i := 922) (by decide +kernel), List.mem_of_getElem? (i := 1112) (by decide +kernel), List.mem_of_getElem? (i := 1113) (by decide +kernel)⟩
theorem lw_p42 : lw_okq (⟨"PushSaidDoorModel", "parts", "(IIIIZ)I"⟩, 20) := ⟨⟨by decide +kernel, by decide +kernel⟩, List.mem_of_getElem? (i := 922) (by decide +kernel), List.mem_of_getElem? (i := 1116) (by decide +kernel), List.mem_of_getElem? (i := 1117) (by decide +kernel)⟩
theorem lw_p43 : lw_okq (⟨"PushSaidDoorModel", "wrongs", "(IIIZ)V"⟩, 20) := ⟨⟨by decide +kernel, by decide +kernel⟩, List.mem_of_getElem? (i := 922) (by decide +kernel), List.mem_of_getElem? (i := 1120) (by decide +kernel), List.mem_of_getElem? (i := 1121) (by decide +kernel)⟩
theorem lw_p44 : lw_okq (⟨"PushSaidDoorModel", "sideIn", "(II)I"⟩, 20) := ⟨⟨by decide +kernel, by decide +kernel⟩, List.mem_of_getElem? (i := 922) (by decide +kernel), List.mem_of_getElem? (i := 1132) (by decide +kernel), List.mem_of_getElem? (i := 1133) (by decide +kernel)⟩
theorem lw_p45 : lw_okq (⟨"PushSaidDoorModel", "notes", "(III)V"⟩, 20) := ⟨⟨by decide +kernel, by decide +kernel⟩, List.mem_of_getElem? (i := 922) (by decide +kernel), List.mem_of_getElem? (i := 1136) (by decide +kernel), List.mem_of_getElem? (i := 1137) (by decide +kernel)⟩
theorem lw_p46 : lw_okq (⟨"PushSaidDoorModel", "goes", "(III)V"⟩, 20) := ⟨⟨by decide +kernel, by decide +kernel⟩, List.mem_of_getElem? (i := 922) (by decide +kernel), List.mem_of_getElem? (i := 1140) (by decide +kernel), List.mem_of_getElem? (i := 1141) (by decide +kernel)⟩
theorem lw_p47 : lw_okq (⟨"PushSaidDoorModel", "setsAside", "()V"⟩, 20) := ⟨⟨by decide +kernel, by decide +kernel⟩, List.mem_of_getElem? (i := 922) (by decide +kernel), List.mem_of_getElem? (i := 1169) (by decide +kernel), List.mem_of_getElem? (i := 1170) (by decide +kernel)⟩
def lw_privs_3 : List (MethodName × Nat) := [(⟨"PushSaidDoorModel", "readsDoes", "()Z"⟩, 20), (⟨"PushSaidDoorModel", "readsCost", "()Z"⟩, 20), (⟨"PushSaidDoorModel", "readsPerson", "()Z"⟩, 20), (⟨"PushSaidDoorModel", "isDoor", "(I)Z"⟩, 20), (⟨"PushSaidDoorModel", "wants", "(II)I"⟩, 20), (⟨"PushSaidDoorModel", "isPerson", "(I)Z"⟩, 20), (⟨"PushSaidDoorModel", "weighsAll", "(IIII)V"⟩, 20), (⟨"PushSaidDoorModel", "signsDo", "(II)V"⟩, 20), (⟨"PushSaidDoorModel", "signsOf", "(II)I"⟩, 20), (⟨"PushSaidDoorModel", "can", "(III)Z"⟩, 20), (⟨"PushSaidDoorModel", "parts", "(IIIIZ)I"⟩, 20), (⟨"PushSaidDoorModel", "wrongs", "(IIIZ)V"⟩, 20), (⟨"PushSaidDoorModel", "sideIn", "(II)I"⟩, 20), (⟨"PushSaidDoorModel", "notes", "(III)V"⟩, 20), (⟨"PushSaidDoorModel", "goes", "(III)V"⟩, 20), (⟨"PushSaidDoorModel", "setsAside", "()V"⟩, 20)]
theorem lw_r3 : ∀ q ∈ lw_privs_3, lw_okq q := List.forall_mem_cons.mpr ⟨lw_p32, List.forall_mem_cons.mpr ⟨lw_p33, List.forall_mem_cons.mpr ⟨lw_p34, List.forall_mem_cons.mpr ⟨lw_p35, List.forall_mem_cons.mpr ⟨lw_p36, List.forall_mem_cons.mpr ⟨lw_p37, List.forall_mem_cons.mpr ⟨lw_p38, List.forall_mem_cons.mpr ⟨lw_p39, List.forall_mem_cons.mpr ⟨lw_p40, List.forall_mem_cons.mpr ⟨lw_p41, List.forall_mem_cons.mpr ⟨lw_p42, List.forall_mem_cons.mpr ⟨lw_p43, List.forall_mem_cons.mpr ⟨lw_p44, List.forall_mem_cons.mpr ⟨lw_p45, List.forall_mem_cons.mpr ⟨lw_p46, List.forall_mem_cons.mpr ⟨lw_p47, fun _ h => absurd h List.not_mem_nil⟩⟩⟩⟩⟩⟩⟩⟩⟩⟩⟩⟩⟩⟩⟩⟩
theorem lw_p48 : lw_okq (⟨"PushSaidDoorModel", "takesBack", "()V"⟩, 20) := ⟨⟨by decide +kernel, by decide +kernel⟩, List.mem_of_getElem? (i := 922) (by decide +kernel), List.mem_of_getElem? (i := 1173) (by decide +kernel), List.mem_of_getElem? (i := 1174) (by decide +kernel)⟩
theorem lw_p49 : lw_okq (⟨"PushSaidDoorModel", "isRoom", "(I)Z"⟩, 20) := ⟨⟨by decide +kernel, by decide +kernel⟩, List.mem_of_getElem? (i := 922) (by decide +kernel), List.mem_of_getElem? (i := 1181) (by decide +kernel), List.mem_of_getElem? (i := 1182) (by decide +kernel)⟩
theorem lw_p50 : lw_okq (⟨"PushSaidDoorModel", "by", "(IIII)I"⟩, 20) := ⟨⟨by decide +kernel, by decide +kernel⟩, List.mem_of_getElem? (i := 922) (by decide +kernel), List.mem_of_getElem? (i := 1185) (by decide +kernel), List.mem_of_getElem? (i := 1186) (by decide +kernel)⟩
theorem lw_p51 : lw_okq (⟨"PushSaidDoorModel", "partsOfAll", "()I"⟩, 20) := ⟨⟨by decide +kernel, by decide +kernel⟩, List.mem_of_getElem? (i := 922) (by decide +kernel), List.mem_of_getElem? (i := 1211) (by decide +kernel), List.mem_of_getElem? (i := 1212) (by decide +kernel)⟩
theorem lw_p52 : lw_okq (⟨"PushSaidDoorModel", "turns", "(I)V"⟩, 20) := ⟨⟨by decide +kernel, by decide +kernel⟩, List.mem_of_getElem? (i := 922) (by decide +kernel), List.mem_of_getElem? (i := 1215) (by decide +kernel), List.mem_of_getElem? (i := 1216) (by decide +kernel)⟩
theorem lw_p53 : lw_okq (⟨"PushSaidDoorModel", "outBy", "(III)I"⟩, 20) := ⟨⟨by decide +kernel, by decide +kernel⟩, List.mem_of_getElem? (i := 922) (by decide +kernel), List.mem_of_getElem? (i := 1235) (by decide +kernel), List.mem_of_getElem? (i := 1236) (by decide +kernel)⟩
def lw_privs_4 : List (MethodName × Nat) := [(⟨"PushSaidDoorModel", "takesBack", "()V"⟩, 20), (⟨"PushSaidDoorModel", "isRoom", "(I)Z"⟩, 20), (⟨"PushSaidDoorModel", "by", "(IIII)I"⟩, 20), (⟨"PushSaidDoorModel", "partsOfAll", "()I"⟩, 20), (⟨"PushSaidDoorModel", "turns", "(I)V"⟩, 20), (⟨"PushSaidDoorModel", "outBy", "(III)I"⟩, 20)]
theorem lw_r4 : ∀ q ∈ lw_privs_4, lw_okq q := List.forall_mem_cons.mpr ⟨lw_p48, List.forall_mem_cons.mpr ⟨lw_p49, List.forall_mem_cons.mpr ⟨lw_p50, List.forall_mem_cons.mpr ⟨lw_p51, List.forall_mem_cons.mpr ⟨lw_p52, List.forall_mem_cons.mpr ⟨lw_p53, fun _ h => absurd h List.not_mem_nil⟩⟩⟩⟩⟩⟩
def lw_privs : List (MethodName × Nat) := lw_privs_1 ++ (lw_privs_2 ++ (lw_privs_3 ++ (lw_privs_4)))
def lw_tbl : List Cond := k2_sels lw_privs ++ tables_1
theorem lw_privs_ok : ∀ q ∈ lw_privs, lw_okq q := by
  show ∀ q ∈ lw_privs_1 ++ (lw_privs_2 ++ (lw_privs_3 ++ (lw_privs_4))), lw_okq q
  exact List.forall_mem_append.mpr ⟨lw_r1, List.forall_mem_append.mpr ⟨lw_r2, List.forall_mem_append.mpr ⟨lw_r3, lw_r4⟩⟩⟩
def RX0 : String := "PushSaidDoor$Cells"
def TX0 : u_T := fun k => match k with
  | _ => ("", "", "", false)
def tyX0 : Nat → FieldType := fun k => match k with
  | _ => .int
abbrev wsX00 : List Cond := u_ws RX0 TX0 0
theorem nmX0 : ∀ a, a < 0 → ∀ b, b < 0 → a ≠ b → (TX0 a).2.1 ≠ (TX0 b).2.1 := by decide +kernel
theorem tyX0_ok : ∀ k, k < 0 → parseFieldDescriptor (TX0 k).2.2.1 = some (tyX0 k) := by decide +kernel
abbrev cX0_get : ByteArray := prog_2_method_2_code
def yX0_get : MethodName := ⟨RX0, "get", "([II)I"⟩
abbrev cX0_set : ByteArray := prog_2_method_3_code
def yX0_set : MethodName := ⟨RX0, "set", "([III)V"⟩
abbrev cX0_copy : ByteArray := prog_2_method_4_code
def yX0_copy : MethodName := ⟨RX0, "copy", "([I[I)V"⟩
abbrev cX0_fill : ByteArray := prog_2_method_5_code
def yX0_fill : MethodName := ⟨RX0, "fill", "([II)V"⟩
def RX1 : String := "PushSaidDoor$Changes"
def TX1 : u_T := fun k => match k with
  | 0 => ("PushSaidDoor$Changes", "rows", "[I", true)
  | 1 => ("PushSaidDoor$Changes", "next", "I", false)
  | _ => ("PushSaidDoor$Changes", "count", "I", false)
def tyX1 : Nat → FieldType := fun k => match k with
  | 0 => .array .int
  | 1 => .int
  | _ => .int
abbrev wsX10 : List Cond := u_ws RX1 TX1 3
theorem nmX1 : ∀ a, a < 3 → ∀ b, b < 3 → a ≠ b → (TX1 a).2.1 ≠ (TX1 b).2.1 := by decide +kernel
theorem tyX1_ok : ∀ k, k < 3 → parseFieldDescriptor (TX1 k).2.2.1 = some (tyX1 k) := by decide +kernel
abbrev cX1_init : ByteArray := prog_3_method_1_code
def yX1_init : MethodName := ⟨RX1, "<init>", "()V"⟩
abbrev cX1_clear : ByteArray := prog_3_method_2_code
def yX1_clear : MethodName := ⟨RX1, "clear", "()V"⟩
abbrev cX1_rememberGo : ByteArray := prog_3_method_3_code
def yX1_rememberGo : MethodName := ⟨RX1, "rememberGo", "(LPushSaidDoor$House;II)V"⟩
abbrev cX1_rememberDoor : ByteArray := prog_3_method_4_code
def yX1_rememberDoor : MethodName := ⟨RX1, "rememberDoor", "(III)V"⟩
abbrev cX1_step : ByteArray := prog_3_method_5_code
def yX1_step : MethodName := ⟨RX1, "step", "()V"⟩
abbrev cX1_takeBack : ByteArray := prog_3_method_6_code
def yX1_takeBack : MethodName := ⟨RX1, "takeBack", "(LPushSaidDoor$House;)V"⟩
def RX2 : String := "PushSaidDoor$Crowds"
def TX2 : u_T := fun k => match k with
  | 0 => ("PushSaidDoor$Crowds", "firstOut", "[I", true)
  | 1 => ("PushSaidDoor$Crowds", "leaves", "[I", true)
  | 2 => ("PushSaidDoor$Crowds", "wants", "[I", true)
  | _ => ("PushSaidDoor$Crowds", "doors", "I", false)
def tyX2 : Nat → FieldType := fun k => match k with
  | 0 => .array .int
  | 1 => .array .int
  | 2 => .array .int
  | _ => .int
abbrev wsX20 : List Cond := u_ws RX2 TX2 4
theorem nmX2 : ∀ a, a < 4 → ∀ b, b < 4 → a ≠ b → (TX2 a).2.1 ≠ (TX2 b).2.1 := by decide +kernel
theorem tyX2_ok : ∀ k, k < 4 → parseFieldDescriptor (TX2 k).2.2.1 = some (tyX2 k) := by decide +kernel
abbrev cX2_init : ByteArray := prog_4_method_1_code
def yX2_init : MethodName := ⟨RX2, "<init>", "()V"⟩
abbrev cX2_noDoors : ByteArray := prog_4_method_2_code
def yX2_noDoors : MethodName := ⟨RX2, "noDoors", "()V"⟩
abbrev cX2_useDoor : ByteArray := prog_4_method_3_code
def yX2_useDoor : MethodName := ⟨RX2, "useDoor", "(LPushSaidDoor$House;LPushSaidDoor$Stranger;II)V"⟩
abbrev cX2_secondsFor : ByteArray := prog_4_method_4_code
def yX2_secondsFor : MethodName := ⟨RX2, "secondsFor", "(I)I"⟩
abbrev cX2_outBy : ByteArray := prog_4_method_5_code
def yX2_outBy : MethodName := ⟨RX2, "outBy", "(II)I"⟩
def RX3 : String := "PushSaidDoor$Films"
def TX3 : u_T := fun k => match k with
  | 0 => ("PushSaidDoor$Films", "filmDoors", "[I", true)
  | 1 => ("PushSaidDoor$Films", "filmSides", "[I", true)
  | 2 => ("PushSaidDoor$Films", "pulled", "[I", true)
  | _ => ("PushSaidDoor$Films", "count", "I", false)
def tyX3 : Nat → FieldType := fun k => match k with
  | 0 => .array .int
  | 1 => .array .int
  | 2 => .array .int
  | _ => .int
abbrev wsX30 : List Cond := u_ws RX3 TX3 4
theorem nmX3 : ∀ a, a < 4 → ∀ b, b < 4 → a ≠ b → (TX3 a).2.1 ≠ (TX3 b).2.1 := by decide +kernel
theorem tyX3_ok : ∀ k, k < 4 → parseFieldDescriptor (TX3 k).2.2.1 = some (tyX3 k) := by decide +kernel
abbrev cX3_init : ByteArray := prog_5_method_1_code
def yX3_init : MethodName := ⟨RX3, "<init>", "()V"⟩
abbrev cX3_clear : ByteArray := prog_5_method_2_code
def yX3_clear : MethodName := ⟨RX3, "clear", "()V"⟩
abbrev cX3_add : ByteArray := prog_5_method_3_code
def yX3_add : MethodName := ⟨RX3, "add", "(III)V"⟩
abbrev cX3_allFit : ByteArray := prog_5_method_4_code
def yX3_allFit : MethodName := ⟨RX3, "allFit", "(LPushSaidDoor$House;LPushSaidDoor$Scale;II)Z"⟩
abbrev cX3_pullsOfHundred : ByteArray := prog_5_method_5_code
def yX3_pullsOfHundred : MethodName := ⟨RX3, "pullsOfHundred", "(LPushSaidDoor$House;LPushSaidDoor$Scale;III)I"⟩
def RX4 : String := "PushSaidDoor$House"
def TX4 : u_T := fun k => match k with
  | 0 => ("PushSaidDoor$House", "rooms", "I", false)
  | 1 => ("PushSaidDoor$House", "doors", "I", false)
  | 2 => ("PushSaidDoor$House", "persons", "I", false)
  | 3 => ("PushSaidDoor$House", "doorCells", "[I", true)
  | 4 => ("PushSaidDoor$House", "personCells", "[I", true)
  | 5 => ("PushSaidDoor$House", "went", "[I", true)
  | _ => ("PushSaidDoor$House", "doings", "[I", true)
def tyX4 : Nat → FieldType := fun k => match k with
  | 0 => .int
  | 1 => .int
  | 2 => .int
  | 3 => .array .int
  | 4 => .array .int
  | 5 => .array .int
  | _ => .array .int
abbrev wsX40 : List Cond := u_ws RX4 TX4 7
theorem nmX4 : ∀ a, a < 7 → ∀ b, b < 7 → a ≠ b → (TX4 a).2.1 ≠ (TX4 b).2.1 := by decide +kernel
theorem tyX4_ok : ∀ k, k < 7 → parseFieldDescriptor (TX4 k).2.2.1 = some (tyX4 k) := by decide +kernel
abbrev cX4_init : ByteArray := prog_6_method_1_code
def yX4_init : MethodName := ⟨RX4, "<init>", "()V"⟩
abbrev cX4_clear : ByteArray := prog_6_method_2_code
def yX4_clear : MethodName := ⟨RX4, "clear", "()V"⟩
abbrev cX4_take : ByteArray := prog_6_method_3_code
def yX4_take : MethodName := ⟨RX4, "take", "(LPushSaidDoor$House;)V"⟩
abbrev cX4_isRoom : ByteArray := prog_6_method_4_code
def yX4_isRoom : MethodName := ⟨RX4, "isRoom", "(I)Z"⟩
abbrev cX4_isDoor : ByteArray := prog_6_method_5_code
def yX4_isDoor : MethodName := ⟨RX4, "isDoor", "(I)Z"⟩
abbrev cX4_isPerson : ByteArray := prog_6_method_6_code
def yX4_isPerson : MethodName := ⟨RX4, "isPerson", "(I)Z"⟩
abbrev cX4_addDoor : ByteArray := prog_6_method_7_code
def yX4_addDoor : MethodName := ⟨RX4, "addDoor", "(IIII)V"⟩
abbrev cX4_addPerson : ByteArray := prog_6_method_8_code
def yX4_addPerson : MethodName := ⟨RX4, "addPerson", "(II)V"⟩
abbrev cX4_ofDoor : ByteArray := prog_6_method_9_code
def yX4_ofDoor : MethodName := ⟨RX4, "ofDoor", "(II)I"⟩
abbrev cX4_setOfDoor : ByteArray := prog_6_method_10_code
def yX4_setOfDoor : MethodName := ⟨RX4, "setOfDoor", "(III)V"⟩
abbrev cX4_ofPerson : ByteArray := prog_6_method_11_code
def yX4_ofPerson : MethodName := ⟨RX4, "ofPerson", "(II)I"⟩
abbrev cX4_setOfPerson : ByteArray := prog_6_method_12_code
def yX4_setOfPerson : MethodName := ⟨RX4, "setOfPerson", "(III)V"⟩
abbrev cX4_wentBy : ByteArray := prog_6_method_13_code
def yX4_wentBy : MethodName := ⟨RX4, "wentBy", "(II)I"⟩
abbrev cX4_setWentBy : ByteArray := prog_6_method_14_code
def yX4_setWentBy : MethodName := ⟨RX4, "setWentBy", "(III)V"⟩
abbrev cX4_doing : ByteArray := prog_6_method_15_code
def yX4_doing : MethodName := ⟨RX4, "doing", "(I)I"⟩
abbrev cX4_setDoing : ByteArray := prog_6_method_16_code
def yX4_setDoing : MethodName := ⟨RX4, "setDoing", "(II)V"⟩
abbrev cX4_signsOn : ByteArray := prog_6_method_17_code
def yX4_signsOn : MethodName := ⟨RX4, "signsOn", "(II)I"⟩
abbrev cX4_wantOn : ByteArray := prog_6_method_18_code
def yX4_wantOn : MethodName := ⟨RX4, "wantOn", "(II)I"⟩
abbrev cX4_wantOf : ByteArray := prog_6_method_19_code
def yX4_wantOf : MethodName := ⟨RX4, "wantOf", "(II)I"⟩
abbrev cX4_roomAt : ByteArray := prog_6_method_20_code
def yX4_roomAt : MethodName := ⟨RX4, "roomAt", "(II)I"⟩
abbrev cX4_sideIn : ByteArray := prog_6_method_21_code
def yX4_sideIn : MethodName := ⟨RX4, "sideIn", "(II)I"⟩
abbrev cX4_costOf : ByteArray := prog_6_method_22_code
def yX4_costOf : MethodName := ⟨RX4, "costOf", "(I)I"⟩
def RX5 : String := "PushSaidDoor$Scale"
def TX5 : u_T := fun k => match k with
  | 0 => ("PushSaidDoor$Scale", "push", "I", false)
  | 1 => ("PushSaidDoor$Scale", "pull", "I", false)
  | 2 => ("PushSaidDoor$Scale", "above", "I", false)
  | _ => ("PushSaidDoor$Scale", "below", "I", false)
def tyX5 : Nat → FieldType := fun k => match k with
  | 0 => .int
  | 1 => .int
  | 2 => .int
  | _ => .int
abbrev wsX50 : List Cond := u_ws RX5 TX5 4
theorem nmX5 : ∀ a, a < 4 → ∀ b, b < 4 → a ≠ b → (TX5 a).2.1 ≠ (TX5 b).2.1 := by decide +kernel
theorem tyX5_ok : ∀ k, k < 4 → parseFieldDescriptor (TX5 k).2.2.1 = some (tyX5 k) := by decide +kernel
abbrev cX5_init : ByteArray := prog_7_method_1_code
def yX5_init : MethodName := ⟨RX5, "<init>", "()V"⟩
abbrev cX5_weighWalker : ByteArray := prog_7_method_2_code
def yX5_weighWalker : MethodName := ⟨RX5, "weighWalker", "(LPushSaidDoor$House;LPushSaidDoor$Walker;II)V"⟩
abbrev cX5_weighStranger : ByteArray := prog_7_method_3_code
def yX5_weighStranger : MethodName := ⟨RX5, "weighStranger", "(LPushSaidDoor$House;II)V"⟩
abbrev cX5_weighSigns : ByteArray := prog_7_method_4_code
def yX5_weighSigns : MethodName := ⟨RX5, "weighSigns", "(LPushSaidDoor$House;III)V"⟩
abbrev cX5_addWords : ByteArray := prog_7_method_5_code
def yX5_addWords : MethodName := ⟨RX5, "addWords", "(II)V"⟩
abbrev cX5_add : ByteArray := prog_7_method_6_code
def yX5_add : MethodName := ⟨RX5, "add", "(II)V"⟩
abbrev cX5_judgeWalker : ByteArray := prog_7_method_7_code
def yX5_judgeWalker : MethodName := ⟨RX5, "judgeWalker", "(LPushSaidDoor$House;LPushSaidDoor$Walker;II)V"⟩
abbrev cX5_judge : ByteArray := prog_7_method_8_code
def yX5_judge : MethodName := ⟨RX5, "judge", "(IZII)V"⟩
abbrev cX5_againstWant : ByteArray := prog_7_method_9_code
def yX5_againstWant : MethodName := ⟨RX5, "againstWant", "(I)I"⟩
abbrev cX5_isMostlyWrong : ByteArray := prog_7_method_10_code
def yX5_isMostlyWrong : MethodName := ⟨RX5, "isMostlyWrong", "(I)Z"⟩
abbrev cX5_pullsByDraw : ByteArray := prog_7_method_11_code
def yX5_pullsByDraw : MethodName := ⟨RX5, "pullsByDraw", "(I)Z"⟩
abbrev cX5_wrongOf : ByteArray := prog_7_method_12_code
def yX5_wrongOf : MethodName := ⟨RX5, "wrongOf", "(I)I"⟩
abbrev cX5_isLessWrongThan : ByteArray := prog_7_method_13_code
def yX5_isLessWrongThan : MethodName := ⟨RX5, "isLessWrongThan", "(II)Z"⟩
abbrev cX5_isAsWrongAs : ByteArray := prog_7_method_14_code
def yX5_isAsWrongAs : MethodName := ⟨RX5, "isAsWrongAs", "(II)Z"⟩
abbrev cX5_inLowestTerms : ByteArray := prog_7_method_15_code
def yX5_inLowestTerms : MethodName := ⟨RX5, "inLowestTerms", "(I)I"⟩
abbrev cX5_commonDivisor : ByteArray := prog_7_method_16_code
def yX5_commonDivisor : MethodName := ⟨RX5, "commonDivisor", "()I"⟩
def RX6 : String := "PushSaidDoor$Stranger"
def TX6 : u_T := fun k => match k with
  | 0 => ("PushSaidDoor$Stranger", "scale", "LPushSaidDoor$Scale;", true)
  | 1 => ("PushSaidDoor$Stranger", "hungSet", "I", false)
  | 2 => ("PushSaidDoor$Stranger", "hungParts", "I", false)
  | 3 => ("PushSaidDoor$Stranger", "clashes", "I", false)
  | _ => ("PushSaidDoor$Stranger", "worstClash", "I", false)
def tyX6 : Nat → FieldType := fun k => match k with
  | 0 => .object "PushSaidDoor$Scale"
  | 1 => .int
  | 2 => .int
  | 3 => .int
  | _ => .int
abbrev wsX60 : List Cond := u_ws RX6 TX6 5
theorem nmX6 : ∀ a, a < 5 → ∀ b, b < 5 → a ≠ b → (TX6 a).2.1 ≠ (TX6 b).2.1 := by decide +kernel
theorem tyX6_ok : ∀ k, k < 5 → parseFieldDescriptor (TX6 k).2.2.1 = some (tyX6 k) := by decide +kernel
abbrev cX6_init : ByteArray := prog_8_method_1_code
def yX6_init : MethodName := ⟨RX6, "<init>", "()V"⟩
abbrev cX6_isMostlyWrongAt : ByteArray := prog_8_method_2_code
def yX6_isMostlyWrongAt : MethodName := ⟨RX6, "isMostlyWrongAt", "(LPushSaidDoor$House;II)Z"⟩
abbrev cX6_bestSigns : ByteArray := prog_8_method_3_code
def yX6_bestSigns : MethodName := ⟨RX6, "bestSigns", "(LPushSaidDoor$House;III)I"⟩
abbrev cX6_judgeSigns : ByteArray := prog_8_method_4_code
def yX6_judgeSigns : MethodName := ⟨RX6, "judgeSigns", "(LPushSaidDoor$House;IIII)V"⟩
abbrev cX6_partsAt : ByteArray := prog_8_method_5_code
def yX6_partsAt : MethodName := ⟨RX6, "partsAt", "(LPushSaidDoor$House;III)I"⟩
abbrev cX6_partsInAll : ByteArray := prog_8_method_6_code
def yX6_partsInAll : MethodName := ⟨RX6, "partsInAll", "(LPushSaidDoor$House;I)I"⟩
abbrev cX6_findHung : ByteArray := prog_8_method_7_code
def yX6_findHung : MethodName := ⟨RX6, "findHung", "(LPushSaidDoor$House;)V"⟩
abbrev cX6_findClashes : ByteArray := prog_8_method_8_code
def yX6_findClashes : MethodName := ⟨RX6, "findClashes", "(LPushSaidDoor$House;)V"⟩
def RX7 : String := "PushSaidDoor$TextReader"
def TX7 : u_T := fun k => match k with
  | 0 => ("PushSaidDoor$TextReader", "letters", "[C", true)
  | 1 => ("PushSaidDoor$TextReader", "numbers", "[I", true)
  | 2 => ("PushSaidDoor$TextReader", "at", "I", false)
  | 3 => ("PushSaidDoor$TextReader", "onlyRoomsAhead", "Z", false)
  | 4 => ("PushSaidDoor$TextReader", "length", "I", false)
  | _ => ("PushSaidDoor$TextReader", "draft", "LPushSaidDoor$House;", true)
def tyX7 : Nat → FieldType := fun k => match k with
  | 0 => .array .char
  | 1 => .array .int
  | 2 => .int
  | 3 => .boolean
  | 4 => .int
  | _ => .object "PushSaidDoor$House"
abbrev wsX70 : List Cond := u_ws RX7 TX7 6
theorem nmX7 : ∀ a, a < 6 → ∀ b, b < 6 → a ≠ b → (TX7 a).2.1 ≠ (TX7 b).2.1 := by decide +kernel
theorem tyX7_ok : ∀ k, k < 6 → parseFieldDescriptor (TX7 k).2.2.1 = some (tyX7 k) := by decide +kernel
abbrev cX7_init : ByteArray := prog_9_method_1_code
def yX7_init : MethodName := ⟨RX7, "<init>", "()V"⟩
abbrev cX7_append : ByteArray := prog_9_method_2_code
def yX7_append : MethodName := ⟨RX7, "append", "(C)V"⟩
abbrev cX7_empty : ByteArray := prog_9_method_3_code
def yX7_empty : MethodName := ⟨RX7, "empty", "()V"⟩
abbrev cX7_readDraft : ByteArray := prog_9_method_4_code
def yX7_readDraft : MethodName := ⟨RX7, "readDraft", "()I"⟩
abbrev cX7_readItem : ByteArray := prog_9_method_5_code
def yX7_readItem : MethodName := ⟨RX7, "readItem", "(C)Z"⟩
abbrev cX7_acceptRooms : ByteArray := prog_9_method_6_code
def yX7_acceptRooms : MethodName := ⟨RX7, "acceptRooms", "()Z"⟩
abbrev cX7_acceptDoor : ByteArray := prog_9_method_7_code
def yX7_acceptDoor : MethodName := ⟨RX7, "acceptDoor", "()Z"⟩
abbrev cX7_acceptSigns : ByteArray := prog_9_method_8_code
def yX7_acceptSigns : MethodName := ⟨RX7, "acceptSigns", "()Z"⟩
abbrev cX7_acceptDoings : ByteArray := prog_9_method_9_code
def yX7_acceptDoings : MethodName := ⟨RX7, "acceptDoings", "()Z"⟩
abbrev cX7_acceptCost : ByteArray := prog_9_method_10_code
def yX7_acceptCost : MethodName := ⟨RX7, "acceptCost", "()Z"⟩
abbrev cX7_acceptPerson : ByteArray := prog_9_method_11_code
def yX7_acceptPerson : MethodName := ⟨RX7, "acceptPerson", "()Z"⟩
abbrev cX7_number : ByteArray := prog_9_method_12_code
def yX7_number : MethodName := ⟨RX7, "number", "(I)I"⟩
abbrev cX7_readNumbers : ByteArray := prog_9_method_13_code
def yX7_readNumbers : MethodName := ⟨RX7, "readNumbers", "(I)Z"⟩
abbrev cX7_readNumber : ByteArray := prog_9_method_14_code
def yX7_readNumber : MethodName := ⟨RX7, "readNumber", "()I"⟩
abbrev cX7_figureAt : ByteArray := prog_9_method_15_code
def yX7_figureAt : MethodName := ⟨RX7, "figureAt", "(I)I"⟩
abbrev cX7_letterAt : ByteArray := prog_9_method_16_code
def yX7_letterAt : MethodName := ⟨RX7, "letterAt", "(I)C"⟩
def RX8 : String := "PushSaidDoor$Walker"
def TX8 : u_T := fun k => match k with
  | 0 => ("PushSaidDoor$Walker", "room", "I", false)
  | 1 => ("PushSaidDoor$Walker", "tray", "Z", false)
  | 2 => ("PushSaidDoor$Walker", "last", "I", false)
  | _ => ("PushSaidDoor$Walker", "went", "[I", true)
def tyX8 : Nat → FieldType := fun k => match k with
  | 0 => .int
  | 1 => .boolean
  | 2 => .int
  | _ => .array .int
abbrev wsX80 : List Cond := u_ws RX8 TX8 4
theorem nmX8 : ∀ a, a < 4 → ∀ b, b < 4 → a ≠ b → (TX8 a).2.1 ≠ (TX8 b).2.1 := by decide +kernel
theorem tyX8_ok : ∀ k, k < 4 → parseFieldDescriptor (TX8 k).2.2.1 = some (tyX8 k) := by decide +kernel
abbrev cX8_init : ByteArray := prog_10_method_1_code
def yX8_init : MethodName := ⟨RX8, "<init>", "()V"⟩
abbrev cX8_become : ByteArray := prog_10_method_2_code
def yX8_become : MethodName := ⟨RX8, "become", "(LPushSaidDoor$House;I)V"⟩
abbrev cX8_leaveIn : ByteArray := prog_10_method_3_code
def yX8_leaveIn : MethodName := ⟨RX8, "leaveIn", "(LPushSaidDoor$House;I)V"⟩
abbrev cX8_canDo : ByteArray := prog_10_method_4_code
def yX8_canDo : MethodName := ⟨RX8, "canDo", "(I)Z"⟩
abbrev cX8_pass : ByteArray := prog_10_method_5_code
def yX8_pass : MethodName := ⟨RX8, "pass", "(LPushSaidDoor$House;II)V"⟩
def RX9 : String := "PushSaidDoor$WayFinder"
def TX9 : u_T := fun k => match k with
  | 0 => ("PushSaidDoor$WayFinder", "scale", "LPushSaidDoor$Scale;", true)
  | 1 => ("PushSaidDoor$WayFinder", "prices", "[I", true)
  | 2 => ("PushSaidDoor$WayFinder", "shorter", "[I", true)
  | 3 => ("PushSaidDoor$WayFinder", "longer", "[I", true)
  | 4 => ("PushSaidDoor$WayFinder", "fewest", "I", false)
  | _ => ("PushSaidDoor$WayFinder", "firstDoor", "I", false)
def tyX9 : Nat → FieldType := fun k => match k with
  | 0 => .object "PushSaidDoor$Scale"
  | 1 => .array .int
  | 2 => .array .int
  | 3 => .array .int
  | 4 => .int
  | _ => .int
abbrev wsX90 : List Cond := u_ws RX9 TX9 6
theorem nmX9 : ∀ a, a < 6 → ∀ b, b < 6 → a ≠ b → (TX9 a).2.1 ≠ (TX9 b).2.1 := by decide +kernel
theorem tyX9_ok : ∀ k, k < 6 → parseFieldDescriptor (TX9 k).2.2.1 = some (tyX9 k) := by decide +kernel
abbrev cX9_init : ByteArray := prog_11_method_1_code
def yX9_init : MethodName := ⟨RX9, "<init>", "()V"⟩
abbrev cX9_find : ByteArray := prog_11_method_2_code
def yX9_find : MethodName := ⟨RX9, "find", "(LPushSaidDoor$House;LPushSaidDoor$Walker;I)V"⟩
abbrev cX9_priceSides : ByteArray := prog_11_method_3_code
def yX9_priceSides : MethodName := ⟨RX9, "priceSides", "(LPushSaidDoor$House;LPushSaidDoor$Walker;)V"⟩
abbrev cX9_startAt : ByteArray := prog_11_method_4_code
def yX9_startAt : MethodName := ⟨RX9, "startAt", "(I[I)V"⟩
abbrev cX9_oneDoorMore : ByteArray := prog_11_method_5_code
def yX9_oneDoorMore : MethodName := ⟨RX9, "oneDoorMore", "(LPushSaidDoor$House;LPushSaidDoor$Walker;)V"⟩
abbrev cX9_partsBy : ByteArray := prog_11_method_6_code
def yX9_partsBy : MethodName := ⟨RX9, "partsBy", "(LPushSaidDoor$House;II)I"⟩
abbrev cX9_chooseFirst : ByteArray := prog_11_method_7_code
def yX9_chooseFirst : MethodName := ⟨RX9, "chooseFirst", "(LPushSaidDoor$House;LPushSaidDoor$Walker;)V"⟩
def RX10 : String := "PushSaidDoor"
def TX10 : u_T := fun k => match k with
  | 0 => ("PushSaidDoor", "reader", "LPushSaidDoor$TextReader;", true)
  | 1 => ("PushSaidDoor", "house", "LPushSaidDoor$House;", true)
  | 2 => ("PushSaidDoor", "keptFirst", "LPushSaidDoor$House;", true)
  | 3 => ("PushSaidDoor", "keptSecond", "LPushSaidDoor$House;", true)
  | 4 => ("PushSaidDoor", "keptCount", "I", false)
  | 5 => ("PushSaidDoor", "changes", "LPushSaidDoor$Changes;", true)
  | 6 => ("PushSaidDoor", "toldRow", "[I", true)
  | 7 => ("PushSaidDoor", "toldCount", "I", false)
  | 8 => ("PushSaidDoor", "films", "LPushSaidDoor$Films;", true)
  | 9 => ("PushSaidDoor", "walker", "LPushSaidDoor$Walker;", true)
  | 10 => ("PushSaidDoor", "scale", "LPushSaidDoor$Scale;", true)
  | 11 => ("PushSaidDoor", "wayFinder", "LPushSaidDoor$WayFinder;", true)
  | 12 => ("PushSaidDoor", "stranger", "LPushSaidDoor$Stranger;", true)
  | _ => ("PushSaidDoor", "crowds", "LPushSaidDoor$Crowds;", true)
def tyX10 : Nat → FieldType := fun k => match k with
  | 0 => .object "PushSaidDoor$TextReader"
  | 1 => .object "PushSaidDoor$House"
  | 2 => .object "PushSaidDoor$House"
  | 3 => .object "PushSaidDoor$House"
  | 4 => .int
  | 5 => .object "PushSaidDoor$Changes"
  | 6 => .array .int
  | 7 => .int
  | 8 => .object "PushSaidDoor$Films"
  | 9 => .object "PushSaidDoor$Walker"
  | 10 => .object "PushSaidDoor$Scale"
  | 11 => .object "PushSaidDoor$WayFinder"
  | 12 => .object "PushSaidDoor$Stranger"
  | _ => .object "PushSaidDoor$Crowds"
abbrev wsX100 : List Cond := u_ws RX10 TX10 14
theorem nmX10 : ∀ a, a < 14 → ∀ b, b < 14 → a ≠ b → (TX10 a).2.1 ≠ (TX10 b).2.1 := by decide +kernel
theorem tyX10_ok : ∀ k, k < 14 → parseFieldDescriptor (TX10 k).2.2.1 = some (tyX10 k) := by decide +kernel
abbrev cX10_init : ByteArray := prog_1_method_1_code
def yX10_init : MethodName := ⟨RX10, "<init>", "()V"⟩
abbrev cX10_write : ByteArray := prog_1_method_2_code
def yX10_write : MethodName := ⟨RX10, "write", "(I)I"⟩
abbrev cX10_wipe : ByteArray := prog_1_method_3_code
def yX10_wipe : MethodName := ⟨RX10, "wipe", "()I"⟩
abbrev cX10_fault : ByteArray := prog_1_method_4_code
def yX10_fault : MethodName := ⟨RX10, "fault", "()I"⟩
abbrev cX10_lay : ByteArray := prog_1_method_5_code
def yX10_lay : MethodName := ⟨RX10, "lay", "()I"⟩
abbrev cX10_door : ByteArray := prog_1_method_6_code
def yX10_door : MethodName := ⟨RX10, "door", "(II)I"⟩
abbrev cX10_person : ByteArray := prog_1_method_7_code
def yX10_person : MethodName := ⟨RX10, "person", "(II)I"⟩
abbrev cX10_times : ByteArray := prog_1_method_8_code
def yX10_times : MethodName := ⟨RX10, "times", "(III)I"⟩
abbrev cX10_does : ByteArray := prog_1_method_9_code
def yX10_does : MethodName := ⟨RX10, "does", "(I)I"⟩
abbrev cX10_weighs : ByteArray := prog_1_method_10_code
def yX10_weighs : MethodName := ⟨RX10, "weighs", "(IIII)I"⟩
abbrev cX10_wrong : ByteArray := prog_1_method_11_code
def yX10_wrong : MethodName := ⟨RX10, "wrong", "(IIII)I"⟩
abbrev cX10_go : ByteArray := prog_1_method_12_code
def yX10_go : MethodName := ⟨RX10, "go", "(II)I"⟩
abbrev cX10_put : ByteArray := prog_1_method_13_code
def yX10_put : MethodName := ⟨RX10, "put", "(III)I"⟩
abbrev cX10_hang : ByteArray := prog_1_method_14_code
def yX10_hang : MethodName := ⟨RX10, "hang", "(I)I"⟩
abbrev cX10_undo : ByteArray := prog_1_method_15_code
def yX10_undo : MethodName := ⟨RX10, "undo", "()I"⟩
abbrev cX10_tell : ByteArray := prog_1_method_16_code
def yX10_tell : MethodName := ⟨RX10, "tell", "(I)I"⟩
abbrev cX10_noRow : ByteArray := prog_1_method_17_code
def yX10_noRow : MethodName := ⟨RX10, "noRow", "()I"⟩
abbrev cX10_along : ByteArray := prog_1_method_18_code
def yX10_along : MethodName := ⟨RX10, "along", "(I)I"⟩
abbrev cX10_way : ByteArray := prog_1_method_19_code
def yX10_way : MethodName := ⟨RX10, "way", "(III)I"⟩
abbrev cX10_learnt : ByteArray := prog_1_method_20_code
def yX10_learnt : MethodName := ⟨RX10, "learnt", "(IIII)I"⟩
abbrev cX10_spoilt : ByteArray := prog_1_method_21_code
def yX10_spoilt : MethodName := ⟨RX10, "spoilt", "(IIIII)I"⟩
abbrev cX10_tray : ByteArray := prog_1_method_22_code
def yX10_tray : MethodName := ⟨RX10, "tray", "(II)I"⟩
abbrev cX10_oneDoorOnWithTray : ByteArray := prog_1_method_23_code
def yX10_oneDoorOnWithTray : MethodName := ⟨RX10, "oneDoorOnWithTray", "(I)I"⟩
abbrev cX10_signs : ByteArray := prog_1_method_24_code
def yX10_signs : MethodName := ⟨RX10, "signs", "(IIII)I"⟩
abbrev cX10_hung : ByteArray := prog_1_method_25_code
def yX10_hung : MethodName := ⟨RX10, "hung", "(I)I"⟩
abbrev cX10_clash : ByteArray := prog_1_method_26_code
def yX10_clash : MethodName := ⟨RX10, "clash", "(I)I"⟩
abbrev cX10_worth : ByteArray := prog_1_method_27_code
def yX10_worth : MethodName := ⟨RX10, "worth", "(I)I"⟩
abbrev cX10_crowd : ByteArray := prog_1_method_28_code
def yX10_crowd : MethodName := ⟨RX10, "crowd", "(III)I"⟩
abbrev cX10_film : ByteArray := prog_1_method_29_code
def yX10_film : MethodName := ⟨RX10, "film", "(IIII)I"⟩
abbrev cX10_forget : ByteArray := prog_1_method_30_code
def yX10_forget : MethodName := ⟨RX10, "forget", "()I"⟩
abbrev cX10_fits : ByteArray := prog_1_method_31_code
def yX10_fits : MethodName := ⟨RX10, "fits", "(II)I"⟩
abbrev cX10_day : ByteArray := prog_1_method_32_code
def yX10_day : MethodName := ⟨RX10, "day", "(IIIII)I"⟩
abbrev cX10_drawOf : ByteArray := prog_1_method_33_code
def yX10_drawOf : MethodName := ⟨RX10, "drawOf", "(II)I"⟩
abbrev cX10_keep : ByteArray := prog_1_method_34_code
def yX10_keep : MethodName := ⟨RX10, "keep", "()I"⟩
abbrev cX10_back : ByteArray := prog_1_method_35_code
def yX10_back : MethodName := ⟨RX10, "back", "()I"⟩
abbrev cX10_count : ByteArray := prog_1_method_36_code
def yX10_count : MethodName := ⟨RX10, "count", "(I)I"⟩
abbrev cX10_isWithin : ByteArray := prog_1_method_37_code
def yX10_isWithin : MethodName := ⟨RX10, "isWithin", "(III)Z"⟩
abbrev cX10_isSide : ByteArray := prog_1_method_38_code
def yX10_isSide : MethodName := ⟨RX10, "isSide", "(II)Z"⟩
abbrev cX10_isPersonAt : ByteArray := prog_1_method_39_code
def yX10_isPersonAt : MethodName := ⟨RX10, "isPersonAt", "(III)Z"⟩
def RX11 : String := "PushSaidDoorModel"
def TX11 : u_T := fun k => match k with
  | 0 => ("PushSaidDoorModel", "house", "[I", true)
  | 1 => ("PushSaidDoorModel", "text", "[I", true)
  | 2 => ("PushSaidDoorModel", "letters", "I", false)
  | 3 => ("PushSaidDoorModel", "read", "[I", true)
  | 4 => ("PushSaidDoorModel", "at", "I", false)
  | 5 => ("PushSaidDoorModel", "numbers", "[I", true)
  | 6 => ("PushSaidDoorModel", "hand", "[I", true)
  | 7 => ("PushSaidDoorModel", "above", "I", false)
  | 8 => ("PushSaidDoorModel", "below", "I", false)
  | 9 => ("PushSaidDoorModel", "undone", "[I", true)
  | 10 => ("PushSaidDoorModel", "undos", "I", false)
  | 11 => ("PushSaidDoorModel", "rows", "I", false)
  | 12 => ("PushSaidDoorModel", "row", "[I", true)
  | 13 => ("PushSaidDoorModel", "aside", "[I", true)
  | 14 => ("PushSaidDoorModel", "ways", "[I", true)
  | 15 => ("PushSaidDoorModel", "waysThen", "[I", true)
  | 16 => ("PushSaidDoorModel", "films", "I", false)
  | 17 => ("PushSaidDoorModel", "film", "[I", true)
  | 18 => ("PushSaidDoorModel", "kept", "I", false)
  | _ => ("PushSaidDoorModel", "keeps", "[I", true)
def tyX11 : Nat → FieldType := fun k => match k with
  | 0 => .array .int
  | 1 => .array .int
  | 2 => .int
  | 3 => .array .int
  | 4 => .int
  | 5 => .array .int
  | 6 => .array .int
  | 7 => .int
  | 8 => .int
  | 9 => .array .int
  | 10 => .int
  | 11 => .int
  | 12 => .array .int
  | 13 => .array .int
  | 14 => .array .int
  | 15 => .array .int
  | 16 => .int
  | 17 => .array .int
  | 18 => .int
  | _ => .array .int
abbrev wsX110 : List Cond := u_ws RX11 TX11 20
theorem nmX11 : ∀ a, a < 20 → ∀ b, b < 20 → a ≠ b → (TX11 a).2.1 ≠ (TX11 b).2.1 := by decide +kernel
theorem tyX11_ok : ∀ k, k < 20 → parseFieldDescriptor (TX11 k).2.2.1 = some (tyX11 k) := by decide +kernel
abbrev cX11_in : ByteArray := prog_13_method_2_code
def yX11_in : MethodName := ⟨RX11, "in", "(JJJ)Z"⟩
abbrev cX11_init : ByteArray := prog_13_method_3_code
def yX11_init : MethodName := ⟨RX11, "<init>", "()V"⟩
abbrev cX11_plain : ByteArray := prog_13_method_4_code
def yX11_plain : MethodName := ⟨RX11, "plain", "([I)V"⟩
abbrev cX11_hangs : ByteArray := prog_13_method_5_code
def yX11_hangs : MethodName := ⟨RX11, "hangs", "([IIIIII)V"⟩
abbrev cX11_isRoom : ByteArray := prog_13_method_6_code
def yX11_isRoom : MethodName := ⟨RX11, "isRoom", "(I)Z"⟩
abbrev cX11_isDoor : ByteArray := prog_13_method_7_code
def yX11_isDoor : MethodName := ⟨RX11, "isDoor", "(I)Z"⟩
abbrev cX11_isPerson : ByteArray := prog_13_method_8_code
def yX11_isPerson : MethodName := ⟨RX11, "isPerson", "(I)Z"⟩
abbrev cX11_isSide : ByteArray := prog_13_method_9_code
def yX11_isSide : MethodName := ⟨RX11, "isSide", "(I)Z"⟩
abbrev cX11_write : ByteArray := prog_13_method_10_code
def yX11_write : MethodName := ⟨RX11, "write", "(I)I"⟩
abbrev cX11_wipe : ByteArray := prog_13_method_11_code
def yX11_wipe : MethodName := ⟨RX11, "wipe", "()I"⟩
abbrev cX11_isFigure : ByteArray := prog_13_method_12_code
def yX11_isFigure : MethodName := ⟨RX11, "isFigure", "(I)Z"⟩
abbrev cX11_readsNumbers : ByteArray := prog_13_method_13_code
def yX11_readsNumbers : MethodName := ⟨RX11, "readsNumbers", "(I)Z"⟩
abbrev cX11_readsRoom : ByteArray := prog_13_method_14_code
def yX11_readsRoom : MethodName := ⟨RX11, "readsRoom", "()Z"⟩
abbrev cX11_readsDoor : ByteArray := prog_13_method_15_code
def yX11_readsDoor : MethodName := ⟨RX11, "readsDoor", "()Z"⟩
abbrev cX11_readsSigns : ByteArray := prog_13_method_16_code
def yX11_readsSigns : MethodName := ⟨RX11, "readsSigns", "()Z"⟩
abbrev cX11_readsDoes : ByteArray := prog_13_method_17_code
def yX11_readsDoes : MethodName := ⟨RX11, "readsDoes", "()Z"⟩
abbrev cX11_readsCost : ByteArray := prog_13_method_18_code
def yX11_readsCost : MethodName := ⟨RX11, "readsCost", "()Z"⟩
abbrev cX11_readsPerson : ByteArray := prog_13_method_19_code
def yX11_readsPerson : MethodName := ⟨RX11, "readsPerson", "()Z"⟩
abbrev cX11_faults : ByteArray := prog_13_method_20_code
def yX11_faults : MethodName := ⟨RX11, "faults", "()I"⟩
abbrev cX11_fault : ByteArray := prog_13_method_21_code
def yX11_fault : MethodName := ⟨RX11, "fault", "()I"⟩
abbrev cX11_lay : ByteArray := prog_13_method_22_code
def yX11_lay : MethodName := ⟨RX11, "lay", "()I"⟩
abbrev cX11_door : ByteArray := prog_13_method_23_code
def yX11_door : MethodName := ⟨RX11, "door", "(II)I"⟩
abbrev cX11_person : ByteArray := prog_13_method_24_code
def yX11_person : MethodName := ⟨RX11, "person", "(II)I"⟩
abbrev cX11_timesAt : ByteArray := prog_13_method_25_code
def yX11_timesAt : MethodName := ⟨RX11, "timesAt", "(III)I"⟩
abbrev cX11_times : ByteArray := prog_13_method_26_code
def yX11_times : MethodName := ⟨RX11, "times", "(III)I"⟩
abbrev cX11_does : ByteArray := prog_13_method_27_code
def yX11_does : MethodName := ⟨RX11, "does", "(I)I"⟩
abbrev cX11_wants : ByteArray := prog_13_method_28_code
def yX11_wants : MethodName := ⟨RX11, "wants", "(II)I"⟩
abbrev cX11_signsOf : ByteArray := prog_13_method_29_code
def yX11_signsOf : MethodName := ⟨RX11, "signsOf", "(II)I"⟩
abbrev cX11_signsDo : ByteArray := prog_13_method_30_code
def yX11_signsDo : MethodName := ⟨RX11, "signsDo", "(II)V"⟩
abbrev cX11_weighsAll : ByteArray := prog_13_method_31_code
def yX11_weighsAll : MethodName := ⟨RX11, "weighsAll", "(IIII)V"⟩
abbrev cX11_weighs : ByteArray := prog_13_method_32_code
def yX11_weighs : MethodName := ⟨RX11, "weighs", "(IIII)I"⟩
abbrev cX11_common : ByteArray := prog_13_method_33_code
def yX11_common : MethodName := ⟨RX11, "common", "(II)I"⟩
abbrev cX11_wrongs : ByteArray := prog_13_method_34_code
def yX11_wrongs : MethodName := ⟨RX11, "wrongs", "(IIIZ)V"⟩
abbrev cX11_can : ByteArray := prog_13_method_35_code
def yX11_can : MethodName := ⟨RX11, "can", "(III)Z"⟩
abbrev cX11_parts : ByteArray := prog_13_method_36_code
def yX11_parts : MethodName := ⟨RX11, "parts", "(IIIIZ)I"⟩
abbrev cX11_wrong : ByteArray := prog_13_method_37_code
def yX11_wrong : MethodName := ⟨RX11, "wrong", "(IIII)I"⟩
abbrev cX11_sideIn : ByteArray := prog_13_method_38_code
def yX11_sideIn : MethodName := ⟨RX11, "sideIn", "(II)I"⟩
abbrev cX11_notes : ByteArray := prog_13_method_39_code
def yX11_notes : MethodName := ⟨RX11, "notes", "(III)V"⟩
abbrev cX11_goes : ByteArray := prog_13_method_40_code
def yX11_goes : MethodName := ⟨RX11, "goes", "(III)V"⟩
abbrev cX11_go : ByteArray := prog_13_method_41_code
def yX11_go : MethodName := ⟨RX11, "go", "(II)I"⟩
abbrev cX11_put : ByteArray := prog_13_method_42_code
def yX11_put : MethodName := ⟨RX11, "put", "(III)I"⟩
abbrev cX11_hang : ByteArray := prog_13_method_43_code
def yX11_hang : MethodName := ⟨RX11, "hang", "(I)I"⟩
abbrev cX11_undo : ByteArray := prog_13_method_44_code
def yX11_undo : MethodName := ⟨RX11, "undo", "()I"⟩
abbrev cX11_tell : ByteArray := prog_13_method_45_code
def yX11_tell : MethodName := ⟨RX11, "tell", "(I)I"⟩
abbrev cX11_noRow : ByteArray := prog_13_method_46_code
def yX11_noRow : MethodName := ⟨RX11, "noRow", "()I"⟩
abbrev cX11_setsAside : ByteArray := prog_13_method_47_code
def yX11_setsAside : MethodName := ⟨RX11, "setsAside", "()V"⟩
abbrev cX11_takesBack : ByteArray := prog_13_method_48_code
def yX11_takesBack : MethodName := ⟨RX11, "takesBack", "()V"⟩
abbrev cX11_along : ByteArray := prog_13_method_49_code
def yX11_along : MethodName := ⟨RX11, "along", "(I)I"⟩
abbrev cX11_by : ByteArray := prog_13_method_50_code
def yX11_by : MethodName := ⟨RX11, "by", "(IIII)I"⟩
abbrev cX11_way : ByteArray := prog_13_method_51_code
def yX11_way : MethodName := ⟨RX11, "way", "(III)I"⟩
abbrev cX11_learnt : ByteArray := prog_13_method_52_code
def yX11_learnt : MethodName := ⟨RX11, "learnt", "(IIII)I"⟩
abbrev cX11_spoilt : ByteArray := prog_13_method_53_code
def yX11_spoilt : MethodName := ⟨RX11, "spoilt", "(IIIII)I"⟩
abbrev cX11_tray : ByteArray := prog_13_method_54_code
def yX11_tray : MethodName := ⟨RX11, "tray", "(II)I"⟩
abbrev cX11_signs : ByteArray := prog_13_method_55_code
def yX11_signs : MethodName := ⟨RX11, "signs", "(IIII)I"⟩
abbrev cX11_partsOfAll : ByteArray := prog_13_method_56_code
def yX11_partsOfAll : MethodName := ⟨RX11, "partsOfAll", "()I"⟩
abbrev cX11_many : ByteArray := prog_13_method_57_code
def yX11_many : MethodName := ⟨RX11, "many", "(I)I"⟩
abbrev cX11_turns : ByteArray := prog_13_method_58_code
def yX11_turns : MethodName := ⟨RX11, "turns", "(I)V"⟩
abbrev cX11_hung : ByteArray := prog_13_method_59_code
def yX11_hung : MethodName := ⟨RX11, "hung", "(I)I"⟩
abbrev cX11_clash : ByteArray := prog_13_method_60_code
def yX11_clash : MethodName := ⟨RX11, "clash", "(I)I"⟩
abbrev cX11_worth : ByteArray := prog_13_method_61_code
def yX11_worth : MethodName := ⟨RX11, "worth", "(I)I"⟩
abbrev cX11_outBy : ByteArray := prog_13_method_62_code
def yX11_outBy : MethodName := ⟨RX11, "outBy", "(III)I"⟩
abbrev cX11_crowd : ByteArray := prog_13_method_63_code
def yX11_crowd : MethodName := ⟨RX11, "crowd", "(III)I"⟩
abbrev cX11_film : ByteArray := prog_13_method_64_code
def yX11_film : MethodName := ⟨RX11, "film", "(IIII)I"⟩
abbrev cX11_forget : ByteArray := prog_13_method_65_code
def yX11_forget : MethodName := ⟨RX11, "forget", "()I"⟩
abbrev cX11_fits : ByteArray := prog_13_method_66_code
def yX11_fits : MethodName := ⟨RX11, "fits", "(II)I"⟩
abbrev cX11_day : ByteArray := prog_13_method_67_code
def yX11_day : MethodName := ⟨RX11, "day", "(IIIII)I"⟩
abbrev cX11_keep : ByteArray := prog_13_method_68_code
def yX11_keep : MethodName := ⟨RX11, "keep", "()I"⟩
abbrev cX11_back : ByteArray := prog_13_method_69_code
def yX11_back : MethodName := ⟨RX11, "back", "()I"⟩
abbrev cX11_count : ByteArray := prog_13_method_70_code
def yX11_count : MethodName := ⟨RX11, "count", "(I)I"⟩
def RL : String := "PushSaidDoorLaw"
abbrev cL_law : ByteArray := code
abbrev xCl : List vw_C := [(RX1, TX1, 3), (RX2, TX2, 4), (RX3, TX3, 4), (RX4, TX4, 7), (RX5, TX5, 4), (RX6, TX6, 5), (RX7, TX7, 6), (RX8, TX8, 4), (RX9, TX9, 6), (RX10, TX10, 14), (RX11, TX11, 20)]
def xTy : Nat → Nat → FieldType := fun c => match c with
  | 0 => tyX1
  | 1 => tyX2
  | 2 => tyX3
  | 3 => tyX4
  | 4 => tyX5
  | 5 => tyX6
  | 6 => tyX7
  | 7 => tyX8
  | 8 => tyX9
  | 9 => tyX10
  | 10 => tyX11
  | _ => fun _ => .int
