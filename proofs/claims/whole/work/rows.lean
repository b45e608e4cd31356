section
-- ===== PART A: goes FIRST, ahead of the names: the tables' words, and 'selects' of the private methods out of them =====
/-- a private method of a class that the tables say can be made, by its rows of tables_1 -/
def lw_okq (q : MethodName × Nat) : Prop := (q.1.cls ≠ "java/lang/invoke/MethodHandle" ∧ q.1.cls ≠ "java/lang/invoke/VarHandle") ∧ Cond.instantiable q.1.cls q.2 ∈ tables_1 ∧ Cond.privateMethod q.1 ∈ tables_1 ∧ Cond.instanceMethod q.1 ∈ tables_1
theorem lw_p0 : lw_okq (⟨"java/lang/Throwable", "fillInStackTrace", "(I)Ljava/lang/Throwable;"⟩, 6) := ⟨⟨by decide +kernel, by decide +kernel⟩, List.mem_of_getElem? (i := 266) (by decide +kernel), List.mem_of_getElem? (i := 264) (by decide +kernel), List.mem_of_getElem? (i := 265) (by decide +kernel)⟩
theorem lw_p1 : lw_okq (⟨"NotaryKiosk", "mustHaveRoomForPower", "()V"⟩, 9) := ⟨⟨by decide +kernel, by decide +kernel⟩, List.mem_of_getElem? (i := 31) (by decide +kernel), List.mem_of_getElem? (i := 448) (by decide +kernel), List.mem_of_getElem? (i := 449) (by decide +kernel)⟩
theorem lw_p2 : lw_okq (⟨"NotaryKiosk", "mustHaveRoomForNews", "()V"⟩, 9) := ⟨⟨by decide +kernel, by decide +kernel⟩, List.mem_of_getElem? (i := 31) (by decide +kernel), List.mem_of_getElem? (i := 453) (by decide +kernel), List.mem_of_getElem? (i := 454) (by decide +kernel)⟩
theorem lw_p3 : lw_okq (⟨"NotaryKiosk", "makePower", "(ILNotaryKiosk$Power;II)I"⟩, 9) := ⟨⟨by decide +kernel, by decide +kernel⟩, List.mem_of_getElem? (i := 31) (by decide +kernel), List.mem_of_getElem? (i := 458) (by decide +kernel), List.mem_of_getElem? (i := 459) (by decide +kernel)⟩
theorem lw_p4 : lw_okq (⟨"java/util/ArrayList", "add", "(Ljava/lang/Object;[Ljava/lang/Object;I)V"⟩, 3) := ⟨⟨by decide +kernel, by decide +kernel⟩, List.mem_of_getElem? (i := 59) (by decide +kernel), List.mem_of_getElem? (i := 546) (by decide +kernel), List.mem_of_getElem? (i := 547) (by decide +kernel)⟩
theorem lw_p5 : lw_okq (⟨"java/util/ArrayList", "grow", "()[Ljava/lang/Object;"⟩, 3) := ⟨⟨by decide +kernel, by decide +kernel⟩, List.mem_of_getElem? (i := 59) (by decide +kernel), List.mem_of_getElem? (i := 550) (by decide +kernel), List.mem_of_getElem? (i := 551) (by decide +kernel)⟩
theorem lw_p6 : lw_okq (⟨"java/util/ArrayList", "grow", "(I)[Ljava/lang/Object;"⟩, 3) := ⟨⟨by decide +kernel, by decide +kernel⟩, List.mem_of_getElem? (i := 59) (by decide +kernel), List.mem_of_getElem? (i := 554) (by decide +kernel), List.mem_of_getElem? (i := 555) (by decide +kernel)⟩
theorem lw_p7 : lw_okq (⟨"NotaryKiosk", "mustBePower", "(I)V"⟩, 9) := ⟨⟨by decide +kernel, by decide +kernel⟩, List.mem_of_getElem? (i := 31) (by decide +kernel), List.mem_of_getElem? (i := 615) (by decide +kernel), List.mem_of_getElem? (i := 616) (by decide +kernel)⟩
theorem lw_p8 : lw_okq (⟨"NotaryKiosk", "isGoodAt", "(ILNotaryKiosk$Power;)Z"⟩, 9) := ⟨⟨by decide +kernel, by decide +kernel⟩, List.mem_of_getElem? (i := 31) (by decide +kernel), List.mem_of_getElem? (i := 626) (by decide +kernel), List.mem_of_getElem? (i := 627) (by decide +kernel)⟩
theorem lw_p9 : lw_okq (⟨"NotaryKiosk$News", "sees", "(I)Z"⟩, 2) := ⟨⟨by decide +kernel, by decide +kernel⟩, List.mem_of_getElem? (i := 53) (by decide +kernel), List.mem_of_getElem? (i := 638) (by decide +kernel), List.mem_of_getElem? (i := 639) (by decide +kernel)⟩
theorem lw_p10 : lw_okq (⟨"NotaryKiosk$News", "revokesAlone", "(LNotaryKiosk$Power;)Z"⟩, 2) := ⟨⟨by decide +kernel, by decide +kernel⟩, List.mem_of_getElem? (i := 53) (by decide +kernel), List.mem_of_getElem? (i := 646) (by decide +kernel), List.mem_of_getElem? (i := 647) (by decide +kernel)⟩
theorem lw_p11 : lw_okq (⟨"NotaryKiosk", "deedNow", "(III)LNotaryKiosk$Deed;"⟩, 9) := ⟨⟨by decide +kernel, by decide +kernel⟩, List.mem_of_getElem? (i := 31) (by decide +kernel), List.mem_of_getElem? (i := 756) (by decide +kernel), List.mem_of_getElem? (i := 757) (by decide +kernel)⟩
theorem lw_p12 : lw_okq (⟨"NotaryKiosk$News", "wouldPassTotal", "(LNotaryKiosk$Power;I)Z"⟩, 2) := ⟨⟨by decide +kernel, by decide +kernel⟩, List.mem_of_getElem? (i := 53) (by decide +kernel), List.mem_of_getElem? (i := 807) (by decide +kernel), List.mem_of_getElem? (i := 808) (by decide +kernel)⟩
theorem lw_p13 : lw_okq (⟨"NotaryKiosk$News", "officerAt", "(II)I"⟩, 2) := ⟨⟨by decide +kernel, by decide +kernel⟩, List.mem_of_getElem? (i := 53) (by decide +kernel), List.mem_of_getElem? (i := 829) (by decide +kernel), List.mem_of_getElem? (i := 830) (by decide +kernel)⟩
theorem lw_p14 : lw_okq (⟨"NotaryKiosk", "reasonByMail", "(LNotaryKiosk$Act;)I"⟩, 9) := ⟨⟨by decide +kernel, by decide +kernel⟩, List.mem_of_getElem? (i := 31) (by decide +kernel), List.mem_of_getElem? (i := 871) (by decide +kernel), List.mem_of_getElem? (i := 872) (by decide +kernel)⟩
theorem lw_p15 : lw_okq (⟨"NotaryKiosk$Chain", "sealNow", "(ILNotaryKiosk$Act;)I"⟩, 2) := ⟨⟨by decide +kernel, by decide +kernel⟩, List.mem_of_getElem? (i := 96) (by decide +kernel), List.mem_of_getElem? (i := 891) (by decide +kernel), List.mem_of_getElem? (i := 892) (by decide +kernel)⟩
def lw_privs_1 : List (MethodName × Nat) := [(⟨"java/lang/Throwable", "fillInStackTrace", "(I)Ljava/lang/Throwable;"⟩, 6), (⟨"NotaryKiosk", "mustHaveRoomForPower", "()V"⟩, 9), (⟨"NotaryKiosk", "mustHaveRoomForNews", "()V"⟩, 9), (⟨"NotaryKiosk", "makePower", "(ILNotaryKiosk$Power;II)I"⟩, 9), (⟨"java/util/ArrayList", "add", "(Ljava/lang/Object;[Ljava/lang/Object;I)V"⟩, 3), (⟨"java/util/ArrayList", "grow", "()[Ljava/lang/Object;"⟩, 3), (⟨"java/util/ArrayList", "grow", "(I)[Ljava/lang/Object;"⟩, 3), (⟨"NotaryKiosk", "mustBePower", "(I)V"⟩, 9), (⟨"NotaryKiosk", "isGoodAt", "(ILNotaryKiosk$Power;)Z"⟩, 9), (⟨"NotaryKiosk$News", "sees", "(I)Z"⟩, 2), (⟨"NotaryKiosk$News", "revokesAlone", "(LNotaryKiosk$Power;)Z"⟩, 2), (⟨"NotaryKiosk", "deedNow", "(III)LNotaryKiosk$Deed;"⟩, 9), (⟨"NotaryKiosk$News", "wouldPassTotal", "(LNotaryKiosk$Power;I)Z"⟩, 2), (⟨"NotaryKiosk$News", "officerAt", "(II)I"⟩, 2), (⟨"NotaryKiosk", "reasonByMail", "(LNotaryKiosk$Act;)I"⟩, 9), (⟨"NotaryKiosk$Chain", "sealNow", "(ILNotaryKiosk$Act;)I"⟩, 2)]
theorem lw_r1 : ∀ q ∈ lw_privs_1, lw_okq q := List.forall_mem_cons.mpr ⟨lw_p0, List.forall_mem_cons.mpr ⟨lw_p1, List.forall_mem_cons.mpr ⟨lw_p2, List.forall_mem_cons.mpr ⟨lw_p3, List.forall_mem_cons.mpr ⟨lw_p4, List.forall_mem_cons.mpr ⟨lw_p5, List.forall_mem_cons.mpr ⟨lw_p6, List.forall_mem_cons.mpr ⟨lw_p7, List.forall_mem_cons.mpr ⟨lw_p8, List.forall_mem_cons.mpr ⟨lw_p9, List.forall_mem_cons.mpr ⟨lw_p10, List.forall_mem_cons.mpr ⟨lw_p11, List.forall_mem_cons.mpr ⟨lw_p12, List.forall_mem_cons.mpr ⟨lw_p13, List.forall_mem_cons.mpr ⟨lw_p14, List.forall_mem_cons.mpr ⟨lw_p15, fun _ h => absurd h List.not_mem_nil⟩⟩⟩⟩⟩⟩⟩⟩⟩⟩⟩⟩⟩⟩⟩⟩
theorem lw_p16 : lw_okq (⟨"NotaryKiosk", "mustBeRecord", "(II)V"⟩, 9) := ⟨⟨by decide +kernel, by decide +kernel⟩, List.mem_of_getElem? (i := 31) (by decide +kernel), List.mem_of_getElem? (i := 921) (by decide +kernel), List.mem_of_getElem? (i := 922) (by decide +kernel)⟩
theorem lw_p17 : lw_okq (⟨"NotaryKiosk", "mustBePlace", "(II)V"⟩, 9) := ⟨⟨by decide +kernel, by decide +kernel⟩, List.mem_of_getElem? (i := 31) (by decide +kernel), List.mem_of_getElem? (i := 995) (by decide +kernel), List.mem_of_getElem? (i := 996) (by decide +kernel)⟩
theorem lw_p18 : lw_okq (⟨"NotaryKiosk", "mustBeCopy", "(I)V"⟩, 9) := ⟨⟨by decide +kernel, by decide +kernel⟩, List.mem_of_getElem? (i := 31) (by decide +kernel), List.mem_of_getElem? (i := 999) (by decide +kernel), List.mem_of_getElem? (i := 1000) (by decide +kernel)⟩
theorem lw_p19 : lw_okq (⟨"NotaryKiosk", "mustBePiece", "(I)V"⟩, 9) := ⟨⟨by decide +kernel, by decide +kernel⟩, List.mem_of_getElem? (i := 31) (by decide +kernel), List.mem_of_getElem? (i := 1032) (by decide +kernel), List.mem_of_getElem? (i := 1033) (by decide +kernel)⟩
theorem lw_p20 : lw_okq (⟨"NotaryKiosk$Copy", "tellsRecordAs", "(ILNotaryKiosk$Act;)Z"⟩, 7) := ⟨⟨by decide +kernel, by decide +kernel⟩, List.mem_of_getElem? (i := 943) (by decide +kernel), List.mem_of_getElem? (i := 1198) (by decide +kernel), List.mem_of_getElem? (i := 1199) (by decide +kernel)⟩
theorem lw_p21 : lw_okq (⟨"NotaryKioskModel", "errorOfLink", "(III)I"⟩, 45) := ⟨⟨by decide +kernel, by decide +kernel⟩, List.mem_of_getElem? (i := 1202) (by decide +kernel), List.mem_of_getElem? (i := 1353) (by decide +kernel), List.mem_of_getElem? (i := 1354) (by decide +kernel)⟩
theorem lw_p22 : lw_okq (⟨"NotaryKioskModel", "holds", "(I)Z"⟩, 45) := ⟨⟨by decide +kernel, by decide +kernel⟩, List.mem_of_getElem? (i := 1202) (by decide +kernel), List.mem_of_getElem? (i := 1363) (by decide +kernel), List.mem_of_getElem? (i := 1364) (by decide +kernel)⟩
theorem lw_p23 : lw_okq (⟨"NotaryKioskModel", "turns", "(II)I"⟩, 45) := ⟨⟨by decide +kernel, by decide +kernel⟩, List.mem_of_getElem? (i := 1202) (by decide +kernel), List.mem_of_getElem? (i := 1367) (by decide +kernel), List.mem_of_getElem? (i := 1368) (by decide +kernel)⟩
theorem lw_p24 : lw_okq (⟨"NotaryKioskModel", "goesOn", "(I)I"⟩, 45) := ⟨⟨by decide +kernel, by decide +kernel⟩, List.mem_of_getElem? (i := 1202) (by decide +kernel), List.mem_of_getElem? (i := 1382) (by decide +kernel), List.mem_of_getElem? (i := 1383) (by decide +kernel)⟩
theorem lw_p25 : lw_okq (⟨"NotaryKioskModel", "unread", "(I)I"⟩, 45) := ⟨⟨by decide +kernel, by decide +kernel⟩, List.mem_of_getElem? (i := 1202) (by decide +kernel), List.mem_of_getElem? (i := 1390) (by decide +kernel), List.mem_of_getElem? (i := 1391) (by decide +kernel)⟩
theorem lw_p26 : lw_okq (⟨"NotaryKioskModel", "isFull", "()Z"⟩, 45) := ⟨⟨by decide +kernel, by decide +kernel⟩, List.mem_of_getElem? (i := 1202) (by decide +kernel), List.mem_of_getElem? (i := 1405) (by decide +kernel), List.mem_of_getElem? (i := 1406) (by decide +kernel)⟩
theorem lw_p27 : lw_okq (⟨"NotaryKioskModel", "adds", "(IIII)I"⟩, 45) := ⟨⟨by decide +kernel, by decide +kernel⟩, List.mem_of_getElem? (i := 1202) (by decide +kernel), List.mem_of_getElem? (i := 1409) (by decide +kernel), List.mem_of_getElem? (i := 1410) (by decide +kernel)⟩
theorem lw_p28 : lw_okq (⟨"NotaryKioskModel", "makes", "(III)I"⟩, 45) := ⟨⟨by decide +kernel, by decide +kernel⟩, List.mem_of_getElem? (i := 1202) (by decide +kernel), List.mem_of_getElem? (i := 1413) (by decide +kernel), List.mem_of_getElem? (i := 1414) (by decide +kernel)⟩
theorem lw_p29 : lw_okq (⟨"NotaryKioskModel", "errorOfPassOn", "(III)I"⟩, 45) := ⟨⟨by decide +kernel, by decide +kernel⟩, List.mem_of_getElem? (i := 1202) (by decide +kernel), List.mem_of_getElem? (i := 1421) (by decide +kernel), List.mem_of_getElem? (i := 1422) (by decide +kernel)⟩
theorem lw_p30 : lw_okq (⟨"NotaryKioskModel", "isPower", "(I)Z"⟩, 45) := ⟨⟨by decide +kernel, by decide +kernel⟩, List.mem_of_getElem? (i := 1202) (by decide +kernel), List.mem_of_getElem? (i := 1425) (by decide +kernel), List.mem_of_getElem? (i := 1426) (by decide +kernel)⟩
theorem lw_p31 : lw_okq (⟨"NotaryKioskModel", "isWithin", "(I)Z"⟩, 45) := ⟨⟨by decide +kernel, by decide +kernel⟩, List.mem_of_getElem? (i := 1202) (by decide +kernel), List.mem_of_getElem? (i := 1429) (by decide +kernel), List.mem_of_getElem? (i := 1430) (by decide +kernel)⟩
def lw_privs_2 : List (MethodName × Nat) := [(⟨"NotaryKiosk", "mustBeRecord", "(II)V"⟩, 9), (⟨"NotaryKiosk", "mustBePlace", "(II)V"⟩, 9), (⟨"NotaryKiosk", "mustBeCopy", "(I)V"⟩, 9), (⟨"NotaryKiosk", "mustBePiece", "(I)V"⟩, 9), (⟨"NotaryKiosk$Copy", "tellsRecordAs", "(ILNotaryKiosk$Act;)Z"⟩, 7), (⟨"NotaryKioskModel", "errorOfLink", "(III)I"⟩, 45), (⟨"NotaryKioskModel", "holds", "(I)Z"⟩, 45), (⟨"NotaryKioskModel", "turns", "(II)I"⟩, 45), (⟨"NotaryKioskModel", "goesOn", "(I)I"⟩, 45), (⟨"NotaryKioskModel", "unread", "(I)I"⟩, 45), (⟨"NotaryKioskModel", "isFull", "()Z"⟩, 45), (⟨"NotaryKioskModel", "adds", "(IIII)I"⟩, 45), (⟨"NotaryKioskModel", "makes", "(III)I"⟩, 45), (⟨"NotaryKioskModel", "errorOfPassOn", "(III)I"⟩, 45), (⟨"NotaryKioskModel", "isPower", "(I)Z"⟩, 45), (⟨"NotaryKioskModel", "isWithin", "(I)Z"⟩, 45)]
theorem lw_r2 : ∀ q ∈ lw_privs_2, lw_okq q := List.forall_mem_cons.mpr ⟨lw_p16, List.forall_mem_cons.mpr ⟨lw_p17, List.forall_mem_cons.mpr ⟨lw_p18, List.forall_mem_cons.mpr ⟨lw_p19, List.forall_mem_cons.mpr ⟨lw_p20, List.forall_mem_cons.mpr ⟨lw_p21, List.forall_mem_cons.mpr ⟨lw_p22, List.forall_mem_cons.mpr ⟨lw_p23, List.forall_mem_cons.mpr ⟨lw_p24, List.forall_mem_cons.mpr ⟨lw_p25, List.forall_mem_cons.mpr ⟨lw_p26, List.forall_mem_cons.mpr ⟨lw_p27, List.forall_mem_cons.mpr ⟨lw_p28, List.forall_mem_cons.mpr ⟨lw_p29, List.forall_mem_cons.mpr ⟨lw_p30, List.forall_mem_cons.mpr ⟨lw_p31, fun _ h => absurd h List.not_mem_nil⟩⟩⟩⟩⟩⟩⟩⟩⟩⟩⟩⟩⟩⟩⟩⟩
theorem lw_p32 : lw_okq (⟨"NotaryKioskModel", "isGoodAt", "(II)Z"⟩, 45) := ⟨⟨by decide +kernel, by decide +kernel⟩, List.mem_of_getElem? (i := 1202) (by decide +kernel), List.mem_of_getElem? (i := 1433) (by decide +kernel), List.mem_of_getElem? (i := 1434) (by decide +kernel)⟩
theorem lw_p33 : lw_okq (⟨"NotaryKioskModel", "isKnown", "(II)Z"⟩, 45) := ⟨⟨by decide +kernel, by decide +kernel⟩, List.mem_of_getElem? (i := 1202) (by decide +kernel), List.mem_of_getElem? (i := 1437) (by decide +kernel), List.mem_of_getElem? (i := 1438) (by decide +kernel)⟩
theorem lw_p34 : lw_okq (⟨"NotaryKioskModel", "has", "(II)Z"⟩, 45) := ⟨⟨by decide +kernel, by decide +kernel⟩, List.mem_of_getElem? (i := 1202) (by decide +kernel), List.mem_of_getElem? (i := 1441) (by decide +kernel), List.mem_of_getElem? (i := 1442) (by decide +kernel)⟩
theorem lw_p35 : lw_okq (⟨"NotaryKioskModel", "isRevoked", "(II)Z"⟩, 45) := ⟨⟨by decide +kernel, by decide +kernel⟩, List.mem_of_getElem? (i := 1202) (by decide +kernel), List.mem_of_getElem? (i := 1445) (by decide +kernel), List.mem_of_getElem? (i := 1446) (by decide +kernel)⟩
theorem lw_p36 : lw_okq (⟨"NotaryKioskModel", "isInLine", "(II)Z"⟩, 45) := ⟨⟨by decide +kernel, by decide +kernel⟩, List.mem_of_getElem? (i := 1202) (by decide +kernel), List.mem_of_getElem? (i := 1449) (by decide +kernel), List.mem_of_getElem? (i := 1450) (by decide +kernel)⟩
theorem lw_p37 : lw_okq (⟨"NotaryKioskModel", "isOver", "(II)Z"⟩, 45) := ⟨⟨by decide +kernel, by decide +kernel⟩, List.mem_of_getElem? (i := 1202) (by decide +kernel), List.mem_of_getElem? (i := 1453) (by decide +kernel), List.mem_of_getElem? (i := 1454) (by decide +kernel)⟩
theorem lw_p38 : lw_okq (⟨"NotaryKioskModel", "errorOfRevoke", "(III)I"⟩, 45) := ⟨⟨by decide +kernel, by decide +kernel⟩, List.mem_of_getElem? (i := 1202) (by decide +kernel), List.mem_of_getElem? (i := 1461) (by decide +kernel), List.mem_of_getElem? (i := 1462) (by decide +kernel)⟩
theorem lw_p39 : lw_okq (⟨"NotaryKioskModel", "isGiver", "(II)Z"⟩, 45) := ⟨⟨by decide +kernel, by decide +kernel⟩, List.mem_of_getElem? (i := 1202) (by decide +kernel), List.mem_of_getElem? (i := 1465) (by decide +kernel), List.mem_of_getElem? (i := 1466) (by decide +kernel)⟩
theorem lw_p40 : lw_okq (⟨"NotaryKioskModel", "errorOfDepute", "(III)I"⟩, 45) := ⟨⟨by decide +kernel, by decide +kernel⟩, List.mem_of_getElem? (i := 1202) (by decide +kernel), List.mem_of_getElem? (i := 1473) (by decide +kernel), List.mem_of_getElem? (i := 1474) (by decide +kernel)⟩
theorem lw_p41 : lw_okq (⟨"NotaryKioskModel", "isDeputed", "(III)Z"⟩, 45) := ⟨⟨by decide +kernel, by decide +kernel⟩, List.mem_of_getElem? (i := 1202) (by decide +kernel), List.mem_of_getElem? (i := 1477) (by decide +kernel), List.mem_of_getElem? (i := 1478) (by decide +kernel)⟩
theorem lw_p42 : lw_okq (⟨"NotaryKioskModel", "errorOfAct", "(IIII)I"⟩, 45) := ⟨⟨by decide +kernel, by decide +kernel⟩, List.mem_of_getElem? (i := 1202) (by decide +kernel), List.mem_of_getElem? (i := 1489) (by decide +kernel), List.mem_of_getElem? (i := 1490) (by decide +kernel)⟩
theorem lw_p43 : lw_okq (⟨"NotaryKioskModel", "areThere", "(III)Z"⟩, 45) := ⟨⟨by decide +kernel, by decide +kernel⟩, List.mem_of_getElem? (i := 1202) (by decide +kernel), List.mem_of_getElem? (i := 1493) (by decide +kernel), List.mem_of_getElem? (i := 1494) (by decide +kernel)⟩
theorem lw_p44 : lw_okq (⟨"NotaryKioskModel", "reasonNow", "(IIII)I"⟩, 45) := ⟨⟨by decide +kernel, by decide +kernel⟩, List.mem_of_getElem? (i := 1202) (by decide +kernel), List.mem_of_getElem? (i := 1497) (by decide +kernel), List.mem_of_getElem? (i := 1498) (by decide +kernel)⟩
theorem lw_p45 : lw_okq (⟨"NotaryKioskModel", "reason", "(IIIIIIII)I"⟩, 45) := ⟨⟨by decide +kernel, by decide +kernel⟩, List.mem_of_getElem? (i := 1202) (by decide +kernel), List.mem_of_getElem? (i := 1501) (by decide +kernel), List.mem_of_getElem? (i := 1502) (by decide +kernel)⟩
theorem lw_p46 : lw_okq (⟨"NotaryKioskModel", "isAboveLimits", "(II)Z"⟩, 45) := ⟨⟨by decide +kernel, by decide +kernel⟩, List.mem_of_getElem? (i := 1202) (by decide +kernel), List.mem_of_getElem? (i := 1505) (by decide +kernel), List.mem_of_getElem? (i := 1506) (by decide +kernel)⟩
theorem lw_p47 : lw_okq (⟨"NotaryKioskModel", "isAboveTotals", "(III)Z"⟩, 45) := ⟨⟨by decide +kernel, by decide +kernel⟩, List.mem_of_getElem? (i := 1202) (by decide +kernel), List.mem_of_getElem? (i := 1509) (by decide +kernel), List.mem_of_getElem? (i := 1510) (by decide +kernel)⟩
def lw_privs_3 : List (MethodName × Nat) := [(⟨"NotaryKioskModel", "isGoodAt", "(II)Z"⟩, 45), (⟨"NotaryKioskModel", "isKnown", "(II)Z"⟩, 45), (⟨"NotaryKioskModel", "has", "(II)Z"⟩, 45), (⟨"NotaryKioskModel", "isRevoked", "(II)Z"⟩, 45), (⟨"NotaryKioskModel", "isInLine", "(II)Z"⟩, 45), (⟨"NotaryKioskModel", "isOver", "(II)Z"⟩, 45), (⟨"NotaryKioskModel", "errorOfRevoke", "(III)I"⟩, 45), (⟨"NotaryKioskModel", "isGiver", "(II)Z"⟩, 45), (⟨"NotaryKioskModel", "errorOfDepute", "(III)I"⟩, 45), (⟨"NotaryKioskModel", "isDeputed", "(III)Z"⟩, 45), (⟨"NotaryKioskModel", "errorOfAct", "(IIII)I"⟩, 45), (⟨"NotaryKioskModel", "areThere", "(III)Z"⟩, 45), (⟨"NotaryKioskModel", "reasonNow", "(IIII)I"⟩, 45), (⟨"NotaryKioskModel", "reason", "(IIIIIIII)I"⟩, 45), (⟨"NotaryKioskModel", "isAboveLimits", "(II)Z"⟩, 45), (⟨"NotaryKioskModel", "isAboveTotals", "(III)Z"⟩, 45)]
theorem lw_r3 : ∀ q ∈ lw_privs_3, lw_okq q := List.forall_mem_cons.mpr ⟨lw_p32, List.forall_mem_cons.mpr ⟨lw_p33, List.forall_mem_cons.mpr ⟨lw_p34, List.forall_mem_cons.mpr ⟨lw_p35, List.forall_mem_cons.mpr ⟨lw_p36, List.forall_mem_cons.mpr ⟨lw_p37, List.forall_mem_cons.mpr ⟨lw_p38, List.forall_mem_cons.mpr ⟨lw_p39, List.forall_mem_cons.mpr ⟨lw_p40, List.forall_mem_cons.mpr ⟨lw_p41, List.forall_mem_cons.mpr ⟨lw_p42, List.forall_mem_cons.mpr ⟨lw_p43, List.forall_mem_cons.mpr ⟨lw_p44, List.forall_mem_cons.mpr ⟨lw_p45, List.forall_mem_cons.mpr ⟨lw_p46, List.forall_mem_cons.mpr ⟨lw_p47, fun _ h => absurd h List.not_mem_nil⟩⟩⟩⟩⟩⟩⟩⟩⟩⟩⟩⟩⟩⟩⟩⟩
theorem lw_p48 : lw_okq (⟨"NotaryKioskModel", "doneWith", "(II)I"⟩, 45) := ⟨⟨by decide +kernel, by decide +kernel⟩, List.mem_of_getElem? (i := 1202) (by decide +kernel), List.mem_of_getElem? (i := 1513) (by decide +kernel), List.mem_of_getElem? (i := 1514) (by decide +kernel)⟩
theorem lw_p49 : lw_okq (⟨"NotaryKioskModel", "isDeputy", "(III)Z"⟩, 45) := ⟨⟨by decide +kernel, by decide +kernel⟩, List.mem_of_getElem? (i := 1202) (by decide +kernel), List.mem_of_getElem? (i := 1517) (by decide +kernel), List.mem_of_getElem? (i := 1518) (by decide +kernel)⟩
theorem lw_p50 : lw_okq (⟨"NotaryKioskModel", "sealNow", "(II)I"⟩, 45) := ⟨⟨by decide +kernel, by decide +kernel⟩, List.mem_of_getElem? (i := 1202) (by decide +kernel), List.mem_of_getElem? (i := 1521) (by decide +kernel), List.mem_of_getElem? (i := 1522) (by decide +kernel)⟩
theorem lw_p51 : lw_okq (⟨"NotaryKioskModel", "sealAhead", "(II)I"⟩, 45) := ⟨⟨by decide +kernel, by decide +kernel⟩, List.mem_of_getElem? (i := 1202) (by decide +kernel), List.mem_of_getElem? (i := 1532) (by decide +kernel), List.mem_of_getElem? (i := 1533) (by decide +kernel)⟩
theorem lw_p52 : lw_okq (⟨"NotaryKioskModel", "faultOf", "(I)I"⟩, 45) := ⟨⟨by decide +kernel, by decide +kernel⟩, List.mem_of_getElem? (i := 1202) (by decide +kernel), List.mem_of_getElem? (i := 1536) (by decide +kernel), List.mem_of_getElem? (i := 1537) (by decide +kernel)⟩
theorem lw_p53 : lw_okq (⟨"NotaryKioskModel", "isRecord", "(II)Z"⟩, 45) := ⟨⟨by decide +kernel, by decide +kernel⟩, List.mem_of_getElem? (i := 1202) (by decide +kernel), List.mem_of_getElem? (i := 1544) (by decide +kernel), List.mem_of_getElem? (i := 1545) (by decide +kernel)⟩
theorem lw_p54 : lw_okq (⟨"NotaryKioskModel", "copies", "(II)V"⟩, 45) := ⟨⟨by decide +kernel, by decide +kernel⟩, List.mem_of_getElem? (i := 1202) (by decide +kernel), List.mem_of_getElem? (i := 1552) (by decide +kernel), List.mem_of_getElem? (i := 1553) (by decide +kernel)⟩
theorem lw_p55 : lw_okq (⟨"NotaryKioskModel", "isLeftOut", "(II)Z"⟩, 45) := ⟨⟨by decide +kernel, by decide +kernel⟩, List.mem_of_getElem? (i := 1202) (by decide +kernel), List.mem_of_getElem? (i := 1556) (by decide +kernel), List.mem_of_getElem? (i := 1557) (by decide +kernel)⟩
theorem lw_p56 : lw_okq (⟨"NotaryKioskModel", "isCopied", "(III)Z"⟩, 45) := ⟨⟨by decide +kernel, by decide +kernel⟩, List.mem_of_getElem? (i := 1202) (by decide +kernel), List.mem_of_getElem? (i := 1564) (by decide +kernel), List.mem_of_getElem? (i := 1565) (by decide +kernel)⟩
theorem lw_p57 : lw_okq (⟨"NotaryKioskModel", "isCopy", "(I)Z"⟩, 45) := ⟨⟨by decide +kernel, by decide +kernel⟩, List.mem_of_getElem? (i := 1202) (by decide +kernel), List.mem_of_getElem? (i := 1568) (by decide +kernel), List.mem_of_getElem? (i := 1569) (by decide +kernel)⟩
theorem lw_p58 : lw_okq (⟨"NotaryKioskModel", "isPiece", "(II)Z"⟩, 45) := ⟨⟨by decide +kernel, by decide +kernel⟩, List.mem_of_getElem? (i := 1202) (by decide +kernel), List.mem_of_getElem? (i := 1596) (by decide +kernel), List.mem_of_getElem? (i := 1597) (by decide +kernel)⟩
theorem lw_p59 : lw_okq (⟨"NotaryKioskModel", "isThere", "(II)Z"⟩, 45) := ⟨⟨by decide +kernel, by decide +kernel⟩, List.mem_of_getElem? (i := 1202) (by decide +kernel), List.mem_of_getElem? (i := 1644) (by decide +kernel), List.mem_of_getElem? (i := 1645) (by decide +kernel)⟩
theorem lw_p60 : lw_okq (⟨"NotaryKioskModel", "isBroken", "(II)Z"⟩, 45) := ⟨⟨by decide +kernel, by decide +kernel⟩, List.mem_of_getElem? (i := 1202) (by decide +kernel), List.mem_of_getElem? (i := 1684) (by decide +kernel), List.mem_of_getElem? (i := 1685) (by decide +kernel)⟩
def lw_privs_4 : List (MethodName × Nat) := [(⟨"NotaryKioskModel", "doneWith", "(II)I"⟩, 45), (⟨"NotaryKioskModel", "isDeputy", "(III)Z"⟩, 45), (⟨"NotaryKioskModel", "sealNow", "(II)I"⟩, 45), (⟨"NotaryKioskModel", "sealAhead", "(II)I"⟩, 45), (⟨"NotaryKioskModel", "faultOf", "(I)I"⟩, 45), (⟨"NotaryKioskModel", "isRecord", "(II)Z"⟩, 45), (⟨"NotaryKioskModel", "copies", "(II)V"⟩, 45), (⟨"NotaryKioskModel", "isLeftOut", "(II)Z"⟩, 45), (⟨"NotaryKioskModel", "isCopied", "(III)Z"⟩, 45), (⟨"NotaryKioskModel", "isCopy", "(I)Z"⟩, 45), (⟨"NotaryKioskModel", "isPiece", "(II)Z"⟩, 45), (⟨"NotaryKioskModel", "isThere", "(II)Z"⟩, 45), (⟨"NotaryKioskModel", "isBroken", "(II)Z"⟩, 45)]
theorem lw_r4 : ∀ q ∈ lw_privs_4, lw_okq q := List.forall_mem_cons.mpr ⟨lw_p48, List.forall_mem_cons.mpr ⟨lw_p49, List.forall_mem_cons.mpr ⟨lw_p50, List.forall_mem_cons.mpr ⟨lw_p51, List.forall_mem_cons.mpr ⟨lw_p52, List.forall_mem_cons.mpr ⟨lw_p53, List.forall_mem_cons.mpr ⟨lw_p54, List.forall_mem_cons.mpr ⟨lw_p55, List.forall_mem_cons.mpr ⟨lw_p56, List.forall_mem_cons.mpr ⟨lw_p57, List.forall_mem_cons.mpr ⟨lw_p58, List.forall_mem_cons.mpr ⟨lw_p59, List.forall_mem_cons.mpr ⟨lw_p60, fun _ h => absurd h List.not_mem_nil⟩⟩⟩⟩⟩⟩⟩⟩⟩⟩⟩⟩⟩
def lw_privs : List (MethodName × Nat) := lw_privs_1 ++ (lw_privs_2 ++ (lw_privs_3 ++ (lw_privs_4)))
def lw_tbl : List Cond := k2_sels lw_privs ++ tables_1
theorem lw_privs_ok : ∀ q ∈ lw_privs, lw_okq q := by
  show ∀ q ∈ lw_privs_1 ++ (lw_privs_2 ++ (lw_privs_3 ++ (lw_privs_4))), lw_okq q
  exact List.forall_mem_append.mpr ⟨lw_r1, List.forall_mem_append.mpr ⟨lw_r2, List.forall_mem_append.mpr ⟨lw_r3, lw_r4⟩⟩⟩
/-! ===== BEGIN words of one list among another's, by their places ===== -/
theorem goodIn_r {big : List Cond} (ws : List Cond) (ps : List Nat) (hp : ws = ps.filterMap (fun i => big[i]?)) (h : ws.all goodWord = true) : GoodIn big ws := by
  intro w hw
  have h1 := List.all_eq_true.mp h w hw
  rw [hp] at hw
  obtain ⟨i, -, hi⟩ := List.mem_filterMap.mp hw
  have hm : w ∈ big := by first | exact List.mem_of_getElem? hi | exact List.getElem?_mem hi
  exact ⟨hm, good_of_word h1⟩
theorem goodIn_app {big a b : List Cond} (ha : GoodIn big a) (hb : GoodIn big b) : GoodIn big (a ++ b) := fun w h => (List.mem_append.mp h).elim (ha w) (hb w)
theorem goodIn_ca {big a b : List Cond} {c : Cond} (ha : GoodIn big (c :: a)) (hb : GoodIn big b) : GoodIn big (c :: (a ++ b)) := fun w h => (List.mem_cons.mp h).elim (fun e => ha w (List.mem_cons.mpr (Or.inl e))) (fun h => (List.mem_append.mp h).elim (fun h => ha w (List.mem_cons.mpr (Or.inr h))) (hb w))
theorem goodIn_sub {big ws : List Cond} (hm : ∀ w ∈ ws, w ∈ big) (h : ws.all goodWord = true) : GoodIn big ws := fun w hw => ⟨hm w hw, good_of_word (List.all_eq_true.mp h w hw)⟩
/-! ===== END ===== -/
/-! ===== BEGIN exceptions that leave a method, and their catching by the caller (launches without stack traces) ===== -/
section VXA
/-! The laws vx_back, vx_callV, vx_callS, vx_callSW, vx_throw0, vx_throwS follow proofs of the library, with one case more: JvmDerived/Free/Laws.lean (Back.of_free), Shelf42/LK1.lean (callV, callS), Shelf/KitTraced.lean (throwNew0V, throwNewS). -/
/-- where a method has thrown q: the class by its name, the cell, what was written, the world -/
def vx_T (XC : String → State → State → Prop) (st : State) (q : Addr) (t : State) (mc ms : Nat) (free : Addr → Prop) : Prop :=
  ∃ (E : String) (ce : Cell) (L : List Loc), XC E st t ∧ t.heap[q]? = some ce ∧ ce.vm = .none ∧ st.vm.findClass E = some ce.cls ∧ st.WarmedH t.vm ∧ st.sameButNew ({ t with vm := st.vm } : State) L mc ms ∧ ∀ z ∈ L, free z.base
def vx_Q (Qc : Array Value → State → Outcome → State → Prop) (XC : String → State → State → Prop) (mc ms : Nat) (free : Addr → Prop) : Array Value → State → Outcome → State → Prop := fun a st o t =>
  (Qc a st o t ∧ ∃ L, FrameEnd st o t L mc ms ∧ ∀ q ∈ L, free q.base) ∨ ∃ q, o = .threw q ∧ vx_T XC st q t mc ms free
/-- a callee that returns or throws -/
def vx_Met (l : Launch) (y : MethodName) (ws : List Cond) (rm : Room) (Pc : Array Value → State → Prop) (Qc : Array Value → State → Outcome → State → Prop) (XC : String → State → State → Prop) (mc ms : Nat) (free : Addr → Prop) : Prop :=
  MetFree l y (headSpec ws rm) Pc (fun _ _ _ _ _ => True) (vx_Q Qc XC mc ms free)
def vx_Post (XC : String → State → State → Prop) (mc ms : Nat) (free : Addr → Prop) : Pt → Array Value → Addr → Pt → Prop := fun A a q B =>
  ∃ (g : JFrame) (mk : MethodId) (t : State) (L : List Loc) (E : String) (ce : Cell), B.U.heap = t.heap ∧ B.U.vm = t.vm ∧ XC E (A.U.calling g mk a) t ∧ t.heap[q]? = some ce ∧ ce.vm = .none ∧ A.U.vm.findClass E = some ce.cls ∧ B.locs = A.locs ++ L ∧ (∀ z ∈ L, free z.base) ∧ B.cells = A.cells + mc ∧ B.slots = A.slots + ms
def vx_Back (l : Launch) (R : Room) (p : Program) (e : Env) (below : List Frame) (s : State) (sargs : Array Value) (y : MethodName) (len W9 : Nat)
    (Pre : Pt → Array Value → Prop) (Post : Pt → Array Value → Option Value → Pt → Prop) (PostX : Pt → Array Value → Addr → Pt → Prop) : Prop :=
  ∀ (m : MethodId) (meth : Method) (c : Code) (A : Pt) (g : JFrame) (ig : Instr) (mk : MethodId) (a : Array Value),
    Stand p l e R s m sargs below meth c A.U A.locs A.cells A.slots → g.method = m → g.locals.size = c.maxLocals → decode c.code g.pc = .ok (ig, len) →
    2 * g.monitorRoom + (g.stack.map fun v => v.category).sum ≤ W9 → A.U.methodNamed? y = some mk → Pre A a →
    (∃ (v : Option Value) (B : Pt), Stand p l e R s m sargs below meth c B.U B.locs B.cells B.slots ∧ Post A a v B ∧
      Steps p.tables e below (doInvoke e (A.U.setTop g) [] mk a).1 (B.U.setTop { g with pc := g.pc + len, stack := v.toList ++ g.stack })) ∨
    (∃ (q : Addr) (B : Pt), Stand p l e R s m sargs below meth c B.U B.locs B.cells B.slots ∧ PostX A a q B ∧
      Steps p.tables e below (doInvoke e (A.U.setTop g) [] mk a).1 ((B.U.setTop g).pushFrame (.throwing q)))
section Payer
variable {l : Launch} {R : Room} {p : Program} {e : Env} {below : List Frame} {s : State} {sargs : Array Value} {y : MethodName} {len W9 : Nat}
theorem vx_back {ws : List Cond} {rm : Room} {Pc : Array Value → State → Prop} {Qc : Array Value → State → Outcome → State → Prop} {XC : String → State → State → Prop} {mc ms : Nat} {free : Addr → Prop} {bytes : ByteArray} {maxL : Nat} {ret : Option FieldType}
    (hM : vx_Met l y ws rm Pc Qc XC mc ms free) (hblind : FrameBlind Pc) (hrc : rm.cells = mc) (hrs : rm.slots = ms)
    (hframes : rm.frames + 1 ≤ R.frames) (hlocals : W9 + (maxL + 11) + rm.locals ≤ R.locals)
    (hws : ∀ w ∈ ws, ∀ a' U, s.WarmedH U.vm → w.before a' U = true) (hcode : Cond.code y bytes maxL ret ∈ ws) (hinit : ∀ a' U, s.WarmedH U.vm → (Cond.initialized y.cls).before a' U = true) :
    vx_Back l R p e below s sargs y len W9 (PreOf R mc ms Pc) (PostOf Qc mc ms free) (vx_Post XC mc ms free) := by
  intro m meth c A g ig mk a X hg hsize hdg hW hn hp
  have h1 : (headSpec ws rm).pre.before a A.U = true := atoms_intro fun w hw => hws w hw _ _ X.warmed
  have h2 : (Cond.code y bytes maxL ret).before a A.U = true := hws _ hcode _ _ X.warmed
  have h3 : (Cond.initialized y.cls).before a A.U = true := hinit _ _ X.warmed
  have h4 : A.cells + (headSpec ws rm).room.cells ≤ R.cells := by rw [show (headSpec ws rm).room.cells = mc from hrc]; exact hp.1
  have h5 : A.slots + (headSpec ws rm).room.slots ≤ R.slots := by rw [show (headSpec ws rm).room.slots = ms from hrs]; exact hp.2.1
  have hPc : Pc a (A.U.calling g mk a) := hblind _ _ _ _ hp.2.2
  obtain ⟨U, Ls, c0, s0⟩ := A
  dsimp only [Pt.U, Pt.locs, Pt.cells, Pt.slots] at h1 h2 h3 h4 h5 X hn hPc ⊢
  obtain ⟨methY, cY, hmY, hcY, -, hlY, -, -, -, -⟩ := Cond.code_spec hn h2
  obtain ⟨kY, hkY, -⟩ := className_of_methodNamed hn
  have hinitY : kY.init = .initialized := Cond.initialized_spec (findClass_of_methodNamed hn) hkY h3
  have h : At U g.method c below := by rw [hg]; exact X.here
  have hlocals9 : W9 + (maxL + 11) + (headSpec ws rm).room.locals ≤ R.locals := hlocals
  have happ : (headSpec ws rm).appliesLoose y e.platform (U.calling g mk a) = true :=
    Spec.appliesLoose_calling (g := g) h hdg hn hkY hinitY
      (X.room_calling (g := g) (R' := (headSpec ws rm).room) hsize hmY hcY hframes (by rw [hlY]; omega) h4 h5) h1
  obtain ⟨mid, hmid⟩ := h.above
  have hfr : (U.setTop g).frames = (.java g :: mid) ++ below := by rw [State.frames_setTop' g h.top, hmid]; rfl
  obtain ⟨o, s₂, hsteps, -, hend, hq⟩ := Steps.callFree hM p X.admits X.cas X.clock (acts := []) hfr happ hPc trivial
  have hq' : vx_Q Qc XC mc ms free a (U.calling g mk a) o s₂ := hq
  rw [State.frames_setTop' g h.top] at hend
  obtain ⟨g₀, hg0⟩ := Option.isSome_iff_exists.mp h.top
  obtain ⟨r, hr⟩ := State.topJava?_eq_some.mp hg0
  have hr' : (({ U with heap := s₂.heap, slotsUsed := s₂.slotsUsed } : State).setVm s₂.vm).frames = .java g₀ :: r := hr
  rcases hq' with ⟨hqc, L, hfe, hL⟩ | ⟨q, rfl, E, ce, L, hx, hce, hcv, hcl, hW₂, hsm, hL⟩
  · obtain ⟨⟨v, rfl⟩, hW₂, e2, q2, q3, q4, q5, q6⟩ := id hfe
    have e3 : s₂ = ({ (U.calling g mk a).setFrames s₂.frames with heap := s₂.heap, slotsUsed := s₂.slotsUsed } : State).setVm s₂.vm := by
      have : s₂ = ({ s₂ with vm := (U.calling g mk a).vm } : State).setVm s₂.vm := rfl
      rw [e2] at this
      exact this
    obtain ⟨c₂, i₂, len₂, hc₂, hd₂, hf₂⟩ := hend
    have hW' : U.WarmedH s₂.vm := hW₂
    have hcc : c₂ = c := by
      have h1 : s₂.code? g.method = U.code? g.method := by
        rw [State.code?_eq, State.code?_eq, hW'.alike.method?]
      exact Option.some.inj (hc₂.symm.trans (h1.trans h.code))
    subst hcc
    have hlen : len₂ = len := by rw [hdg] at hd₂; cases hd₂; rfl
    subst hlen
    have hs₂ : s₂ = (({ U with heap := s₂.heap, slotsUsed := s₂.slotsUsed } : State).setVm s₂.vm).setTop { g with pc := g.pc + len₂, stack := v.toList ++ g.stack } := by
      refine e3.trans ?_
      rw [hf₂, State.calling_eq h.top, State.setFrames_setFrames, State.setTop_of_frames _ hr', hr]
      rfl
    have hsame : U.sameButNew ({ U with heap := s₂.heap, slotsUsed := s₂.slotsUsed } : State) L mc ms := by
      refine ⟨?_, q2, q3, q4, q5, q6⟩
      obtain ⟨t, ht, -⟩ := State.frames_cons hr
      show ({ U with heap := s₂.heap, slotsUsed := s₂.slotsUsed } : State) = { U.setFrames U.frames with heap := s₂.heap, slotsUsed := s₂.slotsUsed }
      rw [State.setFrames_self ht]
    subst hg
    refine Or.inl ⟨v, ⟨(({ U with heap := s₂.heap, slotsUsed := s₂.slotsUsed } : State).setVm s₂.vm), Ls ++ L, c0 + mc, s0 + ms⟩,
      ⟨X.admits, X.cas, X.clock, X.frames, X.room, X.hears, X.method, X.code, (X.here.setHeapUsed s₂.heap s₂.slotsUsed).setVm hW'.alike, X.tail, State.WarmedH.trans X.warmed hW', X.limits, X.bytes, X.same.trans (hsame.setVm s.vm)⟩,
      ⟨g, mk, s₂, L, rfl, rfl, hqc, rfl, hL, rfl, rfl⟩, ?_⟩
    show Steps p.tables e below _ ((({ U with heap := s₂.heap, slotsUsed := s₂.slotsUsed } : State).setVm s₂.vm).setTop { g with pc := g.pc + len₂, stack := v.toList ++ g.stack })
    rw [← hs₂]
    exact hsteps
  · obtain ⟨e2, q2, q3, q4, q5, q6⟩ := id hsm
    have e3 : s₂ = ({ (U.calling g mk a).setFrames s₂.frames with heap := s₂.heap, slotsUsed := s₂.slotsUsed } : State).setVm s₂.vm := by
      have : s₂ = ({ s₂ with vm := (U.calling g mk a).vm } : State).setVm s₂.vm := rfl
      rw [e2] at this
      exact this
    have hf₂ : s₂.frames = .throwing q :: .java g :: U.frames.tail := hend
    have hW' : U.WarmedH s₂.vm := hW₂
    have hs₂ : s₂ = ((({ U with heap := s₂.heap, slotsUsed := s₂.slotsUsed } : State).setVm s₂.vm).setTop g).pushFrame (.throwing q) := by
      refine e3.trans ?_
      rw [hf₂, State.calling_eq h.top, State.setFrames_setFrames, State.pushFrame, State.frames_setTop _ hr', State.setTop_of_frames _ hr', State.setFrames_setFrames, hr]
      rfl
    have hsame : U.sameButNew ({ U with heap := s₂.heap, slotsUsed := s₂.slotsUsed } : State) L mc ms := by
      refine ⟨?_, q2, q3, q4, q5, q6⟩
      obtain ⟨t, ht, -⟩ := State.frames_cons hr
      show ({ U with heap := s₂.heap, slotsUsed := s₂.slotsUsed } : State) = { U.setFrames U.frames with heap := s₂.heap, slotsUsed := s₂.slotsUsed }
      rw [State.setFrames_self ht]
    subst hg
    refine Or.inr ⟨q, ⟨(({ U with heap := s₂.heap, slotsUsed := s₂.slotsUsed } : State).setVm s₂.vm), Ls ++ L, c0 + mc, s0 + ms⟩,
      ⟨X.admits, X.cas, X.clock, X.frames, X.room, X.hears, X.method, X.code, (X.here.setHeapUsed s₂.heap s₂.slotsUsed).setVm hW'.alike, X.tail, State.WarmedH.trans X.warmed hW', X.limits, X.bytes, X.same.trans (hsame.setVm s.vm)⟩,
      ⟨g, mk, s₂, L, E, ce, rfl, rfl, hx, hce, hcv, hcl, rfl, hL, rfl, rfl⟩, ?_⟩
    show Steps p.tables e below _ (((({ U with heap := s₂.heap, slotsUsed := s₂.slotsUsed } : State).setVm s₂.vm).setTop g).pushFrame (.throwing q))
    rw [← hs₂]
    exact hsteps
end Payer
section Calls
variable {p : Program} {l : Launch} {e : Env} {R : Room} {s : State} {m : MethodId} {args : Array Value} {below : List Frame} {meth : Method} {c : Code} {T : State} {locs : List Loc} {cells slots : Nat}
theorem vx_callV (X : Stand p l e R s m args below meth c T locs cells slots) (hexec : p.tables.exec = Jvm.exec) {own C : String} {index : Nat} {y : MethodName} {bytes : ByteArray} {maxL : Nat} {ret : Option FieldType}
    (hown : s.vm.findClass own = some m.cls) (hlink : (Cond.methodLink own index y).before args s = true) (hinst : (Cond.instanceMethod y).before args s = true) (hsel : (Cond.selects C y y).before args s = true)
    (hcode : (Cond.code y bytes maxL ret).before args s = true) (hy : y.cls ≠ "java/lang/invoke/MethodHandle" ∧ y.cls ≠ "java/lang/invoke/VarHandle")
    {W9 : Nat} {Pre : Pt → Array Value → Prop} {Post : Pt → Array Value → Option Value → Pt → Prop} {PostX : Pt → Array Value → Addr → Pt → Prop} (hK : vx_Back l R p e below s args y 3 W9 Pre Post PostX)
    {b : Addr} {cellB : Cell} (hcell : T.heap[b]? = some cellB) (hobj : cellB.vm.isStatics = false) (hcls : s.vm.findClass C = some cellB.cls)
    {g : JFrame} (hg : g.method = m) (hsize : g.locals.size = c.maxLocals) {argsL rest : List Value} (hlen : ∀ sig, parseMethodDescriptor y.desc = some sig → argsL.length = sig.parameters.length)
    (hstack : g.stack = argsL.reverse ++ .ref b :: rest) (hW : 2 * g.monitorRoom + (rest.map fun v => v.category).sum ≤ W9) (hdg : decode c.code g.pc = .ok (.invokevirtual index, 3))
    (hpre : ∀ vm₁, s.WarmedH vm₁ → Pre ⟨T.setVm vm₁, locs, cells, slots⟩ (Value.ref b :: argsL).toArray) :
    (∃ (v : Option Value) (vm₁ : Vm) (B : Pt), s.WarmedH vm₁ ∧ Stand p l e R s m args below meth c B.U B.locs B.cells B.slots ∧ Post ⟨T.setVm vm₁, locs, cells, slots⟩ (Value.ref b :: argsL).toArray v B ∧
      ∀ target, Steps p.tables e below (B.U.setTop { g with pc := g.pc + 3, stack := v.toList ++ rest }) target → Steps p.tables e below (T.setTop g) target) ∨
    (∃ (q : Addr) (vm₁ : Vm) (B : Pt), s.WarmedH vm₁ ∧ Stand p l e R s m args below meth c B.U B.locs B.cells B.slots ∧ PostX ⟨T.setVm vm₁, locs, cells, slots⟩ (Value.ref b :: argsL).toArray q B ∧
      Steps p.tables e below (T.setTop g) ((B.U.setTop { g with stack := rest }).pushFrame (.throwing q))) := by
  obtain ⟨mk, methM, hnamed, hmethM, hstM, habM⟩ := Cond.instanceMethod_spec hinst
  obtain ⟨methM', cM, hmethM', -, -, -, -, -, -, hsigM⟩ := Cond.code_spec hnamed hcode
  cases hmethM.symm.trans hmethM'
  obtain ⟨c2, r2, m2, q1, q2, q3, q4, kP, hkP, hkPi⟩ := Cond.selects_spec hsel
  cases hcls.symm.trans q1
  cases (State.methodFound?_of_named hnamed hy).symm.trans q2
  cases hnamed.symm.trans q3
  have hselP : selectMethod e.platform s.vm cellB.cls mk = .method mk := by rw [Launch.admits_selectMethod X.admits]; exact q4
  obtain ⟨vm₁, X₁, hstep₁⟩ := X.invokevirtual hexec hown hlink hnamed hmethM hstM hkP hkPi hy (a := b) (cell := cellB) hcell
    (fun z h => by rw [h] at hobj; cases hobj) hselP hmethM habM hkP hkPi (g := g) hg (argsL := argsL) (rest := rest) (hlen _ hsigM) hstack hdg
  rcases hK m meth c ⟨T.setVm vm₁, locs, cells, slots⟩ { g with stack := rest } (.invokevirtual index) mk (Value.ref b :: argsL).toArray X₁ hg hsize hdg hW (X₁.named hnamed) (hpre vm₁ X₁.warmed) with ⟨v, B, X', hpost, hsteps⟩ | ⟨q, B, X', hpost, hsteps⟩
  · exact Or.inl ⟨v, vm₁, B, X₁.warmed, X', hpost, fun target h => hstep₁ _ fun acts => by rw [doInvoke_state]; exact hsteps.trans h⟩
  · exact Or.inr ⟨q, vm₁, B, X₁.warmed, X', hpost, hstep₁ _ fun acts => by rw [doInvoke_state]; exact hsteps⟩
theorem vx_callS (X : Stand p l e R s m args below meth c T locs cells slots) (hexec : p.tables.exec = Jvm.exec) {own : String} {index : Nat} {y : MethodName} {bytes : ByteArray} {maxL : Nat} {ret : Option FieldType}
    (hown : s.vm.findClass own = some m.cls) (hlink : (Cond.methodLink own index y).before args s = true) (hstat : (Cond.static y).before args s = true) (hinit : (Cond.initialized y.cls).before args s = true)
    (hcode : (Cond.code y bytes maxL ret).before args s = true) (hy : y.cls ≠ "java/lang/invoke/MethodHandle" ∧ y.cls ≠ "java/lang/invoke/VarHandle")
    {W9 : Nat} {Pre : Pt → Array Value → Prop} {Post : Pt → Array Value → Option Value → Pt → Prop} {PostX : Pt → Array Value → Addr → Pt → Prop} (hK : vx_Back l R p e below s args y 3 W9 Pre Post PostX)
    {g : JFrame} (hg : g.method = m) (hsize : g.locals.size = c.maxLocals) {argsL rest : List Value} (hlen : ∀ sig, parseMethodDescriptor y.desc = some sig → argsL.length = sig.parameters.length)
    (hstack : g.stack = argsL.reverse ++ rest) (hW : 2 * g.monitorRoom + (rest.map fun v => v.category).sum ≤ W9) (hdg : decode c.code g.pc = .ok (.invokestatic index, 3))
    (hpre : ∀ vm₁, s.WarmedH vm₁ → Pre ⟨T.setVm vm₁, locs, cells, slots⟩ argsL.toArray) :
    (∃ (v : Option Value) (vm₁ : Vm) (B : Pt), s.WarmedH vm₁ ∧ Stand p l e R s m args below meth c B.U B.locs B.cells B.slots ∧ Post ⟨T.setVm vm₁, locs, cells, slots⟩ argsL.toArray v B ∧
      ∀ target, Steps p.tables e below (B.U.setTop { g with pc := g.pc + 3, stack := v.toList ++ rest }) target → Steps p.tables e below (T.setTop g) target) ∨
    (∃ (q : Addr) (vm₁ : Vm) (B : Pt), s.WarmedH vm₁ ∧ Stand p l e R s m args below meth c B.U B.locs B.cells B.slots ∧ PostX ⟨T.setVm vm₁, locs, cells, slots⟩ argsL.toArray q B ∧
      Steps p.tables e below (T.setTop g) ((B.U.setTop { g with stack := rest }).pushFrame (.throwing q))) := by
  obtain ⟨mk, hnamed⟩ := Cond.code_named hcode
  obtain ⟨methM, cM, hmethM, -, -, -, -, -, -, hsigM⟩ := Cond.code_spec hnamed hcode
  have hstatic : methM.isStatic = true := Cond.static_spec hnamed hmethM hstat
  obtain ⟨kP, hkP, -⟩ := className_of_methodNamed hnamed
  have hinitP : kP.init = .initialized := Cond.initialized_spec (findClass_of_methodNamed hnamed) hkP hinit
  obtain ⟨vm₁, X₁, hstep₁⟩ := X.invokestatic hexec hown hlink hnamed hmethM hstatic hkP hinitP hy (g := g) hg (argsL := argsL) (rest := rest) (hlen _ hsigM) hstack hdg
  rcases hK m meth c ⟨T.setVm vm₁, locs, cells, slots⟩ { g with stack := rest } (.invokestatic index) mk argsL.toArray X₁ hg hsize hdg hW (X₁.named hnamed) (hpre vm₁ X₁.warmed) with ⟨v, B, X', hpost, hsteps⟩ | ⟨q, B, X', hpost, hsteps⟩
  · exact Or.inl ⟨v, vm₁, B, X₁.warmed, X', hpost, fun target h => hstep₁ _ fun acts => by rw [doInvoke_state]; exact hsteps.trans h⟩
  · exact Or.inr ⟨q, vm₁, B, X₁.warmed, X', hpost, hstep₁ _ fun acts => by rw [doInvoke_state]; exact hsteps⟩
end Calls
theorem vx_cls {s : State} {T : State} {vm₁ : Vm} {E : String} {k : ClassId} (hW : s.WarmedH vm₁) (h : (T.setVm vm₁).vm.findClass E = some k) : s.vm.findClass E = some k := by
  have h1 : vm₁.findClass E = some k := h
  rw [hW.alike.findClass] at h1
  exact h1
/-- the method's frame g, with q thrown over it -/
def vx_W (p : Program) (l : Launch) (e : Env) (R : Room) (s : State) (m : MethodId) (args : Array Value) (below : List Frame) (meth : Method) (c : Code) (H : Heap) (locs : List Loc) (cells slots : Nat) (Q : State → Prop) (g : JFrame) (q : Addr) : Prop :=
  ∀ T : State, T.heap = H → Stand p l e R s m args below meth c T locs cells slots → ∃ t, Steps p.tables e below ((T.setTop g).pushFrame (.throwing q)) t ∧ Q t
def vx_Run (p : Program) (l : Launch) (e : Env) (R : Room) (s : State) (m : MethodId) (args : Array Value) (below : List Frame) (meth : Method) (c : Code) (H : Heap) (locs : List Loc) (cells slots mc ms : Nat) (g : JFrame) (rest : List Value) (Qa : State → Outcome → State → Prop) (XC : String → State → State → Prop) (free : Addr → Prop) : Prop :=
  ∀ T : State, T.heap = H → Stand p l e R s m args below meth c T locs cells slots →
    (∃ (v : Option Value) (st₀ t T' : State) (L : List Loc), st₀.heap = H ∧ Stand p l e R s m args below meth c T' (locs ++ L) (cells + mc) (slots + ms) ∧ (∀ q ∈ L, free q.base) ∧ T'.heap = t.heap ∧ T'.vm = t.vm ∧ Qa st₀ (.returned v) t ∧
      Goes p e below T g T' { g with pc := g.pc + 3, stack := v.toList ++ rest }) ∨
    (∃ (q : Addr) (st₀ t T' : State) (L : List Loc) (E : String) (ce : Cell), st₀.heap = H ∧ Stand p l e R s m args below meth c T' (locs ++ L) (cells + mc) (slots + ms) ∧ (∀ z ∈ L, free z.base) ∧ T'.heap = t.heap ∧ T'.vm = t.vm ∧ XC E st₀ t ∧ t.heap[q]? = some ce ∧ ce.vm = .none ∧ s.vm.findClass E = some ce.cls ∧
      Steps p.tables e below (T.setTop g) ((T'.setTop { g with stack := rest }).pushFrame (.throwing q)))
def vx_X {S : Type} (px : S → Prop) (B : String → S → State → Prop) (A : Nat → Prop) : String → State → State → Prop := fun E st t => ∃ u : S, px u ∧ B E u t ∧ va_F A st t
section Runs
variable {p : Program} {l : Launch} {e : Env} {R : Room} {s : State} {m : MethodId} {args : Array Value} {below : List Frame} {meth : Method} {c : Code} {H : Heap} {locs : List Loc} {cells slots : Nat}
variable {y : MethodName} {bytes cc : ByteArray} {maxL nL mc ms n index : Nat} {ret : Option FieldType} {ws : List Cond} {rm : Room} {Pc : Array Value → State → Prop} {Qc : Array Value → State → Outcome → State → Prop} {XC : String → State → State → Prop} {free : Addr → Prop} {Ts : List Cond} {own C : String} {b : Addr} {As rest : List Value} {g : JFrame}
theorem vx_callBack (cb : CallB R s args own index y bytes maxL ret ws rm mc ms n) (hM : vx_Met l y ws rm Pc Qc XC mc ms free) (hbl : FrameBlind Pc) : vx_Back l R p e below s args y 3 8 (PreOf R mc ms Pc) (PostOf Qc mc ms free) (vx_Post XC mc ms free) := by
  obtain ⟨hrc, hrs, hfr, hlo, hws, hcw, -, hini, -⟩ := cb
  exact vx_back (bytes := bytes) (maxL := maxL) (ret := ret) hM hbl hrc hrs hfr hlo hws hcw (fun a' U hW => word_at hW (Or.inl (by first | rfl | simp [Cond.onTables, Cond.keeps, Cond.steady])) hini)
theorem vx_runV (S : CallFix p m c cc nL s args Ts own) (hM : vx_Met l y ws rm Pc Qc XC mc ms free) (cw : CallW R s args own C index y bytes maxL ret ws rm mc ms n) (hp : PreV s H C b Pc As)
    (hg : g.method = m) (hn : As.length = n) (hsize : g.locals.size = nL) (hstack : g.stack = As.reverse ++ .ref b :: rest) (hW : 2 * g.monitorRoom + (rest.map fun v => v.category).sum ≤ 8) (hdg : decode cc g.pc = .ok (.invokevirtual index, 3)) (hf : cells + mc ≤ R.cells ∧ slots + ms ≤ R.slots) :
    vx_Run p l e R s m args below meth c H locs cells slots mc ms g rest (Qc (Value.ref b :: As).toArray) XC free := by
  have hK : vx_Back l R p e below s args y 3 8 (PreOf R mc ms Pc) (PostOf Qc mc ms free) (vx_Post XC mc ms free) := vx_callBack cw.1 hM hp.1
  obtain ⟨⟨-, -, -, -, -, -, hcode, -, hy, hlen, hl⟩, hin, hse⟩ := cw
  obtain ⟨hx, hb, hml, ho, -⟩ := S
  obtain ⟨-, ⟨cellB, hcB, hoB, hclB⟩, hPc⟩ := hp
  intro T hT X
  rcases vx_callV X hx (C := C) (bytes := bytes) (maxL := maxL) (ret := ret) ho hl hin hse hcode hy hK (by rw [hT]; exact hcB) hoB hclB hg (hsize.trans hml.symm) (argsL := As) (rest := rest) (fun sig h => hn.trans (hlen sig h)) hstack hW (by rw [hb]; exact hdg)
    (fun vm₁ hW₁ => ⟨hf.1, hf.2, hPc (T.setVm vm₁) hT hW₁⟩) with ⟨v, vm₁, ⟨U', l2, c2, s2⟩, hW₁, X', ⟨g', mk, t, L, e1, e2, hq, h1, hL, h2, h3⟩, st⟩ | ⟨q, vm₁, ⟨U', l2, c2, s2⟩, hW₁, X', ⟨g', mk, t, L, E, ce, e1, e2, hq, hce, hcv, hcl, h1, hL, h2, h3⟩, st⟩
  · dsimp only [Pt.U, Pt.locs, Pt.cells, Pt.slots] at X' e1 e2 h1 h2 h3 st
    subst h1; subst h2; subst h3
    exact Or.inl ⟨v, (T.setVm vm₁).calling g' mk (Value.ref b :: As).toArray, t, U', L, hT, X', hL, e1, e2, hq, st⟩
  · dsimp only [Pt.U, Pt.locs, Pt.cells, Pt.slots] at X' e1 e2 h1 h2 h3 st hcl
    subst h1; subst h2; subst h3
    exact Or.inr ⟨q, (T.setVm vm₁).calling g' mk (Value.ref b :: As).toArray, t, U', L, E, ce, hT, X', hL, e1, e2, hq, hce, hcv, vx_cls hW₁ hcl, st⟩
theorem vx_runS (S : CallFix p m c cc nL s args Ts own) (hM : vx_Met l y ws rm Pc Qc XC mc ms free) (cw : CallB R s args own index y bytes maxL ret ws rm mc ms n ∧ (Cond.static y).before args s = true) (hp : PreS s H Pc As)
    (hg : g.method = m) (hn : As.length = n) (hsize : g.locals.size = nL) (hstack : g.stack = As.reverse ++ rest) (hW : 2 * g.monitorRoom + (rest.map fun v => v.category).sum ≤ 8) (hdg : decode cc g.pc = .ok (.invokestatic index, 3)) (hf : cells + mc ≤ R.cells ∧ slots + ms ≤ R.slots) :
    vx_Run p l e R s m args below meth c H locs cells slots mc ms g rest (Qc As.toArray) XC free := by
  have hK : vx_Back l R p e below s args y 3 8 (PreOf R mc ms Pc) (PostOf Qc mc ms free) (vx_Post XC mc ms free) := vx_callBack cw.1 hM hp.1
  obtain ⟨⟨-, -, -, -, -, -, hcode, hini, hy, hlen, hl⟩, hstt⟩ := cw
  obtain ⟨hx, hb, hml, ho, -⟩ := S
  intro T hT X
  rcases vx_callS X hx (bytes := bytes) (maxL := maxL) (ret := ret) ho hl hstt hini hcode hy hK hg (hsize.trans hml.symm) (argsL := As) (rest := rest) (fun sig h => hn.trans (hlen sig h)) hstack hW (by rw [hb]; exact hdg)
    (fun vm₁ hW₁ => ⟨hf.1, hf.2, hp.2 (T.setVm vm₁) hT hW₁⟩) with ⟨v, vm₁, ⟨U', l2, c2, s2⟩, hW₁, X', ⟨g', mk, t, L, e1, e2, hq, h1, hL, h2, h3⟩, st⟩ | ⟨q, vm₁, ⟨U', l2, c2, s2⟩, hW₁, X', ⟨g', mk, t, L, E, ce, e1, e2, hq, hce, hcv, hcl, h1, hL, h2, h3⟩, st⟩
  · dsimp only [Pt.U, Pt.locs, Pt.cells, Pt.slots] at X' e1 e2 h1 h2 h3 st
    subst h1; subst h2; subst h3
    exact Or.inl ⟨v, (T.setVm vm₁).calling g' mk As.toArray, t, U', L, hT, X', hL, e1, e2, hq, st⟩
  · dsimp only [Pt.U, Pt.locs, Pt.cells, Pt.slots] at X' e1 e2 h1 h2 h3 st hcl
    subst h1; subst h2; subst h3
    exact Or.inr ⟨q, (T.setVm vm₁).calling g' mk As.toArray, t, U', L, E, ce, hT, X', hL, e1, e2, hq, hce, hcv, vx_cls hW₁ hcl, st⟩
end Runs
section Rows
variable {p : Program} {l : Launch} {e : Env} {R : Room} {s : State} {m : MethodId} {args : Array Value} {below : List Frame} {meth : Method} {c : Code} {H : Heap} {locs : List Loc} {cells slots : Nat} {Q : State → Prop}
variable {mc ms : Nat} {free : Addr → Prop} {A0 A1 : Nat → Prop} {H0 : Heap} {a : Array Value} {pc : Nat} {ls : Array Slot} {st0 rest : List Value}
theorem vx_keep {st₀ t T' : State} {L : List Loc} (h0 : st₀.heap = H) (e1 : T'.heap = t.heap) (hS : va_S A0 H0 H locs) (hA : ∀ q, q < H.size → A1 q → A0 q) (hf : ∀ q, free q → A0 q) (hL : ∀ q ∈ L, free q.base) (hF : va_F A1 st₀ t) :
    H.size ≤ T'.heap.size ∧ (∀ q : Nat, q < H.size → ¬ A1 q → T'.heap[q]? = H[q]?) ∧ va_S A0 H0 T'.heap (locs ++ L) := by
  obtain ⟨hz, hk⟩ := hF
  rw [h0] at hz hk
  exact ⟨by rw [e1]; exact hz, fun q h1 h2 => by rw [e1]; exact hk q h1 h2,
    ⟨Nat.le_trans hS.1 (by rw [e1]; exact hz), fun q h1 h2 => by rw [e1, hk q (Nat.lt_of_lt_of_le h1 hS.1) (fun z => h2 (hA q (Nat.lt_of_lt_of_le h1 hS.1) z))]; exact hS.2.1 q h1 h2, fun q hq => by
      rcases List.mem_append.mp hq with h | h
      · exact hS.2.2 q h
      · exact hf _ (hL q h)⟩⟩
theorem vx_calli {S SX : Type} {post : Int32 → S → Prop} {px : SX → Prop} {B : S → State → Prop} {BX : String → SX → State → Prop} {AX : Nat → Prop} (hr : vx_Run p l e R s m args below meth c H locs cells slots mc ms (F0 m pc ls st0) rest (va_Qi post B A1 a) (vx_X px BX AX) free) (hS : va_S A0 H0 H locs) (hA : ∀ q, q < H.size → A1 q → A0 q) (hf : ∀ q, free q → A0 q) (hAX : ∀ q, q < H.size → AX q → A0 q)
    (kx : ∀ (E : String) (ce : Cell) (q9 : Addr) (u : SX) (t : State) (H1 : Heap) (locs1 : List Loc), t.heap = H1 → s.vm.Alike t.vm → px u → BX E u t → H.size ≤ H1.size → (∀ q : Nat, q < H.size → ¬ AX q → H1[q]? = H[q]?) → va_S A0 H0 H1 locs1 → H1[q9]? = some ce → ce.vm = .none → s.vm.findClass E = some ce.cls → vx_W p l e R s m args below meth c H1 locs1 (cells + mc) (slots + ms) Q (F0 m pc ls rest) q9)
    (kk : ∀ (r : Int32) (u : S) (t : State) (H1 : Heap) (locs1 : List Loc), t.heap = H1 → s.vm.Alike t.vm → post r u → B u t → H.size ≤ H1.size → (∀ q : Nat, q < H.size → ¬ A1 q → H1[q]? = H[q]?) → va_S A0 H0 H1 locs1 → W p l e R s m args below meth c H1 locs1 (cells + mc) (slots + ms) Q (F0 m (pc + 3) ls (.int r :: rest))) : W p l e R s m args below meth c H locs cells slots Q (F0 m pc ls st0) := by
  intro T hT X
  rcases hr T hT X with ⟨v, st₀, t, T', L, h0, X', hL, e1, e2, ⟨⟨r, u, hv, hp, hb⟩, hF⟩, st⟩ | ⟨q, st₀, t, T', L, E, ce, h0, X', hL, e1, e2, ⟨u, hp, hb, hF⟩, hce, hcv, hcl, st⟩
  · cases hv
    obtain ⟨k1, k2, k3⟩ := vx_keep h0 e1 hS hA hf hL hF
    obtain ⟨t2, a1, b1⟩ := kk r u t T'.heap (locs ++ L) e1.symm (by rw [← e2]; exact X'.warmed.alike) hp hb k1 k2 k3 T' rfl X'
    exact ⟨t2, st t2 a1, b1⟩
  · obtain ⟨k1, k2, k3⟩ := vx_keep h0 e1 hS hAX hf hL hF
    obtain ⟨t2, a1, b1⟩ := kx E ce q u t T'.heap (locs ++ L) e1.symm (by rw [← e2]; exact X'.warmed.alike) hp hb k1 k2 k3 (by rw [e1]; exact hce) hcv hcl T' rfl X'
    exact ⟨t2, st.trans a1, b1⟩
theorem vx_calll {S SX : Type} {post : Int64 → S → Prop} {px : SX → Prop} {B : S → State → Prop} {BX : String → SX → State → Prop} {AX : Nat → Prop} (hr : vx_Run p l e R s m args below meth c H locs cells slots mc ms (F0 m pc ls st0) rest (va_Ql post B A1 a) (vx_X px BX AX) free) (hS : va_S A0 H0 H locs) (hA : ∀ q, q < H.size → A1 q → A0 q) (hf : ∀ q, free q → A0 q) (hAX : ∀ q, q < H.size → AX q → A0 q)
    (kx : ∀ (E : String) (ce : Cell) (q9 : Addr) (u : SX) (t : State) (H1 : Heap) (locs1 : List Loc), t.heap = H1 → s.vm.Alike t.vm → px u → BX E u t → H.size ≤ H1.size → (∀ q : Nat, q < H.size → ¬ AX q → H1[q]? = H[q]?) → va_S A0 H0 H1 locs1 → H1[q9]? = some ce → ce.vm = .none → s.vm.findClass E = some ce.cls → vx_W p l e R s m args below meth c H1 locs1 (cells + mc) (slots + ms) Q (F0 m pc ls rest) q9)
    (kk : ∀ (r : Int64) (u : S) (t : State) (H1 : Heap) (locs1 : List Loc), t.heap = H1 → s.vm.Alike t.vm → post r u → B u t → H.size ≤ H1.size → (∀ q : Nat, q < H.size → ¬ A1 q → H1[q]? = H[q]?) → va_S A0 H0 H1 locs1 → W p l e R s m args below meth c H1 locs1 (cells + mc) (slots + ms) Q (F0 m (pc + 3) ls (.long r :: rest))) : W p l e R s m args below meth c H locs cells slots Q (F0 m pc ls st0) := by
  intro T hT X
  rcases hr T hT X with ⟨v, st₀, t, T', L, h0, X', hL, e1, e2, ⟨⟨r, u, hv, hp, hb⟩, hF⟩, st⟩ | ⟨q, st₀, t, T', L, E, ce, h0, X', hL, e1, e2, ⟨u, hp, hb, hF⟩, hce, hcv, hcl, st⟩
  · cases hv
    obtain ⟨k1, k2, k3⟩ := vx_keep h0 e1 hS hA hf hL hF
    obtain ⟨t2, a1, b1⟩ := kk r u t T'.heap (locs ++ L) e1.symm (by rw [← e2]; exact X'.warmed.alike) hp hb k1 k2 k3 T' rfl X'
    exact ⟨t2, st t2 a1, b1⟩
  · obtain ⟨k1, k2, k3⟩ := vx_keep h0 e1 hS hAX hf hL hF
    obtain ⟨t2, a1, b1⟩ := kx E ce q u t T'.heap (locs ++ L) e1.symm (by rw [← e2]; exact X'.warmed.alike) hp hb k1 k2 k3 (by rw [e1]; exact hce) hcv hcl T' rfl X'
    exact ⟨t2, st.trans a1, b1⟩
theorem vx_callf {S SX : Type} {post : UInt32 → S → Prop} {px : SX → Prop} {B : S → State → Prop} {BX : String → SX → State → Prop} {AX : Nat → Prop} (hr : vx_Run p l e R s m args below meth c H locs cells slots mc ms (F0 m pc ls st0) rest (va_Qf post B A1 a) (vx_X px BX AX) free) (hS : va_S A0 H0 H locs) (hA : ∀ q, q < H.size → A1 q → A0 q) (hf : ∀ q, free q → A0 q) (hAX : ∀ q, q < H.size → AX q → A0 q)
    (kx : ∀ (E : String) (ce : Cell) (q9 : Addr) (u : SX) (t : State) (H1 : Heap) (locs1 : List Loc), t.heap = H1 → s.vm.Alike t.vm → px u → BX E u t → H.size ≤ H1.size → (∀ q : Nat, q < H.size → ¬ AX q → H1[q]? = H[q]?) → va_S A0 H0 H1 locs1 → H1[q9]? = some ce → ce.vm = .none → s.vm.findClass E = some ce.cls → vx_W p l e R s m args below meth c H1 locs1 (cells + mc) (slots + ms) Q (F0 m pc ls rest) q9)
    (kk : ∀ (r : UInt32) (u : S) (t : State) (H1 : Heap) (locs1 : List Loc), t.heap = H1 → s.vm.Alike t.vm → post r u → B u t → H.size ≤ H1.size → (∀ q : Nat, q < H.size → ¬ A1 q → H1[q]? = H[q]?) → va_S A0 H0 H1 locs1 → W p l e R s m args below meth c H1 locs1 (cells + mc) (slots + ms) Q (F0 m (pc + 3) ls (.float r :: rest))) : W p l e R s m args below meth c H locs cells slots Q (F0 m pc ls st0) := by
  intro T hT X
  rcases hr T hT X with ⟨v, st₀, t, T', L, h0, X', hL, e1, e2, ⟨⟨r, u, hv, hp, hb⟩, hF⟩, st⟩ | ⟨q, st₀, t, T', L, E, ce, h0, X', hL, e1, e2, ⟨u, hp, hb, hF⟩, hce, hcv, hcl, st⟩
  · cases hv
    obtain ⟨k1, k2, k3⟩ := vx_keep h0 e1 hS hA hf hL hF
    obtain ⟨t2, a1, b1⟩ := kk r u t T'.heap (locs ++ L) e1.symm (by rw [← e2]; exact X'.warmed.alike) hp hb k1 k2 k3 T' rfl X'
    exact ⟨t2, st t2 a1, b1⟩
  · obtain ⟨k1, k2, k3⟩ := vx_keep h0 e1 hS hAX hf hL hF
    obtain ⟨t2, a1, b1⟩ := kx E ce q u t T'.heap (locs ++ L) e1.symm (by rw [← e2]; exact X'.warmed.alike) hp hb k1 k2 k3 (by rw [e1]; exact hce) hcv hcl T' rfl X'
    exact ⟨t2, st.trans a1, b1⟩
theorem vx_calld {S SX : Type} {post : UInt64 → S → Prop} {px : SX → Prop} {B : S → State → Prop} {BX : String → SX → State → Prop} {AX : Nat → Prop} (hr : vx_Run p l e R s m args below meth c H locs cells slots mc ms (F0 m pc ls st0) rest (va_Qd post B A1 a) (vx_X px BX AX) free) (hS : va_S A0 H0 H locs) (hA : ∀ q, q < H.size → A1 q → A0 q) (hf : ∀ q, free q → A0 q) (hAX : ∀ q, q < H.size → AX q → A0 q)
    (kx : ∀ (E : String) (ce : Cell) (q9 : Addr) (u : SX) (t : State) (H1 : Heap) (locs1 : List Loc), t.heap = H1 → s.vm.Alike t.vm → px u → BX E u t → H.size ≤ H1.size → (∀ q : Nat, q < H.size → ¬ AX q → H1[q]? = H[q]?) → va_S A0 H0 H1 locs1 → H1[q9]? = some ce → ce.vm = .none → s.vm.findClass E = some ce.cls → vx_W p l e R s m args below meth c H1 locs1 (cells + mc) (slots + ms) Q (F0 m pc ls rest) q9)
    (kk : ∀ (r : UInt64) (u : S) (t : State) (H1 : Heap) (locs1 : List Loc), t.heap = H1 → s.vm.Alike t.vm → post r u → B u t → H.size ≤ H1.size → (∀ q : Nat, q < H.size → ¬ A1 q → H1[q]? = H[q]?) → va_S A0 H0 H1 locs1 → W p l e R s m args below meth c H1 locs1 (cells + mc) (slots + ms) Q (F0 m (pc + 3) ls (.double r :: rest))) : W p l e R s m args below meth c H locs cells slots Q (F0 m pc ls st0) := by
  intro T hT X
  rcases hr T hT X with ⟨v, st₀, t, T', L, h0, X', hL, e1, e2, ⟨⟨r, u, hv, hp, hb⟩, hF⟩, st⟩ | ⟨q, st₀, t, T', L, E, ce, h0, X', hL, e1, e2, ⟨u, hp, hb, hF⟩, hce, hcv, hcl, st⟩
  · cases hv
    obtain ⟨k1, k2, k3⟩ := vx_keep h0 e1 hS hA hf hL hF
    obtain ⟨t2, a1, b1⟩ := kk r u t T'.heap (locs ++ L) e1.symm (by rw [← e2]; exact X'.warmed.alike) hp hb k1 k2 k3 T' rfl X'
    exact ⟨t2, st t2 a1, b1⟩
  · obtain ⟨k1, k2, k3⟩ := vx_keep h0 e1 hS hAX hf hL hF
    obtain ⟨t2, a1, b1⟩ := kx E ce q u t T'.heap (locs ++ L) e1.symm (by rw [← e2]; exact X'.warmed.alike) hp hb k1 k2 k3 (by rw [e1]; exact hce) hcv hcl T' rfl X'
    exact ⟨t2, st.trans a1, b1⟩
theorem vx_callv {S SX : Type} {post : S → Prop} {px : SX → Prop} {B : S → State → Prop} {BX : String → SX → State → Prop} {AX : Nat → Prop} (hr : vx_Run p l e R s m args below meth c H locs cells slots mc ms (F0 m pc ls st0) rest (va_Qv post B A1 a) (vx_X px BX AX) free) (hS : va_S A0 H0 H locs) (hA : ∀ q, q < H.size → A1 q → A0 q) (hf : ∀ q, free q → A0 q) (hAX : ∀ q, q < H.size → AX q → A0 q)
    (kx : ∀ (E : String) (ce : Cell) (q9 : Addr) (u : SX) (t : State) (H1 : Heap) (locs1 : List Loc), t.heap = H1 → s.vm.Alike t.vm → px u → BX E u t → H.size ≤ H1.size → (∀ q : Nat, q < H.size → ¬ AX q → H1[q]? = H[q]?) → va_S A0 H0 H1 locs1 → H1[q9]? = some ce → ce.vm = .none → s.vm.findClass E = some ce.cls → vx_W p l e R s m args below meth c H1 locs1 (cells + mc) (slots + ms) Q (F0 m pc ls rest) q9)
    (kk : ∀ (u : S) (t : State) (H1 : Heap) (locs1 : List Loc), t.heap = H1 → s.vm.Alike t.vm → post u → B u t → H.size ≤ H1.size → (∀ q : Nat, q < H.size → ¬ A1 q → H1[q]? = H[q]?) → va_S A0 H0 H1 locs1 → W p l e R s m args below meth c H1 locs1 (cells + mc) (slots + ms) Q (F0 m (pc + 3) ls (rest))) : W p l e R s m args below meth c H locs cells slots Q (F0 m pc ls st0) := by
  intro T hT X
  rcases hr T hT X with ⟨v, st₀, t, T', L, h0, X', hL, e1, e2, ⟨⟨u, hv, hp, hb⟩, hF⟩, st⟩ | ⟨q, st₀, t, T', L, E, ce, h0, X', hL, e1, e2, ⟨u, hp, hb, hF⟩, hce, hcv, hcl, st⟩
  · cases hv
    obtain ⟨k1, k2, k3⟩ := vx_keep h0 e1 hS hA hf hL hF
    obtain ⟨t2, a1, b1⟩ := kk u t T'.heap (locs ++ L) e1.symm (by rw [← e2]; exact X'.warmed.alike) hp hb k1 k2 k3 T' rfl X'
    exact ⟨t2, st t2 a1, b1⟩
  · obtain ⟨k1, k2, k3⟩ := vx_keep h0 e1 hS hAX hf hL hF
    obtain ⟨t2, a1, b1⟩ := kx E ce q u t T'.heap (locs ++ L) e1.symm (by rw [← e2]; exact X'.warmed.alike) hp hb k1 k2 k3 (by rw [e1]; exact hce) hcv hcl T' rfl X'
    exact ⟨t2, st.trans a1, b1⟩
/-- caught by the row x of this method's table; the rows ahead don't take it -/
theorem vx_catch {own name : String} {E : String} {ce : Cell} {q : Addr} (hown : s.vm.findClass own = some m.cls) (pre : List ExceptionTableEntry) (x : ExceptionTableEntry) (suf : List ExceptionTableEntry) (hsplit : c.exceptionTable.toList = pre ++ x :: suf)
    (hpass : ∀ z ∈ pre, covers z pc = false ∨ (z.catchType ≠ 0 ∧ ∃ nm : String, (Cond.classLink own z.catchType nm).before args s = true ∧ va_Nc E nm s)) (hx : covers x pc = true) (h0 : x.catchType ≠ 0)
    (hlink : (Cond.classLink own x.catchType name).before args s = true) (hcast : (Cond.castable E name).before args s = true) (hcell : H[q]? = some ce) (hv : ce.vm = .none) (hcl : s.vm.findClass E = some ce.cls)
    (kk : W p l e R s m args below meth c H locs cells slots Q (F0 m x.handlerPc ls [.ref q])) : vx_W p l e R s m args below meth c H locs cells slots Q (F0 m pc ls rest) q := by
  intro T hT X
  have hpl : e.platform.magicAccessors = ({} : Platform).magicAccessors := by rw [X.admits.platform]
  obtain ⟨c3, c4, hc3, hc4, hasg⟩ := Cond.castable_spec hcast
  cases Option.some.inj (hc3.symm.trans hcl)
  obtain ⟨c5, hc5, hcl5⟩ := Cond.classLink_spec hown hlink e.platform hpl
  cases Option.some.inj (hc4.symm.trans hc5)
  obtain ⟨vm', X', st⟩ := X.thenCaughtThrough q (g := F0 m pc ls rest) rfl (Steps.refl _) (by rw [hT]; exact hcell) (by rw [hv]; rfl) (by obtain ⟨k9, h9, -⟩ := Vm.findClass_spec hcl; exact ⟨k9, h9⟩) pre x suf hsplit
    (fun z hz => by
      rcases hpass z hz with h | ⟨hz0, nm, hl1, hn1⟩
      · exact Or.inl h
      · obtain ⟨c6, hc6, hcl6⟩ := Cond.classLink_spec hown hl1 e.platform hpl
        obtain ⟨a8, b8, h1, h2, h3⟩ := hn1
        cases Option.some.inj (h1.symm.trans hcl)
        cases Option.some.inj (h2.symm.trans hc6)
        exact Or.inr ⟨hz0, _, hcl6, h3⟩) hx (Or.inr ⟨h0, c4, hcl5, hasg⟩)
  obtain ⟨t, a1, b1⟩ := kk (T.setVm vm') hT X'
  exact ⟨t, st.trans a1, b1⟩
end Rows
section Ends
variable {p : Program} {l : Launch} {e : Env} {R : Room} {s : State} {m : MethodId} {args : Array Value} {below : List Frame} {meth : Method} {c : Code} {H : Heap} {locs : List Loc} {cells slots : Nat} {Q : State → Prop}
variable {mc ms : Nat} {free : Addr → Prop} {A0 A1 : Nat → Prop} {H0 : Heap} {a : Array Value} {ls : Array Slot} {st0 rest : List Value}
variable {Qc : Array Value → State → Outcome → State → Prop} {XC : String → State → State → Prop}
/-- what a body that may throw owes at its end -/
def vx_MQ (below : List Frame) (Qc : Array Value → State → Outcome → State → Prop) (XC : String → State → State → Prop) (a : Array Value) (s : State) (mc ms : Nat) (free : Addr → Prop) : State → Prop := fun t =>
  ∃ o, t.status = .running ∧ Ended t below o ∧ vx_Q Qc XC mc ms free a s o t
theorem vx_ret {g : JFrame} {mc ms : Nat} (k : W p l e R s m args below meth c H locs cells slots (MQ below Qc args s mc ms free) g) : W p l e R s m args below meth c H locs cells slots (vx_MQ below Qc XC args s mc ms free) g := by
  intro T hT X
  obtain ⟨t, a1, o, b1, b2, b3, b4⟩ := k T hT X
  exact ⟨t, a1, o, b1, b2, Or.inl ⟨b3, b4⟩⟩
/-- not caught here: it goes on to the caller -/
theorem vx_widen {g : JFrame} {q : Addr} {k n : Nat} (h1 : cells ≤ k) (h2 : slots ≤ n) (kk : vx_W p l e R s m args below meth c H locs k n Q g q) : vx_W p l e R s m args below meth c H locs cells slots Q g q := fun T hT X => kk T hT (stand_widen X h1 h2)
theorem vx_out {pc : Nat} {E : String} {ce : Cell} {q : Addr} {mc ms : Nat} (hout : ∀ x ∈ c.exceptionTable.toList, covers x pc = false) (hlocks : meth.locks = false) (hcell : H[q]? = some ce) (hv : ce.vm = .none) (hcl : s.vm.findClass E = some ce.cls)
    (hx : ∀ t : State, t.heap = H → s.vm.Alike t.vm → XC E s t) (hf : ∀ z ∈ locs, free z.base) (hc : cells ≤ mc) (hs : slots ≤ ms) :
    vx_W p l e R s m args below meth c H locs cells slots (vx_MQ below Qc XC args s mc ms free) (F0 m pc ls rest) q := by
  intro T hT X
  obtain ⟨st1, hrun, hend, hW, hsm⟩ := X.leaveThrown q (g := F0 m pc ls rest) rfl rfl rfl hout hlocks
  have hcell9 : (T.setFrames (.throwing q :: below)).heap[q]? = some ce := by
    show T.heap[q]? = some ce
    rw [hT]; exact hcell
  exact ⟨_, st1, .threw q, hrun, hend, Or.inr ⟨q, rfl, E, ce, locs, hx _ hT hW.alike, hcell9, hv, hcl, hW, hsm.mono hc hs, hf⟩⟩
theorem vx_frame {U : State} {k n : Nat} (h : s.sameButNew ({ U with vm := s.vm } : State) locs k n) : s.heap.size ≤ U.heap.size ∧ ∀ q : Nat, q < s.heap.size → (∀ z ∈ locs, z.base ≠ q) → U.heap[q]? = s.heap[q]? := by
  obtain ⟨-, h2, -, -, -, h6⟩ := h
  refine ⟨h2, fun q hq hz => ?_⟩
  obtain ⟨c9, e1, e2, e3, e4⟩ := h6 q _ (Array.getElem?_eq_getElem hq)
  have hs : c9.slots = (s.heap[q]).slots := Array.ext_getElem? fun i => e4 i fun hm => hz _ hm rfl
  have h9 : c9 = s.heap[q] := by
    rw [hs] at e2
    exact e2
  have e5 : U.heap[q]? = some c9 := e1
  rw [e5, h9, Array.getElem?_eq_getElem hq]
/-- the words of a throw but the four that speak of the heap -/
def vx_no (w : Cond) : Bool := decide (w ≠ .isRef (.static Bundle.tN "UNASSIGNED_STACK" Bundle.steD)) && decide (w ≠ .isRef (.static Bundle.tN "SUPPRESSED_SENTINEL" Bundle.listD)) && decide (w ≠ .laysStatic Bundle.tN "UNASSIGNED_STACK" Bundle.steD) && decide (w ≠ .laysStatic Bundle.tN "SUPPRESSED_SENTINEL" Bundle.listD)
def vx_at0 (own : String) (ic : Nat) (X : String) (names : List String) : List Cond := (Bundle.ownAtoms0 own ic X names).filter vx_no
def vx_atS (own : String) (ic : Nat) (X : String) (names : List String) : List Cond := (Bundle.ownAtoms own ic X names).filter vx_no
/-- a word that the tables alone decide, or a good one -/
def vx_ot (w : Cond) : Bool := w.onTables || goodWord w
theorem vx_ot_at {args a' : Array Value} {s U : State} {w : Cond} (hW : s.WarmedH U.vm) (hvm : s.vm = U.vm) (hg : vx_ot w = true) (h : w.before args s = true) : w.before a' U = true := by
  simp only [vx_ot, Bool.or_eq_true] at hg
  rcases hg with hg | hg
  · exact va_tabs hg hvm h
  · exact word_at hW (good_of_word hg) h
/-- a list's words: the good ones out of the method's own list, the others by premises of their own -/
theorem vx_hat {args : Array Value} {s : State} {L B : List Cond} (h1 : ∀ w ∈ L.filter goodWord, w.before args s = true) (h2 : ∀ w ∈ L.filter (fun w => !goodWord w), w ∈ B) (h3 : ∀ w ∈ B, w.before args s = true) : ∀ w ∈ L, w.before args s = true := by
  intro w hw
  by_cases g : goodWord w = true
  · exact h1 w (List.mem_filter.mpr ⟨hw, g⟩)
  · refine h3 w (h2 w (List.mem_filter.mpr ⟨hw, ?_⟩))
    show (!goodWord w) = true
    cases hgw : goodWord w
    · rfl
    · exact absurd hgw g
theorem vx_c {args : Array Value} {s : State} {w : Cond} {B : List Cond} (h : w.before args s = true) (t : ∀ w ∈ B, w.before args s = true) : ∀ w' ∈ w :: B, w'.before args s = true := fun w' h' => (List.mem_cons.mp h').elim (fun e => by rw [e]; exact h) (t w')
theorem vx_n {args : Array Value} {s : State} : ∀ w ∈ ([] : List Cond), w.before args s = true := fun _ h => nomatch h
theorem vx_own {args : Array Value} {s : State} {L : List Cond} (h1 : ∀ w ∈ L.filter vx_no, w.before args s = true)
    (hU : (Cond.isRef (.static Bundle.tN "UNASSIGNED_STACK" Bundle.steD)).before args s = true) (hN : (Cond.isRef (.static Bundle.tN "SUPPRESSED_SENTINEL" Bundle.listD)).before args s = true)
    (lU : (Cond.laysStatic Bundle.tN "UNASSIGNED_STACK" Bundle.steD).before args s = true) (lN : (Cond.laysStatic Bundle.tN "SUPPRESSED_SENTINEL" Bundle.listD).before args s = true) : ∀ w ∈ L, w.before args s = true := by
  intro w hw
  by_cases e1 : w = .isRef (.static Bundle.tN "UNASSIGNED_STACK" Bundle.steD)
  · rw [e1]; exact hU
  · by_cases e2 : w = .isRef (.static Bundle.tN "SUPPRESSED_SENTINEL" Bundle.listD)
    · rw [e2]; exact hN
    · by_cases e3 : w = .laysStatic Bundle.tN "UNASSIGNED_STACK" Bundle.steD
      · rw [e3]; exact lU
      · by_cases e4 : w = .laysStatic Bundle.tN "SUPPRESSED_SENTINEL" Bundle.listD
        · rw [e4]; exact lN
        · exact h1 w (List.mem_filter.mpr ⟨hw, by unfold vx_no; rw [decide_eq_true e1, decide_eq_true e2, decide_eq_true e3, decide_eq_true e4]; rfl⟩)
/-- where a static field lies, its class's statics cell in H -/
def vx_L (C n d : String) (A : Nat → Prop) (U : State) (H : Heap) : Prop := ∃ (c : ClassId) (k : Class) (i : Nat) (f : Field) (a : Nat) (cell : Cell), U.vm.findClass C = some c ∧ U.fieldFound? C n d = some (c, k, i, f) ∧ f.isStatic = true ∧ k.statics = some a ∧ H[a]? = some cell ∧ cell.vm.isStatics = true ∧ cell.cls = c ∧ f.slot < cell.slots.size ∧ k.staticTypes[f.slot]? = some f.type ∧ ¬ A a
theorem vx_L.moved {C n d : String} {A : Nat → Prop} {u U : State} {H : Heap} (hvm : u.vm.Alike U.vm) (h : vx_L C n d A u H) : vx_L C n d A U H := by
  obtain ⟨c, k, i, f, a, cell, h1, h2, h3, h4, h5, h6, h7, h8, h9, h10⟩ := h
  obtain ⟨k', hi', he⟩ := State.fieldFound?_setVm hvm h2
  exact ⟨c, k', i, f, a, cell, by rw [hvm.findClass]; exact h1, hi', h3, by rw [he]; exact h4, h5, h6, h7, h8, by rw [he]; exact h9, h10⟩
theorem vx_L.kept {C n d : String} {A : Nat → Prop} {U : State} {H H1 : Heap} (h : vx_L C n d A U H) (hq : ∀ a : Nat, a < H.size → ¬ A a → H1[a]? = H[a]?) : vx_L C n d A U H1 := by
  obtain ⟨c, k, i, f, a, cell, h1, h2, h3, h4, h5, h6, h7, h8, h9, h10⟩ := h
  exact ⟨c, k, i, f, a, cell, h1, h2, h3, h4, by rw [hq a (Array.getElem?_eq_some_iff.mp h5).1 h10]; exact h5, h6, h7, h8, h9, h10⟩
theorem vx_L.narrow {C n d : String} {A B : Nat → Prop} {U : State} {H : Heap} (h : vx_L C n d A U H) (hAB : ∀ q, B q → A q) : vx_L C n d B U H := by
  obtain ⟨c, k, i, f, a, cell, h1, h2, h3, h4, h5, h6, h7, h8, h9, h10⟩ := h
  exact ⟨c, k, i, f, a, cell, h1, h2, h3, h4, h5, h6, h7, h8, h9, fun z => h10 (hAB _ z)⟩
theorem vx_L.word {C n d : String} {A : Nat → Prop} {s : State} {args : Array Value} (h : vx_L C n d A s s.heap) : (Cond.laysStatic C n d).before args s = true := by
  obtain ⟨c, k, i, f, a, cell, h1, h2, h3, h4, h5, h6, h7, h8, h9, -⟩ := h
  show (Cond.laysStatic C n d).holds args s none s [] = true
  exact Cond.laysStatic_of h1 h2 h3 h4 h5 h6 h7 h8 h9
/-- .. and what it holds: null or some reference -/
def vx_Zq (C n d : String) (A : Nat → Prop) (U : State) (H : Heap) : Prop := va_Zq C n d A U H ∧ vx_L C n d A U H
theorem vx_Zq.moved {C n d : String} {A : Nat → Prop} {u U : State} {H : Heap} (hvm : u.vm.Alike U.vm) (h : vx_Zq C n d A u H) : vx_Zq C n d A U H := ⟨va_Zq.moved hvm h.1, vx_L.moved hvm h.2⟩
theorem vx_Zq.kept {C n d : String} {A : Nat → Prop} {U : State} {H H1 : Heap} (h : vx_Zq C n d A U H) (hq : ∀ a : Nat, a < H.size → ¬ A a → H1[a]? = H[a]?) : vx_Zq C n d A U H1 := ⟨va_Zq.kept h.1 hq, vx_L.kept h.2 hq⟩
theorem vx_Zq.narrow {C n d : String} {A B : Nat → Prop} {U : State} {H : Heap} (h : vx_Zq C n d A U H) (hAB : ∀ q, B q → A q) : vx_Zq C n d B U H := ⟨va_Zq.narrow h.1 hAB, vx_L.narrow h.2 hAB⟩
theorem vx_Zqof {args : Array Value} {s : State} {C n d : String} {A : Nat → Prop} (hl : (Cond.laysStatic C n d).before args s = true) (hini : (Cond.initialized C).before args s = true) (h : (Cond.isRef (.static C n d)).before args s = true) (hA : ∀ a : Nat, a < s.heap.size → ¬ A a) : vx_Zq C n d A s s.heap := by
  refine ⟨va_Zqof hl hini h hA, ?_⟩
  obtain ⟨c, k, i, f, a, cell, h1, h2, h3, h4, h5, h6, h7, h8, h9⟩ := Cond.laysStatic_spec hl
  exact ⟨c, k, i, f, a, cell, h1, h2, h3, h4, h5, h6, h7, h8, h9, hA a (Array.getElem?_eq_some_iff.mp h5).1⟩
theorem vx_isRef {C n d : String} {v : Value} {A : Nat → Prop} {s : State} {args : Array Value} (h : va_Z C n d v A s s.heap) (hv : v.isRef = true) : (Cond.isRef (.static C n d)).before args s = true := by
  obtain ⟨cf, kf, fi, f, a, cell, h1, h2, h3, h4, h5, h6, h7, -⟩ := h
  have he : (Term.static C n d).eval args s none [] s = some v := by
    simp [Term.eval, State.fieldNamed?, h1, h2, h4, h5, h6, h7]
  simp only [Cond.before, Cond.holds, Cond.value, he]
  cases v <;> simp_all [Value.isRef]
theorem vx_isRefq {C n d : String} {A : Nat → Prop} {s : State} {args : Array Value} (h : va_Zq C n d A s s.heap) : (Cond.isRef (.static C n d)).before args s = true := by
  rcases h with h | ⟨t, h⟩
  · exact vx_isRef h rfl
  · exact vx_isRef h rfl
/-- the same frame, seen from here: as if the method were called anew in this heap -/
theorem vx_rebase {T : State} (X : Stand p l e R s m args below meth c T locs cells slots) {R' : Room} (hf : R'.frames ≤ R.frames) (hl : R'.locals ≤ R.locals) (hc : cells + R'.cells ≤ R.cells) (hs : slots + R'.slots ≤ R.slots) :
    Stand p l e R' ((T.setVm s.vm).setFrames (.invoking m args :: below)) m args below meth c T [] 0 0 := by
  have htop : (T.setVm s.vm).topJava?.isSome := X.here.top
  have hF : ((T.setVm s.vm).setFrames (.invoking m args :: below)).frames = .invoking m args :: below := State.frames_setFrames _ (State.cur_lt_of_top htop)
  obtain ⟨g₀, hg0⟩ := Option.isSome_iff_exists.mp htop
  obtain ⟨r, hr⟩ := State.topJava?_eq_some.mp hg0
  have hl9 : e.platform.stackLimits (T.setVm s.vm).me = e.platform.stackLimits s.me := X.limits
  have hb9 : (T.setVm s.vm).me.stackBytes = s.me.stackBytes := X.bytes
  refine ⟨X.admits, X.cas, X.clock, hF, ?_, X.hears, X.method, X.code, X.here, X.tail, X.warmed, ?_, ?_, ?_⟩
  · have h := X.room
    have hU : ((T.setVm s.vm).setFrames (.invoking m args :: below)).localsInUse = s.localsInUse := by
      rw [State.localsInUse_invoking hF (meth := meth) (c := c) X.method X.code, State.localsInUse_invoking X.frames X.method X.code]
    simp only [State.hasRoom, Bool.and_eq_true, decide_eq_true_eq] at h ⊢
    obtain ⟨⟨⟨⟨h1, h2, h3, h4, h5, h6⟩, h7⟩, h8⟩, h9⟩ := h
    rw [X.frames, List.length_cons] at h2 h3
    have q1 := X.heapSize
    have q2 := X.used
    simp only [hF, hU, List.length_cons, State.stackLimits_setFrames, State.stackBytes_setFrames, hl9, hb9]
    refine ⟨⟨⟨⟨by omega, by omega, by omega, by omega, by omega, h6⟩, ?_⟩, ?_⟩, X.book⟩
    · show T.heap.size + R'.cells ≤ e.platform.maxCells
      omega
    · show T.slotsUsed + R'.slots ≤ e.platform.maxSlots
      omega
  · rw [State.stackLimits_setFrames]; rfl
  · rw [State.stackBytes_setFrames]; rfl
  · refine ⟨?_, Nat.le_refl _, Nat.le_refl _, ?_, ?_, fun a c9 h9 => ⟨c9, h9, rfl, rfl, fun _ _ => rfl⟩⟩
    · obtain ⟨t, ht, -⟩ := State.frames_cons hr
      show T.setVm s.vm = { ((T.setVm s.vm).setFrames (.invoking m args :: below)).setFrames (T.setVm s.vm).frames with heap := T.heap, slotsUsed := T.slotsUsed }
      rw [State.setFrames_setFrames, State.setFrames_self ht]
      rfl
    · show T.slotsUsed = T.slotsUsed + ((T.heap.toList.drop T.heap.size).map (·.slots.size)).sum
      rw [List.drop_eq_nil_of_le (Nat.le_of_eq Array.length_toList)]
      rfl
    · show ((T.heap.toList.drop T.heap.size).map (·.slots.size)).sum ≤ 0
      rw [List.drop_eq_nil_of_le (Nat.le_of_eq Array.length_toList)]
      exact Nat.le_refl _
/-- 'throw new E()': new; dup; invokespecial; athrow -/
theorem vx_throw0 {cc : ByteArray} {pc : Nat} (hexec : p.tables.exec = Jvm.exec) (hb : c.code = cc) (hl : l.stackTraces = false) {own cls : String} {names : List String} {ik ic mc ms : Nat} {A : Nat → Prop}
    (hown : s.vm.findClass own = some m.cls) (hcls : Bundle.fit cls = true) (hnames : ∀ n ∈ names, Bundle.fit n = true)
    (hk : (Cond.classLink own ik cls).before args s = true) (hini : (Cond.initialized cls).before args s = true) (hat : ∀ w ∈ vx_at0 own ic cls names, w.before args s = true)
    (hgood : ∀ w ∈ Cond.classLink own ik cls :: Cond.initialized cls :: vx_at0 own ic cls names, vx_ot w = true)
    (hU : vx_Zq Bundle.tN "UNASSIGNED_STACK" Bundle.steD A s s.heap) (hN : vx_Zq Bundle.tN "SUPPRESSED_SENTINEL" Bundle.listD A s s.heap) (hS : va_S A s.heap H locs) (hsize : ls.size = c.maxLocals)
    (d0 : decode cc pc = .ok (.new ik, 3)) (d3 : decode cc (pc + 3) = .ok (.dup, 1)) (d4 : decode cc (pc + 4) = .ok (.invokespecial ic, 3)) (d7 : decode cc (pc + 7) = .ok (.athrow, 1))
    (hout : ∀ x ∈ c.exceptionTable.toList, covers x (pc + 7) = false)
    (hRframes : names.length + 3 < R.frames) (hRlocals : (rest.map fun v => v.category).sum + (13 * (names.length + 1) + 42) ≤ R.locals) (hRcells : cells + 1 ≤ R.cells) (hRslots : slots + 6 ≤ R.slots) (hlocks : meth.locks = false)
    (hx : ∀ t : State, s.vm.Alike t.vm → H.size ≤ t.heap.size → (∀ q : Nat, q < H.size → t.heap[q]? = H[q]?) → XC cls s t)
    (hf : ∀ z ∈ locs, free z.base) (hc : cells + 1 ≤ mc) (hs : slots + 6 ≤ ms) :
    W p l e R s m args below meth c H locs cells slots (vx_MQ below Qc XC args s mc ms free) (F0 m pc ls rest) := by
  intro T hT X
  have htr : e.platform.stackTraces = false := (show e.platform.stackTraces = l.stackTraces by rw [X.admits.platform]).trans hl
  have Y := vx_rebase X (R' := { frames := R.frames, locals := R.locals, cells := 1, slots := 6 }) (Nat.le_refl _) (Nat.le_refl _) hRcells hRslots
  obtain ⟨s', hA⟩ : ∃ z, z = (T.setVm s.vm).setFrames (.invoking m args :: below) := ⟨_, rfl⟩
  rw [← hA] at Y
  have hvm : s'.vm = s.vm := by rw [hA]; rfl
  have hhp : s'.heap = H := by rw [hA]; exact hT
  have hW0 : s.WarmedH s'.vm := by rw [hvm]; exact State.WarmedH.refl s
  have hat' : ∀ w ∈ vx_at0 own ic cls names, w.before args s' = true := fun w hw => vx_ot_at hW0 hvm.symm (hgood w (List.mem_cons_of_mem _ (List.mem_cons_of_mem _ hw))) (hat w hw)
  have hk' : (Cond.classLink own ik cls).before args s' = true := vx_ot_at hW0 hvm.symm (hgood _ List.mem_cons_self) hk
  have hini' : (Cond.initialized cls).before args s' = true := vx_ot_at hW0 hvm.symm (hgood _ (List.mem_cons_of_mem _ List.mem_cons_self)) hini
  have hU' : vx_Zq Bundle.tN "UNASSIGNED_STACK" Bundle.steD A s' s'.heap := by rw [hhp]; exact vx_Zq.moved hW0.alike (hU.kept hS.2.1)
  have hN' : vx_Zq Bundle.tN "SUPPRESSED_SENTINEL" Bundle.listD A s' s'.heap := by rw [hhp]; exact vx_Zq.moved hW0.alike (hN.kept hS.2.1)
  have h : ∀ w ∈ Bundle.ownAtoms0 own ic cls names, w.before args s' = true := vx_own hat' (vx_isRefq hU'.1) (vx_isRefq hN'.1) hU'.2.word hN'.2.word
  have hown' : s'.vm.findClass own = some m.cls := by rw [hvm]; exact hown
  have hins : (Cond.instantiable cls 6).before args s' = true := h _ (by simp [Bundle.ownAtoms0])
  obtain ⟨vm₁, cX, kX, hfX, hkX, -, -, X₁, st1⟩ := Y.newCold hexec (own := own) (C := cls) (index := ik) (n := 6) hown' hk' hins hini'
    (g := F0 m pc ls rest) rfl (by rw [hb]; exact d0) (Nat.le_refl _) (Nat.le_refl _)
  generalize hT1 : (T.setVm vm₁).pushCell { cls := cX, slots := kX.instanceTypes.map defaultValue, vm := .none } = T1 at X₁ st1
  have hcat : (Value.ref T.heap.size).category = 1 := rfl
  have hcellA : T1.heap[T.heap.size]? = some (freshCell cX kX) := by rw [← hT1]; exact State.heap_pushCell_size _ _
  have d3' : decode c.code (pc + 3) = .ok (.dup, 1) := by rw [hb]; exact d3
  obtain ⟨U, hsteps, hrun, hend, hW, hsame, ce, hce, hO⟩ := X₁.ctorThrow0 hexec htr (own := own) (cls := cls) (names := names) (ic := ic) hown' hcls hnames h (fun x hx => nomatch hx) hfX hkX hcellA (by rw [hhp, hT]; exact Nat.le_refl _)
    (g := { method := m, pc := pc + 4, locals := ls, stack := .ref T.heap.size :: .ref T.heap.size :: rest, locked := none }) rfl hsize rfl rfl (rest := rest) rfl
    (by rw [hb]; exact d4) (by rw [hb]; exact d7) hout hRframes (by simp only [List.map_cons, List.sum_cons, hcat]; omega) hlocks
  obtain ⟨f1, f2⟩ := vx_frame hsame
  rw [hhp] at f1 f2
  have hWs : s.WarmedH U.vm := State.WarmedH.trans hW0 hW
  have hcl : s.vm.findClass cls = some ce.cls := by
    have h9 := hO.cls
    rw [hvm] at h9
    exact h9
  have hall : s.sameButNew ({ U with vm := s.vm } : State) locs mc ms := by
    subst hA
    obtain ⟨e1, e2⟩ := hsame
    rw [State.setFrames_setFrames] at e1
    have h2 : (T.setVm s.vm).sameButNew ({ U with vm := s.vm } : State) [] (0 + 1) (0 + 6) := ⟨e1, e2⟩
    have h3 := X.same.trans h2
    rw [List.append_nil] at h3
    exact h3.mono hc hs
  refine ⟨U, ?_, .threw T.heap.size, hrun, hend, Or.inr ⟨T.heap.size, rfl, cls, ce, locs, hx U hWs.alike f1 (fun q hq => f2 q hq (fun z hz => nomatch hz)), hce, hO.vm, hcl, hWs, hall, hf⟩⟩
  refine st1 _ ?_
  show Steps p.tables e below (T1.setTop { method := m, pc := pc + 3, locals := ls, stack := .ref T.heap.size :: rest, locked := none }) _
  jvm_step X₁.here [X₁.here.top, hexec, d3', Value.category]
  exact hsteps
/-- 'throw new E("text")': new; dup; ldc; invokespecial; athrow -/
theorem vx_throwS {cc : ByteArray} {pc : Nat} (hexec : p.tables.exec = Jvm.exec) (hb : c.code = cc) (hl : l.stackTraces = false) {own cls text : String} {names : List String} {ik is ic mc ms sa : Nat} {A : Nat → Prop}
    (hown : s.vm.findClass own = some m.cls) (hcls : Bundle.fit cls = true) (hnames : ∀ n ∈ names, Bundle.fit n = true)
    (hk : (Cond.classLink own ik cls).before args s = true) (hini : (Cond.initialized cls).before args s = true) (hstr : vk_R own is text sa s) (hat : ∀ w ∈ vx_atS own ic cls names, w.before args s = true)
    (hgood : ∀ w ∈ Cond.classLink own ik cls :: Cond.initialized cls :: vx_atS own ic cls names, vx_ot w = true)
    (hU : vx_Zq Bundle.tN "UNASSIGNED_STACK" Bundle.steD A s s.heap) (hN : vx_Zq Bundle.tN "SUPPRESSED_SENTINEL" Bundle.listD A s s.heap) (hS : va_S A s.heap H locs) (hsize : ls.size = c.maxLocals)
    (d0 : decode cc pc = .ok (.new ik, 3)) (d3 : decode cc (pc + 3) = .ok (.dup, 1)) (d4 : decode cc (pc + 4) = .ok (.ldc is, 2)) (d6 : decode cc (pc + 6) = .ok (.invokespecial ic, 3)) (d9 : decode cc (pc + 9) = .ok (.athrow, 1))
    (hout : ∀ x ∈ c.exceptionTable.toList, covers x (pc + 9) = false)
    (hRframes : names.length + 3 < R.frames) (hRlocals : (rest.map fun v => v.category).sum + (13 * (names.length + 1) + 43) ≤ R.locals) (hRcells : cells + 1 ≤ R.cells) (hRslots : slots + 6 ≤ R.slots) (hlocks : meth.locks = false)
    (hx : ∀ t : State, s.vm.Alike t.vm → H.size ≤ t.heap.size → (∀ q : Nat, q < H.size → t.heap[q]? = H[q]?) → XC cls s t)
    (hf : ∀ z ∈ locs, free z.base) (hc : cells + 1 ≤ mc) (hs : slots + 6 ≤ ms) :
    W p l e R s m args below meth c H locs cells slots (vx_MQ below Qc XC args s mc ms free) (F0 m pc ls rest) := by
  intro T hT X
  have htr : e.platform.stackTraces = false := (show e.platform.stackTraces = l.stackTraces by rw [X.admits.platform]).trans hl
  have Y := vx_rebase X (R' := { frames := R.frames, locals := R.locals, cells := 1, slots := 6 }) (Nat.le_refl _) (Nat.le_refl _) hRcells hRslots
  obtain ⟨s', hA⟩ : ∃ z, z = (T.setVm s.vm).setFrames (.invoking m args :: below) := ⟨_, rfl⟩
  rw [← hA] at Y
  have hvm : s'.vm = s.vm := by rw [hA]; rfl
  have hhp : s'.heap = H := by rw [hA]; exact hT
  have hW0 : s.WarmedH s'.vm := by rw [hvm]; exact State.WarmedH.refl s
  have hat' : ∀ w ∈ vx_atS own ic cls names, w.before args s' = true := fun w hw => vx_ot_at hW0 hvm.symm (hgood w (List.mem_cons_of_mem _ (List.mem_cons_of_mem _ hw))) (hat w hw)
  have hk' : (Cond.classLink own ik cls).before args s' = true := vx_ot_at hW0 hvm.symm (hgood _ List.mem_cons_self) hk
  have hini' : (Cond.initialized cls).before args s' = true := vx_ot_at hW0 hvm.symm (hgood _ (List.mem_cons_of_mem _ List.mem_cons_self)) hini
  have hU' : vx_Zq Bundle.tN "UNASSIGNED_STACK" Bundle.steD A s' s'.heap := by rw [hhp]; exact vx_Zq.moved hW0.alike (hU.kept hS.2.1)
  have hN' : vx_Zq Bundle.tN "SUPPRESSED_SENTINEL" Bundle.listD A s' s'.heap := by rw [hhp]; exact vx_Zq.moved hW0.alike (hN.kept hS.2.1)
  have h : ∀ w ∈ Bundle.ownAtoms own ic cls names, w.before args s' = true := vx_own hat' (vx_isRefq hU'.1) (vx_isRefq hN'.1) hU'.2.word hN'.2.word
  have hown' : s'.vm.findClass own = some m.cls := by rw [hvm]; exact hown
  have hins : (Cond.instantiable cls 6).before args s' = true := h _ (by simp [Bundle.ownAtoms])
  obtain ⟨vm₁, cX, kX, hfX, hkX, -, -, X₁, st1⟩ := Y.newCold hexec (own := own) (C := cls) (index := ik) (n := 6) hown' hk' hins hini'
    (g := F0 m pc ls rest) rfl (by rw [hb]; exact d0) (Nat.le_refl _) (Nat.le_refl _)
  generalize hT1 : (T.setVm vm₁).pushCell { cls := cX, slots := kX.instanceTypes.map defaultValue, vm := .none } = T1 at X₁ st1
  have hcat : (Value.ref T.heap.size).category = 1 := rfl
  have hcellA : T1.heap[T.heap.size]? = some (freshCell cX kX) := by rw [← hT1]; exact State.heap_pushCell_size _ _
  have d3' : decode c.code (pc + 3) = .ok (.dup, 1) := by rw [hb]; exact d3
  have d4' : decode c.code (pc + 4) = .ok (.ldc is, 2) := by rw [hb]; exact d4
  have hstr' : vk_R own is text sa s' := vk_R.warm hW0 hstr
  obtain ⟨U, hsteps, hrun, hend, hW, hsame, ce, hce, hO⟩ := X₁.ctorThrowS hexec htr (own := own) (cls := cls) (names := names) (ic := ic) hown' hcls hnames h (fun x hx => nomatch hx) hfX hkX hcellA (by rw [hhp, hT]; exact Nat.le_refl _) (msg := .ref sa) rfl
    (g := { method := m, pc := pc + 6, locals := ls, stack := .ref sa :: .ref T.heap.size :: .ref T.heap.size :: rest, locked := none }) rfl hsize rfl rfl (rest := rest) rfl
    (by rw [hb]; exact d6) (by rw [hb]; exact d9) hout hRframes (by simp only [List.map_cons, List.sum_cons, hcat]; omega) hlocks
  obtain ⟨f1, f2⟩ := vx_frame hsame
  rw [hhp] at f1 f2
  have hWs : s.WarmedH U.vm := State.WarmedH.trans hW0 hW
  have hcl : s.vm.findClass cls = some ce.cls := by
    have h9 := hO.cls
    rw [hvm] at h9
    exact h9
  have hall : s.sameButNew ({ U with vm := s.vm } : State) locs mc ms := by
    subst hA
    obtain ⟨e1, e2⟩ := hsame
    rw [State.setFrames_setFrames] at e1
    have h2 : (T.setVm s.vm).sameButNew ({ U with vm := s.vm } : State) [] (0 + 1) (0 + 6) := ⟨e1, e2⟩
    have h3 := X.same.trans h2
    rw [List.append_nil] at h3
    exact h3.mono hc hs
  refine ⟨U, ?_, .threw T.heap.size, hrun, hend, Or.inr ⟨T.heap.size, rfl, cls, ce, locs, hx U hWs.alike f1 (fun q hq => f2 q hq (fun z hz => nomatch hz)), hce, hO.vm, hcl, hWs, hall, hf⟩⟩
  refine st1 _ ?_
  show Steps p.tables e below (T1.setTop { method := m, pc := pc + 3, locals := ls, stack := .ref T.heap.size :: rest, locked := none }) _
  jvm_step X₁.here [X₁.here.top, hexec, d3', Value.category]
  exact X₁.ldcString hexec (own := own) (text := text) (index := is) (a := sa) hown' hstr'.1 hstr'.2
    (g := { method := m, pc := pc + 4, locals := ls, stack := .ref T.heap.size :: .ref T.heap.size :: rest, locked := none }) rfl d4' _ hsteps
/-- 'throw new E("text")', the text by a wide index -/
theorem vx_throwSW {cc : ByteArray} {pc : Nat} (hexec : p.tables.exec = Jvm.exec) (hb : c.code = cc) (hl : l.stackTraces = false) {own cls text : String} {names : List String} {ik is ic mc ms sa : Nat} {A : Nat → Prop}
    (hown : s.vm.findClass own = some m.cls) (hcls : Bundle.fit cls = true) (hnames : ∀ n ∈ names, Bundle.fit n = true)
    (hk : (Cond.classLink own ik cls).before args s = true) (hini : (Cond.initialized cls).before args s = true) (hstr : vk_R own is text sa s) (hat : ∀ w ∈ vx_atS own ic cls names, w.before args s = true)
    (hgood : ∀ w ∈ Cond.classLink own ik cls :: Cond.initialized cls :: vx_atS own ic cls names, vx_ot w = true)
    (hU : vx_Zq Bundle.tN "UNASSIGNED_STACK" Bundle.steD A s s.heap) (hN : vx_Zq Bundle.tN "SUPPRESSED_SENTINEL" Bundle.listD A s s.heap) (hS : va_S A s.heap H locs) (hsize : ls.size = c.maxLocals)
    (d0 : decode cc pc = .ok (.new ik, 3)) (d3 : decode cc (pc + 3) = .ok (.dup, 1)) (d4 : decode cc (pc + 4) = .ok (.ldc_w is, 3)) (d7 : decode cc (pc + 7) = .ok (.invokespecial ic, 3)) (d10 : decode cc (pc + 10) = .ok (.athrow, 1))
    (hout : ∀ x ∈ c.exceptionTable.toList, covers x (pc + 10) = false)
    (hRframes : names.length + 3 < R.frames) (hRlocals : (rest.map fun v => v.category).sum + (13 * (names.length + 1) + 43) ≤ R.locals) (hRcells : cells + 1 ≤ R.cells) (hRslots : slots + 6 ≤ R.slots) (hlocks : meth.locks = false)
    (hx : ∀ t : State, s.vm.Alike t.vm → H.size ≤ t.heap.size → (∀ q : Nat, q < H.size → t.heap[q]? = H[q]?) → XC cls s t)
    (hf : ∀ z ∈ locs, free z.base) (hc : cells + 1 ≤ mc) (hs : slots + 6 ≤ ms) :
    W p l e R s m args below meth c H locs cells slots (vx_MQ below Qc XC args s mc ms free) (F0 m pc ls rest) := by
  intro T hT X
  have htr : e.platform.stackTraces = false := (show e.platform.stackTraces = l.stackTraces by rw [X.admits.platform]).trans hl
  have Y := vx_rebase X (R' := { frames := R.frames, locals := R.locals, cells := 1, slots := 6 }) (Nat.le_refl _) (Nat.le_refl _) hRcells hRslots
  obtain ⟨s', hA⟩ : ∃ z, z = (T.setVm s.vm).setFrames (.invoking m args :: below) := ⟨_, rfl⟩
  rw [← hA] at Y
  have hvm : s'.vm = s.vm := by rw [hA]; rfl
  have hhp : s'.heap = H := by rw [hA]; exact hT
  have hW0 : s.WarmedH s'.vm := by rw [hvm]; exact State.WarmedH.refl s
  have hat' : ∀ w ∈ vx_atS own ic cls names, w.before args s' = true := fun w hw => vx_ot_at hW0 hvm.symm (hgood w (List.mem_cons_of_mem _ (List.mem_cons_of_mem _ hw))) (hat w hw)
  have hk' : (Cond.classLink own ik cls).before args s' = true := vx_ot_at hW0 hvm.symm (hgood _ List.mem_cons_self) hk
  have hini' : (Cond.initialized cls).before args s' = true := vx_ot_at hW0 hvm.symm (hgood _ (List.mem_cons_of_mem _ List.mem_cons_self)) hini
  have hU' : vx_Zq Bundle.tN "UNASSIGNED_STACK" Bundle.steD A s' s'.heap := by rw [hhp]; exact vx_Zq.moved hW0.alike (hU.kept hS.2.1)
  have hN' : vx_Zq Bundle.tN "SUPPRESSED_SENTINEL" Bundle.listD A s' s'.heap := by rw [hhp]; exact vx_Zq.moved hW0.alike (hN.kept hS.2.1)
  have h : ∀ w ∈ Bundle.ownAtoms own ic cls names, w.before args s' = true := vx_own hat' (vx_isRefq hU'.1) (vx_isRefq hN'.1) hU'.2.word hN'.2.word
  have hown' : s'.vm.findClass own = some m.cls := by rw [hvm]; exact hown
  have hins : (Cond.instantiable cls 6).before args s' = true := h _ (by simp [Bundle.ownAtoms])
  obtain ⟨vm₁, cX, kX, hfX, hkX, -, -, X₁, st1⟩ := Y.newCold hexec (own := own) (C := cls) (index := ik) (n := 6) hown' hk' hins hini'
    (g := F0 m pc ls rest) rfl (by rw [hb]; exact d0) (Nat.le_refl _) (Nat.le_refl _)
  generalize hT1 : (T.setVm vm₁).pushCell { cls := cX, slots := kX.instanceTypes.map defaultValue, vm := .none } = T1 at X₁ st1
  have hcat : (Value.ref T.heap.size).category = 1 := rfl
  have hcellA : T1.heap[T.heap.size]? = some (freshCell cX kX) := by rw [← hT1]; exact State.heap_pushCell_size _ _
  have d3' : decode c.code (pc + 3) = .ok (.dup, 1) := by rw [hb]; exact d3
  have d4' : decode c.code (pc + 4) = .ok (.ldc_w is, 3) := by rw [hb]; exact d4
  have hstr' : vk_R own is text sa s' := vk_R.warm hW0 hstr
  obtain ⟨U, hsteps, hrun, hend, hW, hsame, ce, hce, hO⟩ := X₁.ctorThrowS hexec htr (own := own) (cls := cls) (names := names) (ic := ic) hown' hcls hnames h (fun x hx => nomatch hx) hfX hkX hcellA (by rw [hhp, hT]; exact Nat.le_refl _) (msg := .ref sa) rfl
    (g := { method := m, pc := pc + 7, locals := ls, stack := .ref sa :: .ref T.heap.size :: .ref T.heap.size :: rest, locked := none }) rfl hsize rfl rfl (rest := rest) rfl
    (by rw [hb]; exact d7) (by rw [hb]; exact d10) hout hRframes (by simp only [List.map_cons, List.sum_cons, hcat]; omega) hlocks
  obtain ⟨f1, f2⟩ := vx_frame hsame
  rw [hhp] at f1 f2
  have hWs : s.WarmedH U.vm := State.WarmedH.trans hW0 hW
  have hcl : s.vm.findClass cls = some ce.cls := by
    have h9 := hO.cls
    rw [hvm] at h9
    exact h9
  have hall : s.sameButNew ({ U with vm := s.vm } : State) locs mc ms := by
    subst hA
    obtain ⟨e1, e2⟩ := hsame
    rw [State.setFrames_setFrames] at e1
    have h2 : (T.setVm s.vm).sameButNew ({ U with vm := s.vm } : State) [] (0 + 1) (0 + 6) := ⟨e1, e2⟩
    have h3 := X.same.trans h2
    rw [List.append_nil] at h3
    exact h3.mono hc hs
  refine ⟨U, ?_, .threw T.heap.size, hrun, hend, Or.inr ⟨T.heap.size, rfl, cls, ce, locs, hx U hWs.alike f1 (fun q hq => f2 q hq (fun z hz => nomatch hz)), hce, hO.vm, hcl, hWs, hall, hf⟩⟩
  refine st1 _ ?_
  show Steps p.tables e below (T1.setTop { method := m, pc := pc + 3, locals := ls, stack := .ref T.heap.size :: rest, locked := none }) _
  jvm_step X₁.here [X₁.here.top, hexec, d3', Value.category]
  exact X₁.ldcStringW hexec (own := own) (text := text) (index := is) (a := sa) hown' hstr'.1 hstr'.2
    (g := { method := m, pc := pc + 4, locals := ls, stack := .ref T.heap.size :: .ref T.heap.size :: rest, locked := none }) rfl d4' _ hsteps
end Ends
section Bodies
variable {l : Launch}
theorem vx_ofW {y : MethodName} {ws ws' : List Cond} {rm : Room} {Pc : Array Value → State → Prop} {Qc : Array Value → State → Outcome → State → Prop} {XC : String → State → State → Prop} {mc ms : Nat} {free : Addr → Prop} {cc : ByteArray} {maxL : Nat} {ret : Option FieldType}
    (hy : plainName y.cls = true) (hw : ws = Cond.code y cc maxL ret :: ws')
    (body : ∀ p e s m args below meth c s₁, BodyLoose p l y (headSpec ws rm) cc maxL ret e s m args below meth c s₁ → c.maxLocals = maxL → (∀ x ∈ c.exceptionTable.toList, False) → Pc args s →
      W p l e (headSpec ws rm).room s m args below meth c s.heap [] 0 0 (vx_MQ below Qc XC args s mc ms free) (entryFrame m args maxL)) : vx_Met l y ws rm Pc Qc XC mc ms free := by
  refine MetFree.of_bodyS (code := cc) (maxLocals := maxL) (ret := ret) hy ?_ ?_
  · intro args s m h hn
    obtain ⟨meth, c, h1, h2, h3, h4, h5, h6, -, -⟩ := Cond.code_spec hn (atoms_spec (ws := ws) h _ (by rw [hw]; exact List.mem_cons_self))
    exact ⟨meth, c, h1, h2, h3, h4, h5, h6⟩
  · intro p e s m args below meth c s₁ B hml hP _
    have hh0 : s₁.heap = s.heap := by rw [B.state]; rfl
    have ht : ∀ x ∈ c.exceptionTable.toList, False := by
      obtain ⟨meth9, c9, h1, h2, -, -, -, -, h7, -⟩ := Cond.code_spec B.named (atoms_spec (ws := ws) B.pre _ (by rw [hw]; exact List.mem_cons_self))
      cases Option.some.inj (h1.symm.trans B.method)
      cases Option.some.inj (h2.symm.trans (Stand.of_body B).code)
      intro x hx
      rw [Array.isEmpty_iff.mp h7] at hx
      cases hx
    obtain ⟨t, a1, o, b1, b2, b3⟩ := body p e s m args below meth c s₁ B hml ht hP s₁ hh0 (Stand.of_body B)
    exact ⟨t, o, a1, b1, b2, b3⟩
/-- the table of a body with handlers -/
theorem vx_table {p : Program} {x y : MethodName} {S : Spec} {cc bytes : ByteArray} {maxL maxL' : Nat} {ret ret' : Option FieldType} {e : Env} {s s₁ : State} {m : MethodId} {args : Array Value} {below : List Frame} {meth : Method} {c : Code} {hh : List (Nat × Nat × Nat × Nat)}
    (B : BodyLoose p l y S cc maxL ret e s m args below meth c s₁) (h : (Cond.codeWith y bytes maxL' ret' hh).before args s = true) : c.exceptionTable.toList = tableOf hh := by
  obtain ⟨m9, meth9, c9, hn9, h1, h2, -, -, h6, -⟩ := Cond.codeWith_spec h
  cases Option.some.inj (hn9.symm.trans B.named)
  cases Option.some.inj (h1.symm.trans B.method)
  cases Option.some.inj (h2.symm.trans (Stand.of_body B).code)
  rw [← h6, table_eq]
end Bodies
end VXA
/-! ===== END ===== -/
/-! ===== BEGIN a static call of a method with an exception table ===== -/
section VXS
variable {p : Program} {l : Launch} {e : Env} {R : Room} {s : State} {m : MethodId} {args : Array Value} {below : List Frame} {meth : Method} {c : Code} {T : State} {H : Heap} {locs : List Loc} {cells slots : Nat}
abbrev vx_CSW (R : Room) (s : State) (args : Array Value) (own : String) (index : Nat) (y : MethodName) (bytes : ByteArray) (maxL : Nat) (ret : Option FieldType) (hh : List (Nat × Nat × Nat × Nat)) (ws : List Cond) (rm : Room) (mc ms n : Nat) : Prop :=
  (rm.cells = mc ∧ rm.slots = ms ∧ rm.frames + 1 ≤ R.frames ∧ 8 + (maxL + 11) + rm.locals ≤ R.locals ∧ (∀ w ∈ ws, ∀ (a' : Array Value) (U : State), s.WarmedH U.vm → w.before a' U = true) ∧ Cond.codeWith y bytes maxL ret hh ∈ ws) ∧
  (Cond.codeWith y bytes maxL ret hh).before args s = true ∧ (Cond.initialized y.cls).before args s = true ∧ (y.cls ≠ "java/lang/invoke/MethodHandle" ∧ y.cls ≠ "java/lang/invoke/VarHandle") ∧
  (∀ sig, parseMethodDescriptor y.desc = some sig → n = sig.parameters.length) ∧ (Cond.methodLink own index y).before args s = true ∧ (Cond.static y).before args s = true
theorem vx_cwSW {own : String} {index maxL mc ms : Nat} {y : MethodName} {bytes : ByteArray} {ret : Option FieldType} {hh : List (Nat × Nat × Nat × Nat)} {Ts ws ws' : List Cond} {rm : Room} (n : Nat) (ht : ∀ w ∈ Ts, w.before args s = true) (hT : GoodIn Ts (va_wsS own index y ws)) (hw : ws = Cond.codeWith y bytes maxL ret hh :: ws') (hrc : rm.cells = mc) (hrs : rm.slots = ms)
    (hd : y.cls ≠ "java/lang/invoke/MethodHandle" ∧ y.cls ≠ "java/lang/invoke/VarHandle" ∧ (parseMethodDescriptor y.desc).map (fun d => d.parameters.length) = some n) (hR : rm.frames + 1 ≤ R.frames ∧ 8 + (maxL + 11) + rm.locals ≤ R.locals) :
    vx_CSW R s args own index y bytes maxL ret hh ws rm mc ms n := by
  have ok : ∀ w ∈ va_wsS own index y ws, w.before args s = true := fun w h => ht w (hT w h).1
  have hG : GoodIn Ts ws := fun w h => hT w (by unfold va_wsS; exact List.mem_append_right _ h)
  have hc : Cond.codeWith y bytes maxL ret hh ∈ ws := by rw [hw]; exact List.mem_cons_self
  refine ⟨⟨hrc, hrs, hR.1, hR.2, pay_in ht hG, hc⟩, ht _ (hG _ hc).1, ok _ (by simp [va_wsS]), ⟨hd.1, hd.2.1⟩, fun sig h => ?_, ok _ (by simp [va_wsS]), ok _ (by simp [va_wsS])⟩
  have h2 := hd.2.2
  rw [h] at h2
  exact (Option.some.inj h2).symm
theorem vx_callSW (X : Stand p l e R s m args below meth c T locs cells slots) (hexec : p.tables.exec = Jvm.exec) {own : String} {index : Nat} {y : MethodName} {bytes : ByteArray} {maxL : Nat} {ret : Option FieldType} {hh : List (Nat × Nat × Nat × Nat)}
    (hown : s.vm.findClass own = some m.cls) (hlink : (Cond.methodLink own index y).before args s = true) (hstat : (Cond.static y).before args s = true) (hinit : (Cond.initialized y.cls).before args s = true)
    (hcode : (Cond.codeWith y bytes maxL ret hh).before args s = true) (hy : y.cls ≠ "java/lang/invoke/MethodHandle" ∧ y.cls ≠ "java/lang/invoke/VarHandle")
    {W9 : Nat} {Pre : Pt → Array Value → Prop} {Post : Pt → Array Value → Option Value → Pt → Prop} (hK : Back l R p e below s args y 3 W9 Pre Post)
    {g : JFrame} (hg : g.method = m) (hsize : g.locals.size = c.maxLocals) {argsL rest : List Value} (hlen : ∀ sig, parseMethodDescriptor y.desc = some sig → argsL.length = sig.parameters.length)
    (hstack : g.stack = argsL.reverse ++ rest) (hW : 2 * g.monitorRoom + (rest.map fun v => v.category).sum ≤ W9) (hdg : decode c.code g.pc = .ok (.invokestatic index, 3))
    (hpre : ∀ vm₁, s.WarmedH vm₁ → Pre ⟨T.setVm vm₁, locs, cells, slots⟩ argsL.toArray) :
    ∃ (v : Option Value) (vm₁ : Vm) (B : Pt), s.WarmedH vm₁ ∧ Stand p l e R s m args below meth c B.U B.locs B.cells B.slots ∧ Post ⟨T.setVm vm₁, locs, cells, slots⟩ argsL.toArray v B ∧
      ∀ target, Steps p.tables e below (B.U.setTop { g with pc := g.pc + 3, stack := v.toList ++ rest }) target → Steps p.tables e below (T.setTop g) target := by
  obtain ⟨mk, methM, cM, hnamed, hmethM, -, -, -, -, -, -, hsigM⟩ := Cond.codeWith_spec hcode
  have hstatic : methM.isStatic = true := Cond.static_spec hnamed hmethM hstat
  obtain ⟨kP, hkP, -⟩ := className_of_methodNamed hnamed
  have hinitP : kP.init = .initialized := Cond.initialized_spec (findClass_of_methodNamed hnamed) hkP hinit
  obtain ⟨vm₁, X₁, hstep₁⟩ := X.invokestatic hexec hown hlink hnamed hmethM hstatic hkP hinitP hy (g := g) hg (argsL := argsL) (rest := rest) (hlen _ hsigM) hstack hdg
  obtain ⟨v, B, X', hpost, hsteps⟩ := hK m meth c ⟨T.setVm vm₁, locs, cells, slots⟩ { g with stack := rest } (.invokestatic index) mk argsL.toArray X₁ hg hsize hdg hW (X₁.named hnamed) (hpre vm₁ X₁.warmed)
  exact ⟨v, vm₁, B, X₁.warmed, X', hpost, fun target h => hstep₁ _ fun acts => by rw [doInvoke_state]; exact hsteps.trans h⟩
theorem vx_runSW {y : MethodName} {bytes cc : ByteArray} {maxL nL mc ms n index : Nat} {ret : Option FieldType} {hh : List (Nat × Nat × Nat × Nat)} {ws : List Cond} {rm : Room} {Pc : Array Value → State → Prop} {Qc : Array Value → State → Outcome → State → Prop} {free : Addr → Prop} {Ts : List Cond} {own : String} {As rest : List Value} {g : JFrame}
    (S : CallFix p m c cc nL s args Ts own) (hM : Met l y ws rm Pc Qc mc ms free) (cw : vx_CSW R s args own index y bytes maxL ret hh ws rm mc ms n) (hp : PreS s H Pc As)
    (hg : g.method = m) (hn : As.length = n) (hsize : g.locals.size = nL) (hstack : g.stack = As.reverse ++ rest) (hW : 2 * g.monitorRoom + (rest.map fun v => v.category).sum ≤ 8) (hdg : decode cc g.pc = .ok (.invokestatic index, 3)) (hf : cells + mc ≤ R.cells ∧ slots + ms ≤ R.slots) :
    va_Run p l e R s m args below meth c H locs cells slots mc ms g rest (Qc As.toArray) (free) := by
  obtain ⟨⟨hrc, hrs, hfr, hlo, hws, hcw⟩, hcode, hini, hy, hlen, hl, hstt⟩ := cw
  have hK : Back l R p e below s args y 3 8 (PreOf R mc ms Pc) (PostOf Qc mc ms free) := va_backW (hh := hh) (bytes := bytes) (maxL := maxL) (ret := ret) hM hp.1 hrc hrs hfr hlo hws hcw (fun a' U hW => word_at hW (Or.inl (by first | rfl | simp [Cond.onTables, Cond.keeps, Cond.steady])) hini)
  obtain ⟨hx, hb, hml, ho, -⟩ := S
  intro T hT X
  obtain ⟨v, vm₁, ⟨U', l2, c2, s2⟩, hW₁, X', ⟨g', mk, t, L, e1, e2, hq, h1, hL, h2, h3⟩, st⟩ := vx_callSW X hx (hh := hh) (bytes := bytes) (maxL := maxL) (ret := ret) ho hl hstt hini hcode hy hK hg (hsize.trans hml.symm) (argsL := As) (rest := rest) (fun sig h => hn.trans (hlen sig h)) hstack hW (by rw [hb]; exact hdg)
    (fun vm₁ hW₁ => ⟨hf.1, hf.2, hp.2 (T.setVm vm₁) hT hW₁⟩)
  dsimp only [Pt.U, Pt.locs, Pt.cells, Pt.slots] at X' e1 e2 h1 h2 h3 st
  subst h1; subst h2; subst h3
  exact ⟨v, (T.setVm vm₁).calling g' mk As.toArray, t, U', L, hT, X', hL, e1, e2, hq, st⟩
/-- not caught here, past rows that name other classes: it goes on to the caller -/
theorem vx_outP {p : Program} {l : Launch} {e : Env} {R : Room} {s : State} {m : MethodId} {args : Array Value} {below : List Frame} {meth : Method} {c : Code} {H : Heap} {locs : List Loc} {cells slots : Nat} {free : Addr → Prop} {ls : Array Slot} {rest : List Value} {Qc : Array Value → State → Outcome → State → Prop} {XC : String → State → State → Prop}
    {pc : Nat} {own E : String} {ce : Cell} {q : Addr} {mc ms : Nat} (hown : s.vm.findClass own = some m.cls) (hlocks : meth.locks = false)
    (hpass : ∀ z ∈ c.exceptionTable.toList, covers z pc = false ∨ (z.catchType ≠ 0 ∧ ∃ nm : String, (Cond.classLink own z.catchType nm).before args s = true ∧ va_Nc E nm s)) (hcell : H[q]? = some ce) (hv : ce.vm = .none) (hcl : s.vm.findClass E = some ce.cls)
    (hx : ∀ t : State, t.heap = H → s.vm.Alike t.vm → XC E s t) (hf : ∀ z ∈ locs, free z.base) (hc : cells ≤ mc) (hs : slots ≤ ms) :
    vx_W p l e R s m args below meth c H locs cells slots (vx_MQ below Qc XC args s mc ms free) (F0 m pc ls rest) q := by
  intro T hT X
  have hpl : e.platform.magicAccessors = ({} : Platform).magicAccessors := by rw [X.admits.platform]
  obtain ⟨vm', hW', X', st⟩ := X.outThrough hlocks q (g := F0 m pc ls rest) rfl rfl rfl (cell := ce) (by rw [hT]; exact hcell) (by rw [hv]; rfl)
    (by obtain ⟨k9, h9, -⟩ := Vm.findClass_spec hcl; exact ⟨k9, h9⟩) (fun z hz => by
      rcases hpass z hz with h | ⟨hz0, nm, hl1, hn1⟩
      · exact Or.inl h
      · obtain ⟨c6, hc6, hcl6⟩ := Cond.classLink_spec hown hl1 e.platform hpl
        obtain ⟨a8, b8, h1, h2, h3⟩ := hn1
        cases Option.some.inj (h1.symm.trans hcl)
        cases Option.some.inj (h2.symm.trans hc6)
        exact Or.inr ⟨hz0, _, hcl6, h3⟩)
  obtain ⟨g₀, hfr⟩ := X'.frames_eq
  have hcell9 : ((T.setVm vm').setFrames (.throwing q :: below)).heap[q]? = some ce := by
    show T.heap[q]? = some ce
    rw [hT]; exact hcell
  have hend : Ended ((T.setVm vm').setFrames (.throwing q :: below)) below (.threw q) := State.frames_setFrames _ (State.cur_lt_of_frames hfr)
  refine ⟨(T.setVm vm').setFrames (.throwing q :: below), ?_, .threw q, X'.here.running, hend, Or.inr ⟨q, rfl, E, ce, locs, hx _ hT (X'.ends _).1.alike, hcell9, hv, hcl, (X'.ends _).1, (X'.ends _).2.mono hc hs, hf⟩⟩
  rw [X.pushThrowing_eq]
  exact st
/-- a thing of a world lies in the heap -/
theorem vx_lt {D : va_G} {cl : List vw_C} {ws : va_W} {H1 : Heap} (h : va_P D cl ws H1) {k : Nat} {q : Nat × va_E} (hk : ws[k]? = some q) : q.1 < H1.size := (h k q hk).lt
end VXS
/-! ===== END ===== -/
/-! ===== BEGIN methods with a table of their own: called by a name, returning or throwing ===== -/
section VXH
/-! vx_backW, vx_callVX, vx_callSX, vx_callVW, vx_runVW, vx_runVX, vx_runSX, vx_ofWH follow the same proofs as their sisters above (Free/Laws.lean, Shelf42/LK1.lean); vx_outP calls Shelf42/NT130.lean (outThrough). -/
section
variable {l : Launch} {R : Room} {p : Program} {e : Env} {below : List Frame} {s : State} {sargs : Array Value} {y : MethodName} {len W9 : Nat}
theorem vx_backW {ws : List Cond} {rm : Room} {Pc : Array Value → State → Prop} {Qc : Array Value → State → Outcome → State → Prop} {XC : String → State → State → Prop} {mc ms : Nat} {free : Addr → Prop} {bytes : ByteArray} {maxL : Nat} {ret : Option FieldType} {hh : List (Nat × Nat × Nat × Nat)}
    (hM : vx_Met l y ws rm Pc Qc XC mc ms free) (hblind : FrameBlind Pc) (hrc : rm.cells = mc) (hrs : rm.slots = ms)
    (hframes : rm.frames + 1 ≤ R.frames) (hlocals : W9 + (maxL + 11) + rm.locals ≤ R.locals)
    (hws : ∀ w ∈ ws, ∀ a' U, s.WarmedH U.vm → w.before a' U = true) (hcode : Cond.codeWith y bytes maxL ret hh ∈ ws) (hinit : ∀ a' U, s.WarmedH U.vm → (Cond.initialized y.cls).before a' U = true) :
    vx_Back l R p e below s sargs y len W9 (PreOf R mc ms Pc) (PostOf Qc mc ms free) (vx_Post XC mc ms free) := by
  intro m meth c A g ig mk a X hg hsize hdg hW hn hp
  have h1 : (headSpec ws rm).pre.before a A.U = true := atoms_intro fun w hw => hws w hw _ _ X.warmed
  have h2 : (Cond.codeWith y bytes maxL ret hh).before a A.U = true := hws _ hcode _ _ X.warmed
  have h3 : (Cond.initialized y.cls).before a A.U = true := hinit _ _ X.warmed
  have h4 : A.cells + (headSpec ws rm).room.cells ≤ R.cells := by rw [show (headSpec ws rm).room.cells = mc from hrc]; exact hp.1
  have h5 : A.slots + (headSpec ws rm).room.slots ≤ R.slots := by rw [show (headSpec ws rm).room.slots = ms from hrs]; exact hp.2.1
  have hPc : Pc a (A.U.calling g mk a) := hblind _ _ _ _ hp.2.2
  obtain ⟨U, Ls, c0, s0⟩ := A
  dsimp only [Pt.U, Pt.locs, Pt.cells, Pt.slots] at h1 h2 h3 h4 h5 X hn hPc ⊢
  obtain ⟨m9, methY, cY, hn9, hmY, hcY, -, hlY, -⟩ := Cond.codeWith_spec h2
  cases Option.some.inj (hn9.symm.trans hn)
  obtain ⟨kY, hkY, -⟩ := className_of_methodNamed hn
  have hinitY : kY.init = .initialized := Cond.initialized_spec (findClass_of_methodNamed hn) hkY h3
  have h : At U g.method c below := by rw [hg]; exact X.here
  have hlocals9 : W9 + (maxL + 11) + (headSpec ws rm).room.locals ≤ R.locals := hlocals
  have happ : (headSpec ws rm).appliesLoose y e.platform (U.calling g mk a) = true :=
    Spec.appliesLoose_calling (g := g) h hdg hn hkY hinitY
      (X.room_calling (g := g) (R' := (headSpec ws rm).room) hsize hmY hcY hframes (by rw [hlY]; omega) h4 h5) h1
  obtain ⟨mid, hmid⟩ := h.above
  have hfr : (U.setTop g).frames = (.java g :: mid) ++ below := by rw [State.frames_setTop' g h.top, hmid]; rfl
  obtain ⟨o, s₂, hsteps, -, hend, hq⟩ := Steps.callFree hM p X.admits X.cas X.clock (acts := []) hfr happ hPc trivial
  have hq' : vx_Q Qc XC mc ms free a (U.calling g mk a) o s₂ := hq
  rw [State.frames_setTop' g h.top] at hend
  obtain ⟨g₀, hg0⟩ := Option.isSome_iff_exists.mp h.top
  obtain ⟨r, hr⟩ := State.topJava?_eq_some.mp hg0
  have hr' : (({ U with heap := s₂.heap, slotsUsed := s₂.slotsUsed } : State).setVm s₂.vm).frames = .java g₀ :: r := hr
  rcases hq' with ⟨hqc, L, hfe, hL⟩ | ⟨q, rfl, E, ce, L, hx, hce, hcv, hcl, hW₂, hsm, hL⟩
  · obtain ⟨⟨v, rfl⟩, hW₂, e2, q2, q3, q4, q5, q6⟩ := id hfe
    have e3 : s₂ = ({ (U.calling g mk a).setFrames s₂.frames with heap := s₂.heap, slotsUsed := s₂.slotsUsed } : State).setVm s₂.vm := by
      have : s₂ = ({ s₂ with vm := (U.calling g mk a).vm } : State).setVm s₂.vm := rfl
      rw [e2] at this
      exact this
    obtain ⟨c₂, i₂, len₂, hc₂, hd₂, hf₂⟩ := hend
    have hW' : U.WarmedH s₂.vm := hW₂
    have hcc : c₂ = c := by
      have h1 : s₂.code? g.method = U.code? g.method := by
        rw [State.code?_eq, State.code?_eq, hW'.alike.method?]
      exact Option.some.inj (hc₂.symm.trans (h1.trans h.code))
    subst hcc
    have hlen : len₂ = len := by rw [hdg] at hd₂; cases hd₂; rfl
    subst hlen
    have hs₂ : s₂ = (({ U with heap := s₂.heap, slotsUsed := s₂.slotsUsed } : State).setVm s₂.vm).setTop { g with pc := g.pc + len₂, stack := v.toList ++ g.stack } := by
      refine e3.trans ?_
      rw [hf₂, State.calling_eq h.top, State.setFrames_setFrames, State.setTop_of_frames _ hr', hr]
      rfl
    have hsame : U.sameButNew ({ U with heap := s₂.heap, slotsUsed := s₂.slotsUsed } : State) L mc ms := by
      refine ⟨?_, q2, q3, q4, q5, q6⟩
      obtain ⟨t, ht, -⟩ := State.frames_cons hr
      show ({ U with heap := s₂.heap, slotsUsed := s₂.slotsUsed } : State) = { U.setFrames U.frames with heap := s₂.heap, slotsUsed := s₂.slotsUsed }
      rw [State.setFrames_self ht]
    subst hg
    refine Or.inl ⟨v, ⟨(({ U with heap := s₂.heap, slotsUsed := s₂.slotsUsed } : State).setVm s₂.vm), Ls ++ L, c0 + mc, s0 + ms⟩,
      ⟨X.admits, X.cas, X.clock, X.frames, X.room, X.hears, X.method, X.code, (X.here.setHeapUsed s₂.heap s₂.slotsUsed).setVm hW'.alike, X.tail, State.WarmedH.trans X.warmed hW', X.limits, X.bytes, X.same.trans (hsame.setVm s.vm)⟩,
      ⟨g, mk, s₂, L, rfl, rfl, hqc, rfl, hL, rfl, rfl⟩, ?_⟩
    show Steps p.tables e below _ ((({ U with heap := s₂.heap, slotsUsed := s₂.slotsUsed } : State).setVm s₂.vm).setTop { g with pc := g.pc + len₂, stack := v.toList ++ g.stack })
    rw [← hs₂]
    exact hsteps
  · obtain ⟨e2, q2, q3, q4, q5, q6⟩ := id hsm
    have e3 : s₂ = ({ (U.calling g mk a).setFrames s₂.frames with heap := s₂.heap, slotsUsed := s₂.slotsUsed } : State).setVm s₂.vm := by
      have : s₂ = ({ s₂ with vm := (U.calling g mk a).vm } : State).setVm s₂.vm := rfl
      rw [e2] at this
      exact this
    have hf₂ : s₂.frames = .throwing q :: .java g :: U.frames.tail := hend
    have hW' : U.WarmedH s₂.vm := hW₂
    have hs₂ : s₂ = ((({ U with heap := s₂.heap, slotsUsed := s₂.slotsUsed } : State).setVm s₂.vm).setTop g).pushFrame (.throwing q) := by
      refine e3.trans ?_
      rw [hf₂, State.calling_eq h.top, State.setFrames_setFrames, State.pushFrame, State.frames_setTop _ hr', State.setTop_of_frames _ hr', State.setFrames_setFrames, hr]
      rfl
    have hsame : U.sameButNew ({ U with heap := s₂.heap, slotsUsed := s₂.slotsUsed } : State) L mc ms := by
      refine ⟨?_, q2, q3, q4, q5, q6⟩
      obtain ⟨t, ht, -⟩ := State.frames_cons hr
      show ({ U with heap := s₂.heap, slotsUsed := s₂.slotsUsed } : State) = { U.setFrames U.frames with heap := s₂.heap, slotsUsed := s₂.slotsUsed }
      rw [State.setFrames_self ht]
    subst hg
    refine Or.inr ⟨q, ⟨(({ U with heap := s₂.heap, slotsUsed := s₂.slotsUsed } : State).setVm s₂.vm), Ls ++ L, c0 + mc, s0 + ms⟩,
      ⟨X.admits, X.cas, X.clock, X.frames, X.room, X.hears, X.method, X.code, (X.here.setHeapUsed s₂.heap s₂.slotsUsed).setVm hW'.alike, X.tail, State.WarmedH.trans X.warmed hW', X.limits, X.bytes, X.same.trans (hsame.setVm s.vm)⟩,
      ⟨g, mk, s₂, L, E, ce, rfl, rfl, hx, hce, hcv, hcl, rfl, hL, rfl, rfl⟩, ?_⟩
    show Steps p.tables e below _ (((({ U with heap := s₂.heap, slotsUsed := s₂.slotsUsed } : State).setVm s₂.vm).setTop g).pushFrame (.throwing q))
    rw [← hs₂]
    exact hsteps
end
variable {p : Program} {l : Launch} {e : Env} {R : Room} {s : State} {m : MethodId} {args : Array Value} {below : List Frame} {meth : Method} {c : Code} {T : State} {H : Heap} {locs : List Loc} {cells slots : Nat}
theorem vx_callVX (X : Stand p l e R s m args below meth c T locs cells slots) (hexec : p.tables.exec = Jvm.exec) {own C : String} {index : Nat} {y : MethodName} {bytes : ByteArray} {maxL : Nat} {ret : Option FieldType} {hh : List (Nat × Nat × Nat × Nat)}
    (hown : s.vm.findClass own = some m.cls) (hlink : (Cond.methodLink own index y).before args s = true) (hinst : (Cond.instanceMethod y).before args s = true) (hsel : (Cond.selects C y y).before args s = true)
    (hcode : (Cond.codeWith y bytes maxL ret hh).before args s = true) (hy : y.cls ≠ "java/lang/invoke/MethodHandle" ∧ y.cls ≠ "java/lang/invoke/VarHandle")
    {W9 : Nat} {Pre : Pt → Array Value → Prop} {Post : Pt → Array Value → Option Value → Pt → Prop} {PostX : Pt → Array Value → Addr → Pt → Prop} (hK : vx_Back l R p e below s args y 3 W9 Pre Post PostX)
    {b : Addr} {cellB : Cell} (hcell : T.heap[b]? = some cellB) (hobj : cellB.vm.isStatics = false) (hcls : s.vm.findClass C = some cellB.cls)
    {g : JFrame} (hg : g.method = m) (hsize : g.locals.size = c.maxLocals) {argsL rest : List Value} (hlen : ∀ sig, parseMethodDescriptor y.desc = some sig → argsL.length = sig.parameters.length)
    (hstack : g.stack = argsL.reverse ++ .ref b :: rest) (hW : 2 * g.monitorRoom + (rest.map fun v => v.category).sum ≤ W9) (hdg : decode c.code g.pc = .ok (.invokevirtual index, 3))
    (hpre : ∀ vm₁, s.WarmedH vm₁ → Pre ⟨T.setVm vm₁, locs, cells, slots⟩ (Value.ref b :: argsL).toArray) :
    (∃ (v : Option Value) (vm₁ : Vm) (B : Pt), s.WarmedH vm₁ ∧ Stand p l e R s m args below meth c B.U B.locs B.cells B.slots ∧ Post ⟨T.setVm vm₁, locs, cells, slots⟩ (Value.ref b :: argsL).toArray v B ∧
      ∀ target, Steps p.tables e below (B.U.setTop { g with pc := g.pc + 3, stack := v.toList ++ rest }) target → Steps p.tables e below (T.setTop g) target) ∨
    (∃ (q : Addr) (vm₁ : Vm) (B : Pt), s.WarmedH vm₁ ∧ Stand p l e R s m args below meth c B.U B.locs B.cells B.slots ∧ PostX ⟨T.setVm vm₁, locs, cells, slots⟩ (Value.ref b :: argsL).toArray q B ∧
      Steps p.tables e below (T.setTop g) ((B.U.setTop { g with stack := rest }).pushFrame (.throwing q))) := by
  obtain ⟨mk, methM, hnamed, hmethM, hstM, habM⟩ := Cond.instanceMethod_spec hinst
  obtain ⟨m8, methM', cM, hn8, hmethM', -, -, -, -, -, -, hsigM⟩ := Cond.codeWith_spec hcode
  cases Option.some.inj (hn8.symm.trans hnamed)
  cases hmethM.symm.trans hmethM'
  obtain ⟨c2, r2, m2, q1, q2, q3, q4, kP, hkP, hkPi⟩ := Cond.selects_spec hsel
  cases hcls.symm.trans q1
  cases (State.methodFound?_of_named hnamed hy).symm.trans q2
  cases hnamed.symm.trans q3
  have hselP : selectMethod e.platform s.vm cellB.cls mk = .method mk := by rw [Launch.admits_selectMethod X.admits]; exact q4
  obtain ⟨vm₁, X₁, hstep₁⟩ := X.invokevirtual hexec hown hlink hnamed hmethM hstM hkP hkPi hy (a := b) (cell := cellB) hcell
    (fun z h => by rw [h] at hobj; cases hobj) hselP hmethM habM hkP hkPi (g := g) hg (argsL := argsL) (rest := rest) (hlen _ hsigM) hstack hdg
  rcases hK m meth c ⟨T.setVm vm₁, locs, cells, slots⟩ { g with stack := rest } (.invokevirtual index) mk (Value.ref b :: argsL).toArray X₁ hg hsize hdg hW (X₁.named hnamed) (hpre vm₁ X₁.warmed) with ⟨v, B, X', hpost, hsteps⟩ | ⟨q, B, X', hpost, hsteps⟩
  · exact Or.inl ⟨v, vm₁, B, X₁.warmed, X', hpost, fun target h => hstep₁ _ fun acts => by rw [doInvoke_state]; exact hsteps.trans h⟩
  · exact Or.inr ⟨q, vm₁, B, X₁.warmed, X', hpost, hstep₁ _ fun acts => by rw [doInvoke_state]; exact hsteps⟩
theorem vx_callSX (X : Stand p l e R s m args below meth c T locs cells slots) (hexec : p.tables.exec = Jvm.exec) {own : String} {index : Nat} {y : MethodName} {bytes : ByteArray} {maxL : Nat} {ret : Option FieldType} {hh : List (Nat × Nat × Nat × Nat)}
    (hown : s.vm.findClass own = some m.cls) (hlink : (Cond.methodLink own index y).before args s = true) (hstat : (Cond.static y).before args s = true) (hinit : (Cond.initialized y.cls).before args s = true)
    (hcode : (Cond.codeWith y bytes maxL ret hh).before args s = true) (hy : y.cls ≠ "java/lang/invoke/MethodHandle" ∧ y.cls ≠ "java/lang/invoke/VarHandle")
    {W9 : Nat} {Pre : Pt → Array Value → Prop} {Post : Pt → Array Value → Option Value → Pt → Prop} {PostX : Pt → Array Value → Addr → Pt → Prop} (hK : vx_Back l R p e below s args y 3 W9 Pre Post PostX)
    {g : JFrame} (hg : g.method = m) (hsize : g.locals.size = c.maxLocals) {argsL rest : List Value} (hlen : ∀ sig, parseMethodDescriptor y.desc = some sig → argsL.length = sig.parameters.length)
    (hstack : g.stack = argsL.reverse ++ rest) (hW : 2 * g.monitorRoom + (rest.map fun v => v.category).sum ≤ W9) (hdg : decode c.code g.pc = .ok (.invokestatic index, 3))
    (hpre : ∀ vm₁, s.WarmedH vm₁ → Pre ⟨T.setVm vm₁, locs, cells, slots⟩ argsL.toArray) :
    (∃ (v : Option Value) (vm₁ : Vm) (B : Pt), s.WarmedH vm₁ ∧ Stand p l e R s m args below meth c B.U B.locs B.cells B.slots ∧ Post ⟨T.setVm vm₁, locs, cells, slots⟩ argsL.toArray v B ∧
      ∀ target, Steps p.tables e below (B.U.setTop { g with pc := g.pc + 3, stack := v.toList ++ rest }) target → Steps p.tables e below (T.setTop g) target) ∨
    (∃ (q : Addr) (vm₁ : Vm) (B : Pt), s.WarmedH vm₁ ∧ Stand p l e R s m args below meth c B.U B.locs B.cells B.slots ∧ PostX ⟨T.setVm vm₁, locs, cells, slots⟩ argsL.toArray q B ∧
      Steps p.tables e below (T.setTop g) ((B.U.setTop { g with stack := rest }).pushFrame (.throwing q))) := by
  obtain ⟨mk, methM, cM, hnamed, hmethM, -, -, -, -, -, -, hsigM⟩ := Cond.codeWith_spec hcode
  have hstatic : methM.isStatic = true := Cond.static_spec hnamed hmethM hstat
  obtain ⟨kP, hkP, -⟩ := className_of_methodNamed hnamed
  have hinitP : kP.init = .initialized := Cond.initialized_spec (findClass_of_methodNamed hnamed) hkP hinit
  obtain ⟨vm₁, X₁, hstep₁⟩ := X.invokestatic hexec hown hlink hnamed hmethM hstatic hkP hinitP hy (g := g) hg (argsL := argsL) (rest := rest) (hlen _ hsigM) hstack hdg
  rcases hK m meth c ⟨T.setVm vm₁, locs, cells, slots⟩ { g with stack := rest } (.invokestatic index) mk argsL.toArray X₁ hg hsize hdg hW (X₁.named hnamed) (hpre vm₁ X₁.warmed) with ⟨v, B, X', hpost, hsteps⟩ | ⟨q, B, X', hpost, hsteps⟩
  · exact Or.inl ⟨v, vm₁, B, X₁.warmed, X', hpost, fun target h => hstep₁ _ fun acts => by rw [doInvoke_state]; exact hsteps.trans h⟩
  · exact Or.inr ⟨q, vm₁, B, X₁.warmed, X', hpost, hstep₁ _ fun acts => by rw [doInvoke_state]; exact hsteps⟩
theorem vx_callVW (X : Stand p l e R s m args below meth c T locs cells slots) (hexec : p.tables.exec = Jvm.exec) {own C : String} {index : Nat} {y : MethodName} {bytes : ByteArray} {maxL : Nat} {ret : Option FieldType} {hh : List (Nat × Nat × Nat × Nat)}
    (hown : s.vm.findClass own = some m.cls) (hlink : (Cond.methodLink own index y).before args s = true) (hinst : (Cond.instanceMethod y).before args s = true) (hsel : (Cond.selects C y y).before args s = true)
    (hcode : (Cond.codeWith y bytes maxL ret hh).before args s = true) (hy : y.cls ≠ "java/lang/invoke/MethodHandle" ∧ y.cls ≠ "java/lang/invoke/VarHandle")
    {W9 : Nat} {Pre : Pt → Array Value → Prop} {Post : Pt → Array Value → Option Value → Pt → Prop} (hK : Back l R p e below s args y 3 W9 Pre Post)
    {b : Addr} {cellB : Cell} (hcell : T.heap[b]? = some cellB) (hobj : cellB.vm.isStatics = false) (hcls : s.vm.findClass C = some cellB.cls)
    {g : JFrame} (hg : g.method = m) (hsize : g.locals.size = c.maxLocals) {argsL rest : List Value} (hlen : ∀ sig, parseMethodDescriptor y.desc = some sig → argsL.length = sig.parameters.length)
    (hstack : g.stack = argsL.reverse ++ .ref b :: rest) (hW : 2 * g.monitorRoom + (rest.map fun v => v.category).sum ≤ W9) (hdg : decode c.code g.pc = .ok (.invokevirtual index, 3))
    (hpre : ∀ vm₁, s.WarmedH vm₁ → Pre ⟨T.setVm vm₁, locs, cells, slots⟩ (Value.ref b :: argsL).toArray) :
    ∃ (v : Option Value) (vm₁ : Vm) (B : Pt), s.WarmedH vm₁ ∧ Stand p l e R s m args below meth c B.U B.locs B.cells B.slots ∧ Post ⟨T.setVm vm₁, locs, cells, slots⟩ (Value.ref b :: argsL).toArray v B ∧
      ∀ target, Steps p.tables e below (B.U.setTop { g with pc := g.pc + 3, stack := v.toList ++ rest }) target → Steps p.tables e below (T.setTop g) target := by
  obtain ⟨mk, methM, hnamed, hmethM, hstM, habM⟩ := Cond.instanceMethod_spec hinst
  obtain ⟨m8, methM', cM, hn8, hmethM', -, -, -, -, -, -, hsigM⟩ := Cond.codeWith_spec hcode
  cases Option.some.inj (hn8.symm.trans hnamed)
  cases hmethM.symm.trans hmethM'
  obtain ⟨c2, r2, m2, q1, q2, q3, q4, kP, hkP, hkPi⟩ := Cond.selects_spec hsel
  cases hcls.symm.trans q1
  cases (State.methodFound?_of_named hnamed hy).symm.trans q2
  cases hnamed.symm.trans q3
  have hselP : selectMethod e.platform s.vm cellB.cls mk = .method mk := by rw [Launch.admits_selectMethod X.admits]; exact q4
  obtain ⟨vm₁, X₁, hstep₁⟩ := X.invokevirtual hexec hown hlink hnamed hmethM hstM hkP hkPi hy (a := b) (cell := cellB) hcell
    (fun z h => by rw [h] at hobj; cases hobj) hselP hmethM habM hkP hkPi (g := g) hg (argsL := argsL) (rest := rest) (hlen _ hsigM) hstack hdg
  obtain ⟨v, B, X', hpost, hsteps⟩ := hK m meth c ⟨T.setVm vm₁, locs, cells, slots⟩ { g with stack := rest } (.invokevirtual index) mk (Value.ref b :: argsL).toArray X₁ hg hsize hdg hW (X₁.named hnamed) (hpre vm₁ X₁.warmed)
  exact ⟨v, vm₁, B, X₁.warmed, X', hpost, fun target h => hstep₁ _ fun acts => by rw [doInvoke_state]; exact hsteps.trans h⟩
abbrev vx_CVW (R : Room) (s : State) (args : Array Value) (own C : String) (index : Nat) (y : MethodName) (bytes : ByteArray) (maxL : Nat) (ret : Option FieldType) (hh : List (Nat × Nat × Nat × Nat)) (ws : List Cond) (rm : Room) (mc ms n : Nat) : Prop :=
  (rm.cells = mc ∧ rm.slots = ms ∧ rm.frames + 1 ≤ R.frames ∧ 8 + (maxL + 11) + rm.locals ≤ R.locals ∧ (∀ w ∈ ws, ∀ (a' : Array Value) (U : State), s.WarmedH U.vm → w.before a' U = true) ∧ Cond.codeWith y bytes maxL ret hh ∈ ws) ∧
  (Cond.codeWith y bytes maxL ret hh).before args s = true ∧ (Cond.initialized y.cls).before args s = true ∧ (y.cls ≠ "java/lang/invoke/MethodHandle" ∧ y.cls ≠ "java/lang/invoke/VarHandle") ∧
  (∀ sig, parseMethodDescriptor y.desc = some sig → n = sig.parameters.length) ∧ (Cond.methodLink own index y).before args s = true ∧ (Cond.instanceMethod y).before args s = true ∧ (Cond.selects C y y).before args s = true
theorem vx_cwVW {own C : String} {index maxL mc ms : Nat} {y : MethodName} {bytes : ByteArray} {ret : Option FieldType} {hh : List (Nat × Nat × Nat × Nat)} {Ts ws ws' : List Cond} {rm : Room} (n : Nat) (ht : ∀ w ∈ Ts, w.before args s = true) (hT : GoodIn Ts (wsV own index C y ws)) (hw : ws = Cond.codeWith y bytes maxL ret hh :: ws') (hrc : rm.cells = mc) (hrs : rm.slots = ms)
    (hd : y.cls = C ∧ y.cls ≠ "java/lang/invoke/MethodHandle" ∧ y.cls ≠ "java/lang/invoke/VarHandle" ∧ (parseMethodDescriptor y.desc).map (fun d => d.parameters.length) = some n) (hR : rm.frames + 1 ≤ R.frames ∧ 8 + (maxL + 11) + rm.locals ≤ R.locals) :
    vx_CVW R s args own C index y bytes maxL ret hh ws rm mc ms n := by
  obtain ⟨hC, hd⟩ := hd
  subst hC
  have ok : ∀ w ∈ wsV own index y.cls y ws, w.before args s = true := fun w h => ht w (hT w h).1
  have hG : GoodIn Ts ws := fun w h => hT w (by unfold wsV; exact List.mem_append_right _ h)
  have hc : Cond.codeWith y bytes maxL ret hh ∈ ws := by rw [hw]; exact List.mem_cons_self
  refine ⟨⟨hrc, hrs, hR.1, hR.2, pay_in ht hG, hc⟩, ht _ (hG _ hc).1, ok _ (by simp [wsV]), ⟨hd.1, hd.2.1⟩, fun sig h => ?_, ok _ (by simp [wsV]), ok _ (by simp [wsV]), ok _ (by simp [wsV])⟩
  have h2 := hd.2.2
  rw [h] at h2
  exact (Option.some.inj h2).symm
theorem vx_runVW {y : MethodName} {bytes cc : ByteArray} {maxL nL mc ms n index : Nat} {ret : Option FieldType} {hh : List (Nat × Nat × Nat × Nat)} {ws : List Cond} {rm : Room} {Pc : Array Value → State → Prop} {Qc : Array Value → State → Outcome → State → Prop} {free : Addr → Prop} {Ts : List Cond} {own C : String} {b : Addr} {As rest : List Value} {g : JFrame}
    (S : CallFix p m c cc nL s args Ts own) (hM : Met l y ws rm Pc Qc mc ms free) (cw : vx_CVW R s args own C index y bytes maxL ret hh ws rm mc ms n) (hp : PreV s H C b Pc As)
    (hg : g.method = m) (hn : As.length = n) (hsize : g.locals.size = nL) (hstack : g.stack = As.reverse ++ .ref b :: rest) (hW : 2 * g.monitorRoom + (rest.map fun v => v.category).sum ≤ 8) (hdg : decode cc g.pc = .ok (.invokevirtual index, 3)) (hf : cells + mc ≤ R.cells ∧ slots + ms ≤ R.slots) :
    va_Run p l e R s m args below meth c H locs cells slots mc ms g rest (Qc (Value.ref b :: As).toArray) free := by
  obtain ⟨⟨hrc, hrs, hfr, hlo, hws, hcw⟩, hcode, hini, hy, hlen, hl, hin, hse⟩ := cw
  have hK : Back l R p e below s args y 3 8 (PreOf R mc ms Pc) (PostOf Qc mc ms free) := va_backW (hh := hh) (bytes := bytes) (maxL := maxL) (ret := ret) hM hp.1 hrc hrs hfr hlo hws hcw (fun a' U hW => word_at hW (Or.inl (by first | rfl | simp [Cond.onTables, Cond.keeps, Cond.steady])) hini)
  obtain ⟨hx, hb, hml, ho, -⟩ := S
  obtain ⟨-, ⟨cellB, hcB, hoB, hclB⟩, hPc⟩ := hp
  intro T hT X
  obtain ⟨v, vm₁, ⟨U', l2, c2, s2⟩, hW₁, X', ⟨g', mk, t, L, e1, e2, hq, h1, hL, h2, h3⟩, st⟩ := vx_callVW X hx (C := C) (hh := hh) (bytes := bytes) (maxL := maxL) (ret := ret) ho hl hin hse hcode hy hK (by rw [hT]; exact hcB) hoB hclB hg (hsize.trans hml.symm) (argsL := As) (rest := rest) (fun sig h => hn.trans (hlen sig h)) hstack hW (by rw [hb]; exact hdg)
    (fun vm₁ hW₁ => ⟨hf.1, hf.2, hPc (T.setVm vm₁) hT hW₁⟩)
  dsimp only [Pt.U, Pt.locs, Pt.cells, Pt.slots] at X' e1 e2 h1 h2 h3 st
  subst h1; subst h2; subst h3
  exact ⟨v, (T.setVm vm₁).calling g' mk (Value.ref b :: As).toArray, t, U', L, hT, X', hL, e1, e2, hq, st⟩
section
variable {y : MethodName} {bytes cc : ByteArray} {maxL nL mc ms n index : Nat} {ret : Option FieldType} {ws : List Cond} {rm : Room} {Pc : Array Value → State → Prop} {Qc : Array Value → State → Outcome → State → Prop} {XC : String → State → State → Prop} {free : Addr → Prop} {Ts : List Cond} {own C : String} {b : Addr} {As rest : List Value} {g : JFrame}
theorem vx_runVX {hh : List (Nat × Nat × Nat × Nat)} (S : CallFix p m c cc nL s args Ts own) (hM : vx_Met l y ws rm Pc Qc XC mc ms free) (cw : vx_CVW R s args own C index y bytes maxL ret hh ws rm mc ms n) (hp : PreV s H C b Pc As)
    (hg : g.method = m) (hn : As.length = n) (hsize : g.locals.size = nL) (hstack : g.stack = As.reverse ++ .ref b :: rest) (hW : 2 * g.monitorRoom + (rest.map fun v => v.category).sum ≤ 8) (hdg : decode cc g.pc = .ok (.invokevirtual index, 3)) (hf : cells + mc ≤ R.cells ∧ slots + ms ≤ R.slots) :
    vx_Run p l e R s m args below meth c H locs cells slots mc ms g rest (Qc (Value.ref b :: As).toArray) XC free := by
  obtain ⟨⟨hrc, hrs, hfr, hlo, hws, hcw⟩, hcode, hini, hy, hlen, hl, hin, hse⟩ := cw
  have hK : vx_Back l R p e below s args y 3 8 (PreOf R mc ms Pc) (PostOf Qc mc ms free) (vx_Post XC mc ms free) := vx_backW (hh := hh) (bytes := bytes) (maxL := maxL) (ret := ret) hM hp.1 hrc hrs hfr hlo hws hcw (fun a' U hW => word_at hW (Or.inl (by first | rfl | simp [Cond.onTables, Cond.keeps, Cond.steady])) hini)
  obtain ⟨hx, hb, hml, ho, -⟩ := S
  obtain ⟨-, ⟨cellB, hcB, hoB, hclB⟩, hPc⟩ := hp
  intro T hT X
  rcases vx_callVX X hx (C := C) (hh := hh) (bytes := bytes) (maxL := maxL) (ret := ret) ho hl hin hse hcode hy hK (by rw [hT]; exact hcB) hoB hclB hg (hsize.trans hml.symm) (argsL := As) (rest := rest) (fun sig h => hn.trans (hlen sig h)) hstack hW (by rw [hb]; exact hdg)
    (fun vm₁ hW₁ => ⟨hf.1, hf.2, hPc (T.setVm vm₁) hT hW₁⟩) with ⟨v, vm₁, ⟨U', l2, c2, s2⟩, hW₁, X', ⟨g', mk, t, L, e1, e2, hq, h1, hL, h2, h3⟩, st⟩ | ⟨q, vm₁, ⟨U', l2, c2, s2⟩, hW₁, X', ⟨g', mk, t, L, E, ce, e1, e2, hq, hce, hcv, hcl, h1, hL, h2, h3⟩, st⟩
  · dsimp only [Pt.U, Pt.locs, Pt.cells, Pt.slots] at X' e1 e2 h1 h2 h3 st
    subst h1; subst h2; subst h3
    exact Or.inl ⟨v, (T.setVm vm₁).calling g' mk (Value.ref b :: As).toArray, t, U', L, hT, X', hL, e1, e2, hq, st⟩
  · dsimp only [Pt.U, Pt.locs, Pt.cells, Pt.slots] at X' e1 e2 h1 h2 h3 st hcl
    subst h1; subst h2; subst h3
    exact Or.inr ⟨q, (T.setVm vm₁).calling g' mk (Value.ref b :: As).toArray, t, U', L, E, ce, hT, X', hL, e1, e2, hq, hce, hcv, vx_cls hW₁ hcl, st⟩
theorem vx_runSX {hh : List (Nat × Nat × Nat × Nat)} (S : CallFix p m c cc nL s args Ts own) (hM : vx_Met l y ws rm Pc Qc XC mc ms free) (cw : vx_CSW R s args own index y bytes maxL ret hh ws rm mc ms n) (hp : PreS s H Pc As)
    (hg : g.method = m) (hn : As.length = n) (hsize : g.locals.size = nL) (hstack : g.stack = As.reverse ++ rest) (hW : 2 * g.monitorRoom + (rest.map fun v => v.category).sum ≤ 8) (hdg : decode cc g.pc = .ok (.invokestatic index, 3)) (hf : cells + mc ≤ R.cells ∧ slots + ms ≤ R.slots) :
    vx_Run p l e R s m args below meth c H locs cells slots mc ms g rest (Qc As.toArray) XC free := by
  obtain ⟨⟨hrc, hrs, hfr, hlo, hws, hcw⟩, hcode, hini, hy, hlen, hl, hstt⟩ := cw
  have hK : vx_Back l R p e below s args y 3 8 (PreOf R mc ms Pc) (PostOf Qc mc ms free) (vx_Post XC mc ms free) := vx_backW (hh := hh) (bytes := bytes) (maxL := maxL) (ret := ret) hM hp.1 hrc hrs hfr hlo hws hcw (fun a' U hW => word_at hW (Or.inl (by first | rfl | simp [Cond.onTables, Cond.keeps, Cond.steady])) hini)
  obtain ⟨hx, hb, hml, ho, -⟩ := S
  intro T hT X
  rcases vx_callSX X hx (hh := hh) (bytes := bytes) (maxL := maxL) (ret := ret) ho hl hstt hini hcode hy hK hg (hsize.trans hml.symm) (argsL := As) (rest := rest) (fun sig h => hn.trans (hlen sig h)) hstack hW (by rw [hb]; exact hdg)
    (fun vm₁ hW₁ => ⟨hf.1, hf.2, hp.2 (T.setVm vm₁) hT hW₁⟩) with ⟨v, vm₁, ⟨U', l2, c2, s2⟩, hW₁, X', ⟨g', mk, t, L, e1, e2, hq, h1, hL, h2, h3⟩, st⟩ | ⟨q, vm₁, ⟨U', l2, c2, s2⟩, hW₁, X', ⟨g', mk, t, L, E, ce, e1, e2, hq, hce, hcv, hcl, h1, hL, h2, h3⟩, st⟩
  · dsimp only [Pt.U, Pt.locs, Pt.cells, Pt.slots] at X' e1 e2 h1 h2 h3 st
    subst h1; subst h2; subst h3
    exact Or.inl ⟨v, (T.setVm vm₁).calling g' mk As.toArray, t, U', L, hT, X', hL, e1, e2, hq, st⟩
  · dsimp only [Pt.U, Pt.locs, Pt.cells, Pt.slots] at X' e1 e2 h1 h2 h3 st hcl
    subst h1; subst h2; subst h3
    exact Or.inr ⟨q, (T.setVm vm₁).calling g' mk As.toArray, t, U', L, E, ce, hT, X', hL, e1, e2, hq, hce, hcv, vx_cls hW₁ hcl, st⟩
end
end VXH
theorem vx_ofWH {l : Launch} {y : MethodName} {ws ws' : List Cond} {rm : Room} {Pc : Array Value → State → Prop} {Qc : Array Value → State → Outcome → State → Prop} {XC : String → State → State → Prop} {mc ms : Nat} {free : Addr → Prop} {cc : ByteArray} {maxL : Nat} {ret : Option FieldType} {hh : List (Nat × Nat × Nat × Nat)}
    (hy : plainName y.cls = true) (hw : ws = Cond.codeWith y cc maxL ret hh :: ws')
    (body : ∀ p e s m args below meth c s₁, BodyLoose p l y (headSpec ws rm) cc maxL ret e s m args below meth c s₁ → c.maxLocals = maxL → Pc args s →
      W p l e (headSpec ws rm).room s m args below meth c s.heap [] 0 0 (vx_MQ below Qc XC args s mc ms free) (entryFrame m args maxL)) : vx_Met l y ws rm Pc Qc XC mc ms free := by
  refine MetFree.of_bodyS (code := cc) (maxLocals := maxL) (ret := ret) hy ?_ ?_
  · intro args s m h hn
    obtain ⟨m9, meth, c, hn9, h1, h2, h3, h4, -, h5, h6, -⟩ := Cond.codeWith_spec (atoms_spec (ws := ws) h _ (by rw [hw]; exact List.mem_cons_self))
    cases hn.symm.trans hn9
    exact ⟨meth, c, h1, h2, h3, h4, h5, h6⟩
  · intro p e s m args below meth c s₁ B hml hP _
    have hh0 : s₁.heap = s.heap := by rw [B.state]; rfl
    obtain ⟨t, a1, o, b1, b2, b3⟩ := body p e s m args below meth c s₁ B hml hP s₁ hh0 (Stand.of_body B)
    exact ⟨t, o, a1, b1, b2, b3⟩
/-! ===== END ===== -/
/-! ===== BEGIN what the machine throws by itself, no traces kept ===== -/
section VXM
set_option maxHeartbeats 1000000 in
/-- the machine throws cls with the message text, no traces kept: from its note over the frame g to 'throwing' over the same frame (follows the proofs of Stand.vmThrowsMessage, Shelf/KitTracedVmS.lean, and Stand.throwsMessageColdBareV, StandMessageColdV.lean, without the step out of the frame) -/
theorem vx_vmAt {p : Program} {l : Launch} {e : Env} {R : Room} {s : State} {m₀ : MethodId} {args : Array Value} {below : List Frame} {meth : Method} {c : Code} {W : State} {locs : List Loc} {cells slots : Nat}
    (X : Stand p l e R s m₀ args below meth c W locs cells slots) (hexec : p.tables.exec = Jvm.exec) (htr : e.platform.stackTraces = false) {cls : String} {names : List String} {text : String}
    (hcls : Bundle.fit cls = true) (hnames : ∀ n ∈ names, Bundle.fit n = true) (hsoe : (cls == "java/lang/StackOverflowError") = false) (hoom : (cls == "java/lang/OutOfMemoryError") = false)
    (h : ∀ a ∈ Bundle.messageArmAtoms cls names, a.before args s = true)
    (hlocs : ∀ x ∈ locs, ∀ cell, s.heap[x.base]? = some cell → cell.vm.isStatics = false)
    (htext : (text == notModelled) = false) (hlimit : ¬ (stringBytes (stringToUtf16 text)).size > e.platform.arrayLengthLimit) (hheap : ¬ (stringBytes (stringToUtf16 text)).size * componentBytes .byte > e.platform.maxHeapBytes)
    {g : JFrame} (hg : g.method = m₀) (hsize : g.locals.size = c.maxLocals)
    (hRframes : names.length + 4 < R.frames) (hRlocals : 2 * g.monitorRoom + (g.stack.map fun v => v.category).sum + 10240 ≤ R.locals) (hshort : 13 * names.length + 55 ≤ 10240)
    (hRcells : cells + 3 ≤ R.cells) (hRslots : slots + ((stringBytes (stringToUtf16 text)).size + 4 + 6) ≤ R.slots) (hlocks : meth.locks = false) :
    ∃ (S : State) (q : Addr) (ce : Cell), (∀ target, Steps p.tables e below ((S.setTop g).pushFrame (.throwing q)) target → Steps p.tables e below ((W.setTop g).pushFrame (.throwNew cls (some text) none)) target) ∧
      Stand p l e R s m₀ args below meth c S locs (cells + 3) (slots + ((stringBytes (stringToUtf16 text)).size + 4 + 6)) ∧ S.heap[q]? = some ce ∧ s.vm.findClass cls = some ce.cls ∧ ce.vm = .none := by
  have howns : e.platform.frameOwnsMonitors = true := by rw [X.admits.platform]
  have hfin : e.platform.finalization = false := by rw [X.admits.platform]
  have hpl : e.platform.magicAccessors = ({} : Platform).magicAccessors := by rw [X.admits.platform]
  have a : ∀ x, x ∈ Bundle.messageArmAtoms cls names → x.holds args s none s [] = true := fun x hx => h x hx
  obtain ⟨T, Z0, L, -, Y⟩ := ThrowableC.of_atoms (args := args) howns hfin hpl (fun x hx => h x (by simp [Bundle.messageArmAtoms, hx]))
  obtain ⟨Z, M, LZ, LM, hnZ⟩ := Init0T.ofS_atoms (args := args) hpl L Y (fun x hx => h x (by simp [Bundle.messageArmAtoms, hx]))
  obtain ⟨P1, Ps, hlen, L1, hL, hP1m, hlink1, hlink⟩ := Bundle.chainS (args := args) hpl hnZ names cls hcls hnames (fun x hx => h x (by simp [Bundle.messageArmAtoms, hx]))
  obtain ⟨Zs, LZs, hn4, hfitv, hfitc⟩ := StringT.of_atoms (args := args) (fun x hx => h x (by simp [Bundle.messageArmAtoms, hx]))
  have hfound : s.vm.findClass cls = some P1.m.cls := findClass_of_methodNamed hP1m
  obtain ⟨c1, kX, hc1, hk, hord, -, -, hn6⟩ := Cond.instantiable_spec (a (.instantiable cls 6) (by simp [Bundle.messageArmAtoms]))
  cases Option.some.inj (hc1.symm.trans hfound)
  have hinit := Cond.initialized_spec hfound hk (a (.initialized cls) (by simp [Bundle.messageArmAtoms]))
  have hctor : kX.findMethod "<init>" "(Ljava/lang/String;)V" = some P1.m.idx := findMethod_of_methodNamed hP1m hk
  have hsel0 : selectMethod e.platform s.vm P1.m.cls T.fill0 = .method T.fill0 := by
    obtain ⟨c2, r2, m2, q1, q2, q3, q4, -⟩ := Cond.selects_spec (a (.selects cls Bundle.tFill0 Bundle.tFill0) (by simp [Bundle.messageArmAtoms]))
    cases Option.some.inj (q1.symm.trans hfound)
    cases Option.some.inj (q2.symm.trans (State.methodFound?_of_named Y.fill0 (by decide)))
    cases Option.some.inj (q3.symm.trans Y.fill0)
    rw [Launch.admits_selectMethod X.admits]; exact q4
  have hselF : selectMethod e.platform s.vm P1.m.cls T.fill = .method T.fill := by
    obtain ⟨c2, r2, m2, q1, q2, q3, q4, -⟩ := Cond.selects_spec (a (.selects cls Bundle.tFill Bundle.tFill) (by simp [Bundle.messageArmAtoms]))
    cases Option.some.inj (q1.symm.trans hfound)
    cases Option.some.inj (q2.symm.trans (State.methodFound?_of_named Y.fill (by decide)))
    cases Option.some.inj (q3.symm.trans Y.fill)
    rw [Launch.admits_selectMethod X.admits]; exact q4
  obtain ⟨cellS0, hcS0, hiss⟩ := Y.statics
  obtain ⟨u0, hu0⟩ := Cond.staticRefV Y.unassigned L.unassignedStatic L.statics hcS0 hiss (a (.isRef (.static Bundle.tN "UNASSIGNED_STACK" Bundle.steD)) (by simp [Bundle.messageArmAtoms]))
  obtain ⟨sen, hsen⟩ := Cond.staticRefV Y.sentinel L.sentinelStatic L.statics hcS0 hiss (a (.isRef (.static Bundle.tN "SUPPRESSED_SENTINEL" Bundle.listD)) (by simp [Bundle.messageArmAtoms]))
  obtain ⟨ci198, i198, fB, hk198, hg198, ha198, hsB, -, hnB, htB, hffB⟩ := Cond.ownField (t := .object "java/lang/Object") Y.found L.cls (by decide +kernel) (a (.fieldLink Bundle.tN 198 Bundle.tN "backtrace" "Ljava/lang/Object;") (by simp [Bundle.messageArmAtoms])) (a (.lays Bundle.tN Bundle.tN "backtrace" "Ljava/lang/Object;") (by simp [Bundle.messageArmAtoms])) e.platform hpl
  obtain ⟨cellS, hcS', heS, -, hkeep⟩ := X.same.2.2.2.2.2 T.aS cellS0 hcS0
  have hcellS : W.heap[T.aS]? = some cellS := hcS'
  have hout' : ∀ i, (⟨T.aS, i⟩ : Loc) ∉ locs := fun i hmem => by
    have := hlocs _ hmem cellS0 hcS0
    rw [hiss] at this; cases this
  have hknownS : cellS.vm ≠ .unknown := by
    rw [heS]; intro hu
    rw [show cellS0.vm = .unknown from hu] at hiss
    cases hiss
  have hvU : cellS.slots[T.fUnassigned.slot]? = some u0.v := by rw [hkeep _ (hout' _)]; exact hu0
  have hvSen : cellS.slots[T.fSentinel.slot]? = some sen.v := by rw [hkeep _ (hout' _)]; exact hsen
  obtain ⟨iM, hffM⟩ := Y.msg
  obtain ⟨tyC, dC, hdC, hdnC⟩ := Cond.laysAt hfound hk Y.cause (a (.lays cls Bundle.tN "cause" "Ljava/lang/Throwable;") (by simp [Bundle.messageArmAtoms]))
  obtain ⟨tyS, dS, hdS, hdnS⟩ := Cond.laysAt hfound hk Y.stack (a (.lays cls Bundle.tN "stackTrace" Bundle.steD) (by simp [Bundle.messageArmAtoms]))
  obtain ⟨tyP, dP, hdP, hdnP⟩ := Cond.laysAt hfound hk Y.supp (a (.lays cls Bundle.tN "suppressedExceptions" Bundle.listD) (by simp [Bundle.messageArmAtoms]))
  obtain ⟨tyM, dM, hdM, hdnM⟩ := Cond.laysAt hfound hk hffM (a (.lays cls Bundle.tN "detailMessage" "Ljava/lang/String;") (by simp [Bundle.messageArmAtoms]))
  obtain ⟨tyB, dB, hdB, hdnB⟩ := Cond.laysAt hfound hk hffB (a (.lays cls Bundle.tN "backtrace" "Ljava/lang/Object;") (by simp [Bundle.messageArmAtoms]))
  have bC := Cond.laysApart hdB hdC hdnB hdnC (by rw [hnB, Y.causeName]; decide)
  have bS := Cond.laysApart hdB hdS hdnB hdnS (by rw [hnB, Y.stackName]; decide)
  have bP := Cond.laysApart hdB hdP hdnB hdnP (by rw [hnB, Y.suppName]; decide)
  have hbk : ((preparedCellV T.toThrowableT (freshCell P1.m.cls kX) (W.heap.size + 2) u0 sen).withEntry W.cur).slots[fB.slot]? = some .null := by
    have := fresh_default (c := P1.m.cls) tyB
    rw [htB] at this
    simpa [preparedCellV, Cell.setSlot, Cell.withEntry, Array.getElem?_setIfInBounds, bC, bS, bP, bC.symm, bS.symm, bP.symm, defaultValue] using this
  have tkC := Takes.of_laid (v := .ref (W.heap.size + 2)) hk hord tyC (by rw [Y.causeType]; rfl)
  have tkS := Takes.of_laid (v := u0.v) hk hord tyS (by rw [Y.stackType]; exact fits_refV_array _ u0)
  have tkP := Takes.of_laid (v := sen.v) hk hord tyP (by rw [Y.suppType]; exact fits_refV_object _ sen)
  have tkM := Takes.of_laid (v := .ref (W.heap.size + 1)) hk hord tyM (by rw [Y.msgType]; rfl)
  have hskip : SkipFacts T e.platform s (fun u => u) u0 ((preparedCellV T.toThrowableT (freshCell P1.m.cls kX) (W.heap.size + 2) u0 sen).withEntry W.cur) := ⟨{ ci198 := ci198, i198 := i198, fBack := fB }, ⟨hk198, hg198, ha198, hsB⟩, hbk, fun _ _ => rfl⟩
  have h0 : At W g.method c below := by rw [hg]; exact X.here
  obtain ⟨hbeyond, hfreeW⟩ := X.vmMayThrow hsize (.throwNew cls (some text) none) (fun f hf => by cases hf) rfl hRlocals
  have hfr' : W.frames.length + Ps.length + 4 < (e.platform.stackLimits W.me).1 := by have := X.framesAbove hRframes; omega
  have hwd' : (stackUse (.java g :: W.frames.tail)).2 + 13 * Ps.length + 55 ≤ (e.platform.stackLimits W.me).2 := by have := X.stackAbove hsize (K := 13 * Ps.length + 55) (by omega); omega
  have hslots : W.slotsUsed + (stringBytes (stringToUtf16 text)).size + Zs.kS.instanceTypes.size + kX.instanceTypes.size ≤ e.platform.maxSlots := by
    have := X.slotsAbove hRslots
    rw [hn4, hn6]
    omega
  obtain ⟨vm', hW', st⟩ := Steps.vmThrowsMessageColdByV p (s₀ := s) (S := W) (g := g) h0 hexec T L Z LZ M LM X.warmed (t := W.cur) rfl Zs LZs P1 L1 Ps hL hlink1 hlink hsoe hoom hfound hk hinit hord hctor
    (Launch.admits_hotImplicitExceptions X.admits) hbeyond hfreeW htext hlimit hheap (X.cellsAbove hRcells) hslots (hfitv _) (hfitc _)
    (Nn := fun u => u) heapOnly_id (fun _ _ => rfl) (fun _ => rfl) (fun u x y => setCell_twice _ _ _ _) (fun _ => Nat.le_refl _) (cN := ((preparedCellV T.toThrowableT (freshCell P1.m.cls kX) (W.heap.size + 2) u0 sen).withEntry W.cur))
    hsel0 hcellS hknownS hvU tkS (fun _ hu => hu) (fun _ hu => hu) rfl rfl rfl (by simp [preparedCellV, Cell.setSlot, Cell.withEntry]) hskip (fun _ _ hA hW _ hroom _ hrest => L.nativeOff p htr hA hW hroom hrest) hselF hvSen tkC tkP tkM Y.objLocals rfl hfr' hwd'
  rw [plainBareV_eq T.toThrowableT (W.heap.size + 2) u0 sen (.ref (W.heap.size + 1)) W.cur rfl rfl] at st
  obtain ⟨-, -, w3, w4, -, -, -⟩ := withThrown_facts e.platform W Zs text P1.m.cls kX
  have X3 := ((X.pushed (bytesOf Zs.cB (stringToUtf16 text))).pushed (stringAt Zs.cS Zs.kS Zs.fv Zs.fc (stringToUtf16 text) W.heap.size)).pushed (freshCell P1.m.cls kX)
  rw [← withString_eq] at X3
  have X4 := X3.noted hW'
  have ha : (W.heap.size + 2) < ((withThrown W Zs text P1.m.cls kX).setVm vm').heap.size := by show _ < (withThrown W Zs text P1.m.cls kX).heap.size; rw [w3]; omega
  have hcell : ((withThrown W Zs text P1.m.cls kX).setVm vm').heap[(W.heap.size + 2)]? = some (freshCell P1.m.cls kX) := w4
  have X5 := ((((X4.stored hcell T.fCause.slot (.ref (W.heap.size + 2))).storedAgain ha T.fStack.slot u0.v).storedAgain ha T.fSupp.slot sen.v).storedAgain ha T.fStack.slot u0.v).storedAgain ha T.fMsg.slot (.ref (W.heap.size + 1))
  obtain ⟨g₁, hfrM⟩ := X5.frames_eq
  have hU : ((((withThrown W Zs text P1.m.cls kX).setVm vm').setCell (W.heap.size + 2) (plainBareV T.toThrowableT (freshCell P1.m.cls kX) (W.heap.size + 2) u0 sen (.ref (W.heap.size + 1)))).setTop g).pushFrame (.throwing (W.heap.size + 2)) = (((withThrown W Zs text P1.m.cls kX).setVm vm').setCell (W.heap.size + 2) (plainBareV T.toThrowableT (freshCell P1.m.cls kX) (W.heap.size + 2) u0 sen (.ref (W.heap.size + 1)))).setFrames (.throwing (W.heap.size + 2) :: .java g :: below) := by
    rw [State.pushFrame, State.frames_setTop _ hfrM, State.setTop_of_frames _ hfrM, State.setFrames_setFrames]
  have b1 : (bytesOf Zs.cB (stringToUtf16 text)).slots.size = (stringBytes (stringToUtf16 text)).size := by
    rw [(Cell.writeAll_facts _ _).2.2]; simp [bytes0]
  have b2 : (stringAt Zs.cS Zs.kS Zs.fv Zs.fc (stringToUtf16 text) W.heap.size).slots.size = 4 := by simp [string0, Cell.setSlot, hn4]
  have b3 : (freshCell P1.m.cls kX).slots.size = 6 := by simp [hn6]
  rw [b1, b2, b3] at X5
  have e9 : slots + (stringBytes (stringToUtf16 text)).size + 4 + 6 = slots + ((stringBytes (stringToUtf16 text)).size + 4 + 6) := by omega
  rw [e9] at X5
  simp only [List.append_assoc, List.cons_append, List.nil_append] at X5
  refine ⟨((withThrown W Zs text P1.m.cls kX).setVm vm').setCell (W.heap.size + 2) (plainBareV T.toThrowableT (freshCell P1.m.cls kX) (W.heap.size + 2) u0 sen (.ref (W.heap.size + 1))), W.heap.size + 2, _, fun target ht => st _ (by rw [X.tail, ← hU]; exact ht),
    X5.forget (fun y hy => ?_), heapAt_setCell_self _ ha, hfound, rfl⟩
  simp only [List.mem_cons, List.not_mem_nil, or_false] at hy
  have hge : s.heap.size ≤ W.heap.size := X.same.2.1
  rcases hy with rfl | rfl | rfl | rfl | rfl <;> exact Nat.le_trans hge (Nat.le_add_right _ 2)
set_option maxHeartbeats 1000000 in
/-- the machine throws NullPointerException, no traces kept: from its note over the frame g to 'throwing' over the same frame (follows the proof of Stand.vmThrowsNpe, Shelf42/KT2.lean; throwsNpeColdBareVAt, Shelf42/NT91.lean, called) -/
theorem vx_npeAt {p : Program} {l : Launch} {e : Env} {R : Room} {s : State} {m₀ : MethodId} {args : Array Value} {below : List Frame} {meth : Method} {c : Code} {W : State} {locs : List Loc} {cells slots : Nat}
    (X : Stand p l e R s m₀ args below meth c W locs cells slots) (hexec : p.tables.exec = Jvm.exec) (htr : e.platform.stackTraces = false) {n : Nat}
    (h : ∀ a ∈ Bundle.npeArmAtoms n, a.before args s = true)
    (hlocs : ∀ x ∈ locs, ∀ cell, s.heap[x.base]? = some cell → cell.vm.isStatics = false)
    {g : JFrame} (hg : g.method = m₀) (hsize : g.locals.size = c.maxLocals)
    (hRframes : 7 < R.frames) (hRlocals : 2 * g.monitorRoom + (g.stack.map fun v => v.category).sum + 10240 ≤ R.locals)
    (hRcells : cells + 1 ≤ R.cells) (hRslots : slots + n ≤ R.slots) (hlocks : meth.locks = false) :
    ∃ (S : State) (q : Addr) (ce : Cell), (∀ target, Steps p.tables e below ((S.setTop g).pushFrame (.throwing q)) target → Steps p.tables e below ((W.setTop g).pushFrame (.throwNew "java/lang/NullPointerException" none none)) target) ∧
      Stand p l e R s m₀ args below meth c S locs (cells + 1) (slots + n) ∧ S.heap[q]? = some ce ∧ s.vm.findClass "java/lang/NullPointerException" = some ce.cls ∧ ce.vm = .none := by
  have howns : e.platform.frameOwnsMonitors = true := by rw [X.admits.platform]
  have hfin : e.platform.finalization = false := by rw [X.admits.platform]
  have hpl : e.platform.magicAccessors = ({} : Platform).magicAccessors := by rw [X.admits.platform]
  have hpl2 : e.platform.arrayCloneIsPublic = true := by rw [X.admits.platform]
  have a' : ∀ x, x ∈ Bundle.npeArmAtoms n → x.holds args s none s [] = true := fun x hx => h x hx
  obtain ⟨T, Z, L, LZ, Y⟩ := ThrowableC.of_atoms (args := args) howns hfin hpl (fun x hx => h x (by simp [Bundle.npeArmAtoms, hx]))
  obtain ⟨N, LN, hcN, hnNF, hordN, hffS⟩ := NpeC.of_atoms (args := args) hpl hpl2 L Y (fun x hx => h x (by simp [Bundle.npeArmAtoms, hx]))
  obtain ⟨P1, L1, hP1m, hP1s⟩ := PassC.of_atoms (args := args) (s := s) hpl (X := Bundle.nN) (Y := Bundle.rN) (by decide) (by decide) LibCode.NullPointerException.Init0.at_0 LibCode.NullPointerException.Init0.at_1 LibCode.NullPointerException.Init0.at_4 (fun x hx => h x (by simp [Bundle.npeArmAtoms, hx]))
  obtain ⟨PR, LR, hPRm, hPRs⟩ := PassC.of_atoms (args := args) (s := s) hpl (X := Bundle.rN) (Y := Bundle.eN) (by decide) (by decide) LibCode.RuntimeException.Init0.at_0 LibCode.RuntimeException.Init0.at_1 LibCode.RuntimeException.Init0.at_4 (fun x hx => h x (by simp [Bundle.npeArmAtoms, hx]))
  obtain ⟨PE, LEx, hPEm, hPEs⟩ := PassC.of_atoms (args := args) (s := s) hpl (X := Bundle.eN) (Y := Bundle.tN) (by decide) (by decide) LibCode.Exception.Init0.at_0 LibCode.Exception.Init0.at_1 LibCode.Exception.Init0.at_4 (fun x hx => h x (by simp [Bundle.npeArmAtoms, hx]))
  have hfound : s.vm.findClass Bundle.nN = some P1.m.cls := findClass_of_methodNamed hP1m
  have ecls : N.cN = P1.m.cls := Option.some.inj (hcN.symm.trans hfound)
  have hk : s.vm.classes[P1.m.cls]? = some N.kN := by rw [← ecls]; exact LN.cls
  have hinit := Cond.initialized_spec hfound hk (a' (.initialized Bundle.nN) (by simp [Bundle.npeArmAtoms]))
  have hctor : N.kN.findMethod "<init>" "()V" = some P1.m.idx := findMethod_of_methodNamed hP1m hk
  obtain ⟨c1, k1, hc1, hk1, -, -, -, hn⟩ := Cond.instantiable_spec (a' (.instantiable Bundle.nN n) (by simp [Bundle.npeArmAtoms]))
  cases Option.some.inj (hc1.symm.trans hfound)
  cases Option.some.inj (hk1.symm.trans hk)
  have hfsz : (freshCell P1.m.cls N.kN).slots.size = n := by simp [hn]
  have hlink1 : P1.sup = PR.m := Option.some.inj (hP1s.symm.trans hPRm)
  have hlinkR : PR.sup = PE.m := Option.some.inj (hPRs.symm.trans hPEm)
  have hlinkE : PE.sup = Z.m T.toThrowableT := Option.some.inj (hPEs.symm.trans Y.init0)
  have hLs : ∀ P, P ∈ [PR, PE] → P.Links0 e.platform s := fun P hP => by
    simp only [List.mem_cons, List.not_mem_nil, or_false] at hP
    rcases hP with rfl | rfl
    · exact LR
    · exact LEx
  have hsel0 : selectMethod e.platform s.vm P1.m.cls T.fill0 = .method T.fill0 := by
    obtain ⟨c2, r2, m2, q1, q2, q3, q4, -⟩ := Cond.selects_spec (a' (.selects Bundle.nN Bundle.tFill0 Bundle.tFill0) (by simp [Bundle.npeArmAtoms]))
    cases Option.some.inj (q1.symm.trans hfound)
    cases Option.some.inj (q2.symm.trans (State.methodFound?_of_named Y.fill0 (by decide)))
    cases Option.some.inj (q3.symm.trans Y.fill0)
    rw [Launch.admits_selectMethod X.admits]; exact q4
  have hselF : selectMethod e.platform s.vm P1.m.cls T.fill = .method N.fill := by
    obtain ⟨c2, r2, m2, q1, q2, q3, q4, -⟩ := Cond.selects_spec (a' (.selects Bundle.nN Bundle.tFill Bundle.nFill) (by simp [Bundle.npeArmAtoms]))
    cases Option.some.inj (q1.symm.trans hfound)
    cases Option.some.inj (q2.symm.trans (State.methodFound?_of_named Y.fill (by decide)))
    cases Option.some.inj (q3.symm.trans hnNF)
    rw [Launch.admits_selectMethod X.admits]; exact q4
  obtain ⟨cellS0, hcS0, hiss⟩ := Y.statics
  obtain ⟨u0, hu0⟩ := Cond.staticRefV Y.unassigned L.unassignedStatic L.statics hcS0 hiss (a' (.isRef (.static Bundle.tN "UNASSIGNED_STACK" Bundle.steD)) (by simp [Bundle.npeArmAtoms]))
  obtain ⟨sen, hsen⟩ := Cond.staticRefV Y.sentinel L.sentinelStatic L.statics hcS0 hiss (a' (.isRef (.static Bundle.tN "SUPPRESSED_SENTINEL" Bundle.listD)) (by simp [Bundle.npeArmAtoms]))
  obtain ⟨ci198, i198, fB, hk198, hg198, ha198, hsB, -, hnB, htB, hffB⟩ := Cond.ownField (t := .object "java/lang/Object") Y.found L.cls (by decide +kernel) (a' (.fieldLink Bundle.tN 198 Bundle.tN "backtrace" Bundle.objD) (by simp [Bundle.npeArmAtoms])) (a' (.lays Bundle.tN Bundle.tN "backtrace" Bundle.objD) (by simp [Bundle.npeArmAtoms])) e.platform hpl
  obtain ⟨cellS, hcS', heS, -, hkeep⟩ := X.same.2.2.2.2.2 T.aS cellS0 hcS0
  have hcellS : W.heap[T.aS]? = some cellS := hcS'
  have hout' : ∀ i, (⟨T.aS, i⟩ : Loc) ∉ locs := fun i hmem => by
    have := hlocs _ hmem cellS0 hcS0
    rw [hiss] at this; cases this
  have hknownS : cellS.vm ≠ .unknown := by
    rw [heS]; intro hu
    rw [show cellS0.vm = .unknown from hu] at hiss
    cases hiss
  have hvU : cellS.slots[T.fUnassigned.slot]? = some u0.v := by rw [hkeep _ (hout' _)]; exact hu0
  have hvSen : cellS.slots[T.fSentinel.slot]? = some sen.v := by rw [hkeep _ (hout' _)]; exact hsen
  obtain ⟨tyC, dC, hdC, hdnC⟩ := Cond.laysAt hfound hk Y.cause (a' (.lays Bundle.nN Bundle.tN "cause" "Ljava/lang/Throwable;") (by simp [Bundle.npeArmAtoms]))
  obtain ⟨tyS, dS, hdS, hdnS⟩ := Cond.laysAt hfound hk Y.stack (a' (.lays Bundle.nN Bundle.tN "stackTrace" Bundle.steD) (by simp [Bundle.npeArmAtoms]))
  obtain ⟨tyP, dP, hdP, hdnP⟩ := Cond.laysAt hfound hk Y.supp (a' (.lays Bundle.nN Bundle.tN "suppressedExceptions" Bundle.listD) (by simp [Bundle.npeArmAtoms]))
  obtain ⟨tyX, dX, hdX, hdnX⟩ := Cond.laysAt hfound hk hffS (a' (.lays Bundle.nN Bundle.nN "extendedMessageState" "I") (by simp [Bundle.npeArmAtoms, Bundle.npeAtoms]))
  obtain ⟨hnX, htX⟩ := State.fieldFound?_type hffS (t := .int) (by decide +kernel)
  have xC := Cond.laysApart hdC hdX hdnC hdnX (by rw [hnX, Y.causeName]; decide)
  have xS := Cond.laysApart hdS hdX hdnS hdnX (by rw [hnX, Y.stackName]; decide)
  have xP := Cond.laysApart hdP hdX hdnP hdnX (by rw [hnX, Y.suppName]; decide)
  have hv0 : (freshCell P1.m.cls N.kN).slots[N.fState.slot]? = some (.int 0) := by
    have := fresh_default (c := P1.m.cls) tyX
    rw [htX] at this; exact this
  obtain ⟨tyB, dB, hdB, hdnB⟩ := Cond.laysAt hfound hk hffB (a' (.lays Bundle.nN Bundle.tN "backtrace" Bundle.objD) (by simp [Bundle.npeArmAtoms]))
  have bC := Cond.laysApart hdB hdC hdnB hdnC (by rw [hnB, Y.causeName]; decide)
  have bS := Cond.laysApart hdB hdS hdnB hdnS (by rw [hnB, Y.stackName]; decide)
  have bP := Cond.laysApart hdB hdP hdnB hdnP (by rw [hnB, Y.suppName]; decide)
  have bX := Cond.laysApart hdB hdX hdnB hdnX (by rw [hnB, hnX]; decide)
  have hbk : ((npeCell N.toNpeT (preparedCellV T.toThrowableT (freshCell P1.m.cls N.kN) W.heap.size u0 sen) W.cur).withEntry W.cur).slots[fB.slot]? = some .null := by
    have := fresh_default (c := P1.m.cls) tyB
    rw [htB] at this
    simpa [npeCell, preparedCellV, Cell.setSlot, Cell.withEntry, Array.getElem?_setIfInBounds, bC, bS, bP, bX, bC.symm, bS.symm, bP.symm, bX.symm, defaultValue] using this
  have tkC := Takes.of_laid (v := .ref W.heap.size) hk hordN tyC (by rw [Y.causeType]; rfl)
  have tkS := Takes.of_laid (v := u0.v) hk hordN tyS (by rw [Y.stackType]; exact fits_refV_array _ u0)
  have tkP := Takes.of_laid (v := sen.v) hk hordN tyP (by rw [Y.suppType]; exact fits_refV_object _ sen)
  have tkX := Takes.of_laid (v := .int 1) hk hordN tyX (by rw [htX]; rfl)
  have hskip : SkipFacts T e.platform s (fun u => u) u0 ((npeCell N.toNpeT (preparedCellV T.toThrowableT (freshCell P1.m.cls N.kN) W.heap.size u0 sen) W.cur).withEntry W.cur) := ⟨{ ci198 := ci198, i198 := i198, fBack := fB }, ⟨hk198, hg198, ha198, hsB⟩, hbk, fun _ _ => rfl⟩
  obtain ⟨vm', X3, st, -⟩ := X.throwsNpeColdBareVAt hexec hg hsize T L Z LZ N LN P1 L1 [PR, PE] hLs hlink1 ⟨hlinkR, hlinkE, trivial⟩ hfound hk hinit hordN hctor hsel0 hselF hcellS hknownS hvU hvSen
    hv0 xC xS xP tkC tkS tkP tkX Y.objLocals hskip (fun _ _ hA hW _ hroom _ hrest => L.nativeOff p htr hA hW hroom hrest) (by simpa using hRframes) hRlocals (by simp) hRcells (by rw [hn]; exact hRslots)
  have hlt : W.heap.size < ((W.pushCell (freshCell P1.m.cls N.kN)).setVm vm').heap.size := by
    show W.heap.size < (W.pushCell (freshCell P1.m.cls N.kN)).heap.size
    rw [State.heap_size_pushCell]; omega
  rw [hfsz] at X3
  obtain ⟨g₁, hfrM⟩ := X3.frames_eq
  have hU : ((((W.pushCell (freshCell P1.m.cls N.kN)).setVm vm').setCell W.heap.size (npeBareV T.toThrowableT N.toNpeT (freshCell P1.m.cls N.kN) W.heap.size u0 sen)).setTop g).pushFrame (.throwing W.heap.size) = (((W.pushCell (freshCell P1.m.cls N.kN)).setVm vm').setCell W.heap.size (npeBareV T.toThrowableT N.toNpeT (freshCell P1.m.cls N.kN) W.heap.size u0 sen)).setFrames (.throwing W.heap.size :: .java g :: below) := by
    rw [State.pushFrame, State.frames_setTop _ hfrM, State.setTop_of_frames _ hfrM, State.setFrames_setFrames]
  refine ⟨_, W.heap.size, _, fun target ht => st.trans (by rw [← hU]; exact ht), X3.forget (fun y hy => ?_), heapAt_setCell_self _ hlt, hfound, rfl⟩
  simp only [List.mem_cons, List.not_mem_nil, or_false] at hy
  have hge : s.heap.size ≤ W.heap.size := X.same.2.1
  rcases hy with rfl | rfl | rfl | rfl | rfl <;> exact hge
/-- the words of a machine's NullPointerException, but the four that speak of the heap -/
def vx_atN (n : Nat) : List Cond := (Bundle.npeArmAtoms n).filter vx_no
/-- the words of a machine's throw with a message, but the four that speak of the heap -/
def vx_atM (X : String) (names : List String) : List Cond := (Bundle.messageArmAtoms X names).filter vx_no
section
variable {p : Program} {l : Launch} {e : Env} {R : Room} {s : State} {m : MethodId} {args : Array Value} {below : List Frame} {meth : Method} {c : Code} {H : Heap} {locs : List Loc} {cells slots : Nat}
/-- a frame seen from a rebased start, seen from the first start again -/
theorem vx_back9 {T S : State} {R' : Room} {k n : Nat} (X : Stand p l e R s m args below meth c T locs cells slots) (Y : Stand p l e R' ((T.setVm s.vm).setFrames (.invoking m args :: below)) m args below meth c T [] 0 0) (Z : Stand p l e R' ((T.setVm s.vm).setFrames (.invoking m args :: below)) m args below meth c S [] k n) :
    Stand p l e R s m args below meth c S locs (cells + k) (slots + n) := by
  have hW0 : s.WarmedH ((T.setVm s.vm).setFrames (.invoking m args :: below)).vm := State.WarmedH.refl s
  refine { admits := X.admits, cas := X.cas, clock := X.clock, frames := X.frames, room := X.room, hears := X.hears, method := X.method, code := X.code, here := Z.here, tail := Z.tail, warmed := State.WarmedH.trans hW0 Z.warmed, limits := Z.limits.trans (Y.limits.symm.trans X.limits), bytes := Z.bytes.trans (Y.bytes.symm.trans X.bytes), same := ?_ }
  obtain ⟨e1, e2⟩ := Z.same
  rw [State.setFrames_setFrames] at e1
  have h2 : (T.setVm s.vm).sameButNew (S.setVm s.vm) [] k n := ⟨e1, e2⟩
  have h3 := X.same.trans h2
  rw [List.append_nil] at h3
  exact h3
/-- from the machine's note that E is thrown here with this text -/
def vx_Note (p : Program) (l : Launch) (e : Env) (R : Room) (s : State) (m : MethodId) (args : Array Value) (below : List Frame) (meth : Method) (c : Code) (H : Heap) (locs : List Loc) (cells slots : Nat) (Q : State → Prop) (g : JFrame) (E text : String) : Prop :=
  ∀ T : State, T.heap = H → Stand p l e R s m args below meth c T locs cells slots → ∃ t, Steps p.tables e below ((T.setTop g).pushFrame (.throwNew E (some text) none)) t ∧ Q t
theorem vx_vm {pc : Nat} {ls : Array Slot} {rest : List Value} {Q : State → Prop} (hexec : p.tables.exec = Jvm.exec) (hl : l.stackTraces = false) {cls text : String} {names : List String} {nb : Nat} {A : Nat → Prop}
    (hcls : Bundle.fit cls = true) (hnames : ∀ n ∈ names, Bundle.fit n = true) (hsoe : (cls == "java/lang/StackOverflowError") = false) (hoom : (cls == "java/lang/OutOfMemoryError") = false)
    (hat : ∀ w ∈ vx_atM cls names, w.before args s = true) (hgood : ∀ w ∈ vx_atM cls names, vx_ot w = true)
    (hU : vx_Zq Bundle.tN "UNASSIGNED_STACK" Bundle.steD A s s.heap) (hN : vx_Zq Bundle.tN "SUPPRESSED_SENTINEL" Bundle.listD A s s.heap) (hS : va_S A s.heap H locs) (hsize : ls.size = c.maxLocals)
    (htext : (text == notModelled) = false) (hnb : (stringBytes (stringToUtf16 text)).size ≤ nb) (hnb1 : nb ≤ 1000)
    (hRframes : names.length + 4 < R.frames) (hRlocals : (rest.map fun v => v.category).sum + 10240 ≤ R.locals) (hshort : 13 * names.length + 55 ≤ 10240) (hRcells : cells + 3 ≤ R.cells) (hRslots : slots + (nb + 10) ≤ R.slots) (hlocks : meth.locks = false)
    (k : ∀ (H1 : Heap) (q9 : Addr) (ce : Cell), H.size ≤ H1.size → (∀ q : Nat, q < H.size → H1[q]? = H[q]?) → va_S A s.heap H1 locs → H1[q9]? = some ce → ce.vm = .none → s.vm.findClass cls = some ce.cls → vx_W p l e R s m args below meth c H1 locs (cells + 3) (slots + (nb + 10)) Q (F0 m pc ls rest) q9) :
    vx_Note p l e R s m args below meth c H locs cells slots Q (F0 m pc ls rest) cls text := by
  intro T hT X
  have htr : e.platform.stackTraces = false := (show e.platform.stackTraces = l.stackTraces by rw [X.admits.platform]).trans hl
  have Y := vx_rebase X (R' := { frames := R.frames, locals := R.locals, cells := 3, slots := nb + 10 }) (Nat.le_refl _) (Nat.le_refl _) hRcells hRslots
  have hhp : ((T.setVm s.vm).setFrames (.invoking m args :: below)).heap = H := hT
  have hW0 : s.WarmedH ((T.setVm s.vm).setFrames (.invoking m args :: below)).vm := State.WarmedH.refl s
  have hat' : ∀ w ∈ vx_atM cls names, w.before args ((T.setVm s.vm).setFrames (.invoking m args :: below)) = true := fun w hw => vx_ot_at hW0 rfl (hgood w hw) (hat w hw)
  have hU' : vx_Zq Bundle.tN "UNASSIGNED_STACK" Bundle.steD A ((T.setVm s.vm).setFrames (.invoking m args :: below)) ((T.setVm s.vm).setFrames (.invoking m args :: below)).heap := by rw [hhp]; exact vx_Zq.moved hW0.alike (hU.kept hS.2.1)
  have hN' : vx_Zq Bundle.tN "SUPPRESSED_SENTINEL" Bundle.listD A ((T.setVm s.vm).setFrames (.invoking m args :: below)) ((T.setVm s.vm).setFrames (.invoking m args :: below)).heap := by rw [hhp]; exact vx_Zq.moved hW0.alike (hN.kept hS.2.1)
  obtain ⟨S, q, ce, st, Z, hce, hcl', hv⟩ := vx_vmAt Y hexec htr (cls := cls) (names := names) (text := text) hcls hnames hsoe hoom (vx_own hat' (vx_isRefq hU'.1) (vx_isRefq hN'.1) hU'.2.word hN'.2.word) (fun x hx => nomatch hx) htext
    (by rw [Launch.admits_arrayLengthLimit X.admits]; omega) (by rw [Launch.admits_maxHeapBytes X.admits]; simp only [componentBytes]; omega)
    (g := F0 m pc ls rest) rfl hsize hRframes (by show 2 * 0 + (rest.map fun v => v.category).sum + 10240 ≤ R.locals; omega) hshort (by show 0 + 3 ≤ 3; omega) (by show 0 + (_ + 4 + 6) ≤ nb + 10; omega) hlocks
  obtain ⟨f1, f2⟩ := vx_frame Z.same
  have f1' : H.size ≤ S.heap.size := by rw [← hT]; exact f1
  have f2' : ∀ q : Nat, q < H.size → S.heap[q]? = H[q]? := fun q hq => by
    rw [← hT]
    exact f2 q (by rw [← hT] at hq; exact hq) (fun z hz => nomatch hz)
  have X5 := vx_back9 X Y Z
  have X6 : Stand p l e R s m args below meth c S locs (cells + 3) (slots + (nb + 10)) := { X5 with same := X5.same.mono (by omega) (by omega) }
  obtain ⟨t, a1, b1⟩ := k S.heap q ce f1' f2' ⟨Nat.le_trans hS.1 f1', fun q h1 h2 => (f2' q (Nat.lt_of_lt_of_le h1 hS.1)).trans (hS.2.1 q h1 h2), hS.2.2⟩ hce hv hcl' S rfl X6
  exact ⟨t, st t a1, b1⟩
/-- from the machine's note that NullPointerException is thrown here -/
def vx_NoteN (p : Program) (l : Launch) (e : Env) (R : Room) (s : State) (m : MethodId) (args : Array Value) (below : List Frame) (meth : Method) (c : Code) (H : Heap) (locs : List Loc) (cells slots : Nat) (Q : State → Prop) (g : JFrame) : Prop :=
  ∀ T : State, T.heap = H → Stand p l e R s m args below meth c T locs cells slots → ∃ t, Steps p.tables e below ((T.setTop g).pushFrame (.throwNew "java/lang/NullPointerException" none none)) t ∧ Q t
theorem vx_npe {pc : Nat} {ls : Array Slot} {rest : List Value} {Q : State → Prop} (hexec : p.tables.exec = Jvm.exec) (hl : l.stackTraces = false) {nb : Nat} {A : Nat → Prop}
    (hat : ∀ w ∈ vx_atN nb, w.before args s = true) (hgood : ∀ w ∈ vx_atN nb, vx_ot w = true)
    (hU : vx_Zq Bundle.tN "UNASSIGNED_STACK" Bundle.steD A s s.heap) (hN : vx_Zq Bundle.tN "SUPPRESSED_SENTINEL" Bundle.listD A s s.heap) (hS : va_S A s.heap H locs) (hsize : ls.size = c.maxLocals)
    (hRframes : 7 < R.frames) (hRlocals : (rest.map fun v => v.category).sum + 10240 ≤ R.locals) (hRcells : cells + 1 ≤ R.cells) (hRslots : slots + nb ≤ R.slots) (hlocks : meth.locks = false)
    (k : ∀ (H1 : Heap) (q9 : Addr) (ce : Cell), H.size ≤ H1.size → (∀ q : Nat, q < H.size → H1[q]? = H[q]?) → va_S A s.heap H1 locs → H1[q9]? = some ce → ce.vm = .none → s.vm.findClass "java/lang/NullPointerException" = some ce.cls → vx_W p l e R s m args below meth c H1 locs (cells + 1) (slots + nb) Q (F0 m pc ls rest) q9) :
    vx_NoteN p l e R s m args below meth c H locs cells slots Q (F0 m pc ls rest) := by
  intro T hT X
  have htr : e.platform.stackTraces = false := (show e.platform.stackTraces = l.stackTraces by rw [X.admits.platform]).trans hl
  have Y := vx_rebase X (R' := { frames := R.frames, locals := R.locals, cells := 1, slots := nb }) (Nat.le_refl _) (Nat.le_refl _) hRcells hRslots
  have hhp : ((T.setVm s.vm).setFrames (.invoking m args :: below)).heap = H := hT
  have hW0 : s.WarmedH ((T.setVm s.vm).setFrames (.invoking m args :: below)).vm := State.WarmedH.refl s
  have hat' : ∀ w ∈ vx_atN nb, w.before args ((T.setVm s.vm).setFrames (.invoking m args :: below)) = true := fun w hw => vx_ot_at hW0 rfl (hgood w hw) (hat w hw)
  have hU' : vx_Zq Bundle.tN "UNASSIGNED_STACK" Bundle.steD A ((T.setVm s.vm).setFrames (.invoking m args :: below)) ((T.setVm s.vm).setFrames (.invoking m args :: below)).heap := by rw [hhp]; exact vx_Zq.moved hW0.alike (hU.kept hS.2.1)
  have hN' : vx_Zq Bundle.tN "SUPPRESSED_SENTINEL" Bundle.listD A ((T.setVm s.vm).setFrames (.invoking m args :: below)) ((T.setVm s.vm).setFrames (.invoking m args :: below)).heap := by rw [hhp]; exact vx_Zq.moved hW0.alike (hN.kept hS.2.1)
  obtain ⟨S, q, ce, st, Z, hce, hcl', hv⟩ := vx_npeAt Y hexec htr (n := nb) (vx_own hat' (vx_isRefq hU'.1) (vx_isRefq hN'.1) hU'.2.word hN'.2.word) (fun x hx => nomatch hx)
    (g := F0 m pc ls rest) rfl hsize hRframes (by show 2 * 0 + (rest.map fun v => v.category).sum + 10240 ≤ R.locals; omega) (by show 0 + 1 ≤ 1; omega) (by show 0 + nb ≤ nb; omega) hlocks
  obtain ⟨f1, f2⟩ := vx_frame Z.same
  have f1' : H.size ≤ S.heap.size := by rw [← hT]; exact f1
  have f2' : ∀ q : Nat, q < H.size → S.heap[q]? = H[q]? := fun q hq => by
    rw [← hT]
    exact f2 q (by rw [← hT] at hq; exact hq) (fun z hz => nomatch hz)
  have X5 := vx_back9 X Y Z
  have X6 : Stand p l e R s m args below meth c S locs (cells + 1) (slots + nb) := { X5 with same := X5.same.mono (by omega) (by omega) }
  obtain ⟨t, a1, b1⟩ := k S.heap q ce f1' f2' ⟨Nat.le_trans hS.1 f1', fun q h1 h2 => (f2' q (Nat.lt_of_lt_of_le h1 hS.1)).trans (hS.2.1 q h1 h2), hS.2.2⟩ hce hv hcl' S rfl X6
  exact ⟨t, st t a1, b1⟩
variable {Q : State → Prop} {cc : ByteArray} {pc : Nat} {ls : Array Slot} {rest : List Value}
theorem vx_idivZ (hexec : p.tables.exec = Jvm.exec) (hb : c.code = cc) {a b : Int32} (h0 : b = 0) (d : decode cc pc = .ok (.idiv, 1)) (k : vx_Note p l e R s m args below meth c H locs cells slots Q (F0 m pc ls rest) "java/lang/ArithmeticException" "/ by zero") :
    W p l e R s m args below meth c H locs cells slots Q (F0 m pc ls (.int b :: .int a :: rest)) := by
  intro T hT X
  obtain ⟨t, st, q⟩ := k T hT X
  exact ⟨t, X.idivZero hexec (g := F0 m pc ls (.int b :: .int a :: rest)) rfl (a := a) (rest := rest) (by rw [h0]) (by rw [hb]; exact d) t st, q⟩
theorem vx_iremZ (hexec : p.tables.exec = Jvm.exec) (hb : c.code = cc) {a b : Int32} (h0 : b = 0) (d : decode cc pc = .ok (.irem, 1)) (k : vx_Note p l e R s m args below meth c H locs cells slots Q (F0 m pc ls rest) "java/lang/ArithmeticException" "/ by zero") :
    W p l e R s m args below meth c H locs cells slots Q (F0 m pc ls (.int b :: .int a :: rest)) := by
  intro T hT X
  obtain ⟨t, st, q⟩ := k T hT X
  exact ⟨t, X.iremZero hexec (g := F0 m pc ls (.int b :: .int a :: rest)) rfl (a := a) (rest := rest) (by rw [h0]) (by rw [hb]; exact d) t st, q⟩
theorem vx_ldivZ (hexec : p.tables.exec = Jvm.exec) (hb : c.code = cc) {a b : Int64} (h0 : b = 0) (d : decode cc pc = .ok (.ldiv, 1)) (k : vx_Note p l e R s m args below meth c H locs cells slots Q (F0 m pc ls rest) "java/lang/ArithmeticException" "/ by zero") :
    W p l e R s m args below meth c H locs cells slots Q (F0 m pc ls (.long b :: .long a :: rest)) := by
  intro T hT X
  obtain ⟨t, st, q⟩ := k T hT X
  exact ⟨t, X.ldivZero hexec (g := F0 m pc ls (.long b :: .long a :: rest)) rfl (a := a) (rest := rest) (by rw [h0]) (by rw [hb]; exact d) t st, q⟩
theorem vx_lremZ (hexec : p.tables.exec = Jvm.exec) (hb : c.code = cc) {a b : Int64} (h0 : b = 0) (d : decode cc pc = .ok (.lrem, 1)) (k : vx_Note p l e R s m args below meth c H locs cells slots Q (F0 m pc ls rest) "java/lang/ArithmeticException" "/ by zero") :
    W p l e R s m args below meth c H locs cells slots Q (F0 m pc ls (.long b :: .long a :: rest)) := by
  intro T hT X
  obtain ⟨t, st, q⟩ := k T hT X
  exact ⟨t, X.lremZero hexec (g := F0 m pc ls (.long b :: .long a :: rest)) rfl (a := a) (rest := rest) (by rw [h0]) (by rw [hb]; exact d) t st, q⟩
theorem vx_ialdZ {D : va_G} {cl : List vw_C} {ws : va_W} {tys : List (ClassId × FieldType)} {a : Nat} (hexec : p.tables.exec = Jvm.exec) (hb : c.code = cc) (hK : va_K D cl tys s) (hP : va_P D cl ws H) (q0 t0 : Nat) {cA : ClassId} {n : Nat} {f : Nat → Int32} (ha : ws[q0]? = some (a, .inl (cA, n, .inl f))) (ht : tys[t0]? = some (cA, .int)) {i : Int32} (hout : ¬ vp_in i n) (hdg : decode cc pc = .ok (.iaload, 1))
    (k : ∀ tx : String, tx = (toString "Index " ++ toString i ++ toString " out of bounds for length " ++ toString n : String) → vx_Note p l e R s m args below meth c H locs cells slots Q (F0 m pc ls rest) "java/lang/ArrayIndexOutOfBoundsException" tx) : W p l e R s m args below meth c H locs cells slots Q (F0 m pc ls (.int i :: .ref a :: rest)) := by
  intro T hT X
  obtain ⟨t, st, q⟩ := k _ rfl T hT X
  refine ⟨t, ?_, q⟩
  have h1 := X.ialoadOut hexec (by rw [hT]; exact hP q0 _ ha) ((hK.2 t0 _ ht).1 n (fun j => .int (f j))) (j := i) (by show (i < 0 ∨ (arrV _ _ _).slots.size ≤ _); rw [arrV_size]; exact Classical.byContradiction hout) (g := F0 m pc ls (.int i :: .ref a :: rest)) rfl (rest := rest) rfl (by rw [hb]; exact hdg) t
  simp only [arrV_size] at h1
  exact h1 st
theorem vx_iastZ {D : va_G} {cl : List vw_C} {ws : va_W} {tys : List (ClassId × FieldType)} {a : Nat} (hexec : p.tables.exec = Jvm.exec) (hb : c.code = cc) (hK : va_K D cl tys s) (hP : va_P D cl ws H) (q0 t0 : Nat) {cA : ClassId} {n : Nat} {f : Nat → Int32} (ha : ws[q0]? = some (a, .inl (cA, n, .inl f))) (ht : tys[t0]? = some (cA, .int)) {i : Int32} {x : Int32} (hout : ¬ vp_in i n) (hdg : decode cc pc = .ok (.iastore, 1))
    (k : ∀ tx : String, tx = (toString "Index " ++ toString i ++ toString " out of bounds for length " ++ toString n : String) → vx_Note p l e R s m args below meth c H locs cells slots Q (F0 m pc ls rest) "java/lang/ArrayIndexOutOfBoundsException" tx) : W p l e R s m args below meth c H locs cells slots Q (F0 m pc ls (.int x :: .int i :: .ref a :: rest)) := by
  intro T hT X
  obtain ⟨t, st, q⟩ := k _ rfl T hT X
  refine ⟨t, ?_, q⟩
  have h1 := X.iastoreOut hexec (by rw [hT]; exact hP q0 _ ha) ((hK.2 t0 _ ht).1 n (fun j => .int (f j))) (j := i) (by show (i < 0 ∨ (arrV _ _ _).slots.size ≤ _); rw [arrV_size]; exact Classical.byContradiction hout) (g := F0 m pc ls (.int x :: .int i :: .ref a :: rest)) rfl (rest := rest) rfl (by rw [hb]; exact hdg) t
  simp only [arrV_size] at h1
  exact h1 st
theorem vx_baldZ {D : va_G} {cl : List vw_C} {ws : va_W} {tys : List (ClassId × FieldType)} {a : Nat} (hexec : p.tables.exec = Jvm.exec) (hb : c.code = cc) (hK : va_K D cl tys s) (hP : va_P D cl ws H) (q0 t0 : Nat) {cA : ClassId} {n : Nat} {f : Nat → Int32} (ha : ws[q0]? = some (a, .inl (cA, n, .inl f))) (ht : tys[t0]? = some (cA, .byte)) {i : Int32} (hout : ¬ vp_in i n) (hdg : decode cc pc = .ok (.baload, 1))
    (k : ∀ tx : String, tx = (toString "Index " ++ toString i ++ toString " out of bounds for length " ++ toString n : String) → vx_Note p l e R s m args below meth c H locs cells slots Q (F0 m pc ls rest) "java/lang/ArrayIndexOutOfBoundsException" tx) : W p l e R s m args below meth c H locs cells slots Q (F0 m pc ls (.int i :: .ref a :: rest)) := by
  intro T hT X
  obtain ⟨t, st, q⟩ := k _ rfl T hT X
  refine ⟨t, ?_, q⟩
  have h1 := X.baloadOut hexec (by rw [hT]; exact hP q0 _ ha) ((hK.2 t0 _ ht).1 n (fun j => .int (f j))) (j := i) (by show (i < 0 ∨ (arrV _ _ _).slots.size ≤ _); rw [arrV_size]; exact Classical.byContradiction hout) (g := F0 m pc ls (.int i :: .ref a :: rest)) rfl (rest := rest) rfl (by rw [hb]; exact hdg) t
  simp only [arrV_size] at h1
  exact h1 st
theorem vx_bastZ {D : va_G} {cl : List vw_C} {ws : va_W} {tys : List (ClassId × FieldType)} {a : Nat} (hexec : p.tables.exec = Jvm.exec) (hb : c.code = cc) (hK : va_K D cl tys s) (hP : va_P D cl ws H) (q0 t0 : Nat) {cA : ClassId} {n : Nat} {f : Nat → Int32} (ha : ws[q0]? = some (a, .inl (cA, n, .inl f))) (ht : tys[t0]? = some (cA, .byte)) {i : Int32} {x : Int32} (hout : ¬ vp_in i n) (hdg : decode cc pc = .ok (.bastore, 1))
    (k : ∀ tx : String, tx = (toString "Index " ++ toString i ++ toString " out of bounds for length " ++ toString n : String) → vx_Note p l e R s m args below meth c H locs cells slots Q (F0 m pc ls rest) "java/lang/ArrayIndexOutOfBoundsException" tx) : W p l e R s m args below meth c H locs cells slots Q (F0 m pc ls (.int x :: .int i :: .ref a :: rest)) := by
  intro T hT X
  obtain ⟨t, st, q⟩ := k _ rfl T hT X
  refine ⟨t, ?_, q⟩
  have h1 := X.bastoreOut hexec (by rw [hT]; exact hP q0 _ ha) ((hK.2 t0 _ ht).1 n (fun j => .int (f j))) (j := i) (by show (i < 0 ∨ (arrV _ _ _).slots.size ≤ _); rw [arrV_size]; exact Classical.byContradiction hout) (g := F0 m pc ls (.int x :: .int i :: .ref a :: rest)) rfl (rest := rest) rfl (by rw [hb]; exact hdg) t
  simp only [arrV_size] at h1
  exact h1 st
theorem vx_zaldZ {D : va_G} {cl : List vw_C} {ws : va_W} {tys : List (ClassId × FieldType)} {a : Nat} (hexec : p.tables.exec = Jvm.exec) (hb : c.code = cc) (hK : va_K D cl tys s) (hP : va_P D cl ws H) (q0 t0 : Nat) {cA : ClassId} {n : Nat} {f : Nat → Int32} (ha : ws[q0]? = some (a, .inl (cA, n, .inl f))) (ht : tys[t0]? = some (cA, .boolean)) {i : Int32} (hout : ¬ vp_in i n) (hdg : decode cc pc = .ok (.baload, 1))
    (k : ∀ tx : String, tx = (toString "Index " ++ toString i ++ toString " out of bounds for length " ++ toString n : String) → vx_Note p l e R s m args below meth c H locs cells slots Q (F0 m pc ls rest) "java/lang/ArrayIndexOutOfBoundsException" tx) : W p l e R s m args below meth c H locs cells slots Q (F0 m pc ls (.int i :: .ref a :: rest)) := by
  intro T hT X
  obtain ⟨t, st, q⟩ := k _ rfl T hT X
  refine ⟨t, ?_, q⟩
  have h1 := X.baloadOut hexec (by rw [hT]; exact hP q0 _ ha) ((hK.2 t0 _ ht).1 n (fun j => .int (f j))) (j := i) (by show (i < 0 ∨ (arrV _ _ _).slots.size ≤ _); rw [arrV_size]; exact Classical.byContradiction hout) (g := F0 m pc ls (.int i :: .ref a :: rest)) rfl (rest := rest) rfl (by rw [hb]; exact hdg) t
  simp only [arrV_size] at h1
  exact h1 st
theorem vx_zastZ {D : va_G} {cl : List vw_C} {ws : va_W} {tys : List (ClassId × FieldType)} {a : Nat} (hexec : p.tables.exec = Jvm.exec) (hb : c.code = cc) (hK : va_K D cl tys s) (hP : va_P D cl ws H) (q0 t0 : Nat) {cA : ClassId} {n : Nat} {f : Nat → Int32} (ha : ws[q0]? = some (a, .inl (cA, n, .inl f))) (ht : tys[t0]? = some (cA, .boolean)) {i : Int32} {x : Int32} (hout : ¬ vp_in i n) (hdg : decode cc pc = .ok (.bastore, 1))
    (k : ∀ tx : String, tx = (toString "Index " ++ toString i ++ toString " out of bounds for length " ++ toString n : String) → vx_Note p l e R s m args below meth c H locs cells slots Q (F0 m pc ls rest) "java/lang/ArrayIndexOutOfBoundsException" tx) : W p l e R s m args below meth c H locs cells slots Q (F0 m pc ls (.int x :: .int i :: .ref a :: rest)) := by
  intro T hT X
  obtain ⟨t, st, q⟩ := k _ rfl T hT X
  refine ⟨t, ?_, q⟩
  have h1 := X.bastoreOut hexec (by rw [hT]; exact hP q0 _ ha) ((hK.2 t0 _ ht).1 n (fun j => .int (f j))) (j := i) (by show (i < 0 ∨ (arrV _ _ _).slots.size ≤ _); rw [arrV_size]; exact Classical.byContradiction hout) (g := F0 m pc ls (.int x :: .int i :: .ref a :: rest)) rfl (rest := rest) rfl (by rw [hb]; exact hdg) t
  simp only [arrV_size] at h1
  exact h1 st
theorem vx_caldZ {D : va_G} {cl : List vw_C} {ws : va_W} {tys : List (ClassId × FieldType)} {a : Nat} (hexec : p.tables.exec = Jvm.exec) (hb : c.code = cc) (hK : va_K D cl tys s) (hP : va_P D cl ws H) (q0 t0 : Nat) {cA : ClassId} {n : Nat} {f : Nat → Int32} (ha : ws[q0]? = some (a, .inl (cA, n, .inl f))) (ht : tys[t0]? = some (cA, .char)) {i : Int32} (hout : ¬ vp_in i n) (hdg : decode cc pc = .ok (.caload, 1))
    (k : ∀ tx : String, tx = (toString "Index " ++ toString i ++ toString " out of bounds for length " ++ toString n : String) → vx_Note p l e R s m args below meth c H locs cells slots Q (F0 m pc ls rest) "java/lang/ArrayIndexOutOfBoundsException" tx) : W p l e R s m args below meth c H locs cells slots Q (F0 m pc ls (.int i :: .ref a :: rest)) := by
  intro T hT X
  obtain ⟨t, st, q⟩ := k _ rfl T hT X
  refine ⟨t, ?_, q⟩
  have h1 := X.caloadOut hexec (by rw [hT]; exact hP q0 _ ha) ((hK.2 t0 _ ht).1 n (fun j => .int (f j))) (j := i) (by show (i < 0 ∨ (arrV _ _ _).slots.size ≤ _); rw [arrV_size]; exact Classical.byContradiction hout) (g := F0 m pc ls (.int i :: .ref a :: rest)) rfl (rest := rest) rfl (by rw [hb]; exact hdg) t
  simp only [arrV_size] at h1
  exact h1 st
theorem vx_castZ {D : va_G} {cl : List vw_C} {ws : va_W} {tys : List (ClassId × FieldType)} {a : Nat} (hexec : p.tables.exec = Jvm.exec) (hb : c.code = cc) (hK : va_K D cl tys s) (hP : va_P D cl ws H) (q0 t0 : Nat) {cA : ClassId} {n : Nat} {f : Nat → Int32} (ha : ws[q0]? = some (a, .inl (cA, n, .inl f))) (ht : tys[t0]? = some (cA, .char)) {i : Int32} {x : Int32} (hout : ¬ vp_in i n) (hdg : decode cc pc = .ok (.castore, 1))
    (k : ∀ tx : String, tx = (toString "Index " ++ toString i ++ toString " out of bounds for length " ++ toString n : String) → vx_Note p l e R s m args below meth c H locs cells slots Q (F0 m pc ls rest) "java/lang/ArrayIndexOutOfBoundsException" tx) : W p l e R s m args below meth c H locs cells slots Q (F0 m pc ls (.int x :: .int i :: .ref a :: rest)) := by
  intro T hT X
  obtain ⟨t, st, q⟩ := k _ rfl T hT X
  refine ⟨t, ?_, q⟩
  have h1 := X.castoreOut hexec (by rw [hT]; exact hP q0 _ ha) ((hK.2 t0 _ ht).1 n (fun j => .int (f j))) (j := i) (by show (i < 0 ∨ (arrV _ _ _).slots.size ≤ _); rw [arrV_size]; exact Classical.byContradiction hout) (g := F0 m pc ls (.int x :: .int i :: .ref a :: rest)) rfl (rest := rest) rfl (by rw [hb]; exact hdg) t
  simp only [arrV_size] at h1
  exact h1 st
theorem vx_saldZ {D : va_G} {cl : List vw_C} {ws : va_W} {tys : List (ClassId × FieldType)} {a : Nat} (hexec : p.tables.exec = Jvm.exec) (hb : c.code = cc) (hK : va_K D cl tys s) (hP : va_P D cl ws H) (q0 t0 : Nat) {cA : ClassId} {n : Nat} {f : Nat → Int32} (ha : ws[q0]? = some (a, .inl (cA, n, .inl f))) (ht : tys[t0]? = some (cA, .short)) {i : Int32} (hout : ¬ vp_in i n) (hdg : decode cc pc = .ok (.saload, 1))
    (k : ∀ tx : String, tx = (toString "Index " ++ toString i ++ toString " out of bounds for length " ++ toString n : String) → vx_Note p l e R s m args below meth c H locs cells slots Q (F0 m pc ls rest) "java/lang/ArrayIndexOutOfBoundsException" tx) : W p l e R s m args below meth c H locs cells slots Q (F0 m pc ls (.int i :: .ref a :: rest)) := by
  intro T hT X
  obtain ⟨t, st, q⟩ := k _ rfl T hT X
  refine ⟨t, ?_, q⟩
  have h1 := X.saloadOut hexec (by rw [hT]; exact hP q0 _ ha) ((hK.2 t0 _ ht).1 n (fun j => .int (f j))) (j := i) (by show (i < 0 ∨ (arrV _ _ _).slots.size ≤ _); rw [arrV_size]; exact Classical.byContradiction hout) (g := F0 m pc ls (.int i :: .ref a :: rest)) rfl (rest := rest) rfl (by rw [hb]; exact hdg) t
  simp only [arrV_size] at h1
  exact h1 st
theorem vx_sastZ {D : va_G} {cl : List vw_C} {ws : va_W} {tys : List (ClassId × FieldType)} {a : Nat} (hexec : p.tables.exec = Jvm.exec) (hb : c.code = cc) (hK : va_K D cl tys s) (hP : va_P D cl ws H) (q0 t0 : Nat) {cA : ClassId} {n : Nat} {f : Nat → Int32} (ha : ws[q0]? = some (a, .inl (cA, n, .inl f))) (ht : tys[t0]? = some (cA, .short)) {i : Int32} {x : Int32} (hout : ¬ vp_in i n) (hdg : decode cc pc = .ok (.sastore, 1))
    (k : ∀ tx : String, tx = (toString "Index " ++ toString i ++ toString " out of bounds for length " ++ toString n : String) → vx_Note p l e R s m args below meth c H locs cells slots Q (F0 m pc ls rest) "java/lang/ArrayIndexOutOfBoundsException" tx) : W p l e R s m args below meth c H locs cells slots Q (F0 m pc ls (.int x :: .int i :: .ref a :: rest)) := by
  intro T hT X
  obtain ⟨t, st, q⟩ := k _ rfl T hT X
  refine ⟨t, ?_, q⟩
  have h1 := X.sastoreOut hexec (by rw [hT]; exact hP q0 _ ha) ((hK.2 t0 _ ht).1 n (fun j => .int (f j))) (j := i) (by show (i < 0 ∨ (arrV _ _ _).slots.size ≤ _); rw [arrV_size]; exact Classical.byContradiction hout) (g := F0 m pc ls (.int x :: .int i :: .ref a :: rest)) rfl (rest := rest) rfl (by rw [hb]; exact hdg) t
  simp only [arrV_size] at h1
  exact h1 st
theorem vx_laldZ {D : va_G} {cl : List vw_C} {ws : va_W} {tys : List (ClassId × FieldType)} {a : Nat} (hexec : p.tables.exec = Jvm.exec) (hb : c.code = cc) (hK : va_K D cl tys s) (hP : va_P D cl ws H) (q0 t0 : Nat) {cA : ClassId} {n : Nat} {f : Nat → Int64} (ha : ws[q0]? = some (a, .inl (cA, n, .inr (.inl f)))) (ht : tys[t0]? = some (cA, .long)) {i : Int32} (hout : ¬ vp_in i n) (hdg : decode cc pc = .ok (.laload, 1))
    (k : ∀ tx : String, tx = (toString "Index " ++ toString i ++ toString " out of bounds for length " ++ toString n : String) → vx_Note p l e R s m args below meth c H locs cells slots Q (F0 m pc ls rest) "java/lang/ArrayIndexOutOfBoundsException" tx) : W p l e R s m args below meth c H locs cells slots Q (F0 m pc ls (.int i :: .ref a :: rest)) := by
  intro T hT X
  obtain ⟨t, st, q⟩ := k _ rfl T hT X
  refine ⟨t, ?_, q⟩
  have h1 := X.laloadOut hexec (by rw [hT]; exact hP q0 _ ha) ((hK.2 t0 _ ht).1 n (fun j => .long (f j))) (j := i) (by show (i < 0 ∨ (arrV _ _ _).slots.size ≤ _); rw [arrV_size]; exact Classical.byContradiction hout) (g := F0 m pc ls (.int i :: .ref a :: rest)) rfl (rest := rest) rfl (by rw [hb]; exact hdg) t
  simp only [arrV_size] at h1
  exact h1 st
theorem vx_lastZ {D : va_G} {cl : List vw_C} {ws : va_W} {tys : List (ClassId × FieldType)} {a : Nat} (hexec : p.tables.exec = Jvm.exec) (hb : c.code = cc) (hK : va_K D cl tys s) (hP : va_P D cl ws H) (q0 t0 : Nat) {cA : ClassId} {n : Nat} {f : Nat → Int64} (ha : ws[q0]? = some (a, .inl (cA, n, .inr (.inl f)))) (ht : tys[t0]? = some (cA, .long)) {i : Int32} {x : Int64} (hout : ¬ vp_in i n) (hdg : decode cc pc = .ok (.lastore, 1))
    (k : ∀ tx : String, tx = (toString "Index " ++ toString i ++ toString " out of bounds for length " ++ toString n : String) → vx_Note p l e R s m args below meth c H locs cells slots Q (F0 m pc ls rest) "java/lang/ArrayIndexOutOfBoundsException" tx) : W p l e R s m args below meth c H locs cells slots Q (F0 m pc ls (.long x :: .int i :: .ref a :: rest)) := by
  intro T hT X
  obtain ⟨t, st, q⟩ := k _ rfl T hT X
  refine ⟨t, ?_, q⟩
  have h1 := X.lastoreOut hexec (by rw [hT]; exact hP q0 _ ha) ((hK.2 t0 _ ht).1 n (fun j => .long (f j))) (j := i) (by show (i < 0 ∨ (arrV _ _ _).slots.size ≤ _); rw [arrV_size]; exact Classical.byContradiction hout) (g := F0 m pc ls (.long x :: .int i :: .ref a :: rest)) rfl (rest := rest) rfl (by rw [hb]; exact hdg) t
  simp only [arrV_size] at h1
  exact h1 st
theorem vx_faldZ {D : va_G} {cl : List vw_C} {ws : va_W} {tys : List (ClassId × FieldType)} {a : Nat} (hexec : p.tables.exec = Jvm.exec) (hb : c.code = cc) (hK : va_K D cl tys s) (hP : va_P D cl ws H) (q0 t0 : Nat) {cA : ClassId} {n : Nat} {f : Nat → UInt32} (ha : ws[q0]? = some (a, .inl (cA, n, .inr (.inr (.inl f))))) (ht : tys[t0]? = some (cA, .float)) {i : Int32} (hout : ¬ vp_in i n) (hdg : decode cc pc = .ok (.faload, 1))
    (k : ∀ tx : String, tx = (toString "Index " ++ toString i ++ toString " out of bounds for length " ++ toString n : String) → vx_Note p l e R s m args below meth c H locs cells slots Q (F0 m pc ls rest) "java/lang/ArrayIndexOutOfBoundsException" tx) : W p l e R s m args below meth c H locs cells slots Q (F0 m pc ls (.int i :: .ref a :: rest)) := by
  intro T hT X
  obtain ⟨t, st, q⟩ := k _ rfl T hT X
  refine ⟨t, ?_, q⟩
  have h1 := X.faloadOut hexec (by rw [hT]; exact hP q0 _ ha) ((hK.2 t0 _ ht).1 n (fun j => .float (f j))) (j := i) (by show (i < 0 ∨ (arrV _ _ _).slots.size ≤ _); rw [arrV_size]; exact Classical.byContradiction hout) (g := F0 m pc ls (.int i :: .ref a :: rest)) rfl (rest := rest) rfl (by rw [hb]; exact hdg) t
  simp only [arrV_size] at h1
  exact h1 st
theorem vx_fastZ {D : va_G} {cl : List vw_C} {ws : va_W} {tys : List (ClassId × FieldType)} {a : Nat} (hexec : p.tables.exec = Jvm.exec) (hb : c.code = cc) (hK : va_K D cl tys s) (hP : va_P D cl ws H) (q0 t0 : Nat) {cA : ClassId} {n : Nat} {f : Nat → UInt32} (ha : ws[q0]? = some (a, .inl (cA, n, .inr (.inr (.inl f))))) (ht : tys[t0]? = some (cA, .float)) {i : Int32} {x : UInt32} (hout : ¬ vp_in i n) (hdg : decode cc pc = .ok (.fastore, 1))
    (k : ∀ tx : String, tx = (toString "Index " ++ toString i ++ toString " out of bounds for length " ++ toString n : String) → vx_Note p l e R s m args below meth c H locs cells slots Q (F0 m pc ls rest) "java/lang/ArrayIndexOutOfBoundsException" tx) : W p l e R s m args below meth c H locs cells slots Q (F0 m pc ls (.float x :: .int i :: .ref a :: rest)) := by
  intro T hT X
  obtain ⟨t, st, q⟩ := k _ rfl T hT X
  refine ⟨t, ?_, q⟩
  have h1 := X.fastoreOut hexec (by rw [hT]; exact hP q0 _ ha) ((hK.2 t0 _ ht).1 n (fun j => .float (f j))) (j := i) (by show (i < 0 ∨ (arrV _ _ _).slots.size ≤ _); rw [arrV_size]; exact Classical.byContradiction hout) (g := F0 m pc ls (.float x :: .int i :: .ref a :: rest)) rfl (rest := rest) rfl (by rw [hb]; exact hdg) t
  simp only [arrV_size] at h1
  exact h1 st
theorem vx_daldZ {D : va_G} {cl : List vw_C} {ws : va_W} {tys : List (ClassId × FieldType)} {a : Nat} (hexec : p.tables.exec = Jvm.exec) (hb : c.code = cc) (hK : va_K D cl tys s) (hP : va_P D cl ws H) (q0 t0 : Nat) {cA : ClassId} {n : Nat} {f : Nat → UInt64} (ha : ws[q0]? = some (a, .inl (cA, n, .inr (.inr (.inr (.inl f)))))) (ht : tys[t0]? = some (cA, .double)) {i : Int32} (hout : ¬ vp_in i n) (hdg : decode cc pc = .ok (.daload, 1))
    (k : ∀ tx : String, tx = (toString "Index " ++ toString i ++ toString " out of bounds for length " ++ toString n : String) → vx_Note p l e R s m args below meth c H locs cells slots Q (F0 m pc ls rest) "java/lang/ArrayIndexOutOfBoundsException" tx) : W p l e R s m args below meth c H locs cells slots Q (F0 m pc ls (.int i :: .ref a :: rest)) := by
  intro T hT X
  obtain ⟨t, st, q⟩ := k _ rfl T hT X
  refine ⟨t, ?_, q⟩
  have h1 := X.daloadOut hexec (by rw [hT]; exact hP q0 _ ha) ((hK.2 t0 _ ht).1 n (fun j => .double (f j))) (j := i) (by show (i < 0 ∨ (arrV _ _ _).slots.size ≤ _); rw [arrV_size]; exact Classical.byContradiction hout) (g := F0 m pc ls (.int i :: .ref a :: rest)) rfl (rest := rest) rfl (by rw [hb]; exact hdg) t
  simp only [arrV_size] at h1
  exact h1 st
theorem vx_dastZ {D : va_G} {cl : List vw_C} {ws : va_W} {tys : List (ClassId × FieldType)} {a : Nat} (hexec : p.tables.exec = Jvm.exec) (hb : c.code = cc) (hK : va_K D cl tys s) (hP : va_P D cl ws H) (q0 t0 : Nat) {cA : ClassId} {n : Nat} {f : Nat → UInt64} (ha : ws[q0]? = some (a, .inl (cA, n, .inr (.inr (.inr (.inl f)))))) (ht : tys[t0]? = some (cA, .double)) {i : Int32} {x : UInt64} (hout : ¬ vp_in i n) (hdg : decode cc pc = .ok (.dastore, 1))
    (k : ∀ tx : String, tx = (toString "Index " ++ toString i ++ toString " out of bounds for length " ++ toString n : String) → vx_Note p l e R s m args below meth c H locs cells slots Q (F0 m pc ls rest) "java/lang/ArrayIndexOutOfBoundsException" tx) : W p l e R s m args below meth c H locs cells slots Q (F0 m pc ls (.double x :: .int i :: .ref a :: rest)) := by
  intro T hT X
  obtain ⟨t, st, q⟩ := k _ rfl T hT X
  refine ⟨t, ?_, q⟩
  have h1 := X.dastoreOut hexec (by rw [hT]; exact hP q0 _ ha) ((hK.2 t0 _ ht).1 n (fun j => .double (f j))) (j := i) (by show (i < 0 ∨ (arrV _ _ _).slots.size ≤ _); rw [arrV_size]; exact Classical.byContradiction hout) (g := F0 m pc ls (.double x :: .int i :: .ref a :: rest)) rfl (rest := rest) rfl (by rw [hb]; exact hdg) t
  simp only [arrV_size] at h1
  exact h1 st
theorem vx_arraylengthN (hexec : p.tables.exec = Jvm.exec) (hb : c.code = cc) (hdg : decode cc pc = .ok (.arraylength, 1)) (k : vx_NoteN p l e R s m args below meth c H locs cells slots Q (F0 m pc ls rest)) : W p l e R s m args below meth c H locs cells slots Q (F0 m pc ls (.null :: rest)) := by
  intro T hT X
  obtain ⟨t, st, q⟩ := k T hT X
  exact ⟨t, X.arraylengthNull hexec (g := F0 m pc ls (.null :: rest)) rfl (rest := rest) rfl (by rw [hb]; exact hdg) t st, q⟩
theorem vx_ialoadN (hexec : p.tables.exec = Jvm.exec) (hb : c.code = cc) {i : Int32} (hdg : decode cc pc = .ok (.iaload, 1)) (k : vx_NoteN p l e R s m args below meth c H locs cells slots Q (F0 m pc ls rest)) : W p l e R s m args below meth c H locs cells slots Q (F0 m pc ls (.int i :: .null :: rest)) := by
  intro T hT X
  obtain ⟨t, st, q⟩ := k T hT X
  exact ⟨t, X.ialoadNull hexec (g := F0 m pc ls (.int i :: .null :: rest)) rfl (rest := rest) rfl (by rw [hb]; exact hdg) t st, q⟩
theorem vx_laloadN (hexec : p.tables.exec = Jvm.exec) (hb : c.code = cc) {i : Int32} (hdg : decode cc pc = .ok (.laload, 1)) (k : vx_NoteN p l e R s m args below meth c H locs cells slots Q (F0 m pc ls rest)) : W p l e R s m args below meth c H locs cells slots Q (F0 m pc ls (.int i :: .null :: rest)) := by
  intro T hT X
  obtain ⟨t, st, q⟩ := k T hT X
  exact ⟨t, X.laloadNull hexec (g := F0 m pc ls (.int i :: .null :: rest)) rfl (rest := rest) rfl (by rw [hb]; exact hdg) t st, q⟩
theorem vx_faloadN (hexec : p.tables.exec = Jvm.exec) (hb : c.code = cc) {i : Int32} (hdg : decode cc pc = .ok (.faload, 1)) (k : vx_NoteN p l e R s m args below meth c H locs cells slots Q (F0 m pc ls rest)) : W p l e R s m args below meth c H locs cells slots Q (F0 m pc ls (.int i :: .null :: rest)) := by
  intro T hT X
  obtain ⟨t, st, q⟩ := k T hT X
  exact ⟨t, X.faloadNull hexec (g := F0 m pc ls (.int i :: .null :: rest)) rfl (rest := rest) rfl (by rw [hb]; exact hdg) t st, q⟩
theorem vx_daloadN (hexec : p.tables.exec = Jvm.exec) (hb : c.code = cc) {i : Int32} (hdg : decode cc pc = .ok (.daload, 1)) (k : vx_NoteN p l e R s m args below meth c H locs cells slots Q (F0 m pc ls rest)) : W p l e R s m args below meth c H locs cells slots Q (F0 m pc ls (.int i :: .null :: rest)) := by
  intro T hT X
  obtain ⟨t, st, q⟩ := k T hT X
  exact ⟨t, X.daloadNull hexec (g := F0 m pc ls (.int i :: .null :: rest)) rfl (rest := rest) rfl (by rw [hb]; exact hdg) t st, q⟩
theorem vx_aaloadN (hexec : p.tables.exec = Jvm.exec) (hb : c.code = cc) {i : Int32} (hdg : decode cc pc = .ok (.aaload, 1)) (k : vx_NoteN p l e R s m args below meth c H locs cells slots Q (F0 m pc ls rest)) : W p l e R s m args below meth c H locs cells slots Q (F0 m pc ls (.int i :: .null :: rest)) := by
  intro T hT X
  obtain ⟨t, st, q⟩ := k T hT X
  exact ⟨t, X.aaloadNull hexec (g := F0 m pc ls (.int i :: .null :: rest)) rfl (rest := rest) rfl (by rw [hb]; exact hdg) t st, q⟩
theorem vx_baloadN (hexec : p.tables.exec = Jvm.exec) (hb : c.code = cc) {i : Int32} (hdg : decode cc pc = .ok (.baload, 1)) (k : vx_NoteN p l e R s m args below meth c H locs cells slots Q (F0 m pc ls rest)) : W p l e R s m args below meth c H locs cells slots Q (F0 m pc ls (.int i :: .null :: rest)) := by
  intro T hT X
  obtain ⟨t, st, q⟩ := k T hT X
  exact ⟨t, X.baloadNull hexec (g := F0 m pc ls (.int i :: .null :: rest)) rfl (rest := rest) rfl (by rw [hb]; exact hdg) t st, q⟩
theorem vx_caloadN (hexec : p.tables.exec = Jvm.exec) (hb : c.code = cc) {i : Int32} (hdg : decode cc pc = .ok (.caload, 1)) (k : vx_NoteN p l e R s m args below meth c H locs cells slots Q (F0 m pc ls rest)) : W p l e R s m args below meth c H locs cells slots Q (F0 m pc ls (.int i :: .null :: rest)) := by
  intro T hT X
  obtain ⟨t, st, q⟩ := k T hT X
  exact ⟨t, X.caloadNull hexec (g := F0 m pc ls (.int i :: .null :: rest)) rfl (rest := rest) rfl (by rw [hb]; exact hdg) t st, q⟩
theorem vx_saloadN (hexec : p.tables.exec = Jvm.exec) (hb : c.code = cc) {i : Int32} (hdg : decode cc pc = .ok (.saload, 1)) (k : vx_NoteN p l e R s m args below meth c H locs cells slots Q (F0 m pc ls rest)) : W p l e R s m args below meth c H locs cells slots Q (F0 m pc ls (.int i :: .null :: rest)) := by
  intro T hT X
  obtain ⟨t, st, q⟩ := k T hT X
  exact ⟨t, X.saloadNull hexec (g := F0 m pc ls (.int i :: .null :: rest)) rfl (rest := rest) rfl (by rw [hb]; exact hdg) t st, q⟩
theorem vx_iastoreN (hexec : p.tables.exec = Jvm.exec) (hb : c.code = cc) {x : Int32} {i : Int32} (hdg : decode cc pc = .ok (.iastore, 1)) (k : vx_NoteN p l e R s m args below meth c H locs cells slots Q (F0 m pc ls rest)) : W p l e R s m args below meth c H locs cells slots Q (F0 m pc ls (.int x :: .int i :: .null :: rest)) := by
  intro T hT X
  obtain ⟨t, st, q⟩ := k T hT X
  exact ⟨t, X.iastoreNull hexec (g := F0 m pc ls (.int x :: .int i :: .null :: rest)) rfl (rest := rest) rfl (by rw [hb]; exact hdg) t st, q⟩
theorem vx_lastoreN (hexec : p.tables.exec = Jvm.exec) (hb : c.code = cc) {x : Int64} {i : Int32} (hdg : decode cc pc = .ok (.lastore, 1)) (k : vx_NoteN p l e R s m args below meth c H locs cells slots Q (F0 m pc ls rest)) : W p l e R s m args below meth c H locs cells slots Q (F0 m pc ls (.long x :: .int i :: .null :: rest)) := by
  intro T hT X
  obtain ⟨t, st, q⟩ := k T hT X
  exact ⟨t, X.lastoreNull hexec (g := F0 m pc ls (.long x :: .int i :: .null :: rest)) rfl (rest := rest) rfl (by rw [hb]; exact hdg) t st, q⟩
theorem vx_fastoreN (hexec : p.tables.exec = Jvm.exec) (hb : c.code = cc) {x : UInt32} {i : Int32} (hdg : decode cc pc = .ok (.fastore, 1)) (k : vx_NoteN p l e R s m args below meth c H locs cells slots Q (F0 m pc ls rest)) : W p l e R s m args below meth c H locs cells slots Q (F0 m pc ls (.float x :: .int i :: .null :: rest)) := by
  intro T hT X
  obtain ⟨t, st, q⟩ := k T hT X
  exact ⟨t, X.fastoreNull hexec (g := F0 m pc ls (.float x :: .int i :: .null :: rest)) rfl (rest := rest) rfl (by rw [hb]; exact hdg) t st, q⟩
theorem vx_dastoreN (hexec : p.tables.exec = Jvm.exec) (hb : c.code = cc) {x : UInt64} {i : Int32} (hdg : decode cc pc = .ok (.dastore, 1)) (k : vx_NoteN p l e R s m args below meth c H locs cells slots Q (F0 m pc ls rest)) : W p l e R s m args below meth c H locs cells slots Q (F0 m pc ls (.double x :: .int i :: .null :: rest)) := by
  intro T hT X
  obtain ⟨t, st, q⟩ := k T hT X
  exact ⟨t, X.dastoreNull hexec (g := F0 m pc ls (.double x :: .int i :: .null :: rest)) rfl (rest := rest) rfl (by rw [hb]; exact hdg) t st, q⟩
theorem vx_bastoreN (hexec : p.tables.exec = Jvm.exec) (hb : c.code = cc) {x : Int32} {i : Int32} (hdg : decode cc pc = .ok (.bastore, 1)) (k : vx_NoteN p l e R s m args below meth c H locs cells slots Q (F0 m pc ls rest)) : W p l e R s m args below meth c H locs cells slots Q (F0 m pc ls (.int x :: .int i :: .null :: rest)) := by
  intro T hT X
  obtain ⟨t, st, q⟩ := k T hT X
  exact ⟨t, X.bastoreNull hexec (g := F0 m pc ls (.int x :: .int i :: .null :: rest)) rfl (rest := rest) rfl (by rw [hb]; exact hdg) t st, q⟩
theorem vx_castoreN (hexec : p.tables.exec = Jvm.exec) (hb : c.code = cc) {x : Int32} {i : Int32} (hdg : decode cc pc = .ok (.castore, 1)) (k : vx_NoteN p l e R s m args below meth c H locs cells slots Q (F0 m pc ls rest)) : W p l e R s m args below meth c H locs cells slots Q (F0 m pc ls (.int x :: .int i :: .null :: rest)) := by
  intro T hT X
  obtain ⟨t, st, q⟩ := k T hT X
  exact ⟨t, X.castoreNull hexec (g := F0 m pc ls (.int x :: .int i :: .null :: rest)) rfl (rest := rest) rfl (by rw [hb]; exact hdg) t st, q⟩
theorem vx_sastoreN (hexec : p.tables.exec = Jvm.exec) (hb : c.code = cc) {x : Int32} {i : Int32} (hdg : decode cc pc = .ok (.sastore, 1)) (k : vx_NoteN p l e R s m args below meth c H locs cells slots Q (F0 m pc ls rest)) : W p l e R s m args below meth c H locs cells slots Q (F0 m pc ls (.int x :: .int i :: .null :: rest)) := by
  intro T hT X
  obtain ⟨t, st, q⟩ := k T hT X
  exact ⟨t, X.sastoreNull hexec (g := F0 m pc ls (.int x :: .int i :: .null :: rest)) rfl (rest := rest) rfl (by rw [hb]; exact hdg) t st, q⟩
theorem vx_invokeN {own C : String} {index maxL : Nat} {y : MethodName} {bytes : ByteArray} {ret : Option FieldType} (hexec : p.tables.exec = Jvm.exec) (hb : c.code = cc) (hown : s.vm.findClass own = some m.cls) (hlink : (Cond.methodLink own index y).before args s = true) (hinst : (Cond.instanceMethod y).before args s = true) (hcode : (Cond.code y bytes maxL ret).before args s = true) (hsel : (Cond.selects C y y).before args s = true)
    (hx : y.cls ≠ "java/lang/invoke/MethodHandle" ∧ y.cls ≠ "java/lang/invoke/VarHandle") {As : List Value} (hlen : (parseMethodDescriptor y.desc).map (fun d => d.parameters.length) = some As.length) (hdg : decode cc pc = .ok (.invokevirtual index, 3))
    (k : vx_NoteN p l e R s m args below meth c H locs cells slots Q (F0 m pc ls rest)) {st0 : List Value} (hst : st0 = As.reverse ++ .null :: rest) : W p l e R s m args below meth c H locs cells slots Q (F0 m pc ls st0) := by
  intro T hT X
  obtain ⟨r0, r, hn, hrm, hstR, hsigR⟩ := va_Decl.of hinst hcode
  obtain ⟨c2, r2, m2, q1, q2, q3, q4, kP, hkP, hkPi⟩ := Cond.selects_spec hsel
  cases hn.symm.trans q3
  have hl9 : As.length = r.sig.parameters.length := by
    rw [hsigR] at hlen
    exact (Option.some.inj hlen).symm
  obtain ⟨vm', X1, st1⟩ := X.invokevirtualNull hexec hown hlink hn hrm hstR hkP hkPi hx (g := F0 m pc ls st0) rfl (argsL := As) (rest := rest) hl9 hst (by rw [hb]; exact hdg)
  obtain ⟨t, st, q⟩ := k (T.setVm vm') hT X1
  exact ⟨t, st1 t st, q⟩
theorem vx_newarrayZ {atype : ArrayType} (hexec : p.tables.exec = Jvm.exec) (hb : c.code = cc) {n : Int32} (h0 : n < 0) (hdg : decode cc pc = .ok (.newarray atype, 2)) (k : ∀ tx : String, tx = toString n → vx_Note p l e R s m args below meth c H locs cells slots Q (F0 m pc ls rest) "java/lang/NegativeArraySizeException" tx) : W p l e R s m args below meth c H locs cells slots Q (F0 m pc ls (.int n :: rest)) := by
  intro T hT X
  obtain ⟨t, st, q⟩ := k _ rfl T hT X
  exact ⟨t, X.newarrayNegative hexec (g := F0 m pc ls (.int n :: rest)) rfl h0 (rest := rest) rfl (by rw [hb]; exact hdg) t st, q⟩
end
end VXM
/-! ===== END ===== -/
/-! ===== BEGIN an exception as an object: made, kept, thrown later (no traces kept) ===== -/
section VXK
variable {p : Program} {l : Launch} {e : Env} {R : Room} {s : State} {m₀ : MethodId} {args : Array Value} {below : List Frame} {meth : Method} {c : Code} {W : State} {locs : List Loc} {cells slots : Nat}
set_option maxHeartbeats 1000000 in
theorem vx_ctorMadeS (X : Stand p l e R s m₀ args below meth c W locs cells slots) (hexec : p.tables.exec = Jvm.exec) (htr : e.platform.stackTraces = false) {own cls : String} {names : List String} {ic : Nat}
    (hown : s.vm.findClass own = some m₀.cls) (hcls : Bundle.fit cls = true) (hnames : ∀ n ∈ names, Bundle.fit n = true)
    (h : ∀ a ∈ Bundle.ownAtoms own ic cls names, a.before args s = true)
    (hlocs : ∀ x ∈ locs, ∀ cell, s.heap[x.base]? = some cell → cell.vm.isStatics = false)
    {a : Addr} {cX : ClassId} {kX : Class} (hfoundX : s.vm.findClass cls = some cX) (hkX : s.vm.classes[cX]? = some kX) (hcell : W.heap[a]? = some (freshCell cX kX)) (hnew : s.heap.size ≤ a)
    {msg : Value} (hmsg : msg.isRef = true)
    {g : JFrame} (hg : g.method = m₀) (hsize : g.locals.size = c.maxLocals) {rest : List Value} (hstack : g.stack = msg :: .ref a :: .ref a :: rest)
    (hd6 : decode c.code g.pc = .ok (.invokespecial ic, 3))
    (hRframes : names.length + 3 < R.frames) (hRlocals : 2 * g.monitorRoom + ((Value.ref a :: rest).map fun v => v.category).sum + (13 * (names.length + 1) + 42) ≤ R.locals) :
    ∃ (V : State) (ce : Cell) (L : List Loc), Stand p l e R s m₀ args below meth c (V.setCell a ce) (locs ++ L) cells slots ∧ (∀ y ∈ L, y.base = a) ∧ a < V.heap.size ∧ ce.cls = cX ∧ ce.vm = .none ∧
      ∀ target, Steps p.tables e below ((V.setCell a ce).setTop { g with stack := .ref a :: rest, pc := g.pc + 3 }) target → Steps p.tables e below (W.setTop g) target := by
  have howns : e.platform.frameOwnsMonitors = true := by rw [X.admits.platform]
  have hfin : e.platform.finalization = false := by rw [X.admits.platform]
  have hpl : e.platform.magicAccessors = ({} : Platform).magicAccessors := by rw [X.admits.platform]
  have a' : ∀ x, x ∈ Bundle.ownAtoms own ic cls names → x.holds args s none s [] = true := fun x hx => h x hx
  obtain ⟨T, Z0, L, -, Y⟩ := ThrowableC.of_atoms (args := args) howns hfin hpl (fun x hx => h x (by simp [Bundle.ownAtoms, hx]))
  obtain ⟨Z, M, LZ, LM, hnZ⟩ := Init0T.ofS_atoms (args := args) hpl L Y (fun x hx => h x (by simp [Bundle.ownAtoms, hx]))
  obtain ⟨P1, Ps, hlen, L1, hL, hP1m, hlink1, hlink⟩ := Bundle.chainS (args := args) hpl hnZ names cls hcls hnames (fun x hx => h x (by simp [Bundle.ownAtoms, hx]))
  have hfound : s.vm.findClass cls = some P1.m.cls := findClass_of_methodNamed hP1m
  cases Option.some.inj (hfoundX.symm.trans hfound)
  obtain ⟨c1, kX', hc1, hk, hord, -, -, hn6⟩ := Cond.instantiable_spec (a' (.instantiable cls 6) (by simp [Bundle.ownAtoms]))
  cases Option.some.inj (hc1.symm.trans hfound)
  cases Option.some.inj (hkX.symm.trans hk)
  have hsel0 : selectMethod e.platform s.vm P1.m.cls T.fill0 = .method T.fill0 := by
    obtain ⟨c2, r2, m2, q1, q2, q3, q4, -⟩ := Cond.selects_spec (a' (.selects cls Bundle.tFill0 Bundle.tFill0) (by simp [Bundle.ownAtoms]))
    cases Option.some.inj (q1.symm.trans hfound)
    cases Option.some.inj (q2.symm.trans (State.methodFound?_of_named Y.fill0 (by decide)))
    cases Option.some.inj (q3.symm.trans Y.fill0)
    rw [Launch.admits_selectMethod X.admits]; exact q4
  have hselF : selectMethod e.platform s.vm P1.m.cls T.fill = .method T.fill := by
    obtain ⟨c2, r2, m2, q1, q2, q3, q4, -⟩ := Cond.selects_spec (a' (.selects cls Bundle.tFill Bundle.tFill) (by simp [Bundle.ownAtoms]))
    cases Option.some.inj (q1.symm.trans hfound)
    cases Option.some.inj (q2.symm.trans (State.methodFound?_of_named Y.fill (by decide)))
    cases Option.some.inj (q3.symm.trans Y.fill)
    rw [Launch.admits_selectMethod X.admits]; exact q4
  obtain ⟨cellS0, hcS0, hiss⟩ := Y.statics
  obtain ⟨u0, hu0⟩ := Cond.staticRefV Y.unassigned L.unassignedStatic L.statics hcS0 hiss (a' (.isRef (.static Bundle.tN "UNASSIGNED_STACK" Bundle.steD)) (by simp [Bundle.ownAtoms]))
  obtain ⟨sen, hsen⟩ := Cond.staticRefV Y.sentinel L.sentinelStatic L.statics hcS0 hiss (a' (.isRef (.static Bundle.tN "SUPPRESSED_SENTINEL" Bundle.listD)) (by simp [Bundle.ownAtoms]))
  obtain ⟨ci198, i198, fB, hk198, hg198, ha198, hsB, -, hnB, htB, hffB⟩ := Cond.ownField (t := .object "java/lang/Object") Y.found L.cls (by decide +kernel) (a' (.fieldLink Bundle.tN 198 Bundle.tN "backtrace" "Ljava/lang/Object;") (by simp [Bundle.ownAtoms])) (a' (.lays Bundle.tN Bundle.tN "backtrace" "Ljava/lang/Object;") (by simp [Bundle.ownAtoms])) e.platform hpl
  obtain ⟨cellS, hcS', heS, -, hkeep⟩ := X.same.2.2.2.2.2 T.aS cellS0 hcS0
  have hcellS : W.heap[T.aS]? = some cellS := hcS'
  have hout' : ∀ i, (⟨T.aS, i⟩ : Loc) ∉ locs := fun i hmem => by
    have := hlocs _ hmem cellS0 hcS0
    rw [hiss] at this; cases this
  have hknownS : cellS.vm ≠ .unknown := by
    rw [heS]; intro hu
    rw [show cellS0.vm = .unknown from hu] at hiss
    cases hiss
  have hneS : T.aS ≠ a := Nat.ne_of_lt (Nat.lt_of_lt_of_le (Array.getElem?_eq_some_iff.mp hcS0).1 hnew)
  obtain ⟨iM, hffM⟩ := Y.msg
  obtain ⟨tyC, dC, hdC, hdnC⟩ := Cond.laysAt hfound hk Y.cause (a' (.lays cls Bundle.tN "cause" "Ljava/lang/Throwable;") (by simp [Bundle.ownAtoms]))
  obtain ⟨tyS, dS, hdS, hdnS⟩ := Cond.laysAt hfound hk Y.stack (a' (.lays cls Bundle.tN "stackTrace" Bundle.steD) (by simp [Bundle.ownAtoms]))
  obtain ⟨tyP, dP, hdP, hdnP⟩ := Cond.laysAt hfound hk Y.supp (a' (.lays cls Bundle.tN "suppressedExceptions" Bundle.listD) (by simp [Bundle.ownAtoms]))
  obtain ⟨tyM, dM, hdM, hdnM⟩ := Cond.laysAt hfound hk hffM (a' (.lays cls Bundle.tN "detailMessage" "Ljava/lang/String;") (by simp [Bundle.ownAtoms]))
  obtain ⟨tyB, dB, hdB, hdnB⟩ := Cond.laysAt hfound hk hffB (a' (.lays cls Bundle.tN "backtrace" "Ljava/lang/Object;") (by simp [Bundle.ownAtoms]))
  have bC := Cond.laysApart hdB hdC hdnB hdnC (by rw [hnB, Y.causeName]; decide)
  have bS := Cond.laysApart hdB hdS hdnB hdnS (by rw [hnB, Y.stackName]; decide)
  have bP := Cond.laysApart hdB hdP hdnB hdnP (by rw [hnB, Y.suppName]; decide)
  have hskip : SkipFacts T e.platform s (fun u => u) u0 ((preparedCellV T.toThrowableT (freshCell P1.m.cls kX) a u0 sen).withEntry W.cur) :=
    ⟨{ ci198 := ci198, i198 := i198, fBack := fB }, ⟨hk198, hg198, ha198, hsB⟩, by
      have := fresh_default (c := P1.m.cls) tyB
      rw [htB] at this
      simpa [preparedCellV, Cell.setSlot, Cell.withEntry, Array.getElem?_setIfInBounds, bC, bS, bP, bC.symm, bS.symm, bP.symm, defaultValue] using this, fun _ _ => rfl⟩
  obtain ⟨tm, methC, cdC, kC, vm₁, hnC, -, -, -, -, -, -, -, hW₁, st1⟩ := Steps.initColdS (tb := p.tables) (e := e) (below := below) (s := s) (U := W) X.here hexec X.warmed hpl hown (t := Bundle.initS cls) rfl rfl (Bundle.fit_spec hcls).2
    (a' (.methodLink own ic (Bundle.initS cls)) (by simp [Bundle.ownAtoms])) (h (.instanceMethod (Bundle.initS cls)) (by cases names <;> simp [Bundle.ownAtoms, Bundle.chainSAtoms, Bundle.passSAtoms])) (bytes := Bundle.six) (maxL := 2) (h (.code (Bundle.initS cls) Bundle.six 2 none) (by cases names <;> simp [Bundle.ownAtoms, Bundle.chainSAtoms, Bundle.passSAtoms]))
    (f := g) hg (a := a) (msg := msg) (rest := .ref a :: rest) hstack hd6
  cases Option.some.inj (hnC.symm.trans hP1m)
  have X₁ := X.noted hW₁
  obtain ⟨vm₂, X₂, st2⟩ := X₁.ctorMessageOffV hexec (g := { g with stack := .ref a :: rest }) hg hsize T L Z LZ M LM (P1 :: Ps)
    (fun P hP => by rcases List.mem_cons.mp hP with rfl | hP; exact L1; exact hL P hP) ⟨hlink1, hlink⟩ (u0 := u0) (sen := sen) (self := a) hmsg (cell := freshCell P1.m.cls kX) (cellS := cellS)
    hcell (fun _ => by simp) (by simp) rfl rfl hsel0 hselF hcellS hneS hknownS (by rw [hkeep _ (hout' _)]; exact hu0) (by rw [hkeep _ (hout' _)]; exact hsen)
    (Takes.of_laid hk hord tyC (by rw [Y.causeType]; rfl)) (Takes.of_laid hk hord tyS (by rw [Y.stackType]; exact fits_refV_array _ u0)) (Takes.of_laid hk hord tyP (by rw [Y.suppType]; exact fits_refV_object _ sen))
    (Takes.of_laid hk hord tyM (by rw [Y.msgType]; exact fits_refV_object _ ⟨msg, hmsg⟩)) Y.objLocals hskip htr [] hd6
    (by simp only [List.length_cons, hlen]; omega) (by simp only [List.length_cons, hlen]; exact hRlocals)
  have hlt : a < ((W.setVm vm₁).setVm vm₂).heap.size := (Array.getElem?_eq_some_iff.mp hcell).1
  refine ⟨(W.setVm vm₁).setVm vm₂, _, _, X₂, fun y hy => ?_, hlt, rfl, rfl, fun target hwalk => st1 _ (fun acts => ?_)⟩
  · simp only [List.mem_cons, List.not_mem_nil, or_false] at hy
    rcases hy with rfl | rfl | rfl | rfl | rfl <;> rfl
  · rw [doInvoke_state]
    exact st2 _ hwalk
set_option maxHeartbeats 1000000 in
theorem vx_ctorMade0 (X : Stand p l e R s m₀ args below meth c W locs cells slots) (hexec : p.tables.exec = Jvm.exec) (htr : e.platform.stackTraces = false) {own cls : String} {names : List String} {ic : Nat}
    (hown : s.vm.findClass own = some m₀.cls) (hcls : Bundle.fit cls = true) (hnames : ∀ n ∈ names, Bundle.fit n = true)
    (h : ∀ a ∈ Bundle.ownAtoms0 own ic cls names, a.before args s = true)
    (hlocs : ∀ x ∈ locs, ∀ cell, s.heap[x.base]? = some cell → cell.vm.isStatics = false)
    {a : Addr} {cX : ClassId} {kX : Class} (hfoundX : s.vm.findClass cls = some cX) (hkX : s.vm.classes[cX]? = some kX) (hcell : W.heap[a]? = some (freshCell cX kX)) (hnew : s.heap.size ≤ a)
    {g : JFrame} (hg : g.method = m₀) (hsize : g.locals.size = c.maxLocals) {rest : List Value} (hstack : g.stack = .ref a :: .ref a :: rest)
    (hd6 : decode c.code g.pc = .ok (.invokespecial ic, 3))
    (hRframes : names.length + 3 < R.frames) (hRlocals : 2 * g.monitorRoom + ((Value.ref a :: rest).map fun v => v.category).sum + (13 * (names.length + 1) + 41) ≤ R.locals) :
    ∃ (V : State) (ce : Cell) (L : List Loc), Stand p l e R s m₀ args below meth c (V.setCell a ce) (locs ++ L) cells slots ∧ (∀ y ∈ L, y.base = a) ∧ a < V.heap.size ∧ ce.cls = cX ∧ ce.vm = .none ∧
      ∀ target, Steps p.tables e below ((V.setCell a ce).setTop { g with stack := .ref a :: rest, pc := g.pc + 3 }) target → Steps p.tables e below (W.setTop g) target := by
  have howns : e.platform.frameOwnsMonitors = true := by rw [X.admits.platform]
  have hfin : e.platform.finalization = false := by rw [X.admits.platform]
  have hpl : e.platform.magicAccessors = ({} : Platform).magicAccessors := by rw [X.admits.platform]
  have a' : ∀ x, x ∈ Bundle.ownAtoms0 own ic cls names → x.holds args s none s [] = true := fun x hx => h x hx
  obtain ⟨T, Z, L, LZ, Y⟩ := ThrowableC.of_atoms (args := args) howns hfin hpl (fun x hx => h x (by simp [Bundle.ownAtoms0, hx]))
  obtain ⟨P1, Ps, hlen, L1, hL, hP1m, hlink1, hlink⟩ := Bundle.chain0 (args := args) hpl Y.init0 names cls hcls hnames (fun x hx => h x (by simp [Bundle.ownAtoms0, hx]))
  have hfound : s.vm.findClass cls = some P1.m.cls := findClass_of_methodNamed hP1m
  cases Option.some.inj (hfoundX.symm.trans hfound)
  obtain ⟨c1, kX', hc1, hk, hord, -, -, hn6⟩ := Cond.instantiable_spec (a' (.instantiable cls 6) (by simp [Bundle.ownAtoms0]))
  cases Option.some.inj (hc1.symm.trans hfound)
  cases Option.some.inj (hkX.symm.trans hk)
  have hsel0 : selectMethod e.platform s.vm P1.m.cls T.fill0 = .method T.fill0 := by
    obtain ⟨c2, r2, m2, q1, q2, q3, q4, -⟩ := Cond.selects_spec (a' (.selects cls Bundle.tFill0 Bundle.tFill0) (by simp [Bundle.ownAtoms0]))
    cases Option.some.inj (q1.symm.trans hfound)
    cases Option.some.inj (q2.symm.trans (State.methodFound?_of_named Y.fill0 (by decide)))
    cases Option.some.inj (q3.symm.trans Y.fill0)
    rw [Launch.admits_selectMethod X.admits]; exact q4
  have hselF : selectMethod e.platform s.vm P1.m.cls T.fill = .method T.fill := by
    obtain ⟨c2, r2, m2, q1, q2, q3, q4, -⟩ := Cond.selects_spec (a' (.selects cls Bundle.tFill Bundle.tFill) (by simp [Bundle.ownAtoms0]))
    cases Option.some.inj (q1.symm.trans hfound)
    cases Option.some.inj (q2.symm.trans (State.methodFound?_of_named Y.fill (by decide)))
    cases Option.some.inj (q3.symm.trans Y.fill)
    rw [Launch.admits_selectMethod X.admits]; exact q4
  obtain ⟨cellS0, hcS0, hiss⟩ := Y.statics
  obtain ⟨u0, hu0⟩ := Cond.staticRefV Y.unassigned L.unassignedStatic L.statics hcS0 hiss (a' (.isRef (.static Bundle.tN "UNASSIGNED_STACK" Bundle.steD)) (by simp [Bundle.ownAtoms0]))
  obtain ⟨sen, hsen⟩ := Cond.staticRefV Y.sentinel L.sentinelStatic L.statics hcS0 hiss (a' (.isRef (.static Bundle.tN "SUPPRESSED_SENTINEL" Bundle.listD)) (by simp [Bundle.ownAtoms0]))
  obtain ⟨ci198, i198, fB, hk198, hg198, ha198, hsB, -, hnB, htB, hffB⟩ := Cond.ownField (t := .object "java/lang/Object") Y.found L.cls (by decide +kernel) (a' (.fieldLink Bundle.tN 198 Bundle.tN "backtrace" "Ljava/lang/Object;") (by simp [Bundle.ownAtoms0])) (a' (.lays Bundle.tN Bundle.tN "backtrace" "Ljava/lang/Object;") (by simp [Bundle.ownAtoms0])) e.platform hpl
  obtain ⟨cellS, hcS', heS, -, hkeep⟩ := X.same.2.2.2.2.2 T.aS cellS0 hcS0
  have hcellS : W.heap[T.aS]? = some cellS := hcS'
  have hout' : ∀ i, (⟨T.aS, i⟩ : Loc) ∉ locs := fun i hmem => by
    have := hlocs _ hmem cellS0 hcS0
    rw [hiss] at this; cases this
  have hknownS : cellS.vm ≠ .unknown := by
    rw [heS]; intro hu
    rw [show cellS0.vm = .unknown from hu] at hiss
    cases hiss
  have hneS : T.aS ≠ a := Nat.ne_of_lt (Nat.lt_of_lt_of_le (Array.getElem?_eq_some_iff.mp hcS0).1 hnew)
  obtain ⟨iM, hffM⟩ := Y.msg
  obtain ⟨tyC, dC, hdC, hdnC⟩ := Cond.laysAt hfound hk Y.cause (a' (.lays cls Bundle.tN "cause" "Ljava/lang/Throwable;") (by simp [Bundle.ownAtoms0]))
  obtain ⟨tyS, dS, hdS, hdnS⟩ := Cond.laysAt hfound hk Y.stack (a' (.lays cls Bundle.tN "stackTrace" Bundle.steD) (by simp [Bundle.ownAtoms0]))
  obtain ⟨tyP, dP, hdP, hdnP⟩ := Cond.laysAt hfound hk Y.supp (a' (.lays cls Bundle.tN "suppressedExceptions" Bundle.listD) (by simp [Bundle.ownAtoms0]))
  obtain ⟨tyM, dM, hdM, hdnM⟩ := Cond.laysAt hfound hk hffM (a' (.lays cls Bundle.tN "detailMessage" "Ljava/lang/String;") (by simp [Bundle.ownAtoms0]))
  obtain ⟨tyB, dB, hdB, hdnB⟩ := Cond.laysAt hfound hk hffB (a' (.lays cls Bundle.tN "backtrace" "Ljava/lang/Object;") (by simp [Bundle.ownAtoms0]))
  have bC := Cond.laysApart hdB hdC hdnB hdnC (by rw [hnB, Y.causeName]; decide)
  have bS := Cond.laysApart hdB hdS hdnB hdnS (by rw [hnB, Y.stackName]; decide)
  have bP := Cond.laysApart hdB hdP hdnB hdnP (by rw [hnB, Y.suppName]; decide)
  have hskip : SkipFacts T e.platform s (fun u => u) u0 ((preparedCellV T.toThrowableT (freshCell P1.m.cls kX) a u0 sen).withEntry W.cur) :=
    ⟨{ ci198 := ci198, i198 := i198, fBack := fB }, ⟨hk198, hg198, ha198, hsB⟩, by
      have := fresh_default (c := P1.m.cls) tyB
      rw [htB] at this
      simpa [preparedCellV, Cell.setSlot, Cell.withEntry, Array.getElem?_setIfInBounds, bC, bS, bP, bC.symm, bS.symm, bP.symm, defaultValue] using this, fun _ _ => rfl⟩
  obtain ⟨tm, methC, cdC, kC, vm₁, hnC, -, -, -, -, -, -, -, hW₁, st1⟩ := Steps.initCold (tb := p.tables) (e := e) (below := below) (s := s) (U := W) X.here hexec X.warmed hpl hown (t := Bundle.init0 cls) rfl rfl (Bundle.fit_spec hcls).2
    (a' (.methodLink own ic (Bundle.init0 cls)) (by simp [Bundle.ownAtoms0])) (h (.instanceMethod (Bundle.init0 cls)) (by cases names <;> simp [Bundle.ownAtoms0, Bundle.chain0Atoms, Bundle.passAtoms])) (bytes := Bundle.five) (maxL := 1) (h (.code (Bundle.init0 cls) Bundle.five 1 none) (by cases names <;> simp [Bundle.ownAtoms0, Bundle.chain0Atoms, Bundle.passAtoms]))
    (f := g) hg (a := a) (rest := .ref a :: rest) hstack hd6
  cases Option.some.inj (hnC.symm.trans hP1m)
  have X₁ := X.noted hW₁
  obtain ⟨vm₂, X₂, st2⟩ := X₁.ctorPlainOffV hexec (g := { g with stack := .ref a :: rest }) hg hsize T L Z LZ (P1 :: Ps)
    (fun P hP => by rcases List.mem_cons.mp hP with rfl | hP; exact L1; exact hL P hP) ⟨hlink1, hlink⟩ (u0 := u0) (sen := sen) (self := a) (cell := freshCell P1.m.cls kX) (cellS := cellS)
    hcell (fun _ => by simp) (by simp) rfl rfl hsel0 hselF hcellS hneS hknownS (by rw [hkeep _ (hout' _)]; exact hu0) (by rw [hkeep _ (hout' _)]; exact hsen)
    (Takes.of_laid hk hord tyC (by rw [Y.causeType]; rfl)) (Takes.of_laid hk hord tyS (by rw [Y.stackType]; exact fits_refV_array _ u0)) (Takes.of_laid hk hord tyP (by rw [Y.suppType]; exact fits_refV_object _ sen)) Y.objLocals hskip htr [] hd6
    (by simp only [List.length_cons, hlen]; omega) (by simp only [List.length_cons, hlen]; exact hRlocals)
  have hlt : a < ((W.setVm vm₁).setVm vm₂).heap.size := (Array.getElem?_eq_some_iff.mp hcell).1
  refine ⟨(W.setVm vm₁).setVm vm₂, _, _, X₂, fun y hy => ?_, hlt, rfl, rfl, fun target hwalk => st1 _ (fun acts => ?_)⟩
  · simp only [List.mem_cons, List.not_mem_nil, or_false] at hy
    rcases hy with rfl | rfl | rfl | rfl <;> rfl
  · rw [doInvoke_state]
    exact st2 _ hwalk
end VXK
section VXK2
variable {p : Program} {l : Launch} {e : Env} {R : Room} {s : State} {m : MethodId} {args : Array Value} {below : List Frame} {meth : Method} {c : Code} {H : Heap} {locs : List Loc} {cells slots : Nat} {Q : State → Prop}
variable {ls : Array Slot} {rest : List Value} {D : va_G} {cl : List vw_C} {tys : List (ClassId × FieldType)} {ws : va_W}
/-- 'new E("text")' that isn't thrown at once: the object goes on the stack -/
theorem vx_makeS {cc : ByteArray} {pc : Nat} (hexec : p.tables.exec = Jvm.exec) (hb : c.code = cc) (hl : l.stackTraces = false) {own cls text : String} {names : List String} {ik is ic sa ci : Nat} {A : Nat → Prop} {T0 : u_T}
    (hown : s.vm.findClass own = some m.cls) (hcls : Bundle.fit cls = true) (hnames : ∀ n ∈ names, Bundle.fit n = true)
    (hk : (Cond.classLink own ik cls).before args s = true) (hini : (Cond.initialized cls).before args s = true) (hstr : vk_R own is text sa s) (hat : ∀ w ∈ vx_atS own ic cls names, w.before args s = true)
    (hgood : ∀ w ∈ Cond.classLink own ik cls :: Cond.initialized cls :: vx_atS own ic cls names, vx_ot w = true)
    (hU : vx_Zq Bundle.tN "UNASSIGNED_STACK" Bundle.steD A s s.heap) (hN : vx_Zq Bundle.tN "SUPPRESSED_SENTINEL" Bundle.listD A s s.heap) (hS : va_S A s.heap H locs) (hsize : ls.size = c.maxLocals)
    (d0 : decode cc pc = .ok (.new ik, 3)) (d3 : decode cc (pc + 3) = .ok (.dup, 1)) (d4 : decode cc (pc + 4) = .ok (.ldc is, 2)) (d6 : decode cc (pc + 6) = .ok (.invokespecial ic, 3))
    (hK : va_K D cl tys s) (hP : va_P D cl ws H) (hD : va_D A ws) (hA : ∀ q, s.heap.size ≤ q → A q) (hc : cl[ci]? = some (cls, T0, 0))
    (hRframes : names.length + 3 < R.frames) (hRlocals : (rest.map fun v => v.category).sum + (13 * (names.length + 1) + 43) ≤ R.locals) (hRcells : cells + 1 ≤ R.cells) (hRslots : slots + 6 ≤ R.slots)
    (kk : ∀ (q : Nat) (H1 : Heap), va_P D cl (ws ++ [(q, .inr (ci, []))]) H1 → va_D A (ws ++ [(q, .inr (ci, []))]) → va_S A s.heap H1 locs → W p l e R s m args below meth c H1 locs (cells + 1) (slots + 6) Q (F0 m (pc + 9) ls (.ref q :: rest))) :
    W p l e R s m args below meth c H locs cells slots Q (F0 m pc ls rest) := by
  intro T hT X
  subst hT
  have htr : e.platform.stackTraces = false := (show e.platform.stackTraces = l.stackTraces by rw [X.admits.platform]).trans hl
  have Y := vx_rebase X (R' := { frames := R.frames, locals := R.locals, cells := 1, slots := 6 }) (Nat.le_refl _) (Nat.le_refl _) hRcells hRslots
  obtain ⟨s', hA'⟩ : ∃ z, z = (T.setVm s.vm).setFrames (.invoking m args :: below) := ⟨_, rfl⟩
  rw [← hA'] at Y
  have hvm : s'.vm = s.vm := by rw [hA']; rfl
  have hhp : s'.heap = T.heap := by rw [hA']; rfl
  have hW0 : s.WarmedH s'.vm := by rw [hvm]; exact State.WarmedH.refl s
  have hat' : ∀ w ∈ vx_atS own ic cls names, w.before args s' = true := fun w hw => vx_ot_at hW0 hvm.symm (hgood w (List.mem_cons_of_mem _ (List.mem_cons_of_mem _ hw))) (hat w hw)
  have hk' : (Cond.classLink own ik cls).before args s' = true := vx_ot_at hW0 hvm.symm (hgood _ List.mem_cons_self) hk
  have hini' : (Cond.initialized cls).before args s' = true := vx_ot_at hW0 hvm.symm (hgood _ (List.mem_cons_of_mem _ List.mem_cons_self)) hini
  have hU' : vx_Zq Bundle.tN "UNASSIGNED_STACK" Bundle.steD A s' s'.heap := by rw [hhp]; exact vx_Zq.moved hW0.alike (hU.kept hS.2.1)
  have hN' : vx_Zq Bundle.tN "SUPPRESSED_SENTINEL" Bundle.listD A s' s'.heap := by rw [hhp]; exact vx_Zq.moved hW0.alike (hN.kept hS.2.1)
  have h : ∀ w ∈ Bundle.ownAtoms own ic cls names, w.before args s' = true := vx_own hat' (vx_isRefq hU'.1) (vx_isRefq hN'.1) hU'.2.word hN'.2.word
  have hown' : s'.vm.findClass own = some m.cls := by rw [hvm]; exact hown
  have hins : (Cond.instantiable cls 6).before args s' = true := h _ (by simp [Bundle.ownAtoms])
  obtain ⟨vm₁, cX, kX, hfX, hkX, -, -, X₁, st1⟩ := Y.newCold hexec (own := own) (C := cls) (index := ik) (n := 6) hown' hk' hins hini'
    (g := F0 m pc ls rest) rfl (by rw [hb]; exact d0) (Nat.le_refl _) (Nat.le_refl _)
  generalize hT1 : (T.setVm vm₁).pushCell { cls := cX, slots := kX.instanceTypes.map defaultValue, vm := .none } = T1 at X₁ st1
  have hcat : (Value.ref T.heap.size).category = 1 := rfl
  have hcellA : T1.heap[T.heap.size]? = some (freshCell cX kX) := by rw [← hT1]; exact State.heap_pushCell_size _ _
  have d3' : decode c.code (pc + 3) = .ok (.dup, 1) := by rw [hb]; exact d3
  have d4' : decode c.code (pc + 4) = .ok (.ldc is, 2) := by rw [hb]; exact d4
  have hstr' : vk_R own is text sa s' := vk_R.warm hW0 hstr
  obtain ⟨V, ce, L, Z, hL, hlt, hcl9, hvm9, st⟩ := vx_ctorMadeS X₁ hexec htr (own := own) (cls := cls) (names := names) (ic := ic) hown' hcls hnames h (fun x hx => nomatch hx) hfX hkX hcellA (by rw [hhp]; exact Nat.le_refl _) (msg := .ref sa) rfl
    (g := { method := m, pc := pc + 6, locals := ls, stack := .ref sa :: .ref T.heap.size :: .ref T.heap.size :: rest, locked := none }) rfl hsize (rest := rest) rfl
    (by rw [hb]; exact d6) hRframes (by simp only [List.map_cons, List.sum_cons, hcat]; omega)
  have Z0 := Stand.forget (locs := []) Z (fun y hy => by rw [hL y hy, hhp]; exact Nat.le_refl _)
  obtain ⟨f1, f2⟩ := vx_frame Z0.same
  rw [hhp] at f1 f2
  have hcid : ce.cls = D.1 ci := by
    rw [hcl9]
    have h1 := (hK.1 ci _ hc).2.1
    rw [hvm] at hfX
    exact Option.some.inj (hfX.symm.trans h1)
  have hh : (V.setCell T.heap.size ce).heap[T.heap.size]? = some ce := heapAt_setCell_self (s := V) ce hlt
  subst hA'
  have X5 := vx_back9 X Y Z0
  have X6 : Stand p l e R s m args below meth c (V.setCell T.heap.size ce) locs (cells + 1) (slots + 6) := { X5 with same := X5.same.mono (by omega) (by omega) }
  have hk9 : ∀ (k : Nat) (x : Nat × va_E), ws[k]? = some x → (V.setCell T.heap.size ce).heap[x.1]? = T.heap[x.1]? := fun k x hx => f2 x.1 ((hP k x hx).lt) (fun z hz => nomatch hz)
  obtain ⟨t, a1, b1⟩ := kk T.heap.size (V.setCell T.heap.size ce).heap ((hP.kept hk9).app (fun k x hx => by
      have hz : k < 1 := (List.getElem?_eq_some_iff.mp hx).1
      rw [show k = 0 by omega] at hx
      cases hx
      exact ⟨_, hc, ce, hh, hcid, hvm9, fun k hk => absurd hk (Nat.not_lt_zero k)⟩)) (hD.push hP rfl (hA _ hS.1)) ⟨Nat.le_trans hS.1 f1, fun q h1 h2 => (f2 q (Nat.lt_of_lt_of_le h1 hS.1) (fun z hz => nomatch hz)).trans (hS.2.1 q h1 h2), hS.2.2⟩ _ rfl X6
  refine ⟨t, st1 _ ?_, b1⟩
  show Steps p.tables e below (T1.setTop { method := m, pc := pc + 3, locals := ls, stack := .ref T.heap.size :: rest, locked := none }) _
  jvm_step X₁.here [X₁.here.top, hexec, d3', Value.category]
  exact X₁.ldcString hexec (own := own) (text := text) (index := is) (a := sa) hown' hstr'.1 hstr'.2
    (g := { method := m, pc := pc + 4, locals := ls, stack := .ref T.heap.size :: .ref T.heap.size :: rest, locked := none }) rfl d4' _ (st _ a1)
/-- 'new E()' that isn't thrown at once: the object goes on the stack -/
theorem vx_make0 {cc : ByteArray} {pc : Nat} (hexec : p.tables.exec = Jvm.exec) (hb : c.code = cc) (hl : l.stackTraces = false) {own cls : String} {names : List String} {ik ic ci : Nat} {A : Nat → Prop} {T0 : u_T}
    (hown : s.vm.findClass own = some m.cls) (hcls : Bundle.fit cls = true) (hnames : ∀ n ∈ names, Bundle.fit n = true)
    (hk : (Cond.classLink own ik cls).before args s = true) (hini : (Cond.initialized cls).before args s = true) (hat : ∀ w ∈ vx_at0 own ic cls names, w.before args s = true)
    (hgood : ∀ w ∈ Cond.classLink own ik cls :: Cond.initialized cls :: vx_at0 own ic cls names, vx_ot w = true)
    (hU : vx_Zq Bundle.tN "UNASSIGNED_STACK" Bundle.steD A s s.heap) (hN : vx_Zq Bundle.tN "SUPPRESSED_SENTINEL" Bundle.listD A s s.heap) (hS : va_S A s.heap H locs) (hsize : ls.size = c.maxLocals)
    (d0 : decode cc pc = .ok (.new ik, 3)) (d3 : decode cc (pc + 3) = .ok (.dup, 1)) (d4 : decode cc (pc + 4) = .ok (.invokespecial ic, 3))
    (hK : va_K D cl tys s) (hP : va_P D cl ws H) (hD : va_D A ws) (hA : ∀ q, s.heap.size ≤ q → A q) (hc : cl[ci]? = some (cls, T0, 0))
    (hRframes : names.length + 3 < R.frames) (hRlocals : (rest.map fun v => v.category).sum + (13 * (names.length + 1) + 42) ≤ R.locals) (hRcells : cells + 1 ≤ R.cells) (hRslots : slots + 6 ≤ R.slots)
    (kk : ∀ (q : Nat) (H1 : Heap), va_P D cl (ws ++ [(q, .inr (ci, []))]) H1 → va_D A (ws ++ [(q, .inr (ci, []))]) → va_S A s.heap H1 locs → W p l e R s m args below meth c H1 locs (cells + 1) (slots + 6) Q (F0 m (pc + 7) ls (.ref q :: rest))) :
    W p l e R s m args below meth c H locs cells slots Q (F0 m pc ls rest) := by
  intro T hT X
  subst hT
  have htr : e.platform.stackTraces = false := (show e.platform.stackTraces = l.stackTraces by rw [X.admits.platform]).trans hl
  have Y := vx_rebase X (R' := { frames := R.frames, locals := R.locals, cells := 1, slots := 6 }) (Nat.le_refl _) (Nat.le_refl _) hRcells hRslots
  obtain ⟨s', hA'⟩ : ∃ z, z = (T.setVm s.vm).setFrames (.invoking m args :: below) := ⟨_, rfl⟩
  rw [← hA'] at Y
  have hvm : s'.vm = s.vm := by rw [hA']; rfl
  have hhp : s'.heap = T.heap := by rw [hA']; rfl
  have hW0 : s.WarmedH s'.vm := by rw [hvm]; exact State.WarmedH.refl s
  have hat' : ∀ w ∈ vx_at0 own ic cls names, w.before args s' = true := fun w hw => vx_ot_at hW0 hvm.symm (hgood w (List.mem_cons_of_mem _ (List.mem_cons_of_mem _ hw))) (hat w hw)
  have hk' : (Cond.classLink own ik cls).before args s' = true := vx_ot_at hW0 hvm.symm (hgood _ List.mem_cons_self) hk
  have hini' : (Cond.initialized cls).before args s' = true := vx_ot_at hW0 hvm.symm (hgood _ (List.mem_cons_of_mem _ List.mem_cons_self)) hini
  have hU' : vx_Zq Bundle.tN "UNASSIGNED_STACK" Bundle.steD A s' s'.heap := by rw [hhp]; exact vx_Zq.moved hW0.alike (hU.kept hS.2.1)
  have hN' : vx_Zq Bundle.tN "SUPPRESSED_SENTINEL" Bundle.listD A s' s'.heap := by rw [hhp]; exact vx_Zq.moved hW0.alike (hN.kept hS.2.1)
  have h : ∀ w ∈ Bundle.ownAtoms0 own ic cls names, w.before args s' = true := vx_own hat' (vx_isRefq hU'.1) (vx_isRefq hN'.1) hU'.2.word hN'.2.word
  have hown' : s'.vm.findClass own = some m.cls := by rw [hvm]; exact hown
  have hins : (Cond.instantiable cls 6).before args s' = true := h _ (by simp [Bundle.ownAtoms0])
  obtain ⟨vm₁, cX, kX, hfX, hkX, -, -, X₁, st1⟩ := Y.newCold hexec (own := own) (C := cls) (index := ik) (n := 6) hown' hk' hins hini'
    (g := F0 m pc ls rest) rfl (by rw [hb]; exact d0) (Nat.le_refl _) (Nat.le_refl _)
  generalize hT1 : (T.setVm vm₁).pushCell { cls := cX, slots := kX.instanceTypes.map defaultValue, vm := .none } = T1 at X₁ st1
  have hcat : (Value.ref T.heap.size).category = 1 := rfl
  have hcellA : T1.heap[T.heap.size]? = some (freshCell cX kX) := by rw [← hT1]; exact State.heap_pushCell_size _ _
  have d3' : decode c.code (pc + 3) = .ok (.dup, 1) := by rw [hb]; exact d3
  obtain ⟨V, ce, L, Z, hL, hlt, hcl9, hvm9, st⟩ := vx_ctorMade0 X₁ hexec htr (own := own) (cls := cls) (names := names) (ic := ic) hown' hcls hnames h (fun x hx => nomatch hx) hfX hkX hcellA (by rw [hhp]; exact Nat.le_refl _)
    (g := { method := m, pc := pc + 4, locals := ls, stack := .ref T.heap.size :: .ref T.heap.size :: rest, locked := none }) rfl hsize (rest := rest) rfl
    (by rw [hb]; exact d4) hRframes (by simp only [List.map_cons, List.sum_cons, hcat]; omega)
  have Z0 := Stand.forget (locs := []) Z (fun y hy => by rw [hL y hy, hhp]; exact Nat.le_refl _)
  obtain ⟨f1, f2⟩ := vx_frame Z0.same
  rw [hhp] at f1 f2
  have hcid : ce.cls = D.1 ci := by
    rw [hcl9]
    have h1 := (hK.1 ci _ hc).2.1
    rw [hvm] at hfX
    exact Option.some.inj (hfX.symm.trans h1)
  have hh : (V.setCell T.heap.size ce).heap[T.heap.size]? = some ce := heapAt_setCell_self (s := V) ce hlt
  subst hA'
  have X5 := vx_back9 X Y Z0
  have X6 : Stand p l e R s m args below meth c (V.setCell T.heap.size ce) locs (cells + 1) (slots + 6) := { X5 with same := X5.same.mono (by omega) (by omega) }
  have hk9 : ∀ (k : Nat) (x : Nat × va_E), ws[k]? = some x → (V.setCell T.heap.size ce).heap[x.1]? = T.heap[x.1]? := fun k x hx => f2 x.1 ((hP k x hx).lt) (fun z hz => nomatch hz)
  obtain ⟨t, a1, b1⟩ := kk T.heap.size (V.setCell T.heap.size ce).heap ((hP.kept hk9).app (fun k x hx => by
      have hz : k < 1 := (List.getElem?_eq_some_iff.mp hx).1
      rw [show k = 0 by omega] at hx
      cases hx
      exact ⟨_, hc, ce, hh, hcid, hvm9, fun k hk => absurd hk (Nat.not_lt_zero k)⟩)) (hD.push hP rfl (hA _ hS.1)) ⟨Nat.le_trans hS.1 f1, fun q h1 h2 => (f2 q (Nat.lt_of_lt_of_le h1 hS.1) (fun z hz => nomatch hz)).trans (hS.2.1 q h1 h2), hS.2.2⟩ _ rfl X6
  refine ⟨t, st1 _ ?_, b1⟩
  show Steps p.tables e below (T1.setTop { method := m, pc := pc + 3, locals := ls, stack := .ref T.heap.size :: rest, locked := none }) _
  jvm_step X₁.here [X₁.here.top, hexec, d3', Value.category]
  exact st _ a1
/-- 'throw x' of an object that was made before -/
theorem vx_athrow {cc : ByteArray} {pc : Nat} (hexec : p.tables.exec = Jvm.exec) (hb : c.code = cc) {q : Addr} (hdg : decode cc pc = .ok (.athrow, 1)) (k : vx_W p l e R s m args below meth c H locs cells slots Q (F0 m pc ls rest) q) : W p l e R s m args below meth c H locs cells slots Q (F0 m pc ls (.ref q :: rest)) := by
  intro T hT X
  obtain ⟨t, st, hq⟩ := k T hT X
  refine ⟨t, ?_, hq⟩
  have hdg' : decode c.code pc = .ok (.athrow, 1) := by rw [hb]; exact hdg
  jvm_step X.here [X.here.top, hexec, hdg', athrow.wp_sem]
  exact st
end VXK2
/-! ===== END ===== -/
/-! ===== BEGIN a constructor that throws (launches without stack traces) ===== -/
section VXIA
variable {p : Program} {l : Launch} {e : Env} {R : Room} {s : State} {m : MethodId} {args : Array Value} {below : List Frame} {meth : Method} {c : Code} {T : State} {locs : List Loc} {cells slots : Nat}
theorem vx_callI (X : Stand p l e R s m args below meth c T locs cells slots) (hexec : p.tables.exec = Jvm.exec) {own : String} {index : Nat} {y : MethodName} {bytes : ByteArray} {maxL : Nat}
    (hown : s.vm.findClass own = some m.cls) (hy1 : y.name = "<init>") (hlink : (Cond.methodLink own index y).before args s = true) (hinst : (Cond.instanceMethod y).before args s = true)
    (hcode : (Cond.code y bytes maxL none).before args s = true) (hy : y.cls ≠ "java/lang/invoke/MethodHandle" ∧ y.cls ≠ "java/lang/invoke/VarHandle")
    {W9 : Nat} {Pre : Pt → Array Value → Prop} {Post : Pt → Array Value → Option Value → Pt → Prop} {PostX : Pt → Array Value → Addr → Pt → Prop} (hK : vx_Back l R p e below s args y 3 W9 Pre Post PostX)
    {g : JFrame} (hg : g.method = m) (hsize : g.locals.size = c.maxLocals) {a : Addr} {argsL rest : List Value} (hlen : ∀ sig, parseMethodDescriptor y.desc = some sig → argsL.length = sig.parameters.length)
    (hstack : g.stack = argsL.reverse ++ .ref a :: rest) (hW : 2 * g.monitorRoom + (rest.map fun v => v.category).sum ≤ W9) (hdg : decode c.code g.pc = .ok (.invokespecial index, 3))
    (hpre : ∀ vm₁, s.WarmedH vm₁ → Pre ⟨T.setVm vm₁, locs, cells, slots⟩ (Value.ref a :: argsL).toArray) :
    (∃ (v : Option Value) (vm₁ : Vm) (B : Pt), s.WarmedH vm₁ ∧ Stand p l e R s m args below meth c B.U B.locs B.cells B.slots ∧ Post ⟨T.setVm vm₁, locs, cells, slots⟩ (Value.ref a :: argsL).toArray v B ∧
      ∀ target, Steps p.tables e below (B.U.setTop { g with pc := g.pc + 3, stack := v.toList ++ rest }) target → Steps p.tables e below (T.setTop g) target) ∨
    (∃ (q : Addr) (vm₁ : Vm) (B : Pt), s.WarmedH vm₁ ∧ Stand p l e R s m args below meth c B.U B.locs B.cells B.slots ∧ PostX ⟨T.setVm vm₁, locs, cells, slots⟩ (Value.ref a :: argsL).toArray q B ∧
      Steps p.tables e below (T.setTop g) ((B.U.setTop { g with stack := rest }).pushFrame (.throwing q))) := by
  subst hg
  have hpl : e.platform.magicAccessors = ({} : Platform).magicAccessors := by rw [X.admits.platform]
  obtain ⟨mk, methM, cM, kP, vm₁, hnamed, hmethM, hcodeM, -, hlocalsM, -, hkP, -, hW₁, hstep₁⟩ := Steps.initColdArgs (e := e) X.here hexec X.warmed hpl hown hy1 hy hlink hinst hcode (f := g) rfl hlen hstack hdg
  have X₁ := X.noted hW₁
  rcases hK g.method meth c ⟨T.setVm vm₁, locs, cells, slots⟩ { g with stack := rest } (.invokespecial index) mk (Value.ref a :: argsL).toArray X₁ rfl hsize hdg hW (X₁.named hnamed) (hpre vm₁ X₁.warmed) with ⟨v, B, X', hpost, hsteps⟩ | ⟨q, B, X', hpost, hsteps⟩
  · exact Or.inl ⟨v, vm₁, B, X₁.warmed, X', hpost, fun target h => hstep₁ _ fun acts => by rw [doInvoke_state]; exact hsteps.trans h⟩
  · exact Or.inr ⟨q, vm₁, B, X₁.warmed, X', hpost, hstep₁ _ fun acts => by rw [doInvoke_state]; exact hsteps⟩
end VXIA
section VXIB
variable {p : Program} {l : Launch} {e : Env} {R : Room} {s : State} {m : MethodId} {args : Array Value} {below : List Frame} {meth : Method} {c : Code} {H : Heap} {locs : List Loc} {cells slots : Nat}
variable {y : MethodName} {bytes cc : ByteArray} {maxL nL mc ms n index : Nat} {ret : Option FieldType} {ws : List Cond} {rm : Room} {Pc : Array Value → State → Prop} {Qc : Array Value → State → Outcome → State → Prop} {XC : String → State → State → Prop} {free : Addr → Prop} {Ts : List Cond} {own C : String} {b : Addr} {As rest : List Value} {g : JFrame}
theorem vx_runI (S : CallFix p m c cc nL s args Ts own) (hM : vx_Met l y ws rm Pc Qc XC mc ms free) (cw : CallB R s args own index y bytes maxL none ws rm mc ms n ∧ y.name = "<init>" ∧ (Cond.instanceMethod y).before args s = true) (hp : PreS s H Pc (.ref b :: As))
    (hg : g.method = m) (hn : As.length = n) (hsize : g.locals.size = nL) (hstack : g.stack = As.reverse ++ .ref b :: rest) (hW : 2 * g.monitorRoom + (rest.map fun v => v.category).sum ≤ 8) (hdg : decode cc g.pc = .ok (.invokespecial index, 3)) (hf : cells + mc ≤ R.cells ∧ slots + ms ≤ R.slots) :
    vx_Run p l e R s m args below meth c H locs cells slots mc ms g rest (Qc (Value.ref b :: As).toArray) XC free := by
  have hK : vx_Back l R p e below s args y 3 8 (PreOf R mc ms Pc) (PostOf Qc mc ms free) (vx_Post XC mc ms free) := vx_callBack cw.1 hM hp.1
  obtain ⟨⟨-, -, -, -, -, -, hcode, -, hy, hlen, hl⟩, hy1, hin⟩ := cw
  obtain ⟨hx, hb, hml, ho, -⟩ := S
  have hPc := hp.2
  intro T hT X
  rcases vx_callI X hx (bytes := bytes) (maxL := maxL) ho hy1 hl hin hcode hy hK hg (hsize.trans hml.symm) (a := b) (argsL := As) (rest := rest) (fun sig h => hn.trans (hlen sig h)) hstack hW (by rw [hb]; exact hdg)
    (fun vm₁ hW₁ => ⟨hf.1, hf.2, hPc (T.setVm vm₁) hT hW₁⟩) with ⟨v, vm₁, ⟨U', l2, c2, s2⟩, hW₁, X', ⟨g', mk, t, L, e1, e2, hq, h1, hL, h2, h3⟩, st⟩ | ⟨q, vm₁, ⟨U', l2, c2, s2⟩, hW₁, X', ⟨g', mk, t, L, E, ce, e1, e2, hq, hce, hcv, hcl, h1, hL, h2, h3⟩, st⟩
  · dsimp only [Pt.U, Pt.locs, Pt.cells, Pt.slots] at X' e1 e2 h1 h2 h3 st
    subst h1; subst h2; subst h3
    exact Or.inl ⟨v, (T.setVm vm₁).calling g' mk (Value.ref b :: As).toArray, t, U', L, hT, X', hL, e1, e2, hq, st⟩
  · dsimp only [Pt.U, Pt.locs, Pt.cells, Pt.slots] at X' e1 e2 h1 h2 h3 st hcl
    subst h1; subst h2; subst h3
    exact Or.inr ⟨q, (T.setVm vm₁).calling g' mk (Value.ref b :: As).toArray, t, U', L, E, ce, hT, X', hL, e1, e2, hq, hce, hcv, vx_cls hW₁ hcl, st⟩
end VXIB
/-! ===== END ===== -/
/-! ===== BEGIN a private constructor of a nest mate that throws ===== -/
section VXIC
variable {p : Program} {l : Launch} {e : Env} {R : Room} {s : State} {m : MethodId} {args : Array Value} {below : List Frame} {meth : Method} {c : Code} {T : State} {locs : List Loc} {cells slots : Nat}
theorem vx_callIN (X : Stand p l e R s m args below meth c T locs cells slots) (hexec : p.tables.exec = Jvm.exec) {own : String} {index : Nat} {host : String} {y : MethodName} {bytes : ByteArray} {maxL : Nat}
    (hown : s.vm.findClass own = some m.cls) (hy1 : y.name = "<init>") (hlink : (Cond.methodLinkNest own index y host).before args s = true) (hinst : (Cond.instanceMethod y).before args s = true)
    (hcode : (Cond.code y bytes maxL none).before args s = true) (hy : y.cls ≠ "java/lang/invoke/MethodHandle" ∧ y.cls ≠ "java/lang/invoke/VarHandle")
    {W9 : Nat} {Pre : Pt → Array Value → Prop} {Post : Pt → Array Value → Option Value → Pt → Prop} {PostX : Pt → Array Value → Addr → Pt → Prop} (hK : vx_Back l R p e below s args y 3 W9 Pre Post PostX)
    {g : JFrame} (hg : g.method = m) (hsize : g.locals.size = c.maxLocals) {a : Addr} {argsL rest : List Value} (hlen : ∀ sig, parseMethodDescriptor y.desc = some sig → argsL.length = sig.parameters.length)
    (hstack : g.stack = argsL.reverse ++ .ref a :: rest) (hW : 2 * g.monitorRoom + (rest.map fun v => v.category).sum ≤ W9) (hdg : decode c.code g.pc = .ok (.invokespecial index, 3))
    (hpre : ∀ vm₁, s.WarmedH vm₁ → Pre ⟨T.setVm vm₁, locs, cells, slots⟩ (Value.ref a :: argsL).toArray) :
    (∃ (v : Option Value) (vm₁ : Vm) (B : Pt), s.WarmedH vm₁ ∧ Stand p l e R s m args below meth c B.U B.locs B.cells B.slots ∧ Post ⟨T.setVm vm₁, locs, cells, slots⟩ (Value.ref a :: argsL).toArray v B ∧
      ∀ target, Steps p.tables e below (B.U.setTop { g with pc := g.pc + 3, stack := v.toList ++ rest }) target → Steps p.tables e below (T.setTop g) target) ∨
    (∃ (q : Addr) (vm₁ : Vm) (B : Pt), s.WarmedH vm₁ ∧ Stand p l e R s m args below meth c B.U B.locs B.cells B.slots ∧ PostX ⟨T.setVm vm₁, locs, cells, slots⟩ (Value.ref a :: argsL).toArray q B ∧
      Steps p.tables e below (T.setTop g) ((B.U.setTop { g with stack := rest }).pushFrame (.throwing q))) := by
  subst hg
  have hpl : e.platform.magicAccessors = ({} : Platform).magicAccessors := by rw [X.admits.platform]
  obtain ⟨mk, methM, cM, kP, vm₁, hnamed, hmethM, hcodeM, -, hlocalsM, -, hkP, -, hW₁, hstep₁⟩ := Steps.initColdArgsNest (e := e) X.here hexec X.warmed hpl hown hy1 hy hlink hinst hcode (f := g) rfl hlen hstack hdg
  have X₁ := X.noted hW₁
  rcases hK g.method meth c ⟨T.setVm vm₁, locs, cells, slots⟩ { g with stack := rest } (.invokespecial index) mk (Value.ref a :: argsL).toArray X₁ rfl hsize hdg hW (X₁.named hnamed) (hpre vm₁ X₁.warmed) with ⟨v, B, X', hpost, hsteps⟩ | ⟨q, B, X', hpost, hsteps⟩
  · exact Or.inl ⟨v, vm₁, B, X₁.warmed, X', hpost, fun target h => hstep₁ _ fun acts => by rw [doInvoke_state]; exact hsteps.trans h⟩
  · exact Or.inr ⟨q, vm₁, B, X₁.warmed, X', hpost, hstep₁ _ fun acts => by rw [doInvoke_state]; exact hsteps⟩
end VXIC
section VXID
variable {p : Program} {l : Launch} {e : Env} {R : Room} {s : State} {m : MethodId} {args : Array Value} {below : List Frame} {meth : Method} {c : Code} {H : Heap} {locs : List Loc} {cells slots : Nat}
theorem vx_runIN {y : MethodName} {bytes cc : ByteArray} {maxL nL mc ms n index : Nat} {ws : List Cond} {rm : Room} {Pc : Array Value → State → Prop} {Qc : Array Value → State → Outcome → State → Prop} {XC : String → State → State → Prop} {free : Addr → Prop} {Ts : List Cond} {own host : String} {b : Addr} {As rest : List Value} {g : JFrame}
    (S : CallFix p m c cc nL s args Ts own) (hM : vx_Met l y ws rm Pc Qc XC mc ms free) (cw : va_CN R s args own index y host bytes maxL none ws rm mc ms n ∧ y.name = "<init>" ∧ (Cond.instanceMethod y).before args s = true) (hp : PreS s H Pc (.ref b :: As))
    (hg : g.method = m) (hn : As.length = n) (hsize : g.locals.size = nL) (hstack : g.stack = As.reverse ++ .ref b :: rest) (hW : 2 * g.monitorRoom + (rest.map fun v => v.category).sum ≤ 8) (hdg : decode cc g.pc = .ok (.invokespecial index, 3)) (hf : cells + mc ≤ R.cells ∧ slots + ms ≤ R.slots) :
    vx_Run p l e R s m args below meth c H locs cells slots mc ms g rest (Qc (Value.ref b :: As).toArray) XC free := by
  obtain ⟨⟨⟨hrc, hrs, hfr, hlo, hws, hcw⟩, hcode, hini, hy, hlen, hl⟩, hx1, hx2⟩ := cw
  have hK : vx_Back l R p e below s args y 3 8 (PreOf R mc ms Pc) (PostOf Qc mc ms free) (vx_Post XC mc ms free) := vx_back (bytes := bytes) (maxL := maxL) (ret := none) hM hp.1 hrc hrs hfr hlo hws hcw (fun a' U hW => word_at hW (Or.inl (by first | rfl | simp [Cond.onTables, Cond.keeps, Cond.steady])) hini)
  obtain ⟨hx, hb, hml, ho, -⟩ := S
  have hPc := hp.2
  intro T hT X
  rcases vx_callIN X hx (bytes := bytes) (maxL := maxL) ho hx1 hl hx2 hcode hy hK hg (hsize.trans hml.symm) (a := b) (argsL := As) (rest := rest) (fun sig h => hn.trans (hlen sig h)) hstack hW (by rw [hb]; exact hdg)
    (fun vm₁ hW₁ => ⟨hf.1, hf.2, hPc (T.setVm vm₁) hT hW₁⟩) with ⟨v, vm₁, ⟨U', l2, c2, s2⟩, hW₁, X', ⟨g', mk, t, L, e1, e2, hq, h1, hL, h2, h3⟩, st⟩ | ⟨q, vm₁, ⟨U', l2, c2, s2⟩, hW₁, X', ⟨g', mk, t, L, E, ce, e1, e2, hq, hce, hcv, hcl, h1, hL, h2, h3⟩, st⟩
  · dsimp only [Pt.U, Pt.locs, Pt.cells, Pt.slots] at X' e1 e2 h1 h2 h3 st
    subst h1; subst h2; subst h3
    exact Or.inl ⟨v, (T.setVm vm₁).calling g' mk (Value.ref b :: As).toArray, t, U', L, hT, X', hL, e1, e2, hq, st⟩
  · dsimp only [Pt.U, Pt.locs, Pt.cells, Pt.slots] at X' e1 e2 h1 h2 h3 st hcl
    subst h1; subst h2; subst h3
    exact Or.inr ⟨q, (T.setVm vm₁).calling g' mk (Value.ref b :: As).toArray, t, U', L, E, ce, hT, X', hL, e1, e2, hq, hce, hcv, vx_cls hW₁ hcl, st⟩
end VXID
/-! ===== END ===== -/
/-! ===== BEGIN a method of a class above, found by the receiver, that may throw (follows va_callVU, va_runU of this kit) ===== -/
section
variable {p : Program} {l : Launch} {e : Env} {R : Room} {s : State} {m : MethodId} {args : Array Value} {below : List Frame} {meth : Method} {c : Code} {H : Heap} {locs : List Loc} {cells slots : Nat}
theorem vx_callVU {T : State} {locs : List Loc} {cells slots : Nat} (X : Stand p l e R s m args below meth c T locs cells slots) (hexec : p.tables.exec = Jvm.exec) {own C owner : String} {index : Nat} {x y : MethodName} {bytes : ByteArray} {maxL : Nat} {ret : Option FieldType}
    (hown : s.vm.findClass own = some m.cls) (hlink : (Cond.methodLink own index x).before args s = true) (hsame : (Cond.sameMethod x.cls owner x.name x.desc).before args s = true)
    (hd0 : va_Decl s ⟨owner, x.name, x.desc⟩) (howner : owner ≠ "java/lang/invoke/MethodHandle" ∧ owner ≠ "java/lang/invoke/VarHandle")
    (hsel : (Cond.selects C x y).before args s = true) (hinst : (Cond.instanceMethod y).before args s = true) (hcode : (Cond.code y bytes maxL ret).before args s = true)
    {W : Nat} {Pre : Pt → Array Value → Prop} {Post : Pt → Array Value → Option Value → Pt → Prop} {PostX : Pt → Array Value → Addr → Pt → Prop} (hK : vx_Back l R p e below s args y 3 W Pre Post PostX)
    {b : Addr} {cellB : Cell} (hcell : T.heap[b]? = some cellB) (hobj : cellB.vm.isStatics = false) (hcls : s.vm.findClass C = some cellB.cls)
    {g : JFrame} (hg : g.method = m) (hsize : g.locals.size = c.maxLocals) {argsL rest : List Value} (hlen : ∀ sig, parseMethodDescriptor x.desc = some sig → argsL.length = sig.parameters.length)
    (hstack : g.stack = argsL.reverse ++ .ref b :: rest) (hW : 2 * g.monitorRoom + (rest.map fun v => v.category).sum ≤ W) (hdg : decode c.code g.pc = .ok (.invokevirtual index, 3))
    (hpre : ∀ vm₁, s.WarmedH vm₁ → Pre ⟨T.setVm vm₁, locs, cells, slots⟩ (Value.ref b :: argsL).toArray) :
    (∃ (v : Option Value) (vm₁ : Vm) (B : Pt), s.WarmedH vm₁ ∧ Stand p l e R s m args below meth c B.U B.locs B.cells B.slots ∧ Post ⟨T.setVm vm₁, locs, cells, slots⟩ (Value.ref b :: argsL).toArray v B ∧
      ∀ target, Steps p.tables e below (B.U.setTop { g with pc := g.pc + 3, stack := v.toList ++ rest }) target → Steps p.tables e below (T.setTop g) target) ∨
    (∃ (q : Addr) (vm₁ : Vm) (B : Pt), s.WarmedH vm₁ ∧ Stand p l e R s m args below meth c B.U B.locs B.cells B.slots ∧ PostX ⟨T.setVm vm₁, locs, cells, slots⟩ (Value.ref b :: argsL).toArray q B ∧
      Steps p.tables e below (T.setTop g) ((B.U.setTop { g with stack := rest }).pushFrame (.throwing q))) := by
  obtain ⟨r0, r, hn, hrm, hstR, hsigR⟩ := hd0
  obtain ⟨cn, ck, r1, hcn, hck, hni, hf, hn1⟩ := Cond.sameMethod_found hsame
  cases hn.symm.trans hn1
  obtain ⟨mk, methM, hnamed, hmethM, -, habM⟩ := Cond.instanceMethod_spec hinst
  obtain ⟨c2, r2, m2, q1, q2, q3, q4, kP, hkP, hkPi⟩ := Cond.selects_spec hsel
  cases hcls.symm.trans q1
  cases hf.symm.trans q2
  cases hnamed.symm.trans q3
  have hselP : selectMethod e.platform s.vm cellB.cls r0 = .method mk := by rw [Launch.admits_selectMethod X.admits]; exact q4
  obtain ⟨vm₁, X₁, hstep₁⟩ := X.invokevirtualUp hexec hown hlink hsame howner hn hrm hstR (a := b) (cell := cellB) hcell
    (fun z h => by rw [h] at hobj; cases hobj) hselP hmethM habM hkP hkPi (g := g) hg (argsL := argsL) (rest := rest) (hlen _ hsigR) hstack hdg
  rcases hK m meth c ⟨T.setVm vm₁, locs, cells, slots⟩ { g with stack := rest } (.invokevirtual index) mk (Value.ref b :: argsL).toArray X₁ hg hsize hdg hW (X₁.named hnamed) (hpre vm₁ X₁.warmed) with ⟨v, B, X', hpost, hsteps⟩ | ⟨q, B, X', hpost, hsteps⟩
  · exact Or.inl ⟨v, vm₁, B, X₁.warmed, X', hpost, fun target h => hstep₁ _ fun acts => by rw [doInvoke_state]; exact hsteps.trans h⟩
  · exact Or.inr ⟨q, vm₁, B, X₁.warmed, X', hpost, hstep₁ _ fun acts => by rw [doInvoke_state]; exact hsteps⟩
theorem vx_runU {x y : MethodName} {bytes cc : ByteArray} {maxL nL mc ms n index : Nat} {ret : Option FieldType} {ws : List Cond} {rm : Room} {Pc : Array Value → State → Prop} {Qc : Array Value → State → Outcome → State → Prop} {XC : String → State → State → Prop} {free : Addr → Prop} {Ts : List Cond} {own C owner : String} {b : Addr} {As rest : List Value} {g : JFrame}
    (S : CallFix p m c cc nL s args Ts own) (hM : vx_Met l y ws rm Pc Qc XC mc ms free) (cw : va_CU R s args own C owner index x y bytes maxL ret ws rm mc ms n) (hp : PreV s H C b Pc As)
    (hg : g.method = m) (hn : As.length = n) (hsize : g.locals.size = nL) (hstack : g.stack = As.reverse ++ .ref b :: rest) (hW : 2 * g.monitorRoom + (rest.map fun v => v.category).sum ≤ 8) (hdg : decode cc g.pc = .ok (.invokevirtual index, 3)) (hf : cells + mc ≤ R.cells ∧ slots + ms ≤ R.slots) :
    vx_Run p l e R s m args below meth c H locs cells slots mc ms g rest (Qc (Value.ref b :: As).toArray) XC free := by
  obtain ⟨hrc, hrs, hfr, hlo, hws, hcw⟩ := cw.back
  have hini := cw.init
  have hK : vx_Back l R p e below s args y 3 8 (PreOf R mc ms Pc) (PostOf Qc mc ms free) (vx_Post XC mc ms free) := vx_back (bytes := bytes) (maxL := maxL) (ret := ret) hM hp.1 hrc hrs hfr hlo hws hcw (fun a' U hW => word_at hW (Or.inl (by first | rfl | simp [Cond.onTables, Cond.keeps, Cond.steady])) hini)
  obtain ⟨hx, hb, hml, ho, -⟩ := S
  obtain ⟨-, ⟨cellB, hcB, hoB, hclB⟩, hPc⟩ := hp
  intro T hT X
  rcases vx_callVU X hx (C := C) (owner := owner) (bytes := bytes) (maxL := maxL) (ret := ret) ho cw.link cw.same cw.decl cw.notMH cw.sel cw.inst cw.code hK (by rw [hT]; exact hcB) hoB hclB hg (hsize.trans hml.symm) (argsL := As) (rest := rest) (fun sig h => hn.trans (cw.len sig h)) hstack hW (by rw [hb]; exact hdg)
    (fun vm₁ hW₁ => ⟨hf.1, hf.2, hPc (T.setVm vm₁) hT hW₁⟩) with ⟨v, vm₁, ⟨U', l2, c2, s2⟩, hW₁, X', ⟨g', mk, t, L, e1, e2, hq, h1, hL, h2, h3⟩, st⟩ | ⟨q, vm₁, ⟨U', l2, c2, s2⟩, hW₁, X', ⟨g', mk, t, L, E, ce, e1, e2, hq, hce, hcv, hcl, h1, hL, h2, h3⟩, st⟩
  · dsimp only [Pt.U, Pt.locs, Pt.cells, Pt.slots] at X' e1 e2 h1 h2 h3 st
    subst h1; subst h2; subst h3
    exact Or.inl ⟨v, (T.setVm vm₁).calling g' mk (Value.ref b :: As).toArray, t, U', L, hT, X', hL, e1, e2, hq, st⟩
  · dsimp only [Pt.U, Pt.locs, Pt.cells, Pt.slots] at X' e1 e2 h1 h2 h3 st hcl
    subst h1; subst h2; subst h3
    exact Or.inr ⟨q, (T.setVm vm₁).calling g' mk (Value.ref b :: As).toArray, t, U', L, E, ce, hT, X', hL, e1, e2, hq, hce, hcv, vx_cls hW₁ hcl, st⟩
end
/-! ===== END ===== -/
/-! ===== BEGIN super.m(..) that may throw (follows va_callSU, va_runSU) ===== -/
section
variable {p : Program} {l : Launch} {e : Env} {R : Room} {s : State} {m : MethodId} {args : Array Value} {below : List Frame} {meth : Method} {c : Code} {H : Heap} {locs : List Loc} {cells slots : Nat}
theorem vx_callSU {T : State} {locs : List Loc} {cells slots : Nat} (X : Stand p l e R s m args below meth c T locs cells slots) (hexec : p.tables.exec = Jvm.exec) {own : String} {index : Nat} {y : MethodName} {bytes : ByteArray} {maxL : Nat} {ret : Option FieldType}
    (hown : s.vm.findClass own = some m.cls) (hlink : (Cond.methodLink own index y).before args s = true) (hsame : (Cond.sameMethod y.cls y.cls y.name y.desc).before args s = true) (hsup : (Cond.superclass own y.cls).before args s = true)
    (hinst : (Cond.instanceMethod y).before args s = true) (hcode : (Cond.code y bytes maxL ret).before args s = true) (hno : y.name ≠ "<init>")
    {W : Nat} {Pre : Pt → Array Value → Prop} {Post : Pt → Array Value → Option Value → Pt → Prop} {PostX : Pt → Array Value → Addr → Pt → Prop} (hK : vx_Back l R p e below s args y 3 W Pre Post PostX)
    {b : Addr} {cellB : Cell} {kB : Class} (hcell : T.heap[b]? = some cellB) (hobj : cellB.vm.isStatics = false) (hkB : s.vm.classes[cellB.cls]? = some kB)
    {g : JFrame} (hg : g.method = m) (hsize : g.locals.size = c.maxLocals) {argsL rest : List Value} (hlen : ∀ sig, parseMethodDescriptor y.desc = some sig → argsL.length = sig.parameters.length)
    (hstack : g.stack = argsL.reverse ++ .ref b :: rest) (hW : 2 * g.monitorRoom + (rest.map fun v => v.category).sum ≤ W) (hdg : decode c.code g.pc = .ok (.invokespecial index, 3))
    (hpre : ∀ vm₁, s.WarmedH vm₁ → Pre ⟨T.setVm vm₁, locs, cells, slots⟩ (Value.ref b :: argsL).toArray) :
    (∃ (v : Option Value) (vm₁ : Vm) (B : Pt), s.WarmedH vm₁ ∧ Stand p l e R s m args below meth c B.U B.locs B.cells B.slots ∧ Post ⟨T.setVm vm₁, locs, cells, slots⟩ (Value.ref b :: argsL).toArray v B ∧
      ∀ target, Steps p.tables e below (B.U.setTop { g with pc := g.pc + 3, stack := v.toList ++ rest }) target → Steps p.tables e below (T.setTop g) target) ∨
    (∃ (q : Addr) (vm₁ : Vm) (B : Pt), s.WarmedH vm₁ ∧ Stand p l e R s m args below meth c B.U B.locs B.cells B.slots ∧ PostX ⟨T.setVm vm₁, locs, cells, slots⟩ (Value.ref b :: argsL).toArray q B ∧
      Steps p.tables e below (T.setTop g) ((B.U.setTop { g with stack := rest }).pushFrame (.throwing q))) := by
  obtain ⟨mk, methM, hnamed, hmethM, hstM, habM⟩ := Cond.instanceMethod_spec hinst
  obtain ⟨methM', cM, hmethM', -, -, -, -, -, -, hsigM⟩ := Cond.code_spec hnamed hcode
  cases hmethM.symm.trans hmethM'
  obtain ⟨ps, dk, kp, hps, hdk, hkp, hsuper, -, -, hnid⟩ := Cond.superclass_spec hown hsup
  have hn : s.methodNamed? ⟨y.cls, y.name, y.desc⟩ = some mk := hnamed
  have hpm : ps = mk.cls := Option.some.inj (hps.symm.trans (findClass_of_methodNamed hnamed))
  have hsub : s.vm.isSubclass ps mk.cls = true := by rw [hpm]; simp [Vm.isSubclass, Vm.isSubclassAux]
  obtain ⟨vm₁, X₁, hstep₁⟩ := X.invokespecialUp hexec hown hlink hsame hn hmethM hstM habM hno hdk hnid hps hsuper hsub (a := b) (cell := cellB) hcell
    (fun z h => by rw [h] at hobj; cases hobj) hkB (g := g) hg (argsL := argsL) (rest := rest) (hlen _ hsigM) hstack hdg
  rcases hK m meth c ⟨T.setVm vm₁, locs, cells, slots⟩ { g with stack := rest } (.invokespecial index) mk (Value.ref b :: argsL).toArray X₁ hg hsize hdg hW (X₁.named hnamed) (hpre vm₁ X₁.warmed) with ⟨v, B, X', hpost, hsteps⟩ | ⟨q, B, X', hpost, hsteps⟩
  · exact Or.inl ⟨v, vm₁, B, X₁.warmed, X', hpost, fun target h => hstep₁ _ (by rw [doInvoke_state]; exact hsteps.trans h)⟩
  · exact Or.inr ⟨q, vm₁, B, X₁.warmed, X', hpost, hstep₁ _ (by rw [doInvoke_state]; exact hsteps)⟩
theorem vx_runSU {y : MethodName} {bytes cc : ByteArray} {maxL nL mc ms n index : Nat} {ret : Option FieldType} {ws : List Cond} {rm : Room} {Pc : Array Value → State → Prop} {Qc : Array Value → State → Outcome → State → Prop} {XC : String → State → State → Prop} {free : Addr → Prop} {Ts : List Cond} {own C : String} {cC : ClassId} {b : Addr} {As rest : List Value} {g : JFrame}
    (hat : ClassAt s C cC) (S : CallFix p m c cc nL s args Ts own) (hM : vx_Met l y ws rm Pc Qc XC mc ms free) (cw : va_CS R s args own index y bytes maxL ret ws rm mc ms n) (hp : PreV s H C b Pc As)
    (hg : g.method = m) (hn : As.length = n) (hsize : g.locals.size = nL) (hstack : g.stack = As.reverse ++ .ref b :: rest) (hW : 2 * g.monitorRoom + (rest.map fun v => v.category).sum ≤ 8) (hdg : decode cc g.pc = .ok (.invokespecial index, 3)) (hf : cells + mc ≤ R.cells ∧ slots + ms ≤ R.slots) :
    vx_Run p l e R s m args below meth c H locs cells slots mc ms g rest (Qc (Value.ref b :: As).toArray) XC free := by
  obtain ⟨⟨hrc, hrs, hfr, hlo, hws, hcw⟩, hl1, hl2, hl3, hl4, hini, hcode, hno, hlen⟩ := cw
  have hK : vx_Back l R p e below s args y 3 8 (PreOf R mc ms Pc) (PostOf Qc mc ms free) (vx_Post XC mc ms free) := vx_back (bytes := bytes) (maxL := maxL) (ret := ret) hM hp.1 hrc hrs hfr hlo hws hcw (fun a' U hW => word_at hW (Or.inl (by first | rfl | simp [Cond.onTables, Cond.keeps, Cond.steady])) hini)
  obtain ⟨hx, hb, hml, ho, -⟩ := S
  obtain ⟨-, ⟨cellB, hcB, hoB, hclB⟩, hPc⟩ := hp
  obtain ⟨hfc, kB, hkB, -⟩ := hat
  cases hfc.symm.trans hclB
  intro T hT X
  rcases vx_callSU X hx (bytes := bytes) (maxL := maxL) (ret := ret) ho hl1 hl2 hl3 hl4 hcode hno hK (by rw [hT]; exact hcB) hoB hkB hg (hsize.trans hml.symm) (argsL := As) (rest := rest) (fun sig h => hn.trans (hlen sig h)) hstack hW (by rw [hb]; exact hdg)
    (fun vm₁ hW₁ => ⟨hf.1, hf.2, hPc (T.setVm vm₁) hT hW₁⟩) with ⟨v, vm₁, ⟨U', l2, c2, s2⟩, hW₁, X', ⟨g', mk, t, L, e1, e2, hq, h1, hL, h2, h3⟩, st⟩ | ⟨q, vm₁, ⟨U', l2, c2, s2⟩, hW₁, X', ⟨g', mk, t, L, E, ce, e1, e2, hq, hce, hcv, hcl, h1, hL, h2, h3⟩, st⟩
  · dsimp only [Pt.U, Pt.locs, Pt.cells, Pt.slots] at X' e1 e2 h1 h2 h3 st
    subst h1; subst h2; subst h3
    exact Or.inl ⟨v, (T.setVm vm₁).calling g' mk (Value.ref b :: As).toArray, t, U', L, hT, X', hL, e1, e2, hq, st⟩
  · dsimp only [Pt.U, Pt.locs, Pt.cells, Pt.slots] at X' e1 e2 h1 h2 h3 st hcl
    subst h1; subst h2; subst h3
    exact Or.inr ⟨q, (T.setVm vm₁).calling g' mk (Value.ref b :: As).toArray, t, U', L, E, ce, hT, X', hL, e1, e2, hq, hce, hcv, vx_cls hW₁ hcl, st⟩
end
/-! ===== END ===== -/
/-! ===== BEGIN a private method of a nest mate that may throw (follows va_callVN, va_callSN, va_runVN, va_runSN) ===== -/
section
variable {p : Program} {l : Launch} {e : Env} {R : Room} {s : State} {m : MethodId} {args : Array Value} {below : List Frame} {meth : Method} {c : Code} {H : Heap} {locs : List Loc} {cells slots : Nat}
variable {T : State}
theorem vx_callVN (X : Stand p l e R s m args below meth c T locs cells slots) (hexec : p.tables.exec = Jvm.exec) {own C : String} {index : Nat} {host : String} {y : MethodName} {bytes : ByteArray} {maxL : Nat} {ret : Option FieldType}
    (hown : s.vm.findClass own = some m.cls) (hlink : (Cond.methodLinkNest own index y host).before args s = true) (hinst : (Cond.instanceMethod y).before args s = true) (hsel : (Cond.selects C y y).before args s = true)
    (hcode : (Cond.code y bytes maxL ret).before args s = true) (hy : y.cls ≠ "java/lang/invoke/MethodHandle" ∧ y.cls ≠ "java/lang/invoke/VarHandle")
    {W : Nat} {Pre : Pt → Array Value → Prop} {Post : Pt → Array Value → Option Value → Pt → Prop} {PostX : Pt → Array Value → Addr → Pt → Prop} (hK : vx_Back l R p e below s args y 3 W Pre Post PostX)
    {b : Addr} {cellB : Cell} (hcell : T.heap[b]? = some cellB) (hobj : cellB.vm.isStatics = false) (hcls : s.vm.findClass C = some cellB.cls)
    {g : JFrame} (hg : g.method = m) (hsize : g.locals.size = c.maxLocals) {argsL rest : List Value} (hlen : ∀ sig, parseMethodDescriptor y.desc = some sig → argsL.length = sig.parameters.length)
    (hstack : g.stack = argsL.reverse ++ .ref b :: rest) (hW : 2 * g.monitorRoom + (rest.map fun v => v.category).sum ≤ W) (hdg : decode c.code g.pc = .ok (.invokevirtual index, 3))
    (hpre : ∀ vm₁, s.WarmedH vm₁ → Pre ⟨T.setVm vm₁, locs, cells, slots⟩ (Value.ref b :: argsL).toArray) :
    (∃ (v : Option Value) (vm₁ : Vm) (B : Pt), s.WarmedH vm₁ ∧ Stand p l e R s m args below meth c B.U B.locs B.cells B.slots ∧ Post ⟨T.setVm vm₁, locs, cells, slots⟩ (Value.ref b :: argsL).toArray v B ∧
      ∀ target, Steps p.tables e below (B.U.setTop { g with pc := g.pc + 3, stack := v.toList ++ rest }) target → Steps p.tables e below (T.setTop g) target) ∨
    (∃ (q : Addr) (vm₁ : Vm) (B : Pt), s.WarmedH vm₁ ∧ Stand p l e R s m args below meth c B.U B.locs B.cells B.slots ∧ PostX ⟨T.setVm vm₁, locs, cells, slots⟩ (Value.ref b :: argsL).toArray q B ∧
      Steps p.tables e below (T.setTop g) ((B.U.setTop { g with stack := rest }).pushFrame (.throwing q))) := by
  obtain ⟨mk, methM, hnamed, hmethM, hstM, habM⟩ := Cond.instanceMethod_spec hinst
  obtain ⟨methM', cM, hmethM', -, -, -, -, -, -, hsigM⟩ := Cond.code_spec hnamed hcode
  cases hmethM.symm.trans hmethM'
  obtain ⟨c2, r2, m2, q1, q2, q3, q4, kP, hkP, hkPi⟩ := Cond.selects_spec hsel
  cases hcls.symm.trans q1
  cases (State.methodFound?_of_named hnamed hy).symm.trans q2
  cases hnamed.symm.trans q3
  have hselP : selectMethod e.platform s.vm cellB.cls mk = .method mk := by rw [Launch.admits_selectMethod X.admits]; exact q4
  obtain ⟨vm₁, X₁, hstep₁⟩ := X.invokevirtualNest hexec hown hlink hnamed hmethM hstM hkP hkPi hy (a := b) (cell := cellB) hcell
    (fun z h => by rw [h] at hobj; cases hobj) hselP hmethM habM hkP hkPi (g := g) hg (argsL := argsL) (rest := rest) (hlen _ hsigM) hstack hdg
  rcases hK m meth c ⟨T.setVm vm₁, locs, cells, slots⟩ { g with stack := rest } (.invokevirtual index) mk (Value.ref b :: argsL).toArray X₁ hg hsize hdg hW (X₁.named hnamed) (hpre vm₁ X₁.warmed) with ⟨v, B, X', hpost, hsteps⟩ | ⟨q, B, X', hpost, hsteps⟩
  · exact Or.inl ⟨v, vm₁, B, X₁.warmed, X', hpost, fun target h => hstep₁ _ fun acts => by rw [doInvoke_state]; exact hsteps.trans h⟩
  · exact Or.inr ⟨q, vm₁, B, X₁.warmed, X', hpost, hstep₁ _ fun acts => by rw [doInvoke_state]; exact hsteps⟩
theorem vx_callSN (X : Stand p l e R s m args below meth c T locs cells slots) (hexec : p.tables.exec = Jvm.exec) {own : String} {index : Nat} {host : String} {y : MethodName} {bytes : ByteArray} {maxL : Nat} {ret : Option FieldType}
    (hown : s.vm.findClass own = some m.cls) (hlink : (Cond.methodLinkNest own index y host).before args s = true) (hstat : (Cond.static y).before args s = true) (hinit : (Cond.initialized y.cls).before args s = true)
    (hcode : (Cond.code y bytes maxL ret).before args s = true) (hy : y.cls ≠ "java/lang/invoke/MethodHandle" ∧ y.cls ≠ "java/lang/invoke/VarHandle")
    {W : Nat} {Pre : Pt → Array Value → Prop} {Post : Pt → Array Value → Option Value → Pt → Prop} {PostX : Pt → Array Value → Addr → Pt → Prop} (hK : vx_Back l R p e below s args y 3 W Pre Post PostX)
    {g : JFrame} (hg : g.method = m) (hsize : g.locals.size = c.maxLocals) {argsL rest : List Value} (hlen : ∀ sig, parseMethodDescriptor y.desc = some sig → argsL.length = sig.parameters.length)
    (hstack : g.stack = argsL.reverse ++ rest) (hW : 2 * g.monitorRoom + (rest.map fun v => v.category).sum ≤ W) (hdg : decode c.code g.pc = .ok (.invokestatic index, 3))
    (hpre : ∀ vm₁, s.WarmedH vm₁ → Pre ⟨T.setVm vm₁, locs, cells, slots⟩ argsL.toArray) :
    (∃ (v : Option Value) (vm₁ : Vm) (B : Pt), s.WarmedH vm₁ ∧ Stand p l e R s m args below meth c B.U B.locs B.cells B.slots ∧ Post ⟨T.setVm vm₁, locs, cells, slots⟩ argsL.toArray v B ∧
      ∀ target, Steps p.tables e below (B.U.setTop { g with pc := g.pc + 3, stack := v.toList ++ rest }) target → Steps p.tables e below (T.setTop g) target) ∨
    (∃ (q : Addr) (vm₁ : Vm) (B : Pt), s.WarmedH vm₁ ∧ Stand p l e R s m args below meth c B.U B.locs B.cells B.slots ∧ PostX ⟨T.setVm vm₁, locs, cells, slots⟩ argsL.toArray q B ∧
      Steps p.tables e below (T.setTop g) ((B.U.setTop { g with stack := rest }).pushFrame (.throwing q))) := by
  obtain ⟨mk, hnamed⟩ := Cond.code_named hcode
  obtain ⟨methM, cM, hmethM, -, -, -, -, -, -, hsigM⟩ := Cond.code_spec hnamed hcode
  have hstatic : methM.isStatic = true := Cond.static_spec hnamed hmethM hstat
  obtain ⟨kP, hkP, -⟩ := className_of_methodNamed hnamed
  have hinitP : kP.init = .initialized := Cond.initialized_spec (findClass_of_methodNamed hnamed) hkP hinit
  obtain ⟨vm₁, X₁, hstep₁⟩ := X.invokestaticNest hexec hown hlink hnamed hmethM hstatic hkP hinitP hy (g := g) hg (argsL := argsL) (rest := rest) (hlen _ hsigM) hstack hdg
  rcases hK m meth c ⟨T.setVm vm₁, locs, cells, slots⟩ { g with stack := rest } (.invokestatic index) mk argsL.toArray X₁ hg hsize hdg hW (X₁.named hnamed) (hpre vm₁ X₁.warmed) with ⟨v, B, X', hpost, hsteps⟩ | ⟨q, B, X', hpost, hsteps⟩
  · exact Or.inl ⟨v, vm₁, B, X₁.warmed, X', hpost, fun target h => hstep₁ _ fun acts => by rw [doInvoke_state]; exact hsteps.trans h⟩
  · exact Or.inr ⟨q, vm₁, B, X₁.warmed, X', hpost, hstep₁ _ fun acts => by rw [doInvoke_state]; exact hsteps⟩
theorem vx_runVN {y : MethodName} {bytes cc : ByteArray} {maxL nL mc ms n index : Nat} {ret : Option FieldType} {ws : List Cond} {rm : Room} {Pc : Array Value → State → Prop} {Qc : Array Value → State → Outcome → State → Prop} {XC : String → State → State → Prop} {free : Addr → Prop} {Ts : List Cond} {own C host : String} {b : Addr} {As rest : List Value} {g : JFrame}
    (S : CallFix p m c cc nL s args Ts own) (hM : vx_Met l y ws rm Pc Qc XC mc ms free) (cw : va_CN R s args own index y host bytes maxL ret ws rm mc ms n ∧ (Cond.instanceMethod y).before args s = true ∧ (Cond.selects C y y).before args s = true) (hp : PreV s H C b Pc As)
    (hg : g.method = m) (hn : As.length = n) (hsize : g.locals.size = nL) (hstack : g.stack = As.reverse ++ .ref b :: rest) (hW : 2 * g.monitorRoom + (rest.map fun v => v.category).sum ≤ 8) (hdg : decode cc g.pc = .ok (.invokevirtual index, 3)) (hf : cells + mc ≤ R.cells ∧ slots + ms ≤ R.slots) :
    vx_Run p l e R s m args below meth c H locs cells slots mc ms g rest (Qc (Value.ref b :: As).toArray) XC free := by
  obtain ⟨⟨⟨hrc, hrs, hfr, hlo, hws, hcw⟩, hcode, hini, hy, hlen, hl⟩, hx1, hx2⟩ := cw
  have hK : vx_Back l R p e below s args y 3 8 (PreOf R mc ms Pc) (PostOf Qc mc ms free) (vx_Post XC mc ms free) := vx_back (bytes := bytes) (maxL := maxL) (ret := ret) hM hp.1 hrc hrs hfr hlo hws hcw (fun a' U hW => word_at hW (Or.inl (by first | rfl | simp [Cond.onTables, Cond.keeps, Cond.steady])) hini)
  obtain ⟨hx, hb, hml, ho, -⟩ := S
  obtain ⟨-, ⟨cellB, hcB, hoB, hclB⟩, hPc⟩ := hp
  intro T hT X
  rcases vx_callVN X hx (C := C) (bytes := bytes) (maxL := maxL) (ret := ret) ho hl hx1 hx2 hcode hy hK (by rw [hT]; exact hcB) hoB hclB hg (hsize.trans hml.symm) (argsL := As) (rest := rest) (fun sig h => hn.trans (hlen sig h)) hstack hW (by rw [hb]; exact hdg)
    (fun vm₁ hW₁ => ⟨hf.1, hf.2, hPc (T.setVm vm₁) hT hW₁⟩) with ⟨v, vm₁, ⟨U', l2, c2, s2⟩, hW₁, X', ⟨g', mk, t, L, e1, e2, hq, h1, hL, h2, h3⟩, st⟩ | ⟨q, vm₁, ⟨U', l2, c2, s2⟩, hW₁, X', ⟨g', mk, t, L, E, ce, e1, e2, hq, hce, hcv, hcl, h1, hL, h2, h3⟩, st⟩
  · dsimp only [Pt.U, Pt.locs, Pt.cells, Pt.slots] at X' e1 e2 h1 h2 h3 st
    subst h1; subst h2; subst h3
    exact Or.inl ⟨v, (T.setVm vm₁).calling g' mk (Value.ref b :: As).toArray, t, U', L, hT, X', hL, e1, e2, hq, st⟩
  · dsimp only [Pt.U, Pt.locs, Pt.cells, Pt.slots] at X' e1 e2 h1 h2 h3 st hcl
    subst h1; subst h2; subst h3
    exact Or.inr ⟨q, (T.setVm vm₁).calling g' mk (Value.ref b :: As).toArray, t, U', L, E, ce, hT, X', hL, e1, e2, hq, hce, hcv, vx_cls hW₁ hcl, st⟩
theorem vx_runSN {y : MethodName} {bytes cc : ByteArray} {maxL nL mc ms n index : Nat} {ret : Option FieldType} {ws : List Cond} {rm : Room} {Pc : Array Value → State → Prop} {Qc : Array Value → State → Outcome → State → Prop} {XC : String → State → State → Prop} {free : Addr → Prop} {Ts : List Cond} {own host : String} {As rest : List Value} {g : JFrame}
    (S : CallFix p m c cc nL s args Ts own) (hM : vx_Met l y ws rm Pc Qc XC mc ms free) (cw : va_CN R s args own index y host bytes maxL ret ws rm mc ms n ∧ (Cond.static y).before args s = true ∧ True) (hp : PreS s H Pc As)
    (hg : g.method = m) (hn : As.length = n) (hsize : g.locals.size = nL) (hstack : g.stack = As.reverse ++ rest) (hW : 2 * g.monitorRoom + (rest.map fun v => v.category).sum ≤ 8) (hdg : decode cc g.pc = .ok (.invokestatic index, 3)) (hf : cells + mc ≤ R.cells ∧ slots + ms ≤ R.slots) :
    vx_Run p l e R s m args below meth c H locs cells slots mc ms g rest (Qc As.toArray) XC free := by
  obtain ⟨⟨⟨hrc, hrs, hfr, hlo, hws, hcw⟩, hcode, hini, hy, hlen, hl⟩, hx1, hx2⟩ := cw
  have hK : vx_Back l R p e below s args y 3 8 (PreOf R mc ms Pc) (PostOf Qc mc ms free) (vx_Post XC mc ms free) := vx_back (bytes := bytes) (maxL := maxL) (ret := ret) hM hp.1 hrc hrs hfr hlo hws hcw (fun a' U hW => word_at hW (Or.inl (by first | rfl | simp [Cond.onTables, Cond.keeps, Cond.steady])) hini)
  obtain ⟨hx, hb, hml, ho, -⟩ := S
  have hPc := hp.2
  intro T hT X
  rcases vx_callSN X hx (bytes := bytes) (maxL := maxL) (ret := ret) ho hl hx1 hini hcode hy hK hg (hsize.trans hml.symm) (argsL := As) (rest := rest) (fun sig h => hn.trans (hlen sig h)) hstack hW (by rw [hb]; exact hdg)
    (fun vm₁ hW₁ => ⟨hf.1, hf.2, hPc (T.setVm vm₁) hT hW₁⟩) with ⟨v, vm₁, ⟨U', l2, c2, s2⟩, hW₁, X', ⟨g', mk, t, L, e1, e2, hq, h1, hL, h2, h3⟩, st⟩ | ⟨q, vm₁, ⟨U', l2, c2, s2⟩, hW₁, X', ⟨g', mk, t, L, E, ce, e1, e2, hq, hce, hcv, hcl, h1, hL, h2, h3⟩, st⟩
  · dsimp only [Pt.U, Pt.locs, Pt.cells, Pt.slots] at X' e1 e2 h1 h2 h3 st
    subst h1; subst h2; subst h3
    exact Or.inl ⟨v, (T.setVm vm₁).calling g' mk As.toArray, t, U', L, hT, X', hL, e1, e2, hq, st⟩
  · dsimp only [Pt.U, Pt.locs, Pt.cells, Pt.slots] at X' e1 e2 h1 h2 h3 st hcl
    subst h1; subst h2; subst h3
    exact Or.inr ⟨q, (T.setVm vm₁).calling g' mk As.toArray, t, U', L, E, ce, hT, X', hL, e1, e2, hq, hce, hcv, vx_cls hW₁ hcl, st⟩
end
/-! ===== END ===== -/
/-! ===== BEGIN calls by an interface of methods that may throw (vx_callIF, vx_runF follow va_callIF, va_runF of this kit) ===== -/
section
variable {p : Program} {l : Launch} {e : Env} {R : Room} {s : State} {m : MethodId} {args : Array Value} {below : List Frame} {meth : Method} {c : Code} {H : Heap} {locs : List Loc} {cells slots : Nat} {Q : State → Prop}
variable {mc ms : Nat} {free : Addr → Prop} {A0 A1 : Nat → Prop} {H0 : Heap} {a : Array Value} {pc : Nat} {ls : Array Slot} {st0 rest : List Value}
def vx_Run5 (p : Program) (l : Launch) (e : Env) (R : Room) (s : State) (m : MethodId) (args : Array Value) (below : List Frame) (meth : Method) (c : Code) (H : Heap) (locs : List Loc) (cells slots mc ms : Nat) (g : JFrame) (rest : List Value) (Qa : State → Outcome → State → Prop) (XC : String → State → State → Prop) (free : Addr → Prop) : Prop :=
  ∀ T : State, T.heap = H → Stand p l e R s m args below meth c T locs cells slots →
    (∃ (v : Option Value) (st₀ t T' : State) (L : List Loc), st₀.heap = H ∧ Stand p l e R s m args below meth c T' (locs ++ L) (cells + mc) (slots + ms) ∧ (∀ q ∈ L, free q.base) ∧ T'.heap = t.heap ∧ T'.vm = t.vm ∧ Qa st₀ (.returned v) t ∧
      Goes p e below T g T' { g with pc := g.pc + 5, stack := v.toList ++ rest }) ∨
    (∃ (q : Addr) (st₀ t T' : State) (L : List Loc) (E : String) (ce : Cell), st₀.heap = H ∧ Stand p l e R s m args below meth c T' (locs ++ L) (cells + mc) (slots + ms) ∧ (∀ z ∈ L, free z.base) ∧ T'.heap = t.heap ∧ T'.vm = t.vm ∧ XC E st₀ t ∧ t.heap[q]? = some ce ∧ ce.vm = .none ∧ s.vm.findClass E = some ce.cls ∧
      Steps p.tables e below (T.setTop g) ((T'.setTop { g with stack := rest }).pushFrame (.throwing q)))
theorem vx_callIF {T : State} (X : Stand p l e R s m args below meth c T locs cells slots) (hexec : p.tables.exec = Jvm.exec) {own C : String} {index count : Nat} {x y : MethodName} {bytes : ByteArray} {maxL : Nat} {ret : Option FieldType}
    (hown : s.vm.findClass own = some m.cls) (hlink : (Cond.methodLink own index x).before args s = true) (hdecl : (Cond.declares x).before args s = true) (hface : (Cond.interfaceMethod x.cls x.cls x.name x.desc).before args s = true)
    (hsel : (Cond.selects C x y).before args s = true) (hinst : (Cond.instanceMethod y).before args s = true) (hpub : (Cond.publicMethod y).before args s = true) (hunh : (Cond.unhidden C x.name x.desc).before args s = true)
    (hcast : (Cond.castable C x.cls).before args s = true) (hcode : (Cond.code y bytes maxL ret).before args s = true) (hx : x.cls ≠ "java/lang/invoke/MethodHandle" ∧ x.cls ≠ "java/lang/invoke/VarHandle")
    {W9 : Nat} {Pre : Pt → Array Value → Prop} {Post : Pt → Array Value → Option Value → Pt → Prop} {PostX : Pt → Array Value → Addr → Pt → Prop} (hK : vx_Back l R p e below s args y 5 W9 Pre Post PostX)
    {b : Addr} {cellB : Cell} {kB : Class} (hcell : T.heap[b]? = some cellB) (hobj : cellB.vm.isStatics = false) (hcls : s.vm.findClass C = some cellB.cls) (hkB : s.vm.classes[cellB.cls]? = some kB)
    {g : JFrame} (hg : g.method = m) (hsize : g.locals.size = c.maxLocals) {argsL rest : List Value} (hlen : ∀ sig, parseMethodDescriptor x.desc = some sig → argsL.length = sig.parameters.length)
    (hstack : g.stack = argsL.reverse ++ .ref b :: rest) (hW : 2 * g.monitorRoom + (rest.map fun v => v.category).sum ≤ W9) (hdg : decode c.code g.pc = .ok (.invokeinterface index count, 5))
    (hpre : ∀ vm₁, s.WarmedH vm₁ → Pre ⟨T.setVm vm₁, locs, cells, slots⟩ (Value.ref b :: argsL).toArray) :
    (∃ (v : Option Value) (vm₁ : Vm) (B : Pt), s.WarmedH vm₁ ∧ Stand p l e R s m args below meth c B.U B.locs B.cells B.slots ∧ Post ⟨T.setVm vm₁, locs, cells, slots⟩ (Value.ref b :: argsL).toArray v B ∧
      ∀ target, Steps p.tables e below (B.U.setTop { g with pc := g.pc + 5, stack := v.toList ++ rest }) target → Steps p.tables e below (T.setTop g) target) ∨
    (∃ (q : Addr) (vm₁ : Vm) (B : Pt), s.WarmedH vm₁ ∧ Stand p l e R s m args below meth c B.U B.locs B.cells B.slots ∧ PostX ⟨T.setVm vm₁, locs, cells, slots⟩ (Value.ref b :: argsL).toArray q B ∧
      Steps p.tables e below (T.setTop g) ((B.U.setTop { g with stack := rest }).pushFrame (.throwing q))) := by
  obtain ⟨r0, r, hn, hrm, hstR, hsigR⟩ := Cond.declares_spec hdecl
  obtain ⟨cL, kL, r1, hcL, hkL, hiL, hfoundL, hn1⟩ := Cond.interfaceMethod_spec hface
  cases hn.symm.trans hn1
  have hr0cls : r0.cls = cL := Option.some.inj ((findClass_of_methodNamed hn).symm.trans hcL)
  obtain ⟨hnameR, hdescR⟩ := name_of_methodNamed hn hrm
  obtain ⟨mk, methM, hnamed, hmethM, -, habM⟩ := Cond.instanceMethod_spec hinst
  obtain ⟨c2, r2, m2, q1, q2, q3, q4, -⟩ := Cond.selects_spec hsel
  cases hcls.symm.trans q1
  cases hfoundL.symm.trans q2
  cases hnamed.symm.trans q3
  have hselP : selectMethod e.platform s.vm cellB.cls r0 = .method mk := by rw [Launch.admits_selectMethod X.admits]; exact q4
  have hpubM : hasFlag methM.accessFlags Acc.public_ = true := Cond.publicMethod_spec hnamed hmethM hpub
  have hway : ((cellB.cls :: s.vm.superclasses cellB.cls).any fun k => (declaredIn s.vm r.name r.desc k).any fun (_, z) => z.isPrivate || z.isStatic) = false := by
    rw [hnameR, hdescR]; exact Cond.unhidden_spec hcls hunh
  obtain ⟨c3, t3, w1, w2, w3⟩ := Cond.castable_spec hcast
  cases hcls.symm.trans w1
  cases hcL.symm.trans w2
  obtain ⟨vm₁, X₁, hstep₁⟩ := X.invokeinterface hexec hown hlink hn hrm hstR (by rw [hr0cls]; exact hkL) hiL hx (a := b) (cell := cellB) (kcell := kB) hcell
    (fun z h => by rw [h] at hobj; cases hobj) hkB (by rw [hr0cls]; exact w3) hselP hmethM hway hpubM habM (g := g) hg (argsL := argsL) (rest := rest) (hlen _ hsigR) hstack hdg
  rcases hK m meth c ⟨T.setVm vm₁, locs, cells, slots⟩ { g with stack := rest } (.invokeinterface index count) mk (Value.ref b :: argsL).toArray X₁ hg hsize hdg hW (X₁.named hnamed) (hpre vm₁ X₁.warmed) with ⟨v, B, X', hpost, hsteps⟩ | ⟨q, B, X', hpost, hsteps⟩
  · exact Or.inl ⟨v, vm₁, B, X₁.warmed, X', hpost, fun target h => hstep₁ _ fun acts => by rw [doInvoke_state]; exact hsteps.trans h⟩
  · exact Or.inr ⟨q, vm₁, B, X₁.warmed, X', hpost, hstep₁ _ fun acts => by rw [doInvoke_state]; exact hsteps⟩
theorem vx_runF {x y : MethodName} {bytes cc : ByteArray} {maxL nL mc ms n index count : Nat} {ret : Option FieldType} {ws : List Cond} {rm : Room} {Pc : Array Value → State → Prop} {Qc : Array Value → State → Outcome → State → Prop} {XC : String → State → State → Prop} {free : Addr → Prop} {Ts : List Cond} {own C : String} {cC : ClassId} {b : Addr} {As rest : List Value} {g : JFrame}
    (hat : ClassAt s C cC) (S : CallFix p m c cc nL s args Ts own) (hM : vx_Met l y ws rm Pc Qc XC mc ms free) (cw : va_CI R s args own C index x y bytes maxL ret ws rm mc ms n) (hp : PreV s H C b Pc As)
    (hg : g.method = m) (hn : As.length = n) (hsize : g.locals.size = nL) (hstack : g.stack = As.reverse ++ .ref b :: rest) (hW : 2 * g.monitorRoom + (rest.map fun v => v.category).sum ≤ 8) (hdg : decode cc g.pc = .ok (.invokeinterface index count, 5)) (hf : cells + mc ≤ R.cells ∧ slots + ms ≤ R.slots) :
    vx_Run5 p l e R s m args below meth c H locs cells slots mc ms g rest (Qc (Value.ref b :: As).toArray) XC free := by
  obtain ⟨hrc, hrs, hfr, hlo, hws, hcw⟩ := cw.back
  have hini := cw.init
  have hK : vx_Back l R p e below s args y 5 8 (PreOf R mc ms Pc) (PostOf Qc mc ms free) (vx_Post XC mc ms free) := vx_back (bytes := bytes) (maxL := maxL) (ret := ret) hM hp.1 hrc hrs hfr hlo hws hcw (fun a' U hW => word_at hW (Or.inl (by first | rfl | simp [Cond.onTables, Cond.keeps, Cond.steady])) hini)
  obtain ⟨hx, hb, hml, ho, -⟩ := S
  obtain ⟨-, ⟨cellB, hcB, hoB, hclB⟩, hPc⟩ := hp
  obtain ⟨hfc, kB, hkB, -⟩ := hat
  cases hfc.symm.trans hclB
  intro T hT X
  rcases vx_callIF X hx (C := C) (bytes := bytes) (maxL := maxL) (ret := ret) ho cw.link cw.decl cw.face cw.sel cw.inst cw.pub cw.unh cw.cast cw.code cw.notMH hK (by rw [hT]; exact hcB) hoB hclB hkB hg (hsize.trans hml.symm) (argsL := As) (rest := rest) (fun sig h => hn.trans (cw.len sig h)) hstack hW (by rw [hb]; exact hdg)
    (fun vm₁ hW₁ => ⟨hf.1, hf.2, hPc (T.setVm vm₁) hT hW₁⟩) with ⟨v, vm₁, ⟨U', l2, c2, s2⟩, hW₁, X', ⟨g', mk, t, L, e1, e2, hq, h1, hL, h2, h3⟩, st⟩ | ⟨q, vm₁, ⟨U', l2, c2, s2⟩, hW₁, X', ⟨g', mk, t, L, E, ce, e1, e2, hq, hce, hcv, hcl, h1, hL, h2, h3⟩, st⟩
  · dsimp only [Pt.U, Pt.locs, Pt.cells, Pt.slots] at X' e1 e2 h1 h2 h3 st
    subst h1; subst h2; subst h3
    exact Or.inl ⟨v, (T.setVm vm₁).calling g' mk (Value.ref b :: As).toArray, t, U', L, hT, X', hL, e1, e2, hq, st⟩
  · dsimp only [Pt.U, Pt.locs, Pt.cells, Pt.slots] at X' e1 e2 h1 h2 h3 st hcl
    subst h1; subst h2; subst h3
    exact Or.inr ⟨q, (T.setVm vm₁).calling g' mk (Value.ref b :: As).toArray, t, U', L, E, ce, hT, X', hL, e1, e2, hq, hce, hcv, vx_cls hW₁ hcl, st⟩
theorem vx_callFv {S SX : Type} {post : S → Prop} {px : SX → Prop} {B : S → State → Prop} {BX : String → SX → State → Prop} {AX : Nat → Prop} (hr : vx_Run5 p l e R s m args below meth c H locs cells slots mc ms (F0 m pc ls st0) rest (va_Qv post B A1 a) (vx_X px BX AX) free) (hS : va_S A0 H0 H locs) (hA : ∀ q, q < H.size → A1 q → A0 q) (hf : ∀ q, free q → A0 q) (hAX : ∀ q, q < H.size → AX q → A0 q)
    (kx : ∀ (E : String) (ce : Cell) (q9 : Addr) (u : SX) (t : State) (H1 : Heap) (locs1 : List Loc), t.heap = H1 → s.vm.Alike t.vm → px u → BX E u t → H.size ≤ H1.size → (∀ q : Nat, q < H.size → ¬ AX q → H1[q]? = H[q]?) → va_S A0 H0 H1 locs1 → H1[q9]? = some ce → ce.vm = .none → s.vm.findClass E = some ce.cls → vx_W p l e R s m args below meth c H1 locs1 (cells + mc) (slots + ms) Q (F0 m pc ls rest) q9)
    (kk : ∀ (u : S) (t : State) (H1 : Heap) (locs1 : List Loc), t.heap = H1 → s.vm.Alike t.vm → post u → B u t → H.size ≤ H1.size → (∀ q : Nat, q < H.size → ¬ A1 q → H1[q]? = H[q]?) → va_S A0 H0 H1 locs1 → W p l e R s m args below meth c H1 locs1 (cells + mc) (slots + ms) Q (F0 m (pc + 5) ls (rest))) : W p l e R s m args below meth c H locs cells slots Q (F0 m pc ls st0) := by
  intro T hT X
  rcases hr T hT X with ⟨v, st₀, t, T', L, h0, X', hL, e1, e2, ⟨⟨u, hv, hp, hb⟩, hF⟩, st⟩ | ⟨q, st₀, t, T', L, E, ce, h0, X', hL, e1, e2, ⟨u, hp, hb, hF⟩, hce, hcv, hcl, st⟩
  · cases hv
    obtain ⟨k1, k2, k3⟩ := vx_keep h0 e1 hS hA hf hL hF
    obtain ⟨t2, a1, b1⟩ := kk u t T'.heap (locs ++ L) e1.symm (by rw [← e2]; exact X'.warmed.alike) hp hb k1 k2 k3 T' rfl X'
    exact ⟨t2, st t2 a1, b1⟩
  · obtain ⟨k1, k2, k3⟩ := vx_keep h0 e1 hS hAX hf hL hF
    obtain ⟨t2, a1, b1⟩ := kx E ce q u t T'.heap (locs ++ L) e1.symm (by rw [← e2]; exact X'.warmed.alike) hp hb k1 k2 k3 (by rw [e1]; exact hce) hcv hcl T' rfl X'
    exact ⟨t2, st.trans a1, b1⟩
theorem vx_callFi {S SX : Type} {post : Int32 → S → Prop} {px : SX → Prop} {B : S → State → Prop} {BX : String → SX → State → Prop} {AX : Nat → Prop} (hr : vx_Run5 p l e R s m args below meth c H locs cells slots mc ms (F0 m pc ls st0) rest (va_Qi post B A1 a) (vx_X px BX AX) free) (hS : va_S A0 H0 H locs) (hA : ∀ q, q < H.size → A1 q → A0 q) (hf : ∀ q, free q → A0 q) (hAX : ∀ q, q < H.size → AX q → A0 q)
    (kx : ∀ (E : String) (ce : Cell) (q9 : Addr) (u : SX) (t : State) (H1 : Heap) (locs1 : List Loc), t.heap = H1 → s.vm.Alike t.vm → px u → BX E u t → H.size ≤ H1.size → (∀ q : Nat, q < H.size → ¬ AX q → H1[q]? = H[q]?) → va_S A0 H0 H1 locs1 → H1[q9]? = some ce → ce.vm = .none → s.vm.findClass E = some ce.cls → vx_W p l e R s m args below meth c H1 locs1 (cells + mc) (slots + ms) Q (F0 m pc ls rest) q9)
    (kk : ∀ (r : Int32) (u : S) (t : State) (H1 : Heap) (locs1 : List Loc), t.heap = H1 → s.vm.Alike t.vm → post r u → B u t → H.size ≤ H1.size → (∀ q : Nat, q < H.size → ¬ A1 q → H1[q]? = H[q]?) → va_S A0 H0 H1 locs1 → W p l e R s m args below meth c H1 locs1 (cells + mc) (slots + ms) Q (F0 m (pc + 5) ls (.int r :: rest))) : W p l e R s m args below meth c H locs cells slots Q (F0 m pc ls st0) := by
  intro T hT X
  rcases hr T hT X with ⟨v, st₀, t, T', L, h0, X', hL, e1, e2, ⟨⟨r, u, hv, hp, hb⟩, hF⟩, st⟩ | ⟨q, st₀, t, T', L, E, ce, h0, X', hL, e1, e2, ⟨u, hp, hb, hF⟩, hce, hcv, hcl, st⟩
  · cases hv
    obtain ⟨k1, k2, k3⟩ := vx_keep h0 e1 hS hA hf hL hF
    obtain ⟨t2, a1, b1⟩ := kk r u t T'.heap (locs ++ L) e1.symm (by rw [← e2]; exact X'.warmed.alike) hp hb k1 k2 k3 T' rfl X'
    exact ⟨t2, st t2 a1, b1⟩
  · obtain ⟨k1, k2, k3⟩ := vx_keep h0 e1 hS hAX hf hL hF
    obtain ⟨t2, a1, b1⟩ := kx E ce q u t T'.heap (locs ++ L) e1.symm (by rw [← e2]; exact X'.warmed.alike) hp hb k1 k2 k3 (by rw [e1]; exact hce) hcv hcl T' rfl X'
    exact ⟨t2, st.trans a1, b1⟩
theorem vx_callFl {S SX : Type} {post : Int64 → S → Prop} {px : SX → Prop} {B : S → State → Prop} {BX : String → SX → State → Prop} {AX : Nat → Prop} (hr : vx_Run5 p l e R s m args below meth c H locs cells slots mc ms (F0 m pc ls st0) rest (va_Ql post B A1 a) (vx_X px BX AX) free) (hS : va_S A0 H0 H locs) (hA : ∀ q, q < H.size → A1 q → A0 q) (hf : ∀ q, free q → A0 q) (hAX : ∀ q, q < H.size → AX q → A0 q)
    (kx : ∀ (E : String) (ce : Cell) (q9 : Addr) (u : SX) (t : State) (H1 : Heap) (locs1 : List Loc), t.heap = H1 → s.vm.Alike t.vm → px u → BX E u t → H.size ≤ H1.size → (∀ q : Nat, q < H.size → ¬ AX q → H1[q]? = H[q]?) → va_S A0 H0 H1 locs1 → H1[q9]? = some ce → ce.vm = .none → s.vm.findClass E = some ce.cls → vx_W p l e R s m args below meth c H1 locs1 (cells + mc) (slots + ms) Q (F0 m pc ls rest) q9)
    (kk : ∀ (r : Int64) (u : S) (t : State) (H1 : Heap) (locs1 : List Loc), t.heap = H1 → s.vm.Alike t.vm → post r u → B u t → H.size ≤ H1.size → (∀ q : Nat, q < H.size → ¬ A1 q → H1[q]? = H[q]?) → va_S A0 H0 H1 locs1 → W p l e R s m args below meth c H1 locs1 (cells + mc) (slots + ms) Q (F0 m (pc + 5) ls (.long r :: rest))) : W p l e R s m args below meth c H locs cells slots Q (F0 m pc ls st0) := by
  intro T hT X
  rcases hr T hT X with ⟨v, st₀, t, T', L, h0, X', hL, e1, e2, ⟨⟨r, u, hv, hp, hb⟩, hF⟩, st⟩ | ⟨q, st₀, t, T', L, E, ce, h0, X', hL, e1, e2, ⟨u, hp, hb, hF⟩, hce, hcv, hcl, st⟩
  · cases hv
    obtain ⟨k1, k2, k3⟩ := vx_keep h0 e1 hS hA hf hL hF
    obtain ⟨t2, a1, b1⟩ := kk r u t T'.heap (locs ++ L) e1.symm (by rw [← e2]; exact X'.warmed.alike) hp hb k1 k2 k3 T' rfl X'
    exact ⟨t2, st t2 a1, b1⟩
  · obtain ⟨k1, k2, k3⟩ := vx_keep h0 e1 hS hAX hf hL hF
    obtain ⟨t2, a1, b1⟩ := kx E ce q u t T'.heap (locs ++ L) e1.symm (by rw [← e2]; exact X'.warmed.alike) hp hb k1 k2 k3 (by rw [e1]; exact hce) hcv hcl T' rfl X'
    exact ⟨t2, st.trans a1, b1⟩
theorem vx_callFf {S SX : Type} {post : UInt32 → S → Prop} {px : SX → Prop} {B : S → State → Prop} {BX : String → SX → State → Prop} {AX : Nat → Prop} (hr : vx_Run5 p l e R s m args below meth c H locs cells slots mc ms (F0 m pc ls st0) rest (va_Qf post B A1 a) (vx_X px BX AX) free) (hS : va_S A0 H0 H locs) (hA : ∀ q, q < H.size → A1 q → A0 q) (hf : ∀ q, free q → A0 q) (hAX : ∀ q, q < H.size → AX q → A0 q)
    (kx : ∀ (E : String) (ce : Cell) (q9 : Addr) (u : SX) (t : State) (H1 : Heap) (locs1 : List Loc), t.heap = H1 → s.vm.Alike t.vm → px u → BX E u t → H.size ≤ H1.size → (∀ q : Nat, q < H.size → ¬ AX q → H1[q]? = H[q]?) → va_S A0 H0 H1 locs1 → H1[q9]? = some ce → ce.vm = .none → s.vm.findClass E = some ce.cls → vx_W p l e R s m args below meth c H1 locs1 (cells + mc) (slots + ms) Q (F0 m pc ls rest) q9)
    (kk : ∀ (r : UInt32) (u : S) (t : State) (H1 : Heap) (locs1 : List Loc), t.heap = H1 → s.vm.Alike t.vm → post r u → B u t → H.size ≤ H1.size → (∀ q : Nat, q < H.size → ¬ A1 q → H1[q]? = H[q]?) → va_S A0 H0 H1 locs1 → W p l e R s m args below meth c H1 locs1 (cells + mc) (slots + ms) Q (F0 m (pc + 5) ls (.float r :: rest))) : W p l e R s m args below meth c H locs cells slots Q (F0 m pc ls st0) := by
  intro T hT X
  rcases hr T hT X with ⟨v, st₀, t, T', L, h0, X', hL, e1, e2, ⟨⟨r, u, hv, hp, hb⟩, hF⟩, st⟩ | ⟨q, st₀, t, T', L, E, ce, h0, X', hL, e1, e2, ⟨u, hp, hb, hF⟩, hce, hcv, hcl, st⟩
  · cases hv
    obtain ⟨k1, k2, k3⟩ := vx_keep h0 e1 hS hA hf hL hF
    obtain ⟨t2, a1, b1⟩ := kk r u t T'.heap (locs ++ L) e1.symm (by rw [← e2]; exact X'.warmed.alike) hp hb k1 k2 k3 T' rfl X'
    exact ⟨t2, st t2 a1, b1⟩
  · obtain ⟨k1, k2, k3⟩ := vx_keep h0 e1 hS hAX hf hL hF
    obtain ⟨t2, a1, b1⟩ := kx E ce q u t T'.heap (locs ++ L) e1.symm (by rw [← e2]; exact X'.warmed.alike) hp hb k1 k2 k3 (by rw [e1]; exact hce) hcv hcl T' rfl X'
    exact ⟨t2, st.trans a1, b1⟩
theorem vx_callFd {S SX : Type} {post : UInt64 → S → Prop} {px : SX → Prop} {B : S → State → Prop} {BX : String → SX → State → Prop} {AX : Nat → Prop} (hr : vx_Run5 p l e R s m args below meth c H locs cells slots mc ms (F0 m pc ls st0) rest (va_Qd post B A1 a) (vx_X px BX AX) free) (hS : va_S A0 H0 H locs) (hA : ∀ q, q < H.size → A1 q → A0 q) (hf : ∀ q, free q → A0 q) (hAX : ∀ q, q < H.size → AX q → A0 q)
    (kx : ∀ (E : String) (ce : Cell) (q9 : Addr) (u : SX) (t : State) (H1 : Heap) (locs1 : List Loc), t.heap = H1 → s.vm.Alike t.vm → px u → BX E u t → H.size ≤ H1.size → (∀ q : Nat, q < H.size → ¬ AX q → H1[q]? = H[q]?) → va_S A0 H0 H1 locs1 → H1[q9]? = some ce → ce.vm = .none → s.vm.findClass E = some ce.cls → vx_W p l e R s m args below meth c H1 locs1 (cells + mc) (slots + ms) Q (F0 m pc ls rest) q9)
    (kk : ∀ (r : UInt64) (u : S) (t : State) (H1 : Heap) (locs1 : List Loc), t.heap = H1 → s.vm.Alike t.vm → post r u → B u t → H.size ≤ H1.size → (∀ q : Nat, q < H.size → ¬ A1 q → H1[q]? = H[q]?) → va_S A0 H0 H1 locs1 → W p l e R s m args below meth c H1 locs1 (cells + mc) (slots + ms) Q (F0 m (pc + 5) ls (.double r :: rest))) : W p l e R s m args below meth c H locs cells slots Q (F0 m pc ls st0) := by
  intro T hT X
  rcases hr T hT X with ⟨v, st₀, t, T', L, h0, X', hL, e1, e2, ⟨⟨r, u, hv, hp, hb⟩, hF⟩, st⟩ | ⟨q, st₀, t, T', L, E, ce, h0, X', hL, e1, e2, ⟨u, hp, hb, hF⟩, hce, hcv, hcl, st⟩
  · cases hv
    obtain ⟨k1, k2, k3⟩ := vx_keep h0 e1 hS hA hf hL hF
    obtain ⟨t2, a1, b1⟩ := kk r u t T'.heap (locs ++ L) e1.symm (by rw [← e2]; exact X'.warmed.alike) hp hb k1 k2 k3 T' rfl X'
    exact ⟨t2, st t2 a1, b1⟩
  · obtain ⟨k1, k2, k3⟩ := vx_keep h0 e1 hS hAX hf hL hF
    obtain ⟨t2, a1, b1⟩ := kx E ce q u t T'.heap (locs ++ L) e1.symm (by rw [← e2]; exact X'.warmed.alike) hp hb k1 k2 k3 (by rw [e1]; exact hce) hcv hcl T' rfl X'
    exact ⟨t2, st.trans a1, b1⟩
end
/-! ===== END ===== -/
/-! ===== BEGIN by an interface, a method with a table of its own that may throw (follows va_callIFW, va_runFW) ===== -/
section
variable {p : Program} {l : Launch} {e : Env} {R : Room} {s : State} {m : MethodId} {args : Array Value} {below : List Frame} {meth : Method} {c : Code} {H : Heap} {locs : List Loc} {cells slots : Nat}
theorem vx_callIFW {T : State} (X : Stand p l e R s m args below meth c T locs cells slots) (hexec : p.tables.exec = Jvm.exec) {own C : String} {index count : Nat} {x y : MethodName} {bytes : ByteArray} {maxL : Nat} {ret : Option FieldType} {hh : List (Nat × Nat × Nat × Nat)}
    (hown : s.vm.findClass own = some m.cls) (hlink : (Cond.methodLink own index x).before args s = true) (hdecl : (Cond.declares x).before args s = true) (hface : (Cond.interfaceMethod x.cls x.cls x.name x.desc).before args s = true)
    (hsel : (Cond.selects C x y).before args s = true) (hinst : (Cond.instanceMethod y).before args s = true) (hpub : (Cond.publicMethod y).before args s = true) (hunh : (Cond.unhidden C x.name x.desc).before args s = true)
    (hcast : (Cond.castable C x.cls).before args s = true) (hcode : (Cond.codeWith y bytes maxL ret hh).before args s = true) (hx : x.cls ≠ "java/lang/invoke/MethodHandle" ∧ x.cls ≠ "java/lang/invoke/VarHandle")
    {W : Nat} {Pre : Pt → Array Value → Prop} {Post : Pt → Array Value → Option Value → Pt → Prop} {PostX : Pt → Array Value → Addr → Pt → Prop} (hK : vx_Back l R p e below s args y 5 W Pre Post PostX)
    {b : Addr} {cellB : Cell} {kB : Class} (hcell : T.heap[b]? = some cellB) (hobj : cellB.vm.isStatics = false) (hcls : s.vm.findClass C = some cellB.cls) (hkB : s.vm.classes[cellB.cls]? = some kB)
    {g : JFrame} (hg : g.method = m) (hsize : g.locals.size = c.maxLocals) {argsL rest : List Value} (hlen : ∀ sig, parseMethodDescriptor x.desc = some sig → argsL.length = sig.parameters.length)
    (hstack : g.stack = argsL.reverse ++ .ref b :: rest) (hW : 2 * g.monitorRoom + (rest.map fun v => v.category).sum ≤ W) (hdg : decode c.code g.pc = .ok (.invokeinterface index count, 5))
    (hpre : ∀ vm₁, s.WarmedH vm₁ → Pre ⟨T.setVm vm₁, locs, cells, slots⟩ (Value.ref b :: argsL).toArray) :
    (∃ (v : Option Value) (vm₁ : Vm) (B : Pt), s.WarmedH vm₁ ∧ Stand p l e R s m args below meth c B.U B.locs B.cells B.slots ∧ Post ⟨T.setVm vm₁, locs, cells, slots⟩ (Value.ref b :: argsL).toArray v B ∧
      ∀ target, Steps p.tables e below (B.U.setTop { g with pc := g.pc + 5, stack := v.toList ++ rest }) target → Steps p.tables e below (T.setTop g) target) ∨
    (∃ (q : Addr) (vm₁ : Vm) (B : Pt), s.WarmedH vm₁ ∧ Stand p l e R s m args below meth c B.U B.locs B.cells B.slots ∧ PostX ⟨T.setVm vm₁, locs, cells, slots⟩ (Value.ref b :: argsL).toArray q B ∧
      Steps p.tables e below (T.setTop g) ((B.U.setTop { g with stack := rest }).pushFrame (.throwing q))) := by
  obtain ⟨r0, r, hn, hrm, hstR, hsigR⟩ := Cond.declares_spec hdecl
  obtain ⟨cL, kL, r1, hcL, hkL, hiL, hfoundL, hn1⟩ := Cond.interfaceMethod_spec hface
  cases hn.symm.trans hn1
  have hr0cls : r0.cls = cL := Option.some.inj ((findClass_of_methodNamed hn).symm.trans hcL)
  obtain ⟨hnameR, hdescR⟩ := name_of_methodNamed hn hrm
  obtain ⟨mk, methM, hnamed, hmethM, -, habM⟩ := Cond.instanceMethod_spec hinst
  obtain ⟨c2, r2, m2, q1, q2, q3, q4, -⟩ := Cond.selects_spec hsel
  cases hcls.symm.trans q1
  cases hfoundL.symm.trans q2
  cases hnamed.symm.trans q3
  have hselP : selectMethod e.platform s.vm cellB.cls r0 = .method mk := by rw [Launch.admits_selectMethod X.admits]; exact q4
  have hpubM : hasFlag methM.accessFlags Acc.public_ = true := Cond.publicMethod_spec hnamed hmethM hpub
  have hway : ((cellB.cls :: s.vm.superclasses cellB.cls).any fun k => (declaredIn s.vm r.name r.desc k).any fun (_, z) => z.isPrivate || z.isStatic) = false := by
    rw [hnameR, hdescR]; exact Cond.unhidden_spec hcls hunh
  obtain ⟨c3, t3, w1, w2, w3⟩ := Cond.castable_spec hcast
  cases hcls.symm.trans w1
  cases hcL.symm.trans w2
  obtain ⟨vm₁, X₁, hstep₁⟩ := X.invokeinterface hexec hown hlink hn hrm hstR (by rw [hr0cls]; exact hkL) hiL hx (a := b) (cell := cellB) (kcell := kB) hcell
    (fun z h => by rw [h] at hobj; cases hobj) hkB (by rw [hr0cls]; exact w3) hselP hmethM hway hpubM habM (g := g) hg (argsL := argsL) (rest := rest) (hlen _ hsigR) hstack hdg
  rcases hK m meth c ⟨T.setVm vm₁, locs, cells, slots⟩ { g with stack := rest } (.invokeinterface index count) mk (Value.ref b :: argsL).toArray X₁ hg hsize hdg hW (X₁.named hnamed) (hpre vm₁ X₁.warmed) with ⟨v, B, X', hpost, hsteps⟩ | ⟨q, B, X', hpost, hsteps⟩
  · exact Or.inl ⟨v, vm₁, B, X₁.warmed, X', hpost, fun target h => hstep₁ _ fun acts => by rw [doInvoke_state]; exact hsteps.trans h⟩
  · exact Or.inr ⟨q, vm₁, B, X₁.warmed, X', hpost, hstep₁ _ fun acts => by rw [doInvoke_state]; exact hsteps⟩
theorem vx_runFW {x y : MethodName} {bytes cc : ByteArray} {maxL nL mc ms n index count : Nat} {ret : Option FieldType} {hh : List (Nat × Nat × Nat × Nat)} {ws : List Cond} {rm : Room} {Pc : Array Value → State → Prop} {Qc : Array Value → State → Outcome → State → Prop} {XC : String → State → State → Prop} {free : Addr → Prop} {Ts : List Cond} {own C : String} {cC : ClassId} {b : Addr} {As rest : List Value} {g : JFrame}
    (hat : ClassAt s C cC) (S : CallFix p m c cc nL s args Ts own) (hM : vx_Met l y ws rm Pc Qc XC mc ms free) (cw : va_CIW R s args own C index x y bytes maxL ret hh ws rm mc ms n) (hp : PreV s H C b Pc As)
    (hg : g.method = m) (hn : As.length = n) (hsize : g.locals.size = nL) (hstack : g.stack = As.reverse ++ .ref b :: rest) (hW : 2 * g.monitorRoom + (rest.map fun v => v.category).sum ≤ 8) (hdg : decode cc g.pc = .ok (.invokeinterface index count, 5)) (hf : cells + mc ≤ R.cells ∧ slots + ms ≤ R.slots) :
    vx_Run5 p l e R s m args below meth c H locs cells slots mc ms g rest (Qc (Value.ref b :: As).toArray) XC free := by
  obtain ⟨hrc, hrs, hfr, hlo, hws, hcw⟩ := cw.back
  have hini := cw.init
  have hK : vx_Back l R p e below s args y 5 8 (PreOf R mc ms Pc) (PostOf Qc mc ms free) (vx_Post XC mc ms free) := vx_backW (hh := hh) (bytes := bytes) (maxL := maxL) (ret := ret) hM hp.1 hrc hrs hfr hlo hws hcw (fun a' U hW => word_at hW (Or.inl (by first | rfl | simp [Cond.onTables, Cond.keeps, Cond.steady])) hini)
  obtain ⟨hx, hb, hml, ho, -⟩ := S
  obtain ⟨-, ⟨cellB, hcB, hoB, hclB⟩, hPc⟩ := hp
  obtain ⟨hfc, kB, hkB, -⟩ := hat
  cases hfc.symm.trans hclB
  intro T hT X
  rcases vx_callIFW X hx (C := C) (hh := hh) (bytes := bytes) (maxL := maxL) (ret := ret) ho cw.link cw.decl cw.face cw.sel cw.inst cw.pub cw.unh cw.cast cw.code cw.notMH hK (by rw [hT]; exact hcB) hoB hclB hkB hg (hsize.trans hml.symm) (argsL := As) (rest := rest) (fun sig h => hn.trans (cw.len sig h)) hstack hW (by rw [hb]; exact hdg)
    (fun vm₁ hW₁ => ⟨hf.1, hf.2, hPc (T.setVm vm₁) hT hW₁⟩) with ⟨v, vm₁, ⟨U', l2, c2, s2⟩, hW₁, X', ⟨g', mk, t, L, e1, e2, hq, h1, hL, h2, h3⟩, st⟩ | ⟨q, vm₁, ⟨U', l2, c2, s2⟩, hW₁, X', ⟨g', mk, t, L, E, ce, e1, e2, hq, hce, hcv, hcl, h1, hL, h2, h3⟩, st⟩
  · dsimp only [Pt.U, Pt.locs, Pt.cells, Pt.slots] at X' e1 e2 h1 h2 h3 st
    subst h1; subst h2; subst h3
    exact Or.inl ⟨v, (T.setVm vm₁).calling g' mk (Value.ref b :: As).toArray, t, U', L, hT, X', hL, e1, e2, hq, st⟩
  · dsimp only [Pt.U, Pt.locs, Pt.cells, Pt.slots] at X' e1 e2 h1 h2 h3 st hcl
    subst h1; subst h2; subst h3
    exact Or.inr ⟨q, (T.setVm vm₁).calling g' mk (Value.ref b :: As).toArray, t, U', L, E, ce, hT, X', hL, e1, e2, hq, hce, hcv, vx_cls hW₁ hcl, st⟩
end
/-! ===== END ===== -/
/-! ===== BEGIN .. of methods that hand back an object of the pool ===== -/
section
variable {p : Program} {l : Launch} {e : Env} {R : Room} {s : State} {m : MethodId} {args : Array Value} {below : List Frame} {meth : Method} {c : Code} {H : Heap} {locs : List Loc} {cells slots : Nat} {Q : State → Prop}
variable {mc ms : Nat} {free : Addr → Prop} {A0 A1 : Nat → Prop} {H0 : Heap} {a : Array Value} {pc : Nat} {ls : Array Slot} {st0 rest : List Value}
theorem vx_callq {S SX : Type} {post : Option Nat → S → Prop} {px : SX → Prop} {B : S → State → Prop} {BX : String → SX → State → Prop} {AX : Nat → Prop} (hr : vx_Run p l e R s m args below meth c H locs cells slots mc ms (F0 m pc ls st0) rest (va_Qq post B A1 a) (vx_X px BX AX) free) (hS : va_S A0 H0 H locs) (hA : ∀ q, q < H.size → A1 q → A0 q) (hf : ∀ q, free q → A0 q) (hAX : ∀ q, q < H.size → AX q → A0 q)
    (kx : ∀ (E : String) (ce : Cell) (q9 : Addr) (u : SX) (t : State) (H1 : Heap) (locs1 : List Loc), t.heap = H1 → s.vm.Alike t.vm → px u → BX E u t → H.size ≤ H1.size → (∀ q : Nat, q < H.size → ¬ AX q → H1[q]? = H[q]?) → va_S A0 H0 H1 locs1 → H1[q9]? = some ce → ce.vm = .none → s.vm.findClass E = some ce.cls → vx_W p l e R s m args below meth c H1 locs1 (cells + mc) (slots + ms) Q (F0 m pc ls rest) q9)
    (kk : ∀ (r : Option Nat) (u : S) (t : State) (H1 : Heap) (locs1 : List Loc), t.heap = H1 → s.vm.Alike t.vm → post r u → B u t → H.size ≤ H1.size → (∀ q : Nat, q < H.size → ¬ A1 q → H1[q]? = H[q]?) → va_S A0 H0 H1 locs1 → W p l e R s m args below meth c H1 locs1 (cells + mc) (slots + ms) Q (F0 m (pc + 3) ls (va_rf r :: rest))) : W p l e R s m args below meth c H locs cells slots Q (F0 m pc ls st0) := by
  intro T hT X
  rcases hr T hT X with ⟨v, st₀, t, T', L, h0, X', hL, e1, e2, ⟨⟨r, u, hv, hp, hb⟩, hF⟩, st⟩ | ⟨q, st₀, t, T', L, E, ce, h0, X', hL, e1, e2, ⟨u, hp, hb, hF⟩, hce, hcv, hcl, st⟩
  · cases hv
    obtain ⟨k1, k2, k3⟩ := vx_keep h0 e1 hS hA hf hL hF
    obtain ⟨t2, a1, b1⟩ := kk r u t T'.heap (locs ++ L) e1.symm (by rw [← e2]; exact X'.warmed.alike) hp hb k1 k2 k3 T' rfl X'
    exact ⟨t2, st t2 a1, b1⟩
  · obtain ⟨k1, k2, k3⟩ := vx_keep h0 e1 hS hAX hf hL hF
    obtain ⟨t2, a1, b1⟩ := kx E ce q u t T'.heap (locs ++ L) e1.symm (by rw [← e2]; exact X'.warmed.alike) hp hb k1 k2 k3 (by rw [e1]; exact hce) hcv hcl T' rfl X'
    exact ⟨t2, st.trans a1, b1⟩
end
/-! ===== END ===== -/
/-! ===== BEGIN .. a constant ===== -/
section
variable {p : Program} {l : Launch} {e : Env} {R : Room} {s : State} {m : MethodId} {args : Array Value} {below : List Frame} {meth : Method} {c : Code} {H : Heap} {locs : List Loc} {cells slots : Nat} {Q : State → Prop}
variable {mc ms : Nat} {free : Addr → Prop} {A0 A1 : Nat → Prop} {H0 : Heap} {a : Array Value} {pc : Nat} {ls : Array Slot} {st0 rest : List Value}
theorem vx_calle {ad : Nat → Nat} {S SX : Type} {post : Option Nat → S → Prop} {px : SX → Prop} {B : S → State → Prop} {BX : String → SX → State → Prop} {AX : Nat → Prop} (hr : vx_Run p l e R s m args below meth c H locs cells slots mc ms (F0 m pc ls st0) rest (va_Qe ad post B A1 a) (vx_X px BX AX) free) (hS : va_S A0 H0 H locs) (hA : ∀ q, q < H.size → A1 q → A0 q) (hf : ∀ q, free q → A0 q) (hAX : ∀ q, q < H.size → AX q → A0 q)
    (kx : ∀ (E : String) (ce : Cell) (q9 : Addr) (u : SX) (t : State) (H1 : Heap) (locs1 : List Loc), t.heap = H1 → s.vm.Alike t.vm → px u → BX E u t → H.size ≤ H1.size → (∀ q : Nat, q < H.size → ¬ AX q → H1[q]? = H[q]?) → va_S A0 H0 H1 locs1 → H1[q9]? = some ce → ce.vm = .none → s.vm.findClass E = some ce.cls → vx_W p l e R s m args below meth c H1 locs1 (cells + mc) (slots + ms) Q (F0 m pc ls rest) q9)
    (kk : ∀ (r : Option Nat) (u : S) (t : State) (H1 : Heap) (locs1 : List Loc), t.heap = H1 → s.vm.Alike t.vm → post r u → B u t → H.size ≤ H1.size → (∀ q : Nat, q < H.size → ¬ A1 q → H1[q]? = H[q]?) → va_S A0 H0 H1 locs1 → W p l e R s m args below meth c H1 locs1 (cells + mc) (slots + ms) Q (F0 m (pc + 3) ls (va_re ad r :: rest))) : W p l e R s m args below meth c H locs cells slots Q (F0 m pc ls st0) := by
  intro T hT X
  rcases hr T hT X with ⟨v, st₀, t, T', L, h0, X', hL, e1, e2, ⟨⟨r, u, hv, hp, hb⟩, hF⟩, st⟩ | ⟨q, st₀, t, T', L, E, ce, h0, X', hL, e1, e2, ⟨u, hp, hb, hF⟩, hce, hcv, hcl, st⟩
  · cases hv
    obtain ⟨k1, k2, k3⟩ := vx_keep h0 e1 hS hA hf hL hF
    obtain ⟨t2, a1, b1⟩ := kk r u t T'.heap (locs ++ L) e1.symm (by rw [← e2]; exact X'.warmed.alike) hp hb k1 k2 k3 T' rfl X'
    exact ⟨t2, st t2 a1, b1⟩
  · obtain ⟨k1, k2, k3⟩ := vx_keep h0 e1 hS hAX hf hL hF
    obtain ⟨t2, a1, b1⟩ := kx E ce q u t T'.heap (locs ++ L) e1.symm (by rw [← e2]; exact X'.warmed.alike) hp hb k1 k2 k3 (by rw [e1]; exact hce) hcv hcl T' rfl X'
    exact ⟨t2, st.trans a1, b1⟩
end
/-! ===== END ===== -/
/-! ===== BEGIN .. by an interface, an object ===== -/
section
variable {p : Program} {l : Launch} {e : Env} {R : Room} {s : State} {m : MethodId} {args : Array Value} {below : List Frame} {meth : Method} {c : Code} {H : Heap} {locs : List Loc} {cells slots : Nat} {Q : State → Prop}
variable {mc ms : Nat} {free : Addr → Prop} {A0 A1 : Nat → Prop} {H0 : Heap} {a : Array Value} {pc : Nat} {ls : Array Slot} {st0 rest : List Value}
theorem vx_callFq {S SX : Type} {post : Option Nat → S → Prop} {px : SX → Prop} {B : S → State → Prop} {BX : String → SX → State → Prop} {AX : Nat → Prop} (hr : vx_Run5 p l e R s m args below meth c H locs cells slots mc ms (F0 m pc ls st0) rest (va_Qq post B A1 a) (vx_X px BX AX) free) (hS : va_S A0 H0 H locs) (hA : ∀ q, q < H.size → A1 q → A0 q) (hf : ∀ q, free q → A0 q) (hAX : ∀ q, q < H.size → AX q → A0 q)
    (kx : ∀ (E : String) (ce : Cell) (q9 : Addr) (u : SX) (t : State) (H1 : Heap) (locs1 : List Loc), t.heap = H1 → s.vm.Alike t.vm → px u → BX E u t → H.size ≤ H1.size → (∀ q : Nat, q < H.size → ¬ AX q → H1[q]? = H[q]?) → va_S A0 H0 H1 locs1 → H1[q9]? = some ce → ce.vm = .none → s.vm.findClass E = some ce.cls → vx_W p l e R s m args below meth c H1 locs1 (cells + mc) (slots + ms) Q (F0 m pc ls rest) q9)
    (kk : ∀ (r : Option Nat) (u : S) (t : State) (H1 : Heap) (locs1 : List Loc), t.heap = H1 → s.vm.Alike t.vm → post r u → B u t → H.size ≤ H1.size → (∀ q : Nat, q < H.size → ¬ A1 q → H1[q]? = H[q]?) → va_S A0 H0 H1 locs1 → W p l e R s m args below meth c H1 locs1 (cells + mc) (slots + ms) Q (F0 m (pc + 5) ls (va_rf r :: rest))) : W p l e R s m args below meth c H locs cells slots Q (F0 m pc ls st0) := by
  intro T hT X
  rcases hr T hT X with ⟨v, st₀, t, T', L, h0, X', hL, e1, e2, ⟨⟨r, u, hv, hp, hb⟩, hF⟩, st⟩ | ⟨q, st₀, t, T', L, E, ce, h0, X', hL, e1, e2, ⟨u, hp, hb, hF⟩, hce, hcv, hcl, st⟩
  · cases hv
    obtain ⟨k1, k2, k3⟩ := vx_keep h0 e1 hS hA hf hL hF
    obtain ⟨t2, a1, b1⟩ := kk r u t T'.heap (locs ++ L) e1.symm (by rw [← e2]; exact X'.warmed.alike) hp hb k1 k2 k3 T' rfl X'
    exact ⟨t2, st t2 a1, b1⟩
  · obtain ⟨k1, k2, k3⟩ := vx_keep h0 e1 hS hAX hf hL hF
    obtain ⟨t2, a1, b1⟩ := kx E ce q u t T'.heap (locs ++ L) e1.symm (by rw [← e2]; exact X'.warmed.alike) hp hb k1 k2 k3 (by rw [e1]; exact hce) hcv hcl T' rfl X'
    exact ⟨t2, st.trans a1, b1⟩
end
/-! ===== END ===== -/
/-! ===== BEGIN .. by an interface, a constant ===== -/
section
variable {p : Program} {l : Launch} {e : Env} {R : Room} {s : State} {m : MethodId} {args : Array Value} {below : List Frame} {meth : Method} {c : Code} {H : Heap} {locs : List Loc} {cells slots : Nat} {Q : State → Prop}
variable {mc ms : Nat} {free : Addr → Prop} {A0 A1 : Nat → Prop} {H0 : Heap} {a : Array Value} {pc : Nat} {ls : Array Slot} {st0 rest : List Value}
theorem vx_callFe {ad : Nat → Nat} {S SX : Type} {post : Option Nat → S → Prop} {px : SX → Prop} {B : S → State → Prop} {BX : String → SX → State → Prop} {AX : Nat → Prop} (hr : vx_Run5 p l e R s m args below meth c H locs cells slots mc ms (F0 m pc ls st0) rest (va_Qe ad post B A1 a) (vx_X px BX AX) free) (hS : va_S A0 H0 H locs) (hA : ∀ q, q < H.size → A1 q → A0 q) (hf : ∀ q, free q → A0 q) (hAX : ∀ q, q < H.size → AX q → A0 q)
    (kx : ∀ (E : String) (ce : Cell) (q9 : Addr) (u : SX) (t : State) (H1 : Heap) (locs1 : List Loc), t.heap = H1 → s.vm.Alike t.vm → px u → BX E u t → H.size ≤ H1.size → (∀ q : Nat, q < H.size → ¬ AX q → H1[q]? = H[q]?) → va_S A0 H0 H1 locs1 → H1[q9]? = some ce → ce.vm = .none → s.vm.findClass E = some ce.cls → vx_W p l e R s m args below meth c H1 locs1 (cells + mc) (slots + ms) Q (F0 m pc ls rest) q9)
    (kk : ∀ (r : Option Nat) (u : S) (t : State) (H1 : Heap) (locs1 : List Loc), t.heap = H1 → s.vm.Alike t.vm → post r u → B u t → H.size ≤ H1.size → (∀ q : Nat, q < H.size → ¬ A1 q → H1[q]? = H[q]?) → va_S A0 H0 H1 locs1 → W p l e R s m args below meth c H1 locs1 (cells + mc) (slots + ms) Q (F0 m (pc + 5) ls (va_re ad r :: rest))) : W p l e R s m args below meth c H locs cells slots Q (F0 m pc ls st0) := by
  intro T hT X
  rcases hr T hT X with ⟨v, st₀, t, T', L, h0, X', hL, e1, e2, ⟨⟨r, u, hv, hp, hb⟩, hF⟩, st⟩ | ⟨q, st₀, t, T', L, E, ce, h0, X', hL, e1, e2, ⟨u, hp, hb, hF⟩, hce, hcv, hcl, st⟩
  · cases hv
    obtain ⟨k1, k2, k3⟩ := vx_keep h0 e1 hS hA hf hL hF
    obtain ⟨t2, a1, b1⟩ := kk r u t T'.heap (locs ++ L) e1.symm (by rw [← e2]; exact X'.warmed.alike) hp hb k1 k2 k3 T' rfl X'
    exact ⟨t2, st t2 a1, b1⟩
  · obtain ⟨k1, k2, k3⟩ := vx_keep h0 e1 hS hAX hf hL hF
    obtain ⟨t2, a1, b1⟩ := kx E ce q u t T'.heap (locs ++ L) e1.symm (by rw [← e2]; exact X'.warmed.alike) hp hb k1 k2 k3 (by rw [e1]; exact hce) hcv hcl T' rfl X'
    exact ⟨t2, st.trans a1, b1⟩
end
/-! ===== END ===== -/
/-! ===== BEGIN what the machine throws by itself: null at a field, at athrow ===== -/
section VXM2
variable {p : Program} {l : Launch} {e : Env} {R : Room} {s : State} {m : MethodId} {args : Array Value} {below : List Frame} {meth : Method} {c : Code} {H : Heap} {locs : List Loc} {cells slots : Nat}
variable {Q : State → Prop} {cc : ByteArray} {pc : Nat} {ls : Array Slot} {rest : List Value}
theorem vx_getfN {D cl tys} {own ref C : String} {T : u_T} {N ci index : Nat} {Ts : List Cond} (hexec : p.tables.exec = Jvm.exec) (hb : c.code = cc) (hts : ∀ w ∈ Ts, w.before args s = true) (hin : ∀ w ∈ u_ws C T N, w ∈ Ts) (hown : s.vm.findClass own = some m.cls) (hK : va_K D cl tys s) (hc : cl[ci]? = some (C, T, N)) (k : Nat) (hk : k < N) (hlink : (Cond.fieldLink own index ref (T k).2.1 (T k).2.2.1).before args s = true) (hsame : ∀ x, s.fieldFound? (T k).1 (T k).2.1 (T k).2.2.1 = some x → s.fieldFound? ref (T k).2.1 (T k).2.2.1 = some x) (hdg : decode cc pc = .ok (.getfield index, 3)) (kk : vx_NoteN p l e R s m args below meth c H locs cells slots Q (F0 m pc ls rest)) : W p l e R s m args below meth c H locs cells slots Q (F0 m pc ls (.null :: rest)) := by
  obtain ⟨hS, hfc, kC, hkC, -⟩ := hK.1 ci _ hc
  obtain ⟨cf, kf, fi, f, hi, -⟩ := hS k hk
  intro U hU X
  obtain ⟨vm', X1, st1⟩ := X.getfieldNull hexec hown hlink (hsame _ hi) (u_facts hfc hkC (u_lays hts hin hk) hi).1 (g := F0 m pc ls (.null :: rest)) rfl (rest := rest) rfl (by rw [hb]; exact hdg)
  obtain ⟨t, st, q⟩ := kk (U.setVm vm') hU X1
  exact ⟨t, st1 t st, q⟩
theorem vx_getfNN {D cl tys} {own ref C host : String} {T : u_T} {N ci index : Nat} {Ts : List Cond} (hexec : p.tables.exec = Jvm.exec) (hb : c.code = cc) (hts : ∀ w ∈ Ts, w.before args s = true) (hin : ∀ w ∈ u_ws C T N, w ∈ Ts) (hown : s.vm.findClass own = some m.cls) (hK : va_K D cl tys s) (hc : cl[ci]? = some (C, T, N)) (k : Nat) (hk : k < N) (hlink : (Cond.fieldLinkNest own index ref (T k).2.1 (T k).2.2.1 host).before args s = true) (hsame : ∀ x, s.fieldFound? (T k).1 (T k).2.1 (T k).2.2.1 = some x → s.fieldFound? ref (T k).2.1 (T k).2.2.1 = some x) (hdg : decode cc pc = .ok (.getfield index, 3)) (kk : vx_NoteN p l e R s m args below meth c H locs cells slots Q (F0 m pc ls rest)) : W p l e R s m args below meth c H locs cells slots Q (F0 m pc ls (.null :: rest)) := by
  obtain ⟨hS, hfc, kC, hkC, -⟩ := hK.1 ci _ hc
  obtain ⟨cf, kf, fi, f, hi, -⟩ := hS k hk
  intro U hU X
  obtain ⟨vm', X1, st1⟩ := X.getfieldNullNest hexec hown hlink (hsame _ hi) (u_facts hfc hkC (u_lays hts hin hk) hi).1 (g := F0 m pc ls (.null :: rest)) rfl (rest := rest) rfl (by rw [hb]; exact hdg)
  obtain ⟨t, st, q⟩ := kk (U.setVm vm') hU X1
  exact ⟨t, st1 t st, q⟩
theorem vx_putfN {D cl tys} {own ref C : String} {T : u_T} {N ci index : Nat} {Ts : List Cond} (hexec : p.tables.exec = Jvm.exec) (hb : c.code = cc) (hts : ∀ w ∈ Ts, w.before args s = true) (hin : ∀ w ∈ u_ws C T N, w ∈ Ts) (hown : s.vm.findClass own = some m.cls) (hK : va_K D cl tys s) (hc : cl[ci]? = some (C, T, N)) (k : Nat) (hk : k < N) (hlink : (Cond.fieldLink own index ref (T k).2.1 (T k).2.2.1).before args s = true) (hsame : ∀ x, s.fieldFound? (T k).1 (T k).2.1 (T k).2.2.1 = some x → s.fieldFound? ref (T k).2.1 (T k).2.2.1 = some x) (hfin : (T k).2.2.2 = false) {v : Value} (hdg : decode cc pc = .ok (.putfield index, 3)) (kk : vx_NoteN p l e R s m args below meth c H locs cells slots Q (F0 m pc ls rest)) : W p l e R s m args below meth c H locs cells slots Q (F0 m pc ls (v :: .null :: rest)) := by
  obtain ⟨hS, hfc, kC, hkC, -⟩ := hK.1 ci _ hc
  obtain ⟨cf, kf, fi, f, hi, -⟩ := hS k hk
  have hlay := hts _ (hin _ (u_in_lay hk))
  unfold u_lay at hlay
  rw [if_neg (by rw [hfin]; decide)] at hlay
  obtain ⟨c9, k9, cf9, kf9, fi9, f9, -, -, hi9, hst9, hnf9, -⟩ := Cond.lays_spec hlay
  cases hi.symm.trans hi9
  intro U hU X
  obtain ⟨vm', X1, st1⟩ := X.putfieldNull hexec hown hlink (hsame _ hi) hst9 hnf9 (g := F0 m pc ls (v :: .null :: rest)) rfl (v := v) (rest := rest) rfl (by rw [hb]; exact hdg)
  obtain ⟨t, st, q⟩ := kk (U.setVm vm') hU X1
  exact ⟨t, st1 t st, q⟩
theorem vx_putfNN {D cl tys} {own ref C host : String} {T : u_T} {N ci index : Nat} {Ts : List Cond} (hexec : p.tables.exec = Jvm.exec) (hb : c.code = cc) (hts : ∀ w ∈ Ts, w.before args s = true) (hin : ∀ w ∈ u_ws C T N, w ∈ Ts) (hown : s.vm.findClass own = some m.cls) (hK : va_K D cl tys s) (hc : cl[ci]? = some (C, T, N)) (k : Nat) (hk : k < N) (hlink : (Cond.fieldLinkNest own index ref (T k).2.1 (T k).2.2.1 host).before args s = true) (hsame : ∀ x, s.fieldFound? (T k).1 (T k).2.1 (T k).2.2.1 = some x → s.fieldFound? ref (T k).2.1 (T k).2.2.1 = some x) (hfin : (T k).2.2.2 = false) {v : Value} (hdg : decode cc pc = .ok (.putfield index, 3)) (kk : vx_NoteN p l e R s m args below meth c H locs cells slots Q (F0 m pc ls rest)) : W p l e R s m args below meth c H locs cells slots Q (F0 m pc ls (v :: .null :: rest)) := by
  obtain ⟨hS, hfc, kC, hkC, -⟩ := hK.1 ci _ hc
  obtain ⟨cf, kf, fi, f, hi, -⟩ := hS k hk
  have hlay := hts _ (hin _ (u_in_lay hk))
  unfold u_lay at hlay
  rw [if_neg (by rw [hfin]; decide)] at hlay
  obtain ⟨c9, k9, cf9, kf9, fi9, f9, -, -, hi9, hst9, hnf9, -⟩ := Cond.lays_spec hlay
  cases hi.symm.trans hi9
  intro U hU X
  obtain ⟨vm', X1, st1⟩ := X.putfieldNullNest hexec hown hlink (hsame _ hi) hst9 hnf9 (g := F0 m pc ls (v :: .null :: rest)) rfl (v := v) (rest := rest) rfl (by rw [hb]; exact hdg)
  obtain ⟨t, st, q⟩ := kk (U.setVm vm') hU X1
  exact ⟨t, st1 t st, q⟩
theorem vx_athrowN (hexec : p.tables.exec = Jvm.exec) (hb : c.code = cc) (hdg : decode cc pc = .ok (.athrow, 1)) (k : vx_NoteN p l e R s m args below meth c H locs cells slots Q (F0 m pc ls rest)) : W p l e R s m args below meth c H locs cells slots Q (F0 m pc ls (.null :: rest)) := by
  intro T hT X
  obtain ⟨t, st, q⟩ := k T hT X
  exact ⟨t, X.athrowNull hexec (g := F0 m pc ls (.null :: rest)) rfl (rest := rest) rfl (by rw [hb]; exact hdg) t st, q⟩
end VXM2
/-! ===== END ===== -/

/-! ===== BEGIN new T[n][m]: the outer array a place, the inner ones among the pooled ===== -/
/-- f, but v at every address of l -/
def vr_up {α : Type} (f : Nat → α) (l : List Nat) (v : α) : Nat → α := fun a => if a ∈ l then v else f a
theorem vr_up_in {α : Type} {f : Nat → α} {l : List Nat} {v : α} {a : Nat} (h : a ∈ l) : vr_up f l v a = v := if_pos h
theorem vr_up_ne {α : Type} {f : Nat → α} {l : List Nat} {v : α} {a : Nat} (h : a ∉ l) : vr_up f l v a = f a := if_neg h
theorem vr_rows {L l : List Nat} {f : Nat → va_E} {e : va_E} (h : ∀ a, a ∈ l → a ∉ L) : va_pl L f ++ l.map (fun a => (a, e)) = va_pl (L ++ l) (vr_up f l e) := by
  unfold va_pl
  rw [List.map_append]
  congr 1
  · apply List.map_congr_left
    intro a ha
    rw [vr_up_ne (fun q => h a q ha)]
  · apply List.map_congr_left
    intro a ha
    rw [vr_up_in ha]
theorem vr_lay {X rows : va_W} {x : Nat × va_E} {pl : va_W} {D : va_G} {cl : List vw_C} {H : Heap} (hP : va_P D cl (((X ++ pl) ++ [x]) ++ rows) H) : va_P D cl ((X ++ [x]) ++ (pl ++ rows)) H := by
  rw [List.append_assoc (X ++ pl)] at hP
  have h := va_P.swap hP
  rw [← List.append_assoc X] at h
  have h2 := va_P.swap h
  rw [List.append_assoc (X ++ [x])] at h2
  exact h2
theorem vr_layD {X rows : va_W} {x : Nat × va_E} {pl : va_W} {A : Nat → Prop} (hD : va_D A (((X ++ pl) ++ [x]) ++ rows)) : va_D A ((X ++ [x]) ++ (pl ++ rows)) := by
  rw [List.append_assoc (X ++ pl)] at hD
  have h := va_D.swap hD
  rw [← List.append_assoc X] at h
  have h2 := va_D.swap h
  rw [List.append_assoc (X ++ [x])] at h2
  exact h2
theorem vr_outer (c : ClassId) (N h0 : Nat) : ∀ i : Nat, Jvm.Free.Multi.outerC c N h0 i = arrV c N (fun j => va_rf (if j < i then some (h0 + 1 + j) else none))
  | 0 => by
    show ({ cls := c, slots := Array.replicate N .null, vm := .none } : Cell) = _
    rw [arrV_new]
    refine congrArg (arrV c N) (funext fun j => ?_)
    simp [va_rf]
  | i + 1 => by
    show (Jvm.Free.Multi.outerC c N h0 i).setSlot i (.ref (h0 + 1 + i)) = _
    rw [vr_outer c N h0 i, arrV_store]
    refine congrArg (arrV c N) (funext fun j => ?_)
    by_cases e : j = i
    · subst e
      simp [updV, va_rf]
    · by_cases h : j < i
      · simp [updV, e, h, Nat.lt_succ_of_lt h]
      · simp [updV, e, h, show ¬ j < i + 1 by omega]
end
section
def RX0 : String := "NotaryKiosk$Act"
def TX0 : u_T := fun k => match k with
  | 0 => ("NotaryKiosk$Piece", "number", "I", false)
  | 1 => ("NotaryKiosk$Piece", "kiosk", "I", false)
  | 2 => ("NotaryKiosk$Piece", "hour", "I", false)
  | 3 => ("NotaryKiosk$Piece", "cameTo", "I", false)
  | 4 => ("NotaryKiosk$Piece", "readAt", "I", false)
  | 5 => ("NotaryKiosk$Piece", "came", "[I", true)
  | 6 => ("NotaryKiosk$Act", "power", "LNotaryKiosk$Power;", true)
  | 7 => ("NotaryKiosk$Act", "deed", "LNotaryKiosk$Deed;", true)
  | 8 => ("NotaryKiosk$Act", "told", "[I", true)
  | 9 => ("NotaryKiosk$Act", "keptSeal", "I", false)
  | _ => ("NotaryKiosk$Act", "stood", "Z", false)
def tyX0 : Nat → FieldType := fun k => match k with
  | 0 => .int
  | 1 => .int
  | 2 => .int
  | 3 => .int
  | 4 => .int
  | 5 => .array .int
  | 6 => .object "NotaryKiosk$Power"
  | 7 => .object "NotaryKiosk$Deed"
  | 8 => .array .int
  | 9 => .int
  | _ => .boolean
abbrev wsX00 : List Cond := u_ws RX0 TX0 11
theorem nmX0 : ∀ a, a < 11 → ∀ b, b < 11 → a ≠ b → (TX0 a).2.1 ≠ (TX0 b).2.1 := by decide +kernel
theorem tyX0_ok : ∀ k, k < 11 → parseFieldDescriptor (TX0 k).2.2.1 = some (tyX0 k) := by decide +kernel
abbrev cX0_init : ByteArray := prog_2_method_1_code
def yX0_init : MethodName := ⟨RX0, "<init>", "(LNotaryKiosk$Power;LNotaryKiosk$Deed;)V"⟩
abbrev cX0_amountBy : ByteArray := prog_2_method_2_code
def yX0_amountBy : MethodName := ⟨RX0, "amountBy", "(LNotaryKiosk$Power;)I"⟩
def RX1 : String := "NotaryKiosk$Chain"
def TX1 : u_T := fun k => match k with
  | 0 => ("NotaryKiosk$Chain", "kiosk", "I", true)
  | _ => ("NotaryKiosk$Chain", "acts", "Ljava/util/ArrayList;", true)
def tyX1 : Nat → FieldType := fun k => match k with
  | 0 => .int
  | _ => .object "java/util/ArrayList"
abbrev wsX10 : List Cond := u_ws RX1 TX1 2
theorem nmX1 : ∀ a, a < 2 → ∀ b, b < 2 → a ≠ b → (TX1 a).2.1 ≠ (TX1 b).2.1 := by decide +kernel
theorem tyX1_ok : ∀ k, k < 2 → parseFieldDescriptor (TX1 k).2.2.1 = some (tyX1 k) := by decide +kernel
abbrev cX1_init : ByteArray := prog_3_method_1_code
def yX1_init : MethodName := ⟨RX1, "<init>", "(I)V"⟩
abbrev cX1_count : ByteArray := prog_3_method_2_code
def yX1_count : MethodName := ⟨RX1, "count", "()I"⟩
abbrev cX1_actOf : ByteArray := prog_3_method_3_code
def yX1_actOf : MethodName := ⟨RX1, "actOf", "(I)LNotaryKiosk$Act;"⟩
abbrev cX1_enter : ByteArray := prog_3_method_4_code
def yX1_enter : MethodName := ⟨RX1, "enter", "(LNotaryKiosk$Act;)I"⟩
abbrev cX1_sealAhead : ByteArray := prog_3_method_5_code
def yX1_sealAhead : MethodName := ⟨RX1, "sealAhead", "(I)I"⟩
abbrev cX1_sealNow : ByteArray := prog_3_method_6_code
def yX1_sealNow : MethodName := ⟨RX1, "sealNow", "(ILNotaryKiosk$Act;)I"⟩
abbrev cX1_firstBroken : ByteArray := prog_3_method_7_code
def yX1_firstBroken : MethodName := ⟨RX1, "firstBroken", "()I"⟩
abbrev cX1_countStanding : ByteArray := prog_3_method_8_code
def yX1_countStanding : MethodName := ⟨RX1, "countStanding", "()I"⟩
def RX2 : String := "NotaryKiosk$Copy"
def TX2 : u_T := fun k => match k with
  | 0 => ("NotaryKiosk$Copy", "kiosk", "I", true)
  | 1 => ("NotaryKiosk$Copy", "first", "I", true)
  | 2 => ("NotaryKiosk$Copy", "places", "I", true)
  | 3 => ("NotaryKiosk$Copy", "leftOut", "I", true)
  | 4 => ("NotaryKiosk$Copy", "told", "[[I", true)
  | 5 => ("NotaryKiosk$Copy", "keptSeals", "[I", true)
  | _ => ("NotaryKiosk$Copy", "sealAhead", "I", false)
def tyX2 : Nat → FieldType := fun k => match k with
  | 0 => .int
  | 1 => .int
  | 2 => .int
  | 3 => .int
  | 4 => .array (.array .int)
  | 5 => .array .int
  | _ => .int
abbrev wsX20 : List Cond := u_ws RX2 TX2 7
theorem nmX2 : ∀ a, a < 7 → ∀ b, b < 7 → a ≠ b → (TX2 a).2.1 ≠ (TX2 b).2.1 := by decide +kernel
theorem tyX2_ok : ∀ k, k < 7 → parseFieldDescriptor (TX2 k).2.2.1 = some (tyX2 k) := by decide +kernel
abbrev cX2_init : ByteArray := prog_4_method_1_code
def yX2_init : MethodName := ⟨RX2, "<init>", "(IIII)V"⟩
abbrev cX2_leavesOut : ByteArray := prog_4_method_2_code
def yX2_leavesOut : MethodName := ⟨RX2, "leavesOut", "(I)Z"⟩
abbrev cX2_takeFrom : ByteArray := prog_4_method_3_code
def yX2_takeFrom : MethodName := ⟨RX2, "takeFrom", "(LNotaryKiosk$Chain;)V"⟩
abbrev cX2_firstBroken : ByteArray := prog_4_method_4_code
def yX2_firstBroken : MethodName := ⟨RX2, "firstBroken", "()I"⟩
abbrev cX2_tellsAs : ByteArray := prog_4_method_5_code
def yX2_tellsAs : MethodName := ⟨RX2, "tellsAs", "(LNotaryKiosk$Chain;)Z"⟩
abbrev cX2_tellsRecordAs : ByteArray := prog_4_method_6_code
def yX2_tellsRecordAs : MethodName := ⟨RX2, "tellsRecordAs", "(ILNotaryKiosk$Act;)Z"⟩
def RX3 : String := "NotaryKiosk$Deed"
def TX3 : u_T := fun k => match k with
  | 0 => ("NotaryKiosk$Deed", "kiosk", "I", true)
  | 1 => ("NotaryKiosk$Deed", "hour", "I", true)
  | 2 => ("NotaryKiosk$Deed", "person", "I", true)
  | 3 => ("NotaryKiosk$Deed", "kind", "I", true)
  | 4 => ("NotaryKiosk$Deed", "amount", "I", true)
  | _ => ("NotaryKiosk$Deed", "officer", "I", true)
def tyX3 : Nat → FieldType := fun k => match k with
  | 0 => .int
  | 1 => .int
  | 2 => .int
  | 3 => .int
  | 4 => .int
  | _ => .int
abbrev wsX30 : List Cond := u_ws RX3 TX3 6
theorem nmX3 : ∀ a, a < 6 → ∀ b, b < 6 → a ≠ b → (TX3 a).2.1 ≠ (TX3 b).2.1 := by decide +kernel
theorem tyX3_ok : ∀ k, k < 6 → parseFieldDescriptor (TX3 k).2.2.1 = some (tyX3 k) := by decide +kernel
abbrev cX3_init : ByteArray := prog_5_method_1_code
def yX3_init : MethodName := ⟨RX3, "<init>", "(IIIIII)V"⟩
def RX4 : String := "NotaryKiosk$Deputation"
def TX4 : u_T := fun k => match k with
  | 0 => ("NotaryKiosk$Piece", "number", "I", false)
  | 1 => ("NotaryKiosk$Piece", "kiosk", "I", false)
  | 2 => ("NotaryKiosk$Piece", "hour", "I", false)
  | 3 => ("NotaryKiosk$Piece", "cameTo", "I", false)
  | 4 => ("NotaryKiosk$Piece", "readAt", "I", false)
  | 5 => ("NotaryKiosk$Piece", "came", "[I", true)
  | 6 => ("NotaryKiosk$Deputation", "deputed", "I", true)
  | 7 => ("NotaryKiosk$Deputation", "from", "I", true)
  | _ => ("NotaryKiosk$Deputation", "to", "I", true)
def tyX4 : Nat → FieldType := fun k => match k with
  | 0 => .int
  | 1 => .int
  | 2 => .int
  | 3 => .int
  | 4 => .int
  | 5 => .array .int
  | 6 => .int
  | 7 => .int
  | _ => .int
abbrev wsX40 : List Cond := u_ws RX4 TX4 9
theorem nmX4 : ∀ a, a < 9 → ∀ b, b < 9 → a ≠ b → (TX4 a).2.1 ≠ (TX4 b).2.1 := by decide +kernel
theorem tyX4_ok : ∀ k, k < 9 → parseFieldDescriptor (TX4 k).2.2.1 = some (tyX4 k) := by decide +kernel
abbrev cX4_init : ByteArray := prog_6_method_1_code
def yX4_init : MethodName := ⟨RX4, "<init>", "(III)V"⟩
abbrev cX4_isDeputation : ByteArray := prog_6_method_2_code
def yX4_isDeputation : MethodName := ⟨RX4, "isDeputation", "(III)Z"⟩
def RX5 : String := "NotaryKiosk$Draft"
def TX5 : u_T := fun k => match k with
  | 0 => ("NotaryKiosk$Draft", "scope", "I", true)
  | 1 => ("NotaryKiosk$Draft", "limit", "I", true)
  | 2 => ("NotaryKiosk$Draft", "total", "I", true)
  | 3 => ("NotaryKiosk$Draft", "hours", "I", true)
  | _ => ("NotaryKiosk$Draft", "depth", "I", true)
def tyX5 : Nat → FieldType := fun k => match k with
  | 0 => .int
  | 1 => .int
  | 2 => .int
  | 3 => .int
  | _ => .int
abbrev wsX50 : List Cond := u_ws RX5 TX5 5
theorem nmX5 : ∀ a, a < 5 → ∀ b, b < 5 → a ≠ b → (TX5 a).2.1 ≠ (TX5 b).2.1 := by decide +kernel
theorem tyX5_ok : ∀ k, k < 5 → parseFieldDescriptor (TX5 k).2.2.1 = some (tyX5 k) := by decide +kernel
abbrev cX5_init : ByteArray := prog_7_method_1_code
def yX5_init : MethodName := ⟨RX5, "<init>", "(IIIII)V"⟩
def RX6 : String := "NotaryKiosk$Links"
def TX6 : u_T := fun k => match k with
  | 0 => ("NotaryKiosk$Links", "joinedTo", "[I", true)
  | _ => ("NotaryKiosk$Links", "joinedIn", "[I", true)
def tyX6 : Nat → FieldType := fun k => match k with
  | 0 => .array .int
  | _ => .array .int
abbrev wsX60 : List Cond := u_ws RX6 TX6 2
theorem nmX6 : ∀ a, a < 2 → ∀ b, b < 2 → a ≠ b → (TX6 a).2.1 ≠ (TX6 b).2.1 := by decide +kernel
theorem tyX6_ok : ∀ k, k < 2 → parseFieldDescriptor (TX6 k).2.2.1 = some (tyX6 k) := by decide +kernel
abbrev cX6_init : ByteArray := prog_8_method_1_code
def yX6_init : MethodName := ⟨RX6, "<init>", "()V"⟩
abbrev cX6_areLinked : ByteArray := prog_8_method_2_code
def yX6_areLinked : MethodName := ⟨RX6, "areLinked", "(II)Z"⟩
abbrev cX6_degree : ByteArray := prog_8_method_3_code
def yX6_degree : MethodName := ⟨RX6, "degree", "(I)I"⟩
abbrev cX6_turn : ByteArray := prog_8_method_4_code
def yX6_turn : MethodName := ⟨RX6, "turn", "(II)V"⟩
abbrev cX6_keep : ByteArray := prog_8_method_5_code
def yX6_keep : MethodName := ⟨RX6, "keep", "(I)V"⟩
abbrev cX6_reach : ByteArray := prog_8_method_6_code
def yX6_reach : MethodName := ⟨RX6, "reach", "(II)I"⟩
def RX7 : String := "NotaryKiosk$News"
def TX7 : u_T := fun k => match k with
  | 0 => ("NotaryKiosk$News", "pieces", "Ljava/util/ArrayList;", true)
  | _ => ("NotaryKiosk$News", "seen", "[Z", true)
def tyX7 : Nat → FieldType := fun k => match k with
  | 0 => .object "java/util/ArrayList"
  | _ => .array .boolean
abbrev wsX70 : List Cond := u_ws RX7 TX7 2
theorem nmX7 : ∀ a, a < 2 → ∀ b, b < 2 → a ≠ b → (TX7 a).2.1 ≠ (TX7 b).2.1 := by decide +kernel
theorem tyX7_ok : ∀ k, k < 2 → parseFieldDescriptor (TX7 k).2.2.1 = some (tyX7 k) := by decide +kernel
abbrev cX7_init : ByteArray := prog_9_method_1_code
def yX7_init : MethodName := ⟨RX7, "<init>", "()V"⟩
abbrev cX7_count : ByteArray := prog_9_method_2_code
def yX7_count : MethodName := ⟨RX7, "count", "()I"⟩
abbrev cX7_pieceAt : ByteArray := prog_9_method_3_code
def yX7_pieceAt : MethodName := ⟨RX7, "pieceAt", "(I)LNotaryKiosk$Piece;"⟩
abbrev cX7_publish : ByteArray := prog_9_method_4_code
def yX7_publish : MethodName := ⟨RX7, "publish", "(LNotaryKiosk$Piece;II)I"⟩
abbrev cX7_spread : ByteArray := prog_9_method_5_code
def yX7_spread : MethodName := ⟨RX7, "spread", "(LNotaryKiosk$Links;I)I"⟩
abbrev cX7_unread : ByteArray := prog_9_method_6_code
def yX7_unread : MethodName := ⟨RX7, "unread", "(I)I"⟩
abbrev cX7_readMail : ByteArray := prog_9_method_7_code
def yX7_readMail : MethodName := ⟨RX7, "readMail", "(I)I"⟩
abbrev cX7_lookAtRead : ByteArray := prog_9_method_8_code
def yX7_lookAtRead : MethodName := ⟨RX7, "lookAtRead", "(I)V"⟩
abbrev cX7_lookAtReadable : ByteArray := prog_9_method_9_code
def yX7_lookAtReadable : MethodName := ⟨RX7, "lookAtReadable", "(LNotaryKiosk$Piece;)V"⟩
abbrev cX7_lookAtAll : ByteArray := prog_9_method_10_code
def yX7_lookAtAll : MethodName := ⟨RX7, "lookAtAll", "()V"⟩
abbrev cX7_sees : ByteArray := prog_9_method_11_code
def yX7_sees : MethodName := ⟨RX7, "sees", "(I)Z"⟩
abbrev cX7_knows : ByteArray := prog_9_method_12_code
def yX7_knows : MethodName := ⟨RX7, "knows", "(LNotaryKiosk$Power;)Z"⟩
abbrev cX7_revokes : ByteArray := prog_9_method_13_code
def yX7_revokes : MethodName := ⟨RX7, "revokes", "(LNotaryKiosk$Power;)Z"⟩
abbrev cX7_revokesAlone : ByteArray := prog_9_method_14_code
def yX7_revokesAlone : MethodName := ⟨RX7, "revokesAlone", "(LNotaryKiosk$Power;)Z"⟩
abbrev cX7_doneWith : ByteArray := prog_9_method_15_code
def yX7_doneWith : MethodName := ⟨RX7, "doneWith", "(LNotaryKiosk$Power;)I"⟩
abbrev cX7_wouldPassTotal : ByteArray := prog_9_method_16_code
def yX7_wouldPassTotal : MethodName := ⟨RX7, "wouldPassTotal", "(LNotaryKiosk$Power;I)Z"⟩
abbrev cX7_deputes : ByteArray := prog_9_method_17_code
def yX7_deputes : MethodName := ⟨RX7, "deputes", "(III)Z"⟩
abbrev cX7_officerAt : ByteArray := prog_9_method_18_code
def yX7_officerAt : MethodName := ⟨RX7, "officerAt", "(II)I"⟩
abbrev cX7_reasonAgainst : ByteArray := prog_9_method_19_code
def yX7_reasonAgainst : MethodName := ⟨RX7, "reasonAgainst", "(LNotaryKiosk$Power;LNotaryKiosk$Deed;)I"⟩
def RX8 : String := "NotaryKiosk$Piece"
def TX8 : u_T := fun k => match k with
  | _ => ("", "", "", false)
def tyX8 : Nat → FieldType := fun k => match k with
  | _ => .int
abbrev wsX80 : List Cond := u_ws RX8 TX8 0
theorem nmX8 : ∀ a, a < 0 → ∀ b, b < 0 → a ≠ b → (TX8 a).2.1 ≠ (TX8 b).2.1 := by decide +kernel
theorem tyX8_ok : ∀ k, k < 0 → parseFieldDescriptor (TX8 k).2.2.1 = some (tyX8 k) := by decide +kernel
abbrev cX8_init : ByteArray := prog_10_method_1_code
def yX8_init : MethodName := ⟨RX8, "<init>", "()V"⟩
abbrev cX8_comeTo : ByteArray := prog_10_method_2_code
def yX8_comeTo : MethodName := ⟨RX8, "comeTo", "(II)V"⟩
abbrev cX8_isInMail : ByteArray := prog_10_method_3_code
def yX8_isInMail : MethodName := ⟨RX8, "isInMail", "(I)Z"⟩
abbrev cX8_couldBeReadFor : ByteArray := prog_10_method_4_code
def yX8_couldBeReadFor : MethodName := ⟨RX8, "couldBeReadFor", "(LNotaryKiosk$Piece;)Z"⟩
abbrev cX8_isRevocationOf : ByteArray := prog_10_method_5_code
def yX8_isRevocationOf : MethodName := ⟨RX8, "isRevocationOf", "(LNotaryKiosk$Power;)Z"⟩
abbrev cX8_isDeputation : ByteArray := prog_10_method_6_code
def yX8_isDeputation : MethodName := ⟨RX8, "isDeputation", "(III)Z"⟩
abbrev cX8_amountBy : ByteArray := prog_10_method_7_code
def yX8_amountBy : MethodName := ⟨RX8, "amountBy", "(LNotaryKiosk$Power;)I"⟩
def RX9 : String := "NotaryKiosk$Power"
def TX9 : u_T := fun k => match k with
  | 0 => ("NotaryKiosk$Piece", "number", "I", false)
  | 1 => ("NotaryKiosk$Piece", "kiosk", "I", false)
  | 2 => ("NotaryKiosk$Piece", "hour", "I", false)
  | 3 => ("NotaryKiosk$Piece", "cameTo", "I", false)
  | 4 => ("NotaryKiosk$Piece", "readAt", "I", false)
  | 5 => ("NotaryKiosk$Piece", "came", "[I", true)
  | 6 => ("NotaryKiosk$Power", "powerNumber", "I", true)
  | 7 => ("NotaryKiosk$Power", "source", "LNotaryKiosk$Power;", true)
  | 8 => ("NotaryKiosk$Power", "giver", "I", true)
  | 9 => ("NotaryKiosk$Power", "holder", "I", true)
  | 10 => ("NotaryKiosk$Power", "scope", "I", true)
  | 11 => ("NotaryKiosk$Power", "limit", "I", true)
  | 12 => ("NotaryKiosk$Power", "total", "I", true)
  | 13 => ("NotaryKiosk$Power", "lastHour", "I", true)
  | _ => ("NotaryKiosk$Power", "depth", "I", true)
def tyX9 : Nat → FieldType := fun k => match k with
  | 0 => .int
  | 1 => .int
  | 2 => .int
  | 3 => .int
  | 4 => .int
  | 5 => .array .int
  | 6 => .int
  | 7 => .object "NotaryKiosk$Power"
  | 8 => .int
  | 9 => .int
  | 10 => .int
  | 11 => .int
  | 12 => .int
  | 13 => .int
  | _ => .int
abbrev wsX90 : List Cond := u_ws RX9 TX9 15
theorem nmX9 : ∀ a, a < 15 → ∀ b, b < 15 → a ≠ b → (TX9 a).2.1 ≠ (TX9 b).2.1 := by decide +kernel
theorem tyX9_ok : ∀ k, k < 15 → parseFieldDescriptor (TX9 k).2.2.1 = some (tyX9 k) := by decide +kernel
abbrev cX9_init : ByteArray := prog_11_method_1_code
def yX9_init : MethodName := ⟨RX9, "<init>", "(ILNotaryKiosk$Power;IILNotaryKiosk$Draft;I)V"⟩
abbrev cX9_covers : ByteArray := prog_11_method_2_code
def yX9_covers : MethodName := ⟨RX9, "covers", "(LNotaryKiosk$Draft;I)Z"⟩
abbrev cX9_hasInLine : ByteArray := prog_11_method_3_code
def yX9_hasInLine : MethodName := ⟨RX9, "hasInLine", "(LNotaryKiosk$Power;)Z"⟩
abbrev cX9_hasGiver : ByteArray := prog_11_method_4_code
def yX9_hasGiver : MethodName := ⟨RX9, "hasGiver", "(I)Z"⟩
abbrev cX9_isOver : ByteArray := prog_11_method_5_code
def yX9_isOver : MethodName := ⟨RX9, "isOver", "(I)Z"⟩
abbrev cX9_limitsBelow : ByteArray := prog_11_method_6_code
def yX9_limitsBelow : MethodName := ⟨RX9, "limitsBelow", "(I)Z"⟩
def RX10 : String := "NotaryKiosk$Revocation"
def TX10 : u_T := fun k => match k with
  | 0 => ("NotaryKiosk$Piece", "number", "I", false)
  | 1 => ("NotaryKiosk$Piece", "kiosk", "I", false)
  | 2 => ("NotaryKiosk$Piece", "hour", "I", false)
  | 3 => ("NotaryKiosk$Piece", "cameTo", "I", false)
  | 4 => ("NotaryKiosk$Piece", "readAt", "I", false)
  | 5 => ("NotaryKiosk$Piece", "came", "[I", true)
  | _ => ("NotaryKiosk$Revocation", "revoked", "LNotaryKiosk$Power;", true)
def tyX10 : Nat → FieldType := fun k => match k with
  | 0 => .int
  | 1 => .int
  | 2 => .int
  | 3 => .int
  | 4 => .int
  | 5 => .array .int
  | _ => .object "NotaryKiosk$Power"
abbrev wsX100 : List Cond := u_ws RX10 TX10 7
theorem nmX10 : ∀ a, a < 7 → ∀ b, b < 7 → a ≠ b → (TX10 a).2.1 ≠ (TX10 b).2.1 := by decide +kernel
theorem tyX10_ok : ∀ k, k < 7 → parseFieldDescriptor (TX10 k).2.2.1 = some (tyX10 k) := by decide +kernel
abbrev cX10_init : ByteArray := prog_12_method_1_code
def yX10_init : MethodName := ⟨RX10, "<init>", "(LNotaryKiosk$Power;)V"⟩
abbrev cX10_isRevocationOf : ByteArray := prog_12_method_2_code
def yX10_isRevocationOf : MethodName := ⟨RX10, "isRevocationOf", "(LNotaryKiosk$Power;)Z"⟩
def RX11 : String := "NotaryKiosk"
def TX11 : u_T := fun k => match k with
  | 0 => ("NotaryKiosk", "links", "LNotaryKiosk$Links;", true)
  | 1 => ("NotaryKiosk", "news", "LNotaryKiosk$News;", true)
  | 2 => ("NotaryKiosk", "powers", "Ljava/util/ArrayList;", true)
  | 3 => ("NotaryKiosk", "chains", "[LNotaryKiosk$Chain;", true)
  | 4 => ("NotaryKiosk", "copies", "Ljava/util/ArrayList;", true)
  | 5 => ("NotaryKiosk", "hour", "I", false)
  | 6 => ("NotaryKiosk", "draft", "LNotaryKiosk$Draft;", false)
  | 7 => ("NotaryKiosk", "officer", "I", false)
  | _ => ("NotaryKiosk", "kind", "I", false)
def tyX11 : Nat → FieldType := fun k => match k with
  | 0 => .object "NotaryKiosk$Links"
  | 1 => .object "NotaryKiosk$News"
  | 2 => .object "java/util/ArrayList"
  | 3 => .array (.object "NotaryKiosk$Chain")
  | 4 => .object "java/util/ArrayList"
  | 5 => .int
  | 6 => .object "NotaryKiosk$Draft"
  | 7 => .int
  | _ => .int
abbrev wsX110 : List Cond := u_ws RX11 TX11 9
theorem nmX11 : ∀ a, a < 9 → ∀ b, b < 9 → a ≠ b → (TX11 a).2.1 ≠ (TX11 b).2.1 := by decide +kernel
theorem tyX11_ok : ∀ k, k < 9 → parseFieldDescriptor (TX11 k).2.2.1 = some (tyX11 k) := by decide +kernel
abbrev cX11_init : ByteArray := prog_1_method_1_code
def yX11_init : MethodName := ⟨RX11, "<init>", "()V"⟩
abbrev cX11_join : ByteArray := prog_1_method_2_code
def yX11_join : MethodName := ⟨RX11, "join", "(II)I"⟩
abbrev cX11_cut : ByteArray := prog_1_method_3_code
def yX11_cut : MethodName := ⟨RX11, "cut", "(II)I"⟩
abbrev cX11_pass : ByteArray := prog_1_method_4_code
def yX11_pass : MethodName := ⟨RX11, "pass", "(I)I"⟩
abbrev cX11_read : ByteArray := prog_1_method_5_code
def yX11_read : MethodName := ⟨RX11, "read", "(I)I"⟩
abbrev cX11_draft : ByteArray := prog_1_method_6_code
def yX11_draft : MethodName := ⟨RX11, "draft", "(IIIII)V"⟩
abbrev cX11_grant : ByteArray := prog_1_method_7_code
def yX11_grant : MethodName := ⟨RX11, "grant", "(III)I"⟩
abbrev cX11_passOn : ByteArray := prog_1_method_8_code
def yX11_passOn : MethodName := ⟨RX11, "passOn", "(III)I"⟩
abbrev cX11_revoke : ByteArray := prog_1_method_9_code
def yX11_revoke : MethodName := ⟨RX11, "revoke", "(III)I"⟩
abbrev cX11_depute : ByteArray := prog_1_method_10_code
def yX11_depute : MethodName := ⟨RX11, "depute", "(III)I"⟩
abbrev cX11_prepare : ByteArray := prog_1_method_11_code
def yX11_prepare : MethodName := ⟨RX11, "prepare", "(II)V"⟩
abbrev cX11_act : ByteArray := prog_1_method_12_code
def yX11_act : MethodName := ⟨RX11, "act", "(IIII)I"⟩
abbrev cX11_tamper : ByteArray := prog_1_method_13_code
def yX11_tamper : MethodName := ⟨RX11, "tamper", "(III)I"⟩
abbrev cX11_copy : ByteArray := prog_1_method_14_code
def yX11_copy : MethodName := ⟨RX11, "copy", "(IIII)I"⟩
abbrev cX11_forge : ByteArray := prog_1_method_15_code
def yX11_forge : MethodName := ⟨RX11, "forge", "(IIII)I"⟩
abbrev cX11_hour : ByteArray := prog_1_method_16_code
def yX11_hour : MethodName := ⟨RX11, "hour", "()I"⟩
abbrev cX11_news : ByteArray := prog_1_method_17_code
def yX11_news : MethodName := ⟨RX11, "news", "()I"⟩
abbrev cX11_powers : ByteArray := prog_1_method_18_code
def yX11_powers : MethodName := ⟨RX11, "powers", "()I"⟩
abbrev cX11_records : ByteArray := prog_1_method_19_code
def yX11_records : MethodName := ⟨RX11, "records", "(I)I"⟩
abbrev cX11_areJoined : ByteArray := prog_1_method_20_code
def yX11_areJoined : MethodName := ⟨RX11, "areJoined", "(II)Z"⟩
abbrev cX11_came : ByteArray := prog_1_method_21_code
def yX11_came : MethodName := ⟨RX11, "came", "(II)I"⟩
abbrev cX11_cameByLinks : ByteArray := prog_1_method_22_code
def yX11_cameByLinks : MethodName := ⟨RX11, "cameByLinks", "(II)I"⟩
abbrev cX11_isRead : ByteArray := prog_1_method_23_code
def yX11_isRead : MethodName := ⟨RX11, "isRead", "(II)Z"⟩
abbrev cX11_mail : ByteArray := prog_1_method_24_code
def yX11_mail : MethodName := ⟨RX11, "mail", "(I)I"⟩
abbrev cX11_source : ByteArray := prog_1_method_25_code
def yX11_source : MethodName := ⟨RX11, "source", "(I)I"⟩
abbrev cX11_holder : ByteArray := prog_1_method_26_code
def yX11_holder : MethodName := ⟨RX11, "holder", "(I)I"⟩
abbrev cX11_isGood : ByteArray := prog_1_method_27_code
def yX11_isGood : MethodName := ⟨RX11, "isGood", "(II)Z"⟩
abbrev cX11_done : ByteArray := prog_1_method_28_code
def yX11_done : MethodName := ⟨RX11, "done", "(II)I"⟩
abbrev cX11_beyond : ByteArray := prog_1_method_29_code
def yX11_beyond : MethodName := ⟨RX11, "beyond", "(I)I"⟩
abbrev cX11_against : ByteArray := prog_1_method_30_code
def yX11_against : MethodName := ⟨RX11, "against", "(IIII)I"⟩
abbrev cX11_choices : ByteArray := prog_1_method_31_code
def yX11_choices : MethodName := ⟨RX11, "choices", "(III)I"⟩
abbrev cX11_stands : ByteArray := prog_1_method_32_code
def yX11_stands : MethodName := ⟨RX11, "stands", "(II)Z"⟩
abbrev cX11_fault : ByteArray := prog_1_method_33_code
def yX11_fault : MethodName := ⟨RX11, "fault", "(II)I"⟩
abbrev cX11_standing : ByteArray := prog_1_method_34_code
def yX11_standing : MethodName := ⟨RX11, "standing", "()I"⟩
abbrev cX11_pieceOf : ByteArray := prog_1_method_35_code
def yX11_pieceOf : MethodName := ⟨RX11, "pieceOf", "(II)I"⟩
abbrev cX11_part : ByteArray := prog_1_method_36_code
def yX11_part : MethodName := ⟨RX11, "part", "(III)I"⟩
abbrev cX11_seal : ByteArray := prog_1_method_37_code
def yX11_seal : MethodName := ⟨RX11, "seal", "(II)I"⟩
abbrev cX11_broken : ByteArray := prog_1_method_38_code
def yX11_broken : MethodName := ⟨RX11, "broken", "(I)I"⟩
abbrev cX11_size : ByteArray := prog_1_method_39_code
def yX11_size : MethodName := ⟨RX11, "size", "(I)I"⟩
abbrev cX11_copied : ByteArray := prog_1_method_40_code
def yX11_copied : MethodName := ⟨RX11, "copied", "(III)I"⟩
abbrev cX11_brokenCopy : ByteArray := prog_1_method_41_code
def yX11_brokenCopy : MethodName := ⟨RX11, "brokenCopy", "(I)I"⟩
abbrev cX11_isTrue : ByteArray := prog_1_method_42_code
def yX11_isTrue : MethodName := ⟨RX11, "isTrue", "(I)Z"⟩
abbrev cX11_makePower : ByteArray := prog_1_method_43_code
def yX11_makePower : MethodName := ⟨RX11, "makePower", "(ILNotaryKiosk$Power;II)I"⟩
abbrev cX11_deedNow : ByteArray := prog_1_method_44_code
def yX11_deedNow : MethodName := ⟨RX11, "deedNow", "(III)LNotaryKiosk$Deed;"⟩
abbrev cX11_isGoodAt : ByteArray := prog_1_method_45_code
def yX11_isGoodAt : MethodName := ⟨RX11, "isGoodAt", "(ILNotaryKiosk$Power;)Z"⟩
abbrev cX11_reasonByMail : ByteArray := prog_1_method_46_code
def yX11_reasonByMail : MethodName := ⟨RX11, "reasonByMail", "(LNotaryKiosk$Act;)I"⟩
abbrev cX11_mustBeKiosk : ByteArray := prog_1_method_47_code
def yX11_mustBeKiosk : MethodName := ⟨RX11, "mustBeKiosk", "(I)V"⟩
abbrev cX11_mustBeTwoKiosks : ByteArray := prog_1_method_48_code
def yX11_mustBeTwoKiosks : MethodName := ⟨RX11, "mustBeTwoKiosks", "(II)V"⟩
abbrev cX11_mustBePerson : ByteArray := prog_1_method_49_code
def yX11_mustBePerson : MethodName := ⟨RX11, "mustBePerson", "(I)V"⟩
abbrev cX11_mustBeOtherPerson : ByteArray := prog_1_method_50_code
def yX11_mustBeOtherPerson : MethodName := ⟨RX11, "mustBeOtherPerson", "(II)V"⟩
abbrev cX11_mustBePart : ByteArray := prog_1_method_51_code
def yX11_mustBePart : MethodName := ⟨RX11, "mustBePart", "(I)V"⟩
abbrev cX11_mustBeWithin : ByteArray := prog_1_method_52_code
def yX11_mustBeWithin : MethodName := ⟨RX11, "mustBeWithin", "(III)V"⟩
abbrev cX11_mustBePower : ByteArray := prog_1_method_53_code
def yX11_mustBePower : MethodName := ⟨RX11, "mustBePower", "(I)V"⟩
abbrev cX11_mustBePiece : ByteArray := prog_1_method_54_code
def yX11_mustBePiece : MethodName := ⟨RX11, "mustBePiece", "(I)V"⟩
abbrev cX11_mustBeRecord : ByteArray := prog_1_method_55_code
def yX11_mustBeRecord : MethodName := ⟨RX11, "mustBeRecord", "(II)V"⟩
abbrev cX11_mustBeCopy : ByteArray := prog_1_method_56_code
def yX11_mustBeCopy : MethodName := ⟨RX11, "mustBeCopy", "(I)V"⟩
abbrev cX11_mustBePlace : ByteArray := prog_1_method_57_code
def yX11_mustBePlace : MethodName := ⟨RX11, "mustBePlace", "(II)V"⟩
abbrev cX11_mustHaveRoomForNews : ByteArray := prog_1_method_58_code
def yX11_mustHaveRoomForNews : MethodName := ⟨RX11, "mustHaveRoomForNews", "()V"⟩
abbrev cX11_mustHaveRoomForPower : ByteArray := prog_1_method_59_code
def yX11_mustHaveRoomForPower : MethodName := ⟨RX11, "mustHaveRoomForPower", "()V"⟩
abbrev cX11_bit : ByteArray := prog_1_method_60_code
def yX11_bit : MethodName := ⟨RX11, "bit", "(I)I"⟩
abbrev cX11_hasBit : ByteArray := prog_1_method_61_code
def yX11_hasBit : MethodName := ⟨RX11, "hasBit", "(II)Z"⟩
abbrev cX11_sealOf : ByteArray := prog_1_method_62_code
def yX11_sealOf : MethodName := ⟨RX11, "sealOf", "(II)I"⟩
abbrev cX11_saltOf : ByteArray := prog_1_method_63_code
def yX11_saltOf : MethodName := ⟨RX11, "saltOf", "(III)I"⟩
abbrev cX11_markOf : ByteArray := prog_1_method_64_code
def yX11_markOf : MethodName := ⟨RX11, "markOf", "(IIII)I"⟩
abbrev cX11_sealFrom : ByteArray := prog_1_method_65_code
def yX11_sealFrom : MethodName := ⟨RX11, "sealFrom", "(III[II)I"⟩
def RX12 : String := "NotaryKioskModel"
def TX12 : u_T := fun k => match k with
  | 0 => ("NotaryKioskModel", "thrown", "I", false)
  | 1 => ("NotaryKioskModel", "hour", "I", false)
  | 2 => ("NotaryKioskModel", "joined", "[I", true)
  | 3 => ("NotaryKioskModel", "news", "I", false)
  | 4 => ("NotaryKioskModel", "kinds", "[I", true)
  | 5 => ("NotaryKioskModel", "wheres", "[I", true)
  | 6 => ("NotaryKioskModel", "hours", "[I", true)
  | 7 => ("NotaryKioskModel", "of", "[I", true)
  | 8 => ("NotaryKioskModel", "firsts", "[I", true)
  | 9 => ("NotaryKioskModel", "lasts", "[I", true)
  | 10 => ("NotaryKioskModel", "came", "[I", true)
  | 11 => ("NotaryKioskModel", "areRead", "[Z", true)
  | 12 => ("NotaryKioskModel", "powers", "I", false)
  | 13 => ("NotaryKioskModel", "pieces", "[I", true)
  | 14 => ("NotaryKioskModel", "givers", "[I", true)
  | 15 => ("NotaryKioskModel", "holders", "[I", true)
  | 16 => ("NotaryKioskModel", "sources", "[I", true)
  | 17 => ("NotaryKioskModel", "scopes", "[I", true)
  | 18 => ("NotaryKioskModel", "limits", "[I", true)
  | 19 => ("NotaryKioskModel", "totals", "[I", true)
  | 20 => ("NotaryKioskModel", "ends", "[I", true)
  | 21 => ("NotaryKioskModel", "depths", "[I", true)
  | 22 => ("NotaryKioskModel", "draftScope", "I", false)
  | 23 => ("NotaryKioskModel", "draftLimit", "I", false)
  | 24 => ("NotaryKioskModel", "draftTotal", "I", false)
  | 25 => ("NotaryKioskModel", "draftHours", "I", false)
  | 26 => ("NotaryKioskModel", "draftDepth", "I", false)
  | 27 => ("NotaryKioskModel", "officer", "I", false)
  | 28 => ("NotaryKioskModel", "kind", "I", false)
  | 29 => ("NotaryKioskModel", "acts", "I", false)
  | 30 => ("NotaryKioskModel", "records", "[I", true)
  | 31 => ("NotaryKioskModel", "actOf", "[I", true)
  | 32 => ("NotaryKioskModel", "actPieces", "[I", true)
  | 33 => ("NotaryKioskModel", "parts", "[I", true)
  | 34 => ("NotaryKioskModel", "amounts", "[I", true)
  | 35 => ("NotaryKioskModel", "seals", "[I", true)
  | 36 => ("NotaryKioskModel", "doStand", "[Z", true)
  | 37 => ("NotaryKioskModel", "copies", "I", false)
  | 38 => ("NotaryKioskModel", "copyKiosks", "[I", true)
  | 39 => ("NotaryKioskModel", "copyFirsts", "[I", true)
  | 40 => ("NotaryKioskModel", "sizes", "[I", true)
  | 41 => ("NotaryKioskModel", "leftOuts", "[I", true)
  | 42 => ("NotaryKioskModel", "sealsAhead", "[I", true)
  | 43 => ("NotaryKioskModel", "copied", "[I", true)
  | _ => ("NotaryKioskModel", "copySeals", "[I", true)
def tyX12 : Nat → FieldType := fun k => match k with
  | 0 => .int
  | 1 => .int
  | 2 => .array .int
  | 3 => .int
  | 4 => .array .int
  | 5 => .array .int
  | 6 => .array .int
  | 7 => .array .int
  | 8 => .array .int
  | 9 => .array .int
  | 10 => .array .int
  | 11 => .array .boolean
  | 12 => .int
  | 13 => .array .int
  | 14 => .array .int
  | 15 => .array .int
  | 16 => .array .int
  | 17 => .array .int
  | 18 => .array .int
  | 19 => .array .int
  | 20 => .array .int
  | 21 => .array .int
  | 22 => .int
  | 23 => .int
  | 24 => .int
  | 25 => .int
  | 26 => .int
  | 27 => .int
  | 28 => .int
  | 29 => .int
  | 30 => .array .int
  | 31 => .array .int
  | 32 => .array .int
  | 33 => .array .int
  | 34 => .array .int
  | 35 => .array .int
  | 36 => .array .boolean
  | 37 => .int
  | 38 => .array .int
  | 39 => .array .int
  | 40 => .array .int
  | 41 => .array .int
  | 42 => .array .int
  | 43 => .array .int
  | _ => .array .int
abbrev wsX120 : List Cond := u_ws RX12 TX12 45
theorem nmX12 : ∀ a, a < 45 → ∀ b, b < 45 → a ≠ b → (TX12 a).2.1 ≠ (TX12 b).2.1 := by decide +kernel
theorem tyX12_ok : ∀ k, k < 45 → parseFieldDescriptor (TX12 k).2.2.1 = some (tyX12 k) := by decide +kernel
abbrev cX12_init : ByteArray := prog_14_method_1_code
def yX12_init : MethodName := ⟨RX12, "<init>", "()V"⟩
abbrev cX12_thrown : ByteArray := prog_14_method_2_code
def yX12_thrown : MethodName := ⟨RX12, "thrown", "()I"⟩
abbrev cX12_holds : ByteArray := prog_14_method_3_code
def yX12_holds : MethodName := ⟨RX12, "holds", "(I)Z"⟩
abbrev cX12_in : ByteArray := prog_14_method_4_code
def yX12_in : MethodName := ⟨RX12, "in", "(III)Z"⟩
abbrev cX12_isKiosk : ByteArray := prog_14_method_5_code
def yX12_isKiosk : MethodName := ⟨RX12, "isKiosk", "(I)Z"⟩
abbrev cX12_isPerson : ByteArray := prog_14_method_6_code
def yX12_isPerson : MethodName := ⟨RX12, "isPerson", "(I)Z"⟩
abbrev cX12_isPower : ByteArray := prog_14_method_7_code
def yX12_isPower : MethodName := ⟨RX12, "isPower", "(I)Z"⟩
abbrev cX12_isRecord : ByteArray := prog_14_method_8_code
def yX12_isRecord : MethodName := ⟨RX12, "isRecord", "(II)Z"⟩
abbrev cX12_many : ByteArray := prog_14_method_9_code
def yX12_many : MethodName := ⟨RX12, "many", "(I)I"⟩
abbrev cX12_errorOfLink : ByteArray := prog_14_method_10_code
def yX12_errorOfLink : MethodName := ⟨RX12, "errorOfLink", "(III)I"⟩
abbrev cX12_turns : ByteArray := prog_14_method_11_code
def yX12_turns : MethodName := ⟨RX12, "turns", "(II)I"⟩
abbrev cX12_join : ByteArray := prog_14_method_12_code
def yX12_join : MethodName := ⟨RX12, "join", "(II)I"⟩
abbrev cX12_cut : ByteArray := prog_14_method_13_code
def yX12_cut : MethodName := ⟨RX12, "cut", "(II)I"⟩
abbrev cX12_goesOn : ByteArray := prog_14_method_14_code
def yX12_goesOn : MethodName := ⟨RX12, "goesOn", "(I)I"⟩
abbrev cX12_pass : ByteArray := prog_14_method_15_code
def yX12_pass : MethodName := ⟨RX12, "pass", "(I)I"⟩
abbrev cX12_unread : ByteArray := prog_14_method_16_code
def yX12_unread : MethodName := ⟨RX12, "unread", "(I)I"⟩
abbrev cX12_read : ByteArray := prog_14_method_17_code
def yX12_read : MethodName := ⟨RX12, "read", "(I)I"⟩
abbrev cX12_makes : ByteArray := prog_14_method_18_code
def yX12_makes : MethodName := ⟨RX12, "makes", "(III)I"⟩
abbrev cX12_has : ByteArray := prog_14_method_19_code
def yX12_has : MethodName := ⟨RX12, "has", "(II)Z"⟩
abbrev cX12_isInLine : ByteArray := prog_14_method_20_code
def yX12_isInLine : MethodName := ⟨RX12, "isInLine", "(II)Z"⟩
abbrev cX12_isKnown : ByteArray := prog_14_method_21_code
def yX12_isKnown : MethodName := ⟨RX12, "isKnown", "(II)Z"⟩
abbrev cX12_isRevoked : ByteArray := prog_14_method_22_code
def yX12_isRevoked : MethodName := ⟨RX12, "isRevoked", "(II)Z"⟩
abbrev cX12_isOver : ByteArray := prog_14_method_23_code
def yX12_isOver : MethodName := ⟨RX12, "isOver", "(II)Z"⟩
abbrev cX12_doneWith : ByteArray := prog_14_method_24_code
def yX12_doneWith : MethodName := ⟨RX12, "doneWith", "(II)I"⟩
abbrev cX12_isDeputy : ByteArray := prog_14_method_25_code
def yX12_isDeputy : MethodName := ⟨RX12, "isDeputy", "(III)Z"⟩
abbrev cX12_isAboveLimits : ByteArray := prog_14_method_26_code
def yX12_isAboveLimits : MethodName := ⟨RX12, "isAboveLimits", "(II)Z"⟩
abbrev cX12_isAboveTotals : ByteArray := prog_14_method_27_code
def yX12_isAboveTotals : MethodName := ⟨RX12, "isAboveTotals", "(III)Z"⟩
abbrev cX12_reason : ByteArray := prog_14_method_28_code
def yX12_reason : MethodName := ⟨RX12, "reason", "(IIIIIIII)I"⟩
abbrev cX12_reasonNow : ByteArray := prog_14_method_29_code
def yX12_reasonNow : MethodName := ⟨RX12, "reasonNow", "(IIII)I"⟩
abbrev cX12_isGoodAt : ByteArray := prog_14_method_30_code
def yX12_isGoodAt : MethodName := ⟨RX12, "isGoodAt", "(II)Z"⟩
abbrev cX12_draft : ByteArray := prog_14_method_31_code
def yX12_draft : MethodName := ⟨RX12, "draft", "(IIIII)V"⟩
abbrev cX12_isFull : ByteArray := prog_14_method_32_code
def yX12_isFull : MethodName := ⟨RX12, "isFull", "()Z"⟩
abbrev cX12_adds : ByteArray := prog_14_method_33_code
def yX12_adds : MethodName := ⟨RX12, "adds", "(IIII)I"⟩
abbrev cX12_grant : ByteArray := prog_14_method_34_code
def yX12_grant : MethodName := ⟨RX12, "grant", "(III)I"⟩
abbrev cX12_isWithin : ByteArray := prog_14_method_35_code
def yX12_isWithin : MethodName := ⟨RX12, "isWithin", "(I)Z"⟩
abbrev cX12_errorOfPassOn : ByteArray := prog_14_method_36_code
def yX12_errorOfPassOn : MethodName := ⟨RX12, "errorOfPassOn", "(III)I"⟩
abbrev cX12_passOn : ByteArray := prog_14_method_37_code
def yX12_passOn : MethodName := ⟨RX12, "passOn", "(III)I"⟩
abbrev cX12_isGiver : ByteArray := prog_14_method_38_code
def yX12_isGiver : MethodName := ⟨RX12, "isGiver", "(II)Z"⟩
abbrev cX12_errorOfRevoke : ByteArray := prog_14_method_39_code
def yX12_errorOfRevoke : MethodName := ⟨RX12, "errorOfRevoke", "(III)I"⟩
abbrev cX12_revoke : ByteArray := prog_14_method_40_code
def yX12_revoke : MethodName := ⟨RX12, "revoke", "(III)I"⟩
abbrev cX12_isDeputed : ByteArray := prog_14_method_41_code
def yX12_isDeputed : MethodName := ⟨RX12, "isDeputed", "(III)Z"⟩
abbrev cX12_errorOfDepute : ByteArray := prog_14_method_42_code
def yX12_errorOfDepute : MethodName := ⟨RX12, "errorOfDepute", "(III)I"⟩
abbrev cX12_depute : ByteArray := prog_14_method_43_code
def yX12_depute : MethodName := ⟨RX12, "depute", "(III)I"⟩
abbrev cX12_sealed : ByteArray := prog_14_method_44_code
def yX12_sealed : MethodName := ⟨RX12, "sealed", "(II)I"⟩
abbrev cX12_markOf : ByteArray := prog_14_method_45_code
def yX12_markOf : MethodName := ⟨RX12, "markOf", "(IIII)I"⟩
abbrev cX12_sealAhead : ByteArray := prog_14_method_46_code
def yX12_sealAhead : MethodName := ⟨RX12, "sealAhead", "(II)I"⟩
abbrev cX12_sealNow : ByteArray := prog_14_method_47_code
def yX12_sealNow : MethodName := ⟨RX12, "sealNow", "(II)I"⟩
abbrev cX12_prepare : ByteArray := prog_14_method_48_code
def yX12_prepare : MethodName := ⟨RX12, "prepare", "(II)V"⟩
abbrev cX12_areThere : ByteArray := prog_14_method_49_code
def yX12_areThere : MethodName := ⟨RX12, "areThere", "(III)Z"⟩
abbrev cX12_errorOfAct : ByteArray := prog_14_method_50_code
def yX12_errorOfAct : MethodName := ⟨RX12, "errorOfAct", "(IIII)I"⟩
abbrev cX12_faultOf : ByteArray := prog_14_method_51_code
def yX12_faultOf : MethodName := ⟨RX12, "faultOf", "(I)I"⟩
abbrev cX12_act : ByteArray := prog_14_method_52_code
def yX12_act : MethodName := ⟨RX12, "act", "(IIII)I"⟩
abbrev cX12_tamper : ByteArray := prog_14_method_53_code
def yX12_tamper : MethodName := ⟨RX12, "tamper", "(III)I"⟩
abbrev cX12_isLeftOut : ByteArray := prog_14_method_54_code
def yX12_isLeftOut : MethodName := ⟨RX12, "isLeftOut", "(II)Z"⟩
abbrev cX12_copies : ByteArray := prog_14_method_55_code
def yX12_copies : MethodName := ⟨RX12, "copies", "(II)V"⟩
abbrev cX12_copy : ByteArray := prog_14_method_56_code
def yX12_copy : MethodName := ⟨RX12, "copy", "(IIII)I"⟩
abbrev cX12_isCopy : ByteArray := prog_14_method_57_code
def yX12_isCopy : MethodName := ⟨RX12, "isCopy", "(I)Z"⟩
abbrev cX12_isCopied : ByteArray := prog_14_method_58_code
def yX12_isCopied : MethodName := ⟨RX12, "isCopied", "(III)Z"⟩
abbrev cX12_forge : ByteArray := prog_14_method_59_code
def yX12_forge : MethodName := ⟨RX12, "forge", "(IIII)I"⟩
abbrev cX12_hour : ByteArray := prog_14_method_60_code
def yX12_hour : MethodName := ⟨RX12, "hour", "()I"⟩
abbrev cX12_news : ByteArray := prog_14_method_61_code
def yX12_news : MethodName := ⟨RX12, "news", "()I"⟩
abbrev cX12_powers : ByteArray := prog_14_method_62_code
def yX12_powers : MethodName := ⟨RX12, "powers", "()I"⟩
abbrev cX12_records : ByteArray := prog_14_method_63_code
def yX12_records : MethodName := ⟨RX12, "records", "(I)I"⟩
abbrev cX12_areJoined : ByteArray := prog_14_method_64_code
def yX12_areJoined : MethodName := ⟨RX12, "areJoined", "(II)Z"⟩
abbrev cX12_isPiece : ByteArray := prog_14_method_65_code
def yX12_isPiece : MethodName := ⟨RX12, "isPiece", "(II)Z"⟩
abbrev cX12_came : ByteArray := prog_14_method_66_code
def yX12_came : MethodName := ⟨RX12, "came", "(II)I"⟩
abbrev cX12_cameByLinks : ByteArray := prog_14_method_67_code
def yX12_cameByLinks : MethodName := ⟨RX12, "cameByLinks", "(II)I"⟩
abbrev cX12_isRead : ByteArray := prog_14_method_68_code
def yX12_isRead : MethodName := ⟨RX12, "isRead", "(II)Z"⟩
abbrev cX12_mail : ByteArray := prog_14_method_69_code
def yX12_mail : MethodName := ⟨RX12, "mail", "(I)I"⟩
abbrev cX12_source : ByteArray := prog_14_method_70_code
def yX12_source : MethodName := ⟨RX12, "source", "(I)I"⟩
abbrev cX12_holder : ByteArray := prog_14_method_71_code
def yX12_holder : MethodName := ⟨RX12, "holder", "(I)I"⟩
abbrev cX12_isGood : ByteArray := prog_14_method_72_code
def yX12_isGood : MethodName := ⟨RX12, "isGood", "(II)Z"⟩
abbrev cX12_done : ByteArray := prog_14_method_73_code
def yX12_done : MethodName := ⟨RX12, "done", "(II)I"⟩
abbrev cX12_beyond : ByteArray := prog_14_method_74_code
def yX12_beyond : MethodName := ⟨RX12, "beyond", "(I)I"⟩
abbrev cX12_against : ByteArray := prog_14_method_75_code
def yX12_against : MethodName := ⟨RX12, "against", "(IIII)I"⟩
abbrev cX12_choices : ByteArray := prog_14_method_76_code
def yX12_choices : MethodName := ⟨RX12, "choices", "(III)I"⟩
abbrev cX12_isThere : ByteArray := prog_14_method_77_code
def yX12_isThere : MethodName := ⟨RX12, "isThere", "(II)Z"⟩
abbrev cX12_stands : ByteArray := prog_14_method_78_code
def yX12_stands : MethodName := ⟨RX12, "stands", "(II)Z"⟩
abbrev cX12_fault : ByteArray := prog_14_method_79_code
def yX12_fault : MethodName := ⟨RX12, "fault", "(II)I"⟩
abbrev cX12_standing : ByteArray := prog_14_method_80_code
def yX12_standing : MethodName := ⟨RX12, "standing", "()I"⟩
abbrev cX12_pieceOf : ByteArray := prog_14_method_81_code
def yX12_pieceOf : MethodName := ⟨RX12, "pieceOf", "(II)I"⟩
abbrev cX12_part : ByteArray := prog_14_method_82_code
def yX12_part : MethodName := ⟨RX12, "part", "(III)I"⟩
abbrev cX12_seal : ByteArray := prog_14_method_83_code
def yX12_seal : MethodName := ⟨RX12, "seal", "(II)I"⟩
abbrev cX12_broken : ByteArray := prog_14_method_84_code
def yX12_broken : MethodName := ⟨RX12, "broken", "(I)I"⟩
abbrev cX12_size : ByteArray := prog_14_method_85_code
def yX12_size : MethodName := ⟨RX12, "size", "(I)I"⟩
abbrev cX12_copied : ByteArray := prog_14_method_86_code
def yX12_copied : MethodName := ⟨RX12, "copied", "(III)I"⟩
abbrev cX12_isBroken : ByteArray := prog_14_method_87_code
def yX12_isBroken : MethodName := ⟨RX12, "isBroken", "(II)Z"⟩
abbrev cX12_brokenCopy : ByteArray := prog_14_method_88_code
def yX12_brokenCopy : MethodName := ⟨RX12, "brokenCopy", "(I)I"⟩
abbrev cX12_isTrue : ByteArray := prog_14_method_89_code
def yX12_isTrue : MethodName := ⟨RX12, "isTrue", "(I)Z"⟩
def RJx145de : String := "java/io/Serializable"
def TJx145de : u_T := fun k => match k with
  | _ => ("", "", "", false)
def tyJx145de : Nat → FieldType := fun k => match k with
  | _ => .int
abbrev wsJx145de0 : List Cond := u_ws RJx145de TJx145de 0
theorem nmJx145de : ∀ a, a < 0 → ∀ b, b < 0 → a ≠ b → (TJx145de a).2.1 ≠ (TJx145de b).2.1 := by decide +kernel
theorem tyJx145de_ok : ∀ k, k < 0 → parseFieldDescriptor (TJx145de k).2.2.1 = some (tyJx145de k) := by decide +kernel
def RJx8e188 : String := "java/lang/Cloneable"
def TJx8e188 : u_T := fun k => match k with
  | _ => ("", "", "", false)
def tyJx8e188 : Nat → FieldType := fun k => match k with
  | _ => .int
abbrev wsJx8e1880 : List Cond := u_ws RJx8e188 TJx8e188 0
theorem nmJx8e188 : ∀ a, a < 0 → ∀ b, b < 0 → a ≠ b → (TJx8e188 a).2.1 ≠ (TJx8e188 b).2.1 := by decide +kernel
theorem tyJx8e188_ok : ∀ k, k < 0 → parseFieldDescriptor (TJx8e188 k).2.2.1 = some (tyJx8e188 k) := by decide +kernel
def RJ6 : String := "java/lang/Integer"
def TJ6 : u_T := fun k => match k with
  | _ => ("", "", "", false)
def tyJ6 : Nat → FieldType := fun k => match k with
  | _ => .int
abbrev wsJ60 : List Cond := u_ws RJ6 TJ6 0
theorem nmJ6 : ∀ a, a < 0 → ∀ b, b < 0 → a ≠ b → (TJ6 a).2.1 ≠ (TJ6 b).2.1 := by decide +kernel
theorem tyJ6_ok : ∀ k, k < 0 → parseFieldDescriptor (TJ6 k).2.2.1 = some (tyJ6 k) := by decide +kernel
abbrev cJ6_bitCount_0f7a4 : ByteArray := prog_21_method_49_code
def yJ6_bitCount_0f7a4 : MethodName := ⟨RJ6, "bitCount", "(I)I"⟩
def RJxab1ab : String := "java/lang/Iterable"
def TJxab1ab : u_T := fun k => match k with
  | _ => ("", "", "", false)
def tyJxab1ab : Nat → FieldType := fun k => match k with
  | _ => .int
abbrev wsJxab1ab0 : List Cond := u_ws RJxab1ab TJxab1ab 0
theorem nmJxab1ab : ∀ a, a < 0 → ∀ b, b < 0 → a ≠ b → (TJxab1ab a).2.1 ≠ (TJxab1ab b).2.1 := by decide +kernel
theorem tyJxab1ab_ok : ∀ k, k < 0 → parseFieldDescriptor (TJxab1ab k).2.2.1 = some (tyJxab1ab k) := by decide +kernel
def RJ9 : String := "java/lang/Math"
def TJ9 : u_T := fun k => match k with
  | _ => ("", "", "", false)
def tyJ9 : Nat → FieldType := fun k => match k with
  | _ => .int
abbrev wsJ90 : List Cond := u_ws RJ9 TJ9 0
theorem nmJ9 : ∀ a, a < 0 → ∀ b, b < 0 → a ≠ b → (TJ9 a).2.1 ≠ (TJ9 b).2.1 := by decide +kernel
theorem tyJ9_ok : ∀ k, k < 0 → parseFieldDescriptor (TJ9 k).2.2.1 = some (tyJ9 k) := by decide +kernel
abbrev cJ9_max_7cf53 : ByteArray := prog_23_method_65_code
def yJ9_max_7cf53 : MethodName := ⟨RJ9, "max", "(II)I"⟩
abbrev cJ9_min_7cf53 : ByteArray := prog_23_method_69_code
def yJ9_min_7cf53 : MethodName := ⟨RJ9, "min", "(II)I"⟩
def RJ0 : String := "java/lang/String"
def TJ0 : u_T := fun k => match k with
  | _ => ("", "", "", false)
def tyJ0 : Nat → FieldType := fun k => match k with
  | _ => .int
abbrev wsJ00 : List Cond := u_ws RJ0 TJ0 0
theorem nmJ0 : ∀ a, a < 0 → ∀ b, b < 0 → a ≠ b → (TJ0 a).2.1 ≠ (TJ0 b).2.1 := by decide +kernel
theorem tyJ0_ok : ∀ k, k < 0 → parseFieldDescriptor (TJ0 k).2.2.1 = some (tyJ0 k) := by decide +kernel
def RJ10 : String := "java/lang/System"
def TJ10 : u_T := fun k => match k with
  | _ => ("", "", "", false)
def tyJ10 : Nat → FieldType := fun k => match k with
  | _ => .int
abbrev wsJ100 : List Cond := u_ws RJ10 TJ10 0
theorem nmJ10 : ∀ a, a < 0 → ∀ b, b < 0 → a ≠ b → (TJ10 a).2.1 ≠ (TJ10 b).2.1 := by decide +kernel
theorem tyJ10_ok : ∀ k, k < 0 → parseFieldDescriptor (TJ10 k).2.2.1 = some (tyJ10 k) := by decide +kernel
def RJxa1e45 : String := "java/util/AbstractCollection"
def TJxa1e45 : u_T := fun k => match k with
  | _ => ("", "", "", false)
def tyJxa1e45 : Nat → FieldType := fun k => match k with
  | _ => .int
abbrev wsJxa1e450 : List Cond := u_ws RJxa1e45 TJxa1e45 0
theorem nmJxa1e45 : ∀ a, a < 0 → ∀ b, b < 0 → a ≠ b → (TJxa1e45 a).2.1 ≠ (TJxa1e45 b).2.1 := by decide +kernel
theorem tyJxa1e45_ok : ∀ k, k < 0 → parseFieldDescriptor (TJxa1e45 k).2.2.1 = some (tyJxa1e45 k) := by decide +kernel
abbrev cJxa1e45_init_da8c8 : ByteArray := prog_28_method_1_code
def yJxa1e45_init_da8c8 : MethodName := ⟨RJxa1e45, "<init>", "()V"⟩
def RJxc12de : String := "java/util/AbstractList"
def TJxc12de : u_T := fun k => match k with
  | _ => ("", "", "", false)
def tyJxc12de : Nat → FieldType := fun k => match k with
  | _ => .int
abbrev wsJxc12de0 : List Cond := u_ws RJxc12de TJxc12de 0
theorem nmJxc12de : ∀ a, a < 0 → ∀ b, b < 0 → a ≠ b → (TJxc12de a).2.1 ≠ (TJxc12de b).2.1 := by decide +kernel
theorem tyJxc12de_ok : ∀ k, k < 0 → parseFieldDescriptor (TJxc12de k).2.2.1 = some (tyJxc12de k) := by decide +kernel
abbrev cJxc12de_init_da8c8 : ByteArray := prog_29_method_1_code
def yJxc12de_init_da8c8 : MethodName := ⟨RJxc12de, "<init>", "()V"⟩
def RJx4a65c : String := "java/util/ArrayList"
def TJx4a65c : u_T := fun k => match k with
  | 0 => ("java/util/AbstractList", "modCount", "I", false)
  | 1 => ("java/util/ArrayList", "elementData", "[Ljava/lang/Object;", false)
  | _ => ("java/util/ArrayList", "size", "I", false)
def tyJx4a65c : Nat → FieldType := fun k => match k with
  | 0 => .int
  | 1 => .array (.object "java/lang/Object")
  | _ => .int
abbrev wsJx4a65c0 : List Cond := u_ws RJx4a65c TJx4a65c 3
theorem nmJx4a65c : ∀ a, a < 3 → ∀ b, b < 3 → a ≠ b → (TJx4a65c a).2.1 ≠ (TJx4a65c b).2.1 := by decide +kernel
theorem tyJx4a65c_ok : ∀ k, k < 3 → parseFieldDescriptor (TJx4a65c k).2.2.1 = some (tyJx4a65c k) := by decide +kernel
abbrev cJx4a65c_init_da8c8 : ByteArray := prog_30_method_2_code
def yJx4a65c_init_da8c8 : MethodName := ⟨RJx4a65c, "<init>", "()V"⟩
abbrev cJx4a65c_grow_92f84 : ByteArray := prog_30_method_6_code
def yJx4a65c_grow_92f84 : MethodName := ⟨RJx4a65c, "grow", "(I)[Ljava/lang/Object;"⟩
abbrev cJx4a65c_grow_d5877 : ByteArray := prog_30_method_7_code
def yJx4a65c_grow_d5877 : MethodName := ⟨RJx4a65c, "grow", "()[Ljava/lang/Object;"⟩
abbrev cJx4a65c_size_8abf5 : ByteArray := prog_30_method_8_code
def yJx4a65c_size_8abf5 : MethodName := ⟨RJx4a65c, "size", "()I"⟩
abbrev cJx4a65c_elementData_915e3 : ByteArray := prog_30_method_18_code
def yJx4a65c_elementData_915e3 : MethodName := ⟨RJx4a65c, "elementData", "(I)Ljava/lang/Object;"⟩
abbrev cJx4a65c_get_915e3 : ByteArray := prog_30_method_20_code
def yJx4a65c_get_915e3 : MethodName := ⟨RJx4a65c, "get", "(I)Ljava/lang/Object;"⟩
abbrev cJx4a65c_add_72be8 : ByteArray := prog_30_method_24_code
def yJx4a65c_add_72be8 : MethodName := ⟨RJx4a65c, "add", "(Ljava/lang/Object;[Ljava/lang/Object;I)V"⟩
abbrev cJx4a65c_add_9ea2d : ByteArray := prog_30_method_25_code
def yJx4a65c_add_9ea2d : MethodName := ⟨RJx4a65c, "add", "(Ljava/lang/Object;)Z"⟩
def RJ7 : String := "java/util/Arrays"
def TJ7 : u_T := fun k => match k with
  | _ => ("", "", "", false)
def tyJ7 : Nat → FieldType := fun k => match k with
  | _ => .int
abbrev wsJ70 : List Cond := u_ws RJ7 TJ7 0
theorem nmJ7 : ∀ a, a < 0 → ∀ b, b < 0 → a ≠ b → (TJ7 a).2.1 ≠ (TJ7 b).2.1 := by decide +kernel
theorem tyJ7_ok : ∀ k, k < 0 → parseFieldDescriptor (TJ7 k).2.2.1 = some (tyJ7 k) := by decide +kernel
abbrev cJ7_fill_53178 : ByteArray := prog_31_method_103_code
def yJ7_fill_53178 : MethodName := ⟨RJ7, "fill", "([II)V"⟩
abbrev cJ7_copyOf_1904c : ByteArray := prog_31_method_119_code
def yJ7_copyOf_1904c : MethodName := ⟨RJ7, "copyOf", "([Ljava/lang/Object;I)[Ljava/lang/Object;"⟩
abbrev cJ7_copyOf_6403c : ByteArray := prog_31_method_120_code
def yJ7_copyOf_6403c : MethodName := ⟨RJ7, "copyOf", "([Ljava/lang/Object;ILjava/lang/Class;)[Ljava/lang/Object;"⟩
def RJx5ef63 : String := "java/util/Collection"
def TJx5ef63 : u_T := fun k => match k with
  | _ => ("", "", "", false)
def tyJx5ef63 : Nat → FieldType := fun k => match k with
  | _ => .int
abbrev wsJx5ef630 : List Cond := u_ws RJx5ef63 TJx5ef63 0
theorem nmJx5ef63 : ∀ a, a < 0 → ∀ b, b < 0 → a ≠ b → (TJx5ef63 a).2.1 ≠ (TJx5ef63 b).2.1 := by decide +kernel
theorem tyJx5ef63_ok : ∀ k, k < 0 → parseFieldDescriptor (TJx5ef63 k).2.2.1 = some (tyJx5ef63 k) := by decide +kernel
def RJxbd725 : String := "java/util/List"
def TJxbd725 : u_T := fun k => match k with
  | _ => ("", "", "", false)
def tyJxbd725 : Nat → FieldType := fun k => match k with
  | _ => .int
abbrev wsJxbd7250 : List Cond := u_ws RJxbd725 TJxbd725 0
theorem nmJxbd725 : ∀ a, a < 0 → ∀ b, b < 0 → a ≠ b → (TJxbd725 a).2.1 ≠ (TJxbd725 b).2.1 := by decide +kernel
theorem tyJxbd725_ok : ∀ k, k < 0 → parseFieldDescriptor (TJxbd725 k).2.2.1 = some (tyJxbd725 k) := by decide +kernel
def RJ15 : String := "java/util/Objects"
def TJ15 : u_T := fun k => match k with
  | _ => ("", "", "", false)
def tyJ15 : Nat → FieldType := fun k => match k with
  | _ => .int
abbrev wsJ150 : List Cond := u_ws RJ15 TJ15 0
theorem nmJ15 : ∀ a, a < 0 → ∀ b, b < 0 → a ≠ b → (TJ15 a).2.1 ≠ (TJ15 b).2.1 := by decide +kernel
theorem tyJ15_ok : ∀ k, k < 0 → parseFieldDescriptor (TJ15 k).2.2.1 = some (tyJ15 k) := by decide +kernel
abbrev cJ15_checkIndex_7cf53 : ByteArray := prog_34_method_17_code
def yJ15_checkIndex_7cf53 : MethodName := ⟨RJ15, "checkIndex", "(II)I"⟩
def RJxf0a74 : String := "java/util/RandomAccess"
def TJxf0a74 : u_T := fun k => match k with
  | _ => ("", "", "", false)
def tyJxf0a74 : Nat → FieldType := fun k => match k with
  | _ => .int
abbrev wsJxf0a740 : List Cond := u_ws RJxf0a74 TJxf0a74 0
theorem nmJxf0a74 : ∀ a, a < 0 → ∀ b, b < 0 → a ≠ b → (TJxf0a74 a).2.1 ≠ (TJxf0a74 b).2.1 := by decide +kernel
theorem tyJxf0a74_ok : ∀ k, k < 0 → parseFieldDescriptor (TJxf0a74 k).2.2.1 = some (tyJxf0a74 k) := by decide +kernel
def RJxa66e6 : String := "java/util/SequencedCollection"
def TJxa66e6 : u_T := fun k => match k with
  | _ => ("", "", "", false)
def tyJxa66e6 : Nat → FieldType := fun k => match k with
  | _ => .int
abbrev wsJxa66e60 : List Cond := u_ws RJxa66e6 TJxa66e6 0
theorem nmJxa66e6 : ∀ a, a < 0 → ∀ b, b < 0 → a ≠ b → (TJxa66e6 a).2.1 ≠ (TJxa66e6 b).2.1 := by decide +kernel
theorem tyJxa66e6_ok : ∀ k, k < 0 → parseFieldDescriptor (TJxa66e6 k).2.2.1 = some (tyJxa66e6 k) := by decide +kernel
def RJ8 : String := "jdk/internal/util/ArraysSupport"
def TJ8 : u_T := fun k => match k with
  | _ => ("", "", "", false)
def tyJ8 : Nat → FieldType := fun k => match k with
  | _ => .int
abbrev wsJ80 : List Cond := u_ws RJ8 TJ8 0
theorem nmJ8 : ∀ a, a < 0 → ∀ b, b < 0 → a ≠ b → (TJ8 a).2.1 ≠ (TJ8 b).2.1 := by decide +kernel
theorem tyJ8_ok : ∀ k, k < 0 → parseFieldDescriptor (TJ8 k).2.2.1 = some (tyJ8 k) := by decide +kernel
abbrev cJ8_newLength_cabcc : ByteArray := prog_37_method_27_code
def yJ8_newLength_cabcc : MethodName := ⟨RJ8, "newLength", "(III)I"⟩
abbrev cJ8_hugeLength_7cf53 : ByteArray := prog_37_method_28_code
def yJ8_hugeLength_7cf53 : MethodName := ⟨RJ8, "hugeLength", "(II)I"⟩
def RJ3 : String := "jdk/internal/util/Preconditions"
def TJ3 : u_T := fun k => match k with
  | _ => ("", "", "", false)
def tyJ3 : Nat → FieldType := fun k => match k with
  | _ => .int
abbrev wsJ30 : List Cond := u_ws RJ3 TJ3 0
theorem nmJ3 : ∀ a, a < 0 → ∀ b, b < 0 → a ≠ b → (TJ3 a).2.1 ≠ (TJ3 b).2.1 := by decide +kernel
theorem tyJ3_ok : ∀ k, k < 0 → parseFieldDescriptor (TJ3 k).2.2.1 = some (tyJ3 k) := by decide +kernel
abbrev cJ3_checkIndex_8e157 : ByteArray := prog_38_method_11_code
def yJ3_checkIndex_8e157 : MethodName := ⟨RJ3, "checkIndex", "(IILjava/util/function/BiFunction;)I"⟩
def RL : String := "NotaryKioskLaw"
abbrev cL_join : ByteArray := method_3_code
def yL_join : MethodName := ⟨RL, "join", "(LNotaryKiosk;II[J)I"⟩
abbrev cL_cut : ByteArray := method_4_code
def yL_cut : MethodName := ⟨RL, "cut", "(LNotaryKiosk;II[J)I"⟩
abbrev cL_pass : ByteArray := method_5_code
def yL_pass : MethodName := ⟨RL, "pass", "(LNotaryKiosk;I[J)I"⟩
abbrev cL_read : ByteArray := method_6_code
def yL_read : MethodName := ⟨RL, "read", "(LNotaryKiosk;I[J)I"⟩
abbrev cL_draft : ByteArray := method_7_code
def yL_draft : MethodName := ⟨RL, "draft", "(LNotaryKiosk;IIIII)I"⟩
abbrev cL_grant : ByteArray := method_8_code
def yL_grant : MethodName := ⟨RL, "grant", "(LNotaryKiosk;III[J)I"⟩
abbrev cL_passOn : ByteArray := method_9_code
def yL_passOn : MethodName := ⟨RL, "passOn", "(LNotaryKiosk;III[J)I"⟩
abbrev cL_revoke : ByteArray := method_10_code
def yL_revoke : MethodName := ⟨RL, "revoke", "(LNotaryKiosk;III[J)I"⟩
abbrev cL_depute : ByteArray := method_11_code
def yL_depute : MethodName := ⟨RL, "depute", "(LNotaryKiosk;III[J)I"⟩
abbrev cL_prepare : ByteArray := method_12_code
def yL_prepare : MethodName := ⟨RL, "prepare", "(LNotaryKiosk;II)I"⟩
abbrev cL_act : ByteArray := method_13_code
def yL_act : MethodName := ⟨RL, "act", "(LNotaryKiosk;IIII[J)I"⟩
abbrev cL_tamper : ByteArray := method_14_code
def yL_tamper : MethodName := ⟨RL, "tamper", "(LNotaryKiosk;III[J)I"⟩
abbrev cL_copy : ByteArray := method_15_code
def yL_copy : MethodName := ⟨RL, "copy", "(LNotaryKiosk;IIII[J)I"⟩
abbrev cL_forge : ByteArray := method_16_code
def yL_forge : MethodName := ⟨RL, "forge", "(LNotaryKiosk;IIII[J)I"⟩
abbrev cL_records : ByteArray := method_17_code
def yL_records : MethodName := ⟨RL, "records", "(LNotaryKiosk;I[J)I"⟩
abbrev cL_areJoined : ByteArray := method_18_code
def yL_areJoined : MethodName := ⟨RL, "areJoined", "(LNotaryKiosk;II[J)I"⟩
abbrev cL_came : ByteArray := method_19_code
def yL_came : MethodName := ⟨RL, "came", "(LNotaryKiosk;II[J)I"⟩
abbrev cL_cameByLinks : ByteArray := method_20_code
def yL_cameByLinks : MethodName := ⟨RL, "cameByLinks", "(LNotaryKiosk;II[J)I"⟩
abbrev cL_isRead : ByteArray := method_21_code
def yL_isRead : MethodName := ⟨RL, "isRead", "(LNotaryKiosk;II[J)I"⟩
abbrev cL_mail : ByteArray := method_22_code
def yL_mail : MethodName := ⟨RL, "mail", "(LNotaryKiosk;I[J)I"⟩
abbrev cL_source : ByteArray := method_23_code
def yL_source : MethodName := ⟨RL, "source", "(LNotaryKiosk;I[J)I"⟩
abbrev cL_holder : ByteArray := method_24_code
def yL_holder : MethodName := ⟨RL, "holder", "(LNotaryKiosk;I[J)I"⟩
abbrev cL_isGood : ByteArray := method_25_code
def yL_isGood : MethodName := ⟨RL, "isGood", "(LNotaryKiosk;II[J)I"⟩
abbrev cL_done : ByteArray := method_26_code
def yL_done : MethodName := ⟨RL, "done", "(LNotaryKiosk;II[J)I"⟩
abbrev cL_beyond : ByteArray := method_27_code
def yL_beyond : MethodName := ⟨RL, "beyond", "(LNotaryKiosk;I[J)I"⟩
abbrev cL_against : ByteArray := method_28_code
def yL_against : MethodName := ⟨RL, "against", "(LNotaryKiosk;IIII[J)I"⟩
abbrev cL_choices : ByteArray := method_29_code
def yL_choices : MethodName := ⟨RL, "choices", "(LNotaryKiosk;III[J)I"⟩
abbrev cL_stands : ByteArray := method_30_code
def yL_stands : MethodName := ⟨RL, "stands", "(LNotaryKiosk;II[J)I"⟩
abbrev cL_fault : ByteArray := method_31_code
def yL_fault : MethodName := ⟨RL, "fault", "(LNotaryKiosk;II[J)I"⟩
abbrev cL_pieceOf : ByteArray := method_32_code
def yL_pieceOf : MethodName := ⟨RL, "pieceOf", "(LNotaryKiosk;II[J)I"⟩
abbrev cL_part : ByteArray := method_33_code
def yL_part : MethodName := ⟨RL, "part", "(LNotaryKiosk;III[J)I"⟩
abbrev cL_seal : ByteArray := method_34_code
def yL_seal : MethodName := ⟨RL, "seal", "(LNotaryKiosk;II[J)I"⟩
abbrev cL_broken : ByteArray := method_35_code
def yL_broken : MethodName := ⟨RL, "broken", "(LNotaryKiosk;I[J)I"⟩
abbrev cL_size : ByteArray := method_36_code
def yL_size : MethodName := ⟨RL, "size", "(LNotaryKiosk;I[J)I"⟩
abbrev cL_copied : ByteArray := method_37_code
def yL_copied : MethodName := ⟨RL, "copied", "(LNotaryKiosk;III[J)I"⟩
abbrev cL_brokenCopy : ByteArray := method_38_code
def yL_brokenCopy : MethodName := ⟨RL, "brokenCopy", "(LNotaryKiosk;I[J)I"⟩
abbrev cL_isTrue : ByteArray := method_39_code
def yL_isTrue : MethodName := ⟨RL, "isTrue", "(LNotaryKiosk;I[J)I"⟩
abbrev cL_law : ByteArray := code
def yL_law : MethodName := ⟨RL, "law", "([I)Z"⟩
end
section
/-! ===== an abstract machine for these classes: its heap (kind, ints, references, length of each address; how many cells, slots), and how it lies in the machine's heap ===== -/
abbrev nk_H : Type := (Nat → Nat) × (Nat → Nat → Int32) × (Nat → Nat → Option Nat) × (Nat → Nat) × Nat × Nat × Nat × Nat
def nk_K (h : nk_H) : Nat → Nat := h.1
def nk_I (h : nk_H) : Nat → Nat → Int32 := h.2.1
def nk_P (h : nk_H) : Nat → Nat → Option Nat := h.2.2.1
def nk_L (h : nk_H) : Nat → Nat := h.2.2.2.1
def nk_N (h : nk_H) : Nat := h.2.2.2.2.1
def nk_S (h : nk_H) : Nat := h.2.2.2.2.2.1
/-- the address of the lists' empty row; of the class object of Object[] -/
def nk_E (h : nk_H) : Nat := h.2.2.2.2.2.2.1
def nk_M (h : nk_H) : Nat := h.2.2.2.2.2.2.2
def nk_u2 {α : Type} (f : Nat → Nat → α) (a k : Nat) (v : α) : Nat → Nat → α := fun x y => if x = a ∧ y = k then v else f x y
def nk_u1 {α : Type} (f : Nat → α) (a : Nat) (v : α) : Nat → α := fun x => if x = a then v else f x
/-- a store of an int, of a reference -/
def nk_sI (h : nk_H) (a k : Nat) (v : Int32) : nk_H := (h.1, nk_u2 h.2.1 a k v, h.2.2)
def nk_sP (h : nk_H) (a k : Nat) (v : Option Nat) : nk_H := (h.1, h.2.1, nk_u2 h.2.2.1 a k v, h.2.2.2)
/-- a new cell of kind c, length n, of w slots -/
def nk_al (h : nk_H) (c n w : Nat) : nk_H := (nk_u1 (nk_K h) (nk_N h) c, nk_u1 (nk_I h) (nk_N h) (fun _ => 0), nk_u1 (nk_P h) (nk_N h) (fun _ => none), nk_u1 (nk_L h) (nk_N h) n, nk_N h + 1, nk_S h + w, nk_E h, nk_M h)
theorem nk_E_sI (h : nk_H) (a k : Nat) (v : Int32) : nk_E (nk_sI h a k v) = nk_E h := rfl
theorem nk_M_sI (h : nk_H) (a k : Nat) (v : Int32) : nk_M (nk_sI h a k v) = nk_M h := rfl
theorem nk_K_sI (h : nk_H) (a k : Nat) (v : Int32) : nk_K (nk_sI h a k v) = nk_K h := rfl
theorem nk_I_sI (h : nk_H) (a k : Nat) (v : Int32) : nk_I (nk_sI h a k v) = nk_u2 (nk_I h) a k v := rfl
theorem nk_P_sI (h : nk_H) (a k : Nat) (v : Int32) : nk_P (nk_sI h a k v) = nk_P h := rfl
theorem nk_L_sI (h : nk_H) (a k : Nat) (v : Int32) : nk_L (nk_sI h a k v) = nk_L h := rfl
theorem nk_N_sI (h : nk_H) (a k : Nat) (v : Int32) : nk_N (nk_sI h a k v) = nk_N h := rfl
theorem nk_S_sI (h : nk_H) (a k : Nat) (v : Int32) : nk_S (nk_sI h a k v) = nk_S h := rfl
theorem nk_E_sP (h : nk_H) (a k : Nat) (v : Option Nat) : nk_E (nk_sP h a k v) = nk_E h := rfl
theorem nk_M_sP (h : nk_H) (a k : Nat) (v : Option Nat) : nk_M (nk_sP h a k v) = nk_M h := rfl
theorem nk_K_sP (h : nk_H) (a k : Nat) (v : Option Nat) : nk_K (nk_sP h a k v) = nk_K h := rfl
theorem nk_I_sP (h : nk_H) (a k : Nat) (v : Option Nat) : nk_I (nk_sP h a k v) = nk_I h := rfl
theorem nk_P_sP (h : nk_H) (a k : Nat) (v : Option Nat) : nk_P (nk_sP h a k v) = nk_u2 (nk_P h) a k v := rfl
theorem nk_L_sP (h : nk_H) (a k : Nat) (v : Option Nat) : nk_L (nk_sP h a k v) = nk_L h := rfl
theorem nk_N_sP (h : nk_H) (a k : Nat) (v : Option Nat) : nk_N (nk_sP h a k v) = nk_N h := rfl
theorem nk_S_sP (h : nk_H) (a k : Nat) (v : Option Nat) : nk_S (nk_sP h a k v) = nk_S h := rfl
theorem nk_E_al (h : nk_H) (c n w : Nat) : nk_E (nk_al h c n w) = nk_E h := rfl
theorem nk_M_al (h : nk_H) (c n w : Nat) : nk_M (nk_al h c n w) = nk_M h := rfl
theorem nk_K_al (h : nk_H) (c n w : Nat) : nk_K (nk_al h c n w) = nk_u1 (nk_K h) (nk_N h) c := rfl
theorem nk_I_al (h : nk_H) (c n w : Nat) : nk_I (nk_al h c n w) = nk_u1 (nk_I h) (nk_N h) (fun _ => 0) := rfl
theorem nk_P_al (h : nk_H) (c n w : Nat) : nk_P (nk_al h c n w) = nk_u1 (nk_P h) (nk_N h) (fun _ => none) := rfl
theorem nk_L_al (h : nk_H) (c n w : Nat) : nk_L (nk_al h c n w) = nk_u1 (nk_L h) (nk_N h) n := rfl
theorem nk_N_al (h : nk_H) (c n w : Nat) : nk_N (nk_al h c n w) = nk_N h + 1 := rfl
theorem nk_S_al (h : nk_H) (c n w : Nat) : nk_S (nk_al h c n w) = nk_S h + w := rfl
theorem nk_u2_eq {α : Type} (f : Nat → Nat → α) (a k : Nat) (v : α) : nk_u2 f a k v a k = v := by simp [nk_u2]
theorem nk_u2_ne {α : Type} (f : Nat → Nat → α) (a k : Nat) (v : α) {x : Nat} (y : Nat) (h : x ≠ a) : nk_u2 f a k v x y = f x y := by simp [nk_u2, h]
theorem nk_u2_nk {α : Type} (f : Nat → Nat → α) (a k : Nat) (v : α) (x : Nat) {y : Nat} (h : y ≠ k) : nk_u2 f a k v x y = f x y := by simp [nk_u2, h]
theorem nk_u1_eq {α : Type} (f : Nat → α) (a : Nat) (v : α) : nk_u1 f a v a = v := by simp [nk_u1]
theorem nk_u1_ne {α : Type} (f : Nat → α) (a : Nat) (v : α) {x : Nat} (h : x ≠ a) : nk_u1 f a v x = f x := by simp [nk_u1, h]
/-- the classes of the objects, by their places: kind = place + 7 -/
abbrev nk_cl : List vw_C := [(RJx4a65c, TJx4a65c, 3), (RX0, TX0, 11), (RX1, TX1, 2), (RX2, TX2, 7), (RX3, TX3, 6), (RX4, TX4, 9), (RX5, TX5, 5), (RX6, TX6, 2), (RX7, TX7, 2), (RX9, TX9, 15), (RX10, TX10, 7), (RX11, TX11, 9), (RX12, TX12, 45)]
/-- which fields are references -/
def nk_rfl : List (List Nat) := [[1], [5, 6, 7, 8], [1], [4, 5], [], [5], [], [0, 1], [0, 1], [5, 7], [5, 6], [0, 1, 2, 3, 4, 6], [2, 4, 5, 6, 7, 8, 9, 10, 11, 13, 14, 15, 16, 17, 18, 19, 20, 21, 30, 31, 32, 33, 34, 35, 36, 38, 39, 40, 41, 42, 43, 44]]
def nk_rf (ci k : Nat) : Bool := (nk_rfl.getD ci []).contains k
def nk_fv (h : nk_H) (ci a k : Nat) : Value := if nk_rf ci k = true then va_rf (nk_P h a k) else .int (nk_I h a k)
/-- arrays: kinds 1 to 6 -/
def nk_el (h : nk_H) (c a j : Nat) : Value := if c ≤ 2 then .int (nk_I h a j) else if c ≤ 5 then va_rf (nk_P h a j) else .long (nk_I h a j).toInt64
def nk_ty (c : Nat) : FieldType := match c with
  | 1 => .int
  | 2 => .boolean
  | 3 => .object "NotaryKiosk$Chain"
  | 4 => .object "java/lang/Object"
  | 5 => .array .int
  | _ => .long
/-- what is fixed: the numbers of the classes and of their fields, of the arrays' classes; the heap of the law's start; the empty row of lists; the script's address, length and ints -/
abbrev nk_G : Type := va_G × (Nat → ClassId) × Heap × Nat × Nat × Nat × (Nat → Int32) × Nat
def nk_gD (G : nk_G) : va_G := G.1
def nk_gA (G : nk_G) : Nat → ClassId := G.2.1
def nk_gH (G : nk_G) : Heap := G.2.2.1
def nk_gE (G : nk_G) : Nat := G.2.2.2.1
def nk_gB (G : nk_G) : Nat := G.2.2.2.2.1
def nk_gL (G : nk_G) : Nat := G.2.2.2.2.2.1
def nk_gX (G : nk_G) : Nat → Int32 := G.2.2.2.2.2.2.1
def nk_gM (G : nk_G) : Nat := G.2.2.2.2.2.2.2
def nk_okA (G : nk_G) (h : nk_H) (H : Heap) : Prop := ∀ a : Nat, 1 ≤ nk_K h a → nk_K h a ≤ 6 → (nk_gH G).size ≤ a ∧ a < nk_N h ∧ H[a]? = some (arrV (nk_gA G (nk_K h a)) (nk_L h a) (nk_el h (nk_K h a) a))
def nk_okO (G : nk_G) (h : nk_H) (H : Heap) : Prop := ∀ (a ci : Nat) (q : vw_C), nk_K h a = ci + 7 → nk_cl[ci]? = some q → (nk_gH G).size ≤ a ∧ a < nk_N h ∧ t_OB a ((nk_gD G).1 ci) q.2.2 ((nk_gD G).2 ci) H (nk_fv h ci a)
def nk_okE (G : nk_G) (h : nk_H) : Prop := (∀ a : Nat, nk_K h a = 20 → a = nk_gE G) ∧ nk_E h = nk_gE G ∧ nk_M h = nk_gM G
def nk_R (G : nk_G) (h : nk_H) (H : Heap) : Prop := H.size = nk_N h ∧ (nk_gH G).size ≤ nk_N h ∧ (∀ a : Nat, a < (nk_gH G).size → H[a]? = (nk_gH G)[a]?) ∧ nk_okA G h H ∧ nk_okO G h H ∧ nk_okE G h
theorem nk_fv_other {h h1 : nk_H} {a : Nat} (ci : Nat) (hI : ∀ j, nk_I h1 a j = nk_I h a j) (hP : ∀ j, nk_P h1 a j = nk_P h a j) : nk_fv h1 ci a = nk_fv h ci a := by
  funext j; unfold nk_fv; rw [hI, hP]
theorem nk_el_other {h h1 : nk_H} {a : Nat} (c : Nat) (hI : ∀ j, nk_I h1 a j = nk_I h a j) (hP : ∀ j, nk_P h1 a j = nk_P h a j) : nk_el h1 c a = nk_el h c a := by
  funext j; unfold nk_el; rw [hI, hP]
/-- one cell of old kind has changed -/
theorem nk_R1 {G : nk_G} {h h1 : nk_H} {H H1 : Heap} {a : Nat} (hR : nk_R G h H) (hE : nk_E h1 = nk_E h ∧ nk_M h1 = nk_M h) (hK : nk_K h1 = nk_K h) (hL : nk_L h1 = nk_L h) (hN : nk_N h1 = nk_N h) (hI : ∀ x j, x ≠ a → nk_I h1 x j = nk_I h x j) (hP : ∀ x j, x ≠ a → nk_P h1 x j = nk_P h x j)
    (z : H1.size = H.size) (o : ∀ x : Nat, x ≠ a → H1[x]? = H[x]?) (ha : (nk_gH G).size ≤ a)
    (cA : 1 ≤ nk_K h a → nk_K h a ≤ 6 → H1[a]? = some (arrV (nk_gA G (nk_K h a)) (nk_L h a) (nk_el h1 (nk_K h a) a)))
    (cO : ∀ (ci : Nat) (q : vw_C), nk_K h a = ci + 7 → nk_cl[ci]? = some q → t_OB a ((nk_gD G).1 ci) q.2.2 ((nk_gD G).2 ci) H1 (nk_fv h1 ci a)) : nk_R G h1 H1 := by
  obtain ⟨r1, r2, r3, r4, r5, r6⟩ := hR
  refine ⟨by rw [z, hN]; exact r1, by rw [hN]; exact r2, fun x hx => by rw [o x (fun e => by omega)]; exact r3 x hx, fun x h1' h2' => ?_, fun x ci q h1' h2' => ?_, ⟨fun x hx => r6.1 x (by rw [← hK]; exact hx), by rw [hE.1]; exact r6.2.1, by rw [hE.2]; exact r6.2.2⟩⟩
  · rw [hK] at h1' h2' ⊢
    obtain ⟨q1, q2, q3⟩ := r4 x h1' h2'
    refine ⟨q1, by rw [hN]; exact q2, ?_⟩
    by_cases e : x = a
    · subst e
      rw [hL]
      exact cA h1' h2'
    · rw [hL, o x e, nk_el_other _ (fun j => hI x j e) (fun j => hP x j e)]
      exact q3
  · rw [hK] at h1'
    obtain ⟨q1, q2, q3⟩ := r5 x ci q h1' h2'
    refine ⟨q1, by rw [hN]; exact q2, ?_⟩
    by_cases e : x = a
    · subst e
      exact cO ci q h1' h2'
    · rw [nk_fv_other _ (fun j => hI x j e) (fun j => hP x j e)]
      exact q3.kept (o x e)
/-- one new cell -/
theorem nk_R_al {G : nk_G} {h : nk_H} {H H1 : Heap} {c n w : Nat} (hR : nk_R G h H) (z : H1.size = H.size + 1) (o : ∀ x : Nat, x < H.size → H1[x]? = H[x]?) (hc : c ≠ 20)
    (cA : 1 ≤ c → c ≤ 6 → H1[nk_N h]? = some (arrV (nk_gA G c) n (nk_el (nk_al h c n w) c (nk_N h))))
    (cO : ∀ (ci : Nat) (q : vw_C), c = ci + 7 → nk_cl[ci]? = some q → t_OB (nk_N h) ((nk_gD G).1 ci) q.2.2 ((nk_gD G).2 ci) H1 (nk_fv (nk_al h c n w) ci (nk_N h))) : nk_R G (nk_al h c n w) H1 := by
  obtain ⟨r1, r2, r3, r4, r5, r6⟩ := hR
  have other : ∀ x : Nat, x ≠ nk_N h → nk_K (nk_al h c n w) x = nk_K h x := fun x e => by rw [nk_K_al, nk_u1_ne _ _ _ e]
  have hIo : ∀ x j, x ≠ nk_N h → nk_I (nk_al h c n w) x j = nk_I h x j := fun x j e => by rw [nk_I_al, nk_u1_ne _ _ _ e]
  have hPo : ∀ x j, x ≠ nk_N h → nk_P (nk_al h c n w) x j = nk_P h x j := fun x j e => by rw [nk_P_al, nk_u1_ne _ _ _ e]
  have hLo : ∀ x, x ≠ nk_N h → nk_L (nk_al h c n w) x = nk_L h x := fun x e => by rw [nk_L_al, nk_u1_ne _ _ _ e]
  have hKs : nk_K (nk_al h c n w) (nk_N h) = c := by rw [nk_K_al, nk_u1_eq]
  have hLs : nk_L (nk_al h c n w) (nk_N h) = n := by rw [nk_L_al, nk_u1_eq]
  have hNs : nk_N (nk_al h c n w) = nk_N h + 1 := rfl
  refine ⟨by rw [z, r1]; rfl, by rw [hNs]; omega, fun x hx => by rw [o x (by omega)]; exact r3 x hx, fun x h1' h2' => ?_, fun x ci q h1' h2' => ?_, ⟨fun x hx => ?_, r6.2.1, r6.2.2⟩⟩
  · by_cases e : x = nk_N h
    · subst e
      rw [hKs] at h1' h2' ⊢
      refine ⟨r2, by rw [hNs]; omega, ?_⟩
      rw [hLs]
      exact cA h1' h2'
    · rw [other x e] at h1' h2' ⊢
      obtain ⟨q1, q2, q3⟩ := r4 x h1' h2'
      refine ⟨q1, by rw [hNs]; omega, ?_⟩
      rw [hLo x e, o x (by omega), nk_el_other _ (fun j => hIo x j e) (fun j => hPo x j e)]
      exact q3
  · by_cases e : x = nk_N h
    · subst e
      rw [hKs] at h1'
      exact ⟨r2, by rw [hNs]; omega, cO ci q h1' h2'⟩
    · rw [other x e] at h1'
      obtain ⟨q1, q2, q3⟩ := r5 x ci q h1' h2'
      refine ⟨q1, by rw [hNs]; omega, ?_⟩
      rw [nk_fv_other _ (fun j => hIo x j e) (fun j => hPo x j e)]
      exact q3.kept (o x (by omega))
  · by_cases e : x = nk_N h
    · subst e
      rw [hKs] at hx
      exact absurd hx hc
    · rw [other x e] at hx
      exact r6.1 x hx
/-- behind the stores -/
theorem nk_R_sI {G : nk_G} {h : nk_H} {H H1 : Heap} {a ci k : Nat} {v : Int32} {q : vw_C} (hR : nk_R G h H) (hk : nk_K h a = ci + 7) (hq : nk_cl[ci]? = some q) (hf : nk_rf ci k = false) (z : H1.size = H.size) (o : ∀ x : Nat, x ≠ a → H1[x]? = H[x]?)
    (hB : t_OB a ((nk_gD G).1 ci) q.2.2 ((nk_gD G).2 ci) H1 (updV (nk_fv h ci a) k (.int v))) : nk_R G (nk_sI h a k v) H1 := by
  refine nk_R1 (a := a) hR ⟨rfl, rfl⟩ rfl rfl rfl (fun x j e => nk_u2_ne _ _ _ _ j e) (fun _ _ _ => rfl) z o (hR.2.2.2.2.1 a ci q hk hq).1 (fun _ h2 => by omega) (fun ci' q' h1 h2 => ?_)
  have e : ci' = ci := by omega
  subst e
  cases hq.symm.trans h2
  refine hB.to (fun j _ => ?_)
  unfold updV nk_fv
  by_cases ej : j = k
  · subst ej
    rw [if_pos rfl, if_neg (by rw [hf]; decide), nk_I_sI, nk_u2_eq]
  · rw [if_neg ej, nk_I_sI, nk_u2_nk _ _ _ _ _ ej]; rfl
theorem nk_R_sP {G : nk_G} {h : nk_H} {H H1 : Heap} {a ci k : Nat} {v : Option Nat} {q : vw_C} (hR : nk_R G h H) (hk : nk_K h a = ci + 7) (hq : nk_cl[ci]? = some q) (hf : nk_rf ci k = true) (z : H1.size = H.size) (o : ∀ x : Nat, x ≠ a → H1[x]? = H[x]?)
    (hB : t_OB a ((nk_gD G).1 ci) q.2.2 ((nk_gD G).2 ci) H1 (updV (nk_fv h ci a) k (va_rf v))) : nk_R G (nk_sP h a k v) H1 := by
  refine nk_R1 (a := a) hR ⟨rfl, rfl⟩ rfl rfl rfl (fun _ _ _ => rfl) (fun x j e => nk_u2_ne _ _ _ _ j e) z o (hR.2.2.2.2.1 a ci q hk hq).1 (fun _ h2 => by omega) (fun ci' q' h1 h2 => ?_)
  have e : ci' = ci := by omega
  subst e
  cases hq.symm.trans h2
  refine hB.to (fun j _ => ?_)
  unfold updV nk_fv
  by_cases ej : j = k
  · subst ej
    rw [if_pos rfl, if_pos hf, nk_P_sP, nk_u2_eq]
  · rw [if_neg ej, nk_P_sP, nk_u2_nk _ _ _ _ _ ej]; rfl
theorem nk_R_aI {G : nk_G} {h : nk_H} {H H1 : Heap} {a j : Nat} {v : Int32} {u : Value} (hR : nk_R G h H) (h1 : 1 ≤ nk_K h a) (h2 : nk_K h a ≤ 6) (hu : (nk_K h a ≤ 2 ∧ u = .int v) ∨ (nk_K h a = 6 ∧ u = .long v.toInt64)) (z : H1.size = H.size) (o : ∀ x : Nat, x ≠ a → H1[x]? = H[x]?)
    (hB : H1[a]? = some (arrV (nk_gA G (nk_K h a)) (nk_L h a) (updV (nk_el h (nk_K h a) a) j u))) : nk_R G (nk_sI h a j v) H1 := by
  refine nk_R1 (a := a) hR ⟨rfl, rfl⟩ rfl rfl rfl (fun x j e => nk_u2_ne _ _ _ _ j e) (fun _ _ _ => rfl) z o (hR.2.2.2.1 a h1 h2).1 (fun _ _ => ?_) (fun ci' q' h1' _ => by omega)
  rw [hB]
  congr 2
  funext x
  unfold updV nk_el
  by_cases ej : x = j
  · subst ej
    rw [if_pos rfl, nk_I_sI, nk_u2_eq]
    rcases hu with ⟨hc, rfl⟩ | ⟨hc, rfl⟩
    · rw [if_pos hc]
    · rw [if_neg (by omega), if_neg (by omega)]
  · rw [if_neg ej, nk_I_sI, nk_u2_nk _ _ _ _ _ ej]; rfl
theorem nk_R_aP {G : nk_G} {h : nk_H} {H H1 : Heap} {a j : Nat} {v : Option Nat} (hR : nk_R G h H) (h1 : 3 ≤ nk_K h a) (h2 : nk_K h a ≤ 5) (z : H1.size = H.size) (o : ∀ x : Nat, x ≠ a → H1[x]? = H[x]?)
    (hB : H1[a]? = some (arrV (nk_gA G (nk_K h a)) (nk_L h a) (updV (nk_el h (nk_K h a) a) j (va_rf v)))) : nk_R G (nk_sP h a j v) H1 := by
  refine nk_R1 (a := a) hR ⟨rfl, rfl⟩ rfl rfl rfl (fun _ _ _ => rfl) (fun x j e => nk_u2_ne _ _ _ _ j e) z o (hR.2.2.2.1 a (by omega) (by omega)).1 (fun _ _ => ?_) (fun ci' q' h1' _ => by omega)
  rw [hB]
  congr 2
  funext x
  unfold updV nk_el
  by_cases ej : x = j
  · subst ej
    rw [if_pos rfl, nk_P_sP, nk_u2_eq, if_neg (by omega), if_pos h2]
  · rw [if_neg ej, nk_P_sP, nk_u2_nk _ _ _ _ _ ej]; rfl
end
section
/-! ===== what is known of the tables wherever the machine stands; contracts and walks over the abstract heap ===== -/
def nk_mv : Cond → Bool
  | .castable _ _ => true
  | .methodLinkNest _ _ _ _ => true
  | .declares _ => true
  | w => goodWord w
/-- the tables' words that stay -/
def nk_T : List Cond := lw_tbl.filter nk_mv
theorem nk_in {i : Nat} {w : Cond} (h : lw_tbl[i]? = some w) (g : nk_mv w = true) : w ∈ nk_T := List.mem_filter.mpr ⟨List.mem_of_getElem? h, g⟩
theorem nk_ins {ws : List Cond} (ps : List Nat) (h : ws = ps.filterMap (fun i => lw_tbl[i]?)) (g : ws.all nk_mv = true) : ∀ w ∈ ws, w ∈ nk_T := by
  intro w hw
  have g1 := List.all_eq_true.mp g w hw
  rw [h] at hw
  obtain ⟨i, -, hi⟩ := List.mem_filterMap.mp hw
  exact nk_in hi g1
theorem nk_warm1 {s U : State} (hW : s.WarmedH U.vm) {w : Cond} (g : nk_mv w = true) (a : Array Value) (h : w.before #[] s = true) : w.before a U = true := by
  have k : goodWord w = true → w.before a U = true := fun q => word_at hW (good_of_word q) h
  cases w
  case castable C T => exact va_Nw.use rfl (va_Nw.warmC hW h)
  case methodLinkNest c i x o => exact va_Nw.use rfl (va_Nw.warmM hW h)
  case declares x => exact va_Nw.use rfl (va_Nw.warmD hW h)
  all_goals exact k g
/-- an array class over arrays -/
def nk_AOA (U : State) : Prop := (Cond.arrayOver (.array .int)).before #[] U = true
theorem nk_AOA.moved {u U : State} (hvm : u.vm.Alike U.vm) (h : nk_AOA u) : nk_AOA U := by
  have hidx : ∀ comp : ClassId, (U.vm.classes.findIdx? fun (x : Class) => match x.kind with | .array component _ => component == comp | _ => false) = (u.vm.classes.findIdx? fun (x : Class) => match x.kind with | .array component _ => component == comp | _ => false) := by
    intro comp
    have e1 := va_idx_bare U.vm comp
    have e2 := va_idx_bare u.vm comp
    have e3 : U.vm.bare = u.vm.bare := by first | exact hvm.bare_eq | exact hvm.bare_eq.symm
    rw [e3] at e1
    exact e1.symm.trans e2
  unfold nk_AOA Cond.before Cond.holds at h ⊢
  simp only [Cond.value, beq_iff_eq, Option.bind_eq_some_iff, Option.map_eq_some_iff] at h ⊢
  obtain ⟨comp, h1, c, h2, k, h3, h4⟩ := h
  obtain ⟨k', hk', he⟩ := hvm.2.2 _ _ h3
  exact ⟨comp, by rw [hvm.findClass]; exact h1, c, (hidx comp).trans h2, k', hk', by rw [he, hvm.findClass]; exact h4⟩
/-- the texts of the exceptions: class, place, text -/
def nk_strs : List (String × Nat × String) := [("NotaryKiosk", 363, "no such kiosk"), ("NotaryKiosk", 366, "both kiosks are the same"), ("NotaryKiosk", 72, "they are joined"), ("NotaryKiosk", 84, "they are not joined"), ("NotaryKiosk", 374, "an argument is out of range"), ("NotaryKiosk", 90, "the hour would be above 400"), ("NotaryKiosk", 368, "no such person"), ("NotaryKiosk", 370, "giver and holder are the same"), ("NotaryKiosk", 386, "there are 160 pieces of news"), ("NotaryKiosk", 388, "there are 40 powers"), ("NotaryKiosk", 376, "no such power"), ("NotaryKiosk", 136, "the draft is not within the source"), ("NotaryKiosk", 143, "the source is not good here"), ("NotaryKiosk", 164, "the power is not known here, or is revoked"), ("NotaryKiosk", 149, "the person is the giver of no power of its line"), ("NotaryKiosk", 182, "a deputation for the kiosk has an hour in common with it"), ("NotaryKiosk", 196, "there is a reason against it"), ("NotaryKiosk", 380, "no such record"), ("NotaryKiosk", 231, "there are 12 copies"), ("NotaryKiosk", 225, "last is ahead of first"), ("NotaryKiosk", 382, "no such copy"), ("NotaryKiosk", 384, "the copy does not have so many records"), ("NotaryKiosk", 372, "no such part"), ("NotaryKiosk", 255, "the part is left out"), ("NotaryKiosk", 378, "no such piece of news")]
def nk_tys (G : nk_G) : List (ClassId × FieldType) := [(nk_gA G 1, .int), (nk_gA G 2, .boolean), (nk_gA G 3, .object "NotaryKiosk$Chain"), (nk_gA G 4, .object "java/lang/Object"), (nk_gA G 5, .array .int), (nk_gA G 6, .long)]
/-- exceptions' classes that are apart -/
def nk_ncs : List (String × String) := [("java/lang/IllegalArgumentException", "java/lang/IndexOutOfBoundsException"), ("java/lang/IllegalStateException", "java/lang/IndexOutOfBoundsException"), ("java/lang/IndexOutOfBoundsException", "java/lang/IllegalArgumentException"), ("java/lang/IllegalStateException", "java/lang/IllegalArgumentException"), ("java/lang/IndexOutOfBoundsException", "java/lang/IllegalStateException"), ("java/lang/IllegalArgumentException", "java/lang/IllegalStateException")]
/-- the law's methods that catch, by their code: their tables -/
def nk_hhl : List (ByteArray × List (Nat × Nat × Nat × Nat)) := [
  (cL_join, [(0, 10, 13, 13), (0, 10, 17, 15), (0, 10, 21, 17)]),
  (cL_cut, [(0, 10, 13, 13), (0, 10, 17, 15), (0, 10, 21, 17)]),
  (cL_pass, [(0, 9, 12, 15), (0, 9, 15, 17)]),
  (cL_read, [(0, 9, 12, 13)]),
  (cL_draft, [(0, 11, 14, 15)]),
  (cL_grant, [(0, 12, 15, 13), (0, 12, 19, 15), (0, 12, 23, 17)]),
  (cL_passOn, [(0, 12, 15, 13), (0, 12, 19, 15), (0, 12, 23, 17)]),
  (cL_revoke, [(0, 12, 15, 13), (0, 12, 19, 15), (0, 12, 23, 17)]),
  (cL_depute, [(0, 12, 15, 13), (0, 12, 19, 15), (0, 12, 23, 17)]),
  (cL_prepare, [(0, 6, 9, 15)]),
  (cL_act, [(0, 14, 17, 13), (0, 14, 21, 15), (0, 14, 25, 17)]),
  (cL_tamper, [(0, 12, 15, 13), (0, 12, 19, 15)]),
  (cL_copy, [(0, 14, 17, 13), (0, 14, 21, 15), (0, 14, 25, 17)]),
  (cL_forge, [(0, 14, 17, 13), (0, 14, 21, 15), (0, 14, 25, 17)]),
  (cL_records, [(0, 9, 12, 13)]),
  (cL_areJoined, [(0, 17, 20, 13)]),
  (cL_came, [(0, 10, 13, 13)]),
  (cL_cameByLinks, [(0, 10, 13, 13)]),
  (cL_isRead, [(0, 17, 20, 13)]),
  (cL_mail, [(0, 9, 12, 13)]),
  (cL_source, [(0, 9, 12, 13)]),
  (cL_holder, [(0, 9, 12, 13)]),
  (cL_isGood, [(0, 17, 20, 13)]),
  (cL_done, [(0, 10, 13, 13)]),
  (cL_beyond, [(0, 9, 12, 13)]),
  (cL_against, [(0, 14, 17, 13), (0, 14, 21, 15)]),
  (cL_choices, [(0, 12, 15, 13), (0, 12, 19, 15)]),
  (cL_stands, [(0, 17, 20, 13)]),
  (cL_fault, [(0, 10, 13, 13)]),
  (cL_pieceOf, [(0, 10, 13, 13)]),
  (cL_part, [(0, 12, 15, 13)]),
  (cL_seal, [(0, 10, 13, 13)]),
  (cL_broken, [(0, 9, 12, 13)]),
  (cL_size, [(0, 9, 12, 13)]),
  (cL_copied, [(0, 12, 15, 13)]),
  (cL_brokenCopy, [(0, 9, 12, 13)]),
  (cL_isTrue, [(0, 16, 19, 13)])]
def nk_rows (c : Code) : List (Nat × Nat × Nat × Nat) := c.exceptionTable.toList.map fun h => (h.startPc, h.endPc, h.handlerPc, h.catchType)
/-- no table, but for the law's own methods -/
def nk_Tb (own : String) (cc : ByteArray) (c : Code) : Prop := (own ≠ "NotaryKioskLaw" → ∀ x ∈ c.exceptionTable.toList, False) ∧ (own = "NotaryKioskLaw" → ∀ q ∈ nk_hhl, q.1 = cc → nk_rows c = q.2)
/-- the cells that may change -/
def nk_fr (G : nk_G) : Nat → Prop := fun q => (nk_gH G).size ≤ q
/-- of the tables and of the start's heap, at any state -/
def nk_Kn (G : nk_G) (U : State) : Prop :=
  (∀ w ∈ nk_T, w.before #[] U = true) ∧ va_K (nk_gD G) nk_cl (nk_tys G) U ∧ (va_AO "NotaryKiosk$Chain" U ∧ va_AO "java/lang/Object" U ∧ nk_AOA U) ∧
  (∀ q ∈ nk_strs, ∃ sa : Nat, vk_R q.1 q.2.1 q.2.2 sa U) ∧ vx_Zq Bundle.tN "UNASSIGNED_STACK" Bundle.steD (nk_fr G) U (nk_gH G) ∧ vx_Zq Bundle.tN "SUPPRESSED_SENTINEL" Bundle.listD (nk_fr G) U (nk_gH G) ∧
  va_Z "java/util/ArrayList" "DEFAULTCAPACITY_EMPTY_ELEMENTDATA" "[Ljava/lang/Object;" (.ref (nk_gE G)) (nk_fr G) U (nk_gH G) ∧
  (∃ cell : Cell, (nk_gH G)[nk_gE G]? = some cell ∧ U.isArrayOf cell (.object "java/lang/Object") ∧ cell.slots.size = 0) ∧
  (va_X (nk_gB G) (nk_gL G) (nk_gX G) U (nk_gH G) ∧ nk_gB G < (nk_gH G).size ∧ va_Mi "[Ljava/lang/Object;" (nk_gM G) U ∧ ∀ q ∈ nk_ncs, va_Nc q.1 q.2 U)
theorem nk_Kn.warm {G : nk_G} {s U : State} (hW : s.WarmedH U.vm) (h : nk_Kn G s) : nk_Kn G U := by
  obtain ⟨k1, k2, ⟨k3, k4, k5⟩, k6, k7, k8, k9, ⟨cell, k10, k11, k12⟩, k13, k14, k15, k16⟩ := h
  have hA := hW.alike
  exact ⟨fun w hw => nk_warm1 hW (List.mem_filter.mp hw).2 _ (k1 w hw), va_K.moved hA k2, ⟨va_AO.moved hA k3, va_AO.moved hA k4, nk_AOA.moved hA k5⟩, fun q hq => by
    obtain ⟨sa, h1⟩ := k6 q hq
    exact ⟨sa, vk_R.warm hW h1⟩, vx_Zq.moved hA k7, vx_Zq.moved hA k8, va_Z.moved hA k9, ⟨cell, k10, State.isArrayOf_alike hA k11, k12⟩, va_X.moved hA k13, k14, va_Mi.moved hA k15, fun q hq => va_Nc.moved hA (k16 q hq)⟩
theorem nk_Kn.use {G : nk_G} {s : State} (h : nk_Kn G s) {w : Cond} (hw : w ∈ nk_T) (args : Array Value) : w.before args s = true := nk_warm1 (State.WarmedH.refl s) (List.mem_filter.mp hw).2 args (h.1 w hw)
/-- values of one word: an int, a reference or null -/
abbrev nk_V : Type := Int32 ⊕ Option Nat
def nk_v (t : nk_V) : Value := match t with
  | .inl x => .int x
  | .inr p => va_rf p
def nk_vs (l : List nk_V) : List Value := l.map nk_v
def nk_lv (l : List (Nat × nk_V)) : List (Nat × Value) := l.map fun q => (q.1, nk_v q.2)
theorem nk_rc (p : Option Nat) : (va_rf p).category = 1 := by cases p <;> rfl
theorem nk_vc (t : nk_V) : (nk_v t).category = 1 := by
  rcases t with x | p
  · rfl
  · exact nk_rc p
theorem nk_at {ls : Array Slot} {nL : Nat} {l : List (Nat × nk_V)} (h : lv_has ls nL (nk_lv l)) (k : Nat) {i : Nat} {t : nk_V} (hk : l[k]? = some (i, t)) : ls[i]? = some (.val (nk_v t)) :=
  lv_at h k (by unfold nk_lv; rw [List.getElem?_map, hk]; rfl)
theorem nk_sub {ls : Array Slot} {nL : Nat} {l l' : List (Nat × nk_V)} (h : lv_has ls nL (nk_lv l)) (ks : List Nat) (hl : ks.filterMap (fun k => l[k]?) = l') : lv_has ls nL (nk_lv l') := by
  refine lv_sub h ks ?_
  subst hl
  unfold lv_pick nk_lv
  rw [List.map_filterMap]
  congr 1
  funext k
  rw [List.getElem?_map]
theorem nk_setl {l l' : List (Nat × nk_V)} {i : Nat} {t : nk_V} (hl : (i, t) :: l.filter (fun q => !(q.1 == i)) = l') : (i, nk_v t) :: (nk_lv l).filter (fun q => !(q.1 == i) && !(q.1 + 1 == i && q.2.category == 2)) = nk_lv l' := by
  subst hl
  unfold nk_lv
  rw [List.filter_map, List.map_cons]
  refine congrArg (fun z : List (Nat × nk_V) => (i, nk_v t) :: z.map (fun q => (q.1, nk_v q.2))) (List.filter_congr (fun q _ => ?_))
  show (!(q.1 == i) && !(q.1 + 1 == i && (nk_v q.2).category == 2)) = _
  rw [nk_vc]
  simp
theorem nk_sum (l : List nk_V) : ((nk_vs l).map fun v => v.category).sum = l.length := by
  induction l with
  | nil => rfl
  | cons a t ih =>
    show (nk_v a).category + ((nk_vs t).map fun v => v.category).sum = t.length + 1
    rw [ih, nk_vc]
    omega
theorem nk_sl (l : List nk_V) : lg_sl (nk_vs l) = (nk_vs l).map Slot.val := by
  induction l with
  | nil => rfl
  | cons a t ih =>
    show (if (nk_v a).category = 2 then [Slot.val (nk_v a), .second] else [.val (nk_v a)]) ++ lg_sl (nk_vs t) = .val (nk_v a) :: (nk_vs t).map Slot.val
    rw [ih, nk_vc]
    rfl
theorem nk_args : ∀ (l : List nk_V) (i : Nat), lv_args i (nk_vs l) = nk_lv ((l.zipIdx i).map fun q => (q.2, q.1))
  | [], _ => rfl
  | a :: t, i => by
    show (i, nk_v a) :: lv_args (if (nk_v a).category = 2 then i + 2 else i + 1) (nk_vs t) = _
    rw [nk_vc, if_neg (by decide), nk_args t (i + 1)]
    rfl
theorem nk_noTrace {l : Launch} (h : l.flags = flags0) : l.stackTraces = false := by
  unfold Launch.stackTraces
  rw [h]
  decide +kernel
/-- a method's end: what it answers (inl) or which class it throws (inr), and the heap -/
def nk_Qc (G : nk_G) (h : nk_H) (o : Option Value ⊕ String) : Array Value → State → Outcome → State → Prop := fun _ _ out t => nk_R G h t.heap ∧ ∃ v : Option Value, o = .inl v ∧ out = .returned v
def nk_XC (G : nk_G) (h : nk_H) (o : Option Value ⊕ String) : String → State → State → Prop := fun E _ t => nk_R G h t.heap ∧ o = .inr E
def nk_Pc (G : nk_G) (h : nk_H) (vs : List nk_V) : Array Value → State → Prop := fun a U => a = (nk_vs vs).toArray ∧ nk_R G h U.heap ∧ nk_Kn G U
theorem nk_blind (G : nk_G) (h : nk_H) (vs : List nk_V) : FrameBlind (nk_Pc G h vs) := by
  intro a U g mk ⟨h1, h2, h3⟩
  exact ⟨h1, h2, nk_Kn.warm (s := U) (U := U.calling g mk a) (State.WarmedH.refl U) h3⟩
/-- answers as outcomes -/
def nk_eV : Unit → Option Value ⊕ String := fun _ => .inl none
def nk_eI : Int32 → Option Value ⊕ String := fun x => .inl (some (.int x))
def nk_eR : Option Nat → Option Value ⊕ String := fun p => .inl (some (va_rf p))
def nk_eVt : Unit ⊕ String → Option Value ⊕ String := fun r => match r with
  | .inl _ => .inl none
  | .inr E => .inr E
def nk_eIt : Int32 ⊕ String → Option Value ⊕ String := fun r => match r with
  | .inl x => .inl (some (.int x))
  | .inr E => .inr E
/-- a method's contract: from any heap where its function has an answer -/
def nk_Con {α : Type} (G : nk_G) (l : Launch) (y : MethodName) (cc : ByteArray) (nL : Nat) (ret : Option FieldType) (fr lo : Nat) (en : α → Option Value ⊕ String) (vs : List nk_V) (h : nk_H) (f : Option (nk_H × α)) : Prop :=
  ∀ (h' : nk_H) (r : α), f = some (h', r) → nk_N h ≤ nk_N h' ∧ nk_S h ≤ nk_S h' ∧
    vx_Met l y [Cond.code y cc nL ret] { frames := fr, cells := nk_N h' - nk_N h, slots := nk_S h' - nk_S h, locals := lo } (nk_Pc G h vs) (nk_Qc G h' (en r)) (nk_XC G h' (en r)) (nk_N h' - nk_N h) (nk_S h' - nk_S h) (nk_fr G)
/-- a frame's surroundings -/
def nk_X (G : nk_G) (l : Launch) (own : String) (cc : ByteArray) (nL : Nat) (ret : Option FieldType) (fr lo : Nat) (ini : Bool) (p : Program) (R : Room) (s : State) (m : MethodId) (meth : Method) (c : Code) : Prop :=
  p.tables.exec = Jvm.exec ∧ c.code = cc ∧ c.maxLocals = nL ∧ meth.sig.returnType = ret ∧ meth.locks = false ∧ s.vm.findClass own = some m.cls ∧ nk_Kn G s ∧
  ((nk_gH G).size ≤ s.heap.size ∧ ∀ a : Nat, a < (nk_gH G).size → s.heap[a]? = (nk_gH G)[a]?) ∧ fr ≤ R.frames ∧ lo ≤ R.locals ∧ nk_Tb own cc c ∧ l.stackTraces = false ∧ (ini = true → meth.name = "<init>")
/-- a walk from here: wherever the frame stands in a heap that the abstract one pictures, if the function has an answer, the method comes to it -/
def nk_Sim {α : Type} (G : nk_G) (l : Launch) (own : String) (cc : ByteArray) (nL : Nat) (ret : Option FieldType) (fr lo : Nat) (ini : Bool) (en : α → Option Value ⊕ String) (pc : Nat) (lv : List (Nat × nk_V)) (st : List nk_V) (h : nk_H) (f : Option (nk_H × α)) : Prop :=
  ∀ (h' : nk_H) (r : α), f = some (h', r) → nk_N h ≤ nk_N h' ∧ nk_S h ≤ nk_S h' ∧
    ∀ (p : Program) (e : Env) (R : Room) (s : State) (m : MethodId) (args : Array Value) (below : List Frame) (meth : Method) (c : Code), nk_X G l own cc nL ret fr lo ini p R s m meth c →
    ∀ (sb : Nat), s.heap.size ≤ nk_N h → sb ≤ nk_S h → nk_N h' - s.heap.size ≤ R.cells → nk_S h' - sb ≤ R.slots →
    ∀ (H : Heap) (ls : Array Slot) (locs : List Loc), nk_R G h H → lv_has ls nL (nk_lv lv) → (∀ q ∈ locs, nk_fr G q.base) →
      W p l e R s m args below meth c H locs (nk_N h - s.heap.size) (nk_S h - sb) (vx_MQ below (nk_Qc G h' (en r)) (nk_XC G h' (en r)) args s (nk_N h' - s.heap.size) (nk_S h' - sb) (nk_fr G)) (F0 m pc ls (nk_vs st))
section NKS
variable {α : Type} {G : nk_G} {l : Launch} {own : String} {cc : ByteArray} {nL : Nat} {ret : Option FieldType} {fr lo : Nat} {ini : Bool} {en : α → Option Value ⊕ String} {pc pc' : Nat} {lv lv' : List (Nat × nk_V)} {st st' : List nk_V} {h h1 : nk_H} {f : Option (nk_H × α)}
/-- a step that leaves the heap -/
theorem nk_pure (step : ∀ (p : Program) (e : Env) (R : Room) (s : State) (m : MethodId) (args : Array Value) (below : List Frame) (meth : Method) (c : Code) (H : Heap) (locs : List Loc) (cells slots : Nat) (Q : State → Prop) (ls : Array Slot), nk_X G l own cc nL ret fr lo ini p R s m meth c → nk_R G h H → lv_has ls nL (nk_lv lv) →
      (∀ ls' : Array Slot, lv_has ls' nL (nk_lv lv') → W p l e R s m args below meth c H locs cells slots Q (F0 m pc' ls' (nk_vs st'))) → W p l e R s m args below meth c H locs cells slots Q (F0 m pc ls (nk_vs st)))
    (k : nk_Sim G l own cc nL ret fr lo ini en pc' lv' st' h f) : nk_Sim G l own cc nL ret fr lo ini en pc lv st h f := by
  intro h' r hf
  obtain ⟨k1, k2, k3⟩ := k h' r hf
  refine ⟨k1, k2, fun p e R s m args below meth c X sb b1 b2 b3 b4 H ls locs hR hl hq => ?_⟩
  exact step p e R s m args below meth c H locs _ _ _ ls X hR hl (fun ls' hl' => k3 p e R s m args below meth c X sb b1 b2 b3 b4 H ls' locs hR hl' hq)
/-- a step that writes old cells of ours -/
theorem nk_heap (hN : nk_N h1 = nk_N h) (hS : nk_S h1 = nk_S h) (step : ∀ (p : Program) (e : Env) (R : Room) (s : State) (m : MethodId) (args : Array Value) (below : List Frame) (meth : Method) (c : Code) (H : Heap) (locs : List Loc) (cells slots : Nat) (Q : State → Prop) (ls : Array Slot), nk_X G l own cc nL ret fr lo ini p R s m meth c → nk_R G h H → lv_has ls nL (nk_lv lv) → (∀ q ∈ locs, nk_fr G q.base) →
      (∀ (H1 : Heap) (locs1 : List Loc), nk_R G h1 H1 → (∀ q ∈ locs1, nk_fr G q.base) → W p l e R s m args below meth c H1 locs1 cells slots Q (F0 m pc' ls (nk_vs st'))) → W p l e R s m args below meth c H locs cells slots Q (F0 m pc ls (nk_vs st)))
    (k : nk_Sim G l own cc nL ret fr lo ini en pc' lv st' h1 f) : nk_Sim G l own cc nL ret fr lo ini en pc lv st h f := by
  intro h' r hf
  obtain ⟨k1, k2, k3⟩ := k h' r hf
  rw [hN] at k1 k3
  rw [hS] at k2 k3
  refine ⟨k1, k2, fun p e R s m args below meth c X sb b1 b2 b3 b4 H ls locs hR hl hq => ?_⟩
  exact step p e R s m args below meth c H locs _ _ _ ls X hR hl hq (fun H1 locs1 hR1 hq1 => k3 p e R s m args below meth c X sb b1 b2 b3 b4 H1 ls locs1 hR1 hl hq1)
/-- a step that makes a cell of w slots -/
theorem nk_new {c0 n w : Nat} (step : ∀ (p : Program) (e : Env) (R : Room) (s : State) (m : MethodId) (args : Array Value) (below : List Frame) (meth : Method) (c : Code) (H : Heap) (locs : List Loc) (cells slots : Nat) (Q : State → Prop) (ls : Array Slot), nk_X G l own cc nL ret fr lo ini p R s m meth c → nk_R G h H → lv_has ls nL (nk_lv lv) → cells + 1 ≤ R.cells → slots + w ≤ R.slots →
      (∀ (H1 : Heap), nk_R G (nk_al h c0 n w) H1 → W p l e R s m args below meth c H1 locs (cells + 1) (slots + w) Q (F0 m pc' ls (nk_vs st'))) → W p l e R s m args below meth c H locs cells slots Q (F0 m pc ls (nk_vs st)))
    (k : nk_Sim G l own cc nL ret fr lo ini en pc' lv st' (nk_al h c0 n w) f) : nk_Sim G l own cc nL ret fr lo ini en pc lv st h f := by
  intro h' r hf
  obtain ⟨k1, k2, k3⟩ := k h' r hf
  rw [nk_N_al] at k1 k3
  rw [nk_S_al] at k2 k3
  refine ⟨by omega, by omega, fun p e R s m args below meth c X sb b1 b2 b3 b4 H ls locs hR hl hq => ?_⟩
  refine step p e R s m args below meth c H locs _ _ _ ls X hR hl (by omega) (by omega) (fun H1 hR1 => ?_)
  have := k3 p e R s m args below meth c X sb (by omega) (by omega) b3 b4 H1 ls locs hR1 hl hq
  rw [show nk_N h + 1 - s.heap.size = nk_N h - s.heap.size + 1 by omega, show nk_S h + w - sb = nk_S h - sb + w by omega] at this
  exact this
/-- no answer: nothing to show -/
theorem nk_none : nk_Sim G l own cc nL ret fr lo ini en pc lv st h none := fun _ _ hf => nomatch hf
/-- a part of the function that may have no answer -/
theorem nk_bind {β : Type} {x : Option β} {F : β → Option (nk_H × α)} (k : ∀ v : β, x = some v → nk_Sim G l own cc nL ret fr lo ini en pc lv st h (F v)) : nk_Sim G l own cc nL ret fr lo ini en pc lv st h (x.bind F) := by
  cases hx : x with
  | none => exact nk_none
  | some v => exact k v hx
theorem nk_locals (ks : List Nat) (hl : ks.filterMap (fun k => lv[k]?) = lv') (k : nk_Sim G l own cc nL ret fr lo ini en pc lv' st h f) : nk_Sim G l own cc nL ret fr lo ini en pc lv st h f :=
  nk_pure (fun p e R s m args below meth c H locs cells slots Q ls X hR hl' kk => kk ls (nk_sub hl' ks hl)) k
end NKS
end
section
section NKR
variable {α : Type} {G : nk_G} {l : Launch} {own : String} {cc : ByteArray} {nL : Nat} {ret : Option FieldType} {fr lo : Nat} {ini : Bool} {en : α → Option Value ⊕ String} {pc : Nat} {lv lv2 : List (Nat × nk_V)} {st : List nk_V} {h : nk_H} {f fA fB : Option (nk_H × α)}
theorem nr_iconst {n : Int} {v : Int32} (d : decode cc pc = .ok (.iconst n, 1)) (hv : Int32.ofInt n = v) (k : nk_Sim G l own cc nL ret fr lo ini en (pc + 1) lv (.inl v :: st) h f) : nk_Sim G l own cc nL ret fr lo ini en pc lv st h f :=
  nk_pure (fun p e R s m args below meth c H locs cells slots Q ls X hR hl kk => lv_iconst X.1 X.2.1 d hv (kk ls hl)) k
theorem nr_bipush {n : Int} {v : Int32} (d : decode cc pc = .ok (.bipush n, 2)) (hv : (Int8.ofInt n).toInt32 = v) (k : nk_Sim G l own cc nL ret fr lo ini en (pc + 2) lv (.inl v :: st) h f) : nk_Sim G l own cc nL ret fr lo ini en pc lv st h f :=
  nk_pure (fun p e R s m args below meth c H locs cells slots Q ls X hR hl kk => lv_bipush X.1 X.2.1 d hv (kk ls hl)) k
theorem nr_sipush {n : Int} {v : Int32} (d : decode cc pc = .ok (.sipush n, 3)) (hv : (Int16.ofInt n).toInt32 = v) (k : nk_Sim G l own cc nL ret fr lo ini en (pc + 3) lv (.inl v :: st) h f) : nk_Sim G l own cc nL ret fr lo ini en pc lv st h f :=
  nk_pure (fun p e R s m args below meth c H locs cells slots Q ls X hR hl kk => lv_sipush X.1 X.2.1 d hv (kk ls hl)) k
theorem nr_ldc {i : Nat} {v : Int32} (d : decode cc pc = .ok (.ldc i, 2)) (w : Cond.constant own i v ∈ nk_T) (k : nk_Sim G l own cc nL ret fr lo ini en (pc + 2) lv (.inl v :: st) h f) : nk_Sim G l own cc nL ret fr lo ini en pc lv st h f :=
  nk_pure (fun p e R s m args below meth c H locs cells slots Q ls X hR hl kk => lv_ldc X.1 X.2.1 X.2.2.2.2.2.1 (nk_Kn.use X.2.2.2.2.2.2.1 w args) d (kk ls hl)) k
theorem nr_ldcw {i : Nat} {v : Int32} (d : decode cc pc = .ok (.ldc_w i, 3)) (w : Cond.constant own i v ∈ nk_T) (k : nk_Sim G l own cc nL ret fr lo ini en (pc + 3) lv (.inl v :: st) h f) : nk_Sim G l own cc nL ret fr lo ini en pc lv st h f :=
  nk_pure (fun p e R s m args below meth c H locs cells slots Q ls X hR hl kk => lv_ldcw X.1 X.2.1 X.2.2.2.2.2.1 (nk_Kn.use X.2.2.2.2.2.2.1 w args) d (kk ls hl)) k
theorem nr_null  (d : decode cc pc = .ok (.aconst_null, 1))  (k : nk_Sim G l own cc nL ret fr lo ini en (pc + 1) lv (.inr none :: st) h f) : nk_Sim G l own cc nL ret fr lo ini en pc lv st h f :=
  nk_pure (fun p e R s m args below meth c H locs cells slots Q ls X hR hl kk => lv_null X.1 X.2.1 d (kk ls hl)) k
theorem nr_iload_n {i : Fin 4} (j : Nat) {x : Int32} (d : decode cc pc = .ok (.iload_n i, 1)) (hk : lv[j]? = some ((i : Nat), .inl x)) (k : nk_Sim G l own cc nL ret fr lo ini en (pc + 1) lv (.inl x :: st) h f) : nk_Sim G l own cc nL ret fr lo ini en pc lv st h f :=
  nk_pure (fun p e R s m args below meth c H locs cells slots Q ls X hR hl kk => lv_iload_n X.1 X.2.1 d rfl (nk_at hl j hk) (kk ls hl)) k
theorem nr_iload {i : Nat} (j : Nat) {x : Int32} (d : decode cc pc = .ok (.iload i, 2)) (hk : lv[j]? = some (i, .inl x)) (k : nk_Sim G l own cc nL ret fr lo ini en (pc + 2) lv (.inl x :: st) h f) : nk_Sim G l own cc nL ret fr lo ini en pc lv st h f :=
  nk_pure (fun p e R s m args below meth c H locs cells slots Q ls X hR hl kk => lv_iload X.1 X.2.1 d (nk_at hl j hk) (kk ls hl)) k
theorem nr_aload_n {i : Fin 4} (j : Nat) {x : Option Nat} (d : decode cc pc = .ok (.aload_n i, 1)) (hk : lv[j]? = some ((i : Nat), .inr x)) (k : nk_Sim G l own cc nL ret fr lo ini en (pc + 1) lv (.inr x :: st) h f) : nk_Sim G l own cc nL ret fr lo ini en pc lv st h f :=
  nk_pure (fun p e R s m args below meth c H locs cells slots Q ls X hR hl kk => by
    have h1 := nk_at hl j hk
    cases x with
    | none => exact lv_aload_nN X.1 X.2.1 d rfl h1 (kk ls hl)
    | some a => exact lv_aload_n X.1 X.2.1 d rfl h1 (kk ls hl)) k
theorem nr_aload {i : Nat} (j : Nat) {x : Option Nat} (d : decode cc pc = .ok (.aload i, 2)) (hk : lv[j]? = some (i, .inr x)) (k : nk_Sim G l own cc nL ret fr lo ini en (pc + 2) lv (.inr x :: st) h f) : nk_Sim G l own cc nL ret fr lo ini en pc lv st h f :=
  nk_pure (fun p e R s m args below meth c H locs cells slots Q ls X hR hl kk => by
    have h1 := nk_at hl j hk
    cases x with
    | none => exact lv_aloadN X.1 X.2.1 d h1 (kk ls hl)
    | some a => exact lv_aload X.1 X.2.1 d h1 (kk ls hl)) k
theorem nr_istore_n {i : Fin 4} {x : Int32} (d : decode cc pc = .ok (.istore_n i, 1)) (hn : (i : Nat) < nL) (hl2 : ((i : Nat), .inl x) :: lv.filter (fun q => !(q.1 == (i : Nat))) = lv2) (k : nk_Sim G l own cc nL ret fr lo ini en (pc + 1) lv2 st h f) : nk_Sim G l own cc nL ret fr lo ini en pc lv (.inl x :: st) h f :=
  nk_pure (fun p e R s m args below meth c H locs cells slots Q ls X hR hl kk => lv_istore_n X.1 X.2.1 d rfl hl hn (nk_setl hl2) kk) k
theorem nr_istore {i : Nat} {x : Int32} (d : decode cc pc = .ok (.istore i, 2)) (hn : i < nL) (hl2 : (i, .inl x) :: lv.filter (fun q => !(q.1 == i)) = lv2) (k : nk_Sim G l own cc nL ret fr lo ini en (pc + 2) lv2 st h f) : nk_Sim G l own cc nL ret fr lo ini en pc lv (.inl x :: st) h f :=
  nk_pure (fun p e R s m args below meth c H locs cells slots Q ls X hR hl kk => lv_istore X.1 X.2.1 d hl hn (nk_setl hl2) kk) k
theorem nr_astore_n {i : Fin 4} {x : Option Nat} (d : decode cc pc = .ok (.astore_n i, 1)) (hn : (i : Nat) < nL) (hl2 : ((i : Nat), .inr x) :: lv.filter (fun q => !(q.1 == (i : Nat))) = lv2) (k : nk_Sim G l own cc nL ret fr lo ini en (pc + 1) lv2 st h f) : nk_Sim G l own cc nL ret fr lo ini en pc lv (.inr x :: st) h f :=
  nk_pure (fun p e R s m args below meth c H locs cells slots Q ls X hR hl kk => by
    cases x with
    | none => exact lv_astore_nN X.1 X.2.1 d rfl hl hn (nk_setl hl2) kk
    | some a => exact lv_astore_n X.1 X.2.1 d rfl hl hn (nk_setl hl2) kk) k
theorem nr_astore {i : Nat} {x : Option Nat} (d : decode cc pc = .ok (.astore i, 2)) (hn : i < nL) (hl2 : (i, .inr x) :: lv.filter (fun q => !(q.1 == i)) = lv2) (k : nk_Sim G l own cc nL ret fr lo ini en (pc + 2) lv2 st h f) : nk_Sim G l own cc nL ret fr lo ini en pc lv (.inr x :: st) h f :=
  nk_pure (fun p e R s m args below meth c H locs cells slots Q ls X hR hl kk => by
    cases x with
    | none => exact lv_astoreN X.1 X.2.1 d hl hn (nk_setl hl2) kk
    | some a => exact lv_astore X.1 X.2.1 d hl hn (nk_setl hl2) kk) k
theorem nk_atl {l : List (Nat × nk_V)} {k i : Nat} {t : nk_V} (hk : l[k]? = some (i, t)) : (nk_lv l)[k]? = some (i, nk_v t) := by unfold nk_lv; rw [List.getElem?_map, hk]; rfl
theorem nr_iinc {i : Nat} {n : Int} (j : Nat) {x : Int32} (v : Int32) (d : decode cc pc = .ok (.iinc i n, 3)) (hk : lv[j]? = some (i, .inl x)) (hv : x + Int32.ofInt n = v) (hn : i < nL) (hl2 : (i, .inl v) :: lv.filter (fun q => !(q.1 == i)) = lv2) (k : nk_Sim G l own cc nL ret fr lo ini en (pc + 3) lv2 st h f) : nk_Sim G l own cc nL ret fr lo ini en pc lv st h f :=
  nk_pure (fun p e R s m args below meth c H locs cells slots Q ls X hR hl kk => lv_iinc X.1 X.2.1 d hl (nk_atl hk) hv hn (nk_setl hl2) kk) k
theorem nr_iadd {x y : Int32} (d : decode cc pc = .ok (.iadd, 1))  (k : nk_Sim G l own cc nL ret fr lo ini en (pc + 1) lv (.inl (x + y) :: st) h f) : nk_Sim G l own cc nL ret fr lo ini en pc lv (.inl y :: .inl x :: st) h f :=
  nk_pure (fun p e R s m args below meth c H locs cells slots Q ls X hR hl kk => lv_iadd X.1 X.2.1 d (kk ls hl)) k
theorem nr_isub {x y : Int32} (d : decode cc pc = .ok (.isub, 1))  (k : nk_Sim G l own cc nL ret fr lo ini en (pc + 1) lv (.inl (x - y) :: st) h f) : nk_Sim G l own cc nL ret fr lo ini en pc lv (.inl y :: .inl x :: st) h f :=
  nk_pure (fun p e R s m args below meth c H locs cells slots Q ls X hR hl kk => lv_isub X.1 X.2.1 d (kk ls hl)) k
theorem nr_imul {x y : Int32} (d : decode cc pc = .ok (.imul, 1))  (k : nk_Sim G l own cc nL ret fr lo ini en (pc + 1) lv (.inl (x * y) :: st) h f) : nk_Sim G l own cc nL ret fr lo ini en pc lv (.inl y :: .inl x :: st) h f :=
  nk_pure (fun p e R s m args below meth c H locs cells slots Q ls X hR hl kk => lv_imul X.1 X.2.1 d (kk ls hl)) k
theorem nr_iand {x y : Int32} (d : decode cc pc = .ok (.iand, 1))  (k : nk_Sim G l own cc nL ret fr lo ini en (pc + 1) lv (.inl (x &&& y) :: st) h f) : nk_Sim G l own cc nL ret fr lo ini en pc lv (.inl y :: .inl x :: st) h f :=
  nk_pure (fun p e R s m args below meth c H locs cells slots Q ls X hR hl kk => lv_iand X.1 X.2.1 d (kk ls hl)) k
theorem nr_ior {x y : Int32} (d : decode cc pc = .ok (.ior, 1))  (k : nk_Sim G l own cc nL ret fr lo ini en (pc + 1) lv (.inl (x ||| y) :: st) h f) : nk_Sim G l own cc nL ret fr lo ini en pc lv (.inl y :: .inl x :: st) h f :=
  nk_pure (fun p e R s m args below meth c H locs cells slots Q ls X hR hl kk => lv_ior X.1 X.2.1 d (kk ls hl)) k
theorem nr_ixor {x y : Int32} (d : decode cc pc = .ok (.ixor, 1))  (k : nk_Sim G l own cc nL ret fr lo ini en (pc + 1) lv (.inl (x ^^^ y) :: st) h f) : nk_Sim G l own cc nL ret fr lo ini en pc lv (.inl y :: .inl x :: st) h f :=
  nk_pure (fun p e R s m args below meth c H locs cells slots Q ls X hR hl kk => lv_ixor X.1 X.2.1 d (kk ls hl)) k
theorem nr_ishl {x y : Int32} (d : decode cc pc = .ok (.ishl, 1))  (k : nk_Sim G l own cc nL ret fr lo ini en (pc + 1) lv (.inl (x <<< (y &&& 31)) :: st) h f) : nk_Sim G l own cc nL ret fr lo ini en pc lv (.inl y :: .inl x :: st) h f :=
  nk_pure (fun p e R s m args below meth c H locs cells slots Q ls X hR hl kk => lv_ishl X.1 X.2.1 d (kk ls hl)) k
theorem nr_ishr {x y : Int32} (d : decode cc pc = .ok (.ishr, 1))  (k : nk_Sim G l own cc nL ret fr lo ini en (pc + 1) lv (.inl (x >>> (y &&& 31)) :: st) h f) : nk_Sim G l own cc nL ret fr lo ini en pc lv (.inl y :: .inl x :: st) h f :=
  nk_pure (fun p e R s m args below meth c H locs cells slots Q ls X hR hl kk => lv_ishr X.1 X.2.1 d (kk ls hl)) k
theorem nr_iushr {x y : Int32} (d : decode cc pc = .ok (.iushr, 1))  (k : nk_Sim G l own cc nL ret fr lo ini en (pc + 1) lv (.inl ((x.toUInt32 >>> (y.toUInt32 &&& Int32.toUInt32 31)).toInt32) :: st) h f) : nk_Sim G l own cc nL ret fr lo ini en pc lv (.inl y :: .inl x :: st) h f :=
  nk_pure (fun p e R s m args below meth c H locs cells slots Q ls X hR hl kk => lv_iushr X.1 X.2.1 d rfl (kk ls hl)) k
theorem nr_idiv {x y : Int32} (d : decode cc pc = .ok (.idiv, 1)) (hy : ¬ y = 0) (k : nk_Sim G l own cc nL ret fr lo ini en (pc + 1) lv (.inl (x / y) :: st) h f) : nk_Sim G l own cc nL ret fr lo ini en pc lv (.inl y :: .inl x :: st) h f :=
  nk_pure (fun p e R s m args below meth c H locs cells slots Q ls X hR hl kk => lv_idiv X.1 X.2.1 d hy (kk ls hl)) k
theorem nr_irem {x y : Int32} (d : decode cc pc = .ok (.irem, 1)) (hy : ¬ y = 0) (k : nk_Sim G l own cc nL ret fr lo ini en (pc + 1) lv (.inl (x - x / y * y) :: st) h f) : nk_Sim G l own cc nL ret fr lo ini en pc lv (.inl y :: .inl x :: st) h f :=
  nk_pure (fun p e R s m args below meth c H locs cells slots Q ls X hR hl kk => lv_irem X.1 X.2.1 d hy (kk ls hl)) k
theorem nr_dup {t : nk_V} (d : decode cc pc = .ok (.dup, 1))  (k : nk_Sim G l own cc nL ret fr lo ini en (pc + 1) lv (t :: t :: st) h f) : nk_Sim G l own cc nL ret fr lo ini en pc lv (t :: st) h f :=
  nk_pure (fun p e R s m args below meth c H locs cells slots Q ls X hR hl kk => lv_dup X.1 X.2.1 d (nk_vc t) (kk ls hl)) k
theorem nr_pop {t : nk_V} (d : decode cc pc = .ok (.pop, 1))  (k : nk_Sim G l own cc nL ret fr lo ini en (pc + 1) lv st h f) : nk_Sim G l own cc nL ret fr lo ini en pc lv (t :: st) h f :=
  nk_pure (fun p e R s m args below meth c H locs cells slots Q ls X hR hl kk => lv_pop X.1 X.2.1 d (nk_vc t) (kk ls hl)) k
theorem nr_dup_x1 {t u : nk_V} (d : decode cc pc = .ok (.dup_x1, 1))  (k : nk_Sim G l own cc nL ret fr lo ini en (pc + 1) lv (t :: u :: t :: st) h f) : nk_Sim G l own cc nL ret fr lo ini en pc lv (t :: u :: st) h f :=
  nk_pure (fun p e R s m args below meth c H locs cells slots Q ls X hR hl kk => lv_dup_x1 X.1 X.2.1 d (nk_vc t) (nk_vc u) (kk ls hl)) k
theorem nr_dup2 {t u : nk_V} (d : decode cc pc = .ok (.dup2, 1))  (k : nk_Sim G l own cc nL ret fr lo ini en (pc + 1) lv (t :: u :: t :: u :: st) h f) : nk_Sim G l own cc nL ret fr lo ini en pc lv (t :: u :: st) h f :=
  nk_pure (fun p e R s m args below meth c H locs cells slots Q ls X hR hl kk => lv_dup2_11 X.1 X.2.1 d (nk_vc t) (nk_vc u) (kk ls hl)) k
theorem nr_goto {off : Int} {tgt : Nat} (d : decode cc pc = .ok (.goto off, 3)) (ht : (pc : Int) + off = (tgt : Int)) (k : nk_Sim G l own cc nL ret fr lo ini en tgt lv st h f) : nk_Sim G l own cc nL ret fr lo ini en pc lv st h f :=
  nk_pure (fun p e R s m args below meth c H locs cells slots Q ls X hR hl kk => lv_goto X.1 X.2.1 d ht (kk ls hl)) k
/-- two ways on -/
theorem nk_ite {pa pb : Nat} {st2 : List nk_V} (P : Prop) [Decidable P] (step : ∀ (p : Program) (e : Env) (R : Room) (s : State) (m : MethodId) (args : Array Value) (below : List Frame) (meth : Method) (c : Code) (H : Heap) (locs : List Loc) (cells slots : Nat) (Q : State → Prop) (ls : Array Slot), nk_X G l own cc nL ret fr lo ini p R s m meth c →
      (P → W p l e R s m args below meth c H locs cells slots Q (F0 m pa ls (nk_vs st2))) → (¬ P → W p l e R s m args below meth c H locs cells slots Q (F0 m pb ls (nk_vs st2))) → W p l e R s m args below meth c H locs cells slots Q (F0 m pc ls (nk_vs st)))
    (ka : P → nk_Sim G l own cc nL ret fr lo ini en pa lv st2 h fA) (kb : ¬ P → nk_Sim G l own cc nL ret fr lo ini en pb lv st2 h fB) : nk_Sim G l own cc nL ret fr lo ini en pc lv st h (if P then fA else fB) := by
  intro h' r hf
  by_cases hP : P
  · rw [if_pos hP] at hf
    obtain ⟨k1, k2, k3⟩ := ka hP h' r hf
    refine ⟨k1, k2, fun p e R s m args below meth c X sb b1 b2 b3 b4 H ls locs hR hl hq => ?_⟩
    exact step p e R s m args below meth c H locs _ _ _ ls X (fun _ => k3 p e R s m args below meth c X sb b1 b2 b3 b4 H ls locs hR hl hq) (fun n => absurd hP n)
  · rw [if_neg hP] at hf
    obtain ⟨k1, k2, k3⟩ := kb hP h' r hf
    refine ⟨k1, k2, fun p e R s m args below meth c X sb b1 b2 b3 b4 H ls locs hR hl hq => ?_⟩
    exact step p e R s m args below meth c H locs _ _ _ ls X (fun y => absurd y hP) (fun _ => k3 p e R s m args below meth c X sb b1 b2 b3 b4 H ls locs hR hl hq)
theorem nr_if_eq {x : Int32} {off : Int} {tgt : Nat} (d : decode cc pc = .ok (.ifCond .eq off, 3)) (ht : (pc : Int) + off = (tgt : Int)) (ka : x = 0 → nk_Sim G l own cc nL ret fr lo ini en tgt lv st h fA) (kb : ¬ x = 0 → nk_Sim G l own cc nL ret fr lo ini en (pc + 3) lv st h fB) : nk_Sim G l own cc nL ret fr lo ini en pc lv (.inl x :: st) h (if x = 0 then fA else fB) :=
  nk_ite (x = 0) (fun p e R s m args below meth c H locs cells slots Q ls X ta tb => lv_if_eq X.1 X.2.1 d ht ta tb) ka kb
theorem nr_if_lt {x : Int32} {off : Int} {tgt : Nat} (d : decode cc pc = .ok (.ifCond .lt off, 3)) (ht : (pc : Int) + off = (tgt : Int)) (ka : x < 0 → nk_Sim G l own cc nL ret fr lo ini en tgt lv st h fA) (kb : ¬ x < 0 → nk_Sim G l own cc nL ret fr lo ini en (pc + 3) lv st h fB) : nk_Sim G l own cc nL ret fr lo ini en pc lv (.inl x :: st) h (if x < 0 then fA else fB) :=
  nk_ite (x < 0) (fun p e R s m args below meth c H locs cells slots Q ls X ta tb => lv_if_lt X.1 X.2.1 d ht ta tb) ka kb
theorem nr_if_ge {x : Int32} {off : Int} {tgt : Nat} (d : decode cc pc = .ok (.ifCond .ge off, 3)) (ht : (pc : Int) + off = (tgt : Int)) (ka : 0 ≤ x → nk_Sim G l own cc nL ret fr lo ini en tgt lv st h fA) (kb : ¬ 0 ≤ x → nk_Sim G l own cc nL ret fr lo ini en (pc + 3) lv st h fB) : nk_Sim G l own cc nL ret fr lo ini en pc lv (.inl x :: st) h (if 0 ≤ x then fA else fB) :=
  nk_ite (0 ≤ x) (fun p e R s m args below meth c H locs cells slots Q ls X ta tb => lv_if_ge X.1 X.2.1 d ht ta tb) ka kb
theorem nr_if_gt {x : Int32} {off : Int} {tgt : Nat} (d : decode cc pc = .ok (.ifCond .gt off, 3)) (ht : (pc : Int) + off = (tgt : Int)) (ka : 0 < x → nk_Sim G l own cc nL ret fr lo ini en tgt lv st h fA) (kb : ¬ 0 < x → nk_Sim G l own cc nL ret fr lo ini en (pc + 3) lv st h fB) : nk_Sim G l own cc nL ret fr lo ini en pc lv (.inl x :: st) h (if 0 < x then fA else fB) :=
  nk_ite (0 < x) (fun p e R s m args below meth c H locs cells slots Q ls X ta tb => lv_if_gt X.1 X.2.1 d ht ta tb) ka kb
theorem nr_if_le {x : Int32} {off : Int} {tgt : Nat} (d : decode cc pc = .ok (.ifCond .le off, 3)) (ht : (pc : Int) + off = (tgt : Int)) (ka : x ≤ 0 → nk_Sim G l own cc nL ret fr lo ini en tgt lv st h fA) (kb : ¬ x ≤ 0 → nk_Sim G l own cc nL ret fr lo ini en (pc + 3) lv st h fB) : nk_Sim G l own cc nL ret fr lo ini en pc lv (.inl x :: st) h (if x ≤ 0 then fA else fB) :=
  nk_ite (x ≤ 0) (fun p e R s m args below meth c H locs cells slots Q ls X ta tb => lv_if_le X.1 X.2.1 d ht ta tb) ka kb
theorem nr_icmp_eq {x y : Int32} {off : Int} {tgt : Nat} (d : decode cc pc = .ok (.if_icmp .eq off, 3)) (ht : (pc : Int) + off = (tgt : Int)) (ka : x = y → nk_Sim G l own cc nL ret fr lo ini en tgt lv st h fA) (kb : ¬ x = y → nk_Sim G l own cc nL ret fr lo ini en (pc + 3) lv st h fB) : nk_Sim G l own cc nL ret fr lo ini en pc lv (.inl y :: .inl x :: st) h (if x = y then fA else fB) :=
  nk_ite (x = y) (fun p e R s m args below meth c H locs cells slots Q ls X ta tb => lv_icmp_eq X.1 X.2.1 d ht ta tb) ka kb
theorem nr_icmp_lt {x y : Int32} {off : Int} {tgt : Nat} (d : decode cc pc = .ok (.if_icmp .lt off, 3)) (ht : (pc : Int) + off = (tgt : Int)) (ka : x < y → nk_Sim G l own cc nL ret fr lo ini en tgt lv st h fA) (kb : ¬ x < y → nk_Sim G l own cc nL ret fr lo ini en (pc + 3) lv st h fB) : nk_Sim G l own cc nL ret fr lo ini en pc lv (.inl y :: .inl x :: st) h (if x < y then fA else fB) :=
  nk_ite (x < y) (fun p e R s m args below meth c H locs cells slots Q ls X ta tb => lv_icmp_lt X.1 X.2.1 d ht ta tb) ka kb
theorem nr_icmp_ge {x y : Int32} {off : Int} {tgt : Nat} (d : decode cc pc = .ok (.if_icmp .ge off, 3)) (ht : (pc : Int) + off = (tgt : Int)) (ka : y ≤ x → nk_Sim G l own cc nL ret fr lo ini en tgt lv st h fA) (kb : ¬ y ≤ x → nk_Sim G l own cc nL ret fr lo ini en (pc + 3) lv st h fB) : nk_Sim G l own cc nL ret fr lo ini en pc lv (.inl y :: .inl x :: st) h (if y ≤ x then fA else fB) :=
  nk_ite (y ≤ x) (fun p e R s m args below meth c H locs cells slots Q ls X ta tb => lv_icmp_ge X.1 X.2.1 d ht ta tb) ka kb
theorem nr_icmp_gt {x y : Int32} {off : Int} {tgt : Nat} (d : decode cc pc = .ok (.if_icmp .gt off, 3)) (ht : (pc : Int) + off = (tgt : Int)) (ka : y < x → nk_Sim G l own cc nL ret fr lo ini en tgt lv st h fA) (kb : ¬ y < x → nk_Sim G l own cc nL ret fr lo ini en (pc + 3) lv st h fB) : nk_Sim G l own cc nL ret fr lo ini en pc lv (.inl y :: .inl x :: st) h (if y < x then fA else fB) :=
  nk_ite (y < x) (fun p e R s m args below meth c H locs cells slots Q ls X ta tb => lv_icmp_gt X.1 X.2.1 d ht ta tb) ka kb
theorem nr_icmp_le {x y : Int32} {off : Int} {tgt : Nat} (d : decode cc pc = .ok (.if_icmp .le off, 3)) (ht : (pc : Int) + off = (tgt : Int)) (ka : x ≤ y → nk_Sim G l own cc nL ret fr lo ini en tgt lv st h fA) (kb : ¬ x ≤ y → nk_Sim G l own cc nL ret fr lo ini en (pc + 3) lv st h fB) : nk_Sim G l own cc nL ret fr lo ini en pc lv (.inl y :: .inl x :: st) h (if x ≤ y then fA else fB) :=
  nk_ite (x ≤ y) (fun p e R s m args below meth c H locs cells slots Q ls X ta tb => lv_icmp_le X.1 X.2.1 d ht ta tb) ka kb
theorem nr_if_ne {x : Int32} {off : Int} {tgt : Nat} (d : decode cc pc = .ok (.ifCond .ne off, 3)) (ht : (pc : Int) + off = (tgt : Int)) (ka : x = 0 → nk_Sim G l own cc nL ret fr lo ini en (pc + 3) lv st h fA) (kb : ¬ x = 0 → nk_Sim G l own cc nL ret fr lo ini en tgt lv st h fB) : nk_Sim G l own cc nL ret fr lo ini en pc lv (.inl x :: st) h (if x = 0 then fA else fB) :=
  nk_ite (x = 0) (fun p e R s m args below meth c H locs cells slots Q ls X ta tb => lv_if_ne X.1 X.2.1 d ht tb ta) ka kb
theorem nr_icmp_ne {x y : Int32} {off : Int} {tgt : Nat} (d : decode cc pc = .ok (.if_icmp .ne off, 3)) (ht : (pc : Int) + off = (tgt : Int)) (ka : x = y → nk_Sim G l own cc nL ret fr lo ini en (pc + 3) lv st h fA) (kb : ¬ x = y → nk_Sim G l own cc nL ret fr lo ini en tgt lv st h fB) : nk_Sim G l own cc nL ret fr lo ini en pc lv (.inl y :: .inl x :: st) h (if x = y then fA else fB) :=
  nk_ite (x = y) (fun p e R s m args below meth c H locs cells slots Q ls X ta tb => lv_icmp_ne X.1 X.2.1 d ht tb ta) ka kb
theorem nr_acmp_ne {x y : Option Nat} {off : Int} {tgt : Nat} (d : decode cc pc = .ok (.if_acmp .ne off, 3)) (ht : (pc : Int) + off = (tgt : Int)) (ka : x = y → nk_Sim G l own cc nL ret fr lo ini en (pc + 3) lv st h fA) (kb : ¬ x = y → nk_Sim G l own cc nL ret fr lo ini en tgt lv st h fB) : nk_Sim G l own cc nL ret fr lo ini en pc lv (.inr y :: .inr x :: st) h (if x = y then fA else fB) :=
  nk_ite (x = y) (fun p e R s m args below meth c H locs cells slots Q ls X ta tb => lv_acmp_ne X.1 X.2.1 d ht tb ta) ka kb
theorem nr_acmp_eq {x y : Option Nat} {off : Int} {tgt : Nat} (d : decode cc pc = .ok (.if_acmp .eq off, 3)) (ht : (pc : Int) + off = (tgt : Int)) (ka : x = y → nk_Sim G l own cc nL ret fr lo ini en tgt lv st h fA) (kb : ¬ x = y → nk_Sim G l own cc nL ret fr lo ini en (pc + 3) lv st h fB) : nk_Sim G l own cc nL ret fr lo ini en pc lv (.inr y :: .inr x :: st) h (if x = y then fA else fB) :=
  nk_ite (x = y) (fun p e R s m args below meth c H locs cells slots Q ls X ta tb => lv_acmp_eq X.1 X.2.1 d ht ta tb) ka kb
theorem nr_ifnull {x : Option Nat} {off : Int} {tgt : Nat} (d : decode cc pc = .ok (.ifnull off, 3)) (ht : (pc : Int) + off = (tgt : Int)) (ka : x = none → nk_Sim G l own cc nL ret fr lo ini en tgt lv st h fA) (kb : ¬ x = none → nk_Sim G l own cc nL ret fr lo ini en (pc + 3) lv st h fB) : nk_Sim G l own cc nL ret fr lo ini en pc lv (.inr x :: st) h (if x = none then fA else fB) :=
  nk_ite (x = none) (fun p e R s m args below meth c H locs cells slots Q ls X ta tb => by
    cases x with
    | none => exact lv_ifnullN X.1 X.2.1 d ht (ta rfl)
    | some a => exact lv_ifnull X.1 X.2.1 d (tb (fun z => nomatch z))) ka kb
theorem nr_ifnonnull {x : Option Nat} {off : Int} {tgt : Nat} (d : decode cc pc = .ok (.ifnonnull off, 3)) (ht : (pc : Int) + off = (tgt : Int)) (ka : x = none → nk_Sim G l own cc nL ret fr lo ini en (pc + 3) lv st h fA) (kb : ¬ x = none → nk_Sim G l own cc nL ret fr lo ini en tgt lv st h fB) : nk_Sim G l own cc nL ret fr lo ini en pc lv (.inr x :: st) h (if x = none then fA else fB) :=
  nk_ite (x = none) (fun p e R s m args below meth c H locs cells slots Q ls X ta tb => by
    cases x with
    | none => exact lv_ifnonnullN X.1 X.2.1 d (ta rfl)
    | some a => exact lv_ifnonnull X.1 X.2.1 d ht (tb (fun z => nomatch z))) ka kb
end NKR
end
section
/-! ===== rows that read and write objects and arrays ===== -/
/-- the classes' own facts: their layout's words, types, names, first values -/
def nk_ClsP (ci : Nat) (q : vw_C) : Prop := (∀ w ∈ u_ws q.1 q.2.1 q.2.2, w ∈ nk_T) ∧ (∃ ty : Nat → FieldType, (∀ k, k < q.2.2 → parseFieldDescriptor (q.2.1 k).2.2.1 = some (ty k)) ∧ ∀ k, k < q.2.2 → defaultValue (ty k) = if nk_rf ci k = true then va_rf none else .int 0) ∧ (∀ a, a < q.2.2 → ∀ b, b < q.2.2 → a ≠ b → (q.2.1 a).2.1 ≠ (q.2.1 b).2.1)
theorem nk_cls (ci : Nat) (q : vw_C) (h : nk_cl[ci]? = some q) : nk_ClsP ci q := by
  match ci, h with
  | 0, h => cases h; exact ⟨nk_ins [142, 138, 140] (by decide +kernel) (by decide +kernel), ⟨tyJx4a65c, tyJx4a65c_ok, by decide +kernel⟩, nmJx4a65c⟩
  | 1, h => cases h; exact ⟨nk_ins [924, 925, 926, 927, 928, 929, 914, 916, 918, 920, 922] (by decide +kernel) (by decide +kernel), ⟨tyX0, tyX0_ok, by decide +kernel⟩, nmX0⟩
  | 2, h => cases h; exact ⟨nk_ins [166, 168] (by decide +kernel) (by decide +kernel), ⟨tyX1, tyX1_ok, by decide +kernel⟩, nmX1⟩
  | 3, h => cases h; exact ⟨nk_ins [1021, 1023, 1025, 1027, 1029, 1031, 1033] (by decide +kernel) (by decide +kernel), ⟨tyX2, tyX2_ok, by decide +kernel⟩, nmX2⟩
  | 4, h => cases h; exact ⟨nk_ins [843, 845, 847, 849, 851, 853] (by decide +kernel) (by decide +kernel), ⟨tyX3, tyX3_ok, by decide +kernel⟩, nmX3⟩
  | 5, h => cases h; exact ⟨nk_ins [795, 796, 797, 798, 799, 800, 789, 791, 793] (by decide +kernel) (by decide +kernel), ⟨tyX4, tyX4_ok, by decide +kernel⟩, nmX4⟩
  | 6, h => cases h; exact ⟨nk_ins [188, 190, 192, 194, 196] (by decide +kernel) (by decide +kernel), ⟨tyX5, tyX5_ok, by decide +kernel⟩, nmX5⟩
  | 7, h => cases h; exact ⟨nk_ins [107, 109] (by decide +kernel) (by decide +kernel), ⟨tyX6, tyX6_ok, by decide +kernel⟩, nmX6⟩
  | 8, h => cases h; exact ⟨nk_ins [147, 149] (by decide +kernel) (by decide +kernel), ⟨tyX7, tyX7_ok, by decide +kernel⟩, nmX7⟩
  | 9, h => cases h; exact ⟨nk_ins [589, 591, 593, 595, 597, 599, 571, 573, 575, 577, 579, 581, 583, 585, 587] (by decide +kernel) (by decide +kernel), ⟨tyX9, tyX9_ok, by decide +kernel⟩, nmX9⟩
  | 10, h => cases h; exact ⟨nk_ins [747, 748, 749, 750, 751, 752, 745] (by decide +kernel) (by decide +kernel), ⟨tyX10, tyX10_ok, by decide +kernel⟩, nmX10⟩
  | 11, h => cases h; exact ⟨nk_ins [208, 210, 212, 214, 216, 218, 220, 222, 224] (by decide +kernel) (by decide +kernel), ⟨tyX11, tyX11_ok, by decide +kernel⟩, nmX11⟩
  | 12, h => cases h; exact ⟨nk_ins [1314, 1316, 1318, 1320, 1322, 1324, 1326, 1328, 1330, 1332, 1334, 1336, 1338, 1340, 1342, 1344, 1346, 1348, 1350, 1352, 1354, 1356, 1358, 1360, 1362, 1364, 1366, 1368, 1370, 1372, 1374, 1376, 1378, 1380, 1382, 1384, 1386, 1388, 1390, 1392, 1394, 1396, 1398, 1400, 1402] (by decide +kernel) (by decide +kernel), ⟨tyX12, tyX12_ok, by decide +kernel⟩, nmX12⟩
  | n + 13, h => simp [nk_cl] at h
/-- a place of a class file's pool links the field k of the class ci -/
def nk_Fl (own : String) (i ci k : Nat) : Prop := ∃ (q : vw_C) (rf : String), nk_cl[ci]? = some q ∧ k < q.2.2 ∧ Cond.fieldLink own i rf (q.2.1 k).2.1 (q.2.1 k).2.2.1 ∈ nk_T ∧ (rf = (q.2.1 k).1 ∨ Cond.sameField rf (q.2.1 k).1 (q.2.1 k).2.1 (q.2.1 k).2.2.1 ∈ nk_T)
def nk_Fk (own : String) (i k : Nat) (b : Bool) : List Nat → Prop
  | [] => True
  | c :: t => (∃ ci : Nat, c = ci + 7 ∧ nk_Fl own i ci k ∧ nk_rf ci k = b) ∧ nk_Fk own i k b t
theorem nk_Fk.get {own : String} {i k : Nat} {b : Bool} {ks : List Nat} (h : nk_Fk own i k b ks) {c : Nat} (hc : c ∈ ks) : ∃ ci : Nat, c = ci + 7 ∧ nk_Fl own i ci k ∧ nk_rf ci k = b := by
  induction ks with
  | nil => cases hc
  | cons d t ih =>
    rcases List.mem_cons.mp hc with rfl | hc
    · exact h.1
    · exact ih h.2 hc
/-- a field that is written: an int's or a reference's, not final, or final in its own constructor -/
def nk_Fw (own : String) (ini : Bool) (k : Nat) : List Nat → Prop
  | [] => True
  | c :: t => (∀ (ci : Nat) (q : vw_C), c = ci + 7 → nk_cl[ci]? = some q → ((q.2.1 k).2.2.2 = false ∨ ((q.2.1 k).2.2.2 = true ∧ ini = true ∧ (q.2.1 k).1 = own)) ∧
      ((parseFieldDescriptor (q.2.1 k).2.2.1 = some .int ∧ nk_rf ci k = false) ∨ (nk_rf ci k = true ∧ ((∃ n, parseFieldDescriptor (q.2.1 k).2.2.1 = some (.object n)) ∨ ∃ t, parseFieldDescriptor (q.2.1 k).2.2.1 = some (.array t))))) ∧ nk_Fw own ini k t
theorem nk_Fw.get {own : String} {ini : Bool} {k : Nat} {ks : List Nat} (h : nk_Fw own ini k ks) {c : Nat} (hc : c ∈ ks) : ∀ (ci : Nat) (q : vw_C), c = ci + 7 → nk_cl[ci]? = some q → ((q.2.1 k).2.2.2 = false ∨ ((q.2.1 k).2.2.2 = true ∧ ini = true ∧ (q.2.1 k).1 = own)) ∧
      ((parseFieldDescriptor (q.2.1 k).2.2.1 = some .int ∧ nk_rf ci k = false) ∨ (nk_rf ci k = true ∧ ((∃ n, parseFieldDescriptor (q.2.1 k).2.2.1 = some (.object n)) ∨ ∃ t, parseFieldDescriptor (q.2.1 k).2.2.1 = some (.array t)))) := by
  induction ks with
  | nil => cases hc
  | cons d t ih =>
    rcases List.mem_cons.mp hc with rfl | hc
    · exact h.1
    · exact ih h.2 hc
/-- the parts of the functions that may have no answer -/
def nk_gI (ks : List Nat) (k : Nat) (h : nk_H) (p : Option Nat) : Option Int32 := p.bind fun a => if nk_K h a ∈ ks then some (nk_I h a k) else none
def nk_gP (ks : List Nat) (k : Nat) (h : nk_H) (p : Option Nat) : Option (Option Nat) := p.bind fun a => if nk_K h a ∈ ks then some (nk_P h a k) else none
def nk_pI (ks : List Nat) (k : Nat) (h : nk_H) (p : Option Nat) (v : Int32) : Option nk_H := p.bind fun a => if nk_K h a ∈ ks then some (nk_sI h a k v) else none
def nk_pP (ks : List Nat) (k : Nat) (h : nk_H) (p : Option Nat) (v : Option Nat) : Option nk_H := p.bind fun a => if nk_K h a ∈ ks then some (nk_sP h a k v) else none
def nk_aI (c : Nat) (h : nk_H) (p : Option Nat) (i : Int32) : Option Int32 := p.bind fun a => if nk_K h a = c ∧ ¬ i < 0 ∧ i.toNatClampNeg < nk_L h a then some (nk_I h a i.toNatClampNeg) else none
def nk_aP (c : Nat) (h : nk_H) (p : Option Nat) (i : Int32) : Option (Option Nat) := p.bind fun a => if nk_K h a = c ∧ ¬ i < 0 ∧ i.toNatClampNeg < nk_L h a then some (nk_P h a i.toNatClampNeg) else none
def nk_wI (h : nk_H) (p : Option Nat) (i v : Int32) : Option nk_H := p.bind fun a => if nk_K h a = 1 ∧ ¬ i < 0 ∧ i.toNatClampNeg < nk_L h a then some (nk_sI h a i.toNatClampNeg v) else none
def nk_wZ (h : nk_H) (p : Option Nat) (i v : Int32) : Option nk_H := p.bind fun a => if nk_K h a = 2 ∧ ¬ i < 0 ∧ i.toNatClampNeg < nk_L h a then some (nk_sI h a i.toNatClampNeg (vp_nar .boolean v)) else none
def nk_len (h : nk_H) (p : Option Nat) : Option Int32 := p.bind fun a => if 1 ≤ nk_K h a ∧ nk_K h a ≤ 6 then some (Int32.ofNat (nk_L h a)) else if nk_K h a = 20 then some 0 else none
def nk_na (c : Nat) (h : nk_H) (n : Int32) : Option nk_H := if ¬ n < 0 ∧ n.toNatClampNeg ≤ 65536 then some (nk_al h c n.toNatClampNeg n.toNatClampNeg) else none
section NKO
variable {p : Program} {l : Launch} {e : Env} {R : Room} {s : State} {m : MethodId} {args : Array Value} {below : List Frame} {meth : Method} {c : Code} {H : Heap} {locs : List Loc} {cells slots : Nat} {Q : State → Prop} {cc : ByteArray} {pc : Nat} {ls : Array Slot} {rest : List Value} {G : nk_G} {h : nk_H} {own : String} {a : Nat}
theorem nk_wget (hx : p.tables.exec = Jvm.exec) (hb : c.code = cc) (hown : s.vm.findClass own = some m.cls) (hKn : nk_Kn G s) (hR : nk_R G h H) {i ci k : Nat} (hk : nk_K h a = ci + 7) (hF : nk_Fl own i ci k) (d : decode cc pc = .ok (.getfield i, 3))
    (kk : W p l e R s m args below meth c H locs cells slots Q (F0 m (pc + 3) ls (nk_fv h ci a k :: rest))) : W p l e R s m args below meth c H locs cells slots Q (F0 m pc ls (.ref a :: rest)) := by
  obtain ⟨q, rf, hq, hlt, hlink, hsame⟩ := hF
  obtain ⟨cell, q1, q2, q3, q4⟩ := (hR.2.2.2.2.1 a ci q hk hq).2.2
  obtain ⟨hS, hfc, kC, hkC, hkind⟩ := hKn.2.1.1 ci q hq
  obtain ⟨cf, kf, fi, f, hi, hsl⟩ := hS k hlt
  have hin := (nk_cls ci q hq).1
  have hts : ∀ w ∈ nk_T, w.before args s = true := fun w hw => hKn.use hw args
  have hi2 : s.fieldFound? rf (q.2.1 k).2.1 (q.2.1 k).2.2.1 = some (cf, kf, fi, f) := by
    rcases hsame with h1 | h1
    · rw [h1]; exact hi
    · exact u_same (hts _ h1) _ hi
  refine W.getf hx hb hown (hts _ hlink) hi2 (u_facts hfc hkC (u_lays hts hin hlt) hi).1 q1 (by rw [q3]; exact fun h => by cases h) (v := nk_fv h ci a k) ?_ rfl rfl d kk
  rw [hsl]
  exact q4 k hlt
theorem nk_wput (hx : p.tables.exec = Jvm.exec) (hb : c.code = cc) (hown : s.vm.findClass own = some m.cls) (hKn : nk_Kn G s) (hR : nk_R G h H) {i ci k : Nat} {ini : Bool} (hini : ini = true → meth.name = "<init>") {v : Value} (hk : nk_K h a = ci + 7) (hF : nk_Fl own i ci k)
    (hW : ∀ q : vw_C, nk_cl[ci]? = some q → ((q.2.1 k).2.2.2 = false ∨ ((q.2.1 k).2.2.2 = true ∧ ini = true ∧ (q.2.1 k).1 = own)) ∧ ∃ ty : FieldType, parseFieldDescriptor (q.2.1 k).2.2.1 = some ty ∧ narrow ty v = v ∧ fits ty v = true) (d : decode cc pc = .ok (.putfield i, 3))
    (kk : ∀ (H1 : Heap) (i9 : Nat) (q : vw_C), nk_cl[ci]? = some q → H1.size = H.size → (∀ x : Nat, x ≠ a → H1[x]? = H[x]?) → t_OB a ((nk_gD G).1 ci) q.2.2 ((nk_gD G).2 ci) H1 (updV (nk_fv h ci a) k v) → W p l e R s m args below meth c H1 (locs ++ [⟨a, i9⟩]) cells slots Q (F0 m (pc + 3) ls rest)) : W p l e R s m args below meth c H locs cells slots Q (F0 m pc ls (v :: .ref a :: rest)) := by
  obtain ⟨q, rf, hq, hlt, hlink, hsame⟩ := hF
  obtain ⟨cell, q1, q2, q3, q4⟩ := (hR.2.2.2.2.1 a ci q hk hq).2.2
  obtain ⟨hS, hfc, kC, hkC, hkind⟩ := hKn.2.1.1 ci q hq
  obtain ⟨cf, kf, fi, f, hi, hsl⟩ := hS k hlt
  obtain ⟨hin, ⟨ty0, hty0, -⟩, hnm⟩ := nk_cls ci q hq
  obtain ⟨hfin, ty, hd, hn, hfit⟩ := hW q hq
  have hts : ∀ w ∈ nk_T, w.before args s = true := fun w hw => hKn.use hw args
  have hi2 : s.fieldFound? rf (q.2.1 k).2.1 (q.2.1 k).2.2.1 = some (cf, kf, fi, f) := by
    rcases hsame with h1 | h1
    · rw [h1]; exact hi
    · exact u_same (hts _ h1) _ hi
  have hap := va_apart (own := own) hts hin ty0 hty0 hnm hKn.2.1 hq
  have hst := (u_facts hfc hkC (u_lays hts hin hlt) hi).1
  have hlay := hts _ (hin _ (u_in_lay hlt))
  unfold u_lay at hlay
  rcases hfin with hfin | ⟨hfin, hin2, hdecl⟩
  · rw [if_neg (by rw [hfin]; decide)] at hlay
    have h6 := u_store hfc hkC hkind hlay hi hd hn hfit
    refine W.putK hx hb (f := f) ⟨hown, hts _ hlink, ⟨_, _, _, hi2⟩, hst⟩ (by rw [q2]; exact h6) q1 q3 (by rw [hsl]; exact k2_hasslot (q4 k hlt)) rfl rfl d fun H' e1 e2 e3 => ?_
    rw [hsl] at e1 ⊢
    exact kk H' _ q hq e2 e3 ⟨_, e1, q2, q3, t_set q4 hap hlt v⟩
  · rw [if_pos hfin] at hlay
    have hcf : m.cls = cf := by
      obtain ⟨_, _, c', _, _, _, -, -, hf', -, -, -, hown2, -⟩ := Cond.laysFinal_spec hlay
      have e1 : c' = cf := by have := hi.symm.trans hf'; simp at this; exact this.1.symm
      rw [hdecl] at hown2
      rw [← e1]; exact Option.some.inj (hown.symm.trans hown2)
    have h6 := u_fits hfc hkC hkind (Or.inr hlay) hi hd hn hfit
    refine W.putFinK hx hb hown (hts _ hlink) hi2 hst hcf (hini hin2) (by rw [q2]; exact h6) q1 q3 (by rw [hsl]; exact k2_hasslot (q4 k hlt)) rfl rfl d fun H' e1 e2 e3 => ?_
    rw [hsl] at e1 ⊢
    exact kk H' _ q hq e2 e3 ⟨_, e1, q2, q3, t_set q4 hap hlt v⟩
end NKO
theorem nk_fr_app {G : nk_G} {locs : List Loc} {a i : Nat} (h : ∀ q ∈ locs, nk_fr G q.base) (ha : nk_fr G a) : ∀ q ∈ locs ++ [⟨a, i⟩], nk_fr G q.base := by
  intro q hq
  rcases List.mem_append.mp hq with h1 | h1
  · exact h q h1
  · rw [List.mem_singleton.mp h1]; exact ha
theorem nk_rf_fits {ty : FieldType} (h : (∃ n, ty = .object n) ∨ ∃ t, ty = .array t) (v : Option Nat) : narrow ty (va_rf v) = va_rf v ∧ fits ty (va_rf v) = true := by
  rcases h with ⟨n, rfl⟩ | ⟨t, rfl⟩ <;> cases v <;> exact ⟨rfl, rfl⟩
section NKR
variable {α : Type} {G : nk_G} {l : Launch} {own : String} {cc : ByteArray} {nL : Nat} {ret : Option FieldType} {fr lo : Nat} {ini : Bool} {en : α → Option Value ⊕ String} {pc : Nat} {lv lv2 : List (Nat × nk_V)} {st : List nk_V} {h : nk_H} {f fA fB : Option (nk_H × α)}
theorem nr_getI {i : Nat} (ks : List Nat) (k : Nat) {x : Option Nat} {F : Int32 → Option (nk_H × α)} (d : decode cc pc = .ok (.getfield i, 3)) (w : nk_Fk own i k false ks) (kk : ∀ v, nk_Sim G l own cc nL ret fr lo ini en (pc + 3) lv (.inl v :: st) h (F v)) : nk_Sim G l own cc nL ret fr lo ini en pc lv (.inr x :: st) h ((nk_gI ks k h x).bind F) := by
  refine nk_bind (fun v hv => nk_pure (fun p e R s m args below meth c H locs cells slots Q ls X hR hl k9 => ?_) (kk v))
  cases x with
  | none => cases hv
  | some a =>
    by_cases hm : nk_K h a ∈ ks
    · have hv2 : nk_I h a k = v := Option.some.inj ((if_pos hm).symm.trans hv)
      obtain ⟨ci, e1, hF, hrf⟩ := w.get hm
      have := nk_wget (args := args) (rest := nk_vs st) (ls := ls) X.1 X.2.1 X.2.2.2.2.2.1 X.2.2.2.2.2.2.1 hR e1 hF d (p := p) (l := l) (e := e) (R := R) (below := below) (meth := meth) (locs := locs) (cells := cells) (slots := slots) (Q := Q)
      refine this ?_
      rw [show nk_fv h ci a k = .int v by unfold nk_fv; rw [if_neg (by rw [hrf]; decide), hv2]]
      exact k9 ls hl
    · exact absurd ((if_neg hm).symm.trans hv) (fun z => nomatch z)
theorem nr_getP {i : Nat} (ks : List Nat) (k : Nat) {x : Option Nat} {F : Option Nat → Option (nk_H × α)} (d : decode cc pc = .ok (.getfield i, 3)) (w : nk_Fk own i k true ks) (kk : ∀ v, nk_Sim G l own cc nL ret fr lo ini en (pc + 3) lv (.inr v :: st) h (F v)) : nk_Sim G l own cc nL ret fr lo ini en pc lv (.inr x :: st) h ((nk_gP ks k h x).bind F) := by
  refine nk_bind (fun v hv => nk_pure (fun p e R s m args below meth c H locs cells slots Q ls X hR hl k9 => ?_) (kk v))
  cases x with
  | none => cases hv
  | some a =>
    by_cases hm : nk_K h a ∈ ks
    · have hv2 : nk_P h a k = v := Option.some.inj ((if_pos hm).symm.trans hv)
      obtain ⟨ci, e1, hF, hrf⟩ := w.get hm
      have := nk_wget (args := args) (rest := nk_vs st) (ls := ls) X.1 X.2.1 X.2.2.2.2.2.1 X.2.2.2.2.2.2.1 hR e1 hF d (p := p) (l := l) (e := e) (R := R) (below := below) (meth := meth) (locs := locs) (cells := cells) (slots := slots) (Q := Q)
      refine this ?_
      rw [show nk_fv h ci a k = va_rf v by unfold nk_fv; rw [if_pos hrf, hv2]]
      exact k9 ls hl
    · exact absurd ((if_neg hm).symm.trans hv) (fun z => nomatch z)
theorem nr_putI {i : Nat} (ks : List Nat) (k : Nat) {x : Option Nat} {v : Int32} {F : nk_H → Option (nk_H × α)} (d : decode cc pc = .ok (.putfield i, 3)) (w : nk_Fk own i k false ks) (w2 : nk_Fw own ini k ks) (kk : ∀ h1, nk_Sim G l own cc nL ret fr lo ini en (pc + 3) lv st h1 (F h1)) : nk_Sim G l own cc nL ret fr lo ini en pc lv (.inl v :: .inr x :: st) h ((nk_pI ks k h x v).bind F) := by
  refine nk_bind (fun h1 hv => ?_)
  cases x with
  | none => cases hv
  | some a =>
    by_cases hm : nk_K h a ∈ ks
    · have hv2 : nk_sI h a k v = h1 := Option.some.inj ((if_pos hm).symm.trans hv)
      subst hv2
      obtain ⟨ci, e1, hF, hrf⟩ := w.get hm
      refine nk_heap (nk_N_sI h a k v) (nk_S_sI h a k v) (fun p e R s m args below meth c H locs cells slots Q ls X hR hl hq k9 => ?_) (kk _)
      refine nk_wput (args := args) (ini := ini) (v := .int v) X.1 X.2.1 X.2.2.2.2.2.1 X.2.2.2.2.2.2.1 hR X.2.2.2.2.2.2.2.2.2.2.2.2 e1 hF (fun q hq9 => ?_) d (fun H1 i9 q hq9 z o hB => ?_)
      · obtain ⟨g1, g2⟩ := w2.get hm ci q e1 hq9
        rcases g2 with ⟨g2, -⟩ | ⟨g2, -⟩
        · exact ⟨g1, .int, g2, rfl, rfl⟩
        · rw [hrf] at g2; cases g2
      · exact k9 H1 _ (nk_R_sI hR e1 hq9 hrf z o hB) (nk_fr_app hq (hR.2.2.2.2.1 a ci q e1 hq9).1)
    · exact absurd ((if_neg hm).symm.trans hv) (fun z => nomatch z)
theorem nr_putP {i : Nat} (ks : List Nat) (k : Nat) {x : Option Nat} {v : Option Nat} {F : nk_H → Option (nk_H × α)} (d : decode cc pc = .ok (.putfield i, 3)) (w : nk_Fk own i k true ks) (w2 : nk_Fw own ini k ks) (kk : ∀ h1, nk_Sim G l own cc nL ret fr lo ini en (pc + 3) lv st h1 (F h1)) : nk_Sim G l own cc nL ret fr lo ini en pc lv (.inr v :: .inr x :: st) h ((nk_pP ks k h x v).bind F) := by
  refine nk_bind (fun h1 hv => ?_)
  cases x with
  | none => cases hv
  | some a =>
    by_cases hm : nk_K h a ∈ ks
    · have hv2 : nk_sP h a k v = h1 := Option.some.inj ((if_pos hm).symm.trans hv)
      subst hv2
      obtain ⟨ci, e1, hF, hrf⟩ := w.get hm
      refine nk_heap (nk_N_sP h a k v) (nk_S_sP h a k v) (fun p e R s m args below meth c H locs cells slots Q ls X hR hl hq k9 => ?_) (kk _)
      refine nk_wput (args := args) (ini := ini) (v := va_rf v) X.1 X.2.1 X.2.2.2.2.2.1 X.2.2.2.2.2.2.1 hR X.2.2.2.2.2.2.2.2.2.2.2.2 e1 hF (fun q hq9 => ?_) d (fun H1 i9 q hq9 z o hB => ?_)
      · obtain ⟨g1, g2⟩ := w2.get hm ci q e1 hq9
        rcases g2 with ⟨-, g2⟩ | ⟨-, ⟨n, g2⟩ | ⟨t, g2⟩⟩
        · rw [hrf] at g2; cases g2
        · exact ⟨g1, _, g2, nk_rf_fits (Or.inl ⟨n, rfl⟩) v⟩
        · exact ⟨g1, _, g2, nk_rf_fits (Or.inr ⟨t, rfl⟩) v⟩
      · exact k9 H1 _ (nk_R_sP hR e1 hq9 hrf z o hB) (nk_fr_app hq (hR.2.2.2.2.1 a ci q e1 hq9).1)
    · exact absurd ((if_neg hm).symm.trans hv) (fun z => nomatch z)
theorem nk_tyAt {s : State} (hKn : nk_Kn G s) (j : Nat) {q : ClassId × FieldType} (hj : (nk_tys G)[j]? = some q) : ArrOfT s q.1 q.2 ∧ va_RA s q.1 q.2 := hKn.2.1.2 j q hj
theorem nr_iaload {x : Option Nat} {i : Int32} {F : Int32 → Option (nk_H × α)} (d : decode cc pc = .ok (.iaload, 1)) (kk : ∀ v, nk_Sim G l own cc nL ret fr lo ini en (pc + 1) lv (.inl v :: st) h (F v)) : nk_Sim G l own cc nL ret fr lo ini en pc lv (.inl i :: .inr x :: st) h ((nk_aI 1 h x i).bind F) := by
  refine nk_bind (fun v hv => nk_pure (fun p e R s m args below meth c H locs cells slots Q ls X hR hl k9 => ?_) (kk v))
  cases x with
  | none => cases hv
  | some a =>
    by_cases hm : nk_K h a = 1 ∧ ¬ i < 0 ∧ i.toNatClampNeg < nk_L h a
    · have hv2 : nk_I h a i.toNatClampNeg = v := Option.some.inj ((if_pos hm).symm.trans hv)
      obtain ⟨hc, h0, hlt⟩ := hm
      have hcell := (hR.2.2.2.1 a (by omega) (by omega)).2.2
      rw [hc] at hcell
      exact W.iald (v := .int v) X.1 X.2.1 hcell ((nk_tyAt X.2.2.2.2.2.2.1 0 rfl).1 _ _) (fun q => by cases q) (by rw [arrV_size]; exact fun q => q.elim h0 (Nat.not_le.mpr hlt)) (by rw [arrV_read _ _ hlt, ← hv2]; rfl) rfl rfl d (k9 ls hl)
    · exact absurd ((if_neg hm).symm.trans hv) (fun z => nomatch z)
theorem nr_baload {x : Option Nat} {i : Int32} {F : Int32 → Option (nk_H × α)} (d : decode cc pc = .ok (.baload, 1)) (kk : ∀ v, nk_Sim G l own cc nL ret fr lo ini en (pc + 1) lv (.inl v :: st) h (F v)) : nk_Sim G l own cc nL ret fr lo ini en pc lv (.inl i :: .inr x :: st) h ((nk_aI 2 h x i).bind F) := by
  refine nk_bind (fun v hv => nk_pure (fun p e R s m args below meth c H locs cells slots Q ls X hR hl k9 => ?_) (kk v))
  cases x with
  | none => cases hv
  | some a =>
    by_cases hm : nk_K h a = 2 ∧ ¬ i < 0 ∧ i.toNatClampNeg < nk_L h a
    · have hv2 : nk_I h a i.toNatClampNeg = v := Option.some.inj ((if_pos hm).symm.trans hv)
      obtain ⟨hc, h0, hlt⟩ := hm
      have hcell := (hR.2.2.2.1 a (by omega) (by omega)).2.2
      rw [hc] at hcell
      exact W.zald (v := .int v) X.1 X.2.1 hcell ((nk_tyAt X.2.2.2.2.2.2.1 1 rfl).1 _ _) (fun q => by cases q) (by rw [arrV_size]; exact fun q => q.elim h0 (Nat.not_le.mpr hlt)) (by rw [arrV_read _ _ hlt, ← hv2]; rfl) rfl rfl d (k9 ls hl)
    · exact absurd ((if_neg hm).symm.trans hv) (fun z => nomatch z)
theorem nr_aaload (j : Nat) {x : Option Nat} {i : Int32} {F : Option Nat → Option (nk_H × α)} (d : decode cc pc = .ok (.aaload, 1)) (hj : j = 3 ∨ j = 4 ∨ j = 5) (kk : ∀ v, nk_Sim G l own cc nL ret fr lo ini en (pc + 1) lv (.inr v :: st) h (F v)) : nk_Sim G l own cc nL ret fr lo ini en pc lv (.inl i :: .inr x :: st) h ((nk_aP j h x i).bind F) := by
  refine nk_bind (fun v hv => nk_pure (fun p e R s m args below meth c H locs cells slots Q ls X hR hl k9 => ?_) (kk v))
  cases x with
  | none => cases hv
  | some a =>
    by_cases hm : nk_K h a = j ∧ ¬ i < 0 ∧ i.toNatClampNeg < nk_L h a
    · have hv2 : nk_P h a i.toNatClampNeg = v := Option.some.inj ((if_pos hm).symm.trans hv)
      obtain ⟨hc, h0, hlt⟩ := hm
      have hcell := (hR.2.2.2.1 a (by omega) (by omega)).2.2
      rw [hc] at hcell
      rcases hj with rfl | rfl | rfl
      · exact W.aald (v := va_rf v) (ty := .object "NotaryKiosk$Chain") X.1 X.2.1 hcell ((nk_tyAt X.2.2.2.2.2.2.1 2 rfl).1 _ _) rfl (fun q => by cases q) (by rw [arrV_size]; exact fun q => q.elim h0 (Nat.not_le.mpr hlt)) (by rw [arrV_read _ _ hlt, ← hv2]; rfl) rfl rfl d (k9 ls hl)
      · exact W.aald (v := va_rf v) (ty := .object "java/lang/Object") X.1 X.2.1 hcell ((nk_tyAt X.2.2.2.2.2.2.1 3 rfl).1 _ _) rfl (fun q => by cases q) (by rw [arrV_size]; exact fun q => q.elim h0 (Nat.not_le.mpr hlt)) (by rw [arrV_read _ _ hlt, ← hv2]; rfl) rfl rfl d (k9 ls hl)
      · exact W.aald (v := va_rf v) (ty := .array .int) X.1 X.2.1 hcell ((nk_tyAt X.2.2.2.2.2.2.1 4 rfl).1 _ _) rfl (fun q => by cases q) (by rw [arrV_size]; exact fun q => q.elim h0 (Nat.not_le.mpr hlt)) (by rw [arrV_read _ _ hlt, ← hv2]; rfl) rfl rfl d (k9 ls hl)
    · exact absurd ((if_neg hm).symm.trans hv) (fun z => nomatch z)
theorem nr_iastore {x : Option Nat} {i v : Int32} {F : nk_H → Option (nk_H × α)} (d : decode cc pc = .ok (.iastore, 1)) (kk : ∀ h1, nk_Sim G l own cc nL ret fr lo ini en (pc + 1) lv st h1 (F h1)) : nk_Sim G l own cc nL ret fr lo ini en pc lv (.inl v :: .inl i :: .inr x :: st) h ((nk_wI h x i v).bind F) := by
  refine nk_bind (fun h1 hv => ?_)
  cases x with
  | none => cases hv
  | some a =>
    by_cases hm : nk_K h a = 1 ∧ ¬ i < 0 ∧ i.toNatClampNeg < nk_L h a
    · have hv2 : nk_sI h a i.toNatClampNeg v = h1 := Option.some.inj ((if_pos hm).symm.trans hv)
      subst hv2
      obtain ⟨hc, h0, hlt⟩ := hm
      refine nk_heap (nk_N_sI h a _ v) (nk_S_sI h a _ v) (fun p e R s m args below meth c H locs cells slots Q ls X hR hl hq k9 => ?_) (kk _)
      have hA := hR.2.2.2.1 a (by omega) (by omega)
      have hcell := hA.2.2
      have hcell2 := hcell
      rw [hc] at hcell2
      refine W.iast X.1 X.2.1 hcell2 ((nk_tyAt X.2.2.2.2.2.2.1 0 rfl).1 _ _) (fun q => by cases q) (by rw [arrV_size]; exact fun q => q.elim h0 (Nat.not_le.mpr hlt)) rfl rfl d fun H1 e1 z o => ?_
      rw [arrV_store] at e1
      exact k9 H1 _ (nk_R_aI hR (by omega) (by omega) (Or.inl ⟨by omega, rfl⟩) z o (by rw [hc]; exact e1)) (nk_fr_app hq hA.1)
    · exact absurd ((if_neg hm).symm.trans hv) (fun z => nomatch z)
theorem nr_bastore {x : Option Nat} {i v : Int32} {F : nk_H → Option (nk_H × α)} (d : decode cc pc = .ok (.bastore, 1)) (kk : ∀ h1, nk_Sim G l own cc nL ret fr lo ini en (pc + 1) lv st h1 (F h1)) : nk_Sim G l own cc nL ret fr lo ini en pc lv (.inl v :: .inl i :: .inr x :: st) h ((nk_wZ h x i v).bind F) := by
  refine nk_bind (fun h1 hv => ?_)
  cases x with
  | none => cases hv
  | some a =>
    by_cases hm : nk_K h a = 2 ∧ ¬ i < 0 ∧ i.toNatClampNeg < nk_L h a
    · have hv2 : nk_sI h a i.toNatClampNeg (vp_nar .boolean v) = h1 := Option.some.inj ((if_pos hm).symm.trans hv)
      subst hv2
      obtain ⟨hc, h0, hlt⟩ := hm
      refine nk_heap (nk_N_sI h a _ _) (nk_S_sI h a _ _) (fun p e R s m args below meth c H locs cells slots Q ls X hR hl hq k9 => ?_) (kk _)
      have hA := hR.2.2.2.1 a (by omega) (by omega)
      have hcell := hA.2.2
      have hcell2 := hcell
      rw [hc] at hcell2
      refine W.zast X.1 X.2.1 hcell2 ((nk_tyAt X.2.2.2.2.2.2.1 1 rfl).1 _ _) (fun q => by cases q) (by rw [arrV_size]; exact fun q => q.elim h0 (Nat.not_le.mpr hlt)) rfl rfl d fun H1 e1 z o => ?_
      rw [arrV_store] at e1
      exact k9 H1 _ (nk_R_aI hR (by omega) (by omega) (Or.inl ⟨by omega, rfl⟩) z o (by rw [hc]; exact e1)) (nk_fr_app hq hA.1)
    · exact absurd ((if_neg hm).symm.trans hv) (fun z => nomatch z)
theorem nr_alen {x : Option Nat} {F : Int32 → Option (nk_H × α)} (d : decode cc pc = .ok (.arraylength, 1)) (kk : ∀ v, nk_Sim G l own cc nL ret fr lo ini en (pc + 1) lv (.inl v :: st) h (F v)) : nk_Sim G l own cc nL ret fr lo ini en pc lv (.inr x :: st) h ((nk_len h x).bind F) := by
  refine nk_bind (fun v hv => nk_pure (fun p e R s m args below meth c H locs cells slots Q ls X hR hl k9 => ?_) (kk v))
  cases x with
  | none => cases hv
  | some a =>
    by_cases hm : 1 ≤ nk_K h a ∧ nk_K h a ≤ 6
    · have hv2 : Int32.ofNat (nk_L h a) = v := Option.some.inj ((if_pos hm).symm.trans hv)
      have hcell := (hR.2.2.2.1 a hm.1 hm.2).2.2
      have hE : ∃ ty, s.isArrayOf (arrV (nk_gA G (nk_K h a)) (nk_L h a) (nk_el h (nk_K h a) a)) ty := by
        have : nk_K h a = 1 ∨ nk_K h a = 2 ∨ nk_K h a = 3 ∨ nk_K h a = 4 ∨ nk_K h a = 5 ∨ nk_K h a = 6 := by omega
        rcases this with e1 | e1 | e1 | e1 | e1 | e1 <;> rw [e1]
        · exact ⟨_, (nk_tyAt X.2.2.2.2.2.2.1 0 rfl).1 _ _⟩
        · exact ⟨_, (nk_tyAt X.2.2.2.2.2.2.1 1 rfl).1 _ _⟩
        · exact ⟨_, (nk_tyAt X.2.2.2.2.2.2.1 2 rfl).1 _ _⟩
        · exact ⟨_, (nk_tyAt X.2.2.2.2.2.2.1 3 rfl).1 _ _⟩
        · exact ⟨_, (nk_tyAt X.2.2.2.2.2.2.1 4 rfl).1 _ _⟩
        · exact ⟨_, (nk_tyAt X.2.2.2.2.2.2.1 5 rfl).1 _ _⟩
      obtain ⟨ty, hty⟩ := hE
      exact W.alen (n := v) X.1 X.2.1 hcell hty (by rw [arrV_size, ← hv2] <;> rfl) rfl rfl d (k9 ls hl)
    · by_cases hm2 : nk_K h a = 20
      · have hv2 : (0 : Int32) = v := Option.some.inj ((if_pos hm2).symm.trans ((if_neg hm).symm.trans hv))
        have ha : a = nk_gE G := hR.2.2.2.2.2.1 a hm2
        obtain ⟨cell, c1, c2, c3⟩ := X.2.2.2.2.2.2.1.2.2.2.2.2.2.2.1
        have hlt : nk_gE G < (nk_gH G).size := (Array.getElem?_eq_some_iff.mp c1).1
        exact W.alen (n := v) X.1 X.2.1 (by rw [ha, hR.2.2.1 _ hlt]; exact c1) c2 (by rw [c3, ← hv2] <;> rfl) rfl rfl d (k9 ls hl)
      · exact absurd ((if_neg hm2).symm.trans ((if_neg hm).symm.trans hv)) (fun z => nomatch z)
end NKR
end
section
section NKX
variable {p : Program} {l : Launch} {e : Env} {R : Room} {s : State} {m : MethodId} {args : Array Value} {below : List Frame} {meth : Method} {c : Code} {H : Heap} {locs : List Loc} {cells slots : Nat}
variable {mc ms : Nat} {free : Addr → Prop} {ls : Array Slot} {rest : List Value} {Qc : Array Value → State → Outcome → State → Prop} {XC : String → State → State → Prop}
/-! the two laws of a throw, with how many cells there are behind it (out of the kit's vx_throwS, vx_throwSW) -/
theorem nk_throwS {cc : ByteArray} {pc : Nat} (hexec : p.tables.exec = Jvm.exec) (hb : c.code = cc) (hl : l.stackTraces = false) {own cls text : String} {names : List String} {ik is ic mc ms sa : Nat} {A : Nat → Prop}
    (hown : s.vm.findClass own = some m.cls) (hcls : Bundle.fit cls = true) (hnames : ∀ n ∈ names, Bundle.fit n = true)
    (hk : (Cond.classLink own ik cls).before args s = true) (hini : (Cond.initialized cls).before args s = true) (hstr : vk_R own is text sa s) (hat : ∀ w ∈ vx_atS own ic cls names, w.before args s = true)
    (hgood : ∀ w ∈ Cond.classLink own ik cls :: Cond.initialized cls :: vx_atS own ic cls names, vx_ot w = true)
    (hU : vx_Zq Bundle.tN "UNASSIGNED_STACK" Bundle.steD A s s.heap) (hN : vx_Zq Bundle.tN "SUPPRESSED_SENTINEL" Bundle.listD A s s.heap) (hS : va_S A s.heap H locs) (hsize : ls.size = c.maxLocals)
    (d0 : decode cc pc = .ok (.new ik, 3)) (d3 : decode cc (pc + 3) = .ok (.dup, 1)) (d4 : decode cc (pc + 4) = .ok (.ldc is, 2)) (d6 : decode cc (pc + 6) = .ok (.invokespecial ic, 3)) (d9 : decode cc (pc + 9) = .ok (.athrow, 1))
    (hout : ∀ x ∈ c.exceptionTable.toList, covers x (pc + 9) = false)
    (hRframes : names.length + 3 < R.frames) (hRlocals : (rest.map fun v => v.category).sum + (13 * (names.length + 1) + 43) ≤ R.locals) (hRcells : cells + 1 ≤ R.cells) (hRslots : slots + 6 ≤ R.slots) (hlocks : meth.locks = false)
    (hx : ∀ t : State, s.vm.Alike t.vm → t.heap.size = H.size + 1 → (∀ q : Nat, q < H.size → t.heap[q]? = H[q]?) → XC cls s t)
    (hf : ∀ z ∈ locs, free z.base) (hc : cells + 1 ≤ mc) (hs : slots + 6 ≤ ms) :
    W p l e R s m args below meth c H locs cells slots (vx_MQ below Qc XC args s mc ms free) (F0 m pc ls rest) := by
  intro T hT X
  have htr : e.platform.stackTraces = false := (show e.platform.stackTraces = l.stackTraces by rw [X.admits.platform]).trans hl
  have Y := vx_rebase X (R' := { frames := R.frames, locals := R.locals, cells := 1, slots := 6 }) (Nat.le_refl _) (Nat.le_refl _) hRcells hRslots
  obtain ⟨s', hA⟩ : ∃ z, z = (T.setVm s.vm).setFrames (.invoking m args :: below) := ⟨_, rfl⟩
  rw [← hA] at Y
  have hvm : s'.vm = s.vm := by rw [hA]; rfl
  have hhp : s'.heap = H := by rw [hA]; exact hT
  have hW0 : s.WarmedH s'.vm := by rw [hvm]; exact State.WarmedH.refl s
  have hat' : ∀ w ∈ vx_atS own ic cls names, w.before args s' = true := fun w hw => vx_ot_at hW0 hvm.symm (hgood w (List.mem_cons_of_mem _ (List.mem_cons_of_mem _ hw))) (hat w hw)
  have hk' : (Cond.classLink own ik cls).before args s' = true := vx_ot_at hW0 hvm.symm (hgood _ List.mem_cons_self) hk
  have hini' : (Cond.initialized cls).before args s' = true := vx_ot_at hW0 hvm.symm (hgood _ (List.mem_cons_of_mem _ List.mem_cons_self)) hini
  have hU' : vx_Zq Bundle.tN "UNASSIGNED_STACK" Bundle.steD A s' s'.heap := by rw [hhp]; exact vx_Zq.moved hW0.alike (hU.kept hS.2.1)
  have hN' : vx_Zq Bundle.tN "SUPPRESSED_SENTINEL" Bundle.listD A s' s'.heap := by rw [hhp]; exact vx_Zq.moved hW0.alike (hN.kept hS.2.1)
  have h : ∀ w ∈ Bundle.ownAtoms own ic cls names, w.before args s' = true := vx_own hat' (vx_isRefq hU'.1) (vx_isRefq hN'.1) hU'.2.word hN'.2.word
  have hown' : s'.vm.findClass own = some m.cls := by rw [hvm]; exact hown
  have hins : (Cond.instantiable cls 6).before args s' = true := h _ (by simp [Bundle.ownAtoms])
  obtain ⟨vm₁, cX, kX, hfX, hkX, -, -, X₁, st1⟩ := Y.newCold hexec (own := own) (C := cls) (index := ik) (n := 6) hown' hk' hins hini'
    (g := F0 m pc ls rest) rfl (by rw [hb]; exact d0) (Nat.le_refl _) (Nat.le_refl _)
  generalize hT1 : (T.setVm vm₁).pushCell { cls := cX, slots := kX.instanceTypes.map defaultValue, vm := .none } = T1 at X₁ st1
  have hcat : (Value.ref T.heap.size).category = 1 := rfl
  have hcellA : T1.heap[T.heap.size]? = some (freshCell cX kX) := by rw [← hT1]; exact State.heap_pushCell_size _ _
  have d3' : decode c.code (pc + 3) = .ok (.dup, 1) := by rw [hb]; exact d3
  have d4' : decode c.code (pc + 4) = .ok (.ldc is, 2) := by rw [hb]; exact d4
  have hstr' : vk_R own is text sa s' := vk_R.warm hW0 hstr
  obtain ⟨U, hsteps, hrun, hend, hW, hsame, ce, hce, hO⟩ := X₁.ctorThrowS hexec htr (own := own) (cls := cls) (names := names) (ic := ic) hown' hcls hnames h (fun x hx => nomatch hx) hfX hkX hcellA (by rw [hhp, hT]; exact Nat.le_refl _) (msg := .ref sa) rfl
    (g := { method := m, pc := pc + 6, locals := ls, stack := .ref sa :: .ref T.heap.size :: .ref T.heap.size :: rest, locked := none }) rfl hsize rfl rfl (rest := rest) rfl
    (by rw [hb]; exact d6) (by rw [hb]; exact d9) hout hRframes (by simp only [List.map_cons, List.sum_cons, hcat]; omega) hlocks
  obtain ⟨f1, f2⟩ := vx_frame hsame
  rw [hhp] at f1 f2
  have hsz9 : U.heap.size = H.size + 1 := by
    have h1 : T.heap.size < U.heap.size := (Array.getElem?_eq_some_iff.mp hce).1
    have h2 : U.heap.size ≤ s'.heap.size + 1 := hsame.2.2.1
    rw [hhp] at h2
    rw [hT] at h1
    omega
  have hWs : s.WarmedH U.vm := State.WarmedH.trans hW0 hW
  have hcl : s.vm.findClass cls = some ce.cls := by
    have h9 := hO.cls
    rw [hvm] at h9
    exact h9
  have hall : s.sameButNew ({ U with vm := s.vm } : State) locs mc ms := by
    subst hA
    obtain ⟨e1, e2⟩ := hsame
    rw [State.setFrames_setFrames] at e1
    have h2 : (T.setVm s.vm).sameButNew ({ U with vm := s.vm } : State) [] (0 + 1) (0 + 6) := ⟨e1, e2⟩
    have h3 := X.same.trans h2
    rw [List.append_nil] at h3
    exact h3.mono hc hs
  refine ⟨U, ?_, .threw T.heap.size, hrun, hend, Or.inr ⟨T.heap.size, rfl, cls, ce, locs, hx U hWs.alike hsz9 (fun q hq => f2 q hq (fun z hz => nomatch hz)), hce, hO.vm, hcl, hWs, hall, hf⟩⟩
  refine st1 _ ?_
  show Steps p.tables e below (T1.setTop { method := m, pc := pc + 3, locals := ls, stack := .ref T.heap.size :: rest, locked := none }) _
  jvm_step X₁.here [X₁.here.top, hexec, d3', Value.category]
  exact X₁.ldcString hexec (own := own) (text := text) (index := is) (a := sa) hown' hstr'.1 hstr'.2
    (g := { method := m, pc := pc + 4, locals := ls, stack := .ref T.heap.size :: .ref T.heap.size :: rest, locked := none }) rfl d4' _ hsteps
theorem nk_throwSW {cc : ByteArray} {pc : Nat} (hexec : p.tables.exec = Jvm.exec) (hb : c.code = cc) (hl : l.stackTraces = false) {own cls text : String} {names : List String} {ik is ic mc ms sa : Nat} {A : Nat → Prop}
    (hown : s.vm.findClass own = some m.cls) (hcls : Bundle.fit cls = true) (hnames : ∀ n ∈ names, Bundle.fit n = true)
    (hk : (Cond.classLink own ik cls).before args s = true) (hini : (Cond.initialized cls).before args s = true) (hstr : vk_R own is text sa s) (hat : ∀ w ∈ vx_atS own ic cls names, w.before args s = true)
    (hgood : ∀ w ∈ Cond.classLink own ik cls :: Cond.initialized cls :: vx_atS own ic cls names, vx_ot w = true)
    (hU : vx_Zq Bundle.tN "UNASSIGNED_STACK" Bundle.steD A s s.heap) (hN : vx_Zq Bundle.tN "SUPPRESSED_SENTINEL" Bundle.listD A s s.heap) (hS : va_S A s.heap H locs) (hsize : ls.size = c.maxLocals)
    (d0 : decode cc pc = .ok (.new ik, 3)) (d3 : decode cc (pc + 3) = .ok (.dup, 1)) (d4 : decode cc (pc + 4) = .ok (.ldc_w is, 3)) (d7 : decode cc (pc + 7) = .ok (.invokespecial ic, 3)) (d10 : decode cc (pc + 10) = .ok (.athrow, 1))
    (hout : ∀ x ∈ c.exceptionTable.toList, covers x (pc + 10) = false)
    (hRframes : names.length + 3 < R.frames) (hRlocals : (rest.map fun v => v.category).sum + (13 * (names.length + 1) + 43) ≤ R.locals) (hRcells : cells + 1 ≤ R.cells) (hRslots : slots + 6 ≤ R.slots) (hlocks : meth.locks = false)
    (hx : ∀ t : State, s.vm.Alike t.vm → t.heap.size = H.size + 1 → (∀ q : Nat, q < H.size → t.heap[q]? = H[q]?) → XC cls s t)
    (hf : ∀ z ∈ locs, free z.base) (hc : cells + 1 ≤ mc) (hs : slots + 6 ≤ ms) :
    W p l e R s m args below meth c H locs cells slots (vx_MQ below Qc XC args s mc ms free) (F0 m pc ls rest) := by
  intro T hT X
  have htr : e.platform.stackTraces = false := (show e.platform.stackTraces = l.stackTraces by rw [X.admits.platform]).trans hl
  have Y := vx_rebase X (R' := { frames := R.frames, locals := R.locals, cells := 1, slots := 6 }) (Nat.le_refl _) (Nat.le_refl _) hRcells hRslots
  obtain ⟨s', hA⟩ : ∃ z, z = (T.setVm s.vm).setFrames (.invoking m args :: below) := ⟨_, rfl⟩
  rw [← hA] at Y
  have hvm : s'.vm = s.vm := by rw [hA]; rfl
  have hhp : s'.heap = H := by rw [hA]; exact hT
  have hW0 : s.WarmedH s'.vm := by rw [hvm]; exact State.WarmedH.refl s
  have hat' : ∀ w ∈ vx_atS own ic cls names, w.before args s' = true := fun w hw => vx_ot_at hW0 hvm.symm (hgood w (List.mem_cons_of_mem _ (List.mem_cons_of_mem _ hw))) (hat w hw)
  have hk' : (Cond.classLink own ik cls).before args s' = true := vx_ot_at hW0 hvm.symm (hgood _ List.mem_cons_self) hk
  have hini' : (Cond.initialized cls).before args s' = true := vx_ot_at hW0 hvm.symm (hgood _ (List.mem_cons_of_mem _ List.mem_cons_self)) hini
  have hU' : vx_Zq Bundle.tN "UNASSIGNED_STACK" Bundle.steD A s' s'.heap := by rw [hhp]; exact vx_Zq.moved hW0.alike (hU.kept hS.2.1)
  have hN' : vx_Zq Bundle.tN "SUPPRESSED_SENTINEL" Bundle.listD A s' s'.heap := by rw [hhp]; exact vx_Zq.moved hW0.alike (hN.kept hS.2.1)
  have h : ∀ w ∈ Bundle.ownAtoms own ic cls names, w.before args s' = true := vx_own hat' (vx_isRefq hU'.1) (vx_isRefq hN'.1) hU'.2.word hN'.2.word
  have hown' : s'.vm.findClass own = some m.cls := by rw [hvm]; exact hown
  have hins : (Cond.instantiable cls 6).before args s' = true := h _ (by simp [Bundle.ownAtoms])
  obtain ⟨vm₁, cX, kX, hfX, hkX, -, -, X₁, st1⟩ := Y.newCold hexec (own := own) (C := cls) (index := ik) (n := 6) hown' hk' hins hini'
    (g := F0 m pc ls rest) rfl (by rw [hb]; exact d0) (Nat.le_refl _) (Nat.le_refl _)
  generalize hT1 : (T.setVm vm₁).pushCell { cls := cX, slots := kX.instanceTypes.map defaultValue, vm := .none } = T1 at X₁ st1
  have hcat : (Value.ref T.heap.size).category = 1 := rfl
  have hcellA : T1.heap[T.heap.size]? = some (freshCell cX kX) := by rw [← hT1]; exact State.heap_pushCell_size _ _
  have d3' : decode c.code (pc + 3) = .ok (.dup, 1) := by rw [hb]; exact d3
  have d4' : decode c.code (pc + 4) = .ok (.ldc_w is, 3) := by rw [hb]; exact d4
  have hstr' : vk_R own is text sa s' := vk_R.warm hW0 hstr
  obtain ⟨U, hsteps, hrun, hend, hW, hsame, ce, hce, hO⟩ := X₁.ctorThrowS hexec htr (own := own) (cls := cls) (names := names) (ic := ic) hown' hcls hnames h (fun x hx => nomatch hx) hfX hkX hcellA (by rw [hhp, hT]; exact Nat.le_refl _) (msg := .ref sa) rfl
    (g := { method := m, pc := pc + 7, locals := ls, stack := .ref sa :: .ref T.heap.size :: .ref T.heap.size :: rest, locked := none }) rfl hsize rfl rfl (rest := rest) rfl
    (by rw [hb]; exact d7) (by rw [hb]; exact d10) hout hRframes (by simp only [List.map_cons, List.sum_cons, hcat]; omega) hlocks
  obtain ⟨f1, f2⟩ := vx_frame hsame
  rw [hhp] at f1 f2
  have hsz9 : U.heap.size = H.size + 1 := by
    have h1 : T.heap.size < U.heap.size := (Array.getElem?_eq_some_iff.mp hce).1
    have h2 : U.heap.size ≤ s'.heap.size + 1 := hsame.2.2.1
    rw [hhp] at h2
    rw [hT] at h1
    omega
  have hWs : s.WarmedH U.vm := State.WarmedH.trans hW0 hW
  have hcl : s.vm.findClass cls = some ce.cls := by
    have h9 := hO.cls
    rw [hvm] at h9
    exact h9
  have hall : s.sameButNew ({ U with vm := s.vm } : State) locs mc ms := by
    subst hA
    obtain ⟨e1, e2⟩ := hsame
    rw [State.setFrames_setFrames] at e1
    have h2 : (T.setVm s.vm).sameButNew ({ U with vm := s.vm } : State) [] (0 + 1) (0 + 6) := ⟨e1, e2⟩
    have h3 := X.same.trans h2
    rw [List.append_nil] at h3
    exact h3.mono hc hs
  refine ⟨U, ?_, .threw T.heap.size, hrun, hend, Or.inr ⟨T.heap.size, rfl, cls, ce, locs, hx U hWs.alike hsz9 (fun q hq => f2 q hq (fun z hz => nomatch hz)), hce, hO.vm, hcl, hWs, hall, hf⟩⟩
  refine st1 _ ?_
  show Steps p.tables e below (T1.setTop { method := m, pc := pc + 3, locals := ls, stack := .ref T.heap.size :: rest, locked := none }) _
  jvm_step X₁.here [X₁.here.top, hexec, d3', Value.category]
  exact X₁.ldcStringW hexec (own := own) (text := text) (index := is) (a := sa) hown' hstr'.1 hstr'.2
    (g := { method := m, pc := pc + 4, locals := ls, stack := .ref T.heap.size :: .ref T.heap.size :: rest, locked := none }) rfl d4' _ hsteps
end NKX
/-! ===== makings, ends, throws, calls ===== -/
section NKC
variable {α : Type} {G : nk_G} {l : Launch} {own : String} {cc : ByteArray} {nL : Nat} {ret : Option FieldType} {fr lo : Nat} {ini : Bool} {en : α → Option Value ⊕ String} {pc : Nat} {lv lv2 : List (Nat × nk_V)} {st : List nk_V} {h : nk_H} {f fA fB : Option (nk_H × α)}
theorem nr_new {i w : Nat} (ci : Nat) {q : vw_C} (hq : nk_cl[ci]? = some q) (d : decode cc pc = .ok (.new i, 3)) (w1 : Cond.classLink own i q.1 ∈ nk_T) (w2 : Cond.instantiable q.1 q.2.2 ∈ nk_T) (w3 : Cond.initialized q.1 ∈ nk_T) (hw : q.2.2 = w)
    (k : nk_Sim G l own cc nL ret fr lo ini en (pc + 3) lv (.inr (some (nk_N h)) :: st) (nk_al h (ci + 7) 0 w) f) : nk_Sim G l own cc nL ret fr lo ini en pc lv st h f := by
  subst hw
  refine nk_new (fun p e R s m args below meth c H locs cells slots Q ls X hR hl hc hs k9 => ?_) k
  have hKn := X.2.2.2.2.2.2.1.2.1.1 ci q hq
  obtain ⟨hin, ⟨ty, hty, hdef⟩, -⟩ := nk_cls ci q hq
  have hts : ∀ w ∈ nk_T, w.before args s = true := fun w hw => X.2.2.2.2.2.2.1.use hw args
  refine W.newcK X.1 X.2.1 X.2.2.2.2.2.1 (hts _ w1) (hts _ w2) (hts _ w3) rfl d hc hs hKn.2.1 rfl fun H1 kC hkC e1 z1 o1 => ?_
  have hci : ci < 13 := (List.getElem?_eq_some_iff.mp hq).1
  have := k9 H1 (nk_R_al hR z1 o1 (by omega) (fun _ h2 => by omega) (fun ci' q' h1 h2 => by
    have e9 : ci' = ci := by omega
    subst e9
    cases hq.symm.trans h2
    rw [← hR.1]
    refine (u_born ty hts hin hKn hkC e1 hty).to (fun j hj => ?_)
    rw [hdef j hj, hR.1]
    unfold nk_fv
    rw [nk_P_al, nk_I_al, nk_u1_eq, nk_u1_eq]))
  rw [← hR.1] at this
  exact this
theorem nk_arr0 (G : nk_G) (h : nk_H) (H1 : Heap) (c n w : Nat) (x : Value) (h1 : 1 ≤ c) (h6 : c ≤ 6) (hx : ∀ j, nk_el (nk_al h c n w) c (nk_N h) j = x) (e : H1[nk_N h]? = some (arrV (nk_gA G c) n (fun _ => x))) : H1[nk_N h]? = some (arrV (nk_gA G c) n (nk_el (nk_al h c n w) c (nk_N h))) := by
  rw [e]
  congr 2
  funext j
  exact (hx j).symm
theorem nr_newarray {n : Int32} {at9 : ArrayType} (c : Nat) {F : nk_H → Option (nk_H × α)} (hc : (c = 1 ∧ at9 = .int) ∨ (c = 2 ∧ at9 = .boolean) ∨ (c = 6 ∧ at9 = .long)) (d : decode cc pc = .ok (.newarray at9, 2)) (w : Cond.arrayClass (newarray.typeOf at9) ∈ nk_T)
    (k : ∀ h1, nk_Sim G l own cc nL ret fr lo ini en (pc + 2) lv (.inr (some (nk_N h)) :: st) h1 (F h1)) : nk_Sim G l own cc nL ret fr lo ini en pc lv (.inl n :: st) h ((nk_na c h n).bind F) := by
  refine nk_bind (fun h1 hv => ?_)
  by_cases hm : ¬ n < 0 ∧ n.toNatClampNeg ≤ 65536
  · have hv2 : nk_al h c n.toNatClampNeg n.toNatClampNeg = h1 := Option.some.inj ((if_pos hm).symm.trans hv)
    subst hv2
    refine nk_new (fun p e R s m args below meth cd H locs cells slots Q ls X hR hl hcl hsl k9 => ?_) (k _)
    have hts : ∀ w ∈ nk_T, w.before args s = true := fun w hw => X.2.2.2.2.2.2.1.use hw args
    have hb : n.toNatClampNeg * componentBytes (newarray.typeOf at9) ≤ 536870912 := by
      have h8 : componentBytes (newarray.typeOf at9) ≤ 8 := by
        rcases hc with ⟨-, rfl⟩ | ⟨-, rfl⟩ | ⟨-, rfl⟩ <;> decide
      exact Nat.le_trans (Nat.mul_le_mul hm.2 h8) (Nat.le_of_ble_eq_true rfl)
    refine va_newaK X.1 X.2.1 (hts _ w) rfl d rfl hm.1 rfl hb hcl hsl hR.1 (fun H1 cA e1 z1 o1 _ hnm => ?_)
    refine k9 H1 (nk_R_al hR (by rw [z1, hR.1]) (fun x hx => o1 x (by rw [← hR.1]; exact hx)) (by rcases hc with ⟨rfl, -⟩ | ⟨rfl, -⟩ | ⟨rfl, -⟩ <;> decide) (fun h1 h6 => ?_) (fun ci q h1 _ => by rcases hc with ⟨rfl, -⟩ | ⟨rfl, -⟩ | ⟨rfl, -⟩ <;> omega))
    rcases hc with ⟨rfl, rfl⟩ | ⟨rfl, rfl⟩ | ⟨rfl, rfl⟩
    · have e9 : cA = nk_gA G 1 := Option.some.inj (hnm.symm.trans (nk_tyAt X.2.2.2.2.2.2.1 0 rfl).2)
      rw [e9] at e1
      exact nk_arr0 G h H1 1 _ _ _ (by omega) (by omega) (fun j => by unfold nk_el; rw [nk_I_al, nk_u1_eq]; rfl) e1
    · have e9 : cA = nk_gA G 2 := Option.some.inj (hnm.symm.trans (nk_tyAt X.2.2.2.2.2.2.1 1 rfl).2)
      rw [e9] at e1
      exact nk_arr0 G h H1 2 _ _ _ (by omega) (by omega) (fun j => by unfold nk_el; rw [nk_I_al, nk_u1_eq]; rfl) e1
    · have e9 : cA = nk_gA G 6 := Option.some.inj (hnm.symm.trans (nk_tyAt X.2.2.2.2.2.2.1 5 rfl).2)
      rw [e9] at e1
      exact nk_arr0 G h H1 6 _ _ _ (by omega) (by omega) (fun j => by unfold nk_el; rw [nk_I_al, nk_u1_eq]; rfl) e1
  · exact absurd ((if_neg hm).symm.trans hv) (fun z => nomatch z)
theorem nr_anewarray {n : Int32} {i : Nat} (c : Nat) {C : String} {F : nk_H → Option (nk_H × α)} (hc : (c = 3 ∧ C = "NotaryKiosk$Chain") ∨ (c = 4 ∧ C = "java/lang/Object")) (d : decode cc pc = .ok (.anewarray i, 3)) (w : Cond.classLink own i C ∈ nk_T)
    (k : ∀ h1, nk_Sim G l own cc nL ret fr lo ini en (pc + 3) lv (.inr (some (nk_N h)) :: st) h1 (F h1)) : nk_Sim G l own cc nL ret fr lo ini en pc lv (.inl n :: st) h ((nk_na c h n).bind F) := by
  refine nk_bind (fun h1 hv => ?_)
  by_cases hm : ¬ n < 0 ∧ n.toNatClampNeg ≤ 65536
  · have hv2 : nk_al h c n.toNatClampNeg n.toNatClampNeg = h1 := Option.some.inj ((if_pos hm).symm.trans hv)
    subst hv2
    refine nk_new (fun p e R s m args below meth cd H locs cells slots Q ls X hR hl hcl hsl k9 => ?_) (k _)
    have hts : ∀ w ∈ nk_T, w.before args s = true := fun w hw => X.2.2.2.2.2.2.1.use hw args
    have hov : (Cond.arrayOver (.object C)).before args s = true := by
      rcases hc with ⟨-, rfl⟩ | ⟨-, rfl⟩
      · exact va_AO.use X.2.2.2.2.2.2.1.2.2.1.1
      · exact va_AO.use X.2.2.2.2.2.2.1.2.2.1.2.1
    have h1 : H.size = nk_N h := hR.1
    refine W.anew X.1 X.2.1 X.2.2.2.2.2.1 (hts _ w) hov rfl d rfl hm.1 (Nat.le_trans (Nat.mul_le_mul_right 4 hm.2) (Nat.le_of_ble_eq_true rfl)) hcl hsl (fun cA kA comp f1 f2 f3 f4 => ?_)
    have hR1 : nk_R G (nk_al h c n.toNatClampNeg n.toNatClampNeg) (H.push { cls := cA, slots := Array.replicate n.toNatClampNeg .null, vm := .none }) := by
      refine nk_R_al hR (by simp) (fun x hx => by rw [Array.getElem?_push, if_neg (Nat.ne_of_lt hx)]) (by rcases hc with ⟨rfl, -⟩ | ⟨rfl, -⟩ <;> decide) (fun _ _ => ?_) (fun ci q h1 _ => by rcases hc with ⟨rfl, -⟩ | ⟨rfl, -⟩ <;> omega)
      have e1 : (H.push { cls := cA, slots := Array.replicate n.toNatClampNeg .null, vm := .none })[nk_N h]? = some (arrV cA n.toNatClampNeg (fun _ => .null)) := by
        rw [← arrV_new, ← h1]; simp
      rcases hc with ⟨rfl, rfl⟩ | ⟨rfl, rfl⟩
      · obtain ⟨_, _, _, _, _, g4⟩ := (nk_tyAt X.2.2.2.2.2.2.1 2 rfl).2
        have e9 : cA = nk_gA G 3 := Option.some.inj (f1.symm.trans g4)
        rw [e9] at e1 ⊢
        exact nk_arr0 G h _ 3 _ _ _ (by omega) (by omega) (fun j => by unfold nk_el; rw [nk_P_al, nk_u1_eq]; rfl) e1
      · obtain ⟨_, _, _, _, _, g4⟩ := (nk_tyAt X.2.2.2.2.2.2.1 3 rfl).2
        have e9 : cA = nk_gA G 4 := Option.some.inj (f1.symm.trans g4)
        rw [e9] at e1 ⊢
        exact nk_arr0 G h _ 4 _ _ _ (by omega) (by omega) (fun j => by unfold nk_el; rw [nk_P_al, nk_u1_eq]; rfl) e1
    have := k9 _ hR1
    rw [← h1] at this
    exact this
  · exact absurd ((if_neg hm).symm.trans hv) (fun z => nomatch z)
/-- ends -/
theorem nk_end {r : α} {v : Option Value} (he : en r = .inl v) (step : ∀ (p : Program) (e : Env) (R : Room) (s : State) (m : MethodId) (args : Array Value) (below : List Frame) (meth : Method) (c : Code) (H : Heap) (locs : List Loc) (cells slots : Nat) (Qc : Array Value → State → Outcome → State → Prop) (ls : Array Slot), nk_X G l own cc nL ret fr lo ini p R s m meth c → nk_R G h H → (∀ q ∈ locs, nk_fr G q.base) →
      (∀ t : State, t.heap = H → s.WarmedH t.vm → Qc args s (.returned v) t) → W p l e R s m args below meth c H locs cells slots (MQ below Qc args s cells slots (nk_fr G)) (F0 m pc ls (nk_vs st))) : nk_Sim G l own cc nL ret fr lo ini en pc lv st h (some (h, r)) := by
  intro h' r' hf
  cases hf
  refine ⟨Nat.le_refl _, Nat.le_refl _, fun p e R s m args below meth c X sb b1 b2 b3 b4 H ls locs hR hl hq => ?_⟩
  refine vx_ret (step p e R s m args below meth c H locs _ _ _ ls X hR hq (fun t ht _ => ?_))
  exact ⟨by rw [ht]; exact hR, v, he, rfl⟩
theorem nr_iret {r : α} {x : Int32} (he : en r = .inl (some (.int x))) (hret : ret = some .int) (d : decode cc pc = .ok (.ireturn, 1)) : nk_Sim G l own cc nL ret fr lo ini en pc lv [.inl x] h (some (h, r)) :=
  nk_end he (fun p e R s m args below meth c H locs cells slots Qc ls X hR hq k => W.iret X.1 X.2.1 (by rw [X.2.2.2.1]; exact hret) k hq d X.2.2.2.2.1)
theorem nr_vret {r : α} (he : en r = .inl none) (hret : ret = none) (d : decode cc pc = .ok (.return_, 1)) : nk_Sim G l own cc nL ret fr lo ini en pc lv [] h (some (h, r)) :=
  nk_end he (fun p e R s m args below meth c H locs cells slots Qc ls X hR hq k => W.vret X.1 X.2.1 (by rw [X.2.2.2.1]; exact hret) k hq d X.2.2.2.2.1)
theorem nr_aret {r : α} {x : Option Nat} {rt : FieldType} (he : en r = .inl (some (va_rf x))) (hret : ret = some rt) (hrt : (∃ n, rt = .object n) ∨ ∃ t, rt = .array t) (d : decode cc pc = .ok (.areturn, 1)) : nk_Sim G l own cc nL ret fr lo ini en pc lv [.inr x] h (some (h, r)) :=
  nk_end he (fun p e R s m args below meth c H locs cells slots Qc ls X hR hq k => W.aret X.1 X.2.1 (by rw [X.2.2.2.1]; exact hret) hrt (va_rf_or x) k hq d X.2.2.2.2.1)
/-- a boolean's end -/
def nk_zr {β : Type} (x : Int32) (r : nk_H × β) : Option (nk_H × β) := if vp_nar .boolean x = x then some r else none
theorem nr_zret {r : α} {x : Int32} (he : en r = .inl (some (.int x))) (hret : ret = some .boolean) (d : decode cc pc = .ok (.ireturn, 1)) : nk_Sim G l own cc nL ret fr lo ini en pc lv [.inl x] h (nk_zr x (h, r)) := by
  unfold nk_zr
  by_cases hm : vp_nar .boolean x = x
  · rw [if_pos hm]
    exact nk_end he (fun p e R s m args below meth c H locs cells slots Qc ls X hR hq k => W.zret X.1 X.2.1 (ty := .boolean) (by rw [X.2.2.2.1]; exact hret) (congrArg Value.int hm) k hq d X.2.2.2.2.1)
  · rw [if_neg hm]
    exact nk_none
theorem nk_vaS {p : Program} {R : Room} {s : State} {m : MethodId} {meth : Method} {c : Code} {H : Heap} {locs : List Loc} (X : nk_X G l own cc nL ret fr lo ini p R s m meth c) (hR : nk_R G h H) (b1 : s.heap.size ≤ nk_N h) (hq : ∀ q ∈ locs, nk_fr G q.base) : va_S (nk_fr G) s.heap H locs := by
  refine ⟨by rw [hR.1]; exact b1, fun q h1 h2 => ?_, hq⟩
  have h3 : q < (nk_gH G).size := Nat.not_le.mp h2
  rw [hR.2.2.1 q h3, X.2.2.2.2.2.2.2.1.2 q h3]
/-- throw new E(text) -/
theorem nr_throw {r : α} {ik is ic : Nat} {cls text : String} (he : en r = .inr cls) (hcls : Bundle.fit cls = true) (wk : Cond.classLink own ik cls ∈ nk_T) (wi : Cond.initialized cls ∈ nk_T) (ws : (own, is, text) ∈ nk_strs) (wa : ∀ w ∈ vx_atS own ic cls ["java/lang/RuntimeException", "java/lang/Exception"], w ∈ nk_T) (wg : (Cond.classLink own ik cls :: Cond.initialized cls :: vx_atS own ic cls ["java/lang/RuntimeException", "java/lang/Exception"]).all vx_ot = true)
    (d0 : decode cc pc = .ok (.new ik, 3)) (d3 : decode cc (pc + 3) = .ok (.dup, 1)) (d4 : decode cc (pc + 4) = .ok (.ldc is, 2)) (d6 : decode cc (pc + 6) = .ok (.invokespecial ic, 3)) (d9 : decode cc (pc + 9) = .ok (.athrow, 1)) (hfr : 6 ≤ fr) (hlo : st.length + 82 ≤ lo) (ho : own ≠ "NotaryKioskLaw" := by decide) :
    nk_Sim G l own cc nL ret fr lo ini en pc lv st h (some (nk_al h 0 0 6, r)) := by
  intro h' r' hf
  cases hf
  refine ⟨by rw [nk_N_al]; omega, by rw [nk_S_al]; omega, fun p e R s m args below meth c X sb b1 b2 b3 b4 H ls locs hR hl hq => ?_⟩
  rw [nk_N_al] at b3 ⊢
  rw [nk_S_al] at b4 ⊢
  have X9 := X
  obtain ⟨hx, hb, hml, hr, hlk, hown, hKn, hG, hRf, hRl, htab, hst, hin⟩ := X9
  have hts : ∀ w ∈ nk_T, w.before args s = true := fun w hw => hKn.use hw args
  obtain ⟨sa, hsa⟩ := hKn.2.2.2.1 _ ws
  have hkeep : ∀ a : Nat, a < (nk_gH G).size → ¬ nk_fr G a → s.heap[a]? = (nk_gH G)[a]? := fun a ha _ => hG.2 a ha
  refine nk_throwS (A := nk_fr G) (sa := sa) (text := text) (names := ["java/lang/RuntimeException", "java/lang/Exception"]) hx hb hst hown hcls (by decide) (hts _ wk) (hts _ wi) hsa (fun w hw => hts w (wa w hw)) (fun w hw => List.all_eq_true.mp wg w hw) (vx_Zq.kept hKn.2.2.2.2.1 hkeep) (vx_Zq.kept hKn.2.2.2.2.2.1 hkeep) (nk_vaS X hR b1 hq) (by rw [hl.1, hml]) d0 d3 d4 d6 d9 (fun x hx9 => (htab.1 ho x hx9).elim) (by show 2 + 3 < R.frames; omega) (by rw [nk_sum]; show st.length + (13 * 3 + 43) ≤ R.locals; omega) (by omega) (by omega) hlk (fun t _ hz ho => ⟨?_, he⟩) hq (by omega) (by omega)
  exact nk_R_al hR hz ho (by decide) (fun h1 _ => by omega) (fun ci q h1 _ => by omega)
theorem nr_throwW {r : α} {ik is ic : Nat} {cls text : String} (he : en r = .inr cls) (hcls : Bundle.fit cls = true) (wk : Cond.classLink own ik cls ∈ nk_T) (wi : Cond.initialized cls ∈ nk_T) (ws : (own, is, text) ∈ nk_strs) (wa : ∀ w ∈ vx_atS own ic cls ["java/lang/RuntimeException", "java/lang/Exception"], w ∈ nk_T) (wg : (Cond.classLink own ik cls :: Cond.initialized cls :: vx_atS own ic cls ["java/lang/RuntimeException", "java/lang/Exception"]).all vx_ot = true)
    (d0 : decode cc pc = .ok (.new ik, 3)) (d3 : decode cc (pc + 3) = .ok (.dup, 1)) (d4 : decode cc (pc + 4) = .ok (.ldc_w is, 3)) (d6 : decode cc (pc + 7) = .ok (.invokespecial ic, 3)) (d9 : decode cc (pc + 10) = .ok (.athrow, 1)) (hfr : 6 ≤ fr) (hlo : st.length + 82 ≤ lo) (ho : own ≠ "NotaryKioskLaw" := by decide) :
    nk_Sim G l own cc nL ret fr lo ini en pc lv st h (some (nk_al h 0 0 6, r)) := by
  intro h' r' hf
  cases hf
  refine ⟨by rw [nk_N_al]; omega, by rw [nk_S_al]; omega, fun p e R s m args below meth c X sb b1 b2 b3 b4 H ls locs hR hl hq => ?_⟩
  rw [nk_N_al] at b3 ⊢
  rw [nk_S_al] at b4 ⊢
  have X9 := X
  obtain ⟨hx, hb, hml, hr, hlk, hown, hKn, hG, hRf, hRl, htab, hst, hin⟩ := X9
  have hts : ∀ w ∈ nk_T, w.before args s = true := fun w hw => hKn.use hw args
  obtain ⟨sa, hsa⟩ := hKn.2.2.2.1 _ ws
  have hkeep : ∀ a : Nat, a < (nk_gH G).size → ¬ nk_fr G a → s.heap[a]? = (nk_gH G)[a]? := fun a ha _ => hG.2 a ha
  refine nk_throwSW (A := nk_fr G) (sa := sa) (text := text) (names := ["java/lang/RuntimeException", "java/lang/Exception"]) hx hb hst hown hcls (by decide) (hts _ wk) (hts _ wi) hsa (fun w hw => hts w (wa w hw)) (fun w hw => List.all_eq_true.mp wg w hw) (vx_Zq.kept hKn.2.2.2.2.1 hkeep) (vx_Zq.kept hKn.2.2.2.2.2.1 hkeep) (nk_vaS X hR b1 hq) (by rw [hl.1, hml]) d0 d3 d4 d6 d9 (fun x hx9 => (htab.1 ho x hx9).elim) (by show 2 + 3 < R.frames; omega) (by rw [nk_sum]; show st.length + (13 * 3 + 43) ≤ R.locals; omega) (by omega) (by omega) hlk (fun t _ hz ho => ⟨?_, he⟩) hq (by omega) (by omega)
  exact nk_R_al hR hz ho (by decide) (fun h1 _ => by omega) (fun ci q h1 _ => by omega)
/-- objectInit -/
theorem nr_objInit {i : Nat} {a : Nat} (d : decode cc pc = .ok (.invokespecial i, 3)) (w1 : Cond.methodLink own i objectInit ∈ nk_T) (w2 : Cond.instanceMethod objectInit ∈ nk_T) (w3 : Cond.code objectInit ⟨#[0xb1]⟩ 1 none ∈ nk_T) (hfr : 1 ≤ fr) (hlo : st.length + 12 ≤ lo) (k : nk_Sim G l own cc nL ret fr lo ini en (pc + 3) lv st h f) : nk_Sim G l own cc nL ret fr lo ini en pc lv (.inr (some a) :: st) h f :=
  nk_pure (fun p e R s m args below meth c H locs cells slots Q ls X hR hl kk => by
    have hKn := X.2.2.2.2.2.2.1
    have h1 : fr ≤ R.frames := X.2.2.2.2.2.2.2.2.1
    have h2 : lo ≤ R.locals := X.2.2.2.2.2.2.2.2.2.1
    exact W.objInit X.1 X.2.1 X.2.2.2.2.2.1 (hKn.use w1 args) (hKn.use w2 args) (hKn.use w3 args) rfl (by rw [X.2.2.1]; exact hl.1) rfl d (by omega) (by show 2 * 0 + ((nk_vs st).map fun v => v.category).sum + 12 ≤ R.locals; rw [nk_sum]; omega) (kk ls hl)) k
end NKC
end
section
/-! ===== calls: a contract at a call site; what goes on behind it ===== -/
def nk_th {β γ : Type} (x : nk_H × (β ⊕ String)) (K : nk_H → β → Option (nk_H × (γ ⊕ String))) : Option (nk_H × (γ ⊕ String)) := match x.2 with
  | .inl v => K x.1 v
  | .inr E => some (x.1, .inr E)
/-- a method's own words: its code, its class's start, its name -/
def nk_My (y : MethodName) (cc : ByteArray) (nL : Nat) (ret : Option FieldType) (n : Nat) : Prop := Cond.code y cc nL ret ∈ nk_T ∧ Cond.initialized y.cls ∈ nk_T ∧ (y.cls ≠ "java/lang/invoke/MethodHandle" ∧ y.cls ≠ "java/lang/invoke/VarHandle") ∧ (parseMethodDescriptor y.desc).map (fun d => d.parameters.length) = some n
/-- a call that runs: what the machine does there, in the pictures' words -/
def nk_Go {β : Type} (G : nk_G) (l : Launch) (own : String) (cc : ByteArray) (nL : Nat) (ret : Option FieldType) (fr lo : Nat) (ini : Bool) (pc : Nat) (lv : List (Nat × nk_V)) (st0 st : List nk_V) (h : nk_H) (en2 : β → Option Value ⊕ String) (g : Option (nk_H × β)) : Prop :=
  ∀ (h1 : nk_H) (r : β), g = some (h1, r) → nk_N h ≤ nk_N h1 ∧ nk_S h ≤ nk_S h1 ∧
    ∀ (p : Program) (e : Env) (R : Room) (s : State) (m : MethodId) (args : Array Value) (below : List Frame) (meth : Method) (c : Code), nk_X G l own cc nL ret fr lo ini p R s m meth c →
    ∀ (cells slots : Nat), cells + (nk_N h1 - nk_N h) ≤ R.cells → slots + (nk_S h1 - nk_S h) ≤ R.slots →
    ∀ (H : Heap) (ls : Array Slot) (locs : List Loc), nk_R G h H → lv_has ls nL (nk_lv lv) →
      ∃ a : Array Value, vx_Run p l e R s m args below meth c H locs cells slots (nk_N h1 - nk_N h) (nk_S h1 - nk_S h) (F0 m pc ls (nk_vs st0)) (nk_vs st) (nk_Qc G h1 (en2 r) a) (nk_XC G h1 (en2 r)) (nk_fr G)
section NKG
variable {α β : Type} {G : nk_G} {l : Launch} {own : String} {cc : ByteArray} {nL : Nat} {ret : Option FieldType} {fr lo : Nat} {ini : Bool} {en : α → Option Value ⊕ String} {en2 : β → Option Value ⊕ String} {pc : Nat} {lv : List (Nat × nk_V)} {st0 st : List nk_V} {h : nk_H} {g : Option (nk_H × β)}
theorem nk_call {F : nk_H × β → Option (nk_H × α)} (go : nk_Go G l own cc nL ret fr lo ini pc lv st0 st h en2 g)
    (kk : ∀ (h1 : nk_H) (r : β) (v : Option Value), en2 r = .inl v → ∃ t : List nk_V, v.toList = nk_vs t ∧ nk_Sim G l own cc nL ret fr lo ini en (pc + 3) lv (t ++ st) h1 (F (h1, r)))
    (kx : ∀ (h1 : nk_H) (r : β) (E : String), en2 r = .inr E → own ≠ "NotaryKioskLaw" ∧ ∃ r' : α, F (h1, r) = some (h1, r') ∧ en r' = .inr E) : nk_Sim G l own cc nL ret fr lo ini en pc lv st0 h (g.bind F) := by
  intro h' r' hf
  cases hg : g with
  | none => rw [hg] at hf; cases hf
  | some x =>
    obtain ⟨h1, r⟩ := x
    rw [hg] at hf
    have hf2 : F (h1, r) = some (h', r') := hf
    obtain ⟨g1, g2, g3⟩ := go h1 r hg
    cases ho : en2 r with
    | inl v =>
      obtain ⟨t, ht, k⟩ := kk h1 r v ho
      obtain ⟨k1, k2, k3⟩ := k h' r' hf2
      refine ⟨Nat.le_trans g1 k1, Nat.le_trans g2 k2, fun p e R s m args below meth c X sb b1 b2 b3 b4 H ls locs hR hl hq => ?_⟩
      obtain ⟨a, hrun⟩ := g3 p e R s m args below meth c X (nk_N h - s.heap.size) (nk_S h - sb) (by omega) (by omega) H ls locs hR hl
      intro T hT X0
      rcases hrun T hT X0 with ⟨w, st₀, t9, T', L, h0, X', hL, e1, e2, ⟨hR1, v9, hv, hw⟩, stp⟩ | ⟨q, st₀, t9, T', L, E, ce, h0, X', hL, e1, e2, ⟨hR1, hv⟩, -⟩
      · rw [ho] at hv
        cases hv
        cases hw
        have k4 := k3 p e R s m args below meth c X sb (by omega) (by omega) b3 b4 t9.heap ls (locs ++ L) hR1 hl (fun q hq9 => (List.mem_append.mp hq9).elim (hq q) (hL q))
        rw [show nk_N h1 - s.heap.size = nk_N h - s.heap.size + (nk_N h1 - nk_N h) by omega, show nk_S h1 - sb = nk_S h - sb + (nk_S h1 - nk_S h) by omega] at k4
        obtain ⟨t2, a1, b9⟩ := k4 T' e1 X'
        refine ⟨t2, stp t2 ?_, b9⟩
        show Steps p.tables e below (T'.setTop (F0 m (pc + 3) ls (v.toList ++ nk_vs st))) t2
        rw [ht]
        have e5 : nk_vs (t ++ st) = nk_vs t ++ nk_vs st := List.map_append
        rw [← e5]
        exact a1
      · rw [ho] at hv; cases hv
    | inr E =>
      obtain ⟨hnl, r9, hF, hen⟩ := kx h1 r E ho
      rw [hF] at hf2
      cases hf2
      refine ⟨g1, g2, fun p e R s m args below meth c X sb b1 b2 b3 b4 H ls locs hR hl hq => ?_⟩
      obtain ⟨a, hrun⟩ := g3 p e R s m args below meth c X (nk_N h - s.heap.size) (nk_S h - sb) (by omega) (by omega) H ls locs hR hl
      intro T hT X0
      rcases hrun T hT X0 with ⟨w, st₀, t9, T', L, h0, X', hL, e1, e2, ⟨hR1, v9, hv, hw⟩, -⟩ | ⟨q, st₀, t9, T', L, E9, ce, h0, X', hL, e1, e2, ⟨hR1, hv⟩, hce, hcv, hcl, stp⟩
      · rw [ho] at hv; cases hv
      · rw [ho] at hv
        cases hv
        obtain ⟨hx, hb, hml, hr, hlk, hown, hKn, hG, hRf, hRl, htab, hst, hin⟩ := X
        have k4 : vx_W p l e R s m args below meth c T'.heap (locs ++ L) (nk_N h - s.heap.size + (nk_N h' - nk_N h)) (nk_S h - sb + (nk_S h' - nk_S h)) (vx_MQ below (nk_Qc G h' (en r')) (nk_XC G h' (en r')) args s (nk_N h' - s.heap.size) (nk_S h' - sb) (nk_fr G)) (F0 m pc ls (nk_vs st)) q :=
          vx_out (E := E) (fun x hx9 => (htab.1 hnl x hx9).elim) hlk (by rw [e1]; exact hce) hcv hcl (fun t ht _ => ⟨by rw [ht, e1]; exact hR1, hen⟩) (fun q hq9 => (List.mem_append.mp hq9).elim (hq q) (hL q)) (by omega) (by omega)
        obtain ⟨t2, a1, b9⟩ := k4 T' rfl X'
        exact ⟨t2, stp.trans a1, b9⟩
theorem nk_goV {F : nk_H × Unit → Option (nk_H × α)} {g : Option (nk_H × Unit)} (go : nk_Go G l own cc nL ret fr lo ini pc lv st0 st h nk_eV g) (kk : ∀ h1, nk_Sim G l own cc nL ret fr lo ini en (pc + 3) lv st h1 (F (h1, ()))) : nk_Sim G l own cc nL ret fr lo ini en pc lv st0 h (g.bind F) :=
  nk_call go (fun h1 r v hv => by cases hv; exact ⟨[], rfl, kk h1⟩) (fun h1 r E hE => nomatch hE)
theorem nk_goI {F : nk_H × Int32 → Option (nk_H × α)} {g : Option (nk_H × Int32)} (go : nk_Go G l own cc nL ret fr lo ini pc lv st0 st h nk_eI g) (kk : ∀ h1 v, nk_Sim G l own cc nL ret fr lo ini en (pc + 3) lv (.inl v :: st) h1 (F (h1, v))) : nk_Sim G l own cc nL ret fr lo ini en pc lv st0 h (g.bind F) :=
  nk_call go (fun h1 r v hv => by cases hv; exact ⟨[.inl r], rfl, kk h1 r⟩) (fun h1 r E hE => nomatch hE)
theorem nk_goR {F : nk_H × Option Nat → Option (nk_H × α)} {g : Option (nk_H × Option Nat)} (go : nk_Go G l own cc nL ret fr lo ini pc lv st0 st h nk_eR g) (kk : ∀ h1 v, nk_Sim G l own cc nL ret fr lo ini en (pc + 3) lv (.inr v :: st) h1 (F (h1, v))) : nk_Sim G l own cc nL ret fr lo ini en pc lv st0 h (g.bind F) :=
  nk_call go (fun h1 r v hv => by cases hv; exact ⟨[.inr r], rfl, kk h1 r⟩) (fun h1 r E hE => nomatch hE)
end NKG
section NKT
variable {γ : Type} {G : nk_G} {l : Launch} {own : String} {cc : ByteArray} {nL : Nat} {ret : Option FieldType} {fr lo : Nat} {ini : Bool} {en : γ ⊕ String → Option Value ⊕ String} {pc : Nat} {lv : List (Nat × nk_V)} {st0 st : List nk_V} {h : nk_H}
theorem nk_goVt {K : nk_H → Unit → Option (nk_H × (γ ⊕ String))} {g : Option (nk_H × (Unit ⊕ String))} (go : nk_Go G l own cc nL ret fr lo ini pc lv st0 st h nk_eVt g) (hen : ∀ E, en (.inr E) = .inr E) (hnl : own ≠ "NotaryKioskLaw") (kk : ∀ h1, nk_Sim G l own cc nL ret fr lo ini en (pc + 3) lv st h1 (K h1 ())) : nk_Sim G l own cc nL ret fr lo ini en pc lv st0 h (g.bind fun x => nk_th x K) :=
  nk_call go (fun h1 r v hv => by
    cases r with
    | inl u => cases hv; exact ⟨[], rfl, kk h1⟩
    | inr E => cases hv) (fun h1 r E hE => by
    cases r with
    | inl u => cases hE
    | inr E9 => cases hE; exact ⟨hnl, .inr E, rfl, hen E⟩)
theorem nk_goIt {K : nk_H → Int32 → Option (nk_H × (γ ⊕ String))} {g : Option (nk_H × (Int32 ⊕ String))} (go : nk_Go G l own cc nL ret fr lo ini pc lv st0 st h nk_eIt g) (hen : ∀ E, en (.inr E) = .inr E) (hnl : own ≠ "NotaryKioskLaw") (kk : ∀ h1 v, nk_Sim G l own cc nL ret fr lo ini en (pc + 3) lv (.inl v :: st) h1 (K h1 v)) : nk_Sim G l own cc nL ret fr lo ini en pc lv st0 h (g.bind fun x => nk_th x K) :=
  nk_call go (fun h1 r v hv => by
    cases r with
    | inl u => cases hv; exact ⟨[.inl u], rfl, kk h1 u⟩
    | inr E => cases hv) (fun h1 r E hE => by
    cases r with
    | inl u => cases hE
    | inr E9 => cases hE; exact ⟨hnl, .inr E, rfl, hen E⟩)
end NKT
section NKM
variable {β : Type} {G : nk_G} {l : Launch} {own : String} {cc : ByteArray} {nL : Nat} {ret : Option FieldType} {fr lo : Nat} {ini : Bool} {en2 : β → Option Value ⊕ String} {pc : Nat} {lv : List (Nat × nk_V)} {st0 st : List nk_V} {h : nk_H} {g : Option (nk_H × β)} {y : MethodName} {c2 : ByteArray} {n2 fr2 lo2 : Nat} {r2 : Option FieldType} {vs : List nk_V} {i n : Nat}
theorem nk_par {n9 : Nat} (h9 : (parseMethodDescriptor y.desc).map (fun d => d.parameters.length) = some n9) : ∀ sig, parseMethodDescriptor y.desc = some sig → n9 = sig.parameters.length := by
  intro sig hs
  rw [hs] at h9
  exact (Option.some.inj h9).symm
theorem nk_revs (vs st : List nk_V) : nk_vs (vs.reverse ++ st) = (nk_vs vs).reverse ++ nk_vs st := by
  unfold nk_vs
  rw [List.map_append, List.map_reverse]
theorem nk_stS {p : Program} {R : Room} {s : State} {m : MethodId} {meth : Method} {c : Code} {H : Heap} (X : nk_X G l own cc nL ret fr lo ini p R s m meth c) (hR : nk_R G h H) (as : Array Value) (has : as = (nk_vs vs).toArray) : ∀ U : State, U.heap = H → s.WarmedH U.vm → nk_Pc G h vs as U := by
  intro U hU hW
  exact ⟨has, by rw [hU]; exact hR, X.2.2.2.2.2.2.1.warm hW⟩
theorem nk_cB {p : Program} {R : Room} {s : State} {m : MethodId} {meth : Method} {c : Code} {mc ms : Nat} (args : Array Value) (X : nk_X G l own cc nL ret fr lo ini p R s m meth c) (hy : nk_My y c2 n2 r2 n) (wl : Cond.methodLink own i y ∈ nk_T) (hfr : fr2 + 1 ≤ fr) (hlo : 8 + (n2 + 11) + lo2 ≤ lo) :
    CallB R s args own i y c2 n2 r2 [Cond.code y c2 n2 r2] { frames := fr2, cells := mc, slots := ms, locals := lo2 } mc ms n := by
  have hKn := X.2.2.2.2.2.2.1
  have h1 : fr ≤ R.frames := X.2.2.2.2.2.2.2.2.1
  have h2 : lo ≤ R.locals := X.2.2.2.2.2.2.2.2.2.1
  exact ⟨rfl, rfl, by show fr2 + 1 ≤ R.frames; omega, by show 8 + (n2 + 11) + lo2 ≤ R.locals; omega, fun w hw a' U hW => by
    rw [List.mem_singleton.mp hw]
    exact (hKn.warm hW).use hy.1 a', List.mem_singleton.mpr rfl, hKn.use hy.1 args, hKn.use hy.2.1 args, hy.2.2.1, nk_par hy.2.2.2, hKn.use wl args⟩
theorem nk_cN {host : String} {p : Program} {R : Room} {s : State} {m : MethodId} {meth : Method} {c : Code} {mc ms : Nat} (args : Array Value) (X : nk_X G l own cc nL ret fr lo ini p R s m meth c) (hy : nk_My y c2 n2 r2 n) (wl : Cond.methodLinkNest own i y host ∈ nk_T) (hfr : fr2 + 1 ≤ fr) (hlo : 8 + (n2 + 11) + lo2 ≤ lo) :
    va_CN R s args own i y host c2 n2 r2 [Cond.code y c2 n2 r2] { frames := fr2, cells := mc, slots := ms, locals := lo2 } mc ms n := by
  have hKn := X.2.2.2.2.2.2.1
  have h1 : fr ≤ R.frames := X.2.2.2.2.2.2.2.2.1
  have h2 : lo ≤ R.locals := X.2.2.2.2.2.2.2.2.2.1
  exact ⟨⟨rfl, rfl, by show fr2 + 1 ≤ R.frames; omega, by show 8 + (n2 + 11) + lo2 ≤ R.locals; omega, fun w hw a' U hW => by
    rw [List.mem_singleton.mp hw]
    exact (hKn.warm hW).use hy.1 a', List.mem_singleton.mpr rfl⟩, hKn.use hy.1 args, hKn.use hy.2.1 args, hy.2.2.1, nk_par hy.2.2.2, hKn.use wl args⟩
/-- a static method -/
theorem nk_callS (con : nk_Con G l y c2 n2 r2 fr2 lo2 en2 vs h g) (d : decode cc pc = .ok (.invokestatic i, 3)) (hy : nk_My y c2 n2 r2 n) (ws : Cond.static y ∈ nk_T) (wl : Cond.methodLink own i y ∈ nk_T) (hst : st0 = vs.reverse ++ st) (hn : vs.length = n) (h8 : st.length ≤ 8) (hfr : fr2 + 1 ≤ fr) (hlo : 8 + (n2 + 11) + lo2 ≤ lo) : nk_Go G l own cc nL ret fr lo ini pc lv st0 st h en2 g := by
  subst hst
  intro h1 r hg
  obtain ⟨g1, g2, hM⟩ := con h1 r hg
  refine ⟨g1, g2, fun p e R s m args below meth c X cells slots hc hs H ls locs hR hl => ?_⟩
  have hKn := X.2.2.2.2.2.2.1
  exact ⟨_, vx_runS (Ts := []) (own := own) (cc := cc) (nL := nL) (As := nk_vs vs) ⟨X.1, X.2.1, X.2.2.1, X.2.2.2.2.2.1, fun w hw => nomatch hw⟩ hM ⟨nk_cB args X hy wl hfr hlo, hKn.use ws args⟩ ⟨nk_blind G h vs, nk_stS X hR _ rfl⟩ rfl (by rw [← hn]; exact List.length_map _) hl.1 (nk_revs vs st) (lv_room (by rw [nk_sum]; exact h8)) d ⟨hc, hs⟩⟩
theorem nk_callSN {host : String} (con : nk_Con G l y c2 n2 r2 fr2 lo2 en2 vs h g) (d : decode cc pc = .ok (.invokestatic i, 3)) (hy : nk_My y c2 n2 r2 n) (ws : Cond.static y ∈ nk_T) (wl : Cond.methodLinkNest own i y host ∈ nk_T) (hst : st0 = vs.reverse ++ st) (hn : vs.length = n) (h8 : st.length ≤ 8) (hfr : fr2 + 1 ≤ fr) (hlo : 8 + (n2 + 11) + lo2 ≤ lo) : nk_Go G l own cc nL ret fr lo ini pc lv st0 st h en2 g := by
  subst hst
  intro h1 r hg
  obtain ⟨g1, g2, hM⟩ := con h1 r hg
  refine ⟨g1, g2, fun p e R s m args below meth c X cells slots hc hs H ls locs hR hl => ?_⟩
  have hKn := X.2.2.2.2.2.2.1
  exact ⟨_, vx_runSN (Ts := []) (own := own) (cc := cc) (nL := nL) (As := nk_vs vs) ⟨X.1, X.2.1, X.2.2.1, X.2.2.2.2.2.1, fun w hw => nomatch hw⟩ hM ⟨nk_cN args X hy wl hfr hlo, hKn.use ws args, trivial⟩ ⟨nk_blind G h vs, nk_stS X hR _ rfl⟩ rfl (by rw [← hn]; exact List.length_map _) hl.1 (nk_revs vs st) (lv_room (by rw [nk_sum]; exact h8)) d ⟨hc, hs⟩⟩
/-- a constructor -/
theorem nk_callI {a : Nat} (con : nk_Con G l y c2 n2 none fr2 lo2 en2 (.inr (some a) :: vs) h g) (d : decode cc pc = .ok (.invokespecial i, 3)) (hy : nk_My y c2 n2 none n) (hy1 : y.name = "<init>") (wi : Cond.instanceMethod y ∈ nk_T) (wl : Cond.methodLink own i y ∈ nk_T) (hst : st0 = vs.reverse ++ .inr (some a) :: st) (hn : vs.length = n) (h8 : st.length ≤ 8) (hfr : fr2 + 1 ≤ fr) (hlo : 8 + (n2 + 11) + lo2 ≤ lo) : nk_Go G l own cc nL ret fr lo ini pc lv st0 st h en2 g := by
  subst hst
  intro h1 r hg
  obtain ⟨g1, g2, hM⟩ := con h1 r hg
  refine ⟨g1, g2, fun p e R s m args below meth c X cells slots hc hs H ls locs hR hl => ?_⟩
  have hKn := X.2.2.2.2.2.2.1
  exact ⟨_, vx_runI (Ts := []) (own := own) (cc := cc) (nL := nL) (b := a) (As := nk_vs vs) ⟨X.1, X.2.1, X.2.2.1, X.2.2.2.2.2.1, fun w hw => nomatch hw⟩ hM ⟨nk_cB args X hy wl hfr hlo, hy1, hKn.use wi args⟩ ⟨nk_blind G h _, nk_stS X hR _ rfl⟩ rfl (by rw [← hn]; exact List.length_map _) hl.1 (nk_revs vs _) (lv_room (by rw [nk_sum]; exact h8)) d ⟨hc, hs⟩⟩
theorem nk_callIN {host : String} {a : Nat} (con : nk_Con G l y c2 n2 none fr2 lo2 en2 (.inr (some a) :: vs) h g) (d : decode cc pc = .ok (.invokespecial i, 3)) (hy : nk_My y c2 n2 none n) (hy1 : y.name = "<init>") (wi : Cond.instanceMethod y ∈ nk_T) (wl : Cond.methodLinkNest own i y host ∈ nk_T) (hst : st0 = vs.reverse ++ .inr (some a) :: st) (hn : vs.length = n) (h8 : st.length ≤ 8) (hfr : fr2 + 1 ≤ fr) (hlo : 8 + (n2 + 11) + lo2 ≤ lo) : nk_Go G l own cc nL ret fr lo ini pc lv st0 st h en2 g := by
  subst hst
  intro h1 r hg
  obtain ⟨g1, g2, hM⟩ := con h1 r hg
  refine ⟨g1, g2, fun p e R s m args below meth c X cells slots hc hs H ls locs hR hl => ?_⟩
  have hKn := X.2.2.2.2.2.2.1
  exact ⟨_, vx_runIN (Ts := []) (own := own) (cc := cc) (nL := nL) (b := a) (As := nk_vs vs) ⟨X.1, X.2.1, X.2.2.1, X.2.2.2.2.2.1, fun w hw => nomatch hw⟩ hM ⟨nk_cN args X hy wl hfr hlo, hy1, hKn.use wi args⟩ ⟨nk_blind G h _, nk_stS X hR _ rfl⟩ rfl (by rw [← hn]; exact List.length_map _) hl.1 (nk_revs vs _) (lv_room (by rw [nk_sum]; exact h8)) d ⟨hc, hs⟩⟩
/-- the receiver's cell -/
theorem nk_recv {s : State} {H : Heap} (hKn : nk_Kn G s) (hR : nk_R G h H) {a ci : Nat} {q : vw_C} (hk : nk_K h a = ci + 7) (hq : nk_cl[ci]? = some q) : ∃ cell : Cell, H[a]? = some cell ∧ cell.vm.isStatics = false ∧ s.vm.findClass q.1 = some cell.cls := by
  obtain ⟨cell, q1, q2, q3, q4⟩ := (hR.2.2.2.2.1 a ci q hk hq).2.2
  exact ⟨cell, q1, by rw [q3]; rfl, by rw [q2]; exact (hKn.2.1.1 ci q hq).2.1⟩
/-- a method of the receiver's own class -/
theorem nk_callV {a ci : Nat} {q : vw_C} (con : nk_Con G l y c2 n2 r2 fr2 lo2 en2 (.inr (some a) :: vs) h g) (d : decode cc pc = .ok (.invokevirtual i, 3)) (hk : nk_K h a = ci + 7) (hq : nk_cl[ci]? = some q) (hC : q.1 = y.cls) (hy : nk_My y c2 n2 r2 n) (wi : Cond.instanceMethod y ∈ nk_T) (wse : Cond.selects y.cls y y ∈ nk_T) (wl : Cond.methodLink own i y ∈ nk_T) (hst : st0 = vs.reverse ++ .inr (some a) :: st) (hn : vs.length = n) (h8 : st.length ≤ 8) (hfr : fr2 + 1 ≤ fr) (hlo : 8 + (n2 + 11) + lo2 ≤ lo) : nk_Go G l own cc nL ret fr lo ini pc lv st0 st h en2 g := by
  subst hst
  intro h1 r hg
  obtain ⟨g1, g2, hM⟩ := con h1 r hg
  refine ⟨g1, g2, fun p e R s m args below meth c X cells slots hc hs H ls locs hR hl => ?_⟩
  have hKn := X.2.2.2.2.2.2.1
  exact ⟨_, vx_runV (Ts := []) (own := own) (C := y.cls) (cc := cc) (nL := nL) (b := a) (As := nk_vs vs) ⟨X.1, X.2.1, X.2.2.1, X.2.2.2.2.2.1, fun w hw => nomatch hw⟩ hM ⟨nk_cB args X hy wl hfr hlo, hKn.use wi args, hKn.use wse args⟩ ⟨nk_blind G h _, by rw [← hC]; exact nk_recv hKn hR hk hq, nk_stS X hR _ rfl⟩ rfl (by rw [← hn]; exact List.length_map _) hl.1 (nk_revs vs _) (lv_room (by rw [nk_sum]; exact h8)) d ⟨hc, hs⟩⟩
/-- a method that is named in a class above the receiver's -/
theorem nk_callU {x : MethodName} {owner : String} {a ci : Nat} {q : vw_C} (con : nk_Con G l y c2 n2 r2 fr2 lo2 en2 (.inr (some a) :: vs) h g) (d : decode cc pc = .ok (.invokevirtual i, 3)) (hk : nk_K h a = ci + 7) (hq : nk_cl[ci]? = some q) (hy : nk_My y c2 n2 r2 n) (wi : Cond.instanceMethod y ∈ nk_T) (wse : Cond.selects q.1 x y ∈ nk_T) (wl : Cond.methodLink own i x ∈ nk_T) (wsm : Cond.sameMethod x.cls owner x.name x.desc ∈ nk_T)
    (hx9 : (owner ≠ "java/lang/invoke/MethodHandle" ∧ owner ≠ "java/lang/invoke/VarHandle") ∧ (parseMethodDescriptor x.desc).map (fun d => d.parameters.length) = some n) {c3 : ByteArray} {n3 : Nat} {r3 : Option FieldType} (wd : Cond.instanceMethod ⟨owner, x.name, x.desc⟩ ∈ nk_T) (wd2 : Cond.code ⟨owner, x.name, x.desc⟩ c3 n3 r3 ∈ nk_T)
    (hst : st0 = vs.reverse ++ .inr (some a) :: st) (hn : vs.length = n) (h8 : st.length ≤ 8) (hfr : fr2 + 1 ≤ fr) (hlo : 8 + (n2 + 11) + lo2 ≤ lo) : nk_Go G l own cc nL ret fr lo ini pc lv st0 st h en2 g := by
  subst hst
  intro h1 r hg
  obtain ⟨g1, g2, hM⟩ := con h1 r hg
  refine ⟨g1, g2, fun p e R s m args below meth c X cells slots hc hs H ls locs hR hl => ?_⟩
  have hKn := X.2.2.2.2.2.2.1
  have h1 : fr ≤ R.frames := X.2.2.2.2.2.2.2.2.1
  have h2 : lo ≤ R.locals := X.2.2.2.2.2.2.2.2.2.1
  refine ⟨_, vx_runU (Ts := []) (own := own) (C := q.1) (owner := owner) (x := x) (cc := cc) (nL := nL) (b := a) (As := nk_vs vs) ⟨X.1, X.2.1, X.2.2.1, X.2.2.2.2.2.1, fun w hw => nomatch hw⟩ hM ⟨⟨rfl, rfl, by show fr2 + 1 ≤ R.frames; omega, by show 8 + (n2 + 11) + lo2 ≤ R.locals; omega, fun w hw a' U hW => by
    rw [List.mem_singleton.mp hw]
    exact (hKn.warm hW).use hy.1 a', List.mem_singleton.mpr rfl⟩, hKn.use hy.1 args, hKn.use hy.2.1 args, hx9.1, nk_par (y := x) hx9.2, hKn.use wl args, hKn.use wsm args, va_Decl.of (hKn.use wd args) (hKn.use wd2 args), hKn.use wse args, hKn.use wi args⟩ ⟨nk_blind G h _, nk_recv hKn hR hk hq, nk_stS X hR _ rfl⟩ rfl (by rw [← hn]; exact List.length_map _) hl.1 (nk_revs vs _) (lv_room (by rw [nk_sum]; exact h8)) d ⟨hc, hs⟩⟩
/-- a receiver's kind, asked -/
def nk_rcv (ks : List Nat) (h : nk_H) (p : Option Nat) : Option Nat := p.bind fun a => if nk_K h a ∈ ks then some a else none
end NKM
section NKE
variable {α : Type} {G : nk_G} {l : Launch} {own : String} {cc : ByteArray} {nL : Nat} {ret : Option FieldType} {fr lo : Nat} {ini : Bool} {en : α → Option Value ⊕ String} {pc : Nat} {lv : List (Nat × nk_V)} {st : List nk_V} {h : nk_H}
/-- the receiver is there, and of a kind -/
theorem nr_rcv {ks : List Nat} {pre : List nk_V} {x : Option Nat} {F : Nat → Option (nk_H × α)} (kk : ∀ a : Nat, nk_K h a ∈ ks → nk_Sim G l own cc nL ret fr lo ini en pc lv (pre ++ .inr (some a) :: st) h (F a)) : nk_Sim G l own cc nL ret fr lo ini en pc lv (pre ++ .inr x :: st) h ((nk_rcv ks h x).bind F) := by
  refine nk_bind (fun v hv => ?_)
  cases x with
  | none => cases hv
  | some a =>
    by_cases hm : nk_K h a ∈ ks
    · have e : a = v := Option.some.inj ((if_pos hm).symm.trans hv)
      subst e
      exact kk a hm
    · exact absurd ((if_neg hm).symm.trans hv) (fun z => nomatch z)
/-- from a body's walk to the method's contract -/
theorem nk_con {y : MethodName} {vs : List nk_V} {f : Option (nk_H × α)} (hy : plainName y.cls = true) (hl0 : l.flags = flags0) (hlen : vs.length ≤ nL) (hini : ini = true → y.name = "<init>")
    (k : nk_Sim G l y.cls cc nL ret fr lo ini en 0 (vs.zipIdx.map fun q => (q.2, q.1)) [] h f) (hnl : y.cls ≠ "NotaryKioskLaw" := by decide) : nk_Con G l y cc nL ret fr lo en vs h f := by
  intro h' r hf
  obtain ⟨k1, k2, k3⟩ := k h' r hf
  refine ⟨k1, k2, vx_ofW (ws' := []) hy rfl ?_⟩
  intro p e s m args below meth c s₁ B hml htab ⟨hargs, hR, hKn⟩
  subst hargs
  have hb9 : s.heap.size = nk_N h := hR.1
  have hsl : lg_sl (nk_vs vs) = (nk_vs vs).map Slot.val := nk_sl vs
  have hh : lv_has ((lg_sl (nk_vs vs) ++ List.replicate (nL - (lg_sl (nk_vs vs)).length) Slot.unset).toArray) nL (lv_args 0 (nk_vs vs)) := lv_entry (nk_vs vs) (by rw [hsl]; simpa [nk_vs] using hlen)
  have hargs : lv_args 0 (nk_vs vs) = nk_lv (vs.zipIdx.map fun q => (q.2, q.1)) := nk_args vs 0
  rw [hargs] at hh
  have X : nk_X G l y.cls cc nL ret fr lo ini p (headSpec [Cond.code y cc nL ret] { frames := fr, cells := nk_N h' - nk_N h, slots := nk_S h' - nk_S h, locals := lo }).room s m meth c :=
    ⟨B.exec, B.bytes, hml, B.returns, B.notSynchronized, findClass_of_methodNamed B.named, hKn, ⟨by rw [hb9]; exact hR.2.1, hR.2.2.1⟩, Nat.le_refl _, Nat.le_refl _, ⟨fun _ => htab, fun e9 => absurd e9 hnl⟩, nk_noTrace hl0, fun hi => by rw [(name_of_methodNamed B.named B.method).1]; exact hini hi⟩
  have := k3 p e _ s m (nk_vs vs).toArray below meth c X (nk_S h) (by omega) (Nat.le_refl _) (by rw [hb9]; exact Nat.le_refl _) (Nat.le_refl _) s.heap _ [] hR hh (fun q hq => nomatch hq)
  rw [hb9, Nat.sub_self, Nat.sub_self] at this
  rw [lg_entry_eq]
  exact this
end NKE
end
section
/-! ===== calls in the functions' words; casts; Math ===== -/
def nk_do {β γ : Type} (g : Option (nk_H × β)) (K : nk_H → β → Option γ) : Option γ := g.bind fun x => K x.1 x.2
def nk_dt {β γ : Type} (g : Option (nk_H × (β ⊕ String))) (K : nk_H → β → Option (nk_H × (γ ⊕ String))) : Option (nk_H × (γ ⊕ String)) := g.bind fun x => nk_th x K
section NKG
variable {α : Type} {G : nk_G} {l : Launch} {own : String} {cc : ByteArray} {nL : Nat} {ret : Option FieldType} {fr lo : Nat} {ini : Bool} {en : α → Option Value ⊕ String} {pc : Nat} {lv : List (Nat × nk_V)} {st0 st : List nk_V} {h : nk_H}
theorem nr_doV {K : nk_H → Unit → Option (nk_H × α)} {g : Option (nk_H × Unit)} (go : nk_Go G l own cc nL ret fr lo ini pc lv st0 st h nk_eV g) (kk : ∀ h1 v, nk_Sim G l own cc nL ret fr lo ini en (pc + 3) lv st h1 (K h1 v)) : nk_Sim G l own cc nL ret fr lo ini en pc lv st0 h (nk_do g K) :=
  nk_goV go (fun h1 => kk h1 ())
theorem nr_doI {K : nk_H → Int32 → Option (nk_H × α)} {g : Option (nk_H × Int32)} (go : nk_Go G l own cc nL ret fr lo ini pc lv st0 st h nk_eI g) (kk : ∀ h1 v, nk_Sim G l own cc nL ret fr lo ini en (pc + 3) lv (.inl v :: st) h1 (K h1 v)) : nk_Sim G l own cc nL ret fr lo ini en pc lv st0 h (nk_do g K) :=
  nk_goI go kk
theorem nr_doR {K : nk_H → Option Nat → Option (nk_H × α)} {g : Option (nk_H × Option Nat)} (go : nk_Go G l own cc nL ret fr lo ini pc lv st0 st h nk_eR g) (kk : ∀ h1 v, nk_Sim G l own cc nL ret fr lo ini en (pc + 3) lv (.inr v :: st) h1 (K h1 v)) : nk_Sim G l own cc nL ret fr lo ini en pc lv st0 h (nk_do g K) :=
  nk_goR go kk
end NKG
section NKT
variable {γ : Type} {G : nk_G} {l : Launch} {own : String} {cc : ByteArray} {nL : Nat} {ret : Option FieldType} {fr lo : Nat} {ini : Bool} {en : γ ⊕ String → Option Value ⊕ String} {pc : Nat} {lv : List (Nat × nk_V)} {st0 st : List nk_V} {h : nk_H}
theorem nr_dtV {K : nk_H → Unit → Option (nk_H × (γ ⊕ String))} {g : Option (nk_H × (Unit ⊕ String))} (go : nk_Go G l own cc nL ret fr lo ini pc lv st0 st h nk_eVt g) (hen : ∀ E, en (.inr E) = .inr E) (kk : ∀ h1 v, nk_Sim G l own cc nL ret fr lo ini en (pc + 3) lv st h1 (K h1 v)) (hnl : own ≠ "NotaryKioskLaw" := by decide) : nk_Sim G l own cc nL ret fr lo ini en pc lv st0 h (nk_dt g K) :=
  nk_goVt go hen hnl (fun h1 => kk h1 ())
theorem nr_dtI {K : nk_H → Int32 → Option (nk_H × (γ ⊕ String))} {g : Option (nk_H × (Int32 ⊕ String))} (go : nk_Go G l own cc nL ret fr lo ini pc lv st0 st h nk_eIt g) (hen : ∀ E, en (.inr E) = .inr E) (kk : ∀ h1 v, nk_Sim G l own cc nL ret fr lo ini en (pc + 3) lv (.inl v :: st) h1 (K h1 v)) (hnl : own ≠ "NotaryKioskLaw" := by decide) : nk_Sim G l own cc nL ret fr lo ini en pc lv st0 h (nk_dt g K) :=
  nk_goIt go hen hnl kk
end NKT
/-- a cast: of null, or of a kind -/
def nk_cc (ks : List Nat) (h : nk_H) (p : Option Nat) : Option Unit := match p with
  | none => some ()
  | some a => if nk_K h a ∈ ks then some () else none
section NKR
variable {α : Type} {G : nk_G} {l : Launch} {own : String} {cc : ByteArray} {nL : Nat} {ret : Option FieldType} {fr lo : Nat} {ini : Bool} {en : α → Option Value ⊕ String} {pc : Nat} {lv lv2 : List (Nat × nk_V)} {st : List nk_V} {h : nk_H} {f : Option (nk_H × α)}
/-- the kinds that a class's name admits: by the same name, or by a word -/
def nk_Ca (nm : String) : List Nat → Prop
  | [] => True
  | c :: t => (∃ (ci : Nat) (q : vw_C), c = ci + 7 ∧ nk_cl[ci]? = some q ∧ (q.1 = nm ∨ Cond.castable q.1 nm ∈ nk_T)) ∧ nk_Ca nm t
theorem nk_Ca.get {nm : String} {ks : List Nat} (h : nk_Ca nm ks) {c : Nat} (hc : c ∈ ks) : ∃ (ci : Nat) (q : vw_C), c = ci + 7 ∧ nk_cl[ci]? = some q ∧ (q.1 = nm ∨ Cond.castable q.1 nm ∈ nk_T) := by
  induction ks with
  | nil => cases hc
  | cons d t ih =>
    rcases List.mem_cons.mp hc with rfl | hc
    · exact h.1
    · exact ih h.2 hc
theorem nr_cast {i : Nat} {nm : String} {ks : List Nat} {x : Option Nat} {F : Unit → Option (nk_H × α)} (d : decode cc pc = .ok (.checkcast i, 3)) (wl : Cond.classLink own i nm ∈ nk_T) (w : nk_Ca nm ks) (kk : nk_Sim G l own cc nL ret fr lo ini en (pc + 3) lv (.inr x :: st) h (F ())) : nk_Sim G l own cc nL ret fr lo ini en pc lv (.inr x :: st) h ((nk_cc ks h x).bind F) := by
  refine nk_bind (fun v hv => nk_pure (fun p e R s m args below meth c H locs cells slots Q ls X hR hl k9 => ?_) kk)
  have hKn := X.2.2.2.2.2.2.1
  cases x with
  | none => exact lv_castN X.1 X.2.1 d (k9 ls hl)
  | some a =>
    by_cases hm : nk_K h a ∈ ks
    · obtain ⟨ci, q, e1, hq, hc⟩ := w.get hm
      have hr := nk_recv hKn hR e1 hq
      rcases hc with hc | hc
      · exact va_castE X.1 X.2.1 X.2.2.2.2.2.1 (hKn.use wl args) (by rw [← hc]; exact hr) d (k9 ls hl)
      · exact va_castY X.1 X.2.1 X.2.2.2.2.2.1 (hKn.use wl args) (hKn.use hc #[]) hr d (k9 ls hl)
    · exact absurd ((if_neg hm).symm.trans hv) (fun z => nomatch z)
theorem nr_max {i : Nat} {x y : Int32} (d : decode cc pc = .ok (.invokestatic i, 3)) (wl : Cond.methodLink own i Lib.Math.max.name ∈ nk_T) (ws : Cond.static Lib.Math.max.name ∈ nk_T) (wi : Cond.initialized "java/lang/Math" ∈ nk_T) (wc : Cond.code Lib.Math.max.name Lib.Math.max.code 2 (some .int) ∈ nk_T) (hfr : 1 ≤ fr) (hlo : st.length + 13 ≤ lo) (kk : nk_Sim G l own cc nL ret fr lo ini en (pc + 3) lv (.inl (if x < y then y else x) :: st) h f) : nk_Sim G l own cc nL ret fr lo ini en pc lv (.inl y :: .inl x :: st) h f := by
  intro h' r hf
  obtain ⟨k1, k2, k3⟩ := kk h' r hf
  refine ⟨k1, k2, fun p e R s m args below meth c X sb b1 b2 b3 b4 H ls locs hR hl hq => ?_⟩
  have hKn := X.2.2.2.2.2.2.1
  have g1 : fr ≤ R.frames := X.2.2.2.2.2.2.2.2.1
  have g2 : lo ≤ R.locals := X.2.2.2.2.2.2.2.2.2.1
  exact va_mmax X.1 X.2.1 (by rw [X.2.2.1]; exact hl.1.symm) X.2.2.2.2.2.1 (hKn.use wl args) (hKn.use ws args) (hKn.use wi args) (hKn.use wc args) (by omega) (by show ((nk_vs st).map fun v => v.category).sum + 13 ≤ R.locals; rw [nk_sum]; omega) (by omega) (by omega) d (k3 p e R s m args below meth c X sb b1 b2 b3 b4 H ls locs hR hl hq)
theorem nr_min {i : Nat} {x y : Int32} (d : decode cc pc = .ok (.invokestatic i, 3)) (wl : Cond.methodLink own i Lib.Math.min.name ∈ nk_T) (ws : Cond.static Lib.Math.min.name ∈ nk_T) (wi : Cond.initialized "java/lang/Math" ∈ nk_T) (wc : Cond.code Lib.Math.min.name Lib.Math.min.code 2 (some .int) ∈ nk_T) (hfr : 1 ≤ fr) (hlo : st.length + 13 ≤ lo) (kk : nk_Sim G l own cc nL ret fr lo ini en (pc + 3) lv (.inl (if y < x then y else x) :: st) h f) : nk_Sim G l own cc nL ret fr lo ini en pc lv (.inl y :: .inl x :: st) h f := by
  intro h' r hf
  obtain ⟨k1, k2, k3⟩ := kk h' r hf
  refine ⟨k1, k2, fun p e R s m args below meth c X sb b1 b2 b3 b4 H ls locs hR hl hq => ?_⟩
  have hKn := X.2.2.2.2.2.2.1
  have g1 : fr ≤ R.frames := X.2.2.2.2.2.2.2.2.1
  have g2 : lo ≤ R.locals := X.2.2.2.2.2.2.2.2.2.1
  exact va_mmin X.1 X.2.1 (by rw [X.2.2.1]; exact hl.1.symm) X.2.2.2.2.2.1 (hKn.use wl args) (hKn.use ws args) (hKn.use wi args) (hKn.use wc args) (by omega) (by show ((nk_vs st).map fun v => v.category).sum + 13 ≤ R.locals; rw [nk_sum]; omega) (by omega) (by omega) d (k3 p e R s m args below meth c X sb b1 b2 b3 b4 H ls locs hR hl hq)
end NKR
end
section
/-! ===== more rows: new objects, booleans' fields, stores of references, the lists' empty row, class objects, copies, grids ===== -/
section NKB
variable {α : Type} {G : nk_G} {l : Launch} {own : String} {cc : ByteArray} {nL : Nat} {ret : Option FieldType} {fr lo : Nat} {ini : Bool} {en : α → Option Value ⊕ String} {pc : Nat} {lv lv2 : List (Nat × nk_V)} {st : List nk_V} {h : nk_H} {f : Option (nk_H × α)}
theorem nr_newb {i w : Nat} (ci : Nat) {q : vw_C} {F : nk_H → Option (nk_H × α)} (hq : nk_cl[ci]? = some q) (d : decode cc pc = .ok (.new i, 3)) (w1 : Cond.classLink own i q.1 ∈ nk_T) (w2 : Cond.instantiable q.1 q.2.2 ∈ nk_T) (w3 : Cond.initialized q.1 ∈ nk_T) (hw : q.2.2 = w)
    (k : ∀ h1, nk_Sim G l own cc nL ret fr lo ini en (pc + 3) lv (.inr (some (nk_N h)) :: st) h1 (F h1)) : nk_Sim G l own cc nL ret fr lo ini en pc lv st h ((some (nk_al h (ci + 7) 0 w)).bind F) :=
  nr_new ci hq d w1 w2 w3 hw (k _)
/-- a boolean's field -/
def nk_pZ (ks : List Nat) (k : Nat) (h : nk_H) (p : Option Nat) (v : Int32) : Option nk_H := p.bind fun a => if nk_K h a ∈ ks ∧ (v = 0 ∨ v = 1) then some (nk_sI h a k v) else none
def nk_Fz (own : String) (ini : Bool) (k : Nat) : List Nat → Prop
  | [] => True
  | c :: t => (∀ (ci : Nat) (q : vw_C), c = ci + 7 → nk_cl[ci]? = some q → ((q.2.1 k).2.2.2 = false ∨ ((q.2.1 k).2.2.2 = true ∧ ini = true ∧ (q.2.1 k).1 = own)) ∧ parseFieldDescriptor (q.2.1 k).2.2.1 = some .boolean ∧ nk_rf ci k = false) ∧ nk_Fz own ini k t
theorem nk_Fz.get {k : Nat} {ks : List Nat} (h : nk_Fz own ini k ks) {c : Nat} (hc : c ∈ ks) : ∀ (ci : Nat) (q : vw_C), c = ci + 7 → nk_cl[ci]? = some q → ((q.2.1 k).2.2.2 = false ∨ ((q.2.1 k).2.2.2 = true ∧ ini = true ∧ (q.2.1 k).1 = own)) ∧ parseFieldDescriptor (q.2.1 k).2.2.1 = some .boolean ∧ nk_rf ci k = false := by
  induction ks with
  | nil => cases hc
  | cons d t ih =>
    rcases List.mem_cons.mp hc with rfl | hc
    · exact h.1
    · exact ih h.2 hc
theorem nr_putZ {i : Nat} (ks : List Nat) (k : Nat) {x : Option Nat} {v : Int32} {F : nk_H → Option (nk_H × α)} (d : decode cc pc = .ok (.putfield i, 3)) (w : nk_Fk own i k false ks) (w2 : nk_Fz own ini k ks) (kk : ∀ h1, nk_Sim G l own cc nL ret fr lo ini en (pc + 3) lv st h1 (F h1)) : nk_Sim G l own cc nL ret fr lo ini en pc lv (.inl v :: .inr x :: st) h ((nk_pZ ks k h x v).bind F) := by
  refine nk_bind (fun h1 hv => ?_)
  cases x with
  | none => cases hv
  | some a =>
    by_cases hm : nk_K h a ∈ ks ∧ (v = 0 ∨ v = 1)
    · have hv2 : nk_sI h a k v = h1 := Option.some.inj ((if_pos hm).symm.trans hv)
      subst hv2
      obtain ⟨ci, e1, hF, hrf⟩ := w.get hm.1
      refine nk_heap (nk_N_sI h a k v) (nk_S_sI h a k v) (fun p e R s m args below meth c H locs cells slots Q ls X hR hl hq k9 => ?_) (kk _)
      refine nk_wput (args := args) (ini := ini) (v := .int v) X.1 X.2.1 X.2.2.2.2.2.1 X.2.2.2.2.2.2.1 hR X.2.2.2.2.2.2.2.2.2.2.2.2 e1 hF (fun q hq9 => ?_) d (fun H1 i9 q hq9 z o hB => ?_)
      · obtain ⟨g1, g2, g3⟩ := w2.get hm.1 ci q e1 hq9
        refine ⟨g1, .boolean, g2, ?_⟩
        rcases hm.2 with rfl | rfl <;> exact ⟨by decide, by decide⟩
      · exact k9 H1 _ (nk_R_sI hR e1 hq9 hrf z o hB) (nk_fr_app hq (hR.2.2.2.2.1 a ci q e1 hq9).1)
    · exact absurd ((if_neg hm).symm.trans hv) (fun z => nomatch z)
/-- what an array of references may take: a Chain's, or any object's -/
def nk_okv (c : Nat) (h : nk_H) (v : Option Nat) : Bool := match v with
  | none => true
  | some y => if c = 3 then nk_K h y == 9 else decide (7 ≤ nk_K h y) && decide (nk_K h y ≤ 19)
def nk_wP (c : Nat) (h : nk_H) (p : Option Nat) (i : Int32) (v : Option Nat) : Option nk_H := p.bind fun a => if nk_K h a = c ∧ ¬ i < 0 ∧ i.toNatClampNeg < nk_L h a ∧ nk_okv c h v = true then some (nk_sP h a i.toNatClampNeg v) else none
def nk_Ob : List Cond := nk_cl.map fun q => Cond.castable q.1 "java/lang/Object"
theorem nk_ob : ∀ w ∈ nk_Ob, w ∈ nk_T := nk_ins [1762, 1772, 1758, 1773, 1771, 1770, 1763, 1760, 1761, 1768, 1769, 1759, 1764] (by decide +kernel) (by decide +kernel)
/-- the element's cell and class, and that the array may hold it -/
theorem nk_asg {s : State} {H : Heap} (c : Nat) (hc : c = 3 ∨ c = 4) (hKn : nk_Kn G s) (hR : nk_R G h H) {y : Nat} (hy : nk_okv c h (some y) = true) {comp : ClassId} (hcomp : s.vm.findClass (if c = 3 then "NotaryKiosk$Chain" else "java/lang/Object") = some comp) :
    ∃ cv : Cell, H[y]? = some cv ∧ cv.vm.isStatics = false ∧ (∃ kC, s.vm.classes[cv.cls]? = some kC) ∧ s.vm.assignable cv.cls comp = true := by
  rcases hc with rfl | rfl
  · have hk : nk_K h y = 2 + 7 := by simpa [nk_okv] using hy
    obtain ⟨cv, g1, g2, g3⟩ := nk_recv hKn hR hk (q := (RX1, TX1, 2)) rfl
    have hcls := (hKn.2.1.1 2 _ rfl).2
    have e1 : comp = (nk_gD G).1 2 := Option.some.inj (hcomp.symm.trans hcls.1)
    have e2 : cv.cls = (nk_gD G).1 2 := Option.some.inj (g3.symm.trans hcls.1)
    obtain ⟨kC, hkC, -⟩ := hcls.2
    exact ⟨cv, g1, g2, ⟨kC, by rw [e2]; exact hkC⟩, by rw [e1, e2]; exact va_assign hcls⟩
  · have hk : 7 ≤ nk_K h y ∧ nk_K h y ≤ 19 := by simpa [nk_okv] using hy
    obtain ⟨ci, hci⟩ : ∃ ci, nk_K h y = ci + 7 := ⟨nk_K h y - 7, by omega⟩
    have hlt : ci < nk_cl.length := by show ci < 13; omega
    obtain ⟨q, hq⟩ : ∃ q, nk_cl[ci]? = some q := ⟨nk_cl[ci], List.getElem?_eq_getElem hlt⟩
    obtain ⟨cv, g1, g2, g3⟩ := nk_recv hKn hR hci hq
    have hw : Cond.castable q.1 "java/lang/Object" ∈ nk_T := nk_ob _ (List.mem_map.mpr ⟨q, List.mem_of_getElem? hq, rfl⟩)
    obtain ⟨c0, t1, f1, f2, f3⟩ := Cond.castable_spec (hKn.use hw #[])
    cases g3.symm.trans f1
    cases hcomp.symm.trans f2
    obtain ⟨kC, hkC, -⟩ := Vm.findClass_spec g3
    exact ⟨cv, g1, g2, ⟨kC, hkC⟩, f3⟩
theorem nr_aastore (c : Nat) (hc : c = 3 ∨ c = 4) {x v : Option Nat} {i : Int32} {F : nk_H → Option (nk_H × α)} (d : decode cc pc = .ok (.aastore, 1)) (kk : ∀ h1, nk_Sim G l own cc nL ret fr lo ini en (pc + 1) lv st h1 (F h1)) : nk_Sim G l own cc nL ret fr lo ini en pc lv (.inr v :: .inl i :: .inr x :: st) h ((nk_wP c h x i v).bind F) := by
  refine nk_bind (fun h1 hv => ?_)
  cases x with
  | none => cases hv
  | some a =>
    by_cases hm : nk_K h a = c ∧ ¬ i < 0 ∧ i.toNatClampNeg < nk_L h a ∧ nk_okv c h v = true
    · have hv2 : nk_sP h a i.toNatClampNeg v = h1 := Option.some.inj ((if_pos hm).symm.trans hv)
      subst hv2
      obtain ⟨hk, h0, hlt, hok⟩ := hm
      refine nk_heap (nk_N_sP h a _ v) (nk_S_sP h a _ v) (fun p e R s m args below meth cd H locs cells slots Q ls X hR hl hq k9 => ?_) (kk _)
      have hKn := X.2.2.2.2.2.2.1
      have h36 : 3 ≤ nk_K h a ∧ nk_K h a ≤ 5 := by omega
      have hA := hR.2.2.2.1 a (by omega) (by omega)
      have hcell := hA.2.2
      have fin : ∀ (H1 : Heap) (i9 : Nat), H1[a]? = some ((arrV (nk_gA G (nk_K h a)) (nk_L h a) (nk_el h (nk_K h a) a)).setSlot i.toNatClampNeg (va_rf v)) → H1.size = H.size → (∀ q, q ≠ a → H1[q]? = H[q]?) → W p l e R s m args below meth cd H1 (locs ++ [⟨a, i9⟩]) cells slots Q (F0 m (pc + 1) ls (nk_vs st)) := by
        intro H1 i9 e1 z o
        rw [arrV_store] at e1
        exact k9 H1 _ (nk_R_aP hR h36.1 h36.2 z o e1) (nk_fr_app hq hA.1)
      have hin : ¬ (i < 0 ∨ (arrV (nk_gA G (nk_K h a)) (nk_L h a) (nk_el h (nk_K h a) a)).slots.size ≤ i.toNatClampNeg) := by rw [arrV_size]; exact fun q => q.elim h0 (Nat.not_le.mpr hlt)
      have hT : ∃ E : String, E = (if c = 3 then "NotaryKiosk$Chain" else "java/lang/Object") ∧ ArrOfT s (nk_gA G (nk_K h a)) (.object E) ∧ va_RA s (nk_gA G (nk_K h a)) (.object E) := by
        rw [hk]
        rcases hc with rfl | rfl
        · exact ⟨_, rfl, nk_tyAt hKn 2 rfl⟩
        · exact ⟨_, rfl, nk_tyAt hKn 3 rfl⟩
      obtain ⟨E, hE, t1, t2⟩ := hT
      cases v with
      | none => exact va_WaastN (C := E) X.1 X.2.1 hcell (t1 _ _) (fun q => by cases q) hin rfl rfl d fun H1 e1 z o => fin H1 _ e1 z o
      | some y =>
        obtain ⟨kA, comp, k1, k2, k3, -⟩ := t2
        obtain ⟨kE, hkE, -⟩ := Vm.findClass_spec k3
        obtain ⟨cv, g1, g2, ⟨kC, hkC⟩, g4⟩ := nk_asg c hc hKn hR hok (by rw [← hE]; exact k3)
        exact W.aast X.1 X.2.1 hcell (fun q h => by cases h) (fun h => by cases h) k1 k2 rfl hkE ⟨h0, by rw [arrV_size]; exact hlt⟩ g1 (fun q h => by rw [h] at g2; cases g2) hkC g4 rfl rfl d fun H1 e1 z o => fin H1 _ e1 z o
    · exact absurd ((if_neg hm).symm.trans hv) (fun z => nomatch z)
/-- the static empty row of the lists -/
theorem nr_gete {i : Nat} (d : decode cc pc = .ok (.getstatic i, 3)) (w : Cond.fieldLink own i "java/util/ArrayList" "DEFAULTCAPACITY_EMPTY_ELEMENTDATA" "[Ljava/lang/Object;" ∈ nk_T) (kk : nk_Sim G l own cc nL ret fr lo ini en (pc + 3) lv (.inr (some (nk_E h)) :: st) h f) : nk_Sim G l own cc nL ret fr lo ini en pc lv st h f := by
  intro h' r hf
  obtain ⟨k1, k2, k3⟩ := kk h' r hf
  refine ⟨k1, k2, fun p e R s m args below meth c X sb b1 b2 b3 b4 H ls locs hR hl hq => ?_⟩
  have hKn := X.2.2.2.2.2.2.1
  have hkeep : ∀ a : Nat, a < (nk_gH G).size → ¬ nk_fr G a → s.heap[a]? = (nk_gH G)[a]? := fun a ha _ => X.2.2.2.2.2.2.2.1.2 a ha
  refine va_gets X.1 X.2.1 (va_Z.kept hKn.2.2.2.2.2.2.1 hkeep) (nk_vaS X hR b1 hq) X.2.2.2.2.2.1 (hKn.use w args) (fun x hx => hx) d ?_
  rw [← hR.2.2.2.2.2.2.1]
  exact k3 p e R s m args below meth c X sb b1 b2 b3 b4 H ls locs hR hl hq
/-- the class object of Object[] -/
theorem nr_ldcM {i : Nat} (d : decode cc pc = .ok (.ldc i, 2)) (w : Cond.classLink own i "[Ljava/lang/Object;" ∈ nk_T) (kk : nk_Sim G l own cc nL ret fr lo ini en (pc + 2) lv (.inr (some (nk_M h)) :: st) h f) : nk_Sim G l own cc nL ret fr lo ini en pc lv st h f :=
  nk_pure (fun p e R s m args below meth c H locs cells slots Q ls X hR hl k9 => by
    have hKn := X.2.2.2.2.2.2.1
    have hM := hKn.2.2.2.2.2.2.2.2.2.2.1
    refine va_ldcM X.1 X.2.1 X.2.2.2.2.2.1 (hKn.use w args) hM d ?_
    rw [← hR.2.2.2.2.2.2.2]
    exact k9 ls hl) kk
/-- the class object of an Object[] -/
def nk_gc (h : nk_H) (p : Option Nat) : Option (Option Nat) := p.bind fun a => if nk_K h a = 4 then some (some (nk_M h)) else none
theorem nr_getC {i : Nat} {x : Option Nat} {F : Option Nat → Option (nk_H × α)} (d : decode cc pc = .ok (.invokevirtual i, 3)) (w : Cond.methodLink own i ⟨"java/lang/Object", "getClass", "()Ljava/lang/Class;"⟩ ∈ nk_T)
    (w1 : Cond.declares ⟨"java/lang/Object", "getClass", "()Ljava/lang/Class;"⟩ ∈ nk_T) (w2 : Cond.selects "[Ljava/lang/Object;" ⟨"java/lang/Object", "getClass", "()Ljava/lang/Class;"⟩ ⟨"java/lang/Object", "getClass", "()Ljava/lang/Class;"⟩ ∈ nk_T) (w3 : Cond.instanceMethod ⟨"java/lang/Object", "getClass", "()Ljava/lang/Class;"⟩ ∈ nk_T) (w4 : Cond.native ⟨"java/lang/Object", "getClass", "()Ljava/lang/Class;"⟩ ∈ nk_T)
    (hfr : 1 ≤ fr) (hlo : st.length + 14 ≤ lo) (kk : ∀ v, nk_Sim G l own cc nL ret fr lo ini en (pc + 3) lv (.inr v :: st) h (F v)) : nk_Sim G l own cc nL ret fr lo ini en pc lv (.inr x :: st) h ((nk_gc h x).bind F) := by
  refine nk_bind (fun v hv => nk_pure (fun p e R s m args below meth c H locs cells slots Q ls X hR hl k9 => ?_) (kk v))
  cases x with
  | none => cases hv
  | some a =>
    by_cases hm : nk_K h a = 4
    · have hv2 : some (nk_M h) = v := Option.some.inj ((if_pos hm).symm.trans hv)
      have hKn := X.2.2.2.2.2.2.1
      have g1 : fr ≤ R.frames := X.2.2.2.2.2.2.2.2.1
      have g2 : lo ≤ R.locals := X.2.2.2.2.2.2.2.2.2.1
      have hcell := (hR.2.2.2.1 a (by omega) (by omega)).2.2
      rw [hm] at hcell
      have hnm : s.vm.findClass "[Ljava/lang/Object;" = some (nk_gA G 4) := va_nmO (nk_tyAt hKn 3 rfl).2 (by decide +kernel)
      refine va_getC X.1 X.2.1 (by rw [X.2.2.1]; exact hl.1.symm) X.2.2.2.2.2.1 (hKn.use w args) (hKn.use w1 args) (hKn.use w2 args) (hKn.use w3 args) (hKn.use w4 args) hKn.2.2.2.2.2.2.2.2.2.2.1 ⟨_, hcell, rfl, hnm⟩ (by omega) (by show ((nk_vs st).map fun v => v.category).sum + 14 ≤ R.locals; rw [nk_sum]; omega) d ?_
      rw [← hR.2.2.2.2.2.2.2]
      rw [← hv2] at k9
      exact k9 ls hl
    · exact absurd ((if_neg hm).symm.trans hv) (fun z => nomatch z)
/-- copies between arrays -/
def nk_cI (h : nk_H) (a : Nat) (f : Nat → Int32) : nk_H := (h.1, nk_u1 h.2.1 a f, h.2.2)
def nk_cP (h : nk_H) (a : Nat) (f : Nat → Option Nat) : nk_H := (h.1, h.2.1, nk_u1 h.2.2.1 a f, h.2.2.2)
def nk_rg (h : nk_H) (a0 a : Nat) (sp dp n : Int32) : Bool := !decide (sp < 0) && !decide (dp < 0) && !decide (n < 0) && decide (sp.toNatClampNeg + n.toNatClampNeg ≤ nk_L h a0) && decide (dp.toNatClampNeg + n.toNatClampNeg ≤ nk_L h a)
def nk_cpI (h : nk_H) (p0 : Option Nat) (sp : Int32) (p : Option Nat) (dp n : Int32) : Option nk_H := p0.bind fun a0 => p.bind fun a => if nk_K h a0 = 1 ∧ nk_K h a = 1 ∧ a0 ≠ a ∧ nk_rg h a0 a sp dp n = true then some (nk_cI h a (va_cpy (nk_I h a0) (nk_I h a) sp.toNatClampNeg dp.toNatClampNeg n.toNatClampNeg)) else none
def nk_cpP (h : nk_H) (p0 : Option Nat) (sp : Int32) (p : Option Nat) (dp n : Int32) : Option nk_H := p0.bind fun a0 => p.bind fun a => if nk_K h a0 = 4 ∧ nk_K h a = 4 ∧ a0 ≠ a ∧ nk_rg h a0 a sp dp n = true ∧ (List.range n.toNatClampNeg).all (fun j => nk_okv 4 h (nk_P h a0 (sp.toNatClampNeg + j))) = true then some (nk_cP h a (va_cpy (nk_P h a0) (nk_P h a) sp.toNatClampNeg dp.toNatClampNeg n.toNatClampNeg)) else none
theorem nk_toI {z : Int32} (hz : ¬ z < 0) : z.toInt = (z.toNatClampNeg : Int) := by
  have hz0 : (0 : Int) ≤ z.toInt := by
    have := Int32.not_lt.mp hz
    simpa using Int32.le_iff_toInt_le.mp this
  show z.toInt = ((z.toInt.toNat : Nat) : Int)
  omega
/-- a copy's step -/
theorem nk_acpy {p : Program} {e : Env} {R : Room} {s : State} {m : MethodId} {args : Array Value} {below : List Frame} {meth : Method} {c : Code} {H : Heap} {locs : List Loc} {cells slots : Nat} {Q : State → Prop} {ls : Array Slot} {i : Nat} (X : nk_X G l own cc nL ret fr lo ini p R s m meth c) (hls : ls.size = nL) {kd : Nat} (hkd : kd = 1 ∨ kd = 4) {a0 a n0 n1 : Nat} {f g : Nat → Value} {sp dp n : Int32}
    (w1 : Cond.methodLink own i arraycopyName ∈ nk_T) (w2 : Cond.native arraycopyName ∈ nk_T) (w3 : Cond.static arraycopyName ∈ nk_T) (w4 : Cond.initialized "java/lang/System" ∈ nk_T)
    (hc0 : H[a0]? = some (arrV (nk_gA G kd) n0 f)) (hc1 : H[a]? = some (arrV (nk_gA G kd) n1 g)) (h1 : ¬ sp < 0) (h2 : ¬ dp < 0) (h3 : ¬ n < 0) (h4 : sp.toNatClampNeg + n.toNatClampNeg ≤ n0) (h5 : dp.toNatClampNeg + n.toNatClampNeg ≤ n1)
    (hel : ∀ j, j < n.toNatClampNeg → (kd = 1 ∧ ∃ x, f (sp.toNatClampNeg + j) = .int x) ∨ (kd = 4 ∧ (f (sp.toNatClampNeg + j) = .null ∨ ∃ y : Nat, f (sp.toNatClampNeg + j) = .ref y ∧ ∃ cv : Cell, H[y]? = some cv ∧ cv.vm.isStatics = false ∧ (∃ kC, s.vm.classes[cv.cls]? = some kC) ∧ ∀ comp, s.vm.findClass "java/lang/Object" = some comp → s.vm.assignable cv.cls comp = true)))
    (hfr : 1 ≤ fr) (hlo : st.length + 24 ≤ lo) (d : decode cc pc = .ok (.invokestatic i, 3))
    (kk : ∀ (H1 : Heap) (locs1 : List Loc), H1[a]? = some (arrV (nk_gA G kd) n1 (va_cpy f g sp.toNatClampNeg dp.toNatClampNeg n.toNatClampNeg)) → H1.size = H.size → (∀ q, q ≠ a → H1[q]? = H[q]?) → (∀ z ∈ locs1, z ∈ locs ∨ z.base = a) → W p l e R s m args below meth c H1 locs1 cells slots Q (F0 m (pc + 3) ls (nk_vs st))) :
    W p l e R s m args below meth c H locs cells slots Q (F0 m pc ls (.int n :: .int dp :: .ref a :: .int sp :: .ref a0 :: nk_vs st)) := by
  have hKn := X.2.2.2.2.2.2.1
  have g1 : fr ≤ R.frames := X.2.2.2.2.2.2.2.2.1
  have g2 : lo ≤ R.locals := X.2.2.2.2.2.2.2.2.2.1
  have hT9 : ∃ ty : FieldType, ArrOfT s (nk_gA G kd) ty ∧ va_RA s (nk_gA G kd) ty ∧ ((kd = 1 ∧ ty = .int) ∨ (kd = 4 ∧ ty = .object "java/lang/Object")) := by
    rcases hkd with rfl | rfl
    · exact ⟨_, (nk_tyAt hKn 0 rfl).1, (nk_tyAt hKn 0 rfl).2, Or.inl ⟨rfl, rfl⟩⟩
    · exact ⟨_, (nk_tyAt hKn 3 rfl).1, (nk_tyAt hKn 3 rfl).2, Or.inr ⟨rfl, rfl⟩⟩
  obtain ⟨ty, hArr, hRA, hty⟩ := hT9
  obtain ⟨-, k0, hk0, cm0, hkk0⟩ := hArr n0 f
  obtain ⟨-, k1, hk1, cm1, hkk1⟩ := hArr n1 g
  intro T hT X9
  obtain ⟨vm', X', step⟩ := X9.arraycopy X.1 X.2.2.2.2.2.1 (hKn.use w1 args) (hKn.use w2 args) (hKn.use w3 args) (hKn.use w4 args) (src := a0) (dst := a) (cs := arrV (nk_gA G kd) n0 f) (cd := arrV (nk_gA G kd) n1 g) (srcPos := sp) (destPos := dp) (n := n) (by rw [hT]; exact hc0) (by rw [hT]; exact hc1)
    (fun _ h => by cases h) (fun _ h => by cases h) (fun h => by cases h) (fun h => by cases h) hk0 hk1 hkk0 hkk1 (by rcases hty with ⟨-, rfl⟩ | ⟨-, rfl⟩ <;> rfl) h1 h2 h3
    (by rw [nk_toI h1, nk_toI h3, arrV_size]; omega)
    (by rw [nk_toI h2, nk_toI h3, arrV_size]; omega)
    (fun vm₁ hal j hj => by
      have e : (arrV (nk_gA G kd) n0 f).slots.getD (sp.toNatClampNeg + j) .null = f (sp.toNatClampNeg + j) := by
        rw [Array.getD_eq_getD_getElem?, arrV_read _ _ (by omega)]
        rfl
      rw [e]
      rcases hel j hj with ⟨e1, x, e2⟩ | ⟨e1, hv⟩
      · rcases hty with ⟨-, rfl⟩ | ⟨e3, -⟩
        · rw [e2]; exact ⟨rfl, trivial⟩
        · omega
      · rcases hty with ⟨e3, -⟩ | ⟨-, rfl⟩
        · omega
        · rcases hv with e2 | ⟨y, e2, cv, q1, q2, ⟨kC, hkC⟩, q4⟩
          · rw [e2]; exact ⟨rfl, trivial⟩
          · rw [e2]
            obtain ⟨kA, comp, r1, r2, r3, -⟩ := hRA
            cases hk1.symm.trans r1
            cases hkk1.symm.trans r2
            obtain ⟨kE, hkE, -⟩ := Vm.findClass_spec r3
            obtain ⟨kC', hkC', -⟩ := hal.2.2 _ _ hkC
            obtain ⟨kE', hkE', -⟩ := hal.2.2 _ _ hkE
            refine ⟨rfl, cv, (show T.heap[y]? = some cv by rw [hT]; exact q1), (fun q h => by rw [h] at q2; cases q2), ⟨kC', hkC'⟩, ?_, ?_⟩
            · exact ⟨kE', hkE'⟩
            · show vm₁.assignable _ _ = true
              rw [hal.assignable]
              exact q4 _ r3)
    (g := F0 m pc ls (.int n :: .int dp :: .ref a :: .int sp :: .ref a0 :: nk_vs st)) rfl (by rw [X.2.2.1]; exact hls) (rest := nk_vs st) rfl (by rw [X.2.1]; exact d) (by omega) (by
      have hw : nativeFrameWords "java/lang/System" "arraycopy" 5 + 11 ≤ 24 := by decide
      show 2 * 0 + ((nk_vs st).map fun v => v.category).sum + _ ≤ _
      rw [nk_sum]
      omega)
  have e1 : copied (arrV (nk_gA G kd) n0 f) (arrV (nk_gA G kd) n1 g) sp dp n = arrV (nk_gA G kd) n1 (va_cpy f g sp.toNatClampNeg dp.toNatClampNeg n.toNatClampNeg) := va_copied (fun z => z) _ _ f g h4
  rw [e1] at X' step
  have hlt : a < H.size := (Array.getElem?_eq_some_iff.mp hc1).1
  have hheap : ((T.setVm vm').setCell a (arrV (nk_gA G kd) n1 (va_cpy f g sp.toNatClampNeg dp.toNatClampNeg n.toNatClampNeg))).heap = H.setIfInBounds a (arrV (nk_gA G kd) n1 (va_cpy f g sp.toNatClampNeg dp.toNatClampNeg n.toNatClampNeg)) := by rw [← hT]; rfl
  obtain ⟨t, a1, b1⟩ := kk _ _ (by simp [Array.getElem?_setIfInBounds, hlt]) (by simp) (fun q hq => by simp [Array.getElem?_setIfInBounds, Ne.symm hq]) (fun z hz => by
    rcases List.mem_append.mp hz with h | h
    · exact Or.inl h
    · obtain ⟨z9, -, hz9⟩ := List.mem_map.mp h
      exact Or.inr (by rw [← hz9])) _ hheap X'
  exact ⟨t, step t a1, b1⟩
theorem nk_rg_spec {h : nk_H} {a0 a : Nat} {sp dp n : Int32} (hr : nk_rg h a0 a sp dp n = true) : ¬ sp < 0 ∧ ¬ dp < 0 ∧ ¬ n < 0 ∧ sp.toNatClampNeg + n.toNatClampNeg ≤ nk_L h a0 ∧ dp.toNatClampNeg + n.toNatClampNeg ≤ nk_L h a := by
  unfold nk_rg at hr
  simp only [Bool.and_eq_true, decide_eq_true_eq, Bool.not_eq_true', decide_eq_false_iff_not] at hr
  obtain ⟨⟨⟨⟨a1, a2⟩, a3⟩, a4⟩, a5⟩ := hr
  exact ⟨a1, a2, a3, a4, a5⟩
theorem nr_acpI {i : Nat} {x0 x : Option Nat} {sp dp n : Int32} {F : nk_H → Option (nk_H × α)} (d : decode cc pc = .ok (.invokestatic i, 3)) (w1 : Cond.methodLink own i arraycopyName ∈ nk_T) (w2 : Cond.native arraycopyName ∈ nk_T) (w3 : Cond.static arraycopyName ∈ nk_T) (w4 : Cond.initialized "java/lang/System" ∈ nk_T) (hfr : 1 ≤ fr) (hlo : st.length + 24 ≤ lo)
    (kk : ∀ h1, nk_Sim G l own cc nL ret fr lo ini en (pc + 3) lv st h1 (F h1)) : nk_Sim G l own cc nL ret fr lo ini en pc lv (.inl n :: .inl dp :: .inr x :: .inl sp :: .inr x0 :: st) h ((nk_cpI h x0 sp x dp n).bind F) := by
  refine nk_bind (fun h1 hv => ?_)
  cases x0 with
  | none => cases hv
  | some a0 =>
  cases x with
  | none => cases hv
  | some a =>
    by_cases hm : nk_K h a0 = 1 ∧ nk_K h a = 1 ∧ a0 ≠ a ∧ nk_rg h a0 a sp dp n = true
    · have hv2 := Option.some.inj ((if_pos hm).symm.trans hv)
      subst hv2
      obtain ⟨m1, m2, m3, m4⟩ := hm
      obtain ⟨r1, r2, r3, r4, r5⟩ := nk_rg_spec m4
      refine nk_heap (h1 := nk_cI h a (va_cpy (nk_I h a0) (nk_I h a) sp.toNatClampNeg dp.toNatClampNeg n.toNatClampNeg)) (pc' := pc + 3) (st' := st) rfl rfl (fun p e R s m args below meth c H locs cells slots Q ls X hR hl hq k9 => ?_) (kk _)
      have hA0 := hR.2.2.2.1 a0 (by omega) (by omega)
      have hA1 := hR.2.2.2.1 a (by omega) (by omega)
      have c0 := hA0.2.2
      have c1 := hA1.2.2
      rw [m1] at c0
      rw [m2] at c1
      refine nk_acpy (kd := 1) X hl.1 (Or.inl rfl) w1 w2 w3 w4 c0 c1 r1 r2 r3 r4 r5 (fun j _ => Or.inl ⟨rfl, _, rfl⟩) hfr hlo d (fun H1 locs1 e1 z o hz => k9 H1 locs1 ?_ (fun q hq9 => (hz q hq9).elim (hq q) (fun e9 => by rw [e9]; exact hA1.1)))
      refine nk_R1 (a := a) hR ⟨rfl, rfl⟩ rfl rfl rfl (fun x j e => congrFun (nk_u1_ne _ _ _ e) j) (fun _ _ _ => rfl) z o hA1.1 (fun _ _ => ?_) (fun ci q h9 _ => by omega)
      rw [e1, m2]
      congr 2
      funext j
      show va_cpy (nk_el h 1 a0) (nk_el h 1 a) _ _ _ j = Value.int (nk_u1 (nk_I h) a _ a j)
      rw [nk_u1_eq]
      unfold va_cpy
      by_cases e9 : dp.toNatClampNeg ≤ j ∧ j < dp.toNatClampNeg + n.toNatClampNeg
      · rw [if_pos e9, if_pos e9]; rfl
      · rw [if_neg e9, if_neg e9]; rfl
    · exact absurd ((if_neg hm).symm.trans hv) (fun z => nomatch z)
theorem nr_acpP {i : Nat} {x0 x : Option Nat} {sp dp n : Int32} {F : nk_H → Option (nk_H × α)} (d : decode cc pc = .ok (.invokestatic i, 3)) (w1 : Cond.methodLink own i arraycopyName ∈ nk_T) (w2 : Cond.native arraycopyName ∈ nk_T) (w3 : Cond.static arraycopyName ∈ nk_T) (w4 : Cond.initialized "java/lang/System" ∈ nk_T) (hfr : 1 ≤ fr) (hlo : st.length + 24 ≤ lo)
    (kk : ∀ h1, nk_Sim G l own cc nL ret fr lo ini en (pc + 3) lv st h1 (F h1)) : nk_Sim G l own cc nL ret fr lo ini en pc lv (.inl n :: .inl dp :: .inr x :: .inl sp :: .inr x0 :: st) h ((nk_cpP h x0 sp x dp n).bind F) := by
  refine nk_bind (fun h1 hv => ?_)
  cases x0 with
  | none => cases hv
  | some a0 =>
  cases x with
  | none => cases hv
  | some a =>
    by_cases hm : nk_K h a0 = 4 ∧ nk_K h a = 4 ∧ a0 ≠ a ∧ nk_rg h a0 a sp dp n = true ∧ (List.range n.toNatClampNeg).all (fun j => nk_okv 4 h (nk_P h a0 (sp.toNatClampNeg + j))) = true
    · have hv2 := Option.some.inj ((if_pos hm).symm.trans hv)
      subst hv2
      obtain ⟨m1, m2, m3, m4, m5⟩ := hm
      obtain ⟨r1, r2, r3, r4, r5⟩ := nk_rg_spec m4
      refine nk_heap (h1 := nk_cP h a (va_cpy (nk_P h a0) (nk_P h a) sp.toNatClampNeg dp.toNatClampNeg n.toNatClampNeg)) (pc' := pc + 3) (st' := st) rfl rfl (fun p e R s m args below meth c H locs cells slots Q ls X hR hl hq k9 => ?_) (kk _)
      have hKn := X.2.2.2.2.2.2.1
      have hA0 := hR.2.2.2.1 a0 (by omega) (by omega)
      have hA1 := hR.2.2.2.1 a (by omega) (by omega)
      have c0 := hA0.2.2
      have c1 := hA1.2.2
      rw [m1] at c0
      rw [m2] at c1
      refine nk_acpy (kd := 4) X hl.1 (Or.inr rfl) w1 w2 w3 w4 c0 c1 r1 r2 r3 r4 r5 (fun j hj => Or.inr ⟨rfl, ?_⟩) hfr hlo d (fun H1 locs1 e1 z o hz => k9 H1 locs1 ?_ (fun q hq9 => (hz q hq9).elim (hq q) (fun e9 => by rw [e9]; exact hA1.1)))
      · have h9 := List.all_eq_true.mp m5 j (List.mem_range.mpr hj)
        have e9 : nk_el h 4 a0 (sp.toNatClampNeg + j) = va_rf (nk_P h a0 (sp.toNatClampNeg + j)) := rfl
        rw [e9]
        cases hy : nk_P h a0 (sp.toNatClampNeg + j) with
        | none => exact Or.inl rfl
        | some y =>
          rw [hy] at h9
          refine Or.inr ⟨y, rfl, ?_⟩
          obtain ⟨kA, comp, k1, k2, k3, -⟩ := (nk_tyAt hKn 3 rfl).2
          obtain ⟨cv, q1, q2, q3, q4⟩ := nk_asg 4 (Or.inr rfl) hKn hR h9 (comp := comp) k3
          exact ⟨cv, q1, q2, q3, fun comp9 h8 => by
            cases k3.symm.trans h8
            exact q4⟩
      · refine nk_R1 (a := a) hR ⟨rfl, rfl⟩ rfl rfl rfl (fun _ _ _ => rfl) (fun x j e => congrFun (nk_u1_ne _ _ _ e) j) z o hA1.1 (fun _ _ => ?_) (fun ci q h9 _ => by omega)
        rw [e1, m2]
        congr 2
        funext j
        show va_cpy (nk_el h 4 a0) (nk_el h 4 a) _ _ _ j = va_rf (nk_u1 (nk_P h) a _ a j)
        rw [nk_u1_eq]
        unfold va_cpy
        by_cases e9 : dp.toNatClampNeg ≤ j ∧ j < dp.toNatClampNeg + n.toNatClampNeg
        · rw [if_pos e9, if_pos e9]; rfl
        · rw [if_neg e9, if_neg e9]; rfl
    · exact absurd ((if_neg hm).symm.trans hv) (fun z => nomatch z)
/-- a grid of ints: its outer row, then its inner rows -/
def nk_mn (h : nk_H) (n k : Nat) : nk_H :=
  (fun x => if x = nk_N h then 5 else if nk_N h < x ∧ x ≤ nk_N h + n then 1 else nk_K h x,
   fun x j => if nk_N h ≤ x ∧ x ≤ nk_N h + n then 0 else nk_I h x j,
   fun x j => if x = nk_N h then (if j < n then some (nk_N h + 1 + j) else none) else if nk_N h < x ∧ x ≤ nk_N h + n then none else nk_P h x j,
   fun x => if x = nk_N h then n else if nk_N h < x ∧ x ≤ nk_N h + n then k else nk_L h x,
   nk_N h + 1 + n, nk_S h + n + n * k, nk_E h, nk_M h)
def nk_mna (h : nk_H) (n k : Int32) : Option nk_H := if ¬ n < 0 ∧ ¬ k < 0 ∧ n.toNatClampNeg ≤ 65536 ∧ k.toNatClampNeg ≤ 65536 then some (nk_mn h n.toNatClampNeg k.toNatClampNeg) else none
theorem nk_R_mn {n k : Nat} {H H1 : Heap} (hR : nk_R G h H) (z : H1.size = H.size + 1 + n) (o : ∀ x : Nat, x < H.size → H1[x]? = H[x]?)
    (e1 : H1[H.size]? = some (arrV (nk_gA G 5) n (fun j => va_rf (if j < n then some (H.size + 1 + j) else none)))) (e2 : ∀ j, j < n → H1[H.size + 1 + j]? = some (arrV (nk_gA G 1) k (fun _ => .int 0))) : nk_R G (nk_mn h n k) H1 := by
  obtain ⟨r1, r2, r3, r4, r5, r6⟩ := hR
  rw [r1] at z o e1 e2
  have hN : nk_N (nk_mn h n k) = nk_N h + 1 + n := rfl
  have hK : ∀ x, nk_K (nk_mn h n k) x = if x = nk_N h then 5 else if nk_N h < x ∧ x ≤ nk_N h + n then 1 else nk_K h x := fun _ => rfl
  have hL : ∀ x, nk_L (nk_mn h n k) x = if x = nk_N h then n else if nk_N h < x ∧ x ≤ nk_N h + n then k else nk_L h x := fun _ => rfl
  have hI : ∀ x j, nk_I (nk_mn h n k) x j = if nk_N h ≤ x ∧ x ≤ nk_N h + n then 0 else nk_I h x j := fun _ _ => rfl
  have hP : ∀ x j, nk_P (nk_mn h n k) x j = if x = nk_N h then (if j < n then some (nk_N h + 1 + j) else none) else if nk_N h < x ∧ x ≤ nk_N h + n then none else nk_P h x j := fun _ _ => rfl
  refine ⟨by rw [z, hN], by rw [hN]; omega, fun x hx => by rw [o x (by omega)]; exact r3 x hx, fun x h1 h2 => ?_, fun x ci q h1 h2 => ?_, ⟨fun x hx => ?_, r6.2.1, r6.2.2⟩⟩
  · by_cases c1 : x = nk_N h
    · subst c1
      rw [hK, if_pos rfl, hL, if_pos rfl, e1]
      refine ⟨r2, by rw [hN]; omega, ?_⟩
      congr 2
      funext j
      show _ = va_rf (nk_P (nk_mn h n k) (nk_N h) j)
      rw [hP, if_pos rfl]
    · by_cases c2 : nk_N h < x ∧ x ≤ nk_N h + n
      · obtain ⟨j, rfl⟩ : ∃ j, x = nk_N h + 1 + j := ⟨x - nk_N h - 1, by omega⟩
        rw [hK, if_neg c1, if_pos c2, hL, if_neg c1, if_pos c2, e2 j (by omega)]
        refine ⟨by omega, by rw [hN]; omega, ?_⟩
        congr 2
        funext i
        show _ = Value.int (nk_I (nk_mn h n k) (nk_N h + 1 + j) i)
        rw [hI, if_pos (by omega)]
      · rw [hK, if_neg c1, if_neg c2] at h1 h2 ⊢
        obtain ⟨q1, q2, q3⟩ := r4 x h1 h2
        rw [hL, if_neg c1, if_neg c2, o x q2, q3]
        refine ⟨q1, by rw [hN]; omega, ?_⟩
        rw [nk_el_other (h1 := nk_mn h n k) (h := h) (a := x) _ (fun j => by rw [hI, if_neg (by omega)]) (fun j => by rw [hP, if_neg c1, if_neg c2])]
  · by_cases c1 : x = nk_N h
    · rw [hK, if_pos c1] at h1; omega
    · by_cases c2 : nk_N h < x ∧ x ≤ nk_N h + n
      · rw [hK, if_neg c1, if_pos c2] at h1; omega
      · rw [hK, if_neg c1, if_neg c2] at h1
        obtain ⟨q1, q2, q3⟩ := r5 x ci q h1 h2
        refine ⟨q1, by rw [hN]; omega, ?_⟩
        rw [nk_fv_other (h1 := nk_mn h n k) (h := h) (a := x) _ (fun j => by rw [hI, if_neg (by omega)]) (fun j => by rw [hP, if_neg c1, if_neg c2])]
        exact q3.kept (o x q2)
  · by_cases c1 : x = nk_N h
    · rw [hK, if_pos c1] at hx; omega
    · by_cases c2 : nk_N h < x ∧ x ≤ nk_N h + n
      · rw [hK, if_neg c1, if_pos c2] at hx; omega
      · rw [hK, if_neg c1, if_neg c2] at hx
        exact r6.1 x hx
theorem nr_grid {i : Nat} {n k : Int32} {F : nk_H → Option (nk_H × α)} (d : decode cc pc = .ok (.multianewarray i 2, 4)) (w : Cond.classLink own i "[[I" ∈ nk_T) (w1 : Cond.arrayClass .int ∈ nk_T)
    (kk : ∀ h1, nk_Sim G l own cc nL ret fr lo ini en (pc + 4) lv (.inr (some (nk_N h)) :: st) h1 (F h1)) : nk_Sim G l own cc nL ret fr lo ini en pc lv (.inl k :: .inl n :: st) h ((nk_mna h n k).bind F) := by
  refine nk_bind (fun h1 hv => ?_)
  by_cases hm : ¬ n < 0 ∧ ¬ k < 0 ∧ n.toNatClampNeg ≤ 65536 ∧ k.toNatClampNeg ≤ 65536
  · have hv2 : nk_mn h n.toNatClampNeg k.toNatClampNeg = h1 := Option.some.inj ((if_pos hm).symm.trans hv)
    subst hv2
    obtain ⟨m1, m2, m3, m4⟩ := hm
    intro h' r hf
    obtain ⟨k1, k2, k3⟩ := kk _ h' r hf
    have eN : nk_N (nk_mn h n.toNatClampNeg k.toNatClampNeg) = nk_N h + 1 + n.toNatClampNeg := rfl
    have eS : nk_S (nk_mn h n.toNatClampNeg k.toNatClampNeg) = nk_S h + n.toNatClampNeg + n.toNatClampNeg * k.toNatClampNeg := rfl
    rw [eN] at k1 k3
    rw [eS] at k2 k3
    refine ⟨by omega, by omega, fun p e R s m args below meth c X sb b1 b2 b3 b4 H ls locs hR hl hq => ?_⟩
    have hKn := X.2.2.2.2.2.2.1
    intro T hT X9
    obtain ⟨vm₁, cA, comp, -, fA, fC, hO, -, X', step⟩ := X9.multianewarray2F (ty := .int) X.1 X.2.2.2.2.2.1 (hKn.use w args) (by
        have h8 : nk_AOA s := hKn.2.2.1.2.2
        simpa [nk_AOA, Cond.before, Cond.holds, Cond.value] using h8) (hKn.use w1 args) (g := F0 m pc ls (.int k :: .int n :: nk_vs st)) rfl (by rw [X.2.1]; exact d) rfl m1 m2 (Nat.le_trans (Nat.mul_le_mul_right 4 m3) (Nat.le_of_ble_eq_true rfl)) (Nat.le_trans (Nat.mul_le_mul_right _ m4) (Nat.le_of_ble_eq_true rfl)) (Nat.le_trans m4 (Nat.le_of_ble_eq_true rfl)) rfl rfl (by omega) (by omega)
    generalize hF : Jvm.Free.Multi.fill (T.setVm vm₁) cA comp n.toNatClampNeg k.toNatClampNeg (defaultValue .int) n.toNatClampNeg = F9 at X' step
    have hTh : (T.setVm vm₁).heap = H := hT
    obtain ⟨f1, f2, -, -⟩ := Jvm.Free.Multi.fill_facts (T.setVm vm₁) cA comp n.toNatClampNeg k.toNatClampNeg (defaultValue .int) n.toNatClampNeg
    rw [hF, hTh] at f1 f2
    have hold : ∀ x : Nat, x < H.size → F9.heap[x]? = H[x]? := fun x hx => by
      have := Jvm.Free.Multi.fill_old (T.setVm vm₁) cA comp n.toNatClampNeg k.toNatClampNeg (defaultValue .int) (a := x) (by rw [hTh]; exact hx) n.toNatClampNeg
      rw [hF, hTh] at this
      exact this
    have hcA : cA = nk_gA G 5 := Option.some.inj (fA.symm.trans (nk_tyAt hKn 4 rfl).2)
    have hcI : comp = nk_gA G 1 := Option.some.inj (fC.symm.trans (nk_tyAt hKn 0 rfl).2)
    have hrow : ∀ j : Nat, j < n.toNatClampNeg → F9.heap[H.size + 1 + j]? = some (arrV (nk_gA G 1) k.toNatClampNeg (fun _ => .int 0)) := fun j hj => by
      have := Jvm.Free.Multi.fill_inner (T.setVm vm₁) cA comp n.toNatClampNeg k.toNatClampNeg (defaultValue .int) n.toNatClampNeg j hj
      rw [hF, hTh, hcI] at this
      rw [this, ← arrV_new]
      rfl
    rw [vr_outer, hcA] at f2
    have hR1 := nk_R_mn (k := k.toNatClampNeg) hR f1 hold f2 hrow
    have k4 := k3 p e R s m args below meth c X sb (by omega) (by omega) b3 b4 F9.heap ls locs hR1 hl hq
    rw [show nk_N h + 1 + n.toNatClampNeg - s.heap.size = nk_N h - s.heap.size + 1 + n.toNatClampNeg by omega, show nk_S h + n.toNatClampNeg + n.toNatClampNeg * k.toNatClampNeg - sb = nk_S h - sb + n.toNatClampNeg + n.toNatClampNeg * k.toNatClampNeg by omega] at k4
    obtain ⟨t, a1, b9⟩ := k4 F9 rfl X'
    refine ⟨t, step t ?_, b9⟩
    have e9 : T.heap.size = nk_N h := by rw [hT]; exact hR.1
    rw [e9]
    exact a1
  · exact absurd ((if_neg hm).symm.trans hv) (fun z => nomatch z)
end NKB
end
section
/-! ===== the law's own rows: its methods that catch; longs; the script; the switch ===== -/
def nk_IX : String := "java/lang/IndexOutOfBoundsException"
def nk_IA : String := "java/lang/IllegalArgumentException"
def nk_IS : String := "java/lang/IllegalStateException"
abbrev nk_Hs : Type := List ((Nat × Nat × Nat × Nat) × String)
/-- which row of a table takes a class, counted from n -/
def nk_kx : nk_Hs → Nat → String → Option Nat
  | [], _, _ => none
  | z :: t, n, E => if E = z.2 then some n else nk_kx t (n + 1) E
theorem nk_kx_spec : ∀ (hs : nk_Hs) (n : Nat) (E : String) (r : Nat), nk_kx hs n E = some r → ∃ (pre : nk_Hs) (x : (Nat × Nat × Nat × Nat) × String) (suf : nk_Hs), hs = pre ++ x :: suf ∧ x.2 = E ∧ (∀ z ∈ pre, z.2 ≠ E) ∧ r = n + pre.length
  | [], _, _, _, h => nomatch h
  | z :: t, n, E, r, h => by
    by_cases e : E = z.2
    · have h2 : n = r := Option.some.inj ((if_pos e).symm.trans h)
      exact ⟨[], z, t, rfl, e.symm, (fun _ hz => nomatch hz), h2.symm⟩
    · have h2 : nk_kx t (n + 1) E = some r := (if_neg e).symm.trans h
      obtain ⟨pre, x, suf, h3, h4, h5, h6⟩ := nk_kx_spec t (n + 1) E r h2
      refine ⟨z :: pre, x, suf, by rw [h3]; rfl, h4, fun y hy => ?_, by rw [h6, List.length_cons]; omega⟩
      rcases List.mem_cons.mp hy with rfl | hy
      · exact fun e2 => e e2.symm
      · exact h5 y hy
/-- a handler: it stores the thrown object and answers n -/
def nk_hdAt (cc : ByteArray) (nL hpc n : Nat) : Prop :=
  (∃ k : Nat, decode cc hpc = .ok (.astore k, 2) ∧ k < nL ∧ decode cc (hpc + 2) = .ok (.iconst n, 1) ∧ decode cc (hpc + 3) = .ok (.ireturn, 1)) ∨
  (∃ k : Fin 4, decode cc hpc = .ok (.astore_n k, 1) ∧ (k : Nat) < nL ∧ decode cc (hpc + 1) = .ok (.iconst n, 1) ∧ decode cc (hpc + 2) = .ok (.ireturn, 1))
def nk_Hok (own : String) (cc : ByteArray) (nL pc : Nat) : nk_Hs → Nat → Prop
  | [], _ => True
  | z :: t, n => (z.1.1 ≤ pc ∧ pc < z.1.2.1 ∧ z.1.2.2.2 ≠ 0 ∧ Cond.classLink own z.1.2.2.2 z.2 ∈ nk_T ∧ z.2 ∈ [nk_IX, nk_IA, nk_IS] ∧ nk_hdAt cc nL z.1.2.2.1 n) ∧ nk_Hok own cc nL pc t (n + 1)
theorem nk_Hok.at {own : String} {cc : ByteArray} {nL pc : Nat} {x : (Nat × Nat × Nat × Nat) × String} {suf : nk_Hs} : ∀ {pre : nk_Hs} {n : Nat}, nk_Hok own cc nL pc (pre ++ x :: suf) n →
    (∀ z ∈ pre, z.1.2.2.2 ≠ 0 ∧ Cond.classLink own z.1.2.2.2 z.2 ∈ nk_T ∧ z.2 ∈ [nk_IX, nk_IA, nk_IS]) ∧ (x.1.1 ≤ pc ∧ pc < x.1.2.1 ∧ x.1.2.2.2 ≠ 0 ∧ Cond.classLink own x.1.2.2.2 x.2 ∈ nk_T ∧ x.2 ∈ [nk_IX, nk_IA, nk_IS] ∧ nk_hdAt cc nL x.1.2.2.1 (n + pre.length))
  | [], n, h => ⟨(fun _ hz => nomatch hz), h.1⟩
  | z :: t, n, h => by
    obtain ⟨a, b⟩ := nk_Hok.at (pre := t) (n := n + 1) h.2
    refine ⟨fun y hy => ?_, ?_⟩
    · rcases List.mem_cons.mp hy with rfl | hy
      · exact ⟨h.1.2.2.1, h.1.2.2.2.1, h.1.2.2.2.2.1⟩
      · exact a y hy
    · rw [List.length_cons, show n + (t.length + 1) = n + 1 + t.length by omega]
      exact b
theorem nk_ca_IX : Cond.castable nk_IX nk_IX ∈ nk_T := nk_in (i := 290) (by decide +kernel) rfl
theorem nk_ca_IA : Cond.castable nk_IA nk_IA ∈ nk_T := nk_in (i := 358) (by decide +kernel) rfl
theorem nk_ca_IS : Cond.castable nk_IS nk_IS ∈ nk_T := nk_in (i := 384) (by decide +kernel) rfl
theorem nk_ca3 {E : String} (h : E ∈ [nk_IX, nk_IA, nk_IS]) : Cond.castable E E ∈ nk_T := by
  simp only [List.mem_cons, List.not_mem_nil, or_false] at h
  rcases h with rfl | rfl | rfl
  · exact nk_ca_IX
  · exact nk_ca_IA
  · exact nk_ca_IS
theorem nk_nc3 {E F : String} (h : E ∈ [nk_IX, nk_IA, nk_IS]) (h2 : F ∈ [nk_IX, nk_IA, nk_IS]) (hne : F ≠ E) : (E, F) ∈ nk_ncs := by
  simp only [List.mem_cons, List.not_mem_nil, or_false] at h h2
  rcases h with rfl | rfl | rfl <;> rcases h2 with rfl | rfl | rfl <;> first | exact absurd rfl hne | decide +kernel
section NKL
variable {β : Type} {G : nk_G} {l : Launch} {cc : ByteArray} {nL : Nat} {ret : Option FieldType} {fr lo : Nat} {ini : Bool} {en2 : β → Option Value ⊕ String} {pc : Nat} {lv : List (Nat × nk_V)} {st0 st : List nk_V} {h : nk_H} {g : Option (nk_H × β)}
theorem nk_handler {own : String} {hpc n : Nat} {r : Int32} (hd : nk_hdAt cc nL hpc n) (hr : Int32.ofInt n = r) (hret : ret = some .int) (q : Nat) (h1 : nk_H) : nk_Sim G l own cc nL ret fr lo ini nk_eI hpc lv [.inr (some q)] h1 (some (h1, r)) := by
  rcases hd with ⟨k, d1, d2, d3, d4⟩ | ⟨k, d1, d2, d3, d4⟩
  · exact nr_astore d1 d2 rfl (nr_iconst d3 hr (nr_iret rfl hret d4))
  · exact nr_astore_n d1 d2 rfl (nr_iconst d3 hr (nr_iret rfl hret d4))
/-- a call whose throws are caught -/
theorem nk_callW (hs : nk_Hs) {F : nk_H × β → Option (nk_H × Int32)} (go : nk_Go G l "NotaryKioskLaw" cc nL ret fr lo ini pc lv st0 st h en2 g)
    (kk : ∀ (h1 : nk_H) (r : β) (v : Option Value), en2 r = .inl v → ∃ t : List nk_V, v.toList = nk_vs t ∧ nk_Sim G l "NotaryKioskLaw" cc nL ret fr lo ini nk_eI (pc + 3) lv (t ++ st) h1 (F (h1, r)))
    (kx : ∀ (h1 : nk_H) (r : β) (E : String), en2 r = .inr E → F (h1, r) = (nk_kx hs 1 E).map fun n => (h1, Int32.ofInt n))
    (hret : ret = some .int) (hm : (cc, hs.map Prod.fst) ∈ nk_hhl) (hok : nk_Hok "NotaryKioskLaw" cc nL pc hs 1) : nk_Sim G l "NotaryKioskLaw" cc nL ret fr lo ini nk_eI pc lv st0 h (g.bind F) := by
  intro h' r' hf
  cases hg : g with
  | none => rw [hg] at hf; cases hf
  | some x =>
    obtain ⟨h1, r⟩ := x
    rw [hg] at hf
    have hf2 : F (h1, r) = some (h', r') := hf
    obtain ⟨g1, g2, g3⟩ := go h1 r hg
    cases ho : en2 r with
    | inl v =>
      obtain ⟨t, ht, k⟩ := kk h1 r v ho
      obtain ⟨k1, k2, k3⟩ := k h' r' hf2
      refine ⟨Nat.le_trans g1 k1, Nat.le_trans g2 k2, fun p e R s m args below meth c X sb b1 b2 b3 b4 H ls locs hR hl hq => ?_⟩
      obtain ⟨a, hrun⟩ := g3 p e R s m args below meth c X (nk_N h - s.heap.size) (nk_S h - sb) (by omega) (by omega) H ls locs hR hl
      intro T hT X0
      rcases hrun T hT X0 with ⟨w, st₀, t9, T', L, h0, X', hL, e1, e2, ⟨hR1, v9, hv, hw⟩, stp⟩ | ⟨q, st₀, t9, T', L, E, ce, h0, X', hL, e1, e2, ⟨hR1, hv⟩, -⟩
      · rw [ho] at hv
        cases hv
        cases hw
        have k4 := k3 p e R s m args below meth c X sb (by omega) (by omega) b3 b4 t9.heap ls (locs ++ L) hR1 hl (fun q hq9 => (List.mem_append.mp hq9).elim (hq q) (hL q))
        rw [show nk_N h1 - s.heap.size = nk_N h - s.heap.size + (nk_N h1 - nk_N h) by omega, show nk_S h1 - sb = nk_S h - sb + (nk_S h1 - nk_S h) by omega] at k4
        obtain ⟨t2, a1, b9⟩ := k4 T' e1 X'
        refine ⟨t2, stp t2 ?_, b9⟩
        show Steps p.tables e below (T'.setTop (F0 m (pc + 3) ls (v.toList ++ nk_vs st))) t2
        rw [ht]
        have e5 : nk_vs (t ++ st) = nk_vs t ++ nk_vs st := List.map_append
        rw [← e5]
        exact a1
      · rw [ho] at hv; cases hv
    | inr E =>
      have hF := kx h1 r E ho
      rw [hF] at hf2
      cases hkx : nk_kx hs 1 E with
      | none => rw [hkx] at hf2; cases hf2
      | some n9 =>
      rw [hkx] at hf2
      cases hf2
      obtain ⟨pre, x, suf, hsp, hxE, hpre, hn9⟩ := nk_kx_spec hs 1 E n9 hkx
      refine ⟨g1, g2, fun p e R s m args below meth c X sb b1 b2 b3 b4 H ls locs hR hl hq => ?_⟩
      obtain ⟨a, hrun⟩ := g3 p e R s m args below meth c X (nk_N h - s.heap.size) (nk_S h - sb) (by omega) (by omega) H ls locs hR hl
      intro T hT X0
      rcases hrun T hT X0 with ⟨w, st₀, t9, T', L, h0, X', hL, e1, e2, ⟨hR1, v9, hv, hw⟩, -⟩ | ⟨q, st₀, t9, T', L, E9, ce, h0, X', hL, e1, e2, ⟨hR1, hv⟩, hce, hcv, hcl, stp⟩
      · rw [ho] at hv; cases hv
      · rw [ho] at hv
        cases hv
        have XX := X
        obtain ⟨hx, hb, hml, hr, hlk, hown, hKn, hG, hRf, hRl, htab, hst, hin⟩ := XX
        have htb := htab.2 rfl _ hm rfl
        subst hsp
        obtain ⟨o1, o2, o3, o4, o5, o6, o7⟩ := hok.at
        rw [hxE] at o5 o6
        unfold nk_rows at htb
        rw [List.map_append, List.map_cons] at htb
        obtain ⟨pre', suf', hs1, hs2, hs3⟩ := List.map_eq_append_iff.mp htb
        obtain ⟨x', suf9, hs4, hs5, hs6⟩ := List.map_eq_cons_iff.mp hs3
        subst hs4
        have ex : x'.startPc = x.1.1 ∧ x'.endPc = x.1.2.1 ∧ x'.handlerPc = x.1.2.2.1 ∧ x'.catchType = x.1.2.2.2 := by
          rw [← hs5]; exact ⟨rfl, rfl, rfl, rfl⟩
        have kS := nk_handler (G := G) (l := l) (own := "NotaryKioskLaw") (ret := ret) (fr := fr) (lo := lo) (ini := ini) (lv := lv) o7 (r := Int32.ofInt n9) (by rw [hn9]) hret q h'
        obtain ⟨-, -, k3⟩ := kS h' _ rfl
        have k4 := k3 p e R s m args below meth c X sb (by omega) (by omega) b3 b4 t9.heap ls (locs ++ L) hR1 hl (fun q hq9 => (List.mem_append.mp hq9).elim (hq q) (hL q))
        rw [show nk_N h' - s.heap.size = nk_N h - s.heap.size + (nk_N h' - nk_N h) by omega, show nk_S h' - sb = nk_S h - sb + (nk_S h' - nk_S h) by omega] at k4
        rw [show nk_N h' - s.heap.size = nk_N h - s.heap.size + (nk_N h' - nk_N h) by omega, show nk_S h' - sb = nk_S h - sb + (nk_S h' - nk_S h) by omega]
        have kC := vx_catch (rest := nk_vs st) (pc := pc) (ls := ls) (name := E) (E := E) (ce := ce) (q := q) (H := t9.heap) (locs := locs ++ L) (cells := nk_N h - s.heap.size + (nk_N h' - nk_N h)) (slots := nk_S h - sb + (nk_S h' - nk_S h)) hown pre' x' suf9 hs1 (fun z hz => by
            have hzm : (z.startPc, z.endPc, z.handlerPc, z.catchType) ∈ List.map Prod.fst pre := by rw [← hs2]; exact List.mem_map.mpr ⟨z, hz, rfl⟩
            obtain ⟨y, hy, hye⟩ := List.mem_map.mp hzm
            obtain ⟨p1, p2, p3⟩ := o1 y hy
            have e9 : z.catchType = y.1.2.2.2 := by rw [hye]
            refine Or.inr ⟨by rw [e9]; exact p1, y.2, by rw [e9]; exact hKn.use p2 args, hKn.2.2.2.2.2.2.2.2.2.2.2 _ (nk_nc3 o6 p3 (hpre y hy))⟩)
          (by unfold covers; rw [ex.1, ex.2.1]; simp [o2, o3]) (by rw [ex.2.2.2]; exact o4) (by rw [ex.2.2.2]; exact hKn.use o5 args) (hKn.use (nk_ca3 o6) args) hce hcv hcl (by rw [ex.2.2.1]; exact k4)
        obtain ⟨t2, a1, b9⟩ := kC T' e1 X'
        exact ⟨t2, stp.trans a1, b9⟩
/-- a try around a call -/
def nk_try {γ : Type} (hs : nk_Hs) (g : Option (nk_H × (γ ⊕ String))) (K : nk_H → γ → Option (nk_H × Int32)) : Option (nk_H × Int32) := g.bind fun x => match x.2 with
  | .inl v => K x.1 v
  | .inr E => (nk_kx hs 1 E).map fun n => (x.1, Int32.ofInt n)
theorem nr_tryI (hs : nk_Hs) {K : nk_H → Int32 → Option (nk_H × Int32)} {g : Option (nk_H × (Int32 ⊕ String))} (go : nk_Go G l "NotaryKioskLaw" cc nL ret fr lo ini pc lv st0 st h nk_eIt g) (hret : ret = some .int) (hm : (cc, hs.map Prod.fst) ∈ nk_hhl) (hok : nk_Hok "NotaryKioskLaw" cc nL pc hs 1)
    (kk : ∀ h1 v, nk_Sim G l "NotaryKioskLaw" cc nL ret fr lo ini nk_eI (pc + 3) lv (.inl v :: st) h1 (K h1 v)) : nk_Sim G l "NotaryKioskLaw" cc nL ret fr lo ini nk_eI pc lv st0 h (nk_try hs g K) :=
  nk_callW hs go (fun h1 r v hv => by
    cases r with
    | inl u => cases hv; exact ⟨[.inl u], rfl, kk h1 u⟩
    | inr E => cases hv) (fun h1 r E hE => by
    cases r with
    | inl u => cases hE
    | inr E9 => cases hE; rfl) hret hm hok
theorem nr_tryV (hs : nk_Hs) {K : nk_H → Unit → Option (nk_H × Int32)} {g : Option (nk_H × (Unit ⊕ String))} (go : nk_Go G l "NotaryKioskLaw" cc nL ret fr lo ini pc lv st0 st h nk_eVt g) (hret : ret = some .int) (hm : (cc, hs.map Prod.fst) ∈ nk_hhl) (hok : nk_Hok "NotaryKioskLaw" cc nL pc hs 1)
    (kk : ∀ h1, nk_Sim G l "NotaryKioskLaw" cc nL ret fr lo ini nk_eI (pc + 3) lv st h1 (K h1 ())) : nk_Sim G l "NotaryKioskLaw" cc nL ret fr lo ini nk_eI pc lv st0 h (nk_try hs g K) :=
  nk_callW hs go (fun h1 r v hv => by
    cases r with
    | inl u => cases hv; exact ⟨[], rfl, kk h1⟩
    | inr E => cases hv) (fun h1 r E hE => by
    cases r with
    | inl u => cases hE
    | inr E9 => cases hE; rfl) hret hm hok
/-- the contract of a method with a table; its call -/
def nk_ConW {α : Type} (G : nk_G) (l : Launch) (y : MethodName) (cc : ByteArray) (nL : Nat) (ret : Option FieldType) (hh : List (Nat × Nat × Nat × Nat)) (fr lo : Nat) (en : α → Option Value ⊕ String) (vs : List nk_V) (h : nk_H) (f : Option (nk_H × α)) : Prop :=
  ∀ (h' : nk_H) (r : α), f = some (h', r) → nk_N h ≤ nk_N h' ∧ nk_S h ≤ nk_S h' ∧
    vx_Met l y [Cond.codeWith y cc nL ret hh] { frames := fr, cells := nk_N h' - nk_N h, slots := nk_S h' - nk_S h, locals := lo } (nk_Pc G h vs) (nk_Qc G h' (en r)) (nk_XC G h' (en r)) (nk_N h' - nk_N h) (nk_S h' - nk_S h) (nk_fr G)
theorem nk_conW {α : Type} {en : α → Option Value ⊕ String} {y : MethodName} {hh : List (Nat × Nat × Nat × Nat)} {vs : List nk_V} {f : Option (nk_H × α)} (hy : plainName y.cls = true) (hl0 : l.flags = flags0) (hlen : vs.length ≤ nL) (hini : ini = true → y.name = "<init>") (hnl : y.cls = "NotaryKioskLaw") (hu : ∀ q ∈ nk_hhl, q.1 = cc → hh = q.2)
    (k : nk_Sim G l y.cls cc nL ret fr lo ini en 0 (vs.zipIdx.map fun q => (q.2, q.1)) [] h f) : nk_ConW G l y cc nL ret hh fr lo en vs h f := by
  intro h' r hf
  obtain ⟨k1, k2, k3⟩ := k h' r hf
  refine ⟨k1, k2, vx_ofWH (ws' := []) (maxL := nL) (cc := cc) (ret := ret) (hh := hh) hy rfl ?_⟩
  intro p e s m args below meth c s₁ B hml ⟨hargs, hR, hKn⟩
  subst hargs
  have hb9 : s.heap.size = nk_N h := hR.1
  have hsl : lg_sl (nk_vs vs) = (nk_vs vs).map Slot.val := nk_sl vs
  have hh0 : lv_has ((lg_sl (nk_vs vs) ++ List.replicate (nL - (lg_sl (nk_vs vs)).length) Slot.unset).toArray) nL (lv_args 0 (nk_vs vs)) := lv_entry (nk_vs vs) (by rw [hsl]; simpa [nk_vs] using hlen)
  have hargs : lv_args 0 (nk_vs vs) = nk_lv (vs.zipIdx.map fun q => (q.2, q.1)) := nk_args vs 0
  rw [hargs] at hh0
  obtain ⟨m9, meth9, c9, n1, n2, n3, -, -, n4, -⟩ := Cond.codeWith_spec (atoms_spec (ws := [Cond.codeWith y cc nL ret hh]) B.pre _ List.mem_cons_self)
  cases n1.symm.trans B.named
  cases n2.symm.trans B.method
  have hc9 : c9 = c := Option.some.inj (n3.symm.trans (by
    have h9 := B.here.code
    rw [B.state] at h9
    have h8 : (s.setFrames (.java (entryFrame m (nk_vs vs).toArray nL) :: below)).code? m = meth.code := by
      have h7 := B.method
      simp only [Vm.method?, bind, Option.bind_eq_some_iff] at h7
      obtain ⟨k, hk, hm7⟩ := h7
      simp [State.code?, State.setFrames, hk, hm7]
    exact h8.symm.trans h9))
  subst hc9
  have X : nk_X G l y.cls cc nL ret fr lo ini p (headSpec [Cond.codeWith y cc nL ret hh] { frames := fr, cells := nk_N h' - nk_N h, slots := nk_S h' - nk_S h, locals := lo }).room s m meth c9 :=
    ⟨B.exec, B.bytes, hml, B.returns, B.notSynchronized, findClass_of_methodNamed B.named, hKn, ⟨by rw [hb9]; exact hR.2.1, hR.2.2.1⟩, Nat.le_refl _, Nat.le_refl _, ⟨fun e9 => absurd hnl e9, fun _ q hq9 he9 => n4.trans (hu q hq9 he9)⟩, nk_noTrace hl0, fun hi => by rw [(name_of_methodNamed B.named B.method).1]; exact hini hi⟩
  have := k3 p e _ s m (nk_vs vs).toArray below meth c9 X (nk_S h) (by omega) (Nat.le_refl _) (by rw [hb9]; exact Nat.le_refl _) (Nat.le_refl _) s.heap _ [] hR hh0 (fun q hq => nomatch hq)
  rw [hb9, Nat.sub_self, Nat.sub_self] at this
  rw [lg_entry_eq]
  exact this
def nk_MyW (y : MethodName) (cc : ByteArray) (nL : Nat) (ret : Option FieldType) (hh : List (Nat × Nat × Nat × Nat)) (n : Nat) : Prop := Cond.codeWith y cc nL ret hh ∈ nk_T ∧ Cond.initialized y.cls ∈ nk_T ∧ (y.cls ≠ "java/lang/invoke/MethodHandle" ∧ y.cls ≠ "java/lang/invoke/VarHandle") ∧ (parseMethodDescriptor y.desc).map (fun d => d.parameters.length) = some n
theorem nk_callSW {own : String} {y : MethodName} {c2 : ByteArray} {n2 fr2 lo2 i n : Nat} {r2 : Option FieldType} {hh : List (Nat × Nat × Nat × Nat)} {vs : List nk_V} (con : nk_ConW G l y c2 n2 r2 hh fr2 lo2 en2 vs h g) (d : decode cc pc = .ok (.invokestatic i, 3)) (hy : nk_MyW y c2 n2 r2 hh n) (ws : Cond.static y ∈ nk_T) (wl : Cond.methodLink own i y ∈ nk_T) (hst : st0 = vs.reverse ++ st) (hn : vs.length = n) (h8 : st.length ≤ 8) (hfr : fr2 + 1 ≤ fr) (hlo : 8 + (n2 + 11) + lo2 ≤ lo) : nk_Go G l own cc nL ret fr lo ini pc lv st0 st h en2 g := by
  subst hst
  intro h1 r hg
  obtain ⟨g1, g2, hM⟩ := con h1 r hg
  refine ⟨g1, g2, fun p e R s m args below meth c X cells slots hc hs H ls locs hR hl => ?_⟩
  have hKn := X.2.2.2.2.2.2.1
  have h1 : fr ≤ R.frames := X.2.2.2.2.2.2.2.2.1
  have h2 : lo ≤ R.locals := X.2.2.2.2.2.2.2.2.2.1
  exact ⟨_, vx_runSX (Ts := []) (own := own) (cc := cc) (nL := nL) (As := nk_vs vs) (hh := hh) ⟨X.1, X.2.1, X.2.2.1, X.2.2.2.2.2.1, fun w hw => nomatch hw⟩ hM ⟨⟨rfl, rfl, by show fr2 + 1 ≤ R.frames; omega, by show 8 + (n2 + 11) + lo2 ≤ R.locals; omega, fun w hw a' U hW => by
    rw [List.mem_singleton.mp hw]
    exact (hKn.warm hW).use hy.1 a', List.mem_singleton.mpr rfl⟩, hKn.use hy.1 args, hKn.use hy.2.1 args, hy.2.2.1, nk_par (y := y) hy.2.2.2, hKn.use wl args, hKn.use ws args⟩ ⟨nk_blind G h vs, nk_stS X hR _ rfl⟩ rfl (by rw [← hn]; exact List.length_map _) hl.1 (nk_revs vs st) (lv_room (by rw [nk_sum]; exact h8)) d ⟨hc, hs⟩⟩
end NKL
section NKQ
variable {α : Type} {G : nk_G} {l : Launch} {own : String} {cc : ByteArray} {nL : Nat} {ret : Option FieldType} {fr lo : Nat} {ini : Bool} {en : α → Option Value ⊕ String} {pc : Nat} {lv lv2 : List (Nat × nk_V)} {st : List nk_V} {h : nk_H} {f fA fB : Option (nk_H × α)}
/-- an int into an array of longs -/
def nk_wL (h : nk_H) (p : Option Nat) (i v : Int32) : Option nk_H := p.bind fun a => if nk_K h a = 6 ∧ ¬ i < 0 ∧ i.toNatClampNeg < nk_L h a then some (nk_sI h a i.toNatClampNeg v) else none
theorem nk_wlast {a : Nat} {i v : Int32} {p : Program} {e : Env} {R : Room} {s : State} {m : MethodId} {args : Array Value} {below : List Frame} {meth : Method} {c : Code} {H : Heap} {locs : List Loc} {cells slots : Nat} {Q : State → Prop} {ls : Array Slot} (X : nk_X G l own cc nL ret fr lo ini p R s m meth c) (hR : nk_R G h H) (hq : ∀ q ∈ locs, nk_fr G q.base) (hm : nk_K h a = 6 ∧ ¬ i < 0 ∧ i.toNatClampNeg < nk_L h a) (d : decode cc pc = .ok (.lastore, 1))
    (kk : ∀ (H1 : Heap) (locs1 : List Loc), nk_R G (nk_sI h a i.toNatClampNeg v) H1 → (∀ q ∈ locs1, nk_fr G q.base) → W p l e R s m args below meth c H1 locs1 cells slots Q (F0 m (pc + 1) ls (nk_vs st))) : W p l e R s m args below meth c H locs cells slots Q (F0 m pc ls (.long v.toInt64 :: .int i :: .ref a :: nk_vs st)) := by
  obtain ⟨hc, h0, hlt⟩ := hm
  have hA := hR.2.2.2.1 a (by omega) (by omega)
  have hcell2 := hA.2.2
  rw [hc] at hcell2
  refine W.last X.1 X.2.1 hcell2 ((nk_tyAt X.2.2.2.2.2.2.1 5 rfl).1 _ _) (fun q => by cases q) (by rw [arrV_size]; exact fun q => q.elim h0 (Nat.not_le.mpr hlt)) rfl rfl d fun H1 e1 z o => ?_
  rw [arrV_store] at e1
  exact kk H1 _ (nk_R_aI hR (by omega) (by omega) (Or.inr ⟨hc, rfl⟩) z o (by rw [hc]; exact e1)) (nk_fr_app hq hA.1)
theorem nr_i2last {x : Option Nat} {i v : Int32} {F : nk_H → Option (nk_H × α)} (d : decode cc pc = .ok (.i2l, 1)) (d1 : decode cc (pc + 1) = .ok (.lastore, 1)) (kk : ∀ h1, nk_Sim G l own cc nL ret fr lo ini en (pc + 2) lv st h1 (F h1)) : nk_Sim G l own cc nL ret fr lo ini en pc lv (.inl v :: .inl i :: .inr x :: st) h ((nk_wL h x i v).bind F) := by
  refine nk_bind (fun h1 hv => ?_)
  cases x with
  | none => cases hv
  | some a =>
    by_cases hm : nk_K h a = 6 ∧ ¬ i < 0 ∧ i.toNatClampNeg < nk_L h a
    · have hv2 : nk_sI h a i.toNatClampNeg v = h1 := Option.some.inj ((if_pos hm).symm.trans hv)
      subst hv2
      refine nk_heap (nk_N_sI h a _ v) (nk_S_sI h a _ v) (fun p e R s m args below meth c H locs cells slots Q ls X hR hl hq k9 => ?_) (kk _)
      exact lv_i2l X.1 X.2.1 d rfl (nk_wlast X hR hq hm d1 k9)
    · exact absurd ((if_neg hm).symm.trans hv) (fun z => nomatch z)
theorem nr_zlast {x : Option Nat} {i b : Int32} {o1 o2 : Int} {F : nk_H → Option (nk_H × α)} (d : decode cc pc = .ok (.ifCond .eq o1, 3)) (e1 : (pc : Int) + o1 = ((pc + 7 : Nat) : Int)) (d1 : decode cc (pc + 3) = .ok (.lconst 1, 1)) (d2 : decode cc (pc + 4) = .ok (.goto o2, 3)) (e2 : ((pc + 4 : Nat) : Int) + o2 = ((pc + 8 : Nat) : Int)) (d3 : decode cc (pc + 7) = .ok (.lconst 0, 1)) (d4 : decode cc (pc + 8) = .ok (.lastore, 1))
    (kk : ∀ h1, nk_Sim G l own cc nL ret fr lo ini en (pc + 9) lv st h1 (F h1)) : nk_Sim G l own cc nL ret fr lo ini en pc lv (.inl b :: .inl i :: .inr x :: st) h ((nk_wL h x i (if b = 0 then 0 else 1)).bind F) := by
  refine nk_bind (fun h1 hv => ?_)
  cases x with
  | none => cases hv
  | some a =>
    by_cases hm : nk_K h a = 6 ∧ ¬ i < 0 ∧ i.toNatClampNeg < nk_L h a
    · have hv2 : nk_sI h a i.toNatClampNeg (if b = 0 then 0 else 1) = h1 := Option.some.inj ((if_pos hm).symm.trans hv)
      subst hv2
      refine nk_heap (nk_N_sI h a _ _) (nk_S_sI h a _ _) (fun p e R s m args below meth c H locs cells slots Q ls X hR hl hq k9 => ?_) (kk _)
      refine lv_if_eq X.1 X.2.1 d e1 (fun hb => lv_lconst X.1 X.2.1 d3 rfl ?_) (fun hb => lv_lconst X.1 X.2.1 d1 rfl (lv_goto X.1 X.2.1 d2 e2 ?_))
      · rw [if_pos hb] at k9
        exact nk_wlast (v := 0) X hR hq hm d4 k9
      · rw [if_neg hb] at k9
        exact nk_wlast (v := 1) X hR hq hm d4 k9
    · exact absurd ((if_neg hm).symm.trans hv) (fun z => nomatch z)
/-- two ways on, by the heap -/
theorem nk_ite2 {pa pb : Nat} {st2 : List nk_V} (P : Prop) [Decidable P] (step : ∀ (p : Program) (e : Env) (R : Room) (s : State) (m : MethodId) (args : Array Value) (below : List Frame) (meth : Method) (c : Code) (H : Heap) (locs : List Loc) (cells slots : Nat) (Q : State → Prop) (ls : Array Slot), nk_X G l own cc nL ret fr lo ini p R s m meth c → nk_R G h H → lv_has ls nL (nk_lv lv) →
      (P → W p l e R s m args below meth c H locs cells slots Q (F0 m pa ls (nk_vs st2))) → (¬ P → W p l e R s m args below meth c H locs cells slots Q (F0 m pb ls (nk_vs st2))) → W p l e R s m args below meth c H locs cells slots Q (F0 m pc ls (nk_vs st)))
    (ka : P → nk_Sim G l own cc nL ret fr lo ini en pa lv st2 h fA) (kb : ¬ P → nk_Sim G l own cc nL ret fr lo ini en pb lv st2 h fB) : nk_Sim G l own cc nL ret fr lo ini en pc lv st h (if P then fA else fB) := by
  intro h' r hf
  by_cases hP : P
  · rw [if_pos hP] at hf
    obtain ⟨k1, k2, k3⟩ := ka hP h' r hf
    refine ⟨k1, k2, fun p e R s m args below meth c X sb b1 b2 b3 b4 H ls locs hR hl hq => ?_⟩
    exact step p e R s m args below meth c H locs _ _ _ ls X hR hl (fun _ => k3 p e R s m args below meth c X sb b1 b2 b3 b4 H ls locs hR hl hq) (fun n => absurd hP n)
  · rw [if_neg hP] at hf
    obtain ⟨k1, k2, k3⟩ := kb hP h' r hf
    refine ⟨k1, k2, fun p e R s m args below meth c X sb b1 b2 b3 b4 H ls locs hR hl hq => ?_⟩
    exact step p e R s m args below meth c H locs _ _ _ ls X hR hl (fun y => absurd y hP) (fun _ => k3 p e R s m args below meth c X sb b1 b2 b3 b4 H ls locs hR hl hq)
/-- reading an array of longs, that holds ints -/
def nk_rL (h : nk_H) (p : Option Nat) (i : Int32) : Option Int32 := p.bind fun a => if nk_K h a = 6 ∧ ¬ i < 0 ∧ i.toNatClampNeg < nk_L h a then some (nk_I h a i.toNatClampNeg) else none
theorem nk_i64 {x y : Int32} : x.toInt64 = y.toInt64 ↔ x = y := by
  constructor
  · intro e
    have e2 := congrArg Int64.toInt e
    rw [Int32.toInt_toInt64, Int32.toInt_toInt64] at e2
    exact Int32.toInt_inj.mp e2
  · intro e; rw [e]
theorem nr_lcI {x : Option Nat} {i b : Int32} {k j : Nat} {off : Int} {tgt : Nat} {fA fB : Int32 → Option (nk_H × α)} (d : decode cc pc = .ok (.laload, 1)) (d1 : decode cc (pc + 1) = .ok (.iload k, 2)) (hk : lv[j]? = some (k, .inl b)) (d2 : decode cc (pc + 3) = .ok (.i2l, 1)) (d3 : decode cc (pc + 4) = .ok (.lcmp, 1)) (d4 : decode cc (pc + 5) = .ok (.ifCond .eq off, 3)) (ht : ((pc + 5 : Nat) : Int) + off = (tgt : Int))
    (ka : ∀ v, nk_Sim G l own cc nL ret fr lo ini en tgt lv st h (fA v)) (kb : ∀ v, nk_Sim G l own cc nL ret fr lo ini en (pc + 8) lv st h (fB v)) : nk_Sim G l own cc nL ret fr lo ini en pc lv (.inl i :: .inr x :: st) h ((nk_rL h x i).bind fun v => if v = b then fA v else fB v) := by
  refine nk_bind (fun v hv => ?_)
  cases x with
  | none => cases hv
  | some a =>
    by_cases hm : nk_K h a = 6 ∧ ¬ i < 0 ∧ i.toNatClampNeg < nk_L h a
    · have hv2 : nk_I h a i.toNatClampNeg = v := Option.some.inj ((if_pos hm).symm.trans hv)
      refine nk_ite2 (v = b) (fun p e R s m args below meth c H locs cells slots Q ls X hR hl ta tb => ?_) (fun _ => ka v) (fun _ => kb v)
      obtain ⟨hc, h0, hlt⟩ := hm
      have hcell := (hR.2.2.2.1 a (by omega) (by omega)).2.2
      rw [hc] at hcell
      refine W.lald (v := .long v.toInt64) X.1 X.2.1 hcell ((nk_tyAt X.2.2.2.2.2.2.1 5 rfl).1 _ _) (fun q => by cases q) (by rw [arrV_size]; exact fun q => q.elim h0 (Nat.not_le.mpr hlt)) (by rw [arrV_read _ _ hlt, ← hv2]; rfl) rfl rfl d ?_
      refine lv_iload X.1 X.2.1 d1 (nk_at hl j hk) (lv_i2l X.1 X.2.1 d2 rfl (W.lcmp X.1 X.2.1 d3 (lv_if_eq X.1 X.2.1 d4 ht (fun e9 => ta ?_) (fun e9 => tb ?_))))
      · exact nk_i64.mp ((lg_cmp_eq _ _).mp e9)
      · exact fun e8 => e9 ((lg_cmp_eq _ _).mpr (nk_i64.mpr e8))
    · exact absurd ((if_neg hm).symm.trans hv) (fun z => nomatch z)
theorem nr_lcZ {x : Option Nat} {i b : Int32} {k j : Nat} {off o1 o2 : Int} {tgt : Nat} {fA fB : Int32 → Option (nk_H × α)} (d : decode cc pc = .ok (.laload, 1)) (d1 : decode cc (pc + 1) = .ok (.iload k, 2)) (hk : lv[j]? = some (k, .inl b)) (d5 : decode cc (pc + 3) = .ok (.ifCond .eq o1, 3)) (e1 : ((pc + 3 : Nat) : Int) + o1 = ((pc + 10 : Nat) : Int)) (d6 : decode cc (pc + 6) = .ok (.lconst 1, 1)) (d7 : decode cc (pc + 7) = .ok (.goto o2, 3)) (e2 : ((pc + 7 : Nat) : Int) + o2 = ((pc + 11 : Nat) : Int)) (d8 : decode cc (pc + 10) = .ok (.lconst 0, 1))
    (d3 : decode cc (pc + 11) = .ok (.lcmp, 1)) (d4 : decode cc (pc + 12) = .ok (.ifCond .eq off, 3)) (ht : ((pc + 12 : Nat) : Int) + off = (tgt : Int))
    (ka : ∀ v, nk_Sim G l own cc nL ret fr lo ini en tgt lv st h (fA v)) (kb : ∀ v, nk_Sim G l own cc nL ret fr lo ini en (pc + 15) lv st h (fB v)) : nk_Sim G l own cc nL ret fr lo ini en pc lv (.inl i :: .inr x :: st) h ((nk_rL h x i).bind fun v => if v = (if b = 0 then 0 else 1) then fA v else fB v) := by
  refine nk_bind (fun v hv => ?_)
  cases x with
  | none => cases hv
  | some a =>
    by_cases hm : nk_K h a = 6 ∧ ¬ i < 0 ∧ i.toNatClampNeg < nk_L h a
    · have hv2 : nk_I h a i.toNatClampNeg = v := Option.some.inj ((if_pos hm).symm.trans hv)
      refine nk_ite2 (v = (if b = 0 then 0 else 1)) (fun p e R s m args below meth c H locs cells slots Q ls X hR hl ta tb => ?_) (fun _ => ka v) (fun _ => kb v)
      obtain ⟨hc, h0, hlt⟩ := hm
      have hcell := (hR.2.2.2.1 a (by omega) (by omega)).2.2
      rw [hc] at hcell
      refine W.lald (v := .long v.toInt64) X.1 X.2.1 hcell ((nk_tyAt X.2.2.2.2.2.2.1 5 rfl).1 _ _) (fun q => by cases q) (by rw [arrV_size]; exact fun q => q.elim h0 (Nat.not_le.mpr hlt)) (by rw [arrV_read _ _ hlt, ← hv2]; rfl) rfl rfl d ?_
      refine lv_iload X.1 X.2.1 d1 (nk_at hl j hk) (lv_if_eq X.1 X.2.1 d5 e1 (fun hb => lv_lconst (v := Int32.toInt64 0) X.1 X.2.1 d8 rfl ?_) (fun hb => lv_lconst (v := Int32.toInt64 1) X.1 X.2.1 d6 rfl (lv_goto X.1 X.2.1 d7 e2 ?_)))
      · rw [if_pos hb] at ta tb
        exact W.lcmp X.1 X.2.1 d3 (lv_if_eq X.1 X.2.1 d4 ht (fun e9 => ta (nk_i64.mp ((lg_cmp_eq _ _).mp e9))) (fun e9 => tb (fun e8 => e9 ((lg_cmp_eq _ _).mpr (nk_i64.mpr e8)))))
      · rw [if_neg hb] at ta tb
        exact W.lcmp X.1 X.2.1 d3 (lv_if_eq X.1 X.2.1 d4 ht (fun e9 => ta (nk_i64.mp ((lg_cmp_eq _ _).mp e9))) (fun e9 => tb (fun e8 => e9 ((lg_cmp_eq _ _).mpr (nk_i64.mpr e8)))))
    · exact absurd ((if_neg hm).symm.trans hv) (fun z => nomatch z)
/-- the script -/
def nk_sx (G : nk_G) (i : Int32) : Option Int32 := if ¬ i < 0 ∧ i.toNatClampNeg < nk_gL G then some (nk_gX G i.toNatClampNeg) else none
theorem nr_sld {i : Int32} {F : Int32 → Option (nk_H × α)} (d : decode cc pc = .ok (.iaload, 1)) (kk : ∀ v, nk_Sim G l own cc nL ret fr lo ini en (pc + 1) lv (.inl v :: st) h (F v)) : nk_Sim G l own cc nL ret fr lo ini en pc lv (.inl i :: .inr (some (nk_gB G)) :: st) h ((nk_sx G i).bind F) := by
  refine nk_bind (fun v hv => ?_)
  by_cases hm : ¬ i < 0 ∧ i.toNatClampNeg < nk_gL G
  · have hv2 : nk_gX G i.toNatClampNeg = v := Option.some.inj ((if_pos hm).symm.trans hv)
    intro h' r hf
    obtain ⟨k1, k2, k3⟩ := kk v h' r hf
    refine ⟨k1, k2, fun p e R s m args below meth c X sb b1 b2 b3 b4 H ls locs hR hl hq => ?_⟩
    have hX := X.2.2.2.2.2.2.1.2.2.2.2.2.2.2.2
    subst hv2
    have hS : va_S (nk_fr G) (nk_gH G) H locs := ⟨by rw [hR.1]; exact hR.2.1, fun q h1 _ => hR.2.2.1 q h1, hq⟩
    exact va_sld X.1 X.2.1 hX.1 hX.2.1 (Nat.not_le.mpr hX.2.1) hS (fun z => z.elim hm.1 (Nat.not_le.mpr hm.2)) d (k3 p e R s m args below meth c X sb b1 b2 b3 b4 H ls locs hR hl hq)
  · exact absurd ((if_neg hm).symm.trans hv) (fun z => nomatch z)
theorem nr_slen (d : decode cc pc = .ok (.arraylength, 1)) (kk : nk_Sim G l own cc nL ret fr lo ini en (pc + 1) lv (.inl (Int32.ofNat (nk_gL G)) :: st) h f) : nk_Sim G l own cc nL ret fr lo ini en pc lv (.inr (some (nk_gB G)) :: st) h f := by
  intro h' r hf
  obtain ⟨k1, k2, k3⟩ := kk h' r hf
  refine ⟨k1, k2, fun p e R s m args below meth c X sb b1 b2 b3 b4 H ls locs hR hl hq => ?_⟩
  have hX := X.2.2.2.2.2.2.1.2.2.2.2.2.2.2.2
  have hS : va_S (nk_fr G) (nk_gH G) H locs := ⟨by rw [hR.1]; exact hR.2.1, fun q h1 _ => hR.2.2.1 q h1, hq⟩
  exact va_slen X.1 X.2.1 hX.1 hX.2.1 (Nat.not_le.mpr hX.2.1) hS d (k3 p e R s m args below meth c X sb b1 b2 b3 b4 H ls locs hR hl hq)
/-- the switch: by the value's place in the list of the targets -/
def nk_sw (L : List (Option (nk_H × α))) (d : Option (nk_H × α)) (x : Int32) : Option (nk_H × α) := if x < 0 then d else L.getD x.toNatClampNeg d
theorem nr_tsw {x : Int32} {dflt hi : Int} {offs : Array Int} {len tgt : Nat} {L : List (Option (nk_H × α))} (d : decode cc pc = .ok (.tableswitch dflt 0 hi offs, len)) (hn : offs.size = L.length) (hhi : hi + 1 = L.length) (ht : (pc : Int) + dflt = (tgt : Int)) (kd : nk_Sim G l own cc nL ret fr lo ini en tgt lv st h f)
    (ks : ∀ (j : Nat) (g : Option (nk_H × α)), L[j]? = some g → ∃ (off : Int) (t : Nat), offs[j]? = some off ∧ (pc : Int) + off = (t : Int) ∧ nk_Sim G l own cc nL ret fr lo ini en t lv st h g) : nk_Sim G l own cc nL ret fr lo ini en pc lv (.inl x :: st) h (nk_sw L f x) := by
  by_cases h0 : x < 0
  · have e : nk_sw L f x = f := if_pos h0
    rw [e]
    refine nk_pure (fun p e R s m args below meth c H locs cells slots Q ls X hR hl k9 => ?_) kd
    exact lv_tableOut X.1 X.2.1 d (Or.inl (by simpa using Int32.lt_iff_toInt_lt.mp h0)) ht (k9 ls hl)
  · have hx := nk_toI h0
    by_cases h1 : x.toNatClampNeg < L.length
    · have e : nk_sw L f x = L[x.toNatClampNeg] := by
        unfold nk_sw
        rw [if_neg h0, List.getD_eq_getElem?_getD, List.getElem?_eq_getElem h1]
        rfl
      rw [e]
      obtain ⟨off, t, o1, o2, o3⟩ := ks x.toNatClampNeg _ (List.getElem?_eq_getElem h1)
      refine nk_pure (fun p e R s m args below meth c H locs cells slots Q ls X hR hl k9 => ?_) o3
      exact lv_tableIn X.1 X.2.1 d (by rw [hx]; omega) (by rw [hx]; omega) (by rw [hx, show ((x.toNatClampNeg : Int) - 0).toNat = x.toNatClampNeg by omega]; exact o1) o2 (k9 ls hl)
    · have e : nk_sw L f x = f := by
        unfold nk_sw
        rw [if_neg h0, List.getD_eq_getElem?_getD, List.getElem?_eq_none (Nat.not_lt.mp h1)]
        rfl
      rw [e]
      refine nk_pure (fun p e R s m args below meth c H locs cells slots Q ls X hR hl k9 => ?_) kd
      exact lv_tableOut X.1 X.2.1 d (Or.inr (by rw [hx]; omega)) ht (k9 ls hl)
end NKQ
end
