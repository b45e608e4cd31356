theorem kc_RJ6_265 : Cond.constant RJ6 265 1431655765 ∈ nk_T := nk_in (i := 342) (by decide +kernel) rfl
theorem kc_RJ6_266 : Cond.constant RJ6 266 858993459 ∈ nk_T := nk_in (i := 343) (by decide +kernel) rfl
theorem kc_RJ6_267 : Cond.constant RJ6 267 252645135 ∈ nk_T := nk_in (i := 344) (by decide +kernel) rfl
theorem ml_RJxa1e45_1 : Cond.methodLink RJxa1e45 1 ⟨"java/lang/Object", "<init>", "()V"⟩ ∈ nk_T := nk_in (i := 89) (by decide +kernel) rfl
theorem oi_i : Cond.instanceMethod objectInit ∈ nk_T := nk_in (i := 56) (by decide +kernel) rfl
theorem oi_c : Cond.code objectInit ⟨#[0xb1]⟩ 1 none ∈ nk_T := nk_in (i := 57) (by decide +kernel) rfl
theorem co_Jxa1e45_init_da8c8 : Cond.code yJxa1e45_init_da8c8 cJxa1e45_init_da8c8 1 (none : Option FieldType) ∈ nk_T := nk_in (i := 88) (by decide +kernel) rfl
theorem in_RJxa1e45 : Cond.initialized RJxa1e45 ∈ nk_T := nk_in (i := 25) (by decide +kernel) rfl
theorem my_Jxa1e45_init_da8c8 : nk_My yJxa1e45_init_da8c8 cJxa1e45_init_da8c8 1 (none : Option FieldType) 0 := ⟨co_Jxa1e45_init_da8c8, in_RJxa1e45, ⟨by decide, by decide⟩, by decide +kernel⟩
theorem im_Jxa1e45_init_da8c8 : Cond.instanceMethod yJxa1e45_init_da8c8 ∈ nk_T := nk_in (i := 87) (by decide +kernel) rfl
theorem ml_RJxc12de_1 : Cond.methodLink RJxc12de 1 yJxa1e45_init_da8c8 ∈ nk_T := nk_in (i := 86) (by decide +kernel) rfl
theorem fk_RJxc12de_7 : nk_Fk RJxc12de 7 0 false [7] := ⟨⟨0, rfl, ⟨(RJx4a65c, TJx4a65c, 3), "java/util/AbstractList", rfl, by decide, nk_in (i := 94) (by decide +kernel) rfl, Or.inl rfl⟩, rfl⟩, trivial⟩
theorem fw_RJxc12de_7_i : nk_Fw RJxc12de true 0 [7] := ⟨fun ci q e h => by
    have e2 : ci = 0 := by omega
    subst e2
    cases h
    exact ⟨Or.inl rfl, Or.inl ⟨by decide +kernel, rfl⟩⟩, trivial⟩
theorem co_Jxc12de_init_da8c8 : Cond.code yJxc12de_init_da8c8 cJxc12de_init_da8c8 1 (none : Option FieldType) ∈ nk_T := nk_in (i := 85) (by decide +kernel) rfl
theorem in_RJxc12de : Cond.initialized RJxc12de ∈ nk_T := nk_in (i := 26) (by decide +kernel) rfl
theorem my_Jxc12de_init_da8c8 : nk_My yJxc12de_init_da8c8 cJxc12de_init_da8c8 1 (none : Option FieldType) 0 := ⟨co_Jxc12de_init_da8c8, in_RJxc12de, ⟨by decide, by decide⟩, by decide +kernel⟩
theorem im_Jxc12de_init_da8c8 : Cond.instanceMethod yJxc12de_init_da8c8 ∈ nk_T := nk_in (i := 84) (by decide +kernel) rfl
theorem ml_RJx4a65c_1 : Cond.methodLink RJx4a65c 1 yJxc12de_init_da8c8 ∈ nk_T := nk_in (i := 83) (by decide +kernel) rfl
theorem fl_RJx4a65c_39 : Cond.fieldLink RJx4a65c 39 "java/util/ArrayList" "DEFAULTCAPACITY_EMPTY_ELEMENTDATA" "[Ljava/lang/Object;" ∈ nk_T := nk_in (i := 90) (by decide +kernel) rfl
theorem fk_RJx4a65c_9 : nk_Fk RJx4a65c 9 1 true [7] := ⟨⟨0, rfl, ⟨(RJx4a65c, TJx4a65c, 3), "java/util/ArrayList", rfl, by decide, nk_in (i := 92) (by decide +kernel) rfl, Or.inl rfl⟩, rfl⟩, trivial⟩
theorem fw_RJx4a65c_9_i : nk_Fw RJx4a65c true 1 [7] := ⟨fun ci q e h => by
    have e2 : ci = 0 := by omega
    subst e2
    cases h
    exact ⟨Or.inl rfl, Or.inr ⟨rfl, Or.inr ⟨.object "java/lang/Object", by decide +kernel⟩⟩⟩, trivial⟩
theorem kc_RJ8_200 : Cond.constant RJ8 200 2147483639 ∈ nk_T := nk_in (i := 554) (by decide +kernel) rfl
theorem co_J8_hugeLength_7cf53 : Cond.code yJ8_hugeLength_7cf53 cJ8_hugeLength_7cf53 3 (some FieldType.int) ∈ nk_T := nk_in (i := 557) (by decide +kernel) rfl
theorem in_RJ8 : Cond.initialized RJ8 ∈ nk_T := nk_in (i := 43) (by decide +kernel) rfl
theorem my_J8_hugeLength_7cf53 : nk_My yJ8_hugeLength_7cf53 cJ8_hugeLength_7cf53 3 (some FieldType.int) 2 := ⟨co_J8_hugeLength_7cf53, in_RJ8, ⟨by decide, by decide⟩, by decide +kernel⟩
theorem st_J8_hugeLength_7cf53 : Cond.static yJ8_hugeLength_7cf53 ∈ nk_T := nk_in (i := 556) (by decide +kernel) rfl
theorem ml_RJ8_201 : Cond.methodLink RJ8 201 yJ8_hugeLength_7cf53 ∈ nk_T := nk_in (i := 555) (by decide +kernel) rfl
theorem ml_RJ8_194 : Cond.methodLink RJ8 194 Lib.Math.max.name ∈ nk_T := nk_in (i := 551) (by decide +kernel) rfl
theorem st_max : Cond.static Lib.Math.max.name ∈ nk_T := nk_in (i := 552) (by decide +kernel) rfl
theorem in_java_lang_Math : Cond.initialized "java/lang/Math" ∈ nk_T := nk_in (i := 44) (by decide +kernel) rfl
theorem co_max : Cond.code Lib.Math.max.name Lib.Math.max.code 2 (some .int) ∈ nk_T := nk_in (i := 553) (by decide +kernel) rfl
theorem cl_RJ7_110 : Cond.classLink RJ7 110 "[Ljava/lang/Object;" ∈ nk_T := nk_in (i := 583) (by decide +kernel) rfl
theorem ml_RJ7_150 : Cond.methodLink RJ7 150 arraycopyName ∈ nk_T := nk_in (i := 589) (by decide +kernel) rfl
theorem na_acpy : Cond.native arraycopyName ∈ nk_T := nk_in (i := 365) (by decide +kernel) rfl
theorem st_acpy : Cond.static arraycopyName ∈ nk_T := nk_in (i := 364) (by decide +kernel) rfl
theorem in_System : Cond.initialized "java/lang/System" ∈ nk_T := nk_in (i := 37) (by decide +kernel) rfl
theorem ml_RJ7_304 : Cond.methodLink RJ7 304 Lib.Math.min.name ∈ nk_T := nk_in (i := 586) (by decide +kernel) rfl
theorem st_min : Cond.static Lib.Math.min.name ∈ nk_T := nk_in (i := 587) (by decide +kernel) rfl
theorem co_min : Cond.code Lib.Math.min.name Lib.Math.min.code 2 (some .int) ∈ nk_T := nk_in (i := 588) (by decide +kernel) rfl
theorem cl_RJ7_2 : Cond.classLink RJ7 2 "java/lang/Object" ∈ nk_T := nk_in (i := 585) (by decide +kernel) rfl
theorem ml_RJ7_86 : Cond.methodLink RJ7 86 ⟨"java/lang/Object", "getClass", "()Ljava/lang/Class;"⟩ ∈ nk_T := nk_in (i := 561) (by decide +kernel) rfl
theorem de_getc : Cond.declares ⟨"java/lang/Object", "getClass", "()Ljava/lang/Class;"⟩ ∈ nk_T := nk_in (i := 1166) (by decide +kernel) rfl
theorem se_getc : Cond.selects "[Ljava/lang/Object;" ⟨"java/lang/Object", "getClass", "()Ljava/lang/Class;"⟩ ⟨"java/lang/Object", "getClass", "()Ljava/lang/Class;"⟩ ∈ nk_T := nk_in (i := 1165) (by decide +kernel) rfl
theorem im_getc : Cond.instanceMethod ⟨"java/lang/Object", "getClass", "()Ljava/lang/Class;"⟩ ∈ nk_T := nk_in (i := 562) (by decide +kernel) rfl
theorem na_getc : Cond.native ⟨"java/lang/Object", "getClass", "()Ljava/lang/Class;"⟩ ∈ nk_T := nk_in (i := 579) (by decide +kernel) rfl
theorem co_J7_copyOf_6403c : Cond.code yJ7_copyOf_6403c cJ7_copyOf_6403c 4 (some (FieldType.array (FieldType.object "java/lang/Object"))) ∈ nk_T := nk_in (i := 582) (by decide +kernel) rfl
theorem in_RJ7 : Cond.initialized RJ7 ∈ nk_T := nk_in (i := 42) (by decide +kernel) rfl
theorem my_J7_copyOf_6403c : nk_My yJ7_copyOf_6403c cJ7_copyOf_6403c 4 (some (FieldType.array (FieldType.object "java/lang/Object"))) 3 := ⟨co_J7_copyOf_6403c, in_RJ7, ⟨by decide, by decide⟩, by decide +kernel⟩
theorem st_J7_copyOf_6403c : Cond.static yJ7_copyOf_6403c ∈ nk_T := nk_in (i := 581) (by decide +kernel) rfl
theorem ml_RJ7_300 : Cond.methodLink RJ7 300 yJ7_copyOf_6403c ∈ nk_T := nk_in (i := 580) (by decide +kernel) rfl
theorem co_J8_newLength_cabcc : Cond.code yJ8_newLength_cabcc cJ8_newLength_cabcc 4 (some FieldType.int) ∈ nk_T := nk_in (i := 550) (by decide +kernel) rfl
theorem my_J8_newLength_cabcc : nk_My yJ8_newLength_cabcc cJ8_newLength_cabcc 4 (some FieldType.int) 3 := ⟨co_J8_newLength_cabcc, in_RJ8, ⟨by decide, by decide⟩, by decide +kernel⟩
theorem st_J8_newLength_cabcc : Cond.static yJ8_newLength_cabcc ∈ nk_T := nk_in (i := 549) (by decide +kernel) rfl
theorem ml_RJx4a65c_73 : Cond.methodLink RJx4a65c 73 yJ8_newLength_cabcc ∈ nk_T := nk_in (i := 548) (by decide +kernel) rfl
theorem co_J7_copyOf_1904c : Cond.code yJ7_copyOf_1904c cJ7_copyOf_1904c 2 (some (FieldType.array (FieldType.object "java/lang/Object"))) ∈ nk_T := nk_in (i := 560) (by decide +kernel) rfl
theorem my_J7_copyOf_1904c : nk_My yJ7_copyOf_1904c cJ7_copyOf_1904c 2 (some (FieldType.array (FieldType.object "java/lang/Object"))) 2 := ⟨co_J7_copyOf_1904c, in_RJ7, ⟨by decide, by decide⟩, by decide +kernel⟩
theorem st_J7_copyOf_1904c : Cond.static yJ7_copyOf_1904c ∈ nk_T := nk_in (i := 559) (by decide +kernel) rfl
theorem ml_RJx4a65c_66 : Cond.methodLink RJx4a65c 66 yJ7_copyOf_1904c ∈ nk_T := nk_in (i := 558) (by decide +kernel) rfl
theorem fw_RJx4a65c_9_n : nk_Fw RJx4a65c false 1 [7] := ⟨fun ci q e h => by
    have e2 : ci = 0 := by omega
    subst e2
    cases h
    exact ⟨Or.inl rfl, Or.inr ⟨rfl, Or.inr ⟨.object "java/lang/Object", by decide +kernel⟩⟩⟩, trivial⟩
theorem cl_RJx4a65c_7 : Cond.classLink RJx4a65c 7 "java/lang/Object" ∈ nk_T := nk_in (i := 591) (by decide +kernel) rfl
theorem ml_RJx4a65c_79 : Cond.methodLink RJx4a65c 79 Lib.Math.max.name ∈ nk_T := nk_in (i := 590) (by decide +kernel) rfl
theorem fk_RJx4a65c_48 : nk_Fk RJx4a65c 48 2 false [7] := ⟨⟨0, rfl, ⟨(RJx4a65c, TJx4a65c, 3), "java/util/ArrayList", rfl, by decide, nk_in (i := 93) (by decide +kernel) rfl, Or.inl rfl⟩, rfl⟩, trivial⟩
theorem ml_RJx4a65c_69 : Cond.methodLink RJx4a65c 69 yJx4a65c_grow_92f84 ∈ nk_T := nk_in (i := 544) (by decide +kernel) rfl
theorem co_Jx4a65c_grow_92f84 : Cond.code yJx4a65c_grow_92f84 cJx4a65c_grow_92f84 4 (some (FieldType.array (FieldType.object "java/lang/Object"))) ∈ nk_T := nk_in (i := 547) (by decide +kernel) rfl
theorem in_RJx4a65c : Cond.initialized RJx4a65c ∈ nk_T := nk_in (i := 27) (by decide +kernel) rfl
theorem my_Jx4a65c_grow_92f84 : nk_My yJx4a65c_grow_92f84 cJx4a65c_grow_92f84 4 (some (FieldType.array (FieldType.object "java/lang/Object"))) 1 := ⟨co_Jx4a65c_grow_92f84, in_RJx4a65c, ⟨by decide, by decide⟩, by decide +kernel⟩
theorem im_Jx4a65c_grow_92f84 : Cond.instanceMethod yJx4a65c_grow_92f84 ∈ nk_T := nk_in (i := 546) (by decide +kernel) rfl
theorem se_RJx4a65c_Jx4a65c_grow_92f84 : Cond.selects RJx4a65c yJx4a65c_grow_92f84 yJx4a65c_grow_92f84 ∈ nk_T := nk_in (i := 6) (by decide +kernel) rfl
theorem co_J3_checkIndex_8e157 : Cond.code yJ3_checkIndex_8e157 cJ3_checkIndex_8e157 3 (some FieldType.int) ∈ nk_T := nk_in (i := 380) (by decide +kernel) rfl
theorem in_RJ3 : Cond.initialized RJ3 ∈ nk_T := nk_in (i := 39) (by decide +kernel) rfl
theorem my_J3_checkIndex_8e157 : nk_My yJ3_checkIndex_8e157 cJ3_checkIndex_8e157 3 (some FieldType.int) 3 := ⟨co_J3_checkIndex_8e157, in_RJ3, ⟨by decide, by decide⟩, by decide +kernel⟩
theorem st_J3_checkIndex_8e157 : Cond.static yJ3_checkIndex_8e157 ∈ nk_T := nk_in (i := 379) (by decide +kernel) rfl
theorem ml_RJ15_105 : Cond.methodLink RJ15 105 yJ3_checkIndex_8e157 ∈ nk_T := nk_in (i := 378) (by decide +kernel) rfl
theorem co_J15_checkIndex_7cf53 : Cond.code yJ15_checkIndex_7cf53 cJ15_checkIndex_7cf53 2 (some FieldType.int) ∈ nk_T := nk_in (i := 377) (by decide +kernel) rfl
theorem in_RJ15 : Cond.initialized RJ15 ∈ nk_T := nk_in (i := 38) (by decide +kernel) rfl
theorem my_J15_checkIndex_7cf53 : nk_My yJ15_checkIndex_7cf53 cJ15_checkIndex_7cf53 2 (some FieldType.int) 2 := ⟨co_J15_checkIndex_7cf53, in_RJ15, ⟨by decide, by decide⟩, by decide +kernel⟩
theorem st_J15_checkIndex_7cf53 : Cond.static yJ15_checkIndex_7cf53 ∈ nk_T := nk_in (i := 376) (by decide +kernel) rfl
theorem ml_RJx4a65c_118 : Cond.methodLink RJx4a65c 118 yJ15_checkIndex_7cf53 ∈ nk_T := nk_in (i := 375) (by decide +kernel) rfl
theorem ml_RJx4a65c_123 : Cond.methodLink RJx4a65c 123 yJx4a65c_elementData_915e3 ∈ nk_T := nk_in (i := 381) (by decide +kernel) rfl
theorem co_Jx4a65c_elementData_915e3 : Cond.code yJx4a65c_elementData_915e3 cJx4a65c_elementData_915e3 2 (some (FieldType.object "java/lang/Object")) ∈ nk_T := nk_in (i := 384) (by decide +kernel) rfl
theorem my_Jx4a65c_elementData_915e3 : nk_My yJx4a65c_elementData_915e3 cJx4a65c_elementData_915e3 2 (some (FieldType.object "java/lang/Object")) 1 := ⟨co_Jx4a65c_elementData_915e3, in_RJx4a65c, ⟨by decide, by decide⟩, by decide +kernel⟩
theorem im_Jx4a65c_elementData_915e3 : Cond.instanceMethod yJx4a65c_elementData_915e3 ∈ nk_T := nk_in (i := 382) (by decide +kernel) rfl
theorem se_RJx4a65c_Jx4a65c_elementData_915e3 : Cond.selects RJx4a65c yJx4a65c_elementData_915e3 yJx4a65c_elementData_915e3 ∈ nk_T := nk_in (i := 383) (by decide +kernel) rfl
theorem fw_RJx4a65c_48_n : nk_Fw RJx4a65c false 2 [7] := ⟨fun ci q e h => by
    have e2 : ci = 0 := by omega
    subst e2
    cases h
    exact ⟨Or.inl rfl, Or.inl ⟨by decide +kernel, rfl⟩⟩, trivial⟩
theorem ml_RJx4a65c_129 : Cond.methodLink RJx4a65c 129 yJx4a65c_grow_d5877 ∈ nk_T := nk_in (i := 540) (by decide +kernel) rfl
theorem co_Jx4a65c_grow_d5877 : Cond.code yJx4a65c_grow_d5877 cJx4a65c_grow_d5877 1 (some (FieldType.array (FieldType.object "java/lang/Object"))) ∈ nk_T := nk_in (i := 543) (by decide +kernel) rfl
theorem my_Jx4a65c_grow_d5877 : nk_My yJx4a65c_grow_d5877 cJx4a65c_grow_d5877 1 (some (FieldType.array (FieldType.object "java/lang/Object"))) 0 := ⟨co_Jx4a65c_grow_d5877, in_RJx4a65c, ⟨by decide, by decide⟩, by decide +kernel⟩
theorem im_Jx4a65c_grow_d5877 : Cond.instanceMethod yJx4a65c_grow_d5877 ∈ nk_T := nk_in (i := 542) (by decide +kernel) rfl
theorem se_RJx4a65c_Jx4a65c_grow_d5877 : Cond.selects RJx4a65c yJx4a65c_grow_d5877 yJx4a65c_grow_d5877 ∈ nk_T := nk_in (i := 5) (by decide +kernel) rfl
theorem fk_RJx4a65c_63 : nk_Fk RJx4a65c 63 0 false [7] := ⟨⟨0, rfl, ⟨(RJx4a65c, TJx4a65c, 3), "java/util/ArrayList", rfl, by decide, nk_in (i := 95) (by decide +kernel) rfl, Or.inr (nk_in (i := 96) (by decide +kernel) rfl)⟩, rfl⟩, trivial⟩
theorem fw_RJx4a65c_63_n : nk_Fw RJx4a65c false 0 [7] := ⟨fun ci q e h => by
    have e2 : ci = 0 := by omega
    subst e2
    cases h
    exact ⟨Or.inl rfl, Or.inl ⟨by decide +kernel, rfl⟩⟩, trivial⟩
theorem ml_RJx4a65c_131 : Cond.methodLink RJx4a65c 131 yJx4a65c_add_72be8 ∈ nk_T := nk_in (i := 536) (by decide +kernel) rfl
theorem co_Jx4a65c_add_72be8 : Cond.code yJx4a65c_add_72be8 cJx4a65c_add_72be8 4 (none : Option FieldType) ∈ nk_T := nk_in (i := 539) (by decide +kernel) rfl
theorem my_Jx4a65c_add_72be8 : nk_My yJx4a65c_add_72be8 cJx4a65c_add_72be8 4 (none : Option FieldType) 3 := ⟨co_Jx4a65c_add_72be8, in_RJx4a65c, ⟨by decide, by decide⟩, by decide +kernel⟩
theorem im_Jx4a65c_add_72be8 : Cond.instanceMethod yJx4a65c_add_72be8 ∈ nk_T := nk_in (i := 538) (by decide +kernel) rfl
theorem se_RJx4a65c_Jx4a65c_add_72be8 : Cond.selects RJx4a65c yJx4a65c_add_72be8 yJx4a65c_add_72be8 ∈ nk_T := nk_in (i := 4) (by decide +kernel) rfl
theorem fk_RX8_9 : nk_Fk RX8 9 5 true [8, 12, 16, 17] := ⟨⟨1, rfl, ⟨(RX0, TX0, 11), "NotaryKiosk$Piece", rfl, by decide, nk_in (i := 499) (by decide +kernel) rfl, Or.inl rfl⟩, rfl⟩, ⟨⟨5, rfl, ⟨(RX4, TX4, 9), "NotaryKiosk$Piece", rfl, by decide, nk_in (i := 499) (by decide +kernel) rfl, Or.inl rfl⟩, rfl⟩, ⟨⟨9, rfl, ⟨(RX9, TX9, 15), "NotaryKiosk$Piece", rfl, by decide, nk_in (i := 499) (by decide +kernel) rfl, Or.inl rfl⟩, rfl⟩, ⟨⟨10, rfl, ⟨(RX10, TX10, 7), "NotaryKiosk$Piece", rfl, by decide, nk_in (i := 499) (by decide +kernel) rfl, Or.inl rfl⟩, rfl⟩, trivial⟩⟩⟩⟩
theorem fw_RX8_9_i : nk_Fw RX8 true 5 [8, 12, 16, 17] := ⟨fun ci q e h => by
    have e2 : ci = 1 := by omega
    subst e2
    cases h
    exact ⟨Or.inr ⟨rfl, rfl, rfl⟩, Or.inr ⟨rfl, Or.inr ⟨.int, by decide +kernel⟩⟩⟩, ⟨fun ci q e h => by
    have e2 : ci = 5 := by omega
    subst e2
    cases h
    exact ⟨Or.inr ⟨rfl, rfl, rfl⟩, Or.inr ⟨rfl, Or.inr ⟨.int, by decide +kernel⟩⟩⟩, ⟨fun ci q e h => by
    have e2 : ci = 9 := by omega
    subst e2
    cases h
    exact ⟨Or.inr ⟨rfl, rfl, rfl⟩, Or.inr ⟨rfl, Or.inr ⟨.int, by decide +kernel⟩⟩⟩, ⟨fun ci q e h => by
    have e2 : ci = 10 := by omega
    subst e2
    cases h
    exact ⟨Or.inr ⟨rfl, rfl, rfl⟩, Or.inr ⟨rfl, Or.inr ⟨.int, by decide +kernel⟩⟩⟩, trivial⟩⟩⟩⟩
theorem co_J7_fill_53178 : Cond.code yJ7_fill_53178 cJ7_fill_53178 4 (none : Option FieldType) ∈ nk_T := nk_in (i := 464) (by decide +kernel) rfl
theorem my_J7_fill_53178 : nk_My yJ7_fill_53178 cJ7_fill_53178 4 (none : Option FieldType) 2 := ⟨co_J7_fill_53178, in_RJ7, ⟨by decide, by decide⟩, by decide +kernel⟩
theorem st_J7_fill_53178 : Cond.static yJ7_fill_53178 ∈ nk_T := nk_in (i := 463) (by decide +kernel) rfl
theorem ml_RX8_15 : Cond.methodLink RX8 15 yJ7_fill_53178 ∈ nk_T := nk_in (i := 462) (by decide +kernel) rfl
theorem ac_int : Cond.arrayClass (newarray.typeOf .int) ∈ nk_T := nk_in (i := 71) (by decide +kernel) rfl
theorem ml_RX8_3 : Cond.methodLink RX8 3 ⟨"java/lang/Object", "<init>", "()V"⟩ ∈ nk_T := nk_in (i := 461) (by decide +kernel) rfl
theorem co_X8_init : Cond.code yX8_init cX8_init 1 (none : Option FieldType) ∈ nk_T := nk_in (i := 460) (by decide +kernel) rfl
theorem in_RX8 : Cond.initialized RX8 ∈ nk_T := nk_in (i := 40) (by decide +kernel) rfl
theorem my_X8_init : nk_My yX8_init cX8_init 1 (none : Option FieldType) 0 := ⟨co_X8_init, in_RX8, ⟨by decide, by decide⟩, by decide +kernel⟩
theorem im_X8_init : Cond.instanceMethod yX8_init ∈ nk_T := nk_in (i := 459) (by decide +kernel) rfl
theorem ml_RX0_3 : Cond.methodLink RX0 3 yX8_init ∈ nk_T := nk_in (i := 810) (by decide +kernel) rfl
theorem fk_RX0_9 : nk_Fk RX0 9 6 true [8] := ⟨⟨1, rfl, ⟨(RX0, TX0, 11), "NotaryKiosk$Act", rfl, by decide, nk_in (i := 811) (by decide +kernel) rfl, Or.inl rfl⟩, rfl⟩, trivial⟩
theorem fw_RX0_9_i : nk_Fw RX0 true 6 [8] := ⟨fun ci q e h => by
    have e2 : ci = 1 := by omega
    subst e2
    cases h
    exact ⟨Or.inr ⟨rfl, rfl, rfl⟩, Or.inr ⟨rfl, Or.inl ⟨"NotaryKiosk$Power", by decide +kernel⟩⟩⟩, trivial⟩
theorem fk_RX0_15 : nk_Fk RX0 15 7 true [8] := ⟨⟨1, rfl, ⟨(RX0, TX0, 11), "NotaryKiosk$Act", rfl, by decide, nk_in (i := 813) (by decide +kernel) rfl, Or.inl rfl⟩, rfl⟩, trivial⟩
theorem fw_RX0_15_i : nk_Fw RX0 true 7 [8] := ⟨fun ci q e h => by
    have e2 : ci = 1 := by omega
    subst e2
    cases h
    exact ⟨Or.inr ⟨rfl, rfl, rfl⟩, Or.inr ⟨rfl, Or.inl ⟨"NotaryKiosk$Deed", by decide +kernel⟩⟩⟩, trivial⟩
theorem fk_RX0_19 : nk_Fk RX0 19 8 true [8] := ⟨⟨1, rfl, ⟨(RX0, TX0, 11), "NotaryKiosk$Act", rfl, by decide, nk_in (i := 815) (by decide +kernel) rfl, Or.inl rfl⟩, rfl⟩, trivial⟩
theorem fw_RX0_19_i : nk_Fw RX0 true 8 [8] := ⟨fun ci q e h => by
    have e2 : ci = 1 := by omega
    subst e2
    cases h
    exact ⟨Or.inr ⟨rfl, rfl, rfl⟩, Or.inr ⟨rfl, Or.inr ⟨.int, by decide +kernel⟩⟩⟩, trivial⟩
theorem fk_RX0_23 : nk_Fk RX0 23 2 false [11] := ⟨⟨4, rfl, ⟨(RX3, TX3, 6), "NotaryKiosk$Deed", rfl, by decide, nk_in (i := 742) (by decide +kernel) rfl, Or.inl rfl⟩, rfl⟩, trivial⟩
theorem fk_RX0_29 : nk_Fk RX0 29 6 false [16] := ⟨⟨9, rfl, ⟨(RX9, TX9, 15), "NotaryKiosk$Power", rfl, by decide, nk_in (i := 466) (by decide +kernel) rfl, Or.inl rfl⟩, rfl⟩, trivial⟩
theorem fk_RX0_34 : nk_Fk RX0 34 3 false [11] := ⟨⟨4, rfl, ⟨(RX3, TX3, 6), "NotaryKiosk$Deed", rfl, by decide, nk_in (i := 745) (by decide +kernel) rfl, Or.inl rfl⟩, rfl⟩, trivial⟩
theorem fk_RX0_37 : nk_Fk RX0 37 4 false [11] := ⟨⟨4, rfl, ⟨(RX3, TX3, 6), "NotaryKiosk$Deed", rfl, by decide, nk_in (i := 748) (by decide +kernel) rfl, Or.inl rfl⟩, rfl⟩, trivial⟩
theorem fk_RX0_40 : nk_Fk RX0 40 5 false [11] := ⟨⟨4, rfl, ⟨(RX3, TX3, 6), "NotaryKiosk$Deed", rfl, by decide, nk_in (i := 751) (by decide +kernel) rfl, Or.inl rfl⟩, rfl⟩, trivial⟩
theorem fk_RX0_43 : nk_Fk RX0 43 1 false [11] := ⟨⟨4, rfl, ⟨(RX3, TX3, 6), "NotaryKiosk$Deed", rfl, by decide, nk_in (i := 739) (by decide +kernel) rfl, Or.inl rfl⟩, rfl⟩, trivial⟩
theorem fk_RX9_13 : nk_Fk RX9 13 7 true [16] := ⟨⟨9, rfl, ⟨(RX9, TX9, 15), "NotaryKiosk$Power", rfl, by decide, nk_in (i := 468) (by decide +kernel) rfl, Or.inl rfl⟩, rfl⟩, trivial⟩
theorem ml_RX0_46 : Cond.methodLink RX0 46 yX9_hasInLine ∈ nk_T := nk_in (i := 791) (by decide +kernel) rfl
theorem co_X9_hasInLine : Cond.code yX9_hasInLine cX9_hasInLine 3 (some FieldType.boolean) ∈ nk_T := nk_in (i := 794) (by decide +kernel) rfl
theorem in_RX9 : Cond.initialized RX9 ∈ nk_T := nk_in (i := 41) (by decide +kernel) rfl
theorem my_X9_hasInLine : nk_My yX9_hasInLine cX9_hasInLine 3 (some FieldType.boolean) 1 := ⟨co_X9_hasInLine, in_RX9, ⟨by decide, by decide⟩, by decide +kernel⟩
theorem im_X9_hasInLine : Cond.instanceMethod yX9_hasInLine ∈ nk_T := nk_in (i := 792) (by decide +kernel) rfl
theorem se_RX9_X9_hasInLine : Cond.selects RX9 yX9_hasInLine yX9_hasInLine ∈ nk_T := nk_in (i := 793) (by decide +kernel) rfl
theorem fk_RX1_7 : nk_Fk RX1 7 0 false [9] := ⟨⟨2, rfl, ⟨(RX1, TX1, 2), "NotaryKiosk$Chain", rfl, by decide, nk_in (i := 123) (by decide +kernel) rfl, Or.inl rfl⟩, rfl⟩, trivial⟩
theorem fw_RX1_7_i : nk_Fw RX1 true 0 [9] := ⟨fun ci q e h => by
    have e2 : ci = 2 := by omega
    subst e2
    cases h
    exact ⟨Or.inr ⟨rfl, rfl, rfl⟩, Or.inl ⟨by decide +kernel, rfl⟩⟩, trivial⟩
theorem co_Jx4a65c_init_da8c8 : Cond.code yJx4a65c_init_da8c8 cJx4a65c_init_da8c8 1 (none : Option FieldType) ∈ nk_T := nk_in (i := 82) (by decide +kernel) rfl
theorem my_Jx4a65c_init_da8c8 : nk_My yJx4a65c_init_da8c8 cJx4a65c_init_da8c8 1 (none : Option FieldType) 0 := ⟨co_Jx4a65c_init_da8c8, in_RJx4a65c, ⟨by decide, by decide⟩, by decide +kernel⟩
theorem im_Jx4a65c_init_da8c8 : Cond.instanceMethod yJx4a65c_init_da8c8 ∈ nk_T := nk_in (i := 81) (by decide +kernel) rfl
theorem ml_RX1_15 : Cond.methodLink RX1 15 yJx4a65c_init_da8c8 ∈ nk_T := nk_in (i := 122) (by decide +kernel) rfl
theorem fk_RX1_16 : nk_Fk RX1 16 1 true [9] := ⟨⟨2, rfl, ⟨(RX1, TX1, 2), "NotaryKiosk$Chain", rfl, by decide, nk_in (i := 124) (by decide +kernel) rfl, Or.inl rfl⟩, rfl⟩, trivial⟩
theorem fw_RX1_16_i : nk_Fw RX1 true 1 [9] := ⟨fun ci q e h => by
    have e2 : ci = 2 := by omega
    subst e2
    cases h
    exact ⟨Or.inr ⟨rfl, rfl, rfl⟩, Or.inr ⟨rfl, Or.inl ⟨"java/util/ArrayList", by decide +kernel⟩⟩⟩, trivial⟩
theorem cl_RX1_13 : Cond.classLink RX1 13 "java/util/ArrayList" ∈ nk_T := nk_in (i := 121) (by decide +kernel) rfl
theorem ins_RJx4a65c : Cond.instantiable RJx4a65c 3 ∈ nk_T := nk_in (i := 79) (by decide +kernel) rfl
theorem ml_RX1_1 : Cond.methodLink RX1 1 ⟨"java/lang/Object", "<init>", "()V"⟩ ∈ nk_T := nk_in (i := 120) (by decide +kernel) rfl
theorem ml_RX1_20 : Cond.methodLink RX1 20 yJx4a65c_size_8abf5 ∈ nk_T := nk_in (i := 861) (by decide +kernel) rfl
theorem co_Jx4a65c_size_8abf5 : Cond.code yJx4a65c_size_8abf5 cJx4a65c_size_8abf5 1 (some FieldType.int) ∈ nk_T := nk_in (i := 203) (by decide +kernel) rfl
theorem my_Jx4a65c_size_8abf5 : nk_My yJx4a65c_size_8abf5 cJx4a65c_size_8abf5 1 (some FieldType.int) 0 := ⟨co_Jx4a65c_size_8abf5, in_RJx4a65c, ⟨by decide, by decide⟩, by decide +kernel⟩
theorem im_Jx4a65c_size_8abf5 : Cond.instanceMethod yJx4a65c_size_8abf5 ∈ nk_T := nk_in (i := 201) (by decide +kernel) rfl
theorem se_RJx4a65c_Jx4a65c_size_8abf5 : Cond.selects RJx4a65c yJx4a65c_size_8abf5 yJx4a65c_size_8abf5 ∈ nk_T := nk_in (i := 202) (by decide +kernel) rfl
theorem ca_Act : nk_Ca "NotaryKiosk$Act" [8] := ⟨⟨1, (RX0, TX0, 11), rfl, rfl, Or.inl rfl⟩, trivial⟩
theorem cl_RX1_28 : Cond.classLink RX1 28 "NotaryKiosk$Act" ∈ nk_T := nk_in (i := 871) (by decide +kernel) rfl
theorem ml_RX1_24 : Cond.methodLink RX1 24 yJx4a65c_get_915e3 ∈ nk_T := nk_in (i := 870) (by decide +kernel) rfl
theorem co_Jx4a65c_get_915e3 : Cond.code yJx4a65c_get_915e3 cJx4a65c_get_915e3 2 (some (FieldType.object "java/lang/Object")) ∈ nk_T := nk_in (i := 374) (by decide +kernel) rfl
theorem my_Jx4a65c_get_915e3 : nk_My yJx4a65c_get_915e3 cJx4a65c_get_915e3 2 (some (FieldType.object "java/lang/Object")) 1 := ⟨co_Jx4a65c_get_915e3, in_RJx4a65c, ⟨by decide, by decide⟩, by decide +kernel⟩
theorem im_Jx4a65c_get_915e3 : Cond.instanceMethod yJx4a65c_get_915e3 ∈ nk_T := nk_in (i := 372) (by decide +kernel) rfl
theorem se_RJx4a65c_Jx4a65c_get_915e3 : Cond.selects RJx4a65c yJx4a65c_get_915e3 yJx4a65c_get_915e3 ∈ nk_T := nk_in (i := 373) (by decide +kernel) rfl
theorem fk_RX1_34 : nk_Fk RX1 34 9 false [8] := ⟨⟨1, rfl, ⟨(RX0, TX0, 11), "NotaryKiosk$Act", rfl, by decide, nk_in (i := 820) (by decide +kernel) rfl, Or.inl rfl⟩, rfl⟩, trivial⟩
theorem co_X11_bit : Cond.code yX11_bit cX11_bit 1 (some FieldType.int) ∈ nk_T := nk_in (i := 313) (by decide +kernel) rfl
theorem in_RX11 : Cond.initialized RX11 ∈ nk_T := nk_in (i := 22) (by decide +kernel) rfl
theorem my_X11_bit : nk_My yX11_bit cX11_bit 1 (some FieldType.int) 1 := ⟨co_X11_bit, in_RX11, ⟨by decide, by decide⟩, by decide +kernel⟩
theorem st_X11_bit : Cond.static yX11_bit ∈ nk_T := nk_in (i := 312) (by decide +kernel) rfl
theorem ml_RX11_279 : Cond.methodLink RX11 279 yX11_bit ∈ nk_T := nk_in (i := 311) (by decide +kernel) rfl
theorem kc_RX11_390 : Cond.constant RX11 390 1000003 ∈ nk_T := nk_in (i := 885) (by decide +kernel) rfl
theorem co_X11_saltOf : Cond.code yX11_saltOf cX11_saltOf 3 (some FieldType.int) ∈ nk_T := nk_in (i := 881) (by decide +kernel) rfl
theorem my_X11_saltOf : nk_My yX11_saltOf cX11_saltOf 3 (some FieldType.int) 3 := ⟨co_X11_saltOf, in_RX11, ⟨by decide, by decide⟩, by decide +kernel⟩
theorem st_X11_saltOf : Cond.static yX11_saltOf ∈ nk_T := nk_in (i := 880) (by decide +kernel) rfl
theorem ml_RX11_391 : Cond.methodLink RX11 391 yX11_saltOf ∈ nk_T := nk_in (i := 879) (by decide +kernel) rfl
theorem co_X11_sealOf : Cond.code yX11_sealOf cX11_sealOf 2 (some FieldType.int) ∈ nk_T := nk_in (i := 884) (by decide +kernel) rfl
theorem my_X11_sealOf : nk_My yX11_sealOf cX11_sealOf 2 (some FieldType.int) 2 := ⟨co_X11_sealOf, in_RX11, ⟨by decide, by decide⟩, by decide +kernel⟩
theorem st_X11_sealOf : Cond.static yX11_sealOf ∈ nk_T := nk_in (i := 883) (by decide +kernel) rfl
theorem ml_RX11_395 : Cond.methodLink RX11 395 yX11_sealOf ∈ nk_T := nk_in (i := 882) (by decide +kernel) rfl
theorem co_X11_hasBit : Cond.code yX11_hasBit cX11_hasBit 2 (some FieldType.boolean) ∈ nk_T := nk_in (i := 310) (by decide +kernel) rfl
theorem my_X11_hasBit : nk_My yX11_hasBit cX11_hasBit 2 (some FieldType.boolean) 2 := ⟨co_X11_hasBit, in_RX11, ⟨by decide, by decide⟩, by decide +kernel⟩
theorem st_X11_hasBit : Cond.static yX11_hasBit ∈ nk_T := nk_in (i := 309) (by decide +kernel) rfl
theorem ml_RX11_282 : Cond.methodLink RX11 282 yX11_hasBit ∈ nk_T := nk_in (i := 875) (by decide +kernel) rfl
theorem co_X11_markOf : Cond.code yX11_markOf cX11_markOf 4 (some FieldType.int) ∈ nk_T := nk_in (i := 878) (by decide +kernel) rfl
theorem my_X11_markOf : nk_My yX11_markOf cX11_markOf 4 (some FieldType.int) 4 := ⟨co_X11_markOf, in_RX11, ⟨by decide, by decide⟩, by decide +kernel⟩
theorem st_X11_markOf : Cond.static yX11_markOf ∈ nk_T := nk_in (i := 877) (by decide +kernel) rfl
theorem ml_RX11_398 : Cond.methodLink RX11 398 yX11_markOf ∈ nk_T := nk_in (i := 876) (by decide +kernel) rfl
theorem fk_RX1_45 : nk_Fk RX1 45 8 true [8] := ⟨⟨1, rfl, ⟨(RX0, TX0, 11), "NotaryKiosk$Act", rfl, by decide, nk_in (i := 817) (by decide +kernel) rfl, Or.inl rfl⟩, rfl⟩, trivial⟩
theorem co_X11_sealFrom : Cond.code yX11_sealFrom cX11_sealFrom 8 (some FieldType.int) ∈ nk_T := nk_in (i := 874) (by decide +kernel) rfl
theorem my_X11_sealFrom : nk_My yX11_sealFrom cX11_sealFrom 8 (some FieldType.int) 5 := ⟨co_X11_sealFrom, in_RX11, ⟨by decide, by decide⟩, by decide +kernel⟩
theorem st_X11_sealFrom : Cond.static yX11_sealFrom ∈ nk_T := nk_in (i := 873) (by decide +kernel) rfl
theorem nl_RX1_49 : Cond.methodLinkNest RX1 49 yX11_sealFrom "NotaryKiosk" ∈ nk_T := nk_in (i := 872) (by decide +kernel) rfl
theorem ml_RX1_41 : Cond.methodLink RX1 41 yX1_sealAhead ∈ nk_T := nk_in (i := 866) (by decide +kernel) rfl
theorem co_X1_sealAhead : Cond.code yX1_sealAhead cX1_sealAhead 2 (some FieldType.int) ∈ nk_T := nk_in (i := 869) (by decide +kernel) rfl
theorem in_RX1 : Cond.initialized RX1 ∈ nk_T := nk_in (i := 28) (by decide +kernel) rfl
theorem my_X1_sealAhead : nk_My yX1_sealAhead cX1_sealAhead 2 (some FieldType.int) 1 := ⟨co_X1_sealAhead, in_RX1, ⟨by decide, by decide⟩, by decide +kernel⟩
theorem im_X1_sealAhead : Cond.instanceMethod yX1_sealAhead ∈ nk_T := nk_in (i := 867) (by decide +kernel) rfl
theorem se_RX1_X1_sealAhead : Cond.selects RX1 yX1_sealAhead yX1_sealAhead ∈ nk_T := nk_in (i := 868) (by decide +kernel) rfl
theorem fw_RX1_34_n : nk_Fw RX1 false 9 [8] := ⟨fun ci q e h => by
    have e2 : ci = 1 := by omega
    subst e2
    cases h
    exact ⟨Or.inl rfl, Or.inl ⟨by decide +kernel, rfl⟩⟩, trivial⟩
theorem ml_RX1_37 : Cond.methodLink RX1 37 yJx4a65c_add_9ea2d ∈ nk_T := nk_in (i := 886) (by decide +kernel) rfl
theorem co_Jx4a65c_add_9ea2d : Cond.code yJx4a65c_add_9ea2d cJx4a65c_add_9ea2d 2 (some FieldType.boolean) ∈ nk_T := nk_in (i := 535) (by decide +kernel) rfl
theorem my_Jx4a65c_add_9ea2d : nk_My yJx4a65c_add_9ea2d cJx4a65c_add_9ea2d 2 (some FieldType.boolean) 1 := ⟨co_Jx4a65c_add_9ea2d, in_RJx4a65c, ⟨by decide, by decide⟩, by decide +kernel⟩
theorem im_Jx4a65c_add_9ea2d : Cond.instanceMethod yJx4a65c_add_9ea2d ∈ nk_T := nk_in (i := 533) (by decide +kernel) rfl
theorem se_RJx4a65c_Jx4a65c_add_9ea2d : Cond.selects RJx4a65c yJx4a65c_add_9ea2d yJx4a65c_add_9ea2d ∈ nk_T := nk_in (i := 534) (by decide +kernel) rfl
theorem ml_RX1_30 : Cond.methodLink RX1 30 yX1_sealNow ∈ nk_T := nk_in (i := 862) (by decide +kernel) rfl
theorem co_X1_sealNow : Cond.code yX1_sealNow cX1_sealNow 3 (some FieldType.int) ∈ nk_T := nk_in (i := 865) (by decide +kernel) rfl
theorem my_X1_sealNow : nk_My yX1_sealNow cX1_sealNow 3 (some FieldType.int) 2 := ⟨co_X1_sealNow, in_RX1, ⟨by decide, by decide⟩, by decide +kernel⟩
theorem im_X1_sealNow : Cond.instanceMethod yX1_sealNow ∈ nk_T := nk_in (i := 864) (by decide +kernel) rfl
theorem se_RX1_X1_sealNow : Cond.selects RX1 yX1_sealNow yX1_sealNow ∈ nk_T := nk_in (i := 15) (by decide +kernel) rfl
theorem fk_RX1_55 : nk_Fk RX1 55 10 false [8] := ⟨⟨1, rfl, ⟨(RX0, TX0, 11), "NotaryKiosk$Act", rfl, by decide, nk_in (i := 822) (by decide +kernel) rfl, Or.inl rfl⟩, rfl⟩, trivial⟩
theorem fk_RX2_9 : nk_Fk RX2 9 0 false [10] := ⟨⟨3, rfl, ⟨(RX2, TX2, 7), "NotaryKiosk$Copy", rfl, by decide, nk_in (i := 918) (by decide +kernel) rfl, Or.inl rfl⟩, rfl⟩, trivial⟩
theorem fw_RX2_9_i : nk_Fw RX2 true 0 [10] := ⟨fun ci q e h => by
    have e2 : ci = 3 := by omega
    subst e2
    cases h
    exact ⟨Or.inr ⟨rfl, rfl, rfl⟩, Or.inl ⟨by decide +kernel, rfl⟩⟩, trivial⟩
theorem fk_RX2_15 : nk_Fk RX2 15 1 false [10] := ⟨⟨3, rfl, ⟨(RX2, TX2, 7), "NotaryKiosk$Copy", rfl, by decide, nk_in (i := 920) (by decide +kernel) rfl, Or.inl rfl⟩, rfl⟩, trivial⟩
theorem fw_RX2_15_i : nk_Fw RX2 true 1 [10] := ⟨fun ci q e h => by
    have e2 : ci = 3 := by omega
    subst e2
    cases h
    exact ⟨Or.inr ⟨rfl, rfl, rfl⟩, Or.inl ⟨by decide +kernel, rfl⟩⟩, trivial⟩
theorem fk_RX2_18 : nk_Fk RX2 18 2 false [10] := ⟨⟨3, rfl, ⟨(RX2, TX2, 7), "NotaryKiosk$Copy", rfl, by decide, nk_in (i := 921) (by decide +kernel) rfl, Or.inl rfl⟩, rfl⟩, trivial⟩
theorem fw_RX2_18_i : nk_Fw RX2 true 2 [10] := ⟨fun ci q e h => by
    have e2 : ci = 3 := by omega
    subst e2
    cases h
    exact ⟨Or.inr ⟨rfl, rfl, rfl⟩, Or.inl ⟨by decide +kernel, rfl⟩⟩, trivial⟩
theorem fk_RX2_21 : nk_Fk RX2 21 3 false [10] := ⟨⟨3, rfl, ⟨(RX2, TX2, 7), "NotaryKiosk$Copy", rfl, by decide, nk_in (i := 923) (by decide +kernel) rfl, Or.inl rfl⟩, rfl⟩, trivial⟩
theorem fw_RX2_21_i : nk_Fw RX2 true 3 [10] := ⟨fun ci q e h => by
    have e2 : ci = 3 := by omega
    subst e2
    cases h
    exact ⟨Or.inr ⟨rfl, rfl, rfl⟩, Or.inl ⟨by decide +kernel, rfl⟩⟩, trivial⟩
theorem fk_RX2_26 : nk_Fk RX2 26 4 true [10] := ⟨⟨3, rfl, ⟨(RX2, TX2, 7), "NotaryKiosk$Copy", rfl, by decide, nk_in (i := 924) (by decide +kernel) rfl, Or.inl rfl⟩, rfl⟩, trivial⟩
theorem fw_RX2_26_i : nk_Fw RX2 true 4 [10] := ⟨fun ci q e h => by
    have e2 : ci = 3 := by omega
    subst e2
    cases h
    exact ⟨Or.inr ⟨rfl, rfl, rfl⟩, Or.inr ⟨rfl, Or.inr ⟨.array .int, by decide +kernel⟩⟩⟩, trivial⟩
theorem fk_RX2_29 : nk_Fk RX2 29 5 true [10] := ⟨⟨3, rfl, ⟨(RX2, TX2, 7), "NotaryKiosk$Copy", rfl, by decide, nk_in (i := 926) (by decide +kernel) rfl, Or.inl rfl⟩, rfl⟩, trivial⟩
theorem fw_RX2_29_i : nk_Fw RX2 true 5 [10] := ⟨fun ci q e h => by
    have e2 : ci = 3 := by omega
    subst e2
    cases h
    exact ⟨Or.inr ⟨rfl, rfl, rfl⟩, Or.inr ⟨rfl, Or.inr ⟨.int, by decide +kernel⟩⟩⟩, trivial⟩
theorem cl_RX2_24 : Cond.classLink RX2 24 "[[I" ∈ nk_T := nk_in (i := 916) (by decide +kernel) rfl
theorem ml_RX2_3 : Cond.methodLink RX2 3 ⟨"java/lang/Object", "<init>", "()V"⟩ ∈ nk_T := nk_in (i := 915) (by decide +kernel) rfl
theorem nl_RX2_33 : Cond.methodLinkNest RX2 33 yX11_hasBit "NotaryKiosk" ∈ nk_T := nk_in (i := 953) (by decide +kernel) rfl
theorem fk_RX2_58 : nk_Fk RX2 58 8 true [8] := ⟨⟨1, rfl, ⟨(RX0, TX0, 11), "NotaryKiosk$Act", rfl, by decide, nk_in (i := 816) (by decide +kernel) rfl, Or.inl rfl⟩, rfl⟩, trivial⟩
theorem nl_RX2_60 : Cond.methodLinkNest RX2 60 yX11_markOf "NotaryKiosk" ∈ nk_T := nk_in (i := 954) (by decide +kernel) rfl
theorem ml_RX2_54 : Cond.methodLink RX2 54 yX2_leavesOut ∈ nk_T := nk_in (i := 949) (by decide +kernel) rfl
theorem co_X2_leavesOut : Cond.code yX2_leavesOut cX2_leavesOut 2 (some FieldType.boolean) ∈ nk_T := nk_in (i := 952) (by decide +kernel) rfl
theorem in_RX2 : Cond.initialized RX2 ∈ nk_T := nk_in (i := 49) (by decide +kernel) rfl
theorem my_X2_leavesOut : nk_My yX2_leavesOut cX2_leavesOut 2 (some FieldType.boolean) 1 := ⟨co_X2_leavesOut, in_RX2, ⟨by decide, by decide⟩, by decide +kernel⟩
theorem im_X2_leavesOut : Cond.instanceMethod yX2_leavesOut ∈ nk_T := nk_in (i := 950) (by decide +kernel) rfl
theorem se_RX2_X2_leavesOut : Cond.selects RX2 yX2_leavesOut yX2_leavesOut ∈ nk_T := nk_in (i := 951) (by decide +kernel) rfl
theorem fk_RX2_49 : nk_Fk RX2 49 9 false [8] := ⟨⟨1, rfl, ⟨(RX0, TX0, 11), "NotaryKiosk$Act", rfl, by decide, nk_in (i := 819) (by decide +kernel) rfl, Or.inl rfl⟩, rfl⟩, trivial⟩
theorem ml_RX2_45 : Cond.methodLink RX2 45 yX1_actOf ∈ nk_T := nk_in (i := 948) (by decide +kernel) rfl
theorem co_X1_actOf : Cond.code yX1_actOf cX1_actOf 2 (some (FieldType.object "NotaryKiosk$Act")) ∈ nk_T := nk_in (i := 903) (by decide +kernel) rfl
theorem my_X1_actOf : nk_My yX1_actOf cX1_actOf 2 (some (FieldType.object "NotaryKiosk$Act")) 1 := ⟨co_X1_actOf, in_RX1, ⟨by decide, by decide⟩, by decide +kernel⟩
theorem im_X1_actOf : Cond.instanceMethod yX1_actOf ∈ nk_T := nk_in (i := 901) (by decide +kernel) rfl
theorem se_RX1_X1_actOf : Cond.selects RX1 yX1_actOf yX1_actOf ∈ nk_T := nk_in (i := 902) (by decide +kernel) rfl
theorem fk_RX2_43 : nk_Fk RX2 43 6 false [10] := ⟨⟨3, rfl, ⟨(RX2, TX2, 7), "NotaryKiosk$Copy", rfl, by decide, nk_in (i := 927) (by decide +kernel) rfl, Or.inl rfl⟩, rfl⟩, trivial⟩
theorem fw_RX2_43_n : nk_Fw RX2 false 6 [10] := ⟨fun ci q e h => by
    have e2 : ci = 3 := by omega
    subst e2
    cases h
    exact ⟨Or.inl rfl, Or.inl ⟨by decide +kernel, rfl⟩⟩, trivial⟩
theorem ml_RX2_37 : Cond.methodLink RX2 37 yX1_sealAhead ∈ nk_T := nk_in (i := 947) (by decide +kernel) rfl
theorem nl_RX2_64 : Cond.methodLinkNest RX2 64 yX11_sealFrom "NotaryKiosk" ∈ nk_T := nk_in (i := 1059) (by decide +kernel) rfl
theorem ml_RX2_68 : Cond.methodLink RX2 68 yX2_tellsRecordAs ∈ nk_T := nk_in (i := 1068) (by decide +kernel) rfl
theorem co_X2_tellsRecordAs : Cond.code yX2_tellsRecordAs cX2_tellsRecordAs 4 (some FieldType.boolean) ∈ nk_T := nk_in (i := 1071) (by decide +kernel) rfl
theorem my_X2_tellsRecordAs : nk_My yX2_tellsRecordAs cX2_tellsRecordAs 4 (some FieldType.boolean) 2 := ⟨co_X2_tellsRecordAs, in_RX2, ⟨by decide, by decide⟩, by decide +kernel⟩
theorem im_X2_tellsRecordAs : Cond.instanceMethod yX2_tellsRecordAs ∈ nk_T := nk_in (i := 1070) (by decide +kernel) rfl
theorem se_RX2_X2_tellsRecordAs : Cond.selects RX2 yX2_tellsRecordAs yX2_tellsRecordAs ∈ nk_T := nk_in (i := 19) (by decide +kernel) rfl
theorem fk_RX3_7 : nk_Fk RX3 7 0 false [11] := ⟨⟨4, rfl, ⟨(RX3, TX3, 6), "NotaryKiosk$Deed", rfl, by decide, nk_in (i := 736) (by decide +kernel) rfl, Or.inl rfl⟩, rfl⟩, trivial⟩
theorem fw_RX3_7_i : nk_Fw RX3 true 0 [11] := ⟨fun ci q e h => by
    have e2 : ci = 4 := by omega
    subst e2
    cases h
    exact ⟨Or.inr ⟨rfl, rfl, rfl⟩, Or.inl ⟨by decide +kernel, rfl⟩⟩, trivial⟩
theorem fk_RX3_13 : nk_Fk RX3 13 1 false [11] := ⟨⟨4, rfl, ⟨(RX3, TX3, 6), "NotaryKiosk$Deed", rfl, by decide, nk_in (i := 738) (by decide +kernel) rfl, Or.inl rfl⟩, rfl⟩, trivial⟩
theorem fw_RX3_13_i : nk_Fw RX3 true 1 [11] := ⟨fun ci q e h => by
    have e2 : ci = 4 := by omega
    subst e2
    cases h
    exact ⟨Or.inr ⟨rfl, rfl, rfl⟩, Or.inl ⟨by decide +kernel, rfl⟩⟩, trivial⟩
theorem fk_RX3_16 : nk_Fk RX3 16 2 false [11] := ⟨⟨4, rfl, ⟨(RX3, TX3, 6), "NotaryKiosk$Deed", rfl, by decide, nk_in (i := 741) (by decide +kernel) rfl, Or.inl rfl⟩, rfl⟩, trivial⟩
theorem fw_RX3_16_i : nk_Fw RX3 true 2 [11] := ⟨fun ci q e h => by
    have e2 : ci = 4 := by omega
    subst e2
    cases h
    exact ⟨Or.inr ⟨rfl, rfl, rfl⟩, Or.inl ⟨by decide +kernel, rfl⟩⟩, trivial⟩
theorem fk_RX3_19 : nk_Fk RX3 19 3 false [11] := ⟨⟨4, rfl, ⟨(RX3, TX3, 6), "NotaryKiosk$Deed", rfl, by decide, nk_in (i := 744) (by decide +kernel) rfl, Or.inl rfl⟩, rfl⟩, trivial⟩
theorem fw_RX3_19_i : nk_Fw RX3 true 3 [11] := ⟨fun ci q e h => by
    have e2 : ci = 4 := by omega
    subst e2
    cases h
    exact ⟨Or.inr ⟨rfl, rfl, rfl⟩, Or.inl ⟨by decide +kernel, rfl⟩⟩, trivial⟩
theorem fk_RX3_22 : nk_Fk RX3 22 4 false [11] := ⟨⟨4, rfl, ⟨(RX3, TX3, 6), "NotaryKiosk$Deed", rfl, by decide, nk_in (i := 747) (by decide +kernel) rfl, Or.inl rfl⟩, rfl⟩, trivial⟩
theorem fw_RX3_22_i : nk_Fw RX3 true 4 [11] := ⟨fun ci q e h => by
    have e2 : ci = 4 := by omega
    subst e2
    cases h
    exact ⟨Or.inr ⟨rfl, rfl, rfl⟩, Or.inl ⟨by decide +kernel, rfl⟩⟩, trivial⟩
theorem fk_RX3_25 : nk_Fk RX3 25 5 false [11] := ⟨⟨4, rfl, ⟨(RX3, TX3, 6), "NotaryKiosk$Deed", rfl, by decide, nk_in (i := 750) (by decide +kernel) rfl, Or.inl rfl⟩, rfl⟩, trivial⟩
theorem fw_RX3_25_i : nk_Fw RX3 true 5 [11] := ⟨fun ci q e h => by
    have e2 : ci = 4 := by omega
    subst e2
    cases h
    exact ⟨Or.inr ⟨rfl, rfl, rfl⟩, Or.inl ⟨by decide +kernel, rfl⟩⟩, trivial⟩
theorem ml_RX3_1 : Cond.methodLink RX3 1 ⟨"java/lang/Object", "<init>", "()V"⟩ ∈ nk_T := nk_in (i := 735) (by decide +kernel) rfl
theorem ml_RX4_1 : Cond.methodLink RX4 1 yX8_init ∈ nk_T := nk_in (i := 705) (by decide +kernel) rfl
theorem fk_RX4_7 : nk_Fk RX4 7 6 false [12] := ⟨⟨5, rfl, ⟨(RX4, TX4, 9), "NotaryKiosk$Deputation", rfl, by decide, nk_in (i := 706) (by decide +kernel) rfl, Or.inl rfl⟩, rfl⟩, trivial⟩
theorem fw_RX4_7_i : nk_Fw RX4 true 6 [12] := ⟨fun ci q e h => by
    have e2 : ci = 5 := by omega
    subst e2
    cases h
    exact ⟨Or.inr ⟨rfl, rfl, rfl⟩, Or.inl ⟨by decide +kernel, rfl⟩⟩, trivial⟩
theorem fk_RX4_13 : nk_Fk RX4 13 7 false [12] := ⟨⟨5, rfl, ⟨(RX4, TX4, 9), "NotaryKiosk$Deputation", rfl, by decide, nk_in (i := 707) (by decide +kernel) rfl, Or.inl rfl⟩, rfl⟩, trivial⟩
theorem fw_RX4_13_i : nk_Fw RX4 true 7 [12] := ⟨fun ci q e h => by
    have e2 : ci = 5 := by omega
    subst e2
    cases h
    exact ⟨Or.inr ⟨rfl, rfl, rfl⟩, Or.inl ⟨by decide +kernel, rfl⟩⟩, trivial⟩
theorem fk_RX4_16 : nk_Fk RX4 16 8 false [12] := ⟨⟨5, rfl, ⟨(RX4, TX4, 9), "NotaryKiosk$Deputation", rfl, by decide, nk_in (i := 708) (by decide +kernel) rfl, Or.inl rfl⟩, rfl⟩, trivial⟩
theorem fw_RX4_16_i : nk_Fw RX4 true 8 [12] := ⟨fun ci q e h => by
    have e2 : ci = 5 := by omega
    subst e2
    cases h
    exact ⟨Or.inr ⟨rfl, rfl, rfl⟩, Or.inl ⟨by decide +kernel, rfl⟩⟩, trivial⟩
theorem fk_RX5_7 : nk_Fk RX5 7 0 false [13] := ⟨⟨6, rfl, ⟨(RX5, TX5, 5), "NotaryKiosk$Draft", rfl, by decide, nk_in (i := 137) (by decide +kernel) rfl, Or.inl rfl⟩, rfl⟩, trivial⟩
theorem fw_RX5_7_i : nk_Fw RX5 true 0 [13] := ⟨fun ci q e h => by
    have e2 : ci = 6 := by omega
    subst e2
    cases h
    exact ⟨Or.inr ⟨rfl, rfl, rfl⟩, Or.inl ⟨by decide +kernel, rfl⟩⟩, trivial⟩
theorem fk_RX5_13 : nk_Fk RX5 13 1 false [13] := ⟨⟨6, rfl, ⟨(RX5, TX5, 5), "NotaryKiosk$Draft", rfl, by decide, nk_in (i := 139) (by decide +kernel) rfl, Or.inl rfl⟩, rfl⟩, trivial⟩
theorem fw_RX5_13_i : nk_Fw RX5 true 1 [13] := ⟨fun ci q e h => by
    have e2 : ci = 6 := by omega
    subst e2
    cases h
    exact ⟨Or.inr ⟨rfl, rfl, rfl⟩, Or.inl ⟨by decide +kernel, rfl⟩⟩, trivial⟩
theorem fk_RX5_16 : nk_Fk RX5 16 2 false [13] := ⟨⟨6, rfl, ⟨(RX5, TX5, 5), "NotaryKiosk$Draft", rfl, by decide, nk_in (i := 141) (by decide +kernel) rfl, Or.inl rfl⟩, rfl⟩, trivial⟩
theorem fw_RX5_16_i : nk_Fw RX5 true 2 [13] := ⟨fun ci q e h => by
    have e2 : ci = 6 := by omega
    subst e2
    cases h
    exact ⟨Or.inr ⟨rfl, rfl, rfl⟩, Or.inl ⟨by decide +kernel, rfl⟩⟩, trivial⟩
theorem fk_RX5_19 : nk_Fk RX5 19 3 false [13] := ⟨⟨6, rfl, ⟨(RX5, TX5, 5), "NotaryKiosk$Draft", rfl, by decide, nk_in (i := 143) (by decide +kernel) rfl, Or.inl rfl⟩, rfl⟩, trivial⟩
theorem fw_RX5_19_i : nk_Fw RX5 true 3 [13] := ⟨fun ci q e h => by
    have e2 : ci = 6 := by omega
    subst e2
    cases h
    exact ⟨Or.inr ⟨rfl, rfl, rfl⟩, Or.inl ⟨by decide +kernel, rfl⟩⟩, trivial⟩
theorem fk_RX5_22 : nk_Fk RX5 22 4 false [13] := ⟨⟨6, rfl, ⟨(RX5, TX5, 5), "NotaryKiosk$Draft", rfl, by decide, nk_in (i := 145) (by decide +kernel) rfl, Or.inl rfl⟩, rfl⟩, trivial⟩
theorem fw_RX5_22_i : nk_Fw RX5 true 4 [13] := ⟨fun ci q e h => by
    have e2 : ci = 6 := by omega
    subst e2
    cases h
    exact ⟨Or.inr ⟨rfl, rfl, rfl⟩, Or.inl ⟨by decide +kernel, rfl⟩⟩, trivial⟩
theorem ml_RX5_1 : Cond.methodLink RX5 1 ⟨"java/lang/Object", "<init>", "()V"⟩ ∈ nk_T := nk_in (i := 136) (by decide +kernel) rfl
theorem fk_RX6_9 : nk_Fk RX6 9 0 true [14] := ⟨⟨7, rfl, ⟨(RX6, TX6, 2), "NotaryKiosk$Links", rfl, by decide, nk_in (i := 64) (by decide +kernel) rfl, Or.inl rfl⟩, rfl⟩, trivial⟩
theorem fw_RX6_9_i : nk_Fw RX6 true 0 [14] := ⟨fun ci q e h => by
    have e2 : ci = 7 := by omega
    subst e2
    cases h
    exact ⟨Or.inr ⟨rfl, rfl, rfl⟩, Or.inr ⟨rfl, Or.inr ⟨.int, by decide +kernel⟩⟩⟩, trivial⟩
theorem fk_RX6_15 : nk_Fk RX6 15 1 true [14] := ⟨⟨7, rfl, ⟨(RX6, TX6, 2), "NotaryKiosk$Links", rfl, by decide, nk_in (i := 65) (by decide +kernel) rfl, Or.inl rfl⟩, rfl⟩, trivial⟩
theorem fw_RX6_15_i : nk_Fw RX6 true 1 [14] := ⟨fun ci q e h => by
    have e2 : ci = 7 := by omega
    subst e2
    cases h
    exact ⟨Or.inr ⟨rfl, rfl, rfl⟩, Or.inr ⟨rfl, Or.inr ⟨.int, by decide +kernel⟩⟩⟩, trivial⟩
theorem ml_RX6_3 : Cond.methodLink RX6 3 ⟨"java/lang/Object", "<init>", "()V"⟩ ∈ nk_T := nk_in (i := 63) (by decide +kernel) rfl
theorem nl_RX6_18 : Cond.methodLinkNest RX6 18 yX11_hasBit "NotaryKiosk" ∈ nk_T := nk_in (i := 308) (by decide +kernel) rfl
theorem co_J6_bitCount_0f7a4 : Cond.code yJ6_bitCount_0f7a4 cJ6_bitCount_0f7a4 1 (some FieldType.int) ∈ nk_T := nk_in (i := 341) (by decide +kernel) rfl
theorem in_RJ6 : Cond.initialized RJ6 ∈ nk_T := nk_in (i := 36) (by decide +kernel) rfl
theorem my_J6_bitCount_0f7a4 : nk_My yJ6_bitCount_0f7a4 cJ6_bitCount_0f7a4 1 (some FieldType.int) 1 := ⟨co_J6_bitCount_0f7a4, in_RJ6, ⟨by decide, by decide⟩, by decide +kernel⟩
theorem st_J6_bitCount_0f7a4 : Cond.static yJ6_bitCount_0f7a4 ∈ nk_T := nk_in (i := 340) (by decide +kernel) rfl
theorem ml_RX6_22 : Cond.methodLink RX6 22 yJ6_bitCount_0f7a4 ∈ nk_T := nk_in (i := 339) (by decide +kernel) rfl
theorem nl_RX6_28 : Cond.methodLinkNest RX6 28 yX11_bit "NotaryKiosk" ∈ nk_T := nk_in (i := 334) (by decide +kernel) rfl
theorem ml_RX6_31 : Cond.methodLink RX6 31 arraycopyName ∈ nk_T := nk_in (i := 363) (by decide +kernel) rfl
theorem ml_RX7_11 : Cond.methodLink RX7 11 yJx4a65c_init_da8c8 ∈ nk_T := nk_in (i := 80) (by decide +kernel) rfl
theorem fk_RX7_12 : nk_Fk RX7 12 0 true [15] := ⟨⟨8, rfl, ⟨(RX7, TX7, 2), "NotaryKiosk$News", rfl, by decide, nk_in (i := 104) (by decide +kernel) rfl, Or.inl rfl⟩, rfl⟩, trivial⟩
theorem fw_RX7_12_i : nk_Fw RX7 true 0 [15] := ⟨fun ci q e h => by
    have e2 : ci = 8 := by omega
    subst e2
    cases h
    exact ⟨Or.inr ⟨rfl, rfl, rfl⟩, Or.inr ⟨rfl, Or.inl ⟨"java/util/ArrayList", by decide +kernel⟩⟩⟩, trivial⟩
theorem fk_RX7_18 : nk_Fk RX7 18 1 true [15] := ⟨⟨8, rfl, ⟨(RX7, TX7, 2), "NotaryKiosk$News", rfl, by decide, nk_in (i := 105) (by decide +kernel) rfl, Or.inl rfl⟩, rfl⟩, trivial⟩
theorem fw_RX7_18_i : nk_Fw RX7 true 1 [15] := ⟨fun ci q e h => by
    have e2 : ci = 8 := by omega
    subst e2
    cases h
    exact ⟨Or.inr ⟨rfl, rfl, rfl⟩, Or.inr ⟨rfl, Or.inr ⟨.boolean, by decide +kernel⟩⟩⟩, trivial⟩
theorem ac_boolean : Cond.arrayClass (newarray.typeOf .boolean) ∈ nk_T := nk_in (i := 111) (by decide +kernel) rfl
theorem cl_RX7_9 : Cond.classLink RX7 9 "java/util/ArrayList" ∈ nk_T := nk_in (i := 78) (by decide +kernel) rfl
theorem ml_RX7_3 : Cond.methodLink RX7 3 ⟨"java/lang/Object", "<init>", "()V"⟩ ∈ nk_T := nk_in (i := 77) (by decide +kernel) rfl
theorem ml_RX7_22 : Cond.methodLink RX7 22 yJx4a65c_size_8abf5 ∈ nk_T := nk_in (i := 370) (by decide +kernel) rfl
theorem ca_Piece : nk_Ca "NotaryKiosk$Piece" [8, 12, 16, 17] := ⟨⟨1, (RX0, TX0, 11), rfl, rfl, Or.inr (nk_in (i := 1143) (by decide +kernel) rfl)⟩, ⟨⟨5, (RX4, TX4, 9), rfl, rfl, Or.inr (nk_in (i := 1144) (by decide +kernel) rfl)⟩, ⟨⟨9, (RX9, TX9, 15), rfl, rfl, Or.inr (nk_in (i := 1145) (by decide +kernel) rfl)⟩, ⟨⟨10, (RX10, TX10, 7), rfl, rfl, Or.inr (nk_in (i := 1146) (by decide +kernel) rfl)⟩, trivial⟩⟩⟩⟩
theorem cl_RX7_30 : Cond.classLink RX7 30 "NotaryKiosk$Piece" ∈ nk_T := nk_in (i := 385) (by decide +kernel) rfl
theorem ml_RX7_26 : Cond.methodLink RX7 26 yJx4a65c_get_915e3 ∈ nk_T := nk_in (i := 371) (by decide +kernel) rfl
theorem fk_RX8_21 : nk_Fk RX8 21 3 false [8, 12, 16, 17] := ⟨⟨1, rfl, ⟨(RX0, TX0, 11), "NotaryKiosk$Piece", rfl, by decide, nk_in (i := 494) (by decide +kernel) rfl, Or.inl rfl⟩, rfl⟩, ⟨⟨5, rfl, ⟨(RX4, TX4, 9), "NotaryKiosk$Piece", rfl, by decide, nk_in (i := 494) (by decide +kernel) rfl, Or.inl rfl⟩, rfl⟩, ⟨⟨9, rfl, ⟨(RX9, TX9, 15), "NotaryKiosk$Piece", rfl, by decide, nk_in (i := 494) (by decide +kernel) rfl, Or.inl rfl⟩, rfl⟩, ⟨⟨10, rfl, ⟨(RX10, TX10, 7), "NotaryKiosk$Piece", rfl, by decide, nk_in (i := 494) (by decide +kernel) rfl, Or.inl rfl⟩, rfl⟩, trivial⟩⟩⟩⟩
theorem nl_RX8_25 : Cond.methodLinkNest RX8 25 yX11_bit "NotaryKiosk" ∈ nk_T := nk_in (i := 399) (by decide +kernel) rfl
theorem fw_RX8_21_n : nk_Fw RX8 false 3 [8, 12, 16, 17] := ⟨fun ci q e h => by
    have e2 : ci = 1 := by omega
    subst e2
    cases h
    exact ⟨Or.inl rfl, Or.inl ⟨by decide +kernel, rfl⟩⟩, ⟨fun ci q e h => by
    have e2 : ci = 5 := by omega
    subst e2
    cases h
    exact ⟨Or.inl rfl, Or.inl ⟨by decide +kernel, rfl⟩⟩, ⟨fun ci q e h => by
    have e2 : ci = 9 := by omega
    subst e2
    cases h
    exact ⟨Or.inl rfl, Or.inl ⟨by decide +kernel, rfl⟩⟩, ⟨fun ci q e h => by
    have e2 : ci = 10 := by omega
    subst e2
    cases h
    exact ⟨Or.inl rfl, Or.inl ⟨by decide +kernel, rfl⟩⟩, trivial⟩⟩⟩⟩
theorem fk_RX7_32 : nk_Fk RX7 32 0 false [8, 12, 16, 17] := ⟨⟨1, rfl, ⟨(RX0, TX0, 11), "NotaryKiosk$Piece", rfl, by decide, nk_in (i := 482) (by decide +kernel) rfl, Or.inl rfl⟩, rfl⟩, ⟨⟨5, rfl, ⟨(RX4, TX4, 9), "NotaryKiosk$Piece", rfl, by decide, nk_in (i := 482) (by decide +kernel) rfl, Or.inl rfl⟩, rfl⟩, ⟨⟨9, rfl, ⟨(RX9, TX9, 15), "NotaryKiosk$Piece", rfl, by decide, nk_in (i := 482) (by decide +kernel) rfl, Or.inl rfl⟩, rfl⟩, ⟨⟨10, rfl, ⟨(RX10, TX10, 7), "NotaryKiosk$Piece", rfl, by decide, nk_in (i := 482) (by decide +kernel) rfl, Or.inl rfl⟩, rfl⟩, trivial⟩⟩⟩⟩
theorem fw_RX7_32_n : nk_Fw RX7 false 0 [8, 12, 16, 17] := ⟨fun ci q e h => by
    have e2 : ci = 1 := by omega
    subst e2
    cases h
    exact ⟨Or.inl rfl, Or.inl ⟨by decide +kernel, rfl⟩⟩, ⟨fun ci q e h => by
    have e2 : ci = 5 := by omega
    subst e2
    cases h
    exact ⟨Or.inl rfl, Or.inl ⟨by decide +kernel, rfl⟩⟩, ⟨fun ci q e h => by
    have e2 : ci = 9 := by omega
    subst e2
    cases h
    exact ⟨Or.inl rfl, Or.inl ⟨by decide +kernel, rfl⟩⟩, ⟨fun ci q e h => by
    have e2 : ci = 10 := by omega
    subst e2
    cases h
    exact ⟨Or.inl rfl, Or.inl ⟨by decide +kernel, rfl⟩⟩, trivial⟩⟩⟩⟩
theorem fk_RX7_36 : nk_Fk RX7 36 1 false [8, 12, 16, 17] := ⟨⟨1, rfl, ⟨(RX0, TX0, 11), "NotaryKiosk$Piece", rfl, by decide, nk_in (i := 489) (by decide +kernel) rfl, Or.inl rfl⟩, rfl⟩, ⟨⟨5, rfl, ⟨(RX4, TX4, 9), "NotaryKiosk$Piece", rfl, by decide, nk_in (i := 489) (by decide +kernel) rfl, Or.inl rfl⟩, rfl⟩, ⟨⟨9, rfl, ⟨(RX9, TX9, 15), "NotaryKiosk$Piece", rfl, by decide, nk_in (i := 489) (by decide +kernel) rfl, Or.inl rfl⟩, rfl⟩, ⟨⟨10, rfl, ⟨(RX10, TX10, 7), "NotaryKiosk$Piece", rfl, by decide, nk_in (i := 489) (by decide +kernel) rfl, Or.inl rfl⟩, rfl⟩, trivial⟩⟩⟩⟩
theorem fw_RX7_36_n : nk_Fw RX7 false 1 [8, 12, 16, 17] := ⟨fun ci q e h => by
    have e2 : ci = 1 := by omega
    subst e2
    cases h
    exact ⟨Or.inl rfl, Or.inl ⟨by decide +kernel, rfl⟩⟩, ⟨fun ci q e h => by
    have e2 : ci = 5 := by omega
    subst e2
    cases h
    exact ⟨Or.inl rfl, Or.inl ⟨by decide +kernel, rfl⟩⟩, ⟨fun ci q e h => by
    have e2 : ci = 9 := by omega
    subst e2
    cases h
    exact ⟨Or.inl rfl, Or.inl ⟨by decide +kernel, rfl⟩⟩, ⟨fun ci q e h => by
    have e2 : ci = 10 := by omega
    subst e2
    cases h
    exact ⟨Or.inl rfl, Or.inl ⟨by decide +kernel, rfl⟩⟩, trivial⟩⟩⟩⟩
theorem fk_RX7_39 : nk_Fk RX7 39 2 false [8, 12, 16, 17] := ⟨⟨1, rfl, ⟨(RX0, TX0, 11), "NotaryKiosk$Piece", rfl, by decide, nk_in (i := 491) (by decide +kernel) rfl, Or.inl rfl⟩, rfl⟩, ⟨⟨5, rfl, ⟨(RX4, TX4, 9), "NotaryKiosk$Piece", rfl, by decide, nk_in (i := 491) (by decide +kernel) rfl, Or.inl rfl⟩, rfl⟩, ⟨⟨9, rfl, ⟨(RX9, TX9, 15), "NotaryKiosk$Piece", rfl, by decide, nk_in (i := 491) (by decide +kernel) rfl, Or.inl rfl⟩, rfl⟩, ⟨⟨10, rfl, ⟨(RX10, TX10, 7), "NotaryKiosk$Piece", rfl, by decide, nk_in (i := 491) (by decide +kernel) rfl, Or.inl rfl⟩, rfl⟩, trivial⟩⟩⟩⟩
theorem fw_RX7_39_n : nk_Fw RX7 false 2 [8, 12, 16, 17] := ⟨fun ci q e h => by
    have e2 : ci = 1 := by omega
    subst e2
    cases h
    exact ⟨Or.inl rfl, Or.inl ⟨by decide +kernel, rfl⟩⟩, ⟨fun ci q e h => by
    have e2 : ci = 5 := by omega
    subst e2
    cases h
    exact ⟨Or.inl rfl, Or.inl ⟨by decide +kernel, rfl⟩⟩, ⟨fun ci q e h => by
    have e2 : ci = 9 := by omega
    subst e2
    cases h
    exact ⟨Or.inl rfl, Or.inl ⟨by decide +kernel, rfl⟩⟩, ⟨fun ci q e h => by
    have e2 : ci = 10 := by omega
    subst e2
    cases h
    exact ⟨Or.inl rfl, Or.inl ⟨by decide +kernel, rfl⟩⟩, trivial⟩⟩⟩⟩
theorem nl_RX7_46 : Cond.methodLinkNest RX7 46 yX11_bit "NotaryKiosk" ∈ nk_T := nk_in (i := 422) (by decide +kernel) rfl
theorem fk_RX7_50 : nk_Fk RX7 50 4 false [8, 12, 16, 17] := ⟨⟨1, rfl, ⟨(RX0, TX0, 11), "NotaryKiosk$Piece", rfl, by decide, nk_in (i := 497) (by decide +kernel) rfl, Or.inl rfl⟩, rfl⟩, ⟨⟨5, rfl, ⟨(RX4, TX4, 9), "NotaryKiosk$Piece", rfl, by decide, nk_in (i := 497) (by decide +kernel) rfl, Or.inl rfl⟩, rfl⟩, ⟨⟨9, rfl, ⟨(RX9, TX9, 15), "NotaryKiosk$Piece", rfl, by decide, nk_in (i := 497) (by decide +kernel) rfl, Or.inl rfl⟩, rfl⟩, ⟨⟨10, rfl, ⟨(RX10, TX10, 7), "NotaryKiosk$Piece", rfl, by decide, nk_in (i := 497) (by decide +kernel) rfl, Or.inl rfl⟩, rfl⟩, trivial⟩⟩⟩⟩
theorem fw_RX7_50_n : nk_Fw RX7 false 4 [8, 12, 16, 17] := ⟨fun ci q e h => by
    have e2 : ci = 1 := by omega
    subst e2
    cases h
    exact ⟨Or.inl rfl, Or.inl ⟨by decide +kernel, rfl⟩⟩, ⟨fun ci q e h => by
    have e2 : ci = 5 := by omega
    subst e2
    cases h
    exact ⟨Or.inl rfl, Or.inl ⟨by decide +kernel, rfl⟩⟩, ⟨fun ci q e h => by
    have e2 : ci = 9 := by omega
    subst e2
    cases h
    exact ⟨Or.inl rfl, Or.inl ⟨by decide +kernel, rfl⟩⟩, ⟨fun ci q e h => by
    have e2 : ci = 10 := by omega
    subst e2
    cases h
    exact ⟨Or.inl rfl, Or.inl ⟨by decide +kernel, rfl⟩⟩, trivial⟩⟩⟩⟩
theorem ml_RX7_53 : Cond.methodLink RX7 53 yJx4a65c_add_9ea2d ∈ nk_T := nk_in (i := 596) (by decide +kernel) rfl
theorem ml_RX7_42 : Cond.methodLink RX7 42 yX8_comeTo ∈ nk_T := nk_in (i := 391) (by decide +kernel) rfl
theorem co_X8_comeTo : Cond.code yX8_comeTo cX8_comeTo 3 (none : Option FieldType) ∈ nk_T := nk_in (i := 398) (by decide +kernel) rfl
theorem my_X8_comeTo : nk_My yX8_comeTo cX8_comeTo 3 (none : Option FieldType) 2 := ⟨co_X8_comeTo, in_RX8, ⟨by decide, by decide⟩, by decide +kernel⟩
theorem im_X8_comeTo : Cond.instanceMethod yX8_comeTo ∈ nk_T := nk_in (i := 392) (by decide +kernel) rfl
theorem se_RX0_X8_comeTo : Cond.selects RX0 yX8_comeTo yX8_comeTo ∈ nk_T := nk_in (i := 394) (by decide +kernel) rfl
theorem sm_X8_comeTo : Cond.sameMethod "NotaryKiosk$Piece" "NotaryKiosk$Piece" "comeTo" "(II)V" ∈ nk_T := nk_in (i := 393) (by decide +kernel) rfl
theorem se_RX4_X8_comeTo : Cond.selects RX4 yX8_comeTo yX8_comeTo ∈ nk_T := nk_in (i := 395) (by decide +kernel) rfl
theorem se_RX9_X8_comeTo : Cond.selects RX9 yX8_comeTo yX8_comeTo ∈ nk_T := nk_in (i := 396) (by decide +kernel) rfl
theorem se_RX10_X8_comeTo : Cond.selects RX10 yX8_comeTo yX8_comeTo ∈ nk_T := nk_in (i := 397) (by decide +kernel) rfl
theorem ml_RX7_70 : Cond.methodLink RX7 70 yJ6_bitCount_0f7a4 ∈ nk_T := nk_in (i := 400) (by decide +kernel) rfl
theorem nl_RX7_66 : Cond.methodLinkNest RX7 66 yX11_hasBit "NotaryKiosk" ∈ nk_T := nk_in (i := 390) (by decide +kernel) rfl
theorem fk_RX7_57 : nk_Fk RX7 57 3 false [8, 12, 16, 17] := ⟨⟨1, rfl, ⟨(RX0, TX0, 11), "NotaryKiosk$Piece", rfl, by decide, nk_in (i := 495) (by decide +kernel) rfl, Or.inl rfl⟩, rfl⟩, ⟨⟨5, rfl, ⟨(RX4, TX4, 9), "NotaryKiosk$Piece", rfl, by decide, nk_in (i := 495) (by decide +kernel) rfl, Or.inl rfl⟩, rfl⟩, ⟨⟨9, rfl, ⟨(RX9, TX9, 15), "NotaryKiosk$Piece", rfl, by decide, nk_in (i := 495) (by decide +kernel) rfl, Or.inl rfl⟩, rfl⟩, ⟨⟨10, rfl, ⟨(RX10, TX10, 7), "NotaryKiosk$Piece", rfl, by decide, nk_in (i := 495) (by decide +kernel) rfl, Or.inl rfl⟩, rfl⟩, trivial⟩⟩⟩⟩
theorem ml_RX7_60 : Cond.methodLink RX7 60 yX6_reach ∈ nk_T := nk_in (i := 386) (by decide +kernel) rfl
theorem co_X6_reach : Cond.code yX6_reach cX6_reach 5 (some FieldType.int) ∈ nk_T := nk_in (i := 389) (by decide +kernel) rfl
theorem in_RX6 : Cond.initialized RX6 ∈ nk_T := nk_in (i := 23) (by decide +kernel) rfl
theorem my_X6_reach : nk_My yX6_reach cX6_reach 5 (some FieldType.int) 2 := ⟨co_X6_reach, in_RX6, ⟨by decide, by decide⟩, by decide +kernel⟩
theorem im_X6_reach : Cond.instanceMethod yX6_reach ∈ nk_T := nk_in (i := 387) (by decide +kernel) rfl
theorem se_RX6_X6_reach : Cond.selects RX6 yX6_reach yX6_reach ∈ nk_T := nk_in (i := 388) (by decide +kernel) rfl
theorem fk_RX8_29 : nk_Fk RX8 29 4 false [8, 12, 16, 17] := ⟨⟨1, rfl, ⟨(RX0, TX0, 11), "NotaryKiosk$Piece", rfl, by decide, nk_in (i := 496) (by decide +kernel) rfl, Or.inl rfl⟩, rfl⟩, ⟨⟨5, rfl, ⟨(RX4, TX4, 9), "NotaryKiosk$Piece", rfl, by decide, nk_in (i := 496) (by decide +kernel) rfl, Or.inl rfl⟩, rfl⟩, ⟨⟨9, rfl, ⟨(RX9, TX9, 15), "NotaryKiosk$Piece", rfl, by decide, nk_in (i := 496) (by decide +kernel) rfl, Or.inl rfl⟩, rfl⟩, ⟨⟨10, rfl, ⟨(RX10, TX10, 7), "NotaryKiosk$Piece", rfl, by decide, nk_in (i := 496) (by decide +kernel) rfl, Or.inl rfl⟩, rfl⟩, trivial⟩⟩⟩⟩
theorem nl_RX8_32 : Cond.methodLinkNest RX8 32 yX11_hasBit "NotaryKiosk" ∈ nk_T := nk_in (i := 421) (by decide +kernel) rfl
theorem ml_RX7_75 : Cond.methodLink RX7 75 yX8_isInMail ∈ nk_T := nk_in (i := 413) (by decide +kernel) rfl
theorem co_X8_isInMail : Cond.code yX8_isInMail cX8_isInMail 2 (some FieldType.boolean) ∈ nk_T := nk_in (i := 420) (by decide +kernel) rfl
theorem my_X8_isInMail : nk_My yX8_isInMail cX8_isInMail 2 (some FieldType.boolean) 1 := ⟨co_X8_isInMail, in_RX8, ⟨by decide, by decide⟩, by decide +kernel⟩
theorem im_X8_isInMail : Cond.instanceMethod yX8_isInMail ∈ nk_T := nk_in (i := 414) (by decide +kernel) rfl
theorem se_RX0_X8_isInMail : Cond.selects RX0 yX8_isInMail yX8_isInMail ∈ nk_T := nk_in (i := 416) (by decide +kernel) rfl
theorem sm_X8_isInMail : Cond.sameMethod "NotaryKiosk$Piece" "NotaryKiosk$Piece" "isInMail" "(I)Z" ∈ nk_T := nk_in (i := 415) (by decide +kernel) rfl
theorem se_RX4_X8_isInMail : Cond.selects RX4 yX8_isInMail yX8_isInMail ∈ nk_T := nk_in (i := 417) (by decide +kernel) rfl
theorem se_RX9_X8_isInMail : Cond.selects RX9 yX8_isInMail yX8_isInMail ∈ nk_T := nk_in (i := 418) (by decide +kernel) rfl
theorem se_RX10_X8_isInMail : Cond.selects RX10 yX8_isInMail yX8_isInMail ∈ nk_T := nk_in (i := 419) (by decide +kernel) rfl
theorem ml_RX7_79 : Cond.methodLink RX7 79 yX7_unread ∈ nk_T := nk_in (i := 409) (by decide +kernel) rfl
theorem co_X7_unread : Cond.code yX7_unread cX7_unread 4 (some FieldType.int) ∈ nk_T := nk_in (i := 412) (by decide +kernel) rfl
theorem in_RX7 : Cond.initialized RX7 ∈ nk_T := nk_in (i := 24) (by decide +kernel) rfl
theorem my_X7_unread : nk_My yX7_unread cX7_unread 4 (some FieldType.int) 1 := ⟨co_X7_unread, in_RX7, ⟨by decide, by decide⟩, by decide +kernel⟩
theorem im_X7_unread : Cond.instanceMethod yX7_unread ∈ nk_T := nk_in (i := 410) (by decide +kernel) rfl
theorem se_RX7_X7_unread : Cond.selects RX7 yX7_unread yX7_unread ∈ nk_T := nk_in (i := 411) (by decide +kernel) rfl
theorem fk_RX8_36 : nk_Fk RX8 36 1 false [8, 12, 16, 17] := ⟨⟨1, rfl, ⟨(RX0, TX0, 11), "NotaryKiosk$Piece", rfl, by decide, nk_in (i := 488) (by decide +kernel) rfl, Or.inl rfl⟩, rfl⟩, ⟨⟨5, rfl, ⟨(RX4, TX4, 9), "NotaryKiosk$Piece", rfl, by decide, nk_in (i := 488) (by decide +kernel) rfl, Or.inl rfl⟩, rfl⟩, ⟨⟨9, rfl, ⟨(RX9, TX9, 15), "NotaryKiosk$Piece", rfl, by decide, nk_in (i := 488) (by decide +kernel) rfl, Or.inl rfl⟩, rfl⟩, ⟨⟨10, rfl, ⟨(RX10, TX10, 7), "NotaryKiosk$Piece", rfl, by decide, nk_in (i := 488) (by decide +kernel) rfl, Or.inl rfl⟩, rfl⟩, trivial⟩⟩⟩⟩
theorem fk_RX8_39 : nk_Fk RX8 39 0 false [8, 12, 16, 17] := ⟨⟨1, rfl, ⟨(RX0, TX0, 11), "NotaryKiosk$Piece", rfl, by decide, nk_in (i := 483) (by decide +kernel) rfl, Or.inl rfl⟩, rfl⟩, ⟨⟨5, rfl, ⟨(RX4, TX4, 9), "NotaryKiosk$Piece", rfl, by decide, nk_in (i := 483) (by decide +kernel) rfl, Or.inl rfl⟩, rfl⟩, ⟨⟨9, rfl, ⟨(RX9, TX9, 15), "NotaryKiosk$Piece", rfl, by decide, nk_in (i := 483) (by decide +kernel) rfl, Or.inl rfl⟩, rfl⟩, ⟨⟨10, rfl, ⟨(RX10, TX10, 7), "NotaryKiosk$Piece", rfl, by decide, nk_in (i := 483) (by decide +kernel) rfl, Or.inl rfl⟩, rfl⟩, trivial⟩⟩⟩⟩
theorem fk_RX8_42 : nk_Fk RX8 42 2 false [8, 12, 16, 17] := ⟨⟨1, rfl, ⟨(RX0, TX0, 11), "NotaryKiosk$Piece", rfl, by decide, nk_in (i := 492) (by decide +kernel) rfl, Or.inl rfl⟩, rfl⟩, ⟨⟨5, rfl, ⟨(RX4, TX4, 9), "NotaryKiosk$Piece", rfl, by decide, nk_in (i := 492) (by decide +kernel) rfl, Or.inl rfl⟩, rfl⟩, ⟨⟨9, rfl, ⟨(RX9, TX9, 15), "NotaryKiosk$Piece", rfl, by decide, nk_in (i := 492) (by decide +kernel) rfl, Or.inl rfl⟩, rfl⟩, ⟨⟨10, rfl, ⟨(RX10, TX10, 7), "NotaryKiosk$Piece", rfl, by decide, nk_in (i := 492) (by decide +kernel) rfl, Or.inl rfl⟩, rfl⟩, trivial⟩⟩⟩⟩
theorem ml_RX7_82 : Cond.methodLink RX7 82 yX8_couldBeReadFor ∈ nk_T := nk_in (i := 849) (by decide +kernel) rfl
theorem co_X8_couldBeReadFor : Cond.code yX8_couldBeReadFor cX8_couldBeReadFor 2 (some FieldType.boolean) ∈ nk_T := nk_in (i := 856) (by decide +kernel) rfl
theorem my_X8_couldBeReadFor : nk_My yX8_couldBeReadFor cX8_couldBeReadFor 2 (some FieldType.boolean) 1 := ⟨co_X8_couldBeReadFor, in_RX8, ⟨by decide, by decide⟩, by decide +kernel⟩
theorem im_X8_couldBeReadFor : Cond.instanceMethod yX8_couldBeReadFor ∈ nk_T := nk_in (i := 850) (by decide +kernel) rfl
theorem se_RX0_X8_couldBeReadFor : Cond.selects RX0 yX8_couldBeReadFor yX8_couldBeReadFor ∈ nk_T := nk_in (i := 852) (by decide +kernel) rfl
theorem sm_X8_couldBeReadFor : Cond.sameMethod "NotaryKiosk$Piece" "NotaryKiosk$Piece" "couldBeReadFor" "(LNotaryKiosk$Piece;)Z" ∈ nk_T := nk_in (i := 851) (by decide +kernel) rfl
theorem se_RX4_X8_couldBeReadFor : Cond.selects RX4 yX8_couldBeReadFor yX8_couldBeReadFor ∈ nk_T := nk_in (i := 853) (by decide +kernel) rfl
theorem se_RX9_X8_couldBeReadFor : Cond.selects RX9 yX8_couldBeReadFor yX8_couldBeReadFor ∈ nk_T := nk_in (i := 854) (by decide +kernel) rfl
theorem se_RX10_X8_couldBeReadFor : Cond.selects RX10 yX8_couldBeReadFor yX8_couldBeReadFor ∈ nk_T := nk_in (i := 855) (by decide +kernel) rfl
theorem fk_RX7_86 : nk_Fk RX7 86 0 false [16] := ⟨⟨9, rfl, ⟨(RX9, TX9, 15), "NotaryKiosk$Power", rfl, by decide, nk_in (i := 484) (by decide +kernel) rfl, Or.inr (nk_in (i := 485) (by decide +kernel) rfl)⟩, rfl⟩, trivial⟩
theorem fk_RX7_92 : nk_Fk RX7 92 7 true [16] := ⟨⟨9, rfl, ⟨(RX9, TX9, 15), "NotaryKiosk$Power", rfl, by decide, nk_in (i := 469) (by decide +kernel) rfl, Or.inl rfl⟩, rfl⟩, trivial⟩
theorem ml_RX7_89 : Cond.methodLink RX7 89 yX7_sees ∈ nk_T := nk_in (i := 624) (by decide +kernel) rfl
theorem co_X7_sees : Cond.code yX7_sees cX7_sees 2 (some FieldType.boolean) ∈ nk_T := nk_in (i := 627) (by decide +kernel) rfl
theorem my_X7_sees : nk_My yX7_sees cX7_sees 2 (some FieldType.boolean) 1 := ⟨co_X7_sees, in_RX7, ⟨by decide, by decide⟩, by decide +kernel⟩
theorem im_X7_sees : Cond.instanceMethod yX7_sees ∈ nk_T := nk_in (i := 626) (by decide +kernel) rfl
theorem se_RX7_X7_sees : Cond.selects RX7 yX7_sees yX7_sees ∈ nk_T := nk_in (i := 9) (by decide +kernel) rfl
theorem fk_RX10_7 : nk_Fk RX10 7 6 true [17] := ⟨⟨10, rfl, ⟨(RX10, TX10, 7), "NotaryKiosk$Revocation", rfl, by decide, nk_in (i := 667) (by decide +kernel) rfl, Or.inl rfl⟩, rfl⟩, trivial⟩
theorem ml_RX7_100 : Cond.methodLink RX7 100 yX8_isRevocationOf ∈ nk_T := nk_in (i := 636) (by decide +kernel) rfl
theorem co_X8_isRevocationOf : Cond.code yX8_isRevocationOf cX8_isRevocationOf 2 (some FieldType.boolean) ∈ nk_T := nk_in (i := 645) (by decide +kernel) rfl
theorem my_X8_isRevocationOf : nk_My yX8_isRevocationOf cX8_isRevocationOf 2 (some FieldType.boolean) 1 := ⟨co_X8_isRevocationOf, in_RX8, ⟨by decide, by decide⟩, by decide +kernel⟩
theorem im_X8_isRevocationOf : Cond.instanceMethod yX8_isRevocationOf ∈ nk_T := nk_in (i := 637) (by decide +kernel) rfl
theorem se_RX0_X8_isRevocationOf : Cond.selects RX0 yX8_isRevocationOf yX8_isRevocationOf ∈ nk_T := nk_in (i := 639) (by decide +kernel) rfl
theorem sm_X8_isRevocationOf : Cond.sameMethod "NotaryKiosk$Piece" "NotaryKiosk$Piece" "isRevocationOf" "(LNotaryKiosk$Power;)Z" ∈ nk_T := nk_in (i := 638) (by decide +kernel) rfl
theorem se_RX4_X8_isRevocationOf : Cond.selects RX4 yX8_isRevocationOf yX8_isRevocationOf ∈ nk_T := nk_in (i := 640) (by decide +kernel) rfl
theorem se_RX9_X8_isRevocationOf : Cond.selects RX9 yX8_isRevocationOf yX8_isRevocationOf ∈ nk_T := nk_in (i := 641) (by decide +kernel) rfl
theorem co_X10_isRevocationOf : Cond.code yX10_isRevocationOf cX10_isRevocationOf 2 (some FieldType.boolean) ∈ nk_T := nk_in (i := 644) (by decide +kernel) rfl
theorem in_RX10 : Cond.initialized RX10 ∈ nk_T := nk_in (i := 45) (by decide +kernel) rfl
theorem my_X10_isRevocationOf : nk_My yX10_isRevocationOf cX10_isRevocationOf 2 (some FieldType.boolean) 1 := ⟨co_X10_isRevocationOf, in_RX10, ⟨by decide, by decide⟩, by decide +kernel⟩
theorem im_X10_isRevocationOf : Cond.instanceMethod yX10_isRevocationOf ∈ nk_T := nk_in (i := 643) (by decide +kernel) rfl
theorem se_RX10_X8_isRevocationOf_X10_isRevocationOf : Cond.selects RX10 yX8_isRevocationOf yX10_isRevocationOf ∈ nk_T := nk_in (i := 642) (by decide +kernel) rfl
theorem ml_RX7_96 : Cond.methodLink RX7 96 yX7_revokesAlone ∈ nk_T := nk_in (i := 632) (by decide +kernel) rfl
theorem co_X7_revokesAlone : Cond.code yX7_revokesAlone cX7_revokesAlone 3 (some FieldType.boolean) ∈ nk_T := nk_in (i := 635) (by decide +kernel) rfl
theorem my_X7_revokesAlone : nk_My yX7_revokesAlone cX7_revokesAlone 3 (some FieldType.boolean) 1 := ⟨co_X7_revokesAlone, in_RX7, ⟨by decide, by decide⟩, by decide +kernel⟩
theorem im_X7_revokesAlone : Cond.instanceMethod yX7_revokesAlone ∈ nk_T := nk_in (i := 634) (by decide +kernel) rfl
theorem se_RX7_X7_revokesAlone : Cond.selects RX7 yX7_revokesAlone yX7_revokesAlone ∈ nk_T := nk_in (i := 10) (by decide +kernel) rfl
theorem ml_RX7_103 : Cond.methodLink RX7 103 yX8_amountBy ∈ nk_T := nk_in (i := 785) (by decide +kernel) rfl
theorem co_X0_amountBy : Cond.code yX0_amountBy cX0_amountBy 2 (some FieldType.int) ∈ nk_T := nk_in (i := 790) (by decide +kernel) rfl
theorem in_RX0 : Cond.initialized RX0 ∈ nk_T := nk_in (i := 48) (by decide +kernel) rfl
theorem my_X0_amountBy : nk_My yX0_amountBy cX0_amountBy 2 (some FieldType.int) 1 := ⟨co_X0_amountBy, in_RX0, ⟨by decide, by decide⟩, by decide +kernel⟩
theorem im_X0_amountBy : Cond.instanceMethod yX0_amountBy ∈ nk_T := nk_in (i := 789) (by decide +kernel) rfl
theorem se_RX0_X8_amountBy_X0_amountBy : Cond.selects RX0 yX8_amountBy yX0_amountBy ∈ nk_T := nk_in (i := 788) (by decide +kernel) rfl
theorem sm_X8_amountBy : Cond.sameMethod "NotaryKiosk$Piece" "NotaryKiosk$Piece" "amountBy" "(LNotaryKiosk$Power;)I" ∈ nk_T := nk_in (i := 787) (by decide +kernel) rfl
theorem im_X8_amountBy : Cond.instanceMethod yX8_amountBy ∈ nk_T := nk_in (i := 786) (by decide +kernel) rfl
theorem co_X8_amountBy : Cond.code yX8_amountBy cX8_amountBy 2 (some FieldType.int) ∈ nk_T := nk_in (i := 798) (by decide +kernel) rfl
theorem my_X8_amountBy : nk_My yX8_amountBy cX8_amountBy 2 (some FieldType.int) 1 := ⟨co_X8_amountBy, in_RX8, ⟨by decide, by decide⟩, by decide +kernel⟩
theorem se_RX4_X8_amountBy : Cond.selects RX4 yX8_amountBy yX8_amountBy ∈ nk_T := nk_in (i := 795) (by decide +kernel) rfl
theorem se_RX9_X8_amountBy : Cond.selects RX9 yX8_amountBy yX8_amountBy ∈ nk_T := nk_in (i := 796) (by decide +kernel) rfl
theorem se_RX10_X8_amountBy : Cond.selects RX10 yX8_amountBy yX8_amountBy ∈ nk_T := nk_in (i := 797) (by decide +kernel) rfl
theorem fk_RX7_110 : nk_Fk RX7 110 12 false [16] := ⟨⟨9, rfl, ⟨(RX9, TX9, 15), "NotaryKiosk$Power", rfl, by decide, nk_in (i := 479) (by decide +kernel) rfl, Or.inl rfl⟩, rfl⟩, trivial⟩
theorem ml_RX7_107 : Cond.methodLink RX7 107 yX7_doneWith ∈ nk_T := nk_in (i := 781) (by decide +kernel) rfl
theorem co_X7_doneWith : Cond.code yX7_doneWith cX7_doneWith 4 (some FieldType.int) ∈ nk_T := nk_in (i := 784) (by decide +kernel) rfl
theorem my_X7_doneWith : nk_My yX7_doneWith cX7_doneWith 4 (some FieldType.int) 1 := ⟨co_X7_doneWith, in_RX7, ⟨by decide, by decide⟩, by decide +kernel⟩
theorem im_X7_doneWith : Cond.instanceMethod yX7_doneWith ∈ nk_T := nk_in (i := 782) (by decide +kernel) rfl
theorem se_RX7_X7_doneWith : Cond.selects RX7 yX7_doneWith yX7_doneWith ∈ nk_T := nk_in (i := 783) (by decide +kernel) rfl
theorem ml_RX7_113 : Cond.methodLink RX7 113 yX8_isDeputation ∈ nk_T := nk_in (i := 689) (by decide +kernel) rfl
theorem co_X8_isDeputation : Cond.code yX8_isDeputation cX8_isDeputation 4 (some FieldType.boolean) ∈ nk_T := nk_in (i := 698) (by decide +kernel) rfl
theorem my_X8_isDeputation : nk_My yX8_isDeputation cX8_isDeputation 4 (some FieldType.boolean) 3 := ⟨co_X8_isDeputation, in_RX8, ⟨by decide, by decide⟩, by decide +kernel⟩
theorem im_X8_isDeputation : Cond.instanceMethod yX8_isDeputation ∈ nk_T := nk_in (i := 690) (by decide +kernel) rfl
theorem se_RX0_X8_isDeputation : Cond.selects RX0 yX8_isDeputation yX8_isDeputation ∈ nk_T := nk_in (i := 692) (by decide +kernel) rfl
theorem sm_X8_isDeputation : Cond.sameMethod "NotaryKiosk$Piece" "NotaryKiosk$Piece" "isDeputation" "(III)Z" ∈ nk_T := nk_in (i := 691) (by decide +kernel) rfl
theorem co_X4_isDeputation : Cond.code yX4_isDeputation cX4_isDeputation 4 (some FieldType.boolean) ∈ nk_T := nk_in (i := 695) (by decide +kernel) rfl
theorem in_RX4 : Cond.initialized RX4 ∈ nk_T := nk_in (i := 46) (by decide +kernel) rfl
theorem my_X4_isDeputation : nk_My yX4_isDeputation cX4_isDeputation 4 (some FieldType.boolean) 3 := ⟨co_X4_isDeputation, in_RX4, ⟨by decide, by decide⟩, by decide +kernel⟩
theorem im_X4_isDeputation : Cond.instanceMethod yX4_isDeputation ∈ nk_T := nk_in (i := 694) (by decide +kernel) rfl
theorem se_RX4_X8_isDeputation_X4_isDeputation : Cond.selects RX4 yX8_isDeputation yX4_isDeputation ∈ nk_T := nk_in (i := 693) (by decide +kernel) rfl
theorem se_RX9_X8_isDeputation : Cond.selects RX9 yX8_isDeputation yX8_isDeputation ∈ nk_T := nk_in (i := 696) (by decide +kernel) rfl
theorem se_RX10_X8_isDeputation : Cond.selects RX10 yX8_isDeputation yX8_isDeputation ∈ nk_T := nk_in (i := 697) (by decide +kernel) rfl
theorem ml_RX7_117 : Cond.methodLink RX7 117 yX7_deputes ∈ nk_T := nk_in (i := 803) (by decide +kernel) rfl
theorem co_X7_deputes : Cond.code yX7_deputes cX7_deputes 5 (some FieldType.boolean) ∈ nk_T := nk_in (i := 688) (by decide +kernel) rfl
theorem my_X7_deputes : nk_My yX7_deputes cX7_deputes 5 (some FieldType.boolean) 3 := ⟨co_X7_deputes, in_RX7, ⟨by decide, by decide⟩, by decide +kernel⟩
theorem im_X7_deputes : Cond.instanceMethod yX7_deputes ∈ nk_T := nk_in (i := 686) (by decide +kernel) rfl
theorem se_RX7_X7_deputes : Cond.selects RX7 yX7_deputes yX7_deputes ∈ nk_T := nk_in (i := 687) (by decide +kernel) rfl
theorem fk_RX9_40 : nk_Fk RX9 40 13 false [16] := ⟨⟨9, rfl, ⟨(RX9, TX9, 15), "NotaryKiosk$Power", rfl, by decide, nk_in (i := 480) (by decide +kernel) rfl, Or.inl rfl⟩, rfl⟩, trivial⟩
theorem fk_RX9_32 : nk_Fk RX9 32 11 false [16] := ⟨⟨9, rfl, ⟨(RX9, TX9, 15), "NotaryKiosk$Power", rfl, by decide, nk_in (i := 477) (by decide +kernel) rfl, Or.inl rfl⟩, rfl⟩, trivial⟩
theorem fk_RX7_123 : nk_Fk RX7 123 2 false [11] := ⟨⟨4, rfl, ⟨(RX3, TX3, 6), "NotaryKiosk$Deed", rfl, by decide, nk_in (i := 743) (by decide +kernel) rfl, Or.inl rfl⟩, rfl⟩, trivial⟩
theorem fk_RX7_128 : nk_Fk RX7 128 9 false [16] := ⟨⟨9, rfl, ⟨(RX9, TX9, 15), "NotaryKiosk$Power", rfl, by decide, nk_in (i := 474) (by decide +kernel) rfl, Or.inl rfl⟩, rfl⟩, trivial⟩
theorem fk_RX7_134 : nk_Fk RX7 134 1 false [11] := ⟨⟨4, rfl, ⟨(RX3, TX3, 6), "NotaryKiosk$Deed", rfl, by decide, nk_in (i := 740) (by decide +kernel) rfl, Or.inl rfl⟩, rfl⟩, trivial⟩
theorem fk_RX7_138 : nk_Fk RX7 138 10 false [16] := ⟨⟨9, rfl, ⟨(RX9, TX9, 15), "NotaryKiosk$Power", rfl, by decide, nk_in (i := 476) (by decide +kernel) rfl, Or.inl rfl⟩, rfl⟩, trivial⟩
theorem fk_RX7_141 : nk_Fk RX7 141 3 false [11] := ⟨⟨4, rfl, ⟨(RX3, TX3, 6), "NotaryKiosk$Deed", rfl, by decide, nk_in (i := 746) (by decide +kernel) rfl, Or.inl rfl⟩, rfl⟩, trivial⟩
theorem fk_RX7_144 : nk_Fk RX7 144 4 false [11] := ⟨⟨4, rfl, ⟨(RX3, TX3, 6), "NotaryKiosk$Deed", rfl, by decide, nk_in (i := 749) (by decide +kernel) rfl, Or.inl rfl⟩, rfl⟩, trivial⟩
theorem fk_RX7_154 : nk_Fk RX7 154 5 false [11] := ⟨⟨4, rfl, ⟨(RX3, TX3, 6), "NotaryKiosk$Deed", rfl, by decide, nk_in (i := 752) (by decide +kernel) rfl, Or.inl rfl⟩, rfl⟩, trivial⟩
theorem fk_RX7_157 : nk_Fk RX7 157 0 false [11] := ⟨⟨4, rfl, ⟨(RX3, TX3, 6), "NotaryKiosk$Deed", rfl, by decide, nk_in (i := 737) (by decide +kernel) rfl, Or.inl rfl⟩, rfl⟩, trivial⟩
theorem ml_RX7_158 : Cond.methodLink RX7 158 yX7_officerAt ∈ nk_T := nk_in (i := 799) (by decide +kernel) rfl
theorem co_X7_officerAt : Cond.code yX7_officerAt cX7_officerAt 3 (some FieldType.int) ∈ nk_T := nk_in (i := 802) (by decide +kernel) rfl
theorem my_X7_officerAt : nk_My yX7_officerAt cX7_officerAt 3 (some FieldType.int) 2 := ⟨co_X7_officerAt, in_RX7, ⟨by decide, by decide⟩, by decide +kernel⟩
theorem im_X7_officerAt : Cond.instanceMethod yX7_officerAt ∈ nk_T := nk_in (i := 801) (by decide +kernel) rfl
theorem se_RX7_X7_officerAt : Cond.selects RX7 yX7_officerAt yX7_officerAt ∈ nk_T := nk_in (i := 13) (by decide +kernel) rfl
theorem ml_RX7_150 : Cond.methodLink RX7 150 yX7_wouldPassTotal ∈ nk_T := nk_in (i := 777) (by decide +kernel) rfl
theorem co_X7_wouldPassTotal : Cond.code yX7_wouldPassTotal cX7_wouldPassTotal 4 (some FieldType.boolean) ∈ nk_T := nk_in (i := 780) (by decide +kernel) rfl
theorem my_X7_wouldPassTotal : nk_My yX7_wouldPassTotal cX7_wouldPassTotal 4 (some FieldType.boolean) 2 := ⟨co_X7_wouldPassTotal, in_RX7, ⟨by decide, by decide⟩, by decide +kernel⟩
theorem im_X7_wouldPassTotal : Cond.instanceMethod yX7_wouldPassTotal ∈ nk_T := nk_in (i := 779) (by decide +kernel) rfl
theorem se_RX7_X7_wouldPassTotal : Cond.selects RX7 yX7_wouldPassTotal yX7_wouldPassTotal ∈ nk_T := nk_in (i := 12) (by decide +kernel) rfl
theorem ml_RX7_147 : Cond.methodLink RX7 147 yX9_limitsBelow ∈ nk_T := nk_in (i := 773) (by decide +kernel) rfl
theorem co_X9_limitsBelow : Cond.code yX9_limitsBelow cX9_limitsBelow 3 (some FieldType.boolean) ∈ nk_T := nk_in (i := 776) (by decide +kernel) rfl
theorem my_X9_limitsBelow : nk_My yX9_limitsBelow cX9_limitsBelow 3 (some FieldType.boolean) 1 := ⟨co_X9_limitsBelow, in_RX9, ⟨by decide, by decide⟩, by decide +kernel⟩
theorem im_X9_limitsBelow : Cond.instanceMethod yX9_limitsBelow ∈ nk_T := nk_in (i := 774) (by decide +kernel) rfl
theorem se_RX9_X9_limitsBelow : Cond.selects RX9 yX9_limitsBelow yX9_limitsBelow ∈ nk_T := nk_in (i := 775) (by decide +kernel) rfl
theorem ml_RX7_135 : Cond.methodLink RX7 135 yX9_isOver ∈ nk_T := nk_in (i := 772) (by decide +kernel) rfl
theorem co_X9_isOver : Cond.code yX9_isOver cX9_isOver 3 (some FieldType.boolean) ∈ nk_T := nk_in (i := 649) (by decide +kernel) rfl
theorem my_X9_isOver : nk_My yX9_isOver cX9_isOver 3 (some FieldType.boolean) 1 := ⟨co_X9_isOver, in_RX9, ⟨by decide, by decide⟩, by decide +kernel⟩
theorem im_X9_isOver : Cond.instanceMethod yX9_isOver ∈ nk_T := nk_in (i := 647) (by decide +kernel) rfl
theorem se_RX9_X9_isOver : Cond.selects RX9 yX9_isOver yX9_isOver ∈ nk_T := nk_in (i := 648) (by decide +kernel) rfl
theorem ml_RX7_131 : Cond.methodLink RX7 131 yX7_revokes ∈ nk_T := nk_in (i := 771) (by decide +kernel) rfl
theorem co_X7_revokes : Cond.code yX7_revokes cX7_revokes 3 (some FieldType.boolean) ∈ nk_T := nk_in (i := 631) (by decide +kernel) rfl
theorem my_X7_revokes : nk_My yX7_revokes cX7_revokes 3 (some FieldType.boolean) 1 := ⟨co_X7_revokes, in_RX7, ⟨by decide, by decide⟩, by decide +kernel⟩
theorem im_X7_revokes : Cond.instanceMethod yX7_revokes ∈ nk_T := nk_in (i := 629) (by decide +kernel) rfl
theorem se_RX7_X7_revokes : Cond.selects RX7 yX7_revokes yX7_revokes ∈ nk_T := nk_in (i := 630) (by decide +kernel) rfl
theorem ml_RX7_120 : Cond.methodLink RX7 120 yX7_knows ∈ nk_T := nk_in (i := 770) (by decide +kernel) rfl
theorem co_X7_knows : Cond.code yX7_knows cX7_knows 3 (some FieldType.boolean) ∈ nk_T := nk_in (i := 623) (by decide +kernel) rfl
theorem my_X7_knows : nk_My yX7_knows cX7_knows 3 (some FieldType.boolean) 1 := ⟨co_X7_knows, in_RX7, ⟨by decide, by decide⟩, by decide +kernel⟩
theorem im_X7_knows : Cond.instanceMethod yX7_knows ∈ nk_T := nk_in (i := 621) (by decide +kernel) rfl
theorem se_RX7_X7_knows : Cond.selects RX7 yX7_knows yX7_knows ∈ nk_T := nk_in (i := 622) (by decide +kernel) rfl
theorem ml_RX9_1 : Cond.methodLink RX9 1 yX8_init ∈ nk_T := nk_in (i := 458) (by decide +kernel) rfl
theorem fk_RX9_7 : nk_Fk RX9 7 6 false [16] := ⟨⟨9, rfl, ⟨(RX9, TX9, 15), "NotaryKiosk$Power", rfl, by decide, nk_in (i := 465) (by decide +kernel) rfl, Or.inl rfl⟩, rfl⟩, trivial⟩
theorem fw_RX9_7_i : nk_Fw RX9 true 6 [16] := ⟨fun ci q e h => by
    have e2 : ci = 9 := by omega
    subst e2
    cases h
    exact ⟨Or.inr ⟨rfl, rfl, rfl⟩, Or.inl ⟨by decide +kernel, rfl⟩⟩, trivial⟩
theorem fw_RX9_13_i : nk_Fw RX9 true 7 [16] := ⟨fun ci q e h => by
    have e2 : ci = 9 := by omega
    subst e2
    cases h
    exact ⟨Or.inr ⟨rfl, rfl, rfl⟩, Or.inr ⟨rfl, Or.inl ⟨"NotaryKiosk$Power", by decide +kernel⟩⟩⟩, trivial⟩
theorem fk_RX9_17 : nk_Fk RX9 17 8 false [16] := ⟨⟨9, rfl, ⟨(RX9, TX9, 15), "NotaryKiosk$Power", rfl, by decide, nk_in (i := 471) (by decide +kernel) rfl, Or.inl rfl⟩, rfl⟩, trivial⟩
theorem fw_RX9_17_i : nk_Fw RX9 true 8 [16] := ⟨fun ci q e h => by
    have e2 : ci = 9 := by omega
    subst e2
    cases h
    exact ⟨Or.inr ⟨rfl, rfl, rfl⟩, Or.inl ⟨by decide +kernel, rfl⟩⟩, trivial⟩
theorem fk_RX9_20 : nk_Fk RX9 20 9 false [16] := ⟨⟨9, rfl, ⟨(RX9, TX9, 15), "NotaryKiosk$Power", rfl, by decide, nk_in (i := 472) (by decide +kernel) rfl, Or.inl rfl⟩, rfl⟩, trivial⟩
theorem fw_RX9_20_i : nk_Fw RX9 true 9 [16] := ⟨fun ci q e h => by
    have e2 : ci = 9 := by omega
    subst e2
    cases h
    exact ⟨Or.inr ⟨rfl, rfl, rfl⟩, Or.inl ⟨by decide +kernel, rfl⟩⟩, trivial⟩
theorem fk_RX9_23 : nk_Fk RX9 23 0 false [13] := ⟨⟨6, rfl, ⟨(RX5, TX5, 5), "NotaryKiosk$Draft", rfl, by decide, nk_in (i := 138) (by decide +kernel) rfl, Or.inl rfl⟩, rfl⟩, trivial⟩
theorem fk_RX9_28 : nk_Fk RX9 28 10 false [16] := ⟨⟨9, rfl, ⟨(RX9, TX9, 15), "NotaryKiosk$Power", rfl, by decide, nk_in (i := 475) (by decide +kernel) rfl, Or.inl rfl⟩, rfl⟩, trivial⟩
theorem fw_RX9_28_i : nk_Fw RX9 true 10 [16] := ⟨fun ci q e h => by
    have e2 : ci = 9 := by omega
    subst e2
    cases h
    exact ⟨Or.inr ⟨rfl, rfl, rfl⟩, Or.inl ⟨by decide +kernel, rfl⟩⟩, trivial⟩
theorem fk_RX9_29 : nk_Fk RX9 29 1 false [13] := ⟨⟨6, rfl, ⟨(RX5, TX5, 5), "NotaryKiosk$Draft", rfl, by decide, nk_in (i := 140) (by decide +kernel) rfl, Or.inl rfl⟩, rfl⟩, trivial⟩
theorem fw_RX9_32_i : nk_Fw RX9 true 11 [16] := ⟨fun ci q e h => by
    have e2 : ci = 9 := by omega
    subst e2
    cases h
    exact ⟨Or.inr ⟨rfl, rfl, rfl⟩, Or.inl ⟨by decide +kernel, rfl⟩⟩, trivial⟩
theorem fk_RX9_33 : nk_Fk RX9 33 2 false [13] := ⟨⟨6, rfl, ⟨(RX5, TX5, 5), "NotaryKiosk$Draft", rfl, by decide, nk_in (i := 142) (by decide +kernel) rfl, Or.inl rfl⟩, rfl⟩, trivial⟩
theorem fk_RX9_36 : nk_Fk RX9 36 12 false [16] := ⟨⟨9, rfl, ⟨(RX9, TX9, 15), "NotaryKiosk$Power", rfl, by decide, nk_in (i := 478) (by decide +kernel) rfl, Or.inl rfl⟩, rfl⟩, trivial⟩
theorem fw_RX9_36_i : nk_Fw RX9 true 12 [16] := ⟨fun ci q e h => by
    have e2 : ci = 9 := by omega
    subst e2
    cases h
    exact ⟨Or.inr ⟨rfl, rfl, rfl⟩, Or.inl ⟨by decide +kernel, rfl⟩⟩, trivial⟩
theorem fk_RX9_37 : nk_Fk RX9 37 3 false [13] := ⟨⟨6, rfl, ⟨(RX5, TX5, 5), "NotaryKiosk$Draft", rfl, by decide, nk_in (i := 144) (by decide +kernel) rfl, Or.inl rfl⟩, rfl⟩, trivial⟩
theorem fw_RX9_40_i : nk_Fw RX9 true 13 [16] := ⟨fun ci q e h => by
    have e2 : ci = 9 := by omega
    subst e2
    cases h
    exact ⟨Or.inr ⟨rfl, rfl, rfl⟩, Or.inl ⟨by decide +kernel, rfl⟩⟩, trivial⟩
theorem fk_RX9_43 : nk_Fk RX9 43 4 false [13] := ⟨⟨6, rfl, ⟨(RX5, TX5, 5), "NotaryKiosk$Draft", rfl, by decide, nk_in (i := 146) (by decide +kernel) rfl, Or.inl rfl⟩, rfl⟩, trivial⟩
theorem fk_RX9_46 : nk_Fk RX9 46 14 false [16] := ⟨⟨9, rfl, ⟨(RX9, TX9, 15), "NotaryKiosk$Power", rfl, by decide, nk_in (i := 481) (by decide +kernel) rfl, Or.inl rfl⟩, rfl⟩, trivial⟩
theorem fw_RX9_46_i : nk_Fw RX9 true 14 [16] := ⟨fun ci q e h => by
    have e2 : ci = 9 := by omega
    subst e2
    cases h
    exact ⟨Or.inr ⟨rfl, rfl, rfl⟩, Or.inl ⟨by decide +kernel, rfl⟩⟩, trivial⟩
theorem ml_RX10_1 : Cond.methodLink RX10 1 yX8_init ∈ nk_T := nk_in (i := 666) (by decide +kernel) rfl
theorem fw_RX10_7_i : nk_Fw RX10 true 6 [17] := ⟨fun ci q e h => by
    have e2 : ci = 10 := by omega
    subst e2
    cases h
    exact ⟨Or.inr ⟨rfl, rfl, rfl⟩, Or.inr ⟨rfl, Or.inl ⟨"NotaryKiosk$Power", by decide +kernel⟩⟩⟩, trivial⟩
theorem ml_RX11_25 : Cond.methodLink RX11 25 yJx4a65c_init_da8c8 ∈ nk_T := nk_in (i := 113) (by decide +kernel) rfl
theorem fk_RX11_39 : nk_Fk RX11 39 4 true [18] := ⟨⟨11, rfl, ⟨(RX11, TX11, 9), "NotaryKiosk", rfl, by decide, nk_in (i := 162) (by decide +kernel) rfl, Or.inl rfl⟩, rfl⟩, trivial⟩
theorem fw_RX11_39_i : nk_Fw RX11 true 4 [18] := ⟨fun ci q e h => by
    have e2 : ci = 11 := by omega
    subst e2
    cases h
    exact ⟨Or.inr ⟨rfl, rfl, rfl⟩, Or.inr ⟨rfl, Or.inl ⟨"java/util/ArrayList", by decide +kernel⟩⟩⟩, trivial⟩
theorem fk_RX11_42 : nk_Fk RX11 42 5 false [18] := ⟨⟨11, rfl, ⟨(RX11, TX11, 9), "NotaryKiosk", rfl, by decide, nk_in (i := 163) (by decide +kernel) rfl, Or.inl rfl⟩, rfl⟩, trivial⟩
theorem fw_RX11_42_i : nk_Fw RX11 true 5 [18] := ⟨fun ci q e h => by
    have e2 : ci = 11 := by omega
    subst e2
    cases h
    exact ⟨Or.inl rfl, Or.inl ⟨by decide +kernel, rfl⟩⟩, trivial⟩
theorem kc_RX11_48 : Cond.constant RX11 48 100000 ∈ nk_T := nk_in (i := 132) (by decide +kernel) rfl
theorem co_X5_init : Cond.code yX5_init cX5_init 6 (none : Option FieldType) ∈ nk_T := nk_in (i := 135) (by decide +kernel) rfl
theorem in_RX5 : Cond.initialized RX5 ∈ nk_T := nk_in (i := 29) (by decide +kernel) rfl
theorem my_X5_init : nk_My yX5_init cX5_init 6 (none : Option FieldType) 5 := ⟨co_X5_init, in_RX5, ⟨by decide, by decide⟩, by decide +kernel⟩
theorem im_X5_init : Cond.instanceMethod yX5_init ∈ nk_T := nk_in (i := 134) (by decide +kernel) rfl
theorem ml_RX11_49 : Cond.methodLink RX11 49 yX5_init ∈ nk_T := nk_in (i := 133) (by decide +kernel) rfl
theorem fk_RX11_52 : nk_Fk RX11 52 6 true [18] := ⟨⟨11, rfl, ⟨(RX11, TX11, 9), "NotaryKiosk", rfl, by decide, nk_in (i := 164) (by decide +kernel) rfl, Or.inl rfl⟩, rfl⟩, trivial⟩
theorem fw_RX11_52_i : nk_Fw RX11 true 6 [18] := ⟨fun ci q e h => by
    have e2 : ci = 11 := by omega
    subst e2
    cases h
    exact ⟨Or.inl rfl, Or.inr ⟨rfl, Or.inl ⟨"NotaryKiosk$Draft", by decide +kernel⟩⟩⟩, trivial⟩
theorem fk_RX11_56 : nk_Fk RX11 56 7 false [18] := ⟨⟨11, rfl, ⟨(RX11, TX11, 9), "NotaryKiosk", rfl, by decide, nk_in (i := 165) (by decide +kernel) rfl, Or.inl rfl⟩, rfl⟩, trivial⟩
theorem fw_RX11_56_i : nk_Fw RX11 true 7 [18] := ⟨fun ci q e h => by
    have e2 : ci = 11 := by omega
    subst e2
    cases h
    exact ⟨Or.inl rfl, Or.inl ⟨by decide +kernel, rfl⟩⟩, trivial⟩
theorem fk_RX11_59 : nk_Fk RX11 59 8 false [18] := ⟨⟨11, rfl, ⟨(RX11, TX11, 9), "NotaryKiosk", rfl, by decide, nk_in (i := 166) (by decide +kernel) rfl, Or.inl rfl⟩, rfl⟩, trivial⟩
theorem fw_RX11_59_i : nk_Fw RX11 true 8 [18] := ⟨fun ci q e h => by
    have e2 : ci = 11 := by omega
    subst e2
    cases h
    exact ⟨Or.inl rfl, Or.inl ⟨by decide +kernel, rfl⟩⟩, trivial⟩
theorem cl_RX11_46 : Cond.classLink RX11 46 "NotaryKiosk$Draft" ∈ nk_T := nk_in (i := 130) (by decide +kernel) rfl
theorem ins_RX5 : Cond.instantiable RX5 5 ∈ nk_T := nk_in (i := 131) (by decide +kernel) rfl
theorem cl_RX11_23 : Cond.classLink RX11 23 "java/util/ArrayList" ∈ nk_T := nk_in (i := 112) (by decide +kernel) rfl
theorem fk_RX11_32 : nk_Fk RX11 32 3 true [18] := ⟨⟨11, rfl, ⟨(RX11, TX11, 9), "NotaryKiosk", rfl, by decide, nk_in (i := 161) (by decide +kernel) rfl, Or.inl rfl⟩, rfl⟩, trivial⟩
theorem co_X1_init : Cond.code yX1_init cX1_init 2 (none : Option FieldType) ∈ nk_T := nk_in (i := 119) (by decide +kernel) rfl
theorem my_X1_init : nk_My yX1_init cX1_init 2 (none : Option FieldType) 1 := ⟨co_X1_init, in_RX1, ⟨by decide, by decide⟩, by decide +kernel⟩
theorem im_X1_init : Cond.instanceMethod yX1_init ∈ nk_T := nk_in (i := 118) (by decide +kernel) rfl
theorem ml_RX11_36 : Cond.methodLink RX11 36 yX1_init ∈ nk_T := nk_in (i := 117) (by decide +kernel) rfl
theorem cl_RX11_30 : Cond.classLink RX11 30 "NotaryKiosk$Chain" ∈ nk_T := nk_in (i := 114) (by decide +kernel) rfl
theorem ins_RX1 : Cond.instantiable RX1 2 ∈ nk_T := nk_in (i := 116) (by decide +kernel) rfl
theorem co_X6_init : Cond.code yX6_init cX6_init 1 (none : Option FieldType) ∈ nk_T := nk_in (i := 62) (by decide +kernel) rfl
theorem my_X6_init : nk_My yX6_init cX6_init 1 (none : Option FieldType) 0 := ⟨co_X6_init, in_RX6, ⟨by decide, by decide⟩, by decide +kernel⟩
theorem im_X6_init : Cond.instanceMethod yX6_init ∈ nk_T := nk_in (i := 61) (by decide +kernel) rfl
theorem nl_RX11_9 : Cond.methodLinkNest RX11 9 yX6_init "NotaryKiosk" ∈ nk_T := nk_in (i := 60) (by decide +kernel) rfl
theorem fk_RX11_10 : nk_Fk RX11 10 0 true [18] := ⟨⟨11, rfl, ⟨(RX11, TX11, 9), "NotaryKiosk", rfl, by decide, nk_in (i := 158) (by decide +kernel) rfl, Or.inl rfl⟩, rfl⟩, trivial⟩
theorem fw_RX11_10_i : nk_Fw RX11 true 0 [18] := ⟨fun ci q e h => by
    have e2 : ci = 11 := by omega
    subst e2
    cases h
    exact ⟨Or.inr ⟨rfl, rfl, rfl⟩, Or.inr ⟨rfl, Or.inl ⟨"NotaryKiosk$Links", by decide +kernel⟩⟩⟩, trivial⟩
theorem co_X7_init : Cond.code yX7_init cX7_init 1 (none : Option FieldType) ∈ nk_T := nk_in (i := 76) (by decide +kernel) rfl
theorem my_X7_init : nk_My yX7_init cX7_init 1 (none : Option FieldType) 0 := ⟨co_X7_init, in_RX7, ⟨by decide, by decide⟩, by decide +kernel⟩
theorem im_X7_init : Cond.instanceMethod yX7_init ∈ nk_T := nk_in (i := 75) (by decide +kernel) rfl
theorem nl_RX11_18 : Cond.methodLinkNest RX11 18 yX7_init "NotaryKiosk" ∈ nk_T := nk_in (i := 74) (by decide +kernel) rfl
theorem fk_RX11_19 : nk_Fk RX11 19 1 true [18] := ⟨⟨11, rfl, ⟨(RX11, TX11, 9), "NotaryKiosk", rfl, by decide, nk_in (i := 159) (by decide +kernel) rfl, Or.inl rfl⟩, rfl⟩, trivial⟩
theorem fw_RX11_19_i : nk_Fw RX11 true 1 [18] := ⟨fun ci q e h => by
    have e2 : ci = 11 := by omega
    subst e2
    cases h
    exact ⟨Or.inr ⟨rfl, rfl, rfl⟩, Or.inr ⟨rfl, Or.inl ⟨"NotaryKiosk$News", by decide +kernel⟩⟩⟩, trivial⟩
theorem fk_RX11_26 : nk_Fk RX11 26 2 true [18] := ⟨⟨11, rfl, ⟨(RX11, TX11, 9), "NotaryKiosk", rfl, by decide, nk_in (i := 160) (by decide +kernel) rfl, Or.inl rfl⟩, rfl⟩, trivial⟩
theorem fw_RX11_26_i : nk_Fw RX11 true 2 [18] := ⟨fun ci q e h => by
    have e2 : ci = 11 := by omega
    subst e2
    cases h
    exact ⟨Or.inr ⟨rfl, rfl, rfl⟩, Or.inr ⟨rfl, Or.inl ⟨"java/util/ArrayList", by decide +kernel⟩⟩⟩, trivial⟩
theorem fw_RX11_32_i : nk_Fw RX11 true 3 [18] := ⟨fun ci q e h => by
    have e2 : ci = 11 := by omega
    subst e2
    cases h
    exact ⟨Or.inr ⟨rfl, rfl, rfl⟩, Or.inr ⟨rfl, Or.inr ⟨.object "NotaryKiosk$Chain", by decide +kernel⟩⟩⟩, trivial⟩
theorem cl_RX11_16 : Cond.classLink RX11 16 "NotaryKiosk$News" ∈ nk_T := nk_in (i := 72) (by decide +kernel) rfl
theorem ins_RX7 : Cond.instantiable RX7 2 ∈ nk_T := nk_in (i := 73) (by decide +kernel) rfl
theorem cl_RX11_7 : Cond.classLink RX11 7 "NotaryKiosk$Links" ∈ nk_T := nk_in (i := 58) (by decide +kernel) rfl
theorem ins_RX6 : Cond.instantiable RX6 2 ∈ nk_T := nk_in (i := 59) (by decide +kernel) rfl
theorem ml_RX11_1 : Cond.methodLink RX11 1 ⟨"java/lang/Object", "<init>", "()V"⟩ ∈ nk_T := nk_in (i := 55) (by decide +kernel) rfl
theorem cl_RX11_361 : Cond.classLink RX11 361 "java/lang/IndexOutOfBoundsException" ∈ nk_T := nk_in (i := 220) (by decide +kernel) rfl
theorem in_java_lang_IndexOutOfBoundsException : Cond.initialized "java/lang/IndexOutOfBoundsException" ∈ nk_T := nk_in (i := 33) (by decide +kernel) rfl
set_option maxRecDepth 20000 in
theorem ta_RX11_365 : ∀ w ∈ vx_atS RX11 365 "java/lang/IndexOutOfBoundsException" ["java/lang/RuntimeException", "java/lang/Exception"], w ∈ nk_T := by decide +kernel
theorem tg_RX11_361_365 : (Cond.classLink RX11 361 "java/lang/IndexOutOfBoundsException" :: Cond.initialized "java/lang/IndexOutOfBoundsException" :: vx_atS RX11 365 "java/lang/IndexOutOfBoundsException" ["java/lang/RuntimeException", "java/lang/Exception"]).all vx_ot = true := by decide +kernel
theorem co_X11_mustBeKiosk : Cond.code yX11_mustBeKiosk cX11_mustBeKiosk 1 (none : Option FieldType) ∈ nk_T := nk_in (i := 219) (by decide +kernel) rfl
theorem my_X11_mustBeKiosk : nk_My yX11_mustBeKiosk cX11_mustBeKiosk 1 (none : Option FieldType) 1 := ⟨co_X11_mustBeKiosk, in_RX11, ⟨by decide, by decide⟩, by decide +kernel⟩
theorem st_X11_mustBeKiosk : Cond.static yX11_mustBeKiosk ∈ nk_T := nk_in (i := 218) (by decide +kernel) rfl
theorem ml_RX11_99 : Cond.methodLink RX11 99 yX11_mustBeKiosk ∈ nk_T := nk_in (i := 217) (by decide +kernel) rfl
theorem cl_RX11_134 : Cond.classLink RX11 134 "java/lang/IllegalArgumentException" ∈ nk_T := nk_in (i := 288) (by decide +kernel) rfl
theorem in_java_lang_IllegalArgumentException : Cond.initialized "java/lang/IllegalArgumentException" ∈ nk_T := nk_in (i := 34) (by decide +kernel) rfl
set_option maxRecDepth 20000 in
theorem ta_RX11_138 : ∀ w ∈ vx_atS RX11 138 "java/lang/IllegalArgumentException" ["java/lang/RuntimeException", "java/lang/Exception"], w ∈ nk_T := by decide +kernel
theorem tg_RX11_134_138 : (Cond.classLink RX11 134 "java/lang/IllegalArgumentException" :: Cond.initialized "java/lang/IllegalArgumentException" :: vx_atS RX11 138 "java/lang/IllegalArgumentException" ["java/lang/RuntimeException", "java/lang/Exception"]).all vx_ot = true := by decide +kernel
theorem co_X11_mustBeTwoKiosks : Cond.code yX11_mustBeTwoKiosks cX11_mustBeTwoKiosks 2 (none : Option FieldType) ∈ nk_T := nk_in (i := 216) (by decide +kernel) rfl
theorem my_X11_mustBeTwoKiosks : nk_My yX11_mustBeTwoKiosks cX11_mustBeTwoKiosks 2 (none : Option FieldType) 2 := ⟨co_X11_mustBeTwoKiosks, in_RX11, ⟨by decide, by decide⟩, by decide +kernel⟩
theorem st_X11_mustBeTwoKiosks : Cond.static yX11_mustBeTwoKiosks ∈ nk_T := nk_in (i := 215) (by decide +kernel) rfl
theorem ml_RX11_62 : Cond.methodLink RX11 62 yX11_mustBeTwoKiosks ∈ nk_T := nk_in (i := 214) (by decide +kernel) rfl
theorem ml_RX11_80 : Cond.methodLink RX11 80 yX6_degree ∈ nk_T := nk_in (i := 335) (by decide +kernel) rfl
theorem co_X6_degree : Cond.code yX6_degree cX6_degree 2 (some FieldType.int) ∈ nk_T := nk_in (i := 338) (by decide +kernel) rfl
theorem my_X6_degree : nk_My yX6_degree cX6_degree 2 (some FieldType.int) 1 := ⟨co_X6_degree, in_RX6, ⟨by decide, by decide⟩, by decide +kernel⟩
theorem im_X6_degree : Cond.instanceMethod yX6_degree ∈ nk_T := nk_in (i := 336) (by decide +kernel) rfl
theorem se_RX6_X6_degree : Cond.selects RX6 yX6_degree yX6_degree ∈ nk_T := nk_in (i := 337) (by decide +kernel) rfl
theorem ml_RX11_77 : Cond.methodLink RX11 77 yX6_turn ∈ nk_T := nk_in (i := 330) (by decide +kernel) rfl
theorem co_X6_turn : Cond.code yX6_turn cX6_turn 3 (none : Option FieldType) ∈ nk_T := nk_in (i := 333) (by decide +kernel) rfl
theorem my_X6_turn : nk_My yX6_turn cX6_turn 3 (none : Option FieldType) 2 := ⟨co_X6_turn, in_RX6, ⟨by decide, by decide⟩, by decide +kernel⟩
theorem im_X6_turn : Cond.instanceMethod yX6_turn ∈ nk_T := nk_in (i := 331) (by decide +kernel) rfl
theorem se_RX6_X6_turn : Cond.selects RX6 yX6_turn yX6_turn ∈ nk_T := nk_in (i := 332) (by decide +kernel) rfl
theorem cl_RX11_70 : Cond.classLink RX11 70 "java/lang/IllegalStateException" ∈ nk_T := nk_in (i := 314) (by decide +kernel) rfl
theorem in_java_lang_IllegalStateException : Cond.initialized "java/lang/IllegalStateException" ∈ nk_T := nk_in (i := 35) (by decide +kernel) rfl
set_option maxRecDepth 20000 in
theorem ta_RX11_74 : ∀ w ∈ vx_atS RX11 74 "java/lang/IllegalStateException" ["java/lang/RuntimeException", "java/lang/Exception"], w ∈ nk_T := by decide +kernel
theorem tg_RX11_70_74 : (Cond.classLink RX11 70 "java/lang/IllegalStateException" :: Cond.initialized "java/lang/IllegalStateException" :: vx_atS RX11 74 "java/lang/IllegalStateException" ["java/lang/RuntimeException", "java/lang/Exception"]).all vx_ot = true := by decide +kernel
theorem ml_RX11_66 : Cond.methodLink RX11 66 yX6_areLinked ∈ nk_T := nk_in (i := 304) (by decide +kernel) rfl
theorem co_X6_areLinked : Cond.code yX6_areLinked cX6_areLinked 3 (some FieldType.boolean) ∈ nk_T := nk_in (i := 307) (by decide +kernel) rfl
theorem my_X6_areLinked : nk_My yX6_areLinked cX6_areLinked 3 (some FieldType.boolean) 2 := ⟨co_X6_areLinked, in_RX6, ⟨by decide, by decide⟩, by decide +kernel⟩
theorem im_X6_areLinked : Cond.instanceMethod yX6_areLinked ∈ nk_T := nk_in (i := 305) (by decide +kernel) rfl
theorem se_RX6_X6_areLinked : Cond.selects RX6 yX6_areLinked yX6_areLinked ∈ nk_T := nk_in (i := 306) (by decide +kernel) rfl
theorem fw_RX11_42_n : nk_Fw RX11 false 5 [18] := ⟨fun ci q e h => by
    have e2 : ci = 11 := by omega
    subst e2
    cases h
    exact ⟨Or.inl rfl, Or.inl ⟨by decide +kernel, rfl⟩⟩, trivial⟩
theorem ml_RX11_95 : Cond.methodLink RX11 95 yX7_spread ∈ nk_T := nk_in (i := 366) (by decide +kernel) rfl
theorem co_X7_spread : Cond.code yX7_spread cX7_spread 8 (some FieldType.int) ∈ nk_T := nk_in (i := 369) (by decide +kernel) rfl
theorem my_X7_spread : nk_My yX7_spread cX7_spread 8 (some FieldType.int) 2 := ⟨co_X7_spread, in_RX7, ⟨by decide, by decide⟩, by decide +kernel⟩
theorem im_X7_spread : Cond.instanceMethod yX7_spread ∈ nk_T := nk_in (i := 367) (by decide +kernel) rfl
theorem se_RX7_X7_spread : Cond.selects RX7 yX7_spread yX7_spread ∈ nk_T := nk_in (i := 368) (by decide +kernel) rfl
theorem ml_RX11_92 : Cond.methodLink RX11 92 yX6_keep ∈ nk_T := nk_in (i := 359) (by decide +kernel) rfl
theorem co_X6_keep : Cond.code yX6_keep cX6_keep 2 (none : Option FieldType) ∈ nk_T := nk_in (i := 362) (by decide +kernel) rfl
theorem my_X6_keep : nk_My yX6_keep cX6_keep 2 (none : Option FieldType) 1 := ⟨co_X6_keep, in_RX6, ⟨by decide, by decide⟩, by decide +kernel⟩
theorem im_X6_keep : Cond.instanceMethod yX6_keep ∈ nk_T := nk_in (i := 360) (by decide +kernel) rfl
theorem se_RX6_X6_keep : Cond.selects RX6 yX6_keep yX6_keep ∈ nk_T := nk_in (i := 361) (by decide +kernel) rfl
theorem co_X11_mustBeWithin : Cond.code yX11_mustBeWithin cX11_mustBeWithin 3 (none : Option FieldType) ∈ nk_T := nk_in (i := 356) (by decide +kernel) rfl
theorem my_X11_mustBeWithin : nk_My yX11_mustBeWithin cX11_mustBeWithin 3 (none : Option FieldType) 3 := ⟨co_X11_mustBeWithin, in_RX11, ⟨by decide, by decide⟩, by decide +kernel⟩
theorem st_X11_mustBeWithin : Cond.static yX11_mustBeWithin ∈ nk_T := nk_in (i := 355) (by decide +kernel) rfl
theorem ml_RX11_86 : Cond.methodLink RX11 86 yX11_mustBeWithin ∈ nk_T := nk_in (i := 354) (by decide +kernel) rfl
theorem ml_RX11_102 : Cond.methodLink RX11 102 yX7_readMail ∈ nk_T := nk_in (i := 405) (by decide +kernel) rfl
theorem co_X7_readMail : Cond.code yX7_readMail cX7_readMail 5 (some FieldType.int) ∈ nk_T := nk_in (i := 408) (by decide +kernel) rfl
theorem my_X7_readMail : nk_My yX7_readMail cX7_readMail 5 (some FieldType.int) 1 := ⟨co_X7_readMail, in_RX7, ⟨by decide, by decide⟩, by decide +kernel⟩
theorem im_X7_readMail : Cond.instanceMethod yX7_readMail ∈ nk_T := nk_in (i := 406) (by decide +kernel) rfl
theorem se_RX7_X7_readMail : Cond.selects RX7 yX7_readMail yX7_readMail ∈ nk_T := nk_in (i := 407) (by decide +kernel) rfl
theorem fw_RX11_52_n : nk_Fw RX11 false 6 [18] := ⟨fun ci q e h => by
    have e2 : ci = 11 := by omega
    subst e2
    cases h
    exact ⟨Or.inl rfl, Or.inr ⟨rfl, Or.inl ⟨"NotaryKiosk$Draft", by decide +kernel⟩⟩⟩, trivial⟩
theorem ml_RX11_260 : Cond.methodLink RX11 260 yX7_count ∈ nk_T := nk_in (i := 444) (by decide +kernel) rfl
theorem co_X7_count : Cond.code yX7_count cX7_count 1 (some FieldType.int) ∈ nk_T := nk_in (i := 447) (by decide +kernel) rfl
theorem my_X7_count : nk_My yX7_count cX7_count 1 (some FieldType.int) 0 := ⟨co_X7_count, in_RX7, ⟨by decide, by decide⟩, by decide +kernel⟩
theorem im_X7_count : Cond.instanceMethod yX7_count ∈ nk_T := nk_in (i := 445) (by decide +kernel) rfl
theorem se_RX7_X7_count : Cond.selects RX7 yX7_count yX7_count ∈ nk_T := nk_in (i := 446) (by decide +kernel) rfl
theorem ml_RX11_151 : Cond.methodLink RX11 151 yX11_mustHaveRoomForNews ∈ nk_T := nk_in (i := 440) (by decide +kernel) rfl
theorem co_X11_mustHaveRoomForNews : Cond.code yX11_mustHaveRoomForNews cX11_mustHaveRoomForNews 1 (none : Option FieldType) ∈ nk_T := nk_in (i := 443) (by decide +kernel) rfl
theorem my_X11_mustHaveRoomForNews : nk_My yX11_mustHaveRoomForNews cX11_mustHaveRoomForNews 1 (none : Option FieldType) 0 := ⟨co_X11_mustHaveRoomForNews, in_RX11, ⟨by decide, by decide⟩, by decide +kernel⟩
theorem im_X11_mustHaveRoomForNews : Cond.instanceMethod yX11_mustHaveRoomForNews ∈ nk_T := nk_in (i := 442) (by decide +kernel) rfl
theorem se_RX11_X11_mustHaveRoomForNews : Cond.selects RX11 yX11_mustHaveRoomForNews yX11_mustHaveRoomForNews ∈ nk_T := nk_in (i := 2) (by decide +kernel) rfl
theorem ml_RX11_227 : Cond.methodLink RX11 227 yJx4a65c_size_8abf5 ∈ nk_T := nk_in (i := 200) (by decide +kernel) rfl
theorem co_X9_init : Cond.code yX9_init cX9_init 7 (none : Option FieldType) ∈ nk_T := nk_in (i := 457) (by decide +kernel) rfl
theorem my_X9_init : nk_My yX9_init cX9_init 7 (none : Option FieldType) 6 := ⟨co_X9_init, in_RX9, ⟨by decide, by decide⟩, by decide +kernel⟩
theorem im_X9_init : Cond.instanceMethod yX9_init ∈ nk_T := nk_in (i := 456) (by decide +kernel) rfl
theorem ml_RX11_339 : Cond.methodLink RX11 339 yX9_init ∈ nk_T := nk_in (i := 455) (by decide +kernel) rfl
theorem fk_RX11_300 : nk_Fk RX11 300 6 false [16] := ⟨⟨9, rfl, ⟨(RX9, TX9, 15), "NotaryKiosk$Power", rfl, by decide, nk_in (i := 467) (by decide +kernel) rfl, Or.inl rfl⟩, rfl⟩, trivial⟩
theorem ml_RX11_171 : Cond.methodLink RX11 171 yX7_publish ∈ nk_T := nk_in (i := 592) (by decide +kernel) rfl
theorem co_X7_publish : Cond.code yX7_publish cX7_publish 4 (some FieldType.int) ∈ nk_T := nk_in (i := 595) (by decide +kernel) rfl
theorem my_X7_publish : nk_My yX7_publish cX7_publish 4 (some FieldType.int) 3 := ⟨co_X7_publish, in_RX7, ⟨by decide, by decide⟩, by decide +kernel⟩
theorem im_X7_publish : Cond.instanceMethod yX7_publish ∈ nk_T := nk_in (i := 593) (by decide +kernel) rfl
theorem se_RX7_X7_publish : Cond.selects RX7 yX7_publish yX7_publish ∈ nk_T := nk_in (i := 594) (by decide +kernel) rfl
theorem ml_RX11_242 : Cond.methodLink RX11 242 yJx4a65c_add_9ea2d ∈ nk_T := nk_in (i := 532) (by decide +kernel) rfl
theorem cl_RX11_125 : Cond.classLink RX11 125 "NotaryKiosk$Power" ∈ nk_T := nk_in (i := 453) (by decide +kernel) rfl
theorem ins_RX9 : Cond.instantiable RX9 15 ∈ nk_T := nk_in (i := 454) (by decide +kernel) rfl
theorem co_X11_mustBePerson : Cond.code yX11_mustBePerson cX11_mustBePerson 1 (none : Option FieldType) ∈ nk_T := nk_in (i := 429) (by decide +kernel) rfl
theorem my_X11_mustBePerson : nk_My yX11_mustBePerson cX11_mustBePerson 1 (none : Option FieldType) 1 := ⟨co_X11_mustBePerson, in_RX11, ⟨by decide, by decide⟩, by decide +kernel⟩
theorem st_X11_mustBePerson : Cond.static yX11_mustBePerson ∈ nk_T := nk_in (i := 428) (by decide +kernel) rfl
theorem ml_RX11_105 : Cond.methodLink RX11 105 yX11_mustBePerson ∈ nk_T := nk_in (i := 427) (by decide +kernel) rfl
theorem co_X11_mustBeOtherPerson : Cond.code yX11_mustBeOtherPerson cX11_mustBeOtherPerson 2 (none : Option FieldType) ∈ nk_T := nk_in (i := 433) (by decide +kernel) rfl
theorem my_X11_mustBeOtherPerson : nk_My yX11_mustBeOtherPerson cX11_mustBeOtherPerson 2 (none : Option FieldType) 2 := ⟨co_X11_mustBeOtherPerson, in_RX11, ⟨by decide, by decide⟩, by decide +kernel⟩
theorem st_X11_mustBeOtherPerson : Cond.static yX11_mustBeOtherPerson ∈ nk_T := nk_in (i := 432) (by decide +kernel) rfl
theorem ml_RX11_108 : Cond.methodLink RX11 108 yX11_mustBeOtherPerson ∈ nk_T := nk_in (i := 431) (by decide +kernel) rfl
theorem ml_RX11_114 : Cond.methodLink RX11 114 yX11_makePower ∈ nk_T := nk_in (i := 449) (by decide +kernel) rfl
theorem co_X11_makePower : Cond.code yX11_makePower cX11_makePower 6 (some FieldType.int) ∈ nk_T := nk_in (i := 452) (by decide +kernel) rfl
theorem my_X11_makePower : nk_My yX11_makePower cX11_makePower 6 (some FieldType.int) 4 := ⟨co_X11_makePower, in_RX11, ⟨by decide, by decide⟩, by decide +kernel⟩
theorem im_X11_makePower : Cond.instanceMethod yX11_makePower ∈ nk_T := nk_in (i := 451) (by decide +kernel) rfl
theorem se_RX11_X11_makePower : Cond.selects RX11 yX11_makePower yX11_makePower ∈ nk_T := nk_in (i := 3) (by decide +kernel) rfl
theorem ml_RX11_111 : Cond.methodLink RX11 111 yX11_mustHaveRoomForPower ∈ nk_T := nk_in (i := 435) (by decide +kernel) rfl
theorem co_X11_mustHaveRoomForPower : Cond.code yX11_mustHaveRoomForPower cX11_mustHaveRoomForPower 1 (none : Option FieldType) ∈ nk_T := nk_in (i := 438) (by decide +kernel) rfl
theorem my_X11_mustHaveRoomForPower : nk_My yX11_mustHaveRoomForPower cX11_mustHaveRoomForPower 1 (none : Option FieldType) 0 := ⟨co_X11_mustHaveRoomForPower, in_RX11, ⟨by decide, by decide⟩, by decide +kernel⟩
theorem im_X11_mustHaveRoomForPower : Cond.instanceMethod yX11_mustHaveRoomForPower ∈ nk_T := nk_in (i := 437) (by decide +kernel) rfl
theorem se_RX11_X11_mustHaveRoomForPower : Cond.selects RX11 yX11_mustHaveRoomForPower yX11_mustHaveRoomForPower ∈ nk_T := nk_in (i := 1) (by decide +kernel) rfl
theorem ml_RX11_347 : Cond.methodLink RX11 347 yX9_isOver ∈ nk_T := nk_in (i := 646) (by decide +kernel) rfl
theorem ml_RX11_161 : Cond.methodLink RX11 161 yX7_revokes ∈ nk_T := nk_in (i := 628) (by decide +kernel) rfl
theorem ml_RX11_157 : Cond.methodLink RX11 157 yX7_knows ∈ nk_T := nk_in (i := 620) (by decide +kernel) rfl
theorem ml_RX11_154 : Cond.methodLink RX11 154 yX7_lookAtRead ∈ nk_T := nk_in (i := 616) (by decide +kernel) rfl
theorem co_X7_lookAtRead : Cond.code yX7_lookAtRead cX7_lookAtRead 3 (none : Option FieldType) ∈ nk_T := nk_in (i := 619) (by decide +kernel) rfl
theorem my_X7_lookAtRead : nk_My yX7_lookAtRead cX7_lookAtRead 3 (none : Option FieldType) 1 := ⟨co_X7_lookAtRead, in_RX7, ⟨by decide, by decide⟩, by decide +kernel⟩
theorem im_X7_lookAtRead : Cond.instanceMethod yX7_lookAtRead ∈ nk_T := nk_in (i := 617) (by decide +kernel) rfl
theorem se_RX7_X7_lookAtRead : Cond.selects RX7 yX7_lookAtRead yX7_lookAtRead ∈ nk_T := nk_in (i := 618) (by decide +kernel) rfl
theorem ca_Power : nk_Ca "NotaryKiosk$Power" [16] := ⟨⟨9, (RX9, TX9, 15), rfl, rfl, Or.inl rfl⟩, trivial⟩
theorem fk_RX11_127 : nk_Fk RX11 127 9 false [16] := ⟨⟨9, rfl, ⟨(RX9, TX9, 15), "NotaryKiosk$Power", rfl, by decide, nk_in (i := 473) (by decide +kernel) rfl, Or.inl rfl⟩, rfl⟩, trivial⟩
theorem ml_RX11_139 : Cond.methodLink RX11 139 yX11_isGoodAt ∈ nk_T := nk_in (i := 612) (by decide +kernel) rfl
theorem co_X11_isGoodAt : Cond.code yX11_isGoodAt cX11_isGoodAt 3 (some FieldType.boolean) ∈ nk_T := nk_in (i := 615) (by decide +kernel) rfl
theorem my_X11_isGoodAt : nk_My yX11_isGoodAt cX11_isGoodAt 3 (some FieldType.boolean) 2 := ⟨co_X11_isGoodAt, in_RX11, ⟨by decide, by decide⟩, by decide +kernel⟩
theorem im_X11_isGoodAt : Cond.instanceMethod yX11_isGoodAt ∈ nk_T := nk_in (i := 614) (by decide +kernel) rfl
theorem se_RX11_X11_isGoodAt : Cond.selects RX11 yX11_isGoodAt yX11_isGoodAt ∈ nk_T := nk_in (i := 8) (by decide +kernel) rfl
theorem ml_RX11_130 : Cond.methodLink RX11 130 yX9_covers ∈ nk_T := nk_in (i := 607) (by decide +kernel) rfl
theorem co_X9_covers : Cond.code yX9_covers cX9_covers 3 (some FieldType.boolean) ∈ nk_T := nk_in (i := 610) (by decide +kernel) rfl
theorem my_X9_covers : nk_My yX9_covers cX9_covers 3 (some FieldType.boolean) 2 := ⟨co_X9_covers, in_RX9, ⟨by decide, by decide⟩, by decide +kernel⟩
theorem im_X9_covers : Cond.instanceMethod yX9_covers ∈ nk_T := nk_in (i := 608) (by decide +kernel) rfl
theorem se_RX9_X9_covers : Cond.selects RX9 yX9_covers yX9_covers ∈ nk_T := nk_in (i := 609) (by decide +kernel) rfl
theorem ml_RX11_121 : Cond.methodLink RX11 121 yJx4a65c_get_915e3 ∈ nk_T := nk_in (i := 606) (by decide +kernel) rfl
theorem ml_RX11_118 : Cond.methodLink RX11 118 yX11_mustBePower ∈ nk_T := nk_in (i := 601) (by decide +kernel) rfl
theorem co_X11_mustBePower : Cond.code yX11_mustBePower cX11_mustBePower 2 (none : Option FieldType) ∈ nk_T := nk_in (i := 604) (by decide +kernel) rfl
theorem my_X11_mustBePower : nk_My yX11_mustBePower cX11_mustBePower 2 (none : Option FieldType) 1 := ⟨co_X11_mustBePower, in_RX11, ⟨by decide, by decide⟩, by decide +kernel⟩
theorem im_X11_mustBePower : Cond.instanceMethod yX11_mustBePower ∈ nk_T := nk_in (i := 603) (by decide +kernel) rfl
theorem se_RX11_X11_mustBePower : Cond.selects RX11 yX11_mustBePower yX11_mustBePower ∈ nk_T := nk_in (i := 7) (by decide +kernel) rfl
theorem co_X10_init : Cond.code yX10_init cX10_init 2 (none : Option FieldType) ∈ nk_T := nk_in (i := 665) (by decide +kernel) rfl
theorem my_X10_init : nk_My yX10_init cX10_init 2 (none : Option FieldType) 1 := ⟨co_X10_init, in_RX10, ⟨by decide, by decide⟩, by decide +kernel⟩
theorem im_X10_init : Cond.instanceMethod yX10_init ∈ nk_T := nk_in (i := 664) (by decide +kernel) rfl
theorem ml_RX11_168 : Cond.methodLink RX11 168 yX10_init ∈ nk_T := nk_in (i := 663) (by decide +kernel) rfl
theorem cl_RX11_166 : Cond.classLink RX11 166 "NotaryKiosk$Revocation" ∈ nk_T := nk_in (i := 661) (by decide +kernel) rfl
theorem ins_RX10 : Cond.instantiable RX10 7 ∈ nk_T := nk_in (i := 662) (by decide +kernel) rfl
theorem ml_RX11_145 : Cond.methodLink RX11 145 yX9_hasGiver ∈ nk_T := nk_in (i := 655) (by decide +kernel) rfl
theorem co_X9_hasGiver : Cond.code yX9_hasGiver cX9_hasGiver 3 (some FieldType.boolean) ∈ nk_T := nk_in (i := 658) (by decide +kernel) rfl
theorem my_X9_hasGiver : nk_My yX9_hasGiver cX9_hasGiver 3 (some FieldType.boolean) 1 := ⟨co_X9_hasGiver, in_RX9, ⟨by decide, by decide⟩, by decide +kernel⟩
theorem im_X9_hasGiver : Cond.instanceMethod yX9_hasGiver ∈ nk_T := nk_in (i := 656) (by decide +kernel) rfl
theorem se_RX9_X9_hasGiver : Cond.selects RX9 yX9_hasGiver yX9_hasGiver ∈ nk_T := nk_in (i := 657) (by decide +kernel) rfl
theorem co_X4_init : Cond.code yX4_init cX4_init 4 (none : Option FieldType) ∈ nk_T := nk_in (i := 704) (by decide +kernel) rfl
theorem my_X4_init : nk_My yX4_init cX4_init 4 (none : Option FieldType) 3 := ⟨co_X4_init, in_RX4, ⟨by decide, by decide⟩, by decide +kernel⟩
theorem im_X4_init : Cond.instanceMethod yX4_init ∈ nk_T := nk_in (i := 703) (by decide +kernel) rfl
theorem ml_RX11_186 : Cond.methodLink RX11 186 yX4_init ∈ nk_T := nk_in (i := 702) (by decide +kernel) rfl
theorem cl_RX11_184 : Cond.classLink RX11 184 "NotaryKiosk$Deputation" ∈ nk_T := nk_in (i := 700) (by decide +kernel) rfl
theorem ins_RX4 : Cond.instantiable RX4 9 ∈ nk_T := nk_in (i := 701) (by decide +kernel) rfl
theorem ml_RX11_178 : Cond.methodLink RX11 178 yX7_deputes ∈ nk_T := nk_in (i := 685) (by decide +kernel) rfl
theorem ml_RX11_175 : Cond.methodLink RX11 175 yX7_lookAtAll ∈ nk_T := nk_in (i := 681) (by decide +kernel) rfl
theorem co_X7_lookAtAll : Cond.code yX7_lookAtAll cX7_lookAtAll 2 (none : Option FieldType) ∈ nk_T := nk_in (i := 684) (by decide +kernel) rfl
theorem my_X7_lookAtAll : nk_My yX7_lookAtAll cX7_lookAtAll 2 (none : Option FieldType) 0 := ⟨co_X7_lookAtAll, in_RX7, ⟨by decide, by decide⟩, by decide +kernel⟩
theorem im_X7_lookAtAll : Cond.instanceMethod yX7_lookAtAll ∈ nk_T := nk_in (i := 682) (by decide +kernel) rfl
theorem se_RX7_X7_lookAtAll : Cond.selects RX7 yX7_lookAtAll yX7_lookAtAll ∈ nk_T := nk_in (i := 683) (by decide +kernel) rfl
theorem fw_RX11_56_n : nk_Fw RX11 false 7 [18] := ⟨fun ci q e h => by
    have e2 : ci = 11 := by omega
    subst e2
    cases h
    exact ⟨Or.inl rfl, Or.inl ⟨by decide +kernel, rfl⟩⟩, trivial⟩
theorem fw_RX11_59_n : nk_Fw RX11 false 8 [18] := ⟨fun ci q e h => by
    have e2 : ci = 11 := by omega
    subst e2
    cases h
    exact ⟨Or.inl rfl, Or.inl ⟨by decide +kernel, rfl⟩⟩, trivial⟩
theorem co_X3_init : Cond.code yX3_init cX3_init 7 (none : Option FieldType) ∈ nk_T := nk_in (i := 734) (by decide +kernel) rfl
theorem in_RX3 : Cond.initialized RX3 ∈ nk_T := nk_in (i := 47) (by decide +kernel) rfl
theorem my_X3_init : nk_My yX3_init cX3_init 7 (none : Option FieldType) 6 := ⟨co_X3_init, in_RX3, ⟨by decide, by decide⟩, by decide +kernel⟩
theorem im_X3_init : Cond.instanceMethod yX3_init ∈ nk_T := nk_in (i := 733) (by decide +kernel) rfl
theorem ml_RX11_344 : Cond.methodLink RX11 344 yX3_init ∈ nk_T := nk_in (i := 732) (by decide +kernel) rfl
theorem cl_RX11_342 : Cond.classLink RX11 342 "NotaryKiosk$Deed" ∈ nk_T := nk_in (i := 730) (by decide +kernel) rfl
theorem ins_RX3 : Cond.instantiable RX3 6 ∈ nk_T := nk_in (i := 731) (by decide +kernel) rfl
theorem fk_RX11_354 : nk_Fk RX11 354 6 true [8] := ⟨⟨1, rfl, ⟨(RX0, TX0, 11), "NotaryKiosk$Act", rfl, by decide, nk_in (i := 812) (by decide +kernel) rfl, Or.inl rfl⟩, rfl⟩, trivial⟩
theorem fk_RX11_357 : nk_Fk RX11 357 7 true [8] := ⟨⟨1, rfl, ⟨(RX0, TX0, 11), "NotaryKiosk$Act", rfl, by decide, nk_in (i := 814) (by decide +kernel) rfl, Or.inl rfl⟩, rfl⟩, trivial⟩
theorem ml_RX11_192 : Cond.methodLink RX11 192 yX7_reasonAgainst ∈ nk_T := nk_in (i := 766) (by decide +kernel) rfl
theorem co_X7_reasonAgainst : Cond.code yX7_reasonAgainst cX7_reasonAgainst 3 (some FieldType.int) ∈ nk_T := nk_in (i := 769) (by decide +kernel) rfl
theorem my_X7_reasonAgainst : nk_My yX7_reasonAgainst cX7_reasonAgainst 3 (some FieldType.int) 2 := ⟨co_X7_reasonAgainst, in_RX7, ⟨by decide, by decide⟩, by decide +kernel⟩
theorem im_X7_reasonAgainst : Cond.instanceMethod yX7_reasonAgainst ∈ nk_T := nk_in (i := 767) (by decide +kernel) rfl
theorem se_RX7_X7_reasonAgainst : Cond.selects RX7 yX7_reasonAgainst yX7_reasonAgainst ∈ nk_T := nk_in (i := 768) (by decide +kernel) rfl
theorem ml_RX11_350 : Cond.methodLink RX11 350 yX7_lookAtReadable ∈ nk_T := nk_in (i := 845) (by decide +kernel) rfl
theorem co_X7_lookAtReadable : Cond.code yX7_lookAtReadable cX7_lookAtReadable 3 (none : Option FieldType) ∈ nk_T := nk_in (i := 848) (by decide +kernel) rfl
theorem my_X7_lookAtReadable : nk_My yX7_lookAtReadable cX7_lookAtReadable 3 (none : Option FieldType) 1 := ⟨co_X7_lookAtReadable, in_RX7, ⟨by decide, by decide⟩, by decide +kernel⟩
theorem im_X7_lookAtReadable : Cond.instanceMethod yX7_lookAtReadable ∈ nk_T := nk_in (i := 846) (by decide +kernel) rfl
theorem se_RX7_X7_lookAtReadable : Cond.selects RX7 yX7_lookAtReadable yX7_lookAtReadable ∈ nk_T := nk_in (i := 847) (by decide +kernel) rfl
theorem fk_RX11_207 : nk_Fk RX11 207 10 false [8] := ⟨⟨1, rfl, ⟨(RX0, TX0, 11), "NotaryKiosk$Act", rfl, by decide, nk_in (i := 823) (by decide +kernel) rfl, Or.inl rfl⟩, rfl⟩, trivial⟩
theorem fz_RX11_207_n : nk_Fz RX11 false 10 [8] := ⟨fun ci q e h => by
    have e2 : ci = 1 := by omega
    subst e2
    cases h
    exact ⟨Or.inl rfl, by decide +kernel, rfl⟩, trivial⟩
theorem ml_RX11_211 : Cond.methodLink RX11 211 yX1_enter ∈ nk_T := nk_in (i := 857) (by decide +kernel) rfl
theorem co_X1_enter : Cond.code yX1_enter cX1_enter 3 (some FieldType.int) ∈ nk_T := nk_in (i := 860) (by decide +kernel) rfl
theorem my_X1_enter : nk_My yX1_enter cX1_enter 3 (some FieldType.int) 1 := ⟨co_X1_enter, in_RX1, ⟨by decide, by decide⟩, by decide +kernel⟩
theorem im_X1_enter : Cond.instanceMethod yX1_enter ∈ nk_T := nk_in (i := 858) (by decide +kernel) rfl
theorem se_RX1_X1_enter : Cond.selects RX1 yX1_enter yX1_enter ∈ nk_T := nk_in (i := 859) (by decide +kernel) rfl
theorem co_X0_init : Cond.code yX0_init cX0_init 3 (none : Option FieldType) ∈ nk_T := nk_in (i := 809) (by decide +kernel) rfl
theorem my_X0_init : nk_My yX0_init cX0_init 3 (none : Option FieldType) 2 := ⟨co_X0_init, in_RX0, ⟨by decide, by decide⟩, by decide +kernel⟩
theorem im_X0_init : Cond.instanceMethod yX0_init ∈ nk_T := nk_in (i := 808) (by decide +kernel) rfl
theorem ml_RX11_200 : Cond.methodLink RX11 200 yX0_init ∈ nk_T := nk_in (i := 807) (by decide +kernel) rfl
theorem ml_RX11_203 : Cond.methodLink RX11 203 yX11_reasonByMail ∈ nk_T := nk_in (i := 841) (by decide +kernel) rfl
theorem co_X11_reasonByMail : Cond.code yX11_reasonByMail cX11_reasonByMail 2 (some FieldType.int) ∈ nk_T := nk_in (i := 844) (by decide +kernel) rfl
theorem my_X11_reasonByMail : nk_My yX11_reasonByMail cX11_reasonByMail 2 (some FieldType.int) 1 := ⟨co_X11_reasonByMail, in_RX11, ⟨by decide, by decide⟩, by decide +kernel⟩
theorem im_X11_reasonByMail : Cond.instanceMethod yX11_reasonByMail ∈ nk_T := nk_in (i := 843) (by decide +kernel) rfl
theorem se_RX11_X11_reasonByMail : Cond.selects RX11 yX11_reasonByMail yX11_reasonByMail ∈ nk_T := nk_in (i := 14) (by decide +kernel) rfl
theorem cl_RX11_198 : Cond.classLink RX11 198 "NotaryKiosk$Act" ∈ nk_T := nk_in (i := 805) (by decide +kernel) rfl
theorem ins_RX0 : Cond.instantiable RX0 11 ∈ nk_T := nk_in (i := 806) (by decide +kernel) rfl
theorem ml_RX11_188 : Cond.methodLink RX11 188 yX11_deedNow ∈ nk_T := nk_in (i := 726) (by decide +kernel) rfl
theorem co_X11_deedNow : Cond.code yX11_deedNow cX11_deedNow 4 (some (FieldType.object "NotaryKiosk$Deed")) ∈ nk_T := nk_in (i := 729) (by decide +kernel) rfl
theorem my_X11_deedNow : nk_My yX11_deedNow cX11_deedNow 4 (some (FieldType.object "NotaryKiosk$Deed")) 3 := ⟨co_X11_deedNow, in_RX11, ⟨by decide, by decide⟩, by decide +kernel⟩
theorem im_X11_deedNow : Cond.instanceMethod yX11_deedNow ∈ nk_T := nk_in (i := 728) (by decide +kernel) rfl
theorem se_RX11_X11_deedNow : Cond.selects RX11 yX11_deedNow yX11_deedNow ∈ nk_T := nk_in (i := 11) (by decide +kernel) rfl
theorem ml_RX11_263 : Cond.methodLink RX11 263 yX1_count ∈ nk_T := nk_in (i := 895) (by decide +kernel) rfl
theorem co_X1_count : Cond.code yX1_count cX1_count 1 (some FieldType.int) ∈ nk_T := nk_in (i := 898) (by decide +kernel) rfl
theorem my_X1_count : nk_My yX1_count cX1_count 1 (some FieldType.int) 0 := ⟨co_X1_count, in_RX1, ⟨by decide, by decide⟩, by decide +kernel⟩
theorem im_X1_count : Cond.instanceMethod yX1_count ∈ nk_T := nk_in (i := 896) (by decide +kernel) rfl
theorem se_RX1_X1_count : Cond.selects RX1 yX1_count yX1_count ∈ nk_T := nk_in (i := 897) (by decide +kernel) rfl
theorem fk_RX11_221 : nk_Fk RX11 221 8 true [8] := ⟨⟨1, rfl, ⟨(RX0, TX0, 11), "NotaryKiosk$Act", rfl, by decide, nk_in (i := 818) (by decide +kernel) rfl, Or.inl rfl⟩, rfl⟩, trivial⟩
theorem ml_RX11_217 : Cond.methodLink RX11 217 yX1_actOf ∈ nk_T := nk_in (i := 900) (by decide +kernel) rfl
theorem ml_RX11_214 : Cond.methodLink RX11 214 yX11_mustBeRecord ∈ nk_T := nk_in (i := 891) (by decide +kernel) rfl
theorem co_X11_mustBeRecord : Cond.code yX11_mustBeRecord cX11_mustBeRecord 3 (none : Option FieldType) ∈ nk_T := nk_in (i := 894) (by decide +kernel) rfl
theorem my_X11_mustBeRecord : nk_My yX11_mustBeRecord cX11_mustBeRecord 3 (none : Option FieldType) 2 := ⟨co_X11_mustBeRecord, in_RX11, ⟨by decide, by decide⟩, by decide +kernel⟩
theorem im_X11_mustBeRecord : Cond.instanceMethod yX11_mustBeRecord ∈ nk_T := nk_in (i := 893) (by decide +kernel) rfl
theorem se_RX11_X11_mustBeRecord : Cond.selects RX11 yX11_mustBeRecord yX11_mustBeRecord ∈ nk_T := nk_in (i := 16) (by decide +kernel) rfl
theorem co_X2_init : Cond.code yX2_init cX2_init 5 (none : Option FieldType) ∈ nk_T := nk_in (i := 914) (by decide +kernel) rfl
theorem my_X2_init : nk_My yX2_init cX2_init 5 (none : Option FieldType) 4 := ⟨co_X2_init, in_RX2, ⟨by decide, by decide⟩, by decide +kernel⟩
theorem im_X2_init : Cond.instanceMethod yX2_init ∈ nk_T := nk_in (i := 913) (by decide +kernel) rfl
theorem ml_RX11_235 : Cond.methodLink RX11 235 yX2_init ∈ nk_T := nk_in (i := 912) (by decide +kernel) rfl
theorem ml_RX11_238 : Cond.methodLink RX11 238 yX2_takeFrom ∈ nk_T := nk_in (i := 943) (by decide +kernel) rfl
theorem co_X2_takeFrom : Cond.code yX2_takeFrom cX2_takeFrom 5 (none : Option FieldType) ∈ nk_T := nk_in (i := 946) (by decide +kernel) rfl
theorem my_X2_takeFrom : nk_My yX2_takeFrom cX2_takeFrom 5 (none : Option FieldType) 1 := ⟨co_X2_takeFrom, in_RX2, ⟨by decide, by decide⟩, by decide +kernel⟩
theorem im_X2_takeFrom : Cond.instanceMethod yX2_takeFrom ∈ nk_T := nk_in (i := 944) (by decide +kernel) rfl
theorem se_RX2_X2_takeFrom : Cond.selects RX2 yX2_takeFrom yX2_takeFrom ∈ nk_T := nk_in (i := 945) (by decide +kernel) rfl
theorem cl_RX11_233 : Cond.classLink RX11 233 "NotaryKiosk$Copy" ∈ nk_T := nk_in (i := 910) (by decide +kernel) rfl
theorem ins_RX2 : Cond.instantiable RX2 7 ∈ nk_T := nk_in (i := 911) (by decide +kernel) rfl
theorem ca_Copy : nk_Ca "NotaryKiosk$Copy" [10] := ⟨⟨3, (RX2, TX2, 7), rfl, rfl, Or.inl rfl⟩, trivial⟩
theorem fk_RX11_330 : nk_Fk RX11 330 2 false [10] := ⟨⟨3, rfl, ⟨(RX2, TX2, 7), "NotaryKiosk$Copy", rfl, by decide, nk_in (i := 922) (by decide +kernel) rfl, Or.inl rfl⟩, rfl⟩, trivial⟩
theorem ml_RX11_327 : Cond.methodLink RX11 327 yX11_mustBeCopy ∈ nk_T := nk_in (i := 963) (by decide +kernel) rfl
theorem co_X11_mustBeCopy : Cond.code yX11_mustBeCopy cX11_mustBeCopy 2 (none : Option FieldType) ∈ nk_T := nk_in (i := 966) (by decide +kernel) rfl
theorem my_X11_mustBeCopy : nk_My yX11_mustBeCopy cX11_mustBeCopy 2 (none : Option FieldType) 1 := ⟨co_X11_mustBeCopy, in_RX11, ⟨by decide, by decide⟩, by decide +kernel⟩
theorem im_X11_mustBeCopy : Cond.instanceMethod yX11_mustBeCopy ∈ nk_T := nk_in (i := 965) (by decide +kernel) rfl
theorem se_RX11_X11_mustBeCopy : Cond.selects RX11 yX11_mustBeCopy yX11_mustBeCopy ∈ nk_T := nk_in (i := 18) (by decide +kernel) rfl
theorem co_X11_mustBePart : Cond.code yX11_mustBePart cX11_mustBePart 1 (none : Option FieldType) ∈ nk_T := nk_in (i := 971) (by decide +kernel) rfl
theorem my_X11_mustBePart : nk_My yX11_mustBePart cX11_mustBePart 1 (none : Option FieldType) 1 := ⟨co_X11_mustBePart, in_RX11, ⟨by decide, by decide⟩, by decide +kernel⟩
theorem st_X11_mustBePart : Cond.static yX11_mustBePart ∈ nk_T := nk_in (i := 970) (by decide +kernel) rfl
theorem ml_RX11_249 : Cond.methodLink RX11 249 yX11_mustBePart ∈ nk_T := nk_in (i := 969) (by decide +kernel) rfl
theorem fk_RX11_257 : nk_Fk RX11 257 4 true [10] := ⟨⟨3, rfl, ⟨(RX2, TX2, 7), "NotaryKiosk$Copy", rfl, by decide, nk_in (i := 925) (by decide +kernel) rfl, Or.inl rfl⟩, rfl⟩, trivial⟩
theorem ml_RX11_252 : Cond.methodLink RX11 252 yX2_leavesOut ∈ nk_T := nk_in (i := 973) (by decide +kernel) rfl
theorem ml_RX11_246 : Cond.methodLink RX11 246 yX11_mustBePlace ∈ nk_T := nk_in (i := 959) (by decide +kernel) rfl
theorem co_X11_mustBePlace : Cond.code yX11_mustBePlace cX11_mustBePlace 3 (none : Option FieldType) ∈ nk_T := nk_in (i := 962) (by decide +kernel) rfl
theorem my_X11_mustBePlace : nk_My yX11_mustBePlace cX11_mustBePlace 3 (none : Option FieldType) 2 := ⟨co_X11_mustBePlace, in_RX11, ⟨by decide, by decide⟩, by decide +kernel⟩
theorem im_X11_mustBePlace : Cond.instanceMethod yX11_mustBePlace ∈ nk_T := nk_in (i := 961) (by decide +kernel) rfl
theorem se_RX11_X11_mustBePlace : Cond.selects RX11 yX11_mustBePlace yX11_mustBePlace ∈ nk_T := nk_in (i := 17) (by decide +kernel) rfl
theorem fk_RX11_271 : nk_Fk RX11 271 5 true [8, 12, 16, 17] := ⟨⟨1, rfl, ⟨(RX0, TX0, 11), "NotaryKiosk$Piece", rfl, by decide, nk_in (i := 500) (by decide +kernel) rfl, Or.inl rfl⟩, rfl⟩, ⟨⟨5, rfl, ⟨(RX4, TX4, 9), "NotaryKiosk$Piece", rfl, by decide, nk_in (i := 500) (by decide +kernel) rfl, Or.inl rfl⟩, rfl⟩, ⟨⟨9, rfl, ⟨(RX9, TX9, 15), "NotaryKiosk$Piece", rfl, by decide, nk_in (i := 500) (by decide +kernel) rfl, Or.inl rfl⟩, rfl⟩, ⟨⟨10, rfl, ⟨(RX10, TX10, 7), "NotaryKiosk$Piece", rfl, by decide, nk_in (i := 500) (by decide +kernel) rfl, Or.inl rfl⟩, rfl⟩, trivial⟩⟩⟩⟩
theorem ml_RX11_267 : Cond.methodLink RX11 267 yX7_pieceAt ∈ nk_T := nk_in (i := 1088) (by decide +kernel) rfl
theorem co_X7_pieceAt : Cond.code yX7_pieceAt cX7_pieceAt 2 (some (FieldType.object "NotaryKiosk$Piece")) ∈ nk_T := nk_in (i := 1091) (by decide +kernel) rfl
theorem my_X7_pieceAt : nk_My yX7_pieceAt cX7_pieceAt 2 (some (FieldType.object "NotaryKiosk$Piece")) 1 := ⟨co_X7_pieceAt, in_RX7, ⟨by decide, by decide⟩, by decide +kernel⟩
theorem im_X7_pieceAt : Cond.instanceMethod yX7_pieceAt ∈ nk_T := nk_in (i := 1089) (by decide +kernel) rfl
theorem se_RX7_X7_pieceAt : Cond.selects RX7 yX7_pieceAt yX7_pieceAt ∈ nk_T := nk_in (i := 1090) (by decide +kernel) rfl
theorem ml_RX11_264 : Cond.methodLink RX11 264 yX11_mustBePiece ∈ nk_T := nk_in (i := 1083) (by decide +kernel) rfl
theorem co_X11_mustBePiece : Cond.code yX11_mustBePiece cX11_mustBePiece 2 (none : Option FieldType) ∈ nk_T := nk_in (i := 1086) (by decide +kernel) rfl
theorem my_X11_mustBePiece : nk_My yX11_mustBePiece cX11_mustBePiece 2 (none : Option FieldType) 1 := ⟨co_X11_mustBePiece, in_RX11, ⟨by decide, by decide⟩, by decide +kernel⟩
theorem im_X11_mustBePiece : Cond.instanceMethod yX11_mustBePiece ∈ nk_T := nk_in (i := 1085) (by decide +kernel) rfl
theorem se_RX11_X11_mustBePiece : Cond.selects RX11 yX11_mustBePiece yX11_mustBePiece ∈ nk_T := nk_in (i := 20) (by decide +kernel) rfl
theorem ml_RX11_286 : Cond.methodLink RX11 286 yX6_reach ∈ nk_T := nk_in (i := 1100) (by decide +kernel) rfl
theorem fk_RX11_276 : nk_Fk RX11 276 1 false [8, 12, 16, 17] := ⟨⟨1, rfl, ⟨(RX0, TX0, 11), "NotaryKiosk$Piece", rfl, by decide, nk_in (i := 490) (by decide +kernel) rfl, Or.inl rfl⟩, rfl⟩, ⟨⟨5, rfl, ⟨(RX4, TX4, 9), "NotaryKiosk$Piece", rfl, by decide, nk_in (i := 490) (by decide +kernel) rfl, Or.inl rfl⟩, rfl⟩, ⟨⟨9, rfl, ⟨(RX9, TX9, 15), "NotaryKiosk$Piece", rfl, by decide, nk_in (i := 490) (by decide +kernel) rfl, Or.inl rfl⟩, rfl⟩, ⟨⟨10, rfl, ⟨(RX10, TX10, 7), "NotaryKiosk$Piece", rfl, by decide, nk_in (i := 490) (by decide +kernel) rfl, Or.inl rfl⟩, rfl⟩, trivial⟩⟩⟩⟩
theorem fk_RX11_285 : nk_Fk RX11 285 2 false [8, 12, 16, 17] := ⟨⟨1, rfl, ⟨(RX0, TX0, 11), "NotaryKiosk$Piece", rfl, by decide, nk_in (i := 493) (by decide +kernel) rfl, Or.inl rfl⟩, rfl⟩, ⟨⟨5, rfl, ⟨(RX4, TX4, 9), "NotaryKiosk$Piece", rfl, by decide, nk_in (i := 493) (by decide +kernel) rfl, Or.inl rfl⟩, rfl⟩, ⟨⟨9, rfl, ⟨(RX9, TX9, 15), "NotaryKiosk$Piece", rfl, by decide, nk_in (i := 493) (by decide +kernel) rfl, Or.inl rfl⟩, rfl⟩, ⟨⟨10, rfl, ⟨(RX10, TX10, 7), "NotaryKiosk$Piece", rfl, by decide, nk_in (i := 493) (by decide +kernel) rfl, Or.inl rfl⟩, rfl⟩, trivial⟩⟩⟩⟩
theorem fk_RX11_290 : nk_Fk RX11 290 4 false [8, 12, 16, 17] := ⟨⟨1, rfl, ⟨(RX0, TX0, 11), "NotaryKiosk$Piece", rfl, by decide, nk_in (i := 498) (by decide +kernel) rfl, Or.inl rfl⟩, rfl⟩, ⟨⟨5, rfl, ⟨(RX4, TX4, 9), "NotaryKiosk$Piece", rfl, by decide, nk_in (i := 498) (by decide +kernel) rfl, Or.inl rfl⟩, rfl⟩, ⟨⟨9, rfl, ⟨(RX9, TX9, 15), "NotaryKiosk$Piece", rfl, by decide, nk_in (i := 498) (by decide +kernel) rfl, Or.inl rfl⟩, rfl⟩, ⟨⟨10, rfl, ⟨(RX10, TX10, 7), "NotaryKiosk$Piece", rfl, by decide, nk_in (i := 498) (by decide +kernel) rfl, Or.inl rfl⟩, rfl⟩, trivial⟩⟩⟩⟩
theorem ml_RX11_293 : Cond.methodLink RX11 293 yX7_unread ∈ nk_T := nk_in (i := 1030) (by decide +kernel) rfl
theorem fk_RX11_296 : nk_Fk RX11 296 7 true [16] := ⟨⟨9, rfl, ⟨(RX9, TX9, 15), "NotaryKiosk$Power", rfl, by decide, nk_in (i := 470) (by decide +kernel) rfl, Or.inl rfl⟩, rfl⟩, trivial⟩
theorem ml_RX11_303 : Cond.methodLink RX11 303 yX7_doneWith ∈ nk_T := nk_in (i := 1046) (by decide +kernel) rfl
theorem ml_RX11_315 : Cond.methodLink RX11 315 yX1_countStanding ∈ nk_T := nk_in (i := 1018) (by decide +kernel) rfl
theorem co_X1_countStanding : Cond.code yX1_countStanding cX1_countStanding 3 (some FieldType.int) ∈ nk_T := nk_in (i := 1021) (by decide +kernel) rfl
theorem my_X1_countStanding : nk_My yX1_countStanding cX1_countStanding 3 (some FieldType.int) 0 := ⟨co_X1_countStanding, in_RX1, ⟨by decide, by decide⟩, by decide +kernel⟩
theorem im_X1_countStanding : Cond.instanceMethod yX1_countStanding ∈ nk_T := nk_in (i := 1019) (by decide +kernel) rfl
theorem se_RX1_X1_countStanding : Cond.selects RX1 yX1_countStanding yX1_countStanding ∈ nk_T := nk_in (i := 1020) (by decide +kernel) rfl
theorem fk_RX11_318 : nk_Fk RX11 318 0 false [8] := ⟨⟨1, rfl, ⟨(RX0, TX0, 11), "NotaryKiosk$Act", rfl, by decide, nk_in (i := 486) (by decide +kernel) rfl, Or.inr (nk_in (i := 487) (by decide +kernel) rfl)⟩, rfl⟩, trivial⟩
theorem fk_RX11_321 : nk_Fk RX11 321 9 false [8] := ⟨⟨1, rfl, ⟨(RX0, TX0, 11), "NotaryKiosk$Act", rfl, by decide, nk_in (i := 821) (by decide +kernel) rfl, Or.inl rfl⟩, rfl⟩, trivial⟩
theorem ml_RX11_324 : Cond.methodLink RX11 324 yX1_firstBroken ∈ nk_T := nk_in (i := 1035) (by decide +kernel) rfl
theorem co_X1_firstBroken : Cond.code yX1_firstBroken cX1_firstBroken 3 (some FieldType.int) ∈ nk_T := nk_in (i := 1038) (by decide +kernel) rfl
theorem my_X1_firstBroken : nk_My yX1_firstBroken cX1_firstBroken 3 (some FieldType.int) 0 := ⟨co_X1_firstBroken, in_RX1, ⟨by decide, by decide⟩, by decide +kernel⟩
theorem im_X1_firstBroken : Cond.instanceMethod yX1_firstBroken ∈ nk_T := nk_in (i := 1036) (by decide +kernel) rfl
theorem se_RX1_X1_firstBroken : Cond.selects RX1 yX1_firstBroken yX1_firstBroken ∈ nk_T := nk_in (i := 1037) (by decide +kernel) rfl
theorem ml_RX11_333 : Cond.methodLink RX11 333 yX2_firstBroken ∈ nk_T := nk_in (i := 1055) (by decide +kernel) rfl
theorem co_X2_firstBroken : Cond.code yX2_firstBroken cX2_firstBroken 3 (some FieldType.int) ∈ nk_T := nk_in (i := 1058) (by decide +kernel) rfl
theorem my_X2_firstBroken : nk_My yX2_firstBroken cX2_firstBroken 3 (some FieldType.int) 0 := ⟨co_X2_firstBroken, in_RX2, ⟨by decide, by decide⟩, by decide +kernel⟩
theorem im_X2_firstBroken : Cond.instanceMethod yX2_firstBroken ∈ nk_T := nk_in (i := 1056) (by decide +kernel) rfl
theorem se_RX2_X2_firstBroken : Cond.selects RX2 yX2_firstBroken yX2_firstBroken ∈ nk_T := nk_in (i := 1057) (by decide +kernel) rfl
theorem fk_RX11_334 : nk_Fk RX11 334 0 false [10] := ⟨⟨3, rfl, ⟨(RX2, TX2, 7), "NotaryKiosk$Copy", rfl, by decide, nk_in (i := 919) (by decide +kernel) rfl, Or.inl rfl⟩, rfl⟩, trivial⟩
theorem ml_RX11_335 : Cond.methodLink RX11 335 yX2_tellsAs ∈ nk_T := nk_in (i := 1064) (by decide +kernel) rfl
theorem co_X2_tellsAs : Cond.code yX2_tellsAs cX2_tellsAs 3 (some FieldType.boolean) ∈ nk_T := nk_in (i := 1067) (by decide +kernel) rfl
theorem my_X2_tellsAs : nk_My yX2_tellsAs cX2_tellsAs 3 (some FieldType.boolean) 1 := ⟨co_X2_tellsAs, in_RX2, ⟨by decide, by decide⟩, by decide +kernel⟩
theorem im_X2_tellsAs : Cond.instanceMethod yX2_tellsAs ∈ nk_T := nk_in (i := 1065) (by decide +kernel) rfl
theorem se_RX2_X2_tellsAs : Cond.selects RX2 yX2_tellsAs yX2_tellsAs ∈ nk_T := nk_in (i := 1066) (by decide +kernel) rfl
theorem kc_RL_7 : Cond.constant RL 7 2147483647 ∈ nk_T := nk_in (i := 192) (by decide +kernel) rfl
theorem ml_RL_8 : Cond.methodLink RL 8 yX11_join ∈ nk_T := nk_in (i := 210) (by decide +kernel) rfl
theorem co_X11_join : Cond.code yX11_join cX11_join 3 (some FieldType.int) ∈ nk_T := nk_in (i := 213) (by decide +kernel) rfl
theorem my_X11_join : nk_My yX11_join cX11_join 3 (some FieldType.int) 2 := ⟨co_X11_join, in_RX11, ⟨by decide, by decide⟩, by decide +kernel⟩
theorem im_X11_join : Cond.instanceMethod yX11_join ∈ nk_T := nk_in (i := 211) (by decide +kernel) rfl
theorem se_RX11_X11_join : Cond.selects RX11 yX11_join yX11_join ∈ nk_T := nk_in (i := 212) (by decide +kernel) rfl
theorem kc_RL_58 : Cond.constant RL 58 (-9999999) ∈ nk_T := nk_in (i := 983) (by decide +kernel) rfl
theorem cl_RL_56 : Cond.classLink RL 56 "java/lang/IndexOutOfBoundsException" ∈ nk_T := nk_in (i := 207) (by decide +kernel) rfl
theorem cl_RL_59 : Cond.classLink RL 59 "java/lang/IllegalArgumentException" ∈ nk_T := nk_in (i := 208) (by decide +kernel) rfl
theorem cl_RL_61 : Cond.classLink RL 61 "java/lang/IllegalStateException" ∈ nk_T := nk_in (i := 209) (by decide +kernel) rfl
theorem ml_RL_14 : Cond.methodLink RL 14 yX11_cut ∈ nk_T := nk_in (i := 345) (by decide +kernel) rfl
theorem co_X11_cut : Cond.code yX11_cut cX11_cut 3 (some FieldType.int) ∈ nk_T := nk_in (i := 348) (by decide +kernel) rfl
theorem my_X11_cut : nk_My yX11_cut cX11_cut 3 (some FieldType.int) 2 := ⟨co_X11_cut, in_RX11, ⟨by decide, by decide⟩, by decide +kernel⟩
theorem im_X11_cut : Cond.instanceMethod yX11_cut ∈ nk_T := nk_in (i := 346) (by decide +kernel) rfl
theorem se_RX11_X11_cut : Cond.selects RX11 yX11_cut yX11_cut ∈ nk_T := nk_in (i := 347) (by decide +kernel) rfl
theorem ml_RL_17 : Cond.methodLink RL 17 yX11_pass ∈ nk_T := nk_in (i := 350) (by decide +kernel) rfl
theorem co_X11_pass : Cond.code yX11_pass cX11_pass 4 (some FieldType.int) ∈ nk_T := nk_in (i := 353) (by decide +kernel) rfl
theorem my_X11_pass : nk_My yX11_pass cX11_pass 4 (some FieldType.int) 1 := ⟨co_X11_pass, in_RX11, ⟨by decide, by decide⟩, by decide +kernel⟩
theorem im_X11_pass : Cond.instanceMethod yX11_pass ∈ nk_T := nk_in (i := 351) (by decide +kernel) rfl
theorem se_RX11_X11_pass : Cond.selects RX11 yX11_pass yX11_pass ∈ nk_T := nk_in (i := 352) (by decide +kernel) rfl
theorem ml_RL_21 : Cond.methodLink RL 21 yX11_read ∈ nk_T := nk_in (i := 401) (by decide +kernel) rfl
theorem co_X11_read : Cond.code yX11_read cX11_read 2 (some FieldType.int) ∈ nk_T := nk_in (i := 404) (by decide +kernel) rfl
theorem my_X11_read : nk_My yX11_read cX11_read 2 (some FieldType.int) 1 := ⟨co_X11_read, in_RX11, ⟨by decide, by decide⟩, by decide +kernel⟩
theorem im_X11_read : Cond.instanceMethod yX11_read ∈ nk_T := nk_in (i := 402) (by decide +kernel) rfl
theorem se_RX11_X11_read : Cond.selects RX11 yX11_read yX11_read ∈ nk_T := nk_in (i := 403) (by decide +kernel) rfl
theorem ml_RL_24 : Cond.methodLink RL 24 yX11_grant ∈ nk_T := nk_in (i := 423) (by decide +kernel) rfl
theorem co_X11_grant : Cond.code yX11_grant cX11_grant 4 (some FieldType.int) ∈ nk_T := nk_in (i := 426) (by decide +kernel) rfl
theorem my_X11_grant : nk_My yX11_grant cX11_grant 4 (some FieldType.int) 3 := ⟨co_X11_grant, in_RX11, ⟨by decide, by decide⟩, by decide +kernel⟩
theorem im_X11_grant : Cond.instanceMethod yX11_grant ∈ nk_T := nk_in (i := 424) (by decide +kernel) rfl
theorem se_RX11_X11_grant : Cond.selects RX11 yX11_grant yX11_grant ∈ nk_T := nk_in (i := 425) (by decide +kernel) rfl
theorem ml_RL_28 : Cond.methodLink RL 28 yX11_passOn ∈ nk_T := nk_in (i := 597) (by decide +kernel) rfl
theorem co_X11_passOn : Cond.code yX11_passOn cX11_passOn 5 (some FieldType.int) ∈ nk_T := nk_in (i := 600) (by decide +kernel) rfl
theorem my_X11_passOn : nk_My yX11_passOn cX11_passOn 5 (some FieldType.int) 3 := ⟨co_X11_passOn, in_RX11, ⟨by decide, by decide⟩, by decide +kernel⟩
theorem im_X11_passOn : Cond.instanceMethod yX11_passOn ∈ nk_T := nk_in (i := 598) (by decide +kernel) rfl
theorem se_RX11_X11_passOn : Cond.selects RX11 yX11_passOn yX11_passOn ∈ nk_T := nk_in (i := 599) (by decide +kernel) rfl
theorem ml_RL_31 : Cond.methodLink RL 31 yX11_revoke ∈ nk_T := nk_in (i := 651) (by decide +kernel) rfl
theorem co_X11_revoke : Cond.code yX11_revoke cX11_revoke 5 (some FieldType.int) ∈ nk_T := nk_in (i := 654) (by decide +kernel) rfl
theorem my_X11_revoke : nk_My yX11_revoke cX11_revoke 5 (some FieldType.int) 3 := ⟨co_X11_revoke, in_RX11, ⟨by decide, by decide⟩, by decide +kernel⟩
theorem im_X11_revoke : Cond.instanceMethod yX11_revoke ∈ nk_T := nk_in (i := 652) (by decide +kernel) rfl
theorem se_RX11_X11_revoke : Cond.selects RX11 yX11_revoke yX11_revoke ∈ nk_T := nk_in (i := 653) (by decide +kernel) rfl
theorem ml_RL_34 : Cond.methodLink RL 34 yX11_depute ∈ nk_T := nk_in (i := 677) (by decide +kernel) rfl
theorem co_X11_depute : Cond.code yX11_depute cX11_depute 6 (some FieldType.int) ∈ nk_T := nk_in (i := 680) (by decide +kernel) rfl
theorem my_X11_depute : nk_My yX11_depute cX11_depute 6 (some FieldType.int) 3 := ⟨co_X11_depute, in_RX11, ⟨by decide, by decide⟩, by decide +kernel⟩
theorem im_X11_depute : Cond.instanceMethod yX11_depute ∈ nk_T := nk_in (i := 678) (by decide +kernel) rfl
theorem se_RX11_X11_depute : Cond.selects RX11 yX11_depute yX11_depute ∈ nk_T := nk_in (i := 679) (by decide +kernel) rfl
theorem ml_RL_37 : Cond.methodLink RL 37 yX11_act ∈ nk_T := nk_in (i := 722) (by decide +kernel) rfl
theorem co_X11_act : Cond.code yX11_act cX11_act 8 (some FieldType.int) ∈ nk_T := nk_in (i := 725) (by decide +kernel) rfl
theorem my_X11_act : nk_My yX11_act cX11_act 8 (some FieldType.int) 4 := ⟨co_X11_act, in_RX11, ⟨by decide, by decide⟩, by decide +kernel⟩
theorem im_X11_act : Cond.instanceMethod yX11_act ∈ nk_T := nk_in (i := 723) (by decide +kernel) rfl
theorem se_RX11_X11_act : Cond.selects RX11 yX11_act yX11_act ∈ nk_T := nk_in (i := 724) (by decide +kernel) rfl
theorem ml_RL_41 : Cond.methodLink RL 41 yX11_tamper ∈ nk_T := nk_in (i := 887) (by decide +kernel) rfl
theorem co_X11_tamper : Cond.code yX11_tamper cX11_tamper 6 (some FieldType.int) ∈ nk_T := nk_in (i := 890) (by decide +kernel) rfl
theorem my_X11_tamper : nk_My yX11_tamper cX11_tamper 6 (some FieldType.int) 3 := ⟨co_X11_tamper, in_RX11, ⟨by decide, by decide⟩, by decide +kernel⟩
theorem im_X11_tamper : Cond.instanceMethod yX11_tamper ∈ nk_T := nk_in (i := 888) (by decide +kernel) rfl
theorem se_RX11_X11_tamper : Cond.selects RX11 yX11_tamper yX11_tamper ∈ nk_T := nk_in (i := 889) (by decide +kernel) rfl
theorem ml_RL_44 : Cond.methodLink RL 44 yX11_copy ∈ nk_T := nk_in (i := 904) (by decide +kernel) rfl
theorem co_X11_copy : Cond.code yX11_copy cX11_copy 6 (some FieldType.int) ∈ nk_T := nk_in (i := 907) (by decide +kernel) rfl
theorem my_X11_copy : nk_My yX11_copy cX11_copy 6 (some FieldType.int) 4 := ⟨co_X11_copy, in_RX11, ⟨by decide, by decide⟩, by decide +kernel⟩
theorem im_X11_copy : Cond.instanceMethod yX11_copy ∈ nk_T := nk_in (i := 905) (by decide +kernel) rfl
theorem se_RX11_X11_copy : Cond.selects RX11 yX11_copy yX11_copy ∈ nk_T := nk_in (i := 906) (by decide +kernel) rfl
theorem ml_RL_47 : Cond.methodLink RL 47 yX11_forge ∈ nk_T := nk_in (i := 955) (by decide +kernel) rfl
theorem co_X11_forge : Cond.code yX11_forge cX11_forge 7 (some FieldType.int) ∈ nk_T := nk_in (i := 958) (by decide +kernel) rfl
theorem my_X11_forge : nk_My yX11_forge cX11_forge 7 (some FieldType.int) 4 := ⟨co_X11_forge, in_RX11, ⟨by decide, by decide⟩, by decide +kernel⟩
theorem im_X11_forge : Cond.instanceMethod yX11_forge ∈ nk_T := nk_in (i := 956) (by decide +kernel) rfl
theorem se_RX11_X11_forge : Cond.selects RX11 yX11_forge yX11_forge ∈ nk_T := nk_in (i := 957) (by decide +kernel) rfl
theorem ml_RL_50 : Cond.methodLink RL 50 yX11_against ∈ nk_T := nk_in (i := 975) (by decide +kernel) rfl
theorem co_X11_against : Cond.code yX11_against cX11_against 5 (some FieldType.int) ∈ nk_T := nk_in (i := 978) (by decide +kernel) rfl
theorem my_X11_against : nk_My yX11_against cX11_against 5 (some FieldType.int) 4 := ⟨co_X11_against, in_RX11, ⟨by decide, by decide⟩, by decide +kernel⟩
theorem im_X11_against : Cond.instanceMethod yX11_against ∈ nk_T := nk_in (i := 976) (by decide +kernel) rfl
theorem se_RX11_X11_against : Cond.selects RX11 yX11_against yX11_against ∈ nk_T := nk_in (i := 977) (by decide +kernel) rfl
theorem ml_RL_53 : Cond.methodLink RL 53 yX11_choices ∈ nk_T := nk_in (i := 979) (by decide +kernel) rfl
theorem co_X11_choices : Cond.code yX11_choices cX11_choices 7 (some FieldType.int) ∈ nk_T := nk_in (i := 982) (by decide +kernel) rfl
theorem my_X11_choices : nk_My yX11_choices cX11_choices 7 (some FieldType.int) 3 := ⟨co_X11_choices, in_RX11, ⟨by decide, by decide⟩, by decide +kernel⟩
theorem im_X11_choices : Cond.instanceMethod yX11_choices ∈ nk_T := nk_in (i := 980) (by decide +kernel) rfl
theorem se_RX11_X11_choices : Cond.selects RX11 yX11_choices yX11_choices ∈ nk_T := nk_in (i := 981) (by decide +kernel) rfl
theorem ml_RL_73 : Cond.methodLink RL 73 yX11_prepare ∈ nk_T := nk_in (i := 994) (by decide +kernel) rfl
theorem co_X11_prepare : Cond.code yX11_prepare cX11_prepare 3 (none : Option FieldType) ∈ nk_T := nk_in (i := 997) (by decide +kernel) rfl
theorem my_X11_prepare : nk_My yX11_prepare cX11_prepare 3 (none : Option FieldType) 2 := ⟨co_X11_prepare, in_RX11, ⟨by decide, by decide⟩, by decide +kernel⟩
theorem im_X11_prepare : Cond.instanceMethod yX11_prepare ∈ nk_T := nk_in (i := 995) (by decide +kernel) rfl
theorem se_RX11_X11_prepare : Cond.selects RX11 yX11_prepare yX11_prepare ∈ nk_T := nk_in (i := 996) (by decide +kernel) rfl
theorem ml_RL_69 : Cond.methodLink RL 69 yX11_draft ∈ nk_T := nk_in (i := 990) (by decide +kernel) rfl
theorem co_X11_draft : Cond.code yX11_draft cX11_draft 6 (none : Option FieldType) ∈ nk_T := nk_in (i := 993) (by decide +kernel) rfl
theorem my_X11_draft : nk_My yX11_draft cX11_draft 6 (none : Option FieldType) 5 := ⟨co_X11_draft, in_RX11, ⟨by decide, by decide⟩, by decide +kernel⟩
theorem im_X11_draft : Cond.instanceMethod yX11_draft ∈ nk_T := nk_in (i := 991) (by decide +kernel) rfl
theorem se_RX11_X11_draft : Cond.selects RX11 yX11_draft yX11_draft ∈ nk_T := nk_in (i := 992) (by decide +kernel) rfl
theorem co_L_tells : Cond.code yL_tells cL_tells 7 (some FieldType.int) ∈ nk_T := nk_in (i := 989) (by decide +kernel) rfl
theorem in_RL : Cond.initialized RL ∈ nk_T := nk_in (i := 21) (by decide +kernel) rfl
theorem my_L_tells : nk_My yL_tells cL_tells 7 (some FieldType.int) 7 := ⟨co_L_tells, in_RL, ⟨by decide, by decide⟩, by decide +kernel⟩
theorem st_L_tells : Cond.static yL_tells ∈ nk_T := nk_in (i := 988) (by decide +kernel) rfl
theorem ml_RL_63 : Cond.methodLink RL 63 yL_tells ∈ nk_T := nk_in (i := 987) (by decide +kernel) rfl
theorem ml_RL_77 : Cond.methodLink RL 77 yX11_broken ∈ nk_T := nk_in (i := 1031) (by decide +kernel) rfl
theorem co_X11_broken : Cond.code yX11_broken cX11_broken 2 (some FieldType.int) ∈ nk_T := nk_in (i := 1034) (by decide +kernel) rfl
theorem my_X11_broken : nk_My yX11_broken cX11_broken 2 (some FieldType.int) 1 := ⟨co_X11_broken, in_RX11, ⟨by decide, by decide⟩, by decide +kernel⟩
theorem im_X11_broken : Cond.instanceMethod yX11_broken ∈ nk_T := nk_in (i := 1032) (by decide +kernel) rfl
theorem se_RX11_X11_broken : Cond.selects RX11 yX11_broken yX11_broken ∈ nk_T := nk_in (i := 1033) (by decide +kernel) rfl
theorem ml_RL_80 : Cond.methodLink RL 80 yX11_done ∈ nk_T := nk_in (i := 1042) (by decide +kernel) rfl
theorem co_X11_done : Cond.code yX11_done cX11_done 3 (some FieldType.int) ∈ nk_T := nk_in (i := 1045) (by decide +kernel) rfl
theorem my_X11_done : nk_My yX11_done cX11_done 3 (some FieldType.int) 2 := ⟨co_X11_done, in_RX11, ⟨by decide, by decide⟩, by decide +kernel⟩
theorem im_X11_done : Cond.instanceMethod yX11_done ∈ nk_T := nk_in (i := 1043) (by decide +kernel) rfl
theorem se_RX11_X11_done : Cond.selects RX11 yX11_done yX11_done ∈ nk_T := nk_in (i := 1044) (by decide +kernel) rfl
theorem ml_RL_83 : Cond.methodLink RL 83 yX11_size ∈ nk_T := nk_in (i := 1047) (by decide +kernel) rfl
theorem co_X11_size : Cond.code yX11_size cX11_size 2 (some FieldType.int) ∈ nk_T := nk_in (i := 1050) (by decide +kernel) rfl
theorem my_X11_size : nk_My yX11_size cX11_size 2 (some FieldType.int) 1 := ⟨co_X11_size, in_RX11, ⟨by decide, by decide⟩, by decide +kernel⟩
theorem im_X11_size : Cond.instanceMethod yX11_size ∈ nk_T := nk_in (i := 1048) (by decide +kernel) rfl
theorem se_RX11_X11_size : Cond.selects RX11 yX11_size yX11_size ∈ nk_T := nk_in (i := 1049) (by decide +kernel) rfl
theorem ml_RL_86 : Cond.methodLink RL 86 yX11_brokenCopy ∈ nk_T := nk_in (i := 1051) (by decide +kernel) rfl
theorem co_X11_brokenCopy : Cond.code yX11_brokenCopy cX11_brokenCopy 2 (some FieldType.int) ∈ nk_T := nk_in (i := 1054) (by decide +kernel) rfl
theorem my_X11_brokenCopy : nk_My yX11_brokenCopy cX11_brokenCopy 2 (some FieldType.int) 1 := ⟨co_X11_brokenCopy, in_RX11, ⟨by decide, by decide⟩, by decide +kernel⟩
theorem im_X11_brokenCopy : Cond.instanceMethod yX11_brokenCopy ∈ nk_T := nk_in (i := 1052) (by decide +kernel) rfl
theorem se_RX11_X11_brokenCopy : Cond.selects RX11 yX11_brokenCopy yX11_brokenCopy ∈ nk_T := nk_in (i := 1053) (by decide +kernel) rfl
theorem ml_RL_89 : Cond.methodLink RL 89 yX11_isTrue ∈ nk_T := nk_in (i := 1060) (by decide +kernel) rfl
theorem co_X11_isTrue : Cond.code yX11_isTrue cX11_isTrue 3 (some FieldType.boolean) ∈ nk_T := nk_in (i := 1063) (by decide +kernel) rfl
theorem my_X11_isTrue : nk_My yX11_isTrue cX11_isTrue 3 (some FieldType.boolean) 1 := ⟨co_X11_isTrue, in_RX11, ⟨by decide, by decide⟩, by decide +kernel⟩
theorem im_X11_isTrue : Cond.instanceMethod yX11_isTrue ∈ nk_T := nk_in (i := 1061) (by decide +kernel) rfl
theorem se_RX11_X11_isTrue : Cond.selects RX11 yX11_isTrue yX11_isTrue ∈ nk_T := nk_in (i := 1062) (by decide +kernel) rfl
theorem co_L_low : Cond.code yL_low cL_low 2 (some FieldType.int) ∈ nk_T := nk_in (i := 191) (by decide +kernel) rfl
theorem my_L_low : nk_My yL_low cL_low 2 (some FieldType.int) 2 := ⟨co_L_low, in_RL, ⟨by decide, by decide⟩, by decide +kernel⟩
theorem st_L_low : Cond.static yL_low ∈ nk_T := nk_in (i := 190) (by decide +kernel) rfl
theorem ml_RL_93 : Cond.methodLink RL 93 yL_low ∈ nk_T := nk_in (i := 189) (by decide +kernel) rfl
theorem co_L_does : Cond.codeWith yL_does cL_does 7 (some FieldType.int) [(0, 220, 221, 56), (0, 220, 226, 59), (0, 220, 231, 61)] ∈ nk_T := nk_in (i := 206) (by decide +kernel) rfl
theorem my_L_does : nk_MyW yL_does cL_does 7 (some FieldType.int) [(0, 220, 221, 56), (0, 220, 226, 59), (0, 220, 231, 61)] 6 := ⟨co_L_does, in_RL, ⟨by decide, by decide⟩, by decide +kernel⟩
theorem st_L_does : Cond.static yL_does ∈ nk_T := nk_in (i := 205) (by decide +kernel) rfl
theorem ml_RL_100 : Cond.methodLink RL 100 yL_does ∈ nk_T := nk_in (i := 204) (by decide +kernel) rfl
theorem co_L_tell : Cond.codeWith yL_tell cL_tell 8 (some FieldType.int) [(0, 13, 14, 59)] ∈ nk_T := nk_in (i := 986) (by decide +kernel) rfl
theorem my_L_tell : nk_MyW yL_tell cL_tell 8 (some FieldType.int) [(0, 13, 14, 59)] 7 := ⟨co_L_tell, in_RL, ⟨by decide, by decide⟩, by decide +kernel⟩
theorem st_L_tell : Cond.static yL_tell ∈ nk_T := nk_in (i := 985) (by decide +kernel) rfl
theorem ml_RL_104 : Cond.methodLink RL 104 yL_tell ∈ nk_T := nk_in (i := 984) (by decide +kernel) rfl
theorem kc_RL_107 : Cond.constant RL 107 110000 ∈ nk_T := nk_in (i := 998) (by decide +kernel) rfl
theorem ml_RL_108 : Cond.methodLink RL 108 yX11_holder ∈ nk_T := nk_in (i := 999) (by decide +kernel) rfl
theorem co_X11_holder : Cond.code yX11_holder cX11_holder 2 (some FieldType.int) ∈ nk_T := nk_in (i := 1002) (by decide +kernel) rfl
theorem my_X11_holder : nk_My yX11_holder cX11_holder 2 (some FieldType.int) 1 := ⟨co_X11_holder, in_RX11, ⟨by decide, by decide⟩, by decide +kernel⟩
theorem im_X11_holder : Cond.instanceMethod yX11_holder ∈ nk_T := nk_in (i := 1000) (by decide +kernel) rfl
theorem se_RX11_X11_holder : Cond.selects RX11 yX11_holder yX11_holder ∈ nk_T := nk_in (i := 1001) (by decide +kernel) rfl
theorem ml_RL_96 : Cond.methodLink RL 96 yX11_powers ∈ nk_T := nk_in (i := 196) (by decide +kernel) rfl
theorem co_X11_powers : Cond.code yX11_powers cX11_powers 1 (some FieldType.int) ∈ nk_T := nk_in (i := 199) (by decide +kernel) rfl
theorem my_X11_powers : nk_My yX11_powers cX11_powers 1 (some FieldType.int) 0 := ⟨co_X11_powers, in_RX11, ⟨by decide, by decide⟩, by decide +kernel⟩
theorem im_X11_powers : Cond.instanceMethod yX11_powers ∈ nk_T := nk_in (i := 197) (by decide +kernel) rfl
theorem se_RX11_X11_powers : Cond.selects RX11 yX11_powers yX11_powers ∈ nk_T := nk_in (i := 198) (by decide +kernel) rfl
theorem co_L_looks : Cond.codeWith yL_looks cL_looks 5 (some FieldType.int) [(0, 65, 66, 56)] ∈ nk_T := nk_in (i := 1041) (by decide +kernel) rfl
theorem my_L_looks : nk_MyW yL_looks cL_looks 5 (some FieldType.int) [(0, 65, 66, 56)] 4 := ⟨co_L_looks, in_RL, ⟨by decide, by decide⟩, by decide +kernel⟩
theorem st_L_looks : Cond.static yL_looks ∈ nk_T := nk_in (i := 1040) (by decide +kernel) rfl
theorem ml_RL_126 : Cond.methodLink RL 126 yL_looks ∈ nk_T := nk_in (i := 1039) (by decide +kernel) rfl
theorem ml_RL_130 : Cond.methodLink RL 130 yX11_areJoined ∈ nk_T := nk_in (i := 1072) (by decide +kernel) rfl
theorem co_X11_areJoined : Cond.code yX11_areJoined cX11_areJoined 3 (some FieldType.boolean) ∈ nk_T := nk_in (i := 1075) (by decide +kernel) rfl
theorem my_X11_areJoined : nk_My yX11_areJoined cX11_areJoined 3 (some FieldType.boolean) 2 := ⟨co_X11_areJoined, in_RX11, ⟨by decide, by decide⟩, by decide +kernel⟩
theorem im_X11_areJoined : Cond.instanceMethod yX11_areJoined ∈ nk_T := nk_in (i := 1073) (by decide +kernel) rfl
theorem se_RX11_X11_areJoined : Cond.selects RX11 yX11_areJoined yX11_areJoined ∈ nk_T := nk_in (i := 1074) (by decide +kernel) rfl
theorem ml_RL_123 : Cond.methodLink RL 123 yX11_mail ∈ nk_T := nk_in (i := 1026) (by decide +kernel) rfl
theorem co_X11_mail : Cond.code yX11_mail cX11_mail 2 (some FieldType.int) ∈ nk_T := nk_in (i := 1029) (by decide +kernel) rfl
theorem my_X11_mail : nk_My yX11_mail cX11_mail 2 (some FieldType.int) 1 := ⟨co_X11_mail, in_RX11, ⟨by decide, by decide⟩, by decide +kernel⟩
theorem im_X11_mail : Cond.instanceMethod yX11_mail ∈ nk_T := nk_in (i := 1027) (by decide +kernel) rfl
theorem se_RX11_X11_mail : Cond.selects RX11 yX11_mail yX11_mail ∈ nk_T := nk_in (i := 1028) (by decide +kernel) rfl
theorem ml_RL_120 : Cond.methodLink RL 120 yX11_records ∈ nk_T := nk_in (i := 1022) (by decide +kernel) rfl
theorem co_X11_records : Cond.code yX11_records cX11_records 2 (some FieldType.int) ∈ nk_T := nk_in (i := 1025) (by decide +kernel) rfl
theorem my_X11_records : nk_My yX11_records cX11_records 2 (some FieldType.int) 1 := ⟨co_X11_records, in_RX11, ⟨by decide, by decide⟩, by decide +kernel⟩
theorem im_X11_records : Cond.instanceMethod yX11_records ∈ nk_T := nk_in (i := 1023) (by decide +kernel) rfl
theorem se_RX11_X11_records : Cond.selects RX11 yX11_records yX11_records ∈ nk_T := nk_in (i := 1024) (by decide +kernel) rfl
theorem ml_RL_117 : Cond.methodLink RL 117 yX11_standing ∈ nk_T := nk_in (i := 1014) (by decide +kernel) rfl
theorem co_X11_standing : Cond.code yX11_standing cX11_standing 3 (some FieldType.int) ∈ nk_T := nk_in (i := 1017) (by decide +kernel) rfl
theorem my_X11_standing : nk_My yX11_standing cX11_standing 3 (some FieldType.int) 0 := ⟨co_X11_standing, in_RX11, ⟨by decide, by decide⟩, by decide +kernel⟩
theorem im_X11_standing : Cond.instanceMethod yX11_standing ∈ nk_T := nk_in (i := 1015) (by decide +kernel) rfl
theorem se_RX11_X11_standing : Cond.selects RX11 yX11_standing yX11_standing ∈ nk_T := nk_in (i := 1016) (by decide +kernel) rfl
theorem ml_RL_114 : Cond.methodLink RL 114 yX11_news ∈ nk_T := nk_in (i := 1010) (by decide +kernel) rfl
theorem co_X11_news : Cond.code yX11_news cX11_news 1 (some FieldType.int) ∈ nk_T := nk_in (i := 1013) (by decide +kernel) rfl
theorem my_X11_news : nk_My yX11_news cX11_news 1 (some FieldType.int) 0 := ⟨co_X11_news, in_RX11, ⟨by decide, by decide⟩, by decide +kernel⟩
theorem im_X11_news : Cond.instanceMethod yX11_news ∈ nk_T := nk_in (i := 1011) (by decide +kernel) rfl
theorem se_RX11_X11_news : Cond.selects RX11 yX11_news yX11_news ∈ nk_T := nk_in (i := 1012) (by decide +kernel) rfl
theorem ml_RL_111 : Cond.methodLink RL 111 yX11_hour ∈ nk_T := nk_in (i := 1006) (by decide +kernel) rfl
theorem co_X11_hour : Cond.code yX11_hour cX11_hour 1 (some FieldType.int) ∈ nk_T := nk_in (i := 1009) (by decide +kernel) rfl
theorem my_X11_hour : nk_My yX11_hour cX11_hour 1 (some FieldType.int) 0 := ⟨co_X11_hour, in_RX11, ⟨by decide, by decide⟩, by decide +kernel⟩
theorem im_X11_hour : Cond.instanceMethod yX11_hour ∈ nk_T := nk_in (i := 1007) (by decide +kernel) rfl
theorem se_RX11_X11_hour : Cond.selects RX11 yX11_hour yX11_hour ∈ nk_T := nk_in (i := 1008) (by decide +kernel) rfl
theorem ml_RL_137 : Cond.methodLink RL 137 yX11_isRead ∈ nk_T := nk_in (i := 1092) (by decide +kernel) rfl
theorem co_X11_isRead : Cond.code yX11_isRead cX11_isRead 3 (some FieldType.boolean) ∈ nk_T := nk_in (i := 1095) (by decide +kernel) rfl
theorem my_X11_isRead : nk_My yX11_isRead cX11_isRead 3 (some FieldType.boolean) 2 := ⟨co_X11_isRead, in_RX11, ⟨by decide, by decide⟩, by decide +kernel⟩
theorem im_X11_isRead : Cond.instanceMethod yX11_isRead ∈ nk_T := nk_in (i := 1093) (by decide +kernel) rfl
theorem se_RX11_X11_isRead : Cond.selects RX11 yX11_isRead yX11_isRead ∈ nk_T := nk_in (i := 1094) (by decide +kernel) rfl
theorem ml_RL_134 : Cond.methodLink RL 134 yX11_came ∈ nk_T := nk_in (i := 1079) (by decide +kernel) rfl
theorem co_X11_came : Cond.code yX11_came cX11_came 3 (some FieldType.int) ∈ nk_T := nk_in (i := 1082) (by decide +kernel) rfl
theorem my_X11_came : nk_My yX11_came cX11_came 3 (some FieldType.int) 2 := ⟨co_X11_came, in_RX11, ⟨by decide, by decide⟩, by decide +kernel⟩
theorem im_X11_came : Cond.instanceMethod yX11_came ∈ nk_T := nk_in (i := 1080) (by decide +kernel) rfl
theorem se_RX11_X11_came : Cond.selects RX11 yX11_came yX11_came ∈ nk_T := nk_in (i := 1081) (by decide +kernel) rfl
theorem ml_RL_140 : Cond.methodLink RL 140 yX11_cameByLinks ∈ nk_T := nk_in (i := 1096) (by decide +kernel) rfl
theorem co_X11_cameByLinks : Cond.code yX11_cameByLinks cX11_cameByLinks 6 (some FieldType.int) ∈ nk_T := nk_in (i := 1099) (by decide +kernel) rfl
theorem my_X11_cameByLinks : nk_My yX11_cameByLinks cX11_cameByLinks 6 (some FieldType.int) 2 := ⟨co_X11_cameByLinks, in_RX11, ⟨by decide, by decide⟩, by decide +kernel⟩
theorem im_X11_cameByLinks : Cond.instanceMethod yX11_cameByLinks ∈ nk_T := nk_in (i := 1097) (by decide +kernel) rfl
theorem se_RX11_X11_cameByLinks : Cond.selects RX11 yX11_cameByLinks yX11_cameByLinks ∈ nk_T := nk_in (i := 1098) (by decide +kernel) rfl
theorem ml_RL_155 : Cond.methodLink RL 155 yX11_stands ∈ nk_T := nk_in (i := 1120) (by decide +kernel) rfl
theorem co_X11_stands : Cond.code yX11_stands cX11_stands 3 (some FieldType.boolean) ∈ nk_T := nk_in (i := 1123) (by decide +kernel) rfl
theorem my_X11_stands : nk_My yX11_stands cX11_stands 3 (some FieldType.boolean) 2 := ⟨co_X11_stands, in_RX11, ⟨by decide, by decide⟩, by decide +kernel⟩
theorem im_X11_stands : Cond.instanceMethod yX11_stands ∈ nk_T := nk_in (i := 1121) (by decide +kernel) rfl
theorem se_RX11_X11_stands : Cond.selects RX11 yX11_stands yX11_stands ∈ nk_T := nk_in (i := 1122) (by decide +kernel) rfl
theorem ml_RL_158 : Cond.methodLink RL 158 yX11_fault ∈ nk_T := nk_in (i := 1124) (by decide +kernel) rfl
theorem co_X11_fault : Cond.code yX11_fault cX11_fault 3 (some FieldType.int) ∈ nk_T := nk_in (i := 1127) (by decide +kernel) rfl
theorem my_X11_fault : nk_My yX11_fault cX11_fault 3 (some FieldType.int) 2 := ⟨co_X11_fault, in_RX11, ⟨by decide, by decide⟩, by decide +kernel⟩
theorem im_X11_fault : Cond.instanceMethod yX11_fault ∈ nk_T := nk_in (i := 1125) (by decide +kernel) rfl
theorem se_RX11_X11_fault : Cond.selects RX11 yX11_fault yX11_fault ∈ nk_T := nk_in (i := 1126) (by decide +kernel) rfl
theorem ml_RL_152 : Cond.methodLink RL 152 yX11_part ∈ nk_T := nk_in (i := 1116) (by decide +kernel) rfl
theorem co_X11_part : Cond.code yX11_part cX11_part 4 (some FieldType.int) ∈ nk_T := nk_in (i := 1119) (by decide +kernel) rfl
theorem my_X11_part : nk_My yX11_part cX11_part 4 (some FieldType.int) 3 := ⟨co_X11_part, in_RX11, ⟨by decide, by decide⟩, by decide +kernel⟩
theorem im_X11_part : Cond.instanceMethod yX11_part ∈ nk_T := nk_in (i := 1117) (by decide +kernel) rfl
theorem se_RX11_X11_part : Cond.selects RX11 yX11_part yX11_part ∈ nk_T := nk_in (i := 1118) (by decide +kernel) rfl
theorem ml_RL_149 : Cond.methodLink RL 149 yX11_isGood ∈ nk_T := nk_in (i := 1112) (by decide +kernel) rfl
theorem co_X11_isGood : Cond.code yX11_isGood cX11_isGood 3 (some FieldType.boolean) ∈ nk_T := nk_in (i := 1115) (by decide +kernel) rfl
theorem my_X11_isGood : nk_My yX11_isGood cX11_isGood 3 (some FieldType.boolean) 2 := ⟨co_X11_isGood, in_RX11, ⟨by decide, by decide⟩, by decide +kernel⟩
theorem im_X11_isGood : Cond.instanceMethod yX11_isGood ∈ nk_T := nk_in (i := 1113) (by decide +kernel) rfl
theorem se_RX11_X11_isGood : Cond.selects RX11 yX11_isGood yX11_isGood ∈ nk_T := nk_in (i := 1114) (by decide +kernel) rfl
theorem ml_RL_146 : Cond.methodLink RL 146 yX11_pieceOf ∈ nk_T := nk_in (i := 1108) (by decide +kernel) rfl
theorem co_X11_pieceOf : Cond.code yX11_pieceOf cX11_pieceOf 3 (some FieldType.int) ∈ nk_T := nk_in (i := 1111) (by decide +kernel) rfl
theorem my_X11_pieceOf : nk_My yX11_pieceOf cX11_pieceOf 3 (some FieldType.int) 2 := ⟨co_X11_pieceOf, in_RX11, ⟨by decide, by decide⟩, by decide +kernel⟩
theorem im_X11_pieceOf : Cond.instanceMethod yX11_pieceOf ∈ nk_T := nk_in (i := 1109) (by decide +kernel) rfl
theorem se_RX11_X11_pieceOf : Cond.selects RX11 yX11_pieceOf yX11_pieceOf ∈ nk_T := nk_in (i := 1110) (by decide +kernel) rfl
theorem ml_RL_143 : Cond.methodLink RL 143 yX11_source ∈ nk_T := nk_in (i := 1104) (by decide +kernel) rfl
theorem co_X11_source : Cond.code yX11_source cX11_source 3 (some FieldType.int) ∈ nk_T := nk_in (i := 1107) (by decide +kernel) rfl
theorem my_X11_source : nk_My yX11_source cX11_source 3 (some FieldType.int) 1 := ⟨co_X11_source, in_RX11, ⟨by decide, by decide⟩, by decide +kernel⟩
theorem im_X11_source : Cond.instanceMethod yX11_source ∈ nk_T := nk_in (i := 1105) (by decide +kernel) rfl
theorem se_RX11_X11_source : Cond.selects RX11 yX11_source yX11_source ∈ nk_T := nk_in (i := 1106) (by decide +kernel) rfl
theorem ml_RL_161 : Cond.methodLink RL 161 yX11_seal ∈ nk_T := nk_in (i := 1131) (by decide +kernel) rfl
theorem co_X11_seal : Cond.code yX11_seal cX11_seal 3 (some FieldType.int) ∈ nk_T := nk_in (i := 1134) (by decide +kernel) rfl
theorem my_X11_seal : nk_My yX11_seal cX11_seal 3 (some FieldType.int) 2 := ⟨co_X11_seal, in_RX11, ⟨by decide, by decide⟩, by decide +kernel⟩
theorem im_X11_seal : Cond.instanceMethod yX11_seal ∈ nk_T := nk_in (i := 1132) (by decide +kernel) rfl
theorem se_RX11_X11_seal : Cond.selects RX11 yX11_seal yX11_seal ∈ nk_T := nk_in (i := 1133) (by decide +kernel) rfl
theorem ml_RL_164 : Cond.methodLink RL 164 yX11_copied ∈ nk_T := nk_in (i := 1138) (by decide +kernel) rfl
theorem co_X11_copied : Cond.code yX11_copied cX11_copied 5 (some FieldType.int) ∈ nk_T := nk_in (i := 1141) (by decide +kernel) rfl
theorem my_X11_copied : nk_My yX11_copied cX11_copied 5 (some FieldType.int) 3 := ⟨co_X11_copied, in_RX11, ⟨by decide, by decide⟩, by decide +kernel⟩
theorem im_X11_copied : Cond.instanceMethod yX11_copied ∈ nk_T := nk_in (i := 1139) (by decide +kernel) rfl
theorem se_RX11_X11_copied : Cond.selects RX11 yX11_copied yX11_copied ∈ nk_T := nk_in (i := 1140) (by decide +kernel) rfl
theorem co_L_isCopySo : Cond.code yL_isCopySo cL_isCopySo 9 (some FieldType.boolean) ∈ nk_T := nk_in (i := 1137) (by decide +kernel) rfl
theorem my_L_isCopySo : nk_My yL_isCopySo cL_isCopySo 9 (some FieldType.boolean) 4 := ⟨co_L_isCopySo, in_RL, ⟨by decide, by decide⟩, by decide +kernel⟩
theorem st_L_isCopySo : Cond.static yL_isCopySo ∈ nk_T := nk_in (i := 1136) (by decide +kernel) rfl
theorem ml_RL_190 : Cond.methodLink RL 190 yL_isCopySo ∈ nk_T := nk_in (i := 1135) (by decide +kernel) rfl
theorem co_L_isTamperedSo : Cond.code yL_isTamperedSo cL_isTamperedSo 9 (some FieldType.boolean) ∈ nk_T := nk_in (i := 1130) (by decide +kernel) rfl
theorem my_L_isTamperedSo : nk_My yL_isTamperedSo cL_isTamperedSo 9 (some FieldType.boolean) 5 := ⟨co_L_isTamperedSo, in_RL, ⟨by decide, by decide⟩, by decide +kernel⟩
theorem st_L_isTamperedSo : Cond.static yL_isTamperedSo ∈ nk_T := nk_in (i := 1129) (by decide +kernel) rfl
theorem ml_RL_187 : Cond.methodLink RL 187 yL_isTamperedSo ∈ nk_T := nk_in (i := 1128) (by decide +kernel) rfl
theorem co_L_isActSo : Cond.code yL_isActSo cL_isActSo 17 (some FieldType.boolean) ∈ nk_T := nk_in (i := 1103) (by decide +kernel) rfl
theorem my_L_isActSo : nk_My yL_isActSo cL_isActSo 17 (some FieldType.boolean) 5 := ⟨co_L_isActSo, in_RL, ⟨by decide, by decide⟩, by decide +kernel⟩
theorem st_L_isActSo : Cond.static yL_isActSo ∈ nk_T := nk_in (i := 1102) (by decide +kernel) rfl
theorem ml_RL_183 : Cond.methodLink RL 183 yL_isActSo ∈ nk_T := nk_in (i := 1101) (by decide +kernel) rfl
theorem co_L_isNewsSo : Cond.code yL_isNewsSo cL_isNewsSo 8 (some FieldType.boolean) ∈ nk_T := nk_in (i := 1078) (by decide +kernel) rfl
theorem my_L_isNewsSo : nk_My yL_isNewsSo cL_isNewsSo 8 (some FieldType.boolean) 2 := ⟨co_L_isNewsSo, in_RL, ⟨by decide, by decide⟩, by decide +kernel⟩
theorem st_L_isNewsSo : Cond.static yL_isNewsSo ∈ nk_T := nk_in (i := 1077) (by decide +kernel) rfl
theorem ml_RL_179 : Cond.methodLink RL 179 yL_isNewsSo ∈ nk_T := nk_in (i := 1076) (by decide +kernel) rfl
theorem co_L_areAlike : Cond.code yL_areAlike cL_areAlike 4 (some FieldType.boolean) ∈ nk_T := nk_in (i := 1005) (by decide +kernel) rfl
theorem my_L_areAlike : nk_My yL_areAlike cL_areAlike 4 (some FieldType.boolean) 2 := ⟨co_L_areAlike, in_RL, ⟨by decide, by decide⟩, by decide +kernel⟩
theorem st_L_areAlike : Cond.static yL_areAlike ∈ nk_T := nk_in (i := 1004) (by decide +kernel) rfl
theorem ml_RL_175 : Cond.methodLink RL 175 yL_areAlike ∈ nk_T := nk_in (i := 1003) (by decide +kernel) rfl
theorem co_L_cell : Cond.code yL_cell cL_cell 2 (some FieldType.int) ∈ nk_T := nk_in (i := 188) (by decide +kernel) rfl
theorem my_L_cell : nk_My yL_cell cL_cell 2 (some FieldType.int) 2 := ⟨co_L_cell, in_RL, ⟨by decide, by decide⟩, by decide +kernel⟩
theorem st_L_cell : Cond.static yL_cell ∈ nk_T := nk_in (i := 187) (by decide +kernel) rfl
theorem ml_RL_168 : Cond.methodLink RL 168 yL_cell ∈ nk_T := nk_in (i := 186) (by decide +kernel) rfl
theorem co_L_act : Cond.code yL_act cL_act 10 (some FieldType.int) ∈ nk_T := nk_in (i := 195) (by decide +kernel) rfl
theorem my_L_act : nk_My yL_act cL_act 10 (some FieldType.int) 2 := ⟨co_L_act, in_RL, ⟨by decide, by decide⟩, by decide +kernel⟩
theorem st_L_act : Cond.static yL_act ∈ nk_T := nk_in (i := 194) (by decide +kernel) rfl
theorem ml_RL_172 : Cond.methodLink RL 172 yL_act ∈ nk_T := nk_in (i := 193) (by decide +kernel) rfl
theorem co_X11_init : Cond.code yX11_init cX11_init 2 (none : Option FieldType) ∈ nk_T := nk_in (i := 54) (by decide +kernel) rfl
theorem my_X11_init : nk_My yX11_init cX11_init 2 (none : Option FieldType) 0 := ⟨co_X11_init, in_RX11, ⟨by decide, by decide⟩, by decide +kernel⟩
theorem im_X11_init : Cond.instanceMethod yX11_init ∈ nk_T := nk_in (i := 53) (by decide +kernel) rfl
theorem ml_RL_167 : Cond.methodLink RL 167 yX11_init ∈ nk_T := nk_in (i := 52) (by decide +kernel) rfl
theorem cl_RL_9 : Cond.classLink RL 9 "NotaryKiosk" ∈ nk_T := nk_in (i := 50) (by decide +kernel) rfl
theorem ins_RX11 : Cond.instantiable RX11 9 ∈ nk_T := nk_in (i := 51) (by decide +kernel) rfl
