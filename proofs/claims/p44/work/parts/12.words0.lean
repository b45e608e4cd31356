theorem kc_RJ6_265 : Cond.constant RJ6 265 1431655765 ∈ nk_T := nk_in (i := 342) (by decide +kernel) rfl
theorem kc_RJ6_266 : Cond.constant RJ6 266 858993459 ∈ nk_T := nk_in (i := 343) (by decide +kernel) rfl
theorem kc_RJ6_267 : Cond.constant RJ6 267 252645135 ∈ nk_T := nk_in (i := 344) (by decide +kernel) rfl
theorem ml_RJxa1e45_1 : Cond.methodLink RJxa1e45 1 ⟨"java/lang/Object", "<init>", "()V"⟩ ∈ nk_T := nk_in (i := 89) (by decide +kernel) rfl
theorem oi_i : Cond.instanceMethod objectInit ∈ nk_T := nk_in (i := 56) (by decide +kernel) rfl
theorem oi_c : Cond.code objectInit ⟨#[0xb1]⟩ 1 none ∈ nk_T := nk_in (i := 57) (by decide +kernel) rfl
theorem co_Jxa1e45_init_da8c8 : Cond.code yJxa1e45_init_da8c8 cJxa1e45_init_da8c8 1 (none : Option FieldType) ∈ nk_T := nk_in (i := 88) (by decide +kernel) rfl
theorem in_RJxa1e45 : Cond.initialized RJxa1e45 ∈ nk_T := nk_in (i := 25) (by decide +kernel) rfl
theorem my_Jxa1e45_init_da8c8 : nk_My yJxa1e45_init_da8c8 cJxa1e45_init_da8c8 1 (none : Option FieldType) 0 := ⟨co_Jxa1e45_init_da8c8, in_RJxa1e45, ⟨by decide, by decide⟩, by decide +kernel⟩
theorem im_Jxa1e45_init_da8c8 : Cond.instanceMethod yJxa1e45_init_da8c8 ∈ nk_T := nk_in (i := 87) (by decide +kernel) rfl
theorem ml_RJxc12de_1 : Cond.methodLink RJxc12de 1 yJxa1e45_init_da8c8 ∈ nk_T := nk_in (i := 86) (by decide +kernel) rfl
theorem fk_RJxc12de_7 : nk_Fk RJxc12de 7 0 false [7] := ⟨⟨0, rfl, ⟨(RJx4a65c, TJx4a65c, 3), "java/util/AbstractList", rfl, by decide, nk_in (i := 94) (by decide +kernel) rfl, Or.inl rfl⟩, rfl⟩, trivial⟩
theorem fw_RJxc12de_7_i : nk_Fw RJxc12de true 0 [7] := ⟨fun ci q e h => by
    have e2 : ci = 0 := by omega
    subst e2
    cases h
    exact ⟨Or.inl rfl, Or.inl ⟨by decide +kernel, rfl⟩⟩, trivial⟩
theorem co_Jxc12de_init_da8c8 : Cond.code yJxc12de_init_da8c8 cJxc12de_init_da8c8 1 (none : Option FieldType) ∈ nk_T := nk_in (i := 85) (by decide +kernel) rfl
theorem in_RJxc12de : Cond.initialized RJxc12de ∈ nk_T := nk_in (i := 26) (by decide +kernel) rfl
theorem my_Jxc12de_init_da8c8 : nk_My yJxc12de_init_da8c8 cJxc12de_init_da8c8 1 (none : Option FieldType) 0 := ⟨co_Jxc12de_init_da8c8, in_RJxc12de, ⟨by decide, by decide⟩, by decide +kernel⟩
theorem im_Jxc12de_init_da8c8 : Cond.instanceMethod yJxc12de_init_da8c8 ∈ nk_T := nk_in (i := 84) (by decide +kernel) rfl
theorem ml_RJx4a65c_1 : Cond.methodLink RJx4a65c 1 yJxc12de_init_da8c8 ∈ nk_T := nk_in (i := 83) (by decide +kernel) rfl
theorem fl_RJx4a65c_39 : Cond.fieldLink RJx4a65c 39 "java/util/ArrayList" "DEFAULTCAPACITY_EMPTY_ELEMENTDATA" "[Ljava/lang/Object;" ∈ nk_T := nk_in (i := 90) (by decide +kernel) rfl
theorem fk_RJx4a65c_9 : nk_Fk RJx4a65c 9 1 true [7] := ⟨⟨0, rfl, ⟨(RJx4a65c, TJx4a65c, 3), "java/util/ArrayList", rfl, by decide, nk_in (i := 92) (by decide +kernel) rfl, Or.inl rfl⟩, rfl⟩, trivial⟩
theorem fw_RJx4a65c_9_i : nk_Fw RJx4a65c true 1 [7] := ⟨fun ci q e h => by
    have e2 : ci = 0 := by omega
    subst e2
    cases h
    exact ⟨Or.inl rfl, Or.inr ⟨rfl, Or.inr ⟨.object "java/lang/Object", by decide +kernel⟩⟩⟩, trivial⟩
theorem kc_RJ8_200 : Cond.constant RJ8 200 2147483639 ∈ nk_T := nk_in (i := 554) (by decide +kernel) rfl
theorem co_J8_hugeLength_7cf53 : Cond.code yJ8_hugeLength_7cf53 cJ8_hugeLength_7cf53 3 (some FieldType.int) ∈ nk_T := nk_in (i := 557) (by decide +kernel) rfl
theorem in_RJ8 : Cond.initialized RJ8 ∈ nk_T := nk_in (i := 43) (by decide +kernel) rfl
theorem my_J8_hugeLength_7cf53 : nk_My yJ8_hugeLength_7cf53 cJ8_hugeLength_7cf53 3 (some FieldType.int) 2 := ⟨co_J8_hugeLength_7cf53, in_RJ8, ⟨by decide, by decide⟩, by decide +kernel⟩
theorem st_J8_hugeLength_7cf53 : Cond.static yJ8_hugeLength_7cf53 ∈ nk_T := nk_in (i := 556) (by decide +kernel) rfl
theorem ml_RJ8_201 : Cond.methodLink RJ8 201 yJ8_hugeLength_7cf53 ∈ nk_T := nk_in (i := 555) (by decide +kernel) rfl
theorem ml_RJ8_194 : Cond.methodLink RJ8 194 Lib.Math.max.name ∈ nk_T := nk_in (i := 551) (by decide +kernel) rfl
theorem st_max : Cond.static Lib.Math.max.name ∈ nk_T := nk_in (i := 552) (by decide +kernel) rfl
theorem in_java_lang_Math : Cond.initialized "java/lang/Math" ∈ nk_T := nk_in (i := 44) (by decide +kernel) rfl
theorem co_max : Cond.code Lib.Math.max.name Lib.Math.max.code 2 (some .int) ∈ nk_T := nk_in (i := 553) (by decide +kernel) rfl
theorem cl_RJ7_110 : Cond.classLink RJ7 110 "[Ljava/lang/Object;" ∈ nk_T := nk_in (i := 583) (by decide +kernel) rfl
theorem ml_RJ7_150 : Cond.methodLink RJ7 150 arraycopyName ∈ nk_T := nk_in (i := 589) (by decide +kernel) rfl
theorem na_acpy : Cond.native arraycopyName ∈ nk_T := nk_in (i := 365) (by decide +kernel) rfl
theorem st_acpy : Cond.static arraycopyName ∈ nk_T := nk_in (i := 364) (by decide +kernel) rfl
theorem in_System : Cond.initialized "java/lang/System" ∈ nk_T := nk_in (i := 37) (by decide +kernel) rfl
theorem ml_RJ7_304 : Cond.methodLink RJ7 304 Lib.Math.min.name ∈ nk_T := nk_in (i := 586) (by decide +kernel) rfl
theorem st_min : Cond.static Lib.Math.min.name ∈ nk_T := nk_in (i := 587) (by decide +kernel) rfl
theorem co_min : Cond.code Lib.Math.min.name Lib.Math.min.code 2 (some .int) ∈ nk_T := nk_in (i := 588) (by decide +kernel) rfl
theorem cl_RJ7_2 : Cond.classLink RJ7 2 "java/lang/Object" ∈ nk_T := nk_in (i := 585) (by decide +kernel) rfl
theorem ml_RJ7_86 : Cond.methodLink RJ7 86 ⟨"java/lang/Object", "getClass", "()Ljava/lang/Class;"⟩ ∈ nk_T := nk_in (i := 561) (by decide +kernel) rfl
theorem de_getc : Cond.declares ⟨"java/lang/Object", "getClass", "()Ljava/lang/Class;"⟩ ∈ nk_T := nk_in (i := 1166) (by decide +kernel) rfl
theorem se_getc : Cond.selects "[Ljava/lang/Object;" ⟨"java/lang/Object", "getClass", "()Ljava/lang/Class;"⟩ ⟨"java/lang/Object", "getClass", "()Ljava/lang/Class;"⟩ ∈ nk_T := nk_in (i := 1165) (by decide +kernel) rfl
theorem im_getc : Cond.instanceMethod ⟨"java/lang/Object", "getClass", "()Ljava/lang/Class;"⟩ ∈ nk_T := nk_in (i := 562) (by decide +kernel) rfl
theorem na_getc : Cond.native ⟨"java/lang/Object", "getClass", "()Ljava/lang/Class;"⟩ ∈ nk_T := nk_in (i := 579) (by decide +kernel) rfl
theorem co_J7_copyOf_6403c : Cond.code yJ7_copyOf_6403c cJ7_copyOf_6403c 4 (some (FieldType.array (FieldType.object "java/lang/Object"))) ∈ nk_T := nk_in (i := 582) (by decide +kernel) rfl
theorem in_RJ7 : Cond.initialized RJ7 ∈ nk_T := nk_in (i := 42) (by decide +kernel) rfl
theorem my_J7_copyOf_6403c : nk_My yJ7_copyOf_6403c cJ7_copyOf_6403c 4 (some (FieldType.array (FieldType.object "java/lang/Object"))) 3 := ⟨co_J7_copyOf_6403c, in_RJ7, ⟨by decide, by decide⟩, by decide +kernel⟩
theorem st_J7_copyOf_6403c : Cond.static yJ7_copyOf_6403c ∈ nk_T := nk_in (i := 581) (by decide +kernel) rfl
theorem ml_RJ7_300 : Cond.methodLink RJ7 300 yJ7_copyOf_6403c ∈ nk_T := nk_in (i := 580) (by decide +kernel) rfl
theorem co_J8_newLength_cabcc : Cond.code yJ8_newLength_cabcc cJ8_newLength_cabcc 4 (some FieldType.int) ∈ nk_T := nk_in (i := 550) (by decide +kernel) rfl
theorem my_J8_newLength_cabcc : nk_My yJ8_newLength_cabcc cJ8_newLength_cabcc 4 (some FieldType.int) 3 := ⟨co_J8_newLength_cabcc, in_RJ8, ⟨by decide, by decide⟩, by decide +kernel⟩
theorem st_J8_newLength_cabcc : Cond.static yJ8_newLength_cabcc ∈ nk_T := nk_in (i := 549) (by decide +kernel) rfl
theorem ml_RJx4a65c_73 : Cond.methodLink RJx4a65c 73 yJ8_newLength_cabcc ∈ nk_T := nk_in (i := 548) (by decide +kernel) rfl
theorem co_J7_copyOf_1904c : Cond.code yJ7_copyOf_1904c cJ7_copyOf_1904c 2 (some (FieldType.array (FieldType.object "java/lang/Object"))) ∈ nk_T := nk_in (i := 560) (by decide +kernel) rfl
theorem my_J7_copyOf_1904c : nk_My yJ7_copyOf_1904c cJ7_copyOf_1904c 2 (some (FieldType.array (FieldType.object "java/lang/Object"))) 2 := ⟨co_J7_copyOf_1904c, in_RJ7, ⟨by decide, by decide⟩, by decide +kernel⟩
theorem st_J7_copyOf_1904c : Cond.static yJ7_copyOf_1904c ∈ nk_T := nk_in (i := 559) (by decide +kernel) rfl
theorem ml_RJx4a65c_66 : Cond.methodLink RJx4a65c 66 yJ7_copyOf_1904c ∈ nk_T := nk_in (i := 558) (by decide +kernel) rfl
theorem fw_RJx4a65c_9_n : nk_Fw RJx4a65c false 1 [7] := ⟨fun ci q e h => by
    have e2 : ci = 0 := by omega
    subst e2
    cases h
    exact ⟨Or.inl rfl, Or.inr ⟨rfl, Or.inr ⟨.object "java/lang/Object", by decide +kernel⟩⟩⟩, trivial⟩
theorem cl_RJx4a65c_7 : Cond.classLink RJx4a65c 7 "java/lang/Object" ∈ nk_T := nk_in (i := 591) (by decide +kernel) rfl
theorem ml_RJx4a65c_79 : Cond.methodLink RJx4a65c 79 Lib.Math.max.name ∈ nk_T := nk_in (i := 590) (by decide +kernel) rfl
theorem fk_RJx4a65c_48 : nk_Fk RJx4a65c 48 2 false [7] := ⟨⟨0, rfl, ⟨(RJx4a65c, TJx4a65c, 3), "java/util/ArrayList", rfl, by decide, nk_in (i := 93) (by decide +kernel) rfl, Or.inl rfl⟩, rfl⟩, trivial⟩
theorem ml_RJx4a65c_69 : Cond.methodLink RJx4a65c 69 yJx4a65c_grow_92f84 ∈ nk_T := nk_in (i := 544) (by decide +kernel) rfl
theorem co_Jx4a65c_grow_92f84 : Cond.code yJx4a65c_grow_92f84 cJx4a65c_grow_92f84 4 (some (FieldType.array (FieldType.object "java/lang/Object"))) ∈ nk_T := nk_in (i := 547) (by decide +kernel) rfl
theorem in_RJx4a65c : Cond.initialized RJx4a65c ∈ nk_T := nk_in (i := 27) (by decide +kernel) rfl
theorem my_Jx4a65c_grow_92f84 : nk_My yJx4a65c_grow_92f84 cJx4a65c_grow_92f84 4 (some (FieldType.array (FieldType.object "java/lang/Object"))) 1 := ⟨co_Jx4a65c_grow_92f84, in_RJx4a65c, ⟨by decide, by decide⟩, by decide +kernel⟩
theorem im_Jx4a65c_grow_92f84 : Cond.instanceMethod yJx4a65c_grow_92f84 ∈ nk_T := nk_in (i := 546) (by decide +kernel) rfl
theorem se_RJx4a65c_Jx4a65c_grow_92f84 : Cond.selects RJx4a65c yJx4a65c_grow_92f84 yJx4a65c_grow_92f84 ∈ nk_T := nk_in (i := 6) (by decide +kernel) rfl
theorem co_J3_checkIndex_8e157 : Cond.code yJ3_checkIndex_8e157 cJ3_checkIndex_8e157 3 (some FieldType.int) ∈ nk_T := nk_in (i := 380) (by decide +kernel) rfl
theorem in_RJ3 : Cond.initialized RJ3 ∈ nk_T := nk_in (i := 39) (by decide +kernel) rfl
theorem my_J3_checkIndex_8e157 : nk_My yJ3_checkIndex_8e157 cJ3_checkIndex_8e157 3 (some FieldType.int) 3 := ⟨co_J3_checkIndex_8e157, in_RJ3, ⟨by decide, by decide⟩, by decide +kernel⟩
theorem st_J3_checkIndex_8e157 : Cond.static yJ3_checkIndex_8e157 ∈ nk_T := nk_in (i := 379) (by decide +kernel) rfl
theorem ml_RJ15_105 : Cond.methodLink RJ15 105 yJ3_checkIndex_8e157 ∈ nk_T := nk_in (i := 378) (by decide +kernel) rfl
theorem co_J15_checkIndex_7cf53 : Cond.code yJ15_checkIndex_7cf53 cJ15_checkIndex_7cf53 2 (some FieldType.int) ∈ nk_T := nk_in (i := 377) (by decide +kernel) rfl
theorem in_RJ15 : Cond.initialized RJ15 ∈ nk_T := nk_in (i := 38) (by decide +kernel) rfl
theorem my_J15_checkIndex_7cf53 : nk_My yJ15_checkIndex_7cf53 cJ15_checkIndex_7cf53 2 (some FieldType.int) 2 := ⟨co_J15_checkIndex_7cf53, in_RJ15, ⟨by decide, by decide⟩, by decide +kernel⟩
theorem st_J15_checkIndex_7cf53 : Cond.static yJ15_checkIndex_7cf53 ∈ nk_T := nk_in (i := 376) (by decide +kernel) rfl
theorem ml_RJx4a65c_118 : Cond.methodLink RJx4a65c 118 yJ15_checkIndex_7cf53 ∈ nk_T := nk_in (i := 375) (by decide +kernel) rfl
theorem ml_RJx4a65c_123 : Cond.methodLink RJx4a65c 123 yJx4a65c_elementData_915e3 ∈ nk_T := nk_in (i := 381) (by decide +kernel) rfl
theorem co_Jx4a65c_elementData_915e3 : Cond.code yJx4a65c_elementData_915e3 cJx4a65c_elementData_915e3 2 (some (FieldType.object "java/lang/Object")) ∈ nk_T := nk_in (i := 384) (by decide +kernel) rfl
theorem my_Jx4a65c_elementData_915e3 : nk_My yJx4a65c_elementData_915e3 cJx4a65c_elementData_915e3 2 (some (FieldType.object "java/lang/Object")) 1 := ⟨co_Jx4a65c_elementData_915e3, in_RJx4a65c, ⟨by decide, by decide⟩, by decide +kernel⟩
theorem im_Jx4a65c_elementData_915e3 : Cond.instanceMethod yJx4a65c_elementData_915e3 ∈ nk_T := nk_in (i := 382) (by decide +kernel) rfl
theorem se_RJx4a65c_Jx4a65c_elementData_915e3 : Cond.selects RJx4a65c yJx4a65c_elementData_915e3 yJx4a65c_elementData_915e3 ∈ nk_T := nk_in (i := 383) (by decide +kernel) rfl
theorem fw_RJx4a65c_48_n : nk_Fw RJx4a65c false 2 [7] := ⟨fun ci q e h => by
    have e2 : ci = 0 := by omega
    subst e2
    cases h
    exact ⟨Or.inl rfl, Or.inl ⟨by decide +kernel, rfl⟩⟩, trivial⟩
theorem ml_RJx4a65c_129 : Cond.methodLink RJx4a65c 129 yJx4a65c_grow_d5877 ∈ nk_T := nk_in (i := 540) (by decide +kernel) rfl
theorem co_Jx4a65c_grow_d5877 : Cond.code yJx4a65c_grow_d5877 cJx4a65c_grow_d5877 1 (some (FieldType.array (FieldType.object "java/lang/Object"))) ∈ nk_T := nk_in (i := 543) (by decide +kernel) rfl
theorem my_Jx4a65c_grow_d5877 : nk_My yJx4a65c_grow_d5877 cJx4a65c_grow_d5877 1 (some (FieldType.array (FieldType.object "java/lang/Object"))) 0 := ⟨co_Jx4a65c_grow_d5877, in_RJx4a65c, ⟨by decide, by decide⟩, by decide +kernel⟩
theorem im_Jx4a65c_grow_d5877 : Cond.instanceMethod yJx4a65c_grow_d5877 ∈ nk_T := nk_in (i := 542) (by decide +kernel) rfl
theorem se_RJx4a65c_Jx4a65c_grow_d5877 : Cond.selects RJx4a65c yJx4a65c_grow_d5877 yJx4a65c_grow_d5877 ∈ nk_T := nk_in (i := 5) (by decide +kernel) rfl
theorem fk_RJx4a65c_63 : nk_Fk RJx4a65c 63 0 false [7] := ⟨⟨0, rfl, ⟨(RJx4a65c, TJx4a65c, 3), "java/util/ArrayList", rfl, by decide, nk_in (i := 95) (by decide +kernel) rfl, Or.inr (nk_in (i := 96) (by decide +kernel) rfl)⟩, rfl⟩, trivial⟩
theorem fw_RJx4a65c_63_n : nk_Fw RJx4a65c false 0 [7] := ⟨fun ci q e h => by
    have e2 : ci = 0 := by omega
    subst e2
    cases h
    exact ⟨Or.inl rfl, Or.inl ⟨by decide +kernel, rfl⟩⟩, trivial⟩
theorem ml_RJx4a65c_131 : Cond.methodLink RJx4a65c 131 yJx4a65c_add_72be8 ∈ nk_T := nk_in (i := 536) (by decide +kernel) rfl
theorem co_Jx4a65c_add_72be8 : Cond.code yJx4a65c_add_72be8 cJx4a65c_add_72be8 4 (none : Option FieldType) ∈ nk_T := nk_in (i := 539) (by decide +kernel) rfl
theorem my_Jx4a65c_add_72be8 : nk_My yJx4a65c_add_72be8 cJx4a65c_add_72be8 4 (none : Option FieldType) 3 := ⟨co_Jx4a65c_add_72be8, in_RJx4a65c, ⟨by decide, by decide⟩, by decide +kernel⟩
theorem im_Jx4a65c_add_72be8 : Cond.instanceMethod yJx4a65c_add_72be8 ∈ nk_T := nk_in (i := 538) (by decide +kernel) rfl
theorem se_RJx4a65c_Jx4a65c_add_72be8 : Cond.selects RJx4a65c yJx4a65c_add_72be8 yJx4a65c_add_72be8 ∈ nk_T := nk_in (i := 4) (by decide +kernel) rfl
theorem fk_RX8_9 : nk_Fk RX8 9 5 true [8, 12, 16, 17] := ⟨⟨1, rfl, ⟨(RX0, TX0, 11), "NotaryKiosk$Piece", rfl, by decide, nk_in (i := 499) (by decide +kernel) rfl, Or.inl rfl⟩, rfl⟩, ⟨⟨5, rfl, ⟨(RX4, TX4, 9), "NotaryKiosk$Piece", rfl, by decide, nk_in (i := 499) (by decide +kernel) rfl, Or.inl rfl⟩, rfl⟩, ⟨⟨9, rfl, ⟨(RX9, TX9, 15), "NotaryKiosk$Piece", rfl, by decide, nk_in (i := 499) (by decide +kernel) rfl, Or.inl rfl⟩, rfl⟩, ⟨⟨10, rfl, ⟨(RX10, TX10, 7), "NotaryKiosk$Piece", rfl, by decide, nk_in (i := 499) (by decide +kernel) rfl, Or.inl rfl⟩, rfl⟩, trivial⟩⟩⟩⟩
theorem fw_RX8_9_i : nk_Fw RX8 true 5 [8, 12, 16, 17] := ⟨fun ci q e h => by
    have e2 : ci = 1 := by omega
    subst e2
    cases h
    exact ⟨Or.inr ⟨rfl, rfl, rfl⟩, Or.inr ⟨rfl, Or.inr ⟨.int, by decide +kernel⟩⟩⟩, ⟨fun ci q e h => by
    have e2 : ci = 5 := by omega
    subst e2
    cases h
    exact ⟨Or.inr ⟨rfl, rfl, rfl⟩, Or.inr ⟨rfl, Or.inr ⟨.int, by decide +kernel⟩⟩⟩, ⟨fun ci q e h => by
    have e2 : ci = 9 := by omega
    subst e2
    cases h
    exact ⟨Or.inr ⟨rfl, rfl, rfl⟩, Or.inr ⟨rfl, Or.inr ⟨.int, by decide +kernel⟩⟩⟩, ⟨fun ci q e h => by
    have e2 : ci = 10 := by omega
    subst e2
    cases h
    exact ⟨Or.inr ⟨rfl, rfl, rfl⟩, Or.inr ⟨rfl, Or.inr ⟨.int, by decide +kernel⟩⟩⟩, trivial⟩⟩⟩⟩
theorem co_J7_fill_53178 : Cond.code yJ7_fill_53178 cJ7_fill_53178 4 (none : Option FieldType) ∈ nk_T := nk_in (i := 464) (by decide +kernel) rfl
theorem my_J7_fill_53178 : nk_My yJ7_fill_53178 cJ7_fill_53178 4 (none : Option FieldType) 2 := ⟨co_J7_fill_53178, in_RJ7, ⟨by decide, by decide⟩, by decide +kernel⟩
theorem st_J7_fill_53178 : Cond.static yJ7_fill_53178 ∈ nk_T := nk_in (i := 463) (by decide +kernel) rfl
theorem ml_RX8_15 : Cond.methodLink RX8 15 yJ7_fill_53178 ∈ nk_T := nk_in (i := 462) (by decide +kernel) rfl
theorem ac_int : Cond.arrayClass (newarray.typeOf .int) ∈ nk_T := nk_in (i := 71) (by decide +kernel) rfl
theorem ml_RX8_3 : Cond.methodLink RX8 3 ⟨"java/lang/Object", "<init>", "()V"⟩ ∈ nk_T := nk_in (i := 461) (by decide +kernel) rfl
theorem co_X8_init : Cond.code yX8_init cX8_init 1 (none : Option FieldType) ∈ nk_T := nk_in (i := 460) (by decide +kernel) rfl
theorem in_RX8 : Cond.initialized RX8 ∈ nk_T := nk_in (i := 40) (by decide +kernel) rfl
theorem my_X8_init : nk_My yX8_init cX8_init 1 (none : Option FieldType) 0 := ⟨co_X8_init, in_RX8, ⟨by decide, by decide⟩, by decide +kernel⟩
theorem im_X8_init : Cond.instanceMethod yX8_init ∈ nk_T := nk_in (i := 459) (by decide +kernel) rfl
theorem ml_RX0_3 : Cond.methodLink RX0 3 yX8_init ∈ nk_T := nk_in (i := 810) (by decide +kernel) rfl
theorem fk_RX0_9 : nk_Fk RX0 9 6 true [8] := ⟨⟨1, rfl, ⟨(RX0, TX0, 11), "NotaryKiosk$Act", rfl, by decide, nk_in (i := 811) (by decide +kernel) rfl, Or.inl rfl⟩, rfl⟩, trivial⟩
theorem fw_RX0_9_i : nk_Fw RX0 true 6 [8] := ⟨fun ci q e h => by
    have e2 : ci = 1 := by omega
    subst e2
    cases h
    exact ⟨Or.inr ⟨rfl, rfl, rfl⟩, Or.inr ⟨rfl, Or.inl ⟨"NotaryKiosk$Power", by decide +kernel⟩⟩⟩, trivial⟩
theorem fk_RX0_15 : nk_Fk RX0 15 7 true [8] := ⟨⟨1, rfl, ⟨(RX0, TX0, 11), "NotaryKiosk$Act", rfl, by decide, nk_in (i := 813) (by decide +kernel) rfl, Or.inl rfl⟩, rfl⟩, trivial⟩
theorem fw_RX0_15_i : nk_Fw RX0 true 7 [8] := ⟨fun ci q e h => by
    have e2 : ci = 1 := by omega
    subst e2
    cases h
    exact ⟨Or.inr ⟨rfl, rfl, rfl⟩, Or.inr ⟨rfl, Or.inl ⟨"NotaryKiosk$Deed", by decide +kernel⟩⟩⟩, trivial⟩
theorem fk_RX0_19 : nk_Fk RX0 19 8 true [8] := ⟨⟨1, rfl, ⟨(RX0, TX0, 11), "NotaryKiosk$Act", rfl, by decide, nk_in (i := 815) (by decide +kernel) rfl, Or.inl rfl⟩, rfl⟩, trivial⟩
theorem fw_RX0_19_i : nk_Fw RX0 true 8 [8] := ⟨fun ci q e h => by
    have e2 : ci = 1 := by omega
    subst e2
    cases h
    exact ⟨Or.inr ⟨rfl, rfl, rfl⟩, Or.inr ⟨rfl, Or.inr ⟨.int, by decide +kernel⟩⟩⟩, trivial⟩
theorem fk_RX0_23 : nk_Fk RX0 23 2 false [11] := ⟨⟨4, rfl, ⟨(RX3, TX3, 6), "NotaryKiosk$Deed", rfl, by decide, nk_in (i := 742) (by decide +kernel) rfl, Or.inl rfl⟩, rfl⟩, trivial⟩
theorem fk_RX0_29 : nk_Fk RX0 29 6 false [16] := ⟨⟨9, rfl, ⟨(RX9, TX9, 15), "NotaryKiosk$Power", rfl, by decide, nk_in (i := 466) (by decide +kernel) rfl, Or.inl rfl⟩, rfl⟩, trivial⟩
theorem fk_RX0_34 : nk_Fk RX0 34 3 false [11] := ⟨⟨4, rfl, ⟨(RX3, TX3, 6), "NotaryKiosk$Deed", rfl, by decide, nk_in (i := 745) (by decide +kernel) rfl, Or.inl rfl⟩, rfl⟩, trivial⟩
theorem fk_RX0_37 : nk_Fk RX0 37 4 false [11] := ⟨⟨4, rfl, ⟨(RX3, TX3, 6), "NotaryKiosk$Deed", rfl, by decide, nk_in (i := 748) (by decide +kernel) rfl, Or.inl rfl⟩, rfl⟩, trivial⟩
theorem fk_RX0_40 : nk_Fk RX0 40 5 false [11] := ⟨⟨4, rfl, ⟨(RX3, TX3, 6), "NotaryKiosk$Deed", rfl, by decide, nk_in (i := 751) (by decide +kernel) rfl, Or.inl rfl⟩, rfl⟩, trivial⟩
theorem fk_RX0_43 : nk_Fk RX0 43 1 false [11] := ⟨⟨4, rfl, ⟨(RX3, TX3, 6), "NotaryKiosk$Deed", rfl, by decide, nk_in (i := 739) (by decide +kernel) rfl, Or.inl rfl⟩, rfl⟩, trivial⟩
theorem fk_RX9_13 : nk_Fk RX9 13 7 true [16] := ⟨⟨9, rfl, ⟨(RX9, TX9, 15), "NotaryKiosk$Power", rfl, by decide, nk_in (i := 468) (by decide +kernel) rfl, Or.inl rfl⟩, rfl⟩, trivial⟩
theorem ml_RX0_46 : Cond.methodLink RX0 46 yX9_hasInLine ∈ nk_T := nk_in (i := 791) (by decide +kernel) rfl
theorem co_X9_hasInLine : Cond.code yX9_hasInLine cX9_hasInLine 3 (some FieldType.boolean) ∈ nk_T := nk_in (i := 794) (by decide +kernel) rfl
theorem in_RX9 : Cond.initialized RX9 ∈ nk_T := nk_in (i := 41) (by decide +kernel) rfl
theorem my_X9_hasInLine : nk_My yX9_hasInLine cX9_hasInLine 3 (some FieldType.boolean) 1 := ⟨co_X9_hasInLine, in_RX9, ⟨by decide, by decide⟩, by decide +kernel⟩
theorem im_X9_hasInLine : Cond.instanceMethod yX9_hasInLine ∈ nk_T := nk_in (i := 792) (by decide +kernel) rfl
theorem se_RX9_X9_hasInLine : Cond.selects RX9 yX9_hasInLine yX9_hasInLine ∈ nk_T := nk_in (i := 793) (by decide +kernel) rfl
theorem fk_RX1_7 : nk_Fk RX1 7 0 false [9] := ⟨⟨2, rfl, ⟨(RX1, TX1, 2), "NotaryKiosk$Chain", rfl, by decide, nk_in (i := 123) (by decide +kernel) rfl, Or.inl rfl⟩, rfl⟩, trivial⟩
theorem fw_RX1_7_i : nk_Fw RX1 true 0 [9] := ⟨fun ci q e h => by
    have e2 : ci = 2 := by omega
    subst e2
    cases h
    exact ⟨Or.inr ⟨rfl, rfl, rfl⟩, Or.inl ⟨by decide +kernel, rfl⟩⟩, trivial⟩
theorem co_Jx4a65c_init_da8c8 : Cond.code yJx4a65c_init_da8c8 cJx4a65c_init_da8c8 1 (none : Option FieldType) ∈ nk_T := nk_in (i := 82) (by decide +kernel) rfl
theorem my_Jx4a65c_init_da8c8 : nk_My yJx4a65c_init_da8c8 cJx4a65c_init_da8c8 1 (none : Option FieldType) 0 := ⟨co_Jx4a65c_init_da8c8, in_RJx4a65c, ⟨by decide, by decide⟩, by decide +kernel⟩
theorem im_Jx4a65c_init_da8c8 : Cond.instanceMethod yJx4a65c_init_da8c8 ∈ nk_T := nk_in (i := 81) (by decide +kernel) rfl
theorem ml_RX1_15 : Cond.methodLink RX1 15 yJx4a65c_init_da8c8 ∈ nk_T := nk_in (i := 122) (by decide +kernel) rfl
theorem fk_RX1_16 : nk_Fk RX1 16 1 true [9] := ⟨⟨2, rfl, ⟨(RX1, TX1, 2), "NotaryKiosk$Chain", rfl, by decide, nk_in (i := 124) (by decide +kernel) rfl, Or.inl rfl⟩, rfl⟩, trivial⟩
theorem fw_RX1_16_i : nk_Fw RX1 true 1 [9] := ⟨fun ci q e h => by
    have e2 : ci = 2 := by omega
    subst e2
    cases h
    exact ⟨Or.inr ⟨rfl, rfl, rfl⟩, Or.inr ⟨rfl, Or.inl ⟨"java/util/ArrayList", by decide +kernel⟩⟩⟩, trivial⟩
theorem cl_RX1_13 : Cond.classLink RX1 13 "java/util/ArrayList" ∈ nk_T := nk_in (i := 121) (by decide +kernel) rfl
theorem ins_RJx4a65c : Cond.instantiable RJx4a65c 3 ∈ nk_T := nk_in (i := 79) (by decide +kernel) rfl
theorem ml_RX1_1 : Cond.methodLink RX1 1 ⟨"java/lang/Object", "<init>", "()V"⟩ ∈ nk_T := nk_in (i := 120) (by decide +kernel) rfl
theorem ml_RX1_20 : Cond.methodLink RX1 20 yJx4a65c_size_8abf5 ∈ nk_T := nk_in (i := 861) (by decide +kernel) rfl
theorem co_Jx4a65c_size_8abf5 : Cond.code yJx4a65c_size_8abf5 cJx4a65c_size_8abf5 1 (some FieldType.int) ∈ nk_T := nk_in (i := 203) (by decide +kernel) rfl
theorem my_Jx4a65c_size_8abf5 : nk_My yJx4a65c_size_8abf5 cJx4a65c_size_8abf5 1 (some FieldType.int) 0 := ⟨co_Jx4a65c_size_8abf5, in_RJx4a65c, ⟨by decide, by decide⟩, by decide +kernel⟩
theorem im_Jx4a65c_size_8abf5 : Cond.instanceMethod yJx4a65c_size_8abf5 ∈ nk_T := nk_in (i := 201) (by decide +kernel) rfl
theorem se_RJx4a65c_Jx4a65c_size_8abf5 : Cond.selects RJx4a65c yJx4a65c_size_8abf5 yJx4a65c_size_8abf5 ∈ nk_T := nk_in (i := 202) (by decide +kernel) rfl
theorem ca_Act : nk_Ca "NotaryKiosk$Act" [8] := ⟨⟨1, (RX0, TX0, 11), rfl, rfl, Or.inl rfl⟩, trivial⟩
theorem cl_RX1_28 : Cond.classLink RX1 28 "NotaryKiosk$Act" ∈ nk_T := nk_in (i := 871) (by decide +kernel) rfl
theorem ml_RX1_24 : Cond.methodLink RX1 24 yJx4a65c_get_915e3 ∈ nk_T := nk_in (i := 870) (by decide +kernel) rfl
theorem co_Jx4a65c_get_915e3 : Cond.code yJx4a65c_get_915e3 cJx4a65c_get_915e3 2 (some (FieldType.object "java/lang/Object")) ∈ nk_T := nk_in (i := 374) (by decide +kernel) rfl
theorem my_Jx4a65c_get_915e3 : nk_My yJx4a65c_get_915e3 cJx4a65c_get_915e3 2 (some (FieldType.object "java/lang/Object")) 1 := ⟨co_Jx4a65c_get_915e3, in_RJx4a65c, ⟨by decide, by decide⟩, by decide +kernel⟩
theorem im_Jx4a65c_get_915e3 : Cond.instanceMethod yJx4a65c_get_915e3 ∈ nk_T := nk_in (i := 372) (by decide +kernel) rfl
theorem se_RJx4a65c_Jx4a65c_get_915e3 : Cond.selects RJx4a65c yJx4a65c_get_915e3 yJx4a65c_get_915e3 ∈ nk_T := nk_in (i := 373) (by decide +kernel) rfl
theorem fk_RX1_34 : nk_Fk RX1 34 9 false [8] := ⟨⟨1, rfl, ⟨(RX0, TX0, 11), "NotaryKiosk$Act", rfl, by decide, nk_in (i := 820) (by decide +kernel) rfl, Or.inl rfl⟩, rfl⟩, trivial⟩
theorem co_X11_bit : Cond.code yX11_bit cX11_bit 1 (some FieldType.int) ∈ nk_T := nk_in (i := 313) (by decide +kernel) rfl
theorem in_RX11 : Cond.initialized RX11 ∈ nk_T := nk_in (i := 22) (by decide +kernel) rfl
theorem my_X11_bit : nk_My yX11_bit cX11_bit 1 (some FieldType.int) 1 := ⟨co_X11_bit, in_RX11, ⟨by decide, by decide⟩, by decide +kernel⟩
theorem st_X11_bit : Cond.static yX11_bit ∈ nk_T := nk_in (i := 312) (by decide +kernel) rfl
theorem ml_RX11_279 : Cond.methodLink RX11 279 yX11_bit ∈ nk_T := nk_in (i := 311) (by decide +kernel) rfl
theorem kc_RX11_390 : Cond.constant RX11 390 1000003 ∈ nk_T := nk_in (i := 885) (by decide +kernel) rfl
theorem co_X11_saltOf : Cond.code yX11_saltOf cX11_saltOf 3 (some FieldType.int) ∈ nk_T := nk_in (i := 881) (by decide +kernel) rfl
theorem my_X11_saltOf : nk_My yX11_saltOf cX11_saltOf 3 (some FieldType.int) 3 := ⟨co_X11_saltOf, in_RX11, ⟨by decide, by decide⟩, by decide +kernel⟩
theorem st_X11_saltOf : Cond.static yX11_saltOf ∈ nk_T := nk_in (i := 880) (by decide +kernel) rfl
theorem ml_RX11_391 : Cond.methodLink RX11 391 yX11_saltOf ∈ nk_T := nk_in (i := 879) (by decide +kernel) rfl
theorem co_X11_sealOf : Cond.code yX11_sealOf cX11_sealOf 2 (some FieldType.int) ∈ nk_T := nk_in (i := 884) (by decide +kernel) rfl
theorem my_X11_sealOf : nk_My yX11_sealOf cX11_sealOf 2 (some FieldType.int) 2 := ⟨co_X11_sealOf, in_RX11, ⟨by decide, by decide⟩, by decide +kernel⟩
theorem st_X11_sealOf : Cond.static yX11_sealOf ∈ nk_T := nk_in (i := 883) (by decide +kernel) rfl
theorem ml_RX11_395 : Cond.methodLink RX11 395 yX11_sealOf ∈ nk_T := nk_in (i := 882) (by decide +kernel) rfl
theorem co_X11_hasBit : Cond.code yX11_hasBit cX11_hasBit 2 (some FieldType.boolean) ∈ nk_T := nk_in (i := 310) (by decide +kernel) rfl
theorem my_X11_hasBit : nk_My yX11_hasBit cX11_hasBit 2 (some FieldType.boolean) 2 := ⟨co_X11_hasBit, in_RX11, ⟨by decide, by decide⟩, by decide +kernel⟩
theorem st_X11_hasBit : Cond.static yX11_hasBit ∈ nk_T := nk_in (i := 309) (by decide +kernel) rfl
theorem ml_RX11_282 : Cond.methodLink RX11 282 yX11_hasBit ∈ nk_T := nk_in (i := 875) (by decide +kernel) rfl
theorem co_X11_markOf : Cond.code yX11_markOf cX11_markOf 4 (some FieldType.int) ∈ nk_T := nk_in (i := 878) (by decide +kernel) rfl
theorem my_X11_markOf : nk_My yX11_markOf cX11_markOf 4 (some FieldType.int) 4 := ⟨co_X11_markOf, in_RX11, ⟨by decide, by decide⟩, by decide +kernel⟩
theorem st_X11_markOf : Cond.static yX11_markOf ∈ nk_T := nk_in (i := 877) (by decide +kernel) rfl
theorem ml_RX11_398 : Cond.methodLink RX11 398 yX11_markOf ∈ nk_T := nk_in (i := 876) (by decide +kernel) rfl
theorem fk_RX1_45 : nk_Fk RX1 45 8 true [8] := ⟨⟨1, rfl, ⟨(RX0, TX0, 11), "NotaryKiosk$Act", rfl, by decide, nk_in (i := 817) (by decide +kernel) rfl, Or.inl rfl⟩, rfl⟩, trivial⟩
theorem co_X11_sealFrom : Cond.code yX11_sealFrom cX11_sealFrom 8 (some FieldType.int) ∈ nk_T := nk_in (i := 874) (by decide +kernel) rfl
theorem my_X11_sealFrom : nk_My yX11_sealFrom cX11_sealFrom 8 (some FieldType.int) 5 := ⟨co_X11_sealFrom, in_RX11, ⟨by decide, by decide⟩, by decide +kernel⟩
theorem st_X11_sealFrom : Cond.static yX11_sealFrom ∈ nk_T := nk_in (i := 873) (by decide +kernel) rfl
theorem nl_RX1_49 : Cond.methodLinkNest RX1 49 yX11_sealFrom "NotaryKiosk" ∈ nk_T := nk_in (i := 872) (by decide +kernel) rfl
theorem ml_RX1_41 : Cond.methodLink RX1 41 yX1_sealAhead ∈ nk_T := nk_in (i := 866) (by decide +kernel) rfl
theorem co_X1_sealAhead : Cond.code yX1_sealAhead cX1_sealAhead 2 (some FieldType.int) ∈ nk_T := nk_in (i := 869) (by decide +kernel) rfl
theorem in_RX1 : Cond.initialized RX1 ∈ nk_T := nk_in (i := 28) (by decide +kernel) rfl
theorem my_X1_sealAhead : nk_My yX1_sealAhead cX1_sealAhead 2 (some FieldType.int) 1 := ⟨co_X1_sealAhead, in_RX1, ⟨by decide, by decide⟩, by decide +kernel⟩
theorem im_X1_sealAhead : Cond.instanceMethod yX1_sealAhead ∈ nk_T := nk_in (i := 867) (by decide +kernel) rfl
theorem se_RX1_X1_sealAhead : Cond.selects RX1 yX1_sealAhead yX1_sealAhead ∈ nk_T := nk_in (i := 868) (by decide +kernel) rfl
theorem fw_RX1_34_n : nk_Fw RX1 false 9 [8] := ⟨fun ci q e h => by
    have e2 : ci = 1 := by omega
    subst e2
    cases h
    exact ⟨Or.inl rfl, Or.inl ⟨by decide +kernel, rfl⟩⟩, trivial⟩
theorem ml_RX1_37 : Cond.methodLink RX1 37 yJx4a65c_add_9ea2d ∈ nk_T := nk_in (i := 886) (by decide +kernel) rfl
theorem co_Jx4a65c_add_9ea2d : Cond.code yJx4a65c_add_9ea2d cJx4a65c_add_9ea2d 2 (some FieldType.boolean) ∈ nk_T := nk_in (i := 535) (by decide +kernel) rfl
theorem my_Jx4a65c_add_9ea2d : nk_My yJx4a65c_add_9ea2d cJx4a65c_add_9ea2d 2 (some FieldType.boolean) 1 := ⟨co_Jx4a65c_add_9ea2d, in_RJx4a65c, ⟨by decide, by decide⟩, by decide +kernel⟩
theorem im_Jx4a65c_add_9ea2d : Cond.instanceMethod yJx4a65c_add_9ea2d ∈ nk_T := nk_in (i := 533) (by decide +kernel) rfl
theorem se_RJx4a65c_Jx4a65c_add_9ea2d : Cond.selects RJx4a65c yJx4a65c_add_9ea2d yJx4a65c_add_9ea2d ∈ nk_T := nk_in (i := 534) (by decide +kernel) rfl
theorem ml_RX1_30 : Cond.methodLink RX1 30 yX1_sealNow ∈ nk_T := nk_in (i := 862) (by decide +kernel) rfl
theorem co_X1_sealNow : Cond.code yX1_sealNow cX1_sealNow 3 (some FieldType.int) ∈ nk_T := nk_in (i := 865) (by decide +kernel) rfl
theorem my_X1_sealNow : nk_My yX1_sealNow cX1_sealNow 3 (some FieldType.int) 2 := ⟨co_X1_sealNow, in_RX1, ⟨by decide, by decide⟩, by decide +kernel⟩
theorem im_X1_sealNow : Cond.instanceMethod yX1_sealNow ∈ nk_T := nk_in (i := 864) (by decide +kernel) rfl
theorem se_RX1_X1_sealNow : Cond.selects RX1 yX1_sealNow yX1_sealNow ∈ nk_T := nk_in (i := 15) (by decide +kernel) rfl
theorem fk_RX1_55 : nk_Fk RX1 55 10 false [8] := ⟨⟨1, rfl, ⟨(RX0, TX0, 11), "NotaryKiosk$Act", rfl, by decide, nk_in (i := 822) (by decide +kernel) rfl, Or.inl rfl⟩, rfl⟩, trivial⟩
theorem fk_RX2_9 : nk_Fk RX2 9 0 false [10] := ⟨⟨3, rfl, ⟨(RX2, TX2, 7), "NotaryKiosk$Copy", rfl, by decide, nk_in (i := 918) (by decide +kernel) rfl, Or.inl rfl⟩, rfl⟩, trivial⟩
theorem fw_RX2_9_i : nk_Fw RX2 true 0 [10] := ⟨fun ci q e h => by
    have e2 : ci = 3 := by omega
    subst e2
    cases h
    exact ⟨Or.inr ⟨rfl, rfl, rfl⟩, Or.inl ⟨by decide +kernel, rfl⟩⟩, trivial⟩
theorem fk_RX2_15 : nk_Fk RX2 15 1 false [10] := ⟨⟨3, rfl, ⟨(RX2, TX2, 7), "NotaryKiosk$Copy", rfl, by decide, nk_in (i := 920) (by decide +kernel) rfl, Or.inl rfl⟩, rfl⟩, trivial⟩
theorem fw_RX2_15_i : nk_Fw RX2 true 1 [10] := ⟨fun ci q e h => by
    have e2 : ci = 3 := by omega
    subst e2
    cases h
    exact ⟨Or.inr ⟨rfl, rfl, rfl⟩, Or.inl ⟨by decide +kernel, rfl⟩⟩, trivial⟩
theorem fk_RX2_18 : nk_Fk RX2 18 2 false [10] := ⟨⟨3, rfl, ⟨(RX2, TX2, 7), "NotaryKiosk$Copy", rfl, by decide, nk_in (i := 921) (by decide +kernel) rfl, Or.inl rfl⟩, rfl⟩, trivial⟩
theorem fw_RX2_18_i : nk_Fw RX2 true 2 [10] := ⟨fun ci q e h => by
    have e2 : ci = 3 := by omega
    subst e2
    cases h
    exact ⟨Or.inr ⟨rfl, rfl, rfl⟩, Or.inl ⟨by decide +kernel, rfl⟩⟩, trivial⟩
theorem fk_RX2_21 : nk_Fk RX2 21 3 false [10] := ⟨⟨3, rfl, ⟨(RX2, TX2, 7), "NotaryKiosk$Copy", rfl, by decide, nk_in (i := 923) (by decide +kernel) rfl, Or.inl rfl⟩, rfl⟩, trivial⟩
theorem fw_RX2_21_i : nk_Fw RX2 true 3 [10] := ⟨fun ci q e h => by
    have e2 : ci = 3 := by omega
    subst e2
    cases h
    exact ⟨Or.inr ⟨rfl, rfl, rfl⟩, Or.inl ⟨by decide +kernel, rfl⟩⟩, trivial⟩
theorem fk_RX2_26 : nk_Fk RX2 26 4 true [10] := ⟨⟨3, rfl, ⟨(RX2, TX2, 7), "NotaryKiosk$Copy", rfl, by decide, nk_in (i := 924) (by decide +kernel) rfl, Or.inl rfl⟩, rfl⟩, trivial⟩
theorem fw_RX2_26_i : nk_Fw RX2 true 4 [10] := ⟨fun ci q e h => by
    have e2 : ci = 3 := by omega
    subst e2
    cases h
    exact ⟨Or.inr ⟨rfl, rfl, rfl⟩, Or.inr ⟨rfl, Or.inr ⟨.array .int, by decide +kernel⟩⟩⟩, trivial⟩
theorem fk_RX2_29 : nk_Fk RX2 29 5 true [10] := ⟨⟨3, rfl, ⟨(RX2, TX2, 7), "NotaryKiosk$Copy", rfl, by decide, nk_in (i := 926) (by decide +kernel) rfl, Or.inl rfl⟩, rfl⟩, trivial⟩
theorem fw_RX2_29_i : nk_Fw RX2 true 5 [10] := ⟨fun ci q e h => by
    have e2 : ci = 3 := by omega
    subst e2
    cases h
    exact ⟨Or.inr ⟨rfl, rfl, rfl⟩, Or.inr ⟨rfl, Or.inr ⟨.int, by decide +kernel⟩⟩⟩, trivial⟩
theorem cl_RX2_24 : Cond.classLink RX2 24 "[[I" ∈ nk_T := nk_in (i := 916) (by decide +kernel) rfl
theorem ml_RX2_3 : Cond.methodLink RX2 3 ⟨"java/lang/Object", "<init>", "()V"⟩ ∈ nk_T := nk_in (i := 915) (by decide +kernel) rfl
theorem nl_RX2_33 : Cond.methodLinkNest RX2 33 yX11_hasBit "NotaryKiosk" ∈ nk_T := nk_in (i := 953) (by decide +kernel) rfl
theorem fk_RX2_58 : nk_Fk RX2 58 8 true [8] := ⟨⟨1, rfl, ⟨(RX0, TX0, 11), "NotaryKiosk$Act", rfl, by decide, nk_in (i := 816) (by decide +kernel) rfl, Or.inl rfl⟩, rfl⟩, trivial⟩
theorem nl_RX2_60 : Cond.methodLinkNest RX2 60 yX11_markOf "NotaryKiosk" ∈ nk_T := nk_in (i := 954) (by decide +kernel) rfl
theorem ml_RX2_54 : Cond.methodLink RX2 54 yX2_leavesOut ∈ nk_T := nk_in (i := 949) (by decide +kernel) rfl
theorem co_X2_leavesOut : Cond.code yX2_leavesOut cX2_leavesOut 2 (some FieldType.boolean) ∈ nk_T := nk_in (i := 952) (by decide +kernel) rfl
theorem in_RX2 : Cond.initialized RX2 ∈ nk_T := nk_in (i := 49) (by decide +kernel) rfl
theorem my_X2_leavesOut : nk_My yX2_leavesOut cX2_leavesOut 2 (some FieldType.boolean) 1 := ⟨co_X2_leavesOut, in_RX2, ⟨by decide, by decide⟩, by decide +kernel⟩
theorem im_X2_leavesOut : Cond.instanceMethod yX2_leavesOut ∈ nk_T := nk_in (i := 950) (by decide +kernel) rfl
theorem se_RX2_X2_leavesOut : Cond.selects RX2 yX2_leavesOut yX2_leavesOut ∈ nk_T := nk_in (i := 951) (by decide +kernel) rfl
theorem fk_RX2_49 : nk_Fk RX2 49 9 false [8] := ⟨⟨1, rfl, ⟨(RX0, TX0, 11), "NotaryKiosk$Act", rfl, by decide, nk_in (i := 819) (by decide +kernel) rfl, Or.inl rfl⟩, rfl⟩, trivial⟩
theorem ml_RX2_45 : Cond.methodLink RX2 45 yX1_actOf ∈ nk_T := nk_in (i := 948) (by decide +kernel) rfl
theorem co_X1_actOf : Cond.code yX1_actOf cX1_actOf 2 (some (FieldType.object "NotaryKiosk$Act")) ∈ nk_T := nk_in (i := 903) (by decide +kernel) rfl
theorem my_X1_actOf : nk_My yX1_actOf cX1_actOf 2 (some (FieldType.object "NotaryKiosk$Act")) 1 := ⟨co_X1_actOf, in_RX1, ⟨by decide, by decide⟩, by decide +kernel⟩
theorem im_X1_actOf : Cond.instanceMethod yX1_actOf ∈ nk_T := nk_in (i := 901) (by decide +kernel) rfl
theorem se_RX1_X1_actOf : Cond.selects RX1 yX1_actOf yX1_actOf ∈ nk_T := nk_in (i := 902) (by decide +kernel) rfl
theorem fk_RX2_43 : nk_Fk RX2 43 6 false [10] := ⟨⟨3, rfl, ⟨(RX2, TX2, 7), "NotaryKiosk$Copy", rfl, by decide, nk_in (i := 927) (by decide +kernel) rfl, Or.inl rfl⟩, rfl⟩, trivial⟩
theorem fw_RX2_43_n : nk_Fw RX2 false 6 [10] := ⟨fun ci q e h => by
    have e2 : ci = 3 := by omega
    subst e2
    cases h
    exact ⟨Or.inl rfl, Or.inl ⟨by decide +kernel, rfl⟩⟩, trivial⟩
theorem ml_RX2_37 : Cond.methodLink RX2 37 yX1_sealAhead ∈ nk_T := nk_in (i := 947) (by decide +kernel) rfl
theorem nl_RX2_64 : Cond.methodLinkNest RX2 64 yX11_sealFrom "NotaryKiosk" ∈ nk_T := nk_in (i := 1059) (by decide +kernel) rfl
theorem ml_RX2_68 : Cond.methodLink RX2 68 yX2_tellsRecordAs ∈ nk_T := nk_in (i := 1068) (by decide +kernel) rfl
theorem co_X2_tellsRecordAs : Cond.code yX2_tellsRecordAs cX2_tellsRecordAs 4 (some FieldType.boolean) ∈ nk_T := nk_in (i := 1071) (by decide +kernel) rfl
theorem my_X2_tellsRecordAs : nk_My yX2_tellsRecordAs cX2_tellsRecordAs 4 (some FieldType.boolean) 2 := ⟨co_X2_tellsRecordAs, in_RX2, ⟨by decide, by decide⟩, by decide +kernel⟩
theorem im_X2_tellsRecordAs : Cond.instanceMethod yX2_tellsRecordAs ∈ nk_T := nk_in (i := 1070) (by decide +kernel) rfl
theorem se_RX2_X2_tellsRecordAs : Cond.selects RX2 yX2_tellsRecordAs yX2_tellsRecordAs ∈ nk_T := nk_in (i := 19) (by decide +kernel) rfl
theorem fk_RX3_7 : nk_Fk RX3 7 0 false [11] := ⟨⟨4, rfl, ⟨(RX3, TX3, 6), "NotaryKiosk$Deed", rfl, by decide, nk_in (i := 736) (by decide +kernel) rfl, Or.inl rfl⟩, rfl⟩, trivial⟩
theorem fw_RX3_7_i : nk_Fw RX3 true 0 [11] := ⟨fun ci q e h => by
    have e2 : ci = 4 := by omega
    subst e2
    cases h
    exact ⟨Or.inr ⟨rfl, rfl, rfl⟩, Or.inl ⟨by decide +kernel, rfl⟩⟩, trivial⟩
theorem fk_RX3_13 : nk_Fk RX3 13 1 false [11] := ⟨⟨4, rfl, ⟨(RX3, TX3, 6), "NotaryKiosk$Deed", rfl, by decide, nk_in (i := 738) (by decide +kernel) rfl, Or.inl rfl⟩, rfl⟩, trivial⟩
theorem fw_RX3_13_i : nk_Fw RX3 true 1 [11] := ⟨fun ci q e h => by
    have e2 : ci = 4 := by omega
    subst e2
    cases h
    exact ⟨Or.inr ⟨rfl, rfl, rfl⟩, Or.inl ⟨by decide +kernel, rfl⟩⟩, trivial⟩
theorem fk_RX3_16 : nk_Fk RX3 16 2 false [11] := ⟨⟨4, rfl, ⟨(RX3, TX3, 6), "NotaryKiosk$Deed", rfl, by decide, nk_in (i := 741) (by decide +kernel) rfl, Or.inl rfl⟩, rfl⟩, trivial⟩
theorem fw_RX3_16_i : nk_Fw RX3 true 2 [11] := ⟨fun ci q e h => by
    have e2 : ci = 4 := by omega
    subst e2
    cases h
    exact ⟨Or.inr ⟨rfl, rfl, rfl⟩, Or.inl ⟨by decide +kernel, rfl⟩⟩, trivial⟩
theorem fk_RX3_19 : nk_Fk RX3 19 3 false [11] := ⟨⟨4, rfl, ⟨(RX3, TX3, 6), "NotaryKiosk$Deed", rfl, by decide, nk_in (i := 744) (by decide +kernel) rfl, Or.inl rfl⟩, rfl⟩, trivial⟩
theorem fw_RX3_19_i : nk_Fw RX3 true 3 [11] := ⟨fun ci q e h => by
    have e2 : ci = 4 := by omega
    subst e2
    cases h
    exact ⟨Or.inr ⟨rfl, rfl, rfl⟩, Or.inl ⟨by decide +kernel, rfl⟩⟩, trivial⟩
theorem fk_RX3_22 : nk_Fk RX3 22 4 false [11] := ⟨⟨4, rfl, ⟨(RX3, TX3, 6), "NotaryKiosk$Deed", rfl, by decide, nk_in (i := 747) (by decide +kernel) rfl, Or.inl rfl⟩, rfl⟩, trivial⟩
theorem fw_RX3_22_i : nk_Fw RX3 true 4 [11] := ⟨fun ci q e h => by
    have e2 : ci = 4 := by omega
    subst e2
    cases h
    exact ⟨Or.inr ⟨rfl, rfl, rfl⟩, Or.inl ⟨by decide +kernel, rfl⟩⟩, trivial⟩
theorem fk_RX3_25 : nk_Fk RX3 25 5 false [11] := ⟨⟨4, rfl, ⟨(RX3, TX3, 6), "NotaryKiosk$Deed", rfl, by decide, nk_in (i := 750) (by decide +kernel) rfl, Or.inl rfl⟩, rfl⟩, trivial⟩
theorem fw_RX3_25_i : nk_Fw RX3 true 5 [11] := ⟨fun ci q e h => by
    have e2 : ci = 4 := by omega
    subst e2
    cases h
    exact ⟨Or.inr ⟨rfl, rfl, rfl⟩, Or.inl ⟨by decide +kernel, rfl⟩⟩, trivial⟩
theorem ml_RX3_1 : Cond.methodLink RX3 1 ⟨"java/lang/Object", "<init>", "()V"⟩ ∈ nk_T := nk_in (i := 735) (by decide +kernel) rfl
theorem ml_RX4_1 : Cond.methodLink RX4 1 yX8_init ∈ nk_T := nk_in (i := 705) (by decide +kernel) rfl
theorem fk_RX4_7 : nk_Fk RX4 7 6 false [12] := ⟨⟨5, rfl, ⟨(RX4, TX4, 9), "NotaryKiosk$Deputation", rfl, by decide, nk_in (i := 706) (by decide +kernel) rfl, Or.inl rfl⟩, rfl⟩, trivial⟩
theorem fw_RX4_7_i : nk_Fw RX4 true 6 [12] := ⟨fun ci q e h => by
    have e2 : ci = 5 := by omega
    subst e2
    cases h
    exact ⟨Or.inr ⟨rfl, rfl, rfl⟩, Or.inl ⟨by decide +kernel, rfl⟩⟩, trivial⟩
theorem fk_RX4_13 : nk_Fk RX4 13 7 false [12] := ⟨⟨5, rfl, ⟨(RX4, TX4, 9), "NotaryKiosk$Deputation", rfl, by decide, nk_in (i := 707) (by decide +kernel) rfl, Or.inl rfl⟩, rfl⟩, trivial⟩
theorem fw_RX4_13_i : nk_Fw RX4 true 7 [12] := ⟨fun ci q e h => by
    have e2 : ci = 5 := by omega
    subst e2
    cases h
    exact ⟨Or.inr ⟨rfl, rfl, rfl⟩, Or.inl ⟨by decide +kernel, rfl⟩⟩, trivial⟩
theorem fk_RX4_16 : nk_Fk RX4 16 8 false [12] := ⟨⟨5, rfl, ⟨(RX4, TX4, 9), "NotaryKiosk$Deputation", rfl, by decide, nk_in (i := 708) (by decide +kernel) rfl, Or.inl rfl⟩, rfl⟩, trivial⟩
theorem fw_RX4_16_i : nk_Fw RX4 true 8 [12] := ⟨fun ci q e h => by
    have e2 : ci = 5 := by omega
    subst e2
    cases h
    exact ⟨Or.inr ⟨rfl, rfl, rfl⟩, Or.inl ⟨by decide +kernel, rfl⟩⟩, trivial⟩
theorem fk_RX5_7 : nk_Fk RX5 7 0 false [13] := ⟨⟨6, rfl, ⟨(RX5, TX5, 5), "NotaryKiosk$Draft", rfl, by decide, nk_in (i := 137) (by decide +kernel) rfl, Or.inl rfl⟩, rfl⟩, trivial⟩
theorem fw_RX5_7_i : nk_Fw RX5 true 0 [13] := ⟨fun ci q e h => by
    have e2 : ci = 6 := by omega
    subst e2
    cases h
    exact ⟨Or.inr ⟨rfl, rfl, rfl⟩, Or.inl ⟨by decide +kernel, rfl⟩⟩, trivial⟩
theorem fk_RX5_13 : nk_Fk RX5 13 1 false [13] := ⟨⟨6, rfl, ⟨(RX5, TX5, 5), "NotaryKiosk$Draft", rfl, by decide, nk_in (i := 139) (by decide +kernel) rfl, Or.inl rfl⟩, rfl⟩, trivial⟩
theorem fw_RX5_13_i : nk_Fw RX5 true 1 [13] := ⟨fun ci q e h => by
    have e2 : ci = 6 := by omega
    subst e2
    cases h
    exact ⟨Or.inr ⟨rfl, rfl, rfl⟩, Or.inl ⟨by decide +kernel, rfl⟩⟩, trivial⟩
theorem fk_RX5_16 : nk_Fk RX5 16 2 false [13] := ⟨⟨6, rfl, ⟨(RX5, TX5, 5), "NotaryKiosk$Draft", rfl, by decide, nk_in (i := 141) (by decide +kernel) rfl, Or.inl rfl⟩, rfl⟩, trivial⟩
theorem fw_RX5_16_i : nk_Fw RX5 true 2 [13] := ⟨fun ci q e h => by
    have e2 : ci = 6 := by omega
    subst e2
    cases h
    exact ⟨Or.inr ⟨rfl, rfl, rfl⟩, Or.inl ⟨by decide +kernel, rfl⟩⟩, trivial⟩
theorem fk_RX5_19 : nk_Fk RX5 19 3 false [13] := ⟨⟨6, rfl, ⟨(RX5, TX5, 5), "NotaryKiosk$Draft", rfl, by decide, nk_in (i := 143) (by decide +kernel) rfl, Or.inl rfl⟩, rfl⟩, trivial⟩
theorem fw_RX5_19_i : nk_Fw RX5 true 3 [13] := ⟨fun ci q e h => by
    have e2 : ci = 6 := by omega
    subst e2
    cases h
    exact ⟨Or.inr ⟨rfl, rfl, rfl⟩, Or.inl ⟨by decide +kernel, rfl⟩⟩, trivial⟩
theorem fk_RX5_22 : nk_Fk RX5 22 4 false [13] := ⟨⟨6, rfl, ⟨(RX5, TX5, 5), "NotaryKiosk$Draft", rfl, by decide, nk_in (i := 145) (by decide +kernel) rfl, Or.inl rfl⟩, rfl⟩, trivial⟩
theorem fw_RX5_22_i : nk_Fw RX5 true 4 [13] := ⟨fun ci q e h => by
    have e2 : ci = 6 := by omega
    subst e2
    cases h
    exact ⟨Or.inr ⟨rfl, rfl, rfl⟩, Or.inl ⟨by decide +kernel, rfl⟩⟩, trivial⟩
