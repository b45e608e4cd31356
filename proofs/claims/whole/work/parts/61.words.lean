theorem kc_RJ6_265 : Cond.constant RJ6 265 1431655765 ∈ nk_T := nk_in (i := 410) (by decide +kernel) rfl
theorem kc_RJ6_266 : Cond.constant RJ6 266 858993459 ∈ nk_T := nk_in (i := 411) (by decide +kernel) rfl
theorem kc_RJ6_267 : Cond.constant RJ6 267 252645135 ∈ nk_T := nk_in (i := 412) (by decide +kernel) rfl
theorem ml_RJxa1e45_1 : Cond.methodLink RJxa1e45 1 ⟨"java/lang/Object", "<init>", "()V"⟩ ∈ nk_T := nk_in (i := 130) (by decide +kernel) rfl
theorem oi_i : Cond.instanceMethod objectInit ∈ nk_T := nk_in (i := 97) (by decide +kernel) rfl
theorem oi_c : Cond.code objectInit ⟨#[0xb1]⟩ 1 none ∈ nk_T := nk_in (i := 98) (by decide +kernel) rfl
theorem co_Jxa1e45_init_da8c8 : Cond.code yJxa1e45_init_da8c8 cJxa1e45_init_da8c8 1 (none : Option FieldType) ∈ nk_T := nk_in (i := 129) (by decide +kernel) rfl
theorem in_RJxa1e45 : Cond.initialized RJxa1e45 ∈ nk_T := nk_in (i := 65) (by decide +kernel) rfl
theorem my_Jxa1e45_init_da8c8 : nk_My yJxa1e45_init_da8c8 cJxa1e45_init_da8c8 1 (none : Option FieldType) 0 := ⟨co_Jxa1e45_init_da8c8, in_RJxa1e45, ⟨by decide, by decide⟩, by decide +kernel⟩
theorem im_Jxa1e45_init_da8c8 : Cond.instanceMethod yJxa1e45_init_da8c8 ∈ nk_T := nk_in (i := 128) (by decide +kernel) rfl
theorem ml_RJxc12de_1 : Cond.methodLink RJxc12de 1 yJxa1e45_init_da8c8 ∈ nk_T := nk_in (i := 127) (by decide +kernel) rfl
theorem fk_RJxc12de_7 : nk_Fk RJxc12de 7 0 false [7] := ⟨⟨0, rfl, ⟨(RJx4a65c, TJx4a65c, 3), "java/util/AbstractList", rfl, by decide, nk_in (i := 135) (by decide +kernel) rfl, Or.inl rfl⟩, rfl⟩, trivial⟩
theorem fw_RJxc12de_7_i : nk_Fw RJxc12de true 0 [7] := ⟨fun ci q e h => by
    have e2 : ci = 0 := by omega
    subst e2
    cases h
    exact ⟨Or.inl rfl, Or.inl ⟨by decide +kernel, rfl⟩⟩, trivial⟩
theorem co_Jxc12de_init_da8c8 : Cond.code yJxc12de_init_da8c8 cJxc12de_init_da8c8 1 (none : Option FieldType) ∈ nk_T := nk_in (i := 126) (by decide +kernel) rfl
theorem in_RJxc12de : Cond.initialized RJxc12de ∈ nk_T := nk_in (i := 66) (by decide +kernel) rfl
theorem my_Jxc12de_init_da8c8 : nk_My yJxc12de_init_da8c8 cJxc12de_init_da8c8 1 (none : Option FieldType) 0 := ⟨co_Jxc12de_init_da8c8, in_RJxc12de, ⟨by decide, by decide⟩, by decide +kernel⟩
theorem im_Jxc12de_init_da8c8 : Cond.instanceMethod yJxc12de_init_da8c8 ∈ nk_T := nk_in (i := 125) (by decide +kernel) rfl
theorem ml_RJx4a65c_1 : Cond.methodLink RJx4a65c 1 yJxc12de_init_da8c8 ∈ nk_T := nk_in (i := 124) (by decide +kernel) rfl
theorem fl_RJx4a65c_39 : Cond.fieldLink RJx4a65c 39 "java/util/ArrayList" "DEFAULTCAPACITY_EMPTY_ELEMENTDATA" "[Ljava/lang/Object;" ∈ nk_T := nk_in (i := 131) (by decide +kernel) rfl
theorem fk_RJx4a65c_9 : nk_Fk RJx4a65c 9 1 true [7] := ⟨⟨0, rfl, ⟨(RJx4a65c, TJx4a65c, 3), "java/util/ArrayList", rfl, by decide, nk_in (i := 133) (by decide +kernel) rfl, Or.inl rfl⟩, rfl⟩, trivial⟩
theorem fw_RJx4a65c_9_i : nk_Fw RJx4a65c true 1 [7] := ⟨fun ci q e h => by
    have e2 : ci = 0 := by omega
    subst e2
    cases h
    exact ⟨Or.inl rfl, Or.inr ⟨rfl, Or.inr ⟨.object "java/lang/Object", by decide +kernel⟩⟩⟩, trivial⟩
theorem kc_RJ8_200 : Cond.constant RJ8 200 2147483639 ∈ nk_T := nk_in (i := 624) (by decide +kernel) rfl
theorem co_J8_hugeLength_7cf53 : Cond.code yJ8_hugeLength_7cf53 cJ8_hugeLength_7cf53 3 (some FieldType.int) ∈ nk_T := nk_in (i := 627) (by decide +kernel) rfl
theorem in_RJ8 : Cond.initialized RJ8 ∈ nk_T := nk_in (i := 84) (by decide +kernel) rfl
theorem my_J8_hugeLength_7cf53 : nk_My yJ8_hugeLength_7cf53 cJ8_hugeLength_7cf53 3 (some FieldType.int) 2 := ⟨co_J8_hugeLength_7cf53, in_RJ8, ⟨by decide, by decide⟩, by decide +kernel⟩
theorem st_J8_hugeLength_7cf53 : Cond.static yJ8_hugeLength_7cf53 ∈ nk_T := nk_in (i := 626) (by decide +kernel) rfl
theorem ml_RJ8_201 : Cond.methodLink RJ8 201 yJ8_hugeLength_7cf53 ∈ nk_T := nk_in (i := 625) (by decide +kernel) rfl
theorem ml_RJ8_194 : Cond.methodLink RJ8 194 Lib.Math.max.name ∈ nk_T := nk_in (i := 621) (by decide +kernel) rfl
theorem st_max : Cond.static Lib.Math.max.name ∈ nk_T := nk_in (i := 622) (by decide +kernel) rfl
theorem in_java_lang_Math : Cond.initialized "java/lang/Math" ∈ nk_T := nk_in (i := 85) (by decide +kernel) rfl
theorem co_max : Cond.code Lib.Math.max.name Lib.Math.max.code 2 (some .int) ∈ nk_T := nk_in (i := 623) (by decide +kernel) rfl
theorem cl_RJ7_110 : Cond.classLink RJ7 110 "[Ljava/lang/Object;" ∈ nk_T := nk_in (i := 654) (by decide +kernel) rfl
theorem ml_RJ7_150 : Cond.methodLink RJ7 150 arraycopyName ∈ nk_T := nk_in (i := 660) (by decide +kernel) rfl
theorem na_acpy : Cond.native arraycopyName ∈ nk_T := nk_in (i := 439) (by decide +kernel) rfl
theorem st_acpy : Cond.static arraycopyName ∈ nk_T := nk_in (i := 438) (by decide +kernel) rfl
theorem in_System : Cond.initialized "java/lang/System" ∈ nk_T := nk_in (i := 78) (by decide +kernel) rfl
theorem ml_RJ7_304 : Cond.methodLink RJ7 304 Lib.Math.min.name ∈ nk_T := nk_in (i := 657) (by decide +kernel) rfl
theorem st_min : Cond.static Lib.Math.min.name ∈ nk_T := nk_in (i := 658) (by decide +kernel) rfl
theorem co_min : Cond.code Lib.Math.min.name Lib.Math.min.code 2 (some .int) ∈ nk_T := nk_in (i := 659) (by decide +kernel) rfl
theorem cl_RJ7_2 : Cond.classLink RJ7 2 "java/lang/Object" ∈ nk_T := nk_in (i := 656) (by decide +kernel) rfl
theorem ml_RJ7_86 : Cond.methodLink RJ7 86 ⟨"java/lang/Object", "getClass", "()Ljava/lang/Class;"⟩ ∈ nk_T := nk_in (i := 631) (by decide +kernel) rfl
theorem de_getc : Cond.declares ⟨"java/lang/Object", "getClass", "()Ljava/lang/Class;"⟩ ∈ nk_T := nk_in (i := 1778) (by decide +kernel) rfl
theorem se_getc : Cond.selects "[Ljava/lang/Object;" ⟨"java/lang/Object", "getClass", "()Ljava/lang/Class;"⟩ ⟨"java/lang/Object", "getClass", "()Ljava/lang/Class;"⟩ ∈ nk_T := nk_in (i := 1777) (by decide +kernel) rfl
theorem im_getc : Cond.instanceMethod ⟨"java/lang/Object", "getClass", "()Ljava/lang/Class;"⟩ ∈ nk_T := nk_in (i := 632) (by decide +kernel) rfl
theorem na_getc : Cond.native ⟨"java/lang/Object", "getClass", "()Ljava/lang/Class;"⟩ ∈ nk_T := nk_in (i := 650) (by decide +kernel) rfl
theorem co_J7_copyOf_6403c : Cond.code yJ7_copyOf_6403c cJ7_copyOf_6403c 4 (some (FieldType.array (FieldType.object "java/lang/Object"))) ∈ nk_T := nk_in (i := 653) (by decide +kernel) rfl
theorem in_RJ7 : Cond.initialized RJ7 ∈ nk_T := nk_in (i := 83) (by decide +kernel) rfl
theorem my_J7_copyOf_6403c : nk_My yJ7_copyOf_6403c cJ7_copyOf_6403c 4 (some (FieldType.array (FieldType.object "java/lang/Object"))) 3 := ⟨co_J7_copyOf_6403c, in_RJ7, ⟨by decide, by decide⟩, by decide +kernel⟩
theorem st_J7_copyOf_6403c : Cond.static yJ7_copyOf_6403c ∈ nk_T := nk_in (i := 652) (by decide +kernel) rfl
theorem ml_RJ7_300 : Cond.methodLink RJ7 300 yJ7_copyOf_6403c ∈ nk_T := nk_in (i := 651) (by decide +kernel) rfl
theorem co_J8_newLength_cabcc : Cond.code yJ8_newLength_cabcc cJ8_newLength_cabcc 4 (some FieldType.int) ∈ nk_T := nk_in (i := 620) (by decide +kernel) rfl
theorem my_J8_newLength_cabcc : nk_My yJ8_newLength_cabcc cJ8_newLength_cabcc 4 (some FieldType.int) 3 := ⟨co_J8_newLength_cabcc, in_RJ8, ⟨by decide, by decide⟩, by decide +kernel⟩
theorem st_J8_newLength_cabcc : Cond.static yJ8_newLength_cabcc ∈ nk_T := nk_in (i := 619) (by decide +kernel) rfl
theorem ml_RJx4a65c_73 : Cond.methodLink RJx4a65c 73 yJ8_newLength_cabcc ∈ nk_T := nk_in (i := 618) (by decide +kernel) rfl
theorem co_J7_copyOf_1904c : Cond.code yJ7_copyOf_1904c cJ7_copyOf_1904c 2 (some (FieldType.array (FieldType.object "java/lang/Object"))) ∈ nk_T := nk_in (i := 630) (by decide +kernel) rfl
theorem my_J7_copyOf_1904c : nk_My yJ7_copyOf_1904c cJ7_copyOf_1904c 2 (some (FieldType.array (FieldType.object "java/lang/Object"))) 2 := ⟨co_J7_copyOf_1904c, in_RJ7, ⟨by decide, by decide⟩, by decide +kernel⟩
theorem st_J7_copyOf_1904c : Cond.static yJ7_copyOf_1904c ∈ nk_T := nk_in (i := 629) (by decide +kernel) rfl
theorem ml_RJx4a65c_66 : Cond.methodLink RJx4a65c 66 yJ7_copyOf_1904c ∈ nk_T := nk_in (i := 628) (by decide +kernel) rfl
theorem fw_RJx4a65c_9_n : nk_Fw RJx4a65c false 1 [7] := ⟨fun ci q e h => by
    have e2 : ci = 0 := by omega
    subst e2
    cases h
    exact ⟨Or.inl rfl, Or.inr ⟨rfl, Or.inr ⟨.object "java/lang/Object", by decide +kernel⟩⟩⟩, trivial⟩
theorem cl_RJx4a65c_7 : Cond.classLink RJx4a65c 7 "java/lang/Object" ∈ nk_T := nk_in (i := 662) (by decide +kernel) rfl
theorem ml_RJx4a65c_79 : Cond.methodLink RJx4a65c 79 Lib.Math.max.name ∈ nk_T := nk_in (i := 661) (by decide +kernel) rfl
theorem fk_RJx4a65c_48 : nk_Fk RJx4a65c 48 2 false [7] := ⟨⟨0, rfl, ⟨(RJx4a65c, TJx4a65c, 3), "java/util/ArrayList", rfl, by decide, nk_in (i := 134) (by decide +kernel) rfl, Or.inl rfl⟩, rfl⟩, trivial⟩
theorem ml_RJx4a65c_69 : Cond.methodLink RJx4a65c 69 yJx4a65c_grow_92f84 ∈ nk_T := nk_in (i := 614) (by decide +kernel) rfl
theorem co_Jx4a65c_grow_92f84 : Cond.code yJx4a65c_grow_92f84 cJx4a65c_grow_92f84 4 (some (FieldType.array (FieldType.object "java/lang/Object"))) ∈ nk_T := nk_in (i := 617) (by decide +kernel) rfl
theorem in_RJx4a65c : Cond.initialized RJx4a65c ∈ nk_T := nk_in (i := 67) (by decide +kernel) rfl
theorem my_Jx4a65c_grow_92f84 : nk_My yJx4a65c_grow_92f84 cJx4a65c_grow_92f84 4 (some (FieldType.array (FieldType.object "java/lang/Object"))) 1 := ⟨co_Jx4a65c_grow_92f84, in_RJx4a65c, ⟨by decide, by decide⟩, by decide +kernel⟩
theorem im_Jx4a65c_grow_92f84 : Cond.instanceMethod yJx4a65c_grow_92f84 ∈ nk_T := nk_in (i := 616) (by decide +kernel) rfl
theorem se_RJx4a65c_Jx4a65c_grow_92f84 : Cond.selects RJx4a65c yJx4a65c_grow_92f84 yJx4a65c_grow_92f84 ∈ nk_T := nk_in (i := 6) (by decide +kernel) rfl
theorem co_J3_checkIndex_8e157 : Cond.code yJ3_checkIndex_8e157 cJ3_checkIndex_8e157 3 (some FieldType.int) ∈ nk_T := nk_in (i := 266) (by decide +kernel) rfl
theorem in_RJ3 : Cond.initialized RJ3 ∈ nk_T := nk_in (i := 80) (by decide +kernel) rfl
theorem my_J3_checkIndex_8e157 : nk_My yJ3_checkIndex_8e157 cJ3_checkIndex_8e157 3 (some FieldType.int) 3 := ⟨co_J3_checkIndex_8e157, in_RJ3, ⟨by decide, by decide⟩, by decide +kernel⟩
theorem st_J3_checkIndex_8e157 : Cond.static yJ3_checkIndex_8e157 ∈ nk_T := nk_in (i := 265) (by decide +kernel) rfl
theorem ml_RJ15_105 : Cond.methodLink RJ15 105 yJ3_checkIndex_8e157 ∈ nk_T := nk_in (i := 264) (by decide +kernel) rfl
theorem co_J15_checkIndex_7cf53 : Cond.code yJ15_checkIndex_7cf53 cJ15_checkIndex_7cf53 2 (some FieldType.int) ∈ nk_T := nk_in (i := 263) (by decide +kernel) rfl
theorem in_RJ15 : Cond.initialized RJ15 ∈ nk_T := nk_in (i := 79) (by decide +kernel) rfl
theorem my_J15_checkIndex_7cf53 : nk_My yJ15_checkIndex_7cf53 cJ15_checkIndex_7cf53 2 (some FieldType.int) 2 := ⟨co_J15_checkIndex_7cf53, in_RJ15, ⟨by decide, by decide⟩, by decide +kernel⟩
theorem st_J15_checkIndex_7cf53 : Cond.static yJ15_checkIndex_7cf53 ∈ nk_T := nk_in (i := 262) (by decide +kernel) rfl
theorem ml_RJx4a65c_118 : Cond.methodLink RJx4a65c 118 yJ15_checkIndex_7cf53 ∈ nk_T := nk_in (i := 261) (by decide +kernel) rfl
theorem ml_RJx4a65c_123 : Cond.methodLink RJx4a65c 123 yJx4a65c_elementData_915e3 ∈ nk_T := nk_in (i := 267) (by decide +kernel) rfl
theorem co_Jx4a65c_elementData_915e3 : Cond.code yJx4a65c_elementData_915e3 cJx4a65c_elementData_915e3 2 (some (FieldType.object "java/lang/Object")) ∈ nk_T := nk_in (i := 270) (by decide +kernel) rfl
theorem my_Jx4a65c_elementData_915e3 : nk_My yJx4a65c_elementData_915e3 cJx4a65c_elementData_915e3 2 (some (FieldType.object "java/lang/Object")) 1 := ⟨co_Jx4a65c_elementData_915e3, in_RJx4a65c, ⟨by decide, by decide⟩, by decide +kernel⟩
theorem im_Jx4a65c_elementData_915e3 : Cond.instanceMethod yJx4a65c_elementData_915e3 ∈ nk_T := nk_in (i := 268) (by decide +kernel) rfl
theorem se_RJx4a65c_Jx4a65c_elementData_915e3 : Cond.selects RJx4a65c yJx4a65c_elementData_915e3 yJx4a65c_elementData_915e3 ∈ nk_T := nk_in (i := 269) (by decide +kernel) rfl
theorem fw_RJx4a65c_48_n : nk_Fw RJx4a65c false 2 [7] := ⟨fun ci q e h => by
    have e2 : ci = 0 := by omega
    subst e2
    cases h
    exact ⟨Or.inl rfl, Or.inl ⟨by decide +kernel, rfl⟩⟩, trivial⟩
theorem ml_RJx4a65c_129 : Cond.methodLink RJx4a65c 129 yJx4a65c_grow_d5877 ∈ nk_T := nk_in (i := 610) (by decide +kernel) rfl
theorem co_Jx4a65c_grow_d5877 : Cond.code yJx4a65c_grow_d5877 cJx4a65c_grow_d5877 1 (some (FieldType.array (FieldType.object "java/lang/Object"))) ∈ nk_T := nk_in (i := 613) (by decide +kernel) rfl
theorem my_Jx4a65c_grow_d5877 : nk_My yJx4a65c_grow_d5877 cJx4a65c_grow_d5877 1 (some (FieldType.array (FieldType.object "java/lang/Object"))) 0 := ⟨co_Jx4a65c_grow_d5877, in_RJx4a65c, ⟨by decide, by decide⟩, by decide +kernel⟩
theorem im_Jx4a65c_grow_d5877 : Cond.instanceMethod yJx4a65c_grow_d5877 ∈ nk_T := nk_in (i := 612) (by decide +kernel) rfl
theorem se_RJx4a65c_Jx4a65c_grow_d5877 : Cond.selects RJx4a65c yJx4a65c_grow_d5877 yJx4a65c_grow_d5877 ∈ nk_T := nk_in (i := 5) (by decide +kernel) rfl
theorem fk_RJx4a65c_63 : nk_Fk RJx4a65c 63 0 false [7] := ⟨⟨0, rfl, ⟨(RJx4a65c, TJx4a65c, 3), "java/util/ArrayList", rfl, by decide, nk_in (i := 136) (by decide +kernel) rfl, Or.inr (nk_in (i := 137) (by decide +kernel) rfl)⟩, rfl⟩, trivial⟩
theorem fw_RJx4a65c_63_n : nk_Fw RJx4a65c false 0 [7] := ⟨fun ci q e h => by
    have e2 : ci = 0 := by omega
    subst e2
    cases h
    exact ⟨Or.inl rfl, Or.inl ⟨by decide +kernel, rfl⟩⟩, trivial⟩
theorem ml_RJx4a65c_131 : Cond.methodLink RJx4a65c 131 yJx4a65c_add_72be8 ∈ nk_T := nk_in (i := 606) (by decide +kernel) rfl
theorem co_Jx4a65c_add_72be8 : Cond.code yJx4a65c_add_72be8 cJx4a65c_add_72be8 4 (none : Option FieldType) ∈ nk_T := nk_in (i := 609) (by decide +kernel) rfl
theorem my_Jx4a65c_add_72be8 : nk_My yJx4a65c_add_72be8 cJx4a65c_add_72be8 4 (none : Option FieldType) 3 := ⟨co_Jx4a65c_add_72be8, in_RJx4a65c, ⟨by decide, by decide⟩, by decide +kernel⟩
theorem im_Jx4a65c_add_72be8 : Cond.instanceMethod yJx4a65c_add_72be8 ∈ nk_T := nk_in (i := 608) (by decide +kernel) rfl
theorem se_RJx4a65c_Jx4a65c_add_72be8 : Cond.selects RJx4a65c yJx4a65c_add_72be8 yJx4a65c_add_72be8 ∈ nk_T := nk_in (i := 4) (by decide +kernel) rfl
theorem fk_RX8_9 : nk_Fk RX8 9 5 true [8, 12, 16, 17] := ⟨⟨1, rfl, ⟨(RX0, TX0, 11), "NotaryKiosk$Piece", rfl, by decide, nk_in (i := 569) (by decide +kernel) rfl, Or.inl rfl⟩, rfl⟩, ⟨⟨5, rfl, ⟨(RX4, TX4, 9), "NotaryKiosk$Piece", rfl, by decide, nk_in (i := 569) (by decide +kernel) rfl, Or.inl rfl⟩, rfl⟩, ⟨⟨9, rfl, ⟨(RX9, TX9, 15), "NotaryKiosk$Piece", rfl, by decide, nk_in (i := 569) (by decide +kernel) rfl, Or.inl rfl⟩, rfl⟩, ⟨⟨10, rfl, ⟨(RX10, TX10, 7), "NotaryKiosk$Piece", rfl, by decide, nk_in (i := 569) (by decide +kernel) rfl, Or.inl rfl⟩, rfl⟩, trivial⟩⟩⟩⟩
theorem fw_RX8_9_i : nk_Fw RX8 true 5 [8, 12, 16, 17] := ⟨fun ci q e h => by
    have e2 : ci = 1 := by omega
    subst e2
    cases h
    exact ⟨Or.inr ⟨rfl, rfl, rfl⟩, Or.inr ⟨rfl, Or.inr ⟨.int, by decide +kernel⟩⟩⟩, ⟨fun ci q e h => by
    have e2 : ci = 5 := by omega
    subst e2
    cases h
    exact ⟨Or.inr ⟨rfl, rfl, rfl⟩, Or.inr ⟨rfl, Or.inr ⟨.int, by decide +kernel⟩⟩⟩, ⟨fun ci q e h => by
    have e2 : ci = 9 := by omega
    subst e2
    cases h
    exact ⟨Or.inr ⟨rfl, rfl, rfl⟩, Or.inr ⟨rfl, Or.inr ⟨.int, by decide +kernel⟩⟩⟩, ⟨fun ci q e h => by
    have e2 : ci = 10 := by omega
    subst e2
    cases h
    exact ⟨Or.inr ⟨rfl, rfl, rfl⟩, Or.inr ⟨rfl, Or.inr ⟨.int, by decide +kernel⟩⟩⟩, trivial⟩⟩⟩⟩
theorem co_J7_fill_53178 : Cond.code yJ7_fill_53178 cJ7_fill_53178 4 (none : Option FieldType) ∈ nk_T := nk_in (i := 533) (by decide +kernel) rfl
theorem my_J7_fill_53178 : nk_My yJ7_fill_53178 cJ7_fill_53178 4 (none : Option FieldType) 2 := ⟨co_J7_fill_53178, in_RJ7, ⟨by decide, by decide⟩, by decide +kernel⟩
theorem st_J7_fill_53178 : Cond.static yJ7_fill_53178 ∈ nk_T := nk_in (i := 532) (by decide +kernel) rfl
theorem ml_RX8_15 : Cond.methodLink RX8 15 yJ7_fill_53178 ∈ nk_T := nk_in (i := 531) (by decide +kernel) rfl
theorem ac_int : Cond.arrayClass (newarray.typeOf .int) ∈ nk_T := nk_in (i := 112) (by decide +kernel) rfl
theorem ml_RX8_3 : Cond.methodLink RX8 3 ⟨"java/lang/Object", "<init>", "()V"⟩ ∈ nk_T := nk_in (i := 530) (by decide +kernel) rfl
theorem co_X8_init : Cond.code yX8_init cX8_init 1 (none : Option FieldType) ∈ nk_T := nk_in (i := 529) (by decide +kernel) rfl
theorem in_RX8 : Cond.initialized RX8 ∈ nk_T := nk_in (i := 81) (by decide +kernel) rfl
theorem my_X8_init : nk_My yX8_init cX8_init 1 (none : Option FieldType) 0 := ⟨co_X8_init, in_RX8, ⟨by decide, by decide⟩, by decide +kernel⟩
theorem im_X8_init : Cond.instanceMethod yX8_init ∈ nk_T := nk_in (i := 528) (by decide +kernel) rfl
theorem ml_RX0_3 : Cond.methodLink RX0 3 yX8_init ∈ nk_T := nk_in (i := 900) (by decide +kernel) rfl
theorem fk_RX0_9 : nk_Fk RX0 9 6 true [8] := ⟨⟨1, rfl, ⟨(RX0, TX0, 11), "NotaryKiosk$Act", rfl, by decide, nk_in (i := 901) (by decide +kernel) rfl, Or.inl rfl⟩, rfl⟩, trivial⟩
theorem fw_RX0_9_i : nk_Fw RX0 true 6 [8] := ⟨fun ci q e h => by
    have e2 : ci = 1 := by omega
    subst e2
    cases h
    exact ⟨Or.inr ⟨rfl, rfl, rfl⟩, Or.inr ⟨rfl, Or.inl ⟨"NotaryKiosk$Power", by decide +kernel⟩⟩⟩, trivial⟩
theorem fk_RX0_15 : nk_Fk RX0 15 7 true [8] := ⟨⟨1, rfl, ⟨(RX0, TX0, 11), "NotaryKiosk$Act", rfl, by decide, nk_in (i := 903) (by decide +kernel) rfl, Or.inl rfl⟩, rfl⟩, trivial⟩
theorem fw_RX0_15_i : nk_Fw RX0 true 7 [8] := ⟨fun ci q e h => by
    have e2 : ci = 1 := by omega
    subst e2
    cases h
    exact ⟨Or.inr ⟨rfl, rfl, rfl⟩, Or.inr ⟨rfl, Or.inl ⟨"NotaryKiosk$Deed", by decide +kernel⟩⟩⟩, trivial⟩
theorem fk_RX0_19 : nk_Fk RX0 19 8 true [8] := ⟨⟨1, rfl, ⟨(RX0, TX0, 11), "NotaryKiosk$Act", rfl, by decide, nk_in (i := 905) (by decide +kernel) rfl, Or.inl rfl⟩, rfl⟩, trivial⟩
theorem fw_RX0_19_i : nk_Fw RX0 true 8 [8] := ⟨fun ci q e h => by
    have e2 : ci = 1 := by omega
    subst e2
    cases h
    exact ⟨Or.inr ⟨rfl, rfl, rfl⟩, Or.inr ⟨rfl, Or.inr ⟨.int, by decide +kernel⟩⟩⟩, trivial⟩
theorem fk_RX0_23 : nk_Fk RX0 23 2 false [11] := ⟨⟨4, rfl, ⟨(RX3, TX3, 6), "NotaryKiosk$Deed", rfl, by decide, nk_in (i := 832) (by decide +kernel) rfl, Or.inl rfl⟩, rfl⟩, trivial⟩
theorem fk_RX0_29 : nk_Fk RX0 29 6 false [16] := ⟨⟨9, rfl, ⟨(RX9, TX9, 15), "NotaryKiosk$Power", rfl, by decide, nk_in (i := 535) (by decide +kernel) rfl, Or.inl rfl⟩, rfl⟩, trivial⟩
theorem fk_RX0_34 : nk_Fk RX0 34 3 false [11] := ⟨⟨4, rfl, ⟨(RX3, TX3, 6), "NotaryKiosk$Deed", rfl, by decide, nk_in (i := 835) (by decide +kernel) rfl, Or.inl rfl⟩, rfl⟩, trivial⟩
theorem fk_RX0_37 : nk_Fk RX0 37 4 false [11] := ⟨⟨4, rfl, ⟨(RX3, TX3, 6), "NotaryKiosk$Deed", rfl, by decide, nk_in (i := 838) (by decide +kernel) rfl, Or.inl rfl⟩, rfl⟩, trivial⟩
theorem fk_RX0_40 : nk_Fk RX0 40 5 false [11] := ⟨⟨4, rfl, ⟨(RX3, TX3, 6), "NotaryKiosk$Deed", rfl, by decide, nk_in (i := 841) (by decide +kernel) rfl, Or.inl rfl⟩, rfl⟩, trivial⟩
theorem fk_RX0_43 : nk_Fk RX0 43 1 false [11] := ⟨⟨4, rfl, ⟨(RX3, TX3, 6), "NotaryKiosk$Deed", rfl, by decide, nk_in (i := 829) (by decide +kernel) rfl, Or.inl rfl⟩, rfl⟩, trivial⟩
theorem fk_RX9_13 : nk_Fk RX9 13 7 true [16] := ⟨⟨9, rfl, ⟨(RX9, TX9, 15), "NotaryKiosk$Power", rfl, by decide, nk_in (i := 537) (by decide +kernel) rfl, Or.inl rfl⟩, rfl⟩, trivial⟩
theorem ml_RX0_46 : Cond.methodLink RX0 46 yX9_hasInLine ∈ nk_T := nk_in (i := 881) (by decide +kernel) rfl
theorem co_X9_hasInLine : Cond.code yX9_hasInLine cX9_hasInLine 3 (some FieldType.boolean) ∈ nk_T := nk_in (i := 884) (by decide +kernel) rfl
theorem in_RX9 : Cond.initialized RX9 ∈ nk_T := nk_in (i := 82) (by decide +kernel) rfl
theorem my_X9_hasInLine : nk_My yX9_hasInLine cX9_hasInLine 3 (some FieldType.boolean) 1 := ⟨co_X9_hasInLine, in_RX9, ⟨by decide, by decide⟩, by decide +kernel⟩
theorem im_X9_hasInLine : Cond.instanceMethod yX9_hasInLine ∈ nk_T := nk_in (i := 882) (by decide +kernel) rfl
theorem se_RX9_X9_hasInLine : Cond.selects RX9 yX9_hasInLine yX9_hasInLine ∈ nk_T := nk_in (i := 883) (by decide +kernel) rfl
theorem fk_RX1_7 : nk_Fk RX1 7 0 false [9] := ⟨⟨2, rfl, ⟨(RX1, TX1, 2), "NotaryKiosk$Chain", rfl, by decide, nk_in (i := 164) (by decide +kernel) rfl, Or.inl rfl⟩, rfl⟩, trivial⟩
theorem fw_RX1_7_i : nk_Fw RX1 true 0 [9] := ⟨fun ci q e h => by
    have e2 : ci = 2 := by omega
    subst e2
    cases h
    exact ⟨Or.inr ⟨rfl, rfl, rfl⟩, Or.inl ⟨by decide +kernel, rfl⟩⟩, trivial⟩
theorem co_Jx4a65c_init_da8c8 : Cond.code yJx4a65c_init_da8c8 cJx4a65c_init_da8c8 1 (none : Option FieldType) ∈ nk_T := nk_in (i := 123) (by decide +kernel) rfl
theorem my_Jx4a65c_init_da8c8 : nk_My yJx4a65c_init_da8c8 cJx4a65c_init_da8c8 1 (none : Option FieldType) 0 := ⟨co_Jx4a65c_init_da8c8, in_RJx4a65c, ⟨by decide, by decide⟩, by decide +kernel⟩
theorem im_Jx4a65c_init_da8c8 : Cond.instanceMethod yJx4a65c_init_da8c8 ∈ nk_T := nk_in (i := 122) (by decide +kernel) rfl
theorem ml_RX1_15 : Cond.methodLink RX1 15 yJx4a65c_init_da8c8 ∈ nk_T := nk_in (i := 163) (by decide +kernel) rfl
theorem fk_RX1_16 : nk_Fk RX1 16 1 true [9] := ⟨⟨2, rfl, ⟨(RX1, TX1, 2), "NotaryKiosk$Chain", rfl, by decide, nk_in (i := 165) (by decide +kernel) rfl, Or.inl rfl⟩, rfl⟩, trivial⟩
theorem fw_RX1_16_i : nk_Fw RX1 true 1 [9] := ⟨fun ci q e h => by
    have e2 : ci = 2 := by omega
    subst e2
    cases h
    exact ⟨Or.inr ⟨rfl, rfl, rfl⟩, Or.inr ⟨rfl, Or.inl ⟨"java/util/ArrayList", by decide +kernel⟩⟩⟩, trivial⟩
theorem cl_RX1_13 : Cond.classLink RX1 13 "java/util/ArrayList" ∈ nk_T := nk_in (i := 162) (by decide +kernel) rfl
theorem ins_RJx4a65c : Cond.instantiable RJx4a65c 3 ∈ nk_T := nk_in (i := 120) (by decide +kernel) rfl
theorem ml_RX1_1 : Cond.methodLink RX1 1 ⟨"java/lang/Object", "<init>", "()V"⟩ ∈ nk_T := nk_in (i := 161) (by decide +kernel) rfl
theorem ml_RX1_20 : Cond.methodLink RX1 20 yJx4a65c_size_8abf5 ∈ nk_T := nk_in (i := 256) (by decide +kernel) rfl
theorem co_Jx4a65c_size_8abf5 : Cond.code yJx4a65c_size_8abf5 cJx4a65c_size_8abf5 1 (some FieldType.int) ∈ nk_T := nk_in (i := 242) (by decide +kernel) rfl
theorem my_Jx4a65c_size_8abf5 : nk_My yJx4a65c_size_8abf5 cJx4a65c_size_8abf5 1 (some FieldType.int) 0 := ⟨co_Jx4a65c_size_8abf5, in_RJx4a65c, ⟨by decide, by decide⟩, by decide +kernel⟩
theorem im_Jx4a65c_size_8abf5 : Cond.instanceMethod yJx4a65c_size_8abf5 ∈ nk_T := nk_in (i := 240) (by decide +kernel) rfl
theorem se_RJx4a65c_Jx4a65c_size_8abf5 : Cond.selects RJx4a65c yJx4a65c_size_8abf5 yJx4a65c_size_8abf5 ∈ nk_T := nk_in (i := 241) (by decide +kernel) rfl
theorem ca_Act : nk_Ca "NotaryKiosk$Act" [8] := ⟨⟨1, (RX0, TX0, 11), rfl, rfl, Or.inl rfl⟩, trivial⟩
theorem cl_RX1_28 : Cond.classLink RX1 28 "NotaryKiosk$Act" ∈ nk_T := nk_in (i := 271) (by decide +kernel) rfl
theorem ml_RX1_24 : Cond.methodLink RX1 24 yJx4a65c_get_915e3 ∈ nk_T := nk_in (i := 257) (by decide +kernel) rfl
theorem co_Jx4a65c_get_915e3 : Cond.code yJx4a65c_get_915e3 cJx4a65c_get_915e3 2 (some (FieldType.object "java/lang/Object")) ∈ nk_T := nk_in (i := 260) (by decide +kernel) rfl
theorem my_Jx4a65c_get_915e3 : nk_My yJx4a65c_get_915e3 cJx4a65c_get_915e3 2 (some (FieldType.object "java/lang/Object")) 1 := ⟨co_Jx4a65c_get_915e3, in_RJx4a65c, ⟨by decide, by decide⟩, by decide +kernel⟩
theorem im_Jx4a65c_get_915e3 : Cond.instanceMethod yJx4a65c_get_915e3 ∈ nk_T := nk_in (i := 258) (by decide +kernel) rfl
theorem se_RJx4a65c_Jx4a65c_get_915e3 : Cond.selects RJx4a65c yJx4a65c_get_915e3 yJx4a65c_get_915e3 ∈ nk_T := nk_in (i := 259) (by decide +kernel) rfl
theorem fk_RX1_34 : nk_Fk RX1 34 9 false [8] := ⟨⟨1, rfl, ⟨(RX0, TX0, 11), "NotaryKiosk$Act", rfl, by decide, nk_in (i := 910) (by decide +kernel) rfl, Or.inl rfl⟩, rfl⟩, trivial⟩
theorem co_X11_bit : Cond.code yX11_bit cX11_bit 1 (some FieldType.int) ∈ nk_T := nk_in (i := 381) (by decide +kernel) rfl
theorem in_RX11 : Cond.initialized RX11 ∈ nk_T := nk_in (i := 62) (by decide +kernel) rfl
theorem my_X11_bit : nk_My yX11_bit cX11_bit 1 (some FieldType.int) 1 := ⟨co_X11_bit, in_RX11, ⟨by decide, by decide⟩, by decide +kernel⟩
theorem st_X11_bit : Cond.static yX11_bit ∈ nk_T := nk_in (i := 380) (by decide +kernel) rfl
theorem ml_RX11_279 : Cond.methodLink RX11 279 yX11_bit ∈ nk_T := nk_in (i := 379) (by decide +kernel) rfl
theorem kc_RX11_390 : Cond.constant RX11 390 1000003 ∈ nk_T := nk_in (i := 972) (by decide +kernel) rfl
theorem co_X11_saltOf : Cond.code yX11_saltOf cX11_saltOf 3 (some FieldType.int) ∈ nk_T := nk_in (i := 968) (by decide +kernel) rfl
theorem my_X11_saltOf : nk_My yX11_saltOf cX11_saltOf 3 (some FieldType.int) 3 := ⟨co_X11_saltOf, in_RX11, ⟨by decide, by decide⟩, by decide +kernel⟩
theorem st_X11_saltOf : Cond.static yX11_saltOf ∈ nk_T := nk_in (i := 967) (by decide +kernel) rfl
theorem ml_RX11_391 : Cond.methodLink RX11 391 yX11_saltOf ∈ nk_T := nk_in (i := 966) (by decide +kernel) rfl
theorem co_X11_sealOf : Cond.code yX11_sealOf cX11_sealOf 2 (some FieldType.int) ∈ nk_T := nk_in (i := 971) (by decide +kernel) rfl
theorem my_X11_sealOf : nk_My yX11_sealOf cX11_sealOf 2 (some FieldType.int) 2 := ⟨co_X11_sealOf, in_RX11, ⟨by decide, by decide⟩, by decide +kernel⟩
theorem st_X11_sealOf : Cond.static yX11_sealOf ∈ nk_T := nk_in (i := 970) (by decide +kernel) rfl
theorem ml_RX11_395 : Cond.methodLink RX11 395 yX11_sealOf ∈ nk_T := nk_in (i := 969) (by decide +kernel) rfl
theorem co_X11_hasBit : Cond.code yX11_hasBit cX11_hasBit 2 (some FieldType.boolean) ∈ nk_T := nk_in (i := 378) (by decide +kernel) rfl
theorem my_X11_hasBit : nk_My yX11_hasBit cX11_hasBit 2 (some FieldType.boolean) 2 := ⟨co_X11_hasBit, in_RX11, ⟨by decide, by decide⟩, by decide +kernel⟩
theorem st_X11_hasBit : Cond.static yX11_hasBit ∈ nk_T := nk_in (i := 377) (by decide +kernel) rfl
theorem ml_RX11_282 : Cond.methodLink RX11 282 yX11_hasBit ∈ nk_T := nk_in (i := 962) (by decide +kernel) rfl
theorem co_X11_markOf : Cond.code yX11_markOf cX11_markOf 4 (some FieldType.int) ∈ nk_T := nk_in (i := 965) (by decide +kernel) rfl
theorem my_X11_markOf : nk_My yX11_markOf cX11_markOf 4 (some FieldType.int) 4 := ⟨co_X11_markOf, in_RX11, ⟨by decide, by decide⟩, by decide +kernel⟩
theorem st_X11_markOf : Cond.static yX11_markOf ∈ nk_T := nk_in (i := 964) (by decide +kernel) rfl
theorem ml_RX11_398 : Cond.methodLink RX11 398 yX11_markOf ∈ nk_T := nk_in (i := 963) (by decide +kernel) rfl
theorem fk_RX1_45 : nk_Fk RX1 45 8 true [8] := ⟨⟨1, rfl, ⟨(RX0, TX0, 11), "NotaryKiosk$Act", rfl, by decide, nk_in (i := 907) (by decide +kernel) rfl, Or.inl rfl⟩, rfl⟩, trivial⟩
theorem co_X11_sealFrom : Cond.code yX11_sealFrom cX11_sealFrom 8 (some FieldType.int) ∈ nk_T := nk_in (i := 961) (by decide +kernel) rfl
theorem my_X11_sealFrom : nk_My yX11_sealFrom cX11_sealFrom 8 (some FieldType.int) 5 := ⟨co_X11_sealFrom, in_RX11, ⟨by decide, by decide⟩, by decide +kernel⟩
theorem st_X11_sealFrom : Cond.static yX11_sealFrom ∈ nk_T := nk_in (i := 960) (by decide +kernel) rfl
theorem nl_RX1_49 : Cond.methodLinkNest RX1 49 yX11_sealFrom "NotaryKiosk" ∈ nk_T := nk_in (i := 959) (by decide +kernel) rfl
theorem ml_RX1_41 : Cond.methodLink RX1 41 yX1_sealAhead ∈ nk_T := nk_in (i := 955) (by decide +kernel) rfl
theorem co_X1_sealAhead : Cond.code yX1_sealAhead cX1_sealAhead 2 (some FieldType.int) ∈ nk_T := nk_in (i := 958) (by decide +kernel) rfl
theorem in_RX1 : Cond.initialized RX1 ∈ nk_T := nk_in (i := 68) (by decide +kernel) rfl
theorem my_X1_sealAhead : nk_My yX1_sealAhead cX1_sealAhead 2 (some FieldType.int) 1 := ⟨co_X1_sealAhead, in_RX1, ⟨by decide, by decide⟩, by decide +kernel⟩
theorem im_X1_sealAhead : Cond.instanceMethod yX1_sealAhead ∈ nk_T := nk_in (i := 956) (by decide +kernel) rfl
theorem se_RX1_X1_sealAhead : Cond.selects RX1 yX1_sealAhead yX1_sealAhead ∈ nk_T := nk_in (i := 957) (by decide +kernel) rfl
theorem fw_RX1_34_n : nk_Fw RX1 false 9 [8] := ⟨fun ci q e h => by
    have e2 : ci = 1 := by omega
    subst e2
    cases h
    exact ⟨Or.inl rfl, Or.inl ⟨by decide +kernel, rfl⟩⟩, trivial⟩
theorem ml_RX1_37 : Cond.methodLink RX1 37 yJx4a65c_add_9ea2d ∈ nk_T := nk_in (i := 973) (by decide +kernel) rfl
theorem co_Jx4a65c_add_9ea2d : Cond.code yJx4a65c_add_9ea2d cJx4a65c_add_9ea2d 2 (some FieldType.boolean) ∈ nk_T := nk_in (i := 605) (by decide +kernel) rfl
theorem my_Jx4a65c_add_9ea2d : nk_My yJx4a65c_add_9ea2d cJx4a65c_add_9ea2d 2 (some FieldType.boolean) 1 := ⟨co_Jx4a65c_add_9ea2d, in_RJx4a65c, ⟨by decide, by decide⟩, by decide +kernel⟩
theorem im_Jx4a65c_add_9ea2d : Cond.instanceMethod yJx4a65c_add_9ea2d ∈ nk_T := nk_in (i := 603) (by decide +kernel) rfl
theorem se_RJx4a65c_Jx4a65c_add_9ea2d : Cond.selects RJx4a65c yJx4a65c_add_9ea2d yJx4a65c_add_9ea2d ∈ nk_T := nk_in (i := 604) (by decide +kernel) rfl
theorem ml_RX1_30 : Cond.methodLink RX1 30 yX1_sealNow ∈ nk_T := nk_in (i := 951) (by decide +kernel) rfl
theorem co_X1_sealNow : Cond.code yX1_sealNow cX1_sealNow 3 (some FieldType.int) ∈ nk_T := nk_in (i := 954) (by decide +kernel) rfl
theorem my_X1_sealNow : nk_My yX1_sealNow cX1_sealNow 3 (some FieldType.int) 2 := ⟨co_X1_sealNow, in_RX1, ⟨by decide, by decide⟩, by decide +kernel⟩
theorem im_X1_sealNow : Cond.instanceMethod yX1_sealNow ∈ nk_T := nk_in (i := 953) (by decide +kernel) rfl
theorem se_RX1_X1_sealNow : Cond.selects RX1 yX1_sealNow yX1_sealNow ∈ nk_T := nk_in (i := 15) (by decide +kernel) rfl
theorem fk_RX1_55 : nk_Fk RX1 55 10 false [8] := ⟨⟨1, rfl, ⟨(RX0, TX0, 11), "NotaryKiosk$Act", rfl, by decide, nk_in (i := 912) (by decide +kernel) rfl, Or.inl rfl⟩, rfl⟩, trivial⟩
theorem fk_RX2_9 : nk_Fk RX2 9 0 false [10] := ⟨⟨3, rfl, ⟨(RX2, TX2, 7), "NotaryKiosk$Copy", rfl, by decide, nk_in (i := 1011) (by decide +kernel) rfl, Or.inl rfl⟩, rfl⟩, trivial⟩
theorem fw_RX2_9_i : nk_Fw RX2 true 0 [10] := ⟨fun ci q e h => by
    have e2 : ci = 3 := by omega
    subst e2
    cases h
    exact ⟨Or.inr ⟨rfl, rfl, rfl⟩, Or.inl ⟨by decide +kernel, rfl⟩⟩, trivial⟩
theorem fk_RX2_15 : nk_Fk RX2 15 1 false [10] := ⟨⟨3, rfl, ⟨(RX2, TX2, 7), "NotaryKiosk$Copy", rfl, by decide, nk_in (i := 1013) (by decide +kernel) rfl, Or.inl rfl⟩, rfl⟩, trivial⟩
theorem fw_RX2_15_i : nk_Fw RX2 true 1 [10] := ⟨fun ci q e h => by
    have e2 : ci = 3 := by omega
    subst e2
    cases h
    exact ⟨Or.inr ⟨rfl, rfl, rfl⟩, Or.inl ⟨by decide +kernel, rfl⟩⟩, trivial⟩
theorem fk_RX2_18 : nk_Fk RX2 18 2 false [10] := ⟨⟨3, rfl, ⟨(RX2, TX2, 7), "NotaryKiosk$Copy", rfl, by decide, nk_in (i := 1014) (by decide +kernel) rfl, Or.inl rfl⟩, rfl⟩, trivial⟩
theorem fw_RX2_18_i : nk_Fw RX2 true 2 [10] := ⟨fun ci q e h => by
    have e2 : ci = 3 := by omega
    subst e2
    cases h
    exact ⟨Or.inr ⟨rfl, rfl, rfl⟩, Or.inl ⟨by decide +kernel, rfl⟩⟩, trivial⟩
theorem fk_RX2_21 : nk_Fk RX2 21 3 false [10] := ⟨⟨3, rfl, ⟨(RX2, TX2, 7), "NotaryKiosk$Copy", rfl, by decide, nk_in (i := 1016) (by decide +kernel) rfl, Or.inl rfl⟩, rfl⟩, trivial⟩
theorem fw_RX2_21_i : nk_Fw RX2 true 3 [10] := ⟨fun ci q e h => by
    have e2 : ci = 3 := by omega
    subst e2
    cases h
    exact ⟨Or.inr ⟨rfl, rfl, rfl⟩, Or.inl ⟨by decide +kernel, rfl⟩⟩, trivial⟩
theorem fk_RX2_26 : nk_Fk RX2 26 4 true [10] := ⟨⟨3, rfl, ⟨(RX2, TX2, 7), "NotaryKiosk$Copy", rfl, by decide, nk_in (i := 1017) (by decide +kernel) rfl, Or.inl rfl⟩, rfl⟩, trivial⟩
theorem fw_RX2_26_i : nk_Fw RX2 true 4 [10] := ⟨fun ci q e h => by
    have e2 : ci = 3 := by omega
    subst e2
    cases h
    exact ⟨Or.inr ⟨rfl, rfl, rfl⟩, Or.inr ⟨rfl, Or.inr ⟨.array .int, by decide +kernel⟩⟩⟩, trivial⟩
theorem fk_RX2_29 : nk_Fk RX2 29 5 true [10] := ⟨⟨3, rfl, ⟨(RX2, TX2, 7), "NotaryKiosk$Copy", rfl, by decide, nk_in (i := 1019) (by decide +kernel) rfl, Or.inl rfl⟩, rfl⟩, trivial⟩
theorem fw_RX2_29_i : nk_Fw RX2 true 5 [10] := ⟨fun ci q e h => by
    have e2 : ci = 3 := by omega
    subst e2
    cases h
    exact ⟨Or.inr ⟨rfl, rfl, rfl⟩, Or.inr ⟨rfl, Or.inr ⟨.int, by decide +kernel⟩⟩⟩, trivial⟩
theorem cl_RX2_24 : Cond.classLink RX2 24 "[[I" ∈ nk_T := nk_in (i := 1009) (by decide +kernel) rfl
theorem ml_RX2_3 : Cond.methodLink RX2 3 ⟨"java/lang/Object", "<init>", "()V"⟩ ∈ nk_T := nk_in (i := 1008) (by decide +kernel) rfl
theorem nl_RX2_33 : Cond.methodLinkNest RX2 33 yX11_hasBit "NotaryKiosk" ∈ nk_T := nk_in (i := 1046) (by decide +kernel) rfl
theorem fk_RX2_58 : nk_Fk RX2 58 8 true [8] := ⟨⟨1, rfl, ⟨(RX0, TX0, 11), "NotaryKiosk$Act", rfl, by decide, nk_in (i := 906) (by decide +kernel) rfl, Or.inl rfl⟩, rfl⟩, trivial⟩
theorem nl_RX2_60 : Cond.methodLinkNest RX2 60 yX11_markOf "NotaryKiosk" ∈ nk_T := nk_in (i := 1047) (by decide +kernel) rfl
theorem ml_RX2_54 : Cond.methodLink RX2 54 yX2_leavesOut ∈ nk_T := nk_in (i := 1042) (by decide +kernel) rfl
theorem co_X2_leavesOut : Cond.code yX2_leavesOut cX2_leavesOut 2 (some FieldType.boolean) ∈ nk_T := nk_in (i := 1045) (by decide +kernel) rfl
theorem in_RX2 : Cond.initialized RX2 ∈ nk_T := nk_in (i := 90) (by decide +kernel) rfl
theorem my_X2_leavesOut : nk_My yX2_leavesOut cX2_leavesOut 2 (some FieldType.boolean) 1 := ⟨co_X2_leavesOut, in_RX2, ⟨by decide, by decide⟩, by decide +kernel⟩
theorem im_X2_leavesOut : Cond.instanceMethod yX2_leavesOut ∈ nk_T := nk_in (i := 1043) (by decide +kernel) rfl
theorem se_RX2_X2_leavesOut : Cond.selects RX2 yX2_leavesOut yX2_leavesOut ∈ nk_T := nk_in (i := 1044) (by decide +kernel) rfl
theorem fk_RX2_49 : nk_Fk RX2 49 9 false [8] := ⟨⟨1, rfl, ⟨(RX0, TX0, 11), "NotaryKiosk$Act", rfl, by decide, nk_in (i := 909) (by decide +kernel) rfl, Or.inl rfl⟩, rfl⟩, trivial⟩
theorem ml_RX2_45 : Cond.methodLink RX2 45 yX1_actOf ∈ nk_T := nk_in (i := 1041) (by decide +kernel) rfl
theorem co_X1_actOf : Cond.code yX1_actOf cX1_actOf 2 (some (FieldType.object "NotaryKiosk$Act")) ∈ nk_T := nk_in (i := 993) (by decide +kernel) rfl
theorem my_X1_actOf : nk_My yX1_actOf cX1_actOf 2 (some (FieldType.object "NotaryKiosk$Act")) 1 := ⟨co_X1_actOf, in_RX1, ⟨by decide, by decide⟩, by decide +kernel⟩
theorem im_X1_actOf : Cond.instanceMethod yX1_actOf ∈ nk_T := nk_in (i := 991) (by decide +kernel) rfl
theorem se_RX1_X1_actOf : Cond.selects RX1 yX1_actOf yX1_actOf ∈ nk_T := nk_in (i := 992) (by decide +kernel) rfl
theorem fk_RX2_43 : nk_Fk RX2 43 6 false [10] := ⟨⟨3, rfl, ⟨(RX2, TX2, 7), "NotaryKiosk$Copy", rfl, by decide, nk_in (i := 1020) (by decide +kernel) rfl, Or.inl rfl⟩, rfl⟩, trivial⟩
theorem fw_RX2_43_n : nk_Fw RX2 false 6 [10] := ⟨fun ci q e h => by
    have e2 : ci = 3 := by omega
    subst e2
    cases h
    exact ⟨Or.inl rfl, Or.inl ⟨by decide +kernel, rfl⟩⟩, trivial⟩
theorem ml_RX2_37 : Cond.methodLink RX2 37 yX1_sealAhead ∈ nk_T := nk_in (i := 1040) (by decide +kernel) rfl
theorem nl_RX2_64 : Cond.methodLinkNest RX2 64 yX11_sealFrom "NotaryKiosk" ∈ nk_T := nk_in (i := 1246) (by decide +kernel) rfl
theorem ml_RX2_68 : Cond.methodLink RX2 68 yX2_tellsRecordAs ∈ nk_T := nk_in (i := 1258) (by decide +kernel) rfl
theorem co_X2_tellsRecordAs : Cond.code yX2_tellsRecordAs cX2_tellsRecordAs 4 (some FieldType.boolean) ∈ nk_T := nk_in (i := 1261) (by decide +kernel) rfl
theorem my_X2_tellsRecordAs : nk_My yX2_tellsRecordAs cX2_tellsRecordAs 4 (some FieldType.boolean) 2 := ⟨co_X2_tellsRecordAs, in_RX2, ⟨by decide, by decide⟩, by decide +kernel⟩
theorem im_X2_tellsRecordAs : Cond.instanceMethod yX2_tellsRecordAs ∈ nk_T := nk_in (i := 1260) (by decide +kernel) rfl
theorem se_RX2_X2_tellsRecordAs : Cond.selects RX2 yX2_tellsRecordAs yX2_tellsRecordAs ∈ nk_T := nk_in (i := 20) (by decide +kernel) rfl
theorem fk_RX3_7 : nk_Fk RX3 7 0 false [11] := ⟨⟨4, rfl, ⟨(RX3, TX3, 6), "NotaryKiosk$Deed", rfl, by decide, nk_in (i := 826) (by decide +kernel) rfl, Or.inl rfl⟩, rfl⟩, trivial⟩
theorem fw_RX3_7_i : nk_Fw RX3 true 0 [11] := ⟨fun ci q e h => by
    have e2 : ci = 4 := by omega
    subst e2
    cases h
    exact ⟨Or.inr ⟨rfl, rfl, rfl⟩, Or.inl ⟨by decide +kernel, rfl⟩⟩, trivial⟩
theorem fk_RX3_13 : nk_Fk RX3 13 1 false [11] := ⟨⟨4, rfl, ⟨(RX3, TX3, 6), "NotaryKiosk$Deed", rfl, by decide, nk_in (i := 828) (by decide +kernel) rfl, Or.inl rfl⟩, rfl⟩, trivial⟩
theorem fw_RX3_13_i : nk_Fw RX3 true 1 [11] := ⟨fun ci q e h => by
    have e2 : ci = 4 := by omega
    subst e2
    cases h
    exact ⟨Or.inr ⟨rfl, rfl, rfl⟩, Or.inl ⟨by decide +kernel, rfl⟩⟩, trivial⟩
theorem fk_RX3_16 : nk_Fk RX3 16 2 false [11] := ⟨⟨4, rfl, ⟨(RX3, TX3, 6), "NotaryKiosk$Deed", rfl, by decide, nk_in (i := 831) (by decide +kernel) rfl, Or.inl rfl⟩, rfl⟩, trivial⟩
theorem fw_RX3_16_i : nk_Fw RX3 true 2 [11] := ⟨fun ci q e h => by
    have e2 : ci = 4 := by omega
    subst e2
    cases h
    exact ⟨Or.inr ⟨rfl, rfl, rfl⟩, Or.inl ⟨by decide +kernel, rfl⟩⟩, trivial⟩
theorem fk_RX3_19 : nk_Fk RX3 19 3 false [11] := ⟨⟨4, rfl, ⟨(RX3, TX3, 6), "NotaryKiosk$Deed", rfl, by decide, nk_in (i := 834) (by decide +kernel) rfl, Or.inl rfl⟩, rfl⟩, trivial⟩
theorem fw_RX3_19_i : nk_Fw RX3 true 3 [11] := ⟨fun ci q e h => by
    have e2 : ci = 4 := by omega
    subst e2
    cases h
    exact ⟨Or.inr ⟨rfl, rfl, rfl⟩, Or.inl ⟨by decide +kernel, rfl⟩⟩, trivial⟩
theorem fk_RX3_22 : nk_Fk RX3 22 4 false [11] := ⟨⟨4, rfl, ⟨(RX3, TX3, 6), "NotaryKiosk$Deed", rfl, by decide, nk_in (i := 837) (by decide +kernel) rfl, Or.inl rfl⟩, rfl⟩, trivial⟩
theorem fw_RX3_22_i : nk_Fw RX3 true 4 [11] := ⟨fun ci q e h => by
    have e2 : ci = 4 := by omega
    subst e2
    cases h
    exact ⟨Or.inr ⟨rfl, rfl, rfl⟩, Or.inl ⟨by decide +kernel, rfl⟩⟩, trivial⟩
theorem fk_RX3_25 : nk_Fk RX3 25 5 false [11] := ⟨⟨4, rfl, ⟨(RX3, TX3, 6), "NotaryKiosk$Deed", rfl, by decide, nk_in (i := 840) (by decide +kernel) rfl, Or.inl rfl⟩, rfl⟩, trivial⟩
theorem fw_RX3_25_i : nk_Fw RX3 true 5 [11] := ⟨fun ci q e h => by
    have e2 : ci = 4 := by omega
    subst e2
    cases h
    exact ⟨Or.inr ⟨rfl, rfl, rfl⟩, Or.inl ⟨by decide +kernel, rfl⟩⟩, trivial⟩
theorem ml_RX3_1 : Cond.methodLink RX3 1 ⟨"java/lang/Object", "<init>", "()V"⟩ ∈ nk_T := nk_in (i := 825) (by decide +kernel) rfl
theorem ml_RX4_1 : Cond.methodLink RX4 1 yX8_init ∈ nk_T := nk_in (i := 785) (by decide +kernel) rfl
theorem fk_RX4_7 : nk_Fk RX4 7 6 false [12] := ⟨⟨5, rfl, ⟨(RX4, TX4, 9), "NotaryKiosk$Deputation", rfl, by decide, nk_in (i := 786) (by decide +kernel) rfl, Or.inl rfl⟩, rfl⟩, trivial⟩
theorem fw_RX4_7_i : nk_Fw RX4 true 6 [12] := ⟨fun ci q e h => by
    have e2 : ci = 5 := by omega
    subst e2
    cases h
    exact ⟨Or.inr ⟨rfl, rfl, rfl⟩, Or.inl ⟨by decide +kernel, rfl⟩⟩, trivial⟩
theorem fk_RX4_13 : nk_Fk RX4 13 7 false [12] := ⟨⟨5, rfl, ⟨(RX4, TX4, 9), "NotaryKiosk$Deputation", rfl, by decide, nk_in (i := 787) (by decide +kernel) rfl, Or.inl rfl⟩, rfl⟩, trivial⟩
theorem fw_RX4_13_i : nk_Fw RX4 true 7 [12] := ⟨fun ci q e h => by
    have e2 : ci = 5 := by omega
    subst e2
    cases h
    exact ⟨Or.inr ⟨rfl, rfl, rfl⟩, Or.inl ⟨by decide +kernel, rfl⟩⟩, trivial⟩
theorem fk_RX4_16 : nk_Fk RX4 16 8 false [12] := ⟨⟨5, rfl, ⟨(RX4, TX4, 9), "NotaryKiosk$Deputation", rfl, by decide, nk_in (i := 788) (by decide +kernel) rfl, Or.inl rfl⟩, rfl⟩, trivial⟩
theorem fw_RX4_16_i : nk_Fw RX4 true 8 [12] := ⟨fun ci q e h => by
    have e2 : ci = 5 := by omega
    subst e2
    cases h
    exact ⟨Or.inr ⟨rfl, rfl, rfl⟩, Or.inl ⟨by decide +kernel, rfl⟩⟩, trivial⟩
theorem fk_RX5_7 : nk_Fk RX5 7 0 false [13] := ⟨⟨6, rfl, ⟨(RX5, TX5, 5), "NotaryKiosk$Draft", rfl, by decide, nk_in (i := 178) (by decide +kernel) rfl, Or.inl rfl⟩, rfl⟩, trivial⟩
theorem fw_RX5_7_i : nk_Fw RX5 true 0 [13] := ⟨fun ci q e h => by
    have e2 : ci = 6 := by omega
    subst e2
    cases h
    exact ⟨Or.inr ⟨rfl, rfl, rfl⟩, Or.inl ⟨by decide +kernel, rfl⟩⟩, trivial⟩
theorem fk_RX5_13 : nk_Fk RX5 13 1 false [13] := ⟨⟨6, rfl, ⟨(RX5, TX5, 5), "NotaryKiosk$Draft", rfl, by decide, nk_in (i := 180) (by decide +kernel) rfl, Or.inl rfl⟩, rfl⟩, trivial⟩
theorem fw_RX5_13_i : nk_Fw RX5 true 1 [13] := ⟨fun ci q e h => by
    have e2 : ci = 6 := by omega
    subst e2
    cases h
    exact ⟨Or.inr ⟨rfl, rfl, rfl⟩, Or.inl ⟨by decide +kernel, rfl⟩⟩, trivial⟩
theorem fk_RX5_16 : nk_Fk RX5 16 2 false [13] := ⟨⟨6, rfl, ⟨(RX5, TX5, 5), "NotaryKiosk$Draft", rfl, by decide, nk_in (i := 182) (by decide +kernel) rfl, Or.inl rfl⟩, rfl⟩, trivial⟩
theorem fw_RX5_16_i : nk_Fw RX5 true 2 [13] := ⟨fun ci q e h => by
    have e2 : ci = 6 := by omega
    subst e2
    cases h
    exact ⟨Or.inr ⟨rfl, rfl, rfl⟩, Or.inl ⟨by decide +kernel, rfl⟩⟩, trivial⟩
theorem fk_RX5_19 : nk_Fk RX5 19 3 false [13] := ⟨⟨6, rfl, ⟨(RX5, TX5, 5), "NotaryKiosk$Draft", rfl, by decide, nk_in (i := 184) (by decide +kernel) rfl, Or.inl rfl⟩, rfl⟩, trivial⟩
theorem fw_RX5_19_i : nk_Fw RX5 true 3 [13] := ⟨fun ci q e h => by
    have e2 : ci = 6 := by omega
    subst e2
    cases h
    exact ⟨Or.inr ⟨rfl, rfl, rfl⟩, Or.inl ⟨by decide +kernel, rfl⟩⟩, trivial⟩
theorem fk_RX5_22 : nk_Fk RX5 22 4 false [13] := ⟨⟨6, rfl, ⟨(RX5, TX5, 5), "NotaryKiosk$Draft", rfl, by decide, nk_in (i := 186) (by decide +kernel) rfl, Or.inl rfl⟩, rfl⟩, trivial⟩
theorem fw_RX5_22_i : nk_Fw RX5 true 4 [13] := ⟨fun ci q e h => by
    have e2 : ci = 6 := by omega
    subst e2
    cases h
    exact ⟨Or.inr ⟨rfl, rfl, rfl⟩, Or.inl ⟨by decide +kernel, rfl⟩⟩, trivial⟩
theorem ml_RX5_1 : Cond.methodLink RX5 1 ⟨"java/lang/Object", "<init>", "()V"⟩ ∈ nk_T := nk_in (i := 177) (by decide +kernel) rfl
theorem fk_RX6_9 : nk_Fk RX6 9 0 true [14] := ⟨⟨7, rfl, ⟨(RX6, TX6, 2), "NotaryKiosk$Links", rfl, by decide, nk_in (i := 105) (by decide +kernel) rfl, Or.inl rfl⟩, rfl⟩, trivial⟩
theorem fw_RX6_9_i : nk_Fw RX6 true 0 [14] := ⟨fun ci q e h => by
    have e2 : ci = 7 := by omega
    subst e2
    cases h
    exact ⟨Or.inr ⟨rfl, rfl, rfl⟩, Or.inr ⟨rfl, Or.inr ⟨.int, by decide +kernel⟩⟩⟩, trivial⟩
theorem fk_RX6_15 : nk_Fk RX6 15 1 true [14] := ⟨⟨7, rfl, ⟨(RX6, TX6, 2), "NotaryKiosk$Links", rfl, by decide, nk_in (i := 106) (by decide +kernel) rfl, Or.inl rfl⟩, rfl⟩, trivial⟩
theorem fw_RX6_15_i : nk_Fw RX6 true 1 [14] := ⟨fun ci q e h => by
    have e2 : ci = 7 := by omega
    subst e2
    cases h
    exact ⟨Or.inr ⟨rfl, rfl, rfl⟩, Or.inr ⟨rfl, Or.inr ⟨.int, by decide +kernel⟩⟩⟩, trivial⟩
theorem ml_RX6_3 : Cond.methodLink RX6 3 ⟨"java/lang/Object", "<init>", "()V"⟩ ∈ nk_T := nk_in (i := 104) (by decide +kernel) rfl
theorem nl_RX6_18 : Cond.methodLinkNest RX6 18 yX11_hasBit "NotaryKiosk" ∈ nk_T := nk_in (i := 376) (by decide +kernel) rfl
theorem co_J6_bitCount_0f7a4 : Cond.code yJ6_bitCount_0f7a4 cJ6_bitCount_0f7a4 1 (some FieldType.int) ∈ nk_T := nk_in (i := 409) (by decide +kernel) rfl
theorem in_RJ6 : Cond.initialized RJ6 ∈ nk_T := nk_in (i := 77) (by decide +kernel) rfl
theorem my_J6_bitCount_0f7a4 : nk_My yJ6_bitCount_0f7a4 cJ6_bitCount_0f7a4 1 (some FieldType.int) 1 := ⟨co_J6_bitCount_0f7a4, in_RJ6, ⟨by decide, by decide⟩, by decide +kernel⟩
theorem st_J6_bitCount_0f7a4 : Cond.static yJ6_bitCount_0f7a4 ∈ nk_T := nk_in (i := 408) (by decide +kernel) rfl
theorem ml_RX6_22 : Cond.methodLink RX6 22 yJ6_bitCount_0f7a4 ∈ nk_T := nk_in (i := 407) (by decide +kernel) rfl
theorem nl_RX6_28 : Cond.methodLinkNest RX6 28 yX11_bit "NotaryKiosk" ∈ nk_T := nk_in (i := 402) (by decide +kernel) rfl
theorem ml_RX6_31 : Cond.methodLink RX6 31 arraycopyName ∈ nk_T := nk_in (i := 437) (by decide +kernel) rfl
theorem ml_RX7_11 : Cond.methodLink RX7 11 yJx4a65c_init_da8c8 ∈ nk_T := nk_in (i := 121) (by decide +kernel) rfl
theorem fk_RX7_12 : nk_Fk RX7 12 0 true [15] := ⟨⟨8, rfl, ⟨(RX7, TX7, 2), "NotaryKiosk$News", rfl, by decide, nk_in (i := 145) (by decide +kernel) rfl, Or.inl rfl⟩, rfl⟩, trivial⟩
theorem fw_RX7_12_i : nk_Fw RX7 true 0 [15] := ⟨fun ci q e h => by
    have e2 : ci = 8 := by omega
    subst e2
    cases h
    exact ⟨Or.inr ⟨rfl, rfl, rfl⟩, Or.inr ⟨rfl, Or.inl ⟨"java/util/ArrayList", by decide +kernel⟩⟩⟩, trivial⟩
theorem fk_RX7_18 : nk_Fk RX7 18 1 true [15] := ⟨⟨8, rfl, ⟨(RX7, TX7, 2), "NotaryKiosk$News", rfl, by decide, nk_in (i := 146) (by decide +kernel) rfl, Or.inl rfl⟩, rfl⟩, trivial⟩
theorem fw_RX7_18_i : nk_Fw RX7 true 1 [15] := ⟨fun ci q e h => by
    have e2 : ci = 8 := by omega
    subst e2
    cases h
    exact ⟨Or.inr ⟨rfl, rfl, rfl⟩, Or.inr ⟨rfl, Or.inr ⟨.boolean, by decide +kernel⟩⟩⟩, trivial⟩
theorem ac_boolean : Cond.arrayClass (newarray.typeOf .boolean) ∈ nk_T := nk_in (i := 152) (by decide +kernel) rfl
theorem cl_RX7_9 : Cond.classLink RX7 9 "java/util/ArrayList" ∈ nk_T := nk_in (i := 119) (by decide +kernel) rfl
theorem ml_RX7_3 : Cond.methodLink RX7 3 ⟨"java/lang/Object", "<init>", "()V"⟩ ∈ nk_T := nk_in (i := 118) (by decide +kernel) rfl
theorem ml_RX7_22 : Cond.methodLink RX7 22 yJx4a65c_size_8abf5 ∈ nk_T := nk_in (i := 239) (by decide +kernel) rfl
theorem ca_Piece : nk_Ca "NotaryKiosk$Piece" [8, 12, 16, 17] := ⟨⟨1, (RX0, TX0, 11), rfl, rfl, Or.inr (nk_in (i := 1754) (by decide +kernel) rfl)⟩, ⟨⟨5, (RX4, TX4, 9), rfl, rfl, Or.inr (nk_in (i := 1755) (by decide +kernel) rfl)⟩, ⟨⟨9, (RX9, TX9, 15), rfl, rfl, Or.inr (nk_in (i := 1756) (by decide +kernel) rfl)⟩, ⟨⟨10, (RX10, TX10, 7), rfl, rfl, Or.inr (nk_in (i := 1757) (by decide +kernel) rfl)⟩, trivial⟩⟩⟩⟩
theorem cl_RX7_30 : Cond.classLink RX7 30 "NotaryKiosk$Piece" ∈ nk_T := nk_in (i := 445) (by decide +kernel) rfl
theorem ml_RX7_26 : Cond.methodLink RX7 26 yJx4a65c_get_915e3 ∈ nk_T := nk_in (i := 444) (by decide +kernel) rfl
theorem fk_RX8_21 : nk_Fk RX8 21 3 false [8, 12, 16, 17] := ⟨⟨1, rfl, ⟨(RX0, TX0, 11), "NotaryKiosk$Piece", rfl, by decide, nk_in (i := 564) (by decide +kernel) rfl, Or.inl rfl⟩, rfl⟩, ⟨⟨5, rfl, ⟨(RX4, TX4, 9), "NotaryKiosk$Piece", rfl, by decide, nk_in (i := 564) (by decide +kernel) rfl, Or.inl rfl⟩, rfl⟩, ⟨⟨9, rfl, ⟨(RX9, TX9, 15), "NotaryKiosk$Piece", rfl, by decide, nk_in (i := 564) (by decide +kernel) rfl, Or.inl rfl⟩, rfl⟩, ⟨⟨10, rfl, ⟨(RX10, TX10, 7), "NotaryKiosk$Piece", rfl, by decide, nk_in (i := 564) (by decide +kernel) rfl, Or.inl rfl⟩, rfl⟩, trivial⟩⟩⟩⟩
theorem nl_RX8_25 : Cond.methodLinkNest RX8 25 yX11_bit "NotaryKiosk" ∈ nk_T := nk_in (i := 459) (by decide +kernel) rfl
theorem fw_RX8_21_n : nk_Fw RX8 false 3 [8, 12, 16, 17] := ⟨fun ci q e h => by
    have e2 : ci = 1 := by omega
    subst e2
    cases h
    exact ⟨Or.inl rfl, Or.inl ⟨by decide +kernel, rfl⟩⟩, ⟨fun ci q e h => by
    have e2 : ci = 5 := by omega
    subst e2
    cases h
    exact ⟨Or.inl rfl, Or.inl ⟨by decide +kernel, rfl⟩⟩, ⟨fun ci q e h => by
    have e2 : ci = 9 := by omega
    subst e2
    cases h
    exact ⟨Or.inl rfl, Or.inl ⟨by decide +kernel, rfl⟩⟩, ⟨fun ci q e h => by
    have e2 : ci = 10 := by omega
    subst e2
    cases h
    exact ⟨Or.inl rfl, Or.inl ⟨by decide +kernel, rfl⟩⟩, trivial⟩⟩⟩⟩
theorem fk_RX7_32 : nk_Fk RX7 32 0 false [8, 12, 16, 17] := ⟨⟨1, rfl, ⟨(RX0, TX0, 11), "NotaryKiosk$Piece", rfl, by decide, nk_in (i := 552) (by decide +kernel) rfl, Or.inl rfl⟩, rfl⟩, ⟨⟨5, rfl, ⟨(RX4, TX4, 9), "NotaryKiosk$Piece", rfl, by decide, nk_in (i := 552) (by decide +kernel) rfl, Or.inl rfl⟩, rfl⟩, ⟨⟨9, rfl, ⟨(RX9, TX9, 15), "NotaryKiosk$Piece", rfl, by decide, nk_in (i := 552) (by decide +kernel) rfl, Or.inl rfl⟩, rfl⟩, ⟨⟨10, rfl, ⟨(RX10, TX10, 7), "NotaryKiosk$Piece", rfl, by decide, nk_in (i := 552) (by decide +kernel) rfl, Or.inl rfl⟩, rfl⟩, trivial⟩⟩⟩⟩
theorem fw_RX7_32_n : nk_Fw RX7 false 0 [8, 12, 16, 17] := ⟨fun ci q e h => by
    have e2 : ci = 1 := by omega
    subst e2
    cases h
    exact ⟨Or.inl rfl, Or.inl ⟨by decide +kernel, rfl⟩⟩, ⟨fun ci q e h => by
    have e2 : ci = 5 := by omega
    subst e2
    cases h
    exact ⟨Or.inl rfl, Or.inl ⟨by decide +kernel, rfl⟩⟩, ⟨fun ci q e h => by
    have e2 : ci = 9 := by omega
    subst e2
    cases h
    exact ⟨Or.inl rfl, Or.inl ⟨by decide +kernel, rfl⟩⟩, ⟨fun ci q e h => by
    have e2 : ci = 10 := by omega
    subst e2
    cases h
    exact ⟨Or.inl rfl, Or.inl ⟨by decide +kernel, rfl⟩⟩, trivial⟩⟩⟩⟩
theorem fk_RX7_36 : nk_Fk RX7 36 1 false [8, 12, 16, 17] := ⟨⟨1, rfl, ⟨(RX0, TX0, 11), "NotaryKiosk$Piece", rfl, by decide, nk_in (i := 559) (by decide +kernel) rfl, Or.inl rfl⟩, rfl⟩, ⟨⟨5, rfl, ⟨(RX4, TX4, 9), "NotaryKiosk$Piece", rfl, by decide, nk_in (i := 559) (by decide +kernel) rfl, Or.inl rfl⟩, rfl⟩, ⟨⟨9, rfl, ⟨(RX9, TX9, 15), "NotaryKiosk$Piece", rfl, by decide, nk_in (i := 559) (by decide +kernel) rfl, Or.inl rfl⟩, rfl⟩, ⟨⟨10, rfl, ⟨(RX10, TX10, 7), "NotaryKiosk$Piece", rfl, by decide, nk_in (i := 559) (by decide +kernel) rfl, Or.inl rfl⟩, rfl⟩, trivial⟩⟩⟩⟩
theorem fw_RX7_36_n : nk_Fw RX7 false 1 [8, 12, 16, 17] := ⟨fun ci q e h => by
    have e2 : ci = 1 := by omega
    subst e2
    cases h
    exact ⟨Or.inl rfl, Or.inl ⟨by decide +kernel, rfl⟩⟩, ⟨fun ci q e h => by
    have e2 : ci = 5 := by omega
    subst e2
    cases h
    exact ⟨Or.inl rfl, Or.inl ⟨by decide +kernel, rfl⟩⟩, ⟨fun ci q e h => by
    have e2 : ci = 9 := by omega
    subst e2
    cases h
    exact ⟨Or.inl rfl, Or.inl ⟨by decide +kernel, rfl⟩⟩, ⟨fun ci q e h => by
    have e2 : ci = 10 := by omega
    subst e2
    cases h
    exact ⟨Or.inl rfl, Or.inl ⟨by decide +kernel, rfl⟩⟩, trivial⟩⟩⟩⟩
theorem fk_RX7_39 : nk_Fk RX7 39 2 false [8, 12, 16, 17] := ⟨⟨1, rfl, ⟨(RX0, TX0, 11), "NotaryKiosk$Piece", rfl, by decide, nk_in (i := 561) (by decide +kernel) rfl, Or.inl rfl⟩, rfl⟩, ⟨⟨5, rfl, ⟨(RX4, TX4, 9), "NotaryKiosk$Piece", rfl, by decide, nk_in (i := 561) (by decide +kernel) rfl, Or.inl rfl⟩, rfl⟩, ⟨⟨9, rfl, ⟨(RX9, TX9, 15), "NotaryKiosk$Piece", rfl, by decide, nk_in (i := 561) (by decide +kernel) rfl, Or.inl rfl⟩, rfl⟩, ⟨⟨10, rfl, ⟨(RX10, TX10, 7), "NotaryKiosk$Piece", rfl, by decide, nk_in (i := 561) (by decide +kernel) rfl, Or.inl rfl⟩, rfl⟩, trivial⟩⟩⟩⟩
theorem fw_RX7_39_n : nk_Fw RX7 false 2 [8, 12, 16, 17] := ⟨fun ci q e h => by
    have e2 : ci = 1 := by omega
    subst e2
    cases h
    exact ⟨Or.inl rfl, Or.inl ⟨by decide +kernel, rfl⟩⟩, ⟨fun ci q e h => by
    have e2 : ci = 5 := by omega
    subst e2
    cases h
    exact ⟨Or.inl rfl, Or.inl ⟨by decide +kernel, rfl⟩⟩, ⟨fun ci q e h => by
    have e2 : ci = 9 := by omega
    subst e2
    cases h
    exact ⟨Or.inl rfl, Or.inl ⟨by decide +kernel, rfl⟩⟩, ⟨fun ci q e h => by
    have e2 : ci = 10 := by omega
    subst e2
    cases h
    exact ⟨Or.inl rfl, Or.inl ⟨by decide +kernel, rfl⟩⟩, trivial⟩⟩⟩⟩
theorem nl_RX7_46 : Cond.methodLinkNest RX7 46 yX11_bit "NotaryKiosk" ∈ nk_T := nk_in (i := 485) (by decide +kernel) rfl
theorem fk_RX7_50 : nk_Fk RX7 50 4 false [8, 12, 16, 17] := ⟨⟨1, rfl, ⟨(RX0, TX0, 11), "NotaryKiosk$Piece", rfl, by decide, nk_in (i := 567) (by decide +kernel) rfl, Or.inl rfl⟩, rfl⟩, ⟨⟨5, rfl, ⟨(RX4, TX4, 9), "NotaryKiosk$Piece", rfl, by decide, nk_in (i := 567) (by decide +kernel) rfl, Or.inl rfl⟩, rfl⟩, ⟨⟨9, rfl, ⟨(RX9, TX9, 15), "NotaryKiosk$Piece", rfl, by decide, nk_in (i := 567) (by decide +kernel) rfl, Or.inl rfl⟩, rfl⟩, ⟨⟨10, rfl, ⟨(RX10, TX10, 7), "NotaryKiosk$Piece", rfl, by decide, nk_in (i := 567) (by decide +kernel) rfl, Or.inl rfl⟩, rfl⟩, trivial⟩⟩⟩⟩
theorem fw_RX7_50_n : nk_Fw RX7 false 4 [8, 12, 16, 17] := ⟨fun ci q e h => by
    have e2 : ci = 1 := by omega
    subst e2
    cases h
    exact ⟨Or.inl rfl, Or.inl ⟨by decide +kernel, rfl⟩⟩, ⟨fun ci q e h => by
    have e2 : ci = 5 := by omega
    subst e2
    cases h
    exact ⟨Or.inl rfl, Or.inl ⟨by decide +kernel, rfl⟩⟩, ⟨fun ci q e h => by
    have e2 : ci = 9 := by omega
    subst e2
    cases h
    exact ⟨Or.inl rfl, Or.inl ⟨by decide +kernel, rfl⟩⟩, ⟨fun ci q e h => by
    have e2 : ci = 10 := by omega
    subst e2
    cases h
    exact ⟨Or.inl rfl, Or.inl ⟨by decide +kernel, rfl⟩⟩, trivial⟩⟩⟩⟩
theorem ml_RX7_53 : Cond.methodLink RX7 53 yJx4a65c_add_9ea2d ∈ nk_T := nk_in (i := 667) (by decide +kernel) rfl
theorem ml_RX7_42 : Cond.methodLink RX7 42 yX8_comeTo ∈ nk_T := nk_in (i := 451) (by decide +kernel) rfl
theorem co_X8_comeTo : Cond.code yX8_comeTo cX8_comeTo 3 (none : Option FieldType) ∈ nk_T := nk_in (i := 458) (by decide +kernel) rfl
theorem my_X8_comeTo : nk_My yX8_comeTo cX8_comeTo 3 (none : Option FieldType) 2 := ⟨co_X8_comeTo, in_RX8, ⟨by decide, by decide⟩, by decide +kernel⟩
theorem im_X8_comeTo : Cond.instanceMethod yX8_comeTo ∈ nk_T := nk_in (i := 452) (by decide +kernel) rfl
theorem se_RX0_X8_comeTo : Cond.selects RX0 yX8_comeTo yX8_comeTo ∈ nk_T := nk_in (i := 454) (by decide +kernel) rfl
theorem sm_X8_comeTo : Cond.sameMethod "NotaryKiosk$Piece" "NotaryKiosk$Piece" "comeTo" "(II)V" ∈ nk_T := nk_in (i := 453) (by decide +kernel) rfl
theorem se_RX4_X8_comeTo : Cond.selects RX4 yX8_comeTo yX8_comeTo ∈ nk_T := nk_in (i := 455) (by decide +kernel) rfl
theorem se_RX9_X8_comeTo : Cond.selects RX9 yX8_comeTo yX8_comeTo ∈ nk_T := nk_in (i := 456) (by decide +kernel) rfl
theorem se_RX10_X8_comeTo : Cond.selects RX10 yX8_comeTo yX8_comeTo ∈ nk_T := nk_in (i := 457) (by decide +kernel) rfl
theorem ml_RX7_70 : Cond.methodLink RX7 70 yJ6_bitCount_0f7a4 ∈ nk_T := nk_in (i := 460) (by decide +kernel) rfl
theorem nl_RX7_66 : Cond.methodLinkNest RX7 66 yX11_hasBit "NotaryKiosk" ∈ nk_T := nk_in (i := 450) (by decide +kernel) rfl
theorem fk_RX7_57 : nk_Fk RX7 57 3 false [8, 12, 16, 17] := ⟨⟨1, rfl, ⟨(RX0, TX0, 11), "NotaryKiosk$Piece", rfl, by decide, nk_in (i := 565) (by decide +kernel) rfl, Or.inl rfl⟩, rfl⟩, ⟨⟨5, rfl, ⟨(RX4, TX4, 9), "NotaryKiosk$Piece", rfl, by decide, nk_in (i := 565) (by decide +kernel) rfl, Or.inl rfl⟩, rfl⟩, ⟨⟨9, rfl, ⟨(RX9, TX9, 15), "NotaryKiosk$Piece", rfl, by decide, nk_in (i := 565) (by decide +kernel) rfl, Or.inl rfl⟩, rfl⟩, ⟨⟨10, rfl, ⟨(RX10, TX10, 7), "NotaryKiosk$Piece", rfl, by decide, nk_in (i := 565) (by decide +kernel) rfl, Or.inl rfl⟩, rfl⟩, trivial⟩⟩⟩⟩
theorem ml_RX7_60 : Cond.methodLink RX7 60 yX6_reach ∈ nk_T := nk_in (i := 446) (by decide +kernel) rfl
theorem co_X6_reach : Cond.code yX6_reach cX6_reach 5 (some FieldType.int) ∈ nk_T := nk_in (i := 449) (by decide +kernel) rfl
theorem in_RX6 : Cond.initialized RX6 ∈ nk_T := nk_in (i := 63) (by decide +kernel) rfl
theorem my_X6_reach : nk_My yX6_reach cX6_reach 5 (some FieldType.int) 2 := ⟨co_X6_reach, in_RX6, ⟨by decide, by decide⟩, by decide +kernel⟩
theorem im_X6_reach : Cond.instanceMethod yX6_reach ∈ nk_T := nk_in (i := 447) (by decide +kernel) rfl
theorem se_RX6_X6_reach : Cond.selects RX6 yX6_reach yX6_reach ∈ nk_T := nk_in (i := 448) (by decide +kernel) rfl
theorem fk_RX8_29 : nk_Fk RX8 29 4 false [8, 12, 16, 17] := ⟨⟨1, rfl, ⟨(RX0, TX0, 11), "NotaryKiosk$Piece", rfl, by decide, nk_in (i := 566) (by decide +kernel) rfl, Or.inl rfl⟩, rfl⟩, ⟨⟨5, rfl, ⟨(RX4, TX4, 9), "NotaryKiosk$Piece", rfl, by decide, nk_in (i := 566) (by decide +kernel) rfl, Or.inl rfl⟩, rfl⟩, ⟨⟨9, rfl, ⟨(RX9, TX9, 15), "NotaryKiosk$Piece", rfl, by decide, nk_in (i := 566) (by decide +kernel) rfl, Or.inl rfl⟩, rfl⟩, ⟨⟨10, rfl, ⟨(RX10, TX10, 7), "NotaryKiosk$Piece", rfl, by decide, nk_in (i := 566) (by decide +kernel) rfl, Or.inl rfl⟩, rfl⟩, trivial⟩⟩⟩⟩
theorem nl_RX8_32 : Cond.methodLinkNest RX8 32 yX11_hasBit "NotaryKiosk" ∈ nk_T := nk_in (i := 484) (by decide +kernel) rfl
theorem ml_RX7_75 : Cond.methodLink RX7 75 yX8_isInMail ∈ nk_T := nk_in (i := 476) (by decide +kernel) rfl
theorem co_X8_isInMail : Cond.code yX8_isInMail cX8_isInMail 2 (some FieldType.boolean) ∈ nk_T := nk_in (i := 483) (by decide +kernel) rfl
theorem my_X8_isInMail : nk_My yX8_isInMail cX8_isInMail 2 (some FieldType.boolean) 1 := ⟨co_X8_isInMail, in_RX8, ⟨by decide, by decide⟩, by decide +kernel⟩
theorem im_X8_isInMail : Cond.instanceMethod yX8_isInMail ∈ nk_T := nk_in (i := 477) (by decide +kernel) rfl
theorem se_RX0_X8_isInMail : Cond.selects RX0 yX8_isInMail yX8_isInMail ∈ nk_T := nk_in (i := 479) (by decide +kernel) rfl
theorem sm_X8_isInMail : Cond.sameMethod "NotaryKiosk$Piece" "NotaryKiosk$Piece" "isInMail" "(I)Z" ∈ nk_T := nk_in (i := 478) (by decide +kernel) rfl
theorem se_RX4_X8_isInMail : Cond.selects RX4 yX8_isInMail yX8_isInMail ∈ nk_T := nk_in (i := 480) (by decide +kernel) rfl
theorem se_RX9_X8_isInMail : Cond.selects RX9 yX8_isInMail yX8_isInMail ∈ nk_T := nk_in (i := 481) (by decide +kernel) rfl
theorem se_RX10_X8_isInMail : Cond.selects RX10 yX8_isInMail yX8_isInMail ∈ nk_T := nk_in (i := 482) (by decide +kernel) rfl
theorem ml_RX7_79 : Cond.methodLink RX7 79 yX7_unread ∈ nk_T := nk_in (i := 472) (by decide +kernel) rfl
theorem co_X7_unread : Cond.code yX7_unread cX7_unread 4 (some FieldType.int) ∈ nk_T := nk_in (i := 475) (by decide +kernel) rfl
theorem in_RX7 : Cond.initialized RX7 ∈ nk_T := nk_in (i := 64) (by decide +kernel) rfl
theorem my_X7_unread : nk_My yX7_unread cX7_unread 4 (some FieldType.int) 1 := ⟨co_X7_unread, in_RX7, ⟨by decide, by decide⟩, by decide +kernel⟩
theorem im_X7_unread : Cond.instanceMethod yX7_unread ∈ nk_T := nk_in (i := 473) (by decide +kernel) rfl
theorem se_RX7_X7_unread : Cond.selects RX7 yX7_unread yX7_unread ∈ nk_T := nk_in (i := 474) (by decide +kernel) rfl
theorem fk_RX8_36 : nk_Fk RX8 36 1 false [8, 12, 16, 17] := ⟨⟨1, rfl, ⟨(RX0, TX0, 11), "NotaryKiosk$Piece", rfl, by decide, nk_in (i := 558) (by decide +kernel) rfl, Or.inl rfl⟩, rfl⟩, ⟨⟨5, rfl, ⟨(RX4, TX4, 9), "NotaryKiosk$Piece", rfl, by decide, nk_in (i := 558) (by decide +kernel) rfl, Or.inl rfl⟩, rfl⟩, ⟨⟨9, rfl, ⟨(RX9, TX9, 15), "NotaryKiosk$Piece", rfl, by decide, nk_in (i := 558) (by decide +kernel) rfl, Or.inl rfl⟩, rfl⟩, ⟨⟨10, rfl, ⟨(RX10, TX10, 7), "NotaryKiosk$Piece", rfl, by decide, nk_in (i := 558) (by decide +kernel) rfl, Or.inl rfl⟩, rfl⟩, trivial⟩⟩⟩⟩
theorem fk_RX8_39 : nk_Fk RX8 39 0 false [8, 12, 16, 17] := ⟨⟨1, rfl, ⟨(RX0, TX0, 11), "NotaryKiosk$Piece", rfl, by decide, nk_in (i := 553) (by decide +kernel) rfl, Or.inl rfl⟩, rfl⟩, ⟨⟨5, rfl, ⟨(RX4, TX4, 9), "NotaryKiosk$Piece", rfl, by decide, nk_in (i := 553) (by decide +kernel) rfl, Or.inl rfl⟩, rfl⟩, ⟨⟨9, rfl, ⟨(RX9, TX9, 15), "NotaryKiosk$Piece", rfl, by decide, nk_in (i := 553) (by decide +kernel) rfl, Or.inl rfl⟩, rfl⟩, ⟨⟨10, rfl, ⟨(RX10, TX10, 7), "NotaryKiosk$Piece", rfl, by decide, nk_in (i := 553) (by decide +kernel) rfl, Or.inl rfl⟩, rfl⟩, trivial⟩⟩⟩⟩
theorem fk_RX8_42 : nk_Fk RX8 42 2 false [8, 12, 16, 17] := ⟨⟨1, rfl, ⟨(RX0, TX0, 11), "NotaryKiosk$Piece", rfl, by decide, nk_in (i := 562) (by decide +kernel) rfl, Or.inl rfl⟩, rfl⟩, ⟨⟨5, rfl, ⟨(RX4, TX4, 9), "NotaryKiosk$Piece", rfl, by decide, nk_in (i := 562) (by decide +kernel) rfl, Or.inl rfl⟩, rfl⟩, ⟨⟨9, rfl, ⟨(RX9, TX9, 15), "NotaryKiosk$Piece", rfl, by decide, nk_in (i := 562) (by decide +kernel) rfl, Or.inl rfl⟩, rfl⟩, ⟨⟨10, rfl, ⟨(RX10, TX10, 7), "NotaryKiosk$Piece", rfl, by decide, nk_in (i := 562) (by decide +kernel) rfl, Or.inl rfl⟩, rfl⟩, trivial⟩⟩⟩⟩
theorem ml_RX7_82 : Cond.methodLink RX7 82 yX8_couldBeReadFor ∈ nk_T := nk_in (i := 939) (by decide +kernel) rfl
theorem co_X8_couldBeReadFor : Cond.code yX8_couldBeReadFor cX8_couldBeReadFor 2 (some FieldType.boolean) ∈ nk_T := nk_in (i := 946) (by decide +kernel) rfl
theorem my_X8_couldBeReadFor : nk_My yX8_couldBeReadFor cX8_couldBeReadFor 2 (some FieldType.boolean) 1 := ⟨co_X8_couldBeReadFor, in_RX8, ⟨by decide, by decide⟩, by decide +kernel⟩
theorem im_X8_couldBeReadFor : Cond.instanceMethod yX8_couldBeReadFor ∈ nk_T := nk_in (i := 940) (by decide +kernel) rfl
theorem se_RX0_X8_couldBeReadFor : Cond.selects RX0 yX8_couldBeReadFor yX8_couldBeReadFor ∈ nk_T := nk_in (i := 942) (by decide +kernel) rfl
theorem sm_X8_couldBeReadFor : Cond.sameMethod "NotaryKiosk$Piece" "NotaryKiosk$Piece" "couldBeReadFor" "(LNotaryKiosk$Piece;)Z" ∈ nk_T := nk_in (i := 941) (by decide +kernel) rfl
theorem se_RX4_X8_couldBeReadFor : Cond.selects RX4 yX8_couldBeReadFor yX8_couldBeReadFor ∈ nk_T := nk_in (i := 943) (by decide +kernel) rfl
theorem se_RX9_X8_couldBeReadFor : Cond.selects RX9 yX8_couldBeReadFor yX8_couldBeReadFor ∈ nk_T := nk_in (i := 944) (by decide +kernel) rfl
theorem se_RX10_X8_couldBeReadFor : Cond.selects RX10 yX8_couldBeReadFor yX8_couldBeReadFor ∈ nk_T := nk_in (i := 945) (by decide +kernel) rfl
theorem fk_RX7_86 : nk_Fk RX7 86 0 false [16] := ⟨⟨9, rfl, ⟨(RX9, TX9, 15), "NotaryKiosk$Power", rfl, by decide, nk_in (i := 554) (by decide +kernel) rfl, Or.inr (nk_in (i := 555) (by decide +kernel) rfl)⟩, rfl⟩, trivial⟩
theorem fk_RX7_92 : nk_Fk RX7 92 7 true [16] := ⟨⟨9, rfl, ⟨(RX9, TX9, 15), "NotaryKiosk$Power", rfl, by decide, nk_in (i := 538) (by decide +kernel) rfl, Or.inl rfl⟩, rfl⟩, trivial⟩
theorem ml_RX7_89 : Cond.methodLink RX7 89 yX7_sees ∈ nk_T := nk_in (i := 698) (by decide +kernel) rfl
theorem co_X7_sees : Cond.code yX7_sees cX7_sees 2 (some FieldType.boolean) ∈ nk_T := nk_in (i := 701) (by decide +kernel) rfl
theorem my_X7_sees : nk_My yX7_sees cX7_sees 2 (some FieldType.boolean) 1 := ⟨co_X7_sees, in_RX7, ⟨by decide, by decide⟩, by decide +kernel⟩
theorem im_X7_sees : Cond.instanceMethod yX7_sees ∈ nk_T := nk_in (i := 700) (by decide +kernel) rfl
theorem se_RX7_X7_sees : Cond.selects RX7 yX7_sees yX7_sees ∈ nk_T := nk_in (i := 9) (by decide +kernel) rfl
theorem fk_RX10_7 : nk_Fk RX10 7 6 true [17] := ⟨⟨10, rfl, ⟨(RX10, TX10, 7), "NotaryKiosk$Revocation", rfl, by decide, nk_in (i := 744) (by decide +kernel) rfl, Or.inl rfl⟩, rfl⟩, trivial⟩
theorem ml_RX7_100 : Cond.methodLink RX7 100 yX8_isRevocationOf ∈ nk_T := nk_in (i := 710) (by decide +kernel) rfl
theorem co_X8_isRevocationOf : Cond.code yX8_isRevocationOf cX8_isRevocationOf 2 (some FieldType.boolean) ∈ nk_T := nk_in (i := 719) (by decide +kernel) rfl
theorem my_X8_isRevocationOf : nk_My yX8_isRevocationOf cX8_isRevocationOf 2 (some FieldType.boolean) 1 := ⟨co_X8_isRevocationOf, in_RX8, ⟨by decide, by decide⟩, by decide +kernel⟩
theorem im_X8_isRevocationOf : Cond.instanceMethod yX8_isRevocationOf ∈ nk_T := nk_in (i := 711) (by decide +kernel) rfl
theorem se_RX0_X8_isRevocationOf : Cond.selects RX0 yX8_isRevocationOf yX8_isRevocationOf ∈ nk_T := nk_in (i := 713) (by decide +kernel) rfl
theorem sm_X8_isRevocationOf : Cond.sameMethod "NotaryKiosk$Piece" "NotaryKiosk$Piece" "isRevocationOf" "(LNotaryKiosk$Power;)Z" ∈ nk_T := nk_in (i := 712) (by decide +kernel) rfl
theorem se_RX4_X8_isRevocationOf : Cond.selects RX4 yX8_isRevocationOf yX8_isRevocationOf ∈ nk_T := nk_in (i := 714) (by decide +kernel) rfl
theorem se_RX9_X8_isRevocationOf : Cond.selects RX9 yX8_isRevocationOf yX8_isRevocationOf ∈ nk_T := nk_in (i := 715) (by decide +kernel) rfl
theorem co_X10_isRevocationOf : Cond.code yX10_isRevocationOf cX10_isRevocationOf 2 (some FieldType.boolean) ∈ nk_T := nk_in (i := 718) (by decide +kernel) rfl
theorem in_RX10 : Cond.initialized RX10 ∈ nk_T := nk_in (i := 86) (by decide +kernel) rfl
theorem my_X10_isRevocationOf : nk_My yX10_isRevocationOf cX10_isRevocationOf 2 (some FieldType.boolean) 1 := ⟨co_X10_isRevocationOf, in_RX10, ⟨by decide, by decide⟩, by decide +kernel⟩
theorem im_X10_isRevocationOf : Cond.instanceMethod yX10_isRevocationOf ∈ nk_T := nk_in (i := 717) (by decide +kernel) rfl
theorem se_RX10_X8_isRevocationOf_X10_isRevocationOf : Cond.selects RX10 yX8_isRevocationOf yX10_isRevocationOf ∈ nk_T := nk_in (i := 716) (by decide +kernel) rfl
theorem ml_RX7_96 : Cond.methodLink RX7 96 yX7_revokesAlone ∈ nk_T := nk_in (i := 706) (by decide +kernel) rfl
theorem co_X7_revokesAlone : Cond.code yX7_revokesAlone cX7_revokesAlone 3 (some FieldType.boolean) ∈ nk_T := nk_in (i := 709) (by decide +kernel) rfl
theorem my_X7_revokesAlone : nk_My yX7_revokesAlone cX7_revokesAlone 3 (some FieldType.boolean) 1 := ⟨co_X7_revokesAlone, in_RX7, ⟨by decide, by decide⟩, by decide +kernel⟩
theorem im_X7_revokesAlone : Cond.instanceMethod yX7_revokesAlone ∈ nk_T := nk_in (i := 708) (by decide +kernel) rfl
theorem se_RX7_X7_revokesAlone : Cond.selects RX7 yX7_revokesAlone yX7_revokesAlone ∈ nk_T := nk_in (i := 10) (by decide +kernel) rfl
theorem ml_RX7_103 : Cond.methodLink RX7 103 yX8_amountBy ∈ nk_T := nk_in (i := 875) (by decide +kernel) rfl
theorem co_X0_amountBy : Cond.code yX0_amountBy cX0_amountBy 2 (some FieldType.int) ∈ nk_T := nk_in (i := 880) (by decide +kernel) rfl
theorem in_RX0 : Cond.initialized RX0 ∈ nk_T := nk_in (i := 89) (by decide +kernel) rfl
theorem my_X0_amountBy : nk_My yX0_amountBy cX0_amountBy 2 (some FieldType.int) 1 := ⟨co_X0_amountBy, in_RX0, ⟨by decide, by decide⟩, by decide +kernel⟩
theorem im_X0_amountBy : Cond.instanceMethod yX0_amountBy ∈ nk_T := nk_in (i := 879) (by decide +kernel) rfl
theorem se_RX0_X8_amountBy_X0_amountBy : Cond.selects RX0 yX8_amountBy yX0_amountBy ∈ nk_T := nk_in (i := 878) (by decide +kernel) rfl
theorem sm_X8_amountBy : Cond.sameMethod "NotaryKiosk$Piece" "NotaryKiosk$Piece" "amountBy" "(LNotaryKiosk$Power;)I" ∈ nk_T := nk_in (i := 877) (by decide +kernel) rfl
theorem im_X8_amountBy : Cond.instanceMethod yX8_amountBy ∈ nk_T := nk_in (i := 876) (by decide +kernel) rfl
theorem co_X8_amountBy : Cond.code yX8_amountBy cX8_amountBy 2 (some FieldType.int) ∈ nk_T := nk_in (i := 888) (by decide +kernel) rfl
theorem my_X8_amountBy : nk_My yX8_amountBy cX8_amountBy 2 (some FieldType.int) 1 := ⟨co_X8_amountBy, in_RX8, ⟨by decide, by decide⟩, by decide +kernel⟩
theorem se_RX4_X8_amountBy : Cond.selects RX4 yX8_amountBy yX8_amountBy ∈ nk_T := nk_in (i := 885) (by decide +kernel) rfl
theorem se_RX9_X8_amountBy : Cond.selects RX9 yX8_amountBy yX8_amountBy ∈ nk_T := nk_in (i := 886) (by decide +kernel) rfl
theorem se_RX10_X8_amountBy : Cond.selects RX10 yX8_amountBy yX8_amountBy ∈ nk_T := nk_in (i := 887) (by decide +kernel) rfl
theorem fk_RX7_110 : nk_Fk RX7 110 12 false [16] := ⟨⟨9, rfl, ⟨(RX9, TX9, 15), "NotaryKiosk$Power", rfl, by decide, nk_in (i := 548) (by decide +kernel) rfl, Or.inl rfl⟩, rfl⟩, trivial⟩
theorem ml_RX7_107 : Cond.methodLink RX7 107 yX7_doneWith ∈ nk_T := nk_in (i := 871) (by decide +kernel) rfl
theorem co_X7_doneWith : Cond.code yX7_doneWith cX7_doneWith 4 (some FieldType.int) ∈ nk_T := nk_in (i := 874) (by decide +kernel) rfl
theorem my_X7_doneWith : nk_My yX7_doneWith cX7_doneWith 4 (some FieldType.int) 1 := ⟨co_X7_doneWith, in_RX7, ⟨by decide, by decide⟩, by decide +kernel⟩
theorem im_X7_doneWith : Cond.instanceMethod yX7_doneWith ∈ nk_T := nk_in (i := 872) (by decide +kernel) rfl
theorem se_RX7_X7_doneWith : Cond.selects RX7 yX7_doneWith yX7_doneWith ∈ nk_T := nk_in (i := 873) (by decide +kernel) rfl
theorem ml_RX7_113 : Cond.methodLink RX7 113 yX8_isDeputation ∈ nk_T := nk_in (i := 769) (by decide +kernel) rfl
theorem co_X8_isDeputation : Cond.code yX8_isDeputation cX8_isDeputation 4 (some FieldType.boolean) ∈ nk_T := nk_in (i := 778) (by decide +kernel) rfl
theorem my_X8_isDeputation : nk_My yX8_isDeputation cX8_isDeputation 4 (some FieldType.boolean) 3 := ⟨co_X8_isDeputation, in_RX8, ⟨by decide, by decide⟩, by decide +kernel⟩
theorem im_X8_isDeputation : Cond.instanceMethod yX8_isDeputation ∈ nk_T := nk_in (i := 770) (by decide +kernel) rfl
theorem se_RX0_X8_isDeputation : Cond.selects RX0 yX8_isDeputation yX8_isDeputation ∈ nk_T := nk_in (i := 772) (by decide +kernel) rfl
theorem sm_X8_isDeputation : Cond.sameMethod "NotaryKiosk$Piece" "NotaryKiosk$Piece" "isDeputation" "(III)Z" ∈ nk_T := nk_in (i := 771) (by decide +kernel) rfl
theorem co_X4_isDeputation : Cond.code yX4_isDeputation cX4_isDeputation 4 (some FieldType.boolean) ∈ nk_T := nk_in (i := 775) (by decide +kernel) rfl
theorem in_RX4 : Cond.initialized RX4 ∈ nk_T := nk_in (i := 87) (by decide +kernel) rfl
theorem my_X4_isDeputation : nk_My yX4_isDeputation cX4_isDeputation 4 (some FieldType.boolean) 3 := ⟨co_X4_isDeputation, in_RX4, ⟨by decide, by decide⟩, by decide +kernel⟩
theorem im_X4_isDeputation : Cond.instanceMethod yX4_isDeputation ∈ nk_T := nk_in (i := 774) (by decide +kernel) rfl
theorem se_RX4_X8_isDeputation_X4_isDeputation : Cond.selects RX4 yX8_isDeputation yX4_isDeputation ∈ nk_T := nk_in (i := 773) (by decide +kernel) rfl
theorem se_RX9_X8_isDeputation : Cond.selects RX9 yX8_isDeputation yX8_isDeputation ∈ nk_T := nk_in (i := 776) (by decide +kernel) rfl
theorem se_RX10_X8_isDeputation : Cond.selects RX10 yX8_isDeputation yX8_isDeputation ∈ nk_T := nk_in (i := 777) (by decide +kernel) rfl
theorem ml_RX7_117 : Cond.methodLink RX7 117 yX7_deputes ∈ nk_T := nk_in (i := 893) (by decide +kernel) rfl
theorem co_X7_deputes : Cond.code yX7_deputes cX7_deputes 5 (some FieldType.boolean) ∈ nk_T := nk_in (i := 768) (by decide +kernel) rfl
theorem my_X7_deputes : nk_My yX7_deputes cX7_deputes 5 (some FieldType.boolean) 3 := ⟨co_X7_deputes, in_RX7, ⟨by decide, by decide⟩, by decide +kernel⟩
theorem im_X7_deputes : Cond.instanceMethod yX7_deputes ∈ nk_T := nk_in (i := 766) (by decide +kernel) rfl
theorem se_RX7_X7_deputes : Cond.selects RX7 yX7_deputes yX7_deputes ∈ nk_T := nk_in (i := 767) (by decide +kernel) rfl
theorem fk_RX9_40 : nk_Fk RX9 40 13 false [16] := ⟨⟨9, rfl, ⟨(RX9, TX9, 15), "NotaryKiosk$Power", rfl, by decide, nk_in (i := 550) (by decide +kernel) rfl, Or.inl rfl⟩, rfl⟩, trivial⟩
theorem fk_RX9_32 : nk_Fk RX9 32 11 false [16] := ⟨⟨9, rfl, ⟨(RX9, TX9, 15), "NotaryKiosk$Power", rfl, by decide, nk_in (i := 546) (by decide +kernel) rfl, Or.inl rfl⟩, rfl⟩, trivial⟩
theorem fk_RX7_123 : nk_Fk RX7 123 2 false [11] := ⟨⟨4, rfl, ⟨(RX3, TX3, 6), "NotaryKiosk$Deed", rfl, by decide, nk_in (i := 833) (by decide +kernel) rfl, Or.inl rfl⟩, rfl⟩, trivial⟩
theorem fk_RX7_128 : nk_Fk RX7 128 9 false [16] := ⟨⟨9, rfl, ⟨(RX9, TX9, 15), "NotaryKiosk$Power", rfl, by decide, nk_in (i := 543) (by decide +kernel) rfl, Or.inl rfl⟩, rfl⟩, trivial⟩
theorem fk_RX7_134 : nk_Fk RX7 134 1 false [11] := ⟨⟨4, rfl, ⟨(RX3, TX3, 6), "NotaryKiosk$Deed", rfl, by decide, nk_in (i := 830) (by decide +kernel) rfl, Or.inl rfl⟩, rfl⟩, trivial⟩
theorem fk_RX7_138 : nk_Fk RX7 138 10 false [16] := ⟨⟨9, rfl, ⟨(RX9, TX9, 15), "NotaryKiosk$Power", rfl, by decide, nk_in (i := 545) (by decide +kernel) rfl, Or.inl rfl⟩, rfl⟩, trivial⟩
theorem fk_RX7_141 : nk_Fk RX7 141 3 false [11] := ⟨⟨4, rfl, ⟨(RX3, TX3, 6), "NotaryKiosk$Deed", rfl, by decide, nk_in (i := 836) (by decide +kernel) rfl, Or.inl rfl⟩, rfl⟩, trivial⟩
theorem fk_RX7_144 : nk_Fk RX7 144 4 false [11] := ⟨⟨4, rfl, ⟨(RX3, TX3, 6), "NotaryKiosk$Deed", rfl, by decide, nk_in (i := 839) (by decide +kernel) rfl, Or.inl rfl⟩, rfl⟩, trivial⟩
theorem fk_RX7_154 : nk_Fk RX7 154 5 false [11] := ⟨⟨4, rfl, ⟨(RX3, TX3, 6), "NotaryKiosk$Deed", rfl, by decide, nk_in (i := 842) (by decide +kernel) rfl, Or.inl rfl⟩, rfl⟩, trivial⟩
theorem fk_RX7_157 : nk_Fk RX7 157 0 false [11] := ⟨⟨4, rfl, ⟨(RX3, TX3, 6), "NotaryKiosk$Deed", rfl, by decide, nk_in (i := 827) (by decide +kernel) rfl, Or.inl rfl⟩, rfl⟩, trivial⟩
theorem ml_RX7_158 : Cond.methodLink RX7 158 yX7_officerAt ∈ nk_T := nk_in (i := 889) (by decide +kernel) rfl
theorem co_X7_officerAt : Cond.code yX7_officerAt cX7_officerAt 3 (some FieldType.int) ∈ nk_T := nk_in (i := 892) (by decide +kernel) rfl
theorem my_X7_officerAt : nk_My yX7_officerAt cX7_officerAt 3 (some FieldType.int) 2 := ⟨co_X7_officerAt, in_RX7, ⟨by decide, by decide⟩, by decide +kernel⟩
theorem im_X7_officerAt : Cond.instanceMethod yX7_officerAt ∈ nk_T := nk_in (i := 891) (by decide +kernel) rfl
theorem se_RX7_X7_officerAt : Cond.selects RX7 yX7_officerAt yX7_officerAt ∈ nk_T := nk_in (i := 13) (by decide +kernel) rfl
theorem ml_RX7_150 : Cond.methodLink RX7 150 yX7_wouldPassTotal ∈ nk_T := nk_in (i := 867) (by decide +kernel) rfl
theorem co_X7_wouldPassTotal : Cond.code yX7_wouldPassTotal cX7_wouldPassTotal 4 (some FieldType.boolean) ∈ nk_T := nk_in (i := 870) (by decide +kernel) rfl
theorem my_X7_wouldPassTotal : nk_My yX7_wouldPassTotal cX7_wouldPassTotal 4 (some FieldType.boolean) 2 := ⟨co_X7_wouldPassTotal, in_RX7, ⟨by decide, by decide⟩, by decide +kernel⟩
theorem im_X7_wouldPassTotal : Cond.instanceMethod yX7_wouldPassTotal ∈ nk_T := nk_in (i := 869) (by decide +kernel) rfl
theorem se_RX7_X7_wouldPassTotal : Cond.selects RX7 yX7_wouldPassTotal yX7_wouldPassTotal ∈ nk_T := nk_in (i := 12) (by decide +kernel) rfl
theorem ml_RX7_147 : Cond.methodLink RX7 147 yX9_limitsBelow ∈ nk_T := nk_in (i := 863) (by decide +kernel) rfl
theorem co_X9_limitsBelow : Cond.code yX9_limitsBelow cX9_limitsBelow 3 (some FieldType.boolean) ∈ nk_T := nk_in (i := 866) (by decide +kernel) rfl
theorem my_X9_limitsBelow : nk_My yX9_limitsBelow cX9_limitsBelow 3 (some FieldType.boolean) 1 := ⟨co_X9_limitsBelow, in_RX9, ⟨by decide, by decide⟩, by decide +kernel⟩
theorem im_X9_limitsBelow : Cond.instanceMethod yX9_limitsBelow ∈ nk_T := nk_in (i := 864) (by decide +kernel) rfl
theorem se_RX9_X9_limitsBelow : Cond.selects RX9 yX9_limitsBelow yX9_limitsBelow ∈ nk_T := nk_in (i := 865) (by decide +kernel) rfl
theorem ml_RX7_135 : Cond.methodLink RX7 135 yX9_isOver ∈ nk_T := nk_in (i := 862) (by decide +kernel) rfl
theorem co_X9_isOver : Cond.code yX9_isOver cX9_isOver 3 (some FieldType.boolean) ∈ nk_T := nk_in (i := 723) (by decide +kernel) rfl
theorem my_X9_isOver : nk_My yX9_isOver cX9_isOver 3 (some FieldType.boolean) 1 := ⟨co_X9_isOver, in_RX9, ⟨by decide, by decide⟩, by decide +kernel⟩
theorem im_X9_isOver : Cond.instanceMethod yX9_isOver ∈ nk_T := nk_in (i := 721) (by decide +kernel) rfl
theorem se_RX9_X9_isOver : Cond.selects RX9 yX9_isOver yX9_isOver ∈ nk_T := nk_in (i := 722) (by decide +kernel) rfl
theorem ml_RX7_131 : Cond.methodLink RX7 131 yX7_revokes ∈ nk_T := nk_in (i := 861) (by decide +kernel) rfl
theorem co_X7_revokes : Cond.code yX7_revokes cX7_revokes 3 (some FieldType.boolean) ∈ nk_T := nk_in (i := 705) (by decide +kernel) rfl
theorem my_X7_revokes : nk_My yX7_revokes cX7_revokes 3 (some FieldType.boolean) 1 := ⟨co_X7_revokes, in_RX7, ⟨by decide, by decide⟩, by decide +kernel⟩
theorem im_X7_revokes : Cond.instanceMethod yX7_revokes ∈ nk_T := nk_in (i := 703) (by decide +kernel) rfl
theorem se_RX7_X7_revokes : Cond.selects RX7 yX7_revokes yX7_revokes ∈ nk_T := nk_in (i := 704) (by decide +kernel) rfl
theorem ml_RX7_120 : Cond.methodLink RX7 120 yX7_knows ∈ nk_T := nk_in (i := 860) (by decide +kernel) rfl
theorem co_X7_knows : Cond.code yX7_knows cX7_knows 3 (some FieldType.boolean) ∈ nk_T := nk_in (i := 697) (by decide +kernel) rfl
theorem my_X7_knows : nk_My yX7_knows cX7_knows 3 (some FieldType.boolean) 1 := ⟨co_X7_knows, in_RX7, ⟨by decide, by decide⟩, by decide +kernel⟩
theorem im_X7_knows : Cond.instanceMethod yX7_knows ∈ nk_T := nk_in (i := 695) (by decide +kernel) rfl
theorem se_RX7_X7_knows : Cond.selects RX7 yX7_knows yX7_knows ∈ nk_T := nk_in (i := 696) (by decide +kernel) rfl
theorem ml_RX9_1 : Cond.methodLink RX9 1 yX8_init ∈ nk_T := nk_in (i := 527) (by decide +kernel) rfl
theorem fk_RX9_7 : nk_Fk RX9 7 6 false [16] := ⟨⟨9, rfl, ⟨(RX9, TX9, 15), "NotaryKiosk$Power", rfl, by decide, nk_in (i := 534) (by decide +kernel) rfl, Or.inl rfl⟩, rfl⟩, trivial⟩
theorem fw_RX9_7_i : nk_Fw RX9 true 6 [16] := ⟨fun ci q e h => by
    have e2 : ci = 9 := by omega
    subst e2
    cases h
    exact ⟨Or.inr ⟨rfl, rfl, rfl⟩, Or.inl ⟨by decide +kernel, rfl⟩⟩, trivial⟩
theorem fw_RX9_13_i : nk_Fw RX9 true 7 [16] := ⟨fun ci q e h => by
    have e2 : ci = 9 := by omega
    subst e2
    cases h
    exact ⟨Or.inr ⟨rfl, rfl, rfl⟩, Or.inr ⟨rfl, Or.inl ⟨"NotaryKiosk$Power", by decide +kernel⟩⟩⟩, trivial⟩
theorem fk_RX9_17 : nk_Fk RX9 17 8 false [16] := ⟨⟨9, rfl, ⟨(RX9, TX9, 15), "NotaryKiosk$Power", rfl, by decide, nk_in (i := 540) (by decide +kernel) rfl, Or.inl rfl⟩, rfl⟩, trivial⟩
theorem fw_RX9_17_i : nk_Fw RX9 true 8 [16] := ⟨fun ci q e h => by
    have e2 : ci = 9 := by omega
    subst e2
    cases h
    exact ⟨Or.inr ⟨rfl, rfl, rfl⟩, Or.inl ⟨by decide +kernel, rfl⟩⟩, trivial⟩
theorem fk_RX9_20 : nk_Fk RX9 20 9 false [16] := ⟨⟨9, rfl, ⟨(RX9, TX9, 15), "NotaryKiosk$Power", rfl, by decide, nk_in (i := 541) (by decide +kernel) rfl, Or.inl rfl⟩, rfl⟩, trivial⟩
theorem fw_RX9_20_i : nk_Fw RX9 true 9 [16] := ⟨fun ci q e h => by
    have e2 : ci = 9 := by omega
    subst e2
    cases h
    exact ⟨Or.inr ⟨rfl, rfl, rfl⟩, Or.inl ⟨by decide +kernel, rfl⟩⟩, trivial⟩
theorem fk_RX9_23 : nk_Fk RX9 23 0 false [13] := ⟨⟨6, rfl, ⟨(RX5, TX5, 5), "NotaryKiosk$Draft", rfl, by decide, nk_in (i := 179) (by decide +kernel) rfl, Or.inl rfl⟩, rfl⟩, trivial⟩
theorem fk_RX9_28 : nk_Fk RX9 28 10 false [16] := ⟨⟨9, rfl, ⟨(RX9, TX9, 15), "NotaryKiosk$Power", rfl, by decide, nk_in (i := 544) (by decide +kernel) rfl, Or.inl rfl⟩, rfl⟩, trivial⟩
theorem fw_RX9_28_i : nk_Fw RX9 true 10 [16] := ⟨fun ci q e h => by
    have e2 : ci = 9 := by omega
    subst e2
    cases h
    exact ⟨Or.inr ⟨rfl, rfl, rfl⟩, Or.inl ⟨by decide +kernel, rfl⟩⟩, trivial⟩
theorem fk_RX9_29 : nk_Fk RX9 29 1 false [13] := ⟨⟨6, rfl, ⟨(RX5, TX5, 5), "NotaryKiosk$Draft", rfl, by decide, nk_in (i := 181) (by decide +kernel) rfl, Or.inl rfl⟩, rfl⟩, trivial⟩
theorem fw_RX9_32_i : nk_Fw RX9 true 11 [16] := ⟨fun ci q e h => by
    have e2 : ci = 9 := by omega
    subst e2
    cases h
    exact ⟨Or.inr ⟨rfl, rfl, rfl⟩, Or.inl ⟨by decide +kernel, rfl⟩⟩, trivial⟩
theorem fk_RX9_33 : nk_Fk RX9 33 2 false [13] := ⟨⟨6, rfl, ⟨(RX5, TX5, 5), "NotaryKiosk$Draft", rfl, by decide, nk_in (i := 183) (by decide +kernel) rfl, Or.inl rfl⟩, rfl⟩, trivial⟩
theorem fk_RX9_36 : nk_Fk RX9 36 12 false [16] := ⟨⟨9, rfl, ⟨(RX9, TX9, 15), "NotaryKiosk$Power", rfl, by decide, nk_in (i := 547) (by decide +kernel) rfl, Or.inl rfl⟩, rfl⟩, trivial⟩
theorem fw_RX9_36_i : nk_Fw RX9 true 12 [16] := ⟨fun ci q e h => by
    have e2 : ci = 9 := by omega
    subst e2
    cases h
    exact ⟨Or.inr ⟨rfl, rfl, rfl⟩, Or.inl ⟨by decide +kernel, rfl⟩⟩, trivial⟩
theorem fk_RX9_37 : nk_Fk RX9 37 3 false [13] := ⟨⟨6, rfl, ⟨(RX5, TX5, 5), "NotaryKiosk$Draft", rfl, by decide, nk_in (i := 185) (by decide +kernel) rfl, Or.inl rfl⟩, rfl⟩, trivial⟩
theorem fw_RX9_40_i : nk_Fw RX9 true 13 [16] := ⟨fun ci q e h => by
    have e2 : ci = 9 := by omega
    subst e2
    cases h
    exact ⟨Or.inr ⟨rfl, rfl, rfl⟩, Or.inl ⟨by decide +kernel, rfl⟩⟩, trivial⟩
theorem fk_RX9_43 : nk_Fk RX9 43 4 false [13] := ⟨⟨6, rfl, ⟨(RX5, TX5, 5), "NotaryKiosk$Draft", rfl, by decide, nk_in (i := 187) (by decide +kernel) rfl, Or.inl rfl⟩, rfl⟩, trivial⟩
theorem fk_RX9_46 : nk_Fk RX9 46 14 false [16] := ⟨⟨9, rfl, ⟨(RX9, TX9, 15), "NotaryKiosk$Power", rfl, by decide, nk_in (i := 551) (by decide +kernel) rfl, Or.inl rfl⟩, rfl⟩, trivial⟩
theorem fw_RX9_46_i : nk_Fw RX9 true 14 [16] := ⟨fun ci q e h => by
    have e2 : ci = 9 := by omega
    subst e2
    cases h
    exact ⟨Or.inr ⟨rfl, rfl, rfl⟩, Or.inl ⟨by decide +kernel, rfl⟩⟩, trivial⟩
theorem ml_RX10_1 : Cond.methodLink RX10 1 yX8_init ∈ nk_T := nk_in (i := 743) (by decide +kernel) rfl
theorem fw_RX10_7_i : nk_Fw RX10 true 6 [17] := ⟨fun ci q e h => by
    have e2 : ci = 10 := by omega
    subst e2
    cases h
    exact ⟨Or.inr ⟨rfl, rfl, rfl⟩, Or.inr ⟨rfl, Or.inl ⟨"NotaryKiosk$Power", by decide +kernel⟩⟩⟩, trivial⟩
theorem ml_RX11_25 : Cond.methodLink RX11 25 yJx4a65c_init_da8c8 ∈ nk_T := nk_in (i := 154) (by decide +kernel) rfl
theorem fk_RX11_39 : nk_Fk RX11 39 4 true [18] := ⟨⟨11, rfl, ⟨(RX11, TX11, 9), "NotaryKiosk", rfl, by decide, nk_in (i := 203) (by decide +kernel) rfl, Or.inl rfl⟩, rfl⟩, trivial⟩
theorem fw_RX11_39_i : nk_Fw RX11 true 4 [18] := ⟨fun ci q e h => by
    have e2 : ci = 11 := by omega
    subst e2
    cases h
    exact ⟨Or.inr ⟨rfl, rfl, rfl⟩, Or.inr ⟨rfl, Or.inl ⟨"java/util/ArrayList", by decide +kernel⟩⟩⟩, trivial⟩
theorem fk_RX11_42 : nk_Fk RX11 42 5 false [18] := ⟨⟨11, rfl, ⟨(RX11, TX11, 9), "NotaryKiosk", rfl, by decide, nk_in (i := 204) (by decide +kernel) rfl, Or.inl rfl⟩, rfl⟩, trivial⟩
theorem fw_RX11_42_i : nk_Fw RX11 true 5 [18] := ⟨fun ci q e h => by
    have e2 : ci = 11 := by omega
    subst e2
    cases h
    exact ⟨Or.inl rfl, Or.inl ⟨by decide +kernel, rfl⟩⟩, trivial⟩
theorem kc_RX11_48 : Cond.constant RX11 48 100000 ∈ nk_T := nk_in (i := 173) (by decide +kernel) rfl
theorem co_X5_init : Cond.code yX5_init cX5_init 6 (none : Option FieldType) ∈ nk_T := nk_in (i := 176) (by decide +kernel) rfl
theorem in_RX5 : Cond.initialized RX5 ∈ nk_T := nk_in (i := 69) (by decide +kernel) rfl
theorem my_X5_init : nk_My yX5_init cX5_init 6 (none : Option FieldType) 5 := ⟨co_X5_init, in_RX5, ⟨by decide, by decide⟩, by decide +kernel⟩
theorem im_X5_init : Cond.instanceMethod yX5_init ∈ nk_T := nk_in (i := 175) (by decide +kernel) rfl
theorem ml_RX11_49 : Cond.methodLink RX11 49 yX5_init ∈ nk_T := nk_in (i := 174) (by decide +kernel) rfl
theorem fk_RX11_52 : nk_Fk RX11 52 6 true [18] := ⟨⟨11, rfl, ⟨(RX11, TX11, 9), "NotaryKiosk", rfl, by decide, nk_in (i := 205) (by decide +kernel) rfl, Or.inl rfl⟩, rfl⟩, trivial⟩
theorem fw_RX11_52_i : nk_Fw RX11 true 6 [18] := ⟨fun ci q e h => by
    have e2 : ci = 11 := by omega
    subst e2
    cases h
    exact ⟨Or.inl rfl, Or.inr ⟨rfl, Or.inl ⟨"NotaryKiosk$Draft", by decide +kernel⟩⟩⟩, trivial⟩
theorem fk_RX11_56 : nk_Fk RX11 56 7 false [18] := ⟨⟨11, rfl, ⟨(RX11, TX11, 9), "NotaryKiosk", rfl, by decide, nk_in (i := 206) (by decide +kernel) rfl, Or.inl rfl⟩, rfl⟩, trivial⟩
theorem fw_RX11_56_i : nk_Fw RX11 true 7 [18] := ⟨fun ci q e h => by
    have e2 : ci = 11 := by omega
    subst e2
    cases h
    exact ⟨Or.inl rfl, Or.inl ⟨by decide +kernel, rfl⟩⟩, trivial⟩
theorem fk_RX11_59 : nk_Fk RX11 59 8 false [18] := ⟨⟨11, rfl, ⟨(RX11, TX11, 9), "NotaryKiosk", rfl, by decide, nk_in (i := 207) (by decide +kernel) rfl, Or.inl rfl⟩, rfl⟩, trivial⟩
theorem fw_RX11_59_i : nk_Fw RX11 true 8 [18] := ⟨fun ci q e h => by
    have e2 : ci = 11 := by omega
    subst e2
    cases h
    exact ⟨Or.inl rfl, Or.inl ⟨by decide +kernel, rfl⟩⟩, trivial⟩
theorem cl_RX11_46 : Cond.classLink RX11 46 "NotaryKiosk$Draft" ∈ nk_T := nk_in (i := 171) (by decide +kernel) rfl
theorem ins_RX5 : Cond.instantiable RX5 5 ∈ nk_T := nk_in (i := 172) (by decide +kernel) rfl
theorem cl_RX11_23 : Cond.classLink RX11 23 "java/util/ArrayList" ∈ nk_T := nk_in (i := 153) (by decide +kernel) rfl
theorem fk_RX11_32 : nk_Fk RX11 32 3 true [18] := ⟨⟨11, rfl, ⟨(RX11, TX11, 9), "NotaryKiosk", rfl, by decide, nk_in (i := 202) (by decide +kernel) rfl, Or.inl rfl⟩, rfl⟩, trivial⟩
theorem co_X1_init : Cond.code yX1_init cX1_init 2 (none : Option FieldType) ∈ nk_T := nk_in (i := 160) (by decide +kernel) rfl
theorem my_X1_init : nk_My yX1_init cX1_init 2 (none : Option FieldType) 1 := ⟨co_X1_init, in_RX1, ⟨by decide, by decide⟩, by decide +kernel⟩
theorem im_X1_init : Cond.instanceMethod yX1_init ∈ nk_T := nk_in (i := 159) (by decide +kernel) rfl
theorem ml_RX11_36 : Cond.methodLink RX11 36 yX1_init ∈ nk_T := nk_in (i := 158) (by decide +kernel) rfl
theorem cl_RX11_30 : Cond.classLink RX11 30 "NotaryKiosk$Chain" ∈ nk_T := nk_in (i := 155) (by decide +kernel) rfl
theorem ins_RX1 : Cond.instantiable RX1 2 ∈ nk_T := nk_in (i := 157) (by decide +kernel) rfl
theorem co_X6_init : Cond.code yX6_init cX6_init 1 (none : Option FieldType) ∈ nk_T := nk_in (i := 103) (by decide +kernel) rfl
theorem my_X6_init : nk_My yX6_init cX6_init 1 (none : Option FieldType) 0 := ⟨co_X6_init, in_RX6, ⟨by decide, by decide⟩, by decide +kernel⟩
theorem im_X6_init : Cond.instanceMethod yX6_init ∈ nk_T := nk_in (i := 102) (by decide +kernel) rfl
theorem nl_RX11_9 : Cond.methodLinkNest RX11 9 yX6_init "NotaryKiosk" ∈ nk_T := nk_in (i := 101) (by decide +kernel) rfl
theorem fk_RX11_10 : nk_Fk RX11 10 0 true [18] := ⟨⟨11, rfl, ⟨(RX11, TX11, 9), "NotaryKiosk", rfl, by decide, nk_in (i := 199) (by decide +kernel) rfl, Or.inl rfl⟩, rfl⟩, trivial⟩
theorem fw_RX11_10_i : nk_Fw RX11 true 0 [18] := ⟨fun ci q e h => by
    have e2 : ci = 11 := by omega
    subst e2
    cases h
    exact ⟨Or.inr ⟨rfl, rfl, rfl⟩, Or.inr ⟨rfl, Or.inl ⟨"NotaryKiosk$Links", by decide +kernel⟩⟩⟩, trivial⟩
theorem co_X7_init : Cond.code yX7_init cX7_init 1 (none : Option FieldType) ∈ nk_T := nk_in (i := 117) (by decide +kernel) rfl
theorem my_X7_init : nk_My yX7_init cX7_init 1 (none : Option FieldType) 0 := ⟨co_X7_init, in_RX7, ⟨by decide, by decide⟩, by decide +kernel⟩
theorem im_X7_init : Cond.instanceMethod yX7_init ∈ nk_T := nk_in (i := 116) (by decide +kernel) rfl
theorem nl_RX11_18 : Cond.methodLinkNest RX11 18 yX7_init "NotaryKiosk" ∈ nk_T := nk_in (i := 115) (by decide +kernel) rfl
theorem fk_RX11_19 : nk_Fk RX11 19 1 true [18] := ⟨⟨11, rfl, ⟨(RX11, TX11, 9), "NotaryKiosk", rfl, by decide, nk_in (i := 200) (by decide +kernel) rfl, Or.inl rfl⟩, rfl⟩, trivial⟩
theorem fw_RX11_19_i : nk_Fw RX11 true 1 [18] := ⟨fun ci q e h => by
    have e2 : ci = 11 := by omega
    subst e2
    cases h
    exact ⟨Or.inr ⟨rfl, rfl, rfl⟩, Or.inr ⟨rfl, Or.inl ⟨"NotaryKiosk$News", by decide +kernel⟩⟩⟩, trivial⟩
theorem fk_RX11_26 : nk_Fk RX11 26 2 true [18] := ⟨⟨11, rfl, ⟨(RX11, TX11, 9), "NotaryKiosk", rfl, by decide, nk_in (i := 201) (by decide +kernel) rfl, Or.inl rfl⟩, rfl⟩, trivial⟩
theorem fw_RX11_26_i : nk_Fw RX11 true 2 [18] := ⟨fun ci q e h => by
    have e2 : ci = 11 := by omega
    subst e2
    cases h
    exact ⟨Or.inr ⟨rfl, rfl, rfl⟩, Or.inr ⟨rfl, Or.inl ⟨"java/util/ArrayList", by decide +kernel⟩⟩⟩, trivial⟩
theorem fw_RX11_32_i : nk_Fw RX11 true 3 [18] := ⟨fun ci q e h => by
    have e2 : ci = 11 := by omega
    subst e2
    cases h
    exact ⟨Or.inr ⟨rfl, rfl, rfl⟩, Or.inr ⟨rfl, Or.inr ⟨.object "NotaryKiosk$Chain", by decide +kernel⟩⟩⟩, trivial⟩
theorem cl_RX11_16 : Cond.classLink RX11 16 "NotaryKiosk$News" ∈ nk_T := nk_in (i := 113) (by decide +kernel) rfl
theorem ins_RX7 : Cond.instantiable RX7 2 ∈ nk_T := nk_in (i := 114) (by decide +kernel) rfl
theorem cl_RX11_7 : Cond.classLink RX11 7 "NotaryKiosk$Links" ∈ nk_T := nk_in (i := 99) (by decide +kernel) rfl
theorem ins_RX6 : Cond.instantiable RX6 2 ∈ nk_T := nk_in (i := 100) (by decide +kernel) rfl
theorem ml_RX11_1 : Cond.methodLink RX11 1 ⟨"java/lang/Object", "<init>", "()V"⟩ ∈ nk_T := nk_in (i := 96) (by decide +kernel) rfl
theorem cl_RX11_361 : Cond.classLink RX11 361 "java/lang/IndexOutOfBoundsException" ∈ nk_T := nk_in (i := 288) (by decide +kernel) rfl
theorem in_java_lang_IndexOutOfBoundsException : Cond.initialized "java/lang/IndexOutOfBoundsException" ∈ nk_T := nk_in (i := 74) (by decide +kernel) rfl
set_option maxRecDepth 20000 in
theorem ta_RX11_365 : ∀ w ∈ vx_atS RX11 365 "java/lang/IndexOutOfBoundsException" ["java/lang/RuntimeException", "java/lang/Exception"], w ∈ nk_T := by decide +kernel
theorem tg_RX11_361_365 : (Cond.classLink RX11 361 "java/lang/IndexOutOfBoundsException" :: Cond.initialized "java/lang/IndexOutOfBoundsException" :: vx_atS RX11 365 "java/lang/IndexOutOfBoundsException" ["java/lang/RuntimeException", "java/lang/Exception"]).all vx_ot = true := by decide +kernel
theorem co_X11_mustBeKiosk : Cond.code yX11_mustBeKiosk cX11_mustBeKiosk 1 (none : Option FieldType) ∈ nk_T := nk_in (i := 287) (by decide +kernel) rfl
theorem my_X11_mustBeKiosk : nk_My yX11_mustBeKiosk cX11_mustBeKiosk 1 (none : Option FieldType) 1 := ⟨co_X11_mustBeKiosk, in_RX11, ⟨by decide, by decide⟩, by decide +kernel⟩
theorem st_X11_mustBeKiosk : Cond.static yX11_mustBeKiosk ∈ nk_T := nk_in (i := 286) (by decide +kernel) rfl
theorem ml_RX11_99 : Cond.methodLink RX11 99 yX11_mustBeKiosk ∈ nk_T := nk_in (i := 285) (by decide +kernel) rfl
theorem cl_RX11_134 : Cond.classLink RX11 134 "java/lang/IllegalArgumentException" ∈ nk_T := nk_in (i := 356) (by decide +kernel) rfl
theorem in_java_lang_IllegalArgumentException : Cond.initialized "java/lang/IllegalArgumentException" ∈ nk_T := nk_in (i := 75) (by decide +kernel) rfl
set_option maxRecDepth 20000 in
theorem ta_RX11_138 : ∀ w ∈ vx_atS RX11 138 "java/lang/IllegalArgumentException" ["java/lang/RuntimeException", "java/lang/Exception"], w ∈ nk_T := by decide +kernel
theorem tg_RX11_134_138 : (Cond.classLink RX11 134 "java/lang/IllegalArgumentException" :: Cond.initialized "java/lang/IllegalArgumentException" :: vx_atS RX11 138 "java/lang/IllegalArgumentException" ["java/lang/RuntimeException", "java/lang/Exception"]).all vx_ot = true := by decide +kernel
theorem co_X11_mustBeTwoKiosks : Cond.code yX11_mustBeTwoKiosks cX11_mustBeTwoKiosks 2 (none : Option FieldType) ∈ nk_T := nk_in (i := 284) (by decide +kernel) rfl
theorem my_X11_mustBeTwoKiosks : nk_My yX11_mustBeTwoKiosks cX11_mustBeTwoKiosks 2 (none : Option FieldType) 2 := ⟨co_X11_mustBeTwoKiosks, in_RX11, ⟨by decide, by decide⟩, by decide +kernel⟩
theorem st_X11_mustBeTwoKiosks : Cond.static yX11_mustBeTwoKiosks ∈ nk_T := nk_in (i := 283) (by decide +kernel) rfl
theorem ml_RX11_62 : Cond.methodLink RX11 62 yX11_mustBeTwoKiosks ∈ nk_T := nk_in (i := 282) (by decide +kernel) rfl
theorem ml_RX11_80 : Cond.methodLink RX11 80 yX6_degree ∈ nk_T := nk_in (i := 403) (by decide +kernel) rfl
theorem co_X6_degree : Cond.code yX6_degree cX6_degree 2 (some FieldType.int) ∈ nk_T := nk_in (i := 406) (by decide +kernel) rfl
theorem my_X6_degree : nk_My yX6_degree cX6_degree 2 (some FieldType.int) 1 := ⟨co_X6_degree, in_RX6, ⟨by decide, by decide⟩, by decide +kernel⟩
theorem im_X6_degree : Cond.instanceMethod yX6_degree ∈ nk_T := nk_in (i := 404) (by decide +kernel) rfl
theorem se_RX6_X6_degree : Cond.selects RX6 yX6_degree yX6_degree ∈ nk_T := nk_in (i := 405) (by decide +kernel) rfl
theorem ml_RX11_77 : Cond.methodLink RX11 77 yX6_turn ∈ nk_T := nk_in (i := 398) (by decide +kernel) rfl
theorem co_X6_turn : Cond.code yX6_turn cX6_turn 3 (none : Option FieldType) ∈ nk_T := nk_in (i := 401) (by decide +kernel) rfl
theorem my_X6_turn : nk_My yX6_turn cX6_turn 3 (none : Option FieldType) 2 := ⟨co_X6_turn, in_RX6, ⟨by decide, by decide⟩, by decide +kernel⟩
theorem im_X6_turn : Cond.instanceMethod yX6_turn ∈ nk_T := nk_in (i := 399) (by decide +kernel) rfl
theorem se_RX6_X6_turn : Cond.selects RX6 yX6_turn yX6_turn ∈ nk_T := nk_in (i := 400) (by decide +kernel) rfl
theorem cl_RX11_70 : Cond.classLink RX11 70 "java/lang/IllegalStateException" ∈ nk_T := nk_in (i := 382) (by decide +kernel) rfl
theorem in_java_lang_IllegalStateException : Cond.initialized "java/lang/IllegalStateException" ∈ nk_T := nk_in (i := 76) (by decide +kernel) rfl
set_option maxRecDepth 20000 in
theorem ta_RX11_74 : ∀ w ∈ vx_atS RX11 74 "java/lang/IllegalStateException" ["java/lang/RuntimeException", "java/lang/Exception"], w ∈ nk_T := by decide +kernel
theorem tg_RX11_70_74 : (Cond.classLink RX11 70 "java/lang/IllegalStateException" :: Cond.initialized "java/lang/IllegalStateException" :: vx_atS RX11 74 "java/lang/IllegalStateException" ["java/lang/RuntimeException", "java/lang/Exception"]).all vx_ot = true := by decide +kernel
theorem ml_RX11_66 : Cond.methodLink RX11 66 yX6_areLinked ∈ nk_T := nk_in (i := 372) (by decide +kernel) rfl
theorem co_X6_areLinked : Cond.code yX6_areLinked cX6_areLinked 3 (some FieldType.boolean) ∈ nk_T := nk_in (i := 375) (by decide +kernel) rfl
theorem my_X6_areLinked : nk_My yX6_areLinked cX6_areLinked 3 (some FieldType.boolean) 2 := ⟨co_X6_areLinked, in_RX6, ⟨by decide, by decide⟩, by decide +kernel⟩
theorem im_X6_areLinked : Cond.instanceMethod yX6_areLinked ∈ nk_T := nk_in (i := 373) (by decide +kernel) rfl
theorem se_RX6_X6_areLinked : Cond.selects RX6 yX6_areLinked yX6_areLinked ∈ nk_T := nk_in (i := 374) (by decide +kernel) rfl
theorem fw_RX11_42_n : nk_Fw RX11 false 5 [18] := ⟨fun ci q e h => by
    have e2 : ci = 11 := by omega
    subst e2
    cases h
    exact ⟨Or.inl rfl, Or.inl ⟨by decide +kernel, rfl⟩⟩, trivial⟩
theorem ml_RX11_95 : Cond.methodLink RX11 95 yX7_spread ∈ nk_T := nk_in (i := 440) (by decide +kernel) rfl
theorem co_X7_spread : Cond.code yX7_spread cX7_spread 8 (some FieldType.int) ∈ nk_T := nk_in (i := 443) (by decide +kernel) rfl
theorem my_X7_spread : nk_My yX7_spread cX7_spread 8 (some FieldType.int) 2 := ⟨co_X7_spread, in_RX7, ⟨by decide, by decide⟩, by decide +kernel⟩
theorem im_X7_spread : Cond.instanceMethod yX7_spread ∈ nk_T := nk_in (i := 441) (by decide +kernel) rfl
theorem se_RX7_X7_spread : Cond.selects RX7 yX7_spread yX7_spread ∈ nk_T := nk_in (i := 442) (by decide +kernel) rfl
theorem ml_RX11_92 : Cond.methodLink RX11 92 yX6_keep ∈ nk_T := nk_in (i := 433) (by decide +kernel) rfl
theorem co_X6_keep : Cond.code yX6_keep cX6_keep 2 (none : Option FieldType) ∈ nk_T := nk_in (i := 436) (by decide +kernel) rfl
theorem my_X6_keep : nk_My yX6_keep cX6_keep 2 (none : Option FieldType) 1 := ⟨co_X6_keep, in_RX6, ⟨by decide, by decide⟩, by decide +kernel⟩
theorem im_X6_keep : Cond.instanceMethod yX6_keep ∈ nk_T := nk_in (i := 434) (by decide +kernel) rfl
theorem se_RX6_X6_keep : Cond.selects RX6 yX6_keep yX6_keep ∈ nk_T := nk_in (i := 435) (by decide +kernel) rfl
theorem co_X11_mustBeWithin : Cond.code yX11_mustBeWithin cX11_mustBeWithin 3 (none : Option FieldType) ∈ nk_T := nk_in (i := 430) (by decide +kernel) rfl
theorem my_X11_mustBeWithin : nk_My yX11_mustBeWithin cX11_mustBeWithin 3 (none : Option FieldType) 3 := ⟨co_X11_mustBeWithin, in_RX11, ⟨by decide, by decide⟩, by decide +kernel⟩
theorem st_X11_mustBeWithin : Cond.static yX11_mustBeWithin ∈ nk_T := nk_in (i := 429) (by decide +kernel) rfl
theorem ml_RX11_86 : Cond.methodLink RX11 86 yX11_mustBeWithin ∈ nk_T := nk_in (i := 428) (by decide +kernel) rfl
theorem ml_RX11_102 : Cond.methodLink RX11 102 yX7_readMail ∈ nk_T := nk_in (i := 468) (by decide +kernel) rfl
theorem co_X7_readMail : Cond.code yX7_readMail cX7_readMail 5 (some FieldType.int) ∈ nk_T := nk_in (i := 471) (by decide +kernel) rfl
theorem my_X7_readMail : nk_My yX7_readMail cX7_readMail 5 (some FieldType.int) 1 := ⟨co_X7_readMail, in_RX7, ⟨by decide, by decide⟩, by decide +kernel⟩
theorem im_X7_readMail : Cond.instanceMethod yX7_readMail ∈ nk_T := nk_in (i := 469) (by decide +kernel) rfl
theorem se_RX7_X7_readMail : Cond.selects RX7 yX7_readMail yX7_readMail ∈ nk_T := nk_in (i := 470) (by decide +kernel) rfl
theorem fw_RX11_52_n : nk_Fw RX11 false 6 [18] := ⟨fun ci q e h => by
    have e2 : ci = 11 := by omega
    subst e2
    cases h
    exact ⟨Or.inl rfl, Or.inr ⟨rfl, Or.inl ⟨"NotaryKiosk$Draft", by decide +kernel⟩⟩⟩, trivial⟩
theorem ml_RX11_260 : Cond.methodLink RX11 260 yX7_count ∈ nk_T := nk_in (i := 235) (by decide +kernel) rfl
theorem co_X7_count : Cond.code yX7_count cX7_count 1 (some FieldType.int) ∈ nk_T := nk_in (i := 238) (by decide +kernel) rfl
theorem my_X7_count : nk_My yX7_count cX7_count 1 (some FieldType.int) 0 := ⟨co_X7_count, in_RX7, ⟨by decide, by decide⟩, by decide +kernel⟩
theorem im_X7_count : Cond.instanceMethod yX7_count ∈ nk_T := nk_in (i := 236) (by decide +kernel) rfl
theorem se_RX7_X7_count : Cond.selects RX7 yX7_count yX7_count ∈ nk_T := nk_in (i := 237) (by decide +kernel) rfl
theorem ml_RX11_151 : Cond.methodLink RX11 151 yX11_mustHaveRoomForNews ∈ nk_T := nk_in (i := 513) (by decide +kernel) rfl
theorem co_X11_mustHaveRoomForNews : Cond.code yX11_mustHaveRoomForNews cX11_mustHaveRoomForNews 1 (none : Option FieldType) ∈ nk_T := nk_in (i := 516) (by decide +kernel) rfl
theorem my_X11_mustHaveRoomForNews : nk_My yX11_mustHaveRoomForNews cX11_mustHaveRoomForNews 1 (none : Option FieldType) 0 := ⟨co_X11_mustHaveRoomForNews, in_RX11, ⟨by decide, by decide⟩, by decide +kernel⟩
theorem im_X11_mustHaveRoomForNews : Cond.instanceMethod yX11_mustHaveRoomForNews ∈ nk_T := nk_in (i := 515) (by decide +kernel) rfl
theorem se_RX11_X11_mustHaveRoomForNews : Cond.selects RX11 yX11_mustHaveRoomForNews yX11_mustHaveRoomForNews ∈ nk_T := nk_in (i := 2) (by decide +kernel) rfl
theorem ml_RX11_227 : Cond.methodLink RX11 227 yJx4a65c_size_8abf5 ∈ nk_T := nk_in (i := 247) (by decide +kernel) rfl
theorem co_X9_init : Cond.code yX9_init cX9_init 7 (none : Option FieldType) ∈ nk_T := nk_in (i := 526) (by decide +kernel) rfl
theorem my_X9_init : nk_My yX9_init cX9_init 7 (none : Option FieldType) 6 := ⟨co_X9_init, in_RX9, ⟨by decide, by decide⟩, by decide +kernel⟩
theorem im_X9_init : Cond.instanceMethod yX9_init ∈ nk_T := nk_in (i := 525) (by decide +kernel) rfl
theorem ml_RX11_339 : Cond.methodLink RX11 339 yX9_init ∈ nk_T := nk_in (i := 524) (by decide +kernel) rfl
theorem fk_RX11_300 : nk_Fk RX11 300 6 false [16] := ⟨⟨9, rfl, ⟨(RX9, TX9, 15), "NotaryKiosk$Power", rfl, by decide, nk_in (i := 536) (by decide +kernel) rfl, Or.inl rfl⟩, rfl⟩, trivial⟩
theorem ml_RX11_171 : Cond.methodLink RX11 171 yX7_publish ∈ nk_T := nk_in (i := 663) (by decide +kernel) rfl
theorem co_X7_publish : Cond.code yX7_publish cX7_publish 4 (some FieldType.int) ∈ nk_T := nk_in (i := 666) (by decide +kernel) rfl
theorem my_X7_publish : nk_My yX7_publish cX7_publish 4 (some FieldType.int) 3 := ⟨co_X7_publish, in_RX7, ⟨by decide, by decide⟩, by decide +kernel⟩
theorem im_X7_publish : Cond.instanceMethod yX7_publish ∈ nk_T := nk_in (i := 664) (by decide +kernel) rfl
theorem se_RX7_X7_publish : Cond.selects RX7 yX7_publish yX7_publish ∈ nk_T := nk_in (i := 665) (by decide +kernel) rfl
theorem ml_RX11_242 : Cond.methodLink RX11 242 yJx4a65c_add_9ea2d ∈ nk_T := nk_in (i := 602) (by decide +kernel) rfl
theorem cl_RX11_125 : Cond.classLink RX11 125 "NotaryKiosk$Power" ∈ nk_T := nk_in (i := 522) (by decide +kernel) rfl
theorem ins_RX9 : Cond.instantiable RX9 15 ∈ nk_T := nk_in (i := 523) (by decide +kernel) rfl
theorem co_X11_mustBePerson : Cond.code yX11_mustBePerson cX11_mustBePerson 1 (none : Option FieldType) ∈ nk_T := nk_in (i := 502) (by decide +kernel) rfl
theorem my_X11_mustBePerson : nk_My yX11_mustBePerson cX11_mustBePerson 1 (none : Option FieldType) 1 := ⟨co_X11_mustBePerson, in_RX11, ⟨by decide, by decide⟩, by decide +kernel⟩
theorem st_X11_mustBePerson : Cond.static yX11_mustBePerson ∈ nk_T := nk_in (i := 501) (by decide +kernel) rfl
theorem ml_RX11_105 : Cond.methodLink RX11 105 yX11_mustBePerson ∈ nk_T := nk_in (i := 500) (by decide +kernel) rfl
theorem co_X11_mustBeOtherPerson : Cond.code yX11_mustBeOtherPerson cX11_mustBeOtherPerson 2 (none : Option FieldType) ∈ nk_T := nk_in (i := 506) (by decide +kernel) rfl
theorem my_X11_mustBeOtherPerson : nk_My yX11_mustBeOtherPerson cX11_mustBeOtherPerson 2 (none : Option FieldType) 2 := ⟨co_X11_mustBeOtherPerson, in_RX11, ⟨by decide, by decide⟩, by decide +kernel⟩
theorem st_X11_mustBeOtherPerson : Cond.static yX11_mustBeOtherPerson ∈ nk_T := nk_in (i := 505) (by decide +kernel) rfl
theorem ml_RX11_108 : Cond.methodLink RX11 108 yX11_mustBeOtherPerson ∈ nk_T := nk_in (i := 504) (by decide +kernel) rfl
theorem ml_RX11_114 : Cond.methodLink RX11 114 yX11_makePower ∈ nk_T := nk_in (i := 518) (by decide +kernel) rfl
theorem co_X11_makePower : Cond.code yX11_makePower cX11_makePower 6 (some FieldType.int) ∈ nk_T := nk_in (i := 521) (by decide +kernel) rfl
theorem my_X11_makePower : nk_My yX11_makePower cX11_makePower 6 (some FieldType.int) 4 := ⟨co_X11_makePower, in_RX11, ⟨by decide, by decide⟩, by decide +kernel⟩
theorem im_X11_makePower : Cond.instanceMethod yX11_makePower ∈ nk_T := nk_in (i := 520) (by decide +kernel) rfl
theorem se_RX11_X11_makePower : Cond.selects RX11 yX11_makePower yX11_makePower ∈ nk_T := nk_in (i := 3) (by decide +kernel) rfl
theorem ml_RX11_111 : Cond.methodLink RX11 111 yX11_mustHaveRoomForPower ∈ nk_T := nk_in (i := 508) (by decide +kernel) rfl
theorem co_X11_mustHaveRoomForPower : Cond.code yX11_mustHaveRoomForPower cX11_mustHaveRoomForPower 1 (none : Option FieldType) ∈ nk_T := nk_in (i := 511) (by decide +kernel) rfl
theorem my_X11_mustHaveRoomForPower : nk_My yX11_mustHaveRoomForPower cX11_mustHaveRoomForPower 1 (none : Option FieldType) 0 := ⟨co_X11_mustHaveRoomForPower, in_RX11, ⟨by decide, by decide⟩, by decide +kernel⟩
theorem im_X11_mustHaveRoomForPower : Cond.instanceMethod yX11_mustHaveRoomForPower ∈ nk_T := nk_in (i := 510) (by decide +kernel) rfl
theorem se_RX11_X11_mustHaveRoomForPower : Cond.selects RX11 yX11_mustHaveRoomForPower yX11_mustHaveRoomForPower ∈ nk_T := nk_in (i := 1) (by decide +kernel) rfl
theorem ml_RX11_347 : Cond.methodLink RX11 347 yX9_isOver ∈ nk_T := nk_in (i := 720) (by decide +kernel) rfl
theorem ml_RX11_161 : Cond.methodLink RX11 161 yX7_revokes ∈ nk_T := nk_in (i := 702) (by decide +kernel) rfl
theorem ml_RX11_157 : Cond.methodLink RX11 157 yX7_knows ∈ nk_T := nk_in (i := 694) (by decide +kernel) rfl
theorem ml_RX11_154 : Cond.methodLink RX11 154 yX7_lookAtRead ∈ nk_T := nk_in (i := 690) (by decide +kernel) rfl
theorem co_X7_lookAtRead : Cond.code yX7_lookAtRead cX7_lookAtRead 3 (none : Option FieldType) ∈ nk_T := nk_in (i := 693) (by decide +kernel) rfl
theorem my_X7_lookAtRead : nk_My yX7_lookAtRead cX7_lookAtRead 3 (none : Option FieldType) 1 := ⟨co_X7_lookAtRead, in_RX7, ⟨by decide, by decide⟩, by decide +kernel⟩
theorem im_X7_lookAtRead : Cond.instanceMethod yX7_lookAtRead ∈ nk_T := nk_in (i := 691) (by decide +kernel) rfl
theorem se_RX7_X7_lookAtRead : Cond.selects RX7 yX7_lookAtRead yX7_lookAtRead ∈ nk_T := nk_in (i := 692) (by decide +kernel) rfl
theorem ca_Power : nk_Ca "NotaryKiosk$Power" [16] := ⟨⟨9, (RX9, TX9, 15), rfl, rfl, Or.inl rfl⟩, trivial⟩
theorem fk_RX11_127 : nk_Fk RX11 127 9 false [16] := ⟨⟨9, rfl, ⟨(RX9, TX9, 15), "NotaryKiosk$Power", rfl, by decide, nk_in (i := 542) (by decide +kernel) rfl, Or.inl rfl⟩, rfl⟩, trivial⟩
theorem ml_RX11_139 : Cond.methodLink RX11 139 yX11_isGoodAt ∈ nk_T := nk_in (i := 686) (by decide +kernel) rfl
theorem co_X11_isGoodAt : Cond.code yX11_isGoodAt cX11_isGoodAt 3 (some FieldType.boolean) ∈ nk_T := nk_in (i := 689) (by decide +kernel) rfl
theorem my_X11_isGoodAt : nk_My yX11_isGoodAt cX11_isGoodAt 3 (some FieldType.boolean) 2 := ⟨co_X11_isGoodAt, in_RX11, ⟨by decide, by decide⟩, by decide +kernel⟩
theorem im_X11_isGoodAt : Cond.instanceMethod yX11_isGoodAt ∈ nk_T := nk_in (i := 688) (by decide +kernel) rfl
theorem se_RX11_X11_isGoodAt : Cond.selects RX11 yX11_isGoodAt yX11_isGoodAt ∈ nk_T := nk_in (i := 8) (by decide +kernel) rfl
theorem ml_RX11_130 : Cond.methodLink RX11 130 yX9_covers ∈ nk_T := nk_in (i := 681) (by decide +kernel) rfl
theorem co_X9_covers : Cond.code yX9_covers cX9_covers 3 (some FieldType.boolean) ∈ nk_T := nk_in (i := 684) (by decide +kernel) rfl
theorem my_X9_covers : nk_My yX9_covers cX9_covers 3 (some FieldType.boolean) 2 := ⟨co_X9_covers, in_RX9, ⟨by decide, by decide⟩, by decide +kernel⟩
theorem im_X9_covers : Cond.instanceMethod yX9_covers ∈ nk_T := nk_in (i := 682) (by decide +kernel) rfl
theorem se_RX9_X9_covers : Cond.selects RX9 yX9_covers yX9_covers ∈ nk_T := nk_in (i := 683) (by decide +kernel) rfl
theorem ml_RX11_121 : Cond.methodLink RX11 121 yJx4a65c_get_915e3 ∈ nk_T := nk_in (i := 680) (by decide +kernel) rfl
theorem ml_RX11_118 : Cond.methodLink RX11 118 yX11_mustBePower ∈ nk_T := nk_in (i := 675) (by decide +kernel) rfl
theorem co_X11_mustBePower : Cond.code yX11_mustBePower cX11_mustBePower 2 (none : Option FieldType) ∈ nk_T := nk_in (i := 678) (by decide +kernel) rfl
theorem my_X11_mustBePower : nk_My yX11_mustBePower cX11_mustBePower 2 (none : Option FieldType) 1 := ⟨co_X11_mustBePower, in_RX11, ⟨by decide, by decide⟩, by decide +kernel⟩
theorem im_X11_mustBePower : Cond.instanceMethod yX11_mustBePower ∈ nk_T := nk_in (i := 677) (by decide +kernel) rfl
theorem se_RX11_X11_mustBePower : Cond.selects RX11 yX11_mustBePower yX11_mustBePower ∈ nk_T := nk_in (i := 7) (by decide +kernel) rfl
theorem co_X10_init : Cond.code yX10_init cX10_init 2 (none : Option FieldType) ∈ nk_T := nk_in (i := 742) (by decide +kernel) rfl
theorem my_X10_init : nk_My yX10_init cX10_init 2 (none : Option FieldType) 1 := ⟨co_X10_init, in_RX10, ⟨by decide, by decide⟩, by decide +kernel⟩
theorem im_X10_init : Cond.instanceMethod yX10_init ∈ nk_T := nk_in (i := 741) (by decide +kernel) rfl
theorem ml_RX11_168 : Cond.methodLink RX11 168 yX10_init ∈ nk_T := nk_in (i := 740) (by decide +kernel) rfl
theorem cl_RX11_166 : Cond.classLink RX11 166 "NotaryKiosk$Revocation" ∈ nk_T := nk_in (i := 738) (by decide +kernel) rfl
theorem ins_RX10 : Cond.instantiable RX10 7 ∈ nk_T := nk_in (i := 739) (by decide +kernel) rfl
theorem ml_RX11_145 : Cond.methodLink RX11 145 yX9_hasGiver ∈ nk_T := nk_in (i := 732) (by decide +kernel) rfl
theorem co_X9_hasGiver : Cond.code yX9_hasGiver cX9_hasGiver 3 (some FieldType.boolean) ∈ nk_T := nk_in (i := 735) (by decide +kernel) rfl
theorem my_X9_hasGiver : nk_My yX9_hasGiver cX9_hasGiver 3 (some FieldType.boolean) 1 := ⟨co_X9_hasGiver, in_RX9, ⟨by decide, by decide⟩, by decide +kernel⟩
theorem im_X9_hasGiver : Cond.instanceMethod yX9_hasGiver ∈ nk_T := nk_in (i := 733) (by decide +kernel) rfl
theorem se_RX9_X9_hasGiver : Cond.selects RX9 yX9_hasGiver yX9_hasGiver ∈ nk_T := nk_in (i := 734) (by decide +kernel) rfl
theorem co_X4_init : Cond.code yX4_init cX4_init 4 (none : Option FieldType) ∈ nk_T := nk_in (i := 784) (by decide +kernel) rfl
theorem my_X4_init : nk_My yX4_init cX4_init 4 (none : Option FieldType) 3 := ⟨co_X4_init, in_RX4, ⟨by decide, by decide⟩, by decide +kernel⟩
theorem im_X4_init : Cond.instanceMethod yX4_init ∈ nk_T := nk_in (i := 783) (by decide +kernel) rfl
theorem ml_RX11_186 : Cond.methodLink RX11 186 yX4_init ∈ nk_T := nk_in (i := 782) (by decide +kernel) rfl
theorem cl_RX11_184 : Cond.classLink RX11 184 "NotaryKiosk$Deputation" ∈ nk_T := nk_in (i := 780) (by decide +kernel) rfl
theorem ins_RX4 : Cond.instantiable RX4 9 ∈ nk_T := nk_in (i := 781) (by decide +kernel) rfl
theorem ml_RX11_178 : Cond.methodLink RX11 178 yX7_deputes ∈ nk_T := nk_in (i := 765) (by decide +kernel) rfl
theorem ml_RX11_175 : Cond.methodLink RX11 175 yX7_lookAtAll ∈ nk_T := nk_in (i := 761) (by decide +kernel) rfl
theorem co_X7_lookAtAll : Cond.code yX7_lookAtAll cX7_lookAtAll 2 (none : Option FieldType) ∈ nk_T := nk_in (i := 764) (by decide +kernel) rfl
theorem my_X7_lookAtAll : nk_My yX7_lookAtAll cX7_lookAtAll 2 (none : Option FieldType) 0 := ⟨co_X7_lookAtAll, in_RX7, ⟨by decide, by decide⟩, by decide +kernel⟩
theorem im_X7_lookAtAll : Cond.instanceMethod yX7_lookAtAll ∈ nk_T := nk_in (i := 762) (by decide +kernel) rfl
theorem se_RX7_X7_lookAtAll : Cond.selects RX7 yX7_lookAtAll yX7_lookAtAll ∈ nk_T := nk_in (i := 763) (by decide +kernel) rfl
theorem fw_RX11_56_n : nk_Fw RX11 false 7 [18] := ⟨fun ci q e h => by
    have e2 : ci = 11 := by omega
    subst e2
    cases h
    exact ⟨Or.inl rfl, Or.inl ⟨by decide +kernel, rfl⟩⟩, trivial⟩
theorem fw_RX11_59_n : nk_Fw RX11 false 8 [18] := ⟨fun ci q e h => by
    have e2 : ci = 11 := by omega
    subst e2
    cases h
    exact ⟨Or.inl rfl, Or.inl ⟨by decide +kernel, rfl⟩⟩, trivial⟩
theorem co_X3_init : Cond.code yX3_init cX3_init 7 (none : Option FieldType) ∈ nk_T := nk_in (i := 824) (by decide +kernel) rfl
theorem in_RX3 : Cond.initialized RX3 ∈ nk_T := nk_in (i := 88) (by decide +kernel) rfl
theorem my_X3_init : nk_My yX3_init cX3_init 7 (none : Option FieldType) 6 := ⟨co_X3_init, in_RX3, ⟨by decide, by decide⟩, by decide +kernel⟩
theorem im_X3_init : Cond.instanceMethod yX3_init ∈ nk_T := nk_in (i := 823) (by decide +kernel) rfl
theorem ml_RX11_344 : Cond.methodLink RX11 344 yX3_init ∈ nk_T := nk_in (i := 822) (by decide +kernel) rfl
theorem cl_RX11_342 : Cond.classLink RX11 342 "NotaryKiosk$Deed" ∈ nk_T := nk_in (i := 820) (by decide +kernel) rfl
theorem ins_RX3 : Cond.instantiable RX3 6 ∈ nk_T := nk_in (i := 821) (by decide +kernel) rfl
theorem fk_RX11_354 : nk_Fk RX11 354 6 true [8] := ⟨⟨1, rfl, ⟨(RX0, TX0, 11), "NotaryKiosk$Act", rfl, by decide, nk_in (i := 902) (by decide +kernel) rfl, Or.inl rfl⟩, rfl⟩, trivial⟩
theorem fk_RX11_357 : nk_Fk RX11 357 7 true [8] := ⟨⟨1, rfl, ⟨(RX0, TX0, 11), "NotaryKiosk$Act", rfl, by decide, nk_in (i := 904) (by decide +kernel) rfl, Or.inl rfl⟩, rfl⟩, trivial⟩
theorem ml_RX11_192 : Cond.methodLink RX11 192 yX7_reasonAgainst ∈ nk_T := nk_in (i := 856) (by decide +kernel) rfl
theorem co_X7_reasonAgainst : Cond.code yX7_reasonAgainst cX7_reasonAgainst 3 (some FieldType.int) ∈ nk_T := nk_in (i := 859) (by decide +kernel) rfl
theorem my_X7_reasonAgainst : nk_My yX7_reasonAgainst cX7_reasonAgainst 3 (some FieldType.int) 2 := ⟨co_X7_reasonAgainst, in_RX7, ⟨by decide, by decide⟩, by decide +kernel⟩
theorem im_X7_reasonAgainst : Cond.instanceMethod yX7_reasonAgainst ∈ nk_T := nk_in (i := 857) (by decide +kernel) rfl
theorem se_RX7_X7_reasonAgainst : Cond.selects RX7 yX7_reasonAgainst yX7_reasonAgainst ∈ nk_T := nk_in (i := 858) (by decide +kernel) rfl
theorem ml_RX11_350 : Cond.methodLink RX11 350 yX7_lookAtReadable ∈ nk_T := nk_in (i := 935) (by decide +kernel) rfl
theorem co_X7_lookAtReadable : Cond.code yX7_lookAtReadable cX7_lookAtReadable 3 (none : Option FieldType) ∈ nk_T := nk_in (i := 938) (by decide +kernel) rfl
theorem my_X7_lookAtReadable : nk_My yX7_lookAtReadable cX7_lookAtReadable 3 (none : Option FieldType) 1 := ⟨co_X7_lookAtReadable, in_RX7, ⟨by decide, by decide⟩, by decide +kernel⟩
theorem im_X7_lookAtReadable : Cond.instanceMethod yX7_lookAtReadable ∈ nk_T := nk_in (i := 936) (by decide +kernel) rfl
theorem se_RX7_X7_lookAtReadable : Cond.selects RX7 yX7_lookAtReadable yX7_lookAtReadable ∈ nk_T := nk_in (i := 937) (by decide +kernel) rfl
theorem fk_RX11_207 : nk_Fk RX11 207 10 false [8] := ⟨⟨1, rfl, ⟨(RX0, TX0, 11), "NotaryKiosk$Act", rfl, by decide, nk_in (i := 913) (by decide +kernel) rfl, Or.inl rfl⟩, rfl⟩, trivial⟩
theorem fz_RX11_207_n : nk_Fz RX11 false 10 [8] := ⟨fun ci q e h => by
    have e2 : ci = 1 := by omega
    subst e2
    cases h
    exact ⟨Or.inl rfl, by decide +kernel, rfl⟩, trivial⟩
theorem ml_RX11_211 : Cond.methodLink RX11 211 yX1_enter ∈ nk_T := nk_in (i := 947) (by decide +kernel) rfl
theorem co_X1_enter : Cond.code yX1_enter cX1_enter 3 (some FieldType.int) ∈ nk_T := nk_in (i := 950) (by decide +kernel) rfl
theorem my_X1_enter : nk_My yX1_enter cX1_enter 3 (some FieldType.int) 1 := ⟨co_X1_enter, in_RX1, ⟨by decide, by decide⟩, by decide +kernel⟩
theorem im_X1_enter : Cond.instanceMethod yX1_enter ∈ nk_T := nk_in (i := 948) (by decide +kernel) rfl
theorem se_RX1_X1_enter : Cond.selects RX1 yX1_enter yX1_enter ∈ nk_T := nk_in (i := 949) (by decide +kernel) rfl
theorem co_X0_init : Cond.code yX0_init cX0_init 3 (none : Option FieldType) ∈ nk_T := nk_in (i := 899) (by decide +kernel) rfl
theorem my_X0_init : nk_My yX0_init cX0_init 3 (none : Option FieldType) 2 := ⟨co_X0_init, in_RX0, ⟨by decide, by decide⟩, by decide +kernel⟩
theorem im_X0_init : Cond.instanceMethod yX0_init ∈ nk_T := nk_in (i := 898) (by decide +kernel) rfl
theorem ml_RX11_200 : Cond.methodLink RX11 200 yX0_init ∈ nk_T := nk_in (i := 897) (by decide +kernel) rfl
theorem ml_RX11_203 : Cond.methodLink RX11 203 yX11_reasonByMail ∈ nk_T := nk_in (i := 931) (by decide +kernel) rfl
theorem co_X11_reasonByMail : Cond.code yX11_reasonByMail cX11_reasonByMail 2 (some FieldType.int) ∈ nk_T := nk_in (i := 934) (by decide +kernel) rfl
theorem my_X11_reasonByMail : nk_My yX11_reasonByMail cX11_reasonByMail 2 (some FieldType.int) 1 := ⟨co_X11_reasonByMail, in_RX11, ⟨by decide, by decide⟩, by decide +kernel⟩
theorem im_X11_reasonByMail : Cond.instanceMethod yX11_reasonByMail ∈ nk_T := nk_in (i := 933) (by decide +kernel) rfl
theorem se_RX11_X11_reasonByMail : Cond.selects RX11 yX11_reasonByMail yX11_reasonByMail ∈ nk_T := nk_in (i := 14) (by decide +kernel) rfl
theorem cl_RX11_198 : Cond.classLink RX11 198 "NotaryKiosk$Act" ∈ nk_T := nk_in (i := 895) (by decide +kernel) rfl
theorem ins_RX0 : Cond.instantiable RX0 11 ∈ nk_T := nk_in (i := 896) (by decide +kernel) rfl
theorem ml_RX11_188 : Cond.methodLink RX11 188 yX11_deedNow ∈ nk_T := nk_in (i := 816) (by decide +kernel) rfl
theorem co_X11_deedNow : Cond.code yX11_deedNow cX11_deedNow 4 (some (FieldType.object "NotaryKiosk$Deed")) ∈ nk_T := nk_in (i := 819) (by decide +kernel) rfl
theorem my_X11_deedNow : nk_My yX11_deedNow cX11_deedNow 4 (some (FieldType.object "NotaryKiosk$Deed")) 3 := ⟨co_X11_deedNow, in_RX11, ⟨by decide, by decide⟩, by decide +kernel⟩
theorem im_X11_deedNow : Cond.instanceMethod yX11_deedNow ∈ nk_T := nk_in (i := 818) (by decide +kernel) rfl
theorem se_RX11_X11_deedNow : Cond.selects RX11 yX11_deedNow yX11_deedNow ∈ nk_T := nk_in (i := 11) (by decide +kernel) rfl
theorem ml_RX11_263 : Cond.methodLink RX11 263 yX1_count ∈ nk_T := nk_in (i := 985) (by decide +kernel) rfl
theorem co_X1_count : Cond.code yX1_count cX1_count 1 (some FieldType.int) ∈ nk_T := nk_in (i := 988) (by decide +kernel) rfl
theorem my_X1_count : nk_My yX1_count cX1_count 1 (some FieldType.int) 0 := ⟨co_X1_count, in_RX1, ⟨by decide, by decide⟩, by decide +kernel⟩
theorem im_X1_count : Cond.instanceMethod yX1_count ∈ nk_T := nk_in (i := 986) (by decide +kernel) rfl
theorem se_RX1_X1_count : Cond.selects RX1 yX1_count yX1_count ∈ nk_T := nk_in (i := 987) (by decide +kernel) rfl
theorem fk_RX11_221 : nk_Fk RX11 221 8 true [8] := ⟨⟨1, rfl, ⟨(RX0, TX0, 11), "NotaryKiosk$Act", rfl, by decide, nk_in (i := 908) (by decide +kernel) rfl, Or.inl rfl⟩, rfl⟩, trivial⟩
theorem ml_RX11_217 : Cond.methodLink RX11 217 yX1_actOf ∈ nk_T := nk_in (i := 990) (by decide +kernel) rfl
theorem ml_RX11_214 : Cond.methodLink RX11 214 yX11_mustBeRecord ∈ nk_T := nk_in (i := 981) (by decide +kernel) rfl
theorem co_X11_mustBeRecord : Cond.code yX11_mustBeRecord cX11_mustBeRecord 3 (none : Option FieldType) ∈ nk_T := nk_in (i := 984) (by decide +kernel) rfl
theorem my_X11_mustBeRecord : nk_My yX11_mustBeRecord cX11_mustBeRecord 3 (none : Option FieldType) 2 := ⟨co_X11_mustBeRecord, in_RX11, ⟨by decide, by decide⟩, by decide +kernel⟩
theorem im_X11_mustBeRecord : Cond.instanceMethod yX11_mustBeRecord ∈ nk_T := nk_in (i := 983) (by decide +kernel) rfl
theorem se_RX11_X11_mustBeRecord : Cond.selects RX11 yX11_mustBeRecord yX11_mustBeRecord ∈ nk_T := nk_in (i := 16) (by decide +kernel) rfl
theorem co_X2_init : Cond.code yX2_init cX2_init 5 (none : Option FieldType) ∈ nk_T := nk_in (i := 1007) (by decide +kernel) rfl
theorem my_X2_init : nk_My yX2_init cX2_init 5 (none : Option FieldType) 4 := ⟨co_X2_init, in_RX2, ⟨by decide, by decide⟩, by decide +kernel⟩
theorem im_X2_init : Cond.instanceMethod yX2_init ∈ nk_T := nk_in (i := 1006) (by decide +kernel) rfl
theorem ml_RX11_235 : Cond.methodLink RX11 235 yX2_init ∈ nk_T := nk_in (i := 1005) (by decide +kernel) rfl
theorem ml_RX11_238 : Cond.methodLink RX11 238 yX2_takeFrom ∈ nk_T := nk_in (i := 1036) (by decide +kernel) rfl
theorem co_X2_takeFrom : Cond.code yX2_takeFrom cX2_takeFrom 5 (none : Option FieldType) ∈ nk_T := nk_in (i := 1039) (by decide +kernel) rfl
theorem my_X2_takeFrom : nk_My yX2_takeFrom cX2_takeFrom 5 (none : Option FieldType) 1 := ⟨co_X2_takeFrom, in_RX2, ⟨by decide, by decide⟩, by decide +kernel⟩
theorem im_X2_takeFrom : Cond.instanceMethod yX2_takeFrom ∈ nk_T := nk_in (i := 1037) (by decide +kernel) rfl
theorem se_RX2_X2_takeFrom : Cond.selects RX2 yX2_takeFrom yX2_takeFrom ∈ nk_T := nk_in (i := 1038) (by decide +kernel) rfl
theorem cl_RX11_233 : Cond.classLink RX11 233 "NotaryKiosk$Copy" ∈ nk_T := nk_in (i := 1003) (by decide +kernel) rfl
theorem ins_RX2 : Cond.instantiable RX2 7 ∈ nk_T := nk_in (i := 1004) (by decide +kernel) rfl
theorem ca_Copy : nk_Ca "NotaryKiosk$Copy" [10] := ⟨⟨3, (RX2, TX2, 7), rfl, rfl, Or.inl rfl⟩, trivial⟩
theorem fk_RX11_330 : nk_Fk RX11 330 2 false [10] := ⟨⟨3, rfl, ⟨(RX2, TX2, 7), "NotaryKiosk$Copy", rfl, by decide, nk_in (i := 1015) (by decide +kernel) rfl, Or.inl rfl⟩, rfl⟩, trivial⟩
theorem ml_RX11_327 : Cond.methodLink RX11 327 yX11_mustBeCopy ∈ nk_T := nk_in (i := 1059) (by decide +kernel) rfl
theorem co_X11_mustBeCopy : Cond.code yX11_mustBeCopy cX11_mustBeCopy 2 (none : Option FieldType) ∈ nk_T := nk_in (i := 1062) (by decide +kernel) rfl
theorem my_X11_mustBeCopy : nk_My yX11_mustBeCopy cX11_mustBeCopy 2 (none : Option FieldType) 1 := ⟨co_X11_mustBeCopy, in_RX11, ⟨by decide, by decide⟩, by decide +kernel⟩
theorem im_X11_mustBeCopy : Cond.instanceMethod yX11_mustBeCopy ∈ nk_T := nk_in (i := 1061) (by decide +kernel) rfl
theorem se_RX11_X11_mustBeCopy : Cond.selects RX11 yX11_mustBeCopy yX11_mustBeCopy ∈ nk_T := nk_in (i := 18) (by decide +kernel) rfl
theorem co_X11_mustBePart : Cond.code yX11_mustBePart cX11_mustBePart 1 (none : Option FieldType) ∈ nk_T := nk_in (i := 1067) (by decide +kernel) rfl
theorem my_X11_mustBePart : nk_My yX11_mustBePart cX11_mustBePart 1 (none : Option FieldType) 1 := ⟨co_X11_mustBePart, in_RX11, ⟨by decide, by decide⟩, by decide +kernel⟩
theorem st_X11_mustBePart : Cond.static yX11_mustBePart ∈ nk_T := nk_in (i := 1066) (by decide +kernel) rfl
theorem ml_RX11_249 : Cond.methodLink RX11 249 yX11_mustBePart ∈ nk_T := nk_in (i := 1065) (by decide +kernel) rfl
theorem fk_RX11_257 : nk_Fk RX11 257 4 true [10] := ⟨⟨3, rfl, ⟨(RX2, TX2, 7), "NotaryKiosk$Copy", rfl, by decide, nk_in (i := 1018) (by decide +kernel) rfl, Or.inl rfl⟩, rfl⟩, trivial⟩
theorem ml_RX11_252 : Cond.methodLink RX11 252 yX2_leavesOut ∈ nk_T := nk_in (i := 1069) (by decide +kernel) rfl
theorem ml_RX11_246 : Cond.methodLink RX11 246 yX11_mustBePlace ∈ nk_T := nk_in (i := 1055) (by decide +kernel) rfl
theorem co_X11_mustBePlace : Cond.code yX11_mustBePlace cX11_mustBePlace 3 (none : Option FieldType) ∈ nk_T := nk_in (i := 1058) (by decide +kernel) rfl
theorem my_X11_mustBePlace : nk_My yX11_mustBePlace cX11_mustBePlace 3 (none : Option FieldType) 2 := ⟨co_X11_mustBePlace, in_RX11, ⟨by decide, by decide⟩, by decide +kernel⟩
theorem im_X11_mustBePlace : Cond.instanceMethod yX11_mustBePlace ∈ nk_T := nk_in (i := 1057) (by decide +kernel) rfl
theorem se_RX11_X11_mustBePlace : Cond.selects RX11 yX11_mustBePlace yX11_mustBePlace ∈ nk_T := nk_in (i := 17) (by decide +kernel) rfl
theorem fk_RX11_271 : nk_Fk RX11 271 5 true [8, 12, 16, 17] := ⟨⟨1, rfl, ⟨(RX0, TX0, 11), "NotaryKiosk$Piece", rfl, by decide, nk_in (i := 570) (by decide +kernel) rfl, Or.inl rfl⟩, rfl⟩, ⟨⟨5, rfl, ⟨(RX4, TX4, 9), "NotaryKiosk$Piece", rfl, by decide, nk_in (i := 570) (by decide +kernel) rfl, Or.inl rfl⟩, rfl⟩, ⟨⟨9, rfl, ⟨(RX9, TX9, 15), "NotaryKiosk$Piece", rfl, by decide, nk_in (i := 570) (by decide +kernel) rfl, Or.inl rfl⟩, rfl⟩, ⟨⟨10, rfl, ⟨(RX10, TX10, 7), "NotaryKiosk$Piece", rfl, by decide, nk_in (i := 570) (by decide +kernel) rfl, Or.inl rfl⟩, rfl⟩, trivial⟩⟩⟩⟩
theorem ml_RX11_267 : Cond.methodLink RX11 267 yX7_pieceAt ∈ nk_T := nk_in (i := 1097) (by decide +kernel) rfl
theorem co_X7_pieceAt : Cond.code yX7_pieceAt cX7_pieceAt 2 (some (FieldType.object "NotaryKiosk$Piece")) ∈ nk_T := nk_in (i := 1100) (by decide +kernel) rfl
theorem my_X7_pieceAt : nk_My yX7_pieceAt cX7_pieceAt 2 (some (FieldType.object "NotaryKiosk$Piece")) 1 := ⟨co_X7_pieceAt, in_RX7, ⟨by decide, by decide⟩, by decide +kernel⟩
theorem im_X7_pieceAt : Cond.instanceMethod yX7_pieceAt ∈ nk_T := nk_in (i := 1098) (by decide +kernel) rfl
theorem se_RX7_X7_pieceAt : Cond.selects RX7 yX7_pieceAt yX7_pieceAt ∈ nk_T := nk_in (i := 1099) (by decide +kernel) rfl
theorem ml_RX11_264 : Cond.methodLink RX11 264 yX11_mustBePiece ∈ nk_T := nk_in (i := 1092) (by decide +kernel) rfl
theorem co_X11_mustBePiece : Cond.code yX11_mustBePiece cX11_mustBePiece 2 (none : Option FieldType) ∈ nk_T := nk_in (i := 1095) (by decide +kernel) rfl
theorem my_X11_mustBePiece : nk_My yX11_mustBePiece cX11_mustBePiece 2 (none : Option FieldType) 1 := ⟨co_X11_mustBePiece, in_RX11, ⟨by decide, by decide⟩, by decide +kernel⟩
theorem im_X11_mustBePiece : Cond.instanceMethod yX11_mustBePiece ∈ nk_T := nk_in (i := 1094) (by decide +kernel) rfl
theorem se_RX11_X11_mustBePiece : Cond.selects RX11 yX11_mustBePiece yX11_mustBePiece ∈ nk_T := nk_in (i := 19) (by decide +kernel) rfl
theorem ml_RX11_286 : Cond.methodLink RX11 286 yX6_reach ∈ nk_T := nk_in (i := 1108) (by decide +kernel) rfl
theorem fk_RX11_276 : nk_Fk RX11 276 1 false [8, 12, 16, 17] := ⟨⟨1, rfl, ⟨(RX0, TX0, 11), "NotaryKiosk$Piece", rfl, by decide, nk_in (i := 560) (by decide +kernel) rfl, Or.inl rfl⟩, rfl⟩, ⟨⟨5, rfl, ⟨(RX4, TX4, 9), "NotaryKiosk$Piece", rfl, by decide, nk_in (i := 560) (by decide +kernel) rfl, Or.inl rfl⟩, rfl⟩, ⟨⟨9, rfl, ⟨(RX9, TX9, 15), "NotaryKiosk$Piece", rfl, by decide, nk_in (i := 560) (by decide +kernel) rfl, Or.inl rfl⟩, rfl⟩, ⟨⟨10, rfl, ⟨(RX10, TX10, 7), "NotaryKiosk$Piece", rfl, by decide, nk_in (i := 560) (by decide +kernel) rfl, Or.inl rfl⟩, rfl⟩, trivial⟩⟩⟩⟩
theorem fk_RX11_285 : nk_Fk RX11 285 2 false [8, 12, 16, 17] := ⟨⟨1, rfl, ⟨(RX0, TX0, 11), "NotaryKiosk$Piece", rfl, by decide, nk_in (i := 563) (by decide +kernel) rfl, Or.inl rfl⟩, rfl⟩, ⟨⟨5, rfl, ⟨(RX4, TX4, 9), "NotaryKiosk$Piece", rfl, by decide, nk_in (i := 563) (by decide +kernel) rfl, Or.inl rfl⟩, rfl⟩, ⟨⟨9, rfl, ⟨(RX9, TX9, 15), "NotaryKiosk$Piece", rfl, by decide, nk_in (i := 563) (by decide +kernel) rfl, Or.inl rfl⟩, rfl⟩, ⟨⟨10, rfl, ⟨(RX10, TX10, 7), "NotaryKiosk$Piece", rfl, by decide, nk_in (i := 563) (by decide +kernel) rfl, Or.inl rfl⟩, rfl⟩, trivial⟩⟩⟩⟩
theorem fk_RX11_290 : nk_Fk RX11 290 4 false [8, 12, 16, 17] := ⟨⟨1, rfl, ⟨(RX0, TX0, 11), "NotaryKiosk$Piece", rfl, by decide, nk_in (i := 568) (by decide +kernel) rfl, Or.inl rfl⟩, rfl⟩, ⟨⟨5, rfl, ⟨(RX4, TX4, 9), "NotaryKiosk$Piece", rfl, by decide, nk_in (i := 568) (by decide +kernel) rfl, Or.inl rfl⟩, rfl⟩, ⟨⟨9, rfl, ⟨(RX9, TX9, 15), "NotaryKiosk$Piece", rfl, by decide, nk_in (i := 568) (by decide +kernel) rfl, Or.inl rfl⟩, rfl⟩, ⟨⟨10, rfl, ⟨(RX10, TX10, 7), "NotaryKiosk$Piece", rfl, by decide, nk_in (i := 568) (by decide +kernel) rfl, Or.inl rfl⟩, rfl⟩, trivial⟩⟩⟩⟩
theorem ml_RX11_293 : Cond.methodLink RX11 293 yX7_unread ∈ nk_T := nk_in (i := 1123) (by decide +kernel) rfl
theorem fk_RX11_296 : nk_Fk RX11 296 7 true [16] := ⟨⟨9, rfl, ⟨(RX9, TX9, 15), "NotaryKiosk$Power", rfl, by decide, nk_in (i := 539) (by decide +kernel) rfl, Or.inl rfl⟩, rfl⟩, trivial⟩
theorem ml_RX11_303 : Cond.methodLink RX11 303 yX7_doneWith ∈ nk_T := nk_in (i := 1152) (by decide +kernel) rfl
theorem fk_RX11_307 : nk_Fk RX11 307 12 false [16] := ⟨⟨9, rfl, ⟨(RX9, TX9, 15), "NotaryKiosk$Power", rfl, by decide, nk_in (i := 549) (by decide +kernel) rfl, Or.inl rfl⟩, rfl⟩, trivial⟩
theorem ml_RX11_310 : Cond.methodLink RX11 310 Lib.Math.max.name ∈ nk_T := nk_in (i := 1160) (by decide +kernel) rfl
theorem ml_RX11_315 : Cond.methodLink RX11 315 yX1_countStanding ∈ nk_T := nk_in (i := 252) (by decide +kernel) rfl
theorem co_X1_countStanding : Cond.code yX1_countStanding cX1_countStanding 3 (some FieldType.int) ∈ nk_T := nk_in (i := 255) (by decide +kernel) rfl
theorem my_X1_countStanding : nk_My yX1_countStanding cX1_countStanding 3 (some FieldType.int) 0 := ⟨co_X1_countStanding, in_RX1, ⟨by decide, by decide⟩, by decide +kernel⟩
theorem im_X1_countStanding : Cond.instanceMethod yX1_countStanding ∈ nk_T := nk_in (i := 253) (by decide +kernel) rfl
theorem se_RX1_X1_countStanding : Cond.selects RX1 yX1_countStanding yX1_countStanding ∈ nk_T := nk_in (i := 254) (by decide +kernel) rfl
theorem fk_RX11_318 : nk_Fk RX11 318 0 false [8] := ⟨⟨1, rfl, ⟨(RX0, TX0, 11), "NotaryKiosk$Act", rfl, by decide, nk_in (i := 556) (by decide +kernel) rfl, Or.inr (nk_in (i := 557) (by decide +kernel) rfl)⟩, rfl⟩, trivial⟩
theorem fk_RX11_321 : nk_Fk RX11 321 9 false [8] := ⟨⟨1, rfl, ⟨(RX0, TX0, 11), "NotaryKiosk$Act", rfl, by decide, nk_in (i := 911) (by decide +kernel) rfl, Or.inl rfl⟩, rfl⟩, trivial⟩
theorem ml_RX11_324 : Cond.methodLink RX11 324 yX1_firstBroken ∈ nk_T := nk_in (i := 1217) (by decide +kernel) rfl
theorem co_X1_firstBroken : Cond.code yX1_firstBroken cX1_firstBroken 3 (some FieldType.int) ∈ nk_T := nk_in (i := 1220) (by decide +kernel) rfl
theorem my_X1_firstBroken : nk_My yX1_firstBroken cX1_firstBroken 3 (some FieldType.int) 0 := ⟨co_X1_firstBroken, in_RX1, ⟨by decide, by decide⟩, by decide +kernel⟩
theorem im_X1_firstBroken : Cond.instanceMethod yX1_firstBroken ∈ nk_T := nk_in (i := 1218) (by decide +kernel) rfl
theorem se_RX1_X1_firstBroken : Cond.selects RX1 yX1_firstBroken yX1_firstBroken ∈ nk_T := nk_in (i := 1219) (by decide +kernel) rfl
theorem ml_RX11_333 : Cond.methodLink RX11 333 yX2_firstBroken ∈ nk_T := nk_in (i := 1242) (by decide +kernel) rfl
theorem co_X2_firstBroken : Cond.code yX2_firstBroken cX2_firstBroken 3 (some FieldType.int) ∈ nk_T := nk_in (i := 1245) (by decide +kernel) rfl
theorem my_X2_firstBroken : nk_My yX2_firstBroken cX2_firstBroken 3 (some FieldType.int) 0 := ⟨co_X2_firstBroken, in_RX2, ⟨by decide, by decide⟩, by decide +kernel⟩
theorem im_X2_firstBroken : Cond.instanceMethod yX2_firstBroken ∈ nk_T := nk_in (i := 1243) (by decide +kernel) rfl
theorem se_RX2_X2_firstBroken : Cond.selects RX2 yX2_firstBroken yX2_firstBroken ∈ nk_T := nk_in (i := 1244) (by decide +kernel) rfl
theorem fk_RX11_334 : nk_Fk RX11 334 0 false [10] := ⟨⟨3, rfl, ⟨(RX2, TX2, 7), "NotaryKiosk$Copy", rfl, by decide, nk_in (i := 1012) (by decide +kernel) rfl, Or.inl rfl⟩, rfl⟩, trivial⟩
theorem ml_RX11_335 : Cond.methodLink RX11 335 yX2_tellsAs ∈ nk_T := nk_in (i := 1254) (by decide +kernel) rfl
theorem co_X2_tellsAs : Cond.code yX2_tellsAs cX2_tellsAs 3 (some FieldType.boolean) ∈ nk_T := nk_in (i := 1257) (by decide +kernel) rfl
theorem my_X2_tellsAs : nk_My yX2_tellsAs cX2_tellsAs 3 (some FieldType.boolean) 1 := ⟨co_X2_tellsAs, in_RX2, ⟨by decide, by decide⟩, by decide +kernel⟩
theorem im_X2_tellsAs : Cond.instanceMethod yX2_tellsAs ∈ nk_T := nk_in (i := 1255) (by decide +kernel) rfl
theorem se_RX2_X2_tellsAs : Cond.selects RX2 yX2_tellsAs yX2_tellsAs ∈ nk_T := nk_in (i := 1256) (by decide +kernel) rfl
theorem fk_RX12_31 : nk_Fk RX12 31 10 true [19] := ⟨⟨12, rfl, ⟨(RX12, TX12, 45), "NotaryKioskModel", rfl, by decide, nk_in (i := 1279) (by decide +kernel) rfl, Or.inl rfl⟩, rfl⟩, trivial⟩
theorem fk_RX12_7 : nk_Fk RX12 7 2 true [19] := ⟨⟨12, rfl, ⟨(RX12, TX12, 45), "NotaryKioskModel", rfl, by decide, nk_in (i := 1271) (by decide +kernel) rfl, Or.inl rfl⟩, rfl⟩, trivial⟩
theorem fw_RX12_7_i : nk_Fw RX12 true 2 [19] := ⟨fun ci q e h => by
    have e2 : ci = 12 := by omega
    subst e2
    cases h
    exact ⟨Or.inr ⟨rfl, rfl, rfl⟩, Or.inr ⟨rfl, Or.inr ⟨.int, by decide +kernel⟩⟩⟩, trivial⟩
theorem fk_RX12_13 : nk_Fk RX12 13 4 true [19] := ⟨⟨12, rfl, ⟨(RX12, TX12, 45), "NotaryKioskModel", rfl, by decide, nk_in (i := 1273) (by decide +kernel) rfl, Or.inl rfl⟩, rfl⟩, trivial⟩
theorem fw_RX12_13_i : nk_Fw RX12 true 4 [19] := ⟨fun ci q e h => by
    have e2 : ci = 12 := by omega
    subst e2
    cases h
    exact ⟨Or.inr ⟨rfl, rfl, rfl⟩, Or.inr ⟨rfl, Or.inr ⟨.int, by decide +kernel⟩⟩⟩, trivial⟩
theorem fk_RX12_16 : nk_Fk RX12 16 5 true [19] := ⟨⟨12, rfl, ⟨(RX12, TX12, 45), "NotaryKioskModel", rfl, by decide, nk_in (i := 1274) (by decide +kernel) rfl, Or.inl rfl⟩, rfl⟩, trivial⟩
theorem fw_RX12_16_i : nk_Fw RX12 true 5 [19] := ⟨fun ci q e h => by
    have e2 : ci = 12 := by omega
    subst e2
    cases h
    exact ⟨Or.inr ⟨rfl, rfl, rfl⟩, Or.inr ⟨rfl, Or.inr ⟨.int, by decide +kernel⟩⟩⟩, trivial⟩
theorem fk_RX12_19 : nk_Fk RX12 19 6 true [19] := ⟨⟨12, rfl, ⟨(RX12, TX12, 45), "NotaryKioskModel", rfl, by decide, nk_in (i := 1275) (by decide +kernel) rfl, Or.inl rfl⟩, rfl⟩, trivial⟩
theorem fw_RX12_19_i : nk_Fw RX12 true 6 [19] := ⟨fun ci q e h => by
    have e2 : ci = 12 := by omega
    subst e2
    cases h
    exact ⟨Or.inr ⟨rfl, rfl, rfl⟩, Or.inr ⟨rfl, Or.inr ⟨.int, by decide +kernel⟩⟩⟩, trivial⟩
theorem fk_RX12_22 : nk_Fk RX12 22 7 true [19] := ⟨⟨12, rfl, ⟨(RX12, TX12, 45), "NotaryKioskModel", rfl, by decide, nk_in (i := 1276) (by decide +kernel) rfl, Or.inl rfl⟩, rfl⟩, trivial⟩
theorem fw_RX12_22_i : nk_Fw RX12 true 7 [19] := ⟨fun ci q e h => by
    have e2 : ci = 12 := by omega
    subst e2
    cases h
    exact ⟨Or.inr ⟨rfl, rfl, rfl⟩, Or.inr ⟨rfl, Or.inr ⟨.int, by decide +kernel⟩⟩⟩, trivial⟩
theorem fk_RX12_25 : nk_Fk RX12 25 8 true [19] := ⟨⟨12, rfl, ⟨(RX12, TX12, 45), "NotaryKioskModel", rfl, by decide, nk_in (i := 1277) (by decide +kernel) rfl, Or.inl rfl⟩, rfl⟩, trivial⟩
theorem fw_RX12_25_i : nk_Fw RX12 true 8 [19] := ⟨fun ci q e h => by
    have e2 : ci = 12 := by omega
    subst e2
    cases h
    exact ⟨Or.inr ⟨rfl, rfl, rfl⟩, Or.inr ⟨rfl, Or.inr ⟨.int, by decide +kernel⟩⟩⟩, trivial⟩
theorem fk_RX12_28 : nk_Fk RX12 28 9 true [19] := ⟨⟨12, rfl, ⟨(RX12, TX12, 45), "NotaryKioskModel", rfl, by decide, nk_in (i := 1278) (by decide +kernel) rfl, Or.inl rfl⟩, rfl⟩, trivial⟩
theorem fw_RX12_28_i : nk_Fw RX12 true 9 [19] := ⟨fun ci q e h => by
    have e2 : ci = 12 := by omega
    subst e2
    cases h
    exact ⟨Or.inr ⟨rfl, rfl, rfl⟩, Or.inr ⟨rfl, Or.inr ⟨.int, by decide +kernel⟩⟩⟩, trivial⟩
theorem fw_RX12_31_i : nk_Fw RX12 true 10 [19] := ⟨fun ci q e h => by
    have e2 : ci = 12 := by omega
    subst e2
    cases h
    exact ⟨Or.inr ⟨rfl, rfl, rfl⟩, Or.inr ⟨rfl, Or.inr ⟨.int, by decide +kernel⟩⟩⟩, trivial⟩
theorem fk_RX12_34 : nk_Fk RX12 34 11 true [19] := ⟨⟨12, rfl, ⟨(RX12, TX12, 45), "NotaryKioskModel", rfl, by decide, nk_in (i := 1280) (by decide +kernel) rfl, Or.inl rfl⟩, rfl⟩, trivial⟩
theorem fw_RX12_34_i : nk_Fw RX12 true 11 [19] := ⟨fun ci q e h => by
    have e2 : ci = 12 := by omega
    subst e2
    cases h
    exact ⟨Or.inr ⟨rfl, rfl, rfl⟩, Or.inr ⟨rfl, Or.inr ⟨.boolean, by decide +kernel⟩⟩⟩, trivial⟩
theorem fk_RX12_38 : nk_Fk RX12 38 13 true [19] := ⟨⟨12, rfl, ⟨(RX12, TX12, 45), "NotaryKioskModel", rfl, by decide, nk_in (i := 1282) (by decide +kernel) rfl, Or.inl rfl⟩, rfl⟩, trivial⟩
theorem fw_RX12_38_i : nk_Fw RX12 true 13 [19] := ⟨fun ci q e h => by
    have e2 : ci = 12 := by omega
    subst e2
    cases h
    exact ⟨Or.inr ⟨rfl, rfl, rfl⟩, Or.inr ⟨rfl, Or.inr ⟨.int, by decide +kernel⟩⟩⟩, trivial⟩
theorem fk_RX12_41 : nk_Fk RX12 41 14 true [19] := ⟨⟨12, rfl, ⟨(RX12, TX12, 45), "NotaryKioskModel", rfl, by decide, nk_in (i := 1283) (by decide +kernel) rfl, Or.inl rfl⟩, rfl⟩, trivial⟩
theorem fw_RX12_41_i : nk_Fw RX12 true 14 [19] := ⟨fun ci q e h => by
    have e2 : ci = 12 := by omega
    subst e2
    cases h
    exact ⟨Or.inr ⟨rfl, rfl, rfl⟩, Or.inr ⟨rfl, Or.inr ⟨.int, by decide +kernel⟩⟩⟩, trivial⟩
theorem fk_RX12_44 : nk_Fk RX12 44 15 true [19] := ⟨⟨12, rfl, ⟨(RX12, TX12, 45), "NotaryKioskModel", rfl, by decide, nk_in (i := 1284) (by decide +kernel) rfl, Or.inl rfl⟩, rfl⟩, trivial⟩
theorem fw_RX12_44_i : nk_Fw RX12 true 15 [19] := ⟨fun ci q e h => by
    have e2 : ci = 12 := by omega
    subst e2
    cases h
    exact ⟨Or.inr ⟨rfl, rfl, rfl⟩, Or.inr ⟨rfl, Or.inr ⟨.int, by decide +kernel⟩⟩⟩, trivial⟩
theorem fk_RX12_47 : nk_Fk RX12 47 16 true [19] := ⟨⟨12, rfl, ⟨(RX12, TX12, 45), "NotaryKioskModel", rfl, by decide, nk_in (i := 1285) (by decide +kernel) rfl, Or.inl rfl⟩, rfl⟩, trivial⟩
theorem fw_RX12_47_i : nk_Fw RX12 true 16 [19] := ⟨fun ci q e h => by
    have e2 : ci = 12 := by omega
    subst e2
    cases h
    exact ⟨Or.inr ⟨rfl, rfl, rfl⟩, Or.inr ⟨rfl, Or.inr ⟨.int, by decide +kernel⟩⟩⟩, trivial⟩
theorem fk_RX12_50 : nk_Fk RX12 50 17 true [19] := ⟨⟨12, rfl, ⟨(RX12, TX12, 45), "NotaryKioskModel", rfl, by decide, nk_in (i := 1286) (by decide +kernel) rfl, Or.inl rfl⟩, rfl⟩, trivial⟩
theorem fw_RX12_50_i : nk_Fw RX12 true 17 [19] := ⟨fun ci q e h => by
    have e2 : ci = 12 := by omega
    subst e2
    cases h
    exact ⟨Or.inr ⟨rfl, rfl, rfl⟩, Or.inr ⟨rfl, Or.inr ⟨.int, by decide +kernel⟩⟩⟩, trivial⟩
theorem fk_RX12_53 : nk_Fk RX12 53 18 true [19] := ⟨⟨12, rfl, ⟨(RX12, TX12, 45), "NotaryKioskModel", rfl, by decide, nk_in (i := 1287) (by decide +kernel) rfl, Or.inl rfl⟩, rfl⟩, trivial⟩
theorem fw_RX12_53_i : nk_Fw RX12 true 18 [19] := ⟨fun ci q e h => by
    have e2 : ci = 12 := by omega
    subst e2
    cases h
    exact ⟨Or.inr ⟨rfl, rfl, rfl⟩, Or.inr ⟨rfl, Or.inr ⟨.int, by decide +kernel⟩⟩⟩, trivial⟩
theorem fk_RX12_56 : nk_Fk RX12 56 19 true [19] := ⟨⟨12, rfl, ⟨(RX12, TX12, 45), "NotaryKioskModel", rfl, by decide, nk_in (i := 1288) (by decide +kernel) rfl, Or.inl rfl⟩, rfl⟩, trivial⟩
theorem fw_RX12_56_i : nk_Fw RX12 true 19 [19] := ⟨fun ci q e h => by
    have e2 : ci = 12 := by omega
    subst e2
    cases h
    exact ⟨Or.inr ⟨rfl, rfl, rfl⟩, Or.inr ⟨rfl, Or.inr ⟨.int, by decide +kernel⟩⟩⟩, trivial⟩
theorem fk_RX12_59 : nk_Fk RX12 59 20 true [19] := ⟨⟨12, rfl, ⟨(RX12, TX12, 45), "NotaryKioskModel", rfl, by decide, nk_in (i := 1289) (by decide +kernel) rfl, Or.inl rfl⟩, rfl⟩, trivial⟩
theorem fw_RX12_59_i : nk_Fw RX12 true 20 [19] := ⟨fun ci q e h => by
    have e2 : ci = 12 := by omega
    subst e2
    cases h
    exact ⟨Or.inr ⟨rfl, rfl, rfl⟩, Or.inr ⟨rfl, Or.inr ⟨.int, by decide +kernel⟩⟩⟩, trivial⟩
theorem fk_RX12_62 : nk_Fk RX12 62 21 true [19] := ⟨⟨12, rfl, ⟨(RX12, TX12, 45), "NotaryKioskModel", rfl, by decide, nk_in (i := 1290) (by decide +kernel) rfl, Or.inl rfl⟩, rfl⟩, trivial⟩
theorem fw_RX12_62_i : nk_Fw RX12 true 21 [19] := ⟨fun ci q e h => by
    have e2 : ci = 12 := by omega
    subst e2
    cases h
    exact ⟨Or.inr ⟨rfl, rfl, rfl⟩, Or.inr ⟨rfl, Or.inr ⟨.int, by decide +kernel⟩⟩⟩, trivial⟩
theorem fk_RX12_65 : nk_Fk RX12 65 22 false [19] := ⟨⟨12, rfl, ⟨(RX12, TX12, 45), "NotaryKioskModel", rfl, by decide, nk_in (i := 1291) (by decide +kernel) rfl, Or.inl rfl⟩, rfl⟩, trivial⟩
theorem fw_RX12_65_i : nk_Fw RX12 true 22 [19] := ⟨fun ci q e h => by
    have e2 : ci = 12 := by omega
    subst e2
    cases h
    exact ⟨Or.inl rfl, Or.inl ⟨by decide +kernel, rfl⟩⟩, trivial⟩
theorem fk_RX12_69 : nk_Fk RX12 69 23 false [19] := ⟨⟨12, rfl, ⟨(RX12, TX12, 45), "NotaryKioskModel", rfl, by decide, nk_in (i := 1292) (by decide +kernel) rfl, Or.inl rfl⟩, rfl⟩, trivial⟩
theorem fw_RX12_69_i : nk_Fw RX12 true 23 [19] := ⟨fun ci q e h => by
    have e2 : ci = 12 := by omega
    subst e2
    cases h
    exact ⟨Or.inl rfl, Or.inl ⟨by decide +kernel, rfl⟩⟩, trivial⟩
theorem kc_RX12_72 : Cond.constant RX12 72 100000 ∈ nk_T := nk_in (i := 1268) (by decide +kernel) rfl
theorem fk_RX12_73 : nk_Fk RX12 73 24 false [19] := ⟨⟨12, rfl, ⟨(RX12, TX12, 45), "NotaryKioskModel", rfl, by decide, nk_in (i := 1293) (by decide +kernel) rfl, Or.inl rfl⟩, rfl⟩, trivial⟩
theorem fw_RX12_73_i : nk_Fw RX12 true 24 [19] := ⟨fun ci q e h => by
    have e2 : ci = 12 := by omega
    subst e2
    cases h
    exact ⟨Or.inl rfl, Or.inl ⟨by decide +kernel, rfl⟩⟩, trivial⟩
theorem fk_RX12_76 : nk_Fk RX12 76 25 false [19] := ⟨⟨12, rfl, ⟨(RX12, TX12, 45), "NotaryKioskModel", rfl, by decide, nk_in (i := 1294) (by decide +kernel) rfl, Or.inl rfl⟩, rfl⟩, trivial⟩
theorem fw_RX12_76_i : nk_Fw RX12 true 25 [19] := ⟨fun ci q e h => by
    have e2 : ci = 12 := by omega
    subst e2
    cases h
    exact ⟨Or.inl rfl, Or.inl ⟨by decide +kernel, rfl⟩⟩, trivial⟩
theorem fk_RX12_79 : nk_Fk RX12 79 30 true [19] := ⟨⟨12, rfl, ⟨(RX12, TX12, 45), "NotaryKioskModel", rfl, by decide, nk_in (i := 1299) (by decide +kernel) rfl, Or.inl rfl⟩, rfl⟩, trivial⟩
theorem fw_RX12_79_i : nk_Fw RX12 true 30 [19] := ⟨fun ci q e h => by
    have e2 : ci = 12 := by omega
    subst e2
    cases h
    exact ⟨Or.inr ⟨rfl, rfl, rfl⟩, Or.inr ⟨rfl, Or.inr ⟨.int, by decide +kernel⟩⟩⟩, trivial⟩
theorem fk_RX12_82 : nk_Fk RX12 82 31 true [19] := ⟨⟨12, rfl, ⟨(RX12, TX12, 45), "NotaryKioskModel", rfl, by decide, nk_in (i := 1300) (by decide +kernel) rfl, Or.inl rfl⟩, rfl⟩, trivial⟩
theorem fw_RX12_82_i : nk_Fw RX12 true 31 [19] := ⟨fun ci q e h => by
    have e2 : ci = 12 := by omega
    subst e2
    cases h
    exact ⟨Or.inr ⟨rfl, rfl, rfl⟩, Or.inr ⟨rfl, Or.inr ⟨.int, by decide +kernel⟩⟩⟩, trivial⟩
theorem fk_RX12_85 : nk_Fk RX12 85 32 true [19] := ⟨⟨12, rfl, ⟨(RX12, TX12, 45), "NotaryKioskModel", rfl, by decide, nk_in (i := 1301) (by decide +kernel) rfl, Or.inl rfl⟩, rfl⟩, trivial⟩
theorem fw_RX12_85_i : nk_Fw RX12 true 32 [19] := ⟨fun ci q e h => by
    have e2 : ci = 12 := by omega
    subst e2
    cases h
    exact ⟨Or.inr ⟨rfl, rfl, rfl⟩, Or.inr ⟨rfl, Or.inr ⟨.int, by decide +kernel⟩⟩⟩, trivial⟩
theorem fk_RX12_88 : nk_Fk RX12 88 33 true [19] := ⟨⟨12, rfl, ⟨(RX12, TX12, 45), "NotaryKioskModel", rfl, by decide, nk_in (i := 1302) (by decide +kernel) rfl, Or.inl rfl⟩, rfl⟩, trivial⟩
theorem fw_RX12_88_i : nk_Fw RX12 true 33 [19] := ⟨fun ci q e h => by
    have e2 : ci = 12 := by omega
    subst e2
    cases h
    exact ⟨Or.inr ⟨rfl, rfl, rfl⟩, Or.inr ⟨rfl, Or.inr ⟨.int, by decide +kernel⟩⟩⟩, trivial⟩
theorem fk_RX12_91 : nk_Fk RX12 91 34 true [19] := ⟨⟨12, rfl, ⟨(RX12, TX12, 45), "NotaryKioskModel", rfl, by decide, nk_in (i := 1303) (by decide +kernel) rfl, Or.inl rfl⟩, rfl⟩, trivial⟩
theorem fw_RX12_91_i : nk_Fw RX12 true 34 [19] := ⟨fun ci q e h => by
    have e2 : ci = 12 := by omega
    subst e2
    cases h
    exact ⟨Or.inr ⟨rfl, rfl, rfl⟩, Or.inr ⟨rfl, Or.inr ⟨.int, by decide +kernel⟩⟩⟩, trivial⟩
theorem fk_RX12_94 : nk_Fk RX12 94 35 true [19] := ⟨⟨12, rfl, ⟨(RX12, TX12, 45), "NotaryKioskModel", rfl, by decide, nk_in (i := 1304) (by decide +kernel) rfl, Or.inl rfl⟩, rfl⟩, trivial⟩
theorem fw_RX12_94_i : nk_Fw RX12 true 35 [19] := ⟨fun ci q e h => by
    have e2 : ci = 12 := by omega
    subst e2
    cases h
    exact ⟨Or.inr ⟨rfl, rfl, rfl⟩, Or.inr ⟨rfl, Or.inr ⟨.int, by decide +kernel⟩⟩⟩, trivial⟩
theorem fk_RX12_97 : nk_Fk RX12 97 36 true [19] := ⟨⟨12, rfl, ⟨(RX12, TX12, 45), "NotaryKioskModel", rfl, by decide, nk_in (i := 1305) (by decide +kernel) rfl, Or.inl rfl⟩, rfl⟩, trivial⟩
theorem fw_RX12_97_i : nk_Fw RX12 true 36 [19] := ⟨fun ci q e h => by
    have e2 : ci = 12 := by omega
    subst e2
    cases h
    exact ⟨Or.inr ⟨rfl, rfl, rfl⟩, Or.inr ⟨rfl, Or.inr ⟨.boolean, by decide +kernel⟩⟩⟩, trivial⟩
theorem fk_RX12_100 : nk_Fk RX12 100 38 true [19] := ⟨⟨12, rfl, ⟨(RX12, TX12, 45), "NotaryKioskModel", rfl, by decide, nk_in (i := 1307) (by decide +kernel) rfl, Or.inl rfl⟩, rfl⟩, trivial⟩
theorem fw_RX12_100_i : nk_Fw RX12 true 38 [19] := ⟨fun ci q e h => by
    have e2 : ci = 12 := by omega
    subst e2
    cases h
    exact ⟨Or.inr ⟨rfl, rfl, rfl⟩, Or.inr ⟨rfl, Or.inr ⟨.int, by decide +kernel⟩⟩⟩, trivial⟩
theorem fk_RX12_103 : nk_Fk RX12 103 39 true [19] := ⟨⟨12, rfl, ⟨(RX12, TX12, 45), "NotaryKioskModel", rfl, by decide, nk_in (i := 1308) (by decide +kernel) rfl, Or.inl rfl⟩, rfl⟩, trivial⟩
theorem fw_RX12_103_i : nk_Fw RX12 true 39 [19] := ⟨fun ci q e h => by
    have e2 : ci = 12 := by omega
    subst e2
    cases h
    exact ⟨Or.inr ⟨rfl, rfl, rfl⟩, Or.inr ⟨rfl, Or.inr ⟨.int, by decide +kernel⟩⟩⟩, trivial⟩
theorem fk_RX12_106 : nk_Fk RX12 106 40 true [19] := ⟨⟨12, rfl, ⟨(RX12, TX12, 45), "NotaryKioskModel", rfl, by decide, nk_in (i := 1309) (by decide +kernel) rfl, Or.inl rfl⟩, rfl⟩, trivial⟩
theorem fw_RX12_106_i : nk_Fw RX12 true 40 [19] := ⟨fun ci q e h => by
    have e2 : ci = 12 := by omega
    subst e2
    cases h
    exact ⟨Or.inr ⟨rfl, rfl, rfl⟩, Or.inr ⟨rfl, Or.inr ⟨.int, by decide +kernel⟩⟩⟩, trivial⟩
theorem fk_RX12_109 : nk_Fk RX12 109 41 true [19] := ⟨⟨12, rfl, ⟨(RX12, TX12, 45), "NotaryKioskModel", rfl, by decide, nk_in (i := 1310) (by decide +kernel) rfl, Or.inl rfl⟩, rfl⟩, trivial⟩
theorem fw_RX12_109_i : nk_Fw RX12 true 41 [19] := ⟨fun ci q e h => by
    have e2 : ci = 12 := by omega
    subst e2
    cases h
    exact ⟨Or.inr ⟨rfl, rfl, rfl⟩, Or.inr ⟨rfl, Or.inr ⟨.int, by decide +kernel⟩⟩⟩, trivial⟩
theorem fk_RX12_112 : nk_Fk RX12 112 42 true [19] := ⟨⟨12, rfl, ⟨(RX12, TX12, 45), "NotaryKioskModel", rfl, by decide, nk_in (i := 1311) (by decide +kernel) rfl, Or.inl rfl⟩, rfl⟩, trivial⟩
theorem fw_RX12_112_i : nk_Fw RX12 true 42 [19] := ⟨fun ci q e h => by
    have e2 : ci = 12 := by omega
    subst e2
    cases h
    exact ⟨Or.inr ⟨rfl, rfl, rfl⟩, Or.inr ⟨rfl, Or.inr ⟨.int, by decide +kernel⟩⟩⟩, trivial⟩
theorem fk_RX12_115 : nk_Fk RX12 115 43 true [19] := ⟨⟨12, rfl, ⟨(RX12, TX12, 45), "NotaryKioskModel", rfl, by decide, nk_in (i := 1312) (by decide +kernel) rfl, Or.inl rfl⟩, rfl⟩, trivial⟩
theorem fw_RX12_115_i : nk_Fw RX12 true 43 [19] := ⟨fun ci q e h => by
    have e2 : ci = 12 := by omega
    subst e2
    cases h
    exact ⟨Or.inr ⟨rfl, rfl, rfl⟩, Or.inr ⟨rfl, Or.inr ⟨.int, by decide +kernel⟩⟩⟩, trivial⟩
theorem fk_RX12_118 : nk_Fk RX12 118 44 true [19] := ⟨⟨12, rfl, ⟨(RX12, TX12, 45), "NotaryKioskModel", rfl, by decide, nk_in (i := 1313) (by decide +kernel) rfl, Or.inl rfl⟩, rfl⟩, trivial⟩
theorem fw_RX12_118_i : nk_Fw RX12 true 44 [19] := ⟨fun ci q e h => by
    have e2 : ci = 12 := by omega
    subst e2
    cases h
    exact ⟨Or.inr ⟨rfl, rfl, rfl⟩, Or.inr ⟨rfl, Or.inr ⟨.int, by decide +kernel⟩⟩⟩, trivial⟩
theorem ml_RX12_1 : Cond.methodLink RX12 1 ⟨"java/lang/Object", "<init>", "()V"⟩ ∈ nk_T := nk_in (i := 1267) (by decide +kernel) rfl
theorem fk_RX12_121 : nk_Fk RX12 121 0 false [19] := ⟨⟨12, rfl, ⟨(RX12, TX12, 45), "NotaryKioskModel", rfl, by decide, nk_in (i := 1269) (by decide +kernel) rfl, Or.inl rfl⟩, rfl⟩, trivial⟩
theorem fw_RX12_121_n : nk_Fw RX12 false 0 [19] := ⟨fun ci q e h => by
    have e2 : ci = 12 := by omega
    subst e2
    cases h
    exact ⟨Or.inl rfl, Or.inl ⟨by decide +kernel, rfl⟩⟩, trivial⟩
theorem co_X12_in : Cond.code yX12_in cX12_in 3 (some FieldType.boolean) ∈ nk_T := nk_in (i := 1422) (by decide +kernel) rfl
theorem in_RX12 : Cond.initialized RX12 ∈ nk_T := nk_in (i := 70) (by decide +kernel) rfl
theorem my_X12_in : nk_My yX12_in cX12_in 3 (some FieldType.boolean) 3 := ⟨co_X12_in, in_RX12, ⟨by decide, by decide⟩, by decide +kernel⟩
theorem st_X12_in : Cond.static yX12_in ∈ nk_T := nk_in (i := 1421) (by decide +kernel) rfl
theorem ml_RX12_124 : Cond.methodLink RX12 124 yX12_in ∈ nk_T := nk_in (i := 1420) (by decide +kernel) rfl
theorem fk_RX12_128 : nk_Fk RX12 128 12 false [19] := ⟨⟨12, rfl, ⟨(RX12, TX12, 45), "NotaryKioskModel", rfl, by decide, nk_in (i := 1281) (by decide +kernel) rfl, Or.inl rfl⟩, rfl⟩, trivial⟩
theorem co_X12_isKiosk : Cond.code yX12_isKiosk cX12_isKiosk 1 (some FieldType.boolean) ∈ nk_T := nk_in (i := 1419) (by decide +kernel) rfl
theorem my_X12_isKiosk : nk_My yX12_isKiosk cX12_isKiosk 1 (some FieldType.boolean) 1 := ⟨co_X12_isKiosk, in_RX12, ⟨by decide, by decide⟩, by decide +kernel⟩
theorem st_X12_isKiosk : Cond.static yX12_isKiosk ∈ nk_T := nk_in (i := 1418) (by decide +kernel) rfl
theorem ml_RX12_131 : Cond.methodLink RX12 131 yX12_isKiosk ∈ nk_T := nk_in (i := 1417) (by decide +kernel) rfl
theorem co_X12_many : Cond.code yX12_many cX12_many 3 (some FieldType.int) ∈ nk_T := nk_in (i := 1433) (by decide +kernel) rfl
theorem my_X12_many : nk_My yX12_many cX12_many 3 (some FieldType.int) 1 := ⟨co_X12_many, in_RX12, ⟨by decide, by decide⟩, by decide +kernel⟩
theorem st_X12_many : Cond.static yX12_many ∈ nk_T := nk_in (i := 1432) (by decide +kernel) rfl
theorem ml_RX12_135 : Cond.methodLink RX12 135 yX12_many ∈ nk_T := nk_in (i := 1431) (by decide +kernel) rfl
theorem ml_RX12_146 : Cond.methodLink RX12 146 yX12_turns ∈ nk_T := nk_in (i := 1427) (by decide +kernel) rfl
theorem co_X12_turns : Cond.code yX12_turns cX12_turns 3 (some FieldType.int) ∈ nk_T := nk_in (i := 1430) (by decide +kernel) rfl
theorem my_X12_turns : nk_My yX12_turns cX12_turns 3 (some FieldType.int) 2 := ⟨co_X12_turns, in_RX12, ⟨by decide, by decide⟩, by decide +kernel⟩
theorem im_X12_turns : Cond.instanceMethod yX12_turns ∈ nk_T := nk_in (i := 1429) (by decide +kernel) rfl
theorem se_RX12_X12_turns : Cond.selects RX12 yX12_turns yX12_turns ∈ nk_T := nk_in (i := 23) (by decide +kernel) rfl
theorem ml_RX12_143 : Cond.methodLink RX12 143 yX12_holds ∈ nk_T := nk_in (i := 1423) (by decide +kernel) rfl
theorem co_X12_holds : Cond.code yX12_holds cX12_holds 2 (some FieldType.boolean) ∈ nk_T := nk_in (i := 1426) (by decide +kernel) rfl
theorem my_X12_holds : nk_My yX12_holds cX12_holds 2 (some FieldType.boolean) 1 := ⟨co_X12_holds, in_RX12, ⟨by decide, by decide⟩, by decide +kernel⟩
theorem im_X12_holds : Cond.instanceMethod yX12_holds ∈ nk_T := nk_in (i := 1425) (by decide +kernel) rfl
theorem se_RX12_X12_holds : Cond.selects RX12 yX12_holds yX12_holds ∈ nk_T := nk_in (i := 22) (by decide +kernel) rfl
theorem ml_RX12_139 : Cond.methodLink RX12 139 yX12_errorOfLink ∈ nk_T := nk_in (i := 1413) (by decide +kernel) rfl
theorem co_X12_errorOfLink : Cond.code yX12_errorOfLink cX12_errorOfLink 4 (some FieldType.int) ∈ nk_T := nk_in (i := 1416) (by decide +kernel) rfl
theorem my_X12_errorOfLink : nk_My yX12_errorOfLink cX12_errorOfLink 4 (some FieldType.int) 3 := ⟨co_X12_errorOfLink, in_RX12, ⟨by decide, by decide⟩, by decide +kernel⟩
theorem im_X12_errorOfLink : Cond.instanceMethod yX12_errorOfLink ∈ nk_T := nk_in (i := 1415) (by decide +kernel) rfl
theorem se_RX12_X12_errorOfLink : Cond.selects RX12 yX12_errorOfLink yX12_errorOfLink ∈ nk_T := nk_in (i := 21) (by decide +kernel) rfl
theorem fk_RX12_150 : nk_Fk RX12 150 1 false [19] := ⟨⟨12, rfl, ⟨(RX12, TX12, 45), "NotaryKioskModel", rfl, by decide, nk_in (i := 1270) (by decide +kernel) rfl, Or.inl rfl⟩, rfl⟩, trivial⟩
theorem fk_RX12_153 : nk_Fk RX12 153 3 false [19] := ⟨⟨12, rfl, ⟨(RX12, TX12, 45), "NotaryKioskModel", rfl, by decide, nk_in (i := 1272) (by decide +kernel) rfl, Or.inl rfl⟩, rfl⟩, trivial⟩
theorem ml_RX12_156 : Cond.methodLink RX12 156 yX12_goesOn ∈ nk_T := nk_in (i := 1442) (by decide +kernel) rfl
theorem co_X12_goesOn : Cond.code yX12_goesOn cX12_goesOn 7 (some FieldType.int) ∈ nk_T := nk_in (i := 1445) (by decide +kernel) rfl
theorem my_X12_goesOn : nk_My yX12_goesOn cX12_goesOn 7 (some FieldType.int) 1 := ⟨co_X12_goesOn, in_RX12, ⟨by decide, by decide⟩, by decide +kernel⟩
theorem im_X12_goesOn : Cond.instanceMethod yX12_goesOn ∈ nk_T := nk_in (i := 1444) (by decide +kernel) rfl
theorem se_RX12_X12_goesOn : Cond.selects RX12 yX12_goesOn yX12_goesOn ∈ nk_T := nk_in (i := 24) (by decide +kernel) rfl
theorem fw_RX12_150_n : nk_Fw RX12 false 1 [19] := ⟨fun ci q e h => by
    have e2 : ci = 12 := by omega
    subst e2
    cases h
    exact ⟨Or.inl rfl, Or.inl ⟨by decide +kernel, rfl⟩⟩, trivial⟩
theorem ml_RX12_159 : Cond.methodLink RX12 159 yX12_unread ∈ nk_T := nk_in (i := 1450) (by decide +kernel) rfl
theorem co_X12_unread : Cond.code yX12_unread cX12_unread 4 (some FieldType.int) ∈ nk_T := nk_in (i := 1453) (by decide +kernel) rfl
theorem my_X12_unread : nk_My yX12_unread cX12_unread 4 (some FieldType.int) 1 := ⟨co_X12_unread, in_RX12, ⟨by decide, by decide⟩, by decide +kernel⟩
theorem im_X12_unread : Cond.instanceMethod yX12_unread ∈ nk_T := nk_in (i := 1452) (by decide +kernel) rfl
theorem se_RX12_X12_unread : Cond.selects RX12 yX12_unread yX12_unread ∈ nk_T := nk_in (i := 25) (by decide +kernel) rfl
theorem fw_RX12_153_n : nk_Fw RX12 false 3 [19] := ⟨fun ci q e h => by
    have e2 : ci = 12 := by omega
    subst e2
    cases h
    exact ⟨Or.inl rfl, Or.inl ⟨by decide +kernel, rfl⟩⟩, trivial⟩
theorem ml_RX12_162 : Cond.methodLink RX12 162 yX12_has ∈ nk_T := nk_in (i := 1501) (by decide +kernel) rfl
theorem co_X12_has : Cond.code yX12_has cX12_has 5 (some FieldType.boolean) ∈ nk_T := nk_in (i := 1504) (by decide +kernel) rfl
theorem my_X12_has : nk_My yX12_has cX12_has 5 (some FieldType.boolean) 2 := ⟨co_X12_has, in_RX12, ⟨by decide, by decide⟩, by decide +kernel⟩
theorem im_X12_has : Cond.instanceMethod yX12_has ∈ nk_T := nk_in (i := 1503) (by decide +kernel) rfl
theorem se_RX12_X12_has : Cond.selects RX12 yX12_has yX12_has ∈ nk_T := nk_in (i := 34) (by decide +kernel) rfl
theorem ml_RX12_166 : Cond.methodLink RX12 166 yX12_isInLine ∈ nk_T := nk_in (i := 1509) (by decide +kernel) rfl
theorem co_X12_isInLine : Cond.code yX12_isInLine cX12_isInLine 4 (some FieldType.boolean) ∈ nk_T := nk_in (i := 1512) (by decide +kernel) rfl
theorem my_X12_isInLine : nk_My yX12_isInLine cX12_isInLine 4 (some FieldType.boolean) 2 := ⟨co_X12_isInLine, in_RX12, ⟨by decide, by decide⟩, by decide +kernel⟩
theorem im_X12_isInLine : Cond.instanceMethod yX12_isInLine ∈ nk_T := nk_in (i := 1511) (by decide +kernel) rfl
theorem se_RX12_X12_isInLine : Cond.selects RX12 yX12_isInLine yX12_isInLine ∈ nk_T := nk_in (i := 36) (by decide +kernel) rfl
theorem ml_RX12_169 : Cond.methodLink RX12 169 yX12_doneWith ∈ nk_T := nk_in (i := 1573) (by decide +kernel) rfl
theorem co_X12_doneWith : Cond.code yX12_doneWith cX12_doneWith 5 (some FieldType.int) ∈ nk_T := nk_in (i := 1576) (by decide +kernel) rfl
theorem my_X12_doneWith : nk_My yX12_doneWith cX12_doneWith 5 (some FieldType.int) 2 := ⟨co_X12_doneWith, in_RX12, ⟨by decide, by decide⟩, by decide +kernel⟩
theorem im_X12_doneWith : Cond.instanceMethod yX12_doneWith ∈ nk_T := nk_in (i := 1575) (by decide +kernel) rfl
theorem se_RX12_X12_doneWith : Cond.selects RX12 yX12_doneWith yX12_doneWith ∈ nk_T := nk_in (i := 48) (by decide +kernel) rfl
theorem ml_RX12_187 : Cond.methodLink RX12 187 yX12_isDeputy ∈ nk_T := nk_in (i := 1577) (by decide +kernel) rfl
theorem co_X12_isDeputy : Cond.code yX12_isDeputy cX12_isDeputy 5 (some FieldType.boolean) ∈ nk_T := nk_in (i := 1580) (by decide +kernel) rfl
theorem my_X12_isDeputy : nk_My yX12_isDeputy cX12_isDeputy 5 (some FieldType.boolean) 3 := ⟨co_X12_isDeputy, in_RX12, ⟨by decide, by decide⟩, by decide +kernel⟩
theorem im_X12_isDeputy : Cond.instanceMethod yX12_isDeputy ∈ nk_T := nk_in (i := 1579) (by decide +kernel) rfl
theorem se_RX12_X12_isDeputy : Cond.selects RX12 yX12_isDeputy yX12_isDeputy ∈ nk_T := nk_in (i := 49) (by decide +kernel) rfl
theorem ml_RX12_184 : Cond.methodLink RX12 184 yX12_isAboveTotals ∈ nk_T := nk_in (i := 1569) (by decide +kernel) rfl
theorem co_X12_isAboveTotals : Cond.code yX12_isAboveTotals cX12_isAboveTotals 5 (some FieldType.boolean) ∈ nk_T := nk_in (i := 1572) (by decide +kernel) rfl
theorem my_X12_isAboveTotals : nk_My yX12_isAboveTotals cX12_isAboveTotals 5 (some FieldType.boolean) 3 := ⟨co_X12_isAboveTotals, in_RX12, ⟨by decide, by decide⟩, by decide +kernel⟩
theorem im_X12_isAboveTotals : Cond.instanceMethod yX12_isAboveTotals ∈ nk_T := nk_in (i := 1571) (by decide +kernel) rfl
theorem se_RX12_X12_isAboveTotals : Cond.selects RX12 yX12_isAboveTotals yX12_isAboveTotals ∈ nk_T := nk_in (i := 47) (by decide +kernel) rfl
theorem ml_RX12_181 : Cond.methodLink RX12 181 yX12_isAboveLimits ∈ nk_T := nk_in (i := 1565) (by decide +kernel) rfl
theorem co_X12_isAboveLimits : Cond.code yX12_isAboveLimits cX12_isAboveLimits 4 (some FieldType.boolean) ∈ nk_T := nk_in (i := 1568) (by decide +kernel) rfl
theorem my_X12_isAboveLimits : nk_My yX12_isAboveLimits cX12_isAboveLimits 4 (some FieldType.boolean) 2 := ⟨co_X12_isAboveLimits, in_RX12, ⟨by decide, by decide⟩, by decide +kernel⟩
theorem im_X12_isAboveLimits : Cond.instanceMethod yX12_isAboveLimits ∈ nk_T := nk_in (i := 1567) (by decide +kernel) rfl
theorem se_RX12_X12_isAboveLimits : Cond.selects RX12 yX12_isAboveLimits yX12_isAboveLimits ∈ nk_T := nk_in (i := 46) (by decide +kernel) rfl
theorem ml_RX12_178 : Cond.methodLink RX12 178 yX12_isOver ∈ nk_T := nk_in (i := 1513) (by decide +kernel) rfl
theorem co_X12_isOver : Cond.code yX12_isOver cX12_isOver 4 (some FieldType.boolean) ∈ nk_T := nk_in (i := 1516) (by decide +kernel) rfl
theorem my_X12_isOver : nk_My yX12_isOver cX12_isOver 4 (some FieldType.boolean) 2 := ⟨co_X12_isOver, in_RX12, ⟨by decide, by decide⟩, by decide +kernel⟩
theorem im_X12_isOver : Cond.instanceMethod yX12_isOver ∈ nk_T := nk_in (i := 1515) (by decide +kernel) rfl
theorem se_RX12_X12_isOver : Cond.selects RX12 yX12_isOver yX12_isOver ∈ nk_T := nk_in (i := 37) (by decide +kernel) rfl
theorem ml_RX12_175 : Cond.methodLink RX12 175 yX12_isRevoked ∈ nk_T := nk_in (i := 1505) (by decide +kernel) rfl
theorem co_X12_isRevoked : Cond.code yX12_isRevoked cX12_isRevoked 4 (some FieldType.boolean) ∈ nk_T := nk_in (i := 1508) (by decide +kernel) rfl
theorem my_X12_isRevoked : nk_My yX12_isRevoked cX12_isRevoked 4 (some FieldType.boolean) 2 := ⟨co_X12_isRevoked, in_RX12, ⟨by decide, by decide⟩, by decide +kernel⟩
theorem im_X12_isRevoked : Cond.instanceMethod yX12_isRevoked ∈ nk_T := nk_in (i := 1507) (by decide +kernel) rfl
theorem se_RX12_X12_isRevoked : Cond.selects RX12 yX12_isRevoked yX12_isRevoked ∈ nk_T := nk_in (i := 35) (by decide +kernel) rfl
theorem ml_RX12_172 : Cond.methodLink RX12 172 yX12_isKnown ∈ nk_T := nk_in (i := 1497) (by decide +kernel) rfl
theorem co_X12_isKnown : Cond.code yX12_isKnown cX12_isKnown 4 (some FieldType.boolean) ∈ nk_T := nk_in (i := 1500) (by decide +kernel) rfl
theorem my_X12_isKnown : nk_My yX12_isKnown cX12_isKnown 4 (some FieldType.boolean) 2 := ⟨co_X12_isKnown, in_RX12, ⟨by decide, by decide⟩, by decide +kernel⟩
theorem im_X12_isKnown : Cond.instanceMethod yX12_isKnown ∈ nk_T := nk_in (i := 1499) (by decide +kernel) rfl
theorem se_RX12_X12_isKnown : Cond.selects RX12 yX12_isKnown yX12_isKnown ∈ nk_T := nk_in (i := 33) (by decide +kernel) rfl
theorem fk_RX12_190 : nk_Fk RX12 190 28 false [19] := ⟨⟨12, rfl, ⟨(RX12, TX12, 45), "NotaryKioskModel", rfl, by decide, nk_in (i := 1297) (by decide +kernel) rfl, Or.inl rfl⟩, rfl⟩, trivial⟩
theorem fk_RX12_193 : nk_Fk RX12 193 27 false [19] := ⟨⟨12, rfl, ⟨(RX12, TX12, 45), "NotaryKioskModel", rfl, by decide, nk_in (i := 1296) (by decide +kernel) rfl, Or.inl rfl⟩, rfl⟩, trivial⟩
theorem ml_RX12_196 : Cond.methodLink RX12 196 yX12_reason ∈ nk_T := nk_in (i := 1561) (by decide +kernel) rfl
theorem co_X12_reason : Cond.code yX12_reason cX12_reason 9 (some FieldType.int) ∈ nk_T := nk_in (i := 1564) (by decide +kernel) rfl
theorem my_X12_reason : nk_My yX12_reason cX12_reason 9 (some FieldType.int) 8 := ⟨co_X12_reason, in_RX12, ⟨by decide, by decide⟩, by decide +kernel⟩
theorem im_X12_reason : Cond.instanceMethod yX12_reason ∈ nk_T := nk_in (i := 1563) (by decide +kernel) rfl
theorem se_RX12_X12_reason : Cond.selects RX12 yX12_reason yX12_reason ∈ nk_T := nk_in (i := 45) (by decide +kernel) rfl
theorem fw_RX12_65_n : nk_Fw RX12 false 22 [19] := ⟨fun ci q e h => by
    have e2 : ci = 12 := by omega
    subst e2
    cases h
    exact ⟨Or.inl rfl, Or.inl ⟨by decide +kernel, rfl⟩⟩, trivial⟩
theorem fw_RX12_69_n : nk_Fw RX12 false 23 [19] := ⟨fun ci q e h => by
    have e2 : ci = 12 := by omega
    subst e2
    cases h
    exact ⟨Or.inl rfl, Or.inl ⟨by decide +kernel, rfl⟩⟩, trivial⟩
theorem fw_RX12_73_n : nk_Fw RX12 false 24 [19] := ⟨fun ci q e h => by
    have e2 : ci = 12 := by omega
    subst e2
    cases h
    exact ⟨Or.inl rfl, Or.inl ⟨by decide +kernel, rfl⟩⟩, trivial⟩
theorem fw_RX12_76_n : nk_Fw RX12 false 25 [19] := ⟨fun ci q e h => by
    have e2 : ci = 12 := by omega
    subst e2
    cases h
    exact ⟨Or.inl rfl, Or.inl ⟨by decide +kernel, rfl⟩⟩, trivial⟩
theorem fk_RX12_200 : nk_Fk RX12 200 26 false [19] := ⟨⟨12, rfl, ⟨(RX12, TX12, 45), "NotaryKioskModel", rfl, by decide, nk_in (i := 1295) (by decide +kernel) rfl, Or.inl rfl⟩, rfl⟩, trivial⟩
theorem fw_RX12_200_n : nk_Fw RX12 false 26 [19] := ⟨fun ci q e h => by
    have e2 : ci = 12 := by omega
    subst e2
    cases h
    exact ⟨Or.inl rfl, Or.inl ⟨by decide +kernel, rfl⟩⟩, trivial⟩
theorem fw_RX12_128_n : nk_Fw RX12 false 12 [19] := ⟨fun ci q e h => by
    have e2 : ci = 12 := by omega
    subst e2
    cases h
    exact ⟨Or.inl rfl, Or.inl ⟨by decide +kernel, rfl⟩⟩, trivial⟩
theorem ml_RX12_203 : Cond.methodLink RX12 203 yX12_makes ∈ nk_T := nk_in (i := 1473) (by decide +kernel) rfl
theorem co_X12_makes : Cond.code yX12_makes cX12_makes 4 (some FieldType.int) ∈ nk_T := nk_in (i := 1476) (by decide +kernel) rfl
theorem my_X12_makes : nk_My yX12_makes cX12_makes 4 (some FieldType.int) 3 := ⟨co_X12_makes, in_RX12, ⟨by decide, by decide⟩, by decide +kernel⟩
theorem im_X12_makes : Cond.instanceMethod yX12_makes ∈ nk_T := nk_in (i := 1475) (by decide +kernel) rfl
theorem se_RX12_X12_makes : Cond.selects RX12 yX12_makes yX12_makes ∈ nk_T := nk_in (i := 28) (by decide +kernel) rfl
theorem ml_RX12_213 : Cond.methodLink RX12 213 yX12_adds ∈ nk_T := nk_in (i := 1469) (by decide +kernel) rfl
theorem co_X12_adds : Cond.code yX12_adds cX12_adds 5 (some FieldType.int) ∈ nk_T := nk_in (i := 1472) (by decide +kernel) rfl
theorem my_X12_adds : nk_My yX12_adds cX12_adds 5 (some FieldType.int) 4 := ⟨co_X12_adds, in_RX12, ⟨by decide, by decide⟩, by decide +kernel⟩
theorem im_X12_adds : Cond.instanceMethod yX12_adds ∈ nk_T := nk_in (i := 1471) (by decide +kernel) rfl
theorem se_RX12_X12_adds : Cond.selects RX12 yX12_adds yX12_adds ∈ nk_T := nk_in (i := 27) (by decide +kernel) rfl
theorem ml_RX12_209 : Cond.methodLink RX12 209 yX12_isFull ∈ nk_T := nk_in (i := 1465) (by decide +kernel) rfl
theorem co_X12_isFull : Cond.code yX12_isFull cX12_isFull 1 (some FieldType.boolean) ∈ nk_T := nk_in (i := 1468) (by decide +kernel) rfl
theorem my_X12_isFull : nk_My yX12_isFull cX12_isFull 1 (some FieldType.boolean) 0 := ⟨co_X12_isFull, in_RX12, ⟨by decide, by decide⟩, by decide +kernel⟩
theorem im_X12_isFull : Cond.instanceMethod yX12_isFull ∈ nk_T := nk_in (i := 1467) (by decide +kernel) rfl
theorem se_RX12_X12_isFull : Cond.selects RX12 yX12_isFull yX12_isFull ∈ nk_T := nk_in (i := 26) (by decide +kernel) rfl
theorem co_X12_isPerson : Cond.code yX12_isPerson cX12_isPerson 1 (some FieldType.boolean) ∈ nk_T := nk_in (i := 1464) (by decide +kernel) rfl
theorem my_X12_isPerson : nk_My yX12_isPerson cX12_isPerson 1 (some FieldType.boolean) 1 := ⟨co_X12_isPerson, in_RX12, ⟨by decide, by decide⟩, by decide +kernel⟩
theorem st_X12_isPerson : Cond.static yX12_isPerson ∈ nk_T := nk_in (i := 1463) (by decide +kernel) rfl
theorem ml_RX12_206 : Cond.methodLink RX12 206 yX12_isPerson ∈ nk_T := nk_in (i := 1462) (by decide +kernel) rfl
theorem ml_RX12_223 : Cond.methodLink RX12 223 yX12_isGoodAt ∈ nk_T := nk_in (i := 1493) (by decide +kernel) rfl
theorem co_X12_isGoodAt : Cond.code yX12_isGoodAt cX12_isGoodAt 3 (some FieldType.boolean) ∈ nk_T := nk_in (i := 1496) (by decide +kernel) rfl
theorem my_X12_isGoodAt : nk_My yX12_isGoodAt cX12_isGoodAt 3 (some FieldType.boolean) 2 := ⟨co_X12_isGoodAt, in_RX12, ⟨by decide, by decide⟩, by decide +kernel⟩
theorem im_X12_isGoodAt : Cond.instanceMethod yX12_isGoodAt ∈ nk_T := nk_in (i := 1495) (by decide +kernel) rfl
theorem se_RX12_X12_isGoodAt : Cond.selects RX12 yX12_isGoodAt yX12_isGoodAt ∈ nk_T := nk_in (i := 32) (by decide +kernel) rfl
theorem ml_RX12_220 : Cond.methodLink RX12 220 yX12_isWithin ∈ nk_T := nk_in (i := 1489) (by decide +kernel) rfl
theorem co_X12_isWithin : Cond.code yX12_isWithin cX12_isWithin 3 (some FieldType.boolean) ∈ nk_T := nk_in (i := 1492) (by decide +kernel) rfl
theorem my_X12_isWithin : nk_My yX12_isWithin cX12_isWithin 3 (some FieldType.boolean) 1 := ⟨co_X12_isWithin, in_RX12, ⟨by decide, by decide⟩, by decide +kernel⟩
theorem im_X12_isWithin : Cond.instanceMethod yX12_isWithin ∈ nk_T := nk_in (i := 1491) (by decide +kernel) rfl
theorem se_RX12_X12_isWithin : Cond.selects RX12 yX12_isWithin yX12_isWithin ∈ nk_T := nk_in (i := 31) (by decide +kernel) rfl
theorem ml_RX12_217 : Cond.methodLink RX12 217 yX12_isPower ∈ nk_T := nk_in (i := 1485) (by decide +kernel) rfl
theorem co_X12_isPower : Cond.code yX12_isPower cX12_isPower 2 (some FieldType.boolean) ∈ nk_T := nk_in (i := 1488) (by decide +kernel) rfl
theorem my_X12_isPower : nk_My yX12_isPower cX12_isPower 2 (some FieldType.boolean) 1 := ⟨co_X12_isPower, in_RX12, ⟨by decide, by decide⟩, by decide +kernel⟩
theorem im_X12_isPower : Cond.instanceMethod yX12_isPower ∈ nk_T := nk_in (i := 1487) (by decide +kernel) rfl
theorem se_RX12_X12_isPower : Cond.selects RX12 yX12_isPower yX12_isPower ∈ nk_T := nk_in (i := 30) (by decide +kernel) rfl
theorem ml_RX12_226 : Cond.methodLink RX12 226 yX12_errorOfPassOn ∈ nk_T := nk_in (i := 1481) (by decide +kernel) rfl
theorem co_X12_errorOfPassOn : Cond.code yX12_errorOfPassOn cX12_errorOfPassOn 4 (some FieldType.int) ∈ nk_T := nk_in (i := 1484) (by decide +kernel) rfl
theorem my_X12_errorOfPassOn : nk_My yX12_errorOfPassOn cX12_errorOfPassOn 4 (some FieldType.int) 3 := ⟨co_X12_errorOfPassOn, in_RX12, ⟨by decide, by decide⟩, by decide +kernel⟩
theorem im_X12_errorOfPassOn : Cond.instanceMethod yX12_errorOfPassOn ∈ nk_T := nk_in (i := 1483) (by decide +kernel) rfl
theorem se_RX12_X12_errorOfPassOn : Cond.selects RX12 yX12_errorOfPassOn yX12_errorOfPassOn ∈ nk_T := nk_in (i := 29) (by decide +kernel) rfl
theorem ml_RX12_229 : Cond.methodLink RX12 229 yX12_isGiver ∈ nk_T := nk_in (i := 1525) (by decide +kernel) rfl
theorem co_X12_isGiver : Cond.code yX12_isGiver cX12_isGiver 4 (some FieldType.boolean) ∈ nk_T := nk_in (i := 1528) (by decide +kernel) rfl
theorem my_X12_isGiver : nk_My yX12_isGiver cX12_isGiver 4 (some FieldType.boolean) 2 := ⟨co_X12_isGiver, in_RX12, ⟨by decide, by decide⟩, by decide +kernel⟩
theorem im_X12_isGiver : Cond.instanceMethod yX12_isGiver ∈ nk_T := nk_in (i := 1527) (by decide +kernel) rfl
theorem se_RX12_X12_isGiver : Cond.selects RX12 yX12_isGiver yX12_isGiver ∈ nk_T := nk_in (i := 39) (by decide +kernel) rfl
theorem ml_RX12_232 : Cond.methodLink RX12 232 yX12_errorOfRevoke ∈ nk_T := nk_in (i := 1521) (by decide +kernel) rfl
theorem co_X12_errorOfRevoke : Cond.code yX12_errorOfRevoke cX12_errorOfRevoke 4 (some FieldType.int) ∈ nk_T := nk_in (i := 1524) (by decide +kernel) rfl
theorem my_X12_errorOfRevoke : nk_My yX12_errorOfRevoke cX12_errorOfRevoke 4 (some FieldType.int) 3 := ⟨co_X12_errorOfRevoke, in_RX12, ⟨by decide, by decide⟩, by decide +kernel⟩
theorem im_X12_errorOfRevoke : Cond.instanceMethod yX12_errorOfRevoke ∈ nk_T := nk_in (i := 1523) (by decide +kernel) rfl
theorem se_RX12_X12_errorOfRevoke : Cond.selects RX12 yX12_errorOfRevoke yX12_errorOfRevoke ∈ nk_T := nk_in (i := 38) (by decide +kernel) rfl
theorem ml_RX12_235 : Cond.methodLink RX12 235 yX12_isDeputed ∈ nk_T := nk_in (i := 1537) (by decide +kernel) rfl
theorem co_X12_isDeputed : Cond.code yX12_isDeputed cX12_isDeputed 5 (some FieldType.boolean) ∈ nk_T := nk_in (i := 1540) (by decide +kernel) rfl
theorem my_X12_isDeputed : nk_My yX12_isDeputed cX12_isDeputed 5 (some FieldType.boolean) 3 := ⟨co_X12_isDeputed, in_RX12, ⟨by decide, by decide⟩, by decide +kernel⟩
theorem im_X12_isDeputed : Cond.instanceMethod yX12_isDeputed ∈ nk_T := nk_in (i := 1539) (by decide +kernel) rfl
theorem se_RX12_X12_isDeputed : Cond.selects RX12 yX12_isDeputed yX12_isDeputed ∈ nk_T := nk_in (i := 41) (by decide +kernel) rfl
theorem ml_RX12_238 : Cond.methodLink RX12 238 yX12_errorOfDepute ∈ nk_T := nk_in (i := 1533) (by decide +kernel) rfl
theorem co_X12_errorOfDepute : Cond.code yX12_errorOfDepute cX12_errorOfDepute 5 (some FieldType.int) ∈ nk_T := nk_in (i := 1536) (by decide +kernel) rfl
theorem my_X12_errorOfDepute : nk_My yX12_errorOfDepute cX12_errorOfDepute 5 (some FieldType.int) 3 := ⟨co_X12_errorOfDepute, in_RX12, ⟨by decide, by decide⟩, by decide +kernel⟩
theorem im_X12_errorOfDepute : Cond.instanceMethod yX12_errorOfDepute ∈ nk_T := nk_in (i := 1535) (by decide +kernel) rfl
theorem se_RX12_X12_errorOfDepute : Cond.selects RX12 yX12_errorOfDepute yX12_errorOfDepute ∈ nk_T := nk_in (i := 40) (by decide +kernel) rfl
theorem kc_RX12_241 : Cond.constant RX12 241 1000003 ∈ nk_T := nk_in (i := 1591) (by decide +kernel) rfl
theorem co_X12_sealed : Cond.code yX12_sealed cX12_sealed 2 (some FieldType.int) ∈ nk_T := nk_in (i := 1590) (by decide +kernel) rfl
theorem my_X12_sealed : nk_My yX12_sealed cX12_sealed 2 (some FieldType.int) 2 := ⟨co_X12_sealed, in_RX12, ⟨by decide, by decide⟩, by decide +kernel⟩
theorem st_X12_sealed : Cond.static yX12_sealed ∈ nk_T := nk_in (i := 1589) (by decide +kernel) rfl
theorem ml_RX12_242 : Cond.methodLink RX12 242 yX12_sealed ∈ nk_T := nk_in (i := 1588) (by decide +kernel) rfl
theorem ml_RX12_248 : Cond.methodLink RX12 248 yX12_sealAhead ∈ nk_T := nk_in (i := 1592) (by decide +kernel) rfl
theorem co_X12_sealAhead : Cond.code yX12_sealAhead cX12_sealAhead 3 (some FieldType.int) ∈ nk_T := nk_in (i := 1595) (by decide +kernel) rfl
theorem my_X12_sealAhead : nk_My yX12_sealAhead cX12_sealAhead 3 (some FieldType.int) 2 := ⟨co_X12_sealAhead, in_RX12, ⟨by decide, by decide⟩, by decide +kernel⟩
theorem im_X12_sealAhead : Cond.instanceMethod yX12_sealAhead ∈ nk_T := nk_in (i := 1594) (by decide +kernel) rfl
theorem se_RX12_X12_sealAhead : Cond.selects RX12 yX12_sealAhead yX12_sealAhead ∈ nk_T := nk_in (i := 51) (by decide +kernel) rfl
theorem co_X12_markOf : Cond.code yX12_markOf cX12_markOf 4 (some FieldType.int) ∈ nk_T := nk_in (i := 1587) (by decide +kernel) rfl
theorem my_X12_markOf : nk_My yX12_markOf cX12_markOf 4 (some FieldType.int) 4 := ⟨co_X12_markOf, in_RX12, ⟨by decide, by decide⟩, by decide +kernel⟩
theorem st_X12_markOf : Cond.static yX12_markOf ∈ nk_T := nk_in (i := 1586) (by decide +kernel) rfl
theorem ml_RX12_245 : Cond.methodLink RX12 245 yX12_markOf ∈ nk_T := nk_in (i := 1585) (by decide +kernel) rfl
theorem fw_RX12_193_n : nk_Fw RX12 false 27 [19] := ⟨fun ci q e h => by
    have e2 : ci = 12 := by omega
    subst e2
    cases h
    exact ⟨Or.inl rfl, Or.inl ⟨by decide +kernel, rfl⟩⟩, trivial⟩
theorem fw_RX12_190_n : nk_Fw RX12 false 28 [19] := ⟨fun ci q e h => by
    have e2 : ci = 12 := by omega
    subst e2
    cases h
    exact ⟨Or.inl rfl, Or.inl ⟨by decide +kernel, rfl⟩⟩, trivial⟩
theorem ml_RX12_254 : Cond.methodLink RX12 254 yX12_reasonNow ∈ nk_T := nk_in (i := 1557) (by decide +kernel) rfl
theorem co_X12_reasonNow : Cond.code yX12_reasonNow cX12_reasonNow 5 (some FieldType.int) ∈ nk_T := nk_in (i := 1560) (by decide +kernel) rfl
theorem my_X12_reasonNow : nk_My yX12_reasonNow cX12_reasonNow 5 (some FieldType.int) 4 := ⟨co_X12_reasonNow, in_RX12, ⟨by decide, by decide⟩, by decide +kernel⟩
theorem im_X12_reasonNow : Cond.instanceMethod yX12_reasonNow ∈ nk_T := nk_in (i := 1559) (by decide +kernel) rfl
theorem se_RX12_X12_reasonNow : Cond.selects RX12 yX12_reasonNow yX12_reasonNow ∈ nk_T := nk_in (i := 44) (by decide +kernel) rfl
theorem ml_RX12_251 : Cond.methodLink RX12 251 yX12_areThere ∈ nk_T := nk_in (i := 1553) (by decide +kernel) rfl
theorem co_X12_areThere : Cond.code yX12_areThere cX12_areThere 4 (some FieldType.boolean) ∈ nk_T := nk_in (i := 1556) (by decide +kernel) rfl
theorem my_X12_areThere : nk_My yX12_areThere cX12_areThere 4 (some FieldType.boolean) 3 := ⟨co_X12_areThere, in_RX12, ⟨by decide, by decide⟩, by decide +kernel⟩
theorem im_X12_areThere : Cond.instanceMethod yX12_areThere ∈ nk_T := nk_in (i := 1555) (by decide +kernel) rfl
theorem se_RX12_X12_areThere : Cond.selects RX12 yX12_areThere yX12_areThere ∈ nk_T := nk_in (i := 43) (by decide +kernel) rfl
theorem fk_RX12_260 : nk_Fk RX12 260 29 false [19] := ⟨⟨12, rfl, ⟨(RX12, TX12, 45), "NotaryKioskModel", rfl, by decide, nk_in (i := 1298) (by decide +kernel) rfl, Or.inl rfl⟩, rfl⟩, trivial⟩
theorem fw_RX12_260_n : nk_Fw RX12 false 29 [19] := ⟨fun ci q e h => by
    have e2 : ci = 12 := by omega
    subst e2
    cases h
    exact ⟨Or.inl rfl, Or.inl ⟨by decide +kernel, rfl⟩⟩, trivial⟩
theorem ml_RX12_266 : Cond.methodLink RX12 266 yX12_faultOf ∈ nk_T := nk_in (i := 1596) (by decide +kernel) rfl
theorem co_X12_faultOf : Cond.code yX12_faultOf cX12_faultOf 4 (some FieldType.int) ∈ nk_T := nk_in (i := 1599) (by decide +kernel) rfl
theorem my_X12_faultOf : nk_My yX12_faultOf cX12_faultOf 4 (some FieldType.int) 1 := ⟨co_X12_faultOf, in_RX12, ⟨by decide, by decide⟩, by decide +kernel⟩
theorem im_X12_faultOf : Cond.instanceMethod yX12_faultOf ∈ nk_T := nk_in (i := 1598) (by decide +kernel) rfl
theorem se_RX12_X12_faultOf : Cond.selects RX12 yX12_faultOf yX12_faultOf ∈ nk_T := nk_in (i := 52) (by decide +kernel) rfl
theorem ml_RX12_263 : Cond.methodLink RX12 263 yX12_sealNow ∈ nk_T := nk_in (i := 1581) (by decide +kernel) rfl
theorem co_X12_sealNow : Cond.code yX12_sealNow cX12_sealNow 5 (some FieldType.int) ∈ nk_T := nk_in (i := 1584) (by decide +kernel) rfl
theorem my_X12_sealNow : nk_My yX12_sealNow cX12_sealNow 5 (some FieldType.int) 2 := ⟨co_X12_sealNow, in_RX12, ⟨by decide, by decide⟩, by decide +kernel⟩
theorem im_X12_sealNow : Cond.instanceMethod yX12_sealNow ∈ nk_T := nk_in (i := 1583) (by decide +kernel) rfl
theorem se_RX12_X12_sealNow : Cond.selects RX12 yX12_sealNow yX12_sealNow ∈ nk_T := nk_in (i := 50) (by decide +kernel) rfl
theorem ml_RX12_257 : Cond.methodLink RX12 257 yX12_errorOfAct ∈ nk_T := nk_in (i := 1549) (by decide +kernel) rfl
theorem co_X12_errorOfAct : Cond.code yX12_errorOfAct cX12_errorOfAct 5 (some FieldType.int) ∈ nk_T := nk_in (i := 1552) (by decide +kernel) rfl
theorem my_X12_errorOfAct : nk_My yX12_errorOfAct cX12_errorOfAct 5 (some FieldType.int) 4 := ⟨co_X12_errorOfAct, in_RX12, ⟨by decide, by decide⟩, by decide +kernel⟩
theorem im_X12_errorOfAct : Cond.instanceMethod yX12_errorOfAct ∈ nk_T := nk_in (i := 1551) (by decide +kernel) rfl
theorem se_RX12_X12_errorOfAct : Cond.selects RX12 yX12_errorOfAct yX12_errorOfAct ∈ nk_T := nk_in (i := 42) (by decide +kernel) rfl
theorem ml_RX12_269 : Cond.methodLink RX12 269 yX12_isRecord ∈ nk_T := nk_in (i := 1604) (by decide +kernel) rfl
theorem co_X12_isRecord : Cond.code yX12_isRecord cX12_isRecord 3 (some FieldType.boolean) ∈ nk_T := nk_in (i := 1607) (by decide +kernel) rfl
theorem my_X12_isRecord : nk_My yX12_isRecord cX12_isRecord 3 (some FieldType.boolean) 2 := ⟨co_X12_isRecord, in_RX12, ⟨by decide, by decide⟩, by decide +kernel⟩
theorem im_X12_isRecord : Cond.instanceMethod yX12_isRecord ∈ nk_T := nk_in (i := 1606) (by decide +kernel) rfl
theorem se_RX12_X12_isRecord : Cond.selects RX12 yX12_isRecord yX12_isRecord ∈ nk_T := nk_in (i := 53) (by decide +kernel) rfl
theorem ml_RX12_272 : Cond.methodLink RX12 272 yX12_isLeftOut ∈ nk_T := nk_in (i := 1616) (by decide +kernel) rfl
theorem co_X12_isLeftOut : Cond.code yX12_isLeftOut cX12_isLeftOut 3 (some FieldType.boolean) ∈ nk_T := nk_in (i := 1619) (by decide +kernel) rfl
theorem my_X12_isLeftOut : nk_My yX12_isLeftOut cX12_isLeftOut 3 (some FieldType.boolean) 2 := ⟨co_X12_isLeftOut, in_RX12, ⟨by decide, by decide⟩, by decide +kernel⟩
theorem im_X12_isLeftOut : Cond.instanceMethod yX12_isLeftOut ∈ nk_T := nk_in (i := 1618) (by decide +kernel) rfl
theorem se_RX12_X12_isLeftOut : Cond.selects RX12 yX12_isLeftOut yX12_isLeftOut ∈ nk_T := nk_in (i := 55) (by decide +kernel) rfl
theorem fk_RX12_275 : nk_Fk RX12 275 37 false [19] := ⟨⟨12, rfl, ⟨(RX12, TX12, 45), "NotaryKioskModel", rfl, by decide, nk_in (i := 1306) (by decide +kernel) rfl, Or.inl rfl⟩, rfl⟩, trivial⟩
theorem fw_RX12_275_n : nk_Fw RX12 false 37 [19] := ⟨fun ci q e h => by
    have e2 : ci = 12 := by omega
    subst e2
    cases h
    exact ⟨Or.inl rfl, Or.inl ⟨by decide +kernel, rfl⟩⟩, trivial⟩
theorem ml_RX12_278 : Cond.methodLink RX12 278 yX12_copies ∈ nk_T := nk_in (i := 1612) (by decide +kernel) rfl
theorem co_X12_copies : Cond.code yX12_copies cX12_copies 8 (none : Option FieldType) ∈ nk_T := nk_in (i := 1615) (by decide +kernel) rfl
theorem my_X12_copies : nk_My yX12_copies cX12_copies 8 (none : Option FieldType) 2 := ⟨co_X12_copies, in_RX12, ⟨by decide, by decide⟩, by decide +kernel⟩
theorem im_X12_copies : Cond.instanceMethod yX12_copies ∈ nk_T := nk_in (i := 1614) (by decide +kernel) rfl
theorem se_RX12_X12_copies : Cond.selects RX12 yX12_copies yX12_copies ∈ nk_T := nk_in (i := 54) (by decide +kernel) rfl
theorem ml_RX12_281 : Cond.methodLink RX12 281 yX12_isCopy ∈ nk_T := nk_in (i := 1628) (by decide +kernel) rfl
theorem co_X12_isCopy : Cond.code yX12_isCopy cX12_isCopy 2 (some FieldType.boolean) ∈ nk_T := nk_in (i := 1631) (by decide +kernel) rfl
theorem my_X12_isCopy : nk_My yX12_isCopy cX12_isCopy 2 (some FieldType.boolean) 1 := ⟨co_X12_isCopy, in_RX12, ⟨by decide, by decide⟩, by decide +kernel⟩
theorem im_X12_isCopy : Cond.instanceMethod yX12_isCopy ∈ nk_T := nk_in (i := 1630) (by decide +kernel) rfl
theorem se_RX12_X12_isCopy : Cond.selects RX12 yX12_isCopy yX12_isCopy ∈ nk_T := nk_in (i := 57) (by decide +kernel) rfl
theorem ml_RX12_284 : Cond.methodLink RX12 284 yX12_isCopied ∈ nk_T := nk_in (i := 1624) (by decide +kernel) rfl
theorem co_X12_isCopied : Cond.code yX12_isCopied cX12_isCopied 4 (some FieldType.boolean) ∈ nk_T := nk_in (i := 1627) (by decide +kernel) rfl
theorem my_X12_isCopied : nk_My yX12_isCopied cX12_isCopied 4 (some FieldType.boolean) 3 := ⟨co_X12_isCopied, in_RX12, ⟨by decide, by decide⟩, by decide +kernel⟩
theorem im_X12_isCopied : Cond.instanceMethod yX12_isCopied ∈ nk_T := nk_in (i := 1626) (by decide +kernel) rfl
theorem se_RX12_X12_isCopied : Cond.selects RX12 yX12_isCopied yX12_isCopied ∈ nk_T := nk_in (i := 56) (by decide +kernel) rfl
theorem ml_RX12_287 : Cond.methodLink RX12 287 yX12_isPiece ∈ nk_T := nk_in (i := 1656) (by decide +kernel) rfl
theorem co_X12_isPiece : Cond.code yX12_isPiece cX12_isPiece 3 (some FieldType.boolean) ∈ nk_T := nk_in (i := 1659) (by decide +kernel) rfl
theorem my_X12_isPiece : nk_My yX12_isPiece cX12_isPiece 3 (some FieldType.boolean) 2 := ⟨co_X12_isPiece, in_RX12, ⟨by decide, by decide⟩, by decide +kernel⟩
theorem im_X12_isPiece : Cond.instanceMethod yX12_isPiece ∈ nk_T := nk_in (i := 1658) (by decide +kernel) rfl
theorem se_RX12_X12_isPiece : Cond.selects RX12 yX12_isPiece yX12_isPiece ∈ nk_T := nk_in (i := 58) (by decide +kernel) rfl
theorem ml_RX12_290 : Cond.methodLink RX12 290 yX12_isThere ∈ nk_T := nk_in (i := 1704) (by decide +kernel) rfl
theorem co_X12_isThere : Cond.code yX12_isThere cX12_isThere 3 (some FieldType.boolean) ∈ nk_T := nk_in (i := 1707) (by decide +kernel) rfl
theorem my_X12_isThere : nk_My yX12_isThere cX12_isThere 3 (some FieldType.boolean) 2 := ⟨co_X12_isThere, in_RX12, ⟨by decide, by decide⟩, by decide +kernel⟩
theorem im_X12_isThere : Cond.instanceMethod yX12_isThere ∈ nk_T := nk_in (i := 1706) (by decide +kernel) rfl
theorem se_RX12_X12_isThere : Cond.selects RX12 yX12_isThere yX12_isThere ∈ nk_T := nk_in (i := 59) (by decide +kernel) rfl
theorem ml_RX12_293 : Cond.methodLink RX12 293 yX12_isBroken ∈ nk_T := nk_in (i := 1744) (by decide +kernel) rfl
theorem co_X12_isBroken : Cond.code yX12_isBroken cX12_isBroken 6 (some FieldType.boolean) ∈ nk_T := nk_in (i := 1747) (by decide +kernel) rfl
theorem my_X12_isBroken : nk_My yX12_isBroken cX12_isBroken 6 (some FieldType.boolean) 2 := ⟨co_X12_isBroken, in_RX12, ⟨by decide, by decide⟩, by decide +kernel⟩
theorem im_X12_isBroken : Cond.instanceMethod yX12_isBroken ∈ nk_T := nk_in (i := 1746) (by decide +kernel) rfl
theorem se_RX12_X12_isBroken : Cond.selects RX12 yX12_isBroken yX12_isBroken ∈ nk_T := nk_in (i := 60) (by decide +kernel) rfl
theorem ml_RL_7 : Cond.methodLink RL 7 yX11_join ∈ nk_T := nk_in (i := 278) (by decide +kernel) rfl
theorem co_X11_join : Cond.code yX11_join cX11_join 3 (some FieldType.int) ∈ nk_T := nk_in (i := 281) (by decide +kernel) rfl
theorem my_X11_join : nk_My yX11_join cX11_join 3 (some FieldType.int) 2 := ⟨co_X11_join, in_RX11, ⟨by decide, by decide⟩, by decide +kernel⟩
theorem im_X11_join : Cond.instanceMethod yX11_join ∈ nk_T := nk_in (i := 279) (by decide +kernel) rfl
theorem se_RX11_X11_join : Cond.selects RX11 yX11_join yX11_join ∈ nk_T := nk_in (i := 280) (by decide +kernel) rfl
theorem cl_RL_13 : Cond.classLink RL 13 "java/lang/IndexOutOfBoundsException" ∈ nk_T := nk_in (i := 275) (by decide +kernel) rfl
theorem cl_RL_15 : Cond.classLink RL 15 "java/lang/IllegalArgumentException" ∈ nk_T := nk_in (i := 276) (by decide +kernel) rfl
theorem cl_RL_17 : Cond.classLink RL 17 "java/lang/IllegalStateException" ∈ nk_T := nk_in (i := 277) (by decide +kernel) rfl
theorem ml_RL_19 : Cond.methodLink RL 19 yX11_cut ∈ nk_T := nk_in (i := 416) (by decide +kernel) rfl
theorem co_X11_cut : Cond.code yX11_cut cX11_cut 3 (some FieldType.int) ∈ nk_T := nk_in (i := 419) (by decide +kernel) rfl
theorem my_X11_cut : nk_My yX11_cut cX11_cut 3 (some FieldType.int) 2 := ⟨co_X11_cut, in_RX11, ⟨by decide, by decide⟩, by decide +kernel⟩
theorem im_X11_cut : Cond.instanceMethod yX11_cut ∈ nk_T := nk_in (i := 417) (by decide +kernel) rfl
theorem se_RX11_X11_cut : Cond.selects RX11 yX11_cut yX11_cut ∈ nk_T := nk_in (i := 418) (by decide +kernel) rfl
theorem ml_RL_22 : Cond.methodLink RL 22 yX11_pass ∈ nk_T := nk_in (i := 424) (by decide +kernel) rfl
theorem co_X11_pass : Cond.code yX11_pass cX11_pass 4 (some FieldType.int) ∈ nk_T := nk_in (i := 427) (by decide +kernel) rfl
theorem my_X11_pass : nk_My yX11_pass cX11_pass 4 (some FieldType.int) 1 := ⟨co_X11_pass, in_RX11, ⟨by decide, by decide⟩, by decide +kernel⟩
theorem im_X11_pass : Cond.instanceMethod yX11_pass ∈ nk_T := nk_in (i := 425) (by decide +kernel) rfl
theorem se_RX11_X11_pass : Cond.selects RX11 yX11_pass yX11_pass ∈ nk_T := nk_in (i := 426) (by decide +kernel) rfl
theorem ml_RL_26 : Cond.methodLink RL 26 yX11_read ∈ nk_T := nk_in (i := 464) (by decide +kernel) rfl
theorem co_X11_read : Cond.code yX11_read cX11_read 2 (some FieldType.int) ∈ nk_T := nk_in (i := 467) (by decide +kernel) rfl
theorem my_X11_read : nk_My yX11_read cX11_read 2 (some FieldType.int) 1 := ⟨co_X11_read, in_RX11, ⟨by decide, by decide⟩, by decide +kernel⟩
theorem im_X11_read : Cond.instanceMethod yX11_read ∈ nk_T := nk_in (i := 465) (by decide +kernel) rfl
theorem se_RX11_X11_read : Cond.selects RX11 yX11_read yX11_read ∈ nk_T := nk_in (i := 466) (by decide +kernel) rfl
theorem ml_RL_29 : Cond.methodLink RL 29 yX11_draft ∈ nk_T := nk_in (i := 489) (by decide +kernel) rfl
theorem co_X11_draft : Cond.code yX11_draft cX11_draft 6 (none : Option FieldType) ∈ nk_T := nk_in (i := 492) (by decide +kernel) rfl
theorem my_X11_draft : nk_My yX11_draft cX11_draft 6 (none : Option FieldType) 5 := ⟨co_X11_draft, in_RX11, ⟨by decide, by decide⟩, by decide +kernel⟩
theorem im_X11_draft : Cond.instanceMethod yX11_draft ∈ nk_T := nk_in (i := 490) (by decide +kernel) rfl
theorem se_RX11_X11_draft : Cond.selects RX11 yX11_draft yX11_draft ∈ nk_T := nk_in (i := 491) (by decide +kernel) rfl
theorem ml_RL_33 : Cond.methodLink RL 33 yX11_grant ∈ nk_T := nk_in (i := 496) (by decide +kernel) rfl
theorem co_X11_grant : Cond.code yX11_grant cX11_grant 4 (some FieldType.int) ∈ nk_T := nk_in (i := 499) (by decide +kernel) rfl
theorem my_X11_grant : nk_My yX11_grant cX11_grant 4 (some FieldType.int) 3 := ⟨co_X11_grant, in_RX11, ⟨by decide, by decide⟩, by decide +kernel⟩
theorem im_X11_grant : Cond.instanceMethod yX11_grant ∈ nk_T := nk_in (i := 497) (by decide +kernel) rfl
theorem se_RX11_X11_grant : Cond.selects RX11 yX11_grant yX11_grant ∈ nk_T := nk_in (i := 498) (by decide +kernel) rfl
theorem ml_RL_37 : Cond.methodLink RL 37 yX11_passOn ∈ nk_T := nk_in (i := 671) (by decide +kernel) rfl
theorem co_X11_passOn : Cond.code yX11_passOn cX11_passOn 5 (some FieldType.int) ∈ nk_T := nk_in (i := 674) (by decide +kernel) rfl
theorem my_X11_passOn : nk_My yX11_passOn cX11_passOn 5 (some FieldType.int) 3 := ⟨co_X11_passOn, in_RX11, ⟨by decide, by decide⟩, by decide +kernel⟩
theorem im_X11_passOn : Cond.instanceMethod yX11_passOn ∈ nk_T := nk_in (i := 672) (by decide +kernel) rfl
theorem se_RX11_X11_passOn : Cond.selects RX11 yX11_passOn yX11_passOn ∈ nk_T := nk_in (i := 673) (by decide +kernel) rfl
theorem ml_RL_40 : Cond.methodLink RL 40 yX11_revoke ∈ nk_T := nk_in (i := 728) (by decide +kernel) rfl
theorem co_X11_revoke : Cond.code yX11_revoke cX11_revoke 5 (some FieldType.int) ∈ nk_T := nk_in (i := 731) (by decide +kernel) rfl
theorem my_X11_revoke : nk_My yX11_revoke cX11_revoke 5 (some FieldType.int) 3 := ⟨co_X11_revoke, in_RX11, ⟨by decide, by decide⟩, by decide +kernel⟩
theorem im_X11_revoke : Cond.instanceMethod yX11_revoke ∈ nk_T := nk_in (i := 729) (by decide +kernel) rfl
theorem se_RX11_X11_revoke : Cond.selects RX11 yX11_revoke yX11_revoke ∈ nk_T := nk_in (i := 730) (by decide +kernel) rfl
theorem ml_RL_43 : Cond.methodLink RL 43 yX11_depute ∈ nk_T := nk_in (i := 757) (by decide +kernel) rfl
theorem co_X11_depute : Cond.code yX11_depute cX11_depute 6 (some FieldType.int) ∈ nk_T := nk_in (i := 760) (by decide +kernel) rfl
theorem my_X11_depute : nk_My yX11_depute cX11_depute 6 (some FieldType.int) 3 := ⟨co_X11_depute, in_RX11, ⟨by decide, by decide⟩, by decide +kernel⟩
theorem im_X11_depute : Cond.instanceMethod yX11_depute ∈ nk_T := nk_in (i := 758) (by decide +kernel) rfl
theorem se_RX11_X11_depute : Cond.selects RX11 yX11_depute yX11_depute ∈ nk_T := nk_in (i := 759) (by decide +kernel) rfl
theorem ml_RL_46 : Cond.methodLink RL 46 yX11_prepare ∈ nk_T := nk_in (i := 805) (by decide +kernel) rfl
theorem co_X11_prepare : Cond.code yX11_prepare cX11_prepare 3 (none : Option FieldType) ∈ nk_T := nk_in (i := 808) (by decide +kernel) rfl
theorem my_X11_prepare : nk_My yX11_prepare cX11_prepare 3 (none : Option FieldType) 2 := ⟨co_X11_prepare, in_RX11, ⟨by decide, by decide⟩, by decide +kernel⟩
theorem im_X11_prepare : Cond.instanceMethod yX11_prepare ∈ nk_T := nk_in (i := 806) (by decide +kernel) rfl
theorem se_RX11_X11_prepare : Cond.selects RX11 yX11_prepare yX11_prepare ∈ nk_T := nk_in (i := 807) (by decide +kernel) rfl
theorem ml_RL_50 : Cond.methodLink RL 50 yX11_act ∈ nk_T := nk_in (i := 812) (by decide +kernel) rfl
theorem co_X11_act : Cond.code yX11_act cX11_act 8 (some FieldType.int) ∈ nk_T := nk_in (i := 815) (by decide +kernel) rfl
theorem my_X11_act : nk_My yX11_act cX11_act 8 (some FieldType.int) 4 := ⟨co_X11_act, in_RX11, ⟨by decide, by decide⟩, by decide +kernel⟩
theorem im_X11_act : Cond.instanceMethod yX11_act ∈ nk_T := nk_in (i := 813) (by decide +kernel) rfl
theorem se_RX11_X11_act : Cond.selects RX11 yX11_act yX11_act ∈ nk_T := nk_in (i := 814) (by decide +kernel) rfl
theorem ml_RL_54 : Cond.methodLink RL 54 yX11_tamper ∈ nk_T := nk_in (i := 977) (by decide +kernel) rfl
theorem co_X11_tamper : Cond.code yX11_tamper cX11_tamper 6 (some FieldType.int) ∈ nk_T := nk_in (i := 980) (by decide +kernel) rfl
theorem my_X11_tamper : nk_My yX11_tamper cX11_tamper 6 (some FieldType.int) 3 := ⟨co_X11_tamper, in_RX11, ⟨by decide, by decide⟩, by decide +kernel⟩
theorem im_X11_tamper : Cond.instanceMethod yX11_tamper ∈ nk_T := nk_in (i := 978) (by decide +kernel) rfl
theorem se_RX11_X11_tamper : Cond.selects RX11 yX11_tamper yX11_tamper ∈ nk_T := nk_in (i := 979) (by decide +kernel) rfl
theorem ml_RL_57 : Cond.methodLink RL 57 yX11_copy ∈ nk_T := nk_in (i := 997) (by decide +kernel) rfl
theorem co_X11_copy : Cond.code yX11_copy cX11_copy 6 (some FieldType.int) ∈ nk_T := nk_in (i := 1000) (by decide +kernel) rfl
theorem my_X11_copy : nk_My yX11_copy cX11_copy 6 (some FieldType.int) 4 := ⟨co_X11_copy, in_RX11, ⟨by decide, by decide⟩, by decide +kernel⟩
theorem im_X11_copy : Cond.instanceMethod yX11_copy ∈ nk_T := nk_in (i := 998) (by decide +kernel) rfl
theorem se_RX11_X11_copy : Cond.selects RX11 yX11_copy yX11_copy ∈ nk_T := nk_in (i := 999) (by decide +kernel) rfl
theorem ml_RL_60 : Cond.methodLink RL 60 yX11_forge ∈ nk_T := nk_in (i := 1051) (by decide +kernel) rfl
theorem co_X11_forge : Cond.code yX11_forge cX11_forge 7 (some FieldType.int) ∈ nk_T := nk_in (i := 1054) (by decide +kernel) rfl
theorem my_X11_forge : nk_My yX11_forge cX11_forge 7 (some FieldType.int) 4 := ⟨co_X11_forge, in_RX11, ⟨by decide, by decide⟩, by decide +kernel⟩
theorem im_X11_forge : Cond.instanceMethod yX11_forge ∈ nk_T := nk_in (i := 1052) (by decide +kernel) rfl
theorem se_RX11_X11_forge : Cond.selects RX11 yX11_forge yX11_forge ∈ nk_T := nk_in (i := 1053) (by decide +kernel) rfl
theorem ml_RL_63 : Cond.methodLink RL 63 yX11_records ∈ nk_T := nk_in (i := 1074) (by decide +kernel) rfl
theorem co_X11_records : Cond.code yX11_records cX11_records 2 (some FieldType.int) ∈ nk_T := nk_in (i := 1077) (by decide +kernel) rfl
theorem my_X11_records : nk_My yX11_records cX11_records 2 (some FieldType.int) 1 := ⟨co_X11_records, in_RX11, ⟨by decide, by decide⟩, by decide +kernel⟩
theorem im_X11_records : Cond.instanceMethod yX11_records ∈ nk_T := nk_in (i := 1075) (by decide +kernel) rfl
theorem se_RX11_X11_records : Cond.selects RX11 yX11_records yX11_records ∈ nk_T := nk_in (i := 1076) (by decide +kernel) rfl
theorem ml_RL_66 : Cond.methodLink RL 66 yX11_areJoined ∈ nk_T := nk_in (i := 1081) (by decide +kernel) rfl
theorem co_X11_areJoined : Cond.code yX11_areJoined cX11_areJoined 3 (some FieldType.boolean) ∈ nk_T := nk_in (i := 1084) (by decide +kernel) rfl
theorem my_X11_areJoined : nk_My yX11_areJoined cX11_areJoined 3 (some FieldType.boolean) 2 := ⟨co_X11_areJoined, in_RX11, ⟨by decide, by decide⟩, by decide +kernel⟩
theorem im_X11_areJoined : Cond.instanceMethod yX11_areJoined ∈ nk_T := nk_in (i := 1082) (by decide +kernel) rfl
theorem se_RX11_X11_areJoined : Cond.selects RX11 yX11_areJoined yX11_areJoined ∈ nk_T := nk_in (i := 1083) (by decide +kernel) rfl
theorem ml_RL_70 : Cond.methodLink RL 70 yX11_came ∈ nk_T := nk_in (i := 1088) (by decide +kernel) rfl
theorem co_X11_came : Cond.code yX11_came cX11_came 3 (some FieldType.int) ∈ nk_T := nk_in (i := 1091) (by decide +kernel) rfl
theorem my_X11_came : nk_My yX11_came cX11_came 3 (some FieldType.int) 2 := ⟨co_X11_came, in_RX11, ⟨by decide, by decide⟩, by decide +kernel⟩
theorem im_X11_came : Cond.instanceMethod yX11_came ∈ nk_T := nk_in (i := 1089) (by decide +kernel) rfl
theorem se_RX11_X11_came : Cond.selects RX11 yX11_came yX11_came ∈ nk_T := nk_in (i := 1090) (by decide +kernel) rfl
theorem ml_RL_73 : Cond.methodLink RL 73 yX11_cameByLinks ∈ nk_T := nk_in (i := 1104) (by decide +kernel) rfl
theorem co_X11_cameByLinks : Cond.code yX11_cameByLinks cX11_cameByLinks 6 (some FieldType.int) ∈ nk_T := nk_in (i := 1107) (by decide +kernel) rfl
theorem my_X11_cameByLinks : nk_My yX11_cameByLinks cX11_cameByLinks 6 (some FieldType.int) 2 := ⟨co_X11_cameByLinks, in_RX11, ⟨by decide, by decide⟩, by decide +kernel⟩
theorem im_X11_cameByLinks : Cond.instanceMethod yX11_cameByLinks ∈ nk_T := nk_in (i := 1105) (by decide +kernel) rfl
theorem se_RX11_X11_cameByLinks : Cond.selects RX11 yX11_cameByLinks yX11_cameByLinks ∈ nk_T := nk_in (i := 1106) (by decide +kernel) rfl
theorem ml_RL_76 : Cond.methodLink RL 76 yX11_isRead ∈ nk_T := nk_in (i := 1112) (by decide +kernel) rfl
theorem co_X11_isRead : Cond.code yX11_isRead cX11_isRead 3 (some FieldType.boolean) ∈ nk_T := nk_in (i := 1115) (by decide +kernel) rfl
theorem my_X11_isRead : nk_My yX11_isRead cX11_isRead 3 (some FieldType.boolean) 2 := ⟨co_X11_isRead, in_RX11, ⟨by decide, by decide⟩, by decide +kernel⟩
theorem im_X11_isRead : Cond.instanceMethod yX11_isRead ∈ nk_T := nk_in (i := 1113) (by decide +kernel) rfl
theorem se_RX11_X11_isRead : Cond.selects RX11 yX11_isRead yX11_isRead ∈ nk_T := nk_in (i := 1114) (by decide +kernel) rfl
theorem ml_RL_79 : Cond.methodLink RL 79 yX11_mail ∈ nk_T := nk_in (i := 1119) (by decide +kernel) rfl
theorem co_X11_mail : Cond.code yX11_mail cX11_mail 2 (some FieldType.int) ∈ nk_T := nk_in (i := 1122) (by decide +kernel) rfl
theorem my_X11_mail : nk_My yX11_mail cX11_mail 2 (some FieldType.int) 1 := ⟨co_X11_mail, in_RX11, ⟨by decide, by decide⟩, by decide +kernel⟩
theorem im_X11_mail : Cond.instanceMethod yX11_mail ∈ nk_T := nk_in (i := 1120) (by decide +kernel) rfl
theorem se_RX11_X11_mail : Cond.selects RX11 yX11_mail yX11_mail ∈ nk_T := nk_in (i := 1121) (by decide +kernel) rfl
theorem ml_RL_82 : Cond.methodLink RL 82 yX11_source ∈ nk_T := nk_in (i := 1127) (by decide +kernel) rfl
theorem co_X11_source : Cond.code yX11_source cX11_source 3 (some FieldType.int) ∈ nk_T := nk_in (i := 1130) (by decide +kernel) rfl
theorem my_X11_source : nk_My yX11_source cX11_source 3 (some FieldType.int) 1 := ⟨co_X11_source, in_RX11, ⟨by decide, by decide⟩, by decide +kernel⟩
theorem im_X11_source : Cond.instanceMethod yX11_source ∈ nk_T := nk_in (i := 1128) (by decide +kernel) rfl
theorem se_RX11_X11_source : Cond.selects RX11 yX11_source yX11_source ∈ nk_T := nk_in (i := 1129) (by decide +kernel) rfl
theorem ml_RL_85 : Cond.methodLink RL 85 yX11_holder ∈ nk_T := nk_in (i := 1134) (by decide +kernel) rfl
theorem co_X11_holder : Cond.code yX11_holder cX11_holder 2 (some FieldType.int) ∈ nk_T := nk_in (i := 1137) (by decide +kernel) rfl
theorem my_X11_holder : nk_My yX11_holder cX11_holder 2 (some FieldType.int) 1 := ⟨co_X11_holder, in_RX11, ⟨by decide, by decide⟩, by decide +kernel⟩
theorem im_X11_holder : Cond.instanceMethod yX11_holder ∈ nk_T := nk_in (i := 1135) (by decide +kernel) rfl
theorem se_RX11_X11_holder : Cond.selects RX11 yX11_holder yX11_holder ∈ nk_T := nk_in (i := 1136) (by decide +kernel) rfl
theorem ml_RL_88 : Cond.methodLink RL 88 yX11_isGood ∈ nk_T := nk_in (i := 1141) (by decide +kernel) rfl
theorem co_X11_isGood : Cond.code yX11_isGood cX11_isGood 3 (some FieldType.boolean) ∈ nk_T := nk_in (i := 1144) (by decide +kernel) rfl
theorem my_X11_isGood : nk_My yX11_isGood cX11_isGood 3 (some FieldType.boolean) 2 := ⟨co_X11_isGood, in_RX11, ⟨by decide, by decide⟩, by decide +kernel⟩
theorem im_X11_isGood : Cond.instanceMethod yX11_isGood ∈ nk_T := nk_in (i := 1142) (by decide +kernel) rfl
theorem se_RX11_X11_isGood : Cond.selects RX11 yX11_isGood yX11_isGood ∈ nk_T := nk_in (i := 1143) (by decide +kernel) rfl
theorem ml_RL_91 : Cond.methodLink RL 91 yX11_done ∈ nk_T := nk_in (i := 1148) (by decide +kernel) rfl
theorem co_X11_done : Cond.code yX11_done cX11_done 3 (some FieldType.int) ∈ nk_T := nk_in (i := 1151) (by decide +kernel) rfl
theorem my_X11_done : nk_My yX11_done cX11_done 3 (some FieldType.int) 2 := ⟨co_X11_done, in_RX11, ⟨by decide, by decide⟩, by decide +kernel⟩
theorem im_X11_done : Cond.instanceMethod yX11_done ∈ nk_T := nk_in (i := 1149) (by decide +kernel) rfl
theorem se_RX11_X11_done : Cond.selects RX11 yX11_done yX11_done ∈ nk_T := nk_in (i := 1150) (by decide +kernel) rfl
theorem ml_RL_94 : Cond.methodLink RL 94 yX11_beyond ∈ nk_T := nk_in (i := 1156) (by decide +kernel) rfl
theorem co_X11_beyond : Cond.code yX11_beyond cX11_beyond 3 (some FieldType.int) ∈ nk_T := nk_in (i := 1159) (by decide +kernel) rfl
theorem my_X11_beyond : nk_My yX11_beyond cX11_beyond 3 (some FieldType.int) 1 := ⟨co_X11_beyond, in_RX11, ⟨by decide, by decide⟩, by decide +kernel⟩
theorem im_X11_beyond : Cond.instanceMethod yX11_beyond ∈ nk_T := nk_in (i := 1157) (by decide +kernel) rfl
theorem se_RX11_X11_beyond : Cond.selects RX11 yX11_beyond yX11_beyond ∈ nk_T := nk_in (i := 1158) (by decide +kernel) rfl
theorem ml_RL_97 : Cond.methodLink RL 97 yX11_against ∈ nk_T := nk_in (i := 1164) (by decide +kernel) rfl
theorem co_X11_against : Cond.code yX11_against cX11_against 5 (some FieldType.int) ∈ nk_T := nk_in (i := 1167) (by decide +kernel) rfl
theorem my_X11_against : nk_My yX11_against cX11_against 5 (some FieldType.int) 4 := ⟨co_X11_against, in_RX11, ⟨by decide, by decide⟩, by decide +kernel⟩
theorem im_X11_against : Cond.instanceMethod yX11_against ∈ nk_T := nk_in (i := 1165) (by decide +kernel) rfl
theorem se_RX11_X11_against : Cond.selects RX11 yX11_against yX11_against ∈ nk_T := nk_in (i := 1166) (by decide +kernel) rfl
theorem ml_RL_100 : Cond.methodLink RL 100 yX11_choices ∈ nk_T := nk_in (i := 1171) (by decide +kernel) rfl
theorem co_X11_choices : Cond.code yX11_choices cX11_choices 7 (some FieldType.int) ∈ nk_T := nk_in (i := 1174) (by decide +kernel) rfl
theorem my_X11_choices : nk_My yX11_choices cX11_choices 7 (some FieldType.int) 3 := ⟨co_X11_choices, in_RX11, ⟨by decide, by decide⟩, by decide +kernel⟩
theorem im_X11_choices : Cond.instanceMethod yX11_choices ∈ nk_T := nk_in (i := 1172) (by decide +kernel) rfl
theorem se_RX11_X11_choices : Cond.selects RX11 yX11_choices yX11_choices ∈ nk_T := nk_in (i := 1173) (by decide +kernel) rfl
theorem ml_RL_103 : Cond.methodLink RL 103 yX11_stands ∈ nk_T := nk_in (i := 1178) (by decide +kernel) rfl
theorem co_X11_stands : Cond.code yX11_stands cX11_stands 3 (some FieldType.boolean) ∈ nk_T := nk_in (i := 1181) (by decide +kernel) rfl
theorem my_X11_stands : nk_My yX11_stands cX11_stands 3 (some FieldType.boolean) 2 := ⟨co_X11_stands, in_RX11, ⟨by decide, by decide⟩, by decide +kernel⟩
theorem im_X11_stands : Cond.instanceMethod yX11_stands ∈ nk_T := nk_in (i := 1179) (by decide +kernel) rfl
theorem se_RX11_X11_stands : Cond.selects RX11 yX11_stands yX11_stands ∈ nk_T := nk_in (i := 1180) (by decide +kernel) rfl
theorem ml_RL_106 : Cond.methodLink RL 106 yX11_fault ∈ nk_T := nk_in (i := 1185) (by decide +kernel) rfl
theorem co_X11_fault : Cond.code yX11_fault cX11_fault 3 (some FieldType.int) ∈ nk_T := nk_in (i := 1188) (by decide +kernel) rfl
theorem my_X11_fault : nk_My yX11_fault cX11_fault 3 (some FieldType.int) 2 := ⟨co_X11_fault, in_RX11, ⟨by decide, by decide⟩, by decide +kernel⟩
theorem im_X11_fault : Cond.instanceMethod yX11_fault ∈ nk_T := nk_in (i := 1186) (by decide +kernel) rfl
theorem se_RX11_X11_fault : Cond.selects RX11 yX11_fault yX11_fault ∈ nk_T := nk_in (i := 1187) (by decide +kernel) rfl
theorem ml_RL_109 : Cond.methodLink RL 109 yX11_pieceOf ∈ nk_T := nk_in (i := 1192) (by decide +kernel) rfl
theorem co_X11_pieceOf : Cond.code yX11_pieceOf cX11_pieceOf 3 (some FieldType.int) ∈ nk_T := nk_in (i := 1195) (by decide +kernel) rfl
theorem my_X11_pieceOf : nk_My yX11_pieceOf cX11_pieceOf 3 (some FieldType.int) 2 := ⟨co_X11_pieceOf, in_RX11, ⟨by decide, by decide⟩, by decide +kernel⟩
theorem im_X11_pieceOf : Cond.instanceMethod yX11_pieceOf ∈ nk_T := nk_in (i := 1193) (by decide +kernel) rfl
theorem se_RX11_X11_pieceOf : Cond.selects RX11 yX11_pieceOf yX11_pieceOf ∈ nk_T := nk_in (i := 1194) (by decide +kernel) rfl
theorem ml_RL_112 : Cond.methodLink RL 112 yX11_part ∈ nk_T := nk_in (i := 1199) (by decide +kernel) rfl
theorem co_X11_part : Cond.code yX11_part cX11_part 4 (some FieldType.int) ∈ nk_T := nk_in (i := 1202) (by decide +kernel) rfl
theorem my_X11_part : nk_My yX11_part cX11_part 4 (some FieldType.int) 3 := ⟨co_X11_part, in_RX11, ⟨by decide, by decide⟩, by decide +kernel⟩
theorem im_X11_part : Cond.instanceMethod yX11_part ∈ nk_T := nk_in (i := 1200) (by decide +kernel) rfl
theorem se_RX11_X11_part : Cond.selects RX11 yX11_part yX11_part ∈ nk_T := nk_in (i := 1201) (by decide +kernel) rfl
theorem ml_RL_115 : Cond.methodLink RL 115 yX11_seal ∈ nk_T := nk_in (i := 1206) (by decide +kernel) rfl
theorem co_X11_seal : Cond.code yX11_seal cX11_seal 3 (some FieldType.int) ∈ nk_T := nk_in (i := 1209) (by decide +kernel) rfl
theorem my_X11_seal : nk_My yX11_seal cX11_seal 3 (some FieldType.int) 2 := ⟨co_X11_seal, in_RX11, ⟨by decide, by decide⟩, by decide +kernel⟩
theorem im_X11_seal : Cond.instanceMethod yX11_seal ∈ nk_T := nk_in (i := 1207) (by decide +kernel) rfl
theorem se_RX11_X11_seal : Cond.selects RX11 yX11_seal yX11_seal ∈ nk_T := nk_in (i := 1208) (by decide +kernel) rfl
theorem ml_RL_118 : Cond.methodLink RL 118 yX11_broken ∈ nk_T := nk_in (i := 1213) (by decide +kernel) rfl
theorem co_X11_broken : Cond.code yX11_broken cX11_broken 2 (some FieldType.int) ∈ nk_T := nk_in (i := 1216) (by decide +kernel) rfl
theorem my_X11_broken : nk_My yX11_broken cX11_broken 2 (some FieldType.int) 1 := ⟨co_X11_broken, in_RX11, ⟨by decide, by decide⟩, by decide +kernel⟩
theorem im_X11_broken : Cond.instanceMethod yX11_broken ∈ nk_T := nk_in (i := 1214) (by decide +kernel) rfl
theorem se_RX11_X11_broken : Cond.selects RX11 yX11_broken yX11_broken ∈ nk_T := nk_in (i := 1215) (by decide +kernel) rfl
theorem ml_RL_121 : Cond.methodLink RL 121 yX11_size ∈ nk_T := nk_in (i := 1224) (by decide +kernel) rfl
theorem co_X11_size : Cond.code yX11_size cX11_size 2 (some FieldType.int) ∈ nk_T := nk_in (i := 1227) (by decide +kernel) rfl
theorem my_X11_size : nk_My yX11_size cX11_size 2 (some FieldType.int) 1 := ⟨co_X11_size, in_RX11, ⟨by decide, by decide⟩, by decide +kernel⟩
theorem im_X11_size : Cond.instanceMethod yX11_size ∈ nk_T := nk_in (i := 1225) (by decide +kernel) rfl
theorem se_RX11_X11_size : Cond.selects RX11 yX11_size yX11_size ∈ nk_T := nk_in (i := 1226) (by decide +kernel) rfl
theorem ml_RL_124 : Cond.methodLink RL 124 yX11_copied ∈ nk_T := nk_in (i := 1231) (by decide +kernel) rfl
theorem co_X11_copied : Cond.code yX11_copied cX11_copied 5 (some FieldType.int) ∈ nk_T := nk_in (i := 1234) (by decide +kernel) rfl
theorem my_X11_copied : nk_My yX11_copied cX11_copied 5 (some FieldType.int) 3 := ⟨co_X11_copied, in_RX11, ⟨by decide, by decide⟩, by decide +kernel⟩
theorem im_X11_copied : Cond.instanceMethod yX11_copied ∈ nk_T := nk_in (i := 1232) (by decide +kernel) rfl
theorem se_RX11_X11_copied : Cond.selects RX11 yX11_copied yX11_copied ∈ nk_T := nk_in (i := 1233) (by decide +kernel) rfl
theorem ml_RL_127 : Cond.methodLink RL 127 yX11_brokenCopy ∈ nk_T := nk_in (i := 1238) (by decide +kernel) rfl
theorem co_X11_brokenCopy : Cond.code yX11_brokenCopy cX11_brokenCopy 2 (some FieldType.int) ∈ nk_T := nk_in (i := 1241) (by decide +kernel) rfl
theorem my_X11_brokenCopy : nk_My yX11_brokenCopy cX11_brokenCopy 2 (some FieldType.int) 1 := ⟨co_X11_brokenCopy, in_RX11, ⟨by decide, by decide⟩, by decide +kernel⟩
theorem im_X11_brokenCopy : Cond.instanceMethod yX11_brokenCopy ∈ nk_T := nk_in (i := 1239) (by decide +kernel) rfl
theorem se_RX11_X11_brokenCopy : Cond.selects RX11 yX11_brokenCopy yX11_brokenCopy ∈ nk_T := nk_in (i := 1240) (by decide +kernel) rfl
theorem ml_RL_130 : Cond.methodLink RL 130 yX11_isTrue ∈ nk_T := nk_in (i := 1250) (by decide +kernel) rfl
theorem co_X11_isTrue : Cond.code yX11_isTrue cX11_isTrue 3 (some FieldType.boolean) ∈ nk_T := nk_in (i := 1253) (by decide +kernel) rfl
theorem my_X11_isTrue : nk_My yX11_isTrue cX11_isTrue 3 (some FieldType.boolean) 1 := ⟨co_X11_isTrue, in_RX11, ⟨by decide, by decide⟩, by decide +kernel⟩
theorem im_X11_isTrue : Cond.instanceMethod yX11_isTrue ∈ nk_T := nk_in (i := 1251) (by decide +kernel) rfl
theorem se_RX11_X11_isTrue : Cond.selects RX11 yX11_isTrue yX11_isTrue ∈ nk_T := nk_in (i := 1252) (by decide +kernel) rfl
theorem co_L_join : Cond.codeWith yL_join cL_join 5 (some FieldType.int) [(0, 10, 13, 13), (0, 10, 17, 15), (0, 10, 21, 17)] ∈ nk_T := nk_in (i := 274) (by decide +kernel) rfl
theorem in_RL : Cond.initialized RL ∈ nk_T := nk_in (i := 61) (by decide +kernel) rfl
theorem my_L_join : nk_MyW yL_join cL_join 5 (some FieldType.int) [(0, 10, 13, 13), (0, 10, 17, 15), (0, 10, 21, 17)] 4 := ⟨co_L_join, in_RL, ⟨by decide, by decide⟩, by decide +kernel⟩
theorem st_L_join : Cond.static yL_join ∈ nk_T := nk_in (i := 273) (by decide +kernel) rfl
theorem ml_RL_138 : Cond.methodLink RL 138 yL_join ∈ nk_T := nk_in (i := 272) (by decide +kernel) rfl
theorem ml_RL_144 : Cond.methodLink RL 144 yX12_thrown ∈ nk_T := nk_in (i := 1405) (by decide +kernel) rfl
theorem co_X12_thrown : Cond.code yX12_thrown cX12_thrown 1 (some FieldType.int) ∈ nk_T := nk_in (i := 1408) (by decide +kernel) rfl
theorem my_X12_thrown : nk_My yX12_thrown cX12_thrown 1 (some FieldType.int) 0 := ⟨co_X12_thrown, in_RX12, ⟨by decide, by decide⟩, by decide +kernel⟩
theorem im_X12_thrown : Cond.instanceMethod yX12_thrown ∈ nk_T := nk_in (i := 1406) (by decide +kernel) rfl
theorem se_RX12_X12_thrown : Cond.selects RX12 yX12_thrown yX12_thrown ∈ nk_T := nk_in (i := 1407) (by decide +kernel) rfl
theorem ml_RL_143 : Cond.methodLink RL 143 yX12_join ∈ nk_T := nk_in (i := 1409) (by decide +kernel) rfl
theorem co_X12_join : Cond.code yX12_join cX12_join 3 (some FieldType.int) ∈ nk_T := nk_in (i := 1412) (by decide +kernel) rfl
theorem my_X12_join : nk_My yX12_join cX12_join 3 (some FieldType.int) 2 := ⟨co_X12_join, in_RX12, ⟨by decide, by decide⟩, by decide +kernel⟩
theorem im_X12_join : Cond.instanceMethod yX12_join ∈ nk_T := nk_in (i := 1410) (by decide +kernel) rfl
theorem se_RX12_X12_join : Cond.selects RX12 yX12_join yX12_join ∈ nk_T := nk_in (i := 1411) (by decide +kernel) rfl
theorem co_L_cut : Cond.codeWith yL_cut cL_cut 5 (some FieldType.int) [(0, 10, 13, 13), (0, 10, 17, 15), (0, 10, 21, 17)] ∈ nk_T := nk_in (i := 415) (by decide +kernel) rfl
theorem my_L_cut : nk_MyW yL_cut cL_cut 5 (some FieldType.int) [(0, 10, 13, 13), (0, 10, 17, 15), (0, 10, 21, 17)] 4 := ⟨co_L_cut, in_RL, ⟨by decide, by decide⟩, by decide +kernel⟩
theorem st_L_cut : Cond.static yL_cut ∈ nk_T := nk_in (i := 414) (by decide +kernel) rfl
theorem ml_RL_148 : Cond.methodLink RL 148 yL_cut ∈ nk_T := nk_in (i := 413) (by decide +kernel) rfl
theorem ml_RL_150 : Cond.methodLink RL 150 yX12_cut ∈ nk_T := nk_in (i := 1434) (by decide +kernel) rfl
theorem co_X12_cut : Cond.code yX12_cut cX12_cut 3 (some FieldType.int) ∈ nk_T := nk_in (i := 1437) (by decide +kernel) rfl
theorem my_X12_cut : nk_My yX12_cut cX12_cut 3 (some FieldType.int) 2 := ⟨co_X12_cut, in_RX12, ⟨by decide, by decide⟩, by decide +kernel⟩
theorem im_X12_cut : Cond.instanceMethod yX12_cut ∈ nk_T := nk_in (i := 1435) (by decide +kernel) rfl
theorem se_RX12_X12_cut : Cond.selects RX12 yX12_cut yX12_cut ∈ nk_T := nk_in (i := 1436) (by decide +kernel) rfl
theorem co_L_pass : Cond.codeWith yL_pass cL_pass 4 (some FieldType.int) [(0, 9, 12, 15), (0, 9, 15, 17)] ∈ nk_T := nk_in (i := 423) (by decide +kernel) rfl
theorem my_L_pass : nk_MyW yL_pass cL_pass 4 (some FieldType.int) [(0, 9, 12, 15), (0, 9, 15, 17)] 3 := ⟨co_L_pass, in_RL, ⟨by decide, by decide⟩, by decide +kernel⟩
theorem st_L_pass : Cond.static yL_pass ∈ nk_T := nk_in (i := 422) (by decide +kernel) rfl
theorem ml_RL_151 : Cond.methodLink RL 151 yL_pass ∈ nk_T := nk_in (i := 421) (by decide +kernel) rfl
theorem ml_RL_154 : Cond.methodLink RL 154 yX12_pass ∈ nk_T := nk_in (i := 1438) (by decide +kernel) rfl
theorem co_X12_pass : Cond.code yX12_pass cX12_pass 5 (some FieldType.int) ∈ nk_T := nk_in (i := 1441) (by decide +kernel) rfl
theorem my_X12_pass : nk_My yX12_pass cX12_pass 5 (some FieldType.int) 1 := ⟨co_X12_pass, in_RX12, ⟨by decide, by decide⟩, by decide +kernel⟩
theorem im_X12_pass : Cond.instanceMethod yX12_pass ∈ nk_T := nk_in (i := 1439) (by decide +kernel) rfl
theorem se_RX12_X12_pass : Cond.selects RX12 yX12_pass yX12_pass ∈ nk_T := nk_in (i := 1440) (by decide +kernel) rfl
theorem co_L_read : Cond.codeWith yL_read cL_read 4 (some FieldType.int) [(0, 9, 12, 13)] ∈ nk_T := nk_in (i := 463) (by decide +kernel) rfl
theorem my_L_read : nk_MyW yL_read cL_read 4 (some FieldType.int) [(0, 9, 12, 13)] 3 := ⟨co_L_read, in_RL, ⟨by decide, by decide⟩, by decide +kernel⟩
theorem st_L_read : Cond.static yL_read ∈ nk_T := nk_in (i := 462) (by decide +kernel) rfl
theorem ml_RL_155 : Cond.methodLink RL 155 yL_read ∈ nk_T := nk_in (i := 461) (by decide +kernel) rfl
theorem ml_RL_157 : Cond.methodLink RL 157 yX12_read ∈ nk_T := nk_in (i := 1446) (by decide +kernel) rfl
theorem co_X12_read : Cond.code yX12_read cX12_read 4 (some FieldType.int) ∈ nk_T := nk_in (i := 1449) (by decide +kernel) rfl
theorem my_X12_read : nk_My yX12_read cX12_read 4 (some FieldType.int) 1 := ⟨co_X12_read, in_RX12, ⟨by decide, by decide⟩, by decide +kernel⟩
theorem im_X12_read : Cond.instanceMethod yX12_read ∈ nk_T := nk_in (i := 1447) (by decide +kernel) rfl
theorem se_RX12_X12_read : Cond.selects RX12 yX12_read yX12_read ∈ nk_T := nk_in (i := 1448) (by decide +kernel) rfl
theorem co_L_draft : Cond.codeWith yL_draft cL_draft 7 (some FieldType.int) [(0, 11, 14, 15)] ∈ nk_T := nk_in (i := 488) (by decide +kernel) rfl
theorem my_L_draft : nk_MyW yL_draft cL_draft 7 (some FieldType.int) [(0, 11, 14, 15)] 6 := ⟨co_L_draft, in_RL, ⟨by decide, by decide⟩, by decide +kernel⟩
theorem st_L_draft : Cond.static yL_draft ∈ nk_T := nk_in (i := 487) (by decide +kernel) rfl
theorem ml_RL_158 : Cond.methodLink RL 158 yL_draft ∈ nk_T := nk_in (i := 486) (by decide +kernel) rfl
theorem ml_RL_161 : Cond.methodLink RL 161 yX12_draft ∈ nk_T := nk_in (i := 1454) (by decide +kernel) rfl
theorem co_X12_draft : Cond.code yX12_draft cX12_draft 7 (none : Option FieldType) ∈ nk_T := nk_in (i := 1457) (by decide +kernel) rfl
theorem my_X12_draft : nk_My yX12_draft cX12_draft 7 (none : Option FieldType) 5 := ⟨co_X12_draft, in_RX12, ⟨by decide, by decide⟩, by decide +kernel⟩
theorem im_X12_draft : Cond.instanceMethod yX12_draft ∈ nk_T := nk_in (i := 1455) (by decide +kernel) rfl
theorem se_RX12_X12_draft : Cond.selects RX12 yX12_draft yX12_draft ∈ nk_T := nk_in (i := 1456) (by decide +kernel) rfl
theorem co_L_grant : Cond.codeWith yL_grant cL_grant 6 (some FieldType.int) [(0, 12, 15, 13), (0, 12, 19, 15), (0, 12, 23, 17)] ∈ nk_T := nk_in (i := 495) (by decide +kernel) rfl
theorem my_L_grant : nk_MyW yL_grant cL_grant 6 (some FieldType.int) [(0, 12, 15, 13), (0, 12, 19, 15), (0, 12, 23, 17)] 5 := ⟨co_L_grant, in_RL, ⟨by decide, by decide⟩, by decide +kernel⟩
theorem st_L_grant : Cond.static yL_grant ∈ nk_T := nk_in (i := 494) (by decide +kernel) rfl
theorem ml_RL_162 : Cond.methodLink RL 162 yL_grant ∈ nk_T := nk_in (i := 493) (by decide +kernel) rfl
theorem ml_RL_165 : Cond.methodLink RL 165 yX12_grant ∈ nk_T := nk_in (i := 1458) (by decide +kernel) rfl
theorem co_X12_grant : Cond.code yX12_grant cX12_grant 5 (some FieldType.int) ∈ nk_T := nk_in (i := 1461) (by decide +kernel) rfl
theorem my_X12_grant : nk_My yX12_grant cX12_grant 5 (some FieldType.int) 3 := ⟨co_X12_grant, in_RX12, ⟨by decide, by decide⟩, by decide +kernel⟩
theorem im_X12_grant : Cond.instanceMethod yX12_grant ∈ nk_T := nk_in (i := 1459) (by decide +kernel) rfl
theorem se_RX12_X12_grant : Cond.selects RX12 yX12_grant yX12_grant ∈ nk_T := nk_in (i := 1460) (by decide +kernel) rfl
theorem co_L_passOn : Cond.codeWith yL_passOn cL_passOn 6 (some FieldType.int) [(0, 12, 15, 13), (0, 12, 19, 15), (0, 12, 23, 17)] ∈ nk_T := nk_in (i := 670) (by decide +kernel) rfl
theorem my_L_passOn : nk_MyW yL_passOn cL_passOn 6 (some FieldType.int) [(0, 12, 15, 13), (0, 12, 19, 15), (0, 12, 23, 17)] 5 := ⟨co_L_passOn, in_RL, ⟨by decide, by decide⟩, by decide +kernel⟩
theorem st_L_passOn : Cond.static yL_passOn ∈ nk_T := nk_in (i := 669) (by decide +kernel) rfl
theorem ml_RL_166 : Cond.methodLink RL 166 yL_passOn ∈ nk_T := nk_in (i := 668) (by decide +kernel) rfl
theorem ml_RL_168 : Cond.methodLink RL 168 yX12_passOn ∈ nk_T := nk_in (i := 1477) (by decide +kernel) rfl
theorem co_X12_passOn : Cond.code yX12_passOn cX12_passOn 4 (some FieldType.int) ∈ nk_T := nk_in (i := 1480) (by decide +kernel) rfl
theorem my_X12_passOn : nk_My yX12_passOn cX12_passOn 4 (some FieldType.int) 3 := ⟨co_X12_passOn, in_RX12, ⟨by decide, by decide⟩, by decide +kernel⟩
theorem im_X12_passOn : Cond.instanceMethod yX12_passOn ∈ nk_T := nk_in (i := 1478) (by decide +kernel) rfl
theorem se_RX12_X12_passOn : Cond.selects RX12 yX12_passOn yX12_passOn ∈ nk_T := nk_in (i := 1479) (by decide +kernel) rfl
theorem co_L_revoke : Cond.codeWith yL_revoke cL_revoke 6 (some FieldType.int) [(0, 12, 15, 13), (0, 12, 19, 15), (0, 12, 23, 17)] ∈ nk_T := nk_in (i := 727) (by decide +kernel) rfl
theorem my_L_revoke : nk_MyW yL_revoke cL_revoke 6 (some FieldType.int) [(0, 12, 15, 13), (0, 12, 19, 15), (0, 12, 23, 17)] 5 := ⟨co_L_revoke, in_RL, ⟨by decide, by decide⟩, by decide +kernel⟩
theorem st_L_revoke : Cond.static yL_revoke ∈ nk_T := nk_in (i := 726) (by decide +kernel) rfl
theorem ml_RL_169 : Cond.methodLink RL 169 yL_revoke ∈ nk_T := nk_in (i := 725) (by decide +kernel) rfl
theorem ml_RL_171 : Cond.methodLink RL 171 yX12_revoke ∈ nk_T := nk_in (i := 1517) (by decide +kernel) rfl
theorem co_X12_revoke : Cond.code yX12_revoke cX12_revoke 4 (some FieldType.int) ∈ nk_T := nk_in (i := 1520) (by decide +kernel) rfl
theorem my_X12_revoke : nk_My yX12_revoke cX12_revoke 4 (some FieldType.int) 3 := ⟨co_X12_revoke, in_RX12, ⟨by decide, by decide⟩, by decide +kernel⟩
theorem im_X12_revoke : Cond.instanceMethod yX12_revoke ∈ nk_T := nk_in (i := 1518) (by decide +kernel) rfl
theorem se_RX12_X12_revoke : Cond.selects RX12 yX12_revoke yX12_revoke ∈ nk_T := nk_in (i := 1519) (by decide +kernel) rfl
theorem co_L_depute : Cond.codeWith yL_depute cL_depute 6 (some FieldType.int) [(0, 12, 15, 13), (0, 12, 19, 15), (0, 12, 23, 17)] ∈ nk_T := nk_in (i := 756) (by decide +kernel) rfl
theorem my_L_depute : nk_MyW yL_depute cL_depute 6 (some FieldType.int) [(0, 12, 15, 13), (0, 12, 19, 15), (0, 12, 23, 17)] 5 := ⟨co_L_depute, in_RL, ⟨by decide, by decide⟩, by decide +kernel⟩
theorem st_L_depute : Cond.static yL_depute ∈ nk_T := nk_in (i := 755) (by decide +kernel) rfl
theorem ml_RL_172 : Cond.methodLink RL 172 yL_depute ∈ nk_T := nk_in (i := 754) (by decide +kernel) rfl
theorem ml_RL_174 : Cond.methodLink RL 174 yX12_depute ∈ nk_T := nk_in (i := 1529) (by decide +kernel) rfl
theorem co_X12_depute : Cond.code yX12_depute cX12_depute 4 (some FieldType.int) ∈ nk_T := nk_in (i := 1532) (by decide +kernel) rfl
theorem my_X12_depute : nk_My yX12_depute cX12_depute 4 (some FieldType.int) 3 := ⟨co_X12_depute, in_RX12, ⟨by decide, by decide⟩, by decide +kernel⟩
theorem im_X12_depute : Cond.instanceMethod yX12_depute ∈ nk_T := nk_in (i := 1530) (by decide +kernel) rfl
theorem se_RX12_X12_depute : Cond.selects RX12 yX12_depute yX12_depute ∈ nk_T := nk_in (i := 1531) (by decide +kernel) rfl
theorem co_L_prepare : Cond.codeWith yL_prepare cL_prepare 4 (some FieldType.int) [(0, 6, 9, 15)] ∈ nk_T := nk_in (i := 804) (by decide +kernel) rfl
theorem my_L_prepare : nk_MyW yL_prepare cL_prepare 4 (some FieldType.int) [(0, 6, 9, 15)] 3 := ⟨co_L_prepare, in_RL, ⟨by decide, by decide⟩, by decide +kernel⟩
theorem st_L_prepare : Cond.static yL_prepare ∈ nk_T := nk_in (i := 803) (by decide +kernel) rfl
theorem ml_RL_175 : Cond.methodLink RL 175 yL_prepare ∈ nk_T := nk_in (i := 802) (by decide +kernel) rfl
theorem ml_RL_178 : Cond.methodLink RL 178 yX12_prepare ∈ nk_T := nk_in (i := 1541) (by decide +kernel) rfl
theorem co_X12_prepare : Cond.code yX12_prepare cX12_prepare 3 (none : Option FieldType) ∈ nk_T := nk_in (i := 1544) (by decide +kernel) rfl
theorem my_X12_prepare : nk_My yX12_prepare cX12_prepare 3 (none : Option FieldType) 2 := ⟨co_X12_prepare, in_RX12, ⟨by decide, by decide⟩, by decide +kernel⟩
theorem im_X12_prepare : Cond.instanceMethod yX12_prepare ∈ nk_T := nk_in (i := 1542) (by decide +kernel) rfl
theorem se_RX12_X12_prepare : Cond.selects RX12 yX12_prepare yX12_prepare ∈ nk_T := nk_in (i := 1543) (by decide +kernel) rfl
theorem co_L_act : Cond.codeWith yL_act cL_act 7 (some FieldType.int) [(0, 14, 17, 13), (0, 14, 21, 15), (0, 14, 25, 17)] ∈ nk_T := nk_in (i := 811) (by decide +kernel) rfl
theorem my_L_act : nk_MyW yL_act cL_act 7 (some FieldType.int) [(0, 14, 17, 13), (0, 14, 21, 15), (0, 14, 25, 17)] 6 := ⟨co_L_act, in_RL, ⟨by decide, by decide⟩, by decide +kernel⟩
theorem st_L_act : Cond.static yL_act ∈ nk_T := nk_in (i := 810) (by decide +kernel) rfl
theorem ml_RL_179 : Cond.methodLink RL 179 yL_act ∈ nk_T := nk_in (i := 809) (by decide +kernel) rfl
theorem ml_RL_182 : Cond.methodLink RL 182 yX12_act ∈ nk_T := nk_in (i := 1545) (by decide +kernel) rfl
theorem co_X12_act : Cond.code yX12_act cX12_act 6 (some FieldType.int) ∈ nk_T := nk_in (i := 1548) (by decide +kernel) rfl
theorem my_X12_act : nk_My yX12_act cX12_act 6 (some FieldType.int) 4 := ⟨co_X12_act, in_RX12, ⟨by decide, by decide⟩, by decide +kernel⟩
theorem im_X12_act : Cond.instanceMethod yX12_act ∈ nk_T := nk_in (i := 1546) (by decide +kernel) rfl
theorem se_RX12_X12_act : Cond.selects RX12 yX12_act yX12_act ∈ nk_T := nk_in (i := 1547) (by decide +kernel) rfl
theorem co_L_tamper : Cond.codeWith yL_tamper cL_tamper 6 (some FieldType.int) [(0, 12, 15, 13), (0, 12, 19, 15)] ∈ nk_T := nk_in (i := 976) (by decide +kernel) rfl
theorem my_L_tamper : nk_MyW yL_tamper cL_tamper 6 (some FieldType.int) [(0, 12, 15, 13), (0, 12, 19, 15)] 5 := ⟨co_L_tamper, in_RL, ⟨by decide, by decide⟩, by decide +kernel⟩
theorem st_L_tamper : Cond.static yL_tamper ∈ nk_T := nk_in (i := 975) (by decide +kernel) rfl
theorem ml_RL_183 : Cond.methodLink RL 183 yL_tamper ∈ nk_T := nk_in (i := 974) (by decide +kernel) rfl
theorem ml_RL_185 : Cond.methodLink RL 185 yX12_tamper ∈ nk_T := nk_in (i := 1600) (by decide +kernel) rfl
theorem co_X12_tamper : Cond.code yX12_tamper cX12_tamper 6 (some FieldType.int) ∈ nk_T := nk_in (i := 1603) (by decide +kernel) rfl
theorem my_X12_tamper : nk_My yX12_tamper cX12_tamper 6 (some FieldType.int) 3 := ⟨co_X12_tamper, in_RX12, ⟨by decide, by decide⟩, by decide +kernel⟩
theorem im_X12_tamper : Cond.instanceMethod yX12_tamper ∈ nk_T := nk_in (i := 1601) (by decide +kernel) rfl
theorem se_RX12_X12_tamper : Cond.selects RX12 yX12_tamper yX12_tamper ∈ nk_T := nk_in (i := 1602) (by decide +kernel) rfl
theorem co_L_copy : Cond.codeWith yL_copy cL_copy 7 (some FieldType.int) [(0, 14, 17, 13), (0, 14, 21, 15), (0, 14, 25, 17)] ∈ nk_T := nk_in (i := 996) (by decide +kernel) rfl
theorem my_L_copy : nk_MyW yL_copy cL_copy 7 (some FieldType.int) [(0, 14, 17, 13), (0, 14, 21, 15), (0, 14, 25, 17)] 6 := ⟨co_L_copy, in_RL, ⟨by decide, by decide⟩, by decide +kernel⟩
theorem st_L_copy : Cond.static yL_copy ∈ nk_T := nk_in (i := 995) (by decide +kernel) rfl
theorem ml_RL_186 : Cond.methodLink RL 186 yL_copy ∈ nk_T := nk_in (i := 994) (by decide +kernel) rfl
theorem ml_RL_188 : Cond.methodLink RL 188 yX12_copy ∈ nk_T := nk_in (i := 1608) (by decide +kernel) rfl
theorem co_X12_copy : Cond.code yX12_copy cX12_copy 7 (some FieldType.int) ∈ nk_T := nk_in (i := 1611) (by decide +kernel) rfl
theorem my_X12_copy : nk_My yX12_copy cX12_copy 7 (some FieldType.int) 4 := ⟨co_X12_copy, in_RX12, ⟨by decide, by decide⟩, by decide +kernel⟩
theorem im_X12_copy : Cond.instanceMethod yX12_copy ∈ nk_T := nk_in (i := 1609) (by decide +kernel) rfl
theorem se_RX12_X12_copy : Cond.selects RX12 yX12_copy yX12_copy ∈ nk_T := nk_in (i := 1610) (by decide +kernel) rfl
theorem co_L_forge : Cond.codeWith yL_forge cL_forge 7 (some FieldType.int) [(0, 14, 17, 13), (0, 14, 21, 15), (0, 14, 25, 17)] ∈ nk_T := nk_in (i := 1050) (by decide +kernel) rfl
theorem my_L_forge : nk_MyW yL_forge cL_forge 7 (some FieldType.int) [(0, 14, 17, 13), (0, 14, 21, 15), (0, 14, 25, 17)] 6 := ⟨co_L_forge, in_RL, ⟨by decide, by decide⟩, by decide +kernel⟩
theorem st_L_forge : Cond.static yL_forge ∈ nk_T := nk_in (i := 1049) (by decide +kernel) rfl
theorem ml_RL_189 : Cond.methodLink RL 189 yL_forge ∈ nk_T := nk_in (i := 1048) (by decide +kernel) rfl
theorem ml_RL_191 : Cond.methodLink RL 191 yX12_forge ∈ nk_T := nk_in (i := 1620) (by decide +kernel) rfl
theorem co_X12_forge : Cond.code yX12_forge cX12_forge 8 (some FieldType.int) ∈ nk_T := nk_in (i := 1623) (by decide +kernel) rfl
theorem my_X12_forge : nk_My yX12_forge cX12_forge 8 (some FieldType.int) 4 := ⟨co_X12_forge, in_RX12, ⟨by decide, by decide⟩, by decide +kernel⟩
theorem im_X12_forge : Cond.instanceMethod yX12_forge ∈ nk_T := nk_in (i := 1621) (by decide +kernel) rfl
theorem se_RX12_X12_forge : Cond.selects RX12 yX12_forge yX12_forge ∈ nk_T := nk_in (i := 1622) (by decide +kernel) rfl
theorem ml_RL_195 : Cond.methodLink RL 195 yX12_hour ∈ nk_T := nk_in (i := 1632) (by decide +kernel) rfl
theorem co_X12_hour : Cond.code yX12_hour cX12_hour 1 (some FieldType.int) ∈ nk_T := nk_in (i := 1635) (by decide +kernel) rfl
theorem my_X12_hour : nk_My yX12_hour cX12_hour 1 (some FieldType.int) 0 := ⟨co_X12_hour, in_RX12, ⟨by decide, by decide⟩, by decide +kernel⟩
theorem im_X12_hour : Cond.instanceMethod yX12_hour ∈ nk_T := nk_in (i := 1633) (by decide +kernel) rfl
theorem se_RX12_X12_hour : Cond.selects RX12 yX12_hour yX12_hour ∈ nk_T := nk_in (i := 1634) (by decide +kernel) rfl
theorem ml_RL_192 : Cond.methodLink RL 192 yX11_hour ∈ nk_T := nk_in (i := 227) (by decide +kernel) rfl
theorem co_X11_hour : Cond.code yX11_hour cX11_hour 1 (some FieldType.int) ∈ nk_T := nk_in (i := 230) (by decide +kernel) rfl
theorem my_X11_hour : nk_My yX11_hour cX11_hour 1 (some FieldType.int) 0 := ⟨co_X11_hour, in_RX11, ⟨by decide, by decide⟩, by decide +kernel⟩
theorem im_X11_hour : Cond.instanceMethod yX11_hour ∈ nk_T := nk_in (i := 228) (by decide +kernel) rfl
theorem se_RX11_X11_hour : Cond.selects RX11 yX11_hour yX11_hour ∈ nk_T := nk_in (i := 229) (by decide +kernel) rfl
theorem ml_RL_199 : Cond.methodLink RL 199 yX12_news ∈ nk_T := nk_in (i := 1636) (by decide +kernel) rfl
theorem co_X12_news : Cond.code yX12_news cX12_news 1 (some FieldType.int) ∈ nk_T := nk_in (i := 1639) (by decide +kernel) rfl
theorem my_X12_news : nk_My yX12_news cX12_news 1 (some FieldType.int) 0 := ⟨co_X12_news, in_RX12, ⟨by decide, by decide⟩, by decide +kernel⟩
theorem im_X12_news : Cond.instanceMethod yX12_news ∈ nk_T := nk_in (i := 1637) (by decide +kernel) rfl
theorem se_RX12_X12_news : Cond.selects RX12 yX12_news yX12_news ∈ nk_T := nk_in (i := 1638) (by decide +kernel) rfl
theorem ml_RL_196 : Cond.methodLink RL 196 yX11_news ∈ nk_T := nk_in (i := 231) (by decide +kernel) rfl
theorem co_X11_news : Cond.code yX11_news cX11_news 1 (some FieldType.int) ∈ nk_T := nk_in (i := 234) (by decide +kernel) rfl
theorem my_X11_news : nk_My yX11_news cX11_news 1 (some FieldType.int) 0 := ⟨co_X11_news, in_RX11, ⟨by decide, by decide⟩, by decide +kernel⟩
theorem im_X11_news : Cond.instanceMethod yX11_news ∈ nk_T := nk_in (i := 232) (by decide +kernel) rfl
theorem se_RX11_X11_news : Cond.selects RX11 yX11_news yX11_news ∈ nk_T := nk_in (i := 233) (by decide +kernel) rfl
theorem ml_RL_203 : Cond.methodLink RL 203 yX12_powers ∈ nk_T := nk_in (i := 1640) (by decide +kernel) rfl
theorem co_X12_powers : Cond.code yX12_powers cX12_powers 1 (some FieldType.int) ∈ nk_T := nk_in (i := 1643) (by decide +kernel) rfl
theorem my_X12_powers : nk_My yX12_powers cX12_powers 1 (some FieldType.int) 0 := ⟨co_X12_powers, in_RX12, ⟨by decide, by decide⟩, by decide +kernel⟩
theorem im_X12_powers : Cond.instanceMethod yX12_powers ∈ nk_T := nk_in (i := 1641) (by decide +kernel) rfl
theorem se_RX12_X12_powers : Cond.selects RX12 yX12_powers yX12_powers ∈ nk_T := nk_in (i := 1642) (by decide +kernel) rfl
theorem ml_RL_200 : Cond.methodLink RL 200 yX11_powers ∈ nk_T := nk_in (i := 243) (by decide +kernel) rfl
theorem co_X11_powers : Cond.code yX11_powers cX11_powers 1 (some FieldType.int) ∈ nk_T := nk_in (i := 246) (by decide +kernel) rfl
theorem my_X11_powers : nk_My yX11_powers cX11_powers 1 (some FieldType.int) 0 := ⟨co_X11_powers, in_RX11, ⟨by decide, by decide⟩, by decide +kernel⟩
theorem im_X11_powers : Cond.instanceMethod yX11_powers ∈ nk_T := nk_in (i := 244) (by decide +kernel) rfl
theorem se_RX11_X11_powers : Cond.selects RX11 yX11_powers yX11_powers ∈ nk_T := nk_in (i := 245) (by decide +kernel) rfl
theorem co_L_records : Cond.codeWith yL_records cL_records 4 (some FieldType.int) [(0, 9, 12, 13)] ∈ nk_T := nk_in (i := 1073) (by decide +kernel) rfl
theorem my_L_records : nk_MyW yL_records cL_records 4 (some FieldType.int) [(0, 9, 12, 13)] 3 := ⟨co_L_records, in_RL, ⟨by decide, by decide⟩, by decide +kernel⟩
theorem st_L_records : Cond.static yL_records ∈ nk_T := nk_in (i := 1072) (by decide +kernel) rfl
theorem ml_RL_204 : Cond.methodLink RL 204 yL_records ∈ nk_T := nk_in (i := 1071) (by decide +kernel) rfl
theorem ml_RL_206 : Cond.methodLink RL 206 yX12_records ∈ nk_T := nk_in (i := 1644) (by decide +kernel) rfl
theorem co_X12_records : Cond.code yX12_records cX12_records 2 (some FieldType.int) ∈ nk_T := nk_in (i := 1647) (by decide +kernel) rfl
theorem my_X12_records : nk_My yX12_records cX12_records 2 (some FieldType.int) 1 := ⟨co_X12_records, in_RX12, ⟨by decide, by decide⟩, by decide +kernel⟩
theorem im_X12_records : Cond.instanceMethod yX12_records ∈ nk_T := nk_in (i := 1645) (by decide +kernel) rfl
theorem se_RX12_X12_records : Cond.selects RX12 yX12_records yX12_records ∈ nk_T := nk_in (i := 1646) (by decide +kernel) rfl
theorem co_L_areJoined : Cond.codeWith yL_areJoined cL_areJoined 5 (some FieldType.int) [(0, 17, 20, 13)] ∈ nk_T := nk_in (i := 1080) (by decide +kernel) rfl
theorem my_L_areJoined : nk_MyW yL_areJoined cL_areJoined 5 (some FieldType.int) [(0, 17, 20, 13)] 4 := ⟨co_L_areJoined, in_RL, ⟨by decide, by decide⟩, by decide +kernel⟩
theorem st_L_areJoined : Cond.static yL_areJoined ∈ nk_T := nk_in (i := 1079) (by decide +kernel) rfl
theorem ml_RL_207 : Cond.methodLink RL 207 yL_areJoined ∈ nk_T := nk_in (i := 1078) (by decide +kernel) rfl
theorem ml_RL_209 : Cond.methodLink RL 209 yX12_areJoined ∈ nk_T := nk_in (i := 1648) (by decide +kernel) rfl
theorem co_X12_areJoined : Cond.code yX12_areJoined cX12_areJoined 3 (some FieldType.boolean) ∈ nk_T := nk_in (i := 1651) (by decide +kernel) rfl
theorem my_X12_areJoined : nk_My yX12_areJoined cX12_areJoined 3 (some FieldType.boolean) 2 := ⟨co_X12_areJoined, in_RX12, ⟨by decide, by decide⟩, by decide +kernel⟩
theorem im_X12_areJoined : Cond.instanceMethod yX12_areJoined ∈ nk_T := nk_in (i := 1649) (by decide +kernel) rfl
theorem se_RX12_X12_areJoined : Cond.selects RX12 yX12_areJoined yX12_areJoined ∈ nk_T := nk_in (i := 1650) (by decide +kernel) rfl
theorem co_L_came : Cond.codeWith yL_came cL_came 5 (some FieldType.int) [(0, 10, 13, 13)] ∈ nk_T := nk_in (i := 1087) (by decide +kernel) rfl
theorem my_L_came : nk_MyW yL_came cL_came 5 (some FieldType.int) [(0, 10, 13, 13)] 4 := ⟨co_L_came, in_RL, ⟨by decide, by decide⟩, by decide +kernel⟩
theorem st_L_came : Cond.static yL_came ∈ nk_T := nk_in (i := 1086) (by decide +kernel) rfl
theorem ml_RL_210 : Cond.methodLink RL 210 yL_came ∈ nk_T := nk_in (i := 1085) (by decide +kernel) rfl
theorem ml_RL_212 : Cond.methodLink RL 212 yX12_came ∈ nk_T := nk_in (i := 1652) (by decide +kernel) rfl
theorem co_X12_came : Cond.code yX12_came cX12_came 3 (some FieldType.int) ∈ nk_T := nk_in (i := 1655) (by decide +kernel) rfl
theorem my_X12_came : nk_My yX12_came cX12_came 3 (some FieldType.int) 2 := ⟨co_X12_came, in_RX12, ⟨by decide, by decide⟩, by decide +kernel⟩
theorem im_X12_came : Cond.instanceMethod yX12_came ∈ nk_T := nk_in (i := 1653) (by decide +kernel) rfl
theorem se_RX12_X12_came : Cond.selects RX12 yX12_came yX12_came ∈ nk_T := nk_in (i := 1654) (by decide +kernel) rfl
theorem co_L_cameByLinks : Cond.codeWith yL_cameByLinks cL_cameByLinks 5 (some FieldType.int) [(0, 10, 13, 13)] ∈ nk_T := nk_in (i := 1103) (by decide +kernel) rfl
theorem my_L_cameByLinks : nk_MyW yL_cameByLinks cL_cameByLinks 5 (some FieldType.int) [(0, 10, 13, 13)] 4 := ⟨co_L_cameByLinks, in_RL, ⟨by decide, by decide⟩, by decide +kernel⟩
theorem st_L_cameByLinks : Cond.static yL_cameByLinks ∈ nk_T := nk_in (i := 1102) (by decide +kernel) rfl
theorem ml_RL_213 : Cond.methodLink RL 213 yL_cameByLinks ∈ nk_T := nk_in (i := 1101) (by decide +kernel) rfl
theorem ml_RL_215 : Cond.methodLink RL 215 yX12_cameByLinks ∈ nk_T := nk_in (i := 1660) (by decide +kernel) rfl
theorem co_X12_cameByLinks : Cond.code yX12_cameByLinks cX12_cameByLinks 3 (some FieldType.int) ∈ nk_T := nk_in (i := 1663) (by decide +kernel) rfl
theorem my_X12_cameByLinks : nk_My yX12_cameByLinks cX12_cameByLinks 3 (some FieldType.int) 2 := ⟨co_X12_cameByLinks, in_RX12, ⟨by decide, by decide⟩, by decide +kernel⟩
theorem im_X12_cameByLinks : Cond.instanceMethod yX12_cameByLinks ∈ nk_T := nk_in (i := 1661) (by decide +kernel) rfl
theorem se_RX12_X12_cameByLinks : Cond.selects RX12 yX12_cameByLinks yX12_cameByLinks ∈ nk_T := nk_in (i := 1662) (by decide +kernel) rfl
theorem co_L_isRead : Cond.codeWith yL_isRead cL_isRead 5 (some FieldType.int) [(0, 17, 20, 13)] ∈ nk_T := nk_in (i := 1111) (by decide +kernel) rfl
theorem my_L_isRead : nk_MyW yL_isRead cL_isRead 5 (some FieldType.int) [(0, 17, 20, 13)] 4 := ⟨co_L_isRead, in_RL, ⟨by decide, by decide⟩, by decide +kernel⟩
theorem st_L_isRead : Cond.static yL_isRead ∈ nk_T := nk_in (i := 1110) (by decide +kernel) rfl
theorem ml_RL_216 : Cond.methodLink RL 216 yL_isRead ∈ nk_T := nk_in (i := 1109) (by decide +kernel) rfl
theorem ml_RL_218 : Cond.methodLink RL 218 yX12_isRead ∈ nk_T := nk_in (i := 1664) (by decide +kernel) rfl
theorem co_X12_isRead : Cond.code yX12_isRead cX12_isRead 3 (some FieldType.boolean) ∈ nk_T := nk_in (i := 1667) (by decide +kernel) rfl
theorem my_X12_isRead : nk_My yX12_isRead cX12_isRead 3 (some FieldType.boolean) 2 := ⟨co_X12_isRead, in_RX12, ⟨by decide, by decide⟩, by decide +kernel⟩
theorem im_X12_isRead : Cond.instanceMethod yX12_isRead ∈ nk_T := nk_in (i := 1665) (by decide +kernel) rfl
theorem se_RX12_X12_isRead : Cond.selects RX12 yX12_isRead yX12_isRead ∈ nk_T := nk_in (i := 1666) (by decide +kernel) rfl
theorem co_L_mail : Cond.codeWith yL_mail cL_mail 4 (some FieldType.int) [(0, 9, 12, 13)] ∈ nk_T := nk_in (i := 1118) (by decide +kernel) rfl
theorem my_L_mail : nk_MyW yL_mail cL_mail 4 (some FieldType.int) [(0, 9, 12, 13)] 3 := ⟨co_L_mail, in_RL, ⟨by decide, by decide⟩, by decide +kernel⟩
theorem st_L_mail : Cond.static yL_mail ∈ nk_T := nk_in (i := 1117) (by decide +kernel) rfl
theorem ml_RL_219 : Cond.methodLink RL 219 yL_mail ∈ nk_T := nk_in (i := 1116) (by decide +kernel) rfl
theorem ml_RL_221 : Cond.methodLink RL 221 yX12_mail ∈ nk_T := nk_in (i := 1668) (by decide +kernel) rfl
theorem co_X12_mail : Cond.code yX12_mail cX12_mail 2 (some FieldType.int) ∈ nk_T := nk_in (i := 1671) (by decide +kernel) rfl
theorem my_X12_mail : nk_My yX12_mail cX12_mail 2 (some FieldType.int) 1 := ⟨co_X12_mail, in_RX12, ⟨by decide, by decide⟩, by decide +kernel⟩
theorem im_X12_mail : Cond.instanceMethod yX12_mail ∈ nk_T := nk_in (i := 1669) (by decide +kernel) rfl
theorem se_RX12_X12_mail : Cond.selects RX12 yX12_mail yX12_mail ∈ nk_T := nk_in (i := 1670) (by decide +kernel) rfl
theorem co_L_source : Cond.codeWith yL_source cL_source 4 (some FieldType.int) [(0, 9, 12, 13)] ∈ nk_T := nk_in (i := 1126) (by decide +kernel) rfl
theorem my_L_source : nk_MyW yL_source cL_source 4 (some FieldType.int) [(0, 9, 12, 13)] 3 := ⟨co_L_source, in_RL, ⟨by decide, by decide⟩, by decide +kernel⟩
theorem st_L_source : Cond.static yL_source ∈ nk_T := nk_in (i := 1125) (by decide +kernel) rfl
theorem ml_RL_222 : Cond.methodLink RL 222 yL_source ∈ nk_T := nk_in (i := 1124) (by decide +kernel) rfl
theorem ml_RL_224 : Cond.methodLink RL 224 yX12_source ∈ nk_T := nk_in (i := 1672) (by decide +kernel) rfl
theorem co_X12_source : Cond.code yX12_source cX12_source 2 (some FieldType.int) ∈ nk_T := nk_in (i := 1675) (by decide +kernel) rfl
theorem my_X12_source : nk_My yX12_source cX12_source 2 (some FieldType.int) 1 := ⟨co_X12_source, in_RX12, ⟨by decide, by decide⟩, by decide +kernel⟩
theorem im_X12_source : Cond.instanceMethod yX12_source ∈ nk_T := nk_in (i := 1673) (by decide +kernel) rfl
theorem se_RX12_X12_source : Cond.selects RX12 yX12_source yX12_source ∈ nk_T := nk_in (i := 1674) (by decide +kernel) rfl
theorem co_L_holder : Cond.codeWith yL_holder cL_holder 4 (some FieldType.int) [(0, 9, 12, 13)] ∈ nk_T := nk_in (i := 1133) (by decide +kernel) rfl
theorem my_L_holder : nk_MyW yL_holder cL_holder 4 (some FieldType.int) [(0, 9, 12, 13)] 3 := ⟨co_L_holder, in_RL, ⟨by decide, by decide⟩, by decide +kernel⟩
theorem st_L_holder : Cond.static yL_holder ∈ nk_T := nk_in (i := 1132) (by decide +kernel) rfl
theorem ml_RL_225 : Cond.methodLink RL 225 yL_holder ∈ nk_T := nk_in (i := 1131) (by decide +kernel) rfl
theorem ml_RL_227 : Cond.methodLink RL 227 yX12_holder ∈ nk_T := nk_in (i := 1676) (by decide +kernel) rfl
theorem co_X12_holder : Cond.code yX12_holder cX12_holder 2 (some FieldType.int) ∈ nk_T := nk_in (i := 1679) (by decide +kernel) rfl
theorem my_X12_holder : nk_My yX12_holder cX12_holder 2 (some FieldType.int) 1 := ⟨co_X12_holder, in_RX12, ⟨by decide, by decide⟩, by decide +kernel⟩
theorem im_X12_holder : Cond.instanceMethod yX12_holder ∈ nk_T := nk_in (i := 1677) (by decide +kernel) rfl
theorem se_RX12_X12_holder : Cond.selects RX12 yX12_holder yX12_holder ∈ nk_T := nk_in (i := 1678) (by decide +kernel) rfl
theorem co_L_isGood : Cond.codeWith yL_isGood cL_isGood 5 (some FieldType.int) [(0, 17, 20, 13)] ∈ nk_T := nk_in (i := 1140) (by decide +kernel) rfl
theorem my_L_isGood : nk_MyW yL_isGood cL_isGood 5 (some FieldType.int) [(0, 17, 20, 13)] 4 := ⟨co_L_isGood, in_RL, ⟨by decide, by decide⟩, by decide +kernel⟩
theorem st_L_isGood : Cond.static yL_isGood ∈ nk_T := nk_in (i := 1139) (by decide +kernel) rfl
theorem ml_RL_228 : Cond.methodLink RL 228 yL_isGood ∈ nk_T := nk_in (i := 1138) (by decide +kernel) rfl
theorem ml_RL_230 : Cond.methodLink RL 230 yX12_isGood ∈ nk_T := nk_in (i := 1680) (by decide +kernel) rfl
theorem co_X12_isGood : Cond.code yX12_isGood cX12_isGood 3 (some FieldType.boolean) ∈ nk_T := nk_in (i := 1683) (by decide +kernel) rfl
theorem my_X12_isGood : nk_My yX12_isGood cX12_isGood 3 (some FieldType.boolean) 2 := ⟨co_X12_isGood, in_RX12, ⟨by decide, by decide⟩, by decide +kernel⟩
theorem im_X12_isGood : Cond.instanceMethod yX12_isGood ∈ nk_T := nk_in (i := 1681) (by decide +kernel) rfl
theorem se_RX12_X12_isGood : Cond.selects RX12 yX12_isGood yX12_isGood ∈ nk_T := nk_in (i := 1682) (by decide +kernel) rfl
theorem co_L_done : Cond.codeWith yL_done cL_done 5 (some FieldType.int) [(0, 10, 13, 13)] ∈ nk_T := nk_in (i := 1147) (by decide +kernel) rfl
theorem my_L_done : nk_MyW yL_done cL_done 5 (some FieldType.int) [(0, 10, 13, 13)] 4 := ⟨co_L_done, in_RL, ⟨by decide, by decide⟩, by decide +kernel⟩
theorem st_L_done : Cond.static yL_done ∈ nk_T := nk_in (i := 1146) (by decide +kernel) rfl
theorem ml_RL_231 : Cond.methodLink RL 231 yL_done ∈ nk_T := nk_in (i := 1145) (by decide +kernel) rfl
theorem ml_RL_233 : Cond.methodLink RL 233 yX12_done ∈ nk_T := nk_in (i := 1684) (by decide +kernel) rfl
theorem co_X12_done : Cond.code yX12_done cX12_done 3 (some FieldType.int) ∈ nk_T := nk_in (i := 1687) (by decide +kernel) rfl
theorem my_X12_done : nk_My yX12_done cX12_done 3 (some FieldType.int) 2 := ⟨co_X12_done, in_RX12, ⟨by decide, by decide⟩, by decide +kernel⟩
theorem im_X12_done : Cond.instanceMethod yX12_done ∈ nk_T := nk_in (i := 1685) (by decide +kernel) rfl
theorem se_RX12_X12_done : Cond.selects RX12 yX12_done yX12_done ∈ nk_T := nk_in (i := 1686) (by decide +kernel) rfl
theorem co_L_beyond : Cond.codeWith yL_beyond cL_beyond 4 (some FieldType.int) [(0, 9, 12, 13)] ∈ nk_T := nk_in (i := 1155) (by decide +kernel) rfl
theorem my_L_beyond : nk_MyW yL_beyond cL_beyond 4 (some FieldType.int) [(0, 9, 12, 13)] 3 := ⟨co_L_beyond, in_RL, ⟨by decide, by decide⟩, by decide +kernel⟩
theorem st_L_beyond : Cond.static yL_beyond ∈ nk_T := nk_in (i := 1154) (by decide +kernel) rfl
theorem ml_RL_234 : Cond.methodLink RL 234 yL_beyond ∈ nk_T := nk_in (i := 1153) (by decide +kernel) rfl
theorem ml_RL_236 : Cond.methodLink RL 236 yX12_beyond ∈ nk_T := nk_in (i := 1688) (by decide +kernel) rfl
theorem co_X12_beyond : Cond.code yX12_beyond cX12_beyond 3 (some FieldType.int) ∈ nk_T := nk_in (i := 1691) (by decide +kernel) rfl
theorem my_X12_beyond : nk_My yX12_beyond cX12_beyond 3 (some FieldType.int) 1 := ⟨co_X12_beyond, in_RX12, ⟨by decide, by decide⟩, by decide +kernel⟩
theorem im_X12_beyond : Cond.instanceMethod yX12_beyond ∈ nk_T := nk_in (i := 1689) (by decide +kernel) rfl
theorem se_RX12_X12_beyond : Cond.selects RX12 yX12_beyond yX12_beyond ∈ nk_T := nk_in (i := 1690) (by decide +kernel) rfl
theorem co_L_against : Cond.codeWith yL_against cL_against 7 (some FieldType.int) [(0, 14, 17, 13), (0, 14, 21, 15)] ∈ nk_T := nk_in (i := 1163) (by decide +kernel) rfl
theorem my_L_against : nk_MyW yL_against cL_against 7 (some FieldType.int) [(0, 14, 17, 13), (0, 14, 21, 15)] 6 := ⟨co_L_against, in_RL, ⟨by decide, by decide⟩, by decide +kernel⟩
theorem st_L_against : Cond.static yL_against ∈ nk_T := nk_in (i := 1162) (by decide +kernel) rfl
theorem ml_RL_237 : Cond.methodLink RL 237 yL_against ∈ nk_T := nk_in (i := 1161) (by decide +kernel) rfl
theorem ml_RL_239 : Cond.methodLink RL 239 yX12_against ∈ nk_T := nk_in (i := 1692) (by decide +kernel) rfl
theorem co_X12_against : Cond.code yX12_against cX12_against 6 (some FieldType.int) ∈ nk_T := nk_in (i := 1695) (by decide +kernel) rfl
theorem my_X12_against : nk_My yX12_against cX12_against 6 (some FieldType.int) 4 := ⟨co_X12_against, in_RX12, ⟨by decide, by decide⟩, by decide +kernel⟩
theorem im_X12_against : Cond.instanceMethod yX12_against ∈ nk_T := nk_in (i := 1693) (by decide +kernel) rfl
theorem se_RX12_X12_against : Cond.selects RX12 yX12_against yX12_against ∈ nk_T := nk_in (i := 1694) (by decide +kernel) rfl
theorem co_L_choices : Cond.codeWith yL_choices cL_choices 6 (some FieldType.int) [(0, 12, 15, 13), (0, 12, 19, 15)] ∈ nk_T := nk_in (i := 1170) (by decide +kernel) rfl
theorem my_L_choices : nk_MyW yL_choices cL_choices 6 (some FieldType.int) [(0, 12, 15, 13), (0, 12, 19, 15)] 5 := ⟨co_L_choices, in_RL, ⟨by decide, by decide⟩, by decide +kernel⟩
theorem st_L_choices : Cond.static yL_choices ∈ nk_T := nk_in (i := 1169) (by decide +kernel) rfl
theorem ml_RL_240 : Cond.methodLink RL 240 yL_choices ∈ nk_T := nk_in (i := 1168) (by decide +kernel) rfl
theorem ml_RL_242 : Cond.methodLink RL 242 yX12_choices ∈ nk_T := nk_in (i := 1696) (by decide +kernel) rfl
theorem co_X12_choices : Cond.code yX12_choices cX12_choices 7 (some FieldType.int) ∈ nk_T := nk_in (i := 1699) (by decide +kernel) rfl
theorem my_X12_choices : nk_My yX12_choices cX12_choices 7 (some FieldType.int) 3 := ⟨co_X12_choices, in_RX12, ⟨by decide, by decide⟩, by decide +kernel⟩
theorem im_X12_choices : Cond.instanceMethod yX12_choices ∈ nk_T := nk_in (i := 1697) (by decide +kernel) rfl
theorem se_RX12_X12_choices : Cond.selects RX12 yX12_choices yX12_choices ∈ nk_T := nk_in (i := 1698) (by decide +kernel) rfl
theorem co_L_stands : Cond.codeWith yL_stands cL_stands 5 (some FieldType.int) [(0, 17, 20, 13)] ∈ nk_T := nk_in (i := 1177) (by decide +kernel) rfl
theorem my_L_stands : nk_MyW yL_stands cL_stands 5 (some FieldType.int) [(0, 17, 20, 13)] 4 := ⟨co_L_stands, in_RL, ⟨by decide, by decide⟩, by decide +kernel⟩
theorem st_L_stands : Cond.static yL_stands ∈ nk_T := nk_in (i := 1176) (by decide +kernel) rfl
theorem ml_RL_243 : Cond.methodLink RL 243 yL_stands ∈ nk_T := nk_in (i := 1175) (by decide +kernel) rfl
theorem ml_RL_245 : Cond.methodLink RL 245 yX12_stands ∈ nk_T := nk_in (i := 1700) (by decide +kernel) rfl
theorem co_X12_stands : Cond.code yX12_stands cX12_stands 3 (some FieldType.boolean) ∈ nk_T := nk_in (i := 1703) (by decide +kernel) rfl
theorem my_X12_stands : nk_My yX12_stands cX12_stands 3 (some FieldType.boolean) 2 := ⟨co_X12_stands, in_RX12, ⟨by decide, by decide⟩, by decide +kernel⟩
theorem im_X12_stands : Cond.instanceMethod yX12_stands ∈ nk_T := nk_in (i := 1701) (by decide +kernel) rfl
theorem se_RX12_X12_stands : Cond.selects RX12 yX12_stands yX12_stands ∈ nk_T := nk_in (i := 1702) (by decide +kernel) rfl
theorem co_L_fault : Cond.codeWith yL_fault cL_fault 5 (some FieldType.int) [(0, 10, 13, 13)] ∈ nk_T := nk_in (i := 1184) (by decide +kernel) rfl
theorem my_L_fault : nk_MyW yL_fault cL_fault 5 (some FieldType.int) [(0, 10, 13, 13)] 4 := ⟨co_L_fault, in_RL, ⟨by decide, by decide⟩, by decide +kernel⟩
theorem st_L_fault : Cond.static yL_fault ∈ nk_T := nk_in (i := 1183) (by decide +kernel) rfl
theorem ml_RL_246 : Cond.methodLink RL 246 yL_fault ∈ nk_T := nk_in (i := 1182) (by decide +kernel) rfl
theorem ml_RL_248 : Cond.methodLink RL 248 yX12_fault ∈ nk_T := nk_in (i := 1708) (by decide +kernel) rfl
theorem co_X12_fault : Cond.code yX12_fault cX12_fault 3 (some FieldType.int) ∈ nk_T := nk_in (i := 1711) (by decide +kernel) rfl
theorem my_X12_fault : nk_My yX12_fault cX12_fault 3 (some FieldType.int) 2 := ⟨co_X12_fault, in_RX12, ⟨by decide, by decide⟩, by decide +kernel⟩
theorem im_X12_fault : Cond.instanceMethod yX12_fault ∈ nk_T := nk_in (i := 1709) (by decide +kernel) rfl
theorem se_RX12_X12_fault : Cond.selects RX12 yX12_fault yX12_fault ∈ nk_T := nk_in (i := 1710) (by decide +kernel) rfl
theorem ml_RL_252 : Cond.methodLink RL 252 yX12_standing ∈ nk_T := nk_in (i := 1712) (by decide +kernel) rfl
theorem co_X12_standing : Cond.code yX12_standing cX12_standing 3 (some FieldType.int) ∈ nk_T := nk_in (i := 1715) (by decide +kernel) rfl
theorem my_X12_standing : nk_My yX12_standing cX12_standing 3 (some FieldType.int) 0 := ⟨co_X12_standing, in_RX12, ⟨by decide, by decide⟩, by decide +kernel⟩
theorem im_X12_standing : Cond.instanceMethod yX12_standing ∈ nk_T := nk_in (i := 1713) (by decide +kernel) rfl
theorem se_RX12_X12_standing : Cond.selects RX12 yX12_standing yX12_standing ∈ nk_T := nk_in (i := 1714) (by decide +kernel) rfl
theorem ml_RL_249 : Cond.methodLink RL 249 yX11_standing ∈ nk_T := nk_in (i := 248) (by decide +kernel) rfl
theorem co_X11_standing : Cond.code yX11_standing cX11_standing 3 (some FieldType.int) ∈ nk_T := nk_in (i := 251) (by decide +kernel) rfl
theorem my_X11_standing : nk_My yX11_standing cX11_standing 3 (some FieldType.int) 0 := ⟨co_X11_standing, in_RX11, ⟨by decide, by decide⟩, by decide +kernel⟩
theorem im_X11_standing : Cond.instanceMethod yX11_standing ∈ nk_T := nk_in (i := 249) (by decide +kernel) rfl
theorem se_RX11_X11_standing : Cond.selects RX11 yX11_standing yX11_standing ∈ nk_T := nk_in (i := 250) (by decide +kernel) rfl
theorem co_L_pieceOf : Cond.codeWith yL_pieceOf cL_pieceOf 5 (some FieldType.int) [(0, 10, 13, 13)] ∈ nk_T := nk_in (i := 1191) (by decide +kernel) rfl
theorem my_L_pieceOf : nk_MyW yL_pieceOf cL_pieceOf 5 (some FieldType.int) [(0, 10, 13, 13)] 4 := ⟨co_L_pieceOf, in_RL, ⟨by decide, by decide⟩, by decide +kernel⟩
theorem st_L_pieceOf : Cond.static yL_pieceOf ∈ nk_T := nk_in (i := 1190) (by decide +kernel) rfl
theorem ml_RL_253 : Cond.methodLink RL 253 yL_pieceOf ∈ nk_T := nk_in (i := 1189) (by decide +kernel) rfl
theorem ml_RL_255 : Cond.methodLink RL 255 yX12_pieceOf ∈ nk_T := nk_in (i := 1716) (by decide +kernel) rfl
theorem co_X12_pieceOf : Cond.code yX12_pieceOf cX12_pieceOf 3 (some FieldType.int) ∈ nk_T := nk_in (i := 1719) (by decide +kernel) rfl
theorem my_X12_pieceOf : nk_My yX12_pieceOf cX12_pieceOf 3 (some FieldType.int) 2 := ⟨co_X12_pieceOf, in_RX12, ⟨by decide, by decide⟩, by decide +kernel⟩
theorem im_X12_pieceOf : Cond.instanceMethod yX12_pieceOf ∈ nk_T := nk_in (i := 1717) (by decide +kernel) rfl
theorem se_RX12_X12_pieceOf : Cond.selects RX12 yX12_pieceOf yX12_pieceOf ∈ nk_T := nk_in (i := 1718) (by decide +kernel) rfl
theorem co_L_part : Cond.codeWith yL_part cL_part 6 (some FieldType.int) [(0, 12, 15, 13)] ∈ nk_T := nk_in (i := 1198) (by decide +kernel) rfl
theorem my_L_part : nk_MyW yL_part cL_part 6 (some FieldType.int) [(0, 12, 15, 13)] 5 := ⟨co_L_part, in_RL, ⟨by decide, by decide⟩, by decide +kernel⟩
theorem st_L_part : Cond.static yL_part ∈ nk_T := nk_in (i := 1197) (by decide +kernel) rfl
theorem ml_RL_256 : Cond.methodLink RL 256 yL_part ∈ nk_T := nk_in (i := 1196) (by decide +kernel) rfl
theorem ml_RL_258 : Cond.methodLink RL 258 yX12_part ∈ nk_T := nk_in (i := 1720) (by decide +kernel) rfl
theorem co_X12_part : Cond.code yX12_part cX12_part 5 (some FieldType.int) ∈ nk_T := nk_in (i := 1723) (by decide +kernel) rfl
theorem my_X12_part : nk_My yX12_part cX12_part 5 (some FieldType.int) 3 := ⟨co_X12_part, in_RX12, ⟨by decide, by decide⟩, by decide +kernel⟩
theorem im_X12_part : Cond.instanceMethod yX12_part ∈ nk_T := nk_in (i := 1721) (by decide +kernel) rfl
theorem se_RX12_X12_part : Cond.selects RX12 yX12_part yX12_part ∈ nk_T := nk_in (i := 1722) (by decide +kernel) rfl
theorem co_L_seal : Cond.codeWith yL_seal cL_seal 5 (some FieldType.int) [(0, 10, 13, 13)] ∈ nk_T := nk_in (i := 1205) (by decide +kernel) rfl
theorem my_L_seal : nk_MyW yL_seal cL_seal 5 (some FieldType.int) [(0, 10, 13, 13)] 4 := ⟨co_L_seal, in_RL, ⟨by decide, by decide⟩, by decide +kernel⟩
theorem st_L_seal : Cond.static yL_seal ∈ nk_T := nk_in (i := 1204) (by decide +kernel) rfl
theorem ml_RL_259 : Cond.methodLink RL 259 yL_seal ∈ nk_T := nk_in (i := 1203) (by decide +kernel) rfl
theorem ml_RL_261 : Cond.methodLink RL 261 yX12_seal ∈ nk_T := nk_in (i := 1724) (by decide +kernel) rfl
theorem co_X12_seal : Cond.code yX12_seal cX12_seal 3 (some FieldType.int) ∈ nk_T := nk_in (i := 1727) (by decide +kernel) rfl
theorem my_X12_seal : nk_My yX12_seal cX12_seal 3 (some FieldType.int) 2 := ⟨co_X12_seal, in_RX12, ⟨by decide, by decide⟩, by decide +kernel⟩
theorem im_X12_seal : Cond.instanceMethod yX12_seal ∈ nk_T := nk_in (i := 1725) (by decide +kernel) rfl
theorem se_RX12_X12_seal : Cond.selects RX12 yX12_seal yX12_seal ∈ nk_T := nk_in (i := 1726) (by decide +kernel) rfl
theorem co_L_broken : Cond.codeWith yL_broken cL_broken 4 (some FieldType.int) [(0, 9, 12, 13)] ∈ nk_T := nk_in (i := 1212) (by decide +kernel) rfl
theorem my_L_broken : nk_MyW yL_broken cL_broken 4 (some FieldType.int) [(0, 9, 12, 13)] 3 := ⟨co_L_broken, in_RL, ⟨by decide, by decide⟩, by decide +kernel⟩
theorem st_L_broken : Cond.static yL_broken ∈ nk_T := nk_in (i := 1211) (by decide +kernel) rfl
theorem ml_RL_262 : Cond.methodLink RL 262 yL_broken ∈ nk_T := nk_in (i := 1210) (by decide +kernel) rfl
theorem ml_RL_264 : Cond.methodLink RL 264 yX12_broken ∈ nk_T := nk_in (i := 1728) (by decide +kernel) rfl
theorem co_X12_broken : Cond.code yX12_broken cX12_broken 3 (some FieldType.int) ∈ nk_T := nk_in (i := 1731) (by decide +kernel) rfl
theorem my_X12_broken : nk_My yX12_broken cX12_broken 3 (some FieldType.int) 1 := ⟨co_X12_broken, in_RX12, ⟨by decide, by decide⟩, by decide +kernel⟩
theorem im_X12_broken : Cond.instanceMethod yX12_broken ∈ nk_T := nk_in (i := 1729) (by decide +kernel) rfl
theorem se_RX12_X12_broken : Cond.selects RX12 yX12_broken yX12_broken ∈ nk_T := nk_in (i := 1730) (by decide +kernel) rfl
theorem co_L_size : Cond.codeWith yL_size cL_size 4 (some FieldType.int) [(0, 9, 12, 13)] ∈ nk_T := nk_in (i := 1223) (by decide +kernel) rfl
theorem my_L_size : nk_MyW yL_size cL_size 4 (some FieldType.int) [(0, 9, 12, 13)] 3 := ⟨co_L_size, in_RL, ⟨by decide, by decide⟩, by decide +kernel⟩
theorem st_L_size : Cond.static yL_size ∈ nk_T := nk_in (i := 1222) (by decide +kernel) rfl
theorem ml_RL_265 : Cond.methodLink RL 265 yL_size ∈ nk_T := nk_in (i := 1221) (by decide +kernel) rfl
theorem ml_RL_267 : Cond.methodLink RL 267 yX12_size ∈ nk_T := nk_in (i := 1732) (by decide +kernel) rfl
theorem co_X12_size : Cond.code yX12_size cX12_size 2 (some FieldType.int) ∈ nk_T := nk_in (i := 1735) (by decide +kernel) rfl
theorem my_X12_size : nk_My yX12_size cX12_size 2 (some FieldType.int) 1 := ⟨co_X12_size, in_RX12, ⟨by decide, by decide⟩, by decide +kernel⟩
theorem im_X12_size : Cond.instanceMethod yX12_size ∈ nk_T := nk_in (i := 1733) (by decide +kernel) rfl
theorem se_RX12_X12_size : Cond.selects RX12 yX12_size yX12_size ∈ nk_T := nk_in (i := 1734) (by decide +kernel) rfl
theorem co_L_copied : Cond.codeWith yL_copied cL_copied 6 (some FieldType.int) [(0, 12, 15, 13)] ∈ nk_T := nk_in (i := 1230) (by decide +kernel) rfl
theorem my_L_copied : nk_MyW yL_copied cL_copied 6 (some FieldType.int) [(0, 12, 15, 13)] 5 := ⟨co_L_copied, in_RL, ⟨by decide, by decide⟩, by decide +kernel⟩
theorem st_L_copied : Cond.static yL_copied ∈ nk_T := nk_in (i := 1229) (by decide +kernel) rfl
theorem ml_RL_268 : Cond.methodLink RL 268 yL_copied ∈ nk_T := nk_in (i := 1228) (by decide +kernel) rfl
theorem ml_RL_270 : Cond.methodLink RL 270 yX12_copied ∈ nk_T := nk_in (i := 1736) (by decide +kernel) rfl
theorem co_X12_copied : Cond.code yX12_copied cX12_copied 4 (some FieldType.int) ∈ nk_T := nk_in (i := 1739) (by decide +kernel) rfl
theorem my_X12_copied : nk_My yX12_copied cX12_copied 4 (some FieldType.int) 3 := ⟨co_X12_copied, in_RX12, ⟨by decide, by decide⟩, by decide +kernel⟩
theorem im_X12_copied : Cond.instanceMethod yX12_copied ∈ nk_T := nk_in (i := 1737) (by decide +kernel) rfl
theorem se_RX12_X12_copied : Cond.selects RX12 yX12_copied yX12_copied ∈ nk_T := nk_in (i := 1738) (by decide +kernel) rfl
theorem co_L_brokenCopy : Cond.codeWith yL_brokenCopy cL_brokenCopy 4 (some FieldType.int) [(0, 9, 12, 13)] ∈ nk_T := nk_in (i := 1237) (by decide +kernel) rfl
theorem my_L_brokenCopy : nk_MyW yL_brokenCopy cL_brokenCopy 4 (some FieldType.int) [(0, 9, 12, 13)] 3 := ⟨co_L_brokenCopy, in_RL, ⟨by decide, by decide⟩, by decide +kernel⟩
theorem st_L_brokenCopy : Cond.static yL_brokenCopy ∈ nk_T := nk_in (i := 1236) (by decide +kernel) rfl
theorem ml_RL_271 : Cond.methodLink RL 271 yL_brokenCopy ∈ nk_T := nk_in (i := 1235) (by decide +kernel) rfl
theorem ml_RL_273 : Cond.methodLink RL 273 yX12_brokenCopy ∈ nk_T := nk_in (i := 1740) (by decide +kernel) rfl
theorem co_X12_brokenCopy : Cond.code yX12_brokenCopy cX12_brokenCopy 3 (some FieldType.int) ∈ nk_T := nk_in (i := 1743) (by decide +kernel) rfl
theorem my_X12_brokenCopy : nk_My yX12_brokenCopy cX12_brokenCopy 3 (some FieldType.int) 1 := ⟨co_X12_brokenCopy, in_RX12, ⟨by decide, by decide⟩, by decide +kernel⟩
theorem im_X12_brokenCopy : Cond.instanceMethod yX12_brokenCopy ∈ nk_T := nk_in (i := 1741) (by decide +kernel) rfl
theorem se_RX12_X12_brokenCopy : Cond.selects RX12 yX12_brokenCopy yX12_brokenCopy ∈ nk_T := nk_in (i := 1742) (by decide +kernel) rfl
theorem co_L_isTrue : Cond.codeWith yL_isTrue cL_isTrue 4 (some FieldType.int) [(0, 16, 19, 13)] ∈ nk_T := nk_in (i := 1249) (by decide +kernel) rfl
theorem my_L_isTrue : nk_MyW yL_isTrue cL_isTrue 4 (some FieldType.int) [(0, 16, 19, 13)] 3 := ⟨co_L_isTrue, in_RL, ⟨by decide, by decide⟩, by decide +kernel⟩
theorem st_L_isTrue : Cond.static yL_isTrue ∈ nk_T := nk_in (i := 1248) (by decide +kernel) rfl
theorem ml_RL_274 : Cond.methodLink RL 274 yL_isTrue ∈ nk_T := nk_in (i := 1247) (by decide +kernel) rfl
theorem ml_RL_276 : Cond.methodLink RL 276 yX12_isTrue ∈ nk_T := nk_in (i := 1748) (by decide +kernel) rfl
theorem co_X12_isTrue : Cond.code yX12_isTrue cX12_isTrue 6 (some FieldType.boolean) ∈ nk_T := nk_in (i := 1751) (by decide +kernel) rfl
theorem my_X12_isTrue : nk_My yX12_isTrue cX12_isTrue 6 (some FieldType.boolean) 1 := ⟨co_X12_isTrue, in_RX12, ⟨by decide, by decide⟩, by decide +kernel⟩
theorem im_X12_isTrue : Cond.instanceMethod yX12_isTrue ∈ nk_T := nk_in (i := 1749) (by decide +kernel) rfl
theorem se_RX12_X12_isTrue : Cond.selects RX12 yX12_isTrue yX12_isTrue ∈ nk_T := nk_in (i := 1750) (by decide +kernel) rfl
theorem co_X11_init : Cond.code yX11_init cX11_init 2 (none : Option FieldType) ∈ nk_T := nk_in (i := 95) (by decide +kernel) rfl
theorem my_X11_init : nk_My yX11_init cX11_init 2 (none : Option FieldType) 0 := ⟨co_X11_init, in_RX11, ⟨by decide, by decide⟩, by decide +kernel⟩
theorem im_X11_init : Cond.instanceMethod yX11_init ∈ nk_T := nk_in (i := 94) (by decide +kernel) rfl
theorem ml_RL_134 : Cond.methodLink RL 134 yX11_init ∈ nk_T := nk_in (i := 93) (by decide +kernel) rfl
theorem co_X12_init : Cond.code yX12_init cX12_init 2 (none : Option FieldType) ∈ nk_T := nk_in (i := 1266) (by decide +kernel) rfl
theorem my_X12_init : nk_My yX12_init cX12_init 2 (none : Option FieldType) 0 := ⟨co_X12_init, in_RX12, ⟨by decide, by decide⟩, by decide +kernel⟩
theorem im_X12_init : Cond.instanceMethod yX12_init ∈ nk_T := nk_in (i := 1265) (by decide +kernel) rfl
theorem ml_RL_137 : Cond.methodLink RL 137 yX12_init ∈ nk_T := nk_in (i := 1264) (by decide +kernel) rfl
theorem ac_long : Cond.arrayClass (newarray.typeOf .long) ∈ nk_T := nk_in (i := 1752) (by decide +kernel) rfl
theorem cl_RL_135 : Cond.classLink RL 135 "NotaryKioskModel" ∈ nk_T := nk_in (i := 1262) (by decide +kernel) rfl
theorem ins_RX12 : Cond.instantiable RX12 45 ∈ nk_T := nk_in (i := 1263) (by decide +kernel) rfl
theorem cl_RL_8 : Cond.classLink RL 8 "NotaryKiosk" ∈ nk_T := nk_in (i := 91) (by decide +kernel) rfl
theorem ins_RX11 : Cond.instantiable RX11 9 ∈ nk_T := nk_in (i := 92) (by decide +kernel) rfl
