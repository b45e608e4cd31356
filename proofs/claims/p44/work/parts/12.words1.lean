theorem ml_RX5_1 : Cond.methodLink RX5 1 ⟨"java/lang/Object", "<init>", "()V"⟩ ∈ nk_T := nk_in (i := 136) (by decide +kernel) rfl
theorem fk_RX6_9 : nk_Fk RX6 9 0 true [14] := ⟨⟨7, rfl, ⟨(RX6, TX6, 2), "NotaryKiosk$Links", rfl, by decide, nk_in (i := 64) (by decide +kernel) rfl, Or.inl rfl⟩, rfl⟩, trivial⟩
theorem fw_RX6_9_i : nk_Fw RX6 true 0 [14] := ⟨fun ci q e h => by
    have e2 : ci = 7 := by omega
    subst e2
    cases h
    exact ⟨Or.inr ⟨rfl, rfl, rfl⟩, Or.inr ⟨rfl, Or.inr ⟨.int, by decide +kernel⟩⟩⟩, trivial⟩
theorem fk_RX6_15 : nk_Fk RX6 15 1 true [14] := ⟨⟨7, rfl, ⟨(RX6, TX6, 2), "NotaryKiosk$Links", rfl, by decide, nk_in (i := 65) (by decide +kernel) rfl, Or.inl rfl⟩, rfl⟩, trivial⟩
theorem fw_RX6_15_i : nk_Fw RX6 true 1 [14] := ⟨fun ci q e h => by
    have e2 : ci = 7 := by omega
    subst e2
    cases h
    exact ⟨Or.inr ⟨rfl, rfl, rfl⟩, Or.inr ⟨rfl, Or.inr ⟨.int, by decide +kernel⟩⟩⟩, trivial⟩
theorem ml_RX6_3 : Cond.methodLink RX6 3 ⟨"java/lang/Object", "<init>", "()V"⟩ ∈ nk_T := nk_in (i := 63) (by decide +kernel) rfl
theorem nl_RX6_18 : Cond.methodLinkNest RX6 18 yX11_hasBit "NotaryKiosk" ∈ nk_T := nk_in (i := 308) (by decide +kernel) rfl
theorem co_J6_bitCount_0f7a4 : Cond.code yJ6_bitCount_0f7a4 cJ6_bitCount_0f7a4 1 (some FieldType.int) ∈ nk_T := nk_in (i := 341) (by decide +kernel) rfl
theorem in_RJ6 : Cond.initialized RJ6 ∈ nk_T := nk_in (i := 36) (by decide +kernel) rfl
theorem my_J6_bitCount_0f7a4 : nk_My yJ6_bitCount_0f7a4 cJ6_bitCount_0f7a4 1 (some FieldType.int) 1 := ⟨co_J6_bitCount_0f7a4, in_RJ6, ⟨by decide, by decide⟩, by decide +kernel⟩
theorem st_J6_bitCount_0f7a4 : Cond.static yJ6_bitCount_0f7a4 ∈ nk_T := nk_in (i := 340) (by decide +kernel) rfl
theorem ml_RX6_22 : Cond.methodLink RX6 22 yJ6_bitCount_0f7a4 ∈ nk_T := nk_in (i := 339) (by decide +kernel) rfl
theorem nl_RX6_28 : Cond.methodLinkNest RX6 28 yX11_bit "NotaryKiosk" ∈ nk_T := nk_in (i := 334) (by decide +kernel) rfl
theorem ml_RX6_31 : Cond.methodLink RX6 31 arraycopyName ∈ nk_T := nk_in (i := 363) (by decide +kernel) rfl
theorem ml_RX7_11 : Cond.methodLink RX7 11 yJx4a65c_init_da8c8 ∈ nk_T := nk_in (i := 80) (by decide +kernel) rfl
theorem fk_RX7_12 : nk_Fk RX7 12 0 true [15] := ⟨⟨8, rfl, ⟨(RX7, TX7, 2), "NotaryKiosk$News", rfl, by decide, nk_in (i := 104) (by decide +kernel) rfl, Or.inl rfl⟩, rfl⟩, trivial⟩
theorem fw_RX7_12_i : nk_Fw RX7 true 0 [15] := ⟨fun ci q e h => by
    have e2 : ci = 8 := by omega
    subst e2
    cases h
    exact ⟨Or.inr ⟨rfl, rfl, rfl⟩, Or.inr ⟨rfl, Or.inl ⟨"java/util/ArrayList", by decide +kernel⟩⟩⟩, trivial⟩
theorem fk_RX7_18 : nk_Fk RX7 18 1 true [15] := ⟨⟨8, rfl, ⟨(RX7, TX7, 2), "NotaryKiosk$News", rfl, by decide, nk_in (i := 105) (by decide +kernel) rfl, Or.inl rfl⟩, rfl⟩, trivial⟩
theorem fw_RX7_18_i : nk_Fw RX7 true 1 [15] := ⟨fun ci q e h => by
    have e2 : ci = 8 := by omega
    subst e2
    cases h
    exact ⟨Or.inr ⟨rfl, rfl, rfl⟩, Or.inr ⟨rfl, Or.inr ⟨.boolean, by decide +kernel⟩⟩⟩, trivial⟩
theorem ac_boolean : Cond.arrayClass (newarray.typeOf .boolean) ∈ nk_T := nk_in (i := 111) (by decide +kernel) rfl
theorem cl_RX7_9 : Cond.classLink RX7 9 "java/util/ArrayList" ∈ nk_T := nk_in (i := 78) (by decide +kernel) rfl
theorem ml_RX7_3 : Cond.methodLink RX7 3 ⟨"java/lang/Object", "<init>", "()V"⟩ ∈ nk_T := nk_in (i := 77) (by decide +kernel) rfl
theorem ml_RX7_22 : Cond.methodLink RX7 22 yJx4a65c_size_8abf5 ∈ nk_T := nk_in (i := 370) (by decide +kernel) rfl
theorem ca_Piece : nk_Ca "NotaryKiosk$Piece" [8, 12, 16, 17] := ⟨⟨1, (RX0, TX0, 11), rfl, rfl, Or.inr (nk_in (i := 1143) (by decide +kernel) rfl)⟩, ⟨⟨5, (RX4, TX4, 9), rfl, rfl, Or.inr (nk_in (i := 1144) (by decide +kernel) rfl)⟩, ⟨⟨9, (RX9, TX9, 15), rfl, rfl, Or.inr (nk_in (i := 1145) (by decide +kernel) rfl)⟩, ⟨⟨10, (RX10, TX10, 7), rfl, rfl, Or.inr (nk_in (i := 1146) (by decide +kernel) rfl)⟩, trivial⟩⟩⟩⟩
theorem cl_RX7_30 : Cond.classLink RX7 30 "NotaryKiosk$Piece" ∈ nk_T := nk_in (i := 385) (by decide +kernel) rfl
theorem ml_RX7_26 : Cond.methodLink RX7 26 yJx4a65c_get_915e3 ∈ nk_T := nk_in (i := 371) (by decide +kernel) rfl
theorem fk_RX8_21 : nk_Fk RX8 21 3 false [8, 12, 16, 17] := ⟨⟨1, rfl, ⟨(RX0, TX0, 11), "NotaryKiosk$Piece", rfl, by decide, nk_in (i := 494) (by decide +kernel) rfl, Or.inl rfl⟩, rfl⟩, ⟨⟨5, rfl, ⟨(RX4, TX4, 9), "NotaryKiosk$Piece", rfl, by decide, nk_in (i := 494) (by decide +kernel) rfl, Or.inl rfl⟩, rfl⟩, ⟨⟨9, rfl, ⟨(RX9, TX9, 15), "NotaryKiosk$Piece", rfl, by decide, nk_in (i := 494) (by decide +kernel) rfl, Or.inl rfl⟩, rfl⟩, ⟨⟨10, rfl, ⟨(RX10, TX10, 7), "NotaryKiosk$Piece", rfl, by decide, nk_in (i := 494) (by decide +kernel) rfl, Or.inl rfl⟩, rfl⟩, trivial⟩⟩⟩⟩
theorem nl_RX8_25 : Cond.methodLinkNest RX8 25 yX11_bit "NotaryKiosk" ∈ nk_T := nk_in (i := 399) (by decide +kernel) rfl
theorem fw_RX8_21_n : nk_Fw RX8 false 3 [8, 12, 16, 17] := ⟨fun ci q e h => by
    have e2 : ci = 1 := by omega
    subst e2
    cases h
    exact ⟨Or.inl rfl, Or.inl ⟨by decide +kernel, rfl⟩⟩, ⟨fun ci q e h => by
    have e2 : ci = 5 := by omega
    subst e2
    cases h
    exact ⟨Or.inl rfl, Or.inl ⟨by decide +kernel, rfl⟩⟩, ⟨fun ci q e h => by
    have e2 : ci = 9 := by omega
    subst e2
    cases h
    exact ⟨Or.inl rfl, Or.inl ⟨by decide +kernel, rfl⟩⟩, ⟨fun ci q e h => by
    have e2 : ci = 10 := by omega
    subst e2
    cases h
    exact ⟨Or.inl rfl, Or.inl ⟨by decide +kernel, rfl⟩⟩, trivial⟩⟩⟩⟩
theorem fk_RX7_32 : nk_Fk RX7 32 0 false [8, 12, 16, 17] := ⟨⟨1, rfl, ⟨(RX0, TX0, 11), "NotaryKiosk$Piece", rfl, by decide, nk_in (i := 482) (by decide +kernel) rfl, Or.inl rfl⟩, rfl⟩, ⟨⟨5, rfl, ⟨(RX4, TX4, 9), "NotaryKiosk$Piece", rfl, by decide, nk_in (i := 482) (by decide +kernel) rfl, Or.inl rfl⟩, rfl⟩, ⟨⟨9, rfl, ⟨(RX9, TX9, 15), "NotaryKiosk$Piece", rfl, by decide, nk_in (i := 482) (by decide +kernel) rfl, Or.inl rfl⟩, rfl⟩, ⟨⟨10, rfl, ⟨(RX10, TX10, 7), "NotaryKiosk$Piece", rfl, by decide, nk_in (i := 482) (by decide +kernel) rfl, Or.inl rfl⟩, rfl⟩, trivial⟩⟩⟩⟩
theorem fw_RX7_32_n : nk_Fw RX7 false 0 [8, 12, 16, 17] := ⟨fun ci q e h => by
    have e2 : ci = 1 := by omega
    subst e2
    cases h
    exact ⟨Or.inl rfl, Or.inl ⟨by decide +kernel, rfl⟩⟩, ⟨fun ci q e h => by
    have e2 : ci = 5 := by omega
    subst e2
    cases h
    exact ⟨Or.inl rfl, Or.inl ⟨by decide +kernel, rfl⟩⟩, ⟨fun ci q e h => by
    have e2 : ci = 9 := by omega
    subst e2
    cases h
    exact ⟨Or.inl rfl, Or.inl ⟨by decide +kernel, rfl⟩⟩, ⟨fun ci q e h => by
    have e2 : ci = 10 := by omega
    subst e2
    cases h
    exact ⟨Or.inl rfl, Or.inl ⟨by decide +kernel, rfl⟩⟩, trivial⟩⟩⟩⟩
theorem fk_RX7_36 : nk_Fk RX7 36 1 false [8, 12, 16, 17] := ⟨⟨1, rfl, ⟨(RX0, TX0, 11), "NotaryKiosk$Piece", rfl, by decide, nk_in (i := 489) (by decide +kernel) rfl, Or.inl rfl⟩, rfl⟩, ⟨⟨5, rfl, ⟨(RX4, TX4, 9), "NotaryKiosk$Piece", rfl, by decide, nk_in (i := 489) (by decide +kernel) rfl, Or.inl rfl⟩, rfl⟩, ⟨⟨9, rfl, ⟨(RX9, TX9, 15), "NotaryKiosk$Piece", rfl, by decide, nk_in (i := 489) (by decide +kernel) rfl, Or.inl rfl⟩, rfl⟩, ⟨⟨10, rfl, ⟨(RX10, TX10, 7), "NotaryKiosk$Piece", rfl, by decide, nk_in (i := 489) (by decide +kernel) rfl, Or.inl rfl⟩, rfl⟩, trivial⟩⟩⟩⟩
theorem fw_RX7_36_n : nk_Fw RX7 false 1 [8, 12, 16, 17] := ⟨fun ci q e h => by
    have e2 : ci = 1 := by omega
    subst e2
    cases h
    exact ⟨Or.inl rfl, Or.inl ⟨by decide +kernel, rfl⟩⟩, ⟨fun ci q e h => by
    have e2 : ci = 5 := by omega
    subst e2
    cases h
    exact ⟨Or.inl rfl, Or.inl ⟨by decide +kernel, rfl⟩⟩, ⟨fun ci q e h => by
    have e2 : ci = 9 := by omega
    subst e2
    cases h
    exact ⟨Or.inl rfl, Or.inl ⟨by decide +kernel, rfl⟩⟩, ⟨fun ci q e h => by
    have e2 : ci = 10 := by omega
    subst e2
    cases h
    exact ⟨Or.inl rfl, Or.inl ⟨by decide +kernel, rfl⟩⟩, trivial⟩⟩⟩⟩
theorem fk_RX7_39 : nk_Fk RX7 39 2 false [8, 12, 16, 17] := ⟨⟨1, rfl, ⟨(RX0, TX0, 11), "NotaryKiosk$Piece", rfl, by decide, nk_in (i := 491) (by decide +kernel) rfl, Or.inl rfl⟩, rfl⟩, ⟨⟨5, rfl, ⟨(RX4, TX4, 9), "NotaryKiosk$Piece", rfl, by decide, nk_in (i := 491) (by decide +kernel) rfl, Or.inl rfl⟩, rfl⟩, ⟨⟨9, rfl, ⟨(RX9, TX9, 15), "NotaryKiosk$Piece", rfl, by decide, nk_in (i := 491) (by decide +kernel) rfl, Or.inl rfl⟩, rfl⟩, ⟨⟨10, rfl, ⟨(RX10, TX10, 7), "NotaryKiosk$Piece", rfl, by decide, nk_in (i := 491) (by decide +kernel) rfl, Or.inl rfl⟩, rfl⟩, trivial⟩⟩⟩⟩
theorem fw_RX7_39_n : nk_Fw RX7 false 2 [8, 12, 16, 17] := ⟨fun ci q e h => by
    have e2 : ci = 1 := by omega
    subst e2
    cases h
    exact ⟨Or.inl rfl, Or.inl ⟨by decide +kernel, rfl⟩⟩, ⟨fun ci q e h => by
    have e2 : ci = 5 := by omega
    subst e2
    cases h
    exact ⟨Or.inl rfl, Or.inl ⟨by decide +kernel, rfl⟩⟩, ⟨fun ci q e h => by
    have e2 : ci = 9 := by omega
    subst e2
    cases h
    exact ⟨Or.inl rfl, Or.inl ⟨by decide +kernel, rfl⟩⟩, ⟨fun ci q e h => by
    have e2 : ci = 10 := by omega
    subst e2
    cases h
    exact ⟨Or.inl rfl, Or.inl ⟨by decide +kernel, rfl⟩⟩, trivial⟩⟩⟩⟩
theorem nl_RX7_46 : Cond.methodLinkNest RX7 46 yX11_bit "NotaryKiosk" ∈ nk_T := nk_in (i := 422) (by decide +kernel) rfl
theorem fk_RX7_50 : nk_Fk RX7 50 4 false [8, 12, 16, 17] := ⟨⟨1, rfl, ⟨(RX0, TX0, 11), "NotaryKiosk$Piece", rfl, by decide, nk_in (i := 497) (by decide +kernel) rfl, Or.inl rfl⟩, rfl⟩, ⟨⟨5, rfl, ⟨(RX4, TX4, 9), "NotaryKiosk$Piece", rfl, by decide, nk_in (i := 497) (by decide +kernel) rfl, Or.inl rfl⟩, rfl⟩, ⟨⟨9, rfl, ⟨(RX9, TX9, 15), "NotaryKiosk$Piece", rfl, by decide, nk_in (i := 497) (by decide +kernel) rfl, Or.inl rfl⟩, rfl⟩, ⟨⟨10, rfl, ⟨(RX10, TX10, 7), "NotaryKiosk$Piece", rfl, by decide, nk_in (i := 497) (by decide +kernel) rfl, Or.inl rfl⟩, rfl⟩, trivial⟩⟩⟩⟩
theorem fw_RX7_50_n : nk_Fw RX7 false 4 [8, 12, 16, 17] := ⟨fun ci q e h => by
    have e2 : ci = 1 := by omega
    subst e2
    cases h
    exact ⟨Or.inl rfl, Or.inl ⟨by decide +kernel, rfl⟩⟩, ⟨fun ci q e h => by
    have e2 : ci = 5 := by omega
    subst e2
    cases h
    exact ⟨Or.inl rfl, Or.inl ⟨by decide +kernel, rfl⟩⟩, ⟨fun ci q e h => by
    have e2 : ci = 9 := by omega
    subst e2
    cases h
    exact ⟨Or.inl rfl, Or.inl ⟨by decide +kernel, rfl⟩⟩, ⟨fun ci q e h => by
    have e2 : ci = 10 := by omega
    subst e2
    cases h
    exact ⟨Or.inl rfl, Or.inl ⟨by decide +kernel, rfl⟩⟩, trivial⟩⟩⟩⟩
theorem ml_RX7_53 : Cond.methodLink RX7 53 yJx4a65c_add_9ea2d ∈ nk_T := nk_in (i := 596) (by decide +kernel) rfl
theorem ml_RX7_42 : Cond.methodLink RX7 42 yX8_comeTo ∈ nk_T := nk_in (i := 391) (by decide +kernel) rfl
theorem co_X8_comeTo : Cond.code yX8_comeTo cX8_comeTo 3 (none : Option FieldType) ∈ nk_T := nk_in (i := 398) (by decide +kernel) rfl
theorem my_X8_comeTo : nk_My yX8_comeTo cX8_comeTo 3 (none : Option FieldType) 2 := ⟨co_X8_comeTo, in_RX8, ⟨by decide, by decide⟩, by decide +kernel⟩
theorem im_X8_comeTo : Cond.instanceMethod yX8_comeTo ∈ nk_T := nk_in (i := 392) (by decide +kernel) rfl
theorem se_RX0_X8_comeTo : Cond.selects RX0 yX8_comeTo yX8_comeTo ∈ nk_T := nk_in (i := 394) (by decide +kernel) rfl
theorem sm_X8_comeTo : Cond.sameMethod "NotaryKiosk$Piece" "NotaryKiosk$Piece" "comeTo" "(II)V" ∈ nk_T := nk_in (i := 393) (by decide +kernel) rfl
theorem se_RX4_X8_comeTo : Cond.selects RX4 yX8_comeTo yX8_comeTo ∈ nk_T := nk_in (i := 395) (by decide +kernel) rfl
theorem se_RX9_X8_comeTo : Cond.selects RX9 yX8_comeTo yX8_comeTo ∈ nk_T := nk_in (i := 396) (by decide +kernel) rfl
theorem se_RX10_X8_comeTo : Cond.selects RX10 yX8_comeTo yX8_comeTo ∈ nk_T := nk_in (i := 397) (by decide +kernel) rfl
theorem ml_RX7_70 : Cond.methodLink RX7 70 yJ6_bitCount_0f7a4 ∈ nk_T := nk_in (i := 400) (by decide +kernel) rfl
theorem nl_RX7_66 : Cond.methodLinkNest RX7 66 yX11_hasBit "NotaryKiosk" ∈ nk_T := nk_in (i := 390) (by decide +kernel) rfl
theorem fk_RX7_57 : nk_Fk RX7 57 3 false [8, 12, 16, 17] := ⟨⟨1, rfl, ⟨(RX0, TX0, 11), "NotaryKiosk$Piece", rfl, by decide, nk_in (i := 495) (by decide +kernel) rfl, Or.inl rfl⟩, rfl⟩, ⟨⟨5, rfl, ⟨(RX4, TX4, 9), "NotaryKiosk$Piece", rfl, by decide, nk_in (i := 495) (by decide +kernel) rfl, Or.inl rfl⟩, rfl⟩, ⟨⟨9, rfl, ⟨(RX9, TX9, 15), "NotaryKiosk$Piece", rfl, by decide, nk_in (i := 495) (by decide +kernel) rfl, Or.inl rfl⟩, rfl⟩, ⟨⟨10, rfl, ⟨(RX10, TX10, 7), "NotaryKiosk$Piece", rfl, by decide, nk_in (i := 495) (by decide +kernel) rfl, Or.inl rfl⟩, rfl⟩, trivial⟩⟩⟩⟩
theorem ml_RX7_60 : Cond.methodLink RX7 60 yX6_reach ∈ nk_T := nk_in (i := 386) (by decide +kernel) rfl
theorem co_X6_reach : Cond.code yX6_reach cX6_reach 5 (some FieldType.int) ∈ nk_T := nk_in (i := 389) (by decide +kernel) rfl
theorem in_RX6 : Cond.initialized RX6 ∈ nk_T := nk_in (i := 23) (by decide +kernel) rfl
theorem my_X6_reach : nk_My yX6_reach cX6_reach 5 (some FieldType.int) 2 := ⟨co_X6_reach, in_RX6, ⟨by decide, by decide⟩, by decide +kernel⟩
theorem im_X6_reach : Cond.instanceMethod yX6_reach ∈ nk_T := nk_in (i := 387) (by decide +kernel) rfl
theorem se_RX6_X6_reach : Cond.selects RX6 yX6_reach yX6_reach ∈ nk_T := nk_in (i := 388) (by decide +kernel) rfl
theorem fk_RX8_29 : nk_Fk RX8 29 4 false [8, 12, 16, 17] := ⟨⟨1, rfl, ⟨(RX0, TX0, 11), "NotaryKiosk$Piece", rfl, by decide, nk_in (i := 496) (by decide +kernel) rfl, Or.inl rfl⟩, rfl⟩, ⟨⟨5, rfl, ⟨(RX4, TX4, 9), "NotaryKiosk$Piece", rfl, by decide, nk_in (i := 496) (by decide +kernel) rfl, Or.inl rfl⟩, rfl⟩, ⟨⟨9, rfl, ⟨(RX9, TX9, 15), "NotaryKiosk$Piece", rfl, by decide, nk_in (i := 496) (by decide +kernel) rfl, Or.inl rfl⟩, rfl⟩, ⟨⟨10, rfl, ⟨(RX10, TX10, 7), "NotaryKiosk$Piece", rfl, by decide, nk_in (i := 496) (by decide +kernel) rfl, Or.inl rfl⟩, rfl⟩, trivial⟩⟩⟩⟩
theorem nl_RX8_32 : Cond.methodLinkNest RX8 32 yX11_hasBit "NotaryKiosk" ∈ nk_T := nk_in (i := 421) (by decide +kernel) rfl
theorem ml_RX7_75 : Cond.methodLink RX7 75 yX8_isInMail ∈ nk_T := nk_in (i := 413) (by decide +kernel) rfl
theorem co_X8_isInMail : Cond.code yX8_isInMail cX8_isInMail 2 (some FieldType.boolean) ∈ nk_T := nk_in (i := 420) (by decide +kernel) rfl
theorem my_X8_isInMail : nk_My yX8_isInMail cX8_isInMail 2 (some FieldType.boolean) 1 := ⟨co_X8_isInMail, in_RX8, ⟨by decide, by decide⟩, by decide +kernel⟩
theorem im_X8_isInMail : Cond.instanceMethod yX8_isInMail ∈ nk_T := nk_in (i := 414) (by decide +kernel) rfl
theorem se_RX0_X8_isInMail : Cond.selects RX0 yX8_isInMail yX8_isInMail ∈ nk_T := nk_in (i := 416) (by decide +kernel) rfl
theorem sm_X8_isInMail : Cond.sameMethod "NotaryKiosk$Piece" "NotaryKiosk$Piece" "isInMail" "(I)Z" ∈ nk_T := nk_in (i := 415) (by decide +kernel) rfl
theorem se_RX4_X8_isInMail : Cond.selects RX4 yX8_isInMail yX8_isInMail ∈ nk_T := nk_in (i := 417) (by decide +kernel) rfl
theorem se_RX9_X8_isInMail : Cond.selects RX9 yX8_isInMail yX8_isInMail ∈ nk_T := nk_in (i := 418) (by decide +kernel) rfl
theorem se_RX10_X8_isInMail : Cond.selects RX10 yX8_isInMail yX8_isInMail ∈ nk_T := nk_in (i := 419) (by decide +kernel) rfl
theorem ml_RX7_79 : Cond.methodLink RX7 79 yX7_unread ∈ nk_T := nk_in (i := 409) (by decide +kernel) rfl
theorem co_X7_unread : Cond.code yX7_unread cX7_unread 4 (some FieldType.int) ∈ nk_T := nk_in (i := 412) (by decide +kernel) rfl
theorem in_RX7 : Cond.initialized RX7 ∈ nk_T := nk_in (i := 24) (by decide +kernel) rfl
theorem my_X7_unread : nk_My yX7_unread cX7_unread 4 (some FieldType.int) 1 := ⟨co_X7_unread, in_RX7, ⟨by decide, by decide⟩, by decide +kernel⟩
theorem im_X7_unread : Cond.instanceMethod yX7_unread ∈ nk_T := nk_in (i := 410) (by decide +kernel) rfl
theorem se_RX7_X7_unread : Cond.selects RX7 yX7_unread yX7_unread ∈ nk_T := nk_in (i := 411) (by decide +kernel) rfl
theorem fk_RX8_36 : nk_Fk RX8 36 1 false [8, 12, 16, 17] := ⟨⟨1, rfl, ⟨(RX0, TX0, 11), "NotaryKiosk$Piece", rfl, by decide, nk_in (i := 488) (by decide +kernel) rfl, Or.inl rfl⟩, rfl⟩, ⟨⟨5, rfl, ⟨(RX4, TX4, 9), "NotaryKiosk$Piece", rfl, by decide, nk_in (i := 488) (by decide +kernel) rfl, Or.inl rfl⟩, rfl⟩, ⟨⟨9, rfl, ⟨(RX9, TX9, 15), "NotaryKiosk$Piece", rfl, by decide, nk_in (i := 488) (by decide +kernel) rfl, Or.inl rfl⟩, rfl⟩, ⟨⟨10, rfl, ⟨(RX10, TX10, 7), "NotaryKiosk$Piece", rfl, by decide, nk_in (i := 488) (by decide +kernel) rfl, Or.inl rfl⟩, rfl⟩, trivial⟩⟩⟩⟩
theorem fk_RX8_39 : nk_Fk RX8 39 0 false [8, 12, 16, 17] := ⟨⟨1, rfl, ⟨(RX0, TX0, 11), "NotaryKiosk$Piece", rfl, by decide, nk_in (i := 483) (by decide +kernel) rfl, Or.inl rfl⟩, rfl⟩, ⟨⟨5, rfl, ⟨(RX4, TX4, 9), "NotaryKiosk$Piece", rfl, by decide, nk_in (i := 483) (by decide +kernel) rfl, Or.inl rfl⟩, rfl⟩, ⟨⟨9, rfl, ⟨(RX9, TX9, 15), "NotaryKiosk$Piece", rfl, by decide, nk_in (i := 483) (by decide +kernel) rfl, Or.inl rfl⟩, rfl⟩, ⟨⟨10, rfl, ⟨(RX10, TX10, 7), "NotaryKiosk$Piece", rfl, by decide, nk_in (i := 483) (by decide +kernel) rfl, Or.inl rfl⟩, rfl⟩, trivial⟩⟩⟩⟩
theorem fk_RX8_42 : nk_Fk RX8 42 2 false [8, 12, 16, 17] := ⟨⟨1, rfl, ⟨(RX0, TX0, 11), "NotaryKiosk$Piece", rfl, by decide, nk_in (i := 492) (by decide +kernel) rfl, Or.inl rfl⟩, rfl⟩, ⟨⟨5, rfl, ⟨(RX4, TX4, 9), "NotaryKiosk$Piece", rfl, by decide, nk_in (i := 492) (by decide +kernel) rfl, Or.inl rfl⟩, rfl⟩, ⟨⟨9, rfl, ⟨(RX9, TX9, 15), "NotaryKiosk$Piece", rfl, by decide, nk_in (i := 492) (by decide +kernel) rfl, Or.inl rfl⟩, rfl⟩, ⟨⟨10, rfl, ⟨(RX10, TX10, 7), "NotaryKiosk$Piece", rfl, by decide, nk_in (i := 492) (by decide +kernel) rfl, Or.inl rfl⟩, rfl⟩, trivial⟩⟩⟩⟩
theorem ml_RX7_82 : Cond.methodLink RX7 82 yX8_couldBeReadFor ∈ nk_T := nk_in (i := 849) (by decide +kernel) rfl
theorem co_X8_couldBeReadFor : Cond.code yX8_couldBeReadFor cX8_couldBeReadFor 2 (some FieldType.boolean) ∈ nk_T := nk_in (i := 856) (by decide +kernel) rfl
theorem my_X8_couldBeReadFor : nk_My yX8_couldBeReadFor cX8_couldBeReadFor 2 (some FieldType.boolean) 1 := ⟨co_X8_couldBeReadFor, in_RX8, ⟨by decide, by decide⟩, by decide +kernel⟩
theorem im_X8_couldBeReadFor : Cond.instanceMethod yX8_couldBeReadFor ∈ nk_T := nk_in (i := 850) (by decide +kernel) rfl
theorem se_RX0_X8_couldBeReadFor : Cond.selects RX0 yX8_couldBeReadFor yX8_couldBeReadFor ∈ nk_T := nk_in (i := 852) (by decide +kernel) rfl
theorem sm_X8_couldBeReadFor : Cond.sameMethod "NotaryKiosk$Piece" "NotaryKiosk$Piece" "couldBeReadFor" "(LNotaryKiosk$Piece;)Z" ∈ nk_T := nk_in (i := 851) (by decide +kernel) rfl
theorem se_RX4_X8_couldBeReadFor : Cond.selects RX4 yX8_couldBeReadFor yX8_couldBeReadFor ∈ nk_T := nk_in (i := 853) (by decide +kernel) rfl
theorem se_RX9_X8_couldBeReadFor : Cond.selects RX9 yX8_couldBeReadFor yX8_couldBeReadFor ∈ nk_T := nk_in (i := 854) (by decide +kernel) rfl
theorem se_RX10_X8_couldBeReadFor : Cond.selects RX10 yX8_couldBeReadFor yX8_couldBeReadFor ∈ nk_T := nk_in (i := 855) (by decide +kernel) rfl
theorem fk_RX7_86 : nk_Fk RX7 86 0 false [16] := ⟨⟨9, rfl, ⟨(RX9, TX9, 15), "NotaryKiosk$Power", rfl, by decide, nk_in (i := 484) (by decide +kernel) rfl, Or.inr (nk_in (i := 485) (by decide +kernel) rfl)⟩, rfl⟩, trivial⟩
theorem fk_RX7_92 : nk_Fk RX7 92 7 true [16] := ⟨⟨9, rfl, ⟨(RX9, TX9, 15), "NotaryKiosk$Power", rfl, by decide, nk_in (i := 469) (by decide +kernel) rfl, Or.inl rfl⟩, rfl⟩, trivial⟩
theorem ml_RX7_89 : Cond.methodLink RX7 89 yX7_sees ∈ nk_T := nk_in (i := 624) (by decide +kernel) rfl
theorem co_X7_sees : Cond.code yX7_sees cX7_sees 2 (some FieldType.boolean) ∈ nk_T := nk_in (i := 627) (by decide +kernel) rfl
theorem my_X7_sees : nk_My yX7_sees cX7_sees 2 (some FieldType.boolean) 1 := ⟨co_X7_sees, in_RX7, ⟨by decide, by decide⟩, by decide +kernel⟩
theorem im_X7_sees : Cond.instanceMethod yX7_sees ∈ nk_T := nk_in (i := 626) (by decide +kernel) rfl
theorem se_RX7_X7_sees : Cond.selects RX7 yX7_sees yX7_sees ∈ nk_T := nk_in (i := 9) (by decide +kernel) rfl
theorem fk_RX10_7 : nk_Fk RX10 7 6 true [17] := ⟨⟨10, rfl, ⟨(RX10, TX10, 7), "NotaryKiosk$Revocation", rfl, by decide, nk_in (i := 667) (by decide +kernel) rfl, Or.inl rfl⟩, rfl⟩, trivial⟩
theorem ml_RX7_100 : Cond.methodLink RX7 100 yX8_isRevocationOf ∈ nk_T := nk_in (i := 636) (by decide +kernel) rfl
theorem co_X8_isRevocationOf : Cond.code yX8_isRevocationOf cX8_isRevocationOf 2 (some FieldType.boolean) ∈ nk_T := nk_in (i := 645) (by decide +kernel) rfl
theorem my_X8_isRevocationOf : nk_My yX8_isRevocationOf cX8_isRevocationOf 2 (some FieldType.boolean) 1 := ⟨co_X8_isRevocationOf, in_RX8, ⟨by decide, by decide⟩, by decide +kernel⟩
theorem im_X8_isRevocationOf : Cond.instanceMethod yX8_isRevocationOf ∈ nk_T := nk_in (i := 637) (by decide +kernel) rfl
theorem se_RX0_X8_isRevocationOf : Cond.selects RX0 yX8_isRevocationOf yX8_isRevocationOf ∈ nk_T := nk_in (i := 639) (by decide +kernel) rfl
theorem sm_X8_isRevocationOf : Cond.sameMethod "NotaryKiosk$Piece" "NotaryKiosk$Piece" "isRevocationOf" "(LNotaryKiosk$Power;)Z" ∈ nk_T := nk_in (i := 638) (by decide +kernel) rfl
theorem se_RX4_X8_isRevocationOf : Cond.selects RX4 yX8_isRevocationOf yX8_isRevocationOf ∈ nk_T := nk_in (i := 640) (by decide +kernel) rfl
theorem se_RX9_X8_isRevocationOf : Cond.selects RX9 yX8_isRevocationOf yX8_isRevocationOf ∈ nk_T := nk_in (i := 641) (by decide +kernel) rfl
theorem co_X10_isRevocationOf : Cond.code yX10_isRevocationOf cX10_isRevocationOf 2 (some FieldType.boolean) ∈ nk_T := nk_in (i := 644) (by decide +kernel) rfl
theorem in_RX10 : Cond.initialized RX10 ∈ nk_T := nk_in (i := 45) (by decide +kernel) rfl
theorem my_X10_isRevocationOf : nk_My yX10_isRevocationOf cX10_isRevocationOf 2 (some FieldType.boolean) 1 := ⟨co_X10_isRevocationOf, in_RX10, ⟨by decide, by decide⟩, by decide +kernel⟩
theorem im_X10_isRevocationOf : Cond.instanceMethod yX10_isRevocationOf ∈ nk_T := nk_in (i := 643) (by decide +kernel) rfl
theorem se_RX10_X8_isRevocationOf_X10_isRevocationOf : Cond.selects RX10 yX8_isRevocationOf yX10_isRevocationOf ∈ nk_T := nk_in (i := 642) (by decide +kernel) rfl
theorem ml_RX7_96 : Cond.methodLink RX7 96 yX7_revokesAlone ∈ nk_T := nk_in (i := 632) (by decide +kernel) rfl
theorem co_X7_revokesAlone : Cond.code yX7_revokesAlone cX7_revokesAlone 3 (some FieldType.boolean) ∈ nk_T := nk_in (i := 635) (by decide +kernel) rfl
theorem my_X7_revokesAlone : nk_My yX7_revokesAlone cX7_revokesAlone 3 (some FieldType.boolean) 1 := ⟨co_X7_revokesAlone, in_RX7, ⟨by decide, by decide⟩, by decide +kernel⟩
theorem im_X7_revokesAlone : Cond.instanceMethod yX7_revokesAlone ∈ nk_T := nk_in (i := 634) (by decide +kernel) rfl
theorem se_RX7_X7_revokesAlone : Cond.selects RX7 yX7_revokesAlone yX7_revokesAlone ∈ nk_T := nk_in (i := 10) (by decide +kernel) rfl
theorem ml_RX7_103 : Cond.methodLink RX7 103 yX8_amountBy ∈ nk_T := nk_in (i := 785) (by decide +kernel) rfl
theorem co_X0_amountBy : Cond.code yX0_amountBy cX0_amountBy 2 (some FieldType.int) ∈ nk_T := nk_in (i := 790) (by decide +kernel) rfl
theorem in_RX0 : Cond.initialized RX0 ∈ nk_T := nk_in (i := 48) (by decide +kernel) rfl
theorem my_X0_amountBy : nk_My yX0_amountBy cX0_amountBy 2 (some FieldType.int) 1 := ⟨co_X0_amountBy, in_RX0, ⟨by decide, by decide⟩, by decide +kernel⟩
theorem im_X0_amountBy : Cond.instanceMethod yX0_amountBy ∈ nk_T := nk_in (i := 789) (by decide +kernel) rfl
theorem se_RX0_X8_amountBy_X0_amountBy : Cond.selects RX0 yX8_amountBy yX0_amountBy ∈ nk_T := nk_in (i := 788) (by decide +kernel) rfl
theorem sm_X8_amountBy : Cond.sameMethod "NotaryKiosk$Piece" "NotaryKiosk$Piece" "amountBy" "(LNotaryKiosk$Power;)I" ∈ nk_T := nk_in (i := 787) (by decide +kernel) rfl
theorem im_X8_amountBy : Cond.instanceMethod yX8_amountBy ∈ nk_T := nk_in (i := 786) (by decide +kernel) rfl
theorem co_X8_amountBy : Cond.code yX8_amountBy cX8_amountBy 2 (some FieldType.int) ∈ nk_T := nk_in (i := 798) (by decide +kernel) rfl
theorem my_X8_amountBy : nk_My yX8_amountBy cX8_amountBy 2 (some FieldType.int) 1 := ⟨co_X8_amountBy, in_RX8, ⟨by decide, by decide⟩, by decide +kernel⟩
theorem se_RX4_X8_amountBy : Cond.selects RX4 yX8_amountBy yX8_amountBy ∈ nk_T := nk_in (i := 795) (by decide +kernel) rfl
theorem se_RX9_X8_amountBy : Cond.selects RX9 yX8_amountBy yX8_amountBy ∈ nk_T := nk_in (i := 796) (by decide +kernel) rfl
theorem se_RX10_X8_amountBy : Cond.selects RX10 yX8_amountBy yX8_amountBy ∈ nk_T := nk_in (i := 797) (by decide +kernel) rfl
theorem fk_RX7_110 : nk_Fk RX7 110 12 false [16] := ⟨⟨9, rfl, ⟨(RX9, TX9, 15), "NotaryKiosk$Power", rfl, by decide, nk_in (i := 479) (by decide +kernel) rfl, Or.inl rfl⟩, rfl⟩, trivial⟩
theorem ml_RX7_107 : Cond.methodLink RX7 107 yX7_doneWith ∈ nk_T := nk_in (i := 781) (by decide +kernel) rfl
theorem co_X7_doneWith : Cond.code yX7_doneWith cX7_doneWith 4 (some FieldType.int) ∈ nk_T := nk_in (i := 784) (by decide +kernel) rfl
theorem my_X7_doneWith : nk_My yX7_doneWith cX7_doneWith 4 (some FieldType.int) 1 := ⟨co_X7_doneWith, in_RX7, ⟨by decide, by decide⟩, by decide +kernel⟩
theorem im_X7_doneWith : Cond.instanceMethod yX7_doneWith ∈ nk_T := nk_in (i := 782) (by decide +kernel) rfl
theorem se_RX7_X7_doneWith : Cond.selects RX7 yX7_doneWith yX7_doneWith ∈ nk_T := nk_in (i := 783) (by decide +kernel) rfl
theorem ml_RX7_113 : Cond.methodLink RX7 113 yX8_isDeputation ∈ nk_T := nk_in (i := 689) (by decide +kernel) rfl
theorem co_X8_isDeputation : Cond.code yX8_isDeputation cX8_isDeputation 4 (some FieldType.boolean) ∈ nk_T := nk_in (i := 698) (by decide +kernel) rfl
theorem my_X8_isDeputation : nk_My yX8_isDeputation cX8_isDeputation 4 (some FieldType.boolean) 3 := ⟨co_X8_isDeputation, in_RX8, ⟨by decide, by decide⟩, by decide +kernel⟩
theorem im_X8_isDeputation : Cond.instanceMethod yX8_isDeputation ∈ nk_T := nk_in (i := 690) (by decide +kernel) rfl
theorem se_RX0_X8_isDeputation : Cond.selects RX0 yX8_isDeputation yX8_isDeputation ∈ nk_T := nk_in (i := 692) (by decide +kernel) rfl
theorem sm_X8_isDeputation : Cond.sameMethod "NotaryKiosk$Piece" "NotaryKiosk$Piece" "isDeputation" "(III)Z" ∈ nk_T := nk_in (i := 691) (by decide +kernel) rfl
theorem co_X4_isDeputation : Cond.code yX4_isDeputation cX4_isDeputation 4 (some FieldType.boolean) ∈ nk_T := nk_in (i := 695) (by decide +kernel) rfl
theorem in_RX4 : Cond.initialized RX4 ∈ nk_T := nk_in (i := 46) (by decide +kernel) rfl
theorem my_X4_isDeputation : nk_My yX4_isDeputation cX4_isDeputation 4 (some FieldType.boolean) 3 := ⟨co_X4_isDeputation, in_RX4, ⟨by decide, by decide⟩, by decide +kernel⟩
theorem im_X4_isDeputation : Cond.instanceMethod yX4_isDeputation ∈ nk_T := nk_in (i := 694) (by decide +kernel) rfl
theorem se_RX4_X8_isDeputation_X4_isDeputation : Cond.selects RX4 yX8_isDeputation yX4_isDeputation ∈ nk_T := nk_in (i := 693) (by decide +kernel) rfl
theorem se_RX9_X8_isDeputation : Cond.selects RX9 yX8_isDeputation yX8_isDeputation ∈ nk_T := nk_in (i := 696) (by decide +kernel) rfl
theorem se_RX10_X8_isDeputation : Cond.selects RX10 yX8_isDeputation yX8_isDeputation ∈ nk_T := nk_in (i := 697) (by decide +kernel) rfl
theorem ml_RX7_117 : Cond.methodLink RX7 117 yX7_deputes ∈ nk_T := nk_in (i := 803) (by decide +kernel) rfl
theorem co_X7_deputes : Cond.code yX7_deputes cX7_deputes 5 (some FieldType.boolean) ∈ nk_T := nk_in (i := 688) (by decide +kernel) rfl
theorem my_X7_deputes : nk_My yX7_deputes cX7_deputes 5 (some FieldType.boolean) 3 := ⟨co_X7_deputes, in_RX7, ⟨by decide, by decide⟩, by decide +kernel⟩
theorem im_X7_deputes : Cond.instanceMethod yX7_deputes ∈ nk_T := nk_in (i := 686) (by decide +kernel) rfl
theorem se_RX7_X7_deputes : Cond.selects RX7 yX7_deputes yX7_deputes ∈ nk_T := nk_in (i := 687) (by decide +kernel) rfl
theorem fk_RX9_40 : nk_Fk RX9 40 13 false [16] := ⟨⟨9, rfl, ⟨(RX9, TX9, 15), "NotaryKiosk$Power", rfl, by decide, nk_in (i := 480) (by decide +kernel) rfl, Or.inl rfl⟩, rfl⟩, trivial⟩
theorem fk_RX9_32 : nk_Fk RX9 32 11 false [16] := ⟨⟨9, rfl, ⟨(RX9, TX9, 15), "NotaryKiosk$Power", rfl, by decide, nk_in (i := 477) (by decide +kernel) rfl, Or.inl rfl⟩, rfl⟩, trivial⟩
theorem fk_RX7_123 : nk_Fk RX7 123 2 false [11] := ⟨⟨4, rfl, ⟨(RX3, TX3, 6), "NotaryKiosk$Deed", rfl, by decide, nk_in (i := 743) (by decide +kernel) rfl, Or.inl rfl⟩, rfl⟩, trivial⟩
theorem fk_RX7_128 : nk_Fk RX7 128 9 false [16] := ⟨⟨9, rfl, ⟨(RX9, TX9, 15), "NotaryKiosk$Power", rfl, by decide, nk_in (i := 474) (by decide +kernel) rfl, Or.inl rfl⟩, rfl⟩, trivial⟩
theorem fk_RX7_134 : nk_Fk RX7 134 1 false [11] := ⟨⟨4, rfl, ⟨(RX3, TX3, 6), "NotaryKiosk$Deed", rfl, by decide, nk_in (i := 740) (by decide +kernel) rfl, Or.inl rfl⟩, rfl⟩, trivial⟩
theorem fk_RX7_138 : nk_Fk RX7 138 10 false [16] := ⟨⟨9, rfl, ⟨(RX9, TX9, 15), "NotaryKiosk$Power", rfl, by decide, nk_in (i := 476) (by decide +kernel) rfl, Or.inl rfl⟩, rfl⟩, trivial⟩
theorem fk_RX7_141 : nk_Fk RX7 141 3 false [11] := ⟨⟨4, rfl, ⟨(RX3, TX3, 6), "NotaryKiosk$Deed", rfl, by decide, nk_in (i := 746) (by decide +kernel) rfl, Or.inl rfl⟩, rfl⟩, trivial⟩
theorem fk_RX7_144 : nk_Fk RX7 144 4 false [11] := ⟨⟨4, rfl, ⟨(RX3, TX3, 6), "NotaryKiosk$Deed", rfl, by decide, nk_in (i := 749) (by decide +kernel) rfl, Or.inl rfl⟩, rfl⟩, trivial⟩
theorem fk_RX7_154 : nk_Fk RX7 154 5 false [11] := ⟨⟨4, rfl, ⟨(RX3, TX3, 6), "NotaryKiosk$Deed", rfl, by decide, nk_in (i := 752) (by decide +kernel) rfl, Or.inl rfl⟩, rfl⟩, trivial⟩
theorem fk_RX7_157 : nk_Fk RX7 157 0 false [11] := ⟨⟨4, rfl, ⟨(RX3, TX3, 6), "NotaryKiosk$Deed", rfl, by decide, nk_in (i := 737) (by decide +kernel) rfl, Or.inl rfl⟩, rfl⟩, trivial⟩
theorem ml_RX7_158 : Cond.methodLink RX7 158 yX7_officerAt ∈ nk_T := nk_in (i := 799) (by decide +kernel) rfl
theorem co_X7_officerAt : Cond.code yX7_officerAt cX7_officerAt 3 (some FieldType.int) ∈ nk_T := nk_in (i := 802) (by decide +kernel) rfl
theorem my_X7_officerAt : nk_My yX7_officerAt cX7_officerAt 3 (some FieldType.int) 2 := ⟨co_X7_officerAt, in_RX7, ⟨by decide, by decide⟩, by decide +kernel⟩
theorem im_X7_officerAt : Cond.instanceMethod yX7_officerAt ∈ nk_T := nk_in (i := 801) (by decide +kernel) rfl
theorem se_RX7_X7_officerAt : Cond.selects RX7 yX7_officerAt yX7_officerAt ∈ nk_T := nk_in (i := 13) (by decide +kernel) rfl
theorem ml_RX7_150 : Cond.methodLink RX7 150 yX7_wouldPassTotal ∈ nk_T := nk_in (i := 777) (by decide +kernel) rfl
theorem co_X7_wouldPassTotal : Cond.code yX7_wouldPassTotal cX7_wouldPassTotal 4 (some FieldType.boolean) ∈ nk_T := nk_in (i := 780) (by decide +kernel) rfl
theorem my_X7_wouldPassTotal : nk_My yX7_wouldPassTotal cX7_wouldPassTotal 4 (some FieldType.boolean) 2 := ⟨co_X7_wouldPassTotal, in_RX7, ⟨by decide, by decide⟩, by decide +kernel⟩
theorem im_X7_wouldPassTotal : Cond.instanceMethod yX7_wouldPassTotal ∈ nk_T := nk_in (i := 779) (by decide +kernel) rfl
theorem se_RX7_X7_wouldPassTotal : Cond.selects RX7 yX7_wouldPassTotal yX7_wouldPassTotal ∈ nk_T := nk_in (i := 12) (by decide +kernel) rfl
theorem ml_RX7_147 : Cond.methodLink RX7 147 yX9_limitsBelow ∈ nk_T := nk_in (i := 773) (by decide +kernel) rfl
theorem co_X9_limitsBelow : Cond.code yX9_limitsBelow cX9_limitsBelow 3 (some FieldType.boolean) ∈ nk_T := nk_in (i := 776) (by decide +kernel) rfl
theorem my_X9_limitsBelow : nk_My yX9_limitsBelow cX9_limitsBelow 3 (some FieldType.boolean) 1 := ⟨co_X9_limitsBelow, in_RX9, ⟨by decide, by decide⟩, by decide +kernel⟩
theorem im_X9_limitsBelow : Cond.instanceMethod yX9_limitsBelow ∈ nk_T := nk_in (i := 774) (by decide +kernel) rfl
theorem se_RX9_X9_limitsBelow : Cond.selects RX9 yX9_limitsBelow yX9_limitsBelow ∈ nk_T := nk_in (i := 775) (by decide +kernel) rfl
theorem ml_RX7_135 : Cond.methodLink RX7 135 yX9_isOver ∈ nk_T := nk_in (i := 772) (by decide +kernel) rfl
theorem co_X9_isOver : Cond.code yX9_isOver cX9_isOver 3 (some FieldType.boolean) ∈ nk_T := nk_in (i := 649) (by decide +kernel) rfl
theorem my_X9_isOver : nk_My yX9_isOver cX9_isOver 3 (some FieldType.boolean) 1 := ⟨co_X9_isOver, in_RX9, ⟨by decide, by decide⟩, by decide +kernel⟩
theorem im_X9_isOver : Cond.instanceMethod yX9_isOver ∈ nk_T := nk_in (i := 647) (by decide +kernel) rfl
theorem se_RX9_X9_isOver : Cond.selects RX9 yX9_isOver yX9_isOver ∈ nk_T := nk_in (i := 648) (by decide +kernel) rfl
theorem ml_RX7_131 : Cond.methodLink RX7 131 yX7_revokes ∈ nk_T := nk_in (i := 771) (by decide +kernel) rfl
theorem co_X7_revokes : Cond.code yX7_revokes cX7_revokes 3 (some FieldType.boolean) ∈ nk_T := nk_in (i := 631) (by decide +kernel) rfl
theorem my_X7_revokes : nk_My yX7_revokes cX7_revokes 3 (some FieldType.boolean) 1 := ⟨co_X7_revokes, in_RX7, ⟨by decide, by decide⟩, by decide +kernel⟩
theorem im_X7_revokes : Cond.instanceMethod yX7_revokes ∈ nk_T := nk_in (i := 629) (by decide +kernel) rfl
theorem se_RX7_X7_revokes : Cond.selects RX7 yX7_revokes yX7_revokes ∈ nk_T := nk_in (i := 630) (by decide +kernel) rfl
theorem ml_RX7_120 : Cond.methodLink RX7 120 yX7_knows ∈ nk_T := nk_in (i := 770) (by decide +kernel) rfl
theorem co_X7_knows : Cond.code yX7_knows cX7_knows 3 (some FieldType.boolean) ∈ nk_T := nk_in (i := 623) (by decide +kernel) rfl
theorem my_X7_knows : nk_My yX7_knows cX7_knows 3 (some FieldType.boolean) 1 := ⟨co_X7_knows, in_RX7, ⟨by decide, by decide⟩, by decide +kernel⟩
theorem im_X7_knows : Cond.instanceMethod yX7_knows ∈ nk_T := nk_in (i := 621) (by decide +kernel) rfl
theorem se_RX7_X7_knows : Cond.selects RX7 yX7_knows yX7_knows ∈ nk_T := nk_in (i := 622) (by decide +kernel) rfl
theorem ml_RX9_1 : Cond.methodLink RX9 1 yX8_init ∈ nk_T := nk_in (i := 458) (by decide +kernel) rfl
theorem fk_RX9_7 : nk_Fk RX9 7 6 false [16] := ⟨⟨9, rfl, ⟨(RX9, TX9, 15), "NotaryKiosk$Power", rfl, by decide, nk_in (i := 465) (by decide +kernel) rfl, Or.inl rfl⟩, rfl⟩, trivial⟩
theorem fw_RX9_7_i : nk_Fw RX9 true 6 [16] := ⟨fun ci q e h => by
    have e2 : ci = 9 := by omega
    subst e2
    cases h
    exact ⟨Or.inr ⟨rfl, rfl, rfl⟩, Or.inl ⟨by decide +kernel, rfl⟩⟩, trivial⟩
theorem fw_RX9_13_i : nk_Fw RX9 true 7 [16] := ⟨fun ci q e h => by
    have e2 : ci = 9 := by omega
    subst e2
    cases h
    exact ⟨Or.inr ⟨rfl, rfl, rfl⟩, Or.inr ⟨rfl, Or.inl ⟨"NotaryKiosk$Power", by decide +kernel⟩⟩⟩, trivial⟩
theorem fk_RX9_17 : nk_Fk RX9 17 8 false [16] := ⟨⟨9, rfl, ⟨(RX9, TX9, 15), "NotaryKiosk$Power", rfl, by decide, nk_in (i := 471) (by decide +kernel) rfl, Or.inl rfl⟩, rfl⟩, trivial⟩
theorem fw_RX9_17_i : nk_Fw RX9 true 8 [16] := ⟨fun ci q e h => by
    have e2 : ci = 9 := by omega
    subst e2
    cases h
    exact ⟨Or.inr ⟨rfl, rfl, rfl⟩, Or.inl ⟨by decide +kernel, rfl⟩⟩, trivial⟩
theorem fk_RX9_20 : nk_Fk RX9 20 9 false [16] := ⟨⟨9, rfl, ⟨(RX9, TX9, 15), "NotaryKiosk$Power", rfl, by decide, nk_in (i := 472) (by decide +kernel) rfl, Or.inl rfl⟩, rfl⟩, trivial⟩
theorem fw_RX9_20_i : nk_Fw RX9 true 9 [16] := ⟨fun ci q e h => by
    have e2 : ci = 9 := by omega
    subst e2
    cases h
    exact ⟨Or.inr ⟨rfl, rfl, rfl⟩, Or.inl ⟨by decide +kernel, rfl⟩⟩, trivial⟩
theorem fk_RX9_23 : nk_Fk RX9 23 0 false [13] := ⟨⟨6, rfl, ⟨(RX5, TX5, 5), "NotaryKiosk$Draft", rfl, by decide, nk_in (i := 138) (by decide +kernel) rfl, Or.inl rfl⟩, rfl⟩, trivial⟩
theorem fk_RX9_28 : nk_Fk RX9 28 10 false [16] := ⟨⟨9, rfl, ⟨(RX9, TX9, 15), "NotaryKiosk$Power", rfl, by decide, nk_in (i := 475) (by decide +kernel) rfl, Or.inl rfl⟩, rfl⟩, trivial⟩
theorem fw_RX9_28_i : nk_Fw RX9 true 10 [16] := ⟨fun ci q e h => by
    have e2 : ci = 9 := by omega
    subst e2
    cases h
    exact ⟨Or.inr ⟨rfl, rfl, rfl⟩, Or.inl ⟨by decide +kernel, rfl⟩⟩, trivial⟩
theorem fk_RX9_29 : nk_Fk RX9 29 1 false [13] := ⟨⟨6, rfl, ⟨(RX5, TX5, 5), "NotaryKiosk$Draft", rfl, by decide, nk_in (i := 140) (by decide +kernel) rfl, Or.inl rfl⟩, rfl⟩, trivial⟩
theorem fw_RX9_32_i : nk_Fw RX9 true 11 [16] := ⟨fun ci q e h => by
    have e2 : ci = 9 := by omega
    subst e2
    cases h
    exact ⟨Or.inr ⟨rfl, rfl, rfl⟩, Or.inl ⟨by decide +kernel, rfl⟩⟩, trivial⟩
theorem fk_RX9_33 : nk_Fk RX9 33 2 false [13] := ⟨⟨6, rfl, ⟨(RX5, TX5, 5), "NotaryKiosk$Draft", rfl, by decide, nk_in (i := 142) (by decide +kernel) rfl, Or.inl rfl⟩, rfl⟩, trivial⟩
theorem fk_RX9_36 : nk_Fk RX9 36 12 false [16] := ⟨⟨9, rfl, ⟨(RX9, TX9, 15), "NotaryKiosk$Power", rfl, by decide, nk_in (i := 478) (by decide +kernel) rfl, Or.inl rfl⟩, rfl⟩, trivial⟩
theorem fw_RX9_36_i : nk_Fw RX9 true 12 [16] := ⟨fun ci q e h => by
    have e2 : ci = 9 := by omega
    subst e2
    cases h
    exact ⟨Or.inr ⟨rfl, rfl, rfl⟩, Or.inl ⟨by decide +kernel, rfl⟩⟩, trivial⟩
theorem fk_RX9_37 : nk_Fk RX9 37 3 false [13] := ⟨⟨6, rfl, ⟨(RX5, TX5, 5), "NotaryKiosk$Draft", rfl, by decide, nk_in (i := 144) (by decide +kernel) rfl, Or.inl rfl⟩, rfl⟩, trivial⟩
theorem fw_RX9_40_i : nk_Fw RX9 true 13 [16] := ⟨fun ci q e h => by
    have e2 : ci = 9 := by omega
    subst e2
    cases h
    exact ⟨Or.inr ⟨rfl, rfl, rfl⟩, Or.inl ⟨by decide +kernel, rfl⟩⟩, trivial⟩
theorem fk_RX9_43 : nk_Fk RX9 43 4 false [13] := ⟨⟨6, rfl, ⟨(RX5, TX5, 5), "NotaryKiosk$Draft", rfl, by decide, nk_in (i := 146) (by decide +kernel) rfl, Or.inl rfl⟩, rfl⟩, trivial⟩
theorem fk_RX9_46 : nk_Fk RX9 46 14 false [16] := ⟨⟨9, rfl, ⟨(RX9, TX9, 15), "NotaryKiosk$Power", rfl, by decide, nk_in (i := 481) (by decide +kernel) rfl, Or.inl rfl⟩, rfl⟩, trivial⟩
theorem fw_RX9_46_i : nk_Fw RX9 true 14 [16] := ⟨fun ci q e h => by
    have e2 : ci = 9 := by omega
    subst e2
    cases h
    exact ⟨Or.inr ⟨rfl, rfl, rfl⟩, Or.inl ⟨by decide +kernel, rfl⟩⟩, trivial⟩
theorem ml_RX10_1 : Cond.methodLink RX10 1 yX8_init ∈ nk_T := nk_in (i := 666) (by decide +kernel) rfl
theorem fw_RX10_7_i : nk_Fw RX10 true 6 [17] := ⟨fun ci q e h => by
    have e2 : ci = 10 := by omega
    subst e2
    cases h
    exact ⟨Or.inr ⟨rfl, rfl, rfl⟩, Or.inr ⟨rfl, Or.inl ⟨"NotaryKiosk$Power", by decide +kernel⟩⟩⟩, trivial⟩
theorem ml_RX11_25 : Cond.methodLink RX11 25 yJx4a65c_init_da8c8 ∈ nk_T := nk_in (i := 113) (by decide +kernel) rfl
theorem fk_RX11_39 : nk_Fk RX11 39 4 true [18] := ⟨⟨11, rfl, ⟨(RX11, TX11, 9), "NotaryKiosk", rfl, by decide, nk_in (i := 162) (by decide +kernel) rfl, Or.inl rfl⟩, rfl⟩, trivial⟩
theorem fw_RX11_39_i : nk_Fw RX11 true 4 [18] := ⟨fun ci q e h => by
    have e2 : ci = 11 := by omega
    subst e2
    cases h
    exact ⟨Or.inr ⟨rfl, rfl, rfl⟩, Or.inr ⟨rfl, Or.inl ⟨"java/util/ArrayList", by decide +kernel⟩⟩⟩, trivial⟩
theorem fk_RX11_42 : nk_Fk RX11 42 5 false [18] := ⟨⟨11, rfl, ⟨(RX11, TX11, 9), "NotaryKiosk", rfl, by decide, nk_in (i := 163) (by decide +kernel) rfl, Or.inl rfl⟩, rfl⟩, trivial⟩
theorem fw_RX11_42_i : nk_Fw RX11 true 5 [18] := ⟨fun ci q e h => by
    have e2 : ci = 11 := by omega
    subst e2
    cases h
    exact ⟨Or.inl rfl, Or.inl ⟨by decide +kernel, rfl⟩⟩, trivial⟩
theorem kc_RX11_48 : Cond.constant RX11 48 100000 ∈ nk_T := nk_in (i := 132) (by decide +kernel) rfl
theorem co_X5_init : Cond.code yX5_init cX5_init 6 (none : Option FieldType) ∈ nk_T := nk_in (i := 135) (by decide +kernel) rfl
theorem in_RX5 : Cond.initialized RX5 ∈ nk_T := nk_in (i := 29) (by decide +kernel) rfl
theorem my_X5_init : nk_My yX5_init cX5_init 6 (none : Option FieldType) 5 := ⟨co_X5_init, in_RX5, ⟨by decide, by decide⟩, by decide +kernel⟩
theorem im_X5_init : Cond.instanceMethod yX5_init ∈ nk_T := nk_in (i := 134) (by decide +kernel) rfl
theorem ml_RX11_49 : Cond.methodLink RX11 49 yX5_init ∈ nk_T := nk_in (i := 133) (by decide +kernel) rfl
theorem fk_RX11_52 : nk_Fk RX11 52 6 true [18] := ⟨⟨11, rfl, ⟨(RX11, TX11, 9), "NotaryKiosk", rfl, by decide, nk_in (i := 164) (by decide +kernel) rfl, Or.inl rfl⟩, rfl⟩, trivial⟩
theorem fw_RX11_52_i : nk_Fw RX11 true 6 [18] := ⟨fun ci q e h => by
    have e2 : ci = 11 := by omega
    subst e2
    cases h
    exact ⟨Or.inl rfl, Or.inr ⟨rfl, Or.inl ⟨"NotaryKiosk$Draft", by decide +kernel⟩⟩⟩, trivial⟩
theorem fk_RX11_56 : nk_Fk RX11 56 7 false [18] := ⟨⟨11, rfl, ⟨(RX11, TX11, 9), "NotaryKiosk", rfl, by decide, nk_in (i := 165) (by decide +kernel) rfl, Or.inl rfl⟩, rfl⟩, trivial⟩
theorem fw_RX11_56_i : nk_Fw RX11 true 7 [18] := ⟨fun ci q e h => by
    have e2 : ci = 11 := by omega
    subst e2
    cases h
    exact ⟨Or.inl rfl, Or.inl ⟨by decide +kernel, rfl⟩⟩, trivial⟩
theorem fk_RX11_59 : nk_Fk RX11 59 8 false [18] := ⟨⟨11, rfl, ⟨(RX11, TX11, 9), "NotaryKiosk", rfl, by decide, nk_in (i := 166) (by decide +kernel) rfl, Or.inl rfl⟩, rfl⟩, trivial⟩
theorem fw_RX11_59_i : nk_Fw RX11 true 8 [18] := ⟨fun ci q e h => by
    have e2 : ci = 11 := by omega
    subst e2
    cases h
    exact ⟨Or.inl rfl, Or.inl ⟨by decide +kernel, rfl⟩⟩, trivial⟩
theorem cl_RX11_46 : Cond.classLink RX11 46 "NotaryKiosk$Draft" ∈ nk_T := nk_in (i := 130) (by decide +kernel) rfl
theorem ins_RX5 : Cond.instantiable RX5 5 ∈ nk_T := nk_in (i := 131) (by decide +kernel) rfl
theorem cl_RX11_23 : Cond.classLink RX11 23 "java/util/ArrayList" ∈ nk_T := nk_in (i := 112) (by decide +kernel) rfl
theorem fk_RX11_32 : nk_Fk RX11 32 3 true [18] := ⟨⟨11, rfl, ⟨(RX11, TX11, 9), "NotaryKiosk", rfl, by decide, nk_in (i := 161) (by decide +kernel) rfl, Or.inl rfl⟩, rfl⟩, trivial⟩
theorem co_X1_init : Cond.code yX1_init cX1_init 2 (none : Option FieldType) ∈ nk_T := nk_in (i := 119) (by decide +kernel) rfl
theorem my_X1_init : nk_My yX1_init cX1_init 2 (none : Option FieldType) 1 := ⟨co_X1_init, in_RX1, ⟨by decide, by decide⟩, by decide +kernel⟩
theorem im_X1_init : Cond.instanceMethod yX1_init ∈ nk_T := nk_in (i := 118) (by decide +kernel) rfl
theorem ml_RX11_36 : Cond.methodLink RX11 36 yX1_init ∈ nk_T := nk_in (i := 117) (by decide +kernel) rfl
theorem cl_RX11_30 : Cond.classLink RX11 30 "NotaryKiosk$Chain" ∈ nk_T := nk_in (i := 114) (by decide +kernel) rfl
theorem ins_RX1 : Cond.instantiable RX1 2 ∈ nk_T := nk_in (i := 116) (by decide +kernel) rfl
theorem co_X6_init : Cond.code yX6_init cX6_init 1 (none : Option FieldType) ∈ nk_T := nk_in (i := 62) (by decide +kernel) rfl
theorem my_X6_init : nk_My yX6_init cX6_init 1 (none : Option FieldType) 0 := ⟨co_X6_init, in_RX6, ⟨by decide, by decide⟩, by decide +kernel⟩
theorem im_X6_init : Cond.instanceMethod yX6_init ∈ nk_T := nk_in (i := 61) (by decide +kernel) rfl
theorem nl_RX11_9 : Cond.methodLinkNest RX11 9 yX6_init "NotaryKiosk" ∈ nk_T := nk_in (i := 60) (by decide +kernel) rfl
theorem fk_RX11_10 : nk_Fk RX11 10 0 true [18] := ⟨⟨11, rfl, ⟨(RX11, TX11, 9), "NotaryKiosk", rfl, by decide, nk_in (i := 158) (by decide +kernel) rfl, Or.inl rfl⟩, rfl⟩, trivial⟩
theorem fw_RX11_10_i : nk_Fw RX11 true 0 [18] := ⟨fun ci q e h => by
    have e2 : ci = 11 := by omega
    subst e2
    cases h
    exact ⟨Or.inr ⟨rfl, rfl, rfl⟩, Or.inr ⟨rfl, Or.inl ⟨"NotaryKiosk$Links", by decide +kernel⟩⟩⟩, trivial⟩
theorem co_X7_init : Cond.code yX7_init cX7_init 1 (none : Option FieldType) ∈ nk_T := nk_in (i := 76) (by decide +kernel) rfl
theorem my_X7_init : nk_My yX7_init cX7_init 1 (none : Option FieldType) 0 := ⟨co_X7_init, in_RX7, ⟨by decide, by decide⟩, by decide +kernel⟩
theorem im_X7_init : Cond.instanceMethod yX7_init ∈ nk_T := nk_in (i := 75) (by decide +kernel) rfl
theorem nl_RX11_18 : Cond.methodLinkNest RX11 18 yX7_init "NotaryKiosk" ∈ nk_T := nk_in (i := 74) (by decide +kernel) rfl
theorem fk_RX11_19 : nk_Fk RX11 19 1 true [18] := ⟨⟨11, rfl, ⟨(RX11, TX11, 9), "NotaryKiosk", rfl, by decide, nk_in (i := 159) (by decide +kernel) rfl, Or.inl rfl⟩, rfl⟩, trivial⟩
theorem fw_RX11_19_i : nk_Fw RX11 true 1 [18] := ⟨fun ci q e h => by
    have e2 : ci = 11 := by omega
    subst e2
    cases h
    exact ⟨Or.inr ⟨rfl, rfl, rfl⟩, Or.inr ⟨rfl, Or.inl ⟨"NotaryKiosk$News", by decide +kernel⟩⟩⟩, trivial⟩
theorem fk_RX11_26 : nk_Fk RX11 26 2 true [18] := ⟨⟨11, rfl, ⟨(RX11, TX11, 9), "NotaryKiosk", rfl, by decide, nk_in (i := 160) (by decide +kernel) rfl, Or.inl rfl⟩, rfl⟩, trivial⟩
theorem fw_RX11_26_i : nk_Fw RX11 true 2 [18] := ⟨fun ci q e h => by
    have e2 : ci = 11 := by omega
    subst e2
    cases h
    exact ⟨Or.inr ⟨rfl, rfl, rfl⟩, Or.inr ⟨rfl, Or.inl ⟨"java/util/ArrayList", by decide +kernel⟩⟩⟩, trivial⟩
theorem fw_RX11_32_i : nk_Fw RX11 true 3 [18] := ⟨fun ci q e h => by
    have e2 : ci = 11 := by omega
    subst e2
    cases h
    exact ⟨Or.inr ⟨rfl, rfl, rfl⟩, Or.inr ⟨rfl, Or.inr ⟨.object "NotaryKiosk$Chain", by decide +kernel⟩⟩⟩, trivial⟩
theorem cl_RX11_16 : Cond.classLink RX11 16 "NotaryKiosk$News" ∈ nk_T := nk_in (i := 72) (by decide +kernel) rfl
theorem ins_RX7 : Cond.instantiable RX7 2 ∈ nk_T := nk_in (i := 73) (by decide +kernel) rfl
theorem cl_RX11_7 : Cond.classLink RX11 7 "NotaryKiosk$Links" ∈ nk_T := nk_in (i := 58) (by decide +kernel) rfl
theorem ins_RX6 : Cond.instantiable RX6 2 ∈ nk_T := nk_in (i := 59) (by decide +kernel) rfl
theorem ml_RX11_1 : Cond.methodLink RX11 1 ⟨"java/lang/Object", "<init>", "()V"⟩ ∈ nk_T := nk_in (i := 55) (by decide +kernel) rfl
theorem cl_RX11_361 : Cond.classLink RX11 361 "java/lang/IndexOutOfBoundsException" ∈ nk_T := nk_in (i := 220) (by decide +kernel) rfl
theorem in_java_lang_IndexOutOfBoundsException : Cond.initialized "java/lang/IndexOutOfBoundsException" ∈ nk_T := nk_in (i := 33) (by decide +kernel) rfl
set_option maxRecDepth 20000 in
theorem ta_RX11_365 : ∀ w ∈ vx_atS RX11 365 "java/lang/IndexOutOfBoundsException" ["java/lang/RuntimeException", "java/lang/Exception"], w ∈ nk_T := by decide +kernel
theorem tg_RX11_361_365 : (Cond.classLink RX11 361 "java/lang/IndexOutOfBoundsException" :: Cond.initialized "java/lang/IndexOutOfBoundsException" :: vx_atS RX11 365 "java/lang/IndexOutOfBoundsException" ["java/lang/RuntimeException", "java/lang/Exception"]).all vx_ot = true := by decide +kernel
theorem co_X11_mustBeKiosk : Cond.code yX11_mustBeKiosk cX11_mustBeKiosk 1 (none : Option FieldType) ∈ nk_T := nk_in (i := 219) (by decide +kernel) rfl
theorem my_X11_mustBeKiosk : nk_My yX11_mustBeKiosk cX11_mustBeKiosk 1 (none : Option FieldType) 1 := ⟨co_X11_mustBeKiosk, in_RX11, ⟨by decide, by decide⟩, by decide +kernel⟩
