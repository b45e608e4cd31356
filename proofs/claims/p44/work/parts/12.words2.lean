theorem st_X11_mustBeKiosk : Cond.static yX11_mustBeKiosk ∈ nk_T := nk_in (i := 218) (by decide +kernel) rfl
theorem ml_RX11_99 : Cond.methodLink RX11 99 yX11_mustBeKiosk ∈ nk_T := nk_in (i := 217) (by decide +kernel) rfl
theorem cl_RX11_134 : Cond.classLink RX11 134 "java/lang/IllegalArgumentException" ∈ nk_T := nk_in (i := 288) (by decide +kernel) rfl
theorem in_java_lang_IllegalArgumentException : Cond.initialized "java/lang/IllegalArgumentException" ∈ nk_T := nk_in (i := 34) (by decide +kernel) rfl
set_option maxRecDepth 20000 in
theorem ta_RX11_138 : ∀ w ∈ vx_atS RX11 138 "java/lang/IllegalArgumentException" ["java/lang/RuntimeException", "java/lang/Exception"], w ∈ nk_T := by decide +kernel
theorem tg_RX11_134_138 : (Cond.classLink RX11 134 "java/lang/IllegalArgumentException" :: Cond.initialized "java/lang/IllegalArgumentException" :: vx_atS RX11 138 "java/lang/IllegalArgumentException" ["java/lang/RuntimeException", "java/lang/Exception"]).all vx_ot = true := by decide +kernel
theorem co_X11_mustBeTwoKiosks : Cond.code yX11_mustBeTwoKiosks cX11_mustBeTwoKiosks 2 (none : Option FieldType) ∈ nk_T := nk_in (i := 216) (by decide +kernel) rfl
theorem my_X11_mustBeTwoKiosks : nk_My yX11_mustBeTwoKiosks cX11_mustBeTwoKiosks 2 (none : Option FieldType) 2 := ⟨co_X11_mustBeTwoKiosks, in_RX11, ⟨by decide, by decide⟩, by decide +kernel⟩
theorem st_X11_mustBeTwoKiosks : Cond.static yX11_mustBeTwoKiosks ∈ nk_T := nk_in (i := 215) (by decide +kernel) rfl
theorem ml_RX11_62 : Cond.methodLink RX11 62 yX11_mustBeTwoKiosks ∈ nk_T := nk_in (i := 214) (by decide +kernel) rfl
theorem ml_RX11_80 : Cond.methodLink RX11 80 yX6_degree ∈ nk_T := nk_in (i := 335) (by decide +kernel) rfl
theorem co_X6_degree : Cond.code yX6_degree cX6_degree 2 (some FieldType.int) ∈ nk_T := nk_in (i := 338) (by decide +kernel) rfl
theorem my_X6_degree : nk_My yX6_degree cX6_degree 2 (some FieldType.int) 1 := ⟨co_X6_degree, in_RX6, ⟨by decide, by decide⟩, by decide +kernel⟩
theorem im_X6_degree : Cond.instanceMethod yX6_degree ∈ nk_T := nk_in (i := 336) (by decide +kernel) rfl
theorem se_RX6_X6_degree : Cond.selects RX6 yX6_degree yX6_degree ∈ nk_T := nk_in (i := 337) (by decide +kernel) rfl
theorem ml_RX11_77 : Cond.methodLink RX11 77 yX6_turn ∈ nk_T := nk_in (i := 330) (by decide +kernel) rfl
theorem co_X6_turn : Cond.code yX6_turn cX6_turn 3 (none : Option FieldType) ∈ nk_T := nk_in (i := 333) (by decide +kernel) rfl
theorem my_X6_turn : nk_My yX6_turn cX6_turn 3 (none : Option FieldType) 2 := ⟨co_X6_turn, in_RX6, ⟨by decide, by decide⟩, by decide +kernel⟩
theorem im_X6_turn : Cond.instanceMethod yX6_turn ∈ nk_T := nk_in (i := 331) (by decide +kernel) rfl
theorem se_RX6_X6_turn : Cond.selects RX6 yX6_turn yX6_turn ∈ nk_T := nk_in (i := 332) (by decide +kernel) rfl
theorem cl_RX11_70 : Cond.classLink RX11 70 "java/lang/IllegalStateException" ∈ nk_T := nk_in (i := 314) (by decide +kernel) rfl
theorem in_java_lang_IllegalStateException : Cond.initialized "java/lang/IllegalStateException" ∈ nk_T := nk_in (i := 35) (by decide +kernel) rfl
set_option maxRecDepth 20000 in
theorem ta_RX11_74 : ∀ w ∈ vx_atS RX11 74 "java/lang/IllegalStateException" ["java/lang/RuntimeException", "java/lang/Exception"], w ∈ nk_T := by decide +kernel
theorem tg_RX11_70_74 : (Cond.classLink RX11 70 "java/lang/IllegalStateException" :: Cond.initialized "java/lang/IllegalStateException" :: vx_atS RX11 74 "java/lang/IllegalStateException" ["java/lang/RuntimeException", "java/lang/Exception"]).all vx_ot = true := by decide +kernel
theorem ml_RX11_66 : Cond.methodLink RX11 66 yX6_areLinked ∈ nk_T := nk_in (i := 304) (by decide +kernel) rfl
theorem co_X6_areLinked : Cond.code yX6_areLinked cX6_areLinked 3 (some FieldType.boolean) ∈ nk_T := nk_in (i := 307) (by decide +kernel) rfl
theorem my_X6_areLinked : nk_My yX6_areLinked cX6_areLinked 3 (some FieldType.boolean) 2 := ⟨co_X6_areLinked, in_RX6, ⟨by decide, by decide⟩, by decide +kernel⟩
theorem im_X6_areLinked : Cond.instanceMethod yX6_areLinked ∈ nk_T := nk_in (i := 305) (by decide +kernel) rfl
theorem se_RX6_X6_areLinked : Cond.selects RX6 yX6_areLinked yX6_areLinked ∈ nk_T := nk_in (i := 306) (by decide +kernel) rfl
theorem fw_RX11_42_n : nk_Fw RX11 false 5 [18] := ⟨fun ci q e h => by
    have e2 : ci = 11 := by omega
    subst e2
    cases h
    exact ⟨Or.inl rfl, Or.inl ⟨by decide +kernel, rfl⟩⟩, trivial⟩
theorem ml_RX11_95 : Cond.methodLink RX11 95 yX7_spread ∈ nk_T := nk_in (i := 366) (by decide +kernel) rfl
theorem co_X7_spread : Cond.code yX7_spread cX7_spread 8 (some FieldType.int) ∈ nk_T := nk_in (i := 369) (by decide +kernel) rfl
theorem my_X7_spread : nk_My yX7_spread cX7_spread 8 (some FieldType.int) 2 := ⟨co_X7_spread, in_RX7, ⟨by decide, by decide⟩, by decide +kernel⟩
theorem im_X7_spread : Cond.instanceMethod yX7_spread ∈ nk_T := nk_in (i := 367) (by decide +kernel) rfl
theorem se_RX7_X7_spread : Cond.selects RX7 yX7_spread yX7_spread ∈ nk_T := nk_in (i := 368) (by decide +kernel) rfl
theorem ml_RX11_92 : Cond.methodLink RX11 92 yX6_keep ∈ nk_T := nk_in (i := 359) (by decide +kernel) rfl
theorem co_X6_keep : Cond.code yX6_keep cX6_keep 2 (none : Option FieldType) ∈ nk_T := nk_in (i := 362) (by decide +kernel) rfl
theorem my_X6_keep : nk_My yX6_keep cX6_keep 2 (none : Option FieldType) 1 := ⟨co_X6_keep, in_RX6, ⟨by decide, by decide⟩, by decide +kernel⟩
theorem im_X6_keep : Cond.instanceMethod yX6_keep ∈ nk_T := nk_in (i := 360) (by decide +kernel) rfl
theorem se_RX6_X6_keep : Cond.selects RX6 yX6_keep yX6_keep ∈ nk_T := nk_in (i := 361) (by decide +kernel) rfl
theorem co_X11_mustBeWithin : Cond.code yX11_mustBeWithin cX11_mustBeWithin 3 (none : Option FieldType) ∈ nk_T := nk_in (i := 356) (by decide +kernel) rfl
theorem my_X11_mustBeWithin : nk_My yX11_mustBeWithin cX11_mustBeWithin 3 (none : Option FieldType) 3 := ⟨co_X11_mustBeWithin, in_RX11, ⟨by decide, by decide⟩, by decide +kernel⟩
theorem st_X11_mustBeWithin : Cond.static yX11_mustBeWithin ∈ nk_T := nk_in (i := 355) (by decide +kernel) rfl
theorem ml_RX11_86 : Cond.methodLink RX11 86 yX11_mustBeWithin ∈ nk_T := nk_in (i := 354) (by decide +kernel) rfl
theorem ml_RX11_102 : Cond.methodLink RX11 102 yX7_readMail ∈ nk_T := nk_in (i := 405) (by decide +kernel) rfl
theorem co_X7_readMail : Cond.code yX7_readMail cX7_readMail 5 (some FieldType.int) ∈ nk_T := nk_in (i := 408) (by decide +kernel) rfl
theorem my_X7_readMail : nk_My yX7_readMail cX7_readMail 5 (some FieldType.int) 1 := ⟨co_X7_readMail, in_RX7, ⟨by decide, by decide⟩, by decide +kernel⟩
theorem im_X7_readMail : Cond.instanceMethod yX7_readMail ∈ nk_T := nk_in (i := 406) (by decide +kernel) rfl
theorem se_RX7_X7_readMail : Cond.selects RX7 yX7_readMail yX7_readMail ∈ nk_T := nk_in (i := 407) (by decide +kernel) rfl
theorem fw_RX11_52_n : nk_Fw RX11 false 6 [18] := ⟨fun ci q e h => by
    have e2 : ci = 11 := by omega
    subst e2
    cases h
    exact ⟨Or.inl rfl, Or.inr ⟨rfl, Or.inl ⟨"NotaryKiosk$Draft", by decide +kernel⟩⟩⟩, trivial⟩
theorem ml_RX11_260 : Cond.methodLink RX11 260 yX7_count ∈ nk_T := nk_in (i := 444) (by decide +kernel) rfl
theorem co_X7_count : Cond.code yX7_count cX7_count 1 (some FieldType.int) ∈ nk_T := nk_in (i := 447) (by decide +kernel) rfl
theorem my_X7_count : nk_My yX7_count cX7_count 1 (some FieldType.int) 0 := ⟨co_X7_count, in_RX7, ⟨by decide, by decide⟩, by decide +kernel⟩
theorem im_X7_count : Cond.instanceMethod yX7_count ∈ nk_T := nk_in (i := 445) (by decide +kernel) rfl
theorem se_RX7_X7_count : Cond.selects RX7 yX7_count yX7_count ∈ nk_T := nk_in (i := 446) (by decide +kernel) rfl
theorem ml_RX11_151 : Cond.methodLink RX11 151 yX11_mustHaveRoomForNews ∈ nk_T := nk_in (i := 440) (by decide +kernel) rfl
theorem co_X11_mustHaveRoomForNews : Cond.code yX11_mustHaveRoomForNews cX11_mustHaveRoomForNews 1 (none : Option FieldType) ∈ nk_T := nk_in (i := 443) (by decide +kernel) rfl
theorem my_X11_mustHaveRoomForNews : nk_My yX11_mustHaveRoomForNews cX11_mustHaveRoomForNews 1 (none : Option FieldType) 0 := ⟨co_X11_mustHaveRoomForNews, in_RX11, ⟨by decide, by decide⟩, by decide +kernel⟩
theorem im_X11_mustHaveRoomForNews : Cond.instanceMethod yX11_mustHaveRoomForNews ∈ nk_T := nk_in (i := 442) (by decide +kernel) rfl
theorem se_RX11_X11_mustHaveRoomForNews : Cond.selects RX11 yX11_mustHaveRoomForNews yX11_mustHaveRoomForNews ∈ nk_T := nk_in (i := 2) (by decide +kernel) rfl
theorem ml_RX11_227 : Cond.methodLink RX11 227 yJx4a65c_size_8abf5 ∈ nk_T := nk_in (i := 200) (by decide +kernel) rfl
theorem co_X9_init : Cond.code yX9_init cX9_init 7 (none : Option FieldType) ∈ nk_T := nk_in (i := 457) (by decide +kernel) rfl
theorem my_X9_init : nk_My yX9_init cX9_init 7 (none : Option FieldType) 6 := ⟨co_X9_init, in_RX9, ⟨by decide, by decide⟩, by decide +kernel⟩
theorem im_X9_init : Cond.instanceMethod yX9_init ∈ nk_T := nk_in (i := 456) (by decide +kernel) rfl
theorem ml_RX11_339 : Cond.methodLink RX11 339 yX9_init ∈ nk_T := nk_in (i := 455) (by decide +kernel) rfl
theorem fk_RX11_300 : nk_Fk RX11 300 6 false [16] := ⟨⟨9, rfl, ⟨(RX9, TX9, 15), "NotaryKiosk$Power", rfl, by decide, nk_in (i := 467) (by decide +kernel) rfl, Or.inl rfl⟩, rfl⟩, trivial⟩
theorem ml_RX11_171 : Cond.methodLink RX11 171 yX7_publish ∈ nk_T := nk_in (i := 592) (by decide +kernel) rfl
theorem co_X7_publish : Cond.code yX7_publish cX7_publish 4 (some FieldType.int) ∈ nk_T := nk_in (i := 595) (by decide +kernel) rfl
theorem my_X7_publish : nk_My yX7_publish cX7_publish 4 (some FieldType.int) 3 := ⟨co_X7_publish, in_RX7, ⟨by decide, by decide⟩, by decide +kernel⟩
theorem im_X7_publish : Cond.instanceMethod yX7_publish ∈ nk_T := nk_in (i := 593) (by decide +kernel) rfl
theorem se_RX7_X7_publish : Cond.selects RX7 yX7_publish yX7_publish ∈ nk_T := nk_in (i := 594) (by decide +kernel) rfl
theorem ml_RX11_242 : Cond.methodLink RX11 242 yJx4a65c_add_9ea2d ∈ nk_T := nk_in (i := 532) (by decide +kernel) rfl
theorem cl_RX11_125 : Cond.classLink RX11 125 "NotaryKiosk$Power" ∈ nk_T := nk_in (i := 453) (by decide +kernel) rfl
theorem ins_RX9 : Cond.instantiable RX9 15 ∈ nk_T := nk_in (i := 454) (by decide +kernel) rfl
theorem co_X11_mustBePerson : Cond.code yX11_mustBePerson cX11_mustBePerson 1 (none : Option FieldType) ∈ nk_T := nk_in (i := 429) (by decide +kernel) rfl
theorem my_X11_mustBePerson : nk_My yX11_mustBePerson cX11_mustBePerson 1 (none : Option FieldType) 1 := ⟨co_X11_mustBePerson, in_RX11, ⟨by decide, by decide⟩, by decide +kernel⟩
theorem st_X11_mustBePerson : Cond.static yX11_mustBePerson ∈ nk_T := nk_in (i := 428) (by decide +kernel) rfl
theorem ml_RX11_105 : Cond.methodLink RX11 105 yX11_mustBePerson ∈ nk_T := nk_in (i := 427) (by decide +kernel) rfl
theorem co_X11_mustBeOtherPerson : Cond.code yX11_mustBeOtherPerson cX11_mustBeOtherPerson 2 (none : Option FieldType) ∈ nk_T := nk_in (i := 433) (by decide +kernel) rfl
theorem my_X11_mustBeOtherPerson : nk_My yX11_mustBeOtherPerson cX11_mustBeOtherPerson 2 (none : Option FieldType) 2 := ⟨co_X11_mustBeOtherPerson, in_RX11, ⟨by decide, by decide⟩, by decide +kernel⟩
theorem st_X11_mustBeOtherPerson : Cond.static yX11_mustBeOtherPerson ∈ nk_T := nk_in (i := 432) (by decide +kernel) rfl
theorem ml_RX11_108 : Cond.methodLink RX11 108 yX11_mustBeOtherPerson ∈ nk_T := nk_in (i := 431) (by decide +kernel) rfl
theorem ml_RX11_114 : Cond.methodLink RX11 114 yX11_makePower ∈ nk_T := nk_in (i := 449) (by decide +kernel) rfl
theorem co_X11_makePower : Cond.code yX11_makePower cX11_makePower 6 (some FieldType.int) ∈ nk_T := nk_in (i := 452) (by decide +kernel) rfl
theorem my_X11_makePower : nk_My yX11_makePower cX11_makePower 6 (some FieldType.int) 4 := ⟨co_X11_makePower, in_RX11, ⟨by decide, by decide⟩, by decide +kernel⟩
theorem im_X11_makePower : Cond.instanceMethod yX11_makePower ∈ nk_T := nk_in (i := 451) (by decide +kernel) rfl
theorem se_RX11_X11_makePower : Cond.selects RX11 yX11_makePower yX11_makePower ∈ nk_T := nk_in (i := 3) (by decide +kernel) rfl
theorem ml_RX11_111 : Cond.methodLink RX11 111 yX11_mustHaveRoomForPower ∈ nk_T := nk_in (i := 435) (by decide +kernel) rfl
theorem co_X11_mustHaveRoomForPower : Cond.code yX11_mustHaveRoomForPower cX11_mustHaveRoomForPower 1 (none : Option FieldType) ∈ nk_T := nk_in (i := 438) (by decide +kernel) rfl
theorem my_X11_mustHaveRoomForPower : nk_My yX11_mustHaveRoomForPower cX11_mustHaveRoomForPower 1 (none : Option FieldType) 0 := ⟨co_X11_mustHaveRoomForPower, in_RX11, ⟨by decide, by decide⟩, by decide +kernel⟩
theorem im_X11_mustHaveRoomForPower : Cond.instanceMethod yX11_mustHaveRoomForPower ∈ nk_T := nk_in (i := 437) (by decide +kernel) rfl
theorem se_RX11_X11_mustHaveRoomForPower : Cond.selects RX11 yX11_mustHaveRoomForPower yX11_mustHaveRoomForPower ∈ nk_T := nk_in (i := 1) (by decide +kernel) rfl
theorem ml_RX11_347 : Cond.methodLink RX11 347 yX9_isOver ∈ nk_T := nk_in (i := 646) (by decide +kernel) rfl
theorem ml_RX11_161 : Cond.methodLink RX11 161 yX7_revokes ∈ nk_T := nk_in (i := 628) (by decide +kernel) rfl
theorem ml_RX11_157 : Cond.methodLink RX11 157 yX7_knows ∈ nk_T := nk_in (i := 620) (by decide +kernel) rfl
theorem ml_RX11_154 : Cond.methodLink RX11 154 yX7_lookAtRead ∈ nk_T := nk_in (i := 616) (by decide +kernel) rfl
theorem co_X7_lookAtRead : Cond.code yX7_lookAtRead cX7_lookAtRead 3 (none : Option FieldType) ∈ nk_T := nk_in (i := 619) (by decide +kernel) rfl
theorem my_X7_lookAtRead : nk_My yX7_lookAtRead cX7_lookAtRead 3 (none : Option FieldType) 1 := ⟨co_X7_lookAtRead, in_RX7, ⟨by decide, by decide⟩, by decide +kernel⟩
theorem im_X7_lookAtRead : Cond.instanceMethod yX7_lookAtRead ∈ nk_T := nk_in (i := 617) (by decide +kernel) rfl
theorem se_RX7_X7_lookAtRead : Cond.selects RX7 yX7_lookAtRead yX7_lookAtRead ∈ nk_T := nk_in (i := 618) (by decide +kernel) rfl
theorem ca_Power : nk_Ca "NotaryKiosk$Power" [16] := ⟨⟨9, (RX9, TX9, 15), rfl, rfl, Or.inl rfl⟩, trivial⟩
theorem fk_RX11_127 : nk_Fk RX11 127 9 false [16] := ⟨⟨9, rfl, ⟨(RX9, TX9, 15), "NotaryKiosk$Power", rfl, by decide, nk_in (i := 473) (by decide +kernel) rfl, Or.inl rfl⟩, rfl⟩, trivial⟩
theorem ml_RX11_139 : Cond.methodLink RX11 139 yX11_isGoodAt ∈ nk_T := nk_in (i := 612) (by decide +kernel) rfl
theorem co_X11_isGoodAt : Cond.code yX11_isGoodAt cX11_isGoodAt 3 (some FieldType.boolean) ∈ nk_T := nk_in (i := 615) (by decide +kernel) rfl
theorem my_X11_isGoodAt : nk_My yX11_isGoodAt cX11_isGoodAt 3 (some FieldType.boolean) 2 := ⟨co_X11_isGoodAt, in_RX11, ⟨by decide, by decide⟩, by decide +kernel⟩
theorem im_X11_isGoodAt : Cond.instanceMethod yX11_isGoodAt ∈ nk_T := nk_in (i := 614) (by decide +kernel) rfl
theorem se_RX11_X11_isGoodAt : Cond.selects RX11 yX11_isGoodAt yX11_isGoodAt ∈ nk_T := nk_in (i := 8) (by decide +kernel) rfl
theorem ml_RX11_130 : Cond.methodLink RX11 130 yX9_covers ∈ nk_T := nk_in (i := 607) (by decide +kernel) rfl
theorem co_X9_covers : Cond.code yX9_covers cX9_covers 3 (some FieldType.boolean) ∈ nk_T := nk_in (i := 610) (by decide +kernel) rfl
theorem my_X9_covers : nk_My yX9_covers cX9_covers 3 (some FieldType.boolean) 2 := ⟨co_X9_covers, in_RX9, ⟨by decide, by decide⟩, by decide +kernel⟩
theorem im_X9_covers : Cond.instanceMethod yX9_covers ∈ nk_T := nk_in (i := 608) (by decide +kernel) rfl
theorem se_RX9_X9_covers : Cond.selects RX9 yX9_covers yX9_covers ∈ nk_T := nk_in (i := 609) (by decide +kernel) rfl
theorem ml_RX11_121 : Cond.methodLink RX11 121 yJx4a65c_get_915e3 ∈ nk_T := nk_in (i := 606) (by decide +kernel) rfl
theorem ml_RX11_118 : Cond.methodLink RX11 118 yX11_mustBePower ∈ nk_T := nk_in (i := 601) (by decide +kernel) rfl
theorem co_X11_mustBePower : Cond.code yX11_mustBePower cX11_mustBePower 2 (none : Option FieldType) ∈ nk_T := nk_in (i := 604) (by decide +kernel) rfl
theorem my_X11_mustBePower : nk_My yX11_mustBePower cX11_mustBePower 2 (none : Option FieldType) 1 := ⟨co_X11_mustBePower, in_RX11, ⟨by decide, by decide⟩, by decide +kernel⟩
theorem im_X11_mustBePower : Cond.instanceMethod yX11_mustBePower ∈ nk_T := nk_in (i := 603) (by decide +kernel) rfl
theorem se_RX11_X11_mustBePower : Cond.selects RX11 yX11_mustBePower yX11_mustBePower ∈ nk_T := nk_in (i := 7) (by decide +kernel) rfl
theorem co_X10_init : Cond.code yX10_init cX10_init 2 (none : Option FieldType) ∈ nk_T := nk_in (i := 665) (by decide +kernel) rfl
theorem my_X10_init : nk_My yX10_init cX10_init 2 (none : Option FieldType) 1 := ⟨co_X10_init, in_RX10, ⟨by decide, by decide⟩, by decide +kernel⟩
theorem im_X10_init : Cond.instanceMethod yX10_init ∈ nk_T := nk_in (i := 664) (by decide +kernel) rfl
theorem ml_RX11_168 : Cond.methodLink RX11 168 yX10_init ∈ nk_T := nk_in (i := 663) (by decide +kernel) rfl
theorem cl_RX11_166 : Cond.classLink RX11 166 "NotaryKiosk$Revocation" ∈ nk_T := nk_in (i := 661) (by decide +kernel) rfl
theorem ins_RX10 : Cond.instantiable RX10 7 ∈ nk_T := nk_in (i := 662) (by decide +kernel) rfl
theorem ml_RX11_145 : Cond.methodLink RX11 145 yX9_hasGiver ∈ nk_T := nk_in (i := 655) (by decide +kernel) rfl
theorem co_X9_hasGiver : Cond.code yX9_hasGiver cX9_hasGiver 3 (some FieldType.boolean) ∈ nk_T := nk_in (i := 658) (by decide +kernel) rfl
theorem my_X9_hasGiver : nk_My yX9_hasGiver cX9_hasGiver 3 (some FieldType.boolean) 1 := ⟨co_X9_hasGiver, in_RX9, ⟨by decide, by decide⟩, by decide +kernel⟩
theorem im_X9_hasGiver : Cond.instanceMethod yX9_hasGiver ∈ nk_T := nk_in (i := 656) (by decide +kernel) rfl
theorem se_RX9_X9_hasGiver : Cond.selects RX9 yX9_hasGiver yX9_hasGiver ∈ nk_T := nk_in (i := 657) (by decide +kernel) rfl
theorem co_X4_init : Cond.code yX4_init cX4_init 4 (none : Option FieldType) ∈ nk_T := nk_in (i := 704) (by decide +kernel) rfl
theorem my_X4_init : nk_My yX4_init cX4_init 4 (none : Option FieldType) 3 := ⟨co_X4_init, in_RX4, ⟨by decide, by decide⟩, by decide +kernel⟩
theorem im_X4_init : Cond.instanceMethod yX4_init ∈ nk_T := nk_in (i := 703) (by decide +kernel) rfl
theorem ml_RX11_186 : Cond.methodLink RX11 186 yX4_init ∈ nk_T := nk_in (i := 702) (by decide +kernel) rfl
theorem cl_RX11_184 : Cond.classLink RX11 184 "NotaryKiosk$Deputation" ∈ nk_T := nk_in (i := 700) (by decide +kernel) rfl
theorem ins_RX4 : Cond.instantiable RX4 9 ∈ nk_T := nk_in (i := 701) (by decide +kernel) rfl
theorem ml_RX11_178 : Cond.methodLink RX11 178 yX7_deputes ∈ nk_T := nk_in (i := 685) (by decide +kernel) rfl
theorem ml_RX11_175 : Cond.methodLink RX11 175 yX7_lookAtAll ∈ nk_T := nk_in (i := 681) (by decide +kernel) rfl
theorem co_X7_lookAtAll : Cond.code yX7_lookAtAll cX7_lookAtAll 2 (none : Option FieldType) ∈ nk_T := nk_in (i := 684) (by decide +kernel) rfl
theorem my_X7_lookAtAll : nk_My yX7_lookAtAll cX7_lookAtAll 2 (none : Option FieldType) 0 := ⟨co_X7_lookAtAll, in_RX7, ⟨by decide, by decide⟩, by decide +kernel⟩
theorem im_X7_lookAtAll : Cond.instanceMethod yX7_lookAtAll ∈ nk_T := nk_in (i := 682) (by decide +kernel) rfl
theorem se_RX7_X7_lookAtAll : Cond.selects RX7 yX7_lookAtAll yX7_lookAtAll ∈ nk_T := nk_in (i := 683) (by decide +kernel) rfl
theorem fw_RX11_56_n : nk_Fw RX11 false 7 [18] := ⟨fun ci q e h => by
    have e2 : ci = 11 := by omega
    subst e2
    cases h
    exact ⟨Or.inl rfl, Or.inl ⟨by decide +kernel, rfl⟩⟩, trivial⟩
theorem fw_RX11_59_n : nk_Fw RX11 false 8 [18] := ⟨fun ci q e h => by
    have e2 : ci = 11 := by omega
    subst e2
    cases h
    exact ⟨Or.inl rfl, Or.inl ⟨by decide +kernel, rfl⟩⟩, trivial⟩
theorem co_X3_init : Cond.code yX3_init cX3_init 7 (none : Option FieldType) ∈ nk_T := nk_in (i := 734) (by decide +kernel) rfl
theorem in_RX3 : Cond.initialized RX3 ∈ nk_T := nk_in (i := 47) (by decide +kernel) rfl
theorem my_X3_init : nk_My yX3_init cX3_init 7 (none : Option FieldType) 6 := ⟨co_X3_init, in_RX3, ⟨by decide, by decide⟩, by decide +kernel⟩
theorem im_X3_init : Cond.instanceMethod yX3_init ∈ nk_T := nk_in (i := 733) (by decide +kernel) rfl
theorem ml_RX11_344 : Cond.methodLink RX11 344 yX3_init ∈ nk_T := nk_in (i := 732) (by decide +kernel) rfl
theorem cl_RX11_342 : Cond.classLink RX11 342 "NotaryKiosk$Deed" ∈ nk_T := nk_in (i := 730) (by decide +kernel) rfl
theorem ins_RX3 : Cond.instantiable RX3 6 ∈ nk_T := nk_in (i := 731) (by decide +kernel) rfl
theorem fk_RX11_354 : nk_Fk RX11 354 6 true [8] := ⟨⟨1, rfl, ⟨(RX0, TX0, 11), "NotaryKiosk$Act", rfl, by decide, nk_in (i := 812) (by decide +kernel) rfl, Or.inl rfl⟩, rfl⟩, trivial⟩
theorem fk_RX11_357 : nk_Fk RX11 357 7 true [8] := ⟨⟨1, rfl, ⟨(RX0, TX0, 11), "NotaryKiosk$Act", rfl, by decide, nk_in (i := 814) (by decide +kernel) rfl, Or.inl rfl⟩, rfl⟩, trivial⟩
theorem ml_RX11_192 : Cond.methodLink RX11 192 yX7_reasonAgainst ∈ nk_T := nk_in (i := 766) (by decide +kernel) rfl
theorem co_X7_reasonAgainst : Cond.code yX7_reasonAgainst cX7_reasonAgainst 3 (some FieldType.int) ∈ nk_T := nk_in (i := 769) (by decide +kernel) rfl
theorem my_X7_reasonAgainst : nk_My yX7_reasonAgainst cX7_reasonAgainst 3 (some FieldType.int) 2 := ⟨co_X7_reasonAgainst, in_RX7, ⟨by decide, by decide⟩, by decide +kernel⟩
theorem im_X7_reasonAgainst : Cond.instanceMethod yX7_reasonAgainst ∈ nk_T := nk_in (i := 767) (by decide +kernel) rfl
theorem se_RX7_X7_reasonAgainst : Cond.selects RX7 yX7_reasonAgainst yX7_reasonAgainst ∈ nk_T := nk_in (i := 768) (by decide +kernel) rfl
theorem ml_RX11_350 : Cond.methodLink RX11 350 yX7_lookAtReadable ∈ nk_T := nk_in (i := 845) (by decide +kernel) rfl
theorem co_X7_lookAtReadable : Cond.code yX7_lookAtReadable cX7_lookAtReadable 3 (none : Option FieldType) ∈ nk_T := nk_in (i := 848) (by decide +kernel) rfl
theorem my_X7_lookAtReadable : nk_My yX7_lookAtReadable cX7_lookAtReadable 3 (none : Option FieldType) 1 := ⟨co_X7_lookAtReadable, in_RX7, ⟨by decide, by decide⟩, by decide +kernel⟩
theorem im_X7_lookAtReadable : Cond.instanceMethod yX7_lookAtReadable ∈ nk_T := nk_in (i := 846) (by decide +kernel) rfl
theorem se_RX7_X7_lookAtReadable : Cond.selects RX7 yX7_lookAtReadable yX7_lookAtReadable ∈ nk_T := nk_in (i := 847) (by decide +kernel) rfl
theorem fk_RX11_207 : nk_Fk RX11 207 10 false [8] := ⟨⟨1, rfl, ⟨(RX0, TX0, 11), "NotaryKiosk$Act", rfl, by decide, nk_in (i := 823) (by decide +kernel) rfl, Or.inl rfl⟩, rfl⟩, trivial⟩
theorem fz_RX11_207_n : nk_Fz RX11 false 10 [8] := ⟨fun ci q e h => by
    have e2 : ci = 1 := by omega
    subst e2
    cases h
    exact ⟨Or.inl rfl, by decide +kernel, rfl⟩, trivial⟩
theorem ml_RX11_211 : Cond.methodLink RX11 211 yX1_enter ∈ nk_T := nk_in (i := 857) (by decide +kernel) rfl
theorem co_X1_enter : Cond.code yX1_enter cX1_enter 3 (some FieldType.int) ∈ nk_T := nk_in (i := 860) (by decide +kernel) rfl
theorem my_X1_enter : nk_My yX1_enter cX1_enter 3 (some FieldType.int) 1 := ⟨co_X1_enter, in_RX1, ⟨by decide, by decide⟩, by decide +kernel⟩
theorem im_X1_enter : Cond.instanceMethod yX1_enter ∈ nk_T := nk_in (i := 858) (by decide +kernel) rfl
theorem se_RX1_X1_enter : Cond.selects RX1 yX1_enter yX1_enter ∈ nk_T := nk_in (i := 859) (by decide +kernel) rfl
theorem co_X0_init : Cond.code yX0_init cX0_init 3 (none : Option FieldType) ∈ nk_T := nk_in (i := 809) (by decide +kernel) rfl
theorem my_X0_init : nk_My yX0_init cX0_init 3 (none : Option FieldType) 2 := ⟨co_X0_init, in_RX0, ⟨by decide, by decide⟩, by decide +kernel⟩
theorem im_X0_init : Cond.instanceMethod yX0_init ∈ nk_T := nk_in (i := 808) (by decide +kernel) rfl
theorem ml_RX11_200 : Cond.methodLink RX11 200 yX0_init ∈ nk_T := nk_in (i := 807) (by decide +kernel) rfl
theorem ml_RX11_203 : Cond.methodLink RX11 203 yX11_reasonByMail ∈ nk_T := nk_in (i := 841) (by decide +kernel) rfl
theorem co_X11_reasonByMail : Cond.code yX11_reasonByMail cX11_reasonByMail 2 (some FieldType.int) ∈ nk_T := nk_in (i := 844) (by decide +kernel) rfl
theorem my_X11_reasonByMail : nk_My yX11_reasonByMail cX11_reasonByMail 2 (some FieldType.int) 1 := ⟨co_X11_reasonByMail, in_RX11, ⟨by decide, by decide⟩, by decide +kernel⟩
theorem im_X11_reasonByMail : Cond.instanceMethod yX11_reasonByMail ∈ nk_T := nk_in (i := 843) (by decide +kernel) rfl
theorem se_RX11_X11_reasonByMail : Cond.selects RX11 yX11_reasonByMail yX11_reasonByMail ∈ nk_T := nk_in (i := 14) (by decide +kernel) rfl
theorem cl_RX11_198 : Cond.classLink RX11 198 "NotaryKiosk$Act" ∈ nk_T := nk_in (i := 805) (by decide +kernel) rfl
theorem ins_RX0 : Cond.instantiable RX0 11 ∈ nk_T := nk_in (i := 806) (by decide +kernel) rfl
theorem ml_RX11_188 : Cond.methodLink RX11 188 yX11_deedNow ∈ nk_T := nk_in (i := 726) (by decide +kernel) rfl
theorem co_X11_deedNow : Cond.code yX11_deedNow cX11_deedNow 4 (some (FieldType.object "NotaryKiosk$Deed")) ∈ nk_T := nk_in (i := 729) (by decide +kernel) rfl
theorem my_X11_deedNow : nk_My yX11_deedNow cX11_deedNow 4 (some (FieldType.object "NotaryKiosk$Deed")) 3 := ⟨co_X11_deedNow, in_RX11, ⟨by decide, by decide⟩, by decide +kernel⟩
theorem im_X11_deedNow : Cond.instanceMethod yX11_deedNow ∈ nk_T := nk_in (i := 728) (by decide +kernel) rfl
theorem se_RX11_X11_deedNow : Cond.selects RX11 yX11_deedNow yX11_deedNow ∈ nk_T := nk_in (i := 11) (by decide +kernel) rfl
theorem ml_RX11_263 : Cond.methodLink RX11 263 yX1_count ∈ nk_T := nk_in (i := 895) (by decide +kernel) rfl
theorem co_X1_count : Cond.code yX1_count cX1_count 1 (some FieldType.int) ∈ nk_T := nk_in (i := 898) (by decide +kernel) rfl
theorem my_X1_count : nk_My yX1_count cX1_count 1 (some FieldType.int) 0 := ⟨co_X1_count, in_RX1, ⟨by decide, by decide⟩, by decide +kernel⟩
theorem im_X1_count : Cond.instanceMethod yX1_count ∈ nk_T := nk_in (i := 896) (by decide +kernel) rfl
theorem se_RX1_X1_count : Cond.selects RX1 yX1_count yX1_count ∈ nk_T := nk_in (i := 897) (by decide +kernel) rfl
theorem fk_RX11_221 : nk_Fk RX11 221 8 true [8] := ⟨⟨1, rfl, ⟨(RX0, TX0, 11), "NotaryKiosk$Act", rfl, by decide, nk_in (i := 818) (by decide +kernel) rfl, Or.inl rfl⟩, rfl⟩, trivial⟩
theorem ml_RX11_217 : Cond.methodLink RX11 217 yX1_actOf ∈ nk_T := nk_in (i := 900) (by decide +kernel) rfl
theorem ml_RX11_214 : Cond.methodLink RX11 214 yX11_mustBeRecord ∈ nk_T := nk_in (i := 891) (by decide +kernel) rfl
theorem co_X11_mustBeRecord : Cond.code yX11_mustBeRecord cX11_mustBeRecord 3 (none : Option FieldType) ∈ nk_T := nk_in (i := 894) (by decide +kernel) rfl
theorem my_X11_mustBeRecord : nk_My yX11_mustBeRecord cX11_mustBeRecord 3 (none : Option FieldType) 2 := ⟨co_X11_mustBeRecord, in_RX11, ⟨by decide, by decide⟩, by decide +kernel⟩
theorem im_X11_mustBeRecord : Cond.instanceMethod yX11_mustBeRecord ∈ nk_T := nk_in (i := 893) (by decide +kernel) rfl
theorem se_RX11_X11_mustBeRecord : Cond.selects RX11 yX11_mustBeRecord yX11_mustBeRecord ∈ nk_T := nk_in (i := 16) (by decide +kernel) rfl
theorem co_X2_init : Cond.code yX2_init cX2_init 5 (none : Option FieldType) ∈ nk_T := nk_in (i := 914) (by decide +kernel) rfl
theorem my_X2_init : nk_My yX2_init cX2_init 5 (none : Option FieldType) 4 := ⟨co_X2_init, in_RX2, ⟨by decide, by decide⟩, by decide +kernel⟩
theorem im_X2_init : Cond.instanceMethod yX2_init ∈ nk_T := nk_in (i := 913) (by decide +kernel) rfl
theorem ml_RX11_235 : Cond.methodLink RX11 235 yX2_init ∈ nk_T := nk_in (i := 912) (by decide +kernel) rfl
theorem ml_RX11_238 : Cond.methodLink RX11 238 yX2_takeFrom ∈ nk_T := nk_in (i := 943) (by decide +kernel) rfl
theorem co_X2_takeFrom : Cond.code yX2_takeFrom cX2_takeFrom 5 (none : Option FieldType) ∈ nk_T := nk_in (i := 946) (by decide +kernel) rfl
theorem my_X2_takeFrom : nk_My yX2_takeFrom cX2_takeFrom 5 (none : Option FieldType) 1 := ⟨co_X2_takeFrom, in_RX2, ⟨by decide, by decide⟩, by decide +kernel⟩
theorem im_X2_takeFrom : Cond.instanceMethod yX2_takeFrom ∈ nk_T := nk_in (i := 944) (by decide +kernel) rfl
theorem se_RX2_X2_takeFrom : Cond.selects RX2 yX2_takeFrom yX2_takeFrom ∈ nk_T := nk_in (i := 945) (by decide +kernel) rfl
theorem cl_RX11_233 : Cond.classLink RX11 233 "NotaryKiosk$Copy" ∈ nk_T := nk_in (i := 910) (by decide +kernel) rfl
theorem ins_RX2 : Cond.instantiable RX2 7 ∈ nk_T := nk_in (i := 911) (by decide +kernel) rfl
theorem ca_Copy : nk_Ca "NotaryKiosk$Copy" [10] := ⟨⟨3, (RX2, TX2, 7), rfl, rfl, Or.inl rfl⟩, trivial⟩
theorem fk_RX11_330 : nk_Fk RX11 330 2 false [10] := ⟨⟨3, rfl, ⟨(RX2, TX2, 7), "NotaryKiosk$Copy", rfl, by decide, nk_in (i := 922) (by decide +kernel) rfl, Or.inl rfl⟩, rfl⟩, trivial⟩
theorem ml_RX11_327 : Cond.methodLink RX11 327 yX11_mustBeCopy ∈ nk_T := nk_in (i := 963) (by decide +kernel) rfl
theorem co_X11_mustBeCopy : Cond.code yX11_mustBeCopy cX11_mustBeCopy 2 (none : Option FieldType) ∈ nk_T := nk_in (i := 966) (by decide +kernel) rfl
theorem my_X11_mustBeCopy : nk_My yX11_mustBeCopy cX11_mustBeCopy 2 (none : Option FieldType) 1 := ⟨co_X11_mustBeCopy, in_RX11, ⟨by decide, by decide⟩, by decide +kernel⟩
theorem im_X11_mustBeCopy : Cond.instanceMethod yX11_mustBeCopy ∈ nk_T := nk_in (i := 965) (by decide +kernel) rfl
theorem se_RX11_X11_mustBeCopy : Cond.selects RX11 yX11_mustBeCopy yX11_mustBeCopy ∈ nk_T := nk_in (i := 18) (by decide +kernel) rfl
theorem co_X11_mustBePart : Cond.code yX11_mustBePart cX11_mustBePart 1 (none : Option FieldType) ∈ nk_T := nk_in (i := 971) (by decide +kernel) rfl
theorem my_X11_mustBePart : nk_My yX11_mustBePart cX11_mustBePart 1 (none : Option FieldType) 1 := ⟨co_X11_mustBePart, in_RX11, ⟨by decide, by decide⟩, by decide +kernel⟩
theorem st_X11_mustBePart : Cond.static yX11_mustBePart ∈ nk_T := nk_in (i := 970) (by decide +kernel) rfl
theorem ml_RX11_249 : Cond.methodLink RX11 249 yX11_mustBePart ∈ nk_T := nk_in (i := 969) (by decide +kernel) rfl
theorem fk_RX11_257 : nk_Fk RX11 257 4 true [10] := ⟨⟨3, rfl, ⟨(RX2, TX2, 7), "NotaryKiosk$Copy", rfl, by decide, nk_in (i := 925) (by decide +kernel) rfl, Or.inl rfl⟩, rfl⟩, trivial⟩
theorem ml_RX11_252 : Cond.methodLink RX11 252 yX2_leavesOut ∈ nk_T := nk_in (i := 973) (by decide +kernel) rfl
theorem ml_RX11_246 : Cond.methodLink RX11 246 yX11_mustBePlace ∈ nk_T := nk_in (i := 959) (by decide +kernel) rfl
theorem co_X11_mustBePlace : Cond.code yX11_mustBePlace cX11_mustBePlace 3 (none : Option FieldType) ∈ nk_T := nk_in (i := 962) (by decide +kernel) rfl
theorem my_X11_mustBePlace : nk_My yX11_mustBePlace cX11_mustBePlace 3 (none : Option FieldType) 2 := ⟨co_X11_mustBePlace, in_RX11, ⟨by decide, by decide⟩, by decide +kernel⟩
theorem im_X11_mustBePlace : Cond.instanceMethod yX11_mustBePlace ∈ nk_T := nk_in (i := 961) (by decide +kernel) rfl
theorem se_RX11_X11_mustBePlace : Cond.selects RX11 yX11_mustBePlace yX11_mustBePlace ∈ nk_T := nk_in (i := 17) (by decide +kernel) rfl
theorem fk_RX11_271 : nk_Fk RX11 271 5 true [8, 12, 16, 17] := ⟨⟨1, rfl, ⟨(RX0, TX0, 11), "NotaryKiosk$Piece", rfl, by decide, nk_in (i := 500) (by decide +kernel) rfl, Or.inl rfl⟩, rfl⟩, ⟨⟨5, rfl, ⟨(RX4, TX4, 9), "NotaryKiosk$Piece", rfl, by decide, nk_in (i := 500) (by decide +kernel) rfl, Or.inl rfl⟩, rfl⟩, ⟨⟨9, rfl, ⟨(RX9, TX9, 15), "NotaryKiosk$Piece", rfl, by decide, nk_in (i := 500) (by decide +kernel) rfl, Or.inl rfl⟩, rfl⟩, ⟨⟨10, rfl, ⟨(RX10, TX10, 7), "NotaryKiosk$Piece", rfl, by decide, nk_in (i := 500) (by decide +kernel) rfl, Or.inl rfl⟩, rfl⟩, trivial⟩⟩⟩⟩
theorem ml_RX11_267 : Cond.methodLink RX11 267 yX7_pieceAt ∈ nk_T := nk_in (i := 1088) (by decide +kernel) rfl
theorem co_X7_pieceAt : Cond.code yX7_pieceAt cX7_pieceAt 2 (some (FieldType.object "NotaryKiosk$Piece")) ∈ nk_T := nk_in (i := 1091) (by decide +kernel) rfl
theorem my_X7_pieceAt : nk_My yX7_pieceAt cX7_pieceAt 2 (some (FieldType.object "NotaryKiosk$Piece")) 1 := ⟨co_X7_pieceAt, in_RX7, ⟨by decide, by decide⟩, by decide +kernel⟩
theorem im_X7_pieceAt : Cond.instanceMethod yX7_pieceAt ∈ nk_T := nk_in (i := 1089) (by decide +kernel) rfl
theorem se_RX7_X7_pieceAt : Cond.selects RX7 yX7_pieceAt yX7_pieceAt ∈ nk_T := nk_in (i := 1090) (by decide +kernel) rfl
theorem ml_RX11_264 : Cond.methodLink RX11 264 yX11_mustBePiece ∈ nk_T := nk_in (i := 1083) (by decide +kernel) rfl
theorem co_X11_mustBePiece : Cond.code yX11_mustBePiece cX11_mustBePiece 2 (none : Option FieldType) ∈ nk_T := nk_in (i := 1086) (by decide +kernel) rfl
theorem my_X11_mustBePiece : nk_My yX11_mustBePiece cX11_mustBePiece 2 (none : Option FieldType) 1 := ⟨co_X11_mustBePiece, in_RX11, ⟨by decide, by decide⟩, by decide +kernel⟩
theorem im_X11_mustBePiece : Cond.instanceMethod yX11_mustBePiece ∈ nk_T := nk_in (i := 1085) (by decide +kernel) rfl
theorem se_RX11_X11_mustBePiece : Cond.selects RX11 yX11_mustBePiece yX11_mustBePiece ∈ nk_T := nk_in (i := 20) (by decide +kernel) rfl
theorem ml_RX11_286 : Cond.methodLink RX11 286 yX6_reach ∈ nk_T := nk_in (i := 1100) (by decide +kernel) rfl
theorem fk_RX11_276 : nk_Fk RX11 276 1 false [8, 12, 16, 17] := ⟨⟨1, rfl, ⟨(RX0, TX0, 11), "NotaryKiosk$Piece", rfl, by decide, nk_in (i := 490) (by decide +kernel) rfl, Or.inl rfl⟩, rfl⟩, ⟨⟨5, rfl, ⟨(RX4, TX4, 9), "NotaryKiosk$Piece", rfl, by decide, nk_in (i := 490) (by decide +kernel) rfl, Or.inl rfl⟩, rfl⟩, ⟨⟨9, rfl, ⟨(RX9, TX9, 15), "NotaryKiosk$Piece", rfl, by decide, nk_in (i := 490) (by decide +kernel) rfl, Or.inl rfl⟩, rfl⟩, ⟨⟨10, rfl, ⟨(RX10, TX10, 7), "NotaryKiosk$Piece", rfl, by decide, nk_in (i := 490) (by decide +kernel) rfl, Or.inl rfl⟩, rfl⟩, trivial⟩⟩⟩⟩
theorem fk_RX11_285 : nk_Fk RX11 285 2 false [8, 12, 16, 17] := ⟨⟨1, rfl, ⟨(RX0, TX0, 11), "NotaryKiosk$Piece", rfl, by decide, nk_in (i := 493) (by decide +kernel) rfl, Or.inl rfl⟩, rfl⟩, ⟨⟨5, rfl, ⟨(RX4, TX4, 9), "NotaryKiosk$Piece", rfl, by decide, nk_in (i := 493) (by decide +kernel) rfl, Or.inl rfl⟩, rfl⟩, ⟨⟨9, rfl, ⟨(RX9, TX9, 15), "NotaryKiosk$Piece", rfl, by decide, nk_in (i := 493) (by decide +kernel) rfl, Or.inl rfl⟩, rfl⟩, ⟨⟨10, rfl, ⟨(RX10, TX10, 7), "NotaryKiosk$Piece", rfl, by decide, nk_in (i := 493) (by decide +kernel) rfl, Or.inl rfl⟩, rfl⟩, trivial⟩⟩⟩⟩
theorem fk_RX11_290 : nk_Fk RX11 290 4 false [8, 12, 16, 17] := ⟨⟨1, rfl, ⟨(RX0, TX0, 11), "NotaryKiosk$Piece", rfl, by decide, nk_in (i := 498) (by decide +kernel) rfl, Or.inl rfl⟩, rfl⟩, ⟨⟨5, rfl, ⟨(RX4, TX4, 9), "NotaryKiosk$Piece", rfl, by decide, nk_in (i := 498) (by decide +kernel) rfl, Or.inl rfl⟩, rfl⟩, ⟨⟨9, rfl, ⟨(RX9, TX9, 15), "NotaryKiosk$Piece", rfl, by decide, nk_in (i := 498) (by decide +kernel) rfl, Or.inl rfl⟩, rfl⟩, ⟨⟨10, rfl, ⟨(RX10, TX10, 7), "NotaryKiosk$Piece", rfl, by decide, nk_in (i := 498) (by decide +kernel) rfl, Or.inl rfl⟩, rfl⟩, trivial⟩⟩⟩⟩
theorem ml_RX11_293 : Cond.methodLink RX11 293 yX7_unread ∈ nk_T := nk_in (i := 1030) (by decide +kernel) rfl
theorem fk_RX11_296 : nk_Fk RX11 296 7 true [16] := ⟨⟨9, rfl, ⟨(RX9, TX9, 15), "NotaryKiosk$Power", rfl, by decide, nk_in (i := 470) (by decide +kernel) rfl, Or.inl rfl⟩, rfl⟩, trivial⟩
theorem ml_RX11_303 : Cond.methodLink RX11 303 yX7_doneWith ∈ nk_T := nk_in (i := 1046) (by decide +kernel) rfl
theorem ml_RX11_315 : Cond.methodLink RX11 315 yX1_countStanding ∈ nk_T := nk_in (i := 1018) (by decide +kernel) rfl
theorem co_X1_countStanding : Cond.code yX1_countStanding cX1_countStanding 3 (some FieldType.int) ∈ nk_T := nk_in (i := 1021) (by decide +kernel) rfl
theorem my_X1_countStanding : nk_My yX1_countStanding cX1_countStanding 3 (some FieldType.int) 0 := ⟨co_X1_countStanding, in_RX1, ⟨by decide, by decide⟩, by decide +kernel⟩
theorem im_X1_countStanding : Cond.instanceMethod yX1_countStanding ∈ nk_T := nk_in (i := 1019) (by decide +kernel) rfl
theorem se_RX1_X1_countStanding : Cond.selects RX1 yX1_countStanding yX1_countStanding ∈ nk_T := nk_in (i := 1020) (by decide +kernel) rfl
theorem fk_RX11_318 : nk_Fk RX11 318 0 false [8] := ⟨⟨1, rfl, ⟨(RX0, TX0, 11), "NotaryKiosk$Act", rfl, by decide, nk_in (i := 486) (by decide +kernel) rfl, Or.inr (nk_in (i := 487) (by decide +kernel) rfl)⟩, rfl⟩, trivial⟩
theorem fk_RX11_321 : nk_Fk RX11 321 9 false [8] := ⟨⟨1, rfl, ⟨(RX0, TX0, 11), "NotaryKiosk$Act", rfl, by decide, nk_in (i := 821) (by decide +kernel) rfl, Or.inl rfl⟩, rfl⟩, trivial⟩
theorem ml_RX11_324 : Cond.methodLink RX11 324 yX1_firstBroken ∈ nk_T := nk_in (i := 1035) (by decide +kernel) rfl
theorem co_X1_firstBroken : Cond.code yX1_firstBroken cX1_firstBroken 3 (some FieldType.int) ∈ nk_T := nk_in (i := 1038) (by decide +kernel) rfl
theorem my_X1_firstBroken : nk_My yX1_firstBroken cX1_firstBroken 3 (some FieldType.int) 0 := ⟨co_X1_firstBroken, in_RX1, ⟨by decide, by decide⟩, by decide +kernel⟩
theorem im_X1_firstBroken : Cond.instanceMethod yX1_firstBroken ∈ nk_T := nk_in (i := 1036) (by decide +kernel) rfl
theorem se_RX1_X1_firstBroken : Cond.selects RX1 yX1_firstBroken yX1_firstBroken ∈ nk_T := nk_in (i := 1037) (by decide +kernel) rfl
theorem ml_RX11_333 : Cond.methodLink RX11 333 yX2_firstBroken ∈ nk_T := nk_in (i := 1055) (by decide +kernel) rfl
theorem co_X2_firstBroken : Cond.code yX2_firstBroken cX2_firstBroken 3 (some FieldType.int) ∈ nk_T := nk_in (i := 1058) (by decide +kernel) rfl
theorem my_X2_firstBroken : nk_My yX2_firstBroken cX2_firstBroken 3 (some FieldType.int) 0 := ⟨co_X2_firstBroken, in_RX2, ⟨by decide, by decide⟩, by decide +kernel⟩
theorem im_X2_firstBroken : Cond.instanceMethod yX2_firstBroken ∈ nk_T := nk_in (i := 1056) (by decide +kernel) rfl
theorem se_RX2_X2_firstBroken : Cond.selects RX2 yX2_firstBroken yX2_firstBroken ∈ nk_T := nk_in (i := 1057) (by decide +kernel) rfl
theorem fk_RX11_334 : nk_Fk RX11 334 0 false [10] := ⟨⟨3, rfl, ⟨(RX2, TX2, 7), "NotaryKiosk$Copy", rfl, by decide, nk_in (i := 919) (by decide +kernel) rfl, Or.inl rfl⟩, rfl⟩, trivial⟩
theorem ml_RX11_335 : Cond.methodLink RX11 335 yX2_tellsAs ∈ nk_T := nk_in (i := 1064) (by decide +kernel) rfl
theorem co_X2_tellsAs : Cond.code yX2_tellsAs cX2_tellsAs 3 (some FieldType.boolean) ∈ nk_T := nk_in (i := 1067) (by decide +kernel) rfl
theorem my_X2_tellsAs : nk_My yX2_tellsAs cX2_tellsAs 3 (some FieldType.boolean) 1 := ⟨co_X2_tellsAs, in_RX2, ⟨by decide, by decide⟩, by decide +kernel⟩
