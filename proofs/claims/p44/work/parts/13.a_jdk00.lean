set_option maxHeartbeats 4000000 in
theorem s_J6_bitCount_0f7a4 {G : nk_G} {l : Launch} (hl0 : l.flags = flags0) (h : nk_H) (v0 : Int32) : nk_Sim G l RJ6 cJ6_bitCount_0f7a4 1 (some FieldType.int) 0 0 false nk_eI 0 [(0, .inl v0)] [] h (f_J6_bitCount_0f7a4  h v0) := by
  unfold f_J6_bitCount_0f7a4
  refine nr_iload_n 0 dJ6_bitCount_0f7a4_0 rfl ?_
  refine nr_iload_n 0 dJ6_bitCount_0f7a4_1 rfl ?_
  refine nr_iconst (v := 1) dJ6_bitCount_0f7a4_2 (by decide) ?_
  refine nr_iushr dJ6_bitCount_0f7a4_3 ?_
  refine nr_ldcw (v := 1431655765) dJ6_bitCount_0f7a4_4 kc_RJ6_265 ?_
  refine nr_iand dJ6_bitCount_0f7a4_7 ?_
  refine nr_isub dJ6_bitCount_0f7a4_8 ?_
  refine nr_istore_n (lv2 := [(0, .inl (v0 - ((Int32.toUInt32 v0 >>> (Int32.toUInt32 1 &&& Int32.toUInt32 31)).toInt32 &&& 1431655765)))]) dJ6_bitCount_0f7a4_9 (by decide) rfl ?_
  refine nr_iload_n 0 dJ6_bitCount_0f7a4_10 rfl ?_
  refine nr_ldcw (v := 858993459) dJ6_bitCount_0f7a4_11 kc_RJ6_266 ?_
  refine nr_iand dJ6_bitCount_0f7a4_14 ?_
  refine nr_iload_n 0 dJ6_bitCount_0f7a4_15 rfl ?_
  refine nr_iconst (v := 2) dJ6_bitCount_0f7a4_16 (by decide) ?_
  refine nr_iushr dJ6_bitCount_0f7a4_17 ?_
  refine nr_ldcw (v := 858993459) dJ6_bitCount_0f7a4_18 kc_RJ6_266 ?_
  refine nr_iand dJ6_bitCount_0f7a4_21 ?_
  refine nr_iadd dJ6_bitCount_0f7a4_22 ?_
  refine nr_istore_n (lv2 := [(0, .inl (((v0 - ((Int32.toUInt32 v0 >>> (Int32.toUInt32 1 &&& Int32.toUInt32 31)).toInt32 &&& 1431655765)) &&& 858993459) + ((Int32.toUInt32 (v0 - ((Int32.toUInt32 v0 >>> (Int32.toUInt32 1 &&& Int32.toUInt32 31)).toInt32 &&& 1431655765)) >>> (Int32.toUInt32 2 &&& Int32.toUInt32 31)).toInt32 &&& 858993459)))]) dJ6_bitCount_0f7a4_23 (by decide) rfl ?_
  refine nr_iload_n 0 dJ6_bitCount_0f7a4_24 rfl ?_
  refine nr_iload_n 0 dJ6_bitCount_0f7a4_25 rfl ?_
  refine nr_iconst (v := 4) dJ6_bitCount_0f7a4_26 (by decide) ?_
  refine nr_iushr dJ6_bitCount_0f7a4_27 ?_
  refine nr_iadd dJ6_bitCount_0f7a4_28 ?_
  refine nr_ldcw (v := 252645135) dJ6_bitCount_0f7a4_29 kc_RJ6_267 ?_
  refine nr_iand dJ6_bitCount_0f7a4_32 ?_
  refine nr_istore_n (lv2 := [(0, .inl (((((v0 - ((Int32.toUInt32 v0 >>> (Int32.toUInt32 1 &&& Int32.toUInt32 31)).toInt32 &&& 1431655765)) &&& 858993459) + ((Int32.toUInt32 (v0 - ((Int32.toUInt32 v0 >>> (Int32.toUInt32 1 &&& Int32.toUInt32 31)).toInt32 &&& 1431655765)) >>> (Int32.toUInt32 2 &&& Int32.toUInt32 31)).toInt32 &&& 858993459)) + (Int32.toUInt32 (((v0 - ((Int32.toUInt32 v0 >>> (Int32.toUInt32 1 &&& Int32.toUInt32 31)).toInt32 &&& 1431655765)) &&& 858993459) + ((Int32.toUInt32 (v0 - ((Int32.toUInt32 v0 >>> (Int32.toUInt32 1 &&& Int32.toUInt32 31)).toInt32 &&& 1431655765)) >>> (Int32.toUInt32 2 &&& Int32.toUInt32 31)).toInt32 &&& 858993459)) >>> (Int32.toUInt32 4 &&& Int32.toUInt32 31)).toInt32) &&& 252645135))]) dJ6_bitCount_0f7a4_33 (by decide) rfl ?_
  refine nr_iload_n 0 dJ6_bitCount_0f7a4_34 rfl ?_
  refine nr_iload_n 0 dJ6_bitCount_0f7a4_35 rfl ?_
  refine nr_bipush (v := 8) dJ6_bitCount_0f7a4_36 (by decide) ?_
  refine nr_iushr dJ6_bitCount_0f7a4_38 ?_
  refine nr_iadd dJ6_bitCount_0f7a4_39 ?_
  refine nr_istore_n (lv2 := [(0, .inl ((((((v0 - ((Int32.toUInt32 v0 >>> (Int32.toUInt32 1 &&& Int32.toUInt32 31)).toInt32 &&& 1431655765)) &&& 858993459) + ((Int32.toUInt32 (v0 - ((Int32.toUInt32 v0 >>> (Int32.toUInt32 1 &&& Int32.toUInt32 31)).toInt32 &&& 1431655765)) >>> (Int32.toUInt32 2 &&& Int32.toUInt32 31)).toInt32 &&& 858993459)) + (Int32.toUInt32 (((v0 - ((Int32.toUInt32 v0 >>> (Int32.toUInt32 1 &&& Int32.toUInt32 31)).toInt32 &&& 1431655765)) &&& 858993459) + ((Int32.toUInt32 (v0 - ((Int32.toUInt32 v0 >>> (Int32.toUInt32 1 &&& Int32.toUInt32 31)).toInt32 &&& 1431655765)) >>> (Int32.toUInt32 2 &&& Int32.toUInt32 31)).toInt32 &&& 858993459)) >>> (Int32.toUInt32 4 &&& Int32.toUInt32 31)).toInt32) &&& 252645135) + (Int32.toUInt32 (((((v0 - ((Int32.toUInt32 v0 >>> (Int32.toUInt32 1 &&& Int32.toUInt32 31)).toInt32 &&& 1431655765)) &&& 858993459) + ((Int32.toUInt32 (v0 - ((Int32.toUInt32 v0 >>> (Int32.toUInt32 1 &&& Int32.toUInt32 31)).toInt32 &&& 1431655765)) >>> (Int32.toUInt32 2 &&& Int32.toUInt32 31)).toInt32 &&& 858993459)) + (Int32.toUInt32 (((v0 - ((Int32.toUInt32 v0 >>> (Int32.toUInt32 1 &&& Int32.toUInt32 31)).toInt32 &&& 1431655765)) &&& 858993459) + ((Int32.toUInt32 (v0 - ((Int32.toUInt32 v0 >>> (Int32.toUInt32 1 &&& Int32.toUInt32 31)).toInt32 &&& 1431655765)) >>> (Int32.toUInt32 2 &&& Int32.toUInt32 31)).toInt32 &&& 858993459)) >>> (Int32.toUInt32 4 &&& Int32.toUInt32 31)).toInt32) &&& 252645135) >>> (Int32.toUInt32 8 &&& Int32.toUInt32 31)).toInt32))]) dJ6_bitCount_0f7a4_40 (by decide) rfl ?_
  refine nr_iload_n 0 dJ6_bitCount_0f7a4_41 rfl ?_
  refine nr_iload_n 0 dJ6_bitCount_0f7a4_42 rfl ?_
  refine nr_bipush (v := 16) dJ6_bitCount_0f7a4_43 (by decide) ?_
  refine nr_iushr dJ6_bitCount_0f7a4_45 ?_
  refine nr_iadd dJ6_bitCount_0f7a4_46 ?_
  refine nr_istore_n (lv2 := [(0, .inl (((((((v0 - ((Int32.toUInt32 v0 >>> (Int32.toUInt32 1 &&& Int32.toUInt32 31)).toInt32 &&& 1431655765)) &&& 858993459) + ((Int32.toUInt32 (v0 - ((Int32.toUInt32 v0 >>> (Int32.toUInt32 1 &&& Int32.toUInt32 31)).toInt32 &&& 1431655765)) >>> (Int32.toUInt32 2 &&& Int32.toUInt32 31)).toInt32 &&& 858993459)) + (Int32.toUInt32 (((v0 - ((Int32.toUInt32 v0 >>> (Int32.toUInt32 1 &&& Int32.toUInt32 31)).toInt32 &&& 1431655765)) &&& 858993459) + ((Int32.toUInt32 (v0 - ((Int32.toUInt32 v0 >>> (Int32.toUInt32 1 &&& Int32.toUInt32 31)).toInt32 &&& 1431655765)) >>> (Int32.toUInt32 2 &&& Int32.toUInt32 31)).toInt32 &&& 858993459)) >>> (Int32.toUInt32 4 &&& Int32.toUInt32 31)).toInt32) &&& 252645135) + (Int32.toUInt32 (((((v0 - ((Int32.toUInt32 v0 >>> (Int32.toUInt32 1 &&& Int32.toUInt32 31)).toInt32 &&& 1431655765)) &&& 858993459) + ((Int32.toUInt32 (v0 - ((Int32.toUInt32 v0 >>> (Int32.toUInt32 1 &&& Int32.toUInt32 31)).toInt32 &&& 1431655765)) >>> (Int32.toUInt32 2 &&& Int32.toUInt32 31)).toInt32 &&& 858993459)) + (Int32.toUInt32 (((v0 - ((Int32.toUInt32 v0 >>> (Int32.toUInt32 1 &&& Int32.toUInt32 31)).toInt32 &&& 1431655765)) &&& 858993459) + ((Int32.toUInt32 (v0 - ((Int32.toUInt32 v0 >>> (Int32.toUInt32 1 &&& Int32.toUInt32 31)).toInt32 &&& 1431655765)) >>> (Int32.toUInt32 2 &&& Int32.toUInt32 31)).toInt32 &&& 858993459)) >>> (Int32.toUInt32 4 &&& Int32.toUInt32 31)).toInt32) &&& 252645135) >>> (Int32.toUInt32 8 &&& Int32.toUInt32 31)).toInt32) + (Int32.toUInt32 ((((((v0 - ((Int32.toUInt32 v0 >>> (Int32.toUInt32 1 &&& Int32.toUInt32 31)).toInt32 &&& 1431655765)) &&& 858993459) + ((Int32.toUInt32 (v0 - ((Int32.toUInt32 v0 >>> (Int32.toUInt32 1 &&& Int32.toUInt32 31)).toInt32 &&& 1431655765)) >>> (Int32.toUInt32 2 &&& Int32.toUInt32 31)).toInt32 &&& 858993459)) + (Int32.toUInt32 (((v0 - ((Int32.toUInt32 v0 >>> (Int32.toUInt32 1 &&& Int32.toUInt32 31)).toInt32 &&& 1431655765)) &&& 858993459) + ((Int32.toUInt32 (v0 - ((Int32.toUInt32 v0 >>> (Int32.toUInt32 1 &&& Int32.toUInt32 31)).toInt32 &&& 1431655765)) >>> (Int32.toUInt32 2 &&& Int32.toUInt32 31)).toInt32 &&& 858993459)) >>> (Int32.toUInt32 4 &&& Int32.toUInt32 31)).toInt32) &&& 252645135) + (Int32.toUInt32 (((((v0 - ((Int32.toUInt32 v0 >>> (Int32.toUInt32 1 &&& Int32.toUInt32 31)).toInt32 &&& 1431655765)) &&& 858993459) + ((Int32.toUInt32 (v0 - ((Int32.toUInt32 v0 >>> (Int32.toUInt32 1 &&& Int32.toUInt32 31)).toInt32 &&& 1431655765)) >>> (Int32.toUInt32 2 &&& Int32.toUInt32 31)).toInt32 &&& 858993459)) + (Int32.toUInt32 (((v0 - ((Int32.toUInt32 v0 >>> (Int32.toUInt32 1 &&& Int32.toUInt32 31)).toInt32 &&& 1431655765)) &&& 858993459) + ((Int32.toUInt32 (v0 - ((Int32.toUInt32 v0 >>> (Int32.toUInt32 1 &&& Int32.toUInt32 31)).toInt32 &&& 1431655765)) >>> (Int32.toUInt32 2 &&& Int32.toUInt32 31)).toInt32 &&& 858993459)) >>> (Int32.toUInt32 4 &&& Int32.toUInt32 31)).toInt32) &&& 252645135) >>> (Int32.toUInt32 8 &&& Int32.toUInt32 31)).toInt32) >>> (Int32.toUInt32 16 &&& Int32.toUInt32 31)).toInt32))]) dJ6_bitCount_0f7a4_47 (by decide) rfl ?_
  refine nr_iload_n 0 dJ6_bitCount_0f7a4_48 rfl ?_
  refine nr_bipush (v := 63) dJ6_bitCount_0f7a4_49 (by decide) ?_
  refine nr_iand dJ6_bitCount_0f7a4_51 ?_
  exact nr_iret rfl rfl dJ6_bitCount_0f7a4_52
theorem c_J6_bitCount_0f7a4 {G : nk_G} {l : Launch} (hl0 : l.flags = flags0) (h : nk_H) (v0 : Int32) : nk_Con G l yJ6_bitCount_0f7a4 cJ6_bitCount_0f7a4 1 (some FieldType.int) 0 0 nk_eI [.inl v0] h (f_J6_bitCount_0f7a4 h v0) :=
  nk_con (ini := false) (by decide) hl0 (Nat.le_of_ble_eq_true rfl) (by decide) (s_J6_bitCount_0f7a4 hl0 h v0)
set_option maxHeartbeats 4000000 in
theorem s_Jxa1e45_init_da8c8 {G : nk_G} {l : Launch} (hl0 : l.flags = flags0) (h : nk_H) (t0 : Nat) : nk_Sim G l RJxa1e45 cJxa1e45_init_da8c8 1 (none : Option FieldType) 1 12 true nk_eV 0 [(0, .inr (some t0))] [] h (f_Jxa1e45_init_da8c8  h t0) := by
  unfold f_Jxa1e45_init_da8c8
  refine nr_aload_n 0 dJxa1e45_init_da8c8_0 rfl ?_
  refine nr_objInit dJxa1e45_init_da8c8_1 ml_RJxa1e45_1 oi_i oi_c (by decide) (Nat.le_of_ble_eq_true rfl) ?_
  exact nr_vret rfl rfl dJxa1e45_init_da8c8_4
theorem c_Jxa1e45_init_da8c8 {G : nk_G} {l : Launch} (hl0 : l.flags = flags0) (h : nk_H) (t0 : Nat) : nk_Con G l yJxa1e45_init_da8c8 cJxa1e45_init_da8c8 1 (none : Option FieldType) 1 12 nk_eV [.inr (some t0)] h (f_Jxa1e45_init_da8c8 h t0) :=
  nk_con (ini := true) (by decide) hl0 (Nat.le_of_ble_eq_true rfl) (by decide) (s_Jxa1e45_init_da8c8 hl0 h t0)
set_option maxHeartbeats 4000000 in
theorem s_Jxc12de_init_da8c8 {G : nk_G} {l : Launch} (hl0 : l.flags = flags0) (h : nk_H) (t0 : Nat) : nk_Sim G l RJxc12de cJxc12de_init_da8c8 1 (none : Option FieldType) 2 32 true nk_eV 0 [(0, .inr (some t0))] [] h (f_Jxc12de_init_da8c8  h t0) := by
  unfold f_Jxc12de_init_da8c8
  refine nr_aload_n 0 dJxc12de_init_da8c8_0 rfl ?_
  refine nr_doV (st := []) (nk_callI (c_Jxa1e45_init_da8c8 (G := G) hl0 h t0) dJxc12de_init_da8c8_1 my_Jxa1e45_init_da8c8 rfl im_Jxa1e45_init_da8c8 ml_RJxc12de_1 rfl rfl (Nat.le_of_ble_eq_true rfl) (by decide) (by decide)) (fun h1 x2 => ?_)
  refine nr_aload_n 0 dJxc12de_init_da8c8_4 rfl ?_
  refine nr_iconst (v := 0) dJxc12de_init_da8c8_5 (by decide) ?_
  refine nr_putI [7] 0 dJxc12de_init_da8c8_6 fk_RJxc12de_7 fw_RJxc12de_7_i (fun h3 => ?_)
  exact nr_vret rfl rfl dJxc12de_init_da8c8_9
theorem c_Jxc12de_init_da8c8 {G : nk_G} {l : Launch} (hl0 : l.flags = flags0) (h : nk_H) (t0 : Nat) : nk_Con G l yJxc12de_init_da8c8 cJxc12de_init_da8c8 1 (none : Option FieldType) 2 32 nk_eV [.inr (some t0)] h (f_Jxc12de_init_da8c8 h t0) :=
  nk_con (ini := true) (by decide) hl0 (Nat.le_of_ble_eq_true rfl) (by decide) (s_Jxc12de_init_da8c8 hl0 h t0)
set_option maxHeartbeats 4000000 in
theorem s_Jx4a65c_init_da8c8 {G : nk_G} {l : Launch} (hl0 : l.flags = flags0) (h : nk_H) (t0 : Nat) : nk_Sim G l RJx4a65c cJx4a65c_init_da8c8 1 (none : Option FieldType) 3 52 true nk_eV 0 [(0, .inr (some t0))] [] h (f_Jx4a65c_init_da8c8  h t0) := by
  unfold f_Jx4a65c_init_da8c8
  refine nr_aload_n 0 dJx4a65c_init_da8c8_0 rfl ?_
  refine nr_doV (st := []) (nk_callI (c_Jxc12de_init_da8c8 (G := G) hl0 h t0) dJx4a65c_init_da8c8_1 my_Jxc12de_init_da8c8 rfl im_Jxc12de_init_da8c8 ml_RJx4a65c_1 rfl rfl (Nat.le_of_ble_eq_true rfl) (by decide) (by decide)) (fun h1 x2 => ?_)
  refine nr_aload_n 0 dJx4a65c_init_da8c8_4 rfl ?_
  refine nr_gete dJx4a65c_init_da8c8_5 fl_RJx4a65c_39 ?_
  refine nr_putP [7] 1 dJx4a65c_init_da8c8_8 fk_RJx4a65c_9 fw_RJx4a65c_9_i (fun h3 => ?_)
  exact nr_vret rfl rfl dJx4a65c_init_da8c8_11
theorem c_Jx4a65c_init_da8c8 {G : nk_G} {l : Launch} (hl0 : l.flags = flags0) (h : nk_H) (t0 : Nat) : nk_Con G l yJx4a65c_init_da8c8 cJx4a65c_init_da8c8 1 (none : Option FieldType) 3 52 nk_eV [.inr (some t0)] h (f_Jx4a65c_init_da8c8 h t0) :=
  nk_con (ini := true) (by decide) hl0 (Nat.le_of_ble_eq_true rfl) (by decide) (s_Jx4a65c_init_da8c8 hl0 h t0)
set_option maxHeartbeats 4000000 in
theorem s_J8_hugeLength_7cf53 {G : nk_G} {l : Launch} (hl0 : l.flags = flags0) (h : nk_H) (v0 : Int32) (v1 : Int32) : nk_Sim G l RJ8 cJ8_hugeLength_7cf53 3 (some FieldType.int) 0 0 false nk_eI 0 [(0, .inl v0), (1, .inl v1)] [] h (f_J8_hugeLength_7cf53  h v0 v1) := by
  unfold f_J8_hugeLength_7cf53
  refine nr_iload_n 0 dJ8_hugeLength_7cf53_0 rfl ?_
  refine nr_iload_n 1 dJ8_hugeLength_7cf53_1 rfl ?_
  refine nr_iadd dJ8_hugeLength_7cf53_2 ?_
  refine nr_istore_n (lv2 := [(2, .inl (v0 + v1)), (0, .inl v0), (1, .inl v1)]) dJ8_hugeLength_7cf53_3 (by decide) rfl ?_
  refine nr_iload_n 0 dJ8_hugeLength_7cf53_4 rfl ?_
  refine nr_if_ge (tgt := 49) dJ8_hugeLength_7cf53_5 (by decide) (fun _ => ?_) (fun _ => ?_)
  · refine nr_iload_n 0 dJ8_hugeLength_7cf53_49 rfl ?_
    refine nr_ldc (v := 2147483639) dJ8_hugeLength_7cf53_50 kc_RJ8_200 ?_
    refine nr_icmp_gt (tgt := 58) dJ8_hugeLength_7cf53_52 (by decide) (fun _ => ?_) (fun _ => ?_)
    · refine nr_iload_n 0 dJ8_hugeLength_7cf53_58 rfl ?_
      exact nr_iret rfl rfl dJ8_hugeLength_7cf53_59
    · refine nr_ldc (v := 2147483639) dJ8_hugeLength_7cf53_55 kc_RJ8_200 ?_
      exact nr_iret rfl rfl dJ8_hugeLength_7cf53_57
  · exact nk_none
theorem c_J8_hugeLength_7cf53 {G : nk_G} {l : Launch} (hl0 : l.flags = flags0) (h : nk_H) (v0 : Int32) (v1 : Int32) : nk_Con G l yJ8_hugeLength_7cf53 cJ8_hugeLength_7cf53 3 (some FieldType.int) 0 0 nk_eI [.inl v0, .inl v1] h (f_J8_hugeLength_7cf53 h v0 v1) :=
  nk_con (ini := false) (by decide) hl0 (Nat.le_of_ble_eq_true rfl) (by decide) (s_J8_hugeLength_7cf53 hl0 h v0 v1)
set_option maxHeartbeats 4000000 in
theorem s_J8_newLength_cabcc_c21 {G : nk_G} {l : Launch} (hl0 : l.flags = flags0)   (h : nk_H) (v0 : Int32) (v1 : Int32)  : nk_Sim G l RJ8 cJ8_newLength_cabcc 4 (some FieldType.int) 1 22 false nk_eI 21 [(0, .inl v0), (1, .inl v1)] [] h (f_J8_newLength_cabcc_c21   h v0 v1 ) := by
  unfold f_J8_newLength_cabcc_c21
  refine nr_iload_n 0 dJ8_newLength_cabcc_21 rfl ?_
  refine nr_iload_n 1 dJ8_newLength_cabcc_22 rfl ?_
  refine nr_doI (st := []) (nk_callS (c_J8_hugeLength_7cf53 (G := G) hl0 h v0 v1) dJ8_newLength_cabcc_23 my_J8_hugeLength_7cf53 st_J8_hugeLength_7cf53 ml_RJ8_201 rfl rfl (Nat.le_of_ble_eq_true rfl) (by decide) (by decide)) (fun h1 x2 => ?_)
  exact nr_iret rfl rfl dJ8_newLength_cabcc_26
set_option maxHeartbeats 4000000 in
theorem s_J8_newLength_cabcc {G : nk_G} {l : Launch} (hl0 : l.flags = flags0) (h : nk_H) (v0 : Int32) (v1 : Int32) (v2 : Int32) : nk_Sim G l RJ8 cJ8_newLength_cabcc 4 (some FieldType.int) 1 22 false nk_eI 0 [(0, .inl v0), (1, .inl v1), (2, .inl v2)] [] h (f_J8_newLength_cabcc  h v0 v1 v2) := by
  unfold f_J8_newLength_cabcc
  refine nr_iload_n 0 dJ8_newLength_cabcc_0 rfl ?_
  refine nr_iload_n 1 dJ8_newLength_cabcc_1 rfl ?_
  refine nr_iload_n 2 dJ8_newLength_cabcc_2 rfl ?_
  refine nr_max dJ8_newLength_cabcc_3 ml_RJ8_194 st_max in_java_lang_Math co_max (by decide) (Nat.le_of_ble_eq_true rfl) ?_
  refine nr_iadd dJ8_newLength_cabcc_6 ?_
  refine nr_istore_n (lv2 := [(3, .inl (v0 + (if v1 < v2 then v2 else v1))), (0, .inl v0), (1, .inl v1), (2, .inl v2)]) dJ8_newLength_cabcc_7 (by decide) rfl ?_
  refine nr_iconst (v := 0) dJ8_newLength_cabcc_8 (by decide) ?_
  refine nr_iload_n 0 dJ8_newLength_cabcc_9 rfl ?_
  refine nr_icmp_ge (tgt := 21) dJ8_newLength_cabcc_10 (by decide) (fun _ => ?_) (fun _ => ?_)
  · exact nk_locals [1, 2] rfl (s_J8_newLength_cabcc_c21 hl0  h v0 v1)
  · refine nr_iload_n 0 dJ8_newLength_cabcc_13 rfl ?_
    refine nr_ldc (v := 2147483639) dJ8_newLength_cabcc_14 kc_RJ8_200 ?_
    refine nr_icmp_gt (tgt := 21) dJ8_newLength_cabcc_16 (by decide) (fun _ => ?_) (fun _ => ?_)
    · exact nk_locals [1, 2] rfl (s_J8_newLength_cabcc_c21 hl0  h v0 v1)
    · refine nr_iload_n 0 dJ8_newLength_cabcc_19 rfl ?_
      exact nr_iret rfl rfl dJ8_newLength_cabcc_20
theorem c_J8_newLength_cabcc {G : nk_G} {l : Launch} (hl0 : l.flags = flags0) (h : nk_H) (v0 : Int32) (v1 : Int32) (v2 : Int32) : nk_Con G l yJ8_newLength_cabcc cJ8_newLength_cabcc 4 (some FieldType.int) 1 22 nk_eI [.inl v0, .inl v1, .inl v2] h (f_J8_newLength_cabcc h v0 v1 v2) :=
  nk_con (ini := false) (by decide) hl0 (Nat.le_of_ble_eq_true rfl) (by decide) (s_J8_newLength_cabcc hl0 h v0 v1 v2)
set_option maxHeartbeats 4000000 in
theorem s_J7_copyOf_6403c {G : nk_G} {l : Launch} (hl0 : l.flags = flags0) (h : nk_H) (v0 : Option Nat) (v1 : Int32) (v2 : Option Nat) : nk_Sim G l RJ7 cJ7_copyOf_6403c 4 (some (FieldType.array (FieldType.object "java/lang/Object"))) 1 32 false nk_eR 0 [(0, .inr v0), (1, .inl v1), (2, .inr v2)] [] h (f_J7_copyOf_6403c  h v0 v1 v2) := by
  unfold f_J7_copyOf_6403c
  refine nr_aload_n 2 dJ7_copyOf_6403c_0 rfl ?_
  refine nr_ldcM dJ7_copyOf_6403c_1 cl_RJ7_110 ?_
  refine nr_acmp_ne (tgt := 13) dJ7_copyOf_6403c_3 (by decide) (fun _ => ?_) (fun _ => ?_)
  · refine nr_iload_n 1 dJ7_copyOf_6403c_6 rfl ?_
    refine nr_anewarray 4 (by decide) dJ7_copyOf_6403c_7 cl_RJ7_2 (fun h1 => ?_)
    refine nr_goto (tgt := 24) dJ7_copyOf_6403c_10 (by decide) ?_
    refine nr_astore_n (lv2 := [(3, .inr (some (nk_N h))), (0, .inr v0), (1, .inl v1), (2, .inr v2)]) dJ7_copyOf_6403c_24 (by decide) rfl ?_
    refine nr_aload_n 1 dJ7_copyOf_6403c_25 rfl ?_
    refine nr_iconst (v := 0) dJ7_copyOf_6403c_26 (by decide) ?_
    refine nr_aload_n 0 dJ7_copyOf_6403c_27 rfl ?_
    refine nr_iconst (v := 0) dJ7_copyOf_6403c_28 (by decide) ?_
    refine nr_aload_n 1 dJ7_copyOf_6403c_29 rfl ?_
    refine nr_alen dJ7_copyOf_6403c_30 (fun x2 => ?_)
    refine nr_iload_n 2 dJ7_copyOf_6403c_31 rfl ?_
    refine nr_min dJ7_copyOf_6403c_32 ml_RJ7_304 st_min in_java_lang_Math co_min (by decide) (Nat.le_of_ble_eq_true rfl) ?_
    refine nr_acpP dJ7_copyOf_6403c_35 ml_RJ7_150 na_acpy st_acpy in_System (by decide) (Nat.le_of_ble_eq_true rfl) (fun h3 => ?_)
    refine nr_aload_n 0 dJ7_copyOf_6403c_38 rfl ?_
    exact nr_aret rfl rfl (Or.inr ⟨_, rfl⟩) dJ7_copyOf_6403c_39
  · refine nr_aload_n 2 dJ7_copyOf_6403c_13 rfl ?_
    exact nk_none
theorem c_J7_copyOf_6403c {G : nk_G} {l : Launch} (hl0 : l.flags = flags0) (h : nk_H) (v0 : Option Nat) (v1 : Int32) (v2 : Option Nat) : nk_Con G l yJ7_copyOf_6403c cJ7_copyOf_6403c 4 (some (FieldType.array (FieldType.object "java/lang/Object"))) 1 32 nk_eR [.inr v0, .inl v1, .inr v2] h (f_J7_copyOf_6403c h v0 v1 v2) :=
  nk_con (ini := false) (by decide) hl0 (Nat.le_of_ble_eq_true rfl) (by decide) (s_J7_copyOf_6403c hl0 h v0 v1 v2)
set_option maxHeartbeats 4000000 in
theorem s_J7_copyOf_1904c {G : nk_G} {l : Launch} (hl0 : l.flags = flags0) (h : nk_H) (v0 : Option Nat) (v1 : Int32) : nk_Sim G l RJ7 cJ7_copyOf_1904c 2 (some (FieldType.array (FieldType.object "java/lang/Object"))) 2 55 false nk_eR 0 [(0, .inr v0), (1, .inl v1)] [] h (f_J7_copyOf_1904c  h v0 v1) := by
  unfold f_J7_copyOf_1904c
  refine nr_aload_n 0 dJ7_copyOf_1904c_0 rfl ?_
  refine nr_iload_n 1 dJ7_copyOf_1904c_1 rfl ?_
  refine nr_aload_n 0 dJ7_copyOf_1904c_2 rfl ?_
  refine nr_getC dJ7_copyOf_1904c_3 ml_RJ7_86 de_getc se_getc im_getc na_getc (by decide) (Nat.le_of_ble_eq_true rfl) (fun x1 => ?_)
  refine nr_doR (st := []) (nk_callS (c_J7_copyOf_6403c (G := G) hl0 h v0 v1 x1) dJ7_copyOf_1904c_6 my_J7_copyOf_6403c st_J7_copyOf_6403c ml_RJ7_300 rfl rfl (Nat.le_of_ble_eq_true rfl) (by decide) (by decide)) (fun h2 x3 => ?_)
  exact nr_aret rfl rfl (Or.inr ⟨_, rfl⟩) dJ7_copyOf_1904c_9
theorem c_J7_copyOf_1904c {G : nk_G} {l : Launch} (hl0 : l.flags = flags0) (h : nk_H) (v0 : Option Nat) (v1 : Int32) : nk_Con G l yJ7_copyOf_1904c cJ7_copyOf_1904c 2 (some (FieldType.array (FieldType.object "java/lang/Object"))) 2 55 nk_eR [.inr v0, .inl v1] h (f_J7_copyOf_1904c h v0 v1) :=
  nk_con (ini := false) (by decide) hl0 (Nat.le_of_ble_eq_true rfl) (by decide) (s_J7_copyOf_1904c hl0 h v0 v1)
set_option maxHeartbeats 4000000 in
theorem s_Jx4a65c_grow_92f84_c20 {G : nk_G} {l : Launch} (hl0 : l.flags = flags0)   (h : nk_H) (t0 : Nat) (v1 : Int32) (v2 : Int32)  : nk_Sim G l RJx4a65c cJx4a65c_grow_92f84 4 (some (FieldType.array (FieldType.object "java/lang/Object"))) 3 76 false nk_eR 20 [(0, .inr (some t0)), (1, .inl v1), (2, .inl v2)] [] h (f_Jx4a65c_grow_92f84_c20   h t0 v1 v2 ) := by
  unfold f_Jx4a65c_grow_92f84_c20
  refine nr_iload_n 2 dJx4a65c_grow_92f84_20 rfl ?_
  refine nr_iload_n 1 dJx4a65c_grow_92f84_21 rfl ?_
  refine nr_iload_n 2 dJx4a65c_grow_92f84_22 rfl ?_
  refine nr_isub dJx4a65c_grow_92f84_23 ?_
  refine nr_iload_n 2 dJx4a65c_grow_92f84_24 rfl ?_
  refine nr_iconst (v := 1) dJx4a65c_grow_92f84_25 (by decide) ?_
  refine nr_ishr dJx4a65c_grow_92f84_26 ?_
  refine nr_doI (st := []) (nk_callS (c_J8_newLength_cabcc (G := G) hl0 h v2 (v1 - v2) (v2 >>> (1 &&& 31))) dJx4a65c_grow_92f84_27 my_J8_newLength_cabcc st_J8_newLength_cabcc ml_RJx4a65c_73 rfl rfl (Nat.le_of_ble_eq_true rfl) (by decide) (by decide)) (fun h1 x2 => ?_)
  refine nr_istore_n (lv2 := [(3, .inl x2), (0, .inr (some t0)), (1, .inl v1), (2, .inl v2)]) dJx4a65c_grow_92f84_30 (by decide) rfl ?_
  refine nr_aload_n 1 dJx4a65c_grow_92f84_31 rfl ?_
  refine nr_aload_n 1 dJx4a65c_grow_92f84_32 rfl ?_
  refine nr_getP [7] 1 dJx4a65c_grow_92f84_33 fk_RJx4a65c_9 (fun x3 => ?_)
  refine nr_iload_n 0 dJx4a65c_grow_92f84_36 rfl ?_
  refine nr_doR (st := [.inr (some t0)]) (nk_callS (c_J7_copyOf_1904c (G := G) hl0 h1 x3 x2) dJx4a65c_grow_92f84_37 my_J7_copyOf_1904c st_J7_copyOf_1904c ml_RJx4a65c_66 rfl rfl (Nat.le_of_ble_eq_true rfl) (by decide) (by decide)) (fun h4 x5 => ?_)
  refine nr_dup_x1 dJx4a65c_grow_92f84_40 ?_
  refine nr_putP [7] 1 dJx4a65c_grow_92f84_41 fk_RJx4a65c_9 fw_RJx4a65c_9_n (fun h6 => ?_)
  exact nr_aret rfl rfl (Or.inr ⟨_, rfl⟩) dJx4a65c_grow_92f84_44
set_option maxHeartbeats 4000000 in
theorem s_Jx4a65c_grow_92f84 {G : nk_G} {l : Launch} (hl0 : l.flags = flags0) (h : nk_H) (t0 : Nat) (v1 : Int32) : nk_Sim G l RJx4a65c cJx4a65c_grow_92f84 4 (some (FieldType.array (FieldType.object "java/lang/Object"))) 3 76 false nk_eR 0 [(0, .inr (some t0)), (1, .inl v1)] [] h (f_Jx4a65c_grow_92f84  h t0 v1) := by
  unfold f_Jx4a65c_grow_92f84
  refine nr_aload_n 0 dJx4a65c_grow_92f84_0 rfl ?_
  refine nr_getP [7] 1 dJx4a65c_grow_92f84_1 fk_RJx4a65c_9 (fun x7 => ?_)
  refine nr_alen dJx4a65c_grow_92f84_4 (fun x8 => ?_)
  refine nr_istore_n (lv2 := [(2, .inl x8), (0, .inr (some t0)), (1, .inl v1)]) dJx4a65c_grow_92f84_5 (by decide) rfl ?_
  refine nr_iload_n 0 dJx4a65c_grow_92f84_6 rfl ?_
  refine nr_if_gt (tgt := 20) dJx4a65c_grow_92f84_7 (by decide) (fun _ => ?_) (fun _ => ?_)
  · exact nk_locals [1, 2, 0] rfl (s_Jx4a65c_grow_92f84_c20 hl0  h t0 v1 x8)
  · refine nr_aload_n 1 dJx4a65c_grow_92f84_10 rfl ?_
    refine nr_getP [7] 1 dJx4a65c_grow_92f84_11 fk_RJx4a65c_9 (fun x9 => ?_)
    refine nr_gete dJx4a65c_grow_92f84_14 fl_RJx4a65c_39 ?_
    refine nr_acmp_eq (tgt := 45) dJx4a65c_grow_92f84_17 (by decide) (fun _ => ?_) (fun _ => ?_)
    · refine nr_aload_n 1 dJx4a65c_grow_92f84_45 rfl ?_
      refine nr_bipush (v := 10) dJx4a65c_grow_92f84_46 (by decide) ?_
      refine nr_iload_n 2 dJx4a65c_grow_92f84_48 rfl ?_
      refine nr_max dJx4a65c_grow_92f84_49 ml_RJx4a65c_79 st_max in_java_lang_Math co_max (by decide) (Nat.le_of_ble_eq_true rfl) ?_
      refine nr_anewarray 4 (by decide) dJx4a65c_grow_92f84_52 cl_RJx4a65c_7 (fun h10 => ?_)
      refine nr_dup_x1 dJx4a65c_grow_92f84_55 ?_
      refine nr_putP [7] 1 dJx4a65c_grow_92f84_56 fk_RJx4a65c_9 fw_RJx4a65c_9_n (fun h11 => ?_)
      exact nr_aret rfl rfl (Or.inr ⟨_, rfl⟩) dJx4a65c_grow_92f84_59
    · exact nk_locals [1, 2, 0] rfl (s_Jx4a65c_grow_92f84_c20 hl0  h t0 v1 x8)
theorem c_Jx4a65c_grow_92f84 {G : nk_G} {l : Launch} (hl0 : l.flags = flags0) (h : nk_H) (t0 : Nat) (v1 : Int32) : nk_Con G l yJx4a65c_grow_92f84 cJx4a65c_grow_92f84 4 (some (FieldType.array (FieldType.object "java/lang/Object"))) 3 76 nk_eR [.inr (some t0), .inl v1] h (f_Jx4a65c_grow_92f84 h t0 v1) :=
  nk_con (ini := false) (by decide) hl0 (Nat.le_of_ble_eq_true rfl) (by decide) (s_Jx4a65c_grow_92f84 hl0 h t0 v1)
set_option maxHeartbeats 4000000 in
theorem s_Jx4a65c_grow_d5877 {G : nk_G} {l : Launch} (hl0 : l.flags = flags0) (h : nk_H) (t0 : Nat) : nk_Sim G l RJx4a65c cJx4a65c_grow_d5877 1 (some (FieldType.array (FieldType.object "java/lang/Object"))) 4 99 false nk_eR 0 [(0, .inr (some t0))] [] h (f_Jx4a65c_grow_d5877  h t0) := by
  unfold f_Jx4a65c_grow_d5877
  refine nr_aload_n 0 dJx4a65c_grow_d5877_0 rfl ?_
  refine nr_aload_n 0 dJx4a65c_grow_d5877_1 rfl ?_
  refine nr_getI [7] 2 dJx4a65c_grow_d5877_2 fk_RJx4a65c_48 (fun x1 => ?_)
  refine nr_iconst (v := 1) dJx4a65c_grow_d5877_5 (by decide) ?_
  refine nr_iadd dJx4a65c_grow_d5877_6 ?_
  refine nr_rcv (ks := [7]) (pre := [.inl (x1 + 1)]) (fun a2 hm => ?_)
  refine nr_doR (st := []) (nk_callV (q := (RJx4a65c, TJx4a65c, 3)) (ci := 0) (c_Jx4a65c_grow_92f84 (G := G) hl0 h a2 (x1 + 1)) dJx4a65c_grow_d5877_7 (List.mem_singleton.mp hm) rfl rfl my_Jx4a65c_grow_92f84 im_Jx4a65c_grow_92f84 se_RJx4a65c_Jx4a65c_grow_92f84 ml_RJx4a65c_69 rfl rfl (Nat.le_of_ble_eq_true rfl) (by decide) (by decide)) (fun h3 x4 => ?_)
  exact nr_aret rfl rfl (Or.inr ⟨_, rfl⟩) dJx4a65c_grow_d5877_10
theorem c_Jx4a65c_grow_d5877 {G : nk_G} {l : Launch} (hl0 : l.flags = flags0) (h : nk_H) (t0 : Nat) : nk_Con G l yJx4a65c_grow_d5877 cJx4a65c_grow_d5877 1 (some (FieldType.array (FieldType.object "java/lang/Object"))) 4 99 nk_eR [.inr (some t0)] h (f_Jx4a65c_grow_d5877 h t0) :=
  nk_con (ini := false) (by decide) hl0 (Nat.le_of_ble_eq_true rfl) (by decide) (s_Jx4a65c_grow_d5877 hl0 h t0)
set_option maxHeartbeats 4000000 in
theorem s_Jx4a65c_size_8abf5 {G : nk_G} {l : Launch} (hl0 : l.flags = flags0) (h : nk_H) (t0 : Nat) : nk_Sim G l RJx4a65c cJx4a65c_size_8abf5 1 (some FieldType.int) 0 0 false nk_eI 0 [(0, .inr (some t0))] [] h (f_Jx4a65c_size_8abf5  h t0) := by
  unfold f_Jx4a65c_size_8abf5
  refine nr_aload_n 0 dJx4a65c_size_8abf5_0 rfl ?_
  refine nr_getI [7] 2 dJx4a65c_size_8abf5_1 fk_RJx4a65c_48 (fun x1 => ?_)
  exact nr_iret rfl rfl dJx4a65c_size_8abf5_4
theorem c_Jx4a65c_size_8abf5 {G : nk_G} {l : Launch} (hl0 : l.flags = flags0) (h : nk_H) (t0 : Nat) : nk_Con G l yJx4a65c_size_8abf5 cJx4a65c_size_8abf5 1 (some FieldType.int) 0 0 nk_eI [.inr (some t0)] h (f_Jx4a65c_size_8abf5 h t0) :=
  nk_con (ini := false) (by decide) hl0 (Nat.le_of_ble_eq_true rfl) (by decide) (s_Jx4a65c_size_8abf5 hl0 h t0)
set_option maxHeartbeats 4000000 in
theorem s_Jx4a65c_elementData_915e3 {G : nk_G} {l : Launch} (hl0 : l.flags = flags0) (h : nk_H) (t0 : Nat) (v1 : Int32) : nk_Sim G l RJx4a65c cJx4a65c_elementData_915e3 2 (some (FieldType.object "java/lang/Object")) 0 0 false nk_eR 0 [(0, .inr (some t0)), (1, .inl v1)] [] h (f_Jx4a65c_elementData_915e3  h t0 v1) := by
  unfold f_Jx4a65c_elementData_915e3
  refine nr_aload_n 0 dJx4a65c_elementData_915e3_0 rfl ?_
  refine nr_getP [7] 1 dJx4a65c_elementData_915e3_1 fk_RJx4a65c_9 (fun x1 => ?_)
  refine nr_iload_n 1 dJx4a65c_elementData_915e3_4 rfl ?_
  refine nr_aaload 4 dJx4a65c_elementData_915e3_5 (by decide) (fun x2 => ?_)
  exact nr_aret rfl rfl (Or.inl ⟨_, rfl⟩) dJx4a65c_elementData_915e3_6
theorem c_Jx4a65c_elementData_915e3 {G : nk_G} {l : Launch} (hl0 : l.flags = flags0) (h : nk_H) (t0 : Nat) (v1 : Int32) : nk_Con G l yJx4a65c_elementData_915e3 cJx4a65c_elementData_915e3 2 (some (FieldType.object "java/lang/Object")) 0 0 nk_eR [.inr (some t0), .inl v1] h (f_Jx4a65c_elementData_915e3 h t0 v1) :=
  nk_con (ini := false) (by decide) hl0 (Nat.le_of_ble_eq_true rfl) (by decide) (s_Jx4a65c_elementData_915e3 hl0 h t0 v1)
set_option maxHeartbeats 4000000 in
theorem s_J3_checkIndex_8e157_c9 {G : nk_G} {l : Launch} (hl0 : l.flags = flags0)   (h : nk_H) (v0 : Int32) (v1 : Int32) (v2 : Option Nat)  : nk_Sim G l RJ3 cJ3_checkIndex_8e157 3 (some FieldType.int) 0 0 false nk_eI 9 [(0, .inl v0), (1, .inl v1), (2, .inr v2)] [] h (f_J3_checkIndex_8e157_c9   h v0 v1 v2 ) := by
  unfold f_J3_checkIndex_8e157_c9
  refine nr_aload_n 2 dJ3_checkIndex_8e157_9 rfl ?_
  refine nr_iload_n 0 dJ3_checkIndex_8e157_10 rfl ?_
  refine nr_iload_n 1 dJ3_checkIndex_8e157_11 rfl ?_
  exact nk_none
set_option maxHeartbeats 4000000 in
theorem s_J3_checkIndex_8e157 {G : nk_G} {l : Launch} (hl0 : l.flags = flags0) (h : nk_H) (v0 : Int32) (v1 : Int32) (v2 : Option Nat) : nk_Sim G l RJ3 cJ3_checkIndex_8e157 3 (some FieldType.int) 0 0 false nk_eI 0 [(0, .inl v0), (1, .inl v1), (2, .inr v2)] [] h (f_J3_checkIndex_8e157  h v0 v1 v2) := by
  unfold f_J3_checkIndex_8e157
  refine nr_iload_n 0 dJ3_checkIndex_8e157_0 rfl ?_
  refine nr_if_lt (tgt := 9) dJ3_checkIndex_8e157_1 (by decide) (fun _ => ?_) (fun _ => ?_)
  · exact s_J3_checkIndex_8e157_c9 hl0  h v0 v1 v2
  · refine nr_iload_n 0 dJ3_checkIndex_8e157_4 rfl ?_
    refine nr_iload_n 1 dJ3_checkIndex_8e157_5 rfl ?_
    refine nr_icmp_lt (tgt := 16) dJ3_checkIndex_8e157_6 (by decide) (fun _ => ?_) (fun _ => ?_)
    · refine nr_iload_n 0 dJ3_checkIndex_8e157_16 rfl ?_
      exact nr_iret rfl rfl dJ3_checkIndex_8e157_17
    · exact s_J3_checkIndex_8e157_c9 hl0  h v0 v1 v2
theorem c_J3_checkIndex_8e157 {G : nk_G} {l : Launch} (hl0 : l.flags = flags0) (h : nk_H) (v0 : Int32) (v1 : Int32) (v2 : Option Nat) : nk_Con G l yJ3_checkIndex_8e157 cJ3_checkIndex_8e157 3 (some FieldType.int) 0 0 nk_eI [.inl v0, .inl v1, .inr v2] h (f_J3_checkIndex_8e157 h v0 v1 v2) :=
  nk_con (ini := false) (by decide) hl0 (Nat.le_of_ble_eq_true rfl) (by decide) (s_J3_checkIndex_8e157 hl0 h v0 v1 v2)
set_option maxHeartbeats 4000000 in
theorem s_J15_checkIndex_7cf53 {G : nk_G} {l : Launch} (hl0 : l.flags = flags0) (h : nk_H) (v0 : Int32) (v1 : Int32) : nk_Sim G l RJ15 cJ15_checkIndex_7cf53 2 (some FieldType.int) 1 22 false nk_eI 0 [(0, .inl v0), (1, .inl v1)] [] h (f_J15_checkIndex_7cf53  h v0 v1) := by
  unfold f_J15_checkIndex_7cf53
  refine nr_iload_n 0 dJ15_checkIndex_7cf53_0 rfl ?_
  refine nr_iload_n 1 dJ15_checkIndex_7cf53_1 rfl ?_
  refine nr_null dJ15_checkIndex_7cf53_2 ?_
  refine nr_doI (st := []) (nk_callS (c_J3_checkIndex_8e157 (G := G) hl0 h v0 v1 none) dJ15_checkIndex_7cf53_3 my_J3_checkIndex_8e157 st_J3_checkIndex_8e157 ml_RJ15_105 rfl rfl (Nat.le_of_ble_eq_true rfl) (by decide) (by decide)) (fun h1 x2 => ?_)
  exact nr_iret rfl rfl dJ15_checkIndex_7cf53_6
theorem c_J15_checkIndex_7cf53 {G : nk_G} {l : Launch} (hl0 : l.flags = flags0) (h : nk_H) (v0 : Int32) (v1 : Int32) : nk_Con G l yJ15_checkIndex_7cf53 cJ15_checkIndex_7cf53 2 (some FieldType.int) 1 22 nk_eI [.inl v0, .inl v1] h (f_J15_checkIndex_7cf53 h v0 v1) :=
  nk_con (ini := false) (by decide) hl0 (Nat.le_of_ble_eq_true rfl) (by decide) (s_J15_checkIndex_7cf53 hl0 h v0 v1)
set_option maxHeartbeats 4000000 in
theorem s_Jx4a65c_get_915e3 {G : nk_G} {l : Launch} (hl0 : l.flags = flags0) (h : nk_H) (t0 : Nat) (v1 : Int32) : nk_Sim G l RJx4a65c cJx4a65c_get_915e3 2 (some (FieldType.object "java/lang/Object")) 2 43 false nk_eR 0 [(0, .inr (some t0)), (1, .inl v1)] [] h (f_Jx4a65c_get_915e3  h t0 v1) := by
  unfold f_Jx4a65c_get_915e3
  refine nr_iload_n 1 dJx4a65c_get_915e3_0 rfl ?_
  refine nr_aload_n 0 dJx4a65c_get_915e3_1 rfl ?_
  refine nr_getI [7] 2 dJx4a65c_get_915e3_2 fk_RJx4a65c_48 (fun x1 => ?_)
  refine nr_doI (st := []) (nk_callS (c_J15_checkIndex_7cf53 (G := G) hl0 h v1 x1) dJx4a65c_get_915e3_5 my_J15_checkIndex_7cf53 st_J15_checkIndex_7cf53 ml_RJx4a65c_118 rfl rfl (Nat.le_of_ble_eq_true rfl) (by decide) (by decide)) (fun h2 x3 => ?_)
  refine nr_pop dJx4a65c_get_915e3_8 ?_
  refine nr_aload_n 0 dJx4a65c_get_915e3_9 rfl ?_
  refine nr_iload_n 1 dJx4a65c_get_915e3_10 rfl ?_
  refine nr_rcv (ks := [7]) (pre := [.inl v1]) (fun a4 hm => ?_)
  refine nr_doR (st := []) (nk_callV (q := (RJx4a65c, TJx4a65c, 3)) (ci := 0) (c_Jx4a65c_elementData_915e3 (G := G) hl0 h2 a4 v1) dJx4a65c_get_915e3_11 (List.mem_singleton.mp hm) rfl rfl my_Jx4a65c_elementData_915e3 im_Jx4a65c_elementData_915e3 se_RJx4a65c_Jx4a65c_elementData_915e3 ml_RJx4a65c_123 rfl rfl (Nat.le_of_ble_eq_true rfl) (by decide) (by decide)) (fun h5 x6 => ?_)
  exact nr_aret rfl rfl (Or.inl ⟨_, rfl⟩) dJx4a65c_get_915e3_14
theorem c_Jx4a65c_get_915e3 {G : nk_G} {l : Launch} (hl0 : l.flags = flags0) (h : nk_H) (t0 : Nat) (v1 : Int32) : nk_Con G l yJx4a65c_get_915e3 cJx4a65c_get_915e3 2 (some (FieldType.object "java/lang/Object")) 2 43 nk_eR [.inr (some t0), .inl v1] h (f_Jx4a65c_get_915e3 h t0 v1) :=
  nk_con (ini := false) (by decide) hl0 (Nat.le_of_ble_eq_true rfl) (by decide) (s_Jx4a65c_get_915e3 hl0 h t0 v1)
set_option maxHeartbeats 4000000 in
theorem s_Jx4a65c_add_72be8_c11 {G : nk_G} {l : Launch} (hl0 : l.flags = flags0)   (h : nk_H) (t0 : Nat) (v1 : Option Nat) (v2 : Option Nat) (v3 : Int32)  : nk_Sim G l RJx4a65c cJx4a65c_add_72be8 4 (none : Option FieldType) 5 119 false nk_eV 11 [(0, .inr (some t0)), (1, .inr v1), (2, .inr v2), (3, .inl v3)] [] h (f_Jx4a65c_add_72be8_c11   h t0 v1 v2 v3 ) := by
  unfold f_Jx4a65c_add_72be8_c11
  refine nr_aload_n 2 dJx4a65c_add_72be8_11 rfl ?_
  refine nr_iload_n 3 dJx4a65c_add_72be8_12 rfl ?_
  refine nr_aload_n 1 dJx4a65c_add_72be8_13 rfl ?_
  refine nr_aastore 4 (by decide) dJx4a65c_add_72be8_14 (fun h1 => ?_)
  refine nr_aload_n 0 dJx4a65c_add_72be8_15 rfl ?_
  refine nr_iload_n 3 dJx4a65c_add_72be8_16 rfl ?_
  refine nr_iconst (v := 1) dJx4a65c_add_72be8_17 (by decide) ?_
  refine nr_iadd dJx4a65c_add_72be8_18 ?_
  refine nr_putI [7] 2 dJx4a65c_add_72be8_19 fk_RJx4a65c_48 fw_RJx4a65c_48_n (fun h2 => ?_)
  exact nr_vret rfl rfl dJx4a65c_add_72be8_22
set_option maxHeartbeats 4000000 in
theorem s_Jx4a65c_add_72be8 {G : nk_G} {l : Launch} (hl0 : l.flags = flags0) (h : nk_H) (t0 : Nat) (v1 : Option Nat) (v2 : Option Nat) (v3 : Int32) : nk_Sim G l RJx4a65c cJx4a65c_add_72be8 4 (none : Option FieldType) 5 119 false nk_eV 0 [(0, .inr (some t0)), (1, .inr v1), (2, .inr v2), (3, .inl v3)] [] h (f_Jx4a65c_add_72be8  h t0 v1 v2 v3) := by
  unfold f_Jx4a65c_add_72be8
  refine nr_iload_n 3 dJx4a65c_add_72be8_0 rfl ?_
  refine nr_aload_n 2 dJx4a65c_add_72be8_1 rfl ?_
  refine nr_alen dJx4a65c_add_72be8_2 (fun x3 => ?_)
  refine nr_icmp_ne (tgt := 11) dJx4a65c_add_72be8_3 (by decide) (fun _ => ?_) (fun _ => ?_)
  · refine nr_aload_n 0 dJx4a65c_add_72be8_6 rfl ?_
    refine nr_rcv (ks := [7]) (pre := []) (fun a4 hm => ?_)
    refine nr_doR (st := []) (nk_callV (q := (RJx4a65c, TJx4a65c, 3)) (ci := 0) (c_Jx4a65c_grow_d5877 (G := G) hl0 h a4) dJx4a65c_add_72be8_7 (List.mem_singleton.mp hm) rfl rfl my_Jx4a65c_grow_d5877 im_Jx4a65c_grow_d5877 se_RJx4a65c_Jx4a65c_grow_d5877 ml_RJx4a65c_129 rfl rfl (Nat.le_of_ble_eq_true rfl) (by decide) (by decide)) (fun h5 x6 => ?_)
    refine nr_astore_n (lv2 := [(2, .inr x6), (0, .inr (some t0)), (1, .inr v1), (3, .inl v3)]) dJx4a65c_add_72be8_10 (by decide) rfl ?_
    exact nk_locals [1, 2, 0, 3] rfl (s_Jx4a65c_add_72be8_c11 hl0  h5 t0 v1 x6 v3)
  · exact s_Jx4a65c_add_72be8_c11 hl0  h t0 v1 v2 v3
theorem c_Jx4a65c_add_72be8 {G : nk_G} {l : Launch} (hl0 : l.flags = flags0) (h : nk_H) (t0 : Nat) (v1 : Option Nat) (v2 : Option Nat) (v3 : Int32) : nk_Con G l yJx4a65c_add_72be8 cJx4a65c_add_72be8 4 (none : Option FieldType) 5 119 nk_eV [.inr (some t0), .inr v1, .inr v2, .inl v3] h (f_Jx4a65c_add_72be8 h t0 v1 v2 v3) :=
  nk_con (ini := false) (by decide) hl0 (Nat.le_of_ble_eq_true rfl) (by decide) (s_Jx4a65c_add_72be8 hl0 h t0 v1 v2 v3)
set_option maxHeartbeats 4000000 in
theorem s_Jx4a65c_add_9ea2d {G : nk_G} {l : Launch} (hl0 : l.flags = flags0) (h : nk_H) (t0 : Nat) (v1 : Option Nat) : nk_Sim G l RJx4a65c cJx4a65c_add_9ea2d 2 (some FieldType.boolean) 6 142 false nk_eI 0 [(0, .inr (some t0)), (1, .inr v1)] [] h (f_Jx4a65c_add_9ea2d  h t0 v1) := by
  unfold f_Jx4a65c_add_9ea2d
  refine nr_aload_n 0 dJx4a65c_add_9ea2d_0 rfl ?_
  refine nr_dup dJx4a65c_add_9ea2d_1 ?_
  refine nr_getI [7] 0 dJx4a65c_add_9ea2d_2 fk_RJx4a65c_63 (fun x1 => ?_)
  refine nr_iconst (v := 1) dJx4a65c_add_9ea2d_5 (by decide) ?_
  refine nr_iadd dJx4a65c_add_9ea2d_6 ?_
  refine nr_putI [7] 0 dJx4a65c_add_9ea2d_7 fk_RJx4a65c_63 fw_RJx4a65c_63_n (fun h2 => ?_)
  refine nr_aload_n 0 dJx4a65c_add_9ea2d_10 rfl ?_
  refine nr_aload_n 1 dJx4a65c_add_9ea2d_11 rfl ?_
  refine nr_aload_n 0 dJx4a65c_add_9ea2d_12 rfl ?_
  refine nr_getP [7] 1 dJx4a65c_add_9ea2d_13 fk_RJx4a65c_9 (fun x3 => ?_)
  refine nr_aload_n 0 dJx4a65c_add_9ea2d_16 rfl ?_
  refine nr_getI [7] 2 dJx4a65c_add_9ea2d_17 fk_RJx4a65c_48 (fun x4 => ?_)
  refine nr_rcv (ks := [7]) (pre := [.inl x4, .inr x3, .inr v1]) (fun a5 hm => ?_)
  refine nr_doV (st := []) (nk_callV (q := (RJx4a65c, TJx4a65c, 3)) (ci := 0) (c_Jx4a65c_add_72be8 (G := G) hl0 h2 a5 v1 x3 x4) dJx4a65c_add_9ea2d_20 (List.mem_singleton.mp hm) rfl rfl my_Jx4a65c_add_72be8 im_Jx4a65c_add_72be8 se_RJx4a65c_Jx4a65c_add_72be8 ml_RJx4a65c_131 rfl rfl (Nat.le_of_ble_eq_true rfl) (by decide) (by decide)) (fun h6 x7 => ?_)
  refine nr_iconst (v := 1) dJx4a65c_add_9ea2d_23 (by decide) ?_
  exact nr_zret rfl rfl dJx4a65c_add_9ea2d_24
theorem c_Jx4a65c_add_9ea2d {G : nk_G} {l : Launch} (hl0 : l.flags = flags0) (h : nk_H) (t0 : Nat) (v1 : Option Nat) : nk_Con G l yJx4a65c_add_9ea2d cJx4a65c_add_9ea2d 2 (some FieldType.boolean) 6 142 nk_eI [.inr (some t0), .inr v1] h (f_Jx4a65c_add_9ea2d h t0 v1) :=
  nk_con (ini := false) (by decide) hl0 (Nat.le_of_ble_eq_true rfl) (by decide) (s_Jx4a65c_add_9ea2d hl0 h t0 v1)
set_option maxHeartbeats 4000000 in
theorem s_J7_fill_53178_c5 {G : nk_G} {l : Launch} (hl0 : l.flags = flags0) {r5 : nk_H → Option Nat → Int32 → Int32 → Int32 → Option (nk_H × Unit)} (hr5 : ∀ (h : nk_H) (v0 : Option Nat) (v1 : Int32) (v2 : Int32) (v3 : Int32), nk_Sim G l RJ7 cJ7_fill_53178 4 (none : Option FieldType) 0 0 false nk_eV 5 [(0, .inr v0), (1, .inl v1), (2, .inl v2), (3, .inl v3)] [] h (r5 h v0 v1 v2 v3)) (h : nk_H) (v0 : Option Nat) (v1 : Int32) (v2 : Int32) (v3 : Int32)  : nk_Sim G l RJ7 cJ7_fill_53178 4 (none : Option FieldType) 0 0 false nk_eV 5 [(0, .inr v0), (1, .inl v1), (2, .inl v2), (3, .inl v3)] [] h (f_J7_fill_53178_c5  r5 h v0 v1 v2 v3 ) := by
  unfold f_J7_fill_53178_c5
  refine nr_iload_n 2 dJ7_fill_53178_5 rfl ?_
  refine nr_iload_n 3 dJ7_fill_53178_6 rfl ?_
  refine nr_icmp_ge (tgt := 20) dJ7_fill_53178_7 (by decide) (fun _ => ?_) (fun _ => ?_)
  · exact nr_vret rfl rfl dJ7_fill_53178_20
  · refine nr_aload_n 0 dJ7_fill_53178_10 rfl ?_
    refine nr_iload_n 2 dJ7_fill_53178_11 rfl ?_
    refine nr_iload_n 1 dJ7_fill_53178_12 rfl ?_
    refine nr_iastore dJ7_fill_53178_13 (fun h1 => ?_)
    refine nr_iinc (lv2 := [(2, .inl (v2 + 1)), (0, .inr v0), (1, .inl v1), (3, .inl v3)]) 2 (v2 + 1) dJ7_fill_53178_14 rfl (by rfl) (by decide) rfl ?_
    refine nr_goto (tgt := 5) dJ7_fill_53178_17 (by decide) ?_
    exact nk_locals [1, 2, 0, 3] rfl (hr5 h1 v0 v1 (v2 + 1) v3)
theorem s_J7_fill_53178_b5 {G : nk_G} {l : Launch} (hl0 : l.flags = flags0)   : ∀ (n : Nat) (h : nk_H) (v0 : Option Nat) (v1 : Int32) (v2 : Int32) (v3 : Int32), nk_Sim G l RJ7 cJ7_fill_53178 4 (none : Option FieldType) 0 0 false nk_eV 5 [(0, .inr v0), (1, .inl v1), (2, .inl v2), (3, .inl v3)] [] h (f_J7_fill_53178_b5   n h v0 v1 v2 v3)
  | 0, _, _, _, _, _ => nk_none
  | n + 1, h, v0, v1, v2, v3 => s_J7_fill_53178_c5 hl0 (s_J7_fill_53178_b5 hl0  n) h v0 v1 v2 v3
set_option maxHeartbeats 4000000 in
theorem s_J7_fill_53178 {G : nk_G} {l : Launch} (hl0 : l.flags = flags0) (h : nk_H) (v0 : Option Nat) (v1 : Int32) : nk_Sim G l RJ7 cJ7_fill_53178 4 (none : Option FieldType) 0 0 false nk_eV 0 [(0, .inr v0), (1, .inl v1)] [] h (f_J7_fill_53178  h v0 v1) := by
  unfold f_J7_fill_53178
  refine nr_iconst (v := 0) dJ7_fill_53178_0 (by decide) ?_
  refine nr_istore_n (lv2 := [(2, .inl 0), (0, .inr v0), (1, .inl v1)]) dJ7_fill_53178_1 (by decide) rfl ?_
  refine nr_aload_n 1 dJ7_fill_53178_2 rfl ?_
  refine nr_alen dJ7_fill_53178_3 (fun x2 => ?_)
  refine nr_istore_n (lv2 := [(3, .inl x2), (2, .inl 0), (0, .inr v0), (1, .inl v1)]) dJ7_fill_53178_4 (by decide) rfl ?_
  exact nk_locals [2, 3, 1, 0] rfl (s_J7_fill_53178_b5 hl0  4096 h v0 v1 0 x2)
theorem c_J7_fill_53178 {G : nk_G} {l : Launch} (hl0 : l.flags = flags0) (h : nk_H) (v0 : Option Nat) (v1 : Int32) : nk_Con G l yJ7_fill_53178 cJ7_fill_53178 4 (none : Option FieldType) 0 0 nk_eV [.inr v0, .inl v1] h (f_J7_fill_53178 h v0 v1) :=
  nk_con (ini := false) (by decide) hl0 (Nat.le_of_ble_eq_true rfl) (by decide) (s_J7_fill_53178 hl0 h v0 v1)
