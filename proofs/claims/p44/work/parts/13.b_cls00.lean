set_option maxHeartbeats 4000000 in
theorem s_X8_init {G : nk_G} {l : Launch} (hl0 : l.flags = flags0) (h : nk_H) (t0 : Nat) : nk_Sim G l RX8 cX8_init 1 (none : Option FieldType) 1 23 true nk_eV 0 [(0, .inr (some t0))] [] h (f_X8_init  h t0) := by
  unfold f_X8_init
  refine nr_aload_n 0 dX8_init_0 rfl ?_
  refine nr_objInit dX8_init_1 ml_RX8_3 oi_i oi_c (by decide) (Nat.le_of_ble_eq_true rfl) ?_
  refine nr_aload_n 0 dX8_init_4 rfl ?_
  refine nr_bipush (v := 6) dX8_init_5 (by decide) ?_
  refine nr_newarray 1 (by decide) dX8_init_7 ac_int (fun h1 => ?_)
  refine nr_putP [8, 12, 16, 17] 5 dX8_init_9 fk_RX8_9 fw_RX8_9_i (fun h2 => ?_)
  refine nr_aload_n 0 dX8_init_12 rfl ?_
  refine nr_getP [8, 12, 16, 17] 5 dX8_init_13 fk_RX8_9 (fun x3 => ?_)
  refine nr_iconst (v := (-1)) dX8_init_16 (by decide) ?_
  refine nr_doV (st := []) (nk_callS (c_J7_fill_53178 (G := G) hl0 h2 x3 (-1)) dX8_init_17 my_J7_fill_53178 st_J7_fill_53178 ml_RX8_15 rfl rfl (Nat.le_of_ble_eq_true rfl) (by decide) (by decide)) (fun h4 x5 => ?_)
  exact nr_vret rfl rfl dX8_init_20
theorem c_X8_init {G : nk_G} {l : Launch} (hl0 : l.flags = flags0) (h : nk_H) (t0 : Nat) : nk_Con G l yX8_init cX8_init 1 (none : Option FieldType) 1 23 nk_eV [.inr (some t0)] h (f_X8_init h t0) :=
  nk_con (ini := true) (by decide) hl0 (Nat.le_of_ble_eq_true rfl) (by decide) (s_X8_init hl0 h t0)
set_option maxHeartbeats 4000000 in
theorem s_X0_init {G : nk_G} {l : Launch} (hl0 : l.flags = flags0) (h : nk_H) (t0 : Nat) (v1 : Option Nat) (v2 : Option Nat) : nk_Sim G l RX0 cX0_init 3 (none : Option FieldType) 2 43 true nk_eV 0 [(0, .inr (some t0)), (1, .inr v1), (2, .inr v2)] [] h (f_X0_init  h t0 v1 v2) := by
  unfold f_X0_init
  refine nr_aload_n 0 dX0_init_0 rfl ?_
  refine nr_doV (st := []) (nk_callI (c_X8_init (G := G) hl0 h t0) dX0_init_1 my_X8_init rfl im_X8_init ml_RX0_3 rfl rfl (Nat.le_of_ble_eq_true rfl) (by decide) (by decide)) (fun h1 x2 => ?_)
  refine nr_aload_n 0 dX0_init_4 rfl ?_
  refine nr_aload_n 1 dX0_init_5 rfl ?_
  refine nr_putP [8] 6 dX0_init_6 fk_RX0_9 fw_RX0_9_i (fun h3 => ?_)
  refine nr_aload_n 0 dX0_init_9 rfl ?_
  refine nr_aload_n 2 dX0_init_10 rfl ?_
  refine nr_putP [8] 7 dX0_init_11 fk_RX0_15 fw_RX0_15_i (fun h4 => ?_)
  refine nr_aload_n 0 dX0_init_14 rfl ?_
  refine nr_bipush (v := 6) dX0_init_15 (by decide) ?_
  refine nr_newarray 1 (by decide) dX0_init_17 ac_int (fun h5 => ?_)
  refine nr_putP [8] 8 dX0_init_19 fk_RX0_19 fw_RX0_19_i (fun h6 => ?_)
  refine nr_aload_n 0 dX0_init_22 rfl ?_
  refine nr_getP [8] 8 dX0_init_23 fk_RX0_19 (fun x7 => ?_)
  refine nr_iconst (v := 0) dX0_init_26 (by decide) ?_
  refine nr_aload_n 2 dX0_init_27 rfl ?_
  refine nr_getI [11] 2 dX0_init_28 fk_RX0_23 (fun x8 => ?_)
  refine nr_iastore dX0_init_31 (fun h9 => ?_)
  refine nr_aload_n 0 dX0_init_32 rfl ?_
  refine nr_getP [8] 8 dX0_init_33 fk_RX0_19 (fun x10 => ?_)
  refine nr_iconst (v := 1) dX0_init_36 (by decide) ?_
  refine nr_aload_n 1 dX0_init_37 rfl ?_
  refine nr_getI [16] 6 dX0_init_38 fk_RX0_29 (fun x11 => ?_)
  refine nr_iastore dX0_init_41 (fun h12 => ?_)
  refine nr_aload_n 0 dX0_init_42 rfl ?_
  refine nr_getP [8] 8 dX0_init_43 fk_RX0_19 (fun x13 => ?_)
  refine nr_iconst (v := 2) dX0_init_46 (by decide) ?_
  refine nr_aload_n 2 dX0_init_47 rfl ?_
  refine nr_getI [11] 3 dX0_init_48 fk_RX0_34 (fun x14 => ?_)
  refine nr_iastore dX0_init_51 (fun h15 => ?_)
  refine nr_aload_n 0 dX0_init_52 rfl ?_
  refine nr_getP [8] 8 dX0_init_53 fk_RX0_19 (fun x16 => ?_)
  refine nr_iconst (v := 3) dX0_init_56 (by decide) ?_
  refine nr_aload_n 2 dX0_init_57 rfl ?_
  refine nr_getI [11] 4 dX0_init_58 fk_RX0_37 (fun x17 => ?_)
  refine nr_iastore dX0_init_61 (fun h18 => ?_)
  refine nr_aload_n 0 dX0_init_62 rfl ?_
  refine nr_getP [8] 8 dX0_init_63 fk_RX0_19 (fun x19 => ?_)
  refine nr_iconst (v := 4) dX0_init_66 (by decide) ?_
  refine nr_aload_n 2 dX0_init_67 rfl ?_
  refine nr_getI [11] 5 dX0_init_68 fk_RX0_40 (fun x20 => ?_)
  refine nr_iastore dX0_init_71 (fun h21 => ?_)
  refine nr_aload_n 0 dX0_init_72 rfl ?_
  refine nr_getP [8] 8 dX0_init_73 fk_RX0_19 (fun x22 => ?_)
  refine nr_iconst (v := 5) dX0_init_76 (by decide) ?_
  refine nr_aload_n 2 dX0_init_77 rfl ?_
  refine nr_getI [11] 1 dX0_init_78 fk_RX0_43 (fun x23 => ?_)
  refine nr_iastore dX0_init_81 (fun h24 => ?_)
  exact nr_vret rfl rfl dX0_init_82
theorem c_X0_init {G : nk_G} {l : Launch} (hl0 : l.flags = flags0) (h : nk_H) (t0 : Nat) (v1 : Option Nat) (v2 : Option Nat) : nk_Con G l yX0_init cX0_init 3 (none : Option FieldType) 2 43 nk_eV [.inr (some t0), .inr v1, .inr v2] h (f_X0_init h t0 v1 v2) :=
  nk_con (ini := true) (by decide) hl0 (Nat.le_of_ble_eq_true rfl) (by decide) (s_X0_init hl0 h t0 v1 v2)
set_option maxHeartbeats 4000000 in
theorem s_X9_hasInLine_c2 {G : nk_G} {l : Launch} (hl0 : l.flags = flags0) {r2 : nk_H → Option Nat → Option Nat → Option (nk_H × Int32)} (hr2 : ∀ (h : nk_H) (v1 : Option Nat) (v2 : Option Nat), nk_Sim G l RX9 cX9_hasInLine 3 (some FieldType.boolean) 0 0 false nk_eI 2 [(1, .inr v1), (2, .inr v2)] [] h (r2 h v1 v2)) (h : nk_H) (v1 : Option Nat) (v2 : Option Nat)  : nk_Sim G l RX9 cX9_hasInLine 3 (some FieldType.boolean) 0 0 false nk_eI 2 [(1, .inr v1), (2, .inr v2)] [] h (f_X9_hasInLine_c2  r2 h v1 v2 ) := by
  unfold f_X9_hasInLine_c2
  refine nr_aload_n 1 dX9_hasInLine_2 rfl ?_
  refine nr_ifnull (tgt := 21) dX9_hasInLine_3 (by decide) (fun _ => ?_) (fun _ => ?_)
  · refine nr_iconst (v := 0) dX9_hasInLine_21 (by decide) ?_
    exact nr_zret rfl rfl dX9_hasInLine_22
  · refine nr_aload_n 1 dX9_hasInLine_6 rfl ?_
    refine nr_aload_n 0 dX9_hasInLine_7 rfl ?_
    refine nr_acmp_ne (tgt := 13) dX9_hasInLine_8 (by decide) (fun _ => ?_) (fun _ => ?_)
    · refine nr_iconst (v := 1) dX9_hasInLine_11 (by decide) ?_
      exact nr_zret rfl rfl dX9_hasInLine_12
    · refine nr_aload_n 1 dX9_hasInLine_13 rfl ?_
      refine nr_getP [16] 7 dX9_hasInLine_14 fk_RX9_13 (fun x1 => ?_)
      refine nr_astore_n (lv2 := [(2, .inr x1), (1, .inr v1)]) dX9_hasInLine_17 (by decide) rfl ?_
      refine nr_goto (tgt := 2) dX9_hasInLine_18 (by decide) ?_
      exact nk_locals [1, 0] rfl (hr2 h v1 x1)
theorem s_X9_hasInLine_b2 {G : nk_G} {l : Launch} (hl0 : l.flags = flags0)   : ∀ (n : Nat) (h : nk_H) (v1 : Option Nat) (v2 : Option Nat), nk_Sim G l RX9 cX9_hasInLine 3 (some FieldType.boolean) 0 0 false nk_eI 2 [(1, .inr v1), (2, .inr v2)] [] h (f_X9_hasInLine_b2   n h v1 v2)
  | 0, _, _, _ => nk_none
  | n + 1, h, v1, v2 => s_X9_hasInLine_c2 hl0 (s_X9_hasInLine_b2 hl0  n) h v1 v2
set_option maxHeartbeats 4000000 in
theorem s_X9_hasInLine {G : nk_G} {l : Launch} (hl0 : l.flags = flags0) (h : nk_H) (t0 : Nat) (v1 : Option Nat) : nk_Sim G l RX9 cX9_hasInLine 3 (some FieldType.boolean) 0 0 false nk_eI 0 [(0, .inr (some t0)), (1, .inr v1)] [] h (f_X9_hasInLine  h t0 v1) := by
  unfold f_X9_hasInLine
  refine nr_aload_n 0 dX9_hasInLine_0 rfl ?_
  refine nr_astore_n (lv2 := [(2, .inr (some t0)), (0, .inr (some t0)), (1, .inr v1)]) dX9_hasInLine_1 (by decide) rfl ?_
  exact nk_locals [2, 0] rfl (s_X9_hasInLine_b2 hl0  4096 h v1 (some t0))
theorem c_X9_hasInLine {G : nk_G} {l : Launch} (hl0 : l.flags = flags0) (h : nk_H) (t0 : Nat) (v1 : Option Nat) : nk_Con G l yX9_hasInLine cX9_hasInLine 3 (some FieldType.boolean) 0 0 nk_eI [.inr (some t0), .inr v1] h (f_X9_hasInLine h t0 v1) :=
  nk_con (ini := false) (by decide) hl0 (Nat.le_of_ble_eq_true rfl) (by decide) (s_X9_hasInLine hl0 h t0 v1)
set_option maxHeartbeats 4000000 in
theorem s_X0_amountBy_c22 {G : nk_G} {l : Launch} (hl0 : l.flags = flags0)   (h : nk_H)  (s0 : Int32) : nk_Sim G l RX0 cX0_amountBy 2 (some FieldType.int) 1 22 false nk_eI 22 [] [.inl s0] h (f_X0_amountBy_c22   h  s0) := by
  unfold f_X0_amountBy_c22
  exact nr_iret rfl rfl dX0_amountBy_22
set_option maxHeartbeats 4000000 in
theorem s_X0_amountBy {G : nk_G} {l : Launch} (hl0 : l.flags = flags0) (h : nk_H) (t0 : Nat) (v1 : Option Nat) : nk_Sim G l RX0 cX0_amountBy 2 (some FieldType.int) 1 22 false nk_eI 0 [(0, .inr (some t0)), (1, .inr v1)] [] h (f_X0_amountBy  h t0 v1) := by
  unfold f_X0_amountBy
  refine nr_aload_n 0 dX0_amountBy_0 rfl ?_
  refine nr_getP [8] 6 dX0_amountBy_1 fk_RX0_9 (fun x1 => ?_)
  refine nr_aload_n 1 dX0_amountBy_4 rfl ?_
  refine nr_rcv (ks := [16]) (pre := [.inr v1]) (fun a2 hm => ?_)
  refine nr_doI (st := []) (nk_callV (q := (RX9, TX9, 15)) (ci := 9) (c_X9_hasInLine (G := G) hl0 h a2 v1) dX0_amountBy_5 (List.mem_singleton.mp hm) rfl rfl my_X9_hasInLine im_X9_hasInLine se_RX9_X9_hasInLine ml_RX0_46 rfl rfl (Nat.le_of_ble_eq_true rfl) (by decide) (by decide)) (fun h3 x4 => ?_)
  refine nr_if_eq (tgt := 21) dX0_amountBy_8 (by decide) (fun _ => ?_) (fun _ => ?_)
  · refine nr_iconst (v := 0) dX0_amountBy_21 (by decide) ?_
    exact nk_locals [] rfl (s_X0_amountBy_c22 hl0  h3 0)
  · refine nr_aload_n 0 dX0_amountBy_11 rfl ?_
    refine nr_getP [8] 7 dX0_amountBy_12 fk_RX0_15 (fun x5 => ?_)
    refine nr_getI [11] 4 dX0_amountBy_15 fk_RX0_37 (fun x6 => ?_)
    refine nr_goto (tgt := 22) dX0_amountBy_18 (by decide) ?_
    exact nk_locals [] rfl (s_X0_amountBy_c22 hl0  h3 x6)
theorem c_X0_amountBy {G : nk_G} {l : Launch} (hl0 : l.flags = flags0) (h : nk_H) (t0 : Nat) (v1 : Option Nat) : nk_Con G l yX0_amountBy cX0_amountBy 2 (some FieldType.int) 1 22 nk_eI [.inr (some t0), .inr v1] h (f_X0_amountBy h t0 v1) :=
  nk_con (ini := false) (by decide) hl0 (Nat.le_of_ble_eq_true rfl) (by decide) (s_X0_amountBy hl0 h t0 v1)
set_option maxHeartbeats 4000000 in
theorem s_X1_init {G : nk_G} {l : Launch} (hl0 : l.flags = flags0) (h : nk_H) (t0 : Nat) (v1 : Int32) : nk_Sim G l RX1 cX1_init 2 (none : Option FieldType) 4 72 true nk_eV 0 [(0, .inr (some t0)), (1, .inl v1)] [] h (f_X1_init  h t0 v1) := by
  unfold f_X1_init
  refine nr_aload_n 0 dX1_init_0 rfl ?_
  refine nr_objInit dX1_init_1 ml_RX1_1 oi_i oi_c (by decide) (Nat.le_of_ble_eq_true rfl) ?_
  refine nr_aload_n 0 dX1_init_4 rfl ?_
  refine nr_iload_n 1 dX1_init_5 rfl ?_
  refine nr_putI [9] 0 dX1_init_6 fk_RX1_7 fw_RX1_7_i (fun h1 => ?_)
  refine nr_aload_n 0 dX1_init_9 rfl ?_
  refine nr_newb (q := (RJx4a65c, TJx4a65c, 3)) 0 rfl dX1_init_10 cl_RX1_13 ins_RJx4a65c in_RJx4a65c rfl (fun h2 => ?_)
  refine nr_dup dX1_init_13 ?_
  refine nr_doV (st := [.inr (some (nk_N h1)), .inr (some t0)]) (nk_callI (c_Jx4a65c_init_da8c8 (G := G) hl0 h2 (nk_N h1)) dX1_init_14 my_Jx4a65c_init_da8c8 rfl im_Jx4a65c_init_da8c8 ml_RX1_15 rfl rfl (Nat.le_of_ble_eq_true rfl) (by decide) (by decide)) (fun h3 x4 => ?_)
  refine nr_putP [9] 1 dX1_init_17 fk_RX1_16 fw_RX1_16_i (fun h5 => ?_)
  exact nr_vret rfl rfl dX1_init_20
theorem c_X1_init {G : nk_G} {l : Launch} (hl0 : l.flags = flags0) (h : nk_H) (t0 : Nat) (v1 : Int32) : nk_Con G l yX1_init cX1_init 2 (none : Option FieldType) 4 72 nk_eV [.inr (some t0), .inl v1] h (f_X1_init h t0 v1) :=
  nk_con (ini := true) (by decide) hl0 (Nat.le_of_ble_eq_true rfl) (by decide) (s_X1_init hl0 h t0 v1)
set_option maxHeartbeats 4000000 in
theorem s_X1_count {G : nk_G} {l : Launch} (hl0 : l.flags = flags0) (h : nk_H) (t0 : Nat) : nk_Sim G l RX1 cX1_count 1 (some FieldType.int) 1 20 false nk_eI 0 [(0, .inr (some t0))] [] h (f_X1_count  h t0) := by
  unfold f_X1_count
  refine nr_aload_n 0 dX1_count_0 rfl ?_
  refine nr_getP [9] 1 dX1_count_1 fk_RX1_16 (fun x1 => ?_)
  refine nr_rcv (ks := [7]) (pre := []) (fun a2 hm => ?_)
  refine nr_doI (st := []) (nk_callV (q := (RJx4a65c, TJx4a65c, 3)) (ci := 0) (c_Jx4a65c_size_8abf5 (G := G) hl0 h a2) dX1_count_4 (List.mem_singleton.mp hm) rfl rfl my_Jx4a65c_size_8abf5 im_Jx4a65c_size_8abf5 se_RJx4a65c_Jx4a65c_size_8abf5 ml_RX1_20 rfl rfl (Nat.le_of_ble_eq_true rfl) (by decide) (by decide)) (fun h3 x4 => ?_)
  exact nr_iret rfl rfl dX1_count_7
theorem c_X1_count {G : nk_G} {l : Launch} (hl0 : l.flags = flags0) (h : nk_H) (t0 : Nat) : nk_Con G l yX1_count cX1_count 1 (some FieldType.int) 1 20 nk_eI [.inr (some t0)] h (f_X1_count h t0) :=
  nk_con (ini := false) (by decide) hl0 (Nat.le_of_ble_eq_true rfl) (by decide) (s_X1_count hl0 h t0)
set_option maxHeartbeats 4000000 in
theorem s_X1_actOf {G : nk_G} {l : Launch} (hl0 : l.flags = flags0) (h : nk_H) (t0 : Nat) (v1 : Int32) : nk_Sim G l RX1 cX1_actOf 2 (some (FieldType.object "NotaryKiosk$Act")) 3 64 false nk_eR 0 [(0, .inr (some t0)), (1, .inl v1)] [] h (f_X1_actOf  h t0 v1) := by
  unfold f_X1_actOf
  refine nr_aload_n 0 dX1_actOf_0 rfl ?_
  refine nr_getP [9] 1 dX1_actOf_1 fk_RX1_16 (fun x1 => ?_)
  refine nr_iload_n 1 dX1_actOf_4 rfl ?_
  refine nr_rcv (ks := [7]) (pre := [.inl v1]) (fun a2 hm => ?_)
  refine nr_doR (st := []) (nk_callV (q := (RJx4a65c, TJx4a65c, 3)) (ci := 0) (c_Jx4a65c_get_915e3 (G := G) hl0 h a2 v1) dX1_actOf_5 (List.mem_singleton.mp hm) rfl rfl my_Jx4a65c_get_915e3 im_Jx4a65c_get_915e3 se_RJx4a65c_Jx4a65c_get_915e3 ml_RX1_24 rfl rfl (Nat.le_of_ble_eq_true rfl) (by decide) (by decide)) (fun h3 x4 => ?_)
  refine nr_cast dX1_actOf_8 cl_RX1_28 ca_Act ?_
  exact nr_aret rfl rfl (Or.inl ⟨_, rfl⟩) dX1_actOf_11
theorem c_X1_actOf {G : nk_G} {l : Launch} (hl0 : l.flags = flags0) (h : nk_H) (t0 : Nat) (v1 : Int32) : nk_Con G l yX1_actOf cX1_actOf 2 (some (FieldType.object "NotaryKiosk$Act")) 3 64 nk_eR [.inr (some t0), .inl v1] h (f_X1_actOf h t0 v1) :=
  nk_con (ini := false) (by decide) hl0 (Nat.le_of_ble_eq_true rfl) (by decide) (s_X1_actOf hl0 h t0 v1)
set_option maxHeartbeats 4000000 in
theorem s_X1_sealAhead_c31 {G : nk_G} {l : Launch} (hl0 : l.flags = flags0)   (h : nk_H)  (s0 : Int32) : nk_Sim G l RX1 cX1_sealAhead 2 (some FieldType.int) 3 64 false nk_eI 31 [] [.inl s0] h (f_X1_sealAhead_c31   h  s0) := by
  unfold f_X1_sealAhead_c31
  exact nr_iret rfl rfl dX1_sealAhead_31
set_option maxHeartbeats 4000000 in
theorem s_X1_sealAhead {G : nk_G} {l : Launch} (hl0 : l.flags = flags0) (h : nk_H) (t0 : Nat) (v1 : Int32) : nk_Sim G l RX1 cX1_sealAhead 2 (some FieldType.int) 3 64 false nk_eI 0 [(0, .inr (some t0)), (1, .inl v1)] [] h (f_X1_sealAhead  h t0 v1) := by
  unfold f_X1_sealAhead
  refine nr_iload_n 1 dX1_sealAhead_0 rfl ?_
  refine nr_if_le (tgt := 23) dX1_sealAhead_1 (by decide) (fun _ => ?_) (fun _ => ?_)
  · refine nr_sipush (v := 1000) dX1_sealAhead_23 (by decide) ?_
    refine nr_aload_n 0 dX1_sealAhead_26 rfl ?_
    refine nr_getI [9] 0 dX1_sealAhead_27 fk_RX1_7 (fun x1 => ?_)
    refine nr_iadd dX1_sealAhead_30 ?_
    exact nk_locals [] rfl (s_X1_sealAhead_c31 hl0  h (1000 + x1))
  · refine nr_aload_n 0 dX1_sealAhead_4 rfl ?_
    refine nr_getP [9] 1 dX1_sealAhead_5 fk_RX1_16 (fun x2 => ?_)
    refine nr_iload_n 1 dX1_sealAhead_8 rfl ?_
    refine nr_iconst (v := 1) dX1_sealAhead_9 (by decide) ?_
    refine nr_isub dX1_sealAhead_10 ?_
    refine nr_rcv (ks := [7]) (pre := [.inl (v1 - 1)]) (fun a3 hm => ?_)
    refine nr_doR (st := []) (nk_callV (q := (RJx4a65c, TJx4a65c, 3)) (ci := 0) (c_Jx4a65c_get_915e3 (G := G) hl0 h a3 (v1 - 1)) dX1_sealAhead_11 (List.mem_singleton.mp hm) rfl rfl my_Jx4a65c_get_915e3 im_Jx4a65c_get_915e3 se_RJx4a65c_Jx4a65c_get_915e3 ml_RX1_24 rfl rfl (Nat.le_of_ble_eq_true rfl) (by decide) (by decide)) (fun h4 x5 => ?_)
    refine nr_cast dX1_sealAhead_14 cl_RX1_28 ca_Act ?_
    refine nr_getI [8] 9 dX1_sealAhead_17 fk_RX1_34 (fun x7 => ?_)
    refine nr_goto (tgt := 31) dX1_sealAhead_20 (by decide) ?_
    exact nk_locals [] rfl (s_X1_sealAhead_c31 hl0  h4 x7)
theorem c_X1_sealAhead {G : nk_G} {l : Launch} (hl0 : l.flags = flags0) (h : nk_H) (t0 : Nat) (v1 : Int32) : nk_Con G l yX1_sealAhead cX1_sealAhead 2 (some FieldType.int) 3 64 nk_eI [.inr (some t0), .inl v1] h (f_X1_sealAhead h t0 v1) :=
  nk_con (ini := false) (by decide) hl0 (Nat.le_of_ble_eq_true rfl) (by decide) (s_X1_sealAhead hl0 h t0 v1)
set_option maxHeartbeats 4000000 in
theorem s_X11_bit {G : nk_G} {l : Launch} (hl0 : l.flags = flags0) (h : nk_H) (v0 : Int32) : nk_Sim G l RX11 cX11_bit 1 (some FieldType.int) 0 0 false nk_eI 0 [(0, .inl v0)] [] h (f_X11_bit  h v0) := by
  unfold f_X11_bit
  refine nr_iconst (v := 1) dX11_bit_0 (by decide) ?_
  refine nr_iload_n 0 dX11_bit_1 rfl ?_
  refine nr_ishl dX11_bit_2 ?_
  exact nr_iret rfl rfl dX11_bit_3
theorem c_X11_bit {G : nk_G} {l : Launch} (hl0 : l.flags = flags0) (h : nk_H) (v0 : Int32) : nk_Con G l yX11_bit cX11_bit 1 (some FieldType.int) 0 0 nk_eI [.inl v0] h (f_X11_bit h v0) :=
  nk_con (ini := false) (by decide) hl0 (Nat.le_of_ble_eq_true rfl) (by decide) (s_X11_bit hl0 h v0)
set_option maxHeartbeats 4000000 in
theorem s_X11_hasBit_c14 {G : nk_G} {l : Launch} (hl0 : l.flags = flags0)   (h : nk_H)  (s0 : Int32) : nk_Sim G l RX11 cX11_hasBit 2 (some FieldType.boolean) 1 20 false nk_eI 14 [] [.inl s0] h (f_X11_hasBit_c14   h  s0) := by
  unfold f_X11_hasBit_c14
  exact nr_zret rfl rfl dX11_hasBit_14
set_option maxHeartbeats 4000000 in
theorem s_X11_hasBit {G : nk_G} {l : Launch} (hl0 : l.flags = flags0) (h : nk_H) (v0 : Int32) (v1 : Int32) : nk_Sim G l RX11 cX11_hasBit 2 (some FieldType.boolean) 1 20 false nk_eI 0 [(0, .inl v0), (1, .inl v1)] [] h (f_X11_hasBit  h v0 v1) := by
  unfold f_X11_hasBit
  refine nr_iload_n 0 dX11_hasBit_0 rfl ?_
  refine nr_iload_n 1 dX11_hasBit_1 rfl ?_
  refine nr_doI (st := [.inl v0]) (nk_callS (c_X11_bit (G := G) hl0 h v1) dX11_hasBit_2 my_X11_bit st_X11_bit ml_RX11_279 rfl rfl (Nat.le_of_ble_eq_true rfl) (by decide) (by decide)) (fun h1 x2 => ?_)
  refine nr_iand dX11_hasBit_5 ?_
  refine nr_if_eq (tgt := 13) dX11_hasBit_6 (by decide) (fun _ => ?_) (fun _ => ?_)
  · refine nr_iconst (v := 0) dX11_hasBit_13 (by decide) ?_
    exact nk_locals [] rfl (s_X11_hasBit_c14 hl0  h1 0)
  · refine nr_iconst (v := 1) dX11_hasBit_9 (by decide) ?_
    refine nr_goto (tgt := 14) dX11_hasBit_10 (by decide) ?_
    exact nk_locals [] rfl (s_X11_hasBit_c14 hl0  h1 1)
theorem c_X11_hasBit {G : nk_G} {l : Launch} (hl0 : l.flags = flags0) (h : nk_H) (v0 : Int32) (v1 : Int32) : nk_Con G l yX11_hasBit cX11_hasBit 2 (some FieldType.boolean) 1 20 nk_eI [.inl v0, .inl v1] h (f_X11_hasBit h v0 v1) :=
  nk_con (ini := false) (by decide) hl0 (Nat.le_of_ble_eq_true rfl) (by decide) (s_X11_hasBit hl0 h v0 v1)
set_option maxHeartbeats 4000000 in
theorem s_X11_saltOf {G : nk_G} {l : Launch} (hl0 : l.flags = flags0) (h : nk_H) (v0 : Int32) (v1 : Int32) (v2 : Int32) : nk_Sim G l RX11 cX11_saltOf 3 (some FieldType.int) 0 0 false nk_eI 0 [(0, .inl v0), (1, .inl v1), (2, .inl v2)] [] h (f_X11_saltOf  h v0 v1 v2) := by
  unfold f_X11_saltOf
  refine nr_sipush (v := 7919) dX11_saltOf_0 (by decide) ?_
  refine nr_iload_n 0 dX11_saltOf_3 rfl ?_
  refine nr_imul dX11_saltOf_4 ?_
  refine nr_sipush (v := 613) dX11_saltOf_5 (by decide) ?_
  refine nr_iload_n 1 dX11_saltOf_8 rfl ?_
  refine nr_imul dX11_saltOf_9 ?_
  refine nr_iadd dX11_saltOf_10 ?_
  refine nr_bipush (v := 97) dX11_saltOf_11 (by decide) ?_
  refine nr_iload_n 2 dX11_saltOf_13 rfl ?_
  refine nr_imul dX11_saltOf_14 ?_
  refine nr_iadd dX11_saltOf_15 ?_
  exact nr_iret rfl rfl dX11_saltOf_16
theorem c_X11_saltOf {G : nk_G} {l : Launch} (hl0 : l.flags = flags0) (h : nk_H) (v0 : Int32) (v1 : Int32) (v2 : Int32) : nk_Con G l yX11_saltOf cX11_saltOf 3 (some FieldType.int) 0 0 nk_eI [.inl v0, .inl v1, .inl v2] h (f_X11_saltOf h v0 v1 v2) :=
  nk_con (ini := false) (by decide) hl0 (Nat.le_of_ble_eq_true rfl) (by decide) (s_X11_saltOf hl0 h v0 v1 v2)
set_option maxHeartbeats 4000000 in
theorem s_X11_sealOf {G : nk_G} {l : Launch} (hl0 : l.flags = flags0) (h : nk_H) (v0 : Int32) (v1 : Int32) : nk_Sim G l RX11 cX11_sealOf 2 (some FieldType.int) 0 0 false nk_eI 0 [(0, .inl v0), (1, .inl v1)] [] h (f_X11_sealOf  h v0 v1) := by
  unfold f_X11_sealOf
  refine nr_sipush (v := 131) dX11_sealOf_0 (by decide) ?_
  refine nr_iload_n 0 dX11_sealOf_3 rfl ?_
  refine nr_imul dX11_sealOf_4 ?_
  refine nr_bipush (v := 17) dX11_sealOf_5 (by decide) ?_
  refine nr_iload_n 1 dX11_sealOf_7 rfl ?_
  refine nr_imul dX11_sealOf_8 ?_
  refine nr_iadd dX11_sealOf_9 ?_
  refine nr_bipush (v := 7) dX11_sealOf_10 (by decide) ?_
  refine nr_iadd dX11_sealOf_12 ?_
  refine nr_ldcw (v := 1000003) dX11_sealOf_13 kc_RX11_390 ?_
  refine nr_irem dX11_sealOf_16 (by decide) ?_
  exact nr_iret rfl rfl dX11_sealOf_17
theorem c_X11_sealOf {G : nk_G} {l : Launch} (hl0 : l.flags = flags0) (h : nk_H) (v0 : Int32) (v1 : Int32) : nk_Con G l yX11_sealOf cX11_sealOf 2 (some FieldType.int) 0 0 nk_eI [.inl v0, .inl v1] h (f_X11_sealOf h v0 v1) :=
  nk_con (ini := false) (by decide) hl0 (Nat.le_of_ble_eq_true rfl) (by decide) (s_X11_sealOf hl0 h v0 v1)
set_option maxHeartbeats 4000000 in
theorem s_X11_markOf {G : nk_G} {l : Launch} (hl0 : l.flags = flags0) (h : nk_H) (v0 : Int32) (v1 : Int32) (v2 : Int32) (v3 : Int32) : nk_Sim G l RX11 cX11_markOf 4 (some FieldType.int) 1 22 false nk_eI 0 [(0, .inl v0), (1, .inl v1), (2, .inl v2), (3, .inl v3)] [] h (f_X11_markOf  h v0 v1 v2 v3) := by
  unfold f_X11_markOf
  refine nr_iload_n 0 dX11_markOf_0 rfl ?_
  refine nr_iload_n 1 dX11_markOf_1 rfl ?_
  refine nr_iload_n 2 dX11_markOf_2 rfl ?_
  refine nr_doI (st := []) (nk_callS (c_X11_saltOf (G := G) hl0 h v0 v1 v2) dX11_markOf_3 my_X11_saltOf st_X11_saltOf ml_RX11_391 rfl rfl (Nat.le_of_ble_eq_true rfl) (by decide) (by decide)) (fun h1 x2 => ?_)
  refine nr_iload_n 3 dX11_markOf_6 rfl ?_
  refine nr_doI (st := []) (nk_callS (c_X11_sealOf (G := G) hl0 h1 x2 v3) dX11_markOf_7 my_X11_sealOf st_X11_sealOf ml_RX11_395 rfl rfl (Nat.le_of_ble_eq_true rfl) (by decide) (by decide)) (fun h3 x4 => ?_)
  exact nr_iret rfl rfl dX11_markOf_10
theorem c_X11_markOf {G : nk_G} {l : Launch} (hl0 : l.flags = flags0) (h : nk_H) (v0 : Int32) (v1 : Int32) (v2 : Int32) (v3 : Int32) : nk_Con G l yX11_markOf cX11_markOf 4 (some FieldType.int) 1 22 nk_eI [.inl v0, .inl v1, .inl v2, .inl v3] h (f_X11_markOf h v0 v1 v2 v3) :=
  nk_con (ini := false) (by decide) hl0 (Nat.le_of_ble_eq_true rfl) (by decide) (s_X11_markOf hl0 h v0 v1 v2 v3)
set_option maxHeartbeats 4000000 in
theorem s_X11_sealFrom_c48 {G : nk_G} {l : Launch} (hl0 : l.flags = flags0) {r6 : nk_H → Int32 → Int32 → Int32 → Option Nat → Int32 → Int32 → Int32 → Option (nk_H × Int32)} (hr6 : ∀ (h : nk_H) (v0 : Int32) (v1 : Int32) (v2 : Int32) (v3 : Option Nat) (v4 : Int32) (v5 : Int32) (v6 : Int32), nk_Sim G l RX11 cX11_sealFrom 8 (some FieldType.int) 2 45 false nk_eI 6 [(0, .inl v0), (1, .inl v1), (2, .inl v2), (3, .inr v3), (4, .inl v4), (5, .inl v5), (6, .inl v6)] [] h (r6 h v0 v1 v2 v3 v4 v5 v6)) (h : nk_H) (v0 : Int32) (v1 : Int32) (v2 : Int32) (v3 : Option Nat) (v4 : Int32) (v5 : Int32) (v6 : Int32) (s0 : Int32) : nk_Sim G l RX11 cX11_sealFrom 8 (some FieldType.int) 2 45 false nk_eI 48 [(0, .inl v0), (1, .inl v1), (2, .inl v2), (3, .inr v3), (4, .inl v4), (5, .inl v5), (6, .inl v6)] [.inl s0] h (f_X11_sealFrom_c48  r6 h v0 v1 v2 v3 v4 v5 v6 s0) := by
  unfold f_X11_sealFrom_c48
  refine nr_istore (lv2 := [(7, .inl s0), (0, .inl v0), (1, .inl v1), (2, .inl v2), (3, .inr v3), (4, .inl v4), (5, .inl v5), (6, .inl v6)]) dX11_sealFrom_48 (by decide) rfl ?_
  refine nr_iload 6 dX11_sealFrom_50 rfl ?_
  refine nr_iload 0 dX11_sealFrom_52 rfl ?_
  refine nr_doI (st := []) (nk_callS (c_X11_sealOf (G := G) hl0 h v5 s0) dX11_sealFrom_54 my_X11_sealOf st_X11_sealOf ml_RX11_395 rfl rfl (Nat.le_of_ble_eq_true rfl) (by decide) (by decide)) (fun h1 x2 => ?_)
  refine nr_istore (lv2 := [(5, .inl x2), (7, .inl s0), (0, .inl v0), (1, .inl v1), (2, .inl v2), (3, .inr v3), (4, .inl v4), (6, .inl v6)]) dX11_sealFrom_57 (by decide) rfl ?_
  refine nr_iinc (lv2 := [(6, .inl (v6 + 1)), (5, .inl x2), (7, .inl s0), (0, .inl v0), (1, .inl v1), (2, .inl v2), (3, .inr v3), (4, .inl v4)]) 7 (v6 + 1) dX11_sealFrom_59 rfl (by rfl) (by decide) rfl ?_
  refine nr_goto (tgt := 6) dX11_sealFrom_62 (by decide) ?_
  exact nk_locals [3, 4, 5, 6, 7, 1, 0] rfl (hr6 h1 v0 v1 v2 v3 v4 x2 (v6 + 1))
set_option maxHeartbeats 4000000 in
theorem s_X11_sealFrom_c65 {G : nk_G} {l : Launch} (hl0 : l.flags = flags0)   (h : nk_H) (v0 : Int32) (v5 : Int32)  : nk_Sim G l RX11 cX11_sealFrom 8 (some FieldType.int) 2 45 false nk_eI 65 [(0, .inl v0), (5, .inl v5)] [] h (f_X11_sealFrom_c65   h v0 v5 ) := by
  unfold f_X11_sealFrom_c65
  refine nr_iload_n 0 dX11_sealFrom_65 rfl ?_
  refine nr_iload 1 dX11_sealFrom_66 rfl ?_
  refine nr_doI (st := []) (nk_callS (c_X11_sealOf (G := G) hl0 h v0 v5) dX11_sealFrom_68 my_X11_sealOf st_X11_sealOf ml_RX11_395 rfl rfl (Nat.le_of_ble_eq_true rfl) (by decide) (by decide)) (fun h3 x4 => ?_)
  exact nr_iret rfl rfl dX11_sealFrom_71
set_option maxHeartbeats 4000000 in
theorem s_X11_sealFrom_c6 {G : nk_G} {l : Launch} (hl0 : l.flags = flags0) {r6 : nk_H → Int32 → Int32 → Int32 → Option Nat → Int32 → Int32 → Int32 → Option (nk_H × Int32)} (hr6 : ∀ (h : nk_H) (v0 : Int32) (v1 : Int32) (v2 : Int32) (v3 : Option Nat) (v4 : Int32) (v5 : Int32) (v6 : Int32), nk_Sim G l RX11 cX11_sealFrom 8 (some FieldType.int) 2 45 false nk_eI 6 [(0, .inl v0), (1, .inl v1), (2, .inl v2), (3, .inr v3), (4, .inl v4), (5, .inl v5), (6, .inl v6)] [] h (r6 h v0 v1 v2 v3 v4 v5 v6)) (h : nk_H) (v0 : Int32) (v1 : Int32) (v2 : Int32) (v3 : Option Nat) (v4 : Int32) (v5 : Int32) (v6 : Int32)  : nk_Sim G l RX11 cX11_sealFrom 8 (some FieldType.int) 2 45 false nk_eI 6 [(0, .inl v0), (1, .inl v1), (2, .inl v2), (3, .inr v3), (4, .inl v4), (5, .inl v5), (6, .inl v6)] [] h (f_X11_sealFrom_c6  r6 h v0 v1 v2 v3 v4 v5 v6 ) := by
  unfold f_X11_sealFrom_c6
  refine nr_iload 6 dX11_sealFrom_6 rfl ?_
  refine nr_bipush (v := 6) dX11_sealFrom_8 (by decide) ?_
  refine nr_icmp_ge (tgt := 65) dX11_sealFrom_10 (by decide) (fun _ => ?_) (fun _ => ?_)
  · exact nk_locals [0, 5] rfl (s_X11_sealFrom_c65 hl0  h v0 v5)
  · refine nr_iload 6 dX11_sealFrom_13 rfl ?_
    refine nr_aload_n 3 dX11_sealFrom_15 rfl ?_
    refine nr_alen dX11_sealFrom_16 (fun x5 => ?_)
    refine nr_icmp_ge (tgt := 65) dX11_sealFrom_17 (by decide) (fun _ => ?_) (fun _ => ?_)
    · exact nk_locals [0, 5] rfl (s_X11_sealFrom_c65 hl0  h v0 v5)
    · refine nr_iload 4 dX11_sealFrom_20 rfl ?_
      refine nr_iload 6 dX11_sealFrom_22 rfl ?_
      refine nr_doI (st := []) (nk_callS (c_X11_hasBit (G := G) hl0 h v4 v6) dX11_sealFrom_24 my_X11_hasBit st_X11_hasBit ml_RX11_282 rfl rfl (Nat.le_of_ble_eq_true rfl) (by decide) (by decide)) (fun h6 x7 => ?_)
      refine nr_if_eq (tgt := 37) dX11_sealFrom_27 (by decide) (fun _ => ?_) (fun _ => ?_)
      · refine nr_iload_n 1 dX11_sealFrom_37 rfl ?_
        refine nr_iload_n 2 dX11_sealFrom_38 rfl ?_
        refine nr_iload 6 dX11_sealFrom_39 rfl ?_
        refine nr_aload_n 3 dX11_sealFrom_41 rfl ?_
        refine nr_iload 6 dX11_sealFrom_42 rfl ?_
        refine nr_iaload dX11_sealFrom_44 (fun x8 => ?_)
        refine nr_doI (st := []) (nk_callS (c_X11_markOf (G := G) hl0 h6 v1 v2 v6 x8) dX11_sealFrom_45 my_X11_markOf st_X11_markOf ml_RX11_398 rfl rfl (Nat.le_of_ble_eq_true rfl) (by decide) (by decide)) (fun h9 x10 => ?_)
        exact s_X11_sealFrom_c48 hl0 hr6 h9 v0 v1 v2 v3 v4 v5 v6 x10
      · refine nr_aload_n 3 dX11_sealFrom_30 rfl ?_
        refine nr_iload 6 dX11_sealFrom_31 rfl ?_
        refine nr_iaload dX11_sealFrom_33 (fun x11 => ?_)
        refine nr_goto (tgt := 48) dX11_sealFrom_34 (by decide) ?_
        exact s_X11_sealFrom_c48 hl0 hr6 h6 v0 v1 v2 v3 v4 v5 v6 x11
theorem s_X11_sealFrom_b6 {G : nk_G} {l : Launch} (hl0 : l.flags = flags0)   : ∀ (n : Nat) (h : nk_H) (v0 : Int32) (v1 : Int32) (v2 : Int32) (v3 : Option Nat) (v4 : Int32) (v5 : Int32) (v6 : Int32), nk_Sim G l RX11 cX11_sealFrom 8 (some FieldType.int) 2 45 false nk_eI 6 [(0, .inl v0), (1, .inl v1), (2, .inl v2), (3, .inr v3), (4, .inl v4), (5, .inl v5), (6, .inl v6)] [] h (f_X11_sealFrom_b6   n h v0 v1 v2 v3 v4 v5 v6)
  | 0, _, _, _, _, _, _, _, _ => nk_none
  | n + 1, h, v0, v1, v2, v3, v4, v5, v6 => s_X11_sealFrom_c6 hl0 (s_X11_sealFrom_b6 hl0  n) h v0 v1 v2 v3 v4 v5 v6
set_option maxHeartbeats 4000000 in
theorem s_X11_sealFrom {G : nk_G} {l : Launch} (hl0 : l.flags = flags0) (h : nk_H) (v0 : Int32) (v1 : Int32) (v2 : Int32) (v3 : Option Nat) (v4 : Int32) : nk_Sim G l RX11 cX11_sealFrom 8 (some FieldType.int) 2 45 false nk_eI 0 [(0, .inl v0), (1, .inl v1), (2, .inl v2), (3, .inr v3), (4, .inl v4)] [] h (f_X11_sealFrom  h v0 v1 v2 v3 v4) := by
  unfold f_X11_sealFrom
  refine nr_iconst (v := 1) dX11_sealFrom_0 (by decide) ?_
  refine nr_istore (lv2 := [(5, .inl 1), (0, .inl v0), (1, .inl v1), (2, .inl v2), (3, .inr v3), (4, .inl v4)]) dX11_sealFrom_1 (by decide) rfl ?_
  refine nr_iconst (v := 0) dX11_sealFrom_3 (by decide) ?_
  refine nr_istore (lv2 := [(6, .inl 0), (5, .inl 1), (0, .inl v0), (1, .inl v1), (2, .inl v2), (3, .inr v3), (4, .inl v4)]) dX11_sealFrom_4 (by decide) rfl ?_
  exact nk_locals [2, 3, 4, 5, 6, 1, 0] rfl (s_X11_sealFrom_b6 hl0  4096 h v0 v1 v2 v3 v4 1 0)
theorem c_X11_sealFrom {G : nk_G} {l : Launch} (hl0 : l.flags = flags0) (h : nk_H) (v0 : Int32) (v1 : Int32) (v2 : Int32) (v3 : Option Nat) (v4 : Int32) : nk_Con G l yX11_sealFrom cX11_sealFrom 8 (some FieldType.int) 2 45 nk_eI [.inl v0, .inl v1, .inl v2, .inr v3, .inl v4] h (f_X11_sealFrom h v0 v1 v2 v3 v4) :=
  nk_con (ini := false) (by decide) hl0 (Nat.le_of_ble_eq_true rfl) (by decide) (s_X11_sealFrom hl0 h v0 v1 v2 v3 v4)
set_option maxHeartbeats 4000000 in
theorem s_X1_sealNow {G : nk_G} {l : Launch} (hl0 : l.flags = flags0) (h : nk_H) (t0 : Nat) (v1 : Int32) (v2 : Option Nat) : nk_Sim G l RX1 cX1_sealNow 3 (some FieldType.int) 4 85 false nk_eI 0 [(0, .inr (some t0)), (1, .inl v1), (2, .inr v2)] [] h (f_X1_sealNow  h t0 v1 v2) := by
  unfold f_X1_sealNow
  refine nr_aload_n 0 dX1_sealNow_0 rfl ?_
  refine nr_iload_n 1 dX1_sealNow_1 rfl ?_
  refine nr_rcv (ks := [9]) (pre := [.inl v1]) (fun a1 hm => ?_)
  refine nr_doI (st := []) (nk_callV (q := (RX1, TX1, 2)) (ci := 2) (c_X1_sealAhead (G := G) hl0 h a1 v1) dX1_sealNow_2 (List.mem_singleton.mp hm) rfl rfl my_X1_sealAhead im_X1_sealAhead se_RX1_X1_sealAhead ml_RX1_41 rfl rfl (Nat.le_of_ble_eq_true rfl) (by decide) (by decide)) (fun h2 x3 => ?_)
  refine nr_aload_n 0 dX1_sealNow_5 rfl ?_
  refine nr_getI [9] 0 dX1_sealNow_6 fk_RX1_7 (fun x4 => ?_)
  refine nr_iload_n 1 dX1_sealNow_9 rfl ?_
  refine nr_aload_n 2 dX1_sealNow_10 rfl ?_
  refine nr_getP [8] 8 dX1_sealNow_11 fk_RX1_45 (fun x5 => ?_)
  refine nr_iconst (v := 0) dX1_sealNow_14 (by decide) ?_
  refine nr_doI (st := []) (nk_callSN (c_X11_sealFrom (G := G) hl0 h2 x3 x4 v1 x5 0) dX1_sealNow_15 my_X11_sealFrom st_X11_sealFrom nl_RX1_49 rfl rfl (Nat.le_of_ble_eq_true rfl) (by decide) (by decide)) (fun h6 x7 => ?_)
  exact nr_iret rfl rfl dX1_sealNow_18
theorem c_X1_sealNow {G : nk_G} {l : Launch} (hl0 : l.flags = flags0) (h : nk_H) (t0 : Nat) (v1 : Int32) (v2 : Option Nat) : nk_Con G l yX1_sealNow cX1_sealNow 3 (some FieldType.int) 4 85 nk_eI [.inr (some t0), .inl v1, .inr v2] h (f_X1_sealNow h t0 v1 v2) :=
  nk_con (ini := false) (by decide) hl0 (Nat.le_of_ble_eq_true rfl) (by decide) (s_X1_sealNow hl0 h t0 v1 v2)
set_option maxHeartbeats 4000000 in
theorem s_X1_enter {G : nk_G} {l : Launch} (hl0 : l.flags = flags0) (h : nk_H) (t0 : Nat) (v1 : Option Nat) : nk_Sim G l RX1 cX1_enter 3 (some FieldType.int) 7 163 false nk_eI 0 [(0, .inr (some t0)), (1, .inr v1)] [] h (f_X1_enter  h t0 v1) := by
  unfold f_X1_enter
  refine nr_aload_n 0 dX1_enter_0 rfl ?_
  refine nr_getP [9] 1 dX1_enter_1 fk_RX1_16 (fun x1 => ?_)
  refine nr_rcv (ks := [7]) (pre := []) (fun a2 hm => ?_)
  refine nr_doI (st := []) (nk_callV (q := (RJx4a65c, TJx4a65c, 3)) (ci := 0) (c_Jx4a65c_size_8abf5 (G := G) hl0 h a2) dX1_enter_4 (List.mem_singleton.mp hm) rfl rfl my_Jx4a65c_size_8abf5 im_Jx4a65c_size_8abf5 se_RJx4a65c_Jx4a65c_size_8abf5 ml_RX1_20 rfl rfl (Nat.le_of_ble_eq_true rfl) (by decide) (by decide)) (fun h3 x4 => ?_)
  refine nr_istore_n (lv2 := [(2, .inl x4), (0, .inr (some t0)), (1, .inr v1)]) dX1_enter_7 (by decide) rfl ?_
  refine nr_aload_n 2 dX1_enter_8 rfl ?_
  refine nr_aload_n 1 dX1_enter_9 rfl ?_
  refine nr_iload_n 0 dX1_enter_10 rfl ?_
  refine nr_aload_n 2 dX1_enter_11 rfl ?_
  refine nr_rcv (ks := [9]) (pre := [.inr v1, .inl x4]) (fun a5 hm => ?_)
  refine nr_doI (st := [.inr v1]) (nk_callV (q := (RX1, TX1, 2)) (ci := 2) (c_X1_sealNow (G := G) hl0 h3 a5 x4 v1) dX1_enter_12 (List.mem_singleton.mp hm) rfl rfl my_X1_sealNow im_X1_sealNow se_RX1_X1_sealNow ml_RX1_30 rfl rfl (Nat.le_of_ble_eq_true rfl) (by decide) (by decide)) (fun h6 x7 => ?_)
  refine nr_putI [8] 9 dX1_enter_15 fk_RX1_34 fw_RX1_34_n (fun h8 => ?_)
  refine nr_aload_n 1 dX1_enter_18 rfl ?_
  refine nr_getP [9] 1 dX1_enter_19 fk_RX1_16 (fun x9 => ?_)
  refine nr_aload_n 2 dX1_enter_22 rfl ?_
  refine nr_rcv (ks := [7]) (pre := [.inr v1]) (fun a10 hm => ?_)
  refine nr_doI (st := []) (nk_callV (q := (RJx4a65c, TJx4a65c, 3)) (ci := 0) (c_Jx4a65c_add_9ea2d (G := G) hl0 h8 a10 v1) dX1_enter_23 (List.mem_singleton.mp hm) rfl rfl my_Jx4a65c_add_9ea2d im_Jx4a65c_add_9ea2d se_RJx4a65c_Jx4a65c_add_9ea2d ml_RX1_37 rfl rfl (Nat.le_of_ble_eq_true rfl) (by decide) (by decide)) (fun h11 x12 => ?_)
  refine nr_pop dX1_enter_26 ?_
  refine nr_iload_n 0 dX1_enter_27 rfl ?_
  exact nr_iret rfl rfl dX1_enter_28
theorem c_X1_enter {G : nk_G} {l : Launch} (hl0 : l.flags = flags0) (h : nk_H) (t0 : Nat) (v1 : Option Nat) : nk_Con G l yX1_enter cX1_enter 3 (some FieldType.int) 7 163 nk_eI [.inr (some t0), .inr v1] h (f_X1_enter h t0 v1) :=
  nk_con (ini := false) (by decide) hl0 (Nat.le_of_ble_eq_true rfl) (by decide) (s_X1_enter hl0 h t0 v1)
set_option maxHeartbeats 4000000 in
theorem s_X1_firstBroken_c2 {G : nk_G} {l : Launch} (hl0 : l.flags = flags0) {r2 : nk_H → Nat → Int32 → Option (nk_H × Int32)} (hr2 : ∀ (h : nk_H) (t0 : Nat) (v1 : Int32), nk_Sim G l RX1 cX1_firstBroken 3 (some FieldType.int) 5 107 false nk_eI 2 [(0, .inr (some t0)), (1, .inl v1)] [] h (r2 h t0 v1)) (h : nk_H) (t0 : Nat) (v1 : Int32)  : nk_Sim G l RX1 cX1_firstBroken 3 (some FieldType.int) 5 107 false nk_eI 2 [(0, .inr (some t0)), (1, .inl v1)] [] h (f_X1_firstBroken_c2  r2 h t0 v1 ) := by
  unfold f_X1_firstBroken_c2
  refine nr_iload_n 1 dX1_firstBroken_2 rfl ?_
  refine nr_aload_n 0 dX1_firstBroken_3 rfl ?_
  refine nr_getP [9] 1 dX1_firstBroken_4 fk_RX1_16 (fun x1 => ?_)
  refine nr_rcv (ks := [7]) (pre := []) (fun a2 hm => ?_)
  refine nr_doI (st := [.inl v1]) (nk_callV (q := (RJx4a65c, TJx4a65c, 3)) (ci := 0) (c_Jx4a65c_size_8abf5 (G := G) hl0 h a2) dX1_firstBroken_7 (List.mem_singleton.mp hm) rfl rfl my_Jx4a65c_size_8abf5 im_Jx4a65c_size_8abf5 se_RJx4a65c_Jx4a65c_size_8abf5 ml_RX1_20 rfl rfl (Nat.le_of_ble_eq_true rfl) (by decide) (by decide)) (fun h3 x4 => ?_)
  refine nr_icmp_ge (tgt := 46) dX1_firstBroken_10 (by decide) (fun _ => ?_) (fun _ => ?_)
  · refine nr_iconst (v := (-1)) dX1_firstBroken_46 (by decide) ?_
    exact nr_iret rfl rfl dX1_firstBroken_47
  · refine nr_aload_n 0 dX1_firstBroken_13 rfl ?_
    refine nr_getP [9] 1 dX1_firstBroken_14 fk_RX1_16 (fun x5 => ?_)
    refine nr_iload_n 1 dX1_firstBroken_17 rfl ?_
    refine nr_rcv (ks := [7]) (pre := [.inl v1]) (fun a6 hm => ?_)
    refine nr_doR (st := []) (nk_callV (q := (RJx4a65c, TJx4a65c, 3)) (ci := 0) (c_Jx4a65c_get_915e3 (G := G) hl0 h3 a6 v1) dX1_firstBroken_18 (List.mem_singleton.mp hm) rfl rfl my_Jx4a65c_get_915e3 im_Jx4a65c_get_915e3 se_RJx4a65c_Jx4a65c_get_915e3 ml_RX1_24 rfl rfl (Nat.le_of_ble_eq_true rfl) (by decide) (by decide)) (fun h7 x8 => ?_)
    refine nr_cast dX1_firstBroken_21 cl_RX1_28 ca_Act ?_
    refine nr_astore_n (lv2 := [(2, .inr x8), (0, .inr (some t0)), (1, .inl v1)]) dX1_firstBroken_24 (by decide) rfl ?_
    refine nr_aload_n 1 dX1_firstBroken_25 rfl ?_
    refine nr_iload_n 2 dX1_firstBroken_26 rfl ?_
    refine nr_aload_n 0 dX1_firstBroken_27 rfl ?_
    refine nr_rcv (ks := [9]) (pre := [.inr x8, .inl v1]) (fun a10 hm => ?_)
    refine nr_doI (st := []) (nk_callV (q := (RX1, TX1, 2)) (ci := 2) (c_X1_sealNow (G := G) hl0 h7 a10 v1 x8) dX1_firstBroken_28 (List.mem_singleton.mp hm) rfl rfl my_X1_sealNow im_X1_sealNow se_RX1_X1_sealNow ml_RX1_30 rfl rfl (Nat.le_of_ble_eq_true rfl) (by decide) (by decide)) (fun h11 x12 => ?_)
    refine nr_aload_n 0 dX1_firstBroken_31 rfl ?_
    refine nr_getI [8] 9 dX1_firstBroken_32 fk_RX1_34 (fun x13 => ?_)
    refine nr_icmp_eq (tgt := 40) dX1_firstBroken_35 (by decide) (fun _ => ?_) (fun _ => ?_)
    · refine nr_iinc (lv2 := [(1, .inl (v1 + 1)), (2, .inr x8), (0, .inr (some t0))]) 2 (v1 + 1) dX1_firstBroken_40 rfl (by rfl) (by decide) rfl ?_
      refine nr_goto (tgt := 2) dX1_firstBroken_43 (by decide) ?_
      exact nk_locals [2, 0] rfl (hr2 h11 t0 (v1 + 1))
    · refine nr_iload_n 2 dX1_firstBroken_38 rfl ?_
      exact nr_iret rfl rfl dX1_firstBroken_39
theorem s_X1_firstBroken_b2 {G : nk_G} {l : Launch} (hl0 : l.flags = flags0)   : ∀ (n : Nat) (h : nk_H) (t0 : Nat) (v1 : Int32), nk_Sim G l RX1 cX1_firstBroken 3 (some FieldType.int) 5 107 false nk_eI 2 [(0, .inr (some t0)), (1, .inl v1)] [] h (f_X1_firstBroken_b2   n h t0 v1)
  | 0, _, _, _ => nk_none
  | n + 1, h, t0, v1 => s_X1_firstBroken_c2 hl0 (s_X1_firstBroken_b2 hl0  n) h t0 v1
set_option maxHeartbeats 4000000 in
theorem s_X1_firstBroken {G : nk_G} {l : Launch} (hl0 : l.flags = flags0) (h : nk_H) (t0 : Nat) : nk_Sim G l RX1 cX1_firstBroken 3 (some FieldType.int) 5 107 false nk_eI 0 [(0, .inr (some t0))] [] h (f_X1_firstBroken  h t0) := by
  unfold f_X1_firstBroken
  refine nr_iconst (v := 0) dX1_firstBroken_0 (by decide) ?_
  refine nr_istore_n (lv2 := [(1, .inl 0), (0, .inr (some t0))]) dX1_firstBroken_1 (by decide) rfl ?_
  exact nk_locals [1, 0] rfl (s_X1_firstBroken_b2 hl0  4096 h t0 0)
theorem c_X1_firstBroken {G : nk_G} {l : Launch} (hl0 : l.flags = flags0) (h : nk_H) (t0 : Nat) : nk_Con G l yX1_firstBroken cX1_firstBroken 3 (some FieldType.int) 5 107 nk_eI [.inr (some t0)] h (f_X1_firstBroken h t0) :=
  nk_con (ini := false) (by decide) hl0 (Nat.le_of_ble_eq_true rfl) (by decide) (s_X1_firstBroken hl0 h t0)
set_option maxHeartbeats 4000000 in
theorem s_X1_countStanding_c35 {G : nk_G} {l : Launch} (hl0 : l.flags = flags0) {r4 : nk_H → Nat → Int32 → Int32 → Option (nk_H × Int32)} (hr4 : ∀ (h : nk_H) (t0 : Nat) (v1 : Int32) (v2 : Int32), nk_Sim G l RX1 cX1_countStanding 3 (some FieldType.int) 3 64 false nk_eI 4 [(0, .inr (some t0)), (1, .inl v1), (2, .inl v2)] [] h (r4 h t0 v1 v2)) (h : nk_H) (t0 : Nat) (v1 : Int32) (v2 : Int32)  : nk_Sim G l RX1 cX1_countStanding 3 (some FieldType.int) 3 64 false nk_eI 35 [(0, .inr (some t0)), (1, .inl v1), (2, .inl v2)] [] h (f_X1_countStanding_c35  r4 h t0 v1 v2 ) := by
  unfold f_X1_countStanding_c35
  refine nr_iinc (lv2 := [(2, .inl (v2 + 1)), (0, .inr (some t0)), (1, .inl v1)]) 2 (v2 + 1) dX1_countStanding_35 rfl (by rfl) (by decide) rfl ?_
  refine nr_goto (tgt := 4) dX1_countStanding_38 (by decide) ?_
  exact nk_locals [1, 2, 0] rfl (hr4 h t0 v1 (v2 + 1))
set_option maxHeartbeats 4000000 in
theorem s_X1_countStanding_c4 {G : nk_G} {l : Launch} (hl0 : l.flags = flags0) {r4 : nk_H → Nat → Int32 → Int32 → Option (nk_H × Int32)} (hr4 : ∀ (h : nk_H) (t0 : Nat) (v1 : Int32) (v2 : Int32), nk_Sim G l RX1 cX1_countStanding 3 (some FieldType.int) 3 64 false nk_eI 4 [(0, .inr (some t0)), (1, .inl v1), (2, .inl v2)] [] h (r4 h t0 v1 v2)) (h : nk_H) (t0 : Nat) (v1 : Int32) (v2 : Int32)  : nk_Sim G l RX1 cX1_countStanding 3 (some FieldType.int) 3 64 false nk_eI 4 [(0, .inr (some t0)), (1, .inl v1), (2, .inl v2)] [] h (f_X1_countStanding_c4  r4 h t0 v1 v2 ) := by
  unfold f_X1_countStanding_c4
  refine nr_iload_n 2 dX1_countStanding_4 rfl ?_
  refine nr_aload_n 0 dX1_countStanding_5 rfl ?_
  refine nr_getP [9] 1 dX1_countStanding_6 fk_RX1_16 (fun x1 => ?_)
  refine nr_rcv (ks := [7]) (pre := []) (fun a2 hm => ?_)
  refine nr_doI (st := [.inl v2]) (nk_callV (q := (RJx4a65c, TJx4a65c, 3)) (ci := 0) (c_Jx4a65c_size_8abf5 (G := G) hl0 h a2) dX1_countStanding_9 (List.mem_singleton.mp hm) rfl rfl my_Jx4a65c_size_8abf5 im_Jx4a65c_size_8abf5 se_RJx4a65c_Jx4a65c_size_8abf5 ml_RX1_20 rfl rfl (Nat.le_of_ble_eq_true rfl) (by decide) (by decide)) (fun h3 x4 => ?_)
  refine nr_icmp_ge (tgt := 41) dX1_countStanding_12 (by decide) (fun _ => ?_) (fun _ => ?_)
  · refine nr_iload_n 1 dX1_countStanding_41 rfl ?_
    exact nr_iret rfl rfl dX1_countStanding_42
  · refine nr_aload_n 0 dX1_countStanding_15 rfl ?_
    refine nr_getP [9] 1 dX1_countStanding_16 fk_RX1_16 (fun x5 => ?_)
    refine nr_iload_n 2 dX1_countStanding_19 rfl ?_
    refine nr_rcv (ks := [7]) (pre := [.inl v2]) (fun a6 hm => ?_)
    refine nr_doR (st := []) (nk_callV (q := (RJx4a65c, TJx4a65c, 3)) (ci := 0) (c_Jx4a65c_get_915e3 (G := G) hl0 h3 a6 v2) dX1_countStanding_20 (List.mem_singleton.mp hm) rfl rfl my_Jx4a65c_get_915e3 im_Jx4a65c_get_915e3 se_RJx4a65c_Jx4a65c_get_915e3 ml_RX1_24 rfl rfl (Nat.le_of_ble_eq_true rfl) (by decide) (by decide)) (fun h7 x8 => ?_)
    refine nr_cast dX1_countStanding_23 cl_RX1_28 ca_Act ?_
    refine nr_getI [8] 10 dX1_countStanding_26 fk_RX1_55 (fun x10 => ?_)
    refine nr_if_eq (tgt := 35) dX1_countStanding_29 (by decide) (fun _ => ?_) (fun _ => ?_)
    · exact s_X1_countStanding_c35 hl0 hr4 h7 t0 v1 v2
    · refine nr_iinc (lv2 := [(1, .inl (v1 + 1)), (0, .inr (some t0)), (2, .inl v2)]) 1 (v1 + 1) dX1_countStanding_32 rfl (by rfl) (by decide) rfl ?_
      exact nk_locals [1, 0, 2] rfl (s_X1_countStanding_c35 hl0 hr4 h7 t0 (v1 + 1) v2)
theorem s_X1_countStanding_b4 {G : nk_G} {l : Launch} (hl0 : l.flags = flags0)   : ∀ (n : Nat) (h : nk_H) (t0 : Nat) (v1 : Int32) (v2 : Int32), nk_Sim G l RX1 cX1_countStanding 3 (some FieldType.int) 3 64 false nk_eI 4 [(0, .inr (some t0)), (1, .inl v1), (2, .inl v2)] [] h (f_X1_countStanding_b4   n h t0 v1 v2)
  | 0, _, _, _, _ => nk_none
  | n + 1, h, t0, v1, v2 => s_X1_countStanding_c4 hl0 (s_X1_countStanding_b4 hl0  n) h t0 v1 v2
set_option maxHeartbeats 4000000 in
theorem s_X1_countStanding {G : nk_G} {l : Launch} (hl0 : l.flags = flags0) (h : nk_H) (t0 : Nat) : nk_Sim G l RX1 cX1_countStanding 3 (some FieldType.int) 3 64 false nk_eI 0 [(0, .inr (some t0))] [] h (f_X1_countStanding  h t0) := by
  unfold f_X1_countStanding
  refine nr_iconst (v := 0) dX1_countStanding_0 (by decide) ?_
  refine nr_istore_n (lv2 := [(1, .inl 0), (0, .inr (some t0))]) dX1_countStanding_1 (by decide) rfl ?_
  refine nr_iconst (v := 0) dX1_countStanding_2 (by decide) ?_
  refine nr_istore_n (lv2 := [(2, .inl 0), (1, .inl 0), (0, .inr (some t0))]) dX1_countStanding_3 (by decide) rfl ?_
  exact nk_locals [2, 1, 0] rfl (s_X1_countStanding_b4 hl0  4096 h t0 0 0)
theorem c_X1_countStanding {G : nk_G} {l : Launch} (hl0 : l.flags = flags0) (h : nk_H) (t0 : Nat) : nk_Con G l yX1_countStanding cX1_countStanding 3 (some FieldType.int) 3 64 nk_eI [.inr (some t0)] h (f_X1_countStanding h t0) :=
  nk_con (ini := false) (by decide) hl0 (Nat.le_of_ble_eq_true rfl) (by decide) (s_X1_countStanding hl0 h t0)
set_option maxHeartbeats 4000000 in
theorem s_X2_init {G : nk_G} {l : Launch} (hl0 : l.flags = flags0) (h : nk_H) (t0 : Nat) (v1 : Int32) (v2 : Int32) (v3 : Int32) (v4 : Int32) : nk_Sim G l RX2 cX2_init 5 (none : Option FieldType) 1 12 true nk_eV 0 [(0, .inr (some t0)), (1, .inl v1), (2, .inl v2), (3, .inl v3), (4, .inl v4)] [] h (f_X2_init  h t0 v1 v2 v3 v4) := by
  unfold f_X2_init
  refine nr_aload_n 0 dX2_init_0 rfl ?_
  refine nr_objInit dX2_init_1 ml_RX2_3 oi_i oi_c (by decide) (Nat.le_of_ble_eq_true rfl) ?_
  refine nr_aload_n 0 dX2_init_4 rfl ?_
  refine nr_iload_n 1 dX2_init_5 rfl ?_
  refine nr_putI [10] 0 dX2_init_6 fk_RX2_9 fw_RX2_9_i (fun h1 => ?_)
  refine nr_aload_n 0 dX2_init_9 rfl ?_
  refine nr_iload_n 2 dX2_init_10 rfl ?_
  refine nr_putI [10] 1 dX2_init_11 fk_RX2_15 fw_RX2_15_i (fun h2 => ?_)
  refine nr_aload_n 0 dX2_init_14 rfl ?_
  refine nr_iload_n 3 dX2_init_15 rfl ?_
  refine nr_putI [10] 2 dX2_init_16 fk_RX2_18 fw_RX2_18_i (fun h3 => ?_)
  refine nr_aload_n 0 dX2_init_19 rfl ?_
  refine nr_iload 4 dX2_init_20 rfl ?_
  refine nr_putI [10] 3 dX2_init_22 fk_RX2_21 fw_RX2_21_i (fun h4 => ?_)
  refine nr_aload_n 0 dX2_init_25 rfl ?_
  refine nr_iload_n 3 dX2_init_26 rfl ?_
  refine nr_bipush (v := 6) dX2_init_27 (by decide) ?_
  refine nr_grid dX2_init_29 cl_RX2_24 ac_int (fun h5 => ?_)
  refine nr_putP [10] 4 dX2_init_33 fk_RX2_26 fw_RX2_26_i (fun h6 => ?_)
  refine nr_aload_n 0 dX2_init_36 rfl ?_
  refine nr_iload_n 3 dX2_init_37 rfl ?_
  refine nr_newarray 1 (by decide) dX2_init_38 ac_int (fun h7 => ?_)
  refine nr_putP [10] 5 dX2_init_40 fk_RX2_29 fw_RX2_29_i (fun h8 => ?_)
  exact nr_vret rfl rfl dX2_init_43
theorem c_X2_init {G : nk_G} {l : Launch} (hl0 : l.flags = flags0) (h : nk_H) (t0 : Nat) (v1 : Int32) (v2 : Int32) (v3 : Int32) (v4 : Int32) : nk_Con G l yX2_init cX2_init 5 (none : Option FieldType) 1 12 nk_eV [.inr (some t0), .inl v1, .inl v2, .inl v3, .inl v4] h (f_X2_init h t0 v1 v2 v3 v4) :=
  nk_con (ini := true) (by decide) hl0 (Nat.le_of_ble_eq_true rfl) (by decide) (s_X2_init hl0 h t0 v1 v2 v3 v4)
set_option maxHeartbeats 4000000 in
theorem s_X2_leavesOut {G : nk_G} {l : Launch} (hl0 : l.flags = flags0) (h : nk_H) (t0 : Nat) (v1 : Int32) : nk_Sim G l RX2 cX2_leavesOut 2 (some FieldType.boolean) 2 41 false nk_eI 0 [(0, .inr (some t0)), (1, .inl v1)] [] h (f_X2_leavesOut  h t0 v1) := by
  unfold f_X2_leavesOut
  refine nr_aload_n 0 dX2_leavesOut_0 rfl ?_
  refine nr_getI [10] 3 dX2_leavesOut_1 fk_RX2_21 (fun x1 => ?_)
  refine nr_iload_n 1 dX2_leavesOut_4 rfl ?_
  refine nr_doI (st := []) (nk_callSN (c_X11_hasBit (G := G) hl0 h x1 v1) dX2_leavesOut_5 my_X11_hasBit st_X11_hasBit nl_RX2_33 rfl rfl (Nat.le_of_ble_eq_true rfl) (by decide) (by decide)) (fun h2 x3 => ?_)
  exact nr_zret rfl rfl dX2_leavesOut_8
theorem c_X2_leavesOut {G : nk_G} {l : Launch} (hl0 : l.flags = flags0) (h : nk_H) (t0 : Nat) (v1 : Int32) : nk_Con G l yX2_leavesOut cX2_leavesOut 2 (some FieldType.boolean) 2 41 nk_eI [.inr (some t0), .inl v1] h (f_X2_leavesOut h t0 v1) :=
  nk_con (ini := false) (by decide) hl0 (Nat.le_of_ble_eq_true rfl) (by decide) (s_X2_leavesOut hl0 h t0 v1)
set_option maxHeartbeats 4000000 in
theorem s_X2_takeFrom_c102 {G : nk_G} {l : Launch} (hl0 : l.flags = flags0) {r14 : nk_H → Nat → Option Nat → Int32 → Option (nk_H × Unit)} {r46 : nk_H → Nat → Option Nat → Int32 → Option Nat → Int32 → Option (nk_H × Unit)} (hr14 : ∀ (h : nk_H) (t0 : Nat) (v1 : Option Nat) (v2 : Int32), nk_Sim G l RX2 cX2_takeFrom 5 (none : Option FieldType) 4 85 false nk_eV 14 [(0, .inr (some t0)), (1, .inr v1), (2, .inl v2)] [] h (r14 h t0 v1 v2)) (hr46 : ∀ (h : nk_H) (t0 : Nat) (v1 : Option Nat) (v2 : Int32) (v3 : Option Nat) (v4 : Int32), nk_Sim G l RX2 cX2_takeFrom 5 (none : Option FieldType) 4 85 false nk_eV 46 [(0, .inr (some t0)), (1, .inr v1), (2, .inl v2), (3, .inr v3), (4, .inl v4)] [] h (r46 h t0 v1 v2 v3 v4)) (h : nk_H) (t0 : Nat) (v1 : Option Nat) (v2 : Int32) (v3 : Option Nat) (v4 : Int32) (s0 : Int32) (s1 : Int32) (s2 : Option Nat) : nk_Sim G l RX2 cX2_takeFrom 5 (none : Option FieldType) 4 85 false nk_eV 102 [(0, .inr (some t0)), (1, .inr v1), (2, .inl v2), (3, .inr v3), (4, .inl v4)] [.inl s0, .inl s1, .inr s2] h (f_X2_takeFrom_c102  r14 r46 h t0 v1 v2 v3 v4 s0 s1 s2) := by
  unfold f_X2_takeFrom_c102
  refine nr_iastore dX2_takeFrom_102 (fun h1 => ?_)
  refine nr_iinc (lv2 := [(4, .inl (v4 + 1)), (0, .inr (some t0)), (1, .inr v1), (2, .inl v2), (3, .inr v3)]) 4 (v4 + 1) dX2_takeFrom_103 rfl (by rfl) (by decide) rfl ?_
  refine nr_goto (tgt := 46) dX2_takeFrom_106 (by decide) ?_
  exact nk_locals [1, 2, 3, 4, 0] rfl (hr46 h1 t0 v1 v2 v3 (v4 + 1))
set_option maxHeartbeats 4000000 in
theorem s_X2_takeFrom_c46 {G : nk_G} {l : Launch} (hl0 : l.flags = flags0) {r14 : nk_H → Nat → Option Nat → Int32 → Option (nk_H × Unit)} {r46 : nk_H → Nat → Option Nat → Int32 → Option Nat → Int32 → Option (nk_H × Unit)} (hr14 : ∀ (h : nk_H) (t0 : Nat) (v1 : Option Nat) (v2 : Int32), nk_Sim G l RX2 cX2_takeFrom 5 (none : Option FieldType) 4 85 false nk_eV 14 [(0, .inr (some t0)), (1, .inr v1), (2, .inl v2)] [] h (r14 h t0 v1 v2)) (hr46 : ∀ (h : nk_H) (t0 : Nat) (v1 : Option Nat) (v2 : Int32) (v3 : Option Nat) (v4 : Int32), nk_Sim G l RX2 cX2_takeFrom 5 (none : Option FieldType) 4 85 false nk_eV 46 [(0, .inr (some t0)), (1, .inr v1), (2, .inl v2), (3, .inr v3), (4, .inl v4)] [] h (r46 h t0 v1 v2 v3 v4)) (h : nk_H) (t0 : Nat) (v1 : Option Nat) (v2 : Int32) (v3 : Option Nat) (v4 : Int32)  : nk_Sim G l RX2 cX2_takeFrom 5 (none : Option FieldType) 4 85 false nk_eV 46 [(0, .inr (some t0)), (1, .inr v1), (2, .inl v2), (3, .inr v3), (4, .inl v4)] [] h (f_X2_takeFrom_c46  r14 r46 h t0 v1 v2 v3 v4 ) := by
  unfold f_X2_takeFrom_c46
  refine nr_iload 4 dX2_takeFrom_46 rfl ?_
  refine nr_bipush (v := 6) dX2_takeFrom_48 (by decide) ?_
  refine nr_icmp_ge (tgt := 109) dX2_takeFrom_50 (by decide) (fun _ => ?_) (fun _ => ?_)
  · refine nr_iinc (lv2 := [(2, .inl (v2 + 1)), (0, .inr (some t0)), (1, .inr v1), (3, .inr v3), (4, .inl v4)]) 2 (v2 + 1) dX2_takeFrom_109 rfl (by rfl) (by decide) rfl ?_
    refine nr_goto (tgt := 14) dX2_takeFrom_112 (by decide) ?_
    exact nk_locals [1, 2, 0] rfl (hr14 h t0 v1 (v2 + 1))
  · refine nr_aload_n 0 dX2_takeFrom_53 rfl ?_
    refine nr_getP [10] 4 dX2_takeFrom_54 fk_RX2_26 (fun x2 => ?_)
    refine nr_iload_n 2 dX2_takeFrom_57 rfl ?_
    refine nr_aaload 5 dX2_takeFrom_58 (by decide) (fun x3 => ?_)
    refine nr_iload 4 dX2_takeFrom_59 rfl ?_
    refine nr_aload_n 0 dX2_takeFrom_61 rfl ?_
    refine nr_iload 4 dX2_takeFrom_62 rfl ?_
    refine nr_rcv (ks := [10]) (pre := [.inl v4]) (fun a4 hm => ?_)
    refine nr_doI (st := [.inl v4, .inr x3]) (nk_callV (q := (RX2, TX2, 7)) (ci := 3) (c_X2_leavesOut (G := G) hl0 h a4 v4) dX2_takeFrom_64 (List.mem_singleton.mp hm) rfl rfl my_X2_leavesOut im_X2_leavesOut se_RX2_X2_leavesOut ml_RX2_54 rfl rfl (Nat.le_of_ble_eq_true rfl) (by decide) (by decide)) (fun h5 x6 => ?_)
    refine nr_if_eq (tgt := 95) dX2_takeFrom_67 (by decide) (fun _ => ?_) (fun _ => ?_)
    · refine nr_aload_n 3 dX2_takeFrom_95 rfl ?_
      refine nr_getP [8] 8 dX2_takeFrom_96 fk_RX2_58 (fun x7 => ?_)
      refine nr_iload 4 dX2_takeFrom_99 rfl ?_
      refine nr_iaload dX2_takeFrom_101 (fun x8 => ?_)
      exact s_X2_takeFrom_c102 hl0 hr14 hr46 h5 t0 v1 v2 v3 v4 x8 v4 x3
    · refine nr_aload_n 0 dX2_takeFrom_70 rfl ?_
      refine nr_getI [10] 0 dX2_takeFrom_71 fk_RX2_9 (fun x9 => ?_)
      refine nr_aload_n 0 dX2_takeFrom_74 rfl ?_
      refine nr_getI [10] 1 dX2_takeFrom_75 fk_RX2_15 (fun x10 => ?_)
      refine nr_iload_n 2 dX2_takeFrom_78 rfl ?_
      refine nr_iadd dX2_takeFrom_79 ?_
      refine nr_iload 4 dX2_takeFrom_80 rfl ?_
      refine nr_aload_n 3 dX2_takeFrom_82 rfl ?_
      refine nr_getP [8] 8 dX2_takeFrom_83 fk_RX2_58 (fun x11 => ?_)
      refine nr_iload 4 dX2_takeFrom_86 rfl ?_
      refine nr_iaload dX2_takeFrom_88 (fun x12 => ?_)
      refine nr_doI (st := [.inl v4, .inr x3]) (nk_callSN (c_X11_markOf (G := G) hl0 h5 x9 (x10 + v2) v4 x12) dX2_takeFrom_89 my_X11_markOf st_X11_markOf nl_RX2_60 rfl rfl (Nat.le_of_ble_eq_true rfl) (by decide) (by decide)) (fun h13 x14 => ?_)
      refine nr_goto (tgt := 102) dX2_takeFrom_92 (by decide) ?_
      exact s_X2_takeFrom_c102 hl0 hr14 hr46 h13 t0 v1 v2 v3 v4 x14 v4 x3
theorem s_X2_takeFrom_b46 {G : nk_G} {l : Launch} (hl0 : l.flags = flags0) {r14 : nk_H → Nat → Option Nat → Int32 → Option (nk_H × Unit)} (hr14 : ∀ (h : nk_H) (t0 : Nat) (v1 : Option Nat) (v2 : Int32), nk_Sim G l RX2 cX2_takeFrom 5 (none : Option FieldType) 4 85 false nk_eV 14 [(0, .inr (some t0)), (1, .inr v1), (2, .inl v2)] [] h (r14 h t0 v1 v2)) : ∀ (n : Nat) (h : nk_H) (t0 : Nat) (v1 : Option Nat) (v2 : Int32) (v3 : Option Nat) (v4 : Int32), nk_Sim G l RX2 cX2_takeFrom 5 (none : Option FieldType) 4 85 false nk_eV 46 [(0, .inr (some t0)), (1, .inr v1), (2, .inl v2), (3, .inr v3), (4, .inl v4)] [] h (f_X2_takeFrom_b46  r14 n h t0 v1 v2 v3 v4)
  | 0, _, _, _, _, _, _ => nk_none
  | n + 1, h, t0, v1, v2, v3, v4 => s_X2_takeFrom_c46 hl0 hr14 (s_X2_takeFrom_b46 hl0 hr14 n) h t0 v1 v2 v3 v4
set_option maxHeartbeats 4000000 in
theorem s_X2_takeFrom_c14 {G : nk_G} {l : Launch} (hl0 : l.flags = flags0) {r14 : nk_H → Nat → Option Nat → Int32 → Option (nk_H × Unit)} (hr14 : ∀ (h : nk_H) (t0 : Nat) (v1 : Option Nat) (v2 : Int32), nk_Sim G l RX2 cX2_takeFrom 5 (none : Option FieldType) 4 85 false nk_eV 14 [(0, .inr (some t0)), (1, .inr v1), (2, .inl v2)] [] h (r14 h t0 v1 v2)) (h : nk_H) (t0 : Nat) (v1 : Option Nat) (v2 : Int32)  : nk_Sim G l RX2 cX2_takeFrom 5 (none : Option FieldType) 4 85 false nk_eV 14 [(0, .inr (some t0)), (1, .inr v1), (2, .inl v2)] [] h (f_X2_takeFrom_c14  r14 h t0 v1 v2 ) := by
  unfold f_X2_takeFrom_c14
  refine nr_iload_n 2 dX2_takeFrom_14 rfl ?_
  refine nr_aload_n 0 dX2_takeFrom_15 rfl ?_
  refine nr_getI [10] 2 dX2_takeFrom_16 fk_RX2_18 (fun x15 => ?_)
  refine nr_icmp_ge (tgt := 115) dX2_takeFrom_19 (by decide) (fun _ => ?_) (fun _ => ?_)
  · exact nr_vret rfl rfl dX2_takeFrom_115
  · refine nr_aload_n 1 dX2_takeFrom_22 rfl ?_
    refine nr_aload_n 0 dX2_takeFrom_23 rfl ?_
    refine nr_getI [10] 1 dX2_takeFrom_24 fk_RX2_15 (fun x16 => ?_)
    refine nr_iload_n 2 dX2_takeFrom_27 rfl ?_
    refine nr_iadd dX2_takeFrom_28 ?_
    refine nr_rcv (ks := [9]) (pre := [.inl (x16 + v2)]) (fun a17 hm => ?_)
    refine nr_doR (st := []) (nk_callV (q := (RX1, TX1, 2)) (ci := 2) (c_X1_actOf (G := G) hl0 h a17 (x16 + v2)) dX2_takeFrom_29 (List.mem_singleton.mp hm) rfl rfl my_X1_actOf im_X1_actOf se_RX1_X1_actOf ml_RX2_45 rfl rfl (Nat.le_of_ble_eq_true rfl) (by decide) (by decide)) (fun h18 x19 => ?_)
    refine nr_astore_n (lv2 := [(3, .inr x19), (0, .inr (some t0)), (1, .inr v1), (2, .inl v2)]) dX2_takeFrom_32 (by decide) rfl ?_
    refine nr_aload_n 1 dX2_takeFrom_33 rfl ?_
    refine nr_getP [10] 5 dX2_takeFrom_34 fk_RX2_29 (fun x20 => ?_)
    refine nr_iload_n 3 dX2_takeFrom_37 rfl ?_
    refine nr_aload_n 0 dX2_takeFrom_38 rfl ?_
    refine nr_getI [8] 9 dX2_takeFrom_39 fk_RX2_49 (fun x21 => ?_)
    refine nr_iastore dX2_takeFrom_42 (fun h22 => ?_)
    refine nr_iconst (v := 0) dX2_takeFrom_43 (by decide) ?_
    refine nr_istore (lv2 := [(4, .inl 0), (3, .inr x19), (0, .inr (some t0)), (1, .inr v1), (2, .inl v2)]) dX2_takeFrom_44 (by decide) rfl ?_
    exact nk_locals [2, 3, 4, 1, 0] rfl (s_X2_takeFrom_b46 hl0 hr14 4096 h22 t0 v1 v2 x19 0)
theorem s_X2_takeFrom_b14 {G : nk_G} {l : Launch} (hl0 : l.flags = flags0)   : ∀ (n : Nat) (h : nk_H) (t0 : Nat) (v1 : Option Nat) (v2 : Int32), nk_Sim G l RX2 cX2_takeFrom 5 (none : Option FieldType) 4 85 false nk_eV 14 [(0, .inr (some t0)), (1, .inr v1), (2, .inl v2)] [] h (f_X2_takeFrom_b14   n h t0 v1 v2)
  | 0, _, _, _, _ => nk_none
  | n + 1, h, t0, v1, v2 => s_X2_takeFrom_c14 hl0 (s_X2_takeFrom_b14 hl0  n) h t0 v1 v2
set_option maxHeartbeats 4000000 in
theorem s_X2_takeFrom {G : nk_G} {l : Launch} (hl0 : l.flags = flags0) (h : nk_H) (t0 : Nat) (v1 : Option Nat) : nk_Sim G l RX2 cX2_takeFrom 5 (none : Option FieldType) 4 85 false nk_eV 0 [(0, .inr (some t0)), (1, .inr v1)] [] h (f_X2_takeFrom  h t0 v1) := by
  unfold f_X2_takeFrom
  refine nr_aload_n 0 dX2_takeFrom_0 rfl ?_
  refine nr_aload_n 1 dX2_takeFrom_1 rfl ?_
  refine nr_aload_n 0 dX2_takeFrom_2 rfl ?_
  refine nr_getI [10] 1 dX2_takeFrom_3 fk_RX2_15 (fun x23 => ?_)
  refine nr_rcv (ks := [9]) (pre := [.inl x23]) (fun a24 hm => ?_)
  refine nr_doI (st := [.inr (some t0)]) (nk_callV (q := (RX1, TX1, 2)) (ci := 2) (c_X1_sealAhead (G := G) hl0 h a24 x23) dX2_takeFrom_6 (List.mem_singleton.mp hm) rfl rfl my_X1_sealAhead im_X1_sealAhead se_RX1_X1_sealAhead ml_RX2_37 rfl rfl (Nat.le_of_ble_eq_true rfl) (by decide) (by decide)) (fun h25 x26 => ?_)
  refine nr_putI [10] 6 dX2_takeFrom_9 fk_RX2_43 fw_RX2_43_n (fun h27 => ?_)
  refine nr_iconst (v := 0) dX2_takeFrom_12 (by decide) ?_
  refine nr_istore_n (lv2 := [(2, .inl 0), (0, .inr (some t0)), (1, .inr v1)]) dX2_takeFrom_13 (by decide) rfl ?_
  exact nk_locals [1, 2, 0] rfl (s_X2_takeFrom_b14 hl0  4096 h27 t0 v1 0)
theorem c_X2_takeFrom {G : nk_G} {l : Launch} (hl0 : l.flags = flags0) (h : nk_H) (t0 : Nat) (v1 : Option Nat) : nk_Con G l yX2_takeFrom cX2_takeFrom 5 (none : Option FieldType) 4 85 nk_eV [.inr (some t0), .inr v1] h (f_X2_takeFrom h t0 v1) :=
  nk_con (ini := false) (by decide) hl0 (Nat.le_of_ble_eq_true rfl) (by decide) (s_X2_takeFrom hl0 h t0 v1)
set_option maxHeartbeats 4000000 in
theorem s_X2_firstBroken_c7 {G : nk_G} {l : Launch} (hl0 : l.flags = flags0) {r7 : nk_H → Nat → Int32 → Int32 → Option (nk_H × Int32)} (hr7 : ∀ (h : nk_H) (t0 : Nat) (v1 : Int32) (v2 : Int32), nk_Sim G l RX2 cX2_firstBroken 3 (some FieldType.int) 3 72 false nk_eI 7 [(0, .inr (some t0)), (1, .inl v1), (2, .inl v2)] [] h (r7 h t0 v1 v2)) (h : nk_H) (t0 : Nat) (v1 : Int32) (v2 : Int32)  : nk_Sim G l RX2 cX2_firstBroken 3 (some FieldType.int) 3 72 false nk_eI 7 [(0, .inr (some t0)), (1, .inl v1), (2, .inl v2)] [] h (f_X2_firstBroken_c7  r7 h t0 v1 v2 ) := by
  unfold f_X2_firstBroken_c7
  refine nr_iload_n 2 dX2_firstBroken_7 rfl ?_
  refine nr_aload_n 0 dX2_firstBroken_8 rfl ?_
  refine nr_getI [10] 2 dX2_firstBroken_9 fk_RX2_18 (fun x1 => ?_)
  refine nr_icmp_ge (tgt := 63) dX2_firstBroken_12 (by decide) (fun _ => ?_) (fun _ => ?_)
  · refine nr_iconst (v := (-1)) dX2_firstBroken_63 (by decide) ?_
    exact nr_iret rfl rfl dX2_firstBroken_64
  · refine nr_iload_n 1 dX2_firstBroken_15 rfl ?_
    refine nr_aload_n 0 dX2_firstBroken_16 rfl ?_
    refine nr_getI [10] 0 dX2_firstBroken_17 fk_RX2_9 (fun x2 => ?_)
    refine nr_aload_n 0 dX2_firstBroken_20 rfl ?_
    refine nr_getI [10] 1 dX2_firstBroken_21 fk_RX2_15 (fun x3 => ?_)
    refine nr_iload_n 2 dX2_firstBroken_24 rfl ?_
    refine nr_iadd dX2_firstBroken_25 ?_
    refine nr_aload_n 0 dX2_firstBroken_26 rfl ?_
    refine nr_getP [10] 4 dX2_firstBroken_27 fk_RX2_26 (fun x4 => ?_)
    refine nr_iload_n 2 dX2_firstBroken_30 rfl ?_
    refine nr_aaload 5 dX2_firstBroken_31 (by decide) (fun x5 => ?_)
    refine nr_aload_n 0 dX2_firstBroken_32 rfl ?_
    refine nr_getI [10] 3 dX2_firstBroken_33 fk_RX2_21 (fun x6 => ?_)
    refine nr_doI (st := []) (nk_callSN (c_X11_sealFrom (G := G) hl0 h v1 x2 (x3 + v2) x5 x6) dX2_firstBroken_36 my_X11_sealFrom st_X11_sealFrom nl_RX2_64 rfl rfl (Nat.le_of_ble_eq_true rfl) (by decide) (by decide)) (fun h7 x8 => ?_)
    refine nr_aload_n 0 dX2_firstBroken_39 rfl ?_
    refine nr_getP [10] 5 dX2_firstBroken_40 fk_RX2_29 (fun x9 => ?_)
    refine nr_iload_n 2 dX2_firstBroken_43 rfl ?_
    refine nr_iaload dX2_firstBroken_44 (fun x10 => ?_)
    refine nr_icmp_eq (tgt := 50) dX2_firstBroken_45 (by decide) (fun _ => ?_) (fun _ => ?_)
    · refine nr_aload_n 0 dX2_firstBroken_50 rfl ?_
      refine nr_getP [10] 5 dX2_firstBroken_51 fk_RX2_29 (fun x11 => ?_)
      refine nr_iload_n 2 dX2_firstBroken_54 rfl ?_
      refine nr_iaload dX2_firstBroken_55 (fun x12 => ?_)
      refine nr_istore_n (lv2 := [(1, .inl x12), (0, .inr (some t0)), (2, .inl v2)]) dX2_firstBroken_56 (by decide) rfl ?_
      refine nr_iinc (lv2 := [(2, .inl (v2 + 1)), (1, .inl x12), (0, .inr (some t0))]) 2 (v2 + 1) dX2_firstBroken_57 rfl (by rfl) (by decide) rfl ?_
      refine nr_goto (tgt := 7) dX2_firstBroken_60 (by decide) ?_
      exact nk_locals [2, 1, 0] rfl (hr7 h7 t0 x12 (v2 + 1))
    · refine nr_iload_n 2 dX2_firstBroken_48 rfl ?_
      exact nr_iret rfl rfl dX2_firstBroken_49
theorem s_X2_firstBroken_b7 {G : nk_G} {l : Launch} (hl0 : l.flags = flags0)   : ∀ (n : Nat) (h : nk_H) (t0 : Nat) (v1 : Int32) (v2 : Int32), nk_Sim G l RX2 cX2_firstBroken 3 (some FieldType.int) 3 72 false nk_eI 7 [(0, .inr (some t0)), (1, .inl v1), (2, .inl v2)] [] h (f_X2_firstBroken_b7   n h t0 v1 v2)
  | 0, _, _, _, _ => nk_none
  | n + 1, h, t0, v1, v2 => s_X2_firstBroken_c7 hl0 (s_X2_firstBroken_b7 hl0  n) h t0 v1 v2
set_option maxHeartbeats 4000000 in
theorem s_X2_firstBroken {G : nk_G} {l : Launch} (hl0 : l.flags = flags0) (h : nk_H) (t0 : Nat) : nk_Sim G l RX2 cX2_firstBroken 3 (some FieldType.int) 3 72 false nk_eI 0 [(0, .inr (some t0))] [] h (f_X2_firstBroken  h t0) := by
  unfold f_X2_firstBroken
  refine nr_aload_n 0 dX2_firstBroken_0 rfl ?_
  refine nr_getI [10] 6 dX2_firstBroken_1 fk_RX2_43 (fun x13 => ?_)
  refine nr_istore_n (lv2 := [(1, .inl x13), (0, .inr (some t0))]) dX2_firstBroken_4 (by decide) rfl ?_
  refine nr_iconst (v := 0) dX2_firstBroken_5 (by decide) ?_
  refine nr_istore_n (lv2 := [(2, .inl 0), (1, .inl x13), (0, .inr (some t0))]) dX2_firstBroken_6 (by decide) rfl ?_
  exact nk_locals [2, 1, 0] rfl (s_X2_firstBroken_b7 hl0  4096 h t0 x13 0)
theorem c_X2_firstBroken {G : nk_G} {l : Launch} (hl0 : l.flags = flags0) (h : nk_H) (t0 : Nat) : nk_Con G l yX2_firstBroken cX2_firstBroken 3 (some FieldType.int) 3 72 nk_eI [.inr (some t0)] h (f_X2_firstBroken h t0) :=
  nk_con (ini := false) (by decide) hl0 (Nat.le_of_ble_eq_true rfl) (by decide) (s_X2_firstBroken hl0 h t0)
set_option maxHeartbeats 4000000 in
theorem s_X2_tellsRecordAs_c50 {G : nk_G} {l : Launch} (hl0 : l.flags = flags0) {r17 : nk_H → Nat → Int32 → Option Nat → Int32 → Option (nk_H × Int32)} (hr17 : ∀ (h : nk_H) (t0 : Nat) (v1 : Int32) (v2 : Option Nat) (v3 : Int32), nk_Sim G l RX2 cX2_tellsRecordAs 4 (some FieldType.boolean) 3 62 false nk_eI 17 [(0, .inr (some t0)), (1, .inl v1), (2, .inr v2), (3, .inl v3)] [] h (r17 h t0 v1 v2 v3)) (h : nk_H) (t0 : Nat) (v1 : Int32) (v2 : Option Nat) (v3 : Int32)  : nk_Sim G l RX2 cX2_tellsRecordAs 4 (some FieldType.boolean) 3 62 false nk_eI 50 [(0, .inr (some t0)), (1, .inl v1), (2, .inr v2), (3, .inl v3)] [] h (f_X2_tellsRecordAs_c50  r17 h t0 v1 v2 v3 ) := by
  unfold f_X2_tellsRecordAs_c50
  refine nr_iinc (lv2 := [(3, .inl (v3 + 1)), (0, .inr (some t0)), (1, .inl v1), (2, .inr v2)]) 3 (v3 + 1) dX2_tellsRecordAs_50 rfl (by rfl) (by decide) rfl ?_
  refine nr_goto (tgt := 17) dX2_tellsRecordAs_53 (by decide) ?_
  exact nk_locals [1, 2, 3, 0] rfl (hr17 h t0 v1 v2 (v3 + 1))
set_option maxHeartbeats 4000000 in
theorem s_X2_tellsRecordAs_c17 {G : nk_G} {l : Launch} (hl0 : l.flags = flags0) {r17 : nk_H → Nat → Int32 → Option Nat → Int32 → Option (nk_H × Int32)} (hr17 : ∀ (h : nk_H) (t0 : Nat) (v1 : Int32) (v2 : Option Nat) (v3 : Int32), nk_Sim G l RX2 cX2_tellsRecordAs 4 (some FieldType.boolean) 3 62 false nk_eI 17 [(0, .inr (some t0)), (1, .inl v1), (2, .inr v2), (3, .inl v3)] [] h (r17 h t0 v1 v2 v3)) (h : nk_H) (t0 : Nat) (v1 : Int32) (v2 : Option Nat) (v3 : Int32)  : nk_Sim G l RX2 cX2_tellsRecordAs 4 (some FieldType.boolean) 3 62 false nk_eI 17 [(0, .inr (some t0)), (1, .inl v1), (2, .inr v2), (3, .inl v3)] [] h (f_X2_tellsRecordAs_c17  r17 h t0 v1 v2 v3 ) := by
  unfold f_X2_tellsRecordAs_c17
  refine nr_iload_n 3 dX2_tellsRecordAs_17 rfl ?_
  refine nr_bipush (v := 6) dX2_tellsRecordAs_18 (by decide) ?_
  refine nr_icmp_ge (tgt := 56) dX2_tellsRecordAs_20 (by decide) (fun _ => ?_) (fun _ => ?_)
  · refine nr_iconst (v := 1) dX2_tellsRecordAs_56 (by decide) ?_
    exact nr_zret rfl rfl dX2_tellsRecordAs_57
  · refine nr_aload_n 0 dX2_tellsRecordAs_23 rfl ?_
    refine nr_iload_n 3 dX2_tellsRecordAs_24 rfl ?_
    refine nr_rcv (ks := [10]) (pre := [.inl v3]) (fun a1 hm => ?_)
    refine nr_doI (st := []) (nk_callV (q := (RX2, TX2, 7)) (ci := 3) (c_X2_leavesOut (G := G) hl0 h a1 v3) dX2_tellsRecordAs_25 (List.mem_singleton.mp hm) rfl rfl my_X2_leavesOut im_X2_leavesOut se_RX2_X2_leavesOut ml_RX2_54 rfl rfl (Nat.le_of_ble_eq_true rfl) (by decide) (by decide)) (fun h2 x3 => ?_)
    refine nr_if_ne (tgt := 50) dX2_tellsRecordAs_28 (by decide) (fun _ => ?_) (fun _ => ?_)
    · refine nr_aload_n 0 dX2_tellsRecordAs_31 rfl ?_
      refine nr_getP [10] 4 dX2_tellsRecordAs_32 fk_RX2_26 (fun x4 => ?_)
      refine nr_iload_n 1 dX2_tellsRecordAs_35 rfl ?_
      refine nr_aaload 5 dX2_tellsRecordAs_36 (by decide) (fun x5 => ?_)
      refine nr_iload_n 3 dX2_tellsRecordAs_37 rfl ?_
      refine nr_iaload dX2_tellsRecordAs_38 (fun x6 => ?_)
      refine nr_aload_n 2 dX2_tellsRecordAs_39 rfl ?_
      refine nr_getP [8] 8 dX2_tellsRecordAs_40 fk_RX2_58 (fun x7 => ?_)
      refine nr_iload_n 3 dX2_tellsRecordAs_43 rfl ?_
      refine nr_iaload dX2_tellsRecordAs_44 (fun x8 => ?_)
      refine nr_icmp_eq (tgt := 50) dX2_tellsRecordAs_45 (by decide) (fun _ => ?_) (fun _ => ?_)
      · exact s_X2_tellsRecordAs_c50 hl0 hr17 h2 t0 v1 v2 v3
      · refine nr_iconst (v := 0) dX2_tellsRecordAs_48 (by decide) ?_
        exact nr_zret rfl rfl dX2_tellsRecordAs_49
    · exact s_X2_tellsRecordAs_c50 hl0 hr17 h2 t0 v1 v2 v3
theorem s_X2_tellsRecordAs_b17 {G : nk_G} {l : Launch} (hl0 : l.flags = flags0)   : ∀ (n : Nat) (h : nk_H) (t0 : Nat) (v1 : Int32) (v2 : Option Nat) (v3 : Int32), nk_Sim G l RX2 cX2_tellsRecordAs 4 (some FieldType.boolean) 3 62 false nk_eI 17 [(0, .inr (some t0)), (1, .inl v1), (2, .inr v2), (3, .inl v3)] [] h (f_X2_tellsRecordAs_b17   n h t0 v1 v2 v3)
  | 0, _, _, _, _, _ => nk_none
  | n + 1, h, t0, v1, v2, v3 => s_X2_tellsRecordAs_c17 hl0 (s_X2_tellsRecordAs_b17 hl0  n) h t0 v1 v2 v3
set_option maxHeartbeats 4000000 in
theorem s_X2_tellsRecordAs {G : nk_G} {l : Launch} (hl0 : l.flags = flags0) (h : nk_H) (t0 : Nat) (v1 : Int32) (v2 : Option Nat) : nk_Sim G l RX2 cX2_tellsRecordAs 4 (some FieldType.boolean) 3 62 false nk_eI 0 [(0, .inr (some t0)), (1, .inl v1), (2, .inr v2)] [] h (f_X2_tellsRecordAs  h t0 v1 v2) := by
  unfold f_X2_tellsRecordAs
  refine nr_aload_n 0 dX2_tellsRecordAs_0 rfl ?_
  refine nr_getP [10] 5 dX2_tellsRecordAs_1 fk_RX2_29 (fun x9 => ?_)
  refine nr_iload_n 1 dX2_tellsRecordAs_4 rfl ?_
  refine nr_iaload dX2_tellsRecordAs_5 (fun x10 => ?_)
  refine nr_aload_n 2 dX2_tellsRecordAs_6 rfl ?_
  refine nr_getI [8] 9 dX2_tellsRecordAs_7 fk_RX2_49 (fun x11 => ?_)
  refine nr_icmp_eq (tgt := 15) dX2_tellsRecordAs_10 (by decide) (fun _ => ?_) (fun _ => ?_)
  · refine nr_iconst (v := 0) dX2_tellsRecordAs_15 (by decide) ?_
    refine nr_istore_n (lv2 := [(3, .inl 0), (0, .inr (some t0)), (1, .inl v1), (2, .inr v2)]) dX2_tellsRecordAs_16 (by decide) rfl ?_
    exact nk_locals [1, 2, 3, 0] rfl (s_X2_tellsRecordAs_b17 hl0  4096 h t0 v1 v2 0)
  · refine nr_iconst (v := 0) dX2_tellsRecordAs_13 (by decide) ?_
    exact nr_zret rfl rfl dX2_tellsRecordAs_14
theorem c_X2_tellsRecordAs {G : nk_G} {l : Launch} (hl0 : l.flags = flags0) (h : nk_H) (t0 : Nat) (v1 : Int32) (v2 : Option Nat) : nk_Con G l yX2_tellsRecordAs cX2_tellsRecordAs 4 (some FieldType.boolean) 3 62 nk_eI [.inr (some t0), .inl v1, .inr v2] h (f_X2_tellsRecordAs h t0 v1 v2) :=
  nk_con (ini := false) (by decide) hl0 (Nat.le_of_ble_eq_true rfl) (by decide) (s_X2_tellsRecordAs hl0 h t0 v1 v2)
set_option maxHeartbeats 4000000 in
theorem s_X2_tellsAs_c2 {G : nk_G} {l : Launch} (hl0 : l.flags = flags0) {r2 : nk_H → Nat → Option Nat → Int32 → Option (nk_H × Int32)} (hr2 : ∀ (h : nk_H) (t0 : Nat) (v1 : Option Nat) (v2 : Int32), nk_Sim G l RX2 cX2_tellsAs 3 (some FieldType.boolean) 4 85 false nk_eI 2 [(0, .inr (some t0)), (1, .inr v1), (2, .inl v2)] [] h (r2 h t0 v1 v2)) (h : nk_H) (t0 : Nat) (v1 : Option Nat) (v2 : Int32)  : nk_Sim G l RX2 cX2_tellsAs 3 (some FieldType.boolean) 4 85 false nk_eI 2 [(0, .inr (some t0)), (1, .inr v1), (2, .inl v2)] [] h (f_X2_tellsAs_c2  r2 h t0 v1 v2 ) := by
  unfold f_X2_tellsAs_c2
  refine nr_iload_n 2 dX2_tellsAs_2 rfl ?_
  refine nr_aload_n 0 dX2_tellsAs_3 rfl ?_
  refine nr_getI [10] 2 dX2_tellsAs_4 fk_RX2_18 (fun x1 => ?_)
  refine nr_icmp_ge (tgt := 36) dX2_tellsAs_7 (by decide) (fun _ => ?_) (fun _ => ?_)
  · refine nr_iconst (v := 1) dX2_tellsAs_36 (by decide) ?_
    exact nr_zret rfl rfl dX2_tellsAs_37
  · refine nr_aload_n 0 dX2_tellsAs_10 rfl ?_
    refine nr_iload_n 2 dX2_tellsAs_11 rfl ?_
    refine nr_aload_n 1 dX2_tellsAs_12 rfl ?_
    refine nr_aload_n 0 dX2_tellsAs_13 rfl ?_
    refine nr_getI [10] 1 dX2_tellsAs_14 fk_RX2_15 (fun x2 => ?_)
    refine nr_iload_n 2 dX2_tellsAs_17 rfl ?_
    refine nr_iadd dX2_tellsAs_18 ?_
    refine nr_rcv (ks := [9]) (pre := [.inl (x2 + v2)]) (fun a3 hm => ?_)
    refine nr_doR (st := [.inl v2, .inr (some t0)]) (nk_callV (q := (RX1, TX1, 2)) (ci := 2) (c_X1_actOf (G := G) hl0 h a3 (x2 + v2)) dX2_tellsAs_19 (List.mem_singleton.mp hm) rfl rfl my_X1_actOf im_X1_actOf se_RX1_X1_actOf ml_RX2_45 rfl rfl (Nat.le_of_ble_eq_true rfl) (by decide) (by decide)) (fun h4 x5 => ?_)
    refine nr_rcv (ks := [10]) (pre := [.inr x5, .inl v2]) (fun a6 hm => ?_)
    refine nr_doI (st := []) (nk_callV (q := (RX2, TX2, 7)) (ci := 3) (c_X2_tellsRecordAs (G := G) hl0 h4 a6 v2 x5) dX2_tellsAs_22 (List.mem_singleton.mp hm) rfl rfl my_X2_tellsRecordAs im_X2_tellsRecordAs se_RX2_X2_tellsRecordAs ml_RX2_68 rfl rfl (Nat.le_of_ble_eq_true rfl) (by decide) (by decide)) (fun h7 x8 => ?_)
    refine nr_if_ne (tgt := 30) dX2_tellsAs_25 (by decide) (fun _ => ?_) (fun _ => ?_)
    · refine nr_iconst (v := 0) dX2_tellsAs_28 (by decide) ?_
      exact nr_zret rfl rfl dX2_tellsAs_29
    · refine nr_iinc (lv2 := [(2, .inl (v2 + 1)), (0, .inr (some t0)), (1, .inr v1)]) 2 (v2 + 1) dX2_tellsAs_30 rfl (by rfl) (by decide) rfl ?_
      refine nr_goto (tgt := 2) dX2_tellsAs_33 (by decide) ?_
      exact nk_locals [1, 2, 0] rfl (hr2 h7 t0 v1 (v2 + 1))
theorem s_X2_tellsAs_b2 {G : nk_G} {l : Launch} (hl0 : l.flags = flags0)   : ∀ (n : Nat) (h : nk_H) (t0 : Nat) (v1 : Option Nat) (v2 : Int32), nk_Sim G l RX2 cX2_tellsAs 3 (some FieldType.boolean) 4 85 false nk_eI 2 [(0, .inr (some t0)), (1, .inr v1), (2, .inl v2)] [] h (f_X2_tellsAs_b2   n h t0 v1 v2)
  | 0, _, _, _, _ => nk_none
  | n + 1, h, t0, v1, v2 => s_X2_tellsAs_c2 hl0 (s_X2_tellsAs_b2 hl0  n) h t0 v1 v2
set_option maxHeartbeats 4000000 in
theorem s_X2_tellsAs {G : nk_G} {l : Launch} (hl0 : l.flags = flags0) (h : nk_H) (t0 : Nat) (v1 : Option Nat) : nk_Sim G l RX2 cX2_tellsAs 3 (some FieldType.boolean) 4 85 false nk_eI 0 [(0, .inr (some t0)), (1, .inr v1)] [] h (f_X2_tellsAs  h t0 v1) := by
  unfold f_X2_tellsAs
  refine nr_iconst (v := 0) dX2_tellsAs_0 (by decide) ?_
  refine nr_istore_n (lv2 := [(2, .inl 0), (0, .inr (some t0)), (1, .inr v1)]) dX2_tellsAs_1 (by decide) rfl ?_
  exact nk_locals [1, 2, 0] rfl (s_X2_tellsAs_b2 hl0  4096 h t0 v1 0)
theorem c_X2_tellsAs {G : nk_G} {l : Launch} (hl0 : l.flags = flags0) (h : nk_H) (t0 : Nat) (v1 : Option Nat) : nk_Con G l yX2_tellsAs cX2_tellsAs 3 (some FieldType.boolean) 4 85 nk_eI [.inr (some t0), .inr v1] h (f_X2_tellsAs h t0 v1) :=
  nk_con (ini := false) (by decide) hl0 (Nat.le_of_ble_eq_true rfl) (by decide) (s_X2_tellsAs hl0 h t0 v1)
set_option maxHeartbeats 4000000 in
theorem s_X3_init {G : nk_G} {l : Launch} (hl0 : l.flags = flags0) (h : nk_H) (t0 : Nat) (v1 : Int32) (v2 : Int32) (v3 : Int32) (v4 : Int32) (v5 : Int32) (v6 : Int32) : nk_Sim G l RX3 cX3_init 7 (none : Option FieldType) 1 12 true nk_eV 0 [(0, .inr (some t0)), (1, .inl v1), (2, .inl v2), (3, .inl v3), (4, .inl v4), (5, .inl v5), (6, .inl v6)] [] h (f_X3_init  h t0 v1 v2 v3 v4 v5 v6) := by
  unfold f_X3_init
  refine nr_aload_n 0 dX3_init_0 rfl ?_
  refine nr_objInit dX3_init_1 ml_RX3_1 oi_i oi_c (by decide) (Nat.le_of_ble_eq_true rfl) ?_
  refine nr_aload_n 0 dX3_init_4 rfl ?_
  refine nr_iload_n 1 dX3_init_5 rfl ?_
  refine nr_putI [11] 0 dX3_init_6 fk_RX3_7 fw_RX3_7_i (fun h1 => ?_)
  refine nr_aload_n 0 dX3_init_9 rfl ?_
  refine nr_iload_n 2 dX3_init_10 rfl ?_
  refine nr_putI [11] 1 dX3_init_11 fk_RX3_13 fw_RX3_13_i (fun h2 => ?_)
  refine nr_aload_n 0 dX3_init_14 rfl ?_
  refine nr_iload_n 3 dX3_init_15 rfl ?_
  refine nr_putI [11] 2 dX3_init_16 fk_RX3_16 fw_RX3_16_i (fun h3 => ?_)
  refine nr_aload_n 0 dX3_init_19 rfl ?_
  refine nr_iload 4 dX3_init_20 rfl ?_
  refine nr_putI [11] 3 dX3_init_22 fk_RX3_19 fw_RX3_19_i (fun h4 => ?_)
  refine nr_aload_n 0 dX3_init_25 rfl ?_
  refine nr_iload 5 dX3_init_26 rfl ?_
  refine nr_putI [11] 4 dX3_init_28 fk_RX3_22 fw_RX3_22_i (fun h5 => ?_)
  refine nr_aload_n 0 dX3_init_31 rfl ?_
  refine nr_iload 6 dX3_init_32 rfl ?_
  refine nr_putI [11] 5 dX3_init_34 fk_RX3_25 fw_RX3_25_i (fun h6 => ?_)
  exact nr_vret rfl rfl dX3_init_37
theorem c_X3_init {G : nk_G} {l : Launch} (hl0 : l.flags = flags0) (h : nk_H) (t0 : Nat) (v1 : Int32) (v2 : Int32) (v3 : Int32) (v4 : Int32) (v5 : Int32) (v6 : Int32) : nk_Con G l yX3_init cX3_init 7 (none : Option FieldType) 1 12 nk_eV [.inr (some t0), .inl v1, .inl v2, .inl v3, .inl v4, .inl v5, .inl v6] h (f_X3_init h t0 v1 v2 v3 v4 v5 v6) :=
  nk_con (ini := true) (by decide) hl0 (Nat.le_of_ble_eq_true rfl) (by decide) (s_X3_init hl0 h t0 v1 v2 v3 v4 v5 v6)
set_option maxHeartbeats 4000000 in
theorem s_X4_init {G : nk_G} {l : Launch} (hl0 : l.flags = flags0) (h : nk_H) (t0 : Nat) (v1 : Int32) (v2 : Int32) (v3 : Int32) : nk_Sim G l RX4 cX4_init 4 (none : Option FieldType) 2 43 true nk_eV 0 [(0, .inr (some t0)), (1, .inl v1), (2, .inl v2), (3, .inl v3)] [] h (f_X4_init  h t0 v1 v2 v3) := by
  unfold f_X4_init
  refine nr_aload_n 0 dX4_init_0 rfl ?_
  refine nr_doV (st := []) (nk_callI (c_X8_init (G := G) hl0 h t0) dX4_init_1 my_X8_init rfl im_X8_init ml_RX4_1 rfl rfl (Nat.le_of_ble_eq_true rfl) (by decide) (by decide)) (fun h1 x2 => ?_)
  refine nr_aload_n 0 dX4_init_4 rfl ?_
  refine nr_iload_n 1 dX4_init_5 rfl ?_
  refine nr_putI [12] 6 dX4_init_6 fk_RX4_7 fw_RX4_7_i (fun h3 => ?_)
  refine nr_aload_n 0 dX4_init_9 rfl ?_
  refine nr_iload_n 2 dX4_init_10 rfl ?_
  refine nr_putI [12] 7 dX4_init_11 fk_RX4_13 fw_RX4_13_i (fun h4 => ?_)
  refine nr_aload_n 0 dX4_init_14 rfl ?_
  refine nr_iload_n 3 dX4_init_15 rfl ?_
  refine nr_putI [12] 8 dX4_init_16 fk_RX4_16 fw_RX4_16_i (fun h5 => ?_)
  exact nr_vret rfl rfl dX4_init_19
theorem c_X4_init {G : nk_G} {l : Launch} (hl0 : l.flags = flags0) (h : nk_H) (t0 : Nat) (v1 : Int32) (v2 : Int32) (v3 : Int32) : nk_Con G l yX4_init cX4_init 4 (none : Option FieldType) 2 43 nk_eV [.inr (some t0), .inl v1, .inl v2, .inl v3] h (f_X4_init h t0 v1 v2 v3) :=
  nk_con (ini := true) (by decide) hl0 (Nat.le_of_ble_eq_true rfl) (by decide) (s_X4_init hl0 h t0 v1 v2 v3)
set_option maxHeartbeats 4000000 in
theorem s_X4_isDeputation_c29 {G : nk_G} {l : Launch} (hl0 : l.flags = flags0)   (h : nk_H)  (s0 : Int32) : nk_Sim G l RX4 cX4_isDeputation 4 (some FieldType.boolean) 0 0 false nk_eI 29 [] [.inl s0] h (f_X4_isDeputation_c29   h  s0) := by
  unfold f_X4_isDeputation_c29
  exact nr_zret rfl rfl dX4_isDeputation_29
set_option maxHeartbeats 4000000 in
theorem s_X4_isDeputation_c28 {G : nk_G} {l : Launch} (hl0 : l.flags = flags0)   (h : nk_H)   : nk_Sim G l RX4 cX4_isDeputation 4 (some FieldType.boolean) 0 0 false nk_eI 28 [] [] h (f_X4_isDeputation_c28   h  ) := by
  unfold f_X4_isDeputation_c28
  refine nr_iconst (v := 0) dX4_isDeputation_28 (by decide) ?_
  exact s_X4_isDeputation_c29 hl0  h 0
set_option maxHeartbeats 4000000 in
theorem s_X4_isDeputation {G : nk_G} {l : Launch} (hl0 : l.flags = flags0) (h : nk_H) (t0 : Nat) (v1 : Int32) (v2 : Int32) (v3 : Int32) : nk_Sim G l RX4 cX4_isDeputation 4 (some FieldType.boolean) 0 0 false nk_eI 0 [(0, .inr (some t0)), (1, .inl v1), (2, .inl v2), (3, .inl v3)] [] h (f_X4_isDeputation  h t0 v1 v2 v3) := by
  unfold f_X4_isDeputation
  refine nr_iload_n 1 dX4_isDeputation_0 rfl ?_
  refine nr_aload_n 0 dX4_isDeputation_1 rfl ?_
  refine nr_getI [12] 6 dX4_isDeputation_2 fk_RX4_7 (fun x1 => ?_)
  refine nr_icmp_ne (tgt := 28) dX4_isDeputation_5 (by decide) (fun _ => ?_) (fun _ => ?_)
  · refine nr_iload_n 2 dX4_isDeputation_8 rfl ?_
    refine nr_aload_n 0 dX4_isDeputation_9 rfl ?_
    refine nr_getI [12] 8 dX4_isDeputation_10 fk_RX4_16 (fun x2 => ?_)
    refine nr_icmp_gt (tgt := 28) dX4_isDeputation_13 (by decide) (fun _ => ?_) (fun _ => ?_)
    · exact nk_locals [] rfl (s_X4_isDeputation_c28 hl0  h)
    · refine nr_aload_n 0 dX4_isDeputation_16 rfl ?_
      refine nr_getI [12] 7 dX4_isDeputation_17 fk_RX4_13 (fun x3 => ?_)
      refine nr_iload_n 3 dX4_isDeputation_20 rfl ?_
      refine nr_icmp_gt (tgt := 28) dX4_isDeputation_21 (by decide) (fun _ => ?_) (fun _ => ?_)
      · exact nk_locals [] rfl (s_X4_isDeputation_c28 hl0  h)
      · refine nr_iconst (v := 1) dX4_isDeputation_24 (by decide) ?_
        refine nr_goto (tgt := 29) dX4_isDeputation_25 (by decide) ?_
        exact nk_locals [] rfl (s_X4_isDeputation_c29 hl0  h 1)
  · exact nk_locals [] rfl (s_X4_isDeputation_c28 hl0  h)
theorem c_X4_isDeputation {G : nk_G} {l : Launch} (hl0 : l.flags = flags0) (h : nk_H) (t0 : Nat) (v1 : Int32) (v2 : Int32) (v3 : Int32) : nk_Con G l yX4_isDeputation cX4_isDeputation 4 (some FieldType.boolean) 0 0 nk_eI [.inr (some t0), .inl v1, .inl v2, .inl v3] h (f_X4_isDeputation h t0 v1 v2 v3) :=
  nk_con (ini := false) (by decide) hl0 (Nat.le_of_ble_eq_true rfl) (by decide) (s_X4_isDeputation hl0 h t0 v1 v2 v3)
