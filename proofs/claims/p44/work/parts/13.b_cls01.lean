set_option maxHeartbeats 4000000 in
theorem s_X5_init {G : nk_G} {l : Launch} (hl0 : l.flags = flags0) (h : nk_H) (t0 : Nat) (v1 : Int32) (v2 : Int32) (v3 : Int32) (v4 : Int32) (v5 : Int32) : nk_Sim G l RX5 cX5_init 6 (none : Option FieldType) 1 12 true nk_eV 0 [(0, .inr (some t0)), (1, .inl v1), (2, .inl v2), (3, .inl v3), (4, .inl v4), (5, .inl v5)] [] h (f_X5_init  h t0 v1 v2 v3 v4 v5) := by
  unfold f_X5_init
  refine nr_aload_n 0 dX5_init_0 rfl ?_
  refine nr_objInit dX5_init_1 ml_RX5_1 oi_i oi_c (by decide) (Nat.le_of_ble_eq_true rfl) ?_
  refine nr_aload_n 0 dX5_init_4 rfl ?_
  refine nr_iload_n 1 dX5_init_5 rfl ?_
  refine nr_putI [13] 0 dX5_init_6 fk_RX5_7 fw_RX5_7_i (fun h1 => ?_)
  refine nr_aload_n 0 dX5_init_9 rfl ?_
  refine nr_iload_n 2 dX5_init_10 rfl ?_
  refine nr_putI [13] 1 dX5_init_11 fk_RX5_13 fw_RX5_13_i (fun h2 => ?_)
  refine nr_aload_n 0 dX5_init_14 rfl ?_
  refine nr_iload_n 3 dX5_init_15 rfl ?_
  refine nr_putI [13] 2 dX5_init_16 fk_RX5_16 fw_RX5_16_i (fun h3 => ?_)
  refine nr_aload_n 0 dX5_init_19 rfl ?_
  refine nr_iload 4 dX5_init_20 rfl ?_
  refine nr_putI [13] 3 dX5_init_22 fk_RX5_19 fw_RX5_19_i (fun h4 => ?_)
  refine nr_aload_n 0 dX5_init_25 rfl ?_
  refine nr_iload 5 dX5_init_26 rfl ?_
  refine nr_putI [13] 4 dX5_init_28 fk_RX5_22 fw_RX5_22_i (fun h5 => ?_)
  exact nr_vret rfl rfl dX5_init_31
theorem c_X5_init {G : nk_G} {l : Launch} (hl0 : l.flags = flags0) (h : nk_H) (t0 : Nat) (v1 : Int32) (v2 : Int32) (v3 : Int32) (v4 : Int32) (v5 : Int32) : nk_Con G l yX5_init cX5_init 6 (none : Option FieldType) 1 12 nk_eV [.inr (some t0), .inl v1, .inl v2, .inl v3, .inl v4, .inl v5] h (f_X5_init h t0 v1 v2 v3 v4 v5) :=
  nk_con (ini := true) (by decide) hl0 (Nat.le_of_ble_eq_true rfl) (by decide) (s_X5_init hl0 h t0 v1 v2 v3 v4 v5)
set_option maxHeartbeats 4000000 in
theorem s_X6_init {G : nk_G} {l : Launch} (hl0 : l.flags = flags0) (h : nk_H) (t0 : Nat) : nk_Sim G l RX6 cX6_init 1 (none : Option FieldType) 1 12 true nk_eV 0 [(0, .inr (some t0))] [] h (f_X6_init  h t0) := by
  unfold f_X6_init
  refine nr_aload_n 0 dX6_init_0 rfl ?_
  refine nr_objInit dX6_init_1 ml_RX6_3 oi_i oi_c (by decide) (Nat.le_of_ble_eq_true rfl) ?_
  refine nr_aload_n 0 dX6_init_4 rfl ?_
  refine nr_bipush (v := 6) dX6_init_5 (by decide) ?_
  refine nr_newarray 1 (by decide) dX6_init_7 ac_int (fun h1 => ?_)
  refine nr_putP [14] 0 dX6_init_9 fk_RX6_9 fw_RX6_9_i (fun h2 => ?_)
  refine nr_aload_n 0 dX6_init_12 rfl ?_
  refine nr_sipush (v := 2406) dX6_init_13 (by decide) ?_
  refine nr_newarray 1 (by decide) dX6_init_16 ac_int (fun h3 => ?_)
  refine nr_putP [14] 1 dX6_init_18 fk_RX6_15 fw_RX6_15_i (fun h4 => ?_)
  exact nr_vret rfl rfl dX6_init_21
theorem c_X6_init {G : nk_G} {l : Launch} (hl0 : l.flags = flags0) (h : nk_H) (t0 : Nat) : nk_Con G l yX6_init cX6_init 1 (none : Option FieldType) 1 12 nk_eV [.inr (some t0)] h (f_X6_init h t0) :=
  nk_con (ini := true) (by decide) hl0 (Nat.le_of_ble_eq_true rfl) (by decide) (s_X6_init hl0 h t0)
set_option maxHeartbeats 4000000 in
theorem s_X6_areLinked {G : nk_G} {l : Launch} (hl0 : l.flags = flags0) (h : nk_H) (t0 : Nat) (v1 : Int32) (v2 : Int32) : nk_Sim G l RX6 cX6_areLinked 3 (some FieldType.boolean) 2 41 false nk_eI 0 [(0, .inr (some t0)), (1, .inl v1), (2, .inl v2)] [] h (f_X6_areLinked  h t0 v1 v2) := by
  unfold f_X6_areLinked
  refine nr_aload_n 0 dX6_areLinked_0 rfl ?_
  refine nr_getP [14] 0 dX6_areLinked_1 fk_RX6_9 (fun x1 => ?_)
  refine nr_iload_n 1 dX6_areLinked_4 rfl ?_
  refine nr_iaload dX6_areLinked_5 (fun x2 => ?_)
  refine nr_iload_n 2 dX6_areLinked_6 rfl ?_
  refine nr_doI (st := []) (nk_callSN (c_X11_hasBit (G := G) hl0 h x2 v2) dX6_areLinked_7 my_X11_hasBit st_X11_hasBit nl_RX6_18 rfl rfl (Nat.le_of_ble_eq_true rfl) (by decide) (by decide)) (fun h3 x4 => ?_)
  exact nr_zret rfl rfl dX6_areLinked_10
theorem c_X6_areLinked {G : nk_G} {l : Launch} (hl0 : l.flags = flags0) (h : nk_H) (t0 : Nat) (v1 : Int32) (v2 : Int32) : nk_Con G l yX6_areLinked cX6_areLinked 3 (some FieldType.boolean) 2 41 nk_eI [.inr (some t0), .inl v1, .inl v2] h (f_X6_areLinked h t0 v1 v2) :=
  nk_con (ini := false) (by decide) hl0 (Nat.le_of_ble_eq_true rfl) (by decide) (s_X6_areLinked hl0 h t0 v1 v2)
set_option maxHeartbeats 4000000 in
theorem s_X6_degree {G : nk_G} {l : Launch} (hl0 : l.flags = flags0) (h : nk_H) (t0 : Nat) (v1 : Int32) : nk_Sim G l RX6 cX6_degree 2 (some FieldType.int) 1 20 false nk_eI 0 [(0, .inr (some t0)), (1, .inl v1)] [] h (f_X6_degree  h t0 v1) := by
  unfold f_X6_degree
  refine nr_aload_n 0 dX6_degree_0 rfl ?_
  refine nr_getP [14] 0 dX6_degree_1 fk_RX6_9 (fun x1 => ?_)
  refine nr_iload_n 1 dX6_degree_4 rfl ?_
  refine nr_iaload dX6_degree_5 (fun x2 => ?_)
  refine nr_doI (st := []) (nk_callS (c_J6_bitCount_0f7a4 (G := G) hl0 h x2) dX6_degree_6 my_J6_bitCount_0f7a4 st_J6_bitCount_0f7a4 ml_RX6_22 rfl rfl (Nat.le_of_ble_eq_true rfl) (by decide) (by decide)) (fun h3 x4 => ?_)
  exact nr_iret rfl rfl dX6_degree_9
theorem c_X6_degree {G : nk_G} {l : Launch} (hl0 : l.flags = flags0) (h : nk_H) (t0 : Nat) (v1 : Int32) : nk_Con G l yX6_degree cX6_degree 2 (some FieldType.int) 1 20 nk_eI [.inr (some t0), .inl v1] h (f_X6_degree h t0 v1) :=
  nk_con (ini := false) (by decide) hl0 (Nat.le_of_ble_eq_true rfl) (by decide) (s_X6_degree hl0 h t0 v1)
set_option maxHeartbeats 4000000 in
theorem s_X6_turn {G : nk_G} {l : Launch} (hl0 : l.flags = flags0) (h : nk_H) (t0 : Nat) (v1 : Int32) (v2 : Int32) : nk_Sim G l RX6 cX6_turn 3 (none : Option FieldType) 1 20 false nk_eV 0 [(0, .inr (some t0)), (1, .inl v1), (2, .inl v2)] [] h (f_X6_turn  h t0 v1 v2) := by
  unfold f_X6_turn
  refine nr_aload_n 0 dX6_turn_0 rfl ?_
  refine nr_getP [14] 0 dX6_turn_1 fk_RX6_9 (fun x1 => ?_)
  refine nr_iload_n 1 dX6_turn_4 rfl ?_
  refine nr_dup2 dX6_turn_5 ?_
  refine nr_iaload dX6_turn_6 (fun x2 => ?_)
  refine nr_iload_n 2 dX6_turn_7 rfl ?_
  refine nr_doI (st := [.inl x2, .inl v1, .inr x1]) (nk_callSN (c_X11_bit (G := G) hl0 h v2) dX6_turn_8 my_X11_bit st_X11_bit nl_RX6_28 rfl rfl (Nat.le_of_ble_eq_true rfl) (by decide) (by decide)) (fun h3 x4 => ?_)
  refine nr_ixor dX6_turn_11 ?_
  refine nr_iastore dX6_turn_12 (fun h5 => ?_)
  refine nr_aload_n 0 dX6_turn_13 rfl ?_
  refine nr_getP [14] 0 dX6_turn_14 fk_RX6_9 (fun x6 => ?_)
  refine nr_iload_n 2 dX6_turn_17 rfl ?_
  refine nr_dup2 dX6_turn_18 ?_
  refine nr_iaload dX6_turn_19 (fun x7 => ?_)
  refine nr_iload_n 1 dX6_turn_20 rfl ?_
  refine nr_doI (st := [.inl x7, .inl v2, .inr x6]) (nk_callSN (c_X11_bit (G := G) hl0 h5 v1) dX6_turn_21 my_X11_bit st_X11_bit nl_RX6_28 rfl rfl (Nat.le_of_ble_eq_true rfl) (by decide) (by decide)) (fun h8 x9 => ?_)
  refine nr_ixor dX6_turn_24 ?_
  refine nr_iastore dX6_turn_25 (fun h10 => ?_)
  exact nr_vret rfl rfl dX6_turn_26
theorem c_X6_turn {G : nk_G} {l : Launch} (hl0 : l.flags = flags0) (h : nk_H) (t0 : Nat) (v1 : Int32) (v2 : Int32) : nk_Con G l yX6_turn cX6_turn 3 (none : Option FieldType) 1 20 nk_eV [.inr (some t0), .inl v1, .inl v2] h (f_X6_turn h t0 v1 v2) :=
  nk_con (ini := false) (by decide) hl0 (Nat.le_of_ble_eq_true rfl) (by decide) (s_X6_turn hl0 h t0 v1 v2)
set_option maxHeartbeats 4000000 in
theorem s_X6_keep {G : nk_G} {l : Launch} (hl0 : l.flags = flags0) (h : nk_H) (t0 : Nat) (v1 : Int32) : nk_Sim G l RX6 cX6_keep 2 (none : Option FieldType) 1 32 false nk_eV 0 [(0, .inr (some t0)), (1, .inl v1)] [] h (f_X6_keep  h t0 v1) := by
  unfold f_X6_keep
  refine nr_aload_n 0 dX6_keep_0 rfl ?_
  refine nr_getP [14] 0 dX6_keep_1 fk_RX6_9 (fun x1 => ?_)
  refine nr_iconst (v := 0) dX6_keep_4 (by decide) ?_
  refine nr_aload_n 0 dX6_keep_5 rfl ?_
  refine nr_getP [14] 1 dX6_keep_6 fk_RX6_15 (fun x2 => ?_)
  refine nr_iload_n 1 dX6_keep_9 rfl ?_
  refine nr_bipush (v := 6) dX6_keep_10 (by decide) ?_
  refine nr_imul dX6_keep_12 ?_
  refine nr_bipush (v := 6) dX6_keep_13 (by decide) ?_
  refine nr_acpI dX6_keep_15 ml_RX6_31 na_acpy st_acpy in_System (by decide) (Nat.le_of_ble_eq_true rfl) (fun h3 => ?_)
  exact nr_vret rfl rfl dX6_keep_18
theorem c_X6_keep {G : nk_G} {l : Launch} (hl0 : l.flags = flags0) (h : nk_H) (t0 : Nat) (v1 : Int32) : nk_Con G l yX6_keep cX6_keep 2 (none : Option FieldType) 1 32 nk_eV [.inr (some t0), .inl v1] h (f_X6_keep h t0 v1) :=
  nk_con (ini := false) (by decide) hl0 (Nat.le_of_ble_eq_true rfl) (by decide) (s_X6_keep hl0 h t0 v1)
set_option maxHeartbeats 4000000 in
theorem s_X6_reach_c36 {G : nk_G} {l : Launch} (hl0 : l.flags = flags0) {r5 : nk_H → Nat → Int32 → Int32 → Int32 → Int32 → Option (nk_H × Int32)} (hr5 : ∀ (h : nk_H) (t0 : Nat) (v1 : Int32) (v2 : Int32) (v3 : Int32) (v4 : Int32), nk_Sim G l RX6 cX6_reach 5 (some FieldType.int) 2 41 false nk_eI 5 [(0, .inr (some t0)), (1, .inl v1), (2, .inl v2), (3, .inl v3), (4, .inl v4)] [] h (r5 h t0 v1 v2 v3 v4)) (h : nk_H) (t0 : Nat) (v1 : Int32) (v2 : Int32) (v3 : Int32) (v4 : Int32)  : nk_Sim G l RX6 cX6_reach 5 (some FieldType.int) 2 41 false nk_eI 36 [(0, .inr (some t0)), (1, .inl v1), (2, .inl v2), (3, .inl v3), (4, .inl v4)] [] h (f_X6_reach_c36  r5 h t0 v1 v2 v3 v4 ) := by
  unfold f_X6_reach_c36
  refine nr_iinc (lv2 := [(4, .inl (v4 + 1)), (0, .inr (some t0)), (1, .inl v1), (2, .inl v2), (3, .inl v3)]) 4 (v4 + 1) dX6_reach_36 rfl (by rfl) (by decide) rfl ?_
  refine nr_goto (tgt := 5) dX6_reach_39 (by decide) ?_
  exact nk_locals [1, 2, 3, 4, 0] rfl (hr5 h t0 v1 v2 v3 (v4 + 1))
set_option maxHeartbeats 4000000 in
theorem s_X6_reach_c5 {G : nk_G} {l : Launch} (hl0 : l.flags = flags0) {r5 : nk_H → Nat → Int32 → Int32 → Int32 → Int32 → Option (nk_H × Int32)} (hr5 : ∀ (h : nk_H) (t0 : Nat) (v1 : Int32) (v2 : Int32) (v3 : Int32) (v4 : Int32), nk_Sim G l RX6 cX6_reach 5 (some FieldType.int) 2 41 false nk_eI 5 [(0, .inr (some t0)), (1, .inl v1), (2, .inl v2), (3, .inl v3), (4, .inl v4)] [] h (r5 h t0 v1 v2 v3 v4)) (h : nk_H) (t0 : Nat) (v1 : Int32) (v2 : Int32) (v3 : Int32) (v4 : Int32)  : nk_Sim G l RX6 cX6_reach 5 (some FieldType.int) 2 41 false nk_eI 5 [(0, .inr (some t0)), (1, .inl v1), (2, .inl v2), (3, .inl v3), (4, .inl v4)] [] h (f_X6_reach_c5  r5 h t0 v1 v2 v3 v4 ) := by
  unfold f_X6_reach_c5
  refine nr_iload 4 dX6_reach_5 rfl ?_
  refine nr_bipush (v := 6) dX6_reach_7 (by decide) ?_
  refine nr_icmp_ge (tgt := 42) dX6_reach_9 (by decide) (fun _ => ?_) (fun _ => ?_)
  · refine nr_iload_n 3 dX6_reach_42 rfl ?_
    exact nr_iret rfl rfl dX6_reach_43
  · refine nr_iload_n 1 dX6_reach_12 rfl ?_
    refine nr_iload 4 dX6_reach_13 rfl ?_
    refine nr_doI (st := []) (nk_callSN (c_X11_hasBit (G := G) hl0 h v1 v4) dX6_reach_15 my_X11_hasBit st_X11_hasBit nl_RX6_18 rfl rfl (Nat.le_of_ble_eq_true rfl) (by decide) (by decide)) (fun h1 x2 => ?_)
    refine nr_if_eq (tgt := 36) dX6_reach_18 (by decide) (fun _ => ?_) (fun _ => ?_)
    · exact s_X6_reach_c36 hl0 hr5 h1 t0 v1 v2 v3 v4
    · refine nr_iload_n 3 dX6_reach_21 rfl ?_
      refine nr_aload_n 0 dX6_reach_22 rfl ?_
      refine nr_getP [14] 1 dX6_reach_23 fk_RX6_15 (fun x3 => ?_)
      refine nr_iload_n 2 dX6_reach_26 rfl ?_
      refine nr_bipush (v := 6) dX6_reach_27 (by decide) ?_
      refine nr_imul dX6_reach_29 ?_
      refine nr_iload 4 dX6_reach_30 rfl ?_
      refine nr_iadd dX6_reach_32 ?_
      refine nr_iaload dX6_reach_33 (fun x4 => ?_)
      refine nr_ior dX6_reach_34 ?_
      refine nr_istore_n (lv2 := [(3, .inl (v3 ||| x4)), (0, .inr (some t0)), (1, .inl v1), (2, .inl v2), (4, .inl v4)]) dX6_reach_35 (by decide) rfl ?_
      exact nk_locals [1, 2, 3, 0, 4] rfl (s_X6_reach_c36 hl0 hr5 h1 t0 v1 v2 (v3 ||| x4) v4)
theorem s_X6_reach_b5 {G : nk_G} {l : Launch} (hl0 : l.flags = flags0)   : ∀ (n : Nat) (h : nk_H) (t0 : Nat) (v1 : Int32) (v2 : Int32) (v3 : Int32) (v4 : Int32), nk_Sim G l RX6 cX6_reach 5 (some FieldType.int) 2 41 false nk_eI 5 [(0, .inr (some t0)), (1, .inl v1), (2, .inl v2), (3, .inl v3), (4, .inl v4)] [] h (f_X6_reach_b5   n h t0 v1 v2 v3 v4)
  | 0, _, _, _, _, _, _ => nk_none
  | n + 1, h, t0, v1, v2, v3, v4 => s_X6_reach_c5 hl0 (s_X6_reach_b5 hl0  n) h t0 v1 v2 v3 v4
set_option maxHeartbeats 4000000 in
theorem s_X6_reach {G : nk_G} {l : Launch} (hl0 : l.flags = flags0) (h : nk_H) (t0 : Nat) (v1 : Int32) (v2 : Int32) : nk_Sim G l RX6 cX6_reach 5 (some FieldType.int) 2 41 false nk_eI 0 [(0, .inr (some t0)), (1, .inl v1), (2, .inl v2)] [] h (f_X6_reach  h t0 v1 v2) := by
  unfold f_X6_reach
  refine nr_iload_n 1 dX6_reach_0 rfl ?_
  refine nr_istore_n (lv2 := [(3, .inl v1), (0, .inr (some t0)), (1, .inl v1), (2, .inl v2)]) dX6_reach_1 (by decide) rfl ?_
  refine nr_iconst (v := 0) dX6_reach_2 (by decide) ?_
  refine nr_istore (lv2 := [(4, .inl 0), (3, .inl v1), (0, .inr (some t0)), (1, .inl v1), (2, .inl v2)]) dX6_reach_3 (by decide) rfl ?_
  exact nk_locals [2, 3, 4, 1, 0] rfl (s_X6_reach_b5 hl0  4096 h t0 v1 v2 v1 0)
theorem c_X6_reach {G : nk_G} {l : Launch} (hl0 : l.flags = flags0) (h : nk_H) (t0 : Nat) (v1 : Int32) (v2 : Int32) : nk_Con G l yX6_reach cX6_reach 5 (some FieldType.int) 2 41 nk_eI [.inr (some t0), .inl v1, .inl v2] h (f_X6_reach h t0 v1 v2) :=
  nk_con (ini := false) (by decide) hl0 (Nat.le_of_ble_eq_true rfl) (by decide) (s_X6_reach hl0 h t0 v1 v2)
set_option maxHeartbeats 4000000 in
theorem s_X7_init {G : nk_G} {l : Launch} (hl0 : l.flags = flags0) (h : nk_H) (t0 : Nat) : nk_Sim G l RX7 cX7_init 1 (none : Option FieldType) 4 72 true nk_eV 0 [(0, .inr (some t0))] [] h (f_X7_init  h t0) := by
  unfold f_X7_init
  refine nr_aload_n 0 dX7_init_0 rfl ?_
  refine nr_objInit dX7_init_1 ml_RX7_3 oi_i oi_c (by decide) (Nat.le_of_ble_eq_true rfl) ?_
  refine nr_aload_n 0 dX7_init_4 rfl ?_
  refine nr_newb (q := (RJx4a65c, TJx4a65c, 3)) 0 rfl dX7_init_5 cl_RX7_9 ins_RJx4a65c in_RJx4a65c rfl (fun h1 => ?_)
  refine nr_dup dX7_init_8 ?_
  refine nr_doV (st := [.inr (some (nk_N h)), .inr (some t0)]) (nk_callI (c_Jx4a65c_init_da8c8 (G := G) hl0 h1 (nk_N h)) dX7_init_9 my_Jx4a65c_init_da8c8 rfl im_Jx4a65c_init_da8c8 ml_RX7_11 rfl rfl (Nat.le_of_ble_eq_true rfl) (by decide) (by decide)) (fun h2 x3 => ?_)
  refine nr_putP [15] 0 dX7_init_12 fk_RX7_12 fw_RX7_12_i (fun h4 => ?_)
  refine nr_aload_n 0 dX7_init_15 rfl ?_
  refine nr_sipush (v := 160) dX7_init_16 (by decide) ?_
  refine nr_newarray 2 (by decide) dX7_init_19 ac_boolean (fun h5 => ?_)
  refine nr_putP [15] 1 dX7_init_21 fk_RX7_18 fw_RX7_18_i (fun h6 => ?_)
  exact nr_vret rfl rfl dX7_init_24
theorem c_X7_init {G : nk_G} {l : Launch} (hl0 : l.flags = flags0) (h : nk_H) (t0 : Nat) : nk_Con G l yX7_init cX7_init 1 (none : Option FieldType) 4 72 nk_eV [.inr (some t0)] h (f_X7_init h t0) :=
  nk_con (ini := true) (by decide) hl0 (Nat.le_of_ble_eq_true rfl) (by decide) (s_X7_init hl0 h t0)
set_option maxHeartbeats 4000000 in
theorem s_X7_count {G : nk_G} {l : Launch} (hl0 : l.flags = flags0) (h : nk_H) (t0 : Nat) : nk_Sim G l RX7 cX7_count 1 (some FieldType.int) 1 20 false nk_eI 0 [(0, .inr (some t0))] [] h (f_X7_count  h t0) := by
  unfold f_X7_count
  refine nr_aload_n 0 dX7_count_0 rfl ?_
  refine nr_getP [15] 0 dX7_count_1 fk_RX7_12 (fun x1 => ?_)
  refine nr_rcv (ks := [7]) (pre := []) (fun a2 hm => ?_)
  refine nr_doI (st := []) (nk_callV (q := (RJx4a65c, TJx4a65c, 3)) (ci := 0) (c_Jx4a65c_size_8abf5 (G := G) hl0 h a2) dX7_count_4 (List.mem_singleton.mp hm) rfl rfl my_Jx4a65c_size_8abf5 im_Jx4a65c_size_8abf5 se_RJx4a65c_Jx4a65c_size_8abf5 ml_RX7_22 rfl rfl (Nat.le_of_ble_eq_true rfl) (by decide) (by decide)) (fun h3 x4 => ?_)
  exact nr_iret rfl rfl dX7_count_7
theorem c_X7_count {G : nk_G} {l : Launch} (hl0 : l.flags = flags0) (h : nk_H) (t0 : Nat) : nk_Con G l yX7_count cX7_count 1 (some FieldType.int) 1 20 nk_eI [.inr (some t0)] h (f_X7_count h t0) :=
  nk_con (ini := false) (by decide) hl0 (Nat.le_of_ble_eq_true rfl) (by decide) (s_X7_count hl0 h t0)
set_option maxHeartbeats 4000000 in
theorem s_X7_pieceAt {G : nk_G} {l : Launch} (hl0 : l.flags = flags0) (h : nk_H) (t0 : Nat) (v1 : Int32) : nk_Sim G l RX7 cX7_pieceAt 2 (some (FieldType.object "NotaryKiosk$Piece")) 3 64 false nk_eR 0 [(0, .inr (some t0)), (1, .inl v1)] [] h (f_X7_pieceAt  h t0 v1) := by
  unfold f_X7_pieceAt
  refine nr_aload_n 0 dX7_pieceAt_0 rfl ?_
  refine nr_getP [15] 0 dX7_pieceAt_1 fk_RX7_12 (fun x1 => ?_)
  refine nr_iload_n 1 dX7_pieceAt_4 rfl ?_
  refine nr_rcv (ks := [7]) (pre := [.inl v1]) (fun a2 hm => ?_)
  refine nr_doR (st := []) (nk_callV (q := (RJx4a65c, TJx4a65c, 3)) (ci := 0) (c_Jx4a65c_get_915e3 (G := G) hl0 h a2 v1) dX7_pieceAt_5 (List.mem_singleton.mp hm) rfl rfl my_Jx4a65c_get_915e3 im_Jx4a65c_get_915e3 se_RJx4a65c_Jx4a65c_get_915e3 ml_RX7_26 rfl rfl (Nat.le_of_ble_eq_true rfl) (by decide) (by decide)) (fun h3 x4 => ?_)
  refine nr_cast dX7_pieceAt_8 cl_RX7_30 ca_Piece ?_
  exact nr_aret rfl rfl (Or.inl ⟨_, rfl⟩) dX7_pieceAt_11
theorem c_X7_pieceAt {G : nk_G} {l : Launch} (hl0 : l.flags = flags0) (h : nk_H) (t0 : Nat) (v1 : Int32) : nk_Con G l yX7_pieceAt cX7_pieceAt 2 (some (FieldType.object "NotaryKiosk$Piece")) 3 64 nk_eR [.inr (some t0), .inl v1] h (f_X7_pieceAt h t0 v1) :=
  nk_con (ini := false) (by decide) hl0 (Nat.le_of_ble_eq_true rfl) (by decide) (s_X7_pieceAt hl0 h t0 v1)
set_option maxHeartbeats 4000000 in
theorem s_X8_comeTo {G : nk_G} {l : Launch} (hl0 : l.flags = flags0) (h : nk_H) (t0 : Nat) (v1 : Int32) (v2 : Int32) : nk_Sim G l RX8 cX8_comeTo 3 (none : Option FieldType) 1 20 false nk_eV 0 [(0, .inr (some t0)), (1, .inl v1), (2, .inl v2)] [] h (f_X8_comeTo  h t0 v1 v2) := by
  unfold f_X8_comeTo
  refine nr_aload_n 0 dX8_comeTo_0 rfl ?_
  refine nr_getP [8, 12, 16, 17] 5 dX8_comeTo_1 fk_RX8_9 (fun x1 => ?_)
  refine nr_iload_n 1 dX8_comeTo_4 rfl ?_
  refine nr_iload_n 2 dX8_comeTo_5 rfl ?_
  refine nr_iastore dX8_comeTo_6 (fun h2 => ?_)
  refine nr_aload_n 0 dX8_comeTo_7 rfl ?_
  refine nr_dup dX8_comeTo_8 ?_
  refine nr_getI [8, 12, 16, 17] 3 dX8_comeTo_9 fk_RX8_21 (fun x3 => ?_)
  refine nr_iload_n 1 dX8_comeTo_12 rfl ?_
  refine nr_doI (st := [.inl x3, .inr (some t0)]) (nk_callSN (c_X11_bit (G := G) hl0 h2 v1) dX8_comeTo_13 my_X11_bit st_X11_bit nl_RX8_25 rfl rfl (Nat.le_of_ble_eq_true rfl) (by decide) (by decide)) (fun h4 x5 => ?_)
  refine nr_ior dX8_comeTo_16 ?_
  refine nr_putI [8, 12, 16, 17] 3 dX8_comeTo_17 fk_RX8_21 fw_RX8_21_n (fun h6 => ?_)
  exact nr_vret rfl rfl dX8_comeTo_20
theorem c_X8_comeTo {G : nk_G} {l : Launch} (hl0 : l.flags = flags0) (h : nk_H) (t0 : Nat) (v1 : Int32) (v2 : Int32) : nk_Con G l yX8_comeTo cX8_comeTo 3 (none : Option FieldType) 1 20 nk_eV [.inr (some t0), .inl v1, .inl v2] h (f_X8_comeTo h t0 v1 v2) :=
  nk_con (ini := false) (by decide) hl0 (Nat.le_of_ble_eq_true rfl) (by decide) (s_X8_comeTo hl0 h t0 v1 v2)
set_option maxHeartbeats 4000000 in
theorem s_X7_publish {G : nk_G} {l : Launch} (hl0 : l.flags = flags0) (h : nk_H) (t0 : Nat) (v1 : Option Nat) (v2 : Int32) (v3 : Int32) : nk_Sim G l RX7 cX7_publish 4 (some FieldType.int) 7 163 false nk_eI 0 [(0, .inr (some t0)), (1, .inr v1), (2, .inl v2), (3, .inl v3)] [] h (f_X7_publish  h t0 v1 v2 v3) := by
  unfold f_X7_publish
  refine nr_aload_n 1 dX7_publish_0 rfl ?_
  refine nr_aload_n 0 dX7_publish_1 rfl ?_
  refine nr_getP [15] 0 dX7_publish_2 fk_RX7_12 (fun x1 => ?_)
  refine nr_rcv (ks := [7]) (pre := []) (fun a2 hm => ?_)
  refine nr_doI (st := [.inr v1]) (nk_callV (q := (RJx4a65c, TJx4a65c, 3)) (ci := 0) (c_Jx4a65c_size_8abf5 (G := G) hl0 h a2) dX7_publish_5 (List.mem_singleton.mp hm) rfl rfl my_Jx4a65c_size_8abf5 im_Jx4a65c_size_8abf5 se_RJx4a65c_Jx4a65c_size_8abf5 ml_RX7_22 rfl rfl (Nat.le_of_ble_eq_true rfl) (by decide) (by decide)) (fun h3 x4 => ?_)
  refine nr_putI [8, 12, 16, 17] 0 dX7_publish_8 fk_RX7_32 fw_RX7_32_n (fun h5 => ?_)
  refine nr_aload_n 1 dX7_publish_11 rfl ?_
  refine nr_iload_n 2 dX7_publish_12 rfl ?_
  refine nr_putI [8, 12, 16, 17] 1 dX7_publish_13 fk_RX7_36 fw_RX7_36_n (fun h6 => ?_)
  refine nr_aload_n 1 dX7_publish_16 rfl ?_
  refine nr_iload_n 3 dX7_publish_17 rfl ?_
  refine nr_putI [8, 12, 16, 17] 2 dX7_publish_18 fk_RX7_39 fw_RX7_39_n (fun h7 => ?_)
  refine nr_aload_n 1 dX7_publish_21 rfl ?_
  refine nr_iload_n 2 dX7_publish_22 rfl ?_
  refine nr_iload_n 3 dX7_publish_23 rfl ?_
  refine nr_rcv (ks := [8, 12, 16, 17]) (pre := [.inl v3, .inl v2]) (fun a8 hm => ?_)
  refine nr_doV (st := []) ?_ (fun h9 x10 => ?_)
  · simp only [List.mem_cons, List.not_mem_nil, or_false] at hm
    rcases hm with hm | hm | hm | hm
    · exact nk_callU (x := yX8_comeTo) (owner := "NotaryKiosk$Piece") (q := (RX0, TX0, 11)) (ci := 1) (c_X8_comeTo (G := G) hl0 h7 a8 v2 v3) dX7_publish_24 hm rfl my_X8_comeTo im_X8_comeTo se_RX0_X8_comeTo ml_RX7_42 sm_X8_comeTo (by decide +kernel) im_X8_comeTo co_X8_comeTo rfl rfl (Nat.le_of_ble_eq_true rfl) (by decide) (by decide)
    · exact nk_callU (x := yX8_comeTo) (owner := "NotaryKiosk$Piece") (q := (RX4, TX4, 9)) (ci := 5) (c_X8_comeTo (G := G) hl0 h7 a8 v2 v3) dX7_publish_24 hm rfl my_X8_comeTo im_X8_comeTo se_RX4_X8_comeTo ml_RX7_42 sm_X8_comeTo (by decide +kernel) im_X8_comeTo co_X8_comeTo rfl rfl (Nat.le_of_ble_eq_true rfl) (by decide) (by decide)
    · exact nk_callU (x := yX8_comeTo) (owner := "NotaryKiosk$Piece") (q := (RX9, TX9, 15)) (ci := 9) (c_X8_comeTo (G := G) hl0 h7 a8 v2 v3) dX7_publish_24 hm rfl my_X8_comeTo im_X8_comeTo se_RX9_X8_comeTo ml_RX7_42 sm_X8_comeTo (by decide +kernel) im_X8_comeTo co_X8_comeTo rfl rfl (Nat.le_of_ble_eq_true rfl) (by decide) (by decide)
    · exact nk_callU (x := yX8_comeTo) (owner := "NotaryKiosk$Piece") (q := (RX10, TX10, 7)) (ci := 10) (c_X8_comeTo (G := G) hl0 h7 a8 v2 v3) dX7_publish_24 hm rfl my_X8_comeTo im_X8_comeTo se_RX10_X8_comeTo ml_RX7_42 sm_X8_comeTo (by decide +kernel) im_X8_comeTo co_X8_comeTo rfl rfl (Nat.le_of_ble_eq_true rfl) (by decide) (by decide)
  · refine nr_aload_n 1 dX7_publish_27 rfl ?_
    refine nr_iload_n 2 dX7_publish_28 rfl ?_
    refine nr_doI (st := [.inr v1]) (nk_callSN (c_X11_bit (G := G) hl0 h9 v2) dX7_publish_29 my_X11_bit st_X11_bit nl_RX7_46 rfl rfl (Nat.le_of_ble_eq_true rfl) (by decide) (by decide)) (fun h11 x12 => ?_)
    refine nr_putI [8, 12, 16, 17] 4 dX7_publish_32 fk_RX7_50 fw_RX7_50_n (fun h13 => ?_)
    refine nr_aload_n 0 dX7_publish_35 rfl ?_
    refine nr_getP [15] 0 dX7_publish_36 fk_RX7_12 (fun x14 => ?_)
    refine nr_aload_n 1 dX7_publish_39 rfl ?_
    refine nr_rcv (ks := [7]) (pre := [.inr v1]) (fun a15 hm => ?_)
    refine nr_doI (st := []) (nk_callV (q := (RJx4a65c, TJx4a65c, 3)) (ci := 0) (c_Jx4a65c_add_9ea2d (G := G) hl0 h13 a15 v1) dX7_publish_40 (List.mem_singleton.mp hm) rfl rfl my_Jx4a65c_add_9ea2d im_Jx4a65c_add_9ea2d se_RJx4a65c_Jx4a65c_add_9ea2d ml_RX7_53 rfl rfl (Nat.le_of_ble_eq_true rfl) (by decide) (by decide)) (fun h16 x17 => ?_)
    refine nr_pop dX7_publish_43 ?_
    refine nr_aload_n 1 dX7_publish_44 rfl ?_
    refine nr_getI [8, 12, 16, 17] 0 dX7_publish_45 fk_RX7_32 (fun x18 => ?_)
    exact nr_iret rfl rfl dX7_publish_48
theorem c_X7_publish {G : nk_G} {l : Launch} (hl0 : l.flags = flags0) (h : nk_H) (t0 : Nat) (v1 : Option Nat) (v2 : Int32) (v3 : Int32) : nk_Con G l yX7_publish cX7_publish 4 (some FieldType.int) 7 163 nk_eI [.inr (some t0), .inr v1, .inl v2, .inl v3] h (f_X7_publish h t0 v1 v2 v3) :=
  nk_con (ini := false) (by decide) hl0 (Nat.le_of_ble_eq_true rfl) (by decide) (s_X7_publish hl0 h t0 v1 v2 v3)
set_option maxHeartbeats 4000000 in
theorem s_X7_spread_c79 {G : nk_G} {l : Launch} (hl0 : l.flags = flags0) {r5 : nk_H → Nat → Option Nat → Int32 → Int32 → Int32 → Option (nk_H × Int32)} {r54 : nk_H → Nat → Option Nat → Int32 → Int32 → Int32 → Option Nat → Int32 → Int32 → Option (nk_H × Int32)} (hr5 : ∀ (h : nk_H) (t0 : Nat) (v1 : Option Nat) (v2 : Int32) (v3 : Int32) (v4 : Int32), nk_Sim G l RX7 cX7_spread 8 (some FieldType.int) 3 65 false nk_eI 5 [(0, .inr (some t0)), (1, .inr v1), (2, .inl v2), (3, .inl v3), (4, .inl v4)] [] h (r5 h t0 v1 v2 v3 v4)) (hr54 : ∀ (h : nk_H) (t0 : Nat) (v1 : Option Nat) (v2 : Int32) (v3 : Int32) (v4 : Int32) (v5 : Option Nat) (v6 : Int32) (v7 : Int32), nk_Sim G l RX7 cX7_spread 8 (some FieldType.int) 3 65 false nk_eI 54 [(0, .inr (some t0)), (1, .inr v1), (2, .inl v2), (3, .inl v3), (4, .inl v4), (5, .inr v5), (6, .inl v6), (7, .inl v7)] [] h (r54 h t0 v1 v2 v3 v4 v5 v6 v7)) (h : nk_H) (t0 : Nat) (v1 : Option Nat) (v2 : Int32) (v3 : Int32) (v4 : Int32) (v5 : Option Nat) (v6 : Int32) (v7 : Int32)  : nk_Sim G l RX7 cX7_spread 8 (some FieldType.int) 3 65 false nk_eI 79 [(0, .inr (some t0)), (1, .inr v1), (2, .inl v2), (3, .inl v3), (4, .inl v4), (5, .inr v5), (6, .inl v6), (7, .inl v7)] [] h (f_X7_spread_c79  r5 r54 h t0 v1 v2 v3 v4 v5 v6 v7 ) := by
  unfold f_X7_spread_c79
  refine nr_iinc (lv2 := [(7, .inl (v7 + 1)), (0, .inr (some t0)), (1, .inr v1), (2, .inl v2), (3, .inl v3), (4, .inl v4), (5, .inr v5), (6, .inl v6)]) 7 (v7 + 1) dX7_spread_79 rfl (by rfl) (by decide) rfl ?_
  refine nr_goto (tgt := 54) dX7_spread_82 (by decide) ?_
  exact nk_locals [1, 2, 3, 4, 5, 6, 7, 0] rfl (hr54 h t0 v1 v2 v3 v4 v5 v6 (v7 + 1))
set_option maxHeartbeats 4000000 in
theorem s_X7_spread_c54 {G : nk_G} {l : Launch} (hl0 : l.flags = flags0) {r5 : nk_H → Nat → Option Nat → Int32 → Int32 → Int32 → Option (nk_H × Int32)} {r54 : nk_H → Nat → Option Nat → Int32 → Int32 → Int32 → Option Nat → Int32 → Int32 → Option (nk_H × Int32)} (hr5 : ∀ (h : nk_H) (t0 : Nat) (v1 : Option Nat) (v2 : Int32) (v3 : Int32) (v4 : Int32), nk_Sim G l RX7 cX7_spread 8 (some FieldType.int) 3 65 false nk_eI 5 [(0, .inr (some t0)), (1, .inr v1), (2, .inl v2), (3, .inl v3), (4, .inl v4)] [] h (r5 h t0 v1 v2 v3 v4)) (hr54 : ∀ (h : nk_H) (t0 : Nat) (v1 : Option Nat) (v2 : Int32) (v3 : Int32) (v4 : Int32) (v5 : Option Nat) (v6 : Int32) (v7 : Int32), nk_Sim G l RX7 cX7_spread 8 (some FieldType.int) 3 65 false nk_eI 54 [(0, .inr (some t0)), (1, .inr v1), (2, .inl v2), (3, .inl v3), (4, .inl v4), (5, .inr v5), (6, .inl v6), (7, .inl v7)] [] h (r54 h t0 v1 v2 v3 v4 v5 v6 v7)) (h : nk_H) (t0 : Nat) (v1 : Option Nat) (v2 : Int32) (v3 : Int32) (v4 : Int32) (v5 : Option Nat) (v6 : Int32) (v7 : Int32)  : nk_Sim G l RX7 cX7_spread 8 (some FieldType.int) 3 65 false nk_eI 54 [(0, .inr (some t0)), (1, .inr v1), (2, .inl v2), (3, .inl v3), (4, .inl v4), (5, .inr v5), (6, .inl v6), (7, .inl v7)] [] h (f_X7_spread_c54  r5 r54 h t0 v1 v2 v3 v4 v5 v6 v7 ) := by
  unfold f_X7_spread_c54
  refine nr_iload 7 dX7_spread_54 rfl ?_
  refine nr_bipush (v := 6) dX7_spread_56 (by decide) ?_
  refine nr_icmp_ge (tgt := 85) dX7_spread_58 (by decide) (fun _ => ?_) (fun _ => ?_)
  · refine nr_iload_n 3 dX7_spread_85 rfl ?_
    refine nr_iload 6 dX7_spread_86 rfl ?_
    refine nr_doI (st := [.inl v3]) (nk_callS (c_J6_bitCount_0f7a4 (G := G) hl0 h v6) dX7_spread_88 my_J6_bitCount_0f7a4 st_J6_bitCount_0f7a4 ml_RX7_70 rfl rfl (Nat.le_of_ble_eq_true rfl) (by decide) (by decide)) (fun h1 x2 => ?_)
    refine nr_iadd dX7_spread_91 ?_
    refine nr_istore_n (lv2 := [(3, .inl (v3 + x2)), (0, .inr (some t0)), (1, .inr v1), (2, .inl v2), (4, .inl v4), (5, .inr v5), (6, .inl v6), (7, .inl v7)]) dX7_spread_92 (by decide) rfl ?_
    refine nr_iinc (lv2 := [(4, .inl (v4 + 1)), (3, .inl (v3 + x2)), (0, .inr (some t0)), (1, .inr v1), (2, .inl v2), (5, .inr v5), (6, .inl v6), (7, .inl v7)]) 4 (v4 + 1) dX7_spread_93 rfl (by rfl) (by decide) rfl ?_
    refine nr_goto (tgt := 5) dX7_spread_96 (by decide) ?_
    exact nk_locals [2, 3, 4, 1, 0] rfl (hr5 h1 t0 v1 v2 (v3 + x2) (v4 + 1))
  · refine nr_iload 6 dX7_spread_61 rfl ?_
    refine nr_iload 7 dX7_spread_63 rfl ?_
    refine nr_doI (st := []) (nk_callSN (c_X11_hasBit (G := G) hl0 h v6 v7) dX7_spread_65 my_X11_hasBit st_X11_hasBit nl_RX7_66 rfl rfl (Nat.le_of_ble_eq_true rfl) (by decide) (by decide)) (fun h3 x4 => ?_)
    refine nr_if_eq (tgt := 79) dX7_spread_68 (by decide) (fun _ => ?_) (fun _ => ?_)
    · exact s_X7_spread_c79 hl0 hr5 hr54 h3 t0 v1 v2 v3 v4 v5 v6 v7
    · refine nr_aload 5 dX7_spread_71 rfl ?_
      refine nr_iload 7 dX7_spread_73 rfl ?_
      refine nr_iload_n 2 dX7_spread_75 rfl ?_
      refine nr_rcv (ks := [8, 12, 16, 17]) (pre := [.inl v2, .inl v7]) (fun a5 hm => ?_)
      refine nr_doV (st := []) ?_ (fun h6 x7 => ?_)
      · simp only [List.mem_cons, List.not_mem_nil, or_false] at hm
        rcases hm with hm | hm | hm | hm
        · exact nk_callU (x := yX8_comeTo) (owner := "NotaryKiosk$Piece") (q := (RX0, TX0, 11)) (ci := 1) (c_X8_comeTo (G := G) hl0 h3 a5 v7 v2) dX7_spread_76 hm rfl my_X8_comeTo im_X8_comeTo se_RX0_X8_comeTo ml_RX7_42 sm_X8_comeTo (by decide +kernel) im_X8_comeTo co_X8_comeTo rfl rfl (Nat.le_of_ble_eq_true rfl) (by decide) (by decide)
        · exact nk_callU (x := yX8_comeTo) (owner := "NotaryKiosk$Piece") (q := (RX4, TX4, 9)) (ci := 5) (c_X8_comeTo (G := G) hl0 h3 a5 v7 v2) dX7_spread_76 hm rfl my_X8_comeTo im_X8_comeTo se_RX4_X8_comeTo ml_RX7_42 sm_X8_comeTo (by decide +kernel) im_X8_comeTo co_X8_comeTo rfl rfl (Nat.le_of_ble_eq_true rfl) (by decide) (by decide)
        · exact nk_callU (x := yX8_comeTo) (owner := "NotaryKiosk$Piece") (q := (RX9, TX9, 15)) (ci := 9) (c_X8_comeTo (G := G) hl0 h3 a5 v7 v2) dX7_spread_76 hm rfl my_X8_comeTo im_X8_comeTo se_RX9_X8_comeTo ml_RX7_42 sm_X8_comeTo (by decide +kernel) im_X8_comeTo co_X8_comeTo rfl rfl (Nat.le_of_ble_eq_true rfl) (by decide) (by decide)
        · exact nk_callU (x := yX8_comeTo) (owner := "NotaryKiosk$Piece") (q := (RX10, TX10, 7)) (ci := 10) (c_X8_comeTo (G := G) hl0 h3 a5 v7 v2) dX7_spread_76 hm rfl my_X8_comeTo im_X8_comeTo se_RX10_X8_comeTo ml_RX7_42 sm_X8_comeTo (by decide +kernel) im_X8_comeTo co_X8_comeTo rfl rfl (Nat.le_of_ble_eq_true rfl) (by decide) (by decide)
      · exact s_X7_spread_c79 hl0 hr5 hr54 h6 t0 v1 v2 v3 v4 v5 v6 v7
theorem s_X7_spread_b54 {G : nk_G} {l : Launch} (hl0 : l.flags = flags0) {r5 : nk_H → Nat → Option Nat → Int32 → Int32 → Int32 → Option (nk_H × Int32)} (hr5 : ∀ (h : nk_H) (t0 : Nat) (v1 : Option Nat) (v2 : Int32) (v3 : Int32) (v4 : Int32), nk_Sim G l RX7 cX7_spread 8 (some FieldType.int) 3 65 false nk_eI 5 [(0, .inr (some t0)), (1, .inr v1), (2, .inl v2), (3, .inl v3), (4, .inl v4)] [] h (r5 h t0 v1 v2 v3 v4)) : ∀ (n : Nat) (h : nk_H) (t0 : Nat) (v1 : Option Nat) (v2 : Int32) (v3 : Int32) (v4 : Int32) (v5 : Option Nat) (v6 : Int32) (v7 : Int32), nk_Sim G l RX7 cX7_spread 8 (some FieldType.int) 3 65 false nk_eI 54 [(0, .inr (some t0)), (1, .inr v1), (2, .inl v2), (3, .inl v3), (4, .inl v4), (5, .inr v5), (6, .inl v6), (7, .inl v7)] [] h (f_X7_spread_b54  r5 n h t0 v1 v2 v3 v4 v5 v6 v7)
  | 0, _, _, _, _, _, _, _, _, _ => nk_none
  | n + 1, h, t0, v1, v2, v3, v4, v5, v6, v7 => s_X7_spread_c54 hl0 hr5 (s_X7_spread_b54 hl0 hr5 n) h t0 v1 v2 v3 v4 v5 v6 v7
set_option maxHeartbeats 4000000 in
theorem s_X7_spread_c5 {G : nk_G} {l : Launch} (hl0 : l.flags = flags0) {r5 : nk_H → Nat → Option Nat → Int32 → Int32 → Int32 → Option (nk_H × Int32)} (hr5 : ∀ (h : nk_H) (t0 : Nat) (v1 : Option Nat) (v2 : Int32) (v3 : Int32) (v4 : Int32), nk_Sim G l RX7 cX7_spread 8 (some FieldType.int) 3 65 false nk_eI 5 [(0, .inr (some t0)), (1, .inr v1), (2, .inl v2), (3, .inl v3), (4, .inl v4)] [] h (r5 h t0 v1 v2 v3 v4)) (h : nk_H) (t0 : Nat) (v1 : Option Nat) (v2 : Int32) (v3 : Int32) (v4 : Int32)  : nk_Sim G l RX7 cX7_spread 8 (some FieldType.int) 3 65 false nk_eI 5 [(0, .inr (some t0)), (1, .inr v1), (2, .inl v2), (3, .inl v3), (4, .inl v4)] [] h (f_X7_spread_c5  r5 h t0 v1 v2 v3 v4 ) := by
  unfold f_X7_spread_c5
  refine nr_iload 4 dX7_spread_5 rfl ?_
  refine nr_aload_n 0 dX7_spread_7 rfl ?_
  refine nr_getP [15] 0 dX7_spread_8 fk_RX7_12 (fun x8 => ?_)
  refine nr_rcv (ks := [7]) (pre := []) (fun a9 hm => ?_)
  refine nr_doI (st := [.inl v4]) (nk_callV (q := (RJx4a65c, TJx4a65c, 3)) (ci := 0) (c_Jx4a65c_size_8abf5 (G := G) hl0 h a9) dX7_spread_11 (List.mem_singleton.mp hm) rfl rfl my_Jx4a65c_size_8abf5 im_Jx4a65c_size_8abf5 se_RJx4a65c_Jx4a65c_size_8abf5 ml_RX7_22 rfl rfl (Nat.le_of_ble_eq_true rfl) (by decide) (by decide)) (fun h10 x11 => ?_)
  refine nr_icmp_ge (tgt := 99) dX7_spread_14 (by decide) (fun _ => ?_) (fun _ => ?_)
  · refine nr_iload_n 3 dX7_spread_99 rfl ?_
    exact nr_iret rfl rfl dX7_spread_100
  · refine nr_aload_n 0 dX7_spread_17 rfl ?_
    refine nr_getP [15] 0 dX7_spread_18 fk_RX7_12 (fun x12 => ?_)
    refine nr_iload 4 dX7_spread_21 rfl ?_
    refine nr_rcv (ks := [7]) (pre := [.inl v4]) (fun a13 hm => ?_)
    refine nr_doR (st := []) (nk_callV (q := (RJx4a65c, TJx4a65c, 3)) (ci := 0) (c_Jx4a65c_get_915e3 (G := G) hl0 h10 a13 v4) dX7_spread_23 (List.mem_singleton.mp hm) rfl rfl my_Jx4a65c_get_915e3 im_Jx4a65c_get_915e3 se_RJx4a65c_Jx4a65c_get_915e3 ml_RX7_26 rfl rfl (Nat.le_of_ble_eq_true rfl) (by decide) (by decide)) (fun h14 x15 => ?_)
    refine nr_cast dX7_spread_26 cl_RX7_30 ca_Piece ?_
    refine nr_astore (lv2 := [(5, .inr x15), (0, .inr (some t0)), (1, .inr v1), (2, .inl v2), (3, .inl v3), (4, .inl v4)]) dX7_spread_29 (by decide) rfl ?_
    refine nr_aload_n 2 dX7_spread_31 rfl ?_
    refine nr_aload 0 dX7_spread_32 rfl ?_
    refine nr_getI [8, 12, 16, 17] 3 dX7_spread_34 fk_RX7_57 (fun x17 => ?_)
    refine nr_iload_n 3 dX7_spread_37 rfl ?_
    refine nr_rcv (ks := [14]) (pre := [.inl v2, .inl x17]) (fun a18 hm => ?_)
    refine nr_doI (st := []) (nk_callV (q := (RX6, TX6, 2)) (ci := 7) (c_X6_reach (G := G) hl0 h14 a18 x17 v2) dX7_spread_38 (List.mem_singleton.mp hm) rfl rfl my_X6_reach im_X6_reach se_RX6_X6_reach ml_RX7_60 rfl rfl (Nat.le_of_ble_eq_true rfl) (by decide) (by decide)) (fun h19 x20 => ?_)
    refine nr_aload 0 dX7_spread_41 rfl ?_
    refine nr_getI [8, 12, 16, 17] 3 dX7_spread_43 fk_RX7_57 (fun x21 => ?_)
    refine nr_iconst (v := (-1)) dX7_spread_46 (by decide) ?_
    refine nr_ixor dX7_spread_47 ?_
    refine nr_iand dX7_spread_48 ?_
    refine nr_istore (lv2 := [(6, .inl (x20 &&& (x21 ^^^ (-1)))), (5, .inr x15), (0, .inr (some t0)), (1, .inr v1), (2, .inl v2), (3, .inl v3), (4, .inl v4)]) dX7_spread_49 (by decide) rfl ?_
    refine nr_iconst (v := 0) dX7_spread_51 (by decide) ?_
    refine nr_istore (lv2 := [(7, .inl 0), (6, .inl (x20 &&& (x21 ^^^ (-1)))), (5, .inr x15), (0, .inr (some t0)), (1, .inr v1), (2, .inl v2), (3, .inl v3), (4, .inl v4)]) dX7_spread_52 (by decide) rfl ?_
    exact nk_locals [3, 4, 5, 6, 7, 2, 1, 0] rfl (s_X7_spread_b54 hl0 hr5 4096 h19 t0 v1 v2 v3 v4 x15 (x20 &&& (x21 ^^^ (-1))) 0)
theorem s_X7_spread_b5 {G : nk_G} {l : Launch} (hl0 : l.flags = flags0)   : ∀ (n : Nat) (h : nk_H) (t0 : Nat) (v1 : Option Nat) (v2 : Int32) (v3 : Int32) (v4 : Int32), nk_Sim G l RX7 cX7_spread 8 (some FieldType.int) 3 65 false nk_eI 5 [(0, .inr (some t0)), (1, .inr v1), (2, .inl v2), (3, .inl v3), (4, .inl v4)] [] h (f_X7_spread_b5   n h t0 v1 v2 v3 v4)
  | 0, _, _, _, _, _, _ => nk_none
  | n + 1, h, t0, v1, v2, v3, v4 => s_X7_spread_c5 hl0 (s_X7_spread_b5 hl0  n) h t0 v1 v2 v3 v4
set_option maxHeartbeats 4000000 in
theorem s_X7_spread {G : nk_G} {l : Launch} (hl0 : l.flags = flags0) (h : nk_H) (t0 : Nat) (v1 : Option Nat) (v2 : Int32) : nk_Sim G l RX7 cX7_spread 8 (some FieldType.int) 3 65 false nk_eI 0 [(0, .inr (some t0)), (1, .inr v1), (2, .inl v2)] [] h (f_X7_spread  h t0 v1 v2) := by
  unfold f_X7_spread
  refine nr_iconst (v := 0) dX7_spread_0 (by decide) ?_
  refine nr_istore_n (lv2 := [(3, .inl 0), (0, .inr (some t0)), (1, .inr v1), (2, .inl v2)]) dX7_spread_1 (by decide) rfl ?_
  refine nr_iconst (v := 0) dX7_spread_2 (by decide) ?_
  refine nr_istore (lv2 := [(4, .inl 0), (3, .inl 0), (0, .inr (some t0)), (1, .inr v1), (2, .inl v2)]) dX7_spread_3 (by decide) rfl ?_
  exact nk_locals [2, 3, 4, 1, 0] rfl (s_X7_spread_b5 hl0  4096 h t0 v1 v2 0 0)
theorem c_X7_spread {G : nk_G} {l : Launch} (hl0 : l.flags = flags0) (h : nk_H) (t0 : Nat) (v1 : Option Nat) (v2 : Int32) : nk_Con G l yX7_spread cX7_spread 8 (some FieldType.int) 3 65 nk_eI [.inr (some t0), .inr v1, .inl v2] h (f_X7_spread h t0 v1 v2) :=
  nk_con (ini := false) (by decide) hl0 (Nat.le_of_ble_eq_true rfl) (by decide) (s_X7_spread hl0 h t0 v1 v2)
set_option maxHeartbeats 4000000 in
theorem s_X8_isInMail {G : nk_G} {l : Launch} (hl0 : l.flags = flags0) (h : nk_H) (t0 : Nat) (v1 : Int32) : nk_Sim G l RX8 cX8_isInMail 2 (some FieldType.boolean) 2 41 false nk_eI 0 [(0, .inr (some t0)), (1, .inl v1)] [] h (f_X8_isInMail  h t0 v1) := by
  unfold f_X8_isInMail
  refine nr_aload_n 0 dX8_isInMail_0 rfl ?_
  refine nr_getI [8, 12, 16, 17] 3 dX8_isInMail_1 fk_RX8_21 (fun x1 => ?_)
  refine nr_aload_n 0 dX8_isInMail_4 rfl ?_
  refine nr_getI [8, 12, 16, 17] 4 dX8_isInMail_5 fk_RX8_29 (fun x2 => ?_)
  refine nr_iconst (v := (-1)) dX8_isInMail_8 (by decide) ?_
  refine nr_ixor dX8_isInMail_9 ?_
  refine nr_iand dX8_isInMail_10 ?_
  refine nr_iload_n 1 dX8_isInMail_11 rfl ?_
  refine nr_doI (st := []) (nk_callSN (c_X11_hasBit (G := G) hl0 h (x1 &&& (x2 ^^^ (-1))) v1) dX8_isInMail_12 my_X11_hasBit st_X11_hasBit nl_RX8_32 rfl rfl (Nat.le_of_ble_eq_true rfl) (by decide) (by decide)) (fun h3 x4 => ?_)
  exact nr_zret rfl rfl dX8_isInMail_15
theorem c_X8_isInMail {G : nk_G} {l : Launch} (hl0 : l.flags = flags0) (h : nk_H) (t0 : Nat) (v1 : Int32) : nk_Con G l yX8_isInMail cX8_isInMail 2 (some FieldType.boolean) 2 41 nk_eI [.inr (some t0), .inl v1] h (f_X8_isInMail h t0 v1) :=
  nk_con (ini := false) (by decide) hl0 (Nat.le_of_ble_eq_true rfl) (by decide) (s_X8_isInMail hl0 h t0 v1)
set_option maxHeartbeats 4000000 in
theorem s_X7_unread_c36 {G : nk_G} {l : Launch} (hl0 : l.flags = flags0) {r4 : nk_H → Nat → Int32 → Int32 → Int32 → Option (nk_H × Int32)} (hr4 : ∀ (h : nk_H) (t0 : Nat) (v1 : Int32) (v2 : Int32) (v3 : Int32), nk_Sim G l RX7 cX7_unread 4 (some FieldType.int) 3 64 false nk_eI 4 [(0, .inr (some t0)), (1, .inl v1), (2, .inl v2), (3, .inl v3)] [] h (r4 h t0 v1 v2 v3)) (h : nk_H) (t0 : Nat) (v1 : Int32) (v2 : Int32) (v3 : Int32)  : nk_Sim G l RX7 cX7_unread 4 (some FieldType.int) 3 64 false nk_eI 36 [(0, .inr (some t0)), (1, .inl v1), (2, .inl v2), (3, .inl v3)] [] h (f_X7_unread_c36  r4 h t0 v1 v2 v3 ) := by
  unfold f_X7_unread_c36
  refine nr_iinc (lv2 := [(3, .inl (v3 + 1)), (0, .inr (some t0)), (1, .inl v1), (2, .inl v2)]) 3 (v3 + 1) dX7_unread_36 rfl (by rfl) (by decide) rfl ?_
  refine nr_goto (tgt := 4) dX7_unread_39 (by decide) ?_
  exact nk_locals [1, 2, 3, 0] rfl (hr4 h t0 v1 v2 (v3 + 1))
set_option maxHeartbeats 4000000 in
theorem s_X7_unread_c4 {G : nk_G} {l : Launch} (hl0 : l.flags = flags0) {r4 : nk_H → Nat → Int32 → Int32 → Int32 → Option (nk_H × Int32)} (hr4 : ∀ (h : nk_H) (t0 : Nat) (v1 : Int32) (v2 : Int32) (v3 : Int32), nk_Sim G l RX7 cX7_unread 4 (some FieldType.int) 3 64 false nk_eI 4 [(0, .inr (some t0)), (1, .inl v1), (2, .inl v2), (3, .inl v3)] [] h (r4 h t0 v1 v2 v3)) (h : nk_H) (t0 : Nat) (v1 : Int32) (v2 : Int32) (v3 : Int32)  : nk_Sim G l RX7 cX7_unread 4 (some FieldType.int) 3 64 false nk_eI 4 [(0, .inr (some t0)), (1, .inl v1), (2, .inl v2), (3, .inl v3)] [] h (f_X7_unread_c4  r4 h t0 v1 v2 v3 ) := by
  unfold f_X7_unread_c4
  refine nr_iload_n 3 dX7_unread_4 rfl ?_
  refine nr_aload_n 0 dX7_unread_5 rfl ?_
  refine nr_getP [15] 0 dX7_unread_6 fk_RX7_12 (fun x1 => ?_)
  refine nr_rcv (ks := [7]) (pre := []) (fun a2 hm => ?_)
  refine nr_doI (st := [.inl v3]) (nk_callV (q := (RJx4a65c, TJx4a65c, 3)) (ci := 0) (c_Jx4a65c_size_8abf5 (G := G) hl0 h a2) dX7_unread_9 (List.mem_singleton.mp hm) rfl rfl my_Jx4a65c_size_8abf5 im_Jx4a65c_size_8abf5 se_RJx4a65c_Jx4a65c_size_8abf5 ml_RX7_22 rfl rfl (Nat.le_of_ble_eq_true rfl) (by decide) (by decide)) (fun h3 x4 => ?_)
  refine nr_icmp_ge (tgt := 42) dX7_unread_12 (by decide) (fun _ => ?_) (fun _ => ?_)
  · refine nr_iload_n 2 dX7_unread_42 rfl ?_
    exact nr_iret rfl rfl dX7_unread_43
  · refine nr_aload_n 0 dX7_unread_15 rfl ?_
    refine nr_getP [15] 0 dX7_unread_16 fk_RX7_12 (fun x5 => ?_)
    refine nr_iload_n 3 dX7_unread_19 rfl ?_
    refine nr_rcv (ks := [7]) (pre := [.inl v3]) (fun a6 hm => ?_)
    refine nr_doR (st := []) (nk_callV (q := (RJx4a65c, TJx4a65c, 3)) (ci := 0) (c_Jx4a65c_get_915e3 (G := G) hl0 h3 a6 v3) dX7_unread_20 (List.mem_singleton.mp hm) rfl rfl my_Jx4a65c_get_915e3 im_Jx4a65c_get_915e3 se_RJx4a65c_Jx4a65c_get_915e3 ml_RX7_26 rfl rfl (Nat.le_of_ble_eq_true rfl) (by decide) (by decide)) (fun h7 x8 => ?_)
    refine nr_cast dX7_unread_23 cl_RX7_30 ca_Piece ?_
    refine nr_iload_n 1 dX7_unread_26 rfl ?_
    refine nr_rcv (ks := [8, 12, 16, 17]) (pre := [.inl v1]) (fun a10 hm => ?_)
    refine nr_doI (st := []) ?_ (fun h11 x12 => ?_)
    · simp only [List.mem_cons, List.not_mem_nil, or_false] at hm
      rcases hm with hm | hm | hm | hm
      · exact nk_callU (x := yX8_isInMail) (owner := "NotaryKiosk$Piece") (q := (RX0, TX0, 11)) (ci := 1) (c_X8_isInMail (G := G) hl0 h7 a10 v1) dX7_unread_27 hm rfl my_X8_isInMail im_X8_isInMail se_RX0_X8_isInMail ml_RX7_75 sm_X8_isInMail (by decide +kernel) im_X8_isInMail co_X8_isInMail rfl rfl (Nat.le_of_ble_eq_true rfl) (by decide) (by decide)
      · exact nk_callU (x := yX8_isInMail) (owner := "NotaryKiosk$Piece") (q := (RX4, TX4, 9)) (ci := 5) (c_X8_isInMail (G := G) hl0 h7 a10 v1) dX7_unread_27 hm rfl my_X8_isInMail im_X8_isInMail se_RX4_X8_isInMail ml_RX7_75 sm_X8_isInMail (by decide +kernel) im_X8_isInMail co_X8_isInMail rfl rfl (Nat.le_of_ble_eq_true rfl) (by decide) (by decide)
      · exact nk_callU (x := yX8_isInMail) (owner := "NotaryKiosk$Piece") (q := (RX9, TX9, 15)) (ci := 9) (c_X8_isInMail (G := G) hl0 h7 a10 v1) dX7_unread_27 hm rfl my_X8_isInMail im_X8_isInMail se_RX9_X8_isInMail ml_RX7_75 sm_X8_isInMail (by decide +kernel) im_X8_isInMail co_X8_isInMail rfl rfl (Nat.le_of_ble_eq_true rfl) (by decide) (by decide)
      · exact nk_callU (x := yX8_isInMail) (owner := "NotaryKiosk$Piece") (q := (RX10, TX10, 7)) (ci := 10) (c_X8_isInMail (G := G) hl0 h7 a10 v1) dX7_unread_27 hm rfl my_X8_isInMail im_X8_isInMail se_RX10_X8_isInMail ml_RX7_75 sm_X8_isInMail (by decide +kernel) im_X8_isInMail co_X8_isInMail rfl rfl (Nat.le_of_ble_eq_true rfl) (by decide) (by decide)
    · refine nr_if_eq (tgt := 36) dX7_unread_30 (by decide) (fun _ => ?_) (fun _ => ?_)
      · exact s_X7_unread_c36 hl0 hr4 h11 t0 v1 v2 v3
      · refine nr_iinc (lv2 := [(2, .inl (v2 + 1)), (0, .inr (some t0)), (1, .inl v1), (3, .inl v3)]) 2 (v2 + 1) dX7_unread_33 rfl (by rfl) (by decide) rfl ?_
        exact nk_locals [1, 2, 0, 3] rfl (s_X7_unread_c36 hl0 hr4 h11 t0 v1 (v2 + 1) v3)
theorem s_X7_unread_b4 {G : nk_G} {l : Launch} (hl0 : l.flags = flags0)   : ∀ (n : Nat) (h : nk_H) (t0 : Nat) (v1 : Int32) (v2 : Int32) (v3 : Int32), nk_Sim G l RX7 cX7_unread 4 (some FieldType.int) 3 64 false nk_eI 4 [(0, .inr (some t0)), (1, .inl v1), (2, .inl v2), (3, .inl v3)] [] h (f_X7_unread_b4   n h t0 v1 v2 v3)
  | 0, _, _, _, _, _ => nk_none
  | n + 1, h, t0, v1, v2, v3 => s_X7_unread_c4 hl0 (s_X7_unread_b4 hl0  n) h t0 v1 v2 v3
set_option maxHeartbeats 4000000 in
theorem s_X7_unread {G : nk_G} {l : Launch} (hl0 : l.flags = flags0) (h : nk_H) (t0 : Nat) (v1 : Int32) : nk_Sim G l RX7 cX7_unread 4 (some FieldType.int) 3 64 false nk_eI 0 [(0, .inr (some t0)), (1, .inl v1)] [] h (f_X7_unread  h t0 v1) := by
  unfold f_X7_unread
  refine nr_iconst (v := 0) dX7_unread_0 (by decide) ?_
  refine nr_istore_n (lv2 := [(2, .inl 0), (0, .inr (some t0)), (1, .inl v1)]) dX7_unread_1 (by decide) rfl ?_
  refine nr_iconst (v := 0) dX7_unread_2 (by decide) ?_
  refine nr_istore_n (lv2 := [(3, .inl 0), (2, .inl 0), (0, .inr (some t0)), (1, .inl v1)]) dX7_unread_3 (by decide) rfl ?_
  exact nk_locals [2, 3, 1, 0] rfl (s_X7_unread_b4 hl0  4096 h t0 v1 0 0)
theorem c_X7_unread {G : nk_G} {l : Launch} (hl0 : l.flags = flags0) (h : nk_H) (t0 : Nat) (v1 : Int32) : nk_Con G l yX7_unread cX7_unread 4 (some FieldType.int) 3 64 nk_eI [.inr (some t0), .inl v1] h (f_X7_unread h t0 v1) :=
  nk_con (ini := false) (by decide) hl0 (Nat.le_of_ble_eq_true rfl) (by decide) (s_X7_unread hl0 h t0 v1)
set_option maxHeartbeats 4000000 in
theorem s_X7_readMail_c55 {G : nk_G} {l : Launch} (hl0 : l.flags = flags0) {r8 : nk_H → Nat → Int32 → Int32 → Int32 → Option (nk_H × Int32)} (hr8 : ∀ (h : nk_H) (t0 : Nat) (v1 : Int32) (v2 : Int32) (v3 : Int32), nk_Sim G l RX7 cX7_readMail 5 (some FieldType.int) 4 87 false nk_eI 8 [(0, .inr (some t0)), (1, .inl v1), (2, .inl v2), (3, .inl v3)] [] h (r8 h t0 v1 v2 v3)) (h : nk_H) (t0 : Nat) (v1 : Int32) (v2 : Int32) (v3 : Int32)  : nk_Sim G l RX7 cX7_readMail 5 (some FieldType.int) 4 87 false nk_eI 55 [(0, .inr (some t0)), (1, .inl v1), (2, .inl v2), (3, .inl v3)] [] h (f_X7_readMail_c55  r8 h t0 v1 v2 v3 ) := by
  unfold f_X7_readMail_c55
  refine nr_iinc (lv2 := [(3, .inl (v3 + 1)), (0, .inr (some t0)), (1, .inl v1), (2, .inl v2)]) 3 (v3 + 1) dX7_readMail_55 rfl (by rfl) (by decide) rfl ?_
  refine nr_goto (tgt := 8) dX7_readMail_58 (by decide) ?_
  exact nk_locals [1, 2, 3, 0] rfl (hr8 h t0 v1 v2 (v3 + 1))
set_option maxHeartbeats 4000000 in
theorem s_X7_readMail_c8 {G : nk_G} {l : Launch} (hl0 : l.flags = flags0) {r8 : nk_H → Nat → Int32 → Int32 → Int32 → Option (nk_H × Int32)} (hr8 : ∀ (h : nk_H) (t0 : Nat) (v1 : Int32) (v2 : Int32) (v3 : Int32), nk_Sim G l RX7 cX7_readMail 5 (some FieldType.int) 4 87 false nk_eI 8 [(0, .inr (some t0)), (1, .inl v1), (2, .inl v2), (3, .inl v3)] [] h (r8 h t0 v1 v2 v3)) (h : nk_H) (t0 : Nat) (v1 : Int32) (v2 : Int32) (v3 : Int32)  : nk_Sim G l RX7 cX7_readMail 5 (some FieldType.int) 4 87 false nk_eI 8 [(0, .inr (some t0)), (1, .inl v1), (2, .inl v2), (3, .inl v3)] [] h (f_X7_readMail_c8  r8 h t0 v1 v2 v3 ) := by
  unfold f_X7_readMail_c8
  refine nr_iload_n 3 dX7_readMail_8 rfl ?_
  refine nr_aload_n 0 dX7_readMail_9 rfl ?_
  refine nr_getP [15] 0 dX7_readMail_10 fk_RX7_12 (fun x1 => ?_)
  refine nr_rcv (ks := [7]) (pre := []) (fun a2 hm => ?_)
  refine nr_doI (st := [.inl v3]) (nk_callV (q := (RJx4a65c, TJx4a65c, 3)) (ci := 0) (c_Jx4a65c_size_8abf5 (G := G) hl0 h a2) dX7_readMail_13 (List.mem_singleton.mp hm) rfl rfl my_Jx4a65c_size_8abf5 im_Jx4a65c_size_8abf5 se_RJx4a65c_Jx4a65c_size_8abf5 ml_RX7_22 rfl rfl (Nat.le_of_ble_eq_true rfl) (by decide) (by decide)) (fun h3 x4 => ?_)
  refine nr_icmp_ge (tgt := 61) dX7_readMail_16 (by decide) (fun _ => ?_) (fun _ => ?_)
  · refine nr_iload_n 2 dX7_readMail_61 rfl ?_
    exact nr_iret rfl rfl dX7_readMail_62
  · refine nr_aload_n 0 dX7_readMail_19 rfl ?_
    refine nr_getP [15] 0 dX7_readMail_20 fk_RX7_12 (fun x5 => ?_)
    refine nr_iload_n 3 dX7_readMail_23 rfl ?_
    refine nr_rcv (ks := [7]) (pre := [.inl v3]) (fun a6 hm => ?_)
    refine nr_doR (st := []) (nk_callV (q := (RJx4a65c, TJx4a65c, 3)) (ci := 0) (c_Jx4a65c_get_915e3 (G := G) hl0 h3 a6 v3) dX7_readMail_24 (List.mem_singleton.mp hm) rfl rfl my_Jx4a65c_get_915e3 im_Jx4a65c_get_915e3 se_RJx4a65c_Jx4a65c_get_915e3 ml_RX7_26 rfl rfl (Nat.le_of_ble_eq_true rfl) (by decide) (by decide)) (fun h7 x8 => ?_)
    refine nr_cast dX7_readMail_27 cl_RX7_30 ca_Piece ?_
    refine nr_astore (lv2 := [(4, .inr x8), (0, .inr (some t0)), (1, .inl v1), (2, .inl v2), (3, .inl v3)]) dX7_readMail_30 (by decide) rfl ?_
    refine nr_aload 0 dX7_readMail_32 rfl ?_
    refine nr_iload_n 2 dX7_readMail_34 rfl ?_
    refine nr_rcv (ks := [8, 12, 16, 17]) (pre := [.inl v1]) (fun a10 hm => ?_)
    refine nr_doI (st := []) ?_ (fun h11 x12 => ?_)
    · simp only [List.mem_cons, List.not_mem_nil, or_false] at hm
      rcases hm with hm | hm | hm | hm
      · exact nk_callU (x := yX8_isInMail) (owner := "NotaryKiosk$Piece") (q := (RX0, TX0, 11)) (ci := 1) (c_X8_isInMail (G := G) hl0 h7 a10 v1) dX7_readMail_35 hm rfl my_X8_isInMail im_X8_isInMail se_RX0_X8_isInMail ml_RX7_75 sm_X8_isInMail (by decide +kernel) im_X8_isInMail co_X8_isInMail rfl rfl (Nat.le_of_ble_eq_true rfl) (by decide) (by decide)
      · exact nk_callU (x := yX8_isInMail) (owner := "NotaryKiosk$Piece") (q := (RX4, TX4, 9)) (ci := 5) (c_X8_isInMail (G := G) hl0 h7 a10 v1) dX7_readMail_35 hm rfl my_X8_isInMail im_X8_isInMail se_RX4_X8_isInMail ml_RX7_75 sm_X8_isInMail (by decide +kernel) im_X8_isInMail co_X8_isInMail rfl rfl (Nat.le_of_ble_eq_true rfl) (by decide) (by decide)
      · exact nk_callU (x := yX8_isInMail) (owner := "NotaryKiosk$Piece") (q := (RX9, TX9, 15)) (ci := 9) (c_X8_isInMail (G := G) hl0 h7 a10 v1) dX7_readMail_35 hm rfl my_X8_isInMail im_X8_isInMail se_RX9_X8_isInMail ml_RX7_75 sm_X8_isInMail (by decide +kernel) im_X8_isInMail co_X8_isInMail rfl rfl (Nat.le_of_ble_eq_true rfl) (by decide) (by decide)
      · exact nk_callU (x := yX8_isInMail) (owner := "NotaryKiosk$Piece") (q := (RX10, TX10, 7)) (ci := 10) (c_X8_isInMail (G := G) hl0 h7 a10 v1) dX7_readMail_35 hm rfl my_X8_isInMail im_X8_isInMail se_RX10_X8_isInMail ml_RX7_75 sm_X8_isInMail (by decide +kernel) im_X8_isInMail co_X8_isInMail rfl rfl (Nat.le_of_ble_eq_true rfl) (by decide) (by decide)
    · refine nr_if_eq (tgt := 55) dX7_readMail_38 (by decide) (fun _ => ?_) (fun _ => ?_)
      · exact nk_locals [1, 2, 3, 4] rfl (s_X7_readMail_c55 hl0 hr8 h11 t0 v1 v2 v3)
      · refine nr_aload 0 dX7_readMail_41 rfl ?_
        refine nr_dup dX7_readMail_43 ?_
        refine nr_getI [8, 12, 16, 17] 4 dX7_readMail_44 fk_RX7_50 (fun x13 => ?_)
        refine nr_iload_n 2 dX7_readMail_47 rfl ?_
        refine nr_doI (st := [.inl x13, .inr x8]) (nk_callSN (c_X11_bit (G := G) hl0 h11 v1) dX7_readMail_48 my_X11_bit st_X11_bit nl_RX7_46 rfl rfl (Nat.le_of_ble_eq_true rfl) (by decide) (by decide)) (fun h14 x15 => ?_)
        refine nr_ior dX7_readMail_51 ?_
        refine nr_putI [8, 12, 16, 17] 4 dX7_readMail_52 fk_RX7_50 fw_RX7_50_n (fun h16 => ?_)
        exact nk_locals [1, 2, 3, 4] rfl (s_X7_readMail_c55 hl0 hr8 h16 t0 v1 v2 v3)
theorem s_X7_readMail_b8 {G : nk_G} {l : Launch} (hl0 : l.flags = flags0)   : ∀ (n : Nat) (h : nk_H) (t0 : Nat) (v1 : Int32) (v2 : Int32) (v3 : Int32), nk_Sim G l RX7 cX7_readMail 5 (some FieldType.int) 4 87 false nk_eI 8 [(0, .inr (some t0)), (1, .inl v1), (2, .inl v2), (3, .inl v3)] [] h (f_X7_readMail_b8   n h t0 v1 v2 v3)
  | 0, _, _, _, _, _ => nk_none
  | n + 1, h, t0, v1, v2, v3 => s_X7_readMail_c8 hl0 (s_X7_readMail_b8 hl0  n) h t0 v1 v2 v3
set_option maxHeartbeats 4000000 in
theorem s_X7_readMail {G : nk_G} {l : Launch} (hl0 : l.flags = flags0) (h : nk_H) (t0 : Nat) (v1 : Int32) : nk_Sim G l RX7 cX7_readMail 5 (some FieldType.int) 4 87 false nk_eI 0 [(0, .inr (some t0)), (1, .inl v1)] [] h (f_X7_readMail  h t0 v1) := by
  unfold f_X7_readMail
  refine nr_aload_n 0 dX7_readMail_0 rfl ?_
  refine nr_iload_n 1 dX7_readMail_1 rfl ?_
  refine nr_rcv (ks := [15]) (pre := [.inl v1]) (fun a17 hm => ?_)
  refine nr_doI (st := []) (nk_callV (q := (RX7, TX7, 2)) (ci := 8) (c_X7_unread (G := G) hl0 h a17 v1) dX7_readMail_2 (List.mem_singleton.mp hm) rfl rfl my_X7_unread im_X7_unread se_RX7_X7_unread ml_RX7_79 rfl rfl (Nat.le_of_ble_eq_true rfl) (by decide) (by decide)) (fun h18 x19 => ?_)
  refine nr_istore_n (lv2 := [(2, .inl x19), (0, .inr (some t0)), (1, .inl v1)]) dX7_readMail_5 (by decide) rfl ?_
  refine nr_iconst (v := 0) dX7_readMail_6 (by decide) ?_
  refine nr_istore_n (lv2 := [(3, .inl 0), (2, .inl x19), (0, .inr (some t0)), (1, .inl v1)]) dX7_readMail_7 (by decide) rfl ?_
  exact nk_locals [2, 3, 1, 0] rfl (s_X7_readMail_b8 hl0  4096 h18 t0 v1 x19 0)
theorem c_X7_readMail {G : nk_G} {l : Launch} (hl0 : l.flags = flags0) (h : nk_H) (t0 : Nat) (v1 : Int32) : nk_Con G l yX7_readMail cX7_readMail 5 (some FieldType.int) 4 87 nk_eI [.inr (some t0), .inl v1] h (f_X7_readMail h t0 v1) :=
  nk_con (ini := false) (by decide) hl0 (Nat.le_of_ble_eq_true rfl) (by decide) (s_X7_readMail hl0 h t0 v1)
set_option maxHeartbeats 4000000 in
theorem s_X7_lookAtRead_c52 {G : nk_G} {l : Launch} (hl0 : l.flags = flags0)   (h : nk_H)   : nk_Sim G l RX7 cX7_lookAtRead 3 (none : Option FieldType) 3 64 false nk_eV 52 [] [] h (f_X7_lookAtRead_c52   h  ) := by
  unfold f_X7_lookAtRead_c52
  exact nr_vret rfl rfl dX7_lookAtRead_52
set_option maxHeartbeats 4000000 in
theorem s_X7_lookAtRead_c2 {G : nk_G} {l : Launch} (hl0 : l.flags = flags0) {r2 : nk_H → Nat → Int32 → Int32 → Option (nk_H × Unit)} (hr2 : ∀ (h : nk_H) (t0 : Nat) (v1 : Int32) (v2 : Int32), nk_Sim G l RX7 cX7_lookAtRead 3 (none : Option FieldType) 3 64 false nk_eV 2 [(0, .inr (some t0)), (1, .inl v1), (2, .inl v2)] [] h (r2 h t0 v1 v2)) (h : nk_H) (t0 : Nat) (v1 : Int32) (v2 : Int32)  : nk_Sim G l RX7 cX7_lookAtRead 3 (none : Option FieldType) 3 64 false nk_eV 2 [(0, .inr (some t0)), (1, .inl v1), (2, .inl v2)] [] h (f_X7_lookAtRead_c2  r2 h t0 v1 v2 ) := by
  unfold f_X7_lookAtRead_c2
  refine nr_iload_n 2 dX7_lookAtRead_2 rfl ?_
  refine nr_aload_n 0 dX7_lookAtRead_3 rfl ?_
  refine nr_getP [15] 0 dX7_lookAtRead_4 fk_RX7_12 (fun x1 => ?_)
  refine nr_rcv (ks := [7]) (pre := []) (fun a2 hm => ?_)
  refine nr_doI (st := [.inl v2]) (nk_callV (q := (RJx4a65c, TJx4a65c, 3)) (ci := 0) (c_Jx4a65c_size_8abf5 (G := G) hl0 h a2) dX7_lookAtRead_7 (List.mem_singleton.mp hm) rfl rfl my_Jx4a65c_size_8abf5 im_Jx4a65c_size_8abf5 se_RJx4a65c_Jx4a65c_size_8abf5 ml_RX7_22 rfl rfl (Nat.le_of_ble_eq_true rfl) (by decide) (by decide)) (fun h3 x4 => ?_)
  refine nr_icmp_ge (tgt := 52) dX7_lookAtRead_10 (by decide) (fun _ => ?_) (fun _ => ?_)
  · exact nk_locals [] rfl (s_X7_lookAtRead_c52 hl0  h3)
  · refine nr_iload_n 2 dX7_lookAtRead_13 rfl ?_
    refine nr_aload_n 0 dX7_lookAtRead_14 rfl ?_
    refine nr_getP [15] 1 dX7_lookAtRead_15 fk_RX7_18 (fun x5 => ?_)
    refine nr_alen dX7_lookAtRead_18 (fun x6 => ?_)
    refine nr_icmp_ge (tgt := 52) dX7_lookAtRead_19 (by decide) (fun _ => ?_) (fun _ => ?_)
    · exact nk_locals [] rfl (s_X7_lookAtRead_c52 hl0  h3)
    · refine nr_aload_n 0 dX7_lookAtRead_22 rfl ?_
      refine nr_getP [15] 1 dX7_lookAtRead_23 fk_RX7_18 (fun x7 => ?_)
      refine nr_iload_n 2 dX7_lookAtRead_26 rfl ?_
      refine nr_aload_n 0 dX7_lookAtRead_27 rfl ?_
      refine nr_getP [15] 0 dX7_lookAtRead_28 fk_RX7_12 (fun x8 => ?_)
      refine nr_iload_n 2 dX7_lookAtRead_31 rfl ?_
      refine nr_rcv (ks := [7]) (pre := [.inl v2]) (fun a9 hm => ?_)
      refine nr_doR (st := [.inl v2, .inr x7]) (nk_callV (q := (RJx4a65c, TJx4a65c, 3)) (ci := 0) (c_Jx4a65c_get_915e3 (G := G) hl0 h3 a9 v2) dX7_lookAtRead_32 (List.mem_singleton.mp hm) rfl rfl my_Jx4a65c_get_915e3 im_Jx4a65c_get_915e3 se_RJx4a65c_Jx4a65c_get_915e3 ml_RX7_26 rfl rfl (Nat.le_of_ble_eq_true rfl) (by decide) (by decide)) (fun h10 x11 => ?_)
      refine nr_cast dX7_lookAtRead_35 cl_RX7_30 ca_Piece ?_
      refine nr_getI [8, 12, 16, 17] 4 dX7_lookAtRead_38 fk_RX7_50 (fun x13 => ?_)
      refine nr_iload_n 1 dX7_lookAtRead_41 rfl ?_
      refine nr_doI (st := [.inl v2, .inr x7]) (nk_callSN (c_X11_hasBit (G := G) hl0 h10 x13 v1) dX7_lookAtRead_42 my_X11_hasBit st_X11_hasBit nl_RX7_66 rfl rfl (Nat.le_of_ble_eq_true rfl) (by decide) (by decide)) (fun h14 x15 => ?_)
      refine nr_bastore dX7_lookAtRead_45 (fun h16 => ?_)
      refine nr_iinc (lv2 := [(2, .inl (v2 + 1)), (0, .inr (some t0)), (1, .inl v1)]) 2 (v2 + 1) dX7_lookAtRead_46 rfl (by rfl) (by decide) rfl ?_
      refine nr_goto (tgt := 2) dX7_lookAtRead_49 (by decide) ?_
      exact nk_locals [1, 2, 0] rfl (hr2 h16 t0 v1 (v2 + 1))
theorem s_X7_lookAtRead_b2 {G : nk_G} {l : Launch} (hl0 : l.flags = flags0)   : ∀ (n : Nat) (h : nk_H) (t0 : Nat) (v1 : Int32) (v2 : Int32), nk_Sim G l RX7 cX7_lookAtRead 3 (none : Option FieldType) 3 64 false nk_eV 2 [(0, .inr (some t0)), (1, .inl v1), (2, .inl v2)] [] h (f_X7_lookAtRead_b2   n h t0 v1 v2)
  | 0, _, _, _, _ => nk_none
  | n + 1, h, t0, v1, v2 => s_X7_lookAtRead_c2 hl0 (s_X7_lookAtRead_b2 hl0  n) h t0 v1 v2
set_option maxHeartbeats 4000000 in
theorem s_X7_lookAtRead {G : nk_G} {l : Launch} (hl0 : l.flags = flags0) (h : nk_H) (t0 : Nat) (v1 : Int32) : nk_Sim G l RX7 cX7_lookAtRead 3 (none : Option FieldType) 3 64 false nk_eV 0 [(0, .inr (some t0)), (1, .inl v1)] [] h (f_X7_lookAtRead  h t0 v1) := by
  unfold f_X7_lookAtRead
  refine nr_iconst (v := 0) dX7_lookAtRead_0 (by decide) ?_
  refine nr_istore_n (lv2 := [(2, .inl 0), (0, .inr (some t0)), (1, .inl v1)]) dX7_lookAtRead_1 (by decide) rfl ?_
  exact nk_locals [1, 2, 0] rfl (s_X7_lookAtRead_b2 hl0  4096 h t0 v1 0)
theorem c_X7_lookAtRead {G : nk_G} {l : Launch} (hl0 : l.flags = flags0) (h : nk_H) (t0 : Nat) (v1 : Int32) : nk_Con G l yX7_lookAtRead cX7_lookAtRead 3 (none : Option FieldType) 3 64 nk_eV [.inr (some t0), .inl v1] h (f_X7_lookAtRead h t0 v1) :=
  nk_con (ini := false) (by decide) hl0 (Nat.le_of_ble_eq_true rfl) (by decide) (s_X7_lookAtRead hl0 h t0 v1)
set_option maxHeartbeats 4000000 in
theorem s_X8_couldBeReadFor_c27 {G : nk_G} {l : Launch} (hl0 : l.flags = flags0)   (h : nk_H)  (s0 : Int32) : nk_Sim G l RX8 cX8_couldBeReadFor 2 (some FieldType.boolean) 2 41 false nk_eI 27 [] [.inl s0] h (f_X8_couldBeReadFor_c27   h  s0) := by
  unfold f_X8_couldBeReadFor_c27
  exact nr_zret rfl rfl dX8_couldBeReadFor_27
set_option maxHeartbeats 4000000 in
theorem s_X8_couldBeReadFor_c63 {G : nk_G} {l : Launch} (hl0 : l.flags = flags0)   (h : nk_H)  (s0 : Int32) : nk_Sim G l RX8 cX8_couldBeReadFor 2 (some FieldType.boolean) 2 41 false nk_eI 63 [] [.inl s0] h (f_X8_couldBeReadFor_c63   h  s0) := by
  unfold f_X8_couldBeReadFor_c63
  exact nr_zret rfl rfl dX8_couldBeReadFor_63
set_option maxHeartbeats 4000000 in
theorem s_X8_couldBeReadFor_c62 {G : nk_G} {l : Launch} (hl0 : l.flags = flags0)   (h : nk_H)   : nk_Sim G l RX8 cX8_couldBeReadFor 2 (some FieldType.boolean) 2 41 false nk_eI 62 [] [] h (f_X8_couldBeReadFor_c62   h  ) := by
  unfold f_X8_couldBeReadFor_c62
  refine nr_iconst (v := 0) dX8_couldBeReadFor_62 (by decide) ?_
  exact s_X8_couldBeReadFor_c63 hl0  h 0
set_option maxHeartbeats 4000000 in
theorem s_X8_couldBeReadFor {G : nk_G} {l : Launch} (hl0 : l.flags = flags0) (h : nk_H) (t0 : Nat) (v1 : Option Nat) : nk_Sim G l RX8 cX8_couldBeReadFor 2 (some FieldType.boolean) 2 41 false nk_eI 0 [(0, .inr (some t0)), (1, .inr v1)] [] h (f_X8_couldBeReadFor  h t0 v1) := by
  unfold f_X8_couldBeReadFor
  refine nr_aload_n 0 dX8_couldBeReadFor_0 rfl ?_
  refine nr_getI [8, 12, 16, 17] 1 dX8_couldBeReadFor_1 fk_RX8_36 (fun x1 => ?_)
  refine nr_aload_n 1 dX8_couldBeReadFor_4 rfl ?_
  refine nr_getI [8, 12, 16, 17] 1 dX8_couldBeReadFor_5 fk_RX8_36 (fun x2 => ?_)
  refine nr_icmp_ne (tgt := 28) dX8_couldBeReadFor_8 (by decide) (fun _ => ?_) (fun _ => ?_)
  · refine nr_aload_n 0 dX8_couldBeReadFor_11 rfl ?_
    refine nr_getI [8, 12, 16, 17] 0 dX8_couldBeReadFor_12 fk_RX8_39 (fun x3 => ?_)
    refine nr_aload_n 1 dX8_couldBeReadFor_15 rfl ?_
    refine nr_getI [8, 12, 16, 17] 0 dX8_couldBeReadFor_16 fk_RX8_39 (fun x4 => ?_)
    refine nr_icmp_ge (tgt := 26) dX8_couldBeReadFor_19 (by decide) (fun _ => ?_) (fun _ => ?_)
    · refine nr_iconst (v := 0) dX8_couldBeReadFor_26 (by decide) ?_
      exact nk_locals [] rfl (s_X8_couldBeReadFor_c27 hl0  h 0)
    · refine nr_iconst (v := 1) dX8_couldBeReadFor_22 (by decide) ?_
      refine nr_goto (tgt := 27) dX8_couldBeReadFor_23 (by decide) ?_
      exact nk_locals [] rfl (s_X8_couldBeReadFor_c27 hl0  h 1)
  · refine nr_aload_n 0 dX8_couldBeReadFor_28 rfl ?_
    refine nr_getI [8, 12, 16, 17] 3 dX8_couldBeReadFor_29 fk_RX8_21 (fun x5 => ?_)
    refine nr_aload_n 1 dX8_couldBeReadFor_32 rfl ?_
    refine nr_getI [8, 12, 16, 17] 1 dX8_couldBeReadFor_33 fk_RX8_36 (fun x6 => ?_)
    refine nr_doI (st := []) (nk_callSN (c_X11_hasBit (G := G) hl0 h x5 x6) dX8_couldBeReadFor_36 my_X11_hasBit st_X11_hasBit nl_RX8_32 rfl rfl (Nat.le_of_ble_eq_true rfl) (by decide) (by decide)) (fun h7 x8 => ?_)
    refine nr_if_eq (tgt := 62) dX8_couldBeReadFor_39 (by decide) (fun _ => ?_) (fun _ => ?_)
    · exact nk_locals [] rfl (s_X8_couldBeReadFor_c62 hl0  h7)
    · refine nr_aload_n 0 dX8_couldBeReadFor_42 rfl ?_
      refine nr_getP [8, 12, 16, 17] 5 dX8_couldBeReadFor_43 fk_RX8_9 (fun x9 => ?_)
      refine nr_aload_n 1 dX8_couldBeReadFor_46 rfl ?_
      refine nr_getI [8, 12, 16, 17] 1 dX8_couldBeReadFor_47 fk_RX8_36 (fun x10 => ?_)
      refine nr_iaload dX8_couldBeReadFor_50 (fun x11 => ?_)
      refine nr_aload_n 1 dX8_couldBeReadFor_51 rfl ?_
      refine nr_getI [8, 12, 16, 17] 2 dX8_couldBeReadFor_52 fk_RX8_42 (fun x12 => ?_)
      refine nr_icmp_gt (tgt := 62) dX8_couldBeReadFor_55 (by decide) (fun _ => ?_) (fun _ => ?_)
      · exact nk_locals [] rfl (s_X8_couldBeReadFor_c62 hl0  h7)
      · refine nr_iconst (v := 1) dX8_couldBeReadFor_58 (by decide) ?_
        refine nr_goto (tgt := 63) dX8_couldBeReadFor_59 (by decide) ?_
        exact nk_locals [] rfl (s_X8_couldBeReadFor_c63 hl0  h7 1)
theorem c_X8_couldBeReadFor {G : nk_G} {l : Launch} (hl0 : l.flags = flags0) (h : nk_H) (t0 : Nat) (v1 : Option Nat) : nk_Con G l yX8_couldBeReadFor cX8_couldBeReadFor 2 (some FieldType.boolean) 2 41 nk_eI [.inr (some t0), .inr v1] h (f_X8_couldBeReadFor h t0 v1) :=
  nk_con (ini := false) (by decide) hl0 (Nat.le_of_ble_eq_true rfl) (by decide) (s_X8_couldBeReadFor hl0 h t0 v1)
set_option maxHeartbeats 4000000 in
theorem s_X7_lookAtReadable_c49 {G : nk_G} {l : Launch} (hl0 : l.flags = flags0)   (h : nk_H)   : nk_Sim G l RX7 cX7_lookAtReadable 3 (none : Option FieldType) 3 64 false nk_eV 49 [] [] h (f_X7_lookAtReadable_c49   h  ) := by
  unfold f_X7_lookAtReadable_c49
  exact nr_vret rfl rfl dX7_lookAtReadable_49
set_option maxHeartbeats 4000000 in
theorem s_X7_lookAtReadable_c2 {G : nk_G} {l : Launch} (hl0 : l.flags = flags0) {r2 : nk_H → Nat → Option Nat → Int32 → Option (nk_H × Unit)} (hr2 : ∀ (h : nk_H) (t0 : Nat) (v1 : Option Nat) (v2 : Int32), nk_Sim G l RX7 cX7_lookAtReadable 3 (none : Option FieldType) 3 64 false nk_eV 2 [(0, .inr (some t0)), (1, .inr v1), (2, .inl v2)] [] h (r2 h t0 v1 v2)) (h : nk_H) (t0 : Nat) (v1 : Option Nat) (v2 : Int32)  : nk_Sim G l RX7 cX7_lookAtReadable 3 (none : Option FieldType) 3 64 false nk_eV 2 [(0, .inr (some t0)), (1, .inr v1), (2, .inl v2)] [] h (f_X7_lookAtReadable_c2  r2 h t0 v1 v2 ) := by
  unfold f_X7_lookAtReadable_c2
  refine nr_iload_n 2 dX7_lookAtReadable_2 rfl ?_
  refine nr_aload_n 0 dX7_lookAtReadable_3 rfl ?_
  refine nr_getP [15] 0 dX7_lookAtReadable_4 fk_RX7_12 (fun x1 => ?_)
  refine nr_rcv (ks := [7]) (pre := []) (fun a2 hm => ?_)
  refine nr_doI (st := [.inl v2]) (nk_callV (q := (RJx4a65c, TJx4a65c, 3)) (ci := 0) (c_Jx4a65c_size_8abf5 (G := G) hl0 h a2) dX7_lookAtReadable_7 (List.mem_singleton.mp hm) rfl rfl my_Jx4a65c_size_8abf5 im_Jx4a65c_size_8abf5 se_RJx4a65c_Jx4a65c_size_8abf5 ml_RX7_22 rfl rfl (Nat.le_of_ble_eq_true rfl) (by decide) (by decide)) (fun h3 x4 => ?_)
  refine nr_icmp_ge (tgt := 49) dX7_lookAtReadable_10 (by decide) (fun _ => ?_) (fun _ => ?_)
  · exact nk_locals [] rfl (s_X7_lookAtReadable_c49 hl0  h3)
  · refine nr_iload_n 2 dX7_lookAtReadable_13 rfl ?_
    refine nr_aload_n 0 dX7_lookAtReadable_14 rfl ?_
    refine nr_getP [15] 1 dX7_lookAtReadable_15 fk_RX7_18 (fun x5 => ?_)
    refine nr_alen dX7_lookAtReadable_18 (fun x6 => ?_)
    refine nr_icmp_ge (tgt := 49) dX7_lookAtReadable_19 (by decide) (fun _ => ?_) (fun _ => ?_)
    · exact nk_locals [] rfl (s_X7_lookAtReadable_c49 hl0  h3)
    · refine nr_aload_n 0 dX7_lookAtReadable_22 rfl ?_
      refine nr_getP [15] 1 dX7_lookAtReadable_23 fk_RX7_18 (fun x7 => ?_)
      refine nr_iload_n 2 dX7_lookAtReadable_26 rfl ?_
      refine nr_aload_n 0 dX7_lookAtReadable_27 rfl ?_
      refine nr_getP [15] 0 dX7_lookAtReadable_28 fk_RX7_12 (fun x8 => ?_)
      refine nr_iload_n 2 dX7_lookAtReadable_31 rfl ?_
      refine nr_rcv (ks := [7]) (pre := [.inl v2]) (fun a9 hm => ?_)
      refine nr_doR (st := [.inl v2, .inr x7]) (nk_callV (q := (RJx4a65c, TJx4a65c, 3)) (ci := 0) (c_Jx4a65c_get_915e3 (G := G) hl0 h3 a9 v2) dX7_lookAtReadable_32 (List.mem_singleton.mp hm) rfl rfl my_Jx4a65c_get_915e3 im_Jx4a65c_get_915e3 se_RJx4a65c_Jx4a65c_get_915e3 ml_RX7_26 rfl rfl (Nat.le_of_ble_eq_true rfl) (by decide) (by decide)) (fun h10 x11 => ?_)
      refine nr_cast dX7_lookAtReadable_35 cl_RX7_30 ca_Piece ?_
      refine nr_aload_n 1 dX7_lookAtReadable_38 rfl ?_
      refine nr_rcv (ks := [8, 12, 16, 17]) (pre := [.inr v1]) (fun a13 hm => ?_)
      refine nr_doI (st := [.inl v2, .inr x7]) ?_ (fun h14 x15 => ?_)
      · simp only [List.mem_cons, List.not_mem_nil, or_false] at hm
        rcases hm with hm | hm | hm | hm
        · exact nk_callU (x := yX8_couldBeReadFor) (owner := "NotaryKiosk$Piece") (q := (RX0, TX0, 11)) (ci := 1) (c_X8_couldBeReadFor (G := G) hl0 h10 a13 v1) dX7_lookAtReadable_39 hm rfl my_X8_couldBeReadFor im_X8_couldBeReadFor se_RX0_X8_couldBeReadFor ml_RX7_82 sm_X8_couldBeReadFor (by decide +kernel) im_X8_couldBeReadFor co_X8_couldBeReadFor rfl rfl (Nat.le_of_ble_eq_true rfl) (by decide) (by decide)
        · exact nk_callU (x := yX8_couldBeReadFor) (owner := "NotaryKiosk$Piece") (q := (RX4, TX4, 9)) (ci := 5) (c_X8_couldBeReadFor (G := G) hl0 h10 a13 v1) dX7_lookAtReadable_39 hm rfl my_X8_couldBeReadFor im_X8_couldBeReadFor se_RX4_X8_couldBeReadFor ml_RX7_82 sm_X8_couldBeReadFor (by decide +kernel) im_X8_couldBeReadFor co_X8_couldBeReadFor rfl rfl (Nat.le_of_ble_eq_true rfl) (by decide) (by decide)
        · exact nk_callU (x := yX8_couldBeReadFor) (owner := "NotaryKiosk$Piece") (q := (RX9, TX9, 15)) (ci := 9) (c_X8_couldBeReadFor (G := G) hl0 h10 a13 v1) dX7_lookAtReadable_39 hm rfl my_X8_couldBeReadFor im_X8_couldBeReadFor se_RX9_X8_couldBeReadFor ml_RX7_82 sm_X8_couldBeReadFor (by decide +kernel) im_X8_couldBeReadFor co_X8_couldBeReadFor rfl rfl (Nat.le_of_ble_eq_true rfl) (by decide) (by decide)
        · exact nk_callU (x := yX8_couldBeReadFor) (owner := "NotaryKiosk$Piece") (q := (RX10, TX10, 7)) (ci := 10) (c_X8_couldBeReadFor (G := G) hl0 h10 a13 v1) dX7_lookAtReadable_39 hm rfl my_X8_couldBeReadFor im_X8_couldBeReadFor se_RX10_X8_couldBeReadFor ml_RX7_82 sm_X8_couldBeReadFor (by decide +kernel) im_X8_couldBeReadFor co_X8_couldBeReadFor rfl rfl (Nat.le_of_ble_eq_true rfl) (by decide) (by decide)
      · refine nr_bastore dX7_lookAtReadable_42 (fun h16 => ?_)
        refine nr_iinc (lv2 := [(2, .inl (v2 + 1)), (0, .inr (some t0)), (1, .inr v1)]) 2 (v2 + 1) dX7_lookAtReadable_43 rfl (by rfl) (by decide) rfl ?_
        refine nr_goto (tgt := 2) dX7_lookAtReadable_46 (by decide) ?_
        exact nk_locals [1, 2, 0] rfl (hr2 h16 t0 v1 (v2 + 1))
theorem s_X7_lookAtReadable_b2 {G : nk_G} {l : Launch} (hl0 : l.flags = flags0)   : ∀ (n : Nat) (h : nk_H) (t0 : Nat) (v1 : Option Nat) (v2 : Int32), nk_Sim G l RX7 cX7_lookAtReadable 3 (none : Option FieldType) 3 64 false nk_eV 2 [(0, .inr (some t0)), (1, .inr v1), (2, .inl v2)] [] h (f_X7_lookAtReadable_b2   n h t0 v1 v2)
  | 0, _, _, _, _ => nk_none
  | n + 1, h, t0, v1, v2 => s_X7_lookAtReadable_c2 hl0 (s_X7_lookAtReadable_b2 hl0  n) h t0 v1 v2
set_option maxHeartbeats 4000000 in
theorem s_X7_lookAtReadable {G : nk_G} {l : Launch} (hl0 : l.flags = flags0) (h : nk_H) (t0 : Nat) (v1 : Option Nat) : nk_Sim G l RX7 cX7_lookAtReadable 3 (none : Option FieldType) 3 64 false nk_eV 0 [(0, .inr (some t0)), (1, .inr v1)] [] h (f_X7_lookAtReadable  h t0 v1) := by
  unfold f_X7_lookAtReadable
  refine nr_iconst (v := 0) dX7_lookAtReadable_0 (by decide) ?_
  refine nr_istore_n (lv2 := [(2, .inl 0), (0, .inr (some t0)), (1, .inr v1)]) dX7_lookAtReadable_1 (by decide) rfl ?_
  exact nk_locals [1, 2, 0] rfl (s_X7_lookAtReadable_b2 hl0  4096 h t0 v1 0)
theorem c_X7_lookAtReadable {G : nk_G} {l : Launch} (hl0 : l.flags = flags0) (h : nk_H) (t0 : Nat) (v1 : Option Nat) : nk_Con G l yX7_lookAtReadable cX7_lookAtReadable 3 (none : Option FieldType) 3 64 nk_eV [.inr (some t0), .inr v1] h (f_X7_lookAtReadable h t0 v1) :=
  nk_con (ini := false) (by decide) hl0 (Nat.le_of_ble_eq_true rfl) (by decide) (s_X7_lookAtReadable hl0 h t0 v1)
set_option maxHeartbeats 4000000 in
theorem s_X7_lookAtAll_c35 {G : nk_G} {l : Launch} (hl0 : l.flags = flags0)   (h : nk_H)   : nk_Sim G l RX7 cX7_lookAtAll 2 (none : Option FieldType) 1 20 false nk_eV 35 [] [] h (f_X7_lookAtAll_c35   h  ) := by
  unfold f_X7_lookAtAll_c35
  exact nr_vret rfl rfl dX7_lookAtAll_35
set_option maxHeartbeats 4000000 in
theorem s_X7_lookAtAll_c2 {G : nk_G} {l : Launch} (hl0 : l.flags = flags0) {r2 : nk_H → Nat → Int32 → Option (nk_H × Unit)} (hr2 : ∀ (h : nk_H) (t0 : Nat) (v1 : Int32), nk_Sim G l RX7 cX7_lookAtAll 2 (none : Option FieldType) 1 20 false nk_eV 2 [(0, .inr (some t0)), (1, .inl v1)] [] h (r2 h t0 v1)) (h : nk_H) (t0 : Nat) (v1 : Int32)  : nk_Sim G l RX7 cX7_lookAtAll 2 (none : Option FieldType) 1 20 false nk_eV 2 [(0, .inr (some t0)), (1, .inl v1)] [] h (f_X7_lookAtAll_c2  r2 h t0 v1 ) := by
  unfold f_X7_lookAtAll_c2
  refine nr_iload_n 1 dX7_lookAtAll_2 rfl ?_
  refine nr_aload_n 0 dX7_lookAtAll_3 rfl ?_
  refine nr_getP [15] 0 dX7_lookAtAll_4 fk_RX7_12 (fun x1 => ?_)
  refine nr_rcv (ks := [7]) (pre := []) (fun a2 hm => ?_)
  refine nr_doI (st := [.inl v1]) (nk_callV (q := (RJx4a65c, TJx4a65c, 3)) (ci := 0) (c_Jx4a65c_size_8abf5 (G := G) hl0 h a2) dX7_lookAtAll_7 (List.mem_singleton.mp hm) rfl rfl my_Jx4a65c_size_8abf5 im_Jx4a65c_size_8abf5 se_RJx4a65c_Jx4a65c_size_8abf5 ml_RX7_22 rfl rfl (Nat.le_of_ble_eq_true rfl) (by decide) (by decide)) (fun h3 x4 => ?_)
  refine nr_icmp_ge (tgt := 35) dX7_lookAtAll_10 (by decide) (fun _ => ?_) (fun _ => ?_)
  · exact nk_locals [] rfl (s_X7_lookAtAll_c35 hl0  h3)
  · refine nr_iload_n 1 dX7_lookAtAll_13 rfl ?_
    refine nr_aload_n 0 dX7_lookAtAll_14 rfl ?_
    refine nr_getP [15] 1 dX7_lookAtAll_15 fk_RX7_18 (fun x5 => ?_)
    refine nr_alen dX7_lookAtAll_18 (fun x6 => ?_)
    refine nr_icmp_ge (tgt := 35) dX7_lookAtAll_19 (by decide) (fun _ => ?_) (fun _ => ?_)
    · exact nk_locals [] rfl (s_X7_lookAtAll_c35 hl0  h3)
    · refine nr_aload_n 0 dX7_lookAtAll_22 rfl ?_
      refine nr_getP [15] 1 dX7_lookAtAll_23 fk_RX7_18 (fun x7 => ?_)
      refine nr_iload_n 1 dX7_lookAtAll_26 rfl ?_
      refine nr_iconst (v := 1) dX7_lookAtAll_27 (by decide) ?_
      refine nr_bastore dX7_lookAtAll_28 (fun h8 => ?_)
      refine nr_iinc (lv2 := [(1, .inl (v1 + 1)), (0, .inr (some t0))]) 1 (v1 + 1) dX7_lookAtAll_29 rfl (by rfl) (by decide) rfl ?_
      refine nr_goto (tgt := 2) dX7_lookAtAll_32 (by decide) ?_
      exact nk_locals [1, 0] rfl (hr2 h8 t0 (v1 + 1))
theorem s_X7_lookAtAll_b2 {G : nk_G} {l : Launch} (hl0 : l.flags = flags0)   : ∀ (n : Nat) (h : nk_H) (t0 : Nat) (v1 : Int32), nk_Sim G l RX7 cX7_lookAtAll 2 (none : Option FieldType) 1 20 false nk_eV 2 [(0, .inr (some t0)), (1, .inl v1)] [] h (f_X7_lookAtAll_b2   n h t0 v1)
  | 0, _, _, _ => nk_none
  | n + 1, h, t0, v1 => s_X7_lookAtAll_c2 hl0 (s_X7_lookAtAll_b2 hl0  n) h t0 v1
set_option maxHeartbeats 4000000 in
theorem s_X7_lookAtAll {G : nk_G} {l : Launch} (hl0 : l.flags = flags0) (h : nk_H) (t0 : Nat) : nk_Sim G l RX7 cX7_lookAtAll 2 (none : Option FieldType) 1 20 false nk_eV 0 [(0, .inr (some t0))] [] h (f_X7_lookAtAll  h t0) := by
  unfold f_X7_lookAtAll
  refine nr_iconst (v := 0) dX7_lookAtAll_0 (by decide) ?_
  refine nr_istore_n (lv2 := [(1, .inl 0), (0, .inr (some t0))]) dX7_lookAtAll_1 (by decide) rfl ?_
  exact nk_locals [1, 0] rfl (s_X7_lookAtAll_b2 hl0  4096 h t0 0)
theorem c_X7_lookAtAll {G : nk_G} {l : Launch} (hl0 : l.flags = flags0) (h : nk_H) (t0 : Nat) : nk_Con G l yX7_lookAtAll cX7_lookAtAll 2 (none : Option FieldType) 1 20 nk_eV [.inr (some t0)] h (f_X7_lookAtAll h t0) :=
  nk_con (ini := false) (by decide) hl0 (Nat.le_of_ble_eq_true rfl) (by decide) (s_X7_lookAtAll hl0 h t0)
set_option maxHeartbeats 4000000 in
theorem s_X7_sees_c27 {G : nk_G} {l : Launch} (hl0 : l.flags = flags0)   (h : nk_H)  (s0 : Int32) : nk_Sim G l RX7 cX7_sees 2 (some FieldType.boolean) 0 0 false nk_eI 27 [] [.inl s0] h (f_X7_sees_c27   h  s0) := by
  unfold f_X7_sees_c27
  exact nr_zret rfl rfl dX7_sees_27
set_option maxHeartbeats 4000000 in
theorem s_X7_sees_c26 {G : nk_G} {l : Launch} (hl0 : l.flags = flags0)   (h : nk_H)   : nk_Sim G l RX7 cX7_sees 2 (some FieldType.boolean) 0 0 false nk_eI 26 [] [] h (f_X7_sees_c26   h  ) := by
  unfold f_X7_sees_c26
  refine nr_iconst (v := 0) dX7_sees_26 (by decide) ?_
  exact s_X7_sees_c27 hl0  h 0
set_option maxHeartbeats 4000000 in
theorem s_X7_sees {G : nk_G} {l : Launch} (hl0 : l.flags = flags0) (h : nk_H) (t0 : Nat) (v1 : Int32) : nk_Sim G l RX7 cX7_sees 2 (some FieldType.boolean) 0 0 false nk_eI 0 [(0, .inr (some t0)), (1, .inl v1)] [] h (f_X7_sees  h t0 v1) := by
  unfold f_X7_sees
  refine nr_iload_n 1 dX7_sees_0 rfl ?_
  refine nr_if_lt (tgt := 26) dX7_sees_1 (by decide) (fun _ => ?_) (fun _ => ?_)
  · exact nk_locals [] rfl (s_X7_sees_c26 hl0  h)
  · refine nr_iload_n 1 dX7_sees_4 rfl ?_
    refine nr_aload_n 0 dX7_sees_5 rfl ?_
    refine nr_getP [15] 1 dX7_sees_6 fk_RX7_18 (fun x1 => ?_)
    refine nr_alen dX7_sees_9 (fun x2 => ?_)
    refine nr_icmp_ge (tgt := 26) dX7_sees_10 (by decide) (fun _ => ?_) (fun _ => ?_)
    · exact nk_locals [] rfl (s_X7_sees_c26 hl0  h)
    · refine nr_aload_n 0 dX7_sees_13 rfl ?_
      refine nr_getP [15] 1 dX7_sees_14 fk_RX7_18 (fun x3 => ?_)
      refine nr_iload_n 1 dX7_sees_17 rfl ?_
      refine nr_baload dX7_sees_18 (fun x4 => ?_)
      refine nr_if_eq (tgt := 26) dX7_sees_19 (by decide) (fun _ => ?_) (fun _ => ?_)
      · exact nk_locals [] rfl (s_X7_sees_c26 hl0  h)
      · refine nr_iconst (v := 1) dX7_sees_22 (by decide) ?_
        refine nr_goto (tgt := 27) dX7_sees_23 (by decide) ?_
        exact nk_locals [] rfl (s_X7_sees_c27 hl0  h 1)
theorem c_X7_sees {G : nk_G} {l : Launch} (hl0 : l.flags = flags0) (h : nk_H) (t0 : Nat) (v1 : Int32) : nk_Con G l yX7_sees cX7_sees 2 (some FieldType.boolean) 0 0 nk_eI [.inr (some t0), .inl v1] h (f_X7_sees h t0 v1) :=
  nk_con (ini := false) (by decide) hl0 (Nat.le_of_ble_eq_true rfl) (by decide) (s_X7_sees hl0 h t0 v1)
set_option maxHeartbeats 4000000 in
theorem s_X7_knows_c2 {G : nk_G} {l : Launch} (hl0 : l.flags = flags0) {r2 : nk_H → Nat → Option Nat → Option (nk_H × Int32)} (hr2 : ∀ (h : nk_H) (t0 : Nat) (v2 : Option Nat), nk_Sim G l RX7 cX7_knows 3 (some FieldType.boolean) 1 21 false nk_eI 2 [(0, .inr (some t0)), (2, .inr v2)] [] h (r2 h t0 v2)) (h : nk_H) (t0 : Nat) (v2 : Option Nat)  : nk_Sim G l RX7 cX7_knows 3 (some FieldType.boolean) 1 21 false nk_eI 2 [(0, .inr (some t0)), (2, .inr v2)] [] h (f_X7_knows_c2  r2 h t0 v2 ) := by
  unfold f_X7_knows_c2
  refine nr_aload_n 1 dX7_knows_2 rfl ?_
  refine nr_ifnull (tgt := 27) dX7_knows_3 (by decide) (fun _ => ?_) (fun _ => ?_)
  · refine nr_iconst (v := 1) dX7_knows_27 (by decide) ?_
    exact nr_zret rfl rfl dX7_knows_28
  · refine nr_aload_n 0 dX7_knows_6 rfl ?_
    refine nr_aload_n 1 dX7_knows_7 rfl ?_
    refine nr_getI [16] 0 dX7_knows_8 fk_RX7_86 (fun x1 => ?_)
    refine nr_rcv (ks := [15]) (pre := [.inl x1]) (fun a2 hm => ?_)
    refine nr_doI (st := []) (nk_callV (q := (RX7, TX7, 2)) (ci := 8) (c_X7_sees (G := G) hl0 h a2 x1) dX7_knows_11 (List.mem_singleton.mp hm) rfl rfl my_X7_sees im_X7_sees se_RX7_X7_sees ml_RX7_89 rfl rfl (Nat.le_of_ble_eq_true rfl) (by decide) (by decide)) (fun h3 x4 => ?_)
    refine nr_if_ne (tgt := 19) dX7_knows_14 (by decide) (fun _ => ?_) (fun _ => ?_)
    · refine nr_iconst (v := 0) dX7_knows_17 (by decide) ?_
      exact nr_zret rfl rfl dX7_knows_18
    · refine nr_aload_n 1 dX7_knows_19 rfl ?_
      refine nr_getP [16] 7 dX7_knows_20 fk_RX7_92 (fun x5 => ?_)
      refine nr_astore_n (lv2 := [(2, .inr x5), (0, .inr (some t0))]) dX7_knows_23 (by decide) rfl ?_
      refine nr_goto (tgt := 2) dX7_knows_24 (by decide) ?_
      exact nk_locals [1, 0] rfl (hr2 h3 t0 x5)
theorem s_X7_knows_b2 {G : nk_G} {l : Launch} (hl0 : l.flags = flags0)   : ∀ (n : Nat) (h : nk_H) (t0 : Nat) (v2 : Option Nat), nk_Sim G l RX7 cX7_knows 3 (some FieldType.boolean) 1 21 false nk_eI 2 [(0, .inr (some t0)), (2, .inr v2)] [] h (f_X7_knows_b2   n h t0 v2)
  | 0, _, _, _ => nk_none
  | n + 1, h, t0, v2 => s_X7_knows_c2 hl0 (s_X7_knows_b2 hl0  n) h t0 v2
set_option maxHeartbeats 4000000 in
theorem s_X7_knows {G : nk_G} {l : Launch} (hl0 : l.flags = flags0) (h : nk_H) (t0 : Nat) (v1 : Option Nat) : nk_Sim G l RX7 cX7_knows 3 (some FieldType.boolean) 1 21 false nk_eI 0 [(0, .inr (some t0)), (1, .inr v1)] [] h (f_X7_knows  h t0 v1) := by
  unfold f_X7_knows
  refine nr_aload_n 1 dX7_knows_0 rfl ?_
  refine nr_astore_n (lv2 := [(2, .inr v1), (0, .inr (some t0)), (1, .inr v1)]) dX7_knows_1 (by decide) rfl ?_
  exact nk_locals [1, 0] rfl (s_X7_knows_b2 hl0  4096 h t0 v1)
theorem c_X7_knows {G : nk_G} {l : Launch} (hl0 : l.flags = flags0) (h : nk_H) (t0 : Nat) (v1 : Option Nat) : nk_Con G l yX7_knows cX7_knows 3 (some FieldType.boolean) 1 21 nk_eI [.inr (some t0), .inr v1] h (f_X7_knows h t0 v1) :=
  nk_con (ini := false) (by decide) hl0 (Nat.le_of_ble_eq_true rfl) (by decide) (s_X7_knows hl0 h t0 v1)
