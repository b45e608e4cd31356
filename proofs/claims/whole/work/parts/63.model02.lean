set_option maxHeartbeats 4000000 in
theorem s_X12_isWithin_c88 {G : nk_G} {l : Launch} (hl0 : l.flags = flags0)   (h : nk_H)  (s0 : Int32) : nk_Sim G l RX12 cX12_isWithin 3 (some FieldType.boolean) 0 0 false nk_eI 88 [] [.inl s0] h (f_X12_isWithin_c88   h  s0) := by
  unfold f_X12_isWithin_c88
  exact nr_zret rfl rfl dX12_isWithin_88
set_option maxHeartbeats 4000000 in
theorem s_X12_isWithin_c87 {G : nk_G} {l : Launch} (hl0 : l.flags = flags0)   (h : nk_H)   : nk_Sim G l RX12 cX12_isWithin 3 (some FieldType.boolean) 0 0 false nk_eI 87 [] [] h (f_X12_isWithin_c87   h  ) := by
  unfold f_X12_isWithin_c87
  refine nr_iconst (v := 0) dX12_isWithin_87 (by decide) ?_
  exact s_X12_isWithin_c88 hl0  h 0
set_option maxHeartbeats 4000000 in
theorem s_X12_isWithin_c47 {G : nk_G} {l : Launch} (hl0 : l.flags = flags0)   (h : nk_H) (t0 : Nat) (v1 : Int32) (s0 : Int32) : nk_Sim G l RX12 cX12_isWithin 3 (some FieldType.boolean) 0 0 false nk_eI 47 [(0, .inr (some t0)), (1, .inl v1)] [.inl s0] h (f_X12_isWithin_c47   h t0 v1 s0) := by
  unfold f_X12_isWithin_c47
  refine nr_istore_n (lv2 := [(2, .inl s0), (0, .inr (some t0)), (1, .inl v1)]) dX12_isWithin_47 (by decide) rfl ?_
  refine nr_iload_n 0 dX12_isWithin_48 rfl ?_
  refine nr_if_eq (tgt := 87) dX12_isWithin_49 (by decide) (fun _ => ?_) (fun _ => ?_)
  · exact nk_locals [] rfl (s_X12_isWithin_c87 hl0  h)
  · refine nr_aload_n 1 dX12_isWithin_52 rfl ?_
    refine nr_getI [19] 1 dX12_isWithin_53 fk_RX12_150 (fun x1 => ?_)
    refine nr_aload_n 1 dX12_isWithin_56 rfl ?_
    refine nr_getI [19] 25 dX12_isWithin_57 fk_RX12_76 (fun x2 => ?_)
    refine nr_iadd dX12_isWithin_60 ?_
    refine nr_aload_n 1 dX12_isWithin_61 rfl ?_
    refine nr_getP [19] 20 dX12_isWithin_62 fk_RX12_59 (fun x3 => ?_)
    refine nr_iload_n 2 dX12_isWithin_65 rfl ?_
    refine nr_iaload dX12_isWithin_66 (fun x4 => ?_)
    refine nr_icmp_gt (tgt := 87) dX12_isWithin_67 (by decide) (fun _ => ?_) (fun _ => ?_)
    · exact nk_locals [] rfl (s_X12_isWithin_c87 hl0  h)
    · refine nr_aload_n 1 dX12_isWithin_70 rfl ?_
      refine nr_getI [19] 26 dX12_isWithin_71 fk_RX12_200 (fun x5 => ?_)
      refine nr_aload_n 1 dX12_isWithin_74 rfl ?_
      refine nr_getP [19] 21 dX12_isWithin_75 fk_RX12_62 (fun x6 => ?_)
      refine nr_iload_n 2 dX12_isWithin_78 rfl ?_
      refine nr_iaload dX12_isWithin_79 (fun x7 => ?_)
      refine nr_icmp_ge (tgt := 87) dX12_isWithin_80 (by decide) (fun _ => ?_) (fun _ => ?_)
      · exact nk_locals [] rfl (s_X12_isWithin_c87 hl0  h)
      · refine nr_iconst (v := 1) dX12_isWithin_83 (by decide) ?_
        refine nr_goto (tgt := 88) dX12_isWithin_84 (by decide) ?_
        exact nk_locals [] rfl (s_X12_isWithin_c88 hl0  h 1)
set_option maxHeartbeats 4000000 in
theorem s_X12_isWithin_c46 {G : nk_G} {l : Launch} (hl0 : l.flags = flags0)   (h : nk_H) (t0 : Nat) (v1 : Int32)  : nk_Sim G l RX12 cX12_isWithin 3 (some FieldType.boolean) 0 0 false nk_eI 46 [(0, .inr (some t0)), (1, .inl v1)] [] h (f_X12_isWithin_c46   h t0 v1 ) := by
  unfold f_X12_isWithin_c46
  refine nr_iconst (v := 0) dX12_isWithin_46 (by decide) ?_
  exact s_X12_isWithin_c47 hl0  h t0 v1 0
set_option maxHeartbeats 4000000 in
theorem s_X12_isWithin {G : nk_G} {l : Launch} (hl0 : l.flags = flags0) (h : nk_H) (t0 : Nat) (v1 : Int32) : nk_Sim G l RX12 cX12_isWithin 3 (some FieldType.boolean) 0 0 false nk_eI 0 [(0, .inr (some t0)), (1, .inl v1)] [] h (f_X12_isWithin  h t0 v1) := by
  unfold f_X12_isWithin
  refine nr_aload_n 0 dX12_isWithin_0 rfl ?_
  refine nr_getI [19] 22 dX12_isWithin_1 fk_RX12_65 (fun x8 => ?_)
  refine nr_aload_n 0 dX12_isWithin_4 rfl ?_
  refine nr_getP [19] 17 dX12_isWithin_5 fk_RX12_50 (fun x9 => ?_)
  refine nr_iload_n 1 dX12_isWithin_8 rfl ?_
  refine nr_iaload dX12_isWithin_9 (fun x10 => ?_)
  refine nr_iconst (v := (-1)) dX12_isWithin_10 (by decide) ?_
  refine nr_ixor dX12_isWithin_11 ?_
  refine nr_iand dX12_isWithin_12 ?_
  refine nr_if_ne (tgt := 46) dX12_isWithin_13 (by decide) (fun _ => ?_) (fun _ => ?_)
  · refine nr_aload_n 0 dX12_isWithin_16 rfl ?_
    refine nr_getI [19] 23 dX12_isWithin_17 fk_RX12_69 (fun x11 => ?_)
    refine nr_aload_n 0 dX12_isWithin_20 rfl ?_
    refine nr_getP [19] 18 dX12_isWithin_21 fk_RX12_53 (fun x12 => ?_)
    refine nr_iload_n 1 dX12_isWithin_24 rfl ?_
    refine nr_iaload dX12_isWithin_25 (fun x13 => ?_)
    refine nr_icmp_gt (tgt := 46) dX12_isWithin_26 (by decide) (fun _ => ?_) (fun _ => ?_)
    · exact s_X12_isWithin_c46 hl0  h t0 v1
    · refine nr_aload_n 0 dX12_isWithin_29 rfl ?_
      refine nr_getI [19] 24 dX12_isWithin_30 fk_RX12_73 (fun x14 => ?_)
      refine nr_aload_n 0 dX12_isWithin_33 rfl ?_
      refine nr_getP [19] 19 dX12_isWithin_34 fk_RX12_56 (fun x15 => ?_)
      refine nr_iload_n 1 dX12_isWithin_37 rfl ?_
      refine nr_iaload dX12_isWithin_38 (fun x16 => ?_)
      refine nr_icmp_gt (tgt := 46) dX12_isWithin_39 (by decide) (fun _ => ?_) (fun _ => ?_)
      · exact s_X12_isWithin_c46 hl0  h t0 v1
      · refine nr_iconst (v := 1) dX12_isWithin_42 (by decide) ?_
        refine nr_goto (tgt := 47) dX12_isWithin_43 (by decide) ?_
        exact s_X12_isWithin_c47 hl0  h t0 v1 1
  · exact s_X12_isWithin_c46 hl0  h t0 v1
theorem c_X12_isWithin {G : nk_G} {l : Launch} (hl0 : l.flags = flags0) (h : nk_H) (t0 : Nat) (v1 : Int32) : nk_Con G l yX12_isWithin cX12_isWithin 3 (some FieldType.boolean) 0 0 nk_eI [.inr (some t0), .inl v1] h (f_X12_isWithin h t0 v1) :=
  nk_con (ini := false) (by decide) hl0 (Nat.le_of_ble_eq_true rfl) (by decide) (s_X12_isWithin hl0 h t0 v1)
set_option maxHeartbeats 4000000 in
theorem s_X12_errorOfPassOn_c22 {G : nk_G} {l : Launch} (hl0 : l.flags = flags0)   (h : nk_H)   : nk_Sim G l RX12 cX12_errorOfPassOn 4 (some FieldType.int) 4 91 false nk_eI 22 [] [] h (f_X12_errorOfPassOn_c22   h  ) := by
  unfold f_X12_errorOfPassOn_c22
  refine nr_iconst (v := 1) dX12_errorOfPassOn_22 (by decide) ?_
  exact nr_iret rfl rfl dX12_errorOfPassOn_23
set_option maxHeartbeats 4000000 in
theorem s_X12_errorOfPassOn_c67 {G : nk_G} {l : Launch} (hl0 : l.flags = flags0)   (h : nk_H)  (s0 : Int32) : nk_Sim G l RX12 cX12_errorOfPassOn 4 (some FieldType.int) 4 91 false nk_eI 67 [] [.inl s0] h (f_X12_errorOfPassOn_c67   h  s0) := by
  unfold f_X12_errorOfPassOn_c67
  exact nr_iret rfl rfl dX12_errorOfPassOn_67
set_option maxHeartbeats 4000000 in
theorem s_X12_errorOfPassOn_c42 {G : nk_G} {l : Launch} (hl0 : l.flags = flags0)   (h : nk_H)   : nk_Sim G l RX12 cX12_errorOfPassOn 4 (some FieldType.int) 4 91 false nk_eI 42 [] [] h (f_X12_errorOfPassOn_c42   h  ) := by
  unfold f_X12_errorOfPassOn_c42
  refine nr_iconst (v := 2) dX12_errorOfPassOn_42 (by decide) ?_
  refine nr_goto (tgt := 67) dX12_errorOfPassOn_43 (by decide) ?_
  exact s_X12_errorOfPassOn_c67 hl0  h 2
set_option maxHeartbeats 4000000 in
theorem s_X12_errorOfPassOn_c62 {G : nk_G} {l : Launch} (hl0 : l.flags = flags0)   (h : nk_H)   : nk_Sim G l RX12 cX12_errorOfPassOn 4 (some FieldType.int) 4 91 false nk_eI 62 [] [] h (f_X12_errorOfPassOn_c62   h  ) := by
  unfold f_X12_errorOfPassOn_c62
  refine nr_iconst (v := 3) dX12_errorOfPassOn_62 (by decide) ?_
  refine nr_goto (tgt := 67) dX12_errorOfPassOn_63 (by decide) ?_
  exact s_X12_errorOfPassOn_c67 hl0  h 3
set_option maxHeartbeats 4000000 in
theorem s_X12_errorOfPassOn {G : nk_G} {l : Launch} (hl0 : l.flags = flags0) (h : nk_H) (t0 : Nat) (v1 : Int32) (v2 : Int32) (v3 : Int32) : nk_Sim G l RX12 cX12_errorOfPassOn 4 (some FieldType.int) 4 91 false nk_eI 0 [(0, .inr (some t0)), (1, .inl v1), (2, .inl v2), (3, .inl v3)] [] h (f_X12_errorOfPassOn  h t0 v1 v2 v3) := by
  unfold f_X12_errorOfPassOn
  refine nr_iload_n 1 dX12_errorOfPassOn_0 rfl ?_
  refine nr_doI (st := []) (nk_callS (c_X12_isKiosk (G := G) hl0 h v1) dX12_errorOfPassOn_1 my_X12_isKiosk st_X12_isKiosk ml_RX12_131 rfl rfl (Nat.le_of_ble_eq_true rfl) (by decide) (by decide)) (fun h1 x2 => ?_)
  refine nr_if_eq (tgt := 22) dX12_errorOfPassOn_4 (by decide) (fun _ => ?_) (fun _ => ?_)
  · exact nk_locals [] rfl (s_X12_errorOfPassOn_c22 hl0  h1)
  · refine nr_aload_n 0 dX12_errorOfPassOn_7 rfl ?_
    refine nr_iload_n 2 dX12_errorOfPassOn_8 rfl ?_
    refine nr_rcv (ks := [19]) (pre := [.inl v2]) (fun a3 hm => ?_)
    refine nr_doI (st := []) (nk_callV (q := (RX12, TX12, 45)) (ci := 12) (c_X12_isPower (G := G) hl0 h1 a3 v2) dX12_errorOfPassOn_9 (List.mem_singleton.mp hm) rfl rfl my_X12_isPower im_X12_isPower se_RX12_X12_isPower ml_RX12_217 rfl rfl (Nat.le_of_ble_eq_true rfl) (by decide) (by decide)) (fun h4 x5 => ?_)
    refine nr_if_eq (tgt := 22) dX12_errorOfPassOn_12 (by decide) (fun _ => ?_) (fun _ => ?_)
    · exact nk_locals [] rfl (s_X12_errorOfPassOn_c22 hl0  h4)
    · refine nr_iload_n 3 dX12_errorOfPassOn_15 rfl ?_
      refine nr_doI (st := []) (nk_callS (c_X12_isPerson (G := G) hl0 h4 v3) dX12_errorOfPassOn_16 my_X12_isPerson st_X12_isPerson ml_RX12_206 rfl rfl (Nat.le_of_ble_eq_true rfl) (by decide) (by decide)) (fun h6 x7 => ?_)
      refine nr_if_ne (tgt := 24) dX12_errorOfPassOn_19 (by decide) (fun _ => ?_) (fun _ => ?_)
      · exact nk_locals [] rfl (s_X12_errorOfPassOn_c22 hl0  h6)
      · refine nr_aload_n 0 dX12_errorOfPassOn_24 rfl ?_
        refine nr_getP [19] 15 dX12_errorOfPassOn_25 fk_RX12_44 (fun x8 => ?_)
        refine nr_iload_n 2 dX12_errorOfPassOn_28 rfl ?_
        refine nr_iaload dX12_errorOfPassOn_29 (fun x9 => ?_)
        refine nr_iload_n 3 dX12_errorOfPassOn_30 rfl ?_
        refine nr_icmp_eq (tgt := 42) dX12_errorOfPassOn_31 (by decide) (fun _ => ?_) (fun _ => ?_)
        · exact nk_locals [] rfl (s_X12_errorOfPassOn_c42 hl0  h6)
        · refine nr_aload_n 0 dX12_errorOfPassOn_34 rfl ?_
          refine nr_iload_n 2 dX12_errorOfPassOn_35 rfl ?_
          refine nr_rcv (ks := [19]) (pre := [.inl v2]) (fun a10 hm => ?_)
          refine nr_doI (st := []) (nk_callV (q := (RX12, TX12, 45)) (ci := 12) (c_X12_isWithin (G := G) hl0 h6 a10 v2) dX12_errorOfPassOn_36 (List.mem_singleton.mp hm) rfl rfl my_X12_isWithin im_X12_isWithin se_RX12_X12_isWithin ml_RX12_220 rfl rfl (Nat.le_of_ble_eq_true rfl) (by decide) (by decide)) (fun h11 x12 => ?_)
          refine nr_if_ne (tgt := 46) dX12_errorOfPassOn_39 (by decide) (fun _ => ?_) (fun _ => ?_)
          · exact nk_locals [] rfl (s_X12_errorOfPassOn_c42 hl0  h11)
          · refine nr_aload_n 0 dX12_errorOfPassOn_46 rfl ?_
            refine nr_rcv (ks := [19]) (pre := []) (fun a13 hm => ?_)
            refine nr_doI (st := []) (nk_callV (q := (RX12, TX12, 45)) (ci := 12) (c_X12_isFull (G := G) hl0 h11 a13) dX12_errorOfPassOn_47 (List.mem_singleton.mp hm) rfl rfl my_X12_isFull im_X12_isFull se_RX12_X12_isFull ml_RX12_209 rfl rfl (Nat.le_of_ble_eq_true rfl) (by decide) (by decide)) (fun h14 x15 => ?_)
            refine nr_if_ne (tgt := 62) dX12_errorOfPassOn_50 (by decide) (fun _ => ?_) (fun _ => ?_)
            · refine nr_aload_n 0 dX12_errorOfPassOn_53 rfl ?_
              refine nr_iload_n 1 dX12_errorOfPassOn_54 rfl ?_
              refine nr_iload_n 2 dX12_errorOfPassOn_55 rfl ?_
              refine nr_rcv (ks := [19]) (pre := [.inl v2, .inl v1]) (fun a16 hm => ?_)
              refine nr_doI (st := []) (nk_callV (q := (RX12, TX12, 45)) (ci := 12) (c_X12_isGoodAt (G := G) hl0 h14 a16 v1 v2) dX12_errorOfPassOn_56 (List.mem_singleton.mp hm) rfl rfl my_X12_isGoodAt im_X12_isGoodAt se_RX12_X12_isGoodAt ml_RX12_223 rfl rfl (Nat.le_of_ble_eq_true rfl) (by decide) (by decide)) (fun h17 x18 => ?_)
              refine nr_if_ne (tgt := 66) dX12_errorOfPassOn_59 (by decide) (fun _ => ?_) (fun _ => ?_)
              · exact nk_locals [] rfl (s_X12_errorOfPassOn_c62 hl0  h17)
              · refine nr_iconst (v := 0) dX12_errorOfPassOn_66 (by decide) ?_
                exact nk_locals [] rfl (s_X12_errorOfPassOn_c67 hl0  h17 0)
            · exact nk_locals [] rfl (s_X12_errorOfPassOn_c62 hl0  h14)
theorem c_X12_errorOfPassOn {G : nk_G} {l : Launch} (hl0 : l.flags = flags0) (h : nk_H) (t0 : Nat) (v1 : Int32) (v2 : Int32) (v3 : Int32) : nk_Con G l yX12_errorOfPassOn cX12_errorOfPassOn 4 (some FieldType.int) 4 91 nk_eI [.inr (some t0), .inl v1, .inl v2, .inl v3] h (f_X12_errorOfPassOn h t0 v1 v2 v3) :=
  nk_con (ini := false) (by decide) hl0 (Nat.le_of_ble_eq_true rfl) (by decide) (s_X12_errorOfPassOn hl0 h t0 v1 v2 v3)
set_option maxHeartbeats 4000000 in
theorem s_X12_passOn_c31 {G : nk_G} {l : Launch} (hl0 : l.flags = flags0)   (h : nk_H)  (s0 : Int32) : nk_Sim G l RX12 cX12_passOn 4 (some FieldType.int) 5 114 false nk_eI 31 [] [.inl s0] h (f_X12_passOn_c31   h  s0) := by
  unfold f_X12_passOn_c31
  exact nr_iret rfl rfl dX12_passOn_31
set_option maxHeartbeats 4000000 in
theorem s_X12_passOn {G : nk_G} {l : Launch} (hl0 : l.flags = flags0) (h : nk_H) (t0 : Nat) (v1 : Int32) (v2 : Int32) (v3 : Int32) : nk_Sim G l RX12 cX12_passOn 4 (some FieldType.int) 5 114 false nk_eI 0 [(0, .inr (some t0)), (1, .inl v1), (2, .inl v2), (3, .inl v3)] [] h (f_X12_passOn  h t0 v1 v2 v3) := by
  unfold f_X12_passOn
  refine nr_aload_n 0 dX12_passOn_0 rfl ?_
  refine nr_aload_n 0 dX12_passOn_1 rfl ?_
  refine nr_iload_n 1 dX12_passOn_2 rfl ?_
  refine nr_iload_n 2 dX12_passOn_3 rfl ?_
  refine nr_iload_n 3 dX12_passOn_4 rfl ?_
  refine nr_rcv (ks := [19]) (pre := [.inl v3, .inl v2, .inl v1]) (fun a1 hm => ?_)
  refine nr_doI (st := [.inr (some t0)]) (nk_callV (q := (RX12, TX12, 45)) (ci := 12) (c_X12_errorOfPassOn (G := G) hl0 h a1 v1 v2 v3) dX12_passOn_5 (List.mem_singleton.mp hm) rfl rfl my_X12_errorOfPassOn im_X12_errorOfPassOn se_RX12_X12_errorOfPassOn ml_RX12_226 rfl rfl (Nat.le_of_ble_eq_true rfl) (by decide) (by decide)) (fun h2 x3 => ?_)
  refine nr_rcv (ks := [19]) (pre := [.inl x3]) (fun a4 hm => ?_)
  refine nr_doI (st := []) (nk_callV (q := (RX12, TX12, 45)) (ci := 12) (c_X12_holds (G := G) hl0 h2 a4 x3) dX12_passOn_8 (List.mem_singleton.mp hm) rfl rfl my_X12_holds im_X12_holds se_RX12_X12_holds ml_RX12_143 rfl rfl (Nat.le_of_ble_eq_true rfl) (by decide) (by decide)) (fun h5 x6 => ?_)
  refine nr_if_eq (tgt := 30) dX12_passOn_11 (by decide) (fun _ => ?_) (fun _ => ?_)
  · refine nr_iconst (v := 0) dX12_passOn_30 (by decide) ?_
    exact nk_locals [] rfl (s_X12_passOn_c31 hl0  h5 0)
  · refine nr_aload_n 0 dX12_passOn_14 rfl ?_
    refine nr_iload_n 1 dX12_passOn_15 rfl ?_
    refine nr_aload_n 0 dX12_passOn_16 rfl ?_
    refine nr_getP [19] 15 dX12_passOn_17 fk_RX12_44 (fun x7 => ?_)
    refine nr_iload_n 2 dX12_passOn_20 rfl ?_
    refine nr_iaload dX12_passOn_21 (fun x8 => ?_)
    refine nr_iload_n 3 dX12_passOn_22 rfl ?_
    refine nr_iload_n 2 dX12_passOn_23 rfl ?_
    refine nr_rcv (ks := [19]) (pre := [.inl v2, .inl v3, .inl x8, .inl v1]) (fun a9 hm => ?_)
    refine nr_doI (st := []) (nk_callV (q := (RX12, TX12, 45)) (ci := 12) (c_X12_adds (G := G) hl0 h5 a9 v1 x8 v3 v2) dX12_passOn_24 (List.mem_singleton.mp hm) rfl rfl my_X12_adds im_X12_adds se_RX12_X12_adds ml_RX12_213 rfl rfl (Nat.le_of_ble_eq_true rfl) (by decide) (by decide)) (fun h10 x11 => ?_)
    refine nr_goto (tgt := 31) dX12_passOn_27 (by decide) ?_
    exact nk_locals [] rfl (s_X12_passOn_c31 hl0  h10 x11)
theorem c_X12_passOn {G : nk_G} {l : Launch} (hl0 : l.flags = flags0) (h : nk_H) (t0 : Nat) (v1 : Int32) (v2 : Int32) (v3 : Int32) : nk_Con G l yX12_passOn cX12_passOn 4 (some FieldType.int) 5 114 nk_eI [.inr (some t0), .inl v1, .inl v2, .inl v3] h (f_X12_passOn h t0 v1 v2 v3) :=
  nk_con (ini := false) (by decide) hl0 (Nat.le_of_ble_eq_true rfl) (by decide) (s_X12_passOn hl0 h t0 v1 v2 v3)
set_option maxHeartbeats 4000000 in
theorem s_X12_isGiver_c2 {G : nk_G} {l : Launch} (hl0 : l.flags = flags0) {r2 : nk_H → Nat → Int32 → Int32 → Option (nk_H × Int32)} (hr2 : ∀ (h : nk_H) (t0 : Nat) (v1 : Int32) (v3 : Int32), nk_Sim G l RX12 cX12_isGiver 4 (some FieldType.boolean) 0 0 false nk_eI 2 [(0, .inr (some t0)), (1, .inl v1), (3, .inl v3)] [] h (r2 h t0 v1 v3)) (h : nk_H) (t0 : Nat) (v1 : Int32) (v3 : Int32)  : nk_Sim G l RX12 cX12_isGiver 4 (some FieldType.boolean) 0 0 false nk_eI 2 [(0, .inr (some t0)), (1, .inl v1), (3, .inl v3)] [] h (f_X12_isGiver_c2  r2 h t0 v1 v3 ) := by
  unfold f_X12_isGiver_c2
  refine nr_iload_n 2 dX12_isGiver_2 rfl ?_
  refine nr_iconst (v := (-1)) dX12_isGiver_3 (by decide) ?_
  refine nr_icmp_eq (tgt := 29) dX12_isGiver_4 (by decide) (fun _ => ?_) (fun _ => ?_)
  · refine nr_iconst (v := 0) dX12_isGiver_29 (by decide) ?_
    exact nr_zret rfl rfl dX12_isGiver_30
  · refine nr_aload_n 0 dX12_isGiver_7 rfl ?_
    refine nr_getP [19] 14 dX12_isGiver_8 fk_RX12_41 (fun x1 => ?_)
    refine nr_iload_n 2 dX12_isGiver_11 rfl ?_
    refine nr_iaload dX12_isGiver_12 (fun x2 => ?_)
    refine nr_iload_n 1 dX12_isGiver_13 rfl ?_
    refine nr_icmp_ne (tgt := 19) dX12_isGiver_14 (by decide) (fun _ => ?_) (fun _ => ?_)
    · refine nr_iconst (v := 1) dX12_isGiver_17 (by decide) ?_
      exact nr_zret rfl rfl dX12_isGiver_18
    · refine nr_aload_n 0 dX12_isGiver_19 rfl ?_
      refine nr_getP [19] 16 dX12_isGiver_20 fk_RX12_47 (fun x3 => ?_)
      refine nr_iload_n 2 dX12_isGiver_23 rfl ?_
      refine nr_iaload dX12_isGiver_24 (fun x4 => ?_)
      refine nr_istore_n (lv2 := [(3, .inl x4), (0, .inr (some t0)), (1, .inl v1)]) dX12_isGiver_25 (by decide) rfl ?_
      refine nr_goto (tgt := 2) dX12_isGiver_26 (by decide) ?_
      exact nk_locals [1, 2, 0] rfl (hr2 h t0 v1 x4)
theorem s_X12_isGiver_b2 {G : nk_G} {l : Launch} (hl0 : l.flags = flags0)   : ∀ (n : Nat) (h : nk_H) (t0 : Nat) (v1 : Int32) (v3 : Int32), nk_Sim G l RX12 cX12_isGiver 4 (some FieldType.boolean) 0 0 false nk_eI 2 [(0, .inr (some t0)), (1, .inl v1), (3, .inl v3)] [] h (f_X12_isGiver_b2   n h t0 v1 v3)
  | 0, _, _, _, _ => nk_none
  | n + 1, h, t0, v1, v3 => s_X12_isGiver_c2 hl0 (s_X12_isGiver_b2 hl0  n) h t0 v1 v3
set_option maxHeartbeats 4000000 in
theorem s_X12_isGiver {G : nk_G} {l : Launch} (hl0 : l.flags = flags0) (h : nk_H) (t0 : Nat) (v1 : Int32) (v2 : Int32) : nk_Sim G l RX12 cX12_isGiver 4 (some FieldType.boolean) 0 0 false nk_eI 0 [(0, .inr (some t0)), (1, .inl v1), (2, .inl v2)] [] h (f_X12_isGiver  h t0 v1 v2) := by
  unfold f_X12_isGiver
  refine nr_iload_n 2 dX12_isGiver_0 rfl ?_
  refine nr_istore_n (lv2 := [(3, .inl v2), (0, .inr (some t0)), (1, .inl v1), (2, .inl v2)]) dX12_isGiver_1 (by decide) rfl ?_
  exact nk_locals [1, 2, 0] rfl (s_X12_isGiver_b2 hl0  4096 h t0 v1 v2)
theorem c_X12_isGiver {G : nk_G} {l : Launch} (hl0 : l.flags = flags0) (h : nk_H) (t0 : Nat) (v1 : Int32) (v2 : Int32) : nk_Con G l yX12_isGiver cX12_isGiver 4 (some FieldType.boolean) 0 0 nk_eI [.inr (some t0), .inl v1, .inl v2] h (f_X12_isGiver h t0 v1 v2) :=
  nk_con (ini := false) (by decide) hl0 (Nat.le_of_ble_eq_true rfl) (by decide) (s_X12_isGiver hl0 h t0 v1 v2)
set_option maxHeartbeats 4000000 in
theorem s_X12_errorOfRevoke_c22 {G : nk_G} {l : Launch} (hl0 : l.flags = flags0)   (h : nk_H)   : nk_Sim G l RX12 cX12_errorOfRevoke 4 (some FieldType.int) 3 69 false nk_eI 22 [] [] h (f_X12_errorOfRevoke_c22   h  ) := by
  unfold f_X12_errorOfRevoke_c22
  refine nr_iconst (v := 1) dX12_errorOfRevoke_22 (by decide) ?_
  exact nr_iret rfl rfl dX12_errorOfRevoke_23
set_option maxHeartbeats 4000000 in
theorem s_X12_errorOfRevoke_c70 {G : nk_G} {l : Launch} (hl0 : l.flags = flags0)   (h : nk_H)  (s0 : Int32) : nk_Sim G l RX12 cX12_errorOfRevoke 4 (some FieldType.int) 3 69 false nk_eI 70 [] [.inl s0] h (f_X12_errorOfRevoke_c70   h  s0) := by
  unfold f_X12_errorOfRevoke_c70
  exact nr_iret rfl rfl dX12_errorOfRevoke_70
set_option maxHeartbeats 4000000 in
theorem s_X12_errorOfRevoke_c65 {G : nk_G} {l : Launch} (hl0 : l.flags = flags0)   (h : nk_H)   : nk_Sim G l RX12 cX12_errorOfRevoke 4 (some FieldType.int) 3 69 false nk_eI 65 [] [] h (f_X12_errorOfRevoke_c65   h  ) := by
  unfold f_X12_errorOfRevoke_c65
  refine nr_iconst (v := 3) dX12_errorOfRevoke_65 (by decide) ?_
  refine nr_goto (tgt := 70) dX12_errorOfRevoke_66 (by decide) ?_
  exact s_X12_errorOfRevoke_c70 hl0  h 3
set_option maxHeartbeats 4000000 in
theorem s_X12_errorOfRevoke {G : nk_G} {l : Launch} (hl0 : l.flags = flags0) (h : nk_H) (t0 : Nat) (v1 : Int32) (v2 : Int32) (v3 : Int32) : nk_Sim G l RX12 cX12_errorOfRevoke 4 (some FieldType.int) 3 69 false nk_eI 0 [(0, .inr (some t0)), (1, .inl v1), (2, .inl v2), (3, .inl v3)] [] h (f_X12_errorOfRevoke  h t0 v1 v2 v3) := by
  unfold f_X12_errorOfRevoke
  refine nr_iload_n 1 dX12_errorOfRevoke_0 rfl ?_
  refine nr_doI (st := []) (nk_callS (c_X12_isKiosk (G := G) hl0 h v1) dX12_errorOfRevoke_1 my_X12_isKiosk st_X12_isKiosk ml_RX12_131 rfl rfl (Nat.le_of_ble_eq_true rfl) (by decide) (by decide)) (fun h1 x2 => ?_)
  refine nr_if_eq (tgt := 22) dX12_errorOfRevoke_4 (by decide) (fun _ => ?_) (fun _ => ?_)
  · exact nk_locals [] rfl (s_X12_errorOfRevoke_c22 hl0  h1)
  · refine nr_iload_n 2 dX12_errorOfRevoke_7 rfl ?_
    refine nr_doI (st := []) (nk_callS (c_X12_isPerson (G := G) hl0 h1 v2) dX12_errorOfRevoke_8 my_X12_isPerson st_X12_isPerson ml_RX12_206 rfl rfl (Nat.le_of_ble_eq_true rfl) (by decide) (by decide)) (fun h3 x4 => ?_)
    refine nr_if_eq (tgt := 22) dX12_errorOfRevoke_11 (by decide) (fun _ => ?_) (fun _ => ?_)
    · exact nk_locals [] rfl (s_X12_errorOfRevoke_c22 hl0  h3)
    · refine nr_aload_n 0 dX12_errorOfRevoke_14 rfl ?_
      refine nr_iload_n 3 dX12_errorOfRevoke_15 rfl ?_
      refine nr_rcv (ks := [19]) (pre := [.inl v3]) (fun a5 hm => ?_)
      refine nr_doI (st := []) (nk_callV (q := (RX12, TX12, 45)) (ci := 12) (c_X12_isPower (G := G) hl0 h3 a5 v3) dX12_errorOfRevoke_16 (List.mem_singleton.mp hm) rfl rfl my_X12_isPower im_X12_isPower se_RX12_X12_isPower ml_RX12_217 rfl rfl (Nat.le_of_ble_eq_true rfl) (by decide) (by decide)) (fun h6 x7 => ?_)
      refine nr_if_ne (tgt := 24) dX12_errorOfRevoke_19 (by decide) (fun _ => ?_) (fun _ => ?_)
      · exact nk_locals [] rfl (s_X12_errorOfRevoke_c22 hl0  h6)
      · refine nr_aload_n 0 dX12_errorOfRevoke_24 rfl ?_
        refine nr_iload_n 2 dX12_errorOfRevoke_25 rfl ?_
        refine nr_iload_n 3 dX12_errorOfRevoke_26 rfl ?_
        refine nr_rcv (ks := [19]) (pre := [.inl v3, .inl v2]) (fun a8 hm => ?_)
        refine nr_doI (st := []) (nk_callV (q := (RX12, TX12, 45)) (ci := 12) (c_X12_isGiver (G := G) hl0 h6 a8 v2 v3) dX12_errorOfRevoke_27 (List.mem_singleton.mp hm) rfl rfl my_X12_isGiver im_X12_isGiver se_RX12_X12_isGiver ml_RX12_229 rfl rfl (Nat.le_of_ble_eq_true rfl) (by decide) (by decide)) (fun h9 x10 => ?_)
        refine nr_if_ne (tgt := 37) dX12_errorOfRevoke_30 (by decide) (fun _ => ?_) (fun _ => ?_)
        · refine nr_iconst (v := 2) dX12_errorOfRevoke_33 (by decide) ?_
          refine nr_goto (tgt := 70) dX12_errorOfRevoke_34 (by decide) ?_
          exact nk_locals [] rfl (s_X12_errorOfRevoke_c70 hl0  h9 2)
        · refine nr_aload_n 0 dX12_errorOfRevoke_37 rfl ?_
          refine nr_getI [19] 3 dX12_errorOfRevoke_38 fk_RX12_153 (fun x11 => ?_)
          refine nr_sipush (v := 160) dX12_errorOfRevoke_41 (by decide) ?_
          refine nr_icmp_eq (tgt := 65) dX12_errorOfRevoke_44 (by decide) (fun _ => ?_) (fun _ => ?_)
          · exact nk_locals [] rfl (s_X12_errorOfRevoke_c65 hl0  h9)
          · refine nr_aload_n 0 dX12_errorOfRevoke_47 rfl ?_
            refine nr_iload_n 1 dX12_errorOfRevoke_48 rfl ?_
            refine nr_iload_n 3 dX12_errorOfRevoke_49 rfl ?_
            refine nr_rcv (ks := [19]) (pre := [.inl v3, .inl v1]) (fun a12 hm => ?_)
            refine nr_doI (st := []) (nk_callV (q := (RX12, TX12, 45)) (ci := 12) (c_X12_isKnown (G := G) hl0 h9 a12 v1 v3) dX12_errorOfRevoke_50 (List.mem_singleton.mp hm) rfl rfl my_X12_isKnown im_X12_isKnown se_RX12_X12_isKnown ml_RX12_172 rfl rfl (Nat.le_of_ble_eq_true rfl) (by decide) (by decide)) (fun h13 x14 => ?_)
            refine nr_if_eq (tgt := 65) dX12_errorOfRevoke_53 (by decide) (fun _ => ?_) (fun _ => ?_)
            · exact nk_locals [] rfl (s_X12_errorOfRevoke_c65 hl0  h13)
            · refine nr_aload_n 0 dX12_errorOfRevoke_56 rfl ?_
              refine nr_iload_n 1 dX12_errorOfRevoke_57 rfl ?_
              refine nr_iload_n 3 dX12_errorOfRevoke_58 rfl ?_
              refine nr_rcv (ks := [19]) (pre := [.inl v3, .inl v1]) (fun a15 hm => ?_)
              refine nr_doI (st := []) (nk_callV (q := (RX12, TX12, 45)) (ci := 12) (c_X12_isRevoked (G := G) hl0 h13 a15 v1 v3) dX12_errorOfRevoke_59 (List.mem_singleton.mp hm) rfl rfl my_X12_isRevoked im_X12_isRevoked se_RX12_X12_isRevoked ml_RX12_175 rfl rfl (Nat.le_of_ble_eq_true rfl) (by decide) (by decide)) (fun h16 x17 => ?_)
              refine nr_if_eq (tgt := 69) dX12_errorOfRevoke_62 (by decide) (fun _ => ?_) (fun _ => ?_)
              · refine nr_iconst (v := 0) dX12_errorOfRevoke_69 (by decide) ?_
                exact nk_locals [] rfl (s_X12_errorOfRevoke_c70 hl0  h16 0)
              · exact nk_locals [] rfl (s_X12_errorOfRevoke_c65 hl0  h16)
theorem c_X12_errorOfRevoke {G : nk_G} {l : Launch} (hl0 : l.flags = flags0) (h : nk_H) (t0 : Nat) (v1 : Int32) (v2 : Int32) (v3 : Int32) : nk_Con G l yX12_errorOfRevoke cX12_errorOfRevoke 4 (some FieldType.int) 3 69 nk_eI [.inr (some t0), .inl v1, .inl v2, .inl v3] h (f_X12_errorOfRevoke h t0 v1 v2 v3) :=
  nk_con (ini := false) (by decide) hl0 (Nat.le_of_ble_eq_true rfl) (by decide) (s_X12_errorOfRevoke hl0 h t0 v1 v2 v3)
set_option maxHeartbeats 4000000 in
theorem s_X12_revoke_c25 {G : nk_G} {l : Launch} (hl0 : l.flags = flags0)   (h : nk_H)  (s0 : Int32) : nk_Sim G l RX12 cX12_revoke 4 (some FieldType.int) 4 92 false nk_eI 25 [] [.inl s0] h (f_X12_revoke_c25   h  s0) := by
  unfold f_X12_revoke_c25
  exact nr_iret rfl rfl dX12_revoke_25
set_option maxHeartbeats 4000000 in
theorem s_X12_revoke {G : nk_G} {l : Launch} (hl0 : l.flags = flags0) (h : nk_H) (t0 : Nat) (v1 : Int32) (v2 : Int32) (v3 : Int32) : nk_Sim G l RX12 cX12_revoke 4 (some FieldType.int) 4 92 false nk_eI 0 [(0, .inr (some t0)), (1, .inl v1), (2, .inl v2), (3, .inl v3)] [] h (f_X12_revoke  h t0 v1 v2 v3) := by
  unfold f_X12_revoke
  refine nr_aload_n 0 dX12_revoke_0 rfl ?_
  refine nr_aload_n 0 dX12_revoke_1 rfl ?_
  refine nr_iload_n 1 dX12_revoke_2 rfl ?_
  refine nr_iload_n 2 dX12_revoke_3 rfl ?_
  refine nr_iload_n 3 dX12_revoke_4 rfl ?_
  refine nr_rcv (ks := [19]) (pre := [.inl v3, .inl v2, .inl v1]) (fun a1 hm => ?_)
  refine nr_doI (st := [.inr (some t0)]) (nk_callV (q := (RX12, TX12, 45)) (ci := 12) (c_X12_errorOfRevoke (G := G) hl0 h a1 v1 v2 v3) dX12_revoke_5 (List.mem_singleton.mp hm) rfl rfl my_X12_errorOfRevoke im_X12_errorOfRevoke se_RX12_X12_errorOfRevoke ml_RX12_232 rfl rfl (Nat.le_of_ble_eq_true rfl) (by decide) (by decide)) (fun h2 x3 => ?_)
  refine nr_rcv (ks := [19]) (pre := [.inl x3]) (fun a4 hm => ?_)
  refine nr_doI (st := []) (nk_callV (q := (RX12, TX12, 45)) (ci := 12) (c_X12_holds (G := G) hl0 h2 a4 x3) dX12_revoke_8 (List.mem_singleton.mp hm) rfl rfl my_X12_holds im_X12_holds se_RX12_X12_holds ml_RX12_143 rfl rfl (Nat.le_of_ble_eq_true rfl) (by decide) (by decide)) (fun h5 x6 => ?_)
  refine nr_if_eq (tgt := 24) dX12_revoke_11 (by decide) (fun _ => ?_) (fun _ => ?_)
  · refine nr_iconst (v := 0) dX12_revoke_24 (by decide) ?_
    exact nk_locals [] rfl (s_X12_revoke_c25 hl0  h5 0)
  · refine nr_aload_n 0 dX12_revoke_14 rfl ?_
    refine nr_iload_n 1 dX12_revoke_15 rfl ?_
    refine nr_iconst (v := 1) dX12_revoke_16 (by decide) ?_
    refine nr_iload_n 3 dX12_revoke_17 rfl ?_
    refine nr_rcv (ks := [19]) (pre := [.inl v3, .inl 1, .inl v1]) (fun a7 hm => ?_)
    refine nr_doI (st := []) (nk_callV (q := (RX12, TX12, 45)) (ci := 12) (c_X12_makes (G := G) hl0 h5 a7 v1 1 v3) dX12_revoke_18 (List.mem_singleton.mp hm) rfl rfl my_X12_makes im_X12_makes se_RX12_X12_makes ml_RX12_203 rfl rfl (Nat.le_of_ble_eq_true rfl) (by decide) (by decide)) (fun h8 x9 => ?_)
    refine nr_goto (tgt := 25) dX12_revoke_21 (by decide) ?_
    exact nk_locals [] rfl (s_X12_revoke_c25 hl0  h8 x9)
theorem c_X12_revoke {G : nk_G} {l : Launch} (hl0 : l.flags = flags0) (h : nk_H) (t0 : Nat) (v1 : Int32) (v2 : Int32) (v3 : Int32) : nk_Con G l yX12_revoke cX12_revoke 4 (some FieldType.int) 4 92 nk_eI [.inr (some t0), .inl v1, .inl v2, .inl v3] h (f_X12_revoke h t0 v1 v2 v3) :=
  nk_con (ini := false) (by decide) hl0 (Nat.le_of_ble_eq_true rfl) (by decide) (s_X12_revoke hl0 h t0 v1 v2 v3)
set_option maxHeartbeats 4000000 in
theorem s_X12_isDeputed_c58 {G : nk_G} {l : Launch} (hl0 : l.flags = flags0) {r3 : nk_H → Nat → Int32 → Int32 → Int32 → Int32 → Option (nk_H × Int32)} (hr3 : ∀ (h : nk_H) (t0 : Nat) (v1 : Int32) (v2 : Int32) (v3 : Int32) (v4 : Int32), nk_Sim G l RX12 cX12_isDeputed 5 (some FieldType.boolean) 0 0 false nk_eI 3 [(0, .inr (some t0)), (1, .inl v1), (2, .inl v2), (3, .inl v3), (4, .inl v4)] [] h (r3 h t0 v1 v2 v3 v4)) (h : nk_H) (t0 : Nat) (v1 : Int32) (v2 : Int32) (v3 : Int32) (v4 : Int32)  : nk_Sim G l RX12 cX12_isDeputed 5 (some FieldType.boolean) 0 0 false nk_eI 58 [(0, .inr (some t0)), (1, .inl v1), (2, .inl v2), (3, .inl v3), (4, .inl v4)] [] h (f_X12_isDeputed_c58  r3 h t0 v1 v2 v3 v4 ) := by
  unfold f_X12_isDeputed_c58
  refine nr_iinc (lv2 := [(4, .inl (v4 + 1)), (0, .inr (some t0)), (1, .inl v1), (2, .inl v2), (3, .inl v3)]) 4 (v4 + 1) dX12_isDeputed_58 rfl (by rfl) (by decide) rfl ?_
  refine nr_goto (tgt := 3) dX12_isDeputed_61 (by decide) ?_
  exact nk_locals [1, 2, 3, 4, 0] rfl (hr3 h t0 v1 v2 v3 (v4 + 1))
set_option maxHeartbeats 4000000 in
theorem s_X12_isDeputed_c3 {G : nk_G} {l : Launch} (hl0 : l.flags = flags0) {r3 : nk_H → Nat → Int32 → Int32 → Int32 → Int32 → Option (nk_H × Int32)} (hr3 : ∀ (h : nk_H) (t0 : Nat) (v1 : Int32) (v2 : Int32) (v3 : Int32) (v4 : Int32), nk_Sim G l RX12 cX12_isDeputed 5 (some FieldType.boolean) 0 0 false nk_eI 3 [(0, .inr (some t0)), (1, .inl v1), (2, .inl v2), (3, .inl v3), (4, .inl v4)] [] h (r3 h t0 v1 v2 v3 v4)) (h : nk_H) (t0 : Nat) (v1 : Int32) (v2 : Int32) (v3 : Int32) (v4 : Int32)  : nk_Sim G l RX12 cX12_isDeputed 5 (some FieldType.boolean) 0 0 false nk_eI 3 [(0, .inr (some t0)), (1, .inl v1), (2, .inl v2), (3, .inl v3), (4, .inl v4)] [] h (f_X12_isDeputed_c3  r3 h t0 v1 v2 v3 v4 ) := by
  unfold f_X12_isDeputed_c3
  refine nr_iload 4 dX12_isDeputed_3 rfl ?_
  refine nr_aload_n 0 dX12_isDeputed_5 rfl ?_
  refine nr_getI [19] 3 dX12_isDeputed_6 fk_RX12_153 (fun x1 => ?_)
  refine nr_icmp_ge (tgt := 64) dX12_isDeputed_9 (by decide) (fun _ => ?_) (fun _ => ?_)
  · refine nr_iconst (v := 0) dX12_isDeputed_64 (by decide) ?_
    exact nr_zret rfl rfl dX12_isDeputed_65
  · refine nr_aload_n 0 dX12_isDeputed_12 rfl ?_
    refine nr_getP [19] 4 dX12_isDeputed_13 fk_RX12_13 (fun x2 => ?_)
    refine nr_iload 4 dX12_isDeputed_16 rfl ?_
    refine nr_iaload dX12_isDeputed_18 (fun x3 => ?_)
    refine nr_iconst (v := 2) dX12_isDeputed_19 (by decide) ?_
    refine nr_icmp_ne (tgt := 58) dX12_isDeputed_20 (by decide) (fun _ => ?_) (fun _ => ?_)
    · refine nr_aload_n 0 dX12_isDeputed_23 rfl ?_
      refine nr_getP [19] 7 dX12_isDeputed_24 fk_RX12_22 (fun x4 => ?_)
      refine nr_iload 4 dX12_isDeputed_27 rfl ?_
      refine nr_iaload dX12_isDeputed_29 (fun x5 => ?_)
      refine nr_iload_n 1 dX12_isDeputed_30 rfl ?_
      refine nr_icmp_ne (tgt := 58) dX12_isDeputed_31 (by decide) (fun _ => ?_) (fun _ => ?_)
      · refine nr_aload_n 0 dX12_isDeputed_34 rfl ?_
        refine nr_getP [19] 8 dX12_isDeputed_35 fk_RX12_25 (fun x6 => ?_)
        refine nr_iload 4 dX12_isDeputed_38 rfl ?_
        refine nr_iaload dX12_isDeputed_40 (fun x7 => ?_)
        refine nr_iload_n 3 dX12_isDeputed_41 rfl ?_
        refine nr_icmp_gt (tgt := 58) dX12_isDeputed_42 (by decide) (fun _ => ?_) (fun _ => ?_)
        · exact s_X12_isDeputed_c58 hl0 hr3 h t0 v1 v2 v3 v4
        · refine nr_aload_n 0 dX12_isDeputed_45 rfl ?_
          refine nr_getP [19] 9 dX12_isDeputed_46 fk_RX12_28 (fun x8 => ?_)
          refine nr_iload 4 dX12_isDeputed_49 rfl ?_
          refine nr_iaload dX12_isDeputed_51 (fun x9 => ?_)
          refine nr_iload_n 2 dX12_isDeputed_52 rfl ?_
          refine nr_icmp_lt (tgt := 58) dX12_isDeputed_53 (by decide) (fun _ => ?_) (fun _ => ?_)
          · exact s_X12_isDeputed_c58 hl0 hr3 h t0 v1 v2 v3 v4
          · refine nr_iconst (v := 1) dX12_isDeputed_56 (by decide) ?_
            exact nr_zret rfl rfl dX12_isDeputed_57
      · exact s_X12_isDeputed_c58 hl0 hr3 h t0 v1 v2 v3 v4
    · exact s_X12_isDeputed_c58 hl0 hr3 h t0 v1 v2 v3 v4
theorem s_X12_isDeputed_b3 {G : nk_G} {l : Launch} (hl0 : l.flags = flags0)   : ∀ (n : Nat) (h : nk_H) (t0 : Nat) (v1 : Int32) (v2 : Int32) (v3 : Int32) (v4 : Int32), nk_Sim G l RX12 cX12_isDeputed 5 (some FieldType.boolean) 0 0 false nk_eI 3 [(0, .inr (some t0)), (1, .inl v1), (2, .inl v2), (3, .inl v3), (4, .inl v4)] [] h (f_X12_isDeputed_b3   n h t0 v1 v2 v3 v4)
  | 0, _, _, _, _, _, _ => nk_none
  | n + 1, h, t0, v1, v2, v3, v4 => s_X12_isDeputed_c3 hl0 (s_X12_isDeputed_b3 hl0  n) h t0 v1 v2 v3 v4
set_option maxHeartbeats 4000000 in
theorem s_X12_isDeputed {G : nk_G} {l : Launch} (hl0 : l.flags = flags0) (h : nk_H) (t0 : Nat) (v1 : Int32) (v2 : Int32) (v3 : Int32) : nk_Sim G l RX12 cX12_isDeputed 5 (some FieldType.boolean) 0 0 false nk_eI 0 [(0, .inr (some t0)), (1, .inl v1), (2, .inl v2), (3, .inl v3)] [] h (f_X12_isDeputed  h t0 v1 v2 v3) := by
  unfold f_X12_isDeputed
  refine nr_iconst (v := 0) dX12_isDeputed_0 (by decide) ?_
  refine nr_istore (lv2 := [(4, .inl 0), (0, .inr (some t0)), (1, .inl v1), (2, .inl v2), (3, .inl v3)]) dX12_isDeputed_1 (by decide) rfl ?_
  exact nk_locals [1, 2, 3, 4, 0] rfl (s_X12_isDeputed_b3 hl0  4096 h t0 v1 v2 v3 0)
theorem c_X12_isDeputed {G : nk_G} {l : Launch} (hl0 : l.flags = flags0) (h : nk_H) (t0 : Nat) (v1 : Int32) (v2 : Int32) (v3 : Int32) : nk_Con G l yX12_isDeputed cX12_isDeputed 5 (some FieldType.boolean) 0 0 nk_eI [.inr (some t0), .inl v1, .inl v2, .inl v3] h (f_X12_isDeputed h t0 v1 v2 v3) :=
  nk_con (ini := false) (by decide) hl0 (Nat.le_of_ble_eq_true rfl) (by decide) (s_X12_isDeputed hl0 h t0 v1 v2 v3)
set_option maxHeartbeats 4000000 in
theorem s_X12_errorOfDepute_c82 {G : nk_G} {l : Launch} (hl0 : l.flags = flags0)   (h : nk_H)  (s0 : Int32) : nk_Sim G l RX12 cX12_errorOfDepute 5 (some FieldType.int) 2 42 false nk_eI 82 [] [.inl s0] h (f_X12_errorOfDepute_c82   h  s0) := by
  unfold f_X12_errorOfDepute_c82
  exact nr_iret rfl rfl dX12_errorOfDepute_82
set_option maxHeartbeats 4000000 in
theorem s_X12_errorOfDepute_c77 {G : nk_G} {l : Launch} (hl0 : l.flags = flags0)   (h : nk_H)   : nk_Sim G l RX12 cX12_errorOfDepute 5 (some FieldType.int) 2 42 false nk_eI 77 [] [] h (f_X12_errorOfDepute_c77   h  ) := by
  unfold f_X12_errorOfDepute_c77
  refine nr_iconst (v := 3) dX12_errorOfDepute_77 (by decide) ?_
  refine nr_goto (tgt := 82) dX12_errorOfDepute_78 (by decide) ?_
  exact s_X12_errorOfDepute_c82 hl0  h 3
set_option maxHeartbeats 4000000 in
theorem s_X12_errorOfDepute_c34 {G : nk_G} {l : Launch} (hl0 : l.flags = flags0)   (h : nk_H) (t0 : Nat) (v1 : Int32) (v2 : Int32) (v3 : Int32) (s0 : Int32) : nk_Sim G l RX12 cX12_errorOfDepute 5 (some FieldType.int) 2 42 false nk_eI 34 [(0, .inr (some t0)), (1, .inl v1), (2, .inl v2), (3, .inl v3)] [.inl s0] h (f_X12_errorOfDepute_c34   h t0 v1 v2 v3 s0) := by
  unfold f_X12_errorOfDepute_c34
  refine nr_istore (lv2 := [(4, .inl s0), (0, .inr (some t0)), (1, .inl v1), (2, .inl v2), (3, .inl v3)]) dX12_errorOfDepute_34 (by decide) rfl ?_
  refine nr_iload 0 dX12_errorOfDepute_36 rfl ?_
  refine nr_if_ne (tgt := 45) dX12_errorOfDepute_38 (by decide) (fun _ => ?_) (fun _ => ?_)
  · refine nr_iconst (v := 2) dX12_errorOfDepute_41 (by decide) ?_
    refine nr_goto (tgt := 82) dX12_errorOfDepute_42 (by decide) ?_
    exact nk_locals [] rfl (s_X12_errorOfDepute_c82 hl0  h 2)
  · refine nr_aload_n 1 dX12_errorOfDepute_45 rfl ?_
    refine nr_getI [19] 3 dX12_errorOfDepute_46 fk_RX12_153 (fun x1 => ?_)
    refine nr_sipush (v := 160) dX12_errorOfDepute_49 (by decide) ?_
    refine nr_icmp_eq (tgt := 77) dX12_errorOfDepute_52 (by decide) (fun _ => ?_) (fun _ => ?_)
    · exact nk_locals [] rfl (s_X12_errorOfDepute_c77 hl0  h)
    · refine nr_aload_n 1 dX12_errorOfDepute_55 rfl ?_
      refine nr_iload_n 2 dX12_errorOfDepute_56 rfl ?_
      refine nr_aload_n 1 dX12_errorOfDepute_57 rfl ?_
      refine nr_getI [19] 1 dX12_errorOfDepute_58 fk_RX12_150 (fun x2 => ?_)
      refine nr_iload_n 3 dX12_errorOfDepute_61 rfl ?_
      refine nr_iadd dX12_errorOfDepute_62 ?_
      refine nr_aload_n 1 dX12_errorOfDepute_63 rfl ?_
      refine nr_getI [19] 1 dX12_errorOfDepute_64 fk_RX12_150 (fun x3 => ?_)
      refine nr_iload_n 3 dX12_errorOfDepute_67 rfl ?_
      refine nr_iadd dX12_errorOfDepute_68 ?_
      refine nr_iload_n 4 dX12_errorOfDepute_69 rfl ?_
      refine nr_iadd dX12_errorOfDepute_70 ?_
      refine nr_rcv (ks := [19]) (pre := [.inl ((x3 + v2) + v3), .inl (x2 + v2), .inl v1]) (fun a4 hm => ?_)
      refine nr_doI (st := []) (nk_callV (q := (RX12, TX12, 45)) (ci := 12) (c_X12_isDeputed (G := G) hl0 h a4 v1 (x2 + v2) ((x3 + v2) + v3)) dX12_errorOfDepute_71 (List.mem_singleton.mp hm) rfl rfl my_X12_isDeputed im_X12_isDeputed se_RX12_X12_isDeputed ml_RX12_235 rfl rfl (Nat.le_of_ble_eq_true rfl) (by decide) (by decide)) (fun h5 x6 => ?_)
      refine nr_if_eq (tgt := 81) dX12_errorOfDepute_74 (by decide) (fun _ => ?_) (fun _ => ?_)
      · refine nr_iconst (v := 0) dX12_errorOfDepute_81 (by decide) ?_
        exact nk_locals [] rfl (s_X12_errorOfDepute_c82 hl0  h5 0)
      · exact nk_locals [] rfl (s_X12_errorOfDepute_c77 hl0  h5)
set_option maxHeartbeats 4000000 in
theorem s_X12_errorOfDepute_c33 {G : nk_G} {l : Launch} (hl0 : l.flags = flags0)   (h : nk_H) (t0 : Nat) (v1 : Int32) (v2 : Int32) (v3 : Int32)  : nk_Sim G l RX12 cX12_errorOfDepute 5 (some FieldType.int) 2 42 false nk_eI 33 [(0, .inr (some t0)), (1, .inl v1), (2, .inl v2), (3, .inl v3)] [] h (f_X12_errorOfDepute_c33   h t0 v1 v2 v3 ) := by
  unfold f_X12_errorOfDepute_c33
  refine nr_iconst (v := 0) dX12_errorOfDepute_33 (by decide) ?_
  exact s_X12_errorOfDepute_c34 hl0  h t0 v1 v2 v3 0
set_option maxHeartbeats 4000000 in
theorem s_X12_errorOfDepute {G : nk_G} {l : Launch} (hl0 : l.flags = flags0) (h : nk_H) (t0 : Nat) (v1 : Int32) (v2 : Int32) (v3 : Int32) : nk_Sim G l RX12 cX12_errorOfDepute 5 (some FieldType.int) 2 42 false nk_eI 0 [(0, .inr (some t0)), (1, .inl v1), (2, .inl v2), (3, .inl v3)] [] h (f_X12_errorOfDepute  h t0 v1 v2 v3) := by
  unfold f_X12_errorOfDepute
  refine nr_iload_n 1 dX12_errorOfDepute_0 rfl ?_
  refine nr_doI (st := []) (nk_callS (c_X12_isKiosk (G := G) hl0 h v1) dX12_errorOfDepute_1 my_X12_isKiosk st_X12_isKiosk ml_RX12_131 rfl rfl (Nat.le_of_ble_eq_true rfl) (by decide) (by decide)) (fun h7 x8 => ?_)
  refine nr_if_ne (tgt := 9) dX12_errorOfDepute_4 (by decide) (fun _ => ?_) (fun _ => ?_)
  · refine nr_iconst (v := 1) dX12_errorOfDepute_7 (by decide) ?_
    exact nr_iret rfl rfl dX12_errorOfDepute_8
  · refine nr_iload_n 2 dX12_errorOfDepute_9 rfl ?_
    refine nr_iconst (v := 0) dX12_errorOfDepute_10 (by decide) ?_
    refine nr_bipush (v := 100) dX12_errorOfDepute_11 (by decide) ?_
    refine nr_doI (st := []) (nk_callS (c_X12_in (G := G) hl0 h7 v2 0 100) dX12_errorOfDepute_13 my_X12_in st_X12_in ml_RX12_124 rfl rfl (Nat.le_of_ble_eq_true rfl) (by decide) (by decide)) (fun h9 x10 => ?_)
    refine nr_if_eq (tgt := 33) dX12_errorOfDepute_16 (by decide) (fun _ => ?_) (fun _ => ?_)
    · exact s_X12_errorOfDepute_c33 hl0  h9 t0 v1 v2 v3
    · refine nr_iload_n 3 dX12_errorOfDepute_19 rfl ?_
      refine nr_iconst (v := 0) dX12_errorOfDepute_20 (by decide) ?_
      refine nr_bipush (v := 100) dX12_errorOfDepute_21 (by decide) ?_
      refine nr_doI (st := []) (nk_callS (c_X12_in (G := G) hl0 h9 v3 0 100) dX12_errorOfDepute_23 my_X12_in st_X12_in ml_RX12_124 rfl rfl (Nat.le_of_ble_eq_true rfl) (by decide) (by decide)) (fun h11 x12 => ?_)
      refine nr_if_eq (tgt := 33) dX12_errorOfDepute_26 (by decide) (fun _ => ?_) (fun _ => ?_)
      · exact s_X12_errorOfDepute_c33 hl0  h11 t0 v1 v2 v3
      · refine nr_iconst (v := 1) dX12_errorOfDepute_29 (by decide) ?_
        refine nr_goto (tgt := 34) dX12_errorOfDepute_30 (by decide) ?_
        exact s_X12_errorOfDepute_c34 hl0  h11 t0 v1 v2 v3 1
theorem c_X12_errorOfDepute {G : nk_G} {l : Launch} (hl0 : l.flags = flags0) (h : nk_H) (t0 : Nat) (v1 : Int32) (v2 : Int32) (v3 : Int32) : nk_Con G l yX12_errorOfDepute cX12_errorOfDepute 5 (some FieldType.int) 2 42 nk_eI [.inr (some t0), .inl v1, .inl v2, .inl v3] h (f_X12_errorOfDepute h t0 v1 v2 v3) :=
  nk_con (ini := false) (by decide) hl0 (Nat.le_of_ble_eq_true rfl) (by decide) (s_X12_errorOfDepute hl0 h t0 v1 v2 v3)
set_option maxHeartbeats 4000000 in
theorem s_X12_depute {G : nk_G} {l : Launch} (hl0 : l.flags = flags0) (h : nk_H) (t0 : Nat) (v1 : Int32) (v2 : Int32) (v3 : Int32) : nk_Sim G l RX12 cX12_depute 4 (some FieldType.int) 3 66 false nk_eI 0 [(0, .inr (some t0)), (1, .inl v1), (2, .inl v2), (3, .inl v3)] [] h (f_X12_depute  h t0 v1 v2 v3) := by
  unfold f_X12_depute
  refine nr_aload_n 0 dX12_depute_0 rfl ?_
  refine nr_aload_n 0 dX12_depute_1 rfl ?_
  refine nr_iload_n 1 dX12_depute_2 rfl ?_
  refine nr_iload_n 2 dX12_depute_3 rfl ?_
  refine nr_iload_n 3 dX12_depute_4 rfl ?_
  refine nr_rcv (ks := [19]) (pre := [.inl v3, .inl v2, .inl v1]) (fun a1 hm => ?_)
  refine nr_doI (st := [.inr (some t0)]) (nk_callV (q := (RX12, TX12, 45)) (ci := 12) (c_X12_errorOfDepute (G := G) hl0 h a1 v1 v2 v3) dX12_depute_5 (List.mem_singleton.mp hm) rfl rfl my_X12_errorOfDepute im_X12_errorOfDepute se_RX12_X12_errorOfDepute ml_RX12_238 rfl rfl (Nat.le_of_ble_eq_true rfl) (by decide) (by decide)) (fun h2 x3 => ?_)
  refine nr_rcv (ks := [19]) (pre := [.inl x3]) (fun a4 hm => ?_)
  refine nr_doI (st := []) (nk_callV (q := (RX12, TX12, 45)) (ci := 12) (c_X12_holds (G := G) hl0 h2 a4 x3) dX12_depute_8 (List.mem_singleton.mp hm) rfl rfl my_X12_holds im_X12_holds se_RX12_X12_holds ml_RX12_143 rfl rfl (Nat.le_of_ble_eq_true rfl) (by decide) (by decide)) (fun h5 x6 => ?_)
  refine nr_if_ne (tgt := 16) dX12_depute_11 (by decide) (fun _ => ?_) (fun _ => ?_)
  · refine nr_iconst (v := 0) dX12_depute_14 (by decide) ?_
    exact nr_iret rfl rfl dX12_depute_15
  · refine nr_aload_n 0 dX12_depute_16 rfl ?_
    refine nr_getP [19] 8 dX12_depute_17 fk_RX12_25 (fun x7 => ?_)
    refine nr_aload_n 0 dX12_depute_20 rfl ?_
    refine nr_getI [19] 3 dX12_depute_21 fk_RX12_153 (fun x8 => ?_)
    refine nr_aload_n 0 dX12_depute_24 rfl ?_
    refine nr_getI [19] 1 dX12_depute_25 fk_RX12_150 (fun x9 => ?_)
    refine nr_iload_n 2 dX12_depute_28 rfl ?_
    refine nr_iadd dX12_depute_29 ?_
    refine nr_iastore dX12_depute_30 (fun h10 => ?_)
    refine nr_aload_n 0 dX12_depute_31 rfl ?_
    refine nr_getP [19] 9 dX12_depute_32 fk_RX12_28 (fun x11 => ?_)
    refine nr_aload_n 0 dX12_depute_35 rfl ?_
    refine nr_getI [19] 3 dX12_depute_36 fk_RX12_153 (fun x12 => ?_)
    refine nr_aload_n 0 dX12_depute_39 rfl ?_
    refine nr_getI [19] 1 dX12_depute_40 fk_RX12_150 (fun x13 => ?_)
    refine nr_iload_n 2 dX12_depute_43 rfl ?_
    refine nr_iadd dX12_depute_44 ?_
    refine nr_iload_n 3 dX12_depute_45 rfl ?_
    refine nr_iadd dX12_depute_46 ?_
    refine nr_iastore dX12_depute_47 (fun h14 => ?_)
    refine nr_aload_n 0 dX12_depute_48 rfl ?_
    refine nr_iconst (v := 0) dX12_depute_49 (by decide) ?_
    refine nr_iconst (v := 2) dX12_depute_50 (by decide) ?_
    refine nr_iload_n 1 dX12_depute_51 rfl ?_
    refine nr_rcv (ks := [19]) (pre := [.inl v1, .inl 2, .inl 0]) (fun a15 hm => ?_)
    refine nr_doI (st := []) (nk_callV (q := (RX12, TX12, 45)) (ci := 12) (c_X12_makes (G := G) hl0 h14 a15 0 2 v1) dX12_depute_52 (List.mem_singleton.mp hm) rfl rfl my_X12_makes im_X12_makes se_RX12_X12_makes ml_RX12_203 rfl rfl (Nat.le_of_ble_eq_true rfl) (by decide) (by decide)) (fun h16 x17 => ?_)
    exact nr_iret rfl rfl dX12_depute_55
theorem c_X12_depute {G : nk_G} {l : Launch} (hl0 : l.flags = flags0) (h : nk_H) (t0 : Nat) (v1 : Int32) (v2 : Int32) (v3 : Int32) : nk_Con G l yX12_depute cX12_depute 4 (some FieldType.int) 3 66 nk_eI [.inr (some t0), .inl v1, .inl v2, .inl v3] h (f_X12_depute h t0 v1 v2 v3) :=
  nk_con (ini := false) (by decide) hl0 (Nat.le_of_ble_eq_true rfl) (by decide) (s_X12_depute hl0 h t0 v1 v2 v3)
set_option maxHeartbeats 4000000 in
theorem s_X12_sealed {G : nk_G} {l : Launch} (hl0 : l.flags = flags0) (h : nk_H) (v0 : Int32) (v1 : Int32) : nk_Sim G l RX12 cX12_sealed 2 (some FieldType.int) 0 0 false nk_eI 0 [(0, .inl v0), (1, .inl v1)] [] h (f_X12_sealed  h v0 v1) := by
  unfold f_X12_sealed
  refine nr_sipush (v := 131) dX12_sealed_0 (by decide) ?_
  refine nr_iload_n 0 dX12_sealed_3 rfl ?_
  refine nr_imul dX12_sealed_4 ?_
  refine nr_bipush (v := 17) dX12_sealed_5 (by decide) ?_
  refine nr_iload_n 1 dX12_sealed_7 rfl ?_
  refine nr_imul dX12_sealed_8 ?_
  refine nr_iadd dX12_sealed_9 ?_
  refine nr_bipush (v := 7) dX12_sealed_10 (by decide) ?_
  refine nr_iadd dX12_sealed_12 ?_
  refine nr_ldc (v := 1000003) dX12_sealed_13 kc_RX12_241 ?_
  refine nr_irem dX12_sealed_15 (by decide) ?_
  exact nr_iret rfl rfl dX12_sealed_16
theorem c_X12_sealed {G : nk_G} {l : Launch} (hl0 : l.flags = flags0) (h : nk_H) (v0 : Int32) (v1 : Int32) : nk_Con G l yX12_sealed cX12_sealed 2 (some FieldType.int) 0 0 nk_eI [.inl v0, .inl v1] h (f_X12_sealed h v0 v1) :=
  nk_con (ini := false) (by decide) hl0 (Nat.le_of_ble_eq_true rfl) (by decide) (s_X12_sealed hl0 h v0 v1)
set_option maxHeartbeats 4000000 in
theorem s_X12_markOf {G : nk_G} {l : Launch} (hl0 : l.flags = flags0) (h : nk_H) (v0 : Int32) (v1 : Int32) (v2 : Int32) (v3 : Int32) : nk_Sim G l RX12 cX12_markOf 4 (some FieldType.int) 1 21 false nk_eI 0 [(0, .inl v0), (1, .inl v1), (2, .inl v2), (3, .inl v3)] [] h (f_X12_markOf  h v0 v1 v2 v3) := by
  unfold f_X12_markOf
  refine nr_sipush (v := 7919) dX12_markOf_0 (by decide) ?_
  refine nr_iload_n 0 dX12_markOf_3 rfl ?_
  refine nr_imul dX12_markOf_4 ?_
  refine nr_sipush (v := 613) dX12_markOf_5 (by decide) ?_
  refine nr_iload_n 1 dX12_markOf_8 rfl ?_
  refine nr_imul dX12_markOf_9 ?_
  refine nr_iadd dX12_markOf_10 ?_
  refine nr_bipush (v := 97) dX12_markOf_11 (by decide) ?_
  refine nr_iload_n 2 dX12_markOf_13 rfl ?_
  refine nr_imul dX12_markOf_14 ?_
  refine nr_iadd dX12_markOf_15 ?_
  refine nr_iload_n 3 dX12_markOf_16 rfl ?_
  refine nr_doI (st := []) (nk_callS (c_X12_sealed (G := G) hl0 h (((7919 * v0) + (613 * v1)) + (97 * v2)) v3) dX12_markOf_17 my_X12_sealed st_X12_sealed ml_RX12_242 rfl rfl (Nat.le_of_ble_eq_true rfl) (by decide) (by decide)) (fun h1 x2 => ?_)
  exact nr_iret rfl rfl dX12_markOf_20
theorem c_X12_markOf {G : nk_G} {l : Launch} (hl0 : l.flags = flags0) (h : nk_H) (v0 : Int32) (v1 : Int32) (v2 : Int32) (v3 : Int32) : nk_Con G l yX12_markOf cX12_markOf 4 (some FieldType.int) 1 21 nk_eI [.inl v0, .inl v1, .inl v2, .inl v3] h (f_X12_markOf h v0 v1 v2 v3) :=
  nk_con (ini := false) (by decide) hl0 (Nat.le_of_ble_eq_true rfl) (by decide) (s_X12_markOf hl0 h v0 v1 v2 v3)
set_option maxHeartbeats 4000000 in
theorem s_X12_sealAhead_c31 {G : nk_G} {l : Launch} (hl0 : l.flags = flags0)   (h : nk_H)  (s0 : Int32) : nk_Sim G l RX12 cX12_sealAhead 3 (some FieldType.int) 0 0 false nk_eI 31 [] [.inl s0] h (f_X12_sealAhead_c31   h  s0) := by
  unfold f_X12_sealAhead_c31
  exact nr_iret rfl rfl dX12_sealAhead_31
set_option maxHeartbeats 4000000 in
theorem s_X12_sealAhead {G : nk_G} {l : Launch} (hl0 : l.flags = flags0) (h : nk_H) (t0 : Nat) (v1 : Int32) (v2 : Int32) : nk_Sim G l RX12 cX12_sealAhead 3 (some FieldType.int) 0 0 false nk_eI 0 [(0, .inr (some t0)), (1, .inl v1), (2, .inl v2)] [] h (f_X12_sealAhead  h t0 v1 v2) := by
  unfold f_X12_sealAhead
  refine nr_iload_n 2 dX12_sealAhead_0 rfl ?_
  refine nr_if_ne (tgt := 12) dX12_sealAhead_1 (by decide) (fun _ => ?_) (fun _ => ?_)
  · refine nr_sipush (v := 1000) dX12_sealAhead_4 (by decide) ?_
    refine nr_iload_n 1 dX12_sealAhead_7 rfl ?_
    refine nr_iadd dX12_sealAhead_8 ?_
    refine nr_goto (tgt := 31) dX12_sealAhead_9 (by decide) ?_
    exact nk_locals [] rfl (s_X12_sealAhead_c31 hl0  h (1000 + v1))
  · refine nr_aload_n 0 dX12_sealAhead_12 rfl ?_
    refine nr_getP [19] 35 dX12_sealAhead_13 fk_RX12_94 (fun x1 => ?_)
    refine nr_aload_n 0 dX12_sealAhead_16 rfl ?_
    refine nr_getP [19] 31 dX12_sealAhead_17 fk_RX12_82 (fun x2 => ?_)
    refine nr_sipush (v := 160) dX12_sealAhead_20 (by decide) ?_
    refine nr_iload_n 1 dX12_sealAhead_23 rfl ?_
    refine nr_imul dX12_sealAhead_24 ?_
    refine nr_iload_n 2 dX12_sealAhead_25 rfl ?_
    refine nr_iadd dX12_sealAhead_26 ?_
    refine nr_iconst (v := 1) dX12_sealAhead_27 (by decide) ?_
    refine nr_isub dX12_sealAhead_28 ?_
    refine nr_iaload dX12_sealAhead_29 (fun x3 => ?_)
    refine nr_iaload dX12_sealAhead_30 (fun x4 => ?_)
    exact nk_locals [] rfl (s_X12_sealAhead_c31 hl0  h x4)
theorem c_X12_sealAhead {G : nk_G} {l : Launch} (hl0 : l.flags = flags0) (h : nk_H) (t0 : Nat) (v1 : Int32) (v2 : Int32) : nk_Con G l yX12_sealAhead cX12_sealAhead 3 (some FieldType.int) 0 0 nk_eI [.inr (some t0), .inl v1, .inl v2] h (f_X12_sealAhead h t0 v1 v2) :=
  nk_con (ini := false) (by decide) hl0 (Nat.le_of_ble_eq_true rfl) (by decide) (s_X12_sealAhead hl0 h t0 v1 v2)
set_option maxHeartbeats 4000000 in
theorem s_X12_sealNow_c5 {G : nk_G} {l : Launch} (hl0 : l.flags = flags0) {r5 : nk_H → Nat → Int32 → Int32 → Int32 → Int32 → Option (nk_H × Int32)} (hr5 : ∀ (h : nk_H) (t0 : Nat) (v1 : Int32) (v2 : Int32) (v3 : Int32) (v4 : Int32), nk_Sim G l RX12 cX12_sealNow 5 (some FieldType.int) 2 44 false nk_eI 5 [(0, .inr (some t0)), (1, .inl v1), (2, .inl v2), (3, .inl v3), (4, .inl v4)] [] h (r5 h t0 v1 v2 v3 v4)) (h : nk_H) (t0 : Nat) (v1 : Int32) (v2 : Int32) (v3 : Int32) (v4 : Int32)  : nk_Sim G l RX12 cX12_sealNow 5 (some FieldType.int) 2 44 false nk_eI 5 [(0, .inr (some t0)), (1, .inl v1), (2, .inl v2), (3, .inl v3), (4, .inl v4)] [] h (f_X12_sealNow_c5  r5 h t0 v1 v2 v3 v4 ) := by
  unfold f_X12_sealNow_c5
  refine nr_iload 4 dX12_sealNow_5 rfl ?_
  refine nr_bipush (v := 6) dX12_sealNow_7 (by decide) ?_
  refine nr_icmp_ge (tgt := 53) dX12_sealNow_9 (by decide) (fun _ => ?_) (fun _ => ?_)
  · refine nr_aload_n 0 dX12_sealNow_53 rfl ?_
    refine nr_iload_n 1 dX12_sealNow_54 rfl ?_
    refine nr_iload_n 2 dX12_sealNow_55 rfl ?_
    refine nr_rcv (ks := [19]) (pre := [.inl v2, .inl v1]) (fun a1 hm => ?_)
    refine nr_doI (st := []) (nk_callV (q := (RX12, TX12, 45)) (ci := 12) (c_X12_sealAhead (G := G) hl0 h a1 v1 v2) dX12_sealNow_56 (List.mem_singleton.mp hm) rfl rfl my_X12_sealAhead im_X12_sealAhead se_RX12_X12_sealAhead ml_RX12_248 rfl rfl (Nat.le_of_ble_eq_true rfl) (by decide) (by decide)) (fun h2 x3 => ?_)
    refine nr_iload_n 3 dX12_sealNow_59 rfl ?_
    refine nr_doI (st := []) (nk_callS (c_X12_sealed (G := G) hl0 h2 x3 v3) dX12_sealNow_60 my_X12_sealed st_X12_sealed ml_RX12_242 rfl rfl (Nat.le_of_ble_eq_true rfl) (by decide) (by decide)) (fun h4 x5 => ?_)
    exact nr_iret rfl rfl dX12_sealNow_63
  · refine nr_iload_n 3 dX12_sealNow_12 rfl ?_
    refine nr_iload_n 1 dX12_sealNow_13 rfl ?_
    refine nr_iload_n 2 dX12_sealNow_14 rfl ?_
    refine nr_iload 4 dX12_sealNow_15 rfl ?_
    refine nr_aload_n 0 dX12_sealNow_17 rfl ?_
    refine nr_getP [19] 33 dX12_sealNow_18 fk_RX12_88 (fun x6 => ?_)
    refine nr_bipush (v := 6) dX12_sealNow_21 (by decide) ?_
    refine nr_aload_n 0 dX12_sealNow_23 rfl ?_
    refine nr_getP [19] 31 dX12_sealNow_24 fk_RX12_82 (fun x7 => ?_)
    refine nr_sipush (v := 160) dX12_sealNow_27 (by decide) ?_
    refine nr_iload_n 1 dX12_sealNow_30 rfl ?_
    refine nr_imul dX12_sealNow_31 ?_
    refine nr_iload_n 2 dX12_sealNow_32 rfl ?_
    refine nr_iadd dX12_sealNow_33 ?_
    refine nr_iaload dX12_sealNow_34 (fun x8 => ?_)
    refine nr_imul dX12_sealNow_35 ?_
    refine nr_iload 4 dX12_sealNow_36 rfl ?_
    refine nr_iadd dX12_sealNow_38 ?_
    refine nr_iaload dX12_sealNow_39 (fun x9 => ?_)
    refine nr_doI (st := [.inl v3]) (nk_callS (c_X12_markOf (G := G) hl0 h v1 v2 v4 x9) dX12_sealNow_40 my_X12_markOf st_X12_markOf ml_RX12_245 rfl rfl (Nat.le_of_ble_eq_true rfl) (by decide) (by decide)) (fun h10 x11 => ?_)
    refine nr_doI (st := []) (nk_callS (c_X12_sealed (G := G) hl0 h10 v3 x11) dX12_sealNow_43 my_X12_sealed st_X12_sealed ml_RX12_242 rfl rfl (Nat.le_of_ble_eq_true rfl) (by decide) (by decide)) (fun h12 x13 => ?_)
    refine nr_istore_n (lv2 := [(3, .inl x13), (0, .inr (some t0)), (1, .inl v1), (2, .inl v2), (4, .inl v4)]) dX12_sealNow_46 (by decide) rfl ?_
    refine nr_iinc (lv2 := [(4, .inl (v4 + 1)), (3, .inl x13), (0, .inr (some t0)), (1, .inl v1), (2, .inl v2)]) 4 (v4 + 1) dX12_sealNow_47 rfl (by rfl) (by decide) rfl ?_
    refine nr_goto (tgt := 5) dX12_sealNow_50 (by decide) ?_
    exact nk_locals [2, 3, 4, 1, 0] rfl (hr5 h12 t0 v1 v2 x13 (v4 + 1))
theorem s_X12_sealNow_b5 {G : nk_G} {l : Launch} (hl0 : l.flags = flags0)   : ∀ (n : Nat) (h : nk_H) (t0 : Nat) (v1 : Int32) (v2 : Int32) (v3 : Int32) (v4 : Int32), nk_Sim G l RX12 cX12_sealNow 5 (some FieldType.int) 2 44 false nk_eI 5 [(0, .inr (some t0)), (1, .inl v1), (2, .inl v2), (3, .inl v3), (4, .inl v4)] [] h (f_X12_sealNow_b5   n h t0 v1 v2 v3 v4)
  | 0, _, _, _, _, _, _ => nk_none
  | n + 1, h, t0, v1, v2, v3, v4 => s_X12_sealNow_c5 hl0 (s_X12_sealNow_b5 hl0  n) h t0 v1 v2 v3 v4
set_option maxHeartbeats 4000000 in
theorem s_X12_sealNow {G : nk_G} {l : Launch} (hl0 : l.flags = flags0) (h : nk_H) (t0 : Nat) (v1 : Int32) (v2 : Int32) : nk_Sim G l RX12 cX12_sealNow 5 (some FieldType.int) 2 44 false nk_eI 0 [(0, .inr (some t0)), (1, .inl v1), (2, .inl v2)] [] h (f_X12_sealNow  h t0 v1 v2) := by
  unfold f_X12_sealNow
  refine nr_iconst (v := 1) dX12_sealNow_0 (by decide) ?_
  refine nr_istore_n (lv2 := [(3, .inl 1), (0, .inr (some t0)), (1, .inl v1), (2, .inl v2)]) dX12_sealNow_1 (by decide) rfl ?_
  refine nr_iconst (v := 0) dX12_sealNow_2 (by decide) ?_
  refine nr_istore (lv2 := [(4, .inl 0), (3, .inl 1), (0, .inr (some t0)), (1, .inl v1), (2, .inl v2)]) dX12_sealNow_3 (by decide) rfl ?_
  exact nk_locals [2, 3, 4, 1, 0] rfl (s_X12_sealNow_b5 hl0  4096 h t0 v1 v2 1 0)
theorem c_X12_sealNow {G : nk_G} {l : Launch} (hl0 : l.flags = flags0) (h : nk_H) (t0 : Nat) (v1 : Int32) (v2 : Int32) : nk_Con G l yX12_sealNow cX12_sealNow 5 (some FieldType.int) 2 44 nk_eI [.inr (some t0), .inl v1, .inl v2] h (f_X12_sealNow h t0 v1 v2) :=
  nk_con (ini := false) (by decide) hl0 (Nat.le_of_ble_eq_true rfl) (by decide) (s_X12_sealNow hl0 h t0 v1 v2)
set_option maxHeartbeats 4000000 in
theorem s_X12_prepare_c40 {G : nk_G} {l : Launch} (hl0 : l.flags = flags0)   (h : nk_H)   : nk_Sim G l RX12 cX12_prepare 3 (none : Option FieldType) 1 22 false nk_eV 40 [] [] h (f_X12_prepare_c40   h  ) := by
  unfold f_X12_prepare_c40
  exact nr_vret rfl rfl dX12_prepare_40
set_option maxHeartbeats 4000000 in
theorem s_X12_prepare_c24 {G : nk_G} {l : Launch} (hl0 : l.flags = flags0)   (h : nk_H) (t0 : Nat) (v1 : Int32) (v2 : Int32) (s0 : Int32) (s1 : Option Nat) : nk_Sim G l RX12 cX12_prepare 3 (none : Option FieldType) 1 22 false nk_eV 24 [(0, .inr (some t0)), (1, .inl v1), (2, .inl v2)] [.inl s0, .inr s1] h (f_X12_prepare_c24   h t0 v1 v2 s0 s1) := by
  unfold f_X12_prepare_c24
  refine nr_rcv (ks := [19]) (pre := [.inl s0]) (fun a1 hm => ?_)
  refine nr_doI (st := []) (nk_callV (q := (RX12, TX12, 45)) (ci := 12) (c_X12_holds (G := G) hl0 h a1 s0) dX12_prepare_24 (List.mem_singleton.mp hm) rfl rfl my_X12_holds im_X12_holds se_RX12_X12_holds ml_RX12_143 rfl rfl (Nat.le_of_ble_eq_true rfl) (by decide) (by decide)) (fun h2 x3 => ?_)
  refine nr_if_eq (tgt := 40) dX12_prepare_27 (by decide) (fun _ => ?_) (fun _ => ?_)
  · exact nk_locals [] rfl (s_X12_prepare_c40 hl0  h2)
  · refine nr_aload_n 0 dX12_prepare_30 rfl ?_
    refine nr_iload_n 1 dX12_prepare_31 rfl ?_
    refine nr_putI [19] 27 dX12_prepare_32 fk_RX12_193 fw_RX12_193_n (fun h4 => ?_)
    refine nr_aload_n 0 dX12_prepare_35 rfl ?_
    refine nr_iload_n 2 dX12_prepare_36 rfl ?_
    refine nr_putI [19] 28 dX12_prepare_37 fk_RX12_190 fw_RX12_190_n (fun h5 => ?_)
    exact nk_locals [] rfl (s_X12_prepare_c40 hl0  h5)
set_option maxHeartbeats 4000000 in
theorem s_X12_prepare_c23 {G : nk_G} {l : Launch} (hl0 : l.flags = flags0)   (h : nk_H) (t0 : Nat) (v1 : Int32) (v2 : Int32) (s0 : Option Nat) : nk_Sim G l RX12 cX12_prepare 3 (none : Option FieldType) 1 22 false nk_eV 23 [(0, .inr (some t0)), (1, .inl v1), (2, .inl v2)] [.inr s0] h (f_X12_prepare_c23   h t0 v1 v2 s0) := by
  unfold f_X12_prepare_c23
  refine nr_iconst (v := 1) dX12_prepare_23 (by decide) ?_
  exact s_X12_prepare_c24 hl0  h t0 v1 v2 1 s0
set_option maxHeartbeats 4000000 in
theorem s_X12_prepare {G : nk_G} {l : Launch} (hl0 : l.flags = flags0) (h : nk_H) (t0 : Nat) (v1 : Int32) (v2 : Int32) : nk_Sim G l RX12 cX12_prepare 3 (none : Option FieldType) 1 22 false nk_eV 0 [(0, .inr (some t0)), (1, .inl v1), (2, .inl v2)] [] h (f_X12_prepare  h t0 v1 v2) := by
  unfold f_X12_prepare
  refine nr_aload_n 0 dX12_prepare_0 rfl ?_
  refine nr_iload_n 1 dX12_prepare_1 rfl ?_
  refine nr_iconst (v := 0) dX12_prepare_2 (by decide) ?_
  refine nr_iconst (v := 1) dX12_prepare_3 (by decide) ?_
  refine nr_doI (st := [.inr (some t0)]) (nk_callS (c_X12_in (G := G) hl0 h v1 0 1) dX12_prepare_4 my_X12_in st_X12_in ml_RX12_124 rfl rfl (Nat.le_of_ble_eq_true rfl) (by decide) (by decide)) (fun h6 x7 => ?_)
  refine nr_if_eq (tgt := 23) dX12_prepare_7 (by decide) (fun _ => ?_) (fun _ => ?_)
  · exact s_X12_prepare_c23 hl0  h6 t0 v1 v2 (some t0)
  · refine nr_iload_n 2 dX12_prepare_10 rfl ?_
    refine nr_iconst (v := 0) dX12_prepare_11 (by decide) ?_
    refine nr_iconst (v := 5) dX12_prepare_12 (by decide) ?_
    refine nr_doI (st := [.inr (some t0)]) (nk_callS (c_X12_in (G := G) hl0 h6 v2 0 5) dX12_prepare_13 my_X12_in st_X12_in ml_RX12_124 rfl rfl (Nat.le_of_ble_eq_true rfl) (by decide) (by decide)) (fun h8 x9 => ?_)
    refine nr_if_eq (tgt := 23) dX12_prepare_16 (by decide) (fun _ => ?_) (fun _ => ?_)
    · exact s_X12_prepare_c23 hl0  h8 t0 v1 v2 (some t0)
    · refine nr_iconst (v := 0) dX12_prepare_19 (by decide) ?_
      refine nr_goto (tgt := 24) dX12_prepare_20 (by decide) ?_
      exact s_X12_prepare_c24 hl0  h8 t0 v1 v2 0 (some t0)
theorem c_X12_prepare {G : nk_G} {l : Launch} (hl0 : l.flags = flags0) (h : nk_H) (t0 : Nat) (v1 : Int32) (v2 : Int32) : nk_Con G l yX12_prepare cX12_prepare 3 (none : Option FieldType) 1 22 nk_eV [.inr (some t0), .inl v1, .inl v2] h (f_X12_prepare h t0 v1 v2) :=
  nk_con (ini := false) (by decide) hl0 (Nat.le_of_ble_eq_true rfl) (by decide) (s_X12_prepare hl0 h t0 v1 v2)
set_option maxHeartbeats 4000000 in
theorem s_X12_areThere_c27 {G : nk_G} {l : Launch} (hl0 : l.flags = flags0)   (h : nk_H)  (s0 : Int32) : nk_Sim G l RX12 cX12_areThere 4 (some FieldType.boolean) 2 43 false nk_eI 27 [] [.inl s0] h (f_X12_areThere_c27   h  s0) := by
  unfold f_X12_areThere_c27
  exact nr_zret rfl rfl dX12_areThere_27
set_option maxHeartbeats 4000000 in
theorem s_X12_areThere_c26 {G : nk_G} {l : Launch} (hl0 : l.flags = flags0)   (h : nk_H)   : nk_Sim G l RX12 cX12_areThere 4 (some FieldType.boolean) 2 43 false nk_eI 26 [] [] h (f_X12_areThere_c26   h  ) := by
  unfold f_X12_areThere_c26
  refine nr_iconst (v := 0) dX12_areThere_26 (by decide) ?_
  exact s_X12_areThere_c27 hl0  h 0
set_option maxHeartbeats 4000000 in
theorem s_X12_areThere {G : nk_G} {l : Launch} (hl0 : l.flags = flags0) (h : nk_H) (t0 : Nat) (v1 : Int32) (v2 : Int32) (v3 : Int32) : nk_Sim G l RX12 cX12_areThere 4 (some FieldType.boolean) 2 43 false nk_eI 0 [(0, .inr (some t0)), (1, .inl v1), (2, .inl v2), (3, .inl v3)] [] h (f_X12_areThere  h t0 v1 v2 v3) := by
  unfold f_X12_areThere
  refine nr_iload_n 1 dX12_areThere_0 rfl ?_
  refine nr_doI (st := []) (nk_callS (c_X12_isKiosk (G := G) hl0 h v1) dX12_areThere_1 my_X12_isKiosk st_X12_isKiosk ml_RX12_131 rfl rfl (Nat.le_of_ble_eq_true rfl) (by decide) (by decide)) (fun h1 x2 => ?_)
  refine nr_if_eq (tgt := 26) dX12_areThere_4 (by decide) (fun _ => ?_) (fun _ => ?_)
  · exact nk_locals [] rfl (s_X12_areThere_c26 hl0  h1)
  · refine nr_iload_n 2 dX12_areThere_7 rfl ?_
    refine nr_doI (st := []) (nk_callS (c_X12_isPerson (G := G) hl0 h1 v2) dX12_areThere_8 my_X12_isPerson st_X12_isPerson ml_RX12_206 rfl rfl (Nat.le_of_ble_eq_true rfl) (by decide) (by decide)) (fun h3 x4 => ?_)
    refine nr_if_eq (tgt := 26) dX12_areThere_11 (by decide) (fun _ => ?_) (fun _ => ?_)
    · exact nk_locals [] rfl (s_X12_areThere_c26 hl0  h3)
    · refine nr_aload_n 0 dX12_areThere_14 rfl ?_
      refine nr_iload_n 3 dX12_areThere_15 rfl ?_
      refine nr_rcv (ks := [19]) (pre := [.inl v3]) (fun a5 hm => ?_)
      refine nr_doI (st := []) (nk_callV (q := (RX12, TX12, 45)) (ci := 12) (c_X12_isPower (G := G) hl0 h3 a5 v3) dX12_areThere_16 (List.mem_singleton.mp hm) rfl rfl my_X12_isPower im_X12_isPower se_RX12_X12_isPower ml_RX12_217 rfl rfl (Nat.le_of_ble_eq_true rfl) (by decide) (by decide)) (fun h6 x7 => ?_)
      refine nr_if_eq (tgt := 26) dX12_areThere_19 (by decide) (fun _ => ?_) (fun _ => ?_)
      · exact nk_locals [] rfl (s_X12_areThere_c26 hl0  h6)
      · refine nr_iconst (v := 1) dX12_areThere_22 (by decide) ?_
        refine nr_goto (tgt := 27) dX12_areThere_23 (by decide) ?_
        exact nk_locals [] rfl (s_X12_areThere_c27 hl0  h6 1)
theorem c_X12_areThere {G : nk_G} {l : Launch} (hl0 : l.flags = flags0) (h : nk_H) (t0 : Nat) (v1 : Int32) (v2 : Int32) (v3 : Int32) : nk_Con G l yX12_areThere cX12_areThere 4 (some FieldType.boolean) 2 43 nk_eI [.inr (some t0), .inl v1, .inl v2, .inl v3] h (f_X12_areThere h t0 v1 v2 v3) :=
  nk_con (ini := false) (by decide) hl0 (Nat.le_of_ble_eq_true rfl) (by decide) (s_X12_areThere hl0 h t0 v1 v2 v3)
set_option maxHeartbeats 4000000 in
theorem s_X12_errorOfAct_c55 {G : nk_G} {l : Launch} (hl0 : l.flags = flags0)   (h : nk_H)  (s0 : Int32) : nk_Sim G l RX12 cX12_errorOfAct 5 (some FieldType.int) 6 146 false nk_eI 55 [] [.inl s0] h (f_X12_errorOfAct_c55   h  s0) := by
  unfold f_X12_errorOfAct_c55
  exact nr_iret rfl rfl dX12_errorOfAct_55
set_option maxHeartbeats 4000000 in
theorem s_X12_errorOfAct_c50 {G : nk_G} {l : Launch} (hl0 : l.flags = flags0)   (h : nk_H)   : nk_Sim G l RX12 cX12_errorOfAct 5 (some FieldType.int) 6 146 false nk_eI 50 [] [] h (f_X12_errorOfAct_c50   h  ) := by
  unfold f_X12_errorOfAct_c50
  refine nr_iconst (v := 3) dX12_errorOfAct_50 (by decide) ?_
  refine nr_goto (tgt := 55) dX12_errorOfAct_51 (by decide) ?_
  exact s_X12_errorOfAct_c55 hl0  h 3
set_option maxHeartbeats 4000000 in
theorem s_X12_errorOfAct {G : nk_G} {l : Launch} (hl0 : l.flags = flags0) (h : nk_H) (t0 : Nat) (v1 : Int32) (v2 : Int32) (v3 : Int32) (v4 : Int32) : nk_Sim G l RX12 cX12_errorOfAct 5 (some FieldType.int) 6 146 false nk_eI 0 [(0, .inr (some t0)), (1, .inl v1), (2, .inl v2), (3, .inl v3), (4, .inl v4)] [] h (f_X12_errorOfAct  h t0 v1 v2 v3 v4) := by
  unfold f_X12_errorOfAct
  refine nr_aload_n 0 dX12_errorOfAct_0 rfl ?_
  refine nr_iload_n 1 dX12_errorOfAct_1 rfl ?_
  refine nr_iload_n 2 dX12_errorOfAct_2 rfl ?_
  refine nr_iload_n 3 dX12_errorOfAct_3 rfl ?_
  refine nr_rcv (ks := [19]) (pre := [.inl v3, .inl v2, .inl v1]) (fun a1 hm => ?_)
  refine nr_doI (st := []) (nk_callV (q := (RX12, TX12, 45)) (ci := 12) (c_X12_areThere (G := G) hl0 h a1 v1 v2 v3) dX12_errorOfAct_4 (List.mem_singleton.mp hm) rfl rfl my_X12_areThere im_X12_areThere se_RX12_X12_areThere ml_RX12_251 rfl rfl (Nat.le_of_ble_eq_true rfl) (by decide) (by decide)) (fun h2 x3 => ?_)
  refine nr_if_ne (tgt := 12) dX12_errorOfAct_7 (by decide) (fun _ => ?_) (fun _ => ?_)
  · refine nr_iconst (v := 1) dX12_errorOfAct_10 (by decide) ?_
    exact nr_iret rfl rfl dX12_errorOfAct_11
  · refine nr_iload 4 dX12_errorOfAct_12 rfl ?_
    refine nr_iconst (v := 1) dX12_errorOfAct_14 (by decide) ?_
    refine nr_sipush (v := 10000) dX12_errorOfAct_15 (by decide) ?_
    refine nr_doI (st := []) (nk_callS (c_X12_in (G := G) hl0 h2 v4 1 10000) dX12_errorOfAct_18 my_X12_in st_X12_in ml_RX12_124 rfl rfl (Nat.le_of_ble_eq_true rfl) (by decide) (by decide)) (fun h4 x5 => ?_)
    refine nr_if_ne (tgt := 28) dX12_errorOfAct_21 (by decide) (fun _ => ?_) (fun _ => ?_)
    · refine nr_iconst (v := 2) dX12_errorOfAct_24 (by decide) ?_
      refine nr_goto (tgt := 55) dX12_errorOfAct_25 (by decide) ?_
      exact nk_locals [] rfl (s_X12_errorOfAct_c55 hl0  h4 2)
    · refine nr_aload_n 0 dX12_errorOfAct_28 rfl ?_
      refine nr_getI [19] 3 dX12_errorOfAct_29 fk_RX12_153 (fun x6 => ?_)
      refine nr_sipush (v := 160) dX12_errorOfAct_32 (by decide) ?_
      refine nr_icmp_eq (tgt := 50) dX12_errorOfAct_35 (by decide) (fun _ => ?_) (fun _ => ?_)
      · exact nk_locals [] rfl (s_X12_errorOfAct_c50 hl0  h4)
      · refine nr_aload_n 0 dX12_errorOfAct_38 rfl ?_
        refine nr_iload_n 1 dX12_errorOfAct_39 rfl ?_
        refine nr_iload_n 2 dX12_errorOfAct_40 rfl ?_
        refine nr_iload_n 3 dX12_errorOfAct_41 rfl ?_
        refine nr_iload 4 dX12_errorOfAct_42 rfl ?_
        refine nr_rcv (ks := [19]) (pre := [.inl v4, .inl v3, .inl v2, .inl v1]) (fun a7 hm => ?_)
        refine nr_doI (st := []) (nk_callV (q := (RX12, TX12, 45)) (ci := 12) (c_X12_reasonNow (G := G) hl0 h4 a7 v1 v2 v3 v4) dX12_errorOfAct_44 (List.mem_singleton.mp hm) rfl rfl my_X12_reasonNow im_X12_reasonNow se_RX12_X12_reasonNow ml_RX12_254 rfl rfl (Nat.le_of_ble_eq_true rfl) (by decide) (by decide)) (fun h8 x9 => ?_)
        refine nr_if_le (tgt := 54) dX12_errorOfAct_47 (by decide) (fun _ => ?_) (fun _ => ?_)
        · refine nr_iconst (v := 0) dX12_errorOfAct_54 (by decide) ?_
          exact nk_locals [] rfl (s_X12_errorOfAct_c55 hl0  h8 0)
        · exact nk_locals [] rfl (s_X12_errorOfAct_c50 hl0  h8)
theorem c_X12_errorOfAct {G : nk_G} {l : Launch} (hl0 : l.flags = flags0) (h : nk_H) (t0 : Nat) (v1 : Int32) (v2 : Int32) (v3 : Int32) (v4 : Int32) : nk_Con G l yX12_errorOfAct cX12_errorOfAct 5 (some FieldType.int) 6 146 nk_eI [.inr (some t0), .inl v1, .inl v2, .inl v3, .inl v4] h (f_X12_errorOfAct h t0 v1 v2 v3 v4) :=
  nk_con (ini := false) (by decide) hl0 (Nat.le_of_ble_eq_true rfl) (by decide) (s_X12_errorOfAct hl0 h t0 v1 v2 v3 v4)
set_option maxHeartbeats 4000000 in
theorem s_X12_faultOf {G : nk_G} {l : Launch} (hl0 : l.flags = flags0) (h : nk_H) (t0 : Nat) (v1 : Int32) : nk_Sim G l RX12 cX12_faultOf 4 (some FieldType.int) 5 122 false nk_eI 0 [(0, .inr (some t0)), (1, .inl v1)] [] h (f_X12_faultOf  h t0 v1) := by
  unfold f_X12_faultOf
  refine nr_aload_n 0 dX12_faultOf_0 rfl ?_
  refine nr_getP [19] 32 dX12_faultOf_1 fk_RX12_85 (fun x1 => ?_)
  refine nr_iload_n 1 dX12_faultOf_4 rfl ?_
  refine nr_iaload dX12_faultOf_5 (fun x2 => ?_)
  refine nr_istore_n (lv2 := [(2, .inl x2), (0, .inr (some t0)), (1, .inl v1)]) dX12_faultOf_6 (by decide) rfl ?_
  refine nr_bipush (v := 6) dX12_faultOf_7 (by decide) ?_
  refine nr_iload_n 2 dX12_faultOf_9 rfl ?_
  refine nr_imul dX12_faultOf_10 ?_
  refine nr_istore_n (lv2 := [(3, .inl (6 * v1)), (2, .inl x2), (0, .inr (some t0)), (1, .inl v1)]) dX12_faultOf_11 (by decide) rfl ?_
  refine nr_aload_n 2 dX12_faultOf_12 rfl ?_
  refine nr_bipush (v := 6) dX12_faultOf_13 (by decide) ?_
  refine nr_iload_n 1 dX12_faultOf_15 rfl ?_
  refine nr_iadd dX12_faultOf_16 ?_
  refine nr_aload_n 2 dX12_faultOf_17 rfl ?_
  refine nr_getP [19] 5 dX12_faultOf_18 fk_RX12_16 (fun x3 => ?_)
  refine nr_iload_n 1 dX12_faultOf_21 rfl ?_
  refine nr_iaload dX12_faultOf_22 (fun x4 => ?_)
  refine nr_aload_n 2 dX12_faultOf_23 rfl ?_
  refine nr_getP [19] 6 dX12_faultOf_24 fk_RX12_19 (fun x5 => ?_)
  refine nr_iload_n 1 dX12_faultOf_27 rfl ?_
  refine nr_iaload dX12_faultOf_28 (fun x6 => ?_)
  refine nr_aload_n 2 dX12_faultOf_29 rfl ?_
  refine nr_getP [19] 33 dX12_faultOf_30 fk_RX12_88 (fun x7 => ?_)
  refine nr_iload_n 0 dX12_faultOf_33 rfl ?_
  refine nr_iaload dX12_faultOf_34 (fun x8 => ?_)
  refine nr_aload_n 2 dX12_faultOf_35 rfl ?_
  refine nr_getP [19] 33 dX12_faultOf_36 fk_RX12_88 (fun x9 => ?_)
  refine nr_iload_n 0 dX12_faultOf_39 rfl ?_
  refine nr_iconst (v := 1) dX12_faultOf_40 (by decide) ?_
  refine nr_iadd dX12_faultOf_41 ?_
  refine nr_iaload dX12_faultOf_42 (fun x10 => ?_)
  refine nr_aload_n 2 dX12_faultOf_43 rfl ?_
  refine nr_getP [19] 33 dX12_faultOf_44 fk_RX12_88 (fun x11 => ?_)
  refine nr_iload_n 0 dX12_faultOf_47 rfl ?_
  refine nr_iconst (v := 2) dX12_faultOf_48 (by decide) ?_
  refine nr_iadd dX12_faultOf_49 ?_
  refine nr_iaload dX12_faultOf_50 (fun x12 => ?_)
  refine nr_aload_n 2 dX12_faultOf_51 rfl ?_
  refine nr_getP [19] 34 dX12_faultOf_52 fk_RX12_91 (fun x13 => ?_)
  refine nr_iload_n 3 dX12_faultOf_55 rfl ?_
  refine nr_iaload dX12_faultOf_56 (fun x14 => ?_)
  refine nr_aload_n 2 dX12_faultOf_57 rfl ?_
  refine nr_getP [19] 33 dX12_faultOf_58 fk_RX12_88 (fun x15 => ?_)
  refine nr_iload_n 0 dX12_faultOf_61 rfl ?_
  refine nr_iconst (v := 4) dX12_faultOf_62 (by decide) ?_
  refine nr_iadd dX12_faultOf_63 ?_
  refine nr_iaload dX12_faultOf_64 (fun x16 => ?_)
  refine nr_rcv (ks := [19]) (pre := [.inl x16, .inl x14, .inl x12, .inl x10, .inl x8, .inl x6, .inl x4, .inl (6 + x2)]) (fun a17 hm => ?_)
  refine nr_doI (st := []) (nk_callV (q := (RX12, TX12, 45)) (ci := 12) (c_X12_reason (G := G) hl0 h a17 (6 + x2) x4 x6 x8 x10 x12 x14 x16) dX12_faultOf_65 (List.mem_singleton.mp hm) rfl rfl my_X12_reason im_X12_reason se_RX12_X12_reason ml_RX12_196 rfl rfl (Nat.le_of_ble_eq_true rfl) (by decide) (by decide)) (fun h18 x19 => ?_)
  exact nr_iret rfl rfl dX12_faultOf_68
theorem c_X12_faultOf {G : nk_G} {l : Launch} (hl0 : l.flags = flags0) (h : nk_H) (t0 : Nat) (v1 : Int32) : nk_Con G l yX12_faultOf cX12_faultOf 4 (some FieldType.int) 5 122 nk_eI [.inr (some t0), .inl v1] h (f_X12_faultOf h t0 v1) :=
  nk_con (ini := false) (by decide) hl0 (Nat.le_of_ble_eq_true rfl) (by decide) (s_X12_faultOf hl0 h t0 v1)
set_option maxHeartbeats 4000000 in
theorem s_X12_act_c190 {G : nk_G} {l : Launch} (hl0 : l.flags = flags0)   (h : nk_H) (t0 : Nat) (v1 : Int32) (s0 : Int32) (s1 : Int32) (s2 : Option Nat) : nk_Sim G l RX12 cX12_act 6 (some FieldType.int) 7 170 false nk_eI 190 [(0, .inr (some t0)), (1, .inl v1)] [.inl s0, .inl s1, .inr s2] h (f_X12_act_c190   h t0 v1 s0 s1 s2) := by
  unfold f_X12_act_c190
  refine nr_bastore dX12_act_190 (fun h1 => ?_)
  refine nr_aload_n 0 dX12_act_191 rfl ?_
  refine nr_dup dX12_act_192 ?_
  refine nr_getI [19] 29 dX12_act_193 fk_RX12_260 (fun x2 => ?_)
  refine nr_iconst (v := 1) dX12_act_196 (by decide) ?_
  refine nr_iadd dX12_act_197 ?_
  refine nr_putI [19] 29 dX12_act_198 fk_RX12_260 fw_RX12_260_n (fun h3 => ?_)
  refine nr_aload_n 0 dX12_act_201 rfl ?_
  refine nr_getP [19] 30 dX12_act_202 fk_RX12_79 (fun x4 => ?_)
  refine nr_iload_n 1 dX12_act_205 rfl ?_
  refine nr_dup2 dX12_act_206 ?_
  refine nr_iaload dX12_act_207 (fun x5 => ?_)
  refine nr_iconst (v := 1) dX12_act_208 (by decide) ?_
  refine nr_iadd dX12_act_209 ?_
  refine nr_iastore dX12_act_210 (fun h6 => ?_)
  refine nr_aload_n 0 dX12_act_211 rfl ?_
  refine nr_getP [19] 30 dX12_act_212 fk_RX12_79 (fun x7 => ?_)
  refine nr_iload_n 1 dX12_act_215 rfl ?_
  refine nr_iaload dX12_act_216 (fun x8 => ?_)
  refine nr_iconst (v := 1) dX12_act_217 (by decide) ?_
  refine nr_isub dX12_act_218 ?_
  exact nr_iret rfl rfl dX12_act_219
set_option maxHeartbeats 4000000 in
theorem s_X12_act {G : nk_G} {l : Launch} (hl0 : l.flags = flags0) (h : nk_H) (t0 : Nat) (v1 : Int32) (v2 : Int32) (v3 : Int32) (v4 : Int32) : nk_Sim G l RX12 cX12_act 6 (some FieldType.int) 7 170 false nk_eI 0 [(0, .inr (some t0)), (1, .inl v1), (2, .inl v2), (3, .inl v3), (4, .inl v4)] [] h (f_X12_act  h t0 v1 v2 v3 v4) := by
  unfold f_X12_act
  refine nr_aload_n 0 dX12_act_0 rfl ?_
  refine nr_aload_n 0 dX12_act_1 rfl ?_
  refine nr_iload_n 1 dX12_act_2 rfl ?_
  refine nr_iload_n 2 dX12_act_3 rfl ?_
  refine nr_iload_n 3 dX12_act_4 rfl ?_
  refine nr_iload 4 dX12_act_5 rfl ?_
  refine nr_rcv (ks := [19]) (pre := [.inl v4, .inl v3, .inl v2, .inl v1]) (fun a9 hm => ?_)
  refine nr_doI (st := [.inr (some t0)]) (nk_callV (q := (RX12, TX12, 45)) (ci := 12) (c_X12_errorOfAct (G := G) hl0 h a9 v1 v2 v3 v4) dX12_act_7 (List.mem_singleton.mp hm) rfl rfl my_X12_errorOfAct im_X12_errorOfAct se_RX12_X12_errorOfAct ml_RX12_257 rfl rfl (Nat.le_of_ble_eq_true rfl) (by decide) (by decide)) (fun h10 x11 => ?_)
  refine nr_rcv (ks := [19]) (pre := [.inl x11]) (fun a12 hm => ?_)
  refine nr_doI (st := []) (nk_callV (q := (RX12, TX12, 45)) (ci := 12) (c_X12_holds (G := G) hl0 h10 a12 x11) dX12_act_10 (List.mem_singleton.mp hm) rfl rfl my_X12_holds im_X12_holds se_RX12_X12_holds ml_RX12_143 rfl rfl (Nat.le_of_ble_eq_true rfl) (by decide) (by decide)) (fun h13 x14 => ?_)
  refine nr_if_ne (tgt := 18) dX12_act_13 (by decide) (fun _ => ?_) (fun _ => ?_)
  · refine nr_iconst (v := 0) dX12_act_16 (by decide) ?_
    exact nr_iret rfl rfl dX12_act_17
  · refine nr_bipush (v := 6) dX12_act_18 (by decide) ?_
    refine nr_aload_n 0 dX12_act_20 rfl ?_
    refine nr_getI [19] 29 dX12_act_21 fk_RX12_260 (fun x15 => ?_)
    refine nr_imul dX12_act_24 ?_
    refine nr_istore (lv2 := [(5, .inl (6 * x15)), (0, .inr (some t0)), (1, .inl v1), (2, .inl v2), (3, .inl v3), (4, .inl v4)]) dX12_act_25 (by decide) rfl ?_
    refine nr_aload_n 1 dX12_act_27 rfl ?_
    refine nr_getP [19] 33 dX12_act_28 fk_RX12_88 (fun x16 => ?_)
    refine nr_iload 0 dX12_act_31 rfl ?_
    refine nr_iload_n 3 dX12_act_33 rfl ?_
    refine nr_iastore dX12_act_34 (fun h17 => ?_)
    refine nr_aload_n 1 dX12_act_35 rfl ?_
    refine nr_getP [19] 33 dX12_act_36 fk_RX12_88 (fun x18 => ?_)
    refine nr_iload 0 dX12_act_39 rfl ?_
    refine nr_iconst (v := 1) dX12_act_41 (by decide) ?_
    refine nr_iadd dX12_act_42 ?_
    refine nr_iload_n 4 dX12_act_43 rfl ?_
    refine nr_iastore dX12_act_44 (fun h19 => ?_)
    refine nr_aload_n 1 dX12_act_45 rfl ?_
    refine nr_getP [19] 33 dX12_act_46 fk_RX12_88 (fun x20 => ?_)
    refine nr_iload 0 dX12_act_49 rfl ?_
    refine nr_iconst (v := 2) dX12_act_51 (by decide) ?_
    refine nr_iadd dX12_act_52 ?_
    refine nr_aload_n 1 dX12_act_53 rfl ?_
    refine nr_getI [19] 28 dX12_act_54 fk_RX12_190 (fun x21 => ?_)
    refine nr_iastore dX12_act_57 (fun h22 => ?_)
    refine nr_aload_n 1 dX12_act_58 rfl ?_
    refine nr_getP [19] 33 dX12_act_59 fk_RX12_88 (fun x23 => ?_)
    refine nr_iload 0 dX12_act_62 rfl ?_
    refine nr_iconst (v := 3) dX12_act_64 (by decide) ?_
    refine nr_iadd dX12_act_65 ?_
    refine nr_iload 5 dX12_act_66 rfl ?_
    refine nr_iastore dX12_act_68 (fun h24 => ?_)
    refine nr_aload_n 1 dX12_act_69 rfl ?_
    refine nr_getP [19] 33 dX12_act_70 fk_RX12_88 (fun x25 => ?_)
    refine nr_iload 0 dX12_act_73 rfl ?_
    refine nr_iconst (v := 4) dX12_act_75 (by decide) ?_
    refine nr_iadd dX12_act_76 ?_
    refine nr_aload_n 1 dX12_act_77 rfl ?_
    refine nr_getI [19] 27 dX12_act_78 fk_RX12_193 (fun x26 => ?_)
    refine nr_iastore dX12_act_81 (fun h27 => ?_)
    refine nr_aload_n 1 dX12_act_82 rfl ?_
    refine nr_getP [19] 33 dX12_act_83 fk_RX12_88 (fun x28 => ?_)
    refine nr_iload 0 dX12_act_86 rfl ?_
    refine nr_iconst (v := 5) dX12_act_88 (by decide) ?_
    refine nr_iadd dX12_act_89 ?_
    refine nr_aload_n 1 dX12_act_90 rfl ?_
    refine nr_getI [19] 1 dX12_act_91 fk_RX12_150 (fun x29 => ?_)
    refine nr_iastore dX12_act_94 (fun h30 => ?_)
    refine nr_aload_n 1 dX12_act_95 rfl ?_
    refine nr_getP [19] 34 dX12_act_96 fk_RX12_91 (fun x31 => ?_)
    refine nr_aload_n 1 dX12_act_99 rfl ?_
    refine nr_getI [19] 29 dX12_act_100 fk_RX12_260 (fun x32 => ?_)
    refine nr_iload 5 dX12_act_103 rfl ?_
    refine nr_iastore dX12_act_105 (fun h33 => ?_)
    refine nr_aload_n 1 dX12_act_106 rfl ?_
    refine nr_getP [19] 32 dX12_act_107 fk_RX12_85 (fun x34 => ?_)
    refine nr_aload_n 1 dX12_act_110 rfl ?_
    refine nr_getI [19] 29 dX12_act_111 fk_RX12_260 (fun x35 => ?_)
    refine nr_aload_n 1 dX12_act_114 rfl ?_
    refine nr_iload_n 2 dX12_act_115 rfl ?_
    refine nr_iconst (v := 3) dX12_act_116 (by decide) ?_
    refine nr_aload_n 1 dX12_act_117 rfl ?_
    refine nr_getI [19] 29 dX12_act_118 fk_RX12_260 (fun x36 => ?_)
    refine nr_rcv (ks := [19]) (pre := [.inl x36, .inl 3, .inl v1]) (fun a37 hm => ?_)
    refine nr_doI (st := [.inl x35, .inr x34]) (nk_callV (q := (RX12, TX12, 45)) (ci := 12) (c_X12_makes (G := G) hl0 h33 a37 v1 3 x36) dX12_act_121 (List.mem_singleton.mp hm) rfl rfl my_X12_makes im_X12_makes se_RX12_X12_makes ml_RX12_203 rfl rfl (Nat.le_of_ble_eq_true rfl) (by decide) (by decide)) (fun h38 x39 => ?_)
    refine nr_iastore dX12_act_124 (fun h40 => ?_)
    refine nr_aload_n 1 dX12_act_125 rfl ?_
    refine nr_getP [19] 31 dX12_act_126 fk_RX12_82 (fun x41 => ?_)
    refine nr_sipush (v := 160) dX12_act_129 (by decide) ?_
    refine nr_iload_n 2 dX12_act_132 rfl ?_
    refine nr_imul dX12_act_133 ?_
    refine nr_aload_n 1 dX12_act_134 rfl ?_
    refine nr_getP [19] 30 dX12_act_135 fk_RX12_79 (fun x42 => ?_)
    refine nr_iload_n 2 dX12_act_138 rfl ?_
    refine nr_iaload dX12_act_139 (fun x43 => ?_)
    refine nr_iadd dX12_act_140 ?_
    refine nr_aload_n 1 dX12_act_141 rfl ?_
    refine nr_getI [19] 29 dX12_act_142 fk_RX12_260 (fun x44 => ?_)
    refine nr_iastore dX12_act_145 (fun h45 => ?_)
    refine nr_aload_n 1 dX12_act_146 rfl ?_
    refine nr_getP [19] 35 dX12_act_147 fk_RX12_94 (fun x46 => ?_)
    refine nr_aload_n 1 dX12_act_150 rfl ?_
    refine nr_getI [19] 29 dX12_act_151 fk_RX12_260 (fun x47 => ?_)
    refine nr_aload_n 1 dX12_act_154 rfl ?_
    refine nr_iload_n 2 dX12_act_155 rfl ?_
    refine nr_aload_n 1 dX12_act_156 rfl ?_
    refine nr_getP [19] 30 dX12_act_157 fk_RX12_79 (fun x48 => ?_)
    refine nr_iload_n 2 dX12_act_160 rfl ?_
    refine nr_iaload dX12_act_161 (fun x49 => ?_)
    refine nr_rcv (ks := [19]) (pre := [.inl x49, .inl v1]) (fun a50 hm => ?_)
    refine nr_doI (st := [.inl x47, .inr x46]) (nk_callV (q := (RX12, TX12, 45)) (ci := 12) (c_X12_sealNow (G := G) hl0 h45 a50 v1 x49) dX12_act_162 (List.mem_singleton.mp hm) rfl rfl my_X12_sealNow im_X12_sealNow se_RX12_X12_sealNow ml_RX12_263 rfl rfl (Nat.le_of_ble_eq_true rfl) (by decide) (by decide)) (fun h51 x52 => ?_)
    refine nr_iastore dX12_act_165 (fun h53 => ?_)
    refine nr_aload_n 1 dX12_act_166 rfl ?_
    refine nr_getP [19] 36 dX12_act_167 fk_RX12_97 (fun x54 => ?_)
    refine nr_aload_n 1 dX12_act_170 rfl ?_
    refine nr_getI [19] 29 dX12_act_171 fk_RX12_260 (fun x55 => ?_)
    refine nr_aload_n 1 dX12_act_174 rfl ?_
    refine nr_aload_n 1 dX12_act_175 rfl ?_
    refine nr_getI [19] 29 dX12_act_176 fk_RX12_260 (fun x56 => ?_)
    refine nr_rcv (ks := [19]) (pre := [.inl x56]) (fun a57 hm => ?_)
    refine nr_doI (st := [.inl x55, .inr x54]) (nk_callV (q := (RX12, TX12, 45)) (ci := 12) (c_X12_faultOf (G := G) hl0 h53 a57 x56) dX12_act_179 (List.mem_singleton.mp hm) rfl rfl my_X12_faultOf im_X12_faultOf se_RX12_X12_faultOf ml_RX12_266 rfl rfl (Nat.le_of_ble_eq_true rfl) (by decide) (by decide)) (fun h58 x59 => ?_)
    refine nr_if_ne (tgt := 189) dX12_act_182 (by decide) (fun _ => ?_) (fun _ => ?_)
    · refine nr_iconst (v := 1) dX12_act_185 (by decide) ?_
      refine nr_goto (tgt := 190) dX12_act_186 (by decide) ?_
      exact nk_locals [1, 2] rfl (s_X12_act_c190 hl0  h58 t0 v1 1 x55 x54)
    · refine nr_iconst (v := 0) dX12_act_189 (by decide) ?_
      exact nk_locals [1, 2] rfl (s_X12_act_c190 hl0  h58 t0 v1 0 x55 x54)
theorem c_X12_act {G : nk_G} {l : Launch} (hl0 : l.flags = flags0) (h : nk_H) (t0 : Nat) (v1 : Int32) (v2 : Int32) (v3 : Int32) (v4 : Int32) : nk_Con G l yX12_act cX12_act 6 (some FieldType.int) 7 170 nk_eI [.inr (some t0), .inl v1, .inl v2, .inl v3, .inl v4] h (f_X12_act h t0 v1 v2 v3 v4) :=
  nk_con (ini := false) (by decide) hl0 (Nat.le_of_ble_eq_true rfl) (by decide) (s_X12_act hl0 h t0 v1 v2 v3 v4)
