set_option maxHeartbeats 4000000 in
theorem s_X12_beyond_c45 {G : nk_G} {l : Launch} (hl0 : l.flags = flags0)   (h : nk_H)  (s0 : Int32) : nk_Sim G l RX12 cX12_beyond 3 (some FieldType.int) 3 70 false nk_eI 45 [] [.inl s0] h (f_X12_beyond_c45   h  s0) := by
  unfold f_X12_beyond_c45
  exact nr_iret rfl rfl dX12_beyond_45
set_option maxHeartbeats 4000000 in
theorem s_X12_beyond_c14 {G : nk_G} {l : Launch} (hl0 : l.flags = flags0)   (h : nk_H) (t0 : Nat) (v1 : Int32) (s0 : Int32) (s1 : Option Nat) : nk_Sim G l RX12 cX12_beyond 3 (some FieldType.int) 3 70 false nk_eI 14 [(0, .inr (some t0)), (1, .inl v1)] [.inl s0, .inr s1] h (f_X12_beyond_c14   h t0 v1 s0 s1) := by
  unfold f_X12_beyond_c14
  refine nr_rcv (ks := [19]) (pre := [.inl s0]) (fun a1 hm => ?_)
  refine nr_doI (st := []) (nk_callV (q := (RX12, TX12, 45)) (ci := 12) (c_X12_holds (G := G) hl0 h a1 s0) dX12_beyond_14 (List.mem_singleton.mp hm) rfl rfl my_X12_holds im_X12_holds se_RX12_X12_holds ml_RX12_143 rfl rfl (Nat.le_of_ble_eq_true rfl) (by decide) (by decide)) (fun h2 x3 => ?_)
  refine nr_if_ne (tgt := 22) dX12_beyond_17 (by decide) (fun _ => ?_) (fun _ => ?_)
  · refine nr_iconst (v := 0) dX12_beyond_20 (by decide) ?_
    exact nr_iret rfl rfl dX12_beyond_21
  · refine nr_aload_n 0 dX12_beyond_22 rfl ?_
    refine nr_iconst (v := (-1)) dX12_beyond_23 (by decide) ?_
    refine nr_iload_n 1 dX12_beyond_24 rfl ?_
    refine nr_rcv (ks := [19]) (pre := [.inl v1, .inl (-1)]) (fun a4 hm => ?_)
    refine nr_doI (st := []) (nk_callV (q := (RX12, TX12, 45)) (ci := 12) (c_X12_doneWith (G := G) hl0 h2 a4 (-1) v1) dX12_beyond_25 (List.mem_singleton.mp hm) rfl rfl my_X12_doneWith im_X12_doneWith se_RX12_X12_doneWith ml_RX12_169 rfl rfl (Nat.le_of_ble_eq_true rfl) (by decide) (by decide)) (fun h5 x6 => ?_)
    refine nr_aload_n 0 dX12_beyond_28 rfl ?_
    refine nr_getP [19] 19 dX12_beyond_29 fk_RX12_56 (fun x7 => ?_)
    refine nr_iload_n 1 dX12_beyond_32 rfl ?_
    refine nr_iaload dX12_beyond_33 (fun x8 => ?_)
    refine nr_isub dX12_beyond_34 ?_
    refine nr_istore_n (lv2 := [(2, .inl (x6 - x8)), (0, .inr (some t0)), (1, .inl v1)]) dX12_beyond_35 (by decide) rfl ?_
    refine nr_iload_n 0 dX12_beyond_36 rfl ?_
    refine nr_if_le (tgt := 44) dX12_beyond_37 (by decide) (fun _ => ?_) (fun _ => ?_)
    · refine nr_iconst (v := 0) dX12_beyond_44 (by decide) ?_
      exact nk_locals [] rfl (s_X12_beyond_c45 hl0  h5 0)
    · refine nr_iload_n 0 dX12_beyond_40 rfl ?_
      refine nr_goto (tgt := 45) dX12_beyond_41 (by decide) ?_
      exact nk_locals [] rfl (s_X12_beyond_c45 hl0  h5 (x6 - x8))
set_option maxHeartbeats 4000000 in
theorem s_X12_beyond {G : nk_G} {l : Launch} (hl0 : l.flags = flags0) (h : nk_H) (t0 : Nat) (v1 : Int32) : nk_Sim G l RX12 cX12_beyond 3 (some FieldType.int) 3 70 false nk_eI 0 [(0, .inr (some t0)), (1, .inl v1)] [] h (f_X12_beyond  h t0 v1) := by
  unfold f_X12_beyond
  refine nr_aload_n 0 dX12_beyond_0 rfl ?_
  refine nr_aload_n 0 dX12_beyond_1 rfl ?_
  refine nr_iload_n 1 dX12_beyond_2 rfl ?_
  refine nr_rcv (ks := [19]) (pre := [.inl v1]) (fun a9 hm => ?_)
  refine nr_doI (st := [.inr (some t0)]) (nk_callV (q := (RX12, TX12, 45)) (ci := 12) (c_X12_isPower (G := G) hl0 h a9 v1) dX12_beyond_3 (List.mem_singleton.mp hm) rfl rfl my_X12_isPower im_X12_isPower se_RX12_X12_isPower ml_RX12_217 rfl rfl (Nat.le_of_ble_eq_true rfl) (by decide) (by decide)) (fun h10 x11 => ?_)
  refine nr_if_eq (tgt := 13) dX12_beyond_6 (by decide) (fun _ => ?_) (fun _ => ?_)
  · refine nr_iconst (v := 1) dX12_beyond_13 (by decide) ?_
    exact s_X12_beyond_c14 hl0  h10 t0 v1 1 (some t0)
  · refine nr_iconst (v := 0) dX12_beyond_9 (by decide) ?_
    refine nr_goto (tgt := 14) dX12_beyond_10 (by decide) ?_
    exact s_X12_beyond_c14 hl0  h10 t0 v1 0 (some t0)
theorem c_X12_beyond {G : nk_G} {l : Launch} (hl0 : l.flags = flags0) (h : nk_H) (t0 : Nat) (v1 : Int32) : nk_Con G l yX12_beyond cX12_beyond 3 (some FieldType.int) 3 70 nk_eI [.inr (some t0), .inl v1] h (f_X12_beyond h t0 v1) :=
  nk_con (ini := false) (by decide) hl0 (Nat.le_of_ble_eq_true rfl) (by decide) (s_X12_beyond hl0 h t0 v1)
set_option maxHeartbeats 4000000 in
theorem s_X12_against_c55 {G : nk_G} {l : Launch} (hl0 : l.flags = flags0)   (h : nk_H)  (s0 : Int32) : nk_Sim G l RX12 cX12_against 6 (some FieldType.int) 6 146 false nk_eI 55 [] [.inl s0] h (f_X12_against_c55   h  s0) := by
  unfold f_X12_against_c55
  exact nr_iret rfl rfl dX12_against_55
set_option maxHeartbeats 4000000 in
theorem s_X12_against_c36 {G : nk_G} {l : Launch} (hl0 : l.flags = flags0)   (h : nk_H) (t0 : Nat) (v1 : Int32) (v2 : Int32) (v3 : Int32) (v4 : Int32) (s0 : Int32) (s1 : Option Nat) : nk_Sim G l RX12 cX12_against 6 (some FieldType.int) 6 146 false nk_eI 36 [(0, .inr (some t0)), (1, .inl v1), (2, .inl v2), (3, .inl v3), (4, .inl v4)] [.inl s0, .inr s1] h (f_X12_against_c36   h t0 v1 v2 v3 v4 s0 s1) := by
  unfold f_X12_against_c36
  refine nr_rcv (ks := [19]) (pre := [.inl s0]) (fun a1 hm => ?_)
  refine nr_doI (st := []) (nk_callV (q := (RX12, TX12, 45)) (ci := 12) (c_X12_holds (G := G) hl0 h a1 s0) dX12_against_36 (List.mem_singleton.mp hm) rfl rfl my_X12_holds im_X12_holds se_RX12_X12_holds ml_RX12_143 rfl rfl (Nat.le_of_ble_eq_true rfl) (by decide) (by decide)) (fun h2 x3 => ?_)
  refine nr_if_eq (tgt := 54) dX12_against_39 (by decide) (fun _ => ?_) (fun _ => ?_)
  · refine nr_iconst (v := 0) dX12_against_54 (by decide) ?_
    exact nk_locals [] rfl (s_X12_against_c55 hl0  h2 0)
  · refine nr_aload_n 0 dX12_against_42 rfl ?_
    refine nr_iload_n 1 dX12_against_43 rfl ?_
    refine nr_iload_n 2 dX12_against_44 rfl ?_
    refine nr_iload_n 3 dX12_against_45 rfl ?_
    refine nr_iload 4 dX12_against_46 rfl ?_
    refine nr_rcv (ks := [19]) (pre := [.inl v4, .inl v3, .inl v2, .inl v1]) (fun a4 hm => ?_)
    refine nr_doI (st := []) (nk_callV (q := (RX12, TX12, 45)) (ci := 12) (c_X12_reasonNow (G := G) hl0 h2 a4 v1 v2 v3 v4) dX12_against_48 (List.mem_singleton.mp hm) rfl rfl my_X12_reasonNow im_X12_reasonNow se_RX12_X12_reasonNow ml_RX12_254 rfl rfl (Nat.le_of_ble_eq_true rfl) (by decide) (by decide)) (fun h5 x6 => ?_)
    refine nr_goto (tgt := 55) dX12_against_51 (by decide) ?_
    exact nk_locals [] rfl (s_X12_against_c55 hl0  h5 x6)
set_option maxHeartbeats 4000000 in
theorem s_X12_against {G : nk_G} {l : Launch} (hl0 : l.flags = flags0) (h : nk_H) (t0 : Nat) (v1 : Int32) (v2 : Int32) (v3 : Int32) (v4 : Int32) : nk_Sim G l RX12 cX12_against 6 (some FieldType.int) 6 146 false nk_eI 0 [(0, .inr (some t0)), (1, .inl v1), (2, .inl v2), (3, .inl v3), (4, .inl v4)] [] h (f_X12_against  h t0 v1 v2 v3 v4) := by
  unfold f_X12_against
  refine nr_aload_n 0 dX12_against_0 rfl ?_
  refine nr_iload_n 1 dX12_against_1 rfl ?_
  refine nr_iload_n 2 dX12_against_2 rfl ?_
  refine nr_iload_n 3 dX12_against_3 rfl ?_
  refine nr_rcv (ks := [19]) (pre := [.inl v3, .inl v2, .inl v1]) (fun a7 hm => ?_)
  refine nr_doI (st := []) (nk_callV (q := (RX12, TX12, 45)) (ci := 12) (c_X12_areThere (G := G) hl0 h a7 v1 v2 v3) dX12_against_4 (List.mem_singleton.mp hm) rfl rfl my_X12_areThere im_X12_areThere se_RX12_X12_areThere ml_RX12_251 rfl rfl (Nat.le_of_ble_eq_true rfl) (by decide) (by decide)) (fun h8 x9 => ?_)
  refine nr_istore (lv2 := [(5, .inl x9), (0, .inr (some t0)), (1, .inl v1), (2, .inl v2), (3, .inl v3), (4, .inl v4)]) dX12_against_7 (by decide) rfl ?_
  refine nr_aload_n 1 dX12_against_9 rfl ?_
  refine nr_iload 0 dX12_against_10 rfl ?_
  refine nr_if_ne (tgt := 19) dX12_against_12 (by decide) (fun _ => ?_) (fun _ => ?_)
  · refine nr_iconst (v := 1) dX12_against_15 (by decide) ?_
    refine nr_goto (tgt := 36) dX12_against_16 (by decide) ?_
    exact nk_locals [1, 2, 3, 4, 5] rfl (s_X12_against_c36 hl0  h8 t0 v1 v2 v3 v4 1 (some t0))
  · refine nr_iload 5 dX12_against_19 rfl ?_
    refine nr_iconst (v := 1) dX12_against_21 (by decide) ?_
    refine nr_sipush (v := 10000) dX12_against_22 (by decide) ?_
    refine nr_doI (st := [.inr (some t0)]) (nk_callS (c_X12_in (G := G) hl0 h8 v4 1 10000) dX12_against_25 my_X12_in st_X12_in ml_RX12_124 rfl rfl (Nat.le_of_ble_eq_true rfl) (by decide) (by decide)) (fun h10 x11 => ?_)
    refine nr_if_eq (tgt := 35) dX12_against_28 (by decide) (fun _ => ?_) (fun _ => ?_)
    · refine nr_iconst (v := 2) dX12_against_35 (by decide) ?_
      exact nk_locals [1, 2, 3, 4, 5] rfl (s_X12_against_c36 hl0  h10 t0 v1 v2 v3 v4 2 (some t0))
    · refine nr_iconst (v := 0) dX12_against_31 (by decide) ?_
      refine nr_goto (tgt := 36) dX12_against_32 (by decide) ?_
      exact nk_locals [1, 2, 3, 4, 5] rfl (s_X12_against_c36 hl0  h10 t0 v1 v2 v3 v4 0 (some t0))
theorem c_X12_against {G : nk_G} {l : Launch} (hl0 : l.flags = flags0) (h : nk_H) (t0 : Nat) (v1 : Int32) (v2 : Int32) (v3 : Int32) (v4 : Int32) : nk_Con G l yX12_against cX12_against 6 (some FieldType.int) 6 146 nk_eI [.inr (some t0), .inl v1, .inl v2, .inl v3, .inl v4] h (f_X12_against h t0 v1 v2 v3 v4) :=
  nk_con (ini := false) (by decide) hl0 (Nat.le_of_ble_eq_true rfl) (by decide) (s_X12_against hl0 h t0 v1 v2 v3 v4)
set_option maxHeartbeats 4000000 in
theorem s_X12_choices_c89 {G : nk_G} {l : Launch} (hl0 : l.flags = flags0) {r61 : nk_H → Nat → Int32 → Int32 → Int32 → Int32 → Int32 → Option (nk_H × Int32)} (hr61 : ∀ (h : nk_H) (t0 : Nat) (v1 : Int32) (v2 : Int32) (v3 : Int32) (v5 : Int32) (v6 : Int32), nk_Sim G l RX12 cX12_choices 7 (some FieldType.int) 6 146 false nk_eI 61 [(0, .inr (some t0)), (1, .inl v1), (2, .inl v2), (3, .inl v3), (5, .inl v5), (6, .inl v6)] [] h (r61 h t0 v1 v2 v3 v5 v6)) (h : nk_H) (t0 : Nat) (v1 : Int32) (v2 : Int32) (v3 : Int32) (v6 : Int32) (s0 : Int32) (s1 : Int32) : nk_Sim G l RX12 cX12_choices 7 (some FieldType.int) 6 146 false nk_eI 89 [(0, .inr (some t0)), (1, .inl v1), (2, .inl v2), (3, .inl v3), (6, .inl v6)] [.inl s0, .inl s1] h (f_X12_choices_c89  r61 h t0 v1 v2 v3 v6 s0 s1) := by
  unfold f_X12_choices_c89
  refine nr_iadd dX12_choices_89 ?_
  refine nr_istore (lv2 := [(5, .inl (s1 + s0)), (0, .inr (some t0)), (1, .inl v1), (2, .inl v2), (3, .inl v3), (6, .inl v6)]) dX12_choices_90 (by decide) rfl ?_
  refine nr_iinc (lv2 := [(6, .inl (v6 + 1)), (5, .inl (s1 + s0)), (0, .inr (some t0)), (1, .inl v1), (2, .inl v2), (3, .inl v3)]) 5 (v6 + 1) dX12_choices_92 rfl (by rfl) (by decide) rfl ?_
  refine nr_goto (tgt := 61) dX12_choices_95 (by decide) ?_
  exact nk_locals [2, 3, 4, 5, 1, 0] rfl (hr61 h t0 v1 v2 v3 (s1 + s0) (v6 + 1))
set_option maxHeartbeats 4000000 in
theorem s_X12_choices_c61 {G : nk_G} {l : Launch} (hl0 : l.flags = flags0) {r61 : nk_H → Nat → Int32 → Int32 → Int32 → Int32 → Int32 → Option (nk_H × Int32)} (hr61 : ∀ (h : nk_H) (t0 : Nat) (v1 : Int32) (v2 : Int32) (v3 : Int32) (v5 : Int32) (v6 : Int32), nk_Sim G l RX12 cX12_choices 7 (some FieldType.int) 6 146 false nk_eI 61 [(0, .inr (some t0)), (1, .inl v1), (2, .inl v2), (3, .inl v3), (5, .inl v5), (6, .inl v6)] [] h (r61 h t0 v1 v2 v3 v5 v6)) (h : nk_H) (t0 : Nat) (v1 : Int32) (v2 : Int32) (v3 : Int32) (v5 : Int32) (v6 : Int32)  : nk_Sim G l RX12 cX12_choices 7 (some FieldType.int) 6 146 false nk_eI 61 [(0, .inr (some t0)), (1, .inl v1), (2, .inl v2), (3, .inl v3), (5, .inl v5), (6, .inl v6)] [] h (f_X12_choices_c61  r61 h t0 v1 v2 v3 v5 v6 ) := by
  unfold f_X12_choices_c61
  refine nr_iload 5 dX12_choices_61 rfl ?_
  refine nr_aload_n 0 dX12_choices_63 rfl ?_
  refine nr_getI [19] 12 dX12_choices_64 fk_RX12_128 (fun x1 => ?_)
  refine nr_icmp_ge (tgt := 98) dX12_choices_67 (by decide) (fun _ => ?_) (fun _ => ?_)
  · refine nr_iload 4 dX12_choices_98 rfl ?_
    exact nr_iret rfl rfl dX12_choices_100
  · refine nr_iload 4 dX12_choices_70 rfl ?_
    refine nr_aload_n 0 dX12_choices_72 rfl ?_
    refine nr_iload_n 1 dX12_choices_73 rfl ?_
    refine nr_iload_n 2 dX12_choices_74 rfl ?_
    refine nr_iload 5 dX12_choices_75 rfl ?_
    refine nr_iload_n 3 dX12_choices_77 rfl ?_
    refine nr_rcv (ks := [19]) (pre := [.inl v3, .inl v6, .inl v2, .inl v1]) (fun a2 hm => ?_)
    refine nr_doI (st := [.inl v5]) (nk_callV (q := (RX12, TX12, 45)) (ci := 12) (c_X12_reasonNow (G := G) hl0 h a2 v1 v2 v6 v3) dX12_choices_78 (List.mem_singleton.mp hm) rfl rfl my_X12_reasonNow im_X12_reasonNow se_RX12_X12_reasonNow ml_RX12_254 rfl rfl (Nat.le_of_ble_eq_true rfl) (by decide) (by decide)) (fun h3 x4 => ?_)
    refine nr_if_ne (tgt := 88) dX12_choices_81 (by decide) (fun _ => ?_) (fun _ => ?_)
    · refine nr_iconst (v := 1) dX12_choices_84 (by decide) ?_
      refine nr_goto (tgt := 89) dX12_choices_85 (by decide) ?_
      exact nk_locals [0, 1, 2, 3, 5] rfl (s_X12_choices_c89 hl0 hr61 h3 t0 v1 v2 v3 v6 1 v5)
    · refine nr_iconst (v := 0) dX12_choices_88 (by decide) ?_
      exact nk_locals [0, 1, 2, 3, 5] rfl (s_X12_choices_c89 hl0 hr61 h3 t0 v1 v2 v3 v6 0 v5)
theorem s_X12_choices_b61 {G : nk_G} {l : Launch} (hl0 : l.flags = flags0)   : ∀ (n : Nat) (h : nk_H) (t0 : Nat) (v1 : Int32) (v2 : Int32) (v3 : Int32) (v5 : Int32) (v6 : Int32), nk_Sim G l RX12 cX12_choices 7 (some FieldType.int) 6 146 false nk_eI 61 [(0, .inr (some t0)), (1, .inl v1), (2, .inl v2), (3, .inl v3), (5, .inl v5), (6, .inl v6)] [] h (f_X12_choices_b61   n h t0 v1 v2 v3 v5 v6)
  | 0, _, _, _, _, _, _, _ => nk_none
  | n + 1, h, t0, v1, v2, v3, v5, v6 => s_X12_choices_c61 hl0 (s_X12_choices_b61 hl0  n) h t0 v1 v2 v3 v5 v6
set_option maxHeartbeats 4000000 in
theorem s_X12_choices_c47 {G : nk_G} {l : Launch} (hl0 : l.flags = flags0)   (h : nk_H) (t0 : Nat) (v1 : Int32) (v2 : Int32) (v3 : Int32) (s0 : Int32) (s1 : Option Nat) : nk_Sim G l RX12 cX12_choices 7 (some FieldType.int) 6 146 false nk_eI 47 [(0, .inr (some t0)), (1, .inl v1), (2, .inl v2), (3, .inl v3)] [.inl s0, .inr s1] h (f_X12_choices_c47   h t0 v1 v2 v3 s0 s1) := by
  unfold f_X12_choices_c47
  refine nr_rcv (ks := [19]) (pre := [.inl s0]) (fun a5 hm => ?_)
  refine nr_doI (st := []) (nk_callV (q := (RX12, TX12, 45)) (ci := 12) (c_X12_holds (G := G) hl0 h a5 s0) dX12_choices_47 (List.mem_singleton.mp hm) rfl rfl my_X12_holds im_X12_holds se_RX12_X12_holds ml_RX12_143 rfl rfl (Nat.le_of_ble_eq_true rfl) (by decide) (by decide)) (fun h6 x7 => ?_)
  refine nr_if_ne (tgt := 55) dX12_choices_50 (by decide) (fun _ => ?_) (fun _ => ?_)
  · refine nr_iconst (v := 0) dX12_choices_53 (by decide) ?_
    exact nr_iret rfl rfl dX12_choices_54
  · refine nr_iconst (v := 0) dX12_choices_55 (by decide) ?_
    refine nr_istore (lv2 := [(5, .inl 0), (0, .inr (some t0)), (1, .inl v1), (2, .inl v2), (3, .inl v3)]) dX12_choices_56 (by decide) rfl ?_
    refine nr_iconst (v := 0) dX12_choices_58 (by decide) ?_
    refine nr_istore (lv2 := [(6, .inl 0), (5, .inl 0), (0, .inr (some t0)), (1, .inl v1), (2, .inl v2), (3, .inl v3)]) dX12_choices_59 (by decide) rfl ?_
    exact nk_locals [2, 3, 4, 5, 1, 0] rfl (s_X12_choices_b61 hl0  4096 h6 t0 v1 v2 v3 0 0)
set_option maxHeartbeats 4000000 in
theorem s_X12_choices_c19 {G : nk_G} {l : Launch} (hl0 : l.flags = flags0)   (h : nk_H) (t0 : Nat) (v1 : Int32) (v2 : Int32) (v3 : Int32) (s0 : Int32) : nk_Sim G l RX12 cX12_choices 7 (some FieldType.int) 6 146 false nk_eI 19 [(0, .inr (some t0)), (1, .inl v1), (2, .inl v2), (3, .inl v3)] [.inl s0] h (f_X12_choices_c19   h t0 v1 v2 v3 s0) := by
  unfold f_X12_choices_c19
  refine nr_istore (lv2 := [(4, .inl s0), (0, .inr (some t0)), (1, .inl v1), (2, .inl v2), (3, .inl v3)]) dX12_choices_19 (by decide) rfl ?_
  refine nr_aload_n 1 dX12_choices_21 rfl ?_
  refine nr_iload 0 dX12_choices_22 rfl ?_
  refine nr_if_ne (tgt := 31) dX12_choices_24 (by decide) (fun _ => ?_) (fun _ => ?_)
  · refine nr_iconst (v := 1) dX12_choices_27 (by decide) ?_
    refine nr_goto (tgt := 47) dX12_choices_28 (by decide) ?_
    exact nk_locals [1, 2, 3, 4] rfl (s_X12_choices_c47 hl0  h t0 v1 v2 v3 1 (some t0))
  · refine nr_iload_n 4 dX12_choices_31 rfl ?_
    refine nr_iconst (v := 1) dX12_choices_32 (by decide) ?_
    refine nr_sipush (v := 10000) dX12_choices_33 (by decide) ?_
    refine nr_doI (st := [.inr (some t0)]) (nk_callS (c_X12_in (G := G) hl0 h v3 1 10000) dX12_choices_36 my_X12_in st_X12_in ml_RX12_124 rfl rfl (Nat.le_of_ble_eq_true rfl) (by decide) (by decide)) (fun h8 x9 => ?_)
    refine nr_if_eq (tgt := 46) dX12_choices_39 (by decide) (fun _ => ?_) (fun _ => ?_)
    · refine nr_iconst (v := 2) dX12_choices_46 (by decide) ?_
      exact nk_locals [1, 2, 3, 4] rfl (s_X12_choices_c47 hl0  h8 t0 v1 v2 v3 2 (some t0))
    · refine nr_iconst (v := 0) dX12_choices_42 (by decide) ?_
      refine nr_goto (tgt := 47) dX12_choices_43 (by decide) ?_
      exact nk_locals [1, 2, 3, 4] rfl (s_X12_choices_c47 hl0  h8 t0 v1 v2 v3 0 (some t0))
set_option maxHeartbeats 4000000 in
theorem s_X12_choices_c18 {G : nk_G} {l : Launch} (hl0 : l.flags = flags0)   (h : nk_H) (t0 : Nat) (v1 : Int32) (v2 : Int32) (v3 : Int32)  : nk_Sim G l RX12 cX12_choices 7 (some FieldType.int) 6 146 false nk_eI 18 [(0, .inr (some t0)), (1, .inl v1), (2, .inl v2), (3, .inl v3)] [] h (f_X12_choices_c18   h t0 v1 v2 v3 ) := by
  unfold f_X12_choices_c18
  refine nr_iconst (v := 0) dX12_choices_18 (by decide) ?_
  exact s_X12_choices_c19 hl0  h t0 v1 v2 v3 0
set_option maxHeartbeats 4000000 in
theorem s_X12_choices {G : nk_G} {l : Launch} (hl0 : l.flags = flags0) (h : nk_H) (t0 : Nat) (v1 : Int32) (v2 : Int32) (v3 : Int32) : nk_Sim G l RX12 cX12_choices 7 (some FieldType.int) 6 146 false nk_eI 0 [(0, .inr (some t0)), (1, .inl v1), (2, .inl v2), (3, .inl v3)] [] h (f_X12_choices  h t0 v1 v2 v3) := by
  unfold f_X12_choices
  refine nr_iload_n 1 dX12_choices_0 rfl ?_
  refine nr_doI (st := []) (nk_callS (c_X12_isKiosk (G := G) hl0 h v1) dX12_choices_1 my_X12_isKiosk st_X12_isKiosk ml_RX12_131 rfl rfl (Nat.le_of_ble_eq_true rfl) (by decide) (by decide)) (fun h10 x11 => ?_)
  refine nr_if_eq (tgt := 18) dX12_choices_4 (by decide) (fun _ => ?_) (fun _ => ?_)
  · exact s_X12_choices_c18 hl0  h10 t0 v1 v2 v3
  · refine nr_iload_n 2 dX12_choices_7 rfl ?_
    refine nr_doI (st := []) (nk_callS (c_X12_isPerson (G := G) hl0 h10 v2) dX12_choices_8 my_X12_isPerson st_X12_isPerson ml_RX12_206 rfl rfl (Nat.le_of_ble_eq_true rfl) (by decide) (by decide)) (fun h12 x13 => ?_)
    refine nr_if_eq (tgt := 18) dX12_choices_11 (by decide) (fun _ => ?_) (fun _ => ?_)
    · exact s_X12_choices_c18 hl0  h12 t0 v1 v2 v3
    · refine nr_iconst (v := 1) dX12_choices_14 (by decide) ?_
      refine nr_goto (tgt := 19) dX12_choices_15 (by decide) ?_
      exact s_X12_choices_c19 hl0  h12 t0 v1 v2 v3 1
theorem c_X12_choices {G : nk_G} {l : Launch} (hl0 : l.flags = flags0) (h : nk_H) (t0 : Nat) (v1 : Int32) (v2 : Int32) (v3 : Int32) : nk_Con G l yX12_choices cX12_choices 7 (some FieldType.int) 6 146 nk_eI [.inr (some t0), .inl v1, .inl v2, .inl v3] h (f_X12_choices h t0 v1 v2 v3) :=
  nk_con (ini := false) (by decide) hl0 (Nat.le_of_ble_eq_true rfl) (by decide) (s_X12_choices hl0 h t0 v1 v2 v3)
set_option maxHeartbeats 4000000 in
theorem s_X12_isThere_c15 {G : nk_G} {l : Launch} (hl0 : l.flags = flags0)   (h : nk_H)  (s0 : Int32) (s1 : Option Nat) : nk_Sim G l RX12 cX12_isThere 3 (some FieldType.boolean) 3 64 false nk_eI 15 [] [.inl s0, .inr s1] h (f_X12_isThere_c15   h  s0 s1) := by
  unfold f_X12_isThere_c15
  refine nr_rcv (ks := [19]) (pre := [.inl s0]) (fun a1 hm => ?_)
  refine nr_doI (st := []) (nk_callV (q := (RX12, TX12, 45)) (ci := 12) (c_X12_holds (G := G) hl0 h a1 s0) dX12_isThere_15 (List.mem_singleton.mp hm) rfl rfl my_X12_holds im_X12_holds se_RX12_X12_holds ml_RX12_143 rfl rfl (Nat.le_of_ble_eq_true rfl) (by decide) (by decide)) (fun h2 x3 => ?_)
  exact nr_zret rfl rfl dX12_isThere_18
set_option maxHeartbeats 4000000 in
theorem s_X12_isThere {G : nk_G} {l : Launch} (hl0 : l.flags = flags0) (h : nk_H) (t0 : Nat) (v1 : Int32) (v2 : Int32) : nk_Sim G l RX12 cX12_isThere 3 (some FieldType.boolean) 3 64 false nk_eI 0 [(0, .inr (some t0)), (1, .inl v1), (2, .inl v2)] [] h (f_X12_isThere  h t0 v1 v2) := by
  unfold f_X12_isThere
  refine nr_aload_n 0 dX12_isThere_0 rfl ?_
  refine nr_aload_n 0 dX12_isThere_1 rfl ?_
  refine nr_iload_n 1 dX12_isThere_2 rfl ?_
  refine nr_iload_n 2 dX12_isThere_3 rfl ?_
  refine nr_rcv (ks := [19]) (pre := [.inl v2, .inl v1]) (fun a4 hm => ?_)
  refine nr_doI (st := [.inr (some t0)]) (nk_callV (q := (RX12, TX12, 45)) (ci := 12) (c_X12_isRecord (G := G) hl0 h a4 v1 v2) dX12_isThere_4 (List.mem_singleton.mp hm) rfl rfl my_X12_isRecord im_X12_isRecord se_RX12_X12_isRecord ml_RX12_269 rfl rfl (Nat.le_of_ble_eq_true rfl) (by decide) (by decide)) (fun h5 x6 => ?_)
  refine nr_if_eq (tgt := 14) dX12_isThere_7 (by decide) (fun _ => ?_) (fun _ => ?_)
  · refine nr_iconst (v := 1) dX12_isThere_14 (by decide) ?_
    exact nk_locals [] rfl (s_X12_isThere_c15 hl0  h5 1 (some t0))
  · refine nr_iconst (v := 0) dX12_isThere_10 (by decide) ?_
    refine nr_goto (tgt := 15) dX12_isThere_11 (by decide) ?_
    exact nk_locals [] rfl (s_X12_isThere_c15 hl0  h5 0 (some t0))
theorem c_X12_isThere {G : nk_G} {l : Launch} (hl0 : l.flags = flags0) (h : nk_H) (t0 : Nat) (v1 : Int32) (v2 : Int32) : nk_Con G l yX12_isThere cX12_isThere 3 (some FieldType.boolean) 3 64 nk_eI [.inr (some t0), .inl v1, .inl v2] h (f_X12_isThere h t0 v1 v2) :=
  nk_con (ini := false) (by decide) hl0 (Nat.le_of_ble_eq_true rfl) (by decide) (s_X12_isThere hl0 h t0 v1 v2)
set_option maxHeartbeats 4000000 in
theorem s_X12_stands_c34 {G : nk_G} {l : Launch} (hl0 : l.flags = flags0)   (h : nk_H)  (s0 : Int32) : nk_Sim G l RX12 cX12_stands 3 (some FieldType.boolean) 4 86 false nk_eI 34 [] [.inl s0] h (f_X12_stands_c34   h  s0) := by
  unfold f_X12_stands_c34
  exact nr_zret rfl rfl dX12_stands_34
set_option maxHeartbeats 4000000 in
theorem s_X12_stands_c33 {G : nk_G} {l : Launch} (hl0 : l.flags = flags0)   (h : nk_H)   : nk_Sim G l RX12 cX12_stands 3 (some FieldType.boolean) 4 86 false nk_eI 33 [] [] h (f_X12_stands_c33   h  ) := by
  unfold f_X12_stands_c33
  refine nr_iconst (v := 0) dX12_stands_33 (by decide) ?_
  exact s_X12_stands_c34 hl0  h 0
set_option maxHeartbeats 4000000 in
theorem s_X12_stands {G : nk_G} {l : Launch} (hl0 : l.flags = flags0) (h : nk_H) (t0 : Nat) (v1 : Int32) (v2 : Int32) : nk_Sim G l RX12 cX12_stands 3 (some FieldType.boolean) 4 86 false nk_eI 0 [(0, .inr (some t0)), (1, .inl v1), (2, .inl v2)] [] h (f_X12_stands  h t0 v1 v2) := by
  unfold f_X12_stands
  refine nr_aload_n 0 dX12_stands_0 rfl ?_
  refine nr_iload_n 1 dX12_stands_1 rfl ?_
  refine nr_iload_n 2 dX12_stands_2 rfl ?_
  refine nr_rcv (ks := [19]) (pre := [.inl v2, .inl v1]) (fun a1 hm => ?_)
  refine nr_doI (st := []) (nk_callV (q := (RX12, TX12, 45)) (ci := 12) (c_X12_isThere (G := G) hl0 h a1 v1 v2) dX12_stands_3 (List.mem_singleton.mp hm) rfl rfl my_X12_isThere im_X12_isThere se_RX12_X12_isThere ml_RX12_290 rfl rfl (Nat.le_of_ble_eq_true rfl) (by decide) (by decide)) (fun h2 x3 => ?_)
  refine nr_if_eq (tgt := 33) dX12_stands_6 (by decide) (fun _ => ?_) (fun _ => ?_)
  · exact nk_locals [] rfl (s_X12_stands_c33 hl0  h2)
  · refine nr_aload_n 0 dX12_stands_9 rfl ?_
    refine nr_getP [19] 36 dX12_stands_10 fk_RX12_97 (fun x4 => ?_)
    refine nr_aload_n 0 dX12_stands_13 rfl ?_
    refine nr_getP [19] 31 dX12_stands_14 fk_RX12_82 (fun x5 => ?_)
    refine nr_sipush (v := 160) dX12_stands_17 (by decide) ?_
    refine nr_iload_n 1 dX12_stands_20 rfl ?_
    refine nr_imul dX12_stands_21 ?_
    refine nr_iload_n 2 dX12_stands_22 rfl ?_
    refine nr_iadd dX12_stands_23 ?_
    refine nr_iaload dX12_stands_24 (fun x6 => ?_)
    refine nr_baload dX12_stands_25 (fun x7 => ?_)
    refine nr_if_eq (tgt := 33) dX12_stands_26 (by decide) (fun _ => ?_) (fun _ => ?_)
    · exact nk_locals [] rfl (s_X12_stands_c33 hl0  h2)
    · refine nr_iconst (v := 1) dX12_stands_29 (by decide) ?_
      refine nr_goto (tgt := 34) dX12_stands_30 (by decide) ?_
      exact nk_locals [] rfl (s_X12_stands_c34 hl0  h2 1)
theorem c_X12_stands {G : nk_G} {l : Launch} (hl0 : l.flags = flags0) (h : nk_H) (t0 : Nat) (v1 : Int32) (v2 : Int32) : nk_Con G l yX12_stands cX12_stands 3 (some FieldType.boolean) 4 86 nk_eI [.inr (some t0), .inl v1, .inl v2] h (f_X12_stands h t0 v1 v2) :=
  nk_con (ini := false) (by decide) hl0 (Nat.le_of_ble_eq_true rfl) (by decide) (s_X12_stands hl0 h t0 v1 v2)
set_option maxHeartbeats 4000000 in
theorem s_X12_fault_c29 {G : nk_G} {l : Launch} (hl0 : l.flags = flags0)   (h : nk_H)  (s0 : Int32) : nk_Sim G l RX12 cX12_fault 3 (some FieldType.int) 6 145 false nk_eI 29 [] [.inl s0] h (f_X12_fault_c29   h  s0) := by
  unfold f_X12_fault_c29
  exact nr_iret rfl rfl dX12_fault_29
set_option maxHeartbeats 4000000 in
theorem s_X12_fault {G : nk_G} {l : Launch} (hl0 : l.flags = flags0) (h : nk_H) (t0 : Nat) (v1 : Int32) (v2 : Int32) : nk_Sim G l RX12 cX12_fault 3 (some FieldType.int) 6 145 false nk_eI 0 [(0, .inr (some t0)), (1, .inl v1), (2, .inl v2)] [] h (f_X12_fault  h t0 v1 v2) := by
  unfold f_X12_fault
  refine nr_aload_n 0 dX12_fault_0 rfl ?_
  refine nr_iload_n 1 dX12_fault_1 rfl ?_
  refine nr_iload_n 2 dX12_fault_2 rfl ?_
  refine nr_rcv (ks := [19]) (pre := [.inl v2, .inl v1]) (fun a1 hm => ?_)
  refine nr_doI (st := []) (nk_callV (q := (RX12, TX12, 45)) (ci := 12) (c_X12_isThere (G := G) hl0 h a1 v1 v2) dX12_fault_3 (List.mem_singleton.mp hm) rfl rfl my_X12_isThere im_X12_isThere se_RX12_X12_isThere ml_RX12_290 rfl rfl (Nat.le_of_ble_eq_true rfl) (by decide) (by decide)) (fun h2 x3 => ?_)
  refine nr_if_eq (tgt := 28) dX12_fault_6 (by decide) (fun _ => ?_) (fun _ => ?_)
  · refine nr_iconst (v := 0) dX12_fault_28 (by decide) ?_
    exact nk_locals [] rfl (s_X12_fault_c29 hl0  h2 0)
  · refine nr_aload_n 0 dX12_fault_9 rfl ?_
    refine nr_aload_n 0 dX12_fault_10 rfl ?_
    refine nr_getP [19] 31 dX12_fault_11 fk_RX12_82 (fun x4 => ?_)
    refine nr_sipush (v := 160) dX12_fault_14 (by decide) ?_
    refine nr_iload_n 1 dX12_fault_17 rfl ?_
    refine nr_imul dX12_fault_18 ?_
    refine nr_iload_n 2 dX12_fault_19 rfl ?_
    refine nr_iadd dX12_fault_20 ?_
    refine nr_iaload dX12_fault_21 (fun x5 => ?_)
    refine nr_rcv (ks := [19]) (pre := [.inl x5]) (fun a6 hm => ?_)
    refine nr_doI (st := []) (nk_callV (q := (RX12, TX12, 45)) (ci := 12) (c_X12_faultOf (G := G) hl0 h2 a6 x5) dX12_fault_22 (List.mem_singleton.mp hm) rfl rfl my_X12_faultOf im_X12_faultOf se_RX12_X12_faultOf ml_RX12_266 rfl rfl (Nat.le_of_ble_eq_true rfl) (by decide) (by decide)) (fun h7 x8 => ?_)
    refine nr_goto (tgt := 29) dX12_fault_25 (by decide) ?_
    exact nk_locals [] rfl (s_X12_fault_c29 hl0  h7 x8)
theorem c_X12_fault {G : nk_G} {l : Launch} (hl0 : l.flags = flags0) (h : nk_H) (t0 : Nat) (v1 : Int32) (v2 : Int32) : nk_Con G l yX12_fault cX12_fault 3 (some FieldType.int) 6 145 nk_eI [.inr (some t0), .inl v1, .inl v2] h (f_X12_fault h t0 v1 v2) :=
  nk_con (ini := false) (by decide) hl0 (Nat.le_of_ble_eq_true rfl) (by decide) (s_X12_fault hl0 h t0 v1 v2)
set_option maxHeartbeats 4000000 in
theorem s_X12_standing_c32 {G : nk_G} {l : Launch} (hl0 : l.flags = flags0) {r9 : nk_H → Nat → Int32 → Int32 → Option (nk_H × Int32)} (hr9 : ∀ (h : nk_H) (t0 : Nat) (v1 : Int32) (v2 : Int32), nk_Sim G l RX12 cX12_standing 3 (some FieldType.int) 0 0 false nk_eI 9 [(0, .inr (some t0)), (1, .inl v1), (2, .inl v2)] [] h (r9 h t0 v1 v2)) (h : nk_H) (t0 : Nat) (v2 : Int32) (s0 : Int32) (s1 : Int32) : nk_Sim G l RX12 cX12_standing 3 (some FieldType.int) 0 0 false nk_eI 32 [(0, .inr (some t0)), (2, .inl v2)] [.inl s0, .inl s1] h (f_X12_standing_c32  r9 h t0 v2 s0 s1) := by
  unfold f_X12_standing_c32
  refine nr_iadd dX12_standing_32 ?_
  refine nr_istore_n (lv2 := [(1, .inl (s1 + s0)), (0, .inr (some t0)), (2, .inl v2)]) dX12_standing_33 (by decide) rfl ?_
  refine nr_iinc (lv2 := [(2, .inl (v2 + 1)), (1, .inl (s1 + s0)), (0, .inr (some t0))]) 2 (v2 + 1) dX12_standing_34 rfl (by rfl) (by decide) rfl ?_
  refine nr_goto (tgt := 9) dX12_standing_37 (by decide) ?_
  exact nk_locals [2, 1, 0] rfl (hr9 h t0 (s1 + s0) (v2 + 1))
set_option maxHeartbeats 4000000 in
theorem s_X12_standing_c9 {G : nk_G} {l : Launch} (hl0 : l.flags = flags0) {r9 : nk_H → Nat → Int32 → Int32 → Option (nk_H × Int32)} (hr9 : ∀ (h : nk_H) (t0 : Nat) (v1 : Int32) (v2 : Int32), nk_Sim G l RX12 cX12_standing 3 (some FieldType.int) 0 0 false nk_eI 9 [(0, .inr (some t0)), (1, .inl v1), (2, .inl v2)] [] h (r9 h t0 v1 v2)) (h : nk_H) (t0 : Nat) (v1 : Int32) (v2 : Int32)  : nk_Sim G l RX12 cX12_standing 3 (some FieldType.int) 0 0 false nk_eI 9 [(0, .inr (some t0)), (1, .inl v1), (2, .inl v2)] [] h (f_X12_standing_c9  r9 h t0 v1 v2 ) := by
  unfold f_X12_standing_c9
  refine nr_iload_n 2 dX12_standing_9 rfl ?_
  refine nr_aload_n 0 dX12_standing_10 rfl ?_
  refine nr_getI [19] 29 dX12_standing_11 fk_RX12_260 (fun x1 => ?_)
  refine nr_icmp_ge (tgt := 40) dX12_standing_14 (by decide) (fun _ => ?_) (fun _ => ?_)
  · refine nr_iload_n 1 dX12_standing_40 rfl ?_
    exact nr_iret rfl rfl dX12_standing_41
  · refine nr_iload_n 1 dX12_standing_17 rfl ?_
    refine nr_aload_n 0 dX12_standing_18 rfl ?_
    refine nr_getP [19] 36 dX12_standing_19 fk_RX12_97 (fun x2 => ?_)
    refine nr_iload_n 2 dX12_standing_22 rfl ?_
    refine nr_baload dX12_standing_23 (fun x3 => ?_)
    refine nr_if_eq (tgt := 31) dX12_standing_24 (by decide) (fun _ => ?_) (fun _ => ?_)
    · refine nr_iconst (v := 0) dX12_standing_31 (by decide) ?_
      exact nk_locals [0, 2] rfl (s_X12_standing_c32 hl0 hr9 h t0 v2 0 v1)
    · refine nr_iconst (v := 1) dX12_standing_27 (by decide) ?_
      refine nr_goto (tgt := 32) dX12_standing_28 (by decide) ?_
      exact nk_locals [0, 2] rfl (s_X12_standing_c32 hl0 hr9 h t0 v2 1 v1)
theorem s_X12_standing_b9 {G : nk_G} {l : Launch} (hl0 : l.flags = flags0)   : ∀ (n : Nat) (h : nk_H) (t0 : Nat) (v1 : Int32) (v2 : Int32), nk_Sim G l RX12 cX12_standing 3 (some FieldType.int) 0 0 false nk_eI 9 [(0, .inr (some t0)), (1, .inl v1), (2, .inl v2)] [] h (f_X12_standing_b9   n h t0 v1 v2)
  | 0, _, _, _, _ => nk_none
  | n + 1, h, t0, v1, v2 => s_X12_standing_c9 hl0 (s_X12_standing_b9 hl0  n) h t0 v1 v2
set_option maxHeartbeats 4000000 in
theorem s_X12_standing {G : nk_G} {l : Launch} (hl0 : l.flags = flags0) (h : nk_H) (t0 : Nat) : nk_Sim G l RX12 cX12_standing 3 (some FieldType.int) 0 0 false nk_eI 0 [(0, .inr (some t0))] [] h (f_X12_standing  h t0) := by
  unfold f_X12_standing
  refine nr_aload_n 0 dX12_standing_0 rfl ?_
  refine nr_iconst (v := 0) dX12_standing_1 (by decide) ?_
  refine nr_putI [19] 0 dX12_standing_2 fk_RX12_121 fw_RX12_121_n (fun h4 => ?_)
  refine nr_iconst (v := 0) dX12_standing_5 (by decide) ?_
  refine nr_istore_n (lv2 := [(1, .inl 0), (0, .inr (some t0))]) dX12_standing_6 (by decide) rfl ?_
  refine nr_iconst (v := 0) dX12_standing_7 (by decide) ?_
  refine nr_istore_n (lv2 := [(2, .inl 0), (1, .inl 0), (0, .inr (some t0))]) dX12_standing_8 (by decide) rfl ?_
  exact nk_locals [2, 1, 0] rfl (s_X12_standing_b9 hl0  4096 h4 t0 0 0)
theorem c_X12_standing {G : nk_G} {l : Launch} (hl0 : l.flags = flags0) (h : nk_H) (t0 : Nat) : nk_Con G l yX12_standing cX12_standing 3 (some FieldType.int) 0 0 nk_eI [.inr (some t0)] h (f_X12_standing h t0) :=
  nk_con (ini := false) (by decide) hl0 (Nat.le_of_ble_eq_true rfl) (by decide) (s_X12_standing hl0 h t0)
set_option maxHeartbeats 4000000 in
theorem s_X12_pieceOf_c30 {G : nk_G} {l : Launch} (hl0 : l.flags = flags0)   (h : nk_H)  (s0 : Int32) : nk_Sim G l RX12 cX12_pieceOf 3 (some FieldType.int) 4 86 false nk_eI 30 [] [.inl s0] h (f_X12_pieceOf_c30   h  s0) := by
  unfold f_X12_pieceOf_c30
  exact nr_iret rfl rfl dX12_pieceOf_30
set_option maxHeartbeats 4000000 in
theorem s_X12_pieceOf {G : nk_G} {l : Launch} (hl0 : l.flags = flags0) (h : nk_H) (t0 : Nat) (v1 : Int32) (v2 : Int32) : nk_Sim G l RX12 cX12_pieceOf 3 (some FieldType.int) 4 86 false nk_eI 0 [(0, .inr (some t0)), (1, .inl v1), (2, .inl v2)] [] h (f_X12_pieceOf  h t0 v1 v2) := by
  unfold f_X12_pieceOf
  refine nr_aload_n 0 dX12_pieceOf_0 rfl ?_
  refine nr_iload_n 1 dX12_pieceOf_1 rfl ?_
  refine nr_iload_n 2 dX12_pieceOf_2 rfl ?_
  refine nr_rcv (ks := [19]) (pre := [.inl v2, .inl v1]) (fun a1 hm => ?_)
  refine nr_doI (st := []) (nk_callV (q := (RX12, TX12, 45)) (ci := 12) (c_X12_isThere (G := G) hl0 h a1 v1 v2) dX12_pieceOf_3 (List.mem_singleton.mp hm) rfl rfl my_X12_isThere im_X12_isThere se_RX12_X12_isThere ml_RX12_290 rfl rfl (Nat.le_of_ble_eq_true rfl) (by decide) (by decide)) (fun h2 x3 => ?_)
  refine nr_if_eq (tgt := 29) dX12_pieceOf_6 (by decide) (fun _ => ?_) (fun _ => ?_)
  · refine nr_iconst (v := 0) dX12_pieceOf_29 (by decide) ?_
    exact nk_locals [] rfl (s_X12_pieceOf_c30 hl0  h2 0)
  · refine nr_aload_n 0 dX12_pieceOf_9 rfl ?_
    refine nr_getP [19] 32 dX12_pieceOf_10 fk_RX12_85 (fun x4 => ?_)
    refine nr_aload_n 0 dX12_pieceOf_13 rfl ?_
    refine nr_getP [19] 31 dX12_pieceOf_14 fk_RX12_82 (fun x5 => ?_)
    refine nr_sipush (v := 160) dX12_pieceOf_17 (by decide) ?_
    refine nr_iload_n 1 dX12_pieceOf_20 rfl ?_
    refine nr_imul dX12_pieceOf_21 ?_
    refine nr_iload_n 2 dX12_pieceOf_22 rfl ?_
    refine nr_iadd dX12_pieceOf_23 ?_
    refine nr_iaload dX12_pieceOf_24 (fun x6 => ?_)
    refine nr_iaload dX12_pieceOf_25 (fun x7 => ?_)
    refine nr_goto (tgt := 30) dX12_pieceOf_26 (by decide) ?_
    exact nk_locals [] rfl (s_X12_pieceOf_c30 hl0  h2 x7)
theorem c_X12_pieceOf {G : nk_G} {l : Launch} (hl0 : l.flags = flags0) (h : nk_H) (t0 : Nat) (v1 : Int32) (v2 : Int32) : nk_Con G l yX12_pieceOf cX12_pieceOf 3 (some FieldType.int) 4 86 nk_eI [.inr (some t0), .inl v1, .inl v2] h (f_X12_pieceOf h t0 v1 v2) :=
  nk_con (ini := false) (by decide) hl0 (Nat.le_of_ble_eq_true rfl) (by decide) (s_X12_pieceOf hl0 h t0 v1 v2)
set_option maxHeartbeats 4000000 in
theorem s_X12_part_c68 {G : nk_G} {l : Launch} (hl0 : l.flags = flags0)   (h : nk_H)  (s0 : Int32) : nk_Sim G l RX12 cX12_part 5 (some FieldType.int) 3 64 false nk_eI 68 [] [.inl s0] h (f_X12_part_c68   h  s0) := by
  unfold f_X12_part_c68
  exact nr_iret rfl rfl dX12_part_68
set_option maxHeartbeats 4000000 in
theorem s_X12_part_c36 {G : nk_G} {l : Launch} (hl0 : l.flags = flags0)   (h : nk_H) (t0 : Nat) (v1 : Int32) (v2 : Int32) (v3 : Int32) (s0 : Int32) (s1 : Option Nat) : nk_Sim G l RX12 cX12_part 5 (some FieldType.int) 3 64 false nk_eI 36 [(0, .inr (some t0)), (1, .inl v1), (2, .inl v2), (3, .inl v3)] [.inl s0, .inr s1] h (f_X12_part_c36   h t0 v1 v2 v3 s0 s1) := by
  unfold f_X12_part_c36
  refine nr_rcv (ks := [19]) (pre := [.inl s0]) (fun a1 hm => ?_)
  refine nr_doI (st := []) (nk_callV (q := (RX12, TX12, 45)) (ci := 12) (c_X12_holds (G := G) hl0 h a1 s0) dX12_part_36 (List.mem_singleton.mp hm) rfl rfl my_X12_holds im_X12_holds se_RX12_X12_holds ml_RX12_143 rfl rfl (Nat.le_of_ble_eq_true rfl) (by decide) (by decide)) (fun h2 x3 => ?_)
  refine nr_if_eq (tgt := 67) dX12_part_39 (by decide) (fun _ => ?_) (fun _ => ?_)
  · refine nr_iconst (v := 0) dX12_part_67 (by decide) ?_
    exact nk_locals [] rfl (s_X12_part_c68 hl0  h2 0)
  · refine nr_aload_n 0 dX12_part_42 rfl ?_
    refine nr_getP [19] 33 dX12_part_43 fk_RX12_88 (fun x4 => ?_)
    refine nr_bipush (v := 6) dX12_part_46 (by decide) ?_
    refine nr_aload_n 0 dX12_part_48 rfl ?_
    refine nr_getP [19] 31 dX12_part_49 fk_RX12_82 (fun x5 => ?_)
    refine nr_sipush (v := 160) dX12_part_52 (by decide) ?_
    refine nr_iload_n 1 dX12_part_55 rfl ?_
    refine nr_imul dX12_part_56 ?_
    refine nr_iload_n 2 dX12_part_57 rfl ?_
    refine nr_iadd dX12_part_58 ?_
    refine nr_iaload dX12_part_59 (fun x6 => ?_)
    refine nr_imul dX12_part_60 ?_
    refine nr_iload_n 3 dX12_part_61 rfl ?_
    refine nr_iadd dX12_part_62 ?_
    refine nr_iaload dX12_part_63 (fun x7 => ?_)
    refine nr_goto (tgt := 68) dX12_part_64 (by decide) ?_
    exact nk_locals [] rfl (s_X12_part_c68 hl0  h2 x7)
set_option maxHeartbeats 4000000 in
theorem s_X12_part_c23 {G : nk_G} {l : Launch} (hl0 : l.flags = flags0)   (h : nk_H) (t0 : Nat) (v1 : Int32) (v2 : Int32) (v3 : Int32) (s0 : Int32) : nk_Sim G l RX12 cX12_part 5 (some FieldType.int) 3 64 false nk_eI 23 [(0, .inr (some t0)), (1, .inl v1), (2, .inl v2), (3, .inl v3)] [.inl s0] h (f_X12_part_c23   h t0 v1 v2 v3 s0) := by
  unfold f_X12_part_c23
  refine nr_istore (lv2 := [(4, .inl s0), (0, .inr (some t0)), (1, .inl v1), (2, .inl v2), (3, .inl v3)]) dX12_part_23 (by decide) rfl ?_
  refine nr_aload_n 1 dX12_part_25 rfl ?_
  refine nr_iload 0 dX12_part_26 rfl ?_
  refine nr_if_eq (tgt := 35) dX12_part_28 (by decide) (fun _ => ?_) (fun _ => ?_)
  · refine nr_iconst (v := 1) dX12_part_35 (by decide) ?_
    exact nk_locals [1, 2, 3, 4] rfl (s_X12_part_c36 hl0  h t0 v1 v2 v3 1 (some t0))
  · refine nr_iconst (v := 0) dX12_part_31 (by decide) ?_
    refine nr_goto (tgt := 36) dX12_part_32 (by decide) ?_
    exact nk_locals [1, 2, 3, 4] rfl (s_X12_part_c36 hl0  h t0 v1 v2 v3 0 (some t0))
set_option maxHeartbeats 4000000 in
theorem s_X12_part_c22 {G : nk_G} {l : Launch} (hl0 : l.flags = flags0)   (h : nk_H) (t0 : Nat) (v1 : Int32) (v2 : Int32) (v3 : Int32)  : nk_Sim G l RX12 cX12_part 5 (some FieldType.int) 3 64 false nk_eI 22 [(0, .inr (some t0)), (1, .inl v1), (2, .inl v2), (3, .inl v3)] [] h (f_X12_part_c22   h t0 v1 v2 v3 ) := by
  unfold f_X12_part_c22
  refine nr_iconst (v := 0) dX12_part_22 (by decide) ?_
  exact s_X12_part_c23 hl0  h t0 v1 v2 v3 0
set_option maxHeartbeats 4000000 in
theorem s_X12_part {G : nk_G} {l : Launch} (hl0 : l.flags = flags0) (h : nk_H) (t0 : Nat) (v1 : Int32) (v2 : Int32) (v3 : Int32) : nk_Sim G l RX12 cX12_part 5 (some FieldType.int) 3 64 false nk_eI 0 [(0, .inr (some t0)), (1, .inl v1), (2, .inl v2), (3, .inl v3)] [] h (f_X12_part  h t0 v1 v2 v3) := by
  unfold f_X12_part
  refine nr_aload_n 0 dX12_part_0 rfl ?_
  refine nr_iload_n 1 dX12_part_1 rfl ?_
  refine nr_iload_n 2 dX12_part_2 rfl ?_
  refine nr_rcv (ks := [19]) (pre := [.inl v2, .inl v1]) (fun a8 hm => ?_)
  refine nr_doI (st := []) (nk_callV (q := (RX12, TX12, 45)) (ci := 12) (c_X12_isRecord (G := G) hl0 h a8 v1 v2) dX12_part_3 (List.mem_singleton.mp hm) rfl rfl my_X12_isRecord im_X12_isRecord se_RX12_X12_isRecord ml_RX12_269 rfl rfl (Nat.le_of_ble_eq_true rfl) (by decide) (by decide)) (fun h9 x10 => ?_)
  refine nr_if_eq (tgt := 22) dX12_part_6 (by decide) (fun _ => ?_) (fun _ => ?_)
  · exact s_X12_part_c22 hl0  h9 t0 v1 v2 v3
  · refine nr_iload_n 3 dX12_part_9 rfl ?_
    refine nr_iconst (v := 0) dX12_part_10 (by decide) ?_
    refine nr_iconst (v := 5) dX12_part_11 (by decide) ?_
    refine nr_doI (st := []) (nk_callS (c_X12_in (G := G) hl0 h9 v3 0 5) dX12_part_12 my_X12_in st_X12_in ml_RX12_124 rfl rfl (Nat.le_of_ble_eq_true rfl) (by decide) (by decide)) (fun h11 x12 => ?_)
    refine nr_if_eq (tgt := 22) dX12_part_15 (by decide) (fun _ => ?_) (fun _ => ?_)
    · exact s_X12_part_c22 hl0  h11 t0 v1 v2 v3
    · refine nr_iconst (v := 1) dX12_part_18 (by decide) ?_
      refine nr_goto (tgt := 23) dX12_part_19 (by decide) ?_
      exact s_X12_part_c23 hl0  h11 t0 v1 v2 v3 1
theorem c_X12_part {G : nk_G} {l : Launch} (hl0 : l.flags = flags0) (h : nk_H) (t0 : Nat) (v1 : Int32) (v2 : Int32) (v3 : Int32) : nk_Con G l yX12_part cX12_part 5 (some FieldType.int) 3 64 nk_eI [.inr (some t0), .inl v1, .inl v2, .inl v3] h (f_X12_part h t0 v1 v2 v3) :=
  nk_con (ini := false) (by decide) hl0 (Nat.le_of_ble_eq_true rfl) (by decide) (s_X12_part hl0 h t0 v1 v2 v3)
set_option maxHeartbeats 4000000 in
theorem s_X12_seal_c30 {G : nk_G} {l : Launch} (hl0 : l.flags = flags0)   (h : nk_H)  (s0 : Int32) : nk_Sim G l RX12 cX12_seal 3 (some FieldType.int) 4 86 false nk_eI 30 [] [.inl s0] h (f_X12_seal_c30   h  s0) := by
  unfold f_X12_seal_c30
  exact nr_iret rfl rfl dX12_seal_30
set_option maxHeartbeats 4000000 in
theorem s_X12_seal {G : nk_G} {l : Launch} (hl0 : l.flags = flags0) (h : nk_H) (t0 : Nat) (v1 : Int32) (v2 : Int32) : nk_Sim G l RX12 cX12_seal 3 (some FieldType.int) 4 86 false nk_eI 0 [(0, .inr (some t0)), (1, .inl v1), (2, .inl v2)] [] h (f_X12_seal  h t0 v1 v2) := by
  unfold f_X12_seal
  refine nr_aload_n 0 dX12_seal_0 rfl ?_
  refine nr_iload_n 1 dX12_seal_1 rfl ?_
  refine nr_iload_n 2 dX12_seal_2 rfl ?_
  refine nr_rcv (ks := [19]) (pre := [.inl v2, .inl v1]) (fun a1 hm => ?_)
  refine nr_doI (st := []) (nk_callV (q := (RX12, TX12, 45)) (ci := 12) (c_X12_isThere (G := G) hl0 h a1 v1 v2) dX12_seal_3 (List.mem_singleton.mp hm) rfl rfl my_X12_isThere im_X12_isThere se_RX12_X12_isThere ml_RX12_290 rfl rfl (Nat.le_of_ble_eq_true rfl) (by decide) (by decide)) (fun h2 x3 => ?_)
  refine nr_if_eq (tgt := 29) dX12_seal_6 (by decide) (fun _ => ?_) (fun _ => ?_)
  · refine nr_iconst (v := 0) dX12_seal_29 (by decide) ?_
    exact nk_locals [] rfl (s_X12_seal_c30 hl0  h2 0)
  · refine nr_aload_n 0 dX12_seal_9 rfl ?_
    refine nr_getP [19] 35 dX12_seal_10 fk_RX12_94 (fun x4 => ?_)
    refine nr_aload_n 0 dX12_seal_13 rfl ?_
    refine nr_getP [19] 31 dX12_seal_14 fk_RX12_82 (fun x5 => ?_)
    refine nr_sipush (v := 160) dX12_seal_17 (by decide) ?_
    refine nr_iload_n 1 dX12_seal_20 rfl ?_
    refine nr_imul dX12_seal_21 ?_
    refine nr_iload_n 2 dX12_seal_22 rfl ?_
    refine nr_iadd dX12_seal_23 ?_
    refine nr_iaload dX12_seal_24 (fun x6 => ?_)
    refine nr_iaload dX12_seal_25 (fun x7 => ?_)
    refine nr_goto (tgt := 30) dX12_seal_26 (by decide) ?_
    exact nk_locals [] rfl (s_X12_seal_c30 hl0  h2 x7)
theorem c_X12_seal {G : nk_G} {l : Launch} (hl0 : l.flags = flags0) (h : nk_H) (t0 : Nat) (v1 : Int32) (v2 : Int32) : nk_Con G l yX12_seal cX12_seal 3 (some FieldType.int) 4 86 nk_eI [.inr (some t0), .inl v1, .inl v2] h (f_X12_seal h t0 v1 v2) :=
  nk_con (ini := false) (by decide) hl0 (Nat.le_of_ble_eq_true rfl) (by decide) (s_X12_seal hl0 h t0 v1 v2)
set_option maxHeartbeats 4000000 in
theorem s_X12_broken_c23 {G : nk_G} {l : Launch} (hl0 : l.flags = flags0) {r23 : nk_H → Nat → Int32 → Int32 → Option (nk_H × Int32)} (hr23 : ∀ (h : nk_H) (t0 : Nat) (v1 : Int32) (v2 : Int32), nk_Sim G l RX12 cX12_broken 3 (some FieldType.int) 3 68 false nk_eI 23 [(0, .inr (some t0)), (1, .inl v1), (2, .inl v2)] [] h (r23 h t0 v1 v2)) (h : nk_H) (t0 : Nat) (v1 : Int32) (v2 : Int32)  : nk_Sim G l RX12 cX12_broken 3 (some FieldType.int) 3 68 false nk_eI 23 [(0, .inr (some t0)), (1, .inl v1), (2, .inl v2)] [] h (f_X12_broken_c23  r23 h t0 v1 v2 ) := by
  unfold f_X12_broken_c23
  refine nr_iload_n 2 dX12_broken_23 rfl ?_
  refine nr_aload_n 0 dX12_broken_24 rfl ?_
  refine nr_getP [19] 30 dX12_broken_25 fk_RX12_79 (fun x1 => ?_)
  refine nr_iload_n 1 dX12_broken_28 rfl ?_
  refine nr_iaload dX12_broken_29 (fun x2 => ?_)
  refine nr_icmp_ge (tgt := 67) dX12_broken_30 (by decide) (fun _ => ?_) (fun _ => ?_)
  · refine nr_iconst (v := (-1)) dX12_broken_67 (by decide) ?_
    exact nr_iret rfl rfl dX12_broken_68
  · refine nr_aload_n 0 dX12_broken_33 rfl ?_
    refine nr_iload_n 1 dX12_broken_34 rfl ?_
    refine nr_iload_n 2 dX12_broken_35 rfl ?_
    refine nr_rcv (ks := [19]) (pre := [.inl v2, .inl v1]) (fun a3 hm => ?_)
    refine nr_doI (st := []) (nk_callV (q := (RX12, TX12, 45)) (ci := 12) (c_X12_sealNow (G := G) hl0 h a3 v1 v2) dX12_broken_36 (List.mem_singleton.mp hm) rfl rfl my_X12_sealNow im_X12_sealNow se_RX12_X12_sealNow ml_RX12_263 rfl rfl (Nat.le_of_ble_eq_true rfl) (by decide) (by decide)) (fun h4 x5 => ?_)
    refine nr_aload_n 0 dX12_broken_39 rfl ?_
    refine nr_getP [19] 35 dX12_broken_40 fk_RX12_94 (fun x6 => ?_)
    refine nr_aload_n 0 dX12_broken_43 rfl ?_
    refine nr_getP [19] 31 dX12_broken_44 fk_RX12_82 (fun x7 => ?_)
    refine nr_sipush (v := 160) dX12_broken_47 (by decide) ?_
    refine nr_iload_n 1 dX12_broken_50 rfl ?_
    refine nr_imul dX12_broken_51 ?_
    refine nr_iload_n 2 dX12_broken_52 rfl ?_
    refine nr_iadd dX12_broken_53 ?_
    refine nr_iaload dX12_broken_54 (fun x8 => ?_)
    refine nr_iaload dX12_broken_55 (fun x9 => ?_)
    refine nr_icmp_eq (tgt := 61) dX12_broken_56 (by decide) (fun _ => ?_) (fun _ => ?_)
    · refine nr_iinc (lv2 := [(2, .inl (v2 + 1)), (0, .inr (some t0)), (1, .inl v1)]) 2 (v2 + 1) dX12_broken_61 rfl (by rfl) (by decide) rfl ?_
      refine nr_goto (tgt := 23) dX12_broken_64 (by decide) ?_
      exact nk_locals [1, 2, 0] rfl (hr23 h4 t0 v1 (v2 + 1))
    · refine nr_iload_n 2 dX12_broken_59 rfl ?_
      exact nr_iret rfl rfl dX12_broken_60
theorem s_X12_broken_b23 {G : nk_G} {l : Launch} (hl0 : l.flags = flags0)   : ∀ (n : Nat) (h : nk_H) (t0 : Nat) (v1 : Int32) (v2 : Int32), nk_Sim G l RX12 cX12_broken 3 (some FieldType.int) 3 68 false nk_eI 23 [(0, .inr (some t0)), (1, .inl v1), (2, .inl v2)] [] h (f_X12_broken_b23   n h t0 v1 v2)
  | 0, _, _, _, _ => nk_none
  | n + 1, h, t0, v1, v2 => s_X12_broken_c23 hl0 (s_X12_broken_b23 hl0  n) h t0 v1 v2
set_option maxHeartbeats 4000000 in
theorem s_X12_broken_c13 {G : nk_G} {l : Launch} (hl0 : l.flags = flags0)   (h : nk_H) (t0 : Nat) (v1 : Int32) (s0 : Int32) (s1 : Option Nat) : nk_Sim G l RX12 cX12_broken 3 (some FieldType.int) 3 68 false nk_eI 13 [(0, .inr (some t0)), (1, .inl v1)] [.inl s0, .inr s1] h (f_X12_broken_c13   h t0 v1 s0 s1) := by
  unfold f_X12_broken_c13
  refine nr_rcv (ks := [19]) (pre := [.inl s0]) (fun a10 hm => ?_)
  refine nr_doI (st := []) (nk_callV (q := (RX12, TX12, 45)) (ci := 12) (c_X12_holds (G := G) hl0 h a10 s0) dX12_broken_13 (List.mem_singleton.mp hm) rfl rfl my_X12_holds im_X12_holds se_RX12_X12_holds ml_RX12_143 rfl rfl (Nat.le_of_ble_eq_true rfl) (by decide) (by decide)) (fun h11 x12 => ?_)
  refine nr_if_ne (tgt := 21) dX12_broken_16 (by decide) (fun _ => ?_) (fun _ => ?_)
  · refine nr_iconst (v := 0) dX12_broken_19 (by decide) ?_
    exact nr_iret rfl rfl dX12_broken_20
  · refine nr_iconst (v := 0) dX12_broken_21 (by decide) ?_
    refine nr_istore_n (lv2 := [(2, .inl 0), (0, .inr (some t0)), (1, .inl v1)]) dX12_broken_22 (by decide) rfl ?_
    exact nk_locals [1, 2, 0] rfl (s_X12_broken_b23 hl0  4096 h11 t0 v1 0)
set_option maxHeartbeats 4000000 in
theorem s_X12_broken {G : nk_G} {l : Launch} (hl0 : l.flags = flags0) (h : nk_H) (t0 : Nat) (v1 : Int32) : nk_Sim G l RX12 cX12_broken 3 (some FieldType.int) 3 68 false nk_eI 0 [(0, .inr (some t0)), (1, .inl v1)] [] h (f_X12_broken  h t0 v1) := by
  unfold f_X12_broken
  refine nr_aload_n 0 dX12_broken_0 rfl ?_
  refine nr_iload_n 1 dX12_broken_1 rfl ?_
  refine nr_doI (st := [.inr (some t0)]) (nk_callS (c_X12_isKiosk (G := G) hl0 h v1) dX12_broken_2 my_X12_isKiosk st_X12_isKiosk ml_RX12_131 rfl rfl (Nat.le_of_ble_eq_true rfl) (by decide) (by decide)) (fun h13 x14 => ?_)
  refine nr_if_eq (tgt := 12) dX12_broken_5 (by decide) (fun _ => ?_) (fun _ => ?_)
  · refine nr_iconst (v := 1) dX12_broken_12 (by decide) ?_
    exact s_X12_broken_c13 hl0  h13 t0 v1 1 (some t0)
  · refine nr_iconst (v := 0) dX12_broken_8 (by decide) ?_
    refine nr_goto (tgt := 13) dX12_broken_9 (by decide) ?_
    exact s_X12_broken_c13 hl0  h13 t0 v1 0 (some t0)
theorem c_X12_broken {G : nk_G} {l : Launch} (hl0 : l.flags = flags0) (h : nk_H) (t0 : Nat) (v1 : Int32) : nk_Con G l yX12_broken cX12_broken 3 (some FieldType.int) 3 68 nk_eI [.inr (some t0), .inl v1] h (f_X12_broken h t0 v1) :=
  nk_con (ini := false) (by decide) hl0 (Nat.le_of_ble_eq_true rfl) (by decide) (s_X12_broken hl0 h t0 v1)
set_option maxHeartbeats 4000000 in
theorem s_X12_size_c30 {G : nk_G} {l : Launch} (hl0 : l.flags = flags0)   (h : nk_H)  (s0 : Int32) : nk_Sim G l RX12 cX12_size 2 (some FieldType.int) 2 43 false nk_eI 30 [] [.inl s0] h (f_X12_size_c30   h  s0) := by
  unfold f_X12_size_c30
  exact nr_iret rfl rfl dX12_size_30
set_option maxHeartbeats 4000000 in
theorem s_X12_size_c14 {G : nk_G} {l : Launch} (hl0 : l.flags = flags0)   (h : nk_H) (t0 : Nat) (v1 : Int32) (s0 : Int32) (s1 : Option Nat) : nk_Sim G l RX12 cX12_size 2 (some FieldType.int) 2 43 false nk_eI 14 [(0, .inr (some t0)), (1, .inl v1)] [.inl s0, .inr s1] h (f_X12_size_c14   h t0 v1 s0 s1) := by
  unfold f_X12_size_c14
  refine nr_rcv (ks := [19]) (pre := [.inl s0]) (fun a1 hm => ?_)
  refine nr_doI (st := []) (nk_callV (q := (RX12, TX12, 45)) (ci := 12) (c_X12_holds (G := G) hl0 h a1 s0) dX12_size_14 (List.mem_singleton.mp hm) rfl rfl my_X12_holds im_X12_holds se_RX12_X12_holds ml_RX12_143 rfl rfl (Nat.le_of_ble_eq_true rfl) (by decide) (by decide)) (fun h2 x3 => ?_)
  refine nr_if_eq (tgt := 29) dX12_size_17 (by decide) (fun _ => ?_) (fun _ => ?_)
  · refine nr_iconst (v := 0) dX12_size_29 (by decide) ?_
    exact nk_locals [] rfl (s_X12_size_c30 hl0  h2 0)
  · refine nr_aload_n 0 dX12_size_20 rfl ?_
    refine nr_getP [19] 40 dX12_size_21 fk_RX12_106 (fun x4 => ?_)
    refine nr_iload_n 1 dX12_size_24 rfl ?_
    refine nr_iaload dX12_size_25 (fun x5 => ?_)
    refine nr_goto (tgt := 30) dX12_size_26 (by decide) ?_
    exact nk_locals [] rfl (s_X12_size_c30 hl0  h2 x5)
set_option maxHeartbeats 4000000 in
theorem s_X12_size {G : nk_G} {l : Launch} (hl0 : l.flags = flags0) (h : nk_H) (t0 : Nat) (v1 : Int32) : nk_Sim G l RX12 cX12_size 2 (some FieldType.int) 2 43 false nk_eI 0 [(0, .inr (some t0)), (1, .inl v1)] [] h (f_X12_size  h t0 v1) := by
  unfold f_X12_size
  refine nr_aload_n 0 dX12_size_0 rfl ?_
  refine nr_aload_n 0 dX12_size_1 rfl ?_
  refine nr_iload_n 1 dX12_size_2 rfl ?_
  refine nr_rcv (ks := [19]) (pre := [.inl v1]) (fun a6 hm => ?_)
  refine nr_doI (st := [.inr (some t0)]) (nk_callV (q := (RX12, TX12, 45)) (ci := 12) (c_X12_isCopy (G := G) hl0 h a6 v1) dX12_size_3 (List.mem_singleton.mp hm) rfl rfl my_X12_isCopy im_X12_isCopy se_RX12_X12_isCopy ml_RX12_281 rfl rfl (Nat.le_of_ble_eq_true rfl) (by decide) (by decide)) (fun h7 x8 => ?_)
  refine nr_if_eq (tgt := 13) dX12_size_6 (by decide) (fun _ => ?_) (fun _ => ?_)
  · refine nr_iconst (v := 1) dX12_size_13 (by decide) ?_
    exact s_X12_size_c14 hl0  h7 t0 v1 1 (some t0)
  · refine nr_iconst (v := 0) dX12_size_9 (by decide) ?_
    refine nr_goto (tgt := 14) dX12_size_10 (by decide) ?_
    exact s_X12_size_c14 hl0  h7 t0 v1 0 (some t0)
theorem c_X12_size {G : nk_G} {l : Launch} (hl0 : l.flags = flags0) (h : nk_H) (t0 : Nat) (v1 : Int32) : nk_Con G l yX12_size cX12_size 2 (some FieldType.int) 2 43 nk_eI [.inr (some t0), .inl v1] h (f_X12_size h t0 v1) :=
  nk_con (ini := false) (by decide) hl0 (Nat.le_of_ble_eq_true rfl) (by decide) (s_X12_size hl0 h t0 v1)
set_option maxHeartbeats 4000000 in
theorem s_X12_copied_c54 {G : nk_G} {l : Launch} (hl0 : l.flags = flags0)   (h : nk_H)  (s0 : Int32) : nk_Sim G l RX12 cX12_copied 4 (some FieldType.int) 3 66 false nk_eI 54 [] [.inl s0] h (f_X12_copied_c54   h  s0) := by
  unfold f_X12_copied_c54
  exact nr_iret rfl rfl dX12_copied_54
set_option maxHeartbeats 4000000 in
theorem s_X12_copied_c16 {G : nk_G} {l : Launch} (hl0 : l.flags = flags0)   (h : nk_H) (t0 : Nat) (v1 : Int32) (v2 : Int32) (v3 : Int32) (s0 : Int32) (s1 : Option Nat) : nk_Sim G l RX12 cX12_copied 4 (some FieldType.int) 3 66 false nk_eI 16 [(0, .inr (some t0)), (1, .inl v1), (2, .inl v2), (3, .inl v3)] [.inl s0, .inr s1] h (f_X12_copied_c16   h t0 v1 v2 v3 s0 s1) := by
  unfold f_X12_copied_c16
  refine nr_rcv (ks := [19]) (pre := [.inl s0]) (fun a1 hm => ?_)
  refine nr_doI (st := []) (nk_callV (q := (RX12, TX12, 45)) (ci := 12) (c_X12_holds (G := G) hl0 h a1 s0) dX12_copied_16 (List.mem_singleton.mp hm) rfl rfl my_X12_holds im_X12_holds se_RX12_X12_holds ml_RX12_143 rfl rfl (Nat.le_of_ble_eq_true rfl) (by decide) (by decide)) (fun h2 x3 => ?_)
  refine nr_if_ne (tgt := 24) dX12_copied_19 (by decide) (fun _ => ?_) (fun _ => ?_)
  · refine nr_iconst (v := 0) dX12_copied_22 (by decide) ?_
    exact nr_iret rfl rfl dX12_copied_23
  · refine nr_aload_n 0 dX12_copied_24 rfl ?_
    refine nr_iload_n 1 dX12_copied_25 rfl ?_
    refine nr_iload_n 3 dX12_copied_26 rfl ?_
    refine nr_rcv (ks := [19]) (pre := [.inl v3, .inl v1]) (fun a4 hm => ?_)
    refine nr_doI (st := []) (nk_callV (q := (RX12, TX12, 45)) (ci := 12) (c_X12_isLeftOut (G := G) hl0 h2 a4 v1 v3) dX12_copied_27 (List.mem_singleton.mp hm) rfl rfl my_X12_isLeftOut im_X12_isLeftOut se_RX12_X12_isLeftOut ml_RX12_272 rfl rfl (Nat.le_of_ble_eq_true rfl) (by decide) (by decide)) (fun h5 x6 => ?_)
    refine nr_if_eq (tgt := 37) dX12_copied_30 (by decide) (fun _ => ?_) (fun _ => ?_)
    · refine nr_aload_n 0 dX12_copied_37 rfl ?_
      refine nr_getP [19] 43 dX12_copied_38 fk_RX12_115 (fun x7 => ?_)
      refine nr_bipush (v := 6) dX12_copied_41 (by decide) ?_
      refine nr_sipush (v := 160) dX12_copied_43 (by decide) ?_
      refine nr_iload_n 1 dX12_copied_46 rfl ?_
      refine nr_imul dX12_copied_47 ?_
      refine nr_iload_n 2 dX12_copied_48 rfl ?_
      refine nr_iadd dX12_copied_49 ?_
      refine nr_imul dX12_copied_50 ?_
      refine nr_iload_n 3 dX12_copied_51 rfl ?_
      refine nr_iadd dX12_copied_52 ?_
      refine nr_iaload dX12_copied_53 (fun x8 => ?_)
      exact nk_locals [] rfl (s_X12_copied_c54 hl0  h5 x8)
    · refine nr_iconst (v := (-1)) dX12_copied_33 (by decide) ?_
      refine nr_goto (tgt := 54) dX12_copied_34 (by decide) ?_
      exact nk_locals [] rfl (s_X12_copied_c54 hl0  h5 (-1))
set_option maxHeartbeats 4000000 in
theorem s_X12_copied {G : nk_G} {l : Launch} (hl0 : l.flags = flags0) (h : nk_H) (t0 : Nat) (v1 : Int32) (v2 : Int32) (v3 : Int32) : nk_Sim G l RX12 cX12_copied 4 (some FieldType.int) 3 66 false nk_eI 0 [(0, .inr (some t0)), (1, .inl v1), (2, .inl v2), (3, .inl v3)] [] h (f_X12_copied  h t0 v1 v2 v3) := by
  unfold f_X12_copied
  refine nr_aload_n 0 dX12_copied_0 rfl ?_
  refine nr_aload_n 0 dX12_copied_1 rfl ?_
  refine nr_iload_n 1 dX12_copied_2 rfl ?_
  refine nr_iload_n 2 dX12_copied_3 rfl ?_
  refine nr_iload_n 3 dX12_copied_4 rfl ?_
  refine nr_rcv (ks := [19]) (pre := [.inl v3, .inl v2, .inl v1]) (fun a9 hm => ?_)
  refine nr_doI (st := [.inr (some t0)]) (nk_callV (q := (RX12, TX12, 45)) (ci := 12) (c_X12_isCopied (G := G) hl0 h a9 v1 v2 v3) dX12_copied_5 (List.mem_singleton.mp hm) rfl rfl my_X12_isCopied im_X12_isCopied se_RX12_X12_isCopied ml_RX12_284 rfl rfl (Nat.le_of_ble_eq_true rfl) (by decide) (by decide)) (fun h10 x11 => ?_)
  refine nr_if_eq (tgt := 15) dX12_copied_8 (by decide) (fun _ => ?_) (fun _ => ?_)
  · refine nr_iconst (v := 1) dX12_copied_15 (by decide) ?_
    exact s_X12_copied_c16 hl0  h10 t0 v1 v2 v3 1 (some t0)
  · refine nr_iconst (v := 0) dX12_copied_11 (by decide) ?_
    refine nr_goto (tgt := 16) dX12_copied_12 (by decide) ?_
    exact s_X12_copied_c16 hl0  h10 t0 v1 v2 v3 0 (some t0)
theorem c_X12_copied {G : nk_G} {l : Launch} (hl0 : l.flags = flags0) (h : nk_H) (t0 : Nat) (v1 : Int32) (v2 : Int32) (v3 : Int32) : nk_Con G l yX12_copied cX12_copied 4 (some FieldType.int) 3 66 nk_eI [.inr (some t0), .inl v1, .inl v2, .inl v3] h (f_X12_copied h t0 v1 v2 v3) :=
  nk_con (ini := false) (by decide) hl0 (Nat.le_of_ble_eq_true rfl) (by decide) (s_X12_copied hl0 h t0 v1 v2 v3)
set_option maxHeartbeats 4000000 in
theorem s_X12_isBroken_c69 {G : nk_G} {l : Launch} (hl0 : l.flags = flags0) {r5 : nk_H → Nat → Int32 → Int32 → Int32 → Int32 → Option (nk_H × Int32)} (hr5 : ∀ (h : nk_H) (t0 : Nat) (v1 : Int32) (v2 : Int32) (v3 : Int32) (v4 : Int32), nk_Sim G l RX12 cX12_isBroken 6 (some FieldType.boolean) 2 44 false nk_eI 5 [(0, .inr (some t0)), (1, .inl v1), (2, .inl v2), (3, .inl v3), (4, .inl v4)] [] h (r5 h t0 v1 v2 v3 v4)) (h : nk_H) (t0 : Nat) (v1 : Int32) (v2 : Int32) (v4 : Int32) (s0 : Int32) (s1 : Int32) : nk_Sim G l RX12 cX12_isBroken 6 (some FieldType.boolean) 2 44 false nk_eI 69 [(0, .inr (some t0)), (1, .inl v1), (2, .inl v2), (4, .inl v4)] [.inl s0, .inl s1] h (f_X12_isBroken_c69  r5 h t0 v1 v2 v4 s0 s1) := by
  unfold f_X12_isBroken_c69
  refine nr_doI (st := []) (nk_callS (c_X12_sealed (G := G) hl0 h s1 s0) dX12_isBroken_69 my_X12_sealed st_X12_sealed ml_RX12_242 rfl rfl (Nat.le_of_ble_eq_true rfl) (by decide) (by decide)) (fun h1 x2 => ?_)
  refine nr_istore_n (lv2 := [(3, .inl x2), (0, .inr (some t0)), (1, .inl v1), (2, .inl v2), (4, .inl v4)]) dX12_isBroken_72 (by decide) rfl ?_
  refine nr_iinc (lv2 := [(4, .inl (v4 + 1)), (3, .inl x2), (0, .inr (some t0)), (1, .inl v1), (2, .inl v2)]) 4 (v4 + 1) dX12_isBroken_73 rfl (by rfl) (by decide) rfl ?_
  refine nr_goto (tgt := 5) dX12_isBroken_76 (by decide) ?_
  exact nk_locals [2, 3, 4, 1, 0] rfl (hr5 h1 t0 v1 v2 x2 (v4 + 1))
set_option maxHeartbeats 4000000 in
theorem s_X12_isBroken_c134 {G : nk_G} {l : Launch} (hl0 : l.flags = flags0)   (h : nk_H)  (s0 : Int32) : nk_Sim G l RX12 cX12_isBroken 6 (some FieldType.boolean) 2 44 false nk_eI 134 [] [.inl s0] h (f_X12_isBroken_c134   h  s0) := by
  unfold f_X12_isBroken_c134
  exact nr_zret rfl rfl dX12_isBroken_134
set_option maxHeartbeats 4000000 in
theorem s_X12_isBroken_c106 {G : nk_G} {l : Launch} (hl0 : l.flags = flags0)   (h : nk_H) (t0 : Nat) (v1 : Int32) (v2 : Int32) (v3 : Int32) (s0 : Int32) : nk_Sim G l RX12 cX12_isBroken 6 (some FieldType.boolean) 2 44 false nk_eI 106 [(0, .inr (some t0)), (1, .inl v1), (2, .inl v2), (3, .inl v3)] [.inl s0] h (f_X12_isBroken_c106   h t0 v1 v2 v3 s0) := by
  unfold f_X12_isBroken_c106
  refine nr_istore (lv2 := [(4, .inl s0), (0, .inr (some t0)), (1, .inl v1), (2, .inl v2), (3, .inl v3)]) dX12_isBroken_106 (by decide) rfl ?_
  refine nr_iload 0 dX12_isBroken_108 rfl ?_
  refine nr_iload_n 4 dX12_isBroken_110 rfl ?_
  refine nr_doI (st := []) (nk_callS (c_X12_sealed (G := G) hl0 h s0 v3) dX12_isBroken_111 my_X12_sealed st_X12_sealed ml_RX12_242 rfl rfl (Nat.le_of_ble_eq_true rfl) (by decide) (by decide)) (fun h3 x4 => ?_)
  refine nr_aload_n 1 dX12_isBroken_114 rfl ?_
  refine nr_getP [19] 44 dX12_isBroken_115 fk_RX12_118 (fun x5 => ?_)
  refine nr_sipush (v := 160) dX12_isBroken_118 (by decide) ?_
  refine nr_iload_n 2 dX12_isBroken_121 rfl ?_
  refine nr_imul dX12_isBroken_122 ?_
  refine nr_iload_n 3 dX12_isBroken_123 rfl ?_
  refine nr_iadd dX12_isBroken_124 ?_
  refine nr_iaload dX12_isBroken_125 (fun x6 => ?_)
  refine nr_icmp_eq (tgt := 133) dX12_isBroken_126 (by decide) (fun _ => ?_) (fun _ => ?_)
  · refine nr_iconst (v := 0) dX12_isBroken_133 (by decide) ?_
    exact nk_locals [] rfl (s_X12_isBroken_c134 hl0  h3 0)
  · refine nr_iconst (v := 1) dX12_isBroken_129 (by decide) ?_
    refine nr_goto (tgt := 134) dX12_isBroken_130 (by decide) ?_
    exact nk_locals [] rfl (s_X12_isBroken_c134 hl0  h3 1)
set_option maxHeartbeats 4000000 in
theorem s_X12_isBroken_c5 {G : nk_G} {l : Launch} (hl0 : l.flags = flags0) {r5 : nk_H → Nat → Int32 → Int32 → Int32 → Int32 → Option (nk_H × Int32)} (hr5 : ∀ (h : nk_H) (t0 : Nat) (v1 : Int32) (v2 : Int32) (v3 : Int32) (v4 : Int32), nk_Sim G l RX12 cX12_isBroken 6 (some FieldType.boolean) 2 44 false nk_eI 5 [(0, .inr (some t0)), (1, .inl v1), (2, .inl v2), (3, .inl v3), (4, .inl v4)] [] h (r5 h t0 v1 v2 v3 v4)) (h : nk_H) (t0 : Nat) (v1 : Int32) (v2 : Int32) (v3 : Int32) (v4 : Int32)  : nk_Sim G l RX12 cX12_isBroken 6 (some FieldType.boolean) 2 44 false nk_eI 5 [(0, .inr (some t0)), (1, .inl v1), (2, .inl v2), (3, .inl v3), (4, .inl v4)] [] h (f_X12_isBroken_c5  r5 h t0 v1 v2 v3 v4 ) := by
  unfold f_X12_isBroken_c5
  refine nr_iload 4 dX12_isBroken_5 rfl ?_
  refine nr_bipush (v := 6) dX12_isBroken_7 (by decide) ?_
  refine nr_icmp_ge (tgt := 79) dX12_isBroken_9 (by decide) (fun _ => ?_) (fun _ => ?_)
  · refine nr_iload_n 2 dX12_isBroken_79 rfl ?_
    refine nr_if_ne (tgt := 92) dX12_isBroken_80 (by decide) (fun _ => ?_) (fun _ => ?_)
    · refine nr_aload_n 0 dX12_isBroken_83 rfl ?_
      refine nr_getP [19] 42 dX12_isBroken_84 fk_RX12_112 (fun x7 => ?_)
      refine nr_iload_n 1 dX12_isBroken_87 rfl ?_
      refine nr_iaload dX12_isBroken_88 (fun x8 => ?_)
      refine nr_goto (tgt := 106) dX12_isBroken_89 (by decide) ?_
      exact nk_locals [0, 1, 2, 3] rfl (s_X12_isBroken_c106 hl0  h t0 v1 v2 v3 x8)
    · refine nr_aload_n 0 dX12_isBroken_92 rfl ?_
      refine nr_getP [19] 44 dX12_isBroken_93 fk_RX12_118 (fun x9 => ?_)
      refine nr_sipush (v := 160) dX12_isBroken_96 (by decide) ?_
      refine nr_iload_n 1 dX12_isBroken_99 rfl ?_
      refine nr_imul dX12_isBroken_100 ?_
      refine nr_iload_n 2 dX12_isBroken_101 rfl ?_
      refine nr_iadd dX12_isBroken_102 ?_
      refine nr_iconst (v := 1) dX12_isBroken_103 (by decide) ?_
      refine nr_isub dX12_isBroken_104 ?_
      refine nr_iaload dX12_isBroken_105 (fun x10 => ?_)
      exact nk_locals [0, 1, 2, 3] rfl (s_X12_isBroken_c106 hl0  h t0 v1 v2 v3 x10)
  · refine nr_aload_n 0 dX12_isBroken_12 rfl ?_
    refine nr_getP [19] 43 dX12_isBroken_13 fk_RX12_115 (fun x11 => ?_)
    refine nr_bipush (v := 6) dX12_isBroken_16 (by decide) ?_
    refine nr_sipush (v := 160) dX12_isBroken_18 (by decide) ?_
    refine nr_iload_n 1 dX12_isBroken_21 rfl ?_
    refine nr_imul dX12_isBroken_22 ?_
    refine nr_iload_n 2 dX12_isBroken_23 rfl ?_
    refine nr_iadd dX12_isBroken_24 ?_
    refine nr_imul dX12_isBroken_25 ?_
    refine nr_iload 4 dX12_isBroken_26 rfl ?_
    refine nr_iadd dX12_isBroken_28 ?_
    refine nr_iaload dX12_isBroken_29 (fun x12 => ?_)
    refine nr_istore (lv2 := [(5, .inl x12), (0, .inr (some t0)), (1, .inl v1), (2, .inl v2), (3, .inl v3), (4, .inl v4)]) dX12_isBroken_30 (by decide) rfl ?_
    refine nr_iload_n 4 dX12_isBroken_32 rfl ?_
    refine nr_aload_n 1 dX12_isBroken_33 rfl ?_
    refine nr_iload_n 2 dX12_isBroken_34 rfl ?_
    refine nr_iload 5 dX12_isBroken_35 rfl ?_
    refine nr_rcv (ks := [19]) (pre := [.inl v4, .inl v1]) (fun a13 hm => ?_)
    refine nr_doI (st := [.inl v3]) (nk_callV (q := (RX12, TX12, 45)) (ci := 12) (c_X12_isLeftOut (G := G) hl0 h a13 v1 v4) dX12_isBroken_37 (List.mem_singleton.mp hm) rfl rfl my_X12_isLeftOut im_X12_isLeftOut se_RX12_X12_isLeftOut ml_RX12_272 rfl rfl (Nat.le_of_ble_eq_true rfl) (by decide) (by decide)) (fun h14 x15 => ?_)
    refine nr_if_eq (tgt := 48) dX12_isBroken_40 (by decide) (fun _ => ?_) (fun _ => ?_)
    · refine nr_aload_n 1 dX12_isBroken_48 rfl ?_
      refine nr_getP [19] 38 dX12_isBroken_49 fk_RX12_100 (fun x16 => ?_)
      refine nr_iload_n 2 dX12_isBroken_52 rfl ?_
      refine nr_iaload dX12_isBroken_53 (fun x17 => ?_)
      refine nr_aload_n 1 dX12_isBroken_54 rfl ?_
      refine nr_getP [19] 39 dX12_isBroken_55 fk_RX12_103 (fun x18 => ?_)
      refine nr_iload_n 2 dX12_isBroken_58 rfl ?_
      refine nr_iaload dX12_isBroken_59 (fun x19 => ?_)
      refine nr_iload_n 3 dX12_isBroken_60 rfl ?_
      refine nr_iadd dX12_isBroken_61 ?_
      refine nr_iload 5 dX12_isBroken_62 rfl ?_
      refine nr_iload 0 dX12_isBroken_64 rfl ?_
      refine nr_doI (st := [.inl v3]) (nk_callS (c_X12_markOf (G := G) hl0 h14 x17 (x19 + v2) v4 x12) dX12_isBroken_66 my_X12_markOf st_X12_markOf ml_RX12_245 rfl rfl (Nat.le_of_ble_eq_true rfl) (by decide) (by decide)) (fun h20 x21 => ?_)
      exact nk_locals [1, 2, 3, 5] rfl (s_X12_isBroken_c69 hl0 hr5 h20 t0 v1 v2 v4 x21 v3)
    · refine nr_iload 0 dX12_isBroken_43 rfl ?_
      refine nr_goto (tgt := 69) dX12_isBroken_45 (by decide) ?_
      exact nk_locals [1, 2, 3, 5] rfl (s_X12_isBroken_c69 hl0 hr5 h14 t0 v1 v2 v4 x12 v3)
theorem s_X12_isBroken_b5 {G : nk_G} {l : Launch} (hl0 : l.flags = flags0)   : ∀ (n : Nat) (h : nk_H) (t0 : Nat) (v1 : Int32) (v2 : Int32) (v3 : Int32) (v4 : Int32), nk_Sim G l RX12 cX12_isBroken 6 (some FieldType.boolean) 2 44 false nk_eI 5 [(0, .inr (some t0)), (1, .inl v1), (2, .inl v2), (3, .inl v3), (4, .inl v4)] [] h (f_X12_isBroken_b5   n h t0 v1 v2 v3 v4)
  | 0, _, _, _, _, _, _ => nk_none
  | n + 1, h, t0, v1, v2, v3, v4 => s_X12_isBroken_c5 hl0 (s_X12_isBroken_b5 hl0  n) h t0 v1 v2 v3 v4
set_option maxHeartbeats 4000000 in
theorem s_X12_isBroken {G : nk_G} {l : Launch} (hl0 : l.flags = flags0) (h : nk_H) (t0 : Nat) (v1 : Int32) (v2 : Int32) : nk_Sim G l RX12 cX12_isBroken 6 (some FieldType.boolean) 2 44 false nk_eI 0 [(0, .inr (some t0)), (1, .inl v1), (2, .inl v2)] [] h (f_X12_isBroken  h t0 v1 v2) := by
  unfold f_X12_isBroken
  refine nr_iconst (v := 1) dX12_isBroken_0 (by decide) ?_
  refine nr_istore_n (lv2 := [(3, .inl 1), (0, .inr (some t0)), (1, .inl v1), (2, .inl v2)]) dX12_isBroken_1 (by decide) rfl ?_
  refine nr_iconst (v := 0) dX12_isBroken_2 (by decide) ?_
  refine nr_istore (lv2 := [(4, .inl 0), (3, .inl 1), (0, .inr (some t0)), (1, .inl v1), (2, .inl v2)]) dX12_isBroken_3 (by decide) rfl ?_
  exact nk_locals [2, 3, 4, 1, 0] rfl (s_X12_isBroken_b5 hl0  4096 h t0 v1 v2 1 0)
theorem c_X12_isBroken {G : nk_G} {l : Launch} (hl0 : l.flags = flags0) (h : nk_H) (t0 : Nat) (v1 : Int32) (v2 : Int32) : nk_Con G l yX12_isBroken cX12_isBroken 6 (some FieldType.boolean) 2 44 nk_eI [.inr (some t0), .inl v1, .inl v2] h (f_X12_isBroken h t0 v1 v2) :=
  nk_con (ini := false) (by decide) hl0 (Nat.le_of_ble_eq_true rfl) (by decide) (s_X12_isBroken hl0 h t0 v1 v2)
set_option maxHeartbeats 4000000 in
theorem s_X12_brokenCopy_c24 {G : nk_G} {l : Launch} (hl0 : l.flags = flags0) {r24 : nk_H → Nat → Int32 → Int32 → Option (nk_H × Int32)} (hr24 : ∀ (h : nk_H) (t0 : Nat) (v1 : Int32) (v2 : Int32), nk_Sim G l RX12 cX12_brokenCopy 3 (some FieldType.int) 3 69 false nk_eI 24 [(0, .inr (some t0)), (1, .inl v1), (2, .inl v2)] [] h (r24 h t0 v1 v2)) (h : nk_H) (t0 : Nat) (v1 : Int32) (v2 : Int32)  : nk_Sim G l RX12 cX12_brokenCopy 3 (some FieldType.int) 3 69 false nk_eI 24 [(0, .inr (some t0)), (1, .inl v1), (2, .inl v2)] [] h (f_X12_brokenCopy_c24  r24 h t0 v1 v2 ) := by
  unfold f_X12_brokenCopy_c24
  refine nr_iload_n 2 dX12_brokenCopy_24 rfl ?_
  refine nr_aload_n 0 dX12_brokenCopy_25 rfl ?_
  refine nr_getP [19] 40 dX12_brokenCopy_26 fk_RX12_106 (fun x1 => ?_)
  refine nr_iload_n 1 dX12_brokenCopy_29 rfl ?_
  refine nr_iaload dX12_brokenCopy_30 (fun x2 => ?_)
  refine nr_icmp_ge (tgt := 51) dX12_brokenCopy_31 (by decide) (fun _ => ?_) (fun _ => ?_)
  · refine nr_iconst (v := (-1)) dX12_brokenCopy_51 (by decide) ?_
    exact nr_iret rfl rfl dX12_brokenCopy_52
  · refine nr_aload_n 0 dX12_brokenCopy_34 rfl ?_
    refine nr_iload_n 1 dX12_brokenCopy_35 rfl ?_
    refine nr_iload_n 2 dX12_brokenCopy_36 rfl ?_
    refine nr_rcv (ks := [19]) (pre := [.inl v2, .inl v1]) (fun a3 hm => ?_)
    refine nr_doI (st := []) (nk_callV (q := (RX12, TX12, 45)) (ci := 12) (c_X12_isBroken (G := G) hl0 h a3 v1 v2) dX12_brokenCopy_37 (List.mem_singleton.mp hm) rfl rfl my_X12_isBroken im_X12_isBroken se_RX12_X12_isBroken ml_RX12_293 rfl rfl (Nat.le_of_ble_eq_true rfl) (by decide) (by decide)) (fun h4 x5 => ?_)
    refine nr_if_eq (tgt := 45) dX12_brokenCopy_40 (by decide) (fun _ => ?_) (fun _ => ?_)
    · refine nr_iinc (lv2 := [(2, .inl (v2 + 1)), (0, .inr (some t0)), (1, .inl v1)]) 2 (v2 + 1) dX12_brokenCopy_45 rfl (by rfl) (by decide) rfl ?_
      refine nr_goto (tgt := 24) dX12_brokenCopy_48 (by decide) ?_
      exact nk_locals [1, 2, 0] rfl (hr24 h4 t0 v1 (v2 + 1))
    · refine nr_iload_n 2 dX12_brokenCopy_43 rfl ?_
      exact nr_iret rfl rfl dX12_brokenCopy_44
theorem s_X12_brokenCopy_b24 {G : nk_G} {l : Launch} (hl0 : l.flags = flags0)   : ∀ (n : Nat) (h : nk_H) (t0 : Nat) (v1 : Int32) (v2 : Int32), nk_Sim G l RX12 cX12_brokenCopy 3 (some FieldType.int) 3 69 false nk_eI 24 [(0, .inr (some t0)), (1, .inl v1), (2, .inl v2)] [] h (f_X12_brokenCopy_b24   n h t0 v1 v2)
  | 0, _, _, _, _ => nk_none
  | n + 1, h, t0, v1, v2 => s_X12_brokenCopy_c24 hl0 (s_X12_brokenCopy_b24 hl0  n) h t0 v1 v2
set_option maxHeartbeats 4000000 in
theorem s_X12_brokenCopy_c14 {G : nk_G} {l : Launch} (hl0 : l.flags = flags0)   (h : nk_H) (t0 : Nat) (v1 : Int32) (s0 : Int32) (s1 : Option Nat) : nk_Sim G l RX12 cX12_brokenCopy 3 (some FieldType.int) 3 69 false nk_eI 14 [(0, .inr (some t0)), (1, .inl v1)] [.inl s0, .inr s1] h (f_X12_brokenCopy_c14   h t0 v1 s0 s1) := by
  unfold f_X12_brokenCopy_c14
  refine nr_rcv (ks := [19]) (pre := [.inl s0]) (fun a6 hm => ?_)
  refine nr_doI (st := []) (nk_callV (q := (RX12, TX12, 45)) (ci := 12) (c_X12_holds (G := G) hl0 h a6 s0) dX12_brokenCopy_14 (List.mem_singleton.mp hm) rfl rfl my_X12_holds im_X12_holds se_RX12_X12_holds ml_RX12_143 rfl rfl (Nat.le_of_ble_eq_true rfl) (by decide) (by decide)) (fun h7 x8 => ?_)
  refine nr_if_ne (tgt := 22) dX12_brokenCopy_17 (by decide) (fun _ => ?_) (fun _ => ?_)
  · refine nr_iconst (v := 0) dX12_brokenCopy_20 (by decide) ?_
    exact nr_iret rfl rfl dX12_brokenCopy_21
  · refine nr_iconst (v := 0) dX12_brokenCopy_22 (by decide) ?_
    refine nr_istore_n (lv2 := [(2, .inl 0), (0, .inr (some t0)), (1, .inl v1)]) dX12_brokenCopy_23 (by decide) rfl ?_
    exact nk_locals [1, 2, 0] rfl (s_X12_brokenCopy_b24 hl0  4096 h7 t0 v1 0)
set_option maxHeartbeats 4000000 in
theorem s_X12_brokenCopy {G : nk_G} {l : Launch} (hl0 : l.flags = flags0) (h : nk_H) (t0 : Nat) (v1 : Int32) : nk_Sim G l RX12 cX12_brokenCopy 3 (some FieldType.int) 3 69 false nk_eI 0 [(0, .inr (some t0)), (1, .inl v1)] [] h (f_X12_brokenCopy  h t0 v1) := by
  unfold f_X12_brokenCopy
  refine nr_aload_n 0 dX12_brokenCopy_0 rfl ?_
  refine nr_aload_n 0 dX12_brokenCopy_1 rfl ?_
  refine nr_iload_n 1 dX12_brokenCopy_2 rfl ?_
  refine nr_rcv (ks := [19]) (pre := [.inl v1]) (fun a9 hm => ?_)
  refine nr_doI (st := [.inr (some t0)]) (nk_callV (q := (RX12, TX12, 45)) (ci := 12) (c_X12_isCopy (G := G) hl0 h a9 v1) dX12_brokenCopy_3 (List.mem_singleton.mp hm) rfl rfl my_X12_isCopy im_X12_isCopy se_RX12_X12_isCopy ml_RX12_281 rfl rfl (Nat.le_of_ble_eq_true rfl) (by decide) (by decide)) (fun h10 x11 => ?_)
  refine nr_if_eq (tgt := 13) dX12_brokenCopy_6 (by decide) (fun _ => ?_) (fun _ => ?_)
  · refine nr_iconst (v := 1) dX12_brokenCopy_13 (by decide) ?_
    exact s_X12_brokenCopy_c14 hl0  h10 t0 v1 1 (some t0)
  · refine nr_iconst (v := 0) dX12_brokenCopy_9 (by decide) ?_
    refine nr_goto (tgt := 14) dX12_brokenCopy_10 (by decide) ?_
    exact s_X12_brokenCopy_c14 hl0  h10 t0 v1 0 (some t0)
theorem c_X12_brokenCopy {G : nk_G} {l : Launch} (hl0 : l.flags = flags0) (h : nk_H) (t0 : Nat) (v1 : Int32) : nk_Con G l yX12_brokenCopy cX12_brokenCopy 3 (some FieldType.int) 3 69 nk_eI [.inr (some t0), .inl v1] h (f_X12_brokenCopy h t0 v1) :=
  nk_con (ini := false) (by decide) hl0 (Nat.le_of_ble_eq_true rfl) (by decide) (s_X12_brokenCopy hl0 h t0 v1)
set_option maxHeartbeats 4000000 in
theorem s_X12_isTrue_c150 {G : nk_G} {l : Launch} (hl0 : l.flags = flags0) {r20 : nk_H → Nat → Int32 → Int32 → Int32 → Option (nk_H × Int32)} (hr20 : ∀ (h : nk_H) (t0 : Nat) (v1 : Int32) (v2 : Int32) (v3 : Int32), nk_Sim G l RX12 cX12_isTrue 6 (some FieldType.boolean) 2 43 false nk_eI 20 [(0, .inr (some t0)), (1, .inl v1), (2, .inl v2), (3, .inl v3)] [] h (r20 h t0 v1 v2 v3)) (h : nk_H) (t0 : Nat) (v1 : Int32) (v3 : Int32) (s0 : Int32) : nk_Sim G l RX12 cX12_isTrue 6 (some FieldType.boolean) 2 43 false nk_eI 150 [(0, .inr (some t0)), (1, .inl v1), (3, .inl v3)] [.inl s0] h (f_X12_isTrue_c150  r20 h t0 v1 v3 s0) := by
  unfold f_X12_isTrue_c150
  refine nr_istore_n (lv2 := [(2, .inl s0), (0, .inr (some t0)), (1, .inl v1), (3, .inl v3)]) dX12_isTrue_150 (by decide) rfl ?_
  refine nr_iinc (lv2 := [(3, .inl (v3 + 1)), (2, .inl s0), (0, .inr (some t0)), (1, .inl v1)]) 3 (v3 + 1) dX12_isTrue_151 rfl (by rfl) (by decide) rfl ?_
  refine nr_goto (tgt := 20) dX12_isTrue_154 (by decide) ?_
  exact nk_locals [2, 3, 1, 0] rfl (hr20 h t0 v1 s0 (v3 + 1))
set_option maxHeartbeats 4000000 in
theorem s_X12_isTrue_c149 {G : nk_G} {l : Launch} (hl0 : l.flags = flags0) {r20 : nk_H → Nat → Int32 → Int32 → Int32 → Option (nk_H × Int32)} (hr20 : ∀ (h : nk_H) (t0 : Nat) (v1 : Int32) (v2 : Int32) (v3 : Int32), nk_Sim G l RX12 cX12_isTrue 6 (some FieldType.boolean) 2 43 false nk_eI 20 [(0, .inr (some t0)), (1, .inl v1), (2, .inl v2), (3, .inl v3)] [] h (r20 h t0 v1 v2 v3)) (h : nk_H) (t0 : Nat) (v1 : Int32) (v3 : Int32)  : nk_Sim G l RX12 cX12_isTrue 6 (some FieldType.boolean) 2 43 false nk_eI 149 [(0, .inr (some t0)), (1, .inl v1), (3, .inl v3)] [] h (f_X12_isTrue_c149  r20 h t0 v1 v3 ) := by
  unfold f_X12_isTrue_c149
  refine nr_iconst (v := 0) dX12_isTrue_149 (by decide) ?_
  exact s_X12_isTrue_c150 hl0 hr20 h t0 v1 v3 0
set_option maxHeartbeats 4000000 in
theorem s_X12_isTrue_c120 {G : nk_G} {l : Launch} (hl0 : l.flags = flags0) {r20 : nk_H → Nat → Int32 → Int32 → Int32 → Option (nk_H × Int32)} (hr20 : ∀ (h : nk_H) (t0 : Nat) (v1 : Int32) (v2 : Int32) (v3 : Int32), nk_Sim G l RX12 cX12_isTrue 6 (some FieldType.boolean) 2 43 false nk_eI 20 [(0, .inr (some t0)), (1, .inl v1), (2, .inl v2), (3, .inl v3)] [] h (r20 h t0 v1 v2 v3)) (h : nk_H) (t0 : Nat) (v1 : Int32) (v3 : Int32) (v4 : Int32)  : nk_Sim G l RX12 cX12_isTrue 6 (some FieldType.boolean) 2 43 false nk_eI 120 [(0, .inr (some t0)), (1, .inl v1), (3, .inl v3), (4, .inl v4)] [] h (f_X12_isTrue_c120  r20 h t0 v1 v3 v4 ) := by
  unfold f_X12_isTrue_c120
  refine nr_aload_n 0 dX12_isTrue_120 rfl ?_
  refine nr_getP [19] 44 dX12_isTrue_121 fk_RX12_118 (fun x1 => ?_)
  refine nr_sipush (v := 160) dX12_isTrue_124 (by decide) ?_
  refine nr_iload_n 1 dX12_isTrue_127 rfl ?_
  refine nr_imul dX12_isTrue_128 ?_
  refine nr_iload_n 2 dX12_isTrue_129 rfl ?_
  refine nr_bipush (v := 6) dX12_isTrue_130 (by decide) ?_
  refine nr_idiv dX12_isTrue_132 (by decide) ?_
  refine nr_iadd dX12_isTrue_133 ?_
  refine nr_iaload dX12_isTrue_134 (fun x2 => ?_)
  refine nr_aload_n 0 dX12_isTrue_135 rfl ?_
  refine nr_getP [19] 35 dX12_isTrue_136 fk_RX12_94 (fun x3 => ?_)
  refine nr_iload 3 dX12_isTrue_139 rfl ?_
  refine nr_iaload dX12_isTrue_141 (fun x4 => ?_)
  refine nr_icmp_ne (tgt := 149) dX12_isTrue_142 (by decide) (fun _ => ?_) (fun _ => ?_)
  · refine nr_iconst (v := 1) dX12_isTrue_145 (by decide) ?_
    refine nr_goto (tgt := 150) dX12_isTrue_146 (by decide) ?_
    exact nk_locals [0, 1, 2] rfl (s_X12_isTrue_c150 hl0 hr20 h t0 v1 v3 1)
  · exact nk_locals [0, 1, 2] rfl (s_X12_isTrue_c149 hl0 hr20 h t0 v1 v3)
set_option maxHeartbeats 4000000 in
theorem s_X12_isTrue_c101 {G : nk_G} {l : Launch} (hl0 : l.flags = flags0) {r20 : nk_H → Nat → Int32 → Int32 → Int32 → Option (nk_H × Int32)} (hr20 : ∀ (h : nk_H) (t0 : Nat) (v1 : Int32) (v2 : Int32) (v3 : Int32), nk_Sim G l RX12 cX12_isTrue 6 (some FieldType.boolean) 2 43 false nk_eI 20 [(0, .inr (some t0)), (1, .inl v1), (2, .inl v2), (3, .inl v3)] [] h (r20 h t0 v1 v2 v3)) (h : nk_H) (t0 : Nat) (v1 : Int32) (v3 : Int32) (v4 : Int32) (s0 : Int32) : nk_Sim G l RX12 cX12_isTrue 6 (some FieldType.boolean) 2 43 false nk_eI 101 [(0, .inr (some t0)), (1, .inl v1), (3, .inl v3), (4, .inl v4)] [.inl s0] h (f_X12_isTrue_c101  r20 h t0 v1 v3 v4 s0) := by
  unfold f_X12_isTrue_c101
  refine nr_istore (lv2 := [(5, .inl s0), (0, .inr (some t0)), (1, .inl v1), (3, .inl v3), (4, .inl v4)]) dX12_isTrue_101 (by decide) rfl ?_
  refine nr_aload_n 1 dX12_isTrue_103 rfl ?_
  refine nr_iload_n 2 dX12_isTrue_104 rfl ?_
  refine nr_iload_n 3 dX12_isTrue_105 rfl ?_
  refine nr_bipush (v := 6) dX12_isTrue_106 (by decide) ?_
  refine nr_irem dX12_isTrue_108 (by decide) ?_
  refine nr_rcv (ks := [19]) (pre := [.inl (v3 - v3 / 6 * 6), .inl v1]) (fun a5 hm => ?_)
  refine nr_doI (st := []) (nk_callV (q := (RX12, TX12, 45)) (ci := 12) (c_X12_isLeftOut (G := G) hl0 h a5 v1 (v3 - v3 / 6 * 6)) dX12_isTrue_109 (List.mem_singleton.mp hm) rfl rfl my_X12_isLeftOut im_X12_isLeftOut se_RX12_X12_isLeftOut ml_RX12_272 rfl rfl (Nat.le_of_ble_eq_true rfl) (by decide) (by decide)) (fun h6 x7 => ?_)
  refine nr_if_ne (tgt := 120) dX12_isTrue_112 (by decide) (fun _ => ?_) (fun _ => ?_)
  · refine nr_iload 0 dX12_isTrue_115 rfl ?_
    refine nr_if_eq (tgt := 149) dX12_isTrue_117 (by decide) (fun _ => ?_) (fun _ => ?_)
    · exact nk_locals [1, 2, 3] rfl (s_X12_isTrue_c149 hl0 hr20 h6 t0 v1 v3)
    · exact nk_locals [1, 2, 3, 4] rfl (s_X12_isTrue_c120 hl0 hr20 h6 t0 v1 v3 v4)
  · exact nk_locals [1, 2, 3, 4] rfl (s_X12_isTrue_c120 hl0 hr20 h6 t0 v1 v3 v4)
set_option maxHeartbeats 4000000 in
theorem s_X12_isTrue_c157 {G : nk_G} {l : Launch} (hl0 : l.flags = flags0)   (h : nk_H) (v2 : Int32)  : nk_Sim G l RX12 cX12_isTrue 6 (some FieldType.boolean) 2 43 false nk_eI 157 [(2, .inl v2)] [] h (f_X12_isTrue_c157   h v2 ) := by
  unfold f_X12_isTrue_c157
  refine nr_iload_n 0 dX12_isTrue_157 rfl ?_
  exact nr_zret rfl rfl dX12_isTrue_158
set_option maxHeartbeats 4000000 in
theorem s_X12_isTrue_c20 {G : nk_G} {l : Launch} (hl0 : l.flags = flags0) {r20 : nk_H → Nat → Int32 → Int32 → Int32 → Option (nk_H × Int32)} (hr20 : ∀ (h : nk_H) (t0 : Nat) (v1 : Int32) (v2 : Int32) (v3 : Int32), nk_Sim G l RX12 cX12_isTrue 6 (some FieldType.boolean) 2 43 false nk_eI 20 [(0, .inr (some t0)), (1, .inl v1), (2, .inl v2), (3, .inl v3)] [] h (r20 h t0 v1 v2 v3)) (h : nk_H) (t0 : Nat) (v1 : Int32) (v2 : Int32) (v3 : Int32)  : nk_Sim G l RX12 cX12_isTrue 6 (some FieldType.boolean) 2 43 false nk_eI 20 [(0, .inr (some t0)), (1, .inl v1), (2, .inl v2), (3, .inl v3)] [] h (f_X12_isTrue_c20  r20 h t0 v1 v2 v3 ) := by
  unfold f_X12_isTrue_c20
  refine nr_iload_n 2 dX12_isTrue_20 rfl ?_
  refine nr_if_eq (tgt := 157) dX12_isTrue_21 (by decide) (fun _ => ?_) (fun _ => ?_)
  · exact nk_locals [2] rfl (s_X12_isTrue_c157 hl0  h v2)
  · refine nr_iload_n 3 dX12_isTrue_24 rfl ?_
    refine nr_bipush (v := 6) dX12_isTrue_25 (by decide) ?_
    refine nr_aload_n 0 dX12_isTrue_27 rfl ?_
    refine nr_getP [19] 40 dX12_isTrue_28 fk_RX12_106 (fun x8 => ?_)
    refine nr_iload_n 1 dX12_isTrue_31 rfl ?_
    refine nr_iaload dX12_isTrue_32 (fun x9 => ?_)
    refine nr_imul dX12_isTrue_33 ?_
    refine nr_icmp_ge (tgt := 157) dX12_isTrue_34 (by decide) (fun _ => ?_) (fun _ => ?_)
    · exact nk_locals [2] rfl (s_X12_isTrue_c157 hl0  h v2)
    · refine nr_aload_n 0 dX12_isTrue_37 rfl ?_
      refine nr_getP [19] 31 dX12_isTrue_38 fk_RX12_82 (fun x10 => ?_)
      refine nr_sipush (v := 160) dX12_isTrue_41 (by decide) ?_
      refine nr_aload_n 0 dX12_isTrue_44 rfl ?_
      refine nr_getP [19] 38 dX12_isTrue_45 fk_RX12_100 (fun x11 => ?_)
      refine nr_iload_n 1 dX12_isTrue_48 rfl ?_
      refine nr_iaload dX12_isTrue_49 (fun x12 => ?_)
      refine nr_imul dX12_isTrue_50 ?_
      refine nr_aload_n 0 dX12_isTrue_51 rfl ?_
      refine nr_getP [19] 39 dX12_isTrue_52 fk_RX12_103 (fun x13 => ?_)
      refine nr_iload_n 1 dX12_isTrue_55 rfl ?_
      refine nr_iaload dX12_isTrue_56 (fun x14 => ?_)
      refine nr_iadd dX12_isTrue_57 ?_
      refine nr_iload_n 3 dX12_isTrue_58 rfl ?_
      refine nr_bipush (v := 6) dX12_isTrue_59 (by decide) ?_
      refine nr_idiv dX12_isTrue_61 (by decide) ?_
      refine nr_iadd dX12_isTrue_62 ?_
      refine nr_iaload dX12_isTrue_63 (fun x15 => ?_)
      refine nr_istore (lv2 := [(4, .inl x15), (0, .inr (some t0)), (1, .inl v1), (2, .inl v2), (3, .inl v3)]) dX12_isTrue_64 (by decide) rfl ?_
      refine nr_aload_n 1 dX12_isTrue_66 rfl ?_
      refine nr_getP [19] 43 dX12_isTrue_67 fk_RX12_115 (fun x16 => ?_)
      refine nr_sipush (v := 960) dX12_isTrue_70 (by decide) ?_
      refine nr_iload_n 2 dX12_isTrue_73 rfl ?_
      refine nr_imul dX12_isTrue_74 ?_
      refine nr_iload_n 4 dX12_isTrue_75 rfl ?_
      refine nr_iadd dX12_isTrue_76 ?_
      refine nr_iaload dX12_isTrue_77 (fun x17 => ?_)
      refine nr_aload_n 1 dX12_isTrue_78 rfl ?_
      refine nr_getP [19] 33 dX12_isTrue_79 fk_RX12_88 (fun x18 => ?_)
      refine nr_bipush (v := 6) dX12_isTrue_82 (by decide) ?_
      refine nr_iload 0 dX12_isTrue_84 rfl ?_
      refine nr_imul dX12_isTrue_86 ?_
      refine nr_iload_n 4 dX12_isTrue_87 rfl ?_
      refine nr_bipush (v := 6) dX12_isTrue_88 (by decide) ?_
      refine nr_irem dX12_isTrue_90 (by decide) ?_
      refine nr_iadd dX12_isTrue_91 ?_
      refine nr_iaload dX12_isTrue_92 (fun x19 => ?_)
      refine nr_icmp_ne (tgt := 100) dX12_isTrue_93 (by decide) (fun _ => ?_) (fun _ => ?_)
      · refine nr_iconst (v := 1) dX12_isTrue_96 (by decide) ?_
        refine nr_goto (tgt := 101) dX12_isTrue_97 (by decide) ?_
        exact nk_locals [1, 2, 4, 0] rfl (s_X12_isTrue_c101 hl0 hr20 h t0 v1 v3 x15 1)
      · refine nr_iconst (v := 0) dX12_isTrue_100 (by decide) ?_
        exact nk_locals [1, 2, 4, 0] rfl (s_X12_isTrue_c101 hl0 hr20 h t0 v1 v3 x15 0)
theorem s_X12_isTrue_b20 {G : nk_G} {l : Launch} (hl0 : l.flags = flags0)   : ∀ (n : Nat) (h : nk_H) (t0 : Nat) (v1 : Int32) (v2 : Int32) (v3 : Int32), nk_Sim G l RX12 cX12_isTrue 6 (some FieldType.boolean) 2 43 false nk_eI 20 [(0, .inr (some t0)), (1, .inl v1), (2, .inl v2), (3, .inl v3)] [] h (f_X12_isTrue_b20   n h t0 v1 v2 v3)
  | 0, _, _, _, _, _ => nk_none
  | n + 1, h, t0, v1, v2, v3 => s_X12_isTrue_c20 hl0 (s_X12_isTrue_b20 hl0  n) h t0 v1 v2 v3
set_option maxHeartbeats 4000000 in
theorem s_X12_isTrue_c14 {G : nk_G} {l : Launch} (hl0 : l.flags = flags0)   (h : nk_H) (t0 : Nat) (v1 : Int32) (s0 : Int32) (s1 : Option Nat) : nk_Sim G l RX12 cX12_isTrue 6 (some FieldType.boolean) 2 43 false nk_eI 14 [(0, .inr (some t0)), (1, .inl v1)] [.inl s0, .inr s1] h (f_X12_isTrue_c14   h t0 v1 s0 s1) := by
  unfold f_X12_isTrue_c14
  refine nr_rcv (ks := [19]) (pre := [.inl s0]) (fun a20 hm => ?_)
  refine nr_doI (st := []) (nk_callV (q := (RX12, TX12, 45)) (ci := 12) (c_X12_holds (G := G) hl0 h a20 s0) dX12_isTrue_14 (List.mem_singleton.mp hm) rfl rfl my_X12_holds im_X12_holds se_RX12_X12_holds ml_RX12_143 rfl rfl (Nat.le_of_ble_eq_true rfl) (by decide) (by decide)) (fun h21 x22 => ?_)
  refine nr_istore_n (lv2 := [(2, .inl x22), (0, .inr (some t0)), (1, .inl v1)]) dX12_isTrue_17 (by decide) rfl ?_
  refine nr_iconst (v := 0) dX12_isTrue_18 (by decide) ?_
  refine nr_istore_n (lv2 := [(3, .inl 0), (2, .inl x22), (0, .inr (some t0)), (1, .inl v1)]) dX12_isTrue_19 (by decide) rfl ?_
  exact nk_locals [2, 3, 1, 0] rfl (s_X12_isTrue_b20 hl0  4096 h21 t0 v1 x22 0)
set_option maxHeartbeats 4000000 in
theorem s_X12_isTrue {G : nk_G} {l : Launch} (hl0 : l.flags = flags0) (h : nk_H) (t0 : Nat) (v1 : Int32) : nk_Sim G l RX12 cX12_isTrue 6 (some FieldType.boolean) 2 43 false nk_eI 0 [(0, .inr (some t0)), (1, .inl v1)] [] h (f_X12_isTrue  h t0 v1) := by
  unfold f_X12_isTrue
  refine nr_aload_n 0 dX12_isTrue_0 rfl ?_
  refine nr_aload_n 0 dX12_isTrue_1 rfl ?_
  refine nr_iload_n 1 dX12_isTrue_2 rfl ?_
  refine nr_rcv (ks := [19]) (pre := [.inl v1]) (fun a23 hm => ?_)
  refine nr_doI (st := [.inr (some t0)]) (nk_callV (q := (RX12, TX12, 45)) (ci := 12) (c_X12_isCopy (G := G) hl0 h a23 v1) dX12_isTrue_3 (List.mem_singleton.mp hm) rfl rfl my_X12_isCopy im_X12_isCopy se_RX12_X12_isCopy ml_RX12_281 rfl rfl (Nat.le_of_ble_eq_true rfl) (by decide) (by decide)) (fun h24 x25 => ?_)
  refine nr_if_eq (tgt := 13) dX12_isTrue_6 (by decide) (fun _ => ?_) (fun _ => ?_)
  · refine nr_iconst (v := 1) dX12_isTrue_13 (by decide) ?_
    exact s_X12_isTrue_c14 hl0  h24 t0 v1 1 (some t0)
  · refine nr_iconst (v := 0) dX12_isTrue_9 (by decide) ?_
    refine nr_goto (tgt := 14) dX12_isTrue_10 (by decide) ?_
    exact s_X12_isTrue_c14 hl0  h24 t0 v1 0 (some t0)
theorem c_X12_isTrue {G : nk_G} {l : Launch} (hl0 : l.flags = flags0) (h : nk_H) (t0 : Nat) (v1 : Int32) : nk_Con G l yX12_isTrue cX12_isTrue 6 (some FieldType.boolean) 2 43 nk_eI [.inr (some t0), .inl v1] h (f_X12_isTrue h t0 v1) :=
  nk_con (ini := false) (by decide) hl0 (Nat.le_of_ble_eq_true rfl) (by decide) (s_X12_isTrue hl0 h t0 v1)
