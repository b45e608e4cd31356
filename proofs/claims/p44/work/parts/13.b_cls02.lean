set_option maxHeartbeats 4000000 in
theorem s_X8_isRevocationOf {G : nk_G} {l : Launch} (hl0 : l.flags = flags0) (h : nk_H) (t0 : Nat) (v1 : Option Nat) : nk_Sim G l RX8 cX8_isRevocationOf 2 (some FieldType.boolean) 0 0 false nk_eI 0 [(0, .inr (some t0)), (1, .inr v1)] [] h (f_X8_isRevocationOf  h t0 v1) := by
  unfold f_X8_isRevocationOf
  refine nr_iconst (v := 0) dX8_isRevocationOf_0 (by decide) ?_
  exact nr_zret rfl rfl dX8_isRevocationOf_1
theorem c_X8_isRevocationOf {G : nk_G} {l : Launch} (hl0 : l.flags = flags0) (h : nk_H) (t0 : Nat) (v1 : Option Nat) : nk_Con G l yX8_isRevocationOf cX8_isRevocationOf 2 (some FieldType.boolean) 0 0 nk_eI [.inr (some t0), .inr v1] h (f_X8_isRevocationOf h t0 v1) :=
  nk_con (ini := false) (by decide) hl0 (Nat.le_of_ble_eq_true rfl) (by decide) (s_X8_isRevocationOf hl0 h t0 v1)
set_option maxHeartbeats 4000000 in
theorem s_X10_isRevocationOf_c13 {G : nk_G} {l : Launch} (hl0 : l.flags = flags0)   (h : nk_H)  (s0 : Int32) : nk_Sim G l RX10 cX10_isRevocationOf 2 (some FieldType.boolean) 0 0 false nk_eI 13 [] [.inl s0] h (f_X10_isRevocationOf_c13   h  s0) := by
  unfold f_X10_isRevocationOf_c13
  exact nr_zret rfl rfl dX10_isRevocationOf_13
set_option maxHeartbeats 4000000 in
theorem s_X10_isRevocationOf {G : nk_G} {l : Launch} (hl0 : l.flags = flags0) (h : nk_H) (t0 : Nat) (v1 : Option Nat) : nk_Sim G l RX10 cX10_isRevocationOf 2 (some FieldType.boolean) 0 0 false nk_eI 0 [(0, .inr (some t0)), (1, .inr v1)] [] h (f_X10_isRevocationOf  h t0 v1) := by
  unfold f_X10_isRevocationOf
  refine nr_aload_n 0 dX10_isRevocationOf_0 rfl ?_
  refine nr_getP [17] 6 dX10_isRevocationOf_1 fk_RX10_7 (fun x1 => ?_)
  refine nr_aload_n 1 dX10_isRevocationOf_4 rfl ?_
  refine nr_acmp_ne (tgt := 12) dX10_isRevocationOf_5 (by decide) (fun _ => ?_) (fun _ => ?_)
  · refine nr_iconst (v := 1) dX10_isRevocationOf_8 (by decide) ?_
    refine nr_goto (tgt := 13) dX10_isRevocationOf_9 (by decide) ?_
    exact nk_locals [] rfl (s_X10_isRevocationOf_c13 hl0  h 1)
  · refine nr_iconst (v := 0) dX10_isRevocationOf_12 (by decide) ?_
    exact nk_locals [] rfl (s_X10_isRevocationOf_c13 hl0  h 0)
theorem c_X10_isRevocationOf {G : nk_G} {l : Launch} (hl0 : l.flags = flags0) (h : nk_H) (t0 : Nat) (v1 : Option Nat) : nk_Con G l yX10_isRevocationOf cX10_isRevocationOf 2 (some FieldType.boolean) 0 0 nk_eI [.inr (some t0), .inr v1] h (f_X10_isRevocationOf h t0 v1) :=
  nk_con (ini := false) (by decide) hl0 (Nat.le_of_ble_eq_true rfl) (by decide) (s_X10_isRevocationOf hl0 h t0 v1)
set_option maxHeartbeats 4000000 in
theorem s_X7_revokesAlone_c41 {G : nk_G} {l : Launch} (hl0 : l.flags = flags0) {r2 : nk_H → Nat → Option Nat → Int32 → Option (nk_H × Int32)} (hr2 : ∀ (h : nk_H) (t0 : Nat) (v1 : Option Nat) (v2 : Int32), nk_Sim G l RX7 cX7_revokesAlone 3 (some FieldType.boolean) 3 64 false nk_eI 2 [(0, .inr (some t0)), (1, .inr v1), (2, .inl v2)] [] h (r2 h t0 v1 v2)) (h : nk_H) (t0 : Nat) (v1 : Option Nat) (v2 : Int32)  : nk_Sim G l RX7 cX7_revokesAlone 3 (some FieldType.boolean) 3 64 false nk_eI 41 [(0, .inr (some t0)), (1, .inr v1), (2, .inl v2)] [] h (f_X7_revokesAlone_c41  r2 h t0 v1 v2 ) := by
  unfold f_X7_revokesAlone_c41
  refine nr_iinc (lv2 := [(2, .inl (v2 + 1)), (0, .inr (some t0)), (1, .inr v1)]) 2 (v2 + 1) dX7_revokesAlone_41 rfl (by rfl) (by decide) rfl ?_
  refine nr_goto (tgt := 2) dX7_revokesAlone_44 (by decide) ?_
  exact nk_locals [1, 2, 0] rfl (hr2 h t0 v1 (v2 + 1))
set_option maxHeartbeats 4000000 in
theorem s_X7_revokesAlone_c2 {G : nk_G} {l : Launch} (hl0 : l.flags = flags0) {r2 : nk_H → Nat → Option Nat → Int32 → Option (nk_H × Int32)} (hr2 : ∀ (h : nk_H) (t0 : Nat) (v1 : Option Nat) (v2 : Int32), nk_Sim G l RX7 cX7_revokesAlone 3 (some FieldType.boolean) 3 64 false nk_eI 2 [(0, .inr (some t0)), (1, .inr v1), (2, .inl v2)] [] h (r2 h t0 v1 v2)) (h : nk_H) (t0 : Nat) (v1 : Option Nat) (v2 : Int32)  : nk_Sim G l RX7 cX7_revokesAlone 3 (some FieldType.boolean) 3 64 false nk_eI 2 [(0, .inr (some t0)), (1, .inr v1), (2, .inl v2)] [] h (f_X7_revokesAlone_c2  r2 h t0 v1 v2 ) := by
  unfold f_X7_revokesAlone_c2
  refine nr_iload_n 2 dX7_revokesAlone_2 rfl ?_
  refine nr_aload_n 0 dX7_revokesAlone_3 rfl ?_
  refine nr_getP [15] 0 dX7_revokesAlone_4 fk_RX7_12 (fun x1 => ?_)
  refine nr_rcv (ks := [7]) (pre := []) (fun a2 hm => ?_)
  refine nr_doI (st := [.inl v2]) (nk_callV (q := (RJx4a65c, TJx4a65c, 3)) (ci := 0) (c_Jx4a65c_size_8abf5 (G := G) hl0 h a2) dX7_revokesAlone_7 (List.mem_singleton.mp hm) rfl rfl my_Jx4a65c_size_8abf5 im_Jx4a65c_size_8abf5 se_RJx4a65c_Jx4a65c_size_8abf5 ml_RX7_22 rfl rfl (Nat.le_of_ble_eq_true rfl) (by decide) (by decide)) (fun h3 x4 => ?_)
  refine nr_icmp_ge (tgt := 47) dX7_revokesAlone_10 (by decide) (fun _ => ?_) (fun _ => ?_)
  · refine nr_iconst (v := 0) dX7_revokesAlone_47 (by decide) ?_
    exact nr_zret rfl rfl dX7_revokesAlone_48
  · refine nr_aload_n 0 dX7_revokesAlone_13 rfl ?_
    refine nr_iload_n 2 dX7_revokesAlone_14 rfl ?_
    refine nr_rcv (ks := [15]) (pre := [.inl v2]) (fun a5 hm => ?_)
    refine nr_doI (st := []) (nk_callV (q := (RX7, TX7, 2)) (ci := 8) (c_X7_sees (G := G) hl0 h3 a5 v2) dX7_revokesAlone_15 (List.mem_singleton.mp hm) rfl rfl my_X7_sees im_X7_sees se_RX7_X7_sees ml_RX7_89 rfl rfl (Nat.le_of_ble_eq_true rfl) (by decide) (by decide)) (fun h6 x7 => ?_)
    refine nr_if_eq (tgt := 41) dX7_revokesAlone_18 (by decide) (fun _ => ?_) (fun _ => ?_)
    · exact s_X7_revokesAlone_c41 hl0 hr2 h6 t0 v1 v2
    · refine nr_aload_n 0 dX7_revokesAlone_21 rfl ?_
      refine nr_getP [15] 0 dX7_revokesAlone_22 fk_RX7_12 (fun x8 => ?_)
      refine nr_iload_n 2 dX7_revokesAlone_25 rfl ?_
      refine nr_rcv (ks := [7]) (pre := [.inl v2]) (fun a9 hm => ?_)
      refine nr_doR (st := []) (nk_callV (q := (RJx4a65c, TJx4a65c, 3)) (ci := 0) (c_Jx4a65c_get_915e3 (G := G) hl0 h6 a9 v2) dX7_revokesAlone_26 (List.mem_singleton.mp hm) rfl rfl my_Jx4a65c_get_915e3 im_Jx4a65c_get_915e3 se_RJx4a65c_Jx4a65c_get_915e3 ml_RX7_26 rfl rfl (Nat.le_of_ble_eq_true rfl) (by decide) (by decide)) (fun h10 x11 => ?_)
      refine nr_cast dX7_revokesAlone_29 cl_RX7_30 ca_Piece ?_
      refine nr_aload_n 1 dX7_revokesAlone_32 rfl ?_
      refine nr_rcv (ks := [8, 12, 16, 17]) (pre := [.inr v1]) (fun a13 hm => ?_)
      refine nr_doI (st := []) ?_ (fun h14 x15 => ?_)
      · simp only [List.mem_cons, List.not_mem_nil, or_false] at hm
        rcases hm with hm | hm | hm | hm
        · rw [if_pos hm]
          exact nk_callU (x := yX8_isRevocationOf) (owner := "NotaryKiosk$Piece") (q := (RX0, TX0, 11)) (ci := 1) (c_X8_isRevocationOf (G := G) hl0 h10 a13 v1) dX7_revokesAlone_33 hm rfl my_X8_isRevocationOf im_X8_isRevocationOf se_RX0_X8_isRevocationOf ml_RX7_100 sm_X8_isRevocationOf (by decide +kernel) im_X8_isRevocationOf co_X8_isRevocationOf rfl rfl (Nat.le_of_ble_eq_true rfl) (by decide) (by decide)
        · rw [if_neg (by rw [hm]; decide), if_pos hm]
          exact nk_callU (x := yX8_isRevocationOf) (owner := "NotaryKiosk$Piece") (q := (RX4, TX4, 9)) (ci := 5) (c_X8_isRevocationOf (G := G) hl0 h10 a13 v1) dX7_revokesAlone_33 hm rfl my_X8_isRevocationOf im_X8_isRevocationOf se_RX4_X8_isRevocationOf ml_RX7_100 sm_X8_isRevocationOf (by decide +kernel) im_X8_isRevocationOf co_X8_isRevocationOf rfl rfl (Nat.le_of_ble_eq_true rfl) (by decide) (by decide)
        · rw [if_neg (by rw [hm]; decide), if_neg (by rw [hm]; decide), if_pos hm]
          exact nk_callU (x := yX8_isRevocationOf) (owner := "NotaryKiosk$Piece") (q := (RX9, TX9, 15)) (ci := 9) (c_X8_isRevocationOf (G := G) hl0 h10 a13 v1) dX7_revokesAlone_33 hm rfl my_X8_isRevocationOf im_X8_isRevocationOf se_RX9_X8_isRevocationOf ml_RX7_100 sm_X8_isRevocationOf (by decide +kernel) im_X8_isRevocationOf co_X8_isRevocationOf rfl rfl (Nat.le_of_ble_eq_true rfl) (by decide) (by decide)
        · rw [if_neg (by rw [hm]; decide), if_neg (by rw [hm]; decide), if_neg (by rw [hm]; decide)]
          exact nk_callU (x := yX8_isRevocationOf) (owner := "NotaryKiosk$Piece") (q := (RX10, TX10, 7)) (ci := 10) (c_X10_isRevocationOf (G := G) hl0 h10 a13 v1) dX7_revokesAlone_33 hm rfl my_X10_isRevocationOf im_X10_isRevocationOf se_RX10_X8_isRevocationOf_X10_isRevocationOf ml_RX7_100 sm_X8_isRevocationOf (by decide +kernel) im_X8_isRevocationOf co_X8_isRevocationOf rfl rfl (Nat.le_of_ble_eq_true rfl) (by decide) (by decide)
      · refine nr_if_eq (tgt := 41) dX7_revokesAlone_36 (by decide) (fun _ => ?_) (fun _ => ?_)
        · exact s_X7_revokesAlone_c41 hl0 hr2 h14 t0 v1 v2
        · refine nr_iconst (v := 1) dX7_revokesAlone_39 (by decide) ?_
          exact nr_zret rfl rfl dX7_revokesAlone_40
theorem s_X7_revokesAlone_b2 {G : nk_G} {l : Launch} (hl0 : l.flags = flags0)   : ∀ (n : Nat) (h : nk_H) (t0 : Nat) (v1 : Option Nat) (v2 : Int32), nk_Sim G l RX7 cX7_revokesAlone 3 (some FieldType.boolean) 3 64 false nk_eI 2 [(0, .inr (some t0)), (1, .inr v1), (2, .inl v2)] [] h (f_X7_revokesAlone_b2   n h t0 v1 v2)
  | 0, _, _, _, _ => nk_none
  | n + 1, h, t0, v1, v2 => s_X7_revokesAlone_c2 hl0 (s_X7_revokesAlone_b2 hl0  n) h t0 v1 v2
set_option maxHeartbeats 4000000 in
theorem s_X7_revokesAlone {G : nk_G} {l : Launch} (hl0 : l.flags = flags0) (h : nk_H) (t0 : Nat) (v1 : Option Nat) : nk_Sim G l RX7 cX7_revokesAlone 3 (some FieldType.boolean) 3 64 false nk_eI 0 [(0, .inr (some t0)), (1, .inr v1)] [] h (f_X7_revokesAlone  h t0 v1) := by
  unfold f_X7_revokesAlone
  refine nr_iconst (v := 0) dX7_revokesAlone_0 (by decide) ?_
  refine nr_istore_n (lv2 := [(2, .inl 0), (0, .inr (some t0)), (1, .inr v1)]) dX7_revokesAlone_1 (by decide) rfl ?_
  exact nk_locals [1, 2, 0] rfl (s_X7_revokesAlone_b2 hl0  4096 h t0 v1 0)
theorem c_X7_revokesAlone {G : nk_G} {l : Launch} (hl0 : l.flags = flags0) (h : nk_H) (t0 : Nat) (v1 : Option Nat) : nk_Con G l yX7_revokesAlone cX7_revokesAlone 3 (some FieldType.boolean) 3 64 nk_eI [.inr (some t0), .inr v1] h (f_X7_revokesAlone h t0 v1) :=
  nk_con (ini := false) (by decide) hl0 (Nat.le_of_ble_eq_true rfl) (by decide) (s_X7_revokesAlone hl0 h t0 v1)
set_option maxHeartbeats 4000000 in
theorem s_X7_revokes_c2 {G : nk_G} {l : Launch} (hl0 : l.flags = flags0) {r2 : nk_H → Nat → Option Nat → Option (nk_H × Int32)} (hr2 : ∀ (h : nk_H) (t0 : Nat) (v2 : Option Nat), nk_Sim G l RX7 cX7_revokes 3 (some FieldType.boolean) 4 86 false nk_eI 2 [(0, .inr (some t0)), (2, .inr v2)] [] h (r2 h t0 v2)) (h : nk_H) (t0 : Nat) (v2 : Option Nat)  : nk_Sim G l RX7 cX7_revokes 3 (some FieldType.boolean) 4 86 false nk_eI 2 [(0, .inr (some t0)), (2, .inr v2)] [] h (f_X7_revokes_c2  r2 h t0 v2 ) := by
  unfold f_X7_revokes_c2
  refine nr_aload_n 1 dX7_revokes_2 rfl ?_
  refine nr_ifnull (tgt := 24) dX7_revokes_3 (by decide) (fun _ => ?_) (fun _ => ?_)
  · refine nr_iconst (v := 0) dX7_revokes_24 (by decide) ?_
    exact nr_zret rfl rfl dX7_revokes_25
  · refine nr_aload_n 0 dX7_revokes_6 rfl ?_
    refine nr_aload_n 1 dX7_revokes_7 rfl ?_
    refine nr_rcv (ks := [15]) (pre := [.inr v2]) (fun a1 hm => ?_)
    refine nr_doI (st := []) (nk_callV (q := (RX7, TX7, 2)) (ci := 8) (c_X7_revokesAlone (G := G) hl0 h a1 v2) dX7_revokes_8 (List.mem_singleton.mp hm) rfl rfl my_X7_revokesAlone im_X7_revokesAlone se_RX7_X7_revokesAlone ml_RX7_96 rfl rfl (Nat.le_of_ble_eq_true rfl) (by decide) (by decide)) (fun h2 x3 => ?_)
    refine nr_if_eq (tgt := 16) dX7_revokes_11 (by decide) (fun _ => ?_) (fun _ => ?_)
    · refine nr_aload_n 1 dX7_revokes_16 rfl ?_
      refine nr_getP [16] 7 dX7_revokes_17 fk_RX7_92 (fun x4 => ?_)
      refine nr_astore_n (lv2 := [(2, .inr x4), (0, .inr (some t0))]) dX7_revokes_20 (by decide) rfl ?_
      refine nr_goto (tgt := 2) dX7_revokes_21 (by decide) ?_
      exact nk_locals [1, 0] rfl (hr2 h2 t0 x4)
    · refine nr_iconst (v := 1) dX7_revokes_14 (by decide) ?_
      exact nr_zret rfl rfl dX7_revokes_15
theorem s_X7_revokes_b2 {G : nk_G} {l : Launch} (hl0 : l.flags = flags0)   : ∀ (n : Nat) (h : nk_H) (t0 : Nat) (v2 : Option Nat), nk_Sim G l RX7 cX7_revokes 3 (some FieldType.boolean) 4 86 false nk_eI 2 [(0, .inr (some t0)), (2, .inr v2)] [] h (f_X7_revokes_b2   n h t0 v2)
  | 0, _, _, _ => nk_none
  | n + 1, h, t0, v2 => s_X7_revokes_c2 hl0 (s_X7_revokes_b2 hl0  n) h t0 v2
set_option maxHeartbeats 4000000 in
theorem s_X7_revokes {G : nk_G} {l : Launch} (hl0 : l.flags = flags0) (h : nk_H) (t0 : Nat) (v1 : Option Nat) : nk_Sim G l RX7 cX7_revokes 3 (some FieldType.boolean) 4 86 false nk_eI 0 [(0, .inr (some t0)), (1, .inr v1)] [] h (f_X7_revokes  h t0 v1) := by
  unfold f_X7_revokes
  refine nr_aload_n 1 dX7_revokes_0 rfl ?_
  refine nr_astore_n (lv2 := [(2, .inr v1), (0, .inr (some t0)), (1, .inr v1)]) dX7_revokes_1 (by decide) rfl ?_
  exact nk_locals [1, 0] rfl (s_X7_revokes_b2 hl0  4096 h t0 v1)
theorem c_X7_revokes {G : nk_G} {l : Launch} (hl0 : l.flags = flags0) (h : nk_H) (t0 : Nat) (v1 : Option Nat) : nk_Con G l yX7_revokes cX7_revokes 3 (some FieldType.boolean) 4 86 nk_eI [.inr (some t0), .inr v1] h (f_X7_revokes h t0 v1) :=
  nk_con (ini := false) (by decide) hl0 (Nat.le_of_ble_eq_true rfl) (by decide) (s_X7_revokes hl0 h t0 v1)
set_option maxHeartbeats 4000000 in
theorem s_X8_amountBy {G : nk_G} {l : Launch} (hl0 : l.flags = flags0) (h : nk_H) (t0 : Nat) (v1 : Option Nat) : nk_Sim G l RX8 cX8_amountBy 2 (some FieldType.int) 0 0 false nk_eI 0 [(0, .inr (some t0)), (1, .inr v1)] [] h (f_X8_amountBy  h t0 v1) := by
  unfold f_X8_amountBy
  refine nr_iconst (v := 0) dX8_amountBy_0 (by decide) ?_
  exact nr_iret rfl rfl dX8_amountBy_1
theorem c_X8_amountBy {G : nk_G} {l : Launch} (hl0 : l.flags = flags0) (h : nk_H) (t0 : Nat) (v1 : Option Nat) : nk_Con G l yX8_amountBy cX8_amountBy 2 (some FieldType.int) 0 0 nk_eI [.inr (some t0), .inr v1] h (f_X8_amountBy h t0 v1) :=
  nk_con (ini := false) (by decide) hl0 (Nat.le_of_ble_eq_true rfl) (by decide) (s_X8_amountBy hl0 h t0 v1)
set_option maxHeartbeats 4000000 in
theorem s_X7_doneWith_c41 {G : nk_G} {l : Launch} (hl0 : l.flags = flags0) {r4 : nk_H → Nat → Option Nat → Int32 → Int32 → Option (nk_H × Int32)} (hr4 : ∀ (h : nk_H) (t0 : Nat) (v1 : Option Nat) (v2 : Int32) (v3 : Int32), nk_Sim G l RX7 cX7_doneWith 4 (some FieldType.int) 3 64 false nk_eI 4 [(0, .inr (some t0)), (1, .inr v1), (2, .inl v2), (3, .inl v3)] [] h (r4 h t0 v1 v2 v3)) (h : nk_H) (t0 : Nat) (v1 : Option Nat) (v2 : Int32) (v3 : Int32)  : nk_Sim G l RX7 cX7_doneWith 4 (some FieldType.int) 3 64 false nk_eI 41 [(0, .inr (some t0)), (1, .inr v1), (2, .inl v2), (3, .inl v3)] [] h (f_X7_doneWith_c41  r4 h t0 v1 v2 v3 ) := by
  unfold f_X7_doneWith_c41
  refine nr_iinc (lv2 := [(3, .inl (v3 + 1)), (0, .inr (some t0)), (1, .inr v1), (2, .inl v2)]) 3 (v3 + 1) dX7_doneWith_41 rfl (by rfl) (by decide) rfl ?_
  refine nr_goto (tgt := 4) dX7_doneWith_44 (by decide) ?_
  exact nk_locals [1, 2, 3, 0] rfl (hr4 h t0 v1 v2 (v3 + 1))
set_option maxHeartbeats 4000000 in
theorem s_X7_doneWith_c4 {G : nk_G} {l : Launch} (hl0 : l.flags = flags0) {r4 : nk_H → Nat → Option Nat → Int32 → Int32 → Option (nk_H × Int32)} (hr4 : ∀ (h : nk_H) (t0 : Nat) (v1 : Option Nat) (v2 : Int32) (v3 : Int32), nk_Sim G l RX7 cX7_doneWith 4 (some FieldType.int) 3 64 false nk_eI 4 [(0, .inr (some t0)), (1, .inr v1), (2, .inl v2), (3, .inl v3)] [] h (r4 h t0 v1 v2 v3)) (h : nk_H) (t0 : Nat) (v1 : Option Nat) (v2 : Int32) (v3 : Int32)  : nk_Sim G l RX7 cX7_doneWith 4 (some FieldType.int) 3 64 false nk_eI 4 [(0, .inr (some t0)), (1, .inr v1), (2, .inl v2), (3, .inl v3)] [] h (f_X7_doneWith_c4  r4 h t0 v1 v2 v3 ) := by
  unfold f_X7_doneWith_c4
  refine nr_iload_n 3 dX7_doneWith_4 rfl ?_
  refine nr_aload_n 0 dX7_doneWith_5 rfl ?_
  refine nr_getP [15] 0 dX7_doneWith_6 fk_RX7_12 (fun x1 => ?_)
  refine nr_rcv (ks := [7]) (pre := []) (fun a2 hm => ?_)
  refine nr_doI (st := [.inl v3]) (nk_callV (q := (RJx4a65c, TJx4a65c, 3)) (ci := 0) (c_Jx4a65c_size_8abf5 (G := G) hl0 h a2) dX7_doneWith_9 (List.mem_singleton.mp hm) rfl rfl my_Jx4a65c_size_8abf5 im_Jx4a65c_size_8abf5 se_RJx4a65c_Jx4a65c_size_8abf5 ml_RX7_22 rfl rfl (Nat.le_of_ble_eq_true rfl) (by decide) (by decide)) (fun h3 x4 => ?_)
  refine nr_icmp_ge (tgt := 47) dX7_doneWith_12 (by decide) (fun _ => ?_) (fun _ => ?_)
  · refine nr_iload_n 2 dX7_doneWith_47 rfl ?_
    exact nr_iret rfl rfl dX7_doneWith_48
  · refine nr_aload_n 0 dX7_doneWith_15 rfl ?_
    refine nr_iload_n 3 dX7_doneWith_16 rfl ?_
    refine nr_rcv (ks := [15]) (pre := [.inl v3]) (fun a5 hm => ?_)
    refine nr_doI (st := []) (nk_callV (q := (RX7, TX7, 2)) (ci := 8) (c_X7_sees (G := G) hl0 h3 a5 v3) dX7_doneWith_17 (List.mem_singleton.mp hm) rfl rfl my_X7_sees im_X7_sees se_RX7_X7_sees ml_RX7_89 rfl rfl (Nat.le_of_ble_eq_true rfl) (by decide) (by decide)) (fun h6 x7 => ?_)
    refine nr_if_eq (tgt := 41) dX7_doneWith_20 (by decide) (fun _ => ?_) (fun _ => ?_)
    · exact s_X7_doneWith_c41 hl0 hr4 h6 t0 v1 v2 v3
    · refine nr_iload_n 2 dX7_doneWith_23 rfl ?_
      refine nr_aload_n 0 dX7_doneWith_24 rfl ?_
      refine nr_getP [15] 0 dX7_doneWith_25 fk_RX7_12 (fun x8 => ?_)
      refine nr_iload_n 3 dX7_doneWith_28 rfl ?_
      refine nr_rcv (ks := [7]) (pre := [.inl v3]) (fun a9 hm => ?_)
      refine nr_doR (st := [.inl v2]) (nk_callV (q := (RJx4a65c, TJx4a65c, 3)) (ci := 0) (c_Jx4a65c_get_915e3 (G := G) hl0 h6 a9 v3) dX7_doneWith_29 (List.mem_singleton.mp hm) rfl rfl my_Jx4a65c_get_915e3 im_Jx4a65c_get_915e3 se_RJx4a65c_Jx4a65c_get_915e3 ml_RX7_26 rfl rfl (Nat.le_of_ble_eq_true rfl) (by decide) (by decide)) (fun h10 x11 => ?_)
      refine nr_cast dX7_doneWith_32 cl_RX7_30 ca_Piece ?_
      refine nr_aload_n 1 dX7_doneWith_35 rfl ?_
      refine nr_rcv (ks := [8, 12, 16, 17]) (pre := [.inr v1]) (fun a13 hm => ?_)
      refine nr_doI (st := [.inl v2]) ?_ (fun h14 x15 => ?_)
      · simp only [List.mem_cons, List.not_mem_nil, or_false] at hm
        rcases hm with hm | hm | hm | hm
        · rw [if_pos hm]
          exact nk_callU (x := yX8_amountBy) (owner := "NotaryKiosk$Piece") (q := (RX0, TX0, 11)) (ci := 1) (c_X0_amountBy (G := G) hl0 h10 a13 v1) dX7_doneWith_36 hm rfl my_X0_amountBy im_X0_amountBy se_RX0_X8_amountBy_X0_amountBy ml_RX7_103 sm_X8_amountBy (by decide +kernel) im_X8_amountBy co_X8_amountBy rfl rfl (Nat.le_of_ble_eq_true rfl) (by decide) (by decide)
        · rw [if_neg (by rw [hm]; decide), if_pos hm]
          exact nk_callU (x := yX8_amountBy) (owner := "NotaryKiosk$Piece") (q := (RX4, TX4, 9)) (ci := 5) (c_X8_amountBy (G := G) hl0 h10 a13 v1) dX7_doneWith_36 hm rfl my_X8_amountBy im_X8_amountBy se_RX4_X8_amountBy ml_RX7_103 sm_X8_amountBy (by decide +kernel) im_X8_amountBy co_X8_amountBy rfl rfl (Nat.le_of_ble_eq_true rfl) (by decide) (by decide)
        · rw [if_neg (by rw [hm]; decide), if_neg (by rw [hm]; decide), if_pos hm]
          exact nk_callU (x := yX8_amountBy) (owner := "NotaryKiosk$Piece") (q := (RX9, TX9, 15)) (ci := 9) (c_X8_amountBy (G := G) hl0 h10 a13 v1) dX7_doneWith_36 hm rfl my_X8_amountBy im_X8_amountBy se_RX9_X8_amountBy ml_RX7_103 sm_X8_amountBy (by decide +kernel) im_X8_amountBy co_X8_amountBy rfl rfl (Nat.le_of_ble_eq_true rfl) (by decide) (by decide)
        · rw [if_neg (by rw [hm]; decide), if_neg (by rw [hm]; decide), if_neg (by rw [hm]; decide)]
          exact nk_callU (x := yX8_amountBy) (owner := "NotaryKiosk$Piece") (q := (RX10, TX10, 7)) (ci := 10) (c_X8_amountBy (G := G) hl0 h10 a13 v1) dX7_doneWith_36 hm rfl my_X8_amountBy im_X8_amountBy se_RX10_X8_amountBy ml_RX7_103 sm_X8_amountBy (by decide +kernel) im_X8_amountBy co_X8_amountBy rfl rfl (Nat.le_of_ble_eq_true rfl) (by decide) (by decide)
      · refine nr_iadd dX7_doneWith_39 ?_
        refine nr_istore_n (lv2 := [(2, .inl (v2 + x15)), (0, .inr (some t0)), (1, .inr v1), (3, .inl v3)]) dX7_doneWith_40 (by decide) rfl ?_
        exact nk_locals [1, 2, 0, 3] rfl (s_X7_doneWith_c41 hl0 hr4 h14 t0 v1 (v2 + x15) v3)
theorem s_X7_doneWith_b4 {G : nk_G} {l : Launch} (hl0 : l.flags = flags0)   : ∀ (n : Nat) (h : nk_H) (t0 : Nat) (v1 : Option Nat) (v2 : Int32) (v3 : Int32), nk_Sim G l RX7 cX7_doneWith 4 (some FieldType.int) 3 64 false nk_eI 4 [(0, .inr (some t0)), (1, .inr v1), (2, .inl v2), (3, .inl v3)] [] h (f_X7_doneWith_b4   n h t0 v1 v2 v3)
  | 0, _, _, _, _, _ => nk_none
  | n + 1, h, t0, v1, v2, v3 => s_X7_doneWith_c4 hl0 (s_X7_doneWith_b4 hl0  n) h t0 v1 v2 v3
set_option maxHeartbeats 4000000 in
theorem s_X7_doneWith {G : nk_G} {l : Launch} (hl0 : l.flags = flags0) (h : nk_H) (t0 : Nat) (v1 : Option Nat) : nk_Sim G l RX7 cX7_doneWith 4 (some FieldType.int) 3 64 false nk_eI 0 [(0, .inr (some t0)), (1, .inr v1)] [] h (f_X7_doneWith  h t0 v1) := by
  unfold f_X7_doneWith
  refine nr_iconst (v := 0) dX7_doneWith_0 (by decide) ?_
  refine nr_istore_n (lv2 := [(2, .inl 0), (0, .inr (some t0)), (1, .inr v1)]) dX7_doneWith_1 (by decide) rfl ?_
  refine nr_iconst (v := 0) dX7_doneWith_2 (by decide) ?_
  refine nr_istore_n (lv2 := [(3, .inl 0), (2, .inl 0), (0, .inr (some t0)), (1, .inr v1)]) dX7_doneWith_3 (by decide) rfl ?_
  exact nk_locals [2, 3, 1, 0] rfl (s_X7_doneWith_b4 hl0  4096 h t0 v1 0 0)
theorem c_X7_doneWith {G : nk_G} {l : Launch} (hl0 : l.flags = flags0) (h : nk_H) (t0 : Nat) (v1 : Option Nat) : nk_Con G l yX7_doneWith cX7_doneWith 4 (some FieldType.int) 3 64 nk_eI [.inr (some t0), .inr v1] h (f_X7_doneWith h t0 v1) :=
  nk_con (ini := false) (by decide) hl0 (Nat.le_of_ble_eq_true rfl) (by decide) (s_X7_doneWith hl0 h t0 v1)
set_option maxHeartbeats 4000000 in
theorem s_X7_wouldPassTotal_c2 {G : nk_G} {l : Launch} (hl0 : l.flags = flags0) {r2 : nk_H → Nat → Int32 → Option Nat → Option (nk_H × Int32)} (hr2 : ∀ (h : nk_H) (t0 : Nat) (v2 : Int32) (v3 : Option Nat), nk_Sim G l RX7 cX7_wouldPassTotal 4 (some FieldType.boolean) 4 87 false nk_eI 2 [(0, .inr (some t0)), (2, .inl v2), (3, .inr v3)] [] h (r2 h t0 v2 v3)) (h : nk_H) (t0 : Nat) (v2 : Int32) (v3 : Option Nat)  : nk_Sim G l RX7 cX7_wouldPassTotal 4 (some FieldType.boolean) 4 87 false nk_eI 2 [(0, .inr (some t0)), (2, .inl v2), (3, .inr v3)] [] h (f_X7_wouldPassTotal_c2  r2 h t0 v2 v3 ) := by
  unfold f_X7_wouldPassTotal_c2
  refine nr_aload_n 2 dX7_wouldPassTotal_2 rfl ?_
  refine nr_ifnull (tgt := 30) dX7_wouldPassTotal_3 (by decide) (fun _ => ?_) (fun _ => ?_)
  · refine nr_iconst (v := 0) dX7_wouldPassTotal_30 (by decide) ?_
    exact nr_zret rfl rfl dX7_wouldPassTotal_31
  · refine nr_aload_n 0 dX7_wouldPassTotal_6 rfl ?_
    refine nr_aload_n 2 dX7_wouldPassTotal_7 rfl ?_
    refine nr_rcv (ks := [15]) (pre := [.inr v3]) (fun a1 hm => ?_)
    refine nr_doI (st := []) (nk_callV (q := (RX7, TX7, 2)) (ci := 8) (c_X7_doneWith (G := G) hl0 h a1 v3) dX7_wouldPassTotal_8 (List.mem_singleton.mp hm) rfl rfl my_X7_doneWith im_X7_doneWith se_RX7_X7_doneWith ml_RX7_107 rfl rfl (Nat.le_of_ble_eq_true rfl) (by decide) (by decide)) (fun h2 x3 => ?_)
    refine nr_iload_n 1 dX7_wouldPassTotal_11 rfl ?_
    refine nr_iadd dX7_wouldPassTotal_12 ?_
    refine nr_aload_n 2 dX7_wouldPassTotal_13 rfl ?_
    refine nr_getI [16] 12 dX7_wouldPassTotal_14 fk_RX7_110 (fun x4 => ?_)
    refine nr_icmp_le (tgt := 22) dX7_wouldPassTotal_17 (by decide) (fun _ => ?_) (fun _ => ?_)
    · refine nr_aload_n 2 dX7_wouldPassTotal_22 rfl ?_
      refine nr_getP [16] 7 dX7_wouldPassTotal_23 fk_RX7_92 (fun x5 => ?_)
      refine nr_astore_n (lv2 := [(3, .inr x5), (0, .inr (some t0)), (2, .inl v2)]) dX7_wouldPassTotal_26 (by decide) rfl ?_
      refine nr_goto (tgt := 2) dX7_wouldPassTotal_27 (by decide) ?_
      exact nk_locals [1, 2, 0] rfl (hr2 h2 t0 v2 x5)
    · refine nr_iconst (v := 1) dX7_wouldPassTotal_20 (by decide) ?_
      exact nr_zret rfl rfl dX7_wouldPassTotal_21
theorem s_X7_wouldPassTotal_b2 {G : nk_G} {l : Launch} (hl0 : l.flags = flags0)   : ∀ (n : Nat) (h : nk_H) (t0 : Nat) (v2 : Int32) (v3 : Option Nat), nk_Sim G l RX7 cX7_wouldPassTotal 4 (some FieldType.boolean) 4 87 false nk_eI 2 [(0, .inr (some t0)), (2, .inl v2), (3, .inr v3)] [] h (f_X7_wouldPassTotal_b2   n h t0 v2 v3)
  | 0, _, _, _, _ => nk_none
  | n + 1, h, t0, v2, v3 => s_X7_wouldPassTotal_c2 hl0 (s_X7_wouldPassTotal_b2 hl0  n) h t0 v2 v3
set_option maxHeartbeats 4000000 in
theorem s_X7_wouldPassTotal {G : nk_G} {l : Launch} (hl0 : l.flags = flags0) (h : nk_H) (t0 : Nat) (v1 : Option Nat) (v2 : Int32) : nk_Sim G l RX7 cX7_wouldPassTotal 4 (some FieldType.boolean) 4 87 false nk_eI 0 [(0, .inr (some t0)), (1, .inr v1), (2, .inl v2)] [] h (f_X7_wouldPassTotal  h t0 v1 v2) := by
  unfold f_X7_wouldPassTotal
  refine nr_aload_n 1 dX7_wouldPassTotal_0 rfl ?_
  refine nr_astore_n (lv2 := [(3, .inr v1), (0, .inr (some t0)), (1, .inr v1), (2, .inl v2)]) dX7_wouldPassTotal_1 (by decide) rfl ?_
  exact nk_locals [1, 3, 0] rfl (s_X7_wouldPassTotal_b2 hl0  4096 h t0 v2 v1)
theorem c_X7_wouldPassTotal {G : nk_G} {l : Launch} (hl0 : l.flags = flags0) (h : nk_H) (t0 : Nat) (v1 : Option Nat) (v2 : Int32) : nk_Con G l yX7_wouldPassTotal cX7_wouldPassTotal 4 (some FieldType.boolean) 4 87 nk_eI [.inr (some t0), .inr v1, .inl v2] h (f_X7_wouldPassTotal h t0 v1 v2) :=
  nk_con (ini := false) (by decide) hl0 (Nat.le_of_ble_eq_true rfl) (by decide) (s_X7_wouldPassTotal hl0 h t0 v1 v2)
set_option maxHeartbeats 4000000 in
theorem s_X8_isDeputation {G : nk_G} {l : Launch} (hl0 : l.flags = flags0) (h : nk_H) (t0 : Nat) (v1 : Int32) (v2 : Int32) (v3 : Int32) : nk_Sim G l RX8 cX8_isDeputation 4 (some FieldType.boolean) 0 0 false nk_eI 0 [(0, .inr (some t0)), (1, .inl v1), (2, .inl v2), (3, .inl v3)] [] h (f_X8_isDeputation  h t0 v1 v2 v3) := by
  unfold f_X8_isDeputation
  refine nr_iconst (v := 0) dX8_isDeputation_0 (by decide) ?_
  exact nr_zret rfl rfl dX8_isDeputation_1
theorem c_X8_isDeputation {G : nk_G} {l : Launch} (hl0 : l.flags = flags0) (h : nk_H) (t0 : Nat) (v1 : Int32) (v2 : Int32) (v3 : Int32) : nk_Con G l yX8_isDeputation cX8_isDeputation 4 (some FieldType.boolean) 0 0 nk_eI [.inr (some t0), .inl v1, .inl v2, .inl v3] h (f_X8_isDeputation h t0 v1 v2 v3) :=
  nk_con (ini := false) (by decide) hl0 (Nat.le_of_ble_eq_true rfl) (by decide) (s_X8_isDeputation hl0 h t0 v1 v2 v3)
set_option maxHeartbeats 4000000 in
theorem s_X7_deputes_c47 {G : nk_G} {l : Launch} (hl0 : l.flags = flags0) {r3 : nk_H → Nat → Int32 → Int32 → Int32 → Int32 → Option (nk_H × Int32)} (hr3 : ∀ (h : nk_H) (t0 : Nat) (v1 : Int32) (v2 : Int32) (v3 : Int32) (v4 : Int32), nk_Sim G l RX7 cX7_deputes 5 (some FieldType.boolean) 3 64 false nk_eI 3 [(0, .inr (some t0)), (1, .inl v1), (2, .inl v2), (3, .inl v3), (4, .inl v4)] [] h (r3 h t0 v1 v2 v3 v4)) (h : nk_H) (t0 : Nat) (v1 : Int32) (v2 : Int32) (v3 : Int32) (v4 : Int32)  : nk_Sim G l RX7 cX7_deputes 5 (some FieldType.boolean) 3 64 false nk_eI 47 [(0, .inr (some t0)), (1, .inl v1), (2, .inl v2), (3, .inl v3), (4, .inl v4)] [] h (f_X7_deputes_c47  r3 h t0 v1 v2 v3 v4 ) := by
  unfold f_X7_deputes_c47
  refine nr_iinc (lv2 := [(4, .inl (v4 + 1)), (0, .inr (some t0)), (1, .inl v1), (2, .inl v2), (3, .inl v3)]) 4 (v4 + 1) dX7_deputes_47 rfl (by rfl) (by decide) rfl ?_
  refine nr_goto (tgt := 3) dX7_deputes_50 (by decide) ?_
  exact nk_locals [1, 2, 3, 4, 0] rfl (hr3 h t0 v1 v2 v3 (v4 + 1))
set_option maxHeartbeats 4000000 in
theorem s_X7_deputes_c3 {G : nk_G} {l : Launch} (hl0 : l.flags = flags0) {r3 : nk_H → Nat → Int32 → Int32 → Int32 → Int32 → Option (nk_H × Int32)} (hr3 : ∀ (h : nk_H) (t0 : Nat) (v1 : Int32) (v2 : Int32) (v3 : Int32) (v4 : Int32), nk_Sim G l RX7 cX7_deputes 5 (some FieldType.boolean) 3 64 false nk_eI 3 [(0, .inr (some t0)), (1, .inl v1), (2, .inl v2), (3, .inl v3), (4, .inl v4)] [] h (r3 h t0 v1 v2 v3 v4)) (h : nk_H) (t0 : Nat) (v1 : Int32) (v2 : Int32) (v3 : Int32) (v4 : Int32)  : nk_Sim G l RX7 cX7_deputes 5 (some FieldType.boolean) 3 64 false nk_eI 3 [(0, .inr (some t0)), (1, .inl v1), (2, .inl v2), (3, .inl v3), (4, .inl v4)] [] h (f_X7_deputes_c3  r3 h t0 v1 v2 v3 v4 ) := by
  unfold f_X7_deputes_c3
  refine nr_iload 4 dX7_deputes_3 rfl ?_
  refine nr_aload_n 0 dX7_deputes_5 rfl ?_
  refine nr_getP [15] 0 dX7_deputes_6 fk_RX7_12 (fun x1 => ?_)
  refine nr_rcv (ks := [7]) (pre := []) (fun a2 hm => ?_)
  refine nr_doI (st := [.inl v4]) (nk_callV (q := (RJx4a65c, TJx4a65c, 3)) (ci := 0) (c_Jx4a65c_size_8abf5 (G := G) hl0 h a2) dX7_deputes_9 (List.mem_singleton.mp hm) rfl rfl my_Jx4a65c_size_8abf5 im_Jx4a65c_size_8abf5 se_RJx4a65c_Jx4a65c_size_8abf5 ml_RX7_22 rfl rfl (Nat.le_of_ble_eq_true rfl) (by decide) (by decide)) (fun h3 x4 => ?_)
  refine nr_icmp_ge (tgt := 53) dX7_deputes_12 (by decide) (fun _ => ?_) (fun _ => ?_)
  · refine nr_iconst (v := 0) dX7_deputes_53 (by decide) ?_
    exact nr_zret rfl rfl dX7_deputes_54
  · refine nr_aload_n 0 dX7_deputes_15 rfl ?_
    refine nr_iload 4 dX7_deputes_16 rfl ?_
    refine nr_rcv (ks := [15]) (pre := [.inl v4]) (fun a5 hm => ?_)
    refine nr_doI (st := []) (nk_callV (q := (RX7, TX7, 2)) (ci := 8) (c_X7_sees (G := G) hl0 h3 a5 v4) dX7_deputes_18 (List.mem_singleton.mp hm) rfl rfl my_X7_sees im_X7_sees se_RX7_X7_sees ml_RX7_89 rfl rfl (Nat.le_of_ble_eq_true rfl) (by decide) (by decide)) (fun h6 x7 => ?_)
    refine nr_if_eq (tgt := 47) dX7_deputes_21 (by decide) (fun _ => ?_) (fun _ => ?_)
    · exact s_X7_deputes_c47 hl0 hr3 h6 t0 v1 v2 v3 v4
    · refine nr_aload_n 0 dX7_deputes_24 rfl ?_
      refine nr_getP [15] 0 dX7_deputes_25 fk_RX7_12 (fun x8 => ?_)
      refine nr_iload 4 dX7_deputes_28 rfl ?_
      refine nr_rcv (ks := [7]) (pre := [.inl v4]) (fun a9 hm => ?_)
      refine nr_doR (st := []) (nk_callV (q := (RJx4a65c, TJx4a65c, 3)) (ci := 0) (c_Jx4a65c_get_915e3 (G := G) hl0 h6 a9 v4) dX7_deputes_30 (List.mem_singleton.mp hm) rfl rfl my_Jx4a65c_get_915e3 im_Jx4a65c_get_915e3 se_RJx4a65c_Jx4a65c_get_915e3 ml_RX7_26 rfl rfl (Nat.le_of_ble_eq_true rfl) (by decide) (by decide)) (fun h10 x11 => ?_)
      refine nr_cast dX7_deputes_33 cl_RX7_30 ca_Piece ?_
      refine nr_iload_n 1 dX7_deputes_36 rfl ?_
      refine nr_iload_n 2 dX7_deputes_37 rfl ?_
      refine nr_iload_n 3 dX7_deputes_38 rfl ?_
      refine nr_rcv (ks := [8, 12, 16, 17]) (pre := [.inl v3, .inl v2, .inl v1]) (fun a13 hm => ?_)
      refine nr_doI (st := []) ?_ (fun h14 x15 => ?_)
      · simp only [List.mem_cons, List.not_mem_nil, or_false] at hm
        rcases hm with hm | hm | hm | hm
        · rw [if_pos hm]
          exact nk_callU (x := yX8_isDeputation) (owner := "NotaryKiosk$Piece") (q := (RX0, TX0, 11)) (ci := 1) (c_X8_isDeputation (G := G) hl0 h10 a13 v1 v2 v3) dX7_deputes_39 hm rfl my_X8_isDeputation im_X8_isDeputation se_RX0_X8_isDeputation ml_RX7_113 sm_X8_isDeputation (by decide +kernel) im_X8_isDeputation co_X8_isDeputation rfl rfl (Nat.le_of_ble_eq_true rfl) (by decide) (by decide)
        · rw [if_neg (by rw [hm]; decide), if_pos hm]
          exact nk_callU (x := yX8_isDeputation) (owner := "NotaryKiosk$Piece") (q := (RX4, TX4, 9)) (ci := 5) (c_X4_isDeputation (G := G) hl0 h10 a13 v1 v2 v3) dX7_deputes_39 hm rfl my_X4_isDeputation im_X4_isDeputation se_RX4_X8_isDeputation_X4_isDeputation ml_RX7_113 sm_X8_isDeputation (by decide +kernel) im_X8_isDeputation co_X8_isDeputation rfl rfl (Nat.le_of_ble_eq_true rfl) (by decide) (by decide)
        · rw [if_neg (by rw [hm]; decide), if_neg (by rw [hm]; decide), if_pos hm]
          exact nk_callU (x := yX8_isDeputation) (owner := "NotaryKiosk$Piece") (q := (RX9, TX9, 15)) (ci := 9) (c_X8_isDeputation (G := G) hl0 h10 a13 v1 v2 v3) dX7_deputes_39 hm rfl my_X8_isDeputation im_X8_isDeputation se_RX9_X8_isDeputation ml_RX7_113 sm_X8_isDeputation (by decide +kernel) im_X8_isDeputation co_X8_isDeputation rfl rfl (Nat.le_of_ble_eq_true rfl) (by decide) (by decide)
        · rw [if_neg (by rw [hm]; decide), if_neg (by rw [hm]; decide), if_neg (by rw [hm]; decide)]
          exact nk_callU (x := yX8_isDeputation) (owner := "NotaryKiosk$Piece") (q := (RX10, TX10, 7)) (ci := 10) (c_X8_isDeputation (G := G) hl0 h10 a13 v1 v2 v3) dX7_deputes_39 hm rfl my_X8_isDeputation im_X8_isDeputation se_RX10_X8_isDeputation ml_RX7_113 sm_X8_isDeputation (by decide +kernel) im_X8_isDeputation co_X8_isDeputation rfl rfl (Nat.le_of_ble_eq_true rfl) (by decide) (by decide)
      · refine nr_if_eq (tgt := 47) dX7_deputes_42 (by decide) (fun _ => ?_) (fun _ => ?_)
        · exact s_X7_deputes_c47 hl0 hr3 h14 t0 v1 v2 v3 v4
        · refine nr_iconst (v := 1) dX7_deputes_45 (by decide) ?_
          exact nr_zret rfl rfl dX7_deputes_46
theorem s_X7_deputes_b3 {G : nk_G} {l : Launch} (hl0 : l.flags = flags0)   : ∀ (n : Nat) (h : nk_H) (t0 : Nat) (v1 : Int32) (v2 : Int32) (v3 : Int32) (v4 : Int32), nk_Sim G l RX7 cX7_deputes 5 (some FieldType.boolean) 3 64 false nk_eI 3 [(0, .inr (some t0)), (1, .inl v1), (2, .inl v2), (3, .inl v3), (4, .inl v4)] [] h (f_X7_deputes_b3   n h t0 v1 v2 v3 v4)
  | 0, _, _, _, _, _, _ => nk_none
  | n + 1, h, t0, v1, v2, v3, v4 => s_X7_deputes_c3 hl0 (s_X7_deputes_b3 hl0  n) h t0 v1 v2 v3 v4
set_option maxHeartbeats 4000000 in
theorem s_X7_deputes {G : nk_G} {l : Launch} (hl0 : l.flags = flags0) (h : nk_H) (t0 : Nat) (v1 : Int32) (v2 : Int32) (v3 : Int32) : nk_Sim G l RX7 cX7_deputes 5 (some FieldType.boolean) 3 64 false nk_eI 0 [(0, .inr (some t0)), (1, .inl v1), (2, .inl v2), (3, .inl v3)] [] h (f_X7_deputes  h t0 v1 v2 v3) := by
  unfold f_X7_deputes
  refine nr_iconst (v := 0) dX7_deputes_0 (by decide) ?_
  refine nr_istore (lv2 := [(4, .inl 0), (0, .inr (some t0)), (1, .inl v1), (2, .inl v2), (3, .inl v3)]) dX7_deputes_1 (by decide) rfl ?_
  exact nk_locals [1, 2, 3, 4, 0] rfl (s_X7_deputes_b3 hl0  4096 h t0 v1 v2 v3 0)
theorem c_X7_deputes {G : nk_G} {l : Launch} (hl0 : l.flags = flags0) (h : nk_H) (t0 : Nat) (v1 : Int32) (v2 : Int32) (v3 : Int32) : nk_Con G l yX7_deputes cX7_deputes 5 (some FieldType.boolean) 3 64 nk_eI [.inr (some t0), .inl v1, .inl v2, .inl v3] h (f_X7_deputes h t0 v1 v2 v3) :=
  nk_con (ini := false) (by decide) hl0 (Nat.le_of_ble_eq_true rfl) (by decide) (s_X7_deputes hl0 h t0 v1 v2 v3)
set_option maxHeartbeats 4000000 in
theorem s_X7_officerAt_c15 {G : nk_G} {l : Launch} (hl0 : l.flags = flags0)   (h : nk_H)  (s0 : Int32) : nk_Sim G l RX7 cX7_officerAt 3 (some FieldType.int) 4 88 false nk_eI 15 [] [.inl s0] h (f_X7_officerAt_c15   h  s0) := by
  unfold f_X7_officerAt_c15
  exact nr_iret rfl rfl dX7_officerAt_15
set_option maxHeartbeats 4000000 in
theorem s_X7_officerAt {G : nk_G} {l : Launch} (hl0 : l.flags = flags0) (h : nk_H) (t0 : Nat) (v1 : Int32) (v2 : Int32) : nk_Sim G l RX7 cX7_officerAt 3 (some FieldType.int) 4 88 false nk_eI 0 [(0, .inr (some t0)), (1, .inl v1), (2, .inl v2)] [] h (f_X7_officerAt  h t0 v1 v2) := by
  unfold f_X7_officerAt
  refine nr_aload_n 0 dX7_officerAt_0 rfl ?_
  refine nr_iload_n 1 dX7_officerAt_1 rfl ?_
  refine nr_iload_n 2 dX7_officerAt_2 rfl ?_
  refine nr_iload_n 2 dX7_officerAt_3 rfl ?_
  refine nr_rcv (ks := [15]) (pre := [.inl v2, .inl v2, .inl v1]) (fun a1 hm => ?_)
  refine nr_doI (st := []) (nk_callV (q := (RX7, TX7, 2)) (ci := 8) (c_X7_deputes (G := G) hl0 h a1 v1 v2 v2) dX7_officerAt_4 (List.mem_singleton.mp hm) rfl rfl my_X7_deputes im_X7_deputes se_RX7_X7_deputes ml_RX7_117 rfl rfl (Nat.le_of_ble_eq_true rfl) (by decide) (by decide)) (fun h2 x3 => ?_)
  refine nr_if_eq (tgt := 14) dX7_officerAt_7 (by decide) (fun _ => ?_) (fun _ => ?_)
  · refine nr_iconst (v := 0) dX7_officerAt_14 (by decide) ?_
    exact nk_locals [] rfl (s_X7_officerAt_c15 hl0  h2 0)
  · refine nr_iconst (v := 1) dX7_officerAt_10 (by decide) ?_
    refine nr_goto (tgt := 15) dX7_officerAt_11 (by decide) ?_
    exact nk_locals [] rfl (s_X7_officerAt_c15 hl0  h2 1)
theorem c_X7_officerAt {G : nk_G} {l : Launch} (hl0 : l.flags = flags0) (h : nk_H) (t0 : Nat) (v1 : Int32) (v2 : Int32) : nk_Con G l yX7_officerAt cX7_officerAt 3 (some FieldType.int) 4 88 nk_eI [.inr (some t0), .inl v1, .inl v2] h (f_X7_officerAt h t0 v1 v2) :=
  nk_con (ini := false) (by decide) hl0 (Nat.le_of_ble_eq_true rfl) (by decide) (s_X7_officerAt hl0 h t0 v1 v2)
set_option maxHeartbeats 4000000 in
theorem s_X9_isOver_c2 {G : nk_G} {l : Launch} (hl0 : l.flags = flags0) {r2 : nk_H → Int32 → Option Nat → Option (nk_H × Int32)} (hr2 : ∀ (h : nk_H) (v1 : Int32) (v2 : Option Nat), nk_Sim G l RX9 cX9_isOver 3 (some FieldType.boolean) 0 0 false nk_eI 2 [(1, .inl v1), (2, .inr v2)] [] h (r2 h v1 v2)) (h : nk_H) (v1 : Int32) (v2 : Option Nat)  : nk_Sim G l RX9 cX9_isOver 3 (some FieldType.boolean) 0 0 false nk_eI 2 [(1, .inl v1), (2, .inr v2)] [] h (f_X9_isOver_c2  r2 h v1 v2 ) := by
  unfold f_X9_isOver_c2
  refine nr_aload_n 1 dX9_isOver_2 rfl ?_
  refine nr_ifnull (tgt := 24) dX9_isOver_3 (by decide) (fun _ => ?_) (fun _ => ?_)
  · refine nr_iconst (v := 0) dX9_isOver_24 (by decide) ?_
    exact nr_zret rfl rfl dX9_isOver_25
  · refine nr_iload_n 0 dX9_isOver_6 rfl ?_
    refine nr_aload_n 1 dX9_isOver_7 rfl ?_
    refine nr_getI [16] 13 dX9_isOver_8 fk_RX9_40 (fun x1 => ?_)
    refine nr_icmp_le (tgt := 16) dX9_isOver_11 (by decide) (fun _ => ?_) (fun _ => ?_)
    · refine nr_aload_n 1 dX9_isOver_16 rfl ?_
      refine nr_getP [16] 7 dX9_isOver_17 fk_RX9_13 (fun x2 => ?_)
      refine nr_astore_n (lv2 := [(2, .inr x2), (1, .inl v1)]) dX9_isOver_20 (by decide) rfl ?_
      refine nr_goto (tgt := 2) dX9_isOver_21 (by decide) ?_
      exact nk_locals [1, 0] rfl (hr2 h v1 x2)
    · refine nr_iconst (v := 1) dX9_isOver_14 (by decide) ?_
      exact nr_zret rfl rfl dX9_isOver_15
theorem s_X9_isOver_b2 {G : nk_G} {l : Launch} (hl0 : l.flags = flags0)   : ∀ (n : Nat) (h : nk_H) (v1 : Int32) (v2 : Option Nat), nk_Sim G l RX9 cX9_isOver 3 (some FieldType.boolean) 0 0 false nk_eI 2 [(1, .inl v1), (2, .inr v2)] [] h (f_X9_isOver_b2   n h v1 v2)
  | 0, _, _, _ => nk_none
  | n + 1, h, v1, v2 => s_X9_isOver_c2 hl0 (s_X9_isOver_b2 hl0  n) h v1 v2
set_option maxHeartbeats 4000000 in
theorem s_X9_isOver {G : nk_G} {l : Launch} (hl0 : l.flags = flags0) (h : nk_H) (t0 : Nat) (v1 : Int32) : nk_Sim G l RX9 cX9_isOver 3 (some FieldType.boolean) 0 0 false nk_eI 0 [(0, .inr (some t0)), (1, .inl v1)] [] h (f_X9_isOver  h t0 v1) := by
  unfold f_X9_isOver
  refine nr_aload_n 0 dX9_isOver_0 rfl ?_
  refine nr_astore_n (lv2 := [(2, .inr (some t0)), (0, .inr (some t0)), (1, .inl v1)]) dX9_isOver_1 (by decide) rfl ?_
  exact nk_locals [2, 0] rfl (s_X9_isOver_b2 hl0  4096 h v1 (some t0))
theorem c_X9_isOver {G : nk_G} {l : Launch} (hl0 : l.flags = flags0) (h : nk_H) (t0 : Nat) (v1 : Int32) : nk_Con G l yX9_isOver cX9_isOver 3 (some FieldType.boolean) 0 0 nk_eI [.inr (some t0), .inl v1] h (f_X9_isOver h t0 v1) :=
  nk_con (ini := false) (by decide) hl0 (Nat.le_of_ble_eq_true rfl) (by decide) (s_X9_isOver hl0 h t0 v1)
set_option maxHeartbeats 4000000 in
theorem s_X9_limitsBelow_c2 {G : nk_G} {l : Launch} (hl0 : l.flags = flags0) {r2 : nk_H → Int32 → Option Nat → Option (nk_H × Int32)} (hr2 : ∀ (h : nk_H) (v1 : Int32) (v2 : Option Nat), nk_Sim G l RX9 cX9_limitsBelow 3 (some FieldType.boolean) 0 0 false nk_eI 2 [(1, .inl v1), (2, .inr v2)] [] h (r2 h v1 v2)) (h : nk_H) (v1 : Int32) (v2 : Option Nat)  : nk_Sim G l RX9 cX9_limitsBelow 3 (some FieldType.boolean) 0 0 false nk_eI 2 [(1, .inl v1), (2, .inr v2)] [] h (f_X9_limitsBelow_c2  r2 h v1 v2 ) := by
  unfold f_X9_limitsBelow_c2
  refine nr_aload_n 1 dX9_limitsBelow_2 rfl ?_
  refine nr_ifnull (tgt := 24) dX9_limitsBelow_3 (by decide) (fun _ => ?_) (fun _ => ?_)
  · refine nr_iconst (v := 0) dX9_limitsBelow_24 (by decide) ?_
    exact nr_zret rfl rfl dX9_limitsBelow_25
  · refine nr_iload_n 0 dX9_limitsBelow_6 rfl ?_
    refine nr_aload_n 1 dX9_limitsBelow_7 rfl ?_
    refine nr_getI [16] 11 dX9_limitsBelow_8 fk_RX9_32 (fun x1 => ?_)
    refine nr_icmp_le (tgt := 16) dX9_limitsBelow_11 (by decide) (fun _ => ?_) (fun _ => ?_)
    · refine nr_aload_n 1 dX9_limitsBelow_16 rfl ?_
      refine nr_getP [16] 7 dX9_limitsBelow_17 fk_RX9_13 (fun x2 => ?_)
      refine nr_astore_n (lv2 := [(2, .inr x2), (1, .inl v1)]) dX9_limitsBelow_20 (by decide) rfl ?_
      refine nr_goto (tgt := 2) dX9_limitsBelow_21 (by decide) ?_
      exact nk_locals [1, 0] rfl (hr2 h v1 x2)
    · refine nr_iconst (v := 1) dX9_limitsBelow_14 (by decide) ?_
      exact nr_zret rfl rfl dX9_limitsBelow_15
theorem s_X9_limitsBelow_b2 {G : nk_G} {l : Launch} (hl0 : l.flags = flags0)   : ∀ (n : Nat) (h : nk_H) (v1 : Int32) (v2 : Option Nat), nk_Sim G l RX9 cX9_limitsBelow 3 (some FieldType.boolean) 0 0 false nk_eI 2 [(1, .inl v1), (2, .inr v2)] [] h (f_X9_limitsBelow_b2   n h v1 v2)
  | 0, _, _, _ => nk_none
  | n + 1, h, v1, v2 => s_X9_limitsBelow_c2 hl0 (s_X9_limitsBelow_b2 hl0  n) h v1 v2
set_option maxHeartbeats 4000000 in
theorem s_X9_limitsBelow {G : nk_G} {l : Launch} (hl0 : l.flags = flags0) (h : nk_H) (t0 : Nat) (v1 : Int32) : nk_Sim G l RX9 cX9_limitsBelow 3 (some FieldType.boolean) 0 0 false nk_eI 0 [(0, .inr (some t0)), (1, .inl v1)] [] h (f_X9_limitsBelow  h t0 v1) := by
  unfold f_X9_limitsBelow
  refine nr_aload_n 0 dX9_limitsBelow_0 rfl ?_
  refine nr_astore_n (lv2 := [(2, .inr (some t0)), (0, .inr (some t0)), (1, .inl v1)]) dX9_limitsBelow_1 (by decide) rfl ?_
  exact nk_locals [2, 0] rfl (s_X9_limitsBelow_b2 hl0  4096 h v1 (some t0))
theorem c_X9_limitsBelow {G : nk_G} {l : Launch} (hl0 : l.flags = flags0) (h : nk_H) (t0 : Nat) (v1 : Int32) : nk_Con G l yX9_limitsBelow cX9_limitsBelow 3 (some FieldType.boolean) 0 0 nk_eI [.inr (some t0), .inl v1] h (f_X9_limitsBelow h t0 v1) :=
  nk_con (ini := false) (by decide) hl0 (Nat.le_of_ble_eq_true rfl) (by decide) (s_X9_limitsBelow hl0 h t0 v1)
set_option maxHeartbeats 4000000 in
theorem s_X7_reasonAgainst_c116 {G : nk_G} {l : Launch} (hl0 : l.flags = flags0)   (h : nk_H)  (s0 : Int32) : nk_Sim G l RX7 cX7_reasonAgainst 3 (some FieldType.int) 5 110 false nk_eI 116 [] [.inl s0] h (f_X7_reasonAgainst_c116   h  s0) := by
  unfold f_X7_reasonAgainst_c116
  exact nr_iret rfl rfl dX7_reasonAgainst_116
set_option maxHeartbeats 4000000 in
theorem s_X7_reasonAgainst {G : nk_G} {l : Launch} (hl0 : l.flags = flags0) (h : nk_H) (t0 : Nat) (v1 : Option Nat) (v2 : Option Nat) : nk_Sim G l RX7 cX7_reasonAgainst 3 (some FieldType.int) 5 110 false nk_eI 0 [(0, .inr (some t0)), (1, .inr v1), (2, .inr v2)] [] h (f_X7_reasonAgainst  h t0 v1 v2) := by
  unfold f_X7_reasonAgainst
  refine nr_aload_n 0 dX7_reasonAgainst_0 rfl ?_
  refine nr_aload_n 1 dX7_reasonAgainst_1 rfl ?_
  refine nr_rcv (ks := [15]) (pre := [.inr v1]) (fun a1 hm => ?_)
  refine nr_doI (st := []) (nk_callV (q := (RX7, TX7, 2)) (ci := 8) (c_X7_knows (G := G) hl0 h a1 v1) dX7_reasonAgainst_2 (List.mem_singleton.mp hm) rfl rfl my_X7_knows im_X7_knows se_RX7_X7_knows ml_RX7_120 rfl rfl (Nat.le_of_ble_eq_true rfl) (by decide) (by decide)) (fun h2 x3 => ?_)
  refine nr_if_ne (tgt := 10) dX7_reasonAgainst_5 (by decide) (fun _ => ?_) (fun _ => ?_)
  · refine nr_iconst (v := 1) dX7_reasonAgainst_8 (by decide) ?_
    exact nr_iret rfl rfl dX7_reasonAgainst_9
  · refine nr_aload_n 2 dX7_reasonAgainst_10 rfl ?_
    refine nr_getI [11] 2 dX7_reasonAgainst_11 fk_RX7_123 (fun x4 => ?_)
    refine nr_aload_n 1 dX7_reasonAgainst_14 rfl ?_
    refine nr_getI [16] 9 dX7_reasonAgainst_15 fk_RX7_128 (fun x5 => ?_)
    refine nr_icmp_eq (tgt := 23) dX7_reasonAgainst_18 (by decide) (fun _ => ?_) (fun _ => ?_)
    · refine nr_aload_n 0 dX7_reasonAgainst_23 rfl ?_
      refine nr_aload_n 1 dX7_reasonAgainst_24 rfl ?_
      refine nr_rcv (ks := [15]) (pre := [.inr v1]) (fun a6 hm => ?_)
      refine nr_doI (st := []) (nk_callV (q := (RX7, TX7, 2)) (ci := 8) (c_X7_revokes (G := G) hl0 h2 a6 v1) dX7_reasonAgainst_25 (List.mem_singleton.mp hm) rfl rfl my_X7_revokes im_X7_revokes se_RX7_X7_revokes ml_RX7_131 rfl rfl (Nat.le_of_ble_eq_true rfl) (by decide) (by decide)) (fun h7 x8 => ?_)
      refine nr_if_eq (tgt := 33) dX7_reasonAgainst_28 (by decide) (fun _ => ?_) (fun _ => ?_)
      · refine nr_aload_n 1 dX7_reasonAgainst_33 rfl ?_
        refine nr_aload_n 2 dX7_reasonAgainst_34 rfl ?_
        refine nr_getI [11] 1 dX7_reasonAgainst_35 fk_RX7_134 (fun x9 => ?_)
        refine nr_rcv (ks := [16]) (pre := [.inl x9]) (fun a10 hm => ?_)
        refine nr_doI (st := []) (nk_callV (q := (RX9, TX9, 15)) (ci := 9) (c_X9_isOver (G := G) hl0 h7 a10 x9) dX7_reasonAgainst_38 (List.mem_singleton.mp hm) rfl rfl my_X9_isOver im_X9_isOver se_RX9_X9_isOver ml_RX7_135 rfl rfl (Nat.le_of_ble_eq_true rfl) (by decide) (by decide)) (fun h11 x12 => ?_)
        refine nr_if_eq (tgt := 46) dX7_reasonAgainst_41 (by decide) (fun _ => ?_) (fun _ => ?_)
        · refine nr_aload_n 1 dX7_reasonAgainst_46 rfl ?_
          refine nr_getI [16] 10 dX7_reasonAgainst_47 fk_RX7_138 (fun x13 => ?_)
          refine nr_aload_n 2 dX7_reasonAgainst_50 rfl ?_
          refine nr_getI [11] 3 dX7_reasonAgainst_51 fk_RX7_141 (fun x14 => ?_)
          refine nr_doI (st := []) (nk_callSN (c_X11_hasBit (G := G) hl0 h11 x13 x14) dX7_reasonAgainst_54 my_X11_hasBit st_X11_hasBit nl_RX7_66 rfl rfl (Nat.le_of_ble_eq_true rfl) (by decide) (by decide)) (fun h15 x16 => ?_)
          refine nr_if_ne (tgt := 62) dX7_reasonAgainst_57 (by decide) (fun _ => ?_) (fun _ => ?_)
          · refine nr_iconst (v := 5) dX7_reasonAgainst_60 (by decide) ?_
            exact nr_iret rfl rfl dX7_reasonAgainst_61
          · refine nr_aload_n 1 dX7_reasonAgainst_62 rfl ?_
            refine nr_aload_n 2 dX7_reasonAgainst_63 rfl ?_
            refine nr_getI [11] 4 dX7_reasonAgainst_64 fk_RX7_144 (fun x17 => ?_)
            refine nr_rcv (ks := [16]) (pre := [.inl x17]) (fun a18 hm => ?_)
            refine nr_doI (st := []) (nk_callV (q := (RX9, TX9, 15)) (ci := 9) (c_X9_limitsBelow (G := G) hl0 h15 a18 x17) dX7_reasonAgainst_67 (List.mem_singleton.mp hm) rfl rfl my_X9_limitsBelow im_X9_limitsBelow se_RX9_X9_limitsBelow ml_RX7_147 rfl rfl (Nat.le_of_ble_eq_true rfl) (by decide) (by decide)) (fun h19 x20 => ?_)
            refine nr_if_eq (tgt := 76) dX7_reasonAgainst_70 (by decide) (fun _ => ?_) (fun _ => ?_)
            · refine nr_aload_n 0 dX7_reasonAgainst_76 rfl ?_
              refine nr_aload_n 1 dX7_reasonAgainst_77 rfl ?_
              refine nr_aload_n 2 dX7_reasonAgainst_78 rfl ?_
              refine nr_getI [11] 4 dX7_reasonAgainst_79 fk_RX7_144 (fun x21 => ?_)
              refine nr_rcv (ks := [15]) (pre := [.inl x21, .inr v1]) (fun a22 hm => ?_)
              refine nr_doI (st := []) (nk_callV (q := (RX7, TX7, 2)) (ci := 8) (c_X7_wouldPassTotal (G := G) hl0 h19 a22 v1 x21) dX7_reasonAgainst_82 (List.mem_singleton.mp hm) rfl rfl my_X7_wouldPassTotal im_X7_wouldPassTotal se_RX7_X7_wouldPassTotal ml_RX7_150 rfl rfl (Nat.le_of_ble_eq_true rfl) (by decide) (by decide)) (fun h23 x24 => ?_)
              refine nr_if_eq (tgt := 91) dX7_reasonAgainst_85 (by decide) (fun _ => ?_) (fun _ => ?_)
              · refine nr_aload_n 2 dX7_reasonAgainst_91 rfl ?_
                refine nr_getI [11] 5 dX7_reasonAgainst_92 fk_RX7_154 (fun x25 => ?_)
                refine nr_aload_n 0 dX7_reasonAgainst_95 rfl ?_
                refine nr_aload_n 2 dX7_reasonAgainst_96 rfl ?_
                refine nr_getI [11] 0 dX7_reasonAgainst_97 fk_RX7_157 (fun x26 => ?_)
                refine nr_aload_n 2 dX7_reasonAgainst_100 rfl ?_
                refine nr_getI [11] 1 dX7_reasonAgainst_101 fk_RX7_134 (fun x27 => ?_)
                refine nr_rcv (ks := [15]) (pre := [.inl x27, .inl x26]) (fun a28 hm => ?_)
                refine nr_doI (st := [.inl x25]) (nk_callV (q := (RX7, TX7, 2)) (ci := 8) (c_X7_officerAt (G := G) hl0 h23 a28 x26 x27) dX7_reasonAgainst_104 (List.mem_singleton.mp hm) rfl rfl my_X7_officerAt im_X7_officerAt se_RX7_X7_officerAt ml_RX7_158 rfl rfl (Nat.le_of_ble_eq_true rfl) (by decide) (by decide)) (fun h29 x30 => ?_)
                refine nr_icmp_ne (tgt := 114) dX7_reasonAgainst_107 (by decide) (fun _ => ?_) (fun _ => ?_)
                · refine nr_iconst (v := 0) dX7_reasonAgainst_110 (by decide) ?_
                  refine nr_goto (tgt := 116) dX7_reasonAgainst_111 (by decide) ?_
                  exact nk_locals [] rfl (s_X7_reasonAgainst_c116 hl0  h29 0)
                · refine nr_bipush (v := 8) dX7_reasonAgainst_114 (by decide) ?_
                  exact nk_locals [] rfl (s_X7_reasonAgainst_c116 hl0  h29 8)
              · refine nr_bipush (v := 7) dX7_reasonAgainst_88 (by decide) ?_
                exact nr_iret rfl rfl dX7_reasonAgainst_90
            · refine nr_bipush (v := 6) dX7_reasonAgainst_73 (by decide) ?_
              exact nr_iret rfl rfl dX7_reasonAgainst_75
        · refine nr_iconst (v := 4) dX7_reasonAgainst_44 (by decide) ?_
          exact nr_iret rfl rfl dX7_reasonAgainst_45
      · refine nr_iconst (v := 3) dX7_reasonAgainst_31 (by decide) ?_
        exact nr_iret rfl rfl dX7_reasonAgainst_32
    · refine nr_iconst (v := 2) dX7_reasonAgainst_21 (by decide) ?_
      exact nr_iret rfl rfl dX7_reasonAgainst_22
theorem c_X7_reasonAgainst {G : nk_G} {l : Launch} (hl0 : l.flags = flags0) (h : nk_H) (t0 : Nat) (v1 : Option Nat) (v2 : Option Nat) : nk_Con G l yX7_reasonAgainst cX7_reasonAgainst 3 (some FieldType.int) 5 110 nk_eI [.inr (some t0), .inr v1, .inr v2] h (f_X7_reasonAgainst h t0 v1 v2) :=
  nk_con (ini := false) (by decide) hl0 (Nat.le_of_ble_eq_true rfl) (by decide) (s_X7_reasonAgainst hl0 h t0 v1 v2)
set_option maxHeartbeats 4000000 in
theorem s_X9_init {G : nk_G} {l : Launch} (hl0 : l.flags = flags0) (h : nk_H) (t0 : Nat) (v1 : Int32) (v2 : Option Nat) (v3 : Int32) (v4 : Int32) (v5 : Option Nat) (v6 : Int32) : nk_Sim G l RX9 cX9_init 7 (none : Option FieldType) 2 43 true nk_eV 0 [(0, .inr (some t0)), (1, .inl v1), (2, .inr v2), (3, .inl v3), (4, .inl v4), (5, .inr v5), (6, .inl v6)] [] h (f_X9_init  h t0 v1 v2 v3 v4 v5 v6) := by
  unfold f_X9_init
  refine nr_aload_n 0 dX9_init_0 rfl ?_
  refine nr_doV (st := []) (nk_callI (c_X8_init (G := G) hl0 h t0) dX9_init_1 my_X8_init rfl im_X8_init ml_RX9_1 rfl rfl (Nat.le_of_ble_eq_true rfl) (by decide) (by decide)) (fun h1 x2 => ?_)
  refine nr_aload_n 0 dX9_init_4 rfl ?_
  refine nr_iload_n 1 dX9_init_5 rfl ?_
  refine nr_putI [16] 6 dX9_init_6 fk_RX9_7 fw_RX9_7_i (fun h3 => ?_)
  refine nr_aload_n 0 dX9_init_9 rfl ?_
  refine nr_aload_n 2 dX9_init_10 rfl ?_
  refine nr_putP [16] 7 dX9_init_11 fk_RX9_13 fw_RX9_13_i (fun h4 => ?_)
  refine nr_aload_n 0 dX9_init_14 rfl ?_
  refine nr_iload_n 3 dX9_init_15 rfl ?_
  refine nr_putI [16] 8 dX9_init_16 fk_RX9_17 fw_RX9_17_i (fun h5 => ?_)
  refine nr_aload_n 0 dX9_init_19 rfl ?_
  refine nr_iload 4 dX9_init_20 rfl ?_
  refine nr_putI [16] 9 dX9_init_22 fk_RX9_20 fw_RX9_20_i (fun h6 => ?_)
  refine nr_aload_n 0 dX9_init_25 rfl ?_
  refine nr_aload 5 dX9_init_26 rfl ?_
  refine nr_getI [13] 0 dX9_init_28 fk_RX9_23 (fun x7 => ?_)
  refine nr_putI [16] 10 dX9_init_31 fk_RX9_28 fw_RX9_28_i (fun h8 => ?_)
  refine nr_aload_n 0 dX9_init_34 rfl ?_
  refine nr_aload 5 dX9_init_35 rfl ?_
  refine nr_getI [13] 1 dX9_init_37 fk_RX9_29 (fun x9 => ?_)
  refine nr_putI [16] 11 dX9_init_40 fk_RX9_32 fw_RX9_32_i (fun h10 => ?_)
  refine nr_aload_n 0 dX9_init_43 rfl ?_
  refine nr_aload 5 dX9_init_44 rfl ?_
  refine nr_getI [13] 2 dX9_init_46 fk_RX9_33 (fun x11 => ?_)
  refine nr_putI [16] 12 dX9_init_49 fk_RX9_36 fw_RX9_36_i (fun h12 => ?_)
  refine nr_aload_n 0 dX9_init_52 rfl ?_
  refine nr_iload 6 dX9_init_53 rfl ?_
  refine nr_aload 5 dX9_init_55 rfl ?_
  refine nr_getI [13] 3 dX9_init_57 fk_RX9_37 (fun x13 => ?_)
  refine nr_iadd dX9_init_60 ?_
  refine nr_putI [16] 13 dX9_init_61 fk_RX9_40 fw_RX9_40_i (fun h14 => ?_)
  refine nr_aload_n 0 dX9_init_64 rfl ?_
  refine nr_aload 5 dX9_init_65 rfl ?_
  refine nr_getI [13] 4 dX9_init_67 fk_RX9_43 (fun x15 => ?_)
  refine nr_putI [16] 14 dX9_init_70 fk_RX9_46 fw_RX9_46_i (fun h16 => ?_)
  exact nr_vret rfl rfl dX9_init_73
theorem c_X9_init {G : nk_G} {l : Launch} (hl0 : l.flags = flags0) (h : nk_H) (t0 : Nat) (v1 : Int32) (v2 : Option Nat) (v3 : Int32) (v4 : Int32) (v5 : Option Nat) (v6 : Int32) : nk_Con G l yX9_init cX9_init 7 (none : Option FieldType) 2 43 nk_eV [.inr (some t0), .inl v1, .inr v2, .inl v3, .inl v4, .inr v5, .inl v6] h (f_X9_init h t0 v1 v2 v3 v4 v5 v6) :=
  nk_con (ini := true) (by decide) hl0 (Nat.le_of_ble_eq_true rfl) (by decide) (s_X9_init hl0 h t0 v1 v2 v3 v4 v5 v6)
set_option maxHeartbeats 4000000 in
theorem s_X9_covers_c65 {G : nk_G} {l : Launch} (hl0 : l.flags = flags0)   (h : nk_H)  (s0 : Int32) : nk_Sim G l RX9 cX9_covers 3 (some FieldType.boolean) 0 0 false nk_eI 65 [] [.inl s0] h (f_X9_covers_c65   h  s0) := by
  unfold f_X9_covers_c65
  exact nr_zret rfl rfl dX9_covers_65
set_option maxHeartbeats 4000000 in
theorem s_X9_covers_c64 {G : nk_G} {l : Launch} (hl0 : l.flags = flags0)   (h : nk_H)   : nk_Sim G l RX9 cX9_covers 3 (some FieldType.boolean) 0 0 false nk_eI 64 [] [] h (f_X9_covers_c64   h  ) := by
  unfold f_X9_covers_c64
  refine nr_iconst (v := 0) dX9_covers_64 (by decide) ?_
  exact s_X9_covers_c65 hl0  h 0
set_option maxHeartbeats 4000000 in
theorem s_X9_covers {G : nk_G} {l : Launch} (hl0 : l.flags = flags0) (h : nk_H) (t0 : Nat) (v1 : Option Nat) (v2 : Int32) : nk_Sim G l RX9 cX9_covers 3 (some FieldType.boolean) 0 0 false nk_eI 0 [(0, .inr (some t0)), (1, .inr v1), (2, .inl v2)] [] h (f_X9_covers  h t0 v1 v2) := by
  unfold f_X9_covers
  refine nr_aload_n 1 dX9_covers_0 rfl ?_
  refine nr_getI [13] 0 dX9_covers_1 fk_RX9_23 (fun x1 => ?_)
  refine nr_aload_n 0 dX9_covers_4 rfl ?_
  refine nr_getI [16] 10 dX9_covers_5 fk_RX9_28 (fun x2 => ?_)
  refine nr_iconst (v := (-1)) dX9_covers_8 (by decide) ?_
  refine nr_ixor dX9_covers_9 ?_
  refine nr_iand dX9_covers_10 ?_
  refine nr_if_ne (tgt := 64) dX9_covers_11 (by decide) (fun _ => ?_) (fun _ => ?_)
  · refine nr_aload_n 1 dX9_covers_14 rfl ?_
    refine nr_getI [13] 1 dX9_covers_15 fk_RX9_29 (fun x3 => ?_)
    refine nr_aload_n 0 dX9_covers_18 rfl ?_
    refine nr_getI [16] 11 dX9_covers_19 fk_RX9_32 (fun x4 => ?_)
    refine nr_icmp_gt (tgt := 64) dX9_covers_22 (by decide) (fun _ => ?_) (fun _ => ?_)
    · exact nk_locals [] rfl (s_X9_covers_c64 hl0  h)
    · refine nr_aload_n 1 dX9_covers_25 rfl ?_
      refine nr_getI [13] 2 dX9_covers_26 fk_RX9_33 (fun x5 => ?_)
      refine nr_aload_n 0 dX9_covers_29 rfl ?_
      refine nr_getI [16] 12 dX9_covers_30 fk_RX9_36 (fun x6 => ?_)
      refine nr_icmp_gt (tgt := 64) dX9_covers_33 (by decide) (fun _ => ?_) (fun _ => ?_)
      · exact nk_locals [] rfl (s_X9_covers_c64 hl0  h)
      · refine nr_iload_n 2 dX9_covers_36 rfl ?_
        refine nr_aload_n 1 dX9_covers_37 rfl ?_
        refine nr_getI [13] 3 dX9_covers_38 fk_RX9_37 (fun x7 => ?_)
        refine nr_iadd dX9_covers_41 ?_
        refine nr_aload_n 0 dX9_covers_42 rfl ?_
        refine nr_getI [16] 13 dX9_covers_43 fk_RX9_40 (fun x8 => ?_)
        refine nr_icmp_gt (tgt := 64) dX9_covers_46 (by decide) (fun _ => ?_) (fun _ => ?_)
        · exact nk_locals [] rfl (s_X9_covers_c64 hl0  h)
        · refine nr_aload_n 1 dX9_covers_49 rfl ?_
          refine nr_getI [13] 4 dX9_covers_50 fk_RX9_43 (fun x9 => ?_)
          refine nr_aload_n 0 dX9_covers_53 rfl ?_
          refine nr_getI [16] 14 dX9_covers_54 fk_RX9_46 (fun x10 => ?_)
          refine nr_icmp_ge (tgt := 64) dX9_covers_57 (by decide) (fun _ => ?_) (fun _ => ?_)
          · exact nk_locals [] rfl (s_X9_covers_c64 hl0  h)
          · refine nr_iconst (v := 1) dX9_covers_60 (by decide) ?_
            refine nr_goto (tgt := 65) dX9_covers_61 (by decide) ?_
            exact nk_locals [] rfl (s_X9_covers_c65 hl0  h 1)
  · exact nk_locals [] rfl (s_X9_covers_c64 hl0  h)
theorem c_X9_covers {G : nk_G} {l : Launch} (hl0 : l.flags = flags0) (h : nk_H) (t0 : Nat) (v1 : Option Nat) (v2 : Int32) : nk_Con G l yX9_covers cX9_covers 3 (some FieldType.boolean) 0 0 nk_eI [.inr (some t0), .inr v1, .inl v2] h (f_X9_covers h t0 v1 v2) :=
  nk_con (ini := false) (by decide) hl0 (Nat.le_of_ble_eq_true rfl) (by decide) (s_X9_covers hl0 h t0 v1 v2)
set_option maxHeartbeats 4000000 in
theorem s_X9_hasGiver_c2 {G : nk_G} {l : Launch} (hl0 : l.flags = flags0) {r2 : nk_H → Int32 → Option Nat → Option (nk_H × Int32)} (hr2 : ∀ (h : nk_H) (v1 : Int32) (v2 : Option Nat), nk_Sim G l RX9 cX9_hasGiver 3 (some FieldType.boolean) 0 0 false nk_eI 2 [(1, .inl v1), (2, .inr v2)] [] h (r2 h v1 v2)) (h : nk_H) (v1 : Int32) (v2 : Option Nat)  : nk_Sim G l RX9 cX9_hasGiver 3 (some FieldType.boolean) 0 0 false nk_eI 2 [(1, .inl v1), (2, .inr v2)] [] h (f_X9_hasGiver_c2  r2 h v1 v2 ) := by
  unfold f_X9_hasGiver_c2
  refine nr_aload_n 1 dX9_hasGiver_2 rfl ?_
  refine nr_ifnull (tgt := 24) dX9_hasGiver_3 (by decide) (fun _ => ?_) (fun _ => ?_)
  · refine nr_iconst (v := 0) dX9_hasGiver_24 (by decide) ?_
    exact nr_zret rfl rfl dX9_hasGiver_25
  · refine nr_aload_n 1 dX9_hasGiver_6 rfl ?_
    refine nr_getI [16] 8 dX9_hasGiver_7 fk_RX9_17 (fun x1 => ?_)
    refine nr_iload_n 0 dX9_hasGiver_10 rfl ?_
    refine nr_icmp_ne (tgt := 16) dX9_hasGiver_11 (by decide) (fun _ => ?_) (fun _ => ?_)
    · refine nr_iconst (v := 1) dX9_hasGiver_14 (by decide) ?_
      exact nr_zret rfl rfl dX9_hasGiver_15
    · refine nr_aload_n 1 dX9_hasGiver_16 rfl ?_
      refine nr_getP [16] 7 dX9_hasGiver_17 fk_RX9_13 (fun x2 => ?_)
      refine nr_astore_n (lv2 := [(2, .inr x2), (1, .inl v1)]) dX9_hasGiver_20 (by decide) rfl ?_
      refine nr_goto (tgt := 2) dX9_hasGiver_21 (by decide) ?_
      exact nk_locals [1, 0] rfl (hr2 h v1 x2)
theorem s_X9_hasGiver_b2 {G : nk_G} {l : Launch} (hl0 : l.flags = flags0)   : ∀ (n : Nat) (h : nk_H) (v1 : Int32) (v2 : Option Nat), nk_Sim G l RX9 cX9_hasGiver 3 (some FieldType.boolean) 0 0 false nk_eI 2 [(1, .inl v1), (2, .inr v2)] [] h (f_X9_hasGiver_b2   n h v1 v2)
  | 0, _, _, _ => nk_none
  | n + 1, h, v1, v2 => s_X9_hasGiver_c2 hl0 (s_X9_hasGiver_b2 hl0  n) h v1 v2
set_option maxHeartbeats 4000000 in
theorem s_X9_hasGiver {G : nk_G} {l : Launch} (hl0 : l.flags = flags0) (h : nk_H) (t0 : Nat) (v1 : Int32) : nk_Sim G l RX9 cX9_hasGiver 3 (some FieldType.boolean) 0 0 false nk_eI 0 [(0, .inr (some t0)), (1, .inl v1)] [] h (f_X9_hasGiver  h t0 v1) := by
  unfold f_X9_hasGiver
  refine nr_aload_n 0 dX9_hasGiver_0 rfl ?_
  refine nr_astore_n (lv2 := [(2, .inr (some t0)), (0, .inr (some t0)), (1, .inl v1)]) dX9_hasGiver_1 (by decide) rfl ?_
  exact nk_locals [2, 0] rfl (s_X9_hasGiver_b2 hl0  4096 h v1 (some t0))
theorem c_X9_hasGiver {G : nk_G} {l : Launch} (hl0 : l.flags = flags0) (h : nk_H) (t0 : Nat) (v1 : Int32) : nk_Con G l yX9_hasGiver cX9_hasGiver 3 (some FieldType.boolean) 0 0 nk_eI [.inr (some t0), .inl v1] h (f_X9_hasGiver h t0 v1) :=
  nk_con (ini := false) (by decide) hl0 (Nat.le_of_ble_eq_true rfl) (by decide) (s_X9_hasGiver hl0 h t0 v1)
set_option maxHeartbeats 4000000 in
theorem s_X10_init {G : nk_G} {l : Launch} (hl0 : l.flags = flags0) (h : nk_H) (t0 : Nat) (v1 : Option Nat) : nk_Sim G l RX10 cX10_init 2 (none : Option FieldType) 2 43 true nk_eV 0 [(0, .inr (some t0)), (1, .inr v1)] [] h (f_X10_init  h t0 v1) := by
  unfold f_X10_init
  refine nr_aload_n 0 dX10_init_0 rfl ?_
  refine nr_doV (st := []) (nk_callI (c_X8_init (G := G) hl0 h t0) dX10_init_1 my_X8_init rfl im_X8_init ml_RX10_1 rfl rfl (Nat.le_of_ble_eq_true rfl) (by decide) (by decide)) (fun h1 x2 => ?_)
  refine nr_aload_n 0 dX10_init_4 rfl ?_
  refine nr_aload_n 1 dX10_init_5 rfl ?_
  refine nr_putP [17] 6 dX10_init_6 fk_RX10_7 fw_RX10_7_i (fun h3 => ?_)
  exact nr_vret rfl rfl dX10_init_9
theorem c_X10_init {G : nk_G} {l : Launch} (hl0 : l.flags = flags0) (h : nk_H) (t0 : Nat) (v1 : Option Nat) : nk_Con G l yX10_init cX10_init 2 (none : Option FieldType) 2 43 nk_eV [.inr (some t0), .inr v1] h (f_X10_init h t0 v1) :=
  nk_con (ini := true) (by decide) hl0 (Nat.le_of_ble_eq_true rfl) (by decide) (s_X10_init hl0 h t0 v1)
set_option maxHeartbeats 4000000 in
theorem s_X11_init_c48 {G : nk_G} {l : Launch} (hl0 : l.flags = flags0) {r48 : nk_H → Nat → Int32 → Option (nk_H × Unit)} (hr48 : ∀ (h : nk_H) (t0 : Nat) (v1 : Int32), nk_Sim G l RX11 cX11_init 2 (none : Option FieldType) 5 93 true nk_eV 48 [(0, .inr (some t0)), (1, .inl v1)] [] h (r48 h t0 v1)) (h : nk_H) (t0 : Nat) (v1 : Int32)  : nk_Sim G l RX11 cX11_init 2 (none : Option FieldType) 5 93 true nk_eV 48 [(0, .inr (some t0)), (1, .inl v1)] [] h (f_X11_init_c48  r48 h t0 v1 ) := by
  unfold f_X11_init_c48
  refine nr_iload_n 1 dX11_init_48 rfl ?_
  refine nr_bipush (v := 6) dX11_init_49 (by decide) ?_
  refine nr_icmp_ge (tgt := 74) dX11_init_51 (by decide) (fun _ => ?_) (fun _ => ?_)
  · refine nr_aload_n 0 dX11_init_74 rfl ?_
    refine nr_newb (q := (RJx4a65c, TJx4a65c, 3)) 0 rfl dX11_init_75 cl_RX11_23 ins_RJx4a65c in_RJx4a65c rfl (fun h1 => ?_)
    refine nr_dup dX11_init_78 ?_
    refine nr_doV (st := [.inr (some (nk_N h)), .inr (some t0)]) (nk_callI (c_Jx4a65c_init_da8c8 (G := G) hl0 h1 (nk_N h)) dX11_init_79 my_Jx4a65c_init_da8c8 rfl im_Jx4a65c_init_da8c8 ml_RX11_25 rfl rfl (Nat.le_of_ble_eq_true rfl) (by decide) (by decide)) (fun h2 x3 => ?_)
    refine nr_putP [18] 4 dX11_init_82 fk_RX11_39 fw_RX11_39_i (fun h4 => ?_)
    refine nr_aload_n 0 dX11_init_85 rfl ?_
    refine nr_iconst (v := 0) dX11_init_86 (by decide) ?_
    refine nr_putI [18] 5 dX11_init_87 fk_RX11_42 fw_RX11_42_i (fun h5 => ?_)
    refine nr_aload_n 0 dX11_init_90 rfl ?_
    refine nr_newb (q := (RX5, TX5, 5)) 6 rfl dX11_init_91 cl_RX11_46 ins_RX5 in_RX5 rfl (fun h6 => ?_)
    refine nr_dup dX11_init_94 ?_
    refine nr_bipush (v := 63) dX11_init_95 (by decide) ?_
    refine nr_sipush (v := 10000) dX11_init_97 (by decide) ?_
    refine nr_ldc (v := 100000) dX11_init_100 kc_RX11_48 ?_
    refine nr_bipush (v := 100) dX11_init_102 (by decide) ?_
    refine nr_iconst (v := 0) dX11_init_104 (by decide) ?_
    refine nr_doV (st := [.inr (some (nk_N h5)), .inr (some t0)]) (nk_callI (c_X5_init (G := G) hl0 h6 (nk_N h5) 63 10000 100000 100 0) dX11_init_105 my_X5_init rfl im_X5_init ml_RX11_49 rfl rfl (Nat.le_of_ble_eq_true rfl) (by decide) (by decide)) (fun h7 x8 => ?_)
    refine nr_putP [18] 6 dX11_init_108 fk_RX11_52 fw_RX11_52_i (fun h9 => ?_)
    refine nr_aload_n 0 dX11_init_111 rfl ?_
    refine nr_iconst (v := 0) dX11_init_112 (by decide) ?_
    refine nr_putI [18] 7 dX11_init_113 fk_RX11_56 fw_RX11_56_i (fun h10 => ?_)
    refine nr_aload_n 0 dX11_init_116 rfl ?_
    refine nr_iconst (v := 0) dX11_init_117 (by decide) ?_
    refine nr_putI [18] 8 dX11_init_118 fk_RX11_59 fw_RX11_59_i (fun h11 => ?_)
    exact nr_vret rfl rfl dX11_init_121
  · refine nr_aload_n 0 dX11_init_54 rfl ?_
    refine nr_getP [18] 3 dX11_init_55 fk_RX11_32 (fun x12 => ?_)
    refine nr_iload_n 1 dX11_init_58 rfl ?_
    refine nr_newb (q := (RX1, TX1, 2)) 2 rfl dX11_init_59 cl_RX11_30 ins_RX1 in_RX1 rfl (fun h13 => ?_)
    refine nr_dup dX11_init_62 ?_
    refine nr_iload_n 1 dX11_init_63 rfl ?_
    refine nr_doV (st := [.inr (some (nk_N h)), .inl v1, .inr x12]) (nk_callI (c_X1_init (G := G) hl0 h13 (nk_N h) v1) dX11_init_64 my_X1_init rfl im_X1_init ml_RX11_36 rfl rfl (Nat.le_of_ble_eq_true rfl) (by decide) (by decide)) (fun h14 x15 => ?_)
    refine nr_aastore 3 (by decide) dX11_init_67 (fun h16 => ?_)
    refine nr_iinc (lv2 := [(1, .inl (v1 + 1)), (0, .inr (some t0))]) 1 (v1 + 1) dX11_init_68 rfl (by rfl) (by decide) rfl ?_
    refine nr_goto (tgt := 48) dX11_init_71 (by decide) ?_
    exact nk_locals [1, 0] rfl (hr48 h16 t0 (v1 + 1))
theorem s_X11_init_b48 {G : nk_G} {l : Launch} (hl0 : l.flags = flags0)   : ∀ (n : Nat) (h : nk_H) (t0 : Nat) (v1 : Int32), nk_Sim G l RX11 cX11_init 2 (none : Option FieldType) 5 93 true nk_eV 48 [(0, .inr (some t0)), (1, .inl v1)] [] h (f_X11_init_b48   n h t0 v1)
  | 0, _, _, _ => nk_none
  | n + 1, h, t0, v1 => s_X11_init_c48 hl0 (s_X11_init_b48 hl0  n) h t0 v1
set_option maxHeartbeats 4000000 in
theorem s_X11_init {G : nk_G} {l : Launch} (hl0 : l.flags = flags0) (h : nk_H) (t0 : Nat) : nk_Sim G l RX11 cX11_init 2 (none : Option FieldType) 5 93 true nk_eV 0 [(0, .inr (some t0))] [] h (f_X11_init  h t0) := by
  unfold f_X11_init
  refine nr_aload_n 0 dX11_init_0 rfl ?_
  refine nr_objInit dX11_init_1 ml_RX11_1 oi_i oi_c (by decide) (Nat.le_of_ble_eq_true rfl) ?_
  refine nr_aload_n 0 dX11_init_4 rfl ?_
  refine nr_newb (q := (RX6, TX6, 2)) 7 rfl dX11_init_5 cl_RX11_7 ins_RX6 in_RX6 rfl (fun h17 => ?_)
  refine nr_dup dX11_init_8 ?_
  refine nr_doV (st := [.inr (some (nk_N h)), .inr (some t0)]) (nk_callIN (c_X6_init (G := G) hl0 h17 (nk_N h)) dX11_init_9 my_X6_init rfl im_X6_init nl_RX11_9 rfl rfl (Nat.le_of_ble_eq_true rfl) (by decide) (by decide)) (fun h18 x19 => ?_)
  refine nr_putP [18] 0 dX11_init_12 fk_RX11_10 fw_RX11_10_i (fun h20 => ?_)
  refine nr_aload_n 0 dX11_init_15 rfl ?_
  refine nr_newb (q := (RX7, TX7, 2)) 8 rfl dX11_init_16 cl_RX11_16 ins_RX7 in_RX7 rfl (fun h21 => ?_)
  refine nr_dup dX11_init_19 ?_
  refine nr_doV (st := [.inr (some (nk_N h20)), .inr (some t0)]) (nk_callIN (c_X7_init (G := G) hl0 h21 (nk_N h20)) dX11_init_20 my_X7_init rfl im_X7_init nl_RX11_18 rfl rfl (Nat.le_of_ble_eq_true rfl) (by decide) (by decide)) (fun h22 x23 => ?_)
  refine nr_putP [18] 1 dX11_init_23 fk_RX11_19 fw_RX11_19_i (fun h24 => ?_)
  refine nr_aload_n 0 dX11_init_26 rfl ?_
  refine nr_newb (q := (RJx4a65c, TJx4a65c, 3)) 0 rfl dX11_init_27 cl_RX11_23 ins_RJx4a65c in_RJx4a65c rfl (fun h25 => ?_)
  refine nr_dup dX11_init_30 ?_
  refine nr_doV (st := [.inr (some (nk_N h24)), .inr (some t0)]) (nk_callI (c_Jx4a65c_init_da8c8 (G := G) hl0 h25 (nk_N h24)) dX11_init_31 my_Jx4a65c_init_da8c8 rfl im_Jx4a65c_init_da8c8 ml_RX11_25 rfl rfl (Nat.le_of_ble_eq_true rfl) (by decide) (by decide)) (fun h26 x27 => ?_)
  refine nr_putP [18] 2 dX11_init_34 fk_RX11_26 fw_RX11_26_i (fun h28 => ?_)
  refine nr_aload_n 0 dX11_init_37 rfl ?_
  refine nr_bipush (v := 6) dX11_init_38 (by decide) ?_
  refine nr_anewarray 3 (by decide) dX11_init_40 cl_RX11_30 (fun h29 => ?_)
  refine nr_putP [18] 3 dX11_init_43 fk_RX11_32 fw_RX11_32_i (fun h30 => ?_)
  refine nr_iconst (v := 0) dX11_init_46 (by decide) ?_
  refine nr_istore_n (lv2 := [(1, .inl 0), (0, .inr (some t0))]) dX11_init_47 (by decide) rfl ?_
  exact nk_locals [1, 0] rfl (s_X11_init_b48 hl0  4096 h30 t0 0)
theorem c_X11_init {G : nk_G} {l : Launch} (hl0 : l.flags = flags0) (h : nk_H) (t0 : Nat) : nk_Con G l yX11_init cX11_init 2 (none : Option FieldType) 5 93 nk_eV [.inr (some t0)] h (f_X11_init h t0) :=
  nk_con (ini := true) (by decide) hl0 (Nat.le_of_ble_eq_true rfl) (by decide) (s_X11_init hl0 h t0)
set_option maxHeartbeats 4000000 in
theorem s_X11_mustBeKiosk_c10 {G : nk_G} {l : Launch} (hl0 : l.flags = flags0)   (h : nk_H)   : nk_Sim G l RX11 cX11_mustBeKiosk 1 (none : Option FieldType) 6 82 false nk_eVt 10 [] [] h (f_X11_mustBeKiosk_c10   h  ) := by
  unfold f_X11_mustBeKiosk_c10
  exact nr_throwW (text := "no such kiosk") rfl (by decide +kernel) cl_RX11_361 in_java_lang_IndexOutOfBoundsException (by decide +kernel) ta_RX11_365 tg_RX11_361_365 dX11_mustBeKiosk_10 dX11_mustBeKiosk_13 dX11_mustBeKiosk_14 dX11_mustBeKiosk_17 dX11_mustBeKiosk_20 (by decide) (Nat.le_of_ble_eq_true rfl)
set_option maxHeartbeats 4000000 in
theorem s_X11_mustBeKiosk {G : nk_G} {l : Launch} (hl0 : l.flags = flags0) (h : nk_H) (v0 : Int32) : nk_Sim G l RX11 cX11_mustBeKiosk 1 (none : Option FieldType) 6 82 false nk_eVt 0 [(0, .inl v0)] [] h (f_X11_mustBeKiosk  h v0) := by
  unfold f_X11_mustBeKiosk
  refine nr_iload_n 0 dX11_mustBeKiosk_0 rfl ?_
  refine nr_if_lt (tgt := 10) dX11_mustBeKiosk_1 (by decide) (fun _ => ?_) (fun _ => ?_)
  · exact nk_locals [] rfl (s_X11_mustBeKiosk_c10 hl0  h)
  · refine nr_iload_n 0 dX11_mustBeKiosk_4 rfl ?_
    refine nr_bipush (v := 6) dX11_mustBeKiosk_5 (by decide) ?_
    refine nr_icmp_lt (tgt := 21) dX11_mustBeKiosk_7 (by decide) (fun _ => ?_) (fun _ => ?_)
    · exact nr_vret rfl rfl dX11_mustBeKiosk_21
    · exact nk_locals [] rfl (s_X11_mustBeKiosk_c10 hl0  h)
theorem c_X11_mustBeKiosk {G : nk_G} {l : Launch} (hl0 : l.flags = flags0) (h : nk_H) (v0 : Int32) : nk_Con G l yX11_mustBeKiosk cX11_mustBeKiosk 1 (none : Option FieldType) 6 82 nk_eVt [.inl v0] h (f_X11_mustBeKiosk h v0) :=
  nk_con (ini := false) (by decide) hl0 (Nat.le_of_ble_eq_true rfl) (by decide) (s_X11_mustBeKiosk hl0 h v0)
set_option maxHeartbeats 4000000 in
theorem s_X11_mustBeTwoKiosks {G : nk_G} {l : Launch} (hl0 : l.flags = flags0) (h : nk_H) (v0 : Int32) (v1 : Int32) : nk_Sim G l RX11 cX11_mustBeTwoKiosks 2 (none : Option FieldType) 7 102 false nk_eVt 0 [(0, .inl v0), (1, .inl v1)] [] h (f_X11_mustBeTwoKiosks  h v0 v1) := by
  unfold f_X11_mustBeTwoKiosks
  refine nr_iload_n 0 dX11_mustBeTwoKiosks_0 rfl ?_
  refine nr_dtV (st := []) (nk_callS (c_X11_mustBeKiosk (G := G) hl0 h v0) dX11_mustBeTwoKiosks_1 my_X11_mustBeKiosk st_X11_mustBeKiosk ml_RX11_99 rfl rfl (Nat.le_of_ble_eq_true rfl) (by decide) (by decide)) (fun _ => rfl) (fun h1 x2 => ?_)
  refine nr_iload_n 1 dX11_mustBeTwoKiosks_4 rfl ?_
  refine nr_dtV (st := []) (nk_callS (c_X11_mustBeKiosk (G := G) hl0 h1 v1) dX11_mustBeTwoKiosks_5 my_X11_mustBeKiosk st_X11_mustBeKiosk ml_RX11_99 rfl rfl (Nat.le_of_ble_eq_true rfl) (by decide) (by decide)) (fun _ => rfl) (fun h3 x4 => ?_)
  refine nr_iload_n 0 dX11_mustBeTwoKiosks_8 rfl ?_
  refine nr_iload_n 1 dX11_mustBeTwoKiosks_9 rfl ?_
  refine nr_icmp_ne (tgt := 24) dX11_mustBeTwoKiosks_10 (by decide) (fun _ => ?_) (fun _ => ?_)
  · exact nr_throwW (text := "both kiosks are the same") rfl (by decide +kernel) cl_RX11_134 in_java_lang_IllegalArgumentException (by decide +kernel) ta_RX11_138 tg_RX11_134_138 dX11_mustBeTwoKiosks_13 dX11_mustBeTwoKiosks_16 dX11_mustBeTwoKiosks_17 dX11_mustBeTwoKiosks_20 dX11_mustBeTwoKiosks_23 (by decide) (Nat.le_of_ble_eq_true rfl)
  · exact nr_vret rfl rfl dX11_mustBeTwoKiosks_24
theorem c_X11_mustBeTwoKiosks {G : nk_G} {l : Launch} (hl0 : l.flags = flags0) (h : nk_H) (v0 : Int32) (v1 : Int32) : nk_Con G l yX11_mustBeTwoKiosks cX11_mustBeTwoKiosks 2 (none : Option FieldType) 7 102 nk_eVt [.inl v0, .inl v1] h (f_X11_mustBeTwoKiosks h v0 v1) :=
  nk_con (ini := false) (by decide) hl0 (Nat.le_of_ble_eq_true rfl) (by decide) (s_X11_mustBeTwoKiosks hl0 h v0 v1)
set_option maxHeartbeats 4000000 in
theorem s_X11_join {G : nk_G} {l : Launch} (hl0 : l.flags = flags0) (h : nk_H) (t0 : Nat) (v1 : Int32) (v2 : Int32) : nk_Sim G l RX11 cX11_join 3 (some FieldType.int) 8 123 false nk_eIt 0 [(0, .inr (some t0)), (1, .inl v1), (2, .inl v2)] [] h (f_X11_join  h t0 v1 v2) := by
  unfold f_X11_join
  refine nr_iload_n 1 dX11_join_0 rfl ?_
  refine nr_iload_n 2 dX11_join_1 rfl ?_
  refine nr_dtV (st := []) (nk_callS (c_X11_mustBeTwoKiosks (G := G) hl0 h v1 v2) dX11_join_2 my_X11_mustBeTwoKiosks st_X11_mustBeTwoKiosks ml_RX11_62 rfl rfl (Nat.le_of_ble_eq_true rfl) (by decide) (by decide)) (fun _ => rfl) (fun h1 x2 => ?_)
  refine nr_aload_n 0 dX11_join_5 rfl ?_
  refine nr_getP [18] 0 dX11_join_6 fk_RX11_10 (fun x3 => ?_)
  refine nr_iload_n 1 dX11_join_9 rfl ?_
  refine nr_iload_n 2 dX11_join_10 rfl ?_
  refine nr_rcv (ks := [14]) (pre := [.inl v2, .inl v1]) (fun a4 hm => ?_)
  refine nr_doI (st := []) (nk_callV (q := (RX6, TX6, 2)) (ci := 7) (c_X6_areLinked (G := G) hl0 h1 a4 v1 v2) dX11_join_11 (List.mem_singleton.mp hm) rfl rfl my_X6_areLinked im_X6_areLinked se_RX6_X6_areLinked ml_RX11_66 rfl rfl (Nat.le_of_ble_eq_true rfl) (by decide) (by decide)) (fun h5 x6 => ?_)
  refine nr_if_eq (tgt := 27) dX11_join_14 (by decide) (fun _ => ?_) (fun _ => ?_)
  · refine nr_aload_n 0 dX11_join_27 rfl ?_
    refine nr_getP [18] 0 dX11_join_28 fk_RX11_10 (fun x7 => ?_)
    refine nr_iload_n 1 dX11_join_31 rfl ?_
    refine nr_iload_n 2 dX11_join_32 rfl ?_
    refine nr_rcv (ks := [14]) (pre := [.inl v2, .inl v1]) (fun a8 hm => ?_)
    refine nr_doV (st := []) (nk_callV (q := (RX6, TX6, 2)) (ci := 7) (c_X6_turn (G := G) hl0 h5 a8 v1 v2) dX11_join_33 (List.mem_singleton.mp hm) rfl rfl my_X6_turn im_X6_turn se_RX6_X6_turn ml_RX11_77 rfl rfl (Nat.le_of_ble_eq_true rfl) (by decide) (by decide)) (fun h9 x10 => ?_)
    refine nr_aload_n 0 dX11_join_36 rfl ?_
    refine nr_getP [18] 0 dX11_join_37 fk_RX11_10 (fun x11 => ?_)
    refine nr_iload_n 1 dX11_join_40 rfl ?_
    refine nr_rcv (ks := [14]) (pre := [.inl v1]) (fun a12 hm => ?_)
    refine nr_doI (st := []) (nk_callV (q := (RX6, TX6, 2)) (ci := 7) (c_X6_degree (G := G) hl0 h9 a12 v1) dX11_join_41 (List.mem_singleton.mp hm) rfl rfl my_X6_degree im_X6_degree se_RX6_X6_degree ml_RX11_80 rfl rfl (Nat.le_of_ble_eq_true rfl) (by decide) (by decide)) (fun h13 x14 => ?_)
    exact nr_iret rfl rfl dX11_join_44
  · exact nr_throw (text := "they are joined") rfl (by decide +kernel) cl_RX11_70 in_java_lang_IllegalStateException (by decide +kernel) ta_RX11_74 tg_RX11_70_74 dX11_join_17 dX11_join_20 dX11_join_21 dX11_join_23 dX11_join_26 (by decide) (Nat.le_of_ble_eq_true rfl)
theorem c_X11_join {G : nk_G} {l : Launch} (hl0 : l.flags = flags0) (h : nk_H) (t0 : Nat) (v1 : Int32) (v2 : Int32) : nk_Con G l yX11_join cX11_join 3 (some FieldType.int) 8 123 nk_eIt [.inr (some t0), .inl v1, .inl v2] h (f_X11_join h t0 v1 v2) :=
  nk_con (ini := false) (by decide) hl0 (Nat.le_of_ble_eq_true rfl) (by decide) (s_X11_join hl0 h t0 v1 v2)
set_option maxHeartbeats 4000000 in
theorem s_X11_cut {G : nk_G} {l : Launch} (hl0 : l.flags = flags0) (h : nk_H) (t0 : Nat) (v1 : Int32) (v2 : Int32) : nk_Sim G l RX11 cX11_cut 3 (some FieldType.int) 8 123 false nk_eIt 0 [(0, .inr (some t0)), (1, .inl v1), (2, .inl v2)] [] h (f_X11_cut  h t0 v1 v2) := by
  unfold f_X11_cut
  refine nr_iload_n 1 dX11_cut_0 rfl ?_
  refine nr_iload_n 2 dX11_cut_1 rfl ?_
  refine nr_dtV (st := []) (nk_callS (c_X11_mustBeTwoKiosks (G := G) hl0 h v1 v2) dX11_cut_2 my_X11_mustBeTwoKiosks st_X11_mustBeTwoKiosks ml_RX11_62 rfl rfl (Nat.le_of_ble_eq_true rfl) (by decide) (by decide)) (fun _ => rfl) (fun h1 x2 => ?_)
  refine nr_aload_n 0 dX11_cut_5 rfl ?_
  refine nr_getP [18] 0 dX11_cut_6 fk_RX11_10 (fun x3 => ?_)
  refine nr_iload_n 1 dX11_cut_9 rfl ?_
  refine nr_iload_n 2 dX11_cut_10 rfl ?_
  refine nr_rcv (ks := [14]) (pre := [.inl v2, .inl v1]) (fun a4 hm => ?_)
  refine nr_doI (st := []) (nk_callV (q := (RX6, TX6, 2)) (ci := 7) (c_X6_areLinked (G := G) hl0 h1 a4 v1 v2) dX11_cut_11 (List.mem_singleton.mp hm) rfl rfl my_X6_areLinked im_X6_areLinked se_RX6_X6_areLinked ml_RX11_66 rfl rfl (Nat.le_of_ble_eq_true rfl) (by decide) (by decide)) (fun h5 x6 => ?_)
  refine nr_if_ne (tgt := 27) dX11_cut_14 (by decide) (fun _ => ?_) (fun _ => ?_)
  · exact nr_throw (text := "they are not joined") rfl (by decide +kernel) cl_RX11_70 in_java_lang_IllegalStateException (by decide +kernel) ta_RX11_74 tg_RX11_70_74 dX11_cut_17 dX11_cut_20 dX11_cut_21 dX11_cut_23 dX11_cut_26 (by decide) (Nat.le_of_ble_eq_true rfl)
  · refine nr_aload_n 0 dX11_cut_27 rfl ?_
    refine nr_getP [18] 0 dX11_cut_28 fk_RX11_10 (fun x7 => ?_)
    refine nr_iload_n 1 dX11_cut_31 rfl ?_
    refine nr_iload_n 2 dX11_cut_32 rfl ?_
    refine nr_rcv (ks := [14]) (pre := [.inl v2, .inl v1]) (fun a8 hm => ?_)
    refine nr_doV (st := []) (nk_callV (q := (RX6, TX6, 2)) (ci := 7) (c_X6_turn (G := G) hl0 h5 a8 v1 v2) dX11_cut_33 (List.mem_singleton.mp hm) rfl rfl my_X6_turn im_X6_turn se_RX6_X6_turn ml_RX11_77 rfl rfl (Nat.le_of_ble_eq_true rfl) (by decide) (by decide)) (fun h9 x10 => ?_)
    refine nr_aload_n 0 dX11_cut_36 rfl ?_
    refine nr_getP [18] 0 dX11_cut_37 fk_RX11_10 (fun x11 => ?_)
    refine nr_iload_n 1 dX11_cut_40 rfl ?_
    refine nr_rcv (ks := [14]) (pre := [.inl v1]) (fun a12 hm => ?_)
    refine nr_doI (st := []) (nk_callV (q := (RX6, TX6, 2)) (ci := 7) (c_X6_degree (G := G) hl0 h9 a12 v1) dX11_cut_41 (List.mem_singleton.mp hm) rfl rfl my_X6_degree im_X6_degree se_RX6_X6_degree ml_RX11_80 rfl rfl (Nat.le_of_ble_eq_true rfl) (by decide) (by decide)) (fun h13 x14 => ?_)
    exact nr_iret rfl rfl dX11_cut_44
theorem c_X11_cut {G : nk_G} {l : Launch} (hl0 : l.flags = flags0) (h : nk_H) (t0 : Nat) (v1 : Int32) (v2 : Int32) : nk_Con G l yX11_cut cX11_cut 3 (some FieldType.int) 8 123 nk_eIt [.inr (some t0), .inl v1, .inl v2] h (f_X11_cut h t0 v1 v2) :=
  nk_con (ini := false) (by decide) hl0 (Nat.le_of_ble_eq_true rfl) (by decide) (s_X11_cut hl0 h t0 v1 v2)
