set_option maxHeartbeats 4000000 in
theorem s_X11_size {G : nk_G} {l : Launch} (hl0 : l.flags = flags0) (h : nk_H) (t0 : Nat) (v1 : Int32) : nk_Sim G l RX11 cX11_size 2 (some FieldType.int) 7 103 false nk_eIt 0 [(0, .inr (some t0)), (1, .inl v1)] [] h (f_X11_size  h t0 v1) := by
  unfold f_X11_size
  refine nr_aload_n 0 dX11_size_0 rfl ?_
  refine nr_iload_n 1 dX11_size_1 rfl ?_
  refine nr_rcv (ks := [18]) (pre := [.inl v1]) (fun a1 hm => ?_)
  refine nr_dtV (st := []) (nk_callV (q := (RX11, TX11, 9)) (ci := 11) (c_X11_mustBeCopy (G := G) hl0 h a1 v1) dX11_size_2 (List.mem_singleton.mp hm) rfl rfl my_X11_mustBeCopy im_X11_mustBeCopy se_RX11_X11_mustBeCopy ml_RX11_327 rfl rfl (Nat.le_of_ble_eq_true rfl) (by decide) (by decide)) (fun _ => rfl) (fun h2 x3 => ?_)
  refine nr_aload_n 0 dX11_size_5 rfl ?_
  refine nr_getP [18] 4 dX11_size_6 fk_RX11_39 (fun x4 => ?_)
  refine nr_iload_n 1 dX11_size_9 rfl ?_
  refine nr_rcv (ks := [7]) (pre := [.inl v1]) (fun a5 hm => ?_)
  refine nr_doR (st := []) (nk_callV (q := (RJx4a65c, TJx4a65c, 3)) (ci := 0) (c_Jx4a65c_get_915e3 (G := G) hl0 h2 a5 v1) dX11_size_10 (List.mem_singleton.mp hm) rfl rfl my_Jx4a65c_get_915e3 im_Jx4a65c_get_915e3 se_RJx4a65c_Jx4a65c_get_915e3 ml_RX11_121 rfl rfl (Nat.le_of_ble_eq_true rfl) (by decide) (by decide)) (fun h6 x7 => ?_)
  refine nr_cast dX11_size_13 cl_RX11_233 ca_Copy ?_
  refine nr_getI [10] 2 dX11_size_16 fk_RX11_330 (fun x9 => ?_)
  exact nr_iret rfl rfl dX11_size_19
theorem c_X11_size {G : nk_G} {l : Launch} (hl0 : l.flags = flags0) (h : nk_H) (t0 : Nat) (v1 : Int32) : nk_Con G l yX11_size cX11_size 2 (some FieldType.int) 7 103 nk_eIt [.inr (some t0), .inl v1] h (f_X11_size h t0 v1) :=
  nk_con (ini := false) (by decide) hl0 (Nat.le_of_ble_eq_true rfl) (by decide) (s_X11_size hl0 h t0 v1)
set_option maxHeartbeats 4000000 in
theorem s_X11_copied_c45 {G : nk_G} {l : Launch} (hl0 : l.flags = flags0)   (h : nk_H)  (s0 : Int32) : nk_Sim G l RX11 cX11_copied 5 (some FieldType.int) 8 125 false nk_eIt 45 [] [.inl s0] h (f_X11_copied_c45   h  s0) := by
  unfold f_X11_copied_c45
  exact nr_iret rfl rfl dX11_copied_45
set_option maxHeartbeats 4000000 in
theorem s_X11_copied {G : nk_G} {l : Launch} (hl0 : l.flags = flags0) (h : nk_H) (t0 : Nat) (v1 : Int32) (v2 : Int32) (v3 : Int32) : nk_Sim G l RX11 cX11_copied 5 (some FieldType.int) 8 125 false nk_eIt 0 [(0, .inr (some t0)), (1, .inl v1), (2, .inl v2), (3, .inl v3)] [] h (f_X11_copied  h t0 v1 v2 v3) := by
  unfold f_X11_copied
  refine nr_aload_n 0 dX11_copied_0 rfl ?_
  refine nr_iload_n 1 dX11_copied_1 rfl ?_
  refine nr_iload_n 2 dX11_copied_2 rfl ?_
  refine nr_rcv (ks := [18]) (pre := [.inl v2, .inl v1]) (fun a1 hm => ?_)
  refine nr_dtV (st := []) (nk_callV (q := (RX11, TX11, 9)) (ci := 11) (c_X11_mustBePlace (G := G) hl0 h a1 v1 v2) dX11_copied_3 (List.mem_singleton.mp hm) rfl rfl my_X11_mustBePlace im_X11_mustBePlace se_RX11_X11_mustBePlace ml_RX11_246 rfl rfl (Nat.le_of_ble_eq_true rfl) (by decide) (by decide)) (fun _ => rfl) (fun h2 x3 => ?_)
  refine nr_iload_n 3 dX11_copied_6 rfl ?_
  refine nr_dtV (st := []) (nk_callS (c_X11_mustBePart (G := G) hl0 h2 v3) dX11_copied_7 my_X11_mustBePart st_X11_mustBePart ml_RX11_249 rfl rfl (Nat.le_of_ble_eq_true rfl) (by decide) (by decide)) (fun _ => rfl) (fun h4 x5 => ?_)
  refine nr_aload_n 0 dX11_copied_10 rfl ?_
  refine nr_getP [18] 4 dX11_copied_11 fk_RX11_39 (fun x6 => ?_)
  refine nr_iload_n 1 dX11_copied_14 rfl ?_
  refine nr_rcv (ks := [7]) (pre := [.inl v1]) (fun a7 hm => ?_)
  refine nr_doR (st := []) (nk_callV (q := (RJx4a65c, TJx4a65c, 3)) (ci := 0) (c_Jx4a65c_get_915e3 (G := G) hl0 h4 a7 v1) dX11_copied_15 (List.mem_singleton.mp hm) rfl rfl my_Jx4a65c_get_915e3 im_Jx4a65c_get_915e3 se_RJx4a65c_Jx4a65c_get_915e3 ml_RX11_121 rfl rfl (Nat.le_of_ble_eq_true rfl) (by decide) (by decide)) (fun h8 x9 => ?_)
  refine nr_cast dX11_copied_18 cl_RX11_233 ca_Copy ?_
  refine nr_astore (lv2 := [(4, .inr x9), (0, .inr (some t0)), (1, .inl v1), (2, .inl v2), (3, .inl v3)]) dX11_copied_21 (by decide) rfl ?_
  refine nr_aload 0 dX11_copied_23 rfl ?_
  refine nr_iload_n 4 dX11_copied_25 rfl ?_
  refine nr_rcv (ks := [10]) (pre := [.inl v3]) (fun a11 hm => ?_)
  refine nr_doI (st := []) (nk_callV (q := (RX2, TX2, 7)) (ci := 3) (c_X2_leavesOut (G := G) hl0 h8 a11 v3) dX11_copied_26 (List.mem_singleton.mp hm) rfl rfl my_X2_leavesOut im_X2_leavesOut se_RX2_X2_leavesOut ml_RX11_252 rfl rfl (Nat.le_of_ble_eq_true rfl) (by decide) (by decide)) (fun h12 x13 => ?_)
  refine nr_if_eq (tgt := 36) dX11_copied_29 (by decide) (fun _ => ?_) (fun _ => ?_)
  · refine nr_aload 0 dX11_copied_36 rfl ?_
    refine nr_getP [10] 4 dX11_copied_38 fk_RX11_257 (fun x14 => ?_)
    refine nr_iload_n 3 dX11_copied_41 rfl ?_
    refine nr_aaload 5 dX11_copied_42 (by decide) (fun x15 => ?_)
    refine nr_iload_n 4 dX11_copied_43 rfl ?_
    refine nr_iaload dX11_copied_44 (fun x16 => ?_)
    exact nk_locals [] rfl (s_X11_copied_c45 hl0  h12 x16)
  · refine nr_iconst (v := (-1)) dX11_copied_32 (by decide) ?_
    refine nr_goto (tgt := 45) dX11_copied_33 (by decide) ?_
    exact nk_locals [] rfl (s_X11_copied_c45 hl0  h12 (-1))
theorem c_X11_copied {G : nk_G} {l : Launch} (hl0 : l.flags = flags0) (h : nk_H) (t0 : Nat) (v1 : Int32) (v2 : Int32) (v3 : Int32) : nk_Con G l yX11_copied cX11_copied 5 (some FieldType.int) 8 125 nk_eIt [.inr (some t0), .inl v1, .inl v2, .inl v3] h (f_X11_copied h t0 v1 v2 v3) :=
  nk_con (ini := false) (by decide) hl0 (Nat.le_of_ble_eq_true rfl) (by decide) (s_X11_copied hl0 h t0 v1 v2 v3)
set_option maxHeartbeats 4000000 in
theorem s_X11_brokenCopy {G : nk_G} {l : Launch} (hl0 : l.flags = flags0) (h : nk_H) (t0 : Nat) (v1 : Int32) : nk_Sim G l RX11 cX11_brokenCopy 2 (some FieldType.int) 7 103 false nk_eIt 0 [(0, .inr (some t0)), (1, .inl v1)] [] h (f_X11_brokenCopy  h t0 v1) := by
  unfold f_X11_brokenCopy
  refine nr_aload_n 0 dX11_brokenCopy_0 rfl ?_
  refine nr_iload_n 1 dX11_brokenCopy_1 rfl ?_
  refine nr_rcv (ks := [18]) (pre := [.inl v1]) (fun a1 hm => ?_)
  refine nr_dtV (st := []) (nk_callV (q := (RX11, TX11, 9)) (ci := 11) (c_X11_mustBeCopy (G := G) hl0 h a1 v1) dX11_brokenCopy_2 (List.mem_singleton.mp hm) rfl rfl my_X11_mustBeCopy im_X11_mustBeCopy se_RX11_X11_mustBeCopy ml_RX11_327 rfl rfl (Nat.le_of_ble_eq_true rfl) (by decide) (by decide)) (fun _ => rfl) (fun h2 x3 => ?_)
  refine nr_aload_n 0 dX11_brokenCopy_5 rfl ?_
  refine nr_getP [18] 4 dX11_brokenCopy_6 fk_RX11_39 (fun x4 => ?_)
  refine nr_iload_n 1 dX11_brokenCopy_9 rfl ?_
  refine nr_rcv (ks := [7]) (pre := [.inl v1]) (fun a5 hm => ?_)
  refine nr_doR (st := []) (nk_callV (q := (RJx4a65c, TJx4a65c, 3)) (ci := 0) (c_Jx4a65c_get_915e3 (G := G) hl0 h2 a5 v1) dX11_brokenCopy_10 (List.mem_singleton.mp hm) rfl rfl my_Jx4a65c_get_915e3 im_Jx4a65c_get_915e3 se_RJx4a65c_Jx4a65c_get_915e3 ml_RX11_121 rfl rfl (Nat.le_of_ble_eq_true rfl) (by decide) (by decide)) (fun h6 x7 => ?_)
  refine nr_cast dX11_brokenCopy_13 cl_RX11_233 ca_Copy ?_
  refine nr_rcv (ks := [10]) (pre := []) (fun a9 hm => ?_)
  refine nr_doI (st := []) (nk_callV (q := (RX2, TX2, 7)) (ci := 3) (c_X2_firstBroken (G := G) hl0 h6 a9) dX11_brokenCopy_16 (List.mem_singleton.mp hm) rfl rfl my_X2_firstBroken im_X2_firstBroken se_RX2_X2_firstBroken ml_RX11_333 rfl rfl (Nat.le_of_ble_eq_true rfl) (by decide) (by decide)) (fun h10 x11 => ?_)
  exact nr_iret rfl rfl dX11_brokenCopy_19
theorem c_X11_brokenCopy {G : nk_G} {l : Launch} (hl0 : l.flags = flags0) (h : nk_H) (t0 : Nat) (v1 : Int32) : nk_Con G l yX11_brokenCopy cX11_brokenCopy 2 (some FieldType.int) 7 103 nk_eIt [.inr (some t0), .inl v1] h (f_X11_brokenCopy h t0 v1) :=
  nk_con (ini := false) (by decide) hl0 (Nat.le_of_ble_eq_true rfl) (by decide) (s_X11_brokenCopy hl0 h t0 v1)
set_option maxHeartbeats 4000000 in
theorem s_X11_isTrue {G : nk_G} {l : Launch} (hl0 : l.flags = flags0) (h : nk_H) (t0 : Nat) (v1 : Int32) : nk_Sim G l RX11 cX11_isTrue 3 (some FieldType.boolean) 7 107 false nk_eIt 0 [(0, .inr (some t0)), (1, .inl v1)] [] h (f_X11_isTrue  h t0 v1) := by
  unfold f_X11_isTrue
  refine nr_aload_n 0 dX11_isTrue_0 rfl ?_
  refine nr_iload_n 1 dX11_isTrue_1 rfl ?_
  refine nr_rcv (ks := [18]) (pre := [.inl v1]) (fun a1 hm => ?_)
  refine nr_dtV (st := []) (nk_callV (q := (RX11, TX11, 9)) (ci := 11) (c_X11_mustBeCopy (G := G) hl0 h a1 v1) dX11_isTrue_2 (List.mem_singleton.mp hm) rfl rfl my_X11_mustBeCopy im_X11_mustBeCopy se_RX11_X11_mustBeCopy ml_RX11_327 rfl rfl (Nat.le_of_ble_eq_true rfl) (by decide) (by decide)) (fun _ => rfl) (fun h2 x3 => ?_)
  refine nr_aload_n 0 dX11_isTrue_5 rfl ?_
  refine nr_getP [18] 4 dX11_isTrue_6 fk_RX11_39 (fun x4 => ?_)
  refine nr_iload_n 1 dX11_isTrue_9 rfl ?_
  refine nr_rcv (ks := [7]) (pre := [.inl v1]) (fun a5 hm => ?_)
  refine nr_doR (st := []) (nk_callV (q := (RJx4a65c, TJx4a65c, 3)) (ci := 0) (c_Jx4a65c_get_915e3 (G := G) hl0 h2 a5 v1) dX11_isTrue_10 (List.mem_singleton.mp hm) rfl rfl my_Jx4a65c_get_915e3 im_Jx4a65c_get_915e3 se_RJx4a65c_Jx4a65c_get_915e3 ml_RX11_121 rfl rfl (Nat.le_of_ble_eq_true rfl) (by decide) (by decide)) (fun h6 x7 => ?_)
  refine nr_cast dX11_isTrue_13 cl_RX11_233 ca_Copy ?_
  refine nr_astore_n (lv2 := [(2, .inr x7), (0, .inr (some t0)), (1, .inl v1)]) dX11_isTrue_16 (by decide) rfl ?_
  refine nr_aload_n 0 dX11_isTrue_17 rfl ?_
  refine nr_aload_n 1 dX11_isTrue_18 rfl ?_
  refine nr_getP [18] 3 dX11_isTrue_19 fk_RX11_32 (fun x9 => ?_)
  refine nr_aload_n 0 dX11_isTrue_22 rfl ?_
  refine nr_getI [10] 0 dX11_isTrue_23 fk_RX11_334 (fun x10 => ?_)
  refine nr_aaload 3 dX11_isTrue_26 (by decide) (fun x11 => ?_)
  refine nr_rcv (ks := [10]) (pre := [.inr x11]) (fun a12 hm => ?_)
  refine nr_doI (st := []) (nk_callV (q := (RX2, TX2, 7)) (ci := 3) (c_X2_tellsAs (G := G) hl0 h6 a12 x11) dX11_isTrue_27 (List.mem_singleton.mp hm) rfl rfl my_X2_tellsAs im_X2_tellsAs se_RX2_X2_tellsAs ml_RX11_335 rfl rfl (Nat.le_of_ble_eq_true rfl) (by decide) (by decide)) (fun h13 x14 => ?_)
  exact nr_zret rfl rfl dX11_isTrue_30
theorem c_X11_isTrue {G : nk_G} {l : Launch} (hl0 : l.flags = flags0) (h : nk_H) (t0 : Nat) (v1 : Int32) : nk_Con G l yX11_isTrue cX11_isTrue 3 (some FieldType.boolean) 7 107 nk_eIt [.inr (some t0), .inl v1] h (f_X11_isTrue h t0 v1) :=
  nk_con (ini := false) (by decide) hl0 (Nat.le_of_ble_eq_true rfl) (by decide) (s_X11_isTrue hl0 h t0 v1)
