set_option maxHeartbeats 4000000 in
theorem s_X11_brokenCopy {G : nk_G} {l : Launch} (hl0 : l.flags = flags0) (h : nk_H) (t0 : Nat) (v1 : Int32) : nk_Sim G l RX11 cX11_brokenCopy 2 (some FieldType.int) 7 103 false nk_eIt 0 [(0, .inr (some t0)), (1, .inl v1)] [] h (f_X11_brokenCopy  h t0 v1) := by
  unfold f_X11_brokenCopy
  refine nr_aload_n 0 dX11_brokenCopy_0 rfl ?_
  refine nr_iload_n 1 dX11_brokenCopy_1 rfl ?_
  refine nr_rcv (ks := [18]) (pre := [.inl v1]) (fun a1 hm => ?_)
  refine nr_dtV (st := []) (nk_callV (q := (RX11, TX11, 9)) (ci := 11) (c_X11_mustBeCopy (G := G) hl0 h a1 v1) dX11_brokenCopy_2 (List.mem_singleton.mp hm) rfl rfl my_X11_mustBeCopy im_X11_mustBeCopy se_RX11_X11_mustBeCopy ml_RX11_327 rfl rfl (Nat.le_of_ble_eq_true rfl) (by decide) (by decide)) (fun _ => rfl) (fun h2 x3 => ?_)
  refine nr_aload_n 0 dX11_brokenCopy_5 rfl ?_
  refine nr_getP [18] 4 dX11_brokenCopy_6 fk_RX11_39 (fun x4 => ?_)
  refine nr_iload_n 1 dX11_brokenCopy_9 rfl ?_
  refine nr_rcv (ks := [7]) (pre := [.inl v1]) (fun a5 hm => ?_)
  refine nr_doR (st := []) (nk_callV (q := (RJx4a65c, TJx4a65c, 3)) (ci := 0) (c_Jx4a65c_get_915e3 (G := G) hl0 h2 a5 v1) dX11_brokenCopy_10 (List.mem_singleton.mp hm) rfl rfl my_Jx4a65c_get_915e3 im_Jx4a65c_get_915e3 se_RJx4a65c_Jx4a65c_get_915e3 ml_RX11_121 rfl rfl (Nat.le_of_ble_eq_true rfl) (by decide) (by decide)) (fun h6 x7 => ?_)
  refine nr_cast dX11_brokenCopy_13 cl_RX11_233 ca_Copy ?_
  refine nr_rcv (ks := [10]) (pre := []) (fun a9 hm => ?_)
  refine nr_doI (st := []) (nk_callV (q := (RX2, TX2, 7)) (ci := 3) (c_X2_firstBroken (G := G) hl0 h6 a9) dX11_brokenCopy_16 (List.mem_singleton.mp hm) rfl rfl my_X2_firstBroken im_X2_firstBroken se_RX2_X2_firstBroken ml_RX11_333 rfl rfl (Nat.le_of_ble_eq_true rfl) (by decide) (by decide)) (fun h10 x11 => ?_)
  exact nr_iret rfl rfl dX11_brokenCopy_19
theorem c_X11_brokenCopy {G : nk_G} {l : Launch} (hl0 : l.flags = flags0) (h : nk_H) (t0 : Nat) (v1 : Int32) : nk_Con G l yX11_brokenCopy cX11_brokenCopy 2 (some FieldType.int) 7 103 nk_eIt [.inr (some t0), .inl v1] h (f_X11_brokenCopy h t0 v1) :=
  nk_con (ini := false) (by decide) hl0 (Nat.le_of_ble_eq_true rfl) (by decide) (s_X11_brokenCopy hl0 h t0 v1)
set_option maxHeartbeats 4000000 in
theorem s_X11_isTrue {G : nk_G} {l : Launch} (hl0 : l.flags = flags0) (h : nk_H) (t0 : Nat) (v1 : Int32) : nk_Sim G l RX11 cX11_isTrue 3 (some FieldType.boolean) 7 107 false nk_eIt 0 [(0, .inr (some t0)), (1, .inl v1)] [] h (f_X11_isTrue  h t0 v1) := by
  unfold f_X11_isTrue
  refine nr_aload_n 0 dX11_isTrue_0 rfl ?_
  refine nr_iload_n 1 dX11_isTrue_1 rfl ?_
  refine nr_rcv (ks := [18]) (pre := [.inl v1]) (fun a1 hm => ?_)
  refine nr_dtV (st := []) (nk_callV (q := (RX11, TX11, 9)) (ci := 11) (c_X11_mustBeCopy (G := G) hl0 h a1 v1) dX11_isTrue_2 (List.mem_singleton.mp hm) rfl rfl my_X11_mustBeCopy im_X11_mustBeCopy se_RX11_X11_mustBeCopy ml_RX11_327 rfl rfl (Nat.le_of_ble_eq_true rfl) (by decide) (by decide)) (fun _ => rfl) (fun h2 x3 => ?_)
  refine nr_aload_n 0 dX11_isTrue_5 rfl ?_
  refine nr_getP [18] 4 dX11_isTrue_6 fk_RX11_39 (fun x4 => ?_)
  refine nr_iload_n 1 dX11_isTrue_9 rfl ?_
  refine nr_rcv (ks := [7]) (pre := [.inl v1]) (fun a5 hm => ?_)
  refine nr_doR (st := []) (nk_callV (q := (RJx4a65c, TJx4a65c, 3)) (ci := 0) (c_Jx4a65c_get_915e3 (G := G) hl0 h2 a5 v1) dX11_isTrue_10 (List.mem_singleton.mp hm) rfl rfl my_Jx4a65c_get_915e3 im_Jx4a65c_get_915e3 se_RJx4a65c_Jx4a65c_get_915e3 ml_RX11_121 rfl rfl (Nat.le_of_ble_eq_true rfl) (by decide) (by decide)) (fun h6 x7 => ?_)
  refine nr_cast dX11_isTrue_13 cl_RX11_233 ca_Copy ?_
  refine nr_astore_n (lv2 := [(2, .inr x7), (0, .inr (some t0)), (1, .inl v1)]) dX11_isTrue_16 (by decide) rfl ?_
  refine nr_aload_n 0 dX11_isTrue_17 rfl ?_
  refine nr_aload_n 1 dX11_isTrue_18 rfl ?_
  refine nr_getP [18] 3 dX11_isTrue_19 fk_RX11_32 (fun x9 => ?_)
  refine nr_aload_n 0 dX11_isTrue_22 rfl ?_
  refine nr_getI [10] 0 dX11_isTrue_23 fk_RX11_334 (fun x10 => ?_)
  refine nr_aaload 3 dX11_isTrue_26 (by decide) (fun x11 => ?_)
  refine nr_rcv (ks := [10]) (pre := [.inr x11]) (fun a12 hm => ?_)
  refine nr_doI (st := []) (nk_callV (q := (RX2, TX2, 7)) (ci := 3) (c_X2_tellsAs (G := G) hl0 h6 a12 x11) dX11_isTrue_27 (List.mem_singleton.mp hm) rfl rfl my_X2_tellsAs im_X2_tellsAs se_RX2_X2_tellsAs ml_RX11_335 rfl rfl (Nat.le_of_ble_eq_true rfl) (by decide) (by decide)) (fun h13 x14 => ?_)
  exact nr_zret rfl rfl dX11_isTrue_30
theorem c_X11_isTrue {G : nk_G} {l : Launch} (hl0 : l.flags = flags0) (h : nk_H) (t0 : Nat) (v1 : Int32) : nk_Con G l yX11_isTrue cX11_isTrue 3 (some FieldType.boolean) 7 107 nk_eIt [.inr (some t0), .inl v1] h (f_X11_isTrue h t0 v1) :=
  nk_con (ini := false) (by decide) hl0 (Nat.le_of_ble_eq_true rfl) (by decide) (s_X11_isTrue hl0 h t0 v1)
